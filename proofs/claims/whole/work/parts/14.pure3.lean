/-! PURE, 3: the reference's answers -/
theorem gin_add {α : Type} {c k n : Nat} {A : Option α} (h : c + k < n) (hn : n < 2147483648) : gin (nI c + nI k) n A = A := by rw [n_add, gin_nI h hn]
theorem cl_add {c k : Nat} (h : c + k < 2147483648) : (nI c + nI k).toNatClampNeg = c + k := by rw [n_add, n_cl h]
def RM (nm nd dy dr : Nat) (bu st ki we wo : Nat → Nat) (wr : Nat → Option Nat) (s : Nat → Int32) : Prop := s 19 = nI nm ∧ s 25 = nI nd ∧ s 0 = nI dy ∧ s 1 = nI dr ∧ (∀ i, i < nm → s (20 + i) = nI (bu i) ∧ s (2 + i) = nI (st i)) ∧ ∀ d, d < nd → s (26 + d) = nI (ki d) ∧ s (7 + d) = nI (we d) ∧ s (32 + d) = nI (wo d) ∧ s (13 + d) = en (wr d)
section M3
variable {nm nd dy dr : Nat} {bu st ki we wo : Nat → Nat} {wr : Nat → Option Nat} {s : Nat → Int32}
theorem m_wornBy {o : Option Nat} (h : okD nm nd ki we wo wr) (hR : RM nm nd dy dr bu st ki we wo wr s) (ho : ∀ m, o = some m → m < 1000) : fX6_wornBy (en o) s = some (nI (mk (fun d => wr d == o) nd)) := by
  obtain ⟨r1, r2, r3, r4, r5, r6⟩ := hR
  have h6 := h.2.1
  unfold fX6_wornBy
  refine lp_to (fun k => (nI (mk (fun d => wr d == o) k), nI k)) nd rfl (by omega) (fun k hk K => ?_) (fun K => ?_)
  · have hl := mk_lt (fun d => wr d == o) k
    rw [bX6_wornBy_4, show (25 : Int32) = nI 25 from rfl, show (13 : Int32) = nI 13 from rfl, gin_nI (by decide) (by decide), n_cl (by decide), r2, if_neg (by rw [n_le (by omega) (by omega)]; omega), gin_add (by omega) (by decide), cl_add (by omega), (r6 k hk).2.2.2]
    by_cases e : wr k = o
    · rw [if_pos ((en_eq (okW h k hk) ho).mpr e)]
      simp only [nm_def, n_add1]
      rw [or_nI hl (by omega)]
      show _ = K (nI (_ + if (wr k == o) then _ else 0), _)
      rw [if_pos (by rw [e]; exact beq_self_eq_true o)]
    · rw [if_neg (fun q => e ((en_eq (okW h k hk) ho).mp q))]
      simp only [nm_def, n_add1]
      show K (nI _ ||| 0, _) = K (nI (_ + if (wr k == o) then _ else 0), _)
      rw [if_neg (by simpa using e), Int32.or_zero]
      rfl
  · rw [bX6_wornBy_4, show (25 : Int32) = nI 25 from rfl, gin_nI (by decide) (by decide), n_cl (by decide), r2, if_pos (by rw [n_le (by omega) (by omega)]; omega)]
theorem m_bits {S : Nat} (hS : S < 64) : fX6_bits (nI S) = some (nI (cn (fun j => S.testBit j) 6)) := by
  unfold fX6_bits
  have hb : ∀ S : Fin 64, ∀ d : Fin 6, ((nI S.val >>> (nI d.val &&& 31)) &&& 1) = nI (if S.val.testBit d.val then 1 else 0) := by decide +kernel
  refine lp_to (fun k => (nI (cn (fun j => S.testBit j) k), nI k)) 6 rfl (by omega) (fun k hk K => ?_) (fun K => ?_)
  · rw [bX6_bits_4, if_neg (by rw [show (6 : Int32) = nI 6 from rfl, n_le (by omega) (by omega)]; omega), hb ⟨S, hS⟩ ⟨k, hk⟩]
    simp only [nm_def, n_add, n_add1]
    rfl
  · rw [bX6_bits_4, if_pos (by decide)]
theorem cn_mk {P : Nat → Bool} {n : Nat} (h : n ≤ 6) : cn (fun j => (mk P n).testBit j) 6 = cn P n := by
  rw [cn_stop 6 h (fun d h1 h2 => by rw [mk_bit]; simp [show ¬ d < n by omega])]
  exact cn_ext n (fun d hd => mk_test hd)
theorem m_bears {d m : Nat} (h : okD nm nd ki we wo wr) (hR : RM nm nd dy dr bu st ki we wo wr s) (hdy : dy < 100000) (hd : d < nd) (hm : wr d = some m) : fX6_bears (nI d) s = some (nI (bearN (ki d) (we d) (cn (fun d => wr d == some m) nd - 1) (dy % 2) (wo d == m))) := by
  have hR' := hR
  obtain ⟨r1, r2, r3, r4, r5, r6⟩ := hR
  obtain ⟨a1, a2, a3, a4⟩ := r6 d hd
  obtain ⟨b1, b2, b3, b4, b5⟩ := h.2.2.2 d hd
  have h5 := h.1
  have h6 := h.2.1
  have hmm := b5 m hm
  have hcl := cn_le (fun d => wr d == some m) nd
  have hcp : 0 < cn (fun d => wr d == some m) nd := cn_pos (P := fun d => wr d == some m) (k := d) (by show (wr d == some m) = true; rw [hm]; exact beq_self_eq_true _) nd hd
  have hwb := m_wornBy (o := some m) h hR' (fun k q => by cases q; omega)
  have hm64 : mk (fun d => wr d == some m) nd < 64 := Nat.lt_of_lt_of_le (mk_lt _ nd) (Nat.pow_le_pow_right (by decide) h6)
  have hwm : fX6_wornBy (nI m) s = some (nI (mk (fun d => wr d == some m) nd)) := hwb
  have hne : ¬ nI m = -4 := fun q => by have := (en_none (o := some m) (fun k q => by cases q; omega)).mp q; cases this
  unfold fX6_bears
  have c7 : (7 + nI d : Int32) = nI (7 + d) := n_add 7 d
  have c13 : (13 + nI d : Int32) = nI (13 + d) := n_add 13 d
  have c26 : (26 + nI d : Int32) = nI (26 + d) := n_add 26 d
  have c32 : (32 + nI d : Int32) = nI (32 + d) := n_add 32 d
  have g0 : ∀ {α : Type} (A : Option α), gin 0 191 A = A := fun A => gin_nI (k := 0) (by decide) (by decide)
  have z0 : Int32.toNatClampNeg 0 = 0 := by decide
  have hm' : s (13 + d) = nI m := by rw [a4, hm]; rfl
  have e1 : (nI (wo d) = nI m) = (wo d = m) := propext (n_eq (by omega) (by omega))
  have r2' := n_rem2 (dy := dy) (by omega)
  have g26 : ∀ {α : Type} (A : Option α), gin (nI (26 + d)) 191 A = A := fun A => gin_nI (by omega) (by decide)
  have g32 : ∀ {α : Type} (A : Option α), gin (nI (32 + d)) 191 A = A := fun A => gin_nI (by omega) (by decide)
  have k26 : (nI (26 + d)).toNatClampNeg = 26 + d := n_cl (by omega)
  have k32 : (nI (32 + d)).toNatClampNeg = 32 + d := n_cl (by omega)
  have hbt : fX6_bits (nI (mk (fun d => wr d == some m) nd)) = some (nI (cn (fun d => wr d == some m) nd)) := by rw [m_bits hm64, cn_mk h6]
  have hpl : nI (2 * we d) + nI (cn (fun d => wr d == some m) nd) - 1 = nI (2 * we d + (cn (fun d => wr d == some m) nd - 1)) := by rw [n_add, n_sub1 (by omega)]; congr 1; omega
  have hmul : 2 * nI (we d) = nI (2 * we d) := n_mul2 _
  have hz : nI (we d) + 0 = nI (we d) := Int32.add_zero _
  have h3 : nI (we d) + 3 = nI (we d + 3) := n_add3 _
  rw [c13, gin_nI (by omega) (by decide), nm_def, n_cl (by omega), hm', if_neg hne, c7, gin_nI (by omega) (by decide), nm_def, n_cl (by omega), a2, g0, z0, r3, r2', c26, c32]
  have hodd : dy % 2 = 0 ∨ dy % 2 = 1 := by omega
  have hkk : ki d = 0 ∨ ki d = 1 ∨ ki d = 2 ∨ ki d = 3 ∨ ki d = 4 := by omega
  have d1 : nI (we d) / 2 = nI (we d / 2) := n_div2 (by omega)
  have d2 : nI (2 * we d) / 2 = nI (2 * we d / 2) := n_div2 (by omega)
  have d3 : nI (we d + 3) / 2 = nI ((we d + 3) / 2) := n_div2 (by omega)
  have d4 : nI (we d / 2) / 2 = nI (we d / 2 / 2) := n_div2 (by omega)
  have d5 : nI ((we d + 3) / 2) / 2 = nI ((we d + 3) / 2 / 2) := n_div2 (by omega)
  have d6 : nI (2 * we d + (cn (fun d => wr d == some m) nd - 1)) / 2 = nI ((2 * we d + (cn (fun d => wr d == some m) nd - 1)) / 2) := n_div2 (by omega)
  have ifs : ∀ {A B : Option Int32}, (if nI (wo d) = nI m then A else B) = if wo d = m then A else B := fun {A B} => by simp only [e1]
  rcases hodd with e | e <;> rw [e]
  · rw [if_neg (show ¬ nI 0 = 1 by decide)]
    simp only [nm_def, g26, g32, k26, k32, a1, a3, hwm, hbt, Option.bind_some, hpl, hmul, hz, d1, d2, d3, d4, d5, d6, e1]
    rcases hkk with q | q | q | q | q <;> simp only [q] <;> by_cases c : wo d = m <;> simp [c, bearN, show ¬ nI 1 = 0 by decide, show ¬ nI 2 = 0 by decide, show ¬ nI 2 = 1 by decide, show ¬ nI 3 = 0 by decide, show ¬ nI 3 = 1 by decide, show ¬ nI 3 = 2 by decide, show ¬ nI 4 = 0 by decide, show ¬ nI 4 = 1 by decide, show ¬ nI 4 = 2 by decide, show ¬ nI 4 = 3 by decide, show nI 0 = 0 from rfl, show nI 1 = 1 from rfl, show nI 2 = 2 from rfl, show nI 3 = 3 from rfl]
  · rw [if_pos (show nI 1 = 1 from rfl)]
    simp only [nm_def, g26, g32, k26, k32, a1, a3, hwm, hbt, Option.bind_some, hpl, hmul, h3, d1, d2, d3, d4, d5, d6, e1]
    rcases hkk with q | q | q | q | q <;> simp only [q] <;> by_cases c : wo d = m <;> simp [c, bearN, show ¬ nI 1 = 0 by decide, show ¬ nI 2 = 0 by decide, show ¬ nI 2 = 1 by decide, show ¬ nI 3 = 0 by decide, show ¬ nI 3 = 1 by decide, show ¬ nI 3 = 2 by decide, show ¬ nI 4 = 0 by decide, show ¬ nI 4 = 1 by decide, show ¬ nI 4 = 2 by decide, show ¬ nI 4 = 3 by decide, show nI 0 = 0 from rfl, show nI 1 = 1 from rfl, show nI 2 = 2 from rfl, show nI 3 = 3 from rfl]
theorem m_load {m : Nat} (h : okD nm nd ki we wo wr) (hR : RM nm nd dy dr bu st ki we wo wr s) (hdy : dy < 100000) (hm : m < 1000) : fX6_load (nI m) s = some (nI (loadN nd ki we wo wr m (dy % 2))) := by
  have hR' := hR
  obtain ⟨r1, r2, r3, r4, r5, r6⟩ := hR
  have h6 := h.2.1
  unfold fX6_load loadN loadS
  refine lp_to (fun k => (nI (ldS ki we wo (cn (fun d => wr d == some m) nd - 1) (dy % 2) m (fun d => wr d == some m) k), nI k)) nd rfl (by omega) (fun k hk K => ?_) (fun K => ?_)
  · rw [bX6_load_4]
    rw [show (25 : Int32) = nI 25 from rfl, show (13 : Int32) = nI 13 from rfl, gin_nI (by decide) (by decide), n_cl (by decide), r2, if_neg (by rw [n_le (by omega) (by omega)]; omega), gin_add (by omega) (by decide), cl_add (by omega), (r6 k hk).2.2.2]
    by_cases e : wr k = some m
    · rw [if_pos ((en_some (okW h k hk) hm).mpr e), m_bears h hR' hdy hk e, Option.bind_some]
      simp only [nm_def, n_add, n_add1]
      show _ = K (nI (_ + if (wr k == some m) then _ else 0), _)
      rw [if_pos (by rw [e]; exact beq_self_eq_true _)]
    · rw [if_neg (fun q => e ((en_some (okW h k hk) hm).mp q))]
      simp only [nm_def, n_add1]
      show K (nI _ + 0, _) = K (nI (_ + if (wr k == some m) then _ else 0), _)
      rw [if_neg (by simpa using e), Int32.add_zero]
      rfl
  · rw [bX6_load_4]
    rw [show (25 : Int32) = nI 25 from rfl, gin_nI (by decide) (by decide), n_cl (by decide), r2, if_pos (by rw [n_le (by omega) (by omega)]; omega)]
theorem m_isBent {m : Nat} (h : okD nm nd ki we wo wr) (hR : RM nm nd dy dr bu st ki we wo wr s) (hdy : dy < 100000) (hm : m < nm) (hs : st m < 100000) : fX6_isBent (nI m) s = some (if loadN nd ki we wo wr m (dy % 2) ≤ st m then 0 else 1) := by
  have h5 := h.1
  have hl : loadN nd ki we wo wr m (dy % 2) ≤ 276 := loadS_le h (by omega)
  unfold fX6_isBent
  rw [m_load h hR hdy (by omega), Option.bind_some, show (2 : Int32) = nI 2 from rfl, gin_add (by omega) (by decide), cl_add (by omega), (hR.2.2.2.2.1 m hm).2]
  by_cases c : loadN nd ki we wo wr m (dy % 2) ≤ st m
  · rw [if_pos ((n_le (by omega) (by omega)).mpr c), if_pos c]
  · rw [if_neg (fun q => c ((n_le (by omega) (by omega)).mp q)), if_neg c]
theorem m_bentOnes (h : okD nm nd ki we wo wr) (hR : RM nm nd dy dr bu st ki we wo wr s) (hdy : dy < 100000) (hs : ∀ i, i < nm → st i < 100000) : fX6_bentOnes s = some (nI (bentM (loadN nd ki we wo wr) st nm dy)) := by
  have h5 := h.1
  unfold fX6_bentOnes
  refine lp_to (fun k => (nI (mk (fun m => decide (st m < loadN nd ki we wo wr m (dy % 2))) k), nI k)) nm rfl (by omega) (fun k hk K => ?_) (fun K => ?_)
  · have hl := mk_lt (fun m => decide (st m < loadN nd ki we wo wr m (dy % 2))) k
    rw [bX6_bentOnes_4, show (19 : Int32) = nI 19 from rfl, gin_nI (by decide) (by decide), n_cl (by decide), hR.1, if_neg (by rw [n_le (by omega) (by omega)]; omega), m_isBent h hR hdy hk (hs k hk), Option.bind_some]
    by_cases c : loadN nd ki we wo wr k (dy % 2) ≤ st k
    · rw [if_pos c, if_pos rfl]
      simp only [nm_def, n_add1]
      show K (nI _ ||| 0, _) = K (nI (_ + if decide (st k < loadN nd ki we wo wr k (dy % 2)) then _ else 0), _)
      rw [if_neg (by simpa using c), Int32.or_zero]
      rfl
    · rw [if_neg c, if_neg (by decide)]
      simp only [nm_def, n_add1]
      rw [or_nI hl (by omega)]
      show _ = K (nI (_ + if decide (st k < loadN nd ki we wo wr k (dy % 2)) then _ else 0), _)
      rw [if_pos (by simpa using c)]
  · rw [bX6_bentOnes_4, show (19 : Int32) = nI 19 from rfl, gin_nI (by decide) (by decide), n_cl (by decide), hR.1, if_pos (by rw [n_le (by omega) (by omega)]; omega)]
    rfl
/-- the strengths of the first k men are f's -/
def arrS (s : Nat → Int32) (f : Nat → Nat) (k : Nat) : Nat → Int32 := fun j => if 2 ≤ j ∧ j < 2 + k then nI (f (j - 2)) else s j
theorem arrS_in {f : Nat → Nat} {k i : Nat} (h : i < k) : arrS s f k (2 + i) = nI (f i) := by
  unfold arrS
  rw [if_pos (by omega), show 2 + i - 2 = i by omega]
theorem arrS_out {f : Nat → Nat} {k j : Nat} (h : ¬ (2 ≤ j ∧ j < 2 + k)) : arrS s f k j = s j := if_neg h
theorem arrS_succ {f : Nat → Nat} {k : Nat} {v : Int32} (hv : v = nI (f k)) : upd (arrS s f k) (2 + k) v = arrS s f (k + 1) := by
  funext j
  by_cases e : j = 2 + k
  · subst e
    rw [pk_us, hv, arrS_in (by omega)]
  · rw [pk_un e]
    unfold arrS
    by_cases c : 2 ≤ j ∧ j < 2 + k
    · rw [if_pos c, if_pos (by omega)]
    · rw [if_neg c, if_neg (by omega)]
theorem n_m1 {a : Nat} (h : 0 < a) : nI a + (-1) = nI (a - 1) := sb_m1 h
theorem m_dayIn (h : okD nm nd ki we wo wr) (hR : RM nm nd dy dr bu st ki we wo wr s) (hdy : dy < 50000) (hb : ∀ i, i < nm → st i ≤ bu i ∧ bu i < 100000) :
    ∃ s', fX6_dayIn s = some s' ∧ RM nm nd (dy + 1) dr bu (fun i => nxt (st i) (bu i) (loadN nd ki we wo wr i (dy % 2))) ki we wo wr s' ∧ ∀ j, j ≠ 0 → ¬ (2 ≤ j ∧ j < 2 + nm) → s' j = s j := by
  have h5 := h.1
  have h6 := h.2.1
  have hR' := hR
  obtain ⟨r1, r2, r3, r4, r5, r6⟩ := hR
  refine ⟨upd (arrS s (fun i => nxt (st i) (bu i) (loadN nd ki we wo wr i (dy % 2))) nm) 0 (nI (dy + 1)), ?_, ?_, ?_⟩
  · unfold fX6_dayIn
    rw [m_bentOnes h hR' (by omega) (fun i hi => by have := hb i hi; omega), Option.bind_some]
    have hB : bentM (loadN nd ki we wo wr) st nm dy < 64 := Nat.lt_of_lt_of_le (mk_lt _ nm) (show 2 ^ nm ≤ 2 ^ 6 from Nat.pow_le_pow_right (by decide) (by omega))
    refine lp_to (fun k => (nI k, arrS s (fun i => nxt (st i) (bu i) (loadN nd ki we wo wr i (dy % 2))) k)) nm ?_ (by omega) (fun k hk K => ?_) (fun K => ?_)
    · show (nI 0, arrS s _ 0) = (0, s)
      congr 1
      funext j
      exact arrS_out (by omega)
    · obtain ⟨b1, b2⟩ := hb k hk
      have hl : loadN nd ki we wo wr k (dy % 2) ≤ 276 := loadS_le h (by omega)
      have ht : (bentM (loadN nd ki we wo wr) st nm dy).testBit k = decide (st k < loadN nd ki we wo wr k (dy % 2)) := mk_test hk
      have e2 : (2 + nI k : Int32) = nI (2 + k) := n_add 2 k
      have e20 : (20 + nI k : Int32) = nI (20 + k) := n_add 20 k
      have a19 : arrS s (fun i => nxt (st i) (bu i) (loadN nd ki we wo wr i (dy % 2))) k 19 = nI nm := by rw [arrS_out (by omega), r1]
      have a2 : arrS s (fun i => nxt (st i) (bu i) (loadN nd ki we wo wr i (dy % 2))) k (2 + k) = nI (st k) := by rw [arrS_out (by omega), (r5 k hk).2]
      have a20 : arrS s (fun i => nxt (st i) (bu i) (loadN nd ki we wo wr i (dy % 2))) k (20 + k) = nI (bu k) := by rw [arrS_out (by omega), (r5 k hk).1]
      have k2 : (nI (2 + k)).toNatClampNeg = 2 + k := n_cl (by omega)
      have k20 : (nI (20 + k)).toNatClampNeg = 20 + k := n_cl (by omega)
      rw [bX6_dayIn_7, show (19 : Int32) = nI 19 from rfl, gin_nI (by decide) (by decide), n_cl (by decide), a19, if_neg (by rw [n_le (by omega) (by omega)]; omega)]
      rw [e2, e20, gin_nI (by omega) (by decide), k2, k20, a2, a20]
      by_cases c : st k < loadN nd ki we wo wr k (dy % 2)
      · rw [if_pos ((s_bit hB (by omega)).mpr (by rw [ht]; simpa using c)), nm_def]
        have hx : nxt (st k) (bu k) (loadN nd ki we wo wr k (dy % 2)) = st k - 1 := by unfold nxt; rw [if_neg (by omega)]
        by_cases z : 0 < st k
        · rw [n_m1 z, if_pos (nI_pos' (by omega)), gin_nI (by omega) (by decide), if_pos (by rw [n_le (by omega) (by omega)]; omega), gin_nI (by omega) (by decide), nm_def, n_add1, arrS_succ (by rw [hx])]
        · rw [if_neg (by rw [show st k = 0 by omega]; decide), gin_nI (by omega) (by decide), nm_def, n_add1, arrS_succ (by rw [hx, show st k - 1 = 0 by omega]; rfl)]
      · rw [if_neg (fun q => c (by have := (s_bit hB (by omega)).mp q; rw [ht] at this; simpa using this)), nm_def, n_add1, if_pos (nI_pos' (by omega)), gin_nI (by omega) (by decide)]
        by_cases z : st k + 1 ≤ bu k
        · rw [if_pos (by rw [n_le (by omega) (by omega)]; exact z), gin_nI (by omega) (by decide), nm_def, n_add1, arrS_succ (by unfold nxt; rw [if_pos (by omega)]; split <;> congr 1 <;> omega)]
        · rw [if_neg (by rw [n_le (by omega) (by omega)]; exact z), gin_nI (by omega) (by decide), gin_nI (by omega) (by decide), nm_def, n_add1, arrS_succ (by unfold nxt; rw [if_pos (by omega), if_neg (by omega)])]
    · rw [bX6_dayIn_7, show (19 : Int32) = nI 19 from rfl, gin_nI (by decide) (by decide), n_cl (by decide), arrS_out (by omega), r1, if_pos (by rw [n_le (by omega) (by omega)]; omega), show (0 : Int32) = nI 0 from rfl, gin_nI (by decide) (by decide), gin_nI (by decide) (by decide), n_cl (by decide), arrS_out (by omega), r3, n_add1]
  · refine ⟨by rw [pk_un (by decide), arrS_out (by omega), r1], by rw [pk_un (by decide), arrS_out (by omega), r2], by rw [pk_us], by rw [pk_un (by decide), arrS_out (by omega), r4], fun i hi => ⟨by rw [pk_un (by omega), arrS_out (by omega), (r5 i hi).1], by rw [pk_un (by omega), arrS_in hi]⟩, fun d hd => ?_⟩
    obtain ⟨a1, a2, a3, a4⟩ := r6 d hd
    exact ⟨by rw [pk_un (by omega), arrS_out (by omega), a1], by rw [pk_un (by omega), arrS_out (by omega), a2], by rw [pk_un (by omega), arrS_out (by omega), a3], by rw [pk_un (by omega), arrS_out (by omega), a4]⟩
  · intro j h0 h1
    rw [pk_un h0, arrS_out h1]
end M3
