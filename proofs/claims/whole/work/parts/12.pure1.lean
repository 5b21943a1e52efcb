/-! PURE, 1: what a medal bears, loads -/
def en : Option Nat → Int32
  | none => -4
  | some m => nI m
theorem en_eq {o o' : Option Nat} (h : ∀ m, o = some m → m < 1000) (h' : ∀ m, o' = some m → m < 1000) : en o = en o' ↔ o = o' := by
  have key : ∀ m, m < 1000 → ¬ (-4 : Int32) = nI m := by
    intro m hm e
    exact nI_pos (n := m) (by omega) (by rw [← e]; decide)
  cases o with
  | none =>
    cases o' with
    | none => exact ⟨fun _ => rfl, fun _ => rfl⟩
    | some b => exact ⟨fun e => absurd e (key b (h' b rfl)), fun e => by cases e⟩
  | some a =>
    cases o' with
    | none => exact ⟨fun e => absurd e.symm (key a (h a rfl)), fun e => by cases e⟩
    | some b =>
      have ha := h a rfl
      have hb := h' b rfl
      show nI a = nI b ↔ _
      rw [n_eq (by omega) (by omega)]
      exact ⟨fun e => by rw [e], fun e => Option.some.inj e⟩
theorem en_none {o : Option Nat} (h : ∀ m, o = some m → m < 1000) : en o = -4 ↔ o = none := en_eq (o' := none) h (fun m e => by cases e)
theorem en_some {o : Option Nat} {m : Nat} (h : ∀ m, o = some m → m < 1000) (hm : m < 1000) : en o = nI m ↔ o = some m := en_eq (o' := some m) h (fun k e => by cases e; exact hm)
def bearN (k w oth odd : Nat) (own : Bool) : Nat :=
  if own then (if k = 1 then 2 * w else if k = 2 then w + 3 * odd else if k = 3 then 2 * w + oth else if k = 4 then (w + 3 * odd) / 2 else w) / 2 else (if k = 1 then 2 * w else if k = 2 then w + 3 * odd else if k = 3 then 2 * w + oth else if k = 4 then (w + 3 * odd) / 2 else w)
theorem bearN_le {k w oth odd : Nat} {own : Bool} (h2 : w ≤ 20) (ho : oth ≤ 6) (hd : odd ≤ 1) : bearN k w oth odd own ≤ 46 := by
  unfold bearN
  repeat' split
  all_goals omega
def cn (P : Nat → Bool) : Nat → Nat
  | 0 => 0
  | n + 1 => cn P n + if P n then 1 else 0
def ldS (ki we wo : Nat → Nat) (oth odd m : Nat) (P : Nat → Bool) : Nat → Nat
  | 0 => 0
  | n + 1 => ldS ki we wo oth odd m P n + if P n then bearN (ki n) (we n) oth odd (wo n == m) else 0
theorem cn_le (P : Nat → Bool) : ∀ n, cn P n ≤ n := by
  intro n
  induction n with
  | zero => exact Nat.le_refl _
  | succ n ih =>
    show cn P n + (if P n then 1 else 0) ≤ n + 1
    split <;> omega
theorem ldS_le {ki we wo : Nat → Nat} {oth odd m : Nat} {P : Nat → Bool} (ho : oth ≤ 6) (hd : odd ≤ 1) : ∀ n, (∀ d, d < n → we d ≤ 20) → ldS ki we wo oth odd m P n ≤ 46 * n := by
  intro n
  induction n with
  | zero => intro _; exact Nat.le_refl _
  | succ n ih =>
    intro h
    have h1 := ih (fun d hd => h d (by omega))
    have h2 := bearN_le (k := ki n) (own := (wo n == m)) (h n (by omega)) ho hd
    show ldS ki we wo oth odd m P n + (if P n then _ else 0) ≤ _
    split <;> omega
theorem n_rem2 {dy : Nat} (h : dy < 2147483648) : nI dy - nI dy / 2 * 2 = nI (dy % 2) := pk_rem (d := 2) h (by decide) (by decide)
theorem n_div2 {a : Nat} (h : a < 2147483648) : nI a / 2 = nI (a / 2) := pk_div (d := 2) h (by decide) (by decide)
theorem n_mul2 (a : Nat) : 2 * nI a = nI (2 * a) := pk_mul 2 a
theorem n_add (a b : Nat) : nI a + nI b = nI (a + b) := nI_add a b
theorem n_add3 (a : Nat) : nI a + 3 = nI (a + 3) := nI_add a 3
theorem n_add1 (a : Nat) : nI a + 1 = nI (a + 1) := nI_add a 1
theorem n_sub1 {a : Nat} (h : 0 < a) : nI a - 1 = nI (a - 1) := pk_sub (b := 1) h
theorem s_bears {d m oth dy : Nat} {ki we wo : Nat → Nat} {ki' we' wo' : Nat → Int32} (hd : d < 6) (hk : ki' d = nI (ki d)) (hw : we' d = nI (we d)) (ho : wo' d = nI (wo d)) (h1 : ki d ≤ 4) (h2 : we d ≤ 20) (h3 : wo d < 1000) (hm : m < 1000) (ho5 : oth ≤ 6) (hdy : dy < 100000) :
    fX1_bears (nI d) (nI m) (nI oth) (nI dy) ki' we' wo' = some (nI (bearN (ki d) (we d) oth (dy % 2) (wo d == m))) := by
  have c1 : (nI d).toNatClampNeg = d := n_cl (by omega)
  have r2 := n_rem2 (dy := dy) (by omega)
  unfold fX1_bears
  simp only [nm_def, c1, hk, hw, ho, r2, gin_nI (show d < 6 from hd) (by decide), n_mul2, n_add3, n_add]
  generalize ki d = k at h1 ⊢
  generalize we d = w at h2 ⊢
  generalize wo d = o at h3 ⊢
  have hodd : dy % 2 = 0 ∨ dy % 2 = 1 := by omega
  have hkk : k = 0 ∨ k = 1 ∨ k = 2 ∨ k = 3 ∨ k = 4 := by omega
  have e1 : (nI o = nI m) = (o = m) := propext (n_eq (by omega) (by omega))
  simp only [e1]
  rcases hodd with e | e <;> rw [e] <;> rcases hkk with rfl | rfl | rfl | rfl | rfl <;> by_cases c : o = m <;>
    simp (disch := omega) [c, bearN, lit32, n_eq, n_add, n_div2, pk_div]
theorem s_bit {S d : Nat} (hS : S < 64) (hd : d < 6) : ((nI S >>> (nI d &&& 31)) &&& 1) = 1 ↔ S.testBit d = true := by
  have : ∀ S : Fin 64, ∀ d : Fin 6, (((nI S.val >>> (nI d.val &&& 31)) &&& 1) = 1 ↔ S.val.testBit d.val = true) := by decide +kernel
  exact this ⟨S, hS⟩ ⟨d, hd⟩
theorem s_bitCount {S : Nat} (hS : S < 64) : fJ6_bitCount_0f7a4 (nI S) = some (nI (cn (fun j => S.testBit j) 6)) := by
  have : ∀ S : Fin 64, fJ6_bitCount_0f7a4 (nI S.val) = some (nI (cn (fun j => S.val.testBit j) 6)) := by decide +kernel
  exact this ⟨S, hS⟩
theorem cn_pos {P : Nat → Bool} {k : Nat} (hk : P k = true) : ∀ n, k < n → 0 < cn P n := by
  intro n
  induction n with
  | zero => intro h; omega
  | succ n ih =>
    intro h
    show 0 < cn P n + (if P n then 1 else 0)
    by_cases e : k = n
    · subst e; rw [if_pos hk]; omega
    · have := ih (by omega); omega
theorem cn_ext {P Q : Nat → Bool} : ∀ n, (∀ d, d < n → P d = Q d) → cn P n = cn Q n := by
  intro n
  induction n with
  | zero => intro _; rfl
  | succ n ih =>
    intro h
    show cn P n + _ = cn Q n + _
    rw [ih (fun d hd => h d (by omega)), h n (by omega)]
theorem cn_stop {P : Nat → Bool} {n : Nat} : ∀ k, n ≤ k → (∀ d, n ≤ d → d < k → P d = false) → cn P k = cn P n := by
  intro k
  induction k with
  | zero => intro h _; rw [show n = 0 by omega]
  | succ k ih =>
    intro h hz
    by_cases e : n = k + 1
    · rw [e]
    · show cn P k + (if P k then 1 else 0) = cn P n
      rw [hz k (by omega) (by omega)]
      simp only [Bool.false_eq_true, if_false, Nat.add_zero]
      exact ih (by omega) (fun d h1 h2 => hz d h1 (by omega))
theorem ldS_ext {ki we wo : Nat → Nat} {oth odd m : Nat} {P Q : Nat → Bool} : ∀ n, (∀ d, d < n → P d = Q d) → ldS ki we wo oth odd m P n = ldS ki we wo oth odd m Q n := by
  intro n
  induction n with
  | zero => intro _; rfl
  | succ n ih =>
    intro h
    show ldS ki we wo oth odd m P n + _ = ldS ki we wo oth odd m Q n + _
    rw [ih (fun d hd => h d (by omega)), h n (by omega)]
/-- what is held of the medals: kinds, weights, whose wounds, who wears them -/
def okD (nm nd : Nat) (ki we wo : Nat → Nat) (wr : Nat → Option Nat) : Prop := nm ≤ 5 ∧ nd ≤ 6 ∧ (0 < nd → 0 < nm) ∧ ∀ d, d < nd → ki d ≤ 4 ∧ 1 ≤ we d ∧ we d ≤ 20 ∧ wo d < nm ∧ ∀ m, wr d = some m → m < nm
def rD (nd : Nat) (ki we wo : Nat → Nat) (ki' we' wo' : Nat → Int32) : Prop := ∀ d, d < nd → ki' d = nI (ki d) ∧ we' d = nI (we d) ∧ wo' d = nI (wo d)
def rW (nd : Nat) (wr : Nat → Option Nat) (wr' : Nat → Int32) : Prop := ∀ d, d < nd → wr' d = en (wr d)
/-- the load of m if he wore the set P on a day of that oddness -/
def loadS (nd : Nat) (ki we wo : Nat → Nat) (P : Nat → Bool) (m odd : Nat) : Nat := ldS ki we wo (cn P nd - 1) odd m P nd
def loadN (nd : Nat) (ki we wo : Nat → Nat) (wr : Nat → Option Nat) (m odd : Nat) : Nat := loadS nd ki we wo (fun d => wr d == some m) m odd
theorem loadS_le {nm nd : Nat} {ki we wo : Nat → Nat} {wr : Nat → Option Nat} {P : Nat → Bool} {m odd : Nat} (h : okD nm nd ki we wo wr) (ho : odd ≤ 1) : loadS nd ki we wo P m odd ≤ 276 := by
  have h1 := cn_le P nd
  have h2 := h.2.1
  have := ldS_le (ki := ki) (wo := wo) (m := m) (P := P) (oth := cn P nd - 1) (odd := odd) (by omega) ho nd (fun d hd => (h.2.2.2 d hd).2.2.1)
  unfold loadS
  omega
theorem s_loadOfSet {nm nd S m dy : Nat} {ki we wo : Nat → Nat} {wr : Nat → Option Nat} {ki' we' wo' : Nat → Int32} (h : okD nm nd ki we wo wr) (hr : rD nd ki we wo ki' we' wo') (hS : S < 2 ^ nd) (hm : m < 1000) (hdy : dy < 100000) :
    fX1_loadOfSet (nI m) (nI S) (nI dy) (nI nd) ki' we' wo' = some (nI (loadS nd ki we wo (fun j => S.testBit j) m (dy % 2))) := by
  obtain ⟨h5, h6, -, hd⟩ := h
  have h64 : S < 64 := Nat.lt_of_lt_of_le hS (Nat.pow_le_pow_right (by decide) h6)
  have hc6 : cn (fun j => S.testBit j) 6 = cn (fun j => S.testBit j) nd := cn_stop 6 h6 (fun d h1 h2 => Nat.testBit_lt_two_pow (Nat.lt_of_lt_of_le hS (Nat.pow_le_pow_right (by decide) h1)))
  have hcl := cn_le (fun j => S.testBit j) nd
  unfold fX1_loadOfSet
  rw [s_bitCount h64, Option.bind_some, nm_def, hc6]
  refine lp_to (fun k => (nI (ldS ki we wo (cn (fun j => S.testBit j) nd - 1) (dy % 2) m (fun j => S.testBit j) k), nI k)) nd rfl (by omega) (fun k hk K => ?_) (fun K => ?_)
  · rw [bX1_loadOfSet_14, if_neg (by rw [n_le (by omega) (by omega)]; omega)]
    obtain ⟨a1, a2, a3⟩ := hr k hk
    obtain ⟨b1, b2, b3, b4, b5⟩ := hd k hk
    by_cases hb : S.testBit k = true
    · have hp := cn_pos (P := fun j => S.testBit j) hb nd hk
      rw [if_pos ((s_bit h64 (by omega)).mpr hb), n_sub1 hp, s_bears (by omega) a1 a2 a3 b1 b3 (by omega) hm (by omega) hdy, Option.bind_some]
      simp only [nm_def, n_add, n_add1]
      show _ = K (nI (_ + if S.testBit k then _ else 0), _)
      rw [if_pos hb]
    · rw [if_neg (fun q => hb ((s_bit h64 (by omega)).mp q))]
      simp only [nm_def, n_add1]
      show _ = K (nI (_ + if S.testBit k then _ else 0), _)
      rw [if_neg hb]
      rfl
  · rw [bX1_loadOfSet_14, if_pos (by rw [n_le (by omega) (by omega)]; omega)]
    rfl
theorem s_medalsWith_wr {nd : Nat} {wr : Nat → Option Nat} {wr' : Nat → Int32} {o : Option Nat} (h6 : nd ≤ 6) (hr : rW nd wr wr') (hb : ∀ d, d < nd → ∀ m, wr d = some m → m < 1000) (ho : ∀ m, o = some m → m < 1000) :
    fX1_medalsWith_wr (en o) (nI nd) wr' = some (nI (mk (fun d => wr d == o) nd)) := by
  unfold fX1_medalsWith_wr
  refine lp_to (fun k => (nI (mk (fun d => wr d == o) k), nI k)) nd rfl (by omega) (fun k hk K => ?_) (fun K => ?_)
  · have hl := mk_lt (fun d => wr d == o) k
    rw [bX1_medalsWith_wr_5, if_neg (by rw [n_le (by omega) (by omega)]; omega), gin_nI (by omega) (by decide), n_cl (by omega), hr k hk]
    by_cases e : wr k = o
    · rw [if_pos ((en_eq (hb k hk) ho).mpr e)]
      simp only [nm_def, n_add1]
      rw [or_nI hl (by omega)]
      show _ = K (nI (_ + if (wr k == o) then _ else 0), _)
      rw [if_pos (by rw [e]; exact beq_self_eq_true o)]
    · rw [if_neg (fun q => e ((en_eq (hb k hk) ho).mp q))]
      simp only [nm_def, n_add1]
      show _ = K (nI (_ + if (wr k == o) then _ else 0), _)
      rw [if_neg (by simpa using e)]
      rfl
  · rw [bX1_medalsWith_wr_5, if_pos (by rw [n_le (by omega) (by omega)]; omega)]
