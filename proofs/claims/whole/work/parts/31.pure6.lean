/-! PURE, 6: what may be undone -/
def rowOf (st we : Nat → Nat) (wr : Nat → Option Nat) (dy dr nm nd : Nat) (r : Nat → Int32) : Prop := (∀ i, i < nm → r i = nI (st i)) ∧ (∀ d, d < nd → r (5 + d) = nI (we d) ∧ r (11 + d) = en (wr d)) ∧ r 17 = nI dy ∧ r 18 = nI dr
def backOf (st we : Nat → Nat) (wr : Nat → Option Nat) (dy dr nm nd b : Nat) (now : Nat → Int32) : Prop := now b = nI dy ∧ now (b + 1) = nI dr ∧ (∀ i, i < nm → now (b + 2 + i) = nI (st i)) ∧ ∀ d, d < nd → now (b + 7 + d) = nI (we d) ∧ now (b + 13 + d) = en (wr d)
def HI (nm nd : Nat) (bu ki wo : Nat → Nat) (kn nx : Nat) (ke : Nat → Nat → Int32) (now : Nat → Int32) : Prop := kn ≤ 8 ∧ nx < 8 ∧ now 38 = nI kn ∧ ∀ i, i < kn → ∃ (st we : Nat → Nat) (wr : Nat → Option Nat) (dy dr : Nat), OKA nm nd dy dr bu st ki we wo wr ∧ rowOf st we wr dy dr nm nd (ke ((nx + 7 - i) % 8)) ∧ backOf st we wr dy dr nm nd (39 + 19 * (kn - 1 - i)) now
theorem HI_kept {nm nd kn nx : Nat} {bu ki wo : Nat → Nat} {ke : Nat → Nat → Int32} {now now' : Nat → Int32} (h : HI nm nd bu ki wo kn nx ke now) (hk : ∀ q, 38 ≤ q → now' q = now q) : HI nm nd bu ki wo kn nx ke now' := by
  obtain ⟨h1, h2, h3, h4⟩ := h
  refine ⟨h1, h2, by rw [hk _ (by omega), h3], fun i hi => ?_⟩
  obtain ⟨st, we, wr, dy, dr, a, b, c1, c2, c3, c4⟩ := h4 i hi
  exact ⟨st, we, wr, dy, dr, a, b, by rw [hk _ (by omega), c1], by rw [hk _ (by omega), c2], fun j hj => by rw [hk _ (by omega), c3 j hj], fun d hd => ⟨by rw [hk _ (by omega), (c4 d hd).1], by rw [hk _ (by omega), (c4 d hd).2]⟩⟩
theorem HI_0 {nm nd nx : Nat} {bu ki wo : Nat → Nat} {ke : Nat → Nat → Int32} {now : Nat → Int32} (h2 : nx < 8) (h3 : now 38 = nI 0) : HI nm nd bu ki wo 0 nx ke now := ⟨by omega, h2, h3, fun i hi => by omega⟩
def cpF (a : Nat → Int32) (i j n : Nat) : Nat → Int32 := fun q => if j ≤ q ∧ q < j + n then a (i + (q - j)) else a q
theorem cpF_in {a : Nat → Int32} {i j n q : Nat} (h : j ≤ q) (h2 : q < j + n) : cpF a i j n q = a (i + (q - j)) := if_pos ⟨h, h2⟩
theorem cpF_out {a : Nat → Int32} {i j n q : Nat} (h : q < j ∨ j + n ≤ q) : cpF a i j n q = a q := if_neg (by omega)
theorem m_bring_s {i j n : Nat} {a : Nat → Int32} (h1 : i + n ≤ 191) (h2 : j + n ≤ 191) (h : j ≤ i ∨ i + n ≤ j) : fX6_bring_s (nI i) (nI j) (nI n) a = some (cpF a i j n) := by
  unfold fX6_bring_s
  refine lp_to (fun k => (nI k, fun q => if j ≤ q ∧ q < j + k then a (i + (q - j)) else a q)) n ?_ (by omega) (fun k hk K => ?_) (fun K => ?_)
  · show (nI 0, _) = (0, a)
    congr 1
    funext q
    exact if_neg (by omega)
  · rw [bX6_bring_s_3, if_neg (by rw [n_le (by omega) (by omega)]; omega), gin_add (by omega) (by omega), gin_add (by omega) (by omega), nm_def, n_add1, cl_add (by omega), cl_add (by omega), if_neg (show ¬ (j ≤ i + k ∧ i + k < j + k) by omega)]
    congr 2
    funext q
    by_cases e : q = j + k
    · subst e
      rw [pk_us, if_pos (by omega)]
      congr 1
      omega
    · rw [pk_un e]
      by_cases c : j ≤ q ∧ q < j + k
      · rw [if_pos c, if_pos (by omega)]
      · rw [if_neg c, if_neg (by omega)]
  · rw [bX6_bring_s_3, if_pos (by rw [n_le (by omega) (by omega)]; omega)]
    rfl
theorem gcp_n {α : Type} {sp dp n n0 n1 : Nat} {A : Option α} (h1 : sp + n ≤ n0) (h2 : dp + n ≤ n1) (h3 : n0 < 1000) (h4 : n1 < 1000) : gcp (nI sp) (nI dp) (nI n) n0 n1 A = A := by
  unfold gcp
  exact if_pos ⟨nI_pos (by omega), nI_pos (by omega), nI_pos (by omega), by rw [n_cl (by omega), n_cl (by omega)]; exact h1, by rw [n_cl (by omega), n_cl (by omega)]; exact h2⟩
def rowK (st we wr : Nat → Int32) (dy dr : Int32) (old : Nat → Int32) : Nat → Int32 := upd (upd (va_cpy wr (va_cpy we (va_cpy st old 0 0 5) 0 5 6) 0 11 6) 17 dy) 18 dr
theorem rowK_of {nm nd dy dr : Nat} {st we : Nat → Nat} {wr : Nat → Option Nat} {st' we' wr' old : Nat → Int32} (h5 : nm ≤ 5) (h6 : nd ≤ 6) (hs : rS nm st st') (hw : ∀ d, d < nd → we' d = nI (we d)) (hr : rW nd wr wr') : rowOf st we wr dy dr nm nd (rowK st' we' wr' (nI dy) (nI dr) old) := by
  refine ⟨fun i hi => ?_, fun d hd => ⟨?_, ?_⟩, ?_, ?_⟩
  · unfold rowK
    rw [pk_un (by omega), pk_un (by omega), pk_cpy_out (by omega), pk_cpy_out (by omega), pk_cpy_in (by omega) (by omega), show 0 + (i - 0) = i by omega, hs i hi]
  · unfold rowK
    rw [pk_un (by omega), pk_un (by omega), pk_cpy_out (by omega), pk_cpy_in (by omega) (by omega), show 0 + (5 + d - 5) = d by omega, hw d hd]
  · unfold rowK
    rw [pk_un (by omega), pk_un (by omega), pk_cpy_in (by omega) (by omega), show 0 + (11 + d - 11) = d by omega, hr d hd]
  · unfold rowK
    rw [pk_un (by omega), pk_us]
  · unfold rowK
    rw [pk_us]
theorem n_rem8 {a : Nat} (h : a < 2147483648) : nI a - nI a / 8 * 8 = nI (a % 8) := pk_rem (d := 8) h (by decide) (by decide)
theorem s_keep {kn nx : Nat} {ke : Nat → Nat → Int32} {day drw : Int32} {st we wr : Nat → Int32} (h1 : kn ≤ 8) (h2 : nx < 8) : fX2_keep (nI kn) (nI nx) ke day drw st we wr = some (nI (min 8 (kn + 1)), nI ((nx + 1) % 8), va_up ke nx (rowK st we wr day drw (ke nx))) := by
  unfold fX2_keep
  have c0 : Int32.toNatClampNeg 0 = 0 := by decide
  have c5 : Int32.toNatClampNeg 5 = 5 := by decide
  have c6 : Int32.toNatClampNeg 6 = 6 := by decide
  have c11 : Int32.toNatClampNeg 11 = 11 := by decide
  have c17 : Int32.toNatClampNeg 17 = 17 := by decide
  have c18 : Int32.toNatClampNeg 18 = 18 := by decide
  have g1 : ∀ {α : Type} (A : Option α), gcp 0 0 5 5 19 A = A := fun A => gcp_n (sp := 0) (dp := 0) (n := 5) (by decide) (by decide) (by decide) (by decide)
  have g2 : ∀ {α : Type} (A : Option α), gcp 0 5 6 6 19 A = A := fun A => gcp_n (sp := 0) (dp := 5) (n := 6) (by decide) (by decide) (by decide) (by decide)
  have g3 : ∀ {α : Type} (A : Option α), gcp 0 11 6 6 19 A = A := fun A => gcp_n (sp := 0) (dp := 11) (n := 6) (by decide) (by decide) (by decide) (by decide)
  have g4 : ∀ {α : Type} (A : Option α), gin 17 19 A = A := fun A => gin_nI (k := 17) (by decide) (by decide)
  have g5 : ∀ {α : Type} (A : Option α), gin 18 19 A = A := fun A => gin_nI (k := 18) (by decide) (by decide)
  rw [gin_nI h2 (by decide), g1, g2, g3, g4, g5, n_add1, n_add1, n_rem8 (by omega), n_cl (by omega), c0, c5, c6, c11, c17, c18]
  simp only [bx_uu, va_up_self]
  congr 2
  by_cases c : kn + 1 < 8
  · rw [if_pos (show nI (kn + 1) < 8 from (n_lt (b := 8) (by omega) (by omega)).mpr c), show min 8 (kn + 1) = kn + 1 by omega]
  · rw [if_neg (show ¬ nI (kn + 1) < 8 from fun q => c ((n_lt (b := 8) (by omega) (by omega)).mp q)), show min 8 (kn + 1) = 8 by omega]
    rfl
theorem m_note {kn : Nat} {now : Nat → Int32} (h1 : kn ≤ 8) (h3 : now 38 = nI kn) : ∃ now', fX6_note now = some now' ∧ now' 38 = nI (min 8 (kn + 1)) ∧ (∀ q, q < 38 → now' q = now q) ∧ (∀ q, q < 19 → now' (39 + 19 * (min 8 (kn + 1) - 1) + q) = now q) ∧ ∀ i, i + 1 < min 8 (kn + 1) → ∀ q, q < 19 → now' (39 + 19 * (min 8 (kn + 1) - 2 - i) + q) = now (39 + 19 * (kn - 1 - i) + q) := by
  have c38 : Int32.toNatClampNeg 38 = 38 := by decide
  have g38 : ∀ {α : Type} (A : Option α), gin 38 191 A = A := fun A => gin_nI (k := 38) (by decide) (by decide)
  unfold fX6_note
  simp only [g38, c38, h3]
  by_cases c : kn = 8
  · subst c
    rw [if_pos (show nI 8 = 8 from rfl), show (58 : Int32) = nI 58 from rfl, show (39 : Int32) = nI 39 from rfl, show (133 : Int32) = nI 133 from rfl, m_bring_s (by decide) (by decide) (by decide), Option.bind_some]
    simp only [pk_us]
    rw [cpF_out (by omega), h3]
    have e7 : nI 39 + 19 * (nI 8 - 1) = nI 172 := by decide
    rw [e7, show (0 : Int32) = nI 0 from rfl, show (19 : Int32) = nI 19 from rfl, m_bring_s (by decide) (by decide) (by decide), Option.bind_some]
    refine ⟨_, rfl, ?_, ?_, ?_, ?_⟩
    · rw [pk_us, cpF_out (by omega), pk_us]
      decide
    · intro q hq
      rw [pk_un (by omega), cpF_out (by omega), pk_un (by omega), cpF_out (by omega)]
    · intro q hq
      rw [show 39 + 19 * (min 8 (8 + 1) - 1) + q = 172 + q by omega, pk_un (by omega), cpF_in (by omega) (by omega), show 0 + (172 + q - 172) = q by omega, pk_un (by omega), cpF_out (by omega)]
    · intro i hi q hq
      rw [pk_un (by omega), cpF_out (by omega), pk_un (by omega), cpF_in (by omega) (by omega), show 58 + (39 + 19 * (min 8 (8 + 1) - 2 - i) + q - 39) = 39 + 19 * (8 - 1 - i) + q by omega]
  · have e7 : 39 + 19 * nI kn = nI (39 + 19 * kn) := by
      rw [show (19 : Int32) = nI 19 from rfl, show (39 : Int32) = nI 39 from rfl, pk_mul, n_add]
    rw [if_neg (by rw [show (8 : Int32) = nI 8 from rfl, n_eq (by omega) (by omega)]; exact c), e7, show (0 : Int32) = nI 0 from rfl, show (19 : Int32) = nI 19 from rfl, m_bring_s (by omega) (by omega) (by omega), Option.bind_some]
    refine ⟨_, rfl, ?_, ?_, ?_, ?_⟩
    · rw [pk_us, cpF_out (by omega), h3, n_add1, show min 8 (kn + 1) = kn + 1 by omega]
    · intro q hq
      rw [pk_un (by omega), cpF_out (by omega)]
    · intro q hq
      rw [show 39 + 19 * (min 8 (kn + 1) - 1) + q = 39 + 19 * kn + q by omega, pk_un (by omega), cpF_in (by omega) (by omega), show 0 + (39 + 19 * kn + q - (39 + 19 * kn)) = q by omega]
    · intro i hi q hq
      rw [pk_un (by omega), cpF_out (by omega), show min 8 (kn + 1) - 2 - i = kn - 1 - i by omega]
theorem HI_note {nm nd dy dr kn nx : Nat} {bu st ki we wo : Nat → Nat} {wr : Nat → Option Nat} {st' we' wr' now now' : Nat → Int32} {ke : Nat → Nat → Int32} (hH : HI nm nd bu ki wo kn nx ke now) (hA : OKA nm nd dy dr bu st ki we wo wr) (hs : rS nm st st') (hw : ∀ d, d < nd → we' d = nI (we d)) (hr : rW nd wr wr') (hR : RM nm nd dy dr bu st ki we wo wr now)
    (n1 : now' 38 = nI (min 8 (kn + 1))) (n3 : ∀ q, q < 19 → now' (39 + 19 * (min 8 (kn + 1) - 1) + q) = now q) (n4 : ∀ i, i + 1 < min 8 (kn + 1) → ∀ q, q < 19 → now' (39 + 19 * (min 8 (kn + 1) - 2 - i) + q) = now (39 + 19 * (kn - 1 - i) + q)) : HI nm nd bu ki wo (min 8 (kn + 1)) ((nx + 1) % 8) (va_up ke nx (rowK st' we' wr' (nI dy) (nI dr) (ke nx))) now' := by
  obtain ⟨h1, h2, h3, h4⟩ := hH
  have h5 := hA.1.1
  have h6 := hA.1.2.1
  refine ⟨by omega, by omega, n1, fun i hi => ?_⟩
  by_cases z : i = 0
  · subst z
    refine ⟨st, we, wr, dy, dr, hA, ?_, ?_⟩
    · rw [show ((nx + 1) % 8 + 7 - 0) % 8 = nx by omega, va_up_self]
      exact rowK_of h5 h6 hs hw hr
    · obtain ⟨r1, r2, r3, r4, r5, r6⟩ := hR
      refine ⟨?_, ?_, fun j hj => ?_, fun d hd => ⟨?_, ?_⟩⟩
      · rw [show 39 + 19 * (min 8 (kn + 1) - 1 - 0) = 39 + 19 * (min 8 (kn + 1) - 1) + 0 by omega, n3 0 (by omega), r3]
      · rw [show 39 + 19 * (min 8 (kn + 1) - 1 - 0) + 1 = 39 + 19 * (min 8 (kn + 1) - 1) + 1 by omega, n3 1 (by omega), r4]
      · rw [show 39 + 19 * (min 8 (kn + 1) - 1 - 0) + 2 + j = 39 + 19 * (min 8 (kn + 1) - 1) + (2 + j) by omega, n3 (2 + j) (by omega), (r5 j hj).2]
      · rw [show 39 + 19 * (min 8 (kn + 1) - 1 - 0) + 7 + d = 39 + 19 * (min 8 (kn + 1) - 1) + (7 + d) by omega, n3 (7 + d) (by omega), (r6 d hd).2.1]
      · rw [show 39 + 19 * (min 8 (kn + 1) - 1 - 0) + 13 + d = 39 + 19 * (min 8 (kn + 1) - 1) + (13 + d) by omega, n3 (13 + d) (by omega), (r6 d hd).2.2.2]
  · obtain ⟨j, rfl⟩ : ∃ j, i = j + 1 := ⟨i - 1, by omega⟩
    obtain ⟨st2, we2, wr2, dy2, dr2, a, b, c1, c2, c3, c4⟩ := h4 j (by omega)
    refine ⟨st2, we2, wr2, dy2, dr2, a, ?_, ?_⟩
    · rw [show ((nx + 1) % 8 + 7 - (j + 1)) % 8 = (nx + 7 - j) % 8 by omega, va_up_ne _ _ (by omega)]
      exact b
    · have n4' := n4 j hi
      refine ⟨?_, ?_, fun q hq => ?_, fun d hd => ⟨?_, ?_⟩⟩
      · rw [show 39 + 19 * (min 8 (kn + 1) - 1 - (j + 1)) = 39 + 19 * (min 8 (kn + 1) - 2 - j) + 0 by omega, n4' 0 (by omega), Nat.add_zero, c1]
      · rw [show 39 + 19 * (min 8 (kn + 1) - 1 - (j + 1)) + 1 = 39 + 19 * (min 8 (kn + 1) - 2 - j) + 1 by omega, n4' 1 (by omega), c2]
      · rw [show 39 + 19 * (min 8 (kn + 1) - 1 - (j + 1)) + 2 + q = 39 + 19 * (min 8 (kn + 1) - 2 - j) + (2 + q) by omega, n4' (2 + q) (by omega), ← Nat.add_assoc, c3 q hq]
      · rw [show 39 + 19 * (min 8 (kn + 1) - 1 - (j + 1)) + 7 + d = 39 + 19 * (min 8 (kn + 1) - 2 - j) + (7 + d) by omega, n4' (7 + d) (by omega), ← Nat.add_assoc, (c4 d hd).1]
      · rw [show 39 + 19 * (min 8 (kn + 1) - 1 - (j + 1)) + 13 + d = 39 + 19 * (min 8 (kn + 1) - 2 - j) + (13 + d) by omega, n4' (13 + d) (by omega), ← Nat.add_assoc, (c4 d hd).2]
/-- all of an object that an image keeps, on both sides -/
def SYH (men md day drw : Int32) (bu' st' ki' we' wo' wr' : Nat → Int32) (kn' nx' : Int32) (ke : Nat → Nat → Int32) (now : Nat → Int32) : Prop := ∃ (nm nd dy dr : Nat) (bu st ki we wo : Nat → Nat) (wr : Nat → Option Nat) (kn nx : Nat), OKA nm nd dy dr bu st ki we wo wr ∧ RC nm nd dy dr bu st ki we wo wr men md day drw bu' st' ki' we' wo' wr' ∧ RM nm nd dy dr bu st ki we wo wr now ∧ kn' = nI kn ∧ nx' = nI nx ∧ HI nm nd bu ki wo kn nx ke now
theorem SYH.sy {men md day drw kn nx : Int32} {bu st ki we wo wr now : Nat → Int32} {ke : Nat → Nat → Int32} (h : SYH men md day drw bu st ki we wo wr kn nx ke now) : SY men md day drw bu st ki we wo wr now := by
  obtain ⟨nm, nd, dy, dr, bu0, st0, ki0, we0, wo0, wr0, kn0, nx0, h1, h2, h3, -⟩ := h
  exact ⟨nm, nd, dy, dr, bu0, st0, ki0, we0, wo0, wr0, h1, h2, h3⟩
theorem RM_kept {nm nd dy dr : Nat} {bu st ki we wo : Nat → Nat} {wr : Nat → Option Nat} {s s' : Nat → Int32} (h5 : nm ≤ 5) (h6 : nd ≤ 6) (hR : RM nm nd dy dr bu st ki we wo wr s) (h : ∀ q, q < 38 → s' q = s q) : RM nm nd dy dr bu st ki we wo wr s' := by
  obtain ⟨r1, r2, r3, r4, r5, r6⟩ := hR
  refine ⟨by rw [h _ (by omega), r1], by rw [h _ (by omega), r2], by rw [h _ (by omega), r3], by rw [h _ (by omega), r4], fun i hi => ⟨by rw [h _ (by omega), (r5 i hi).1], by rw [h _ (by omega), (r5 i hi).2]⟩, fun d hd => ?_⟩
  obtain ⟨a1, a2, a3, a4⟩ := r6 d hd
  exact ⟨by rw [h _ (by omega), a1], by rw [h _ (by omega), a2], by rw [h _ (by omega), a3], by rw [h _ (by omega), a4]⟩
