/-! PURE, 25: the tape's reader: letters, signs, numbers -/
def TPN (n : Nat) (ltr tap : Nat → Int32) : Prop := n ≤ 90 ∧ ∀ i, i < n → ltr i = tap i ∧ ∃ c, 32 ≤ c ∧ c ≤ 126 ∧ tap i = nI c
def DG (n : Nat) (tap : Nat → Int32) (p : Nat) : Prop := p < n ∧ ∃ c, 48 ≤ c ∧ c ≤ 57 ∧ tap p = nI c
theorem gch_nI {α : Type} {c : Nat} {A : Option α} (h : c < 65536) : gch (nI c) A = A := if_pos ⟨nI_pos (by omega), by rw [show (65536 : Int32) = nI 65536 from rfl, n_lt (by omega) (by omega)]; exact h⟩
section P25
variable {n : Nat} {ltr tap : Nat → Int32}
theorem s_here {p : Nat} (h : TPN n ltr tap) (hp : p < n) : ∃ c, 32 ≤ c ∧ c ≤ 126 ∧ tap p = nI c ∧ fX4_letterHere (nI n) (nI p) ltr = some (nI c) := by
  obtain ⟨h90, h2⟩ := h
  obtain ⟨e, c, c1, c2, c3⟩ := h2 p hp
  refine ⟨c, c1, c2, c3, ?_⟩
  unfold fX4_letterHere
  rw [if_neg (show ¬ nI n ≤ nI p from fun q => by have := (n_le (by omega) (by omega)).mp q; omega), gin_nI (by omega) (by decide), n_cl (by omega), e, c3, gch_nI (by omega)]
theorem s_hereEnd (h : TPN n ltr tap) : fX4_letterHere (nI n) (nI n) ltr = some (nI 0) := by
  have := h.1
  unfold fX4_letterHere
  rw [if_pos (by rw [n_le (by omega) (by omega)]; omega)]
  rfl
theorem both_peek {p : Nat} (h : TPN n ltr tap) (hp : p ≤ n) : ∃ q c, p ≤ q ∧ q ≤ n ∧ fX4_nextLetter (nI n) (nI p) ltr = some (nI c, nI q) ∧ fX6_peek (nI n) (nI p) tap = some (nI c, nI q) ∧ (q = n ∧ c = 0 ∨ q < n ∧ tap q = nI c ∧ 33 ≤ c ∧ c ≤ 126) ∧ (p < n → tap p ≠ 32 → q = p) := by
  have h90 := h.1
  obtain ⟨k, ⟨k1, k2⟩, k3⟩ := pk_least (fun k => p + k ≤ n ∧ (p + k = n ∨ tap (p + k) ≠ 32)) ⟨n - p, by omega, Or.inl (by omega)⟩
  have blank : ∀ j, j < k → p + j < n ∧ tap (p + j) = 32 := fun j hj => by
    by_cases a : p + j = n
    · omega
    · refine ⟨by omega, ?_⟩
      by_cases b : tap (p + j) = 32
      · exact b
      · exact absurd ⟨by omega, Or.inr b⟩ (k3 j hj)
  have first : p < n → tap p ≠ 32 → p + k = p := fun a b => by
    by_cases z : k = 0
    · omega
    · exact absurd (blank 0 (by omega)).2 b
  have stepS : ∀ j, j < k → ∀ K, bX4_nextLetter_0 (nI n) ltr K (nI (p + j)) = K (nI (p + (j + 1))) := fun j hj K => by
    obtain ⟨b1, b2⟩ := blank j hj
    rw [bX4_nextLetter_0, if_neg (show ¬ nI n ≤ nI (p + j) from fun q => by have := (n_le (by omega) (by omega)).mp q; omega), gin_nI (by omega) (by decide), n_cl (by omega), (h.2 _ b1).1, if_pos b2, n_add1, Nat.add_assoc]
  have stepM : ∀ j, j < k → ∀ K, bX6_peek_0 (nI n) tap K (nI (p + j)) = K (nI (p + (j + 1))) := fun j hj K => by
    obtain ⟨b1, b2⟩ := blank j hj
    rw [bX6_peek_0, if_neg (show ¬ nI n ≤ nI (p + j) from fun q => by have := (n_le (by omega) (by omega)).mp q; omega), gin_nI (by omega) (by decide), n_cl (by omega), if_pos b2, n_add1, Nat.add_assoc]
  by_cases e : p + k = n
  · refine ⟨p + k, 0, by omega, by omega, ?_, ?_, Or.inl ⟨e, rfl⟩, first⟩
    · exact lp_to (fun j => nI (p + j)) k rfl (by omega) stepS (fun K => by
        rw [e, bX4_nextLetter_0, if_pos (by rw [n_le (by omega) (by omega)]; omega), s_hereEnd h, Option.bind_some, gch_nI (by omega)])
    · exact lp_to (fun j => nI (p + j)) k rfl (by omega) stepM (fun K => by
        rw [e, bX6_peek_0, if_pos (by rw [n_le (by omega) (by omega)]; omega)]; rfl)
  · have lt : p + k < n := by omega
    have nb := k2.resolve_left e
    obtain ⟨c, c1, c2, c3, c4⟩ := s_here h lt
    have c33 : 33 ≤ c := by
      by_cases z : c = 32
      · subst z
        exact absurd c3 nb
      · omega
    refine ⟨p + k, c, by omega, by omega, ?_, ?_, Or.inr ⟨lt, c3, c33, c2⟩, first⟩
    · exact lp_to (fun j => nI (p + j)) k rfl (by omega) stepS (fun K => by
        rw [bX4_nextLetter_0, if_neg (show ¬ nI n ≤ nI (p + k) from fun q => by have := (n_le (by omega) (by omega)).mp q; omega), gin_nI (by omega) (by decide), n_cl (by omega), (h.2 _ lt).1, if_neg nb, c4, Option.bind_some, gch_nI (by omega)])
    · exact lp_to (fun j => nI (p + j)) k rfl (by omega) stepM (fun K => by
        rw [bX6_peek_0, if_neg (show ¬ nI n ≤ nI (p + k) from fun q => by have := (n_le (by omega) (by omega)).mp q; omega), gin_nI (by omega) (by decide), n_cl (by omega), if_neg nb, gin_nI (by omega) (by decide), c3])
theorem DG_ne {p : Nat} (h : DG n tap p) : tap p ≠ 32 := by
  obtain ⟨_, c, c1, c2, c3⟩ := h
  rw [c3]
  intro q
  have := (n_eq (b := 32) (by omega) (by omega)).mp q
  omega
theorem both_sign {p x : Nat} (h : TPN n ltr tap) (hp : p ≤ n) (hx : 33 ≤ x) (hx2 : x ≤ 126) : ∃ b q, p ≤ q ∧ q ≤ n ∧ fX4_takes (nI x) (nI n) (nI p) ltr = some (b, nI q) ∧ fX6_isSign (nI x) (nI n) (nI p) tap = some (b, nI q) ∧ (b = 0 ∨ b = 1) ∧ (DG n tap p → ¬ (48 ≤ x ∧ x ≤ 57) → b = 0 ∧ q = p) := by
  have h90 := h.1
  obtain ⟨q, c, q1, q2, q3, q4, q5, q6⟩ := both_peek h hp
  unfold fX4_takes fX6_isSign
  rw [q3, q4, Option.bind_some]
  dsimp only
  by_cases e : c = x
  · subst e
    have lt : q < n := by omega
    refine ⟨1, q + 1, by omega, by omega, ?_, ?_, Or.inr rfl, fun d nx => ?_⟩
    · rw [if_pos rfl, n_add1]
    · rw [if_pos rfl, n_add1]
    · have := q6 d.1 (DG_ne d)
      subst this
      obtain ⟨_, c', c1, c2, c3⟩ := d
      rcases q5 with z | z
      · omega
      · have := (n_eq (by omega) (by omega)).mp (c3.symm.trans z.2.1)
        omega
  · have ne : ¬ nI c = nI x := fun z => e ((n_eq (by omega) (by omega)).mp z)
    refine ⟨0, q, q1, q2, ?_, ?_, Or.inl rfl, fun d nx => ⟨rfl, q6 d.1 (DG_ne d)⟩⟩
    · rw [if_neg ne]
    · rw [if_neg ne]
theorem isDig {c : Nat} (h : c < 1000) : fX4_isDigit (nI c) = some (if 48 ≤ c ∧ c ≤ 57 then 1 else 0) := by
  unfold fX4_isDigit
  by_cases a : c < 48
  · rw [if_pos (show nI c < 48 from (n_lt (b := 48) (by omega) (by omega)).mpr a), if_neg (by omega)]
  · rw [if_neg (show ¬ nI c < 48 from fun q => a ((n_lt (b := 48) (by omega) (by omega)).mp q))]
    by_cases b : 57 < c
    · rw [if_pos (show 57 < nI c from (n_lt (a := 57) (by omega) (by omega)).mpr b), if_neg (by omega)]
    · rw [if_neg (show ¬ 57 < nI c from fun q => b ((n_lt (a := 57) (by omega) (by omega)).mp q)), if_pos (by omega)]
theorem in_nI {v lo hi : Nat} (h1 : v < 1000) (h2 : lo < 1000) (h3 : hi < 1000) : fX6_in (nI v) (nI lo) (nI hi) = some (if lo ≤ v ∧ v ≤ hi then 1 else 0) := by
  by_cases a : v < lo
  · rw [in_l ((n_lt (by omega) (by omega)).mpr a), if_neg (by omega)]
  · have a' : ¬ nI v < nI lo := fun q => a ((n_lt (by omega) (by omega)).mp q)
    by_cases b : hi < v
    · rw [in_h a' ((n_lt (by omega) (by omega)).mpr b), if_neg (by omega)]
    · rw [in_y a' (fun q => b ((n_lt (by omega) (by omega)).mp q)), if_pos (by omega)]
theorem sub48 {c : Nat} (h : 48 ≤ c) : nI c - 48 = nI (c - 48) := pk_sub (b := 48) h
theorem sub48n {c : Nat} (h : c < 48) : nI c - 48 < 0 := by
  rw [Int32.lt_iff_toInt_lt, show (48 : Int32) = nI 48 from rfl, sub_toInt (by omega) (by omega)]
  show (c : Int) - (48 : Nat) < 0
  omega
/-- a digit from least to most, behind blanks -/
theorem m_digit {p hi : Nat} (h : TPN n ltr tap) (hp : p ≤ n) (hh : hi ≤ 9) : ∃ q c, p ≤ q ∧ q ≤ n ∧ fX4_nextLetter (nI n) (nI p) ltr = some (nI c, nI q) ∧ c ≤ 126 ∧ (q = n ∧ c = 0 ∨ q < n ∧ tap q = nI c ∧ 33 ≤ c ∧ c ≤ 126) ∧ fX6_isDigit 0 (nI hi) (nI n) (nI p) tap = some (if 48 ≤ c ∧ c ≤ 48 + hi then (1, nI (q + 1), nI (c - 48)) else (0, nI q, nI c - 48)) ∧ (p < n → tap p ≠ 32 → q = p) := by
  have h90 := h.1
  obtain ⟨q, c, q1, q2, q3, q4, q5, q6⟩ := both_peek h hp
  refine ⟨q, c, q1, q2, q3, by omega, q5, ?_, q6⟩
  unfold fX6_isDigit
  rw [q4, Option.bind_some]
  by_cases a : 48 ≤ c
  · simp only [sub48 a]
    rw [show (0 : Int32) = nI 0 from rfl, in_nI (by omega) (by omega) (by omega), Option.bind_some]
    by_cases b : c ≤ 48 + hi
    · rw [if_pos (show 0 ≤ c - 48 ∧ c - 48 ≤ hi by omega), if_neg (show ¬ (1 : Int32) = nI 0 by decide), if_pos (show 48 ≤ c ∧ c ≤ 48 + hi by omega), n_add1]
    · rw [if_neg (show ¬ (0 ≤ c - 48 ∧ c - 48 ≤ hi) by omega), if_pos (show (0 : Int32) = nI 0 from rfl), if_neg (show ¬ (48 ≤ c ∧ c ≤ 48 + hi) by omega)]
  · rw [in_l (sub48n (by omega)), Option.bind_some, if_pos n00, if_neg (show ¬ (48 ≤ c ∧ c ≤ 48 + hi) by omega)]
end P25
