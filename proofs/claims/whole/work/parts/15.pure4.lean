/-! PURE, 4: the two sides together: what they share -/
theorem ixc (p : Int32) {n : Nat} (hn : n < 2147483648) : (∃ j, j < n ∧ p = nI j) ∨ (p < 0 ∨ nI n ≤ p) := by
  rcases pk_ix p hn with h | h | h
  · exact Or.inr (Or.inl h)
  · exact Or.inr (Or.inr h)
  · exact Or.inl h
theorem ile_trans {a b c : Int32} (h : a < b) (h2 : b ≤ c) : a < c := Int32.lt_of_lt_of_le h h2
theorem s_hasMan_y {j n : Nat} (hj : j < n) (hn : n < 1000) : fX1_hasMan (nI j) (nI n) = some 1 := by
  unfold fX1_hasMan
  rw [if_neg (nI_pos (by omega)), if_neg (by rw [n_le (by omega) (by omega)]; omega)]
theorem s_hasMan_n {p : Int32} {n : Nat} (h : p < 0 ∨ nI n ≤ p) : fX1_hasMan p (nI n) = some 0 := by
  unfold fX1_hasMan
  by_cases c : p < 0
  · rw [if_pos c]
  · rw [if_neg c, if_pos (h.resolve_left c)]
theorem s_hasMedal_y {j n : Nat} (hj : j < n) (hn : n < 1000) : fX1_hasMedal (nI j) (nI n) = some 1 := by
  unfold fX1_hasMedal
  rw [if_neg (nI_pos (by omega)), if_neg (by rw [n_le (by omega) (by omega)]; omega)]
theorem s_hasMedal_n {p : Int32} {n : Nat} (h : p < 0 ∨ nI n ≤ p) : fX1_hasMedal p (nI n) = some 0 := by
  unfold fX1_hasMedal
  by_cases c : p < 0
  · rw [if_pos c]
  · rw [if_neg c, if_pos (h.resolve_left c)]
theorem gbz0 {α : Type} {A : Option α} : gbz 0 A = A := if_pos (Or.inl rfl)
theorem gbz1 {α : Type} {A : Option α} : gbz 1 A = A := if_pos (Or.inr rfl)
theorem m_in_lt {j n : Nat} (hj : j < n) (hn : n < 1000) : fX6_in (nI j) 0 (nI n - 1) = some 1 := by
  unfold fX6_in
  rw [if_neg (nI_pos (by omega)), n_sub1 (by omega), if_neg (by rw [n_lt (by omega) (by omega)]; omega)]
theorem m_in_ge {p : Int32} {n : Nat} (hn : n < 1000) (h : p < 0 ∨ nI n ≤ p) : fX6_in p 0 (nI n - 1) = some 0 := by
  unfold fX6_in
  by_cases c : p < 0
  · rw [if_pos c]
  · have h2 := h.resolve_left c
    rw [if_neg c]
    by_cases z : n = 0
    · subst z
      rw [if_pos (ile_trans (show (nI 0 - 1 : Int32) < nI 0 by decide) h2)]
    · rw [n_sub1 (by omega), if_pos (ile_trans ((n_lt (by omega) (by omega)).mpr (by omega)) h2)]
section M4
variable {nm nd dy dr : Nat} {bu st ki we wo : Nat → Nat} {wr : Nat → Option Nat} {s : Nat → Int32}
theorem m_isMan_y {j : Nat} (hR : RM nm nd dy dr bu st ki we wo wr s) (hj : j < nm) (hn : nm ≤ 5) : fX6_isMan (nI j) s = some 1 := by
  unfold fX6_isMan
  rw [show (19 : Int32) = nI 19 from rfl, gin_nI (by decide) (by decide), n_cl (by decide), hR.1, m_in_lt hj (by omega), Option.bind_some, gbz1]
theorem m_isMan_n {p : Int32} (hR : RM nm nd dy dr bu st ki we wo wr s) (hn : nm ≤ 5) (h : p < 0 ∨ nI nm ≤ p) : fX6_isMan p s = some 0 := by
  unfold fX6_isMan
  rw [show (19 : Int32) = nI 19 from rfl, gin_nI (by decide) (by decide), n_cl (by decide), hR.1, m_in_ge (by omega) h, Option.bind_some, gbz0]
theorem m_isMedal_y {j : Nat} (hR : RM nm nd dy dr bu st ki we wo wr s) (hj : j < nd) (hn : nd ≤ 6) : fX6_isMedal (nI j) s = some 1 := by
  unfold fX6_isMedal
  rw [show (25 : Int32) = nI 25 from rfl, gin_nI (by decide) (by decide), n_cl (by decide), hR.2.1, m_in_lt hj (by omega), Option.bind_some, gbz1]
theorem m_isMedal_n {p : Int32} (hR : RM nm nd dy dr bu st ki we wo wr s) (hn : nd ≤ 6) (h : p < 0 ∨ nI nd ≤ p) : fX6_isMedal p s = some 0 := by
  unfold fX6_isMedal
  rw [show (25 : Int32) = nI 25 from rfl, gin_nI (by decide) (by decide), n_cl (by decide), hR.2.1, m_in_ge (by omega) h, Option.bind_some, gbz0]
/-- copies: the first k of b's are a's, moved -/
theorem m_bring_d {i j n N2 : Nat} {a b : Nat → Int32} (h1 : i + n ≤ 191) (h2 : j + n ≤ N2) (hN : N2 < 1000) : fX6_bring_d (nI i) (nI j) (nI n) N2 a b = some (fun q => if j ≤ q ∧ q < j + n then a (i + (q - j)) else b q) := by
  unfold fX6_bring_d
  refine lp_to (fun k => (nI k, fun q => if j ≤ q ∧ q < j + k then a (i + (q - j)) else b q)) n ?_ (by omega) (fun k hk K => ?_) (fun K => ?_)
  · show (nI 0, _) = (0, b)
    congr 1
    funext q
    exact if_neg (by omega)
  · rw [bX6_bring_d_3, if_neg (by rw [n_le (by omega) (by omega)]; omega), gin_add (by omega) (by omega), gin_add (by omega) (by omega), nm_def, n_add1, cl_add (by omega), cl_add (by omega)]
    congr 2
    funext q
    by_cases e : q = j + k
    · subst e
      rw [pk_us, if_pos (by omega)]
      congr 1
      omega
    · rw [pk_un e]
      by_cases c : j ≤ q ∧ q < j + k
      · rw [if_pos c, if_pos (by omega)]
      · rw [if_neg c, if_neg (by omega)]
  · rw [bX6_bring_d_3, if_pos (by rw [n_le (by omega) (by omega)]; omega)]
theorem m_begin {t : Nat → Int32} : fX6_begin s t = some (fun q => if q < 38 then s q else t q) := by
  unfold fX6_begin
  rw [show (0 : Int32) = nI 0 from rfl, show (38 : Int32) = nI 38 from rfl, m_bring_d (by decide) (by decide) (by decide), Option.bind_some]
  congr 1
  funext q
  by_cases c : q < 38
  · rw [if_pos (by omega), if_pos c]
    congr 1
    omega
  · rw [if_neg (by omega), if_neg c]
theorem RM_begin {t : Nat → Int32} (h6 : nd ≤ 6) (h5 : nm ≤ 5) (hR : RM nm nd dy dr bu st ki we wo wr s) : RM nm nd dy dr bu st ki we wo wr (fun q => if q < 38 then s q else t q) := by
  obtain ⟨r1, r2, r3, r4, r5, r6⟩ := hR
  have e : ∀ q, q < 38 → (fun q => if q < 38 then s q else t q) q = s q := fun q h => if_pos h
  refine ⟨by rw [e _ (by decide), r1], by rw [e _ (by decide), r2], by rw [e _ (by decide), r3], by rw [e _ (by decide), r4], fun i hi => ⟨by rw [e _ (by omega), (r5 i hi).1], by rw [e _ (by omega), (r5 i hi).2]⟩, fun d hd => ?_⟩
  obtain ⟨a1, a2, a3, a4⟩ := r6 d hd
  exact ⟨by rw [e _ (by omega), a1], by rw [e _ (by omega), a2], by rw [e _ (by omega), a3], by rw [e _ (by omega), a4]⟩
/-- the reference's array behind k days -/
def itD (s : Nat → Int32) : Nat → Nat → Int32
  | 0 => s
  | k + 1 => (fX6_dayIn (itD s k)).getD s
theorem itD_RM (h : okD nm nd ki we wo wr) (hR : RM nm nd dy dr bu st ki we wo wr s) (hdy : dy < 20000) (hb : ∀ i, i < nm → st i ≤ bu i ∧ bu i < 100000) : ∀ k, k < 20000 → RM nm nd (dy + k) dr bu (fun i => stB (loadN nd ki we wo wr) bu st dy i k) ki we wo wr (itD s k) ∧ fX6_dayIn (itD s k) = some (itD s (k + 1)) := by
  have st0 : ∀ k, k < 20000 → RM nm nd (dy + k) dr bu (fun i => stB (loadN nd ki we wo wr) bu st dy i k) ki we wo wr (itD s k) → RM nm nd (dy + (k + 1)) dr bu (fun i => stB (loadN nd ki we wo wr) bu st dy i (k + 1)) ki we wo wr (itD s (k + 1)) ∧ fX6_dayIn (itD s k) = some (itD s (k + 1)) := by
    intro k hk hr
    obtain ⟨s', e1, e2, -⟩ := m_dayIn h hr (by omega) (fun i hi => ⟨stB_le (hb i hi).1 k, (hb i hi).2⟩)
    have e3 : itD s (k + 1) = s' := by
      show (fX6_dayIn (itD s k)).getD s = s'
      rw [e1]
      rfl
    rw [e3]
    exact ⟨e2, e1⟩
  have all : ∀ k, k ≤ 20000 → RM nm nd (dy + k) dr bu (fun i => stB (loadN nd ki we wo wr) bu st dy i k) ki we wo wr (itD s k) := by
    intro k
    induction k with
    | zero => intro _; exact hR
    | succ k ih => intro hk; exact (st0 k (by omega) (ih (by omega))).1
  exact fun k hk => ⟨all k (by omega), (st0 k hk (all k (by omega))).2⟩
theorem m_goOn {n : Nat} (h : okD nm nd ki we wo wr) (hR : RM nm nd dy dr bu st ki we wo wr s) (hdy : dy < 20000) (hb : ∀ i, i < nm → st i ≤ bu i ∧ bu i < 100000) (hn : n < 10000) : fX6_goOn (nI n) s = some (itD s n) := by
  unfold fX6_goOn
  refine lp_to (fun k => (nI k, itD s k)) n rfl (by omega) (fun k hk K => ?_) (fun K => ?_)
  · rw [bX6_goOn_2, if_neg (by rw [n_le (by omega) (by omega)]; omega), (itD_RM h hR hdy hb k (by omega)).2, Option.bind_some, nm_def, n_add1]
  · rw [bX6_goOn_2, if_pos (by rw [n_le (by omega) (by omega)]; omega)]
end M4
