/-! PURE, 26: numbers -/
theorem s_numEnd {v lo hi : Nat} {x4 pl : Int32} (h1 : v < 1000) (h2 : lo < 1000) (h3 : hi < 1000) : (if nI v < nI lo then some ((-1 : Int32), x4) else if nI v ≤ nI hi then some (nI v, pl) else some (-1, x4)) = some (if lo ≤ v ∧ v ≤ hi then (nI v, pl) else (-1, x4)) := by
  by_cases a : v < lo
  · rw [if_pos ((n_lt (by omega) (by omega)).mpr a), if_neg (by omega)]
  · rw [if_neg (fun q => a ((n_lt (by omega) (by omega)).mp q))]
    by_cases b : v ≤ hi
    · rw [if_pos ((n_le (by omega) (by omega)).mpr b), if_pos (by omega)]
    · rw [if_neg (fun q => b ((n_le (by omega) (by omega)).mp q)), if_neg (by omega)]
section P26
variable {n : Nat} {ltr tap : Nat → Int32}
theorem s_num1 {q a lo hi : Nat} {x4 : Int32} (h : TPN n ltr tap) (hq : q < n) (ha : a ≤ 9) (e : tap q = nI (48 + a)) (hend : ¬ DG n tap (q + 1)) (h2 : lo < 1000) (h3 : hi < 1000) :
    lp (bX4_readNumber_23 (nI n) ltr (nI lo) (nI hi) x4) FU (0, 0, nI q) = some (if lo ≤ a ∧ a ≤ hi then (nI a, nI (q + 1)) else (-1, x4)) := by
  have h90 := h.1
  refine lp_to (fun k => (if k = 0 then 0 else nI a, nI k, nI (q + k))) 1 rfl (by omega) (fun k hk K => ?_) (fun K => ?_)
  · obtain rfl : k = 0 := by omega
    obtain ⟨c, c1, c2, c3, c4⟩ := s_here h hq
    have ec : c = 48 + a := (n_eq (by omega) (by omega)).mp (c3.symm.trans e)
    subst ec
    rw [if_pos rfl, if_neg (show ¬ 0 + 1 = 0 by omega), bX4_readNumber_23, if_neg (show ¬ (2 : Int32) ≤ nI 0 by decide), Nat.add_zero, c4, Option.bind_some, isDig (by omega), Option.bind_some, if_pos (show 48 ≤ 48 + a ∧ 48 + a ≤ 57 by omega), if_neg n10, Option.bind_some, nm_def, nm_def, sub48 (by omega), n_add1, n_add1, show 48 + a - 48 = a by omega, show (10 : Int32) * 0 = nI 0 from rfl, n_add, Nat.zero_add, Nat.zero_add]
  · rw [if_neg (show ¬ 1 = 0 by omega), bX4_readNumber_23, if_neg (show ¬ (2 : Int32) ≤ nI 1 by decide)]
    by_cases z : q + 1 = n
    · rw [z, s_hereEnd h, Option.bind_some, isDig (by omega), Option.bind_some, if_neg (show ¬ (48 ≤ 0 ∧ 0 ≤ 57) by omega), if_pos n00, s_numEnd (by omega) h2 h3]
    · obtain ⟨c, c1, c2, c3, c4⟩ := s_here h (show q + 1 < n by omega)
      have nd : ¬ (48 ≤ c ∧ c ≤ 57) := fun w => hend ⟨by omega, c, w.1, w.2, c3⟩
      rw [c4, Option.bind_some, isDig (by omega), Option.bind_some, if_neg nd, if_pos n00, s_numEnd (by omega) h2 h3]
theorem s_num2 {q a b lo hi : Nat} {x4 : Int32} (h : TPN n ltr tap) (hq : q + 1 < n) (ha : a ≤ 9) (hb : b ≤ 9) (e : tap q = nI (48 + a)) (e2 : tap (q + 1) = nI (48 + b)) (h2 : lo < 1000) (h3 : hi < 1000) :
    lp (bX4_readNumber_23 (nI n) ltr (nI lo) (nI hi) x4) FU (0, 0, nI q) = some (if lo ≤ 10 * a + b ∧ 10 * a + b ≤ hi then (nI (10 * a + b), nI (q + 2)) else (-1, x4)) := by
  have h90 := h.1
  refine lp_to (fun k => (if k = 0 then 0 else if k = 1 then nI a else nI (10 * a + b), nI k, nI (q + k))) 2 rfl (by omega) (fun k hk K => ?_) (fun K => ?_)
  · by_cases k0 : k = 0
    · subst k0
      obtain ⟨c, c1, c2, c3, c4⟩ := s_here h (show q < n by omega)
      have ec : c = 48 + a := (n_eq (by omega) (by omega)).mp (c3.symm.trans e)
      subst ec
      rw [if_pos rfl, if_neg (show ¬ 0 + 1 = 0 by omega), if_pos (show 0 + 1 = 1 by omega), bX4_readNumber_23, if_neg (show ¬ (2 : Int32) ≤ nI 0 by decide), Nat.add_zero, c4, Option.bind_some, isDig (by omega), Option.bind_some, if_pos (show 48 ≤ 48 + a ∧ 48 + a ≤ 57 by omega), if_neg n10, Option.bind_some, nm_def, nm_def, sub48 (by omega), n_add1, n_add1, show 48 + a - 48 = a by omega, show (10 : Int32) * 0 = nI 0 from rfl, n_add, Nat.zero_add, Nat.zero_add]
    · obtain rfl : k = 1 := by omega
      obtain ⟨c, c1, c2, c3, c4⟩ := s_here h hq
      have ec : c = 48 + b := (n_eq (by omega) (by omega)).mp (c3.symm.trans e2)
      subst ec
      rw [if_neg (show ¬ 1 = 0 by omega), if_pos rfl, if_neg (show ¬ 1 + 1 = 0 by omega), if_neg (show ¬ 1 + 1 = 1 by omega), bX4_readNumber_23, if_neg (show ¬ (2 : Int32) ≤ nI 1 by decide), c4, Option.bind_some, isDig (by omega), Option.bind_some, if_pos (show 48 ≤ 48 + b ∧ 48 + b ≤ 57 by omega), if_neg n10, Option.bind_some, nm_def, nm_def, sub48 (by omega), n_add1, n_add1, show 48 + b - 48 = b by omega, show (10 : Int32) * nI a = nI (10 * a) from pk_mul 10 a, n_add]
  · rw [if_neg (show ¬ 2 = 0 by omega), if_neg (show ¬ 2 = 1 by omega), bX4_readNumber_23, if_pos (show (2 : Int32) ≤ nI 2 by decide), s_numEnd (by omega) h2 h3]
theorem both_number {p lo hi : Nat} (h : TPN n ltr tap) (hp : p ≤ n) (hlo : lo < 100) (hhi : hi < 100) :
    (∃ q x, q ≤ n ∧ fX4_readNumber (nI lo) (nI hi) (nI n) (nI p) ltr = some (-1, nI q) ∧ fX6_isNumber (nI lo) (nI hi) (nI n) (nI p) tap = some (0, nI q, x)) ∨
    (∃ q v, q ≤ n ∧ lo ≤ v ∧ v ≤ hi ∧ fX4_readNumber (nI lo) (nI hi) (nI n) (nI p) ltr = some (nI v, nI q) ∧ fX6_isNumber (nI lo) (nI hi) (nI n) (nI p) tap = some (1, nI q, nI v)) ∨
    (∃ q v x, DG n tap q ∧ lo ≤ v ∧ v ≤ hi ∧ fX4_readNumber (nI lo) (nI hi) (nI n) (nI p) ltr = some (nI v, nI q) ∧ fX6_isNumber (nI lo) (nI hi) (nI n) (nI p) tap = some (0, nI q, x)) := by
  have h90 := h.1
  obtain ⟨q, c, q1, q2, q3, q4, q5, q6, -⟩ := m_digit (hi := 9) h hp (by omega)
  have q6' : fX6_isDigit 0 9 (nI n) (nI p) tap = _ := q6
  unfold fX4_readNumber fX6_isNumber
  rw [q3, q6', Option.bind_some, Option.bind_some]
  dsimp only
  rw [isDig (by omega), Option.bind_some]
  by_cases d : 48 ≤ c ∧ c ≤ 57
  · have lt : q < n := by omega
    obtain ⟨a, rfl⟩ : ∃ a, c = 48 + a := ⟨c - 48, by omega⟩
    have e : tap q = nI (48 + a) := by
      rcases q5 with z | z
      · omega
      · exact z.2.1
    rw [if_pos d, if_neg n10, nm_def, if_pos (show 48 ≤ 48 + a ∧ 48 + a ≤ 48 + 9 by omega)]
    dsimp only
    rw [if_neg n10, nm_def, nm_def, show 48 + a - 48 = a by omega, n_sub1 (by omega), show q + 1 - 1 = q by omega]
    by_cases z : q + 1 = n
    · have ndg : ¬ DG n tap (q + 1) := fun w => by have := w.1; omega
      rw [s_num1 h lt (by omega) e ndg (by omega) (by omega), if_pos (show nI n ≤ nI (q + 1) by rw [n_le (by omega) (by omega)]; omega), in_nI (by omega) (by omega) (by omega), Option.bind_some]
      by_cases r : lo ≤ a ∧ a ≤ hi
      · right; left
        exact ⟨q + 1, a, by omega, r.1, r.2, by rw [if_pos r], by rw [if_pos r, if_neg n10, if_pos (by rw [z])]⟩
      · left
        exact ⟨q, _, by omega, by rw [if_neg r], by rw [if_neg r, if_pos n00]⟩
    · obtain ⟨c2, c21, c22, c23, c24⟩ := s_here h (show q + 1 < n by omega)
      have zz : ¬ nI n ≤ nI (q + 1) := fun w => by have := (n_le (by omega) (by omega)).mp w; omega
      have g1 : ∀ {α : Type} (A : Option α), gin (nI (q + 1)) 90 A = A := fun A => gin_nI (by omega) (by decide)
      have k1 : (nI (q + 1)).toNatClampNeg = q + 1 := n_cl (by omega)
      rw [if_neg zz, g1, k1, c23, show (48 : Int32) = nI 48 from rfl, show (57 : Int32) = nI 57 from rfl, in_nI (by omega) (by omega) (by omega), Option.bind_some]
      by_cases d2 : 48 ≤ c2 ∧ c2 ≤ 57
      · obtain ⟨b, rfl⟩ : ∃ b, c2 = 48 + b := ⟨c2 - 48, by omega⟩
        rw [s_num2 h (by omega) (by omega) (by omega) e c23 (by omega) (by omega), if_pos d2, if_neg n10, g1, nm_def, show (10 : Int32) * nI a = nI (10 * a) from pk_mul 10 a, n_add, show nI (10 * a + (48 + b)) - nI 48 = nI (10 * a + b) by rw [pk_sub (by omega)]; congr 1; omega, in_nI (by omega) (by omega) (by omega), Option.bind_some, n_add1]
        by_cases r : lo ≤ 10 * a + b ∧ 10 * a + b ≤ hi
        · rw [if_pos r, if_pos r, if_neg n10]
          by_cases z2 : q + 2 = n
          · right; left
            exact ⟨q + 2, 10 * a + b, by omega, r.1, r.2, rfl, by rw [if_pos (show nI (q + 1 + 1) = nI n by rw [← z2])]⟩
          · obtain ⟨c3, c31, c32, c33, c34⟩ := s_here h (show q + 2 < n by omega)
            have e3 : tap (q + 1 + 1) = nI c3 := c33
            rw [if_neg (show ¬ nI (q + 1 + 1) = nI n from fun w => z2 (by have := (n_eq (by omega) (by omega)).mp w; omega)), gin_nI (by omega) (by decide), n_cl (by omega), e3, in_nI (by omega) (by omega) (by omega), Option.bind_some]
            by_cases d3 : 48 ≤ c3 ∧ c3 ≤ 57
            · right; right
              exact ⟨q + 2, 10 * a + b, _, ⟨by omega, c3, d3.1, d3.2, c33⟩, r.1, r.2, rfl, by rw [if_pos d3, if_neg n10]⟩
            · right; left
              exact ⟨q + 2, 10 * a + b, by omega, r.1, r.2, rfl, by rw [if_neg d3, if_pos n00]⟩
        · left
          exact ⟨q, _, by omega, by rw [if_neg r], by rw [if_neg r, if_pos n00]⟩
      · have ndg : ¬ DG n tap (q + 1) := fun w => by
          obtain ⟨_, c', w1, w2, w3⟩ := w
          have := (n_eq (by omega) (by omega)).mp (c23.symm.trans w3)
          omega
        rw [s_num1 h lt (by omega) e ndg (by omega) (by omega), if_neg d2, if_pos n00, in_nI (by omega) (by omega) (by omega), Option.bind_some]
        by_cases r : lo ≤ a ∧ a ≤ hi
        · right; left
          exact ⟨q + 1, a, by omega, r.1, r.2, by rw [if_pos r], by rw [if_pos r, if_neg n10, if_neg (show ¬ nI (q + 1) = nI n from fun w => z ((n_eq (by omega) (by omega)).mp w)), g1, Option.bind_some, if_pos n00]⟩
        · left
          exact ⟨q, _, by omega, by rw [if_neg r], by rw [if_neg r, if_pos n00]⟩
  · left
    rw [if_neg d, if_pos n00, if_neg (show ¬ (48 ≤ c ∧ c ≤ 48 + 9) by omega)]
    dsimp only
    rw [if_pos n00]
    exact ⟨q, _, q2, rfl, rfl⟩
end P26
