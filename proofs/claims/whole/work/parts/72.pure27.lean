/-! PURE, 27: a man, a medal read -/
def MR (i dr : Nat) (bu0 st0 : Nat → Nat) (bu st rd : Nat → Int32) : Prop := (∀ k, k < i → st0 k ≤ bu0 k ∧ 1 ≤ bu0 k ∧ bu0 k ≤ 60) ∧ rS i bu0 bu ∧ rS i st0 st ∧ RM i 0 0 dr bu0 st0 (fun _ => 0) (fun _ => 0) (fun _ => 0) (fun _ => none) rd ∧ rd 38 = nI 0
theorem rS_up {i v : Nat} {f : Nat → Nat} {f' : Nat → Int32} (h : rS i f f') : rS (i + 1) (va_up f i v) (upd f' i (nI v)) := fun k hk => by
  by_cases e : k = i
  · subst e
    rw [upd_self, va_up_self]
  · rw [upd_ne e, va_up_ne _ _ e]
    exact h k (by omega)
theorem MR_add {i dr v s : Nat} {bu0 st0 : Nat → Nat} {bu st rd rd' : Nat → Int32} (h : MR i dr bu0 st0 bu st rd) (hi : i < 5) (h1 : 1 ≤ v) (h2 : v ≤ 60) (h3 : s ≤ v) (e1 : rd' 19 = nI (i + 1)) (e2 : rd' (20 + i) = nI v) (e3 : rd' (2 + i) = nI s) (e4 : ∀ q, q ≠ 19 → q ≠ 20 + i → q ≠ 2 + i → rd' q = rd q) : MR (i + 1) dr (va_up bu0 i v) (va_up st0 i s) (upd bu i (nI v)) (upd st i (nI s)) rd' := by
  obtain ⟨a1, a2, a3, ⟨b1, b2, b3, b4, b5, b6⟩, a5⟩ := h
  refine ⟨fun k hk => ?_, rS_up a2, rS_up a3, ⟨e1, by rw [e4 25 (by omega) (by omega) (by omega), b2], by rw [e4 0 (by omega) (by omega) (by omega), b3], by rw [e4 1 (by omega) (by omega) (by omega), b4], fun k hk => ?_, fun d hd => by omega⟩, by rw [e4 38 (by omega) (by omega) (by omega), a5]⟩
  · by_cases e : k = i
    · subst e
      rw [va_up_self, va_up_self]
      omega
    · rw [va_up_ne _ _ e, va_up_ne _ _ e]
      exact a1 k (by omega)
  · by_cases e : k = i
    · subst e
      rw [va_up_self, va_up_self]
      exact ⟨e2, e3⟩
    · rw [va_up_ne _ _ e, va_up_ne _ _ e, e4 _ (by omega) (by omega) (by omega), e4 _ (by omega) (by omega) (by omega)]
      exact b5 k (by omega)
theorem s_addMan {i : Nat} {v s : Int32} {bu st : Nat → Int32} (hi : i < 5) : fX1_addMan v s (nI i) bu st = some (nI i, nI (i + 1), upd bu i v, upd st i s) := by
  unfold fX1_addMan
  rw [if_pos (show nI i < 5 from (n_lt (b := 5) (by omega) (by omega)).mpr hi), gin_nI (by omega) (by decide), gin_nI (by omega) (by decide), n_cl (by omega), n_add1, n_sub1 (by omega)]
  rfl
theorem m_addMan {i : Nat} {v : Int32} {rd : Nat → Int32} (hi : i < 5) (h : rd 19 = nI i) : fX6_addMan v rd = some (nI i, upd (upd (upd rd (20 + i) v) (2 + i) v) 19 (nI (i + 1))) := by
  unfold fX6_addMan
  have g19 : ∀ {α : Type} (A : Option α), gin 19 191 A = A := fun A => gin_nI (k := 19) (by decide) (by decide)
  have c19 : Int32.toNatClampNeg 19 = 19 := by decide
  rw [g19, c19, nm_def, h, show (20 : Int32) = nI 20 from rfl, show (2 : Int32) = nI 2 from rfl, gin_add (by omega) (by decide), gin_add (by omega) (by decide), g19, g19, cl_add (by omega), cl_add (by omega), upd_ne (by omega), upd_ne (by omega), h, n_add1]
theorem n_sub0 (a : Nat) : nI a - 0 = nI a := pk_sub (b := 0) (Nat.zero_le a)
theorem m1n : ¬ (0 : Int32) ≤ -1 := by decide
section P27
variable {n : Nat} {ltr tap : Nat → Int32}
theorem both_man {i p dr : Nat} {bu0 st0 : Nat → Nat} {bu st rd : Nat → Int32} (h : TPN n ltr tap) (hp : p ≤ n) (hi : i < 5) (hM : MR i dr bu0 st0 bu st rd) :
    (∃ q X Y, q ≤ n ∧ fX4_readMan (nI n) (nI p) ltr (nI i) bu st = some (0, nI q, X) ∧ fX6_isManItem (nI n) (nI p) tap rd = some (0, nI q, Y)) ∨
    (∃ q bu' st' bu0' st0' num rd', q ≤ n ∧ fX4_readMan (nI n) (nI p) ltr (nI i) bu st = some (1, nI q, nI (i + 1), bu', st') ∧ fX6_isManItem (nI n) (nI p) tap rd = some (1, nI q, num, rd') ∧ MR (i + 1) dr bu0' st0' bu' st' rd') ∨
    (∃ q X Y, DG n tap q ∧ fX4_readMan (nI n) (nI p) ltr (nI i) bu st = some (1, nI q, X) ∧ fX6_isManItem (nI n) (nI p) tap rd = some (0, nI q, Y)) := by
  unfold fX4_readMan fX6_isManItem
  have h19 : rd 19 = nI i := hM.2.2.2.1.1
  have z1 : (1 : Int32) = nI 1 := rfl
  have z0 : (0 : Int32) = nI 0 := rfl
  have nums := both_number (p := p) (lo := 1) (hi := 60) h hp (by omega) (by omega)
  rcases nums with ⟨q, x, q1, q2, q3⟩ | ⟨q, v, q1, v1, v2, q2, q3⟩ | ⟨q, v, x, q1, v1, v2, q2, q3⟩
  · left
    rw [show fX4_readNumber 1 60 (nI n) (nI p) ltr = _ from q2, show fX6_isNumber 1 60 (nI n) (nI p) tap = _ from q3]
    exact ⟨q, _, _, q1, rfl, rfl⟩
  · rw [show fX4_readNumber 1 60 (nI n) (nI p) ltr = _ from q2, show fX6_isNumber 1 60 (nI n) (nI p) tap = _ from q3, Option.bind_some, Option.bind_some, nm_def]
    dsimp only
    rw [if_pos (nI_pos' (show v < 2 ^ 31 by omega)), if_neg n10, m_addMan hi h19, Option.bind_some]
    dsimp only
    obtain ⟨b, q', r1, r2, r3, r4, r5, -⟩ := both_sign (x := 45) h q1 (by omega) (by omega)
    rw [nm_def, show fX4_takes 45 (nI n) (nI q) ltr = _ from r3, show fX6_isSign 45 (nI n) (nI q) tap = _ from r4, Option.bind_some, Option.bind_some]
    dsimp only
    rcases r5 with rfl | rfl
    · right; left
      rw [if_pos n00, if_pos n00, s_addMan hi, Option.bind_some, n_sub0]
      exact ⟨q', _, _, _, _, _, _, r2, rfl, rfl, MR_add hM hi v1 v2 (Nat.le_refl v) upd_self (by rw [upd_ne (by omega), upd_ne (by omega), upd_self]) (by rw [upd_ne (by omega), upd_self]) (fun w w1 w2 w3 => by rw [upd_ne w1, upd_ne w3, upd_ne w2])⟩
    · rw [if_neg n10, if_neg n10, show (20 : Int32) = nI 20 from rfl, show (2 : Int32) = nI 2 from rfl, gin_add (by omega) (by decide), cl_add (by omega), upd_ne (show 20 + i ≠ 19 by omega), upd_ne (show 20 + i ≠ 2 + i by omega), upd_self]
      rcases both_number (p := q') (lo := 0) (hi := v) h r2 (by omega) (by omega) with ⟨q'', x, s1, s2, s3⟩ | ⟨q'', l, s1, l1, l2, s2, s3⟩ | ⟨q'', l, x, s1, l1, l2, s2, s3⟩
      · left
        rw [show fX4_readNumber 0 (nI v) (nI n) (nI q') ltr = _ from s2, show fX6_isNumber 0 (nI v) (nI n) (nI q') tap = _ from s3, Option.bind_some, Option.bind_some, nm_def]
        dsimp only
        rw [if_neg m1n, if_pos n00]
        exact ⟨q'', _, _, s1, rfl, rfl⟩
      · right; left
        rw [show fX4_readNumber 0 (nI v) (nI n) (nI q') ltr = _ from s2, show fX6_isNumber 0 (nI v) (nI n) (nI q') tap = _ from s3, Option.bind_some, Option.bind_some, nm_def]
        dsimp only
        rw [if_pos (nI_pos' (show l < 2 ^ 31 by omega)), if_neg n10, s_addMan hi, Option.bind_some, gin_add (by omega) (by decide), gin_add (by omega) (by decide), cl_add (by omega), upd_ne (show 2 + i ≠ 19 by omega), upd_self, pk_sub l2]
        exact ⟨q'', _, _, _, _, _, _, s1, rfl, rfl, MR_add hM hi v1 v2 (Nat.sub_le v l) (by rw [upd_ne (by omega), upd_self]) (by rw [upd_ne (by omega), upd_ne (by omega), upd_ne (by omega), upd_self]) upd_self (fun w w1 w2 w3 => by rw [upd_ne w3, upd_ne w1, upd_ne w3, upd_ne w2])⟩
      · right; right
        rw [show fX4_readNumber 0 (nI v) (nI n) (nI q') ltr = _ from s2, show fX6_isNumber 0 (nI v) (nI n) (nI q') tap = _ from s3, Option.bind_some, Option.bind_some, nm_def]
        dsimp only
        rw [if_pos (nI_pos' (show l < 2 ^ 31 by omega)), if_pos n00, s_addMan hi, Option.bind_some]
        exact ⟨q'', _, _, s1, rfl, rfl⟩
  · right; right
    rw [show fX4_readNumber 1 60 (nI n) (nI p) ltr = _ from q2, show fX6_isNumber 1 60 (nI n) (nI p) tap = _ from q3, Option.bind_some, Option.bind_some, nm_def]
    dsimp only
    obtain ⟨b, q', r1, r2, r3, r4, r5, r6⟩ := both_sign (x := 45) h (Nat.le_of_lt q1.1) (by omega) (by omega)
    obtain ⟨rfl, rfl⟩ := r6 q1 (by omega)
    rw [if_pos (nI_pos' (show v < 2 ^ 31 by omega)), if_pos n00, show fX4_takes 45 (nI n) (nI q') ltr = _ from r3, Option.bind_some]
    dsimp only
    rw [if_pos n00, s_addMan hi, Option.bind_some]
    exact ⟨q', _, _, q1, rfl, rfl⟩
theorem both_manOf {p nm : Nat} (h : TPN n ltr tap) (hp : p ≤ n) (h1 : 1 ≤ nm) (h5 : nm ≤ 5) :
    (∃ q x, q ≤ n ∧ fX4_readManOf (nI n) (nI p) ltr (nI nm) = some (-1, nI q) ∧ fX6_isDigit 0 (nI nm - 1) (nI n) (nI p) tap = some (0, nI q, x)) ∨
    (∃ q v, q ≤ n ∧ v < nm ∧ fX4_readManOf (nI n) (nI p) ltr (nI nm) = some (nI v, nI q) ∧ fX6_isDigit 0 (nI nm - 1) (nI n) (nI p) tap = some (1, nI q, nI v)) := by
  have h90 := h.1
  rw [n_sub1 (by omega)]
  obtain ⟨q, c, q1, q2, q3, q4, q5, q6, -⟩ := m_digit (hi := nm - 1) h hp (by omega)
  unfold fX4_readManOf
  rw [q3, q6, Option.bind_some, nm_def]
  dsimp only
  rw [isDig (by omega), Option.bind_some]
  by_cases d : 48 ≤ c ∧ c ≤ 48 + (nm - 1)
  · right
    rw [if_pos (show 48 ≤ c ∧ c ≤ 57 by omega), if_neg n10, sub48 d.1, s_hasMan_y (show c - 48 < nm by omega) (by omega), Option.bind_some, if_neg n10, if_pos d, n_add1]
    exact ⟨q + 1, c - 48, by omega, by omega, rfl, rfl⟩
  · left
    rw [if_neg d]
    by_cases d2 : 48 ≤ c ∧ c ≤ 57
    · rw [if_pos d2, if_neg n10, sub48 d2.1, s_hasMan_n (Or.inr ((n_le (by omega) (by omega)).mpr (show nm ≤ c - 48 by omega))), Option.bind_some, if_pos n00]
      exact ⟨q, _, q2, rfl, rfl⟩
    · rw [if_neg d2, if_pos n00]
      exact ⟨q, _, q2, rfl, rfl⟩
theorem both_kind (p : Int32) : (∃ k, k ≤ 4 ∧ fX4_kindOf p = some (nI k) ∧ fX6_kindBy p = some (nI k) ∧ p ≠ 0) ∨ (fX4_kindOf p = some (-1) ∧ fX6_kindBy p = some (-1)) := by
  unfold fX4_kindOf fX6_kindBy
  by_cases a : p = 98
  · subst a
    exact Or.inl ⟨0, by omega, rfl, rfl, by decide⟩
  by_cases b : p = 102
  · subst b
    exact Or.inl ⟨2, by omega, by decide, by decide, by decide⟩
  by_cases c : p = 109
  · subst c
    exact Or.inl ⟨4, by omega, by decide, by decide, by decide⟩
  by_cases d : p = 112
  · subst d
    exact Or.inl ⟨3, by omega, by decide, by decide, by decide⟩
  by_cases e : p = 114
  · subst e
    exact Or.inl ⟨1, by omega, by decide, by decide, by decide⟩
  · right
    rw [if_neg a, if_neg b, if_neg c, if_neg d, if_neg e, if_neg a, if_neg e, if_neg b, if_neg d, if_neg c]
    exact ⟨rfl, rfl⟩
end P27
