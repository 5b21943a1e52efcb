/-! PURE, 28: a medal read; all men, all medals -/
def DR (nm nd dr : Nat) (bu0 st0 ki0 we0 wo0 : Nat → Nat) (wr0 : Nat → Option Nat) (ki we wo wr rd : Nat → Int32) : Prop := okD nm nd ki0 we0 wo0 wr0 ∧ rD nd ki0 we0 wo0 ki we wo ∧ rW nd wr0 wr ∧ RM nm nd 0 dr bu0 st0 ki0 we0 wo0 wr0 rd ∧ rd 38 = nI 0
theorem s_addMedal {i : Nat} {a b c d : Int32} {ki we wo wr : Nat → Int32} (hi : i < 6) : fX1_addMedal a b c d (nI i) ki we wo wr = some (nI i, nI (i + 1), upd ki i a, upd we i b, upd wo i c, upd wr i d) := by
  unfold fX1_addMedal
  rw [if_pos (show nI i < 6 from (n_lt (b := 6) (by omega) (by omega)).mpr hi), gin_nI (by omega) (by decide), gin_nI (by omega) (by decide), gin_nI (by omega) (by decide), gin_nI (by omega) (by decide), n_cl (by omega), n_add1, n_sub1 (by omega)]
  rfl
theorem m_addMedal {i : Nat} {a b c : Int32} {rd : Nat → Int32} (hi : i < 6) (h : rd 25 = nI i) : fX6_addMedal a b c rd = some (nI i, upd (upd (upd (upd (upd rd (26 + i) a) (7 + i) b) (32 + i) c) (13 + i) (-4)) 25 (nI (i + 1))) := by
  unfold fX6_addMedal
  have g25 : ∀ {α : Type} (A : Option α), gin 25 191 A = A := fun A => gin_nI (k := 25) (by decide) (by decide)
  have c25 : Int32.toNatClampNeg 25 = 25 := by decide
  rw [g25, c25, nm_def, h, show (26 : Int32) = nI 26 from rfl, show (7 : Int32) = nI 7 from rfl, show (32 : Int32) = nI 32 from rfl, show (13 : Int32) = nI 13 from rfl, gin_add (by omega) (by decide), gin_add (by omega) (by decide), gin_add (by omega) (by decide), gin_add (by omega) (by decide), g25, g25, cl_add (by omega), cl_add (by omega), cl_add (by omega), cl_add (by omega), upd_ne (by omega), upd_ne (by omega), upd_ne (by omega), upd_ne (by omega), h, n_add1]
theorem rW_add {i : Nat} {o : Option Nat} {f : Nat → Option Nat} {f' : Nat → Int32} (h : rW i f f') : rW (i + 1) (va_up f i o) (upd f' i (en o)) := fun k hk => by
  by_cases e : k = i
  · subst e
    rw [upd_self, va_up_self]
  · rw [upd_ne e, va_up_ne _ _ e]
    exact h k (by omega)
theorem DR_add {nm i dr k w v : Nat} {o : Option Nat} {bu0 st0 ki0 we0 wo0 : Nat → Nat} {wr0 : Nat → Option Nat} {ki we wo wr rd rd' : Nat → Int32} (h : DR nm i dr bu0 st0 ki0 we0 wo0 wr0 ki we wo wr rd) (hi : i < 6) (hk : k ≤ 4) (h1 : 1 ≤ w) (h2 : w ≤ 20) (hv : v < nm) (ho : ∀ m, o = some m → m < nm) (e1 : rd' 25 = nI (i + 1)) (e2 : rd' (26 + i) = nI k) (e3 : rd' (7 + i) = nI w) (e4 : rd' (32 + i) = nI v) (e5 : rd' (13 + i) = en o) (e6 : ∀ q, q ≠ 25 → q ≠ 26 + i → q ≠ 7 + i → q ≠ 32 + i → q ≠ 13 + i → rd' q = rd q) :
    DR nm (i + 1) dr bu0 st0 (va_up ki0 i k) (va_up we0 i w) (va_up wo0 i v) (va_up wr0 i o) (upd ki i (nI k)) (upd we i (nI w)) (upd wo i (nI v)) (upd wr i (en o)) rd' := by
  obtain ⟨⟨a1, a2, a3, a4⟩, c1, c2, ⟨b1, b2, b3, b4, b5, b6⟩, c3⟩ := h
  refine ⟨⟨a1, by omega, fun _ => by omega, fun d hd => ?_⟩, fun d hd => ?_, rW_add c2, ⟨by rw [e6 19 (by omega) (by omega) (by omega) (by omega) (by omega), b1], e1, by rw [e6 0 (by omega) (by omega) (by omega) (by omega) (by omega), b3], by rw [e6 1 (by omega) (by omega) (by omega) (by omega) (by omega), b4], fun m hm => ?_, fun d hd => ?_⟩, by rw [e6 38 (by omega) (by omega) (by omega) (by omega) (by omega), c3]⟩
  · by_cases e : d = i
    · subst e
      rw [va_up_self, va_up_self, va_up_self, va_up_self]
      exact ⟨hk, h1, h2, hv, ho⟩
    · rw [va_up_ne _ _ e, va_up_ne _ _ e, va_up_ne _ _ e, va_up_ne _ _ e]
      exact a4 d (by omega)
  · by_cases e : d = i
    · subst e
      rw [va_up_self, va_up_self, va_up_self, upd_self, upd_self, upd_self]
      exact ⟨rfl, rfl, rfl⟩
    · rw [va_up_ne _ _ e, va_up_ne _ _ e, va_up_ne _ _ e, upd_ne e, upd_ne e, upd_ne e]
      exact c1 d (by omega)
  · rw [e6 _ (by omega) (by omega) (by omega) (by omega) (by omega), e6 _ (by omega) (by omega) (by omega) (by omega) (by omega)]
    exact b5 m hm
  · by_cases e : d = i
    · subst e
      rw [va_up_self, va_up_self, va_up_self, va_up_self]
      exact ⟨e2, e3, e4, e5⟩
    · rw [va_up_ne _ _ e, va_up_ne _ _ e, va_up_ne _ _ e, va_up_ne _ _ e, e6 _ (by omega) (by omega) (by omega) (by omega) (by omega), e6 _ (by omega) (by omega) (by omega) (by omega) (by omega), e6 _ (by omega) (by omega) (by omega) (by omega) (by omega), e6 _ (by omega) (by omega) (by omega) (by omega) (by omega)]
      exact b6 d (by omega)
section P28
variable {n : Nat} {ltr tap : Nat → Int32}
theorem both_medal {i p nm dr : Nat} {num : Int32} {bu0 st0 ki0 we0 wo0 : Nat → Nat} {wr0 : Nat → Option Nat} {ki we wo wr rd : Nat → Int32} (h : TPN n ltr tap) (hp : p ≤ n) (hi : i < 6) (hnm : 1 ≤ nm) (h5 : nm ≤ 5) (hM : DR nm i dr bu0 st0 ki0 we0 wo0 wr0 ki we wo wr rd) :
    (∃ q X Y, q ≤ n ∧ fX4_readMedal (nI n) (nI p) ltr (nI nm) (nI i) ki we wo wr = some (0, nI q, X) ∧ fX6_isMedalItem (nI n) (nI p) num tap rd = some (0, nI q, Y)) ∨
    (∃ q ki' we' wo' wr' ki0' we0' wo0' wr0' num' rd', q ≤ n ∧ fX4_readMedal (nI n) (nI p) ltr (nI nm) (nI i) ki we wo wr = some (1, nI q, nI (i + 1), ki', we', wo', wr') ∧ fX6_isMedalItem (nI n) (nI p) num tap rd = some (1, nI q, num', rd') ∧ DR nm (i + 1) dr bu0 st0 ki0' we0' wo0' wr0' ki' we' wo' wr' rd') := by
  have h90 := h.1
  unfold fX4_readMedal fX6_isMedalItem
  have h19 : rd 19 = nI nm := hM.2.2.2.1.1
  have h25 : rd 25 = nI i := hM.2.2.2.1.2.1
  have g19 : ∀ {α : Type} (A : Option α), gin 19 191 A = A := fun A => gin_nI (k := 19) (by decide) (by decide)
  have c19 : Int32.toNatClampNeg 19 = 19 := by decide
  obtain ⟨q, c, q1, q2, q3, q4, q5, -⟩ := both_peek h hp
  rw [q3, q4, Option.bind_some, Option.bind_some]
  dsimp only
  rcases both_kind (nI c) with ⟨k, k4, e1, e2, e3⟩ | ⟨e1, e2⟩
  · have lt : q < n := by
      rcases q5 with z | z
      · exact absurd (by rw [z.2]; rfl) e3
      · exact z.1
    rw [e1, e2, Option.bind_some, Option.bind_some, if_pos (nI_pos' (show k < 2 ^ 31 by omega)), if_pos (nI_pos' (show k < 2 ^ 31 by omega)), n_add1]
    rcases both_number (p := q + 1) (lo := 1) (hi := 20) h (by omega) (by omega) (by omega) with ⟨q', x, s1, s2, s3⟩ | ⟨q', w, s1, l1, l2, s2, s3⟩ | ⟨q', w, x, s1, l1, l2, s2, s3⟩
    · left
      rw [show fX4_readNumber 1 20 (nI n) (nI (q + 1)) ltr = _ from s2, show fX6_isNumber 1 20 (nI n) (nI (q + 1)) tap = _ from s3]
      exact ⟨q', _, _, s1, rfl, rfl⟩
    · rw [show fX4_readNumber 1 20 (nI n) (nI (q + 1)) ltr = _ from s2, show fX6_isNumber 1 20 (nI n) (nI (q + 1)) tap = _ from s3, Option.bind_some, Option.bind_some, nm_def]
      dsimp only
      rw [if_neg (nI_pos (show w < 2 ^ 31 by omega)), if_neg n10, nm_def]
      obtain ⟨b, q'', r1, r2, r3, r4, r5, -⟩ := both_sign (x := 58) h s1 (by omega) (by omega)
      rw [show fX4_takes 58 (nI n) (nI q') ltr = _ from r3, show fX6_isSign 58 (nI n) (nI q') tap = _ from r4, Option.bind_some, Option.bind_some]
      dsimp only
      rcases r5 with rfl | rfl
      · left
        rw [if_pos n00, if_pos n00]
        exact ⟨q'', _, _, r2, rfl, rfl⟩
      · rw [if_neg n10, if_neg n10, g19, c19, h19]
        rcases both_manOf h r2 hnm h5 with ⟨u, x, u1, u2, u3⟩ | ⟨u, v, u1, hv, u2, u3⟩
        · left
          rw [u2, u3, Option.bind_some, Option.bind_some, nm_def]
          dsimp only
          rw [if_neg m1n, if_pos n00]
          exact ⟨u, _, _, u1, rfl, rfl⟩
        · rw [u2, u3, Option.bind_some, Option.bind_some, nm_def]
          dsimp only
          rw [if_pos (nI_pos' (show v < 2 ^ 31 by omega)), if_neg n10, m_addMedal hi h25, Option.bind_some, nm_def]
          dsimp only
          obtain ⟨b, t, t1, t2, t3, t4, t5, -⟩ := both_sign (x := 64) h u1 (by omega) (by omega)
          rw [show fX4_takes 64 (nI n) (nI u) ltr = _ from t3, show fX6_isSign 64 (nI n) (nI u) tap = _ from t4, Option.bind_some, Option.bind_some]
          dsimp only
          rcases t5 with rfl | rfl
          · right
            rw [if_pos n00, if_pos n00, s_addMedal hi, Option.bind_some]
            exact ⟨t, _, _, _, _, _, _, _, _, _, _, t2, rfl, rfl, DR_add (o := none) hM hi k4 l1 l2 hv (fun m e => by cases e) upd_self (by rw [upd_ne (by omega), upd_ne (by omega), upd_ne (by omega), upd_ne (by omega), upd_self]) (by rw [upd_ne (by omega), upd_ne (by omega), upd_ne (by omega), upd_self]) (by rw [upd_ne (by omega), upd_ne (by omega), upd_self]) (by rw [upd_ne (by omega), upd_self]; rfl) (fun a a1 a2 a3 a4 a5 => by rw [upd_ne a1, upd_ne a5, upd_ne a4, upd_ne a3, upd_ne a2])⟩
          · rw [if_neg n10, if_neg n10, g19, upd_ne (show 19 ≠ 25 by omega), upd_ne (show 19 ≠ 13 + i by omega), upd_ne (show 19 ≠ 32 + i by omega), upd_ne (show 19 ≠ 7 + i by omega), upd_ne (show 19 ≠ 26 + i by omega), h19]
            rcases both_manOf h t2 hnm h5 with ⟨u', x, u1', u2', u3'⟩ | ⟨u', m, u1', hm, u2', u3'⟩
            · left
              rw [u2', u3', Option.bind_some, Option.bind_some, nm_def]
              dsimp only
              rw [if_neg m1n, if_pos n00]
              exact ⟨u', _, _, u1', rfl, rfl⟩
            · right
              rw [u2', u3', Option.bind_some, Option.bind_some, nm_def]
              dsimp only
              rw [if_pos (nI_pos' (show m < 2 ^ 31 by omega)), if_neg n10, s_addMedal hi, Option.bind_some, show (13 : Int32) = nI 13 from rfl, gin_add (by omega) (by decide), cl_add (by omega)]
              exact ⟨u', _, _, _, _, _, _, _, _, _, _, u1', rfl, rfl, DR_add (o := some m) hM hi k4 l1 l2 hv (fun m' e => by cases e; exact hm) (by rw [upd_ne (by omega), upd_self]) (by rw [upd_ne (by omega), upd_ne (by omega), upd_ne (by omega), upd_ne (by omega), upd_ne (by omega), upd_self]) (by rw [upd_ne (by omega), upd_ne (by omega), upd_ne (by omega), upd_ne (by omega), upd_self]) (by rw [upd_ne (by omega), upd_ne (by omega), upd_ne (by omega), upd_self]) upd_self (fun a a1 a2 a3 a4 a5 => by rw [upd_ne a5, upd_ne a1, upd_ne a5, upd_ne a4, upd_ne a3, upd_ne a2])⟩
    · left
      obtain ⟨b, q'', r1, r2, r3, r4, r5, r6⟩ := both_sign (x := 58) h (Nat.le_of_lt s1.1) (by omega) (by omega)
      obtain ⟨rfl, rfl⟩ := r6 s1 (by omega)
      rw [show fX4_readNumber 1 20 (nI n) (nI (q + 1)) ltr = _ from s2, show fX6_isNumber 1 20 (nI n) (nI (q + 1)) tap = _ from s3, Option.bind_some, Option.bind_some, nm_def]
      dsimp only
      rw [if_neg (nI_pos (show w < 2 ^ 31 by omega)), show fX4_takes 58 (nI n) (nI q'') ltr = _ from r3, Option.bind_some, if_pos n00]
      dsimp only
      rw [if_pos n00]
      exact ⟨q'', _, _, Nat.le_of_lt s1.1, rfl, rfl⟩
  · left
    rw [e1, e2, Option.bind_some, Option.bind_some, if_neg m1n, if_neg m1n]
    exact ⟨q, _, _, q2, rfl, rfl⟩
end P28
