/-! PURE, 38: error -/
theorem gcd_step {x y : Nat} : Nat.gcd y (x % y) = Nat.gcd x y := by rw [Nat.gcd_comm y (x % y), ← Nat.gcd_rec y x, Nat.gcd_comm]
theorem s_gcd : ∀ (k a b s f : Nat), b ≤ a → a * b < 2 ^ k → s + k < 100 → k < f → a < 1000000 → lp bX5_greatestCommonDivisor_7 f (nI a, nI b, nI s) = some (nI (Nat.gcd a b)) := by
  have base : ∀ (a s f : Nat), s < 100 → lp bX5_greatestCommonDivisor_7 (f + 1) (nI a, nI 0, nI s) = some (nI (Nat.gcd a 0)) := fun a s f hs => by
    rw [lp_succ, bX5_greatestCommonDivisor_7, if_neg (show ¬ 100 ≤ nI s from fun q => by have := (n_le (a := 100) (by omega) (by omega)).mp q; omega), if_pos (show nI 0 = 0 from rfl), Nat.gcd_zero_right]
  intro k
  induction k with
  | zero =>
    intro a b s f h1 h2 h3 h4 h5
    obtain ⟨f, rfl⟩ : ∃ g, f = g + 1 := ⟨f - 1, by omega⟩
    have : b = 0 := by
      refine Nat.eq_zero_of_not_pos (fun z => ?_)
      have := Nat.mul_pos (Nat.lt_of_lt_of_le z h1) z
      rw [Nat.pow_zero] at h2
      omega
    subst this
    exact base a s f (by omega)
  | succ k ih =>
    intro a b s f h1 h2 h3 h4 h5
    obtain ⟨f, rfl⟩ : ∃ g, f = g + 1 := ⟨f - 1, by omega⟩
    by_cases z : b = 0
    · subst z
      exact base a s f (by omega)
    · have hb : 0 < b := Nat.pos_of_ne_zero z
      have hlt := Nat.mod_lt a hb
      have hq : 1 ≤ a / b := (Nat.one_le_div_iff hb).mpr h1
      have hdm := Nat.div_add_mod a b
      have h6 : b ≤ b * (a / b) := Nat.le_mul_of_pos_right b hq
      have h7 : b * (2 * (a % b)) ≤ b * a := Nat.mul_le_mul_left b (by omega)
      have h8 : b * (a % b) < 2 ^ k := by
        rw [Nat.pow_succ, Nat.mul_comm a b] at h2
        have e : b * (2 * (a % b)) = 2 * (b * (a % b)) := by rw [← Nat.mul_assoc, Nat.mul_comm b 2, Nat.mul_assoc]
        omega
      rw [lp_succ, bX5_greatestCommonDivisor_7, if_neg (show ¬ 100 ≤ nI s from fun q => by have := (n_le (a := 100) (by omega) (by omega)).mp q; omega), if_neg (show ¬ nI b = 0 from fun q => z ((n_eq (b := 0) (by omega) (by omega)).mp q))]
      unfold gnz
      rw [if_neg (show ¬ nI b = 0 from fun q => z ((n_eq (b := 0) (by omega) (by omega)).mp q)), nm_def, nm_def, n_add1, pk_rem (by omega) hb (by omega), ih b (a % b) (s + 1) f (by omega) h8 (by omega) (by omega) (by omega), gcd_step]
theorem s_power {b e : Nat} (he : e < 1000) : fX0_power (nI b) (nI e) = some (nI (b ^ e)) := by
  unfold fX0_power
  refine lp_to (fun k => (nI (b ^ k), nI k)) e ?_ (by omega) (fun k hk K => ?_) (fun K => ?_)
  · show (nI (b ^ 0), nI 0) = (1, 0)
    rw [Nat.pow_zero]
    rfl
  · rw [bX0_power_4, if_neg (by rw [n_le (by omega) (by omega)]; omega), nm_def, nm_def, n_add1, pk_mul]
    show _ = K (nI (b ^ (k + 1)), nI (k + 1))
    rw [Nat.pow_succ]
  · rw [bX0_power_4, if_pos (Int32.le_refl _)]
section P38
variable {nm nd dy odd : Nat} {st ki we wo : Nat → Nat} {wr : Nat → Option Nat} {ld : Nat → Nat → Int32} {st' : Nat → Int32}
theorem s_ways (h5 : nm ≤ 5) : fX0_ways (nI (mk (wn nd wr) 6)) (nI nm) = some (nI (nw (wn nd wr) nm 0)) := by
  have := cn_le (wn nd wr) 6
  unfold fX0_ways
  rw [s_bitCount wm_lt, Option.bind_some, cn_mk (by omega), s_power (by omega), Option.bind_some]
  rfl
def okm (nd odd : Nat) (st ki we wo : Nat → Nat) (m S : Nat) : Bool := decide (lS_ nd ki we wo odd m S ≤ st m)
/-- how many ways bend m -/
def nB (nm nd odd : Nat) (st ki we wo : Nat → Nat) (wr : Nat → Option Nat) (m : Nat) : Nat := sg (fun c => if lS_ nd ki we wo odd m (sw (wn nd wr) (dg (wn nd wr) nm c) m 6) ≤ st m then 0 else 1) (nw (wn nd wr) nm 0)
/-- how many ways bend nobody -/
def nN (nm nd odd : Nat) (st ki we wo : Nat → Nat) (wr : Nat → Option Nat) : Nat := sg (fun c => idn (okm nd odd st ki we wo) nm (wn nd wr) (dg (wn nd wr) nm c)) (nw (wn nd wr) nm 0)
theorem asg_is {c : Nat} : ∀ j, j < 6 → wn nd wr j = true → asg (wn nd wr) nm 6 c j = dg (wn nd wr) nm c j := fun j hj w => asg_dg 6 c j hj w
theorem nB_sets {m : Nat} (hm : m < nm) : nB nm nd odd st ki we wo wr m = sg (fun S => if S &&& mk (wn nd wr) 6 = S then (if lS_ nd ki we wo odd m S ≤ st m then 0 else (nm - 1) ^ cn (fun j => wn nd wr j && !S.testBit j) 6) else 0) (mk (wn nd wr) 6 + 1) := by
  have key := SA_man (V := wn nd wr) hm 6 (fun S => if lS_ nd ki we wo odd m S ≤ st m then 0 else 1)
  rw [SA_codes] at key
  have e1 : nB nm nd odd st ki we wo wr m = sg (fun c => if lS_ nd ki we wo odd m (sw (wn nd wr) (asg (wn nd wr) nm 6 c) m 6) ≤ st m then 0 else 1) (nm ^ cn (wn nd wr) 6) := by
    unfold nB
    show sg _ (nm ^ cn (wn nd wr) 6) = _
    exact sg_ext _ (fun c _ => by rw [sw_extW asg_is])
  rw [e1, key]
  have hV := wm_lt (nd := nd) (wr := wr)
  show sg _ 64 = _
  rw [sg_stop (n := mk (wn nd wr) 6 + 1) (N := 64) (by omega) (fun S h1 h2 => if_neg (fun q => by have := Nat.and_le_right (n := S) (m := mk (wn nd wr) 6); omega))]
  refine sg_ext _ (fun S _ => ?_)
  by_cases c : S &&& mk (wn nd wr) 6 = S
  · rw [if_pos c, if_pos c]
    by_cases q : lS_ nd ki we wo odd m S ≤ st m
    · rw [if_pos q, if_pos q, Nat.zero_mul]
    · rw [if_neg q, if_neg q, Nat.one_mul]
  · rw [if_neg c, if_neg c]
theorem nN_Wy : nN nm nd odd st ki we wo wr = Wy (okm nd odd st ki we wo) nm (fun j => (mk (wn nd wr) 6).testBit j) := by
  rw [Wy_V (V' := wn nd wr) (fun j hj => mk_test hj)]
  unfold Wy nN
  rw [SA_codes]
  show sg _ (nm ^ cn (wn nd wr) 6) = _
  refine sg_ext _ (fun c _ => ?_)
  unfold idn
  rw [alB_ext nm (fun m _ => by rw [← sw_extW asg_is])]
theorem less_bit {S V j : Nat} (h : S &&& V = S) : (V ^^^ S).testBit j = (V.testBit j && !S.testBit j) := by
  have := sub_iff.mp h j
  rw [Nat.testBit_xor]
  cases s : S.testBit j with
  | false => cases V.testBit j <;> rfl
  | true => rw [this s]; rfl
theorem less_lt {S V : Nat} (hS : S < 64) (hV : V < 64) : V ^^^ S < 64 := Nat.xor_lt_two_pow (n := 6) hV hS
theorem less_le {S V : Nat} (h : S &&& V = S) : V ^^^ S ≤ V := by
  have : (V ^^^ S) &&& V = V ^^^ S := sub_iff.mpr (fun j hj => by
    rw [less_bit h, Bool.and_eq_true] at hj
    exact hj.1)
  rw [← this]
  exact Nat.and_le_right
theorem s_waysWithBent {m : Nat} (h : okD nm nd ki we wo wr) (ho : odd ≤ 1) (hL : LD nm nd ki we wo wr odd ld) (hst : rS nm st st') (hb : ∀ i, i < nm → st i < 100000) (hm : m < nm) : fX0_waysWithBent (nI m) (nI (mk (wn nd wr) 6)) ld (nI nm) st' = some (nI (nB nm nd odd st ki we wo wr m)) := by
  have hV := wm_lt (nd := nd) (wr := wr)
  have h5 := h.1
  rw [nB_sets hm]
  unfold fX0_waysWithBent
  refine lp_to (fun k => (nI (sg (fun S => if S &&& mk (wn nd wr) 6 = S then (if lS_ nd ki we wo odd m S ≤ st m then 0 else (nm - 1) ^ cn (fun j => wn nd wr j && !S.testBit j) 6) else 0) k), nI k)) (mk (wn nd wr) 6 + 1) rfl (by omega) (fun S hS K => ?_) (fun K => ?_)
  · show _ = K (nI (sg _ S + (if S &&& mk (wn nd wr) 6 = S then (if lS_ nd ki we wo odd m S ≤ st m then 0 else (nm - 1) ^ cn (fun j => wn nd wr j && !S.testBit j) 6) else 0)), nI (S + 1))
    rw [bX0_waysWithBent_4, if_neg (fun q => by have := (n_lt (by omega) (by omega)).mp q; omega)]
    by_cases c : S &&& mk (wn nd wr) 6 = S
    · have e : cn (fun j => (mk (wn nd wr) 6 ^^^ S).testBit j) 6 = cn (fun j => wn nd wr j && !S.testBit j) 6 := cn_ext 6 (fun j hj => by rw [less_bit c, mk_test hj])
      have hc := cn_le (fun j => wn nd wr j && !S.testBit j) 6
      rw [if_pos ((q_sub (by omega) hV).mpr c), if_pos c, s_bends h ho hL hst hb hm (by omega) c, Option.bind_some, q_less (by omega) hV c, s_bitCount (less_lt (by omega) hV), e, Option.bind_some, n_sub1 (by omega), s_power (by omega), Option.bind_some]
      by_cases q : lS_ nd ki we wo odd m S ≤ st m
      · rw [if_pos q, if_pos rfl, if_pos q, nm_def, n_add1]
        rfl
      · rw [if_neg q, if_neg n10, if_neg q, nm_def, nm_def, n_add1, n_add]
    · rw [if_neg (fun q => c ((q_sub (by omega) hV).mp q)), if_neg c, nm_def, n_add1]
      rfl
  · rw [bX0_waysWithBent_4, if_pos ((n_lt (by omega) (by omega)).mpr (by omega))]
theorem s_waysWith {m S : Nat} {wy : Nat → Int32} (h : okD nm nd ki we wo wr) (ho : odd ≤ 1) (hL : LD nm nd ki we wo wr odd ld) (hst : rS nm st st') (hb : ∀ i, i < nm → st i < 100000) (hm : m < nm) (hS : S < 64) (hs : S &&& mk (wn nd wr) 6 = S) (hy : ∀ T, T ≤ S → T &&& mk (wn nd wr) 6 = T → wy T = nI (Wy (okm nd odd st ki we wo) m (fun j => T.testBit j))) : fX0_waysWith (nI m) (nI S) ld wy st' = some (nI (Wy (okm nd odd st ki we wo) (m + 1) (fun j => S.testBit j))) := by
  have h5 := h.1
  have hmS : mk (fun j => S.testBit j) 6 = S := by
    apply Nat.eq_of_testBit_eq
    intro j
    rw [mk_bit]
    by_cases c : j < 6
    · rw [decide_eq_true c]; rfl
    · rw [decide_eq_false c, lo_bit (d := 6) hS (by omega)]; rfl
  rw [Wy_step, hmS]
  rw [sg_stop (n := S + 1) (N := 64) (by omega) (fun T h1 h2 => if_neg (fun q => by have := Nat.and_le_right (n := T) (m := S); omega))]
  unfold fX0_waysWith
  refine lp_to (fun k => (nI (sg (fun T => if T &&& S = T then (if okm nd odd st ki we wo m T = true then Wy (okm nd odd st ki we wo) m (wo_ (fun j => S.testBit j) T) else 0) else 0) k), nI k)) (S + 1) rfl (by omega) (fun T hT K => ?_) (fun K => ?_)
  · show _ = K (nI (sg _ T + (if T &&& S = T then (if okm nd odd st ki we wo m T = true then Wy (okm nd odd st ki we wo) m (wo_ (fun j => S.testBit j) T) else 0) else 0)), nI (T + 1))
    rw [bX0_waysWith_5, if_neg (fun q => by have := (n_lt (by omega) (by omega)).mp q; omega)]
    by_cases c : T &&& S = T
    · have cT : T &&& mk (wn nd wr) 6 = T := sub_iff.mpr (fun j hj => sub_iff.mp hs j (sub_iff.mp c j hj))
      have cX : (S ^^^ T) &&& mk (wn nd wr) 6 = S ^^^ T := sub_iff.mpr (fun j hj => sub_iff.mp hs j (by
        rw [less_bit c, Bool.and_eq_true] at hj
        exact hj.1))
      have lX : S ^^^ T < 64 := less_lt (by omega) hS
      have vX := hy (S ^^^ T) (less_le c) cX
      rw [Wy_V (V' := wo_ (fun j => S.testBit j) T) (fun j _ => less_bit c)] at vX
      rw [if_pos ((q_sub (by omega) hS).mpr c), if_pos c, s_bends h ho hL hst hb hm (by omega) cT, Option.bind_some, q_less (by omega) hS c, gin_nI lX (by decide), n_cl (by omega), vX]
      unfold okm
      by_cases q : lS_ nd ki we wo odd m T ≤ st m
      · rw [if_pos q, if_pos rfl, if_pos (decide_eq_true q), nm_def, nm_def, n_add1, n_add]
      · rw [if_neg q, if_neg n10, if_neg (by rw [decide_eq_false q]; decide), nm_def, n_add1, Nat.add_zero]
        rfl
    · rw [if_neg (fun q => c ((q_sub (by omega) hS).mp q)), if_neg c, nm_def, n_add1]
      rfl
  · rw [bX0_waysWith_5, if_pos ((n_lt (by omega) (by omega)).mpr (by omega))]
theorem s_waysWithNobodyBent {wy : Nat → Int32} (h : okD nm nd ki we wo wr) (ho : odd ≤ 1) (hL : LD nm nd ki we wo wr odd ld) (hst : rS nm st st') (hb : ∀ i, i < nm → st i < 100000) : ∃ wy', fX0_waysWithNobodyBent (nI (mk (wn nd wr) 6)) ld wy (nI nm) st' = some (nI (nN nm nd odd st ki we wo wr), wy') := by
  have hV := wm_lt (nd := nd) (wr := wr)
  have h5 := h.1
  rw [nN_Wy]
  generalize hVe : mk (wn nd wr) 6 = V at hV
  unfold fX0_waysWithNobodyBent
  obtain ⟨⟨r1, r2⟩, e1, e2⟩ := lp_inv (β := Int32 × (Nat → Int32)) (body := bX0_waysWithNobodyBent_2 (nI V) ld (nI nm) st') 64
    (fun k a => a.1 = nI k ∧ ∀ S, S < k → a.2 S = nI (Wy (okm nd odd st ki we wo) 0 (fun j => S.testBit j)))
    (fun r => r.1 = nI (Wy (okm nd odd st ki we wo) nm (fun j => V.testBit j))) (fun r => some r) (a0 := (0, wy)) ⟨rfl, fun S hS => by omega⟩ (by omega)
    (fun k hk a hI => by
      obtain ⟨kk, w0⟩ := a
      obtain ⟨g1, g2⟩ := hI
      simp only at g1 g2
      subst g1
      have nk : ¬ 64 ≤ nI k := fun q => by have := (n_le (a := 64) (by omega) (by omega)).mp q; omega
      refine ⟨(nI (k + 1), upd w0 k (nI (if k = 0 then 1 else 0))), ⟨rfl, fun S hS => ?_⟩, fun K => ?_⟩
      · show upd w0 k _ S = _
        by_cases e : S = k
        · subst e
          rw [upd_self, Wy_0 hk]
        · rw [upd_ne e]
          exact g2 S (by omega)
      · by_cases z : k = 0
        · subst z
          rw [bX0_waysWithNobodyBent_2, if_neg nk, if_pos (show nI 0 = 0 from rfl), gin_nI (by omega) (by decide), nm_def, n_add1, n_cl (by omega), if_pos rfl]
          rfl
        · rw [bX0_waysWithNobodyBent_2, if_neg nk, if_neg (show ¬ nI k = 0 from fun q => z ((n_eq (b := 0) (by omega) (by omega)).mp q)), gin_nI (by omega) (by decide), nm_def, n_add1, n_cl (by omega), if_neg z]
          rfl)
    (fun a hI => by
      obtain ⟨kk, w0⟩ := a
      obtain ⟨g1, g2⟩ := hI
      simp only at g1 g2
      subst g1
      obtain ⟨⟨r1, r2⟩, e1, e2⟩ := lp_inv (β := Int32 × (Nat → Int32)) (body := bX0_waysWithNobodyBent_31 (nI V) ld (nI nm) st') nm
        (fun m a => a.1 = nI m ∧ ∀ S, S &&& V = S → a.2 S = nI (Wy (okm nd odd st ki we wo) m (fun j => S.testBit j)))
        (fun r => r.1 = nI (Wy (okm nd odd st ki we wo) nm (fun j => V.testBit j))) (fun r => some r) (a0 := (0, w0)) ⟨rfl, fun S hS => g2 S (by have := Nat.and_le_right (n := S) (m := V); omega)⟩ (by omega)
        (fun m hm a hJ => by
          obtain ⟨mm, w1⟩ := a
          obtain ⟨j1, j2⟩ := hJ
          simp only at j1 j2
          subst j1
          obtain ⟨w2, p1, p2⟩ := lp_invF (β := Nat → Int32) (γ := (Int32 × (Nat → Int32)) → Option (Int32 × (Nat → Int32))) (body := bX0_waysWithNobodyBent_47 (nI V) ld st' (nI m)) (V + 1)
            (fun i a => a.1 = nI (V + 1 - i) - 1 ∧ (∀ S, S < V + 1 - i → S &&& V = S → a.2 S = nI (Wy (okm nd odd st ki we wo) m (fun j => S.testBit j))) ∧ ∀ S, V + 1 - i ≤ S → S &&& V = S → a.2 S = nI (Wy (okm nd odd st ki we wo) (m + 1) (fun j => S.testBit j)))
            (fun r => ∀ S, S &&& V = S → r S = nI (Wy (okm nd odd st ki we wo) (m + 1) (fun j => S.testBit j))) (fun g r => g (nI (m + 1), r))
            (fun i hi a hQ => by
              obtain ⟨ii, w3⟩ := a
              obtain ⟨q1, q2, q3⟩ := hQ
              simp only at q1 q2 q3
              obtain ⟨s, hs⟩ : ∃ s, V + 1 - i = s + 1 := ⟨V - i, by omega⟩
              have hs2 : V + 1 - (i + 1) = s := by omega
              rw [hs] at q1 q2 q3
              rw [n_sub1 (by omega), show s + 1 - 1 = s by omega] at q1
              subst q1
              rw [hs2]
              have n0 : ¬ nI s < 0 := nI_pos (by omega)
              by_cases c : s &&& V = s
              · have ww := s_waysWith (m := m) (S := s) (wy := w3) h ho hL hst hb hm (by omega) (by rw [hVe]; exact c) (fun T hT hTs => q2 T (by omega) (by rw [hVe] at hTs; exact hTs))
                refine ⟨(nI s - 1, upd w3 s (nI (Wy (okm nd odd st ki we wo) (m + 1) (fun j => s.testBit j)))), ⟨rfl, fun S h1 h2 => ?_, fun S h1 h2 => ?_⟩, fun g K => ?_⟩
                · show upd w3 s _ S = _
                  rw [upd_ne (by omega)]
                  exact q2 S (by omega) h2
                · show upd w3 s _ S = _
                  by_cases e : S = s
                  · subst e
                    rw [upd_self]
                  · rw [upd_ne e]
                    exact q3 S (by omega) h2
                · rw [bX0_waysWithNobodyBent_47, if_neg n0, if_pos ((q_sub (by omega) hV).mpr c), ww, Option.bind_some, gin_nI (by omega) (by decide), nm_def, n_cl (by omega), i_m1]
              · refine ⟨(nI s - 1, w3), ⟨rfl, fun S h1 h2 => q2 S (by omega) h2, fun S h1 h2 => q3 S (Nat.lt_of_le_of_ne h1 (fun z => ?_)) h2⟩, fun g K => ?_⟩
                · subst z
                  exact c h2
                · rw [bX0_waysWithNobodyBent_47, if_neg n0, if_neg (fun q => c ((q_sub (by omega) hV).mp q)), nm_def, i_m1])
            (fun a hQ => by
              obtain ⟨ii, w3⟩ := a
              obtain ⟨q1, q2, q3⟩ := hQ
              simp only at q1 q2 q3
              rw [Nat.sub_self] at q1 q3
              subst q1
              refine ⟨w3, fun S hS => q3 S (by omega) hS, fun g K => ?_⟩
              rw [bX0_waysWithNobodyBent_47, if_pos (by decide), nm_def, n_add1])
            (V + 1) 0 (nI V, w1) (by omega) ⟨by show nI V = nI (V + 1) - 1; rw [n_sub1 (by omega), show V + 1 - 1 = V by omega], fun S h1 h2 => j2 S h2, fun S h1 h2 => by have := Nat.and_le_right (n := S) (m := V); omega⟩
          refine ⟨(nI (m + 1), w2), ⟨rfl, p1⟩, fun K => ?_⟩
          rw [bX0_waysWithNobodyBent_31, if_neg (by rw [n_le (by omega) (by omega)]; omega)]
          exact p2 K FU (by unfold FU; omega))
        (fun a hJ => by
          obtain ⟨mm, w1⟩ := a
          obtain ⟨j1, j2⟩ := hJ
          simp only at j1 j2
          subst j1
          refine ⟨(w1 V, w1), j2 V (Nat.and_self V), fun K => ?_⟩
          rw [bX0_waysWithNobodyBent_31, if_pos (Int32.le_refl _), gin_nI (by omega) (by decide), n_cl (by omega)])
      refine ⟨(r1, r2), e1, fun K => ?_⟩
      rw [bX0_waysWithNobodyBent_2, if_pos (by decide)]
      exact e2)
  simp only at e1
  subst e1
  exact ⟨r2, e2⟩
end P38
