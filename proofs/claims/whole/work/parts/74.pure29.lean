/-! PURE, 29: state -/
section P29
variable {n : Nat} {ltr tap : Nat → Int32}
theorem both_medals {nm dr : Nat} {bu0 st0 : Nat → Nat} (h : TPN n ltr tap) (hnm : 1 ≤ nm) (h5 : nm ≤ 5) : ∀ (d i p f1 f2 : Nat) (num : Int32) (ki0 we0 wo0 : Nat → Nat) (wr0 : Nat → Option Nat) (ki we wo wr rd : Nat → Int32), i + d = 6 → 0 < d → d < f1 → d + 1 < f2 → p ≤ n → DR nm i dr bu0 st0 ki0 we0 wo0 wr0 ki we wo wr rd →
    (∃ q X Y, q ≤ n ∧ lp (bX4_readMedals_2 (nI n) ltr (nI nm)) f1 (nI i, nI p, nI i, ki, we, wo, wr) = some (0, nI q, X) ∧ lp (bX6_isState_51 (nI n) tap) f2 (1, nI p, num, rd) = some (0, nI q, Y)) ∨
    (∃ q j ki' we' wo' wr' ki0' we0' wo0' wr0' num' rd', q ≤ n ∧ lp (bX4_readMedals_2 (nI n) ltr (nI nm)) f1 (nI i, nI p, nI i, ki, we, wo, wr) = some (1, nI q, nI j, ki', we', wo', wr') ∧ lp (bX6_isState_51 (nI n) tap) f2 (1, nI p, num, rd) = (fX6_peek (nI n) (nI q) tap).bind (fun r7 => if r7.1 = 0 then (some (1, r7.2, num', rd')) else (some (0, r7.2, num', rd'))) ∧ DR nm j dr bu0 st0 ki0' we0' wo0' wr0' ki' we' wo' wr' rd') := by
  intro d
  induction d with
  | zero => intro i p f1 f2 num ki0 we0 wo0 wr0 ki we wo wr rd _ z; omega
  | succ d ih =>
    intro i p f1 f2 num ki0 we0 wo0 wr0 ki we wo wr rd hid _ hf1 hf2 hp hM
    obtain ⟨f1, rfl⟩ : ∃ g, f1 = g + 1 := ⟨f1 - 1, by omega⟩
    obtain ⟨f2, rfl⟩ : ∃ g, f2 = g + 1 + 1 := ⟨f2 - 2, by omega⟩
    have g25 : ∀ {α : Type} (A : Option α), gin 25 191 A = A := fun A => gin_nI (k := 25) (by decide) (by decide)
    have c25 : Int32.toNatClampNeg 25 = 25 := by decide
    rw [lp_succ, lp_succ (n := f2 + 1), bX4_readMedals_2, bX6_isState_51, if_neg (show ¬ 6 ≤ nI i from fun q => by have := (n_le (a := 6) (by omega) (by omega)).mp q; omega), if_neg n10]
    rcases both_medal (num := num) h hp (show i < 6 by omega) hnm h5 hM with ⟨q, X, Y, q1, q2, q3⟩ | ⟨q, ki', we', wo', wr', ki0', we0', wo0', wr0', num', rd', q1, q2, q3, q4⟩
    · left
      rw [q2, q3, Option.bind_some, Option.bind_some]
      exact ⟨q, _, _, q1, rfl, rfl⟩
    · rw [q2, q3, Option.bind_some, Option.bind_some]
      dsimp only
      have e25 : rd' 25 = nI (i + 1) := q4.2.2.2.1.2.1
      rw [if_neg n10, if_neg n10, g25, c25]
      by_cases e : i = 5
      · right
        subst e
        rw [if_pos (show nI 5 = 5 from rfl), if_pos (show (6 : Int32) ≤ rd' 25 by rw [e25]; decide)]
        exact ⟨q, 6, _, _, _, _, _, _, _, _, num', rd', q1, rfl, by rw [lp_succ, bX6_isState_51, if_pos n00], q4⟩
      · rw [if_neg (show ¬ nI i = 5 from fun z => e ((n_eq (b := 5) (by omega) (by omega)).mp z)), if_neg (show ¬ 6 ≤ rd' 25 from fun z => by rw [e25] at z; have := (n_le (a := 6) (by omega) (by omega)).mp z; omega)]
        obtain ⟨b, q', r1, r2, r3, r4, r5, -⟩ := both_sign (x := 44) h q1 (by omega) (by omega)
        rw [show fX4_takes 44 (nI n) (nI q) ltr = _ from r3, show fX6_isSign 44 (nI n) (nI q) tap = _ from r4, Option.bind_some, Option.bind_some]
        dsimp only
        rcases r5 with rfl | rfl
        · right
          rw [if_pos n00, if_pos n00]
          exact ⟨q', i + 1, _, _, _, _, _, _, _, _, num', rd', r2, rfl, by rw [lp_succ, bX6_isState_51, if_pos n00], q4⟩
        · rw [if_neg n10, if_neg n10, nm_def, n_add1]
          exact ih (i + 1) q' f1 (f2 + 1) num' _ _ _ _ _ _ _ _ _ (by omega) (by omega) (by omega) (by omega) r2 q4
theorem both_men {dr : Nat} (h : TPN n ltr tap) : ∀ (d i p f1 f2 : Nat) (num : Int32) (bu0 st0 : Nat → Nat) (bu st rd : Nat → Int32), i + d = 5 → 0 < d → d < f1 → d + 1 < f2 → p ≤ n → MR i dr bu0 st0 bu st rd →
    (∃ q X Y, q ≤ n ∧ lp (bX4_readMen_2 (nI n) ltr) f1 (nI i, nI p, nI i, bu, st) = some (0, nI q, X) ∧ lp (bX6_isState_2 (nI n) tap) f2 (1, nI p, num, rd) = some (0, nI q, Y)) ∨
    (∃ q j bu' st' bu0' st0' num' rd', q ≤ n ∧ 1 ≤ j ∧ j ≤ 5 ∧ lp (bX4_readMen_2 (nI n) ltr) f1 (nI i, nI p, nI i, bu, st) = some (1, nI q, nI j, bu', st') ∧ lp (bX6_isState_2 (nI n) tap) f2 (1, nI p, num, rd) = (fX6_isSign 59 (nI n) (nI q) tap).bind (fun r3 => nm (r3.1) (fun x4 => lp (bX6_isState_51 (nI n) tap) FU (x4, r3.2, num', rd'))) ∧ MR j dr bu0' st0' bu' st' rd') ∨
    (∃ q X Y, DG n tap q ∧ lp (bX4_readMen_2 (nI n) ltr) f1 (nI i, nI p, nI i, bu, st) = some (1, nI q, X) ∧ lp (bX6_isState_2 (nI n) tap) f2 (1, nI p, num, rd) = some (0, nI q, Y)) := by
  intro d
  induction d with
  | zero => intro i p f1 f2 num bu0 st0 bu st rd _ z; omega
  | succ d ih =>
    intro i p f1 f2 num bu0 st0 bu st rd hid _ hf1 hf2 hp hM
    obtain ⟨f1, rfl⟩ : ∃ g, f1 = g + 1 := ⟨f1 - 1, by omega⟩
    obtain ⟨f2, rfl⟩ : ∃ g, f2 = g + 1 + 1 := ⟨f2 - 2, by omega⟩
    have g19 : ∀ {α : Type} (A : Option α), gin 19 191 A = A := fun A => gin_nI (k := 19) (by decide) (by decide)
    have c19 : Int32.toNatClampNeg 19 = 19 := by decide
    rw [lp_succ, lp_succ (n := f2 + 1), bX4_readMen_2, bX6_isState_2, if_neg (show ¬ 5 ≤ nI i from fun q => by have := (n_le (a := 5) (by omega) (by omega)).mp q; omega), if_neg n10]
    rcases both_man h hp (show i < 5 by omega) hM with ⟨q, X, Y, q1, q2, q3⟩ | ⟨q, bu', st', bu0', st0', num', rd', q1, q2, q3, q4⟩ | ⟨q, X, Y, q1, q2, q3⟩
    · left
      rw [q2, q3, Option.bind_some, Option.bind_some]
      exact ⟨q, _, _, q1, rfl, rfl⟩
    · rw [q2, q3, Option.bind_some, Option.bind_some]
      dsimp only
      have e19 : rd' 19 = nI (i + 1) := q4.2.2.2.1.1
      rw [if_neg n10, if_neg n10, g19, c19]
      by_cases e : i = 4
      · right; left
        subst e
        rw [if_pos (show nI 4 = 4 from rfl), if_pos (show (5 : Int32) ≤ rd' 19 by rw [e19]; decide)]
        exact ⟨q, 5, _, _, _, _, num', rd', q1, by omega, by omega, rfl, by rw [lp_succ, bX6_isState_2, if_pos n00], q4⟩
      · rw [if_neg (show ¬ nI i = 4 from fun z => e ((n_eq (b := 4) (by omega) (by omega)).mp z)), if_neg (show ¬ 5 ≤ rd' 19 from fun z => by rw [e19] at z; have := (n_le (a := 5) (by omega) (by omega)).mp z; omega)]
        obtain ⟨b, q', r1, r2, r3, r4, r5, -⟩ := both_sign (x := 44) h q1 (by omega) (by omega)
        rw [show fX4_takes 44 (nI n) (nI q) ltr = _ from r3, show fX6_isSign 44 (nI n) (nI q) tap = _ from r4, Option.bind_some, Option.bind_some]
        dsimp only
        rcases r5 with rfl | rfl
        · right; left
          rw [if_pos n00, if_pos n00]
          exact ⟨q', i + 1, _, _, _, _, num', rd', r2, by omega, by omega, rfl, by rw [lp_succ, bX6_isState_2, if_pos n00], q4⟩
        · rw [if_neg n10, if_neg n10, nm_def, n_add1]
          exact ih (i + 1) q' f1 (f2 + 1) num' _ _ _ _ _ (by omega) (by omega) (by omega) (by omega) r2 q4
    · right; right
      rw [q2, q3, Option.bind_some, Option.bind_some]
      dsimp only
      rw [if_neg n10, if_pos n00]
      by_cases e : i = 4
      · subst e
        rw [if_pos (show nI 4 = 4 from rfl)]
        exact ⟨q, _, _, q1, rfl, rfl⟩
      · obtain ⟨b, q', r1, r2, r3, r4, r5, r6⟩ := both_sign (x := 44) h (Nat.le_of_lt q1.1) (by omega) (by omega)
        obtain ⟨rfl, rfl⟩ := r6 q1 (by omega)
        rw [if_neg (show ¬ nI i = 4 from fun z => e ((n_eq (b := 4) (by omega) (by omega)).mp z)), show fX4_takes 44 (nI n) (nI q') ltr = _ from r3, Option.bind_some]
        dsimp only
        rw [if_pos n00]
        exact ⟨q', _, _, q1, rfl, rfl⟩
theorem DR_0 {nm dr : Nat} {bu0 st0 : Nat → Nat} {bu st ki we wo wr rd : Nat → Int32} (h5 : nm ≤ 5) (h : MR nm dr bu0 st0 bu st rd) : DR nm 0 dr bu0 st0 (fun _ => 0) (fun _ => 0) (fun _ => 0) (fun _ => none) ki we wo wr rd :=
  ⟨⟨h5, by omega, fun z => by omega, fun d hd => by omega⟩, fun d hd => by omega, fun d hd => by omega, h.2.2.2.1, h.2.2.2.2⟩
theorem both_state {dr : Nat} {num : Int32} {bu st ki we wo wr rd : Nat → Int32} (h : TPN n ltr tap) (hM : MR 0 dr (fun _ => 0) (fun _ => 0) bu st rd) :
    (∃ q X Y, fX4_readState (nI n) ltr 0 0 bu st ki we wo wr = some (0, nI q, X) ∧ fX6_isState (nI n) 0 num tap rd = some (0, nI q, Y)) ∨
    (∃ q nm nd bu' st' ki' we' wo' wr' num' rd' bu0 st0 ki0 we0 wo0 wr0, 1 ≤ nm ∧ nm ≤ 5 ∧ fX4_readState (nI n) ltr 0 0 bu st ki we wo wr = some (1, nI q, nI nm, nI nd, bu', st', ki', we', wo', wr') ∧ fX6_isState (nI n) 0 num tap rd = some (1, nI q, num', rd') ∧ (∀ k, k < nm → st0 k ≤ bu0 k ∧ 1 ≤ bu0 k ∧ bu0 k ≤ 60) ∧ rS nm bu0 bu' ∧ rS nm st0 st' ∧ DR nm nd dr bu0 st0 ki0 we0 wo0 wr0 ki' we' wo' wr' rd') := by
  have h90 := h.1
  unfold fX4_readState fX6_isState fX4_readMen
  have key := both_men (dr := dr) h 5 0 0 FU FU num (fun _ => 0) (fun _ => 0) bu st rd (by omega) (by omega) (by unfold FU; omega) (by unfold FU; omega) (by omega) hM
  rcases key with ⟨q, X, Y, q1, q2, q3⟩ | ⟨q, j, bu', st', bu0', st0', num', rd', q1, j1, j5, q2, q3, q4⟩ | ⟨q, X, Y, q1, q2, q3⟩
  · left
    rw [show lp (bX4_readMen_2 (nI n) ltr) FU (0, 0, 0, bu, st) = _ from q2, show lp (bX6_isState_2 (nI n) tap) FU (1, 0, num, rd) = _ from q3]
    exact ⟨q, _, _, rfl, rfl⟩
  · rw [show lp (bX4_readMen_2 (nI n) ltr) FU (0, 0, 0, bu, st) = _ from q2, show lp (bX6_isState_2 (nI n) tap) FU (1, 0, num, rd) = _ from q3, Option.bind_some]
    dsimp only
    obtain ⟨b, q', r1, r2, r3, r4, r5, -⟩ := both_sign (x := 59) h q1 (by omega) (by omega)
    rw [if_neg n10, show fX4_takes 59 (nI n) (nI q) ltr = _ from r3, show fX6_isSign 59 (nI n) (nI q) tap = _ from r4, Option.bind_some, Option.bind_some, nm_def]
    dsimp only
    rcases r5 with rfl | rfl
    · obtain ⟨u, c, u1, u2, u3, u4, u5, -⟩ := both_peek h r2
      have e0 : lp (bX6_isState_51 (nI n) tap) FU (0, nI q', num', rd') = (if nI c = 0 then (some (1, nI u, num', rd')) else (some (0, nI u, num', rd'))) := lp_to (fun _ => (0, nI q', num', rd')) 0 rfl (by omega) (fun k hk K => by omega) (fun K => by rw [bX6_isState_51, if_pos n00, u4, Option.bind_some])
      rw [if_pos n00, u3, Option.bind_some, e0]
      dsimp only
      by_cases z : nI c = 0
      · right
        rw [if_pos z, if_pos z]
        exact ⟨u, j, 0, _, _, _, _, _, _, _, _, _, _, _, _, _, _, j1, j5, rfl, rfl, q4.1, q4.2.1, q4.2.2.1, DR_0 j5 q4⟩
      · left
        rw [if_neg z, if_neg z]
        exact ⟨u, _, _, rfl, rfl⟩
    · rw [if_neg n10]
      unfold fX4_readMedals
      have key2 := both_medals (dr := dr) (bu0 := bu0') (st0 := st0') h j1 j5 6 0 q' FU FU num' (fun _ => 0) (fun _ => 0) (fun _ => 0) (fun _ => none) ki we wo wr rd' (by omega) (by omega) (by unfold FU; omega) (by unfold FU; omega) r2 (DR_0 j5 q4)
      rcases key2 with ⟨u, X, Y, u1, u2, u3⟩ | ⟨u, k, ki', we', wo', wr', ki0', we0', wo0', wr0', num'', rd'', u1, u2, u3, u4⟩
      · left
        rw [show lp (bX4_readMedals_2 (nI n) ltr (nI j)) FU (0, nI q', 0, ki, we, wo, wr) = _ from u2, u3]
        exact ⟨u, _, _, rfl, rfl⟩
      · obtain ⟨t, c, t1, t2, t3, t4, t5, -⟩ := both_peek h u1
        rw [show lp (bX4_readMedals_2 (nI n) ltr (nI j)) FU (0, nI q', 0, ki, we, wo, wr) = _ from u2, u3, t4, Option.bind_some, Option.bind_some]
        dsimp only
        rw [if_neg n10, t3, Option.bind_some]
        dsimp only
        by_cases z : nI c = 0
        · right
          rw [if_pos z, if_pos z]
          exact ⟨t, j, k, _, _, _, _, _, _, _, _, _, _, _, _, _, _, j1, j5, rfl, rfl, q4.1, q4.2.1, q4.2.2.1, u4⟩
        · left
          rw [if_neg z, if_neg z]
          exact ⟨t, _, _, rfl, rfl⟩
  · left
    obtain ⟨b, q', r1, r2, r3, r4, r5, r6⟩ := both_sign (x := 59) h (Nat.le_of_lt q1.1) (by omega) (by omega)
    obtain ⟨rfl, rfl⟩ := r6 q1 (by omega)
    obtain ⟨u, c, u1, u2, u3, u4, u5, u6⟩ := both_peek h (Nat.le_of_lt q1.1)
    obtain rfl := u6 q1.1 (DG_ne q1)
    have cn0 : ¬ nI c = 0 := fun z => by
      have := (n_eq (b := 0) (by omega) (by omega)).mp z
      have := q1.1
      omega
    rw [show lp (bX4_readMen_2 (nI n) ltr) FU (0, 0, 0, bu, st) = _ from q2, show lp (bX6_isState_2 (nI n) tap) FU (1, 0, num, rd) = _ from q3, Option.bind_some]
    dsimp only
    rw [if_neg n10, show fX4_takes 59 (nI n) (nI u) ltr = _ from r3, Option.bind_some]
    dsimp only
    rw [if_pos n00, u3, Option.bind_some]
    dsimp only
    rw [if_neg cn0]
    exact ⟨u, _, _, rfl, rfl⟩
end P29
section P29b
variable {men md day drw kn nx : Int32} {bu st ki we wo wr now : Nat → Int32} {ke : Nat → Nat → Int32}
theorem pub_state {bu_t st_t ki_t we_t wo_t wr_t : Nat → Int32} {ln ltrM numM : Int32} {ltr tap rd : Nat → Int32} (h : SYH men md day drw bu st ki we wo wr kn nx ke now) (hT : TP ln ltrM ltr tap) :
    ∃ r men' md' day' drw' bu' st' ki' we' wo' wr' kn' b1 b2 b3 b4 b5 b6 b7 b8 b9 b10 plc' pos' num' now' rd', fX5_state men md day drw bu st ki we wo wr kn bu_t st_t ki_t we_t wo_t wr_t ln ltr = some (r, men', md', day', drw', bu', st', ki', we', wo', wr', kn', b1, b2, b3, b4, b5, b6, b7, b8, b9, b10, 0, plc') ∧ fX6_state ltrM numM tap now rd = some (r, 0, pos', num', now', rd') ∧ SYH men' md' day' drw' bu' st' ki' we' wo' wr' kn' nx ke now' := by
  obtain ⟨n, n90, rfl, rfl, hl⟩ := hT
  have hP : TPN n ltr tap := ⟨n90, hl⟩
  have hSYH := h
  obtain ⟨nm, nd, dy, dr, bu0, st0, ki0, we0, wo0, wr0, kn0, nx0, ⟨hk, hb, hdy, hdr⟩, ⟨rfl, rfl, rfl, rfl, c5, c6, c7, c8⟩, hR, rfl, rfl, hH⟩ := h
  have n1 : now 1 = nI dr := hR.2.2.2.1
  unfold fX5_state fX6_state fX1_clear
  have g1 : ∀ {α : Type} (A : Option α), gin 1 191 A = A := fun A => gin_nI (k := 1) (by decide) (by decide)
  have g19 : ∀ {α : Type} (A : Option α), gin 19 191 A = A := fun A => gin_nI (k := 19) (by decide) (by decide)
  have c1 : Int32.toNatClampNeg 1 = 1 := by decide
  have c19 : Int32.toNatClampNeg 19 = 19 := by decide
  have hM : MR 0 dr (fun _ => 0) (fun _ => 0) bu_t st_t (upd (fun q => if q < 191 then 0 else rd q) 1 (nI dr)) := by
    refine ⟨fun k hk => by omega, fun k hk => by omega, fun k hk => by omega, ⟨?_, ?_, ?_, upd_self, fun k hk => by omega, fun k hk => by omega⟩, ?_⟩
    · rw [upd_ne (by omega)]; rfl
    · rw [upd_ne (by omega)]; rfl
    · rw [upd_ne (by omega)]; rfl
    · rw [upd_ne (by omega)]; rfl
  have hlp : ∀ {F}, (∀ K, bX6_state_2 (nI n) numM tap now K (nI 191, fun q => if q < 191 then 0 else rd q) = F) → lp (bX6_state_2 (nI n) numM tap now) FU (0, rd) = F := fun {F} hF => by
    refine lp_to (fun k => (nI k, fun q => if q < k then 0 else rd q)) 191 ?_ (by omega) (fun k hk K => ?_) hF
    · show (nI 0, _) = (0, rd)
      congr 1
    · rw [bX6_state_2, if_neg (show ¬ 191 ≤ nI k from fun q => by have := (n_le (a := 191) (by omega) (by omega)).mp q; omega), gin_nI hk (by decide), nm_def, n_add1, n_cl (by omega)]
      congr 2
      funext q
      by_cases e : q = k
      · subst e
        rw [upd_self, if_pos (by omega)]
      · rw [upd_ne e]
        by_cases c : q < k
        · rw [if_pos c, if_pos (by omega)]
        · rw [if_neg c, if_neg (by omega)]
  rw [Option.bind_some]
  dsimp only
  rcases both_state (num := numM) (ki := ki_t) (we := we_t) (wo := wo_t) (wr := wr_t) hP hM with ⟨q, X, Y, q1, q2⟩ | ⟨q, nm', nd', bu', st', ki', we', wo', wr', num', rd', bu1, st1, ki1, we1, wo1, wr1, j1, j5, q1, q2, q3, q4, q5, q6⟩
  · rw [q1, Option.bind_some, nm_def, nm_def, if_pos n00]
    have E : lp (bX6_state_2 (nI n) numM tap now) FU (0, rd) = some (-20 - nI q, 0, nI q, Y.1, now, Y.2) := hlp (fun K => by
      rw [bX6_state_2, if_pos (by decide), g1, g1, c1, n1, q2, Option.bind_some, nm_def, if_pos n00])
    exact ⟨_, _, _, _, _, _, _, _, _, _, _, _, _, _, _, _, _, _, _, _, _, _, _, _, _, _, _, rfl, E, hSYH⟩
  · obtain ⟨c, d1, d2⟩ := m_bring_all (a := rd') (b := now)
    have h6 := q6.1.2.1
    have e19 : c 19 = nI nm' := by rw [d2 19 (by omega)]; exact q6.2.2.2.1.1
    rw [q1, Option.bind_some, nm_def, nm_def]
    dsimp only
    rw [if_neg n10, s_take, Option.bind_some]
    unfold fX2_forget
    rw [Option.bind_some]
    have t5 : rS nm' bu1 (va_cpy bu' bu 0 0 5) := fun i hi => by rw [pk_cpy_in (by omega) (by omega), show 0 + (i - 0) = i by omega]; exact q4 i hi
    have t6 : rS nm' st1 (va_cpy st' st 0 0 5) := fun i hi => by rw [pk_cpy_in (by omega) (by omega), show 0 + (i - 0) = i by omega]; exact q5 i hi
    have t7 : rD nd' ki1 we1 wo1 (va_cpy ki' ki 0 0 6) (va_cpy we' we 0 0 6) (va_cpy wo' wo 0 0 6) := fun i hi => by rw [pk_cpy_in (by omega) (by omega), pk_cpy_in (by omega) (by omega), pk_cpy_in (by omega) (by omega), show 0 + (i - 0) = i by omega]; exact q6.2.1 i hi
    have t8 : rW nd' wr1 (va_cpy wr' wr 0 0 6) := fun i hi => by rw [pk_cpy_in (by omega) (by omega), show 0 + (i - 0) = i by omega]; exact q6.2.2.1 i hi
    have E : lp (bX6_state_2 (nI n) numM tap now) FU (0, rd) = some (nI nm', 0, nI q, num', c, rd') := hlp (fun K => by
      rw [bX6_state_2, if_pos (by decide), g1, g1, c1, n1, q2, Option.bind_some, nm_def, if_neg n10, d1, Option.bind_some, g19, c19, e19])
    refine ⟨_, _, _, _, _, _, _, _, _, _, _, _, _, _, _, _, _, _, _, _, _, _, _, _, _, _, _, rfl, E, ?_⟩
    · refine ⟨nm', nd', 0, dr, bu1, st1, ki1, we1, wo1, wr1, 0, nx0, ⟨q6.1, q3, by omega, hdr⟩, ⟨rfl, rfl, rfl, rfl, ?_, ?_, ?_, ?_⟩, RM_kept j5 h6 q6.2.2.2.1 (fun q hq => d2 q (by omega)), rfl, rfl, HI_0 hH.2.1 (by rw [d2 38 (by omega)]; exact q6.2.2.2.2)⟩
      · exact t5
      · exact t6
      · exact t7
      · exact t8
end P29b
