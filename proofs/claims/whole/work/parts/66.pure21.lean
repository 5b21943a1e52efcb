/-! PURE, 21: needs -/
theorem RM_sb {nm nd dy dr m b v : Nat} {bu st ki we wo : Nat → Nat} {wr : Nat → Option Nat} {s : Nat → Int32} (h6 : nd ≤ 6) (h5 : nm ≤ 5) (hm : m < nm) (hR : RM nm nd dy dr bu st ki we wo wr s) : RM nm nd dy dr (va_up bu m b) (va_up st m v) ki we wo wr (upd (upd s (2 + m) (nI v)) (20 + m) (nI b)) := by
  obtain ⟨a1, a2, a3, a4, a5, a6⟩ := hR
  refine ⟨by rw [upd_ne (by omega), upd_ne (by omega), a1], by rw [upd_ne (by omega), upd_ne (by omega), a2], by rw [upd_ne (by omega), upd_ne (by omega), a3], by rw [upd_ne (by omega), upd_ne (by omega), a4], fun i hi => ?_, fun q hq => ?_⟩
  · by_cases e : i = m
    · subst e
      exact ⟨by rw [upd_self, va_up_self], by rw [upd_ne (by omega), upd_self, va_up_self]⟩
    · exact ⟨by rw [upd_ne (by omega), upd_ne (by omega), va_up_ne _ _ e, (a5 i hi).1], by rw [upd_ne (by omega), upd_ne (by omega), va_up_ne _ _ e, (a5 i hi).2]⟩
  · obtain ⟨b1, b2, b3, b4⟩ := a6 q hq
    exact ⟨by rw [upd_ne (by omega), upd_ne (by omega), b1], by rw [upd_ne (by omega), upd_ne (by omega), b2], by rw [upd_ne (by omega), upd_ne (by omega), b3], by rw [upd_ne (by omega), upd_ne (by omega), b4]⟩
theorem first_bad (P : Nat → Prop) [DecidablePred P] (n : Nat) : ∃ f, f ≤ n + 1 ∧ (∀ k, k < f → P k) ∧ (f = n + 1 ∨ ¬ P f) := by
  by_cases q : ∃ k, k ≤ n ∧ ¬ P k
  · obtain ⟨k, ⟨k1, k2⟩, k3⟩ := pk_least (fun k => k ≤ n ∧ ¬ P k) q
    exact ⟨k, by omega, fun i hi => Decidable.byContradiction (fun e => k3 i hi ⟨by omega, e⟩), Or.inr k2⟩
  · exact ⟨n + 1, by omega, fun i hi => Decidable.byContradiction (fun e => q ⟨i, by omega, e⟩), Or.inl rfl⟩
theorem s_stays {L0 L1 v b n f : Nat} {S : Nat → Nat} {D : Nat → Nat} (hD : ∀ k, D k = if k % 2 = 0 then L0 else L1) (h0 : S 0 = v) (hS : ∀ k, S (k + 1) = nxt (S k) b (D k)) (hb : ∀ k, S k ≤ b) (hb2 : b < 100000) (hL0 : L0 < 100000) (hL1 : L1 < 100000) (hn : n ≤ 40) (hf : f ≤ n + 1) (hok : ∀ k, k < f → D k ≤ S k) (hend : f = n + 1 ∨ ¬ D f ≤ S f) :
    fX5_staysUpright (nI v) (nI b) (nI L0) (nI L1) (nI n) = some (if f = n + 1 then 1 else 0) := by
  unfold fX5_staysUpright
  have hDl : ∀ k, D k < 100000 := fun k => by rw [hD]; split <;> omega
  refine lp_to (fun k => (nI (S k), nI k)) f (by show (nI (S 0), nI 0) = _; rw [h0]; rfl) (by omega) (fun k hk K => ?_) (fun K => ?_)
  · have q1 := hok k hk
    have q2 := hb k
    have q3 := hDl k
    rw [bX5_staysUpright_6, if_neg (show ¬ nI n < nI k from fun q => by have := (n_lt (by omega) (by omega)).mp q; omega), n_rem2 (by omega)]
    by_cases e : k % 2 = 0
    · have e2 : D k = L0 := by rw [hD, if_pos e]
      rw [e2] at q1 q3
      rw [e, if_pos (show nI 0 = 0 from rfl), if_pos (by rw [n_le (by omega) (by omega)]; exact q1), s_strengthNext (by omega) hb2 q3, Option.bind_some, nm_def, n_add1]
      show _ = K (nI (S (k + 1)), nI (k + 1))
      rw [hS, e2]
    · have e1 : k % 2 = 1 := by omega
      have e2 : D k = L1 := by rw [hD, if_neg e]
      rw [e2] at q1 q3
      rw [e1, if_neg (show ¬ nI 1 = 0 by decide), if_pos (by rw [n_le (by omega) (by omega)]; exact q1), s_strengthNext (by omega) hb2 q3, Option.bind_some, nm_def, n_add1]
      show _ = K (nI (S (k + 1)), nI (k + 1))
      rw [hS, e2]
  · rw [bX5_staysUpright_6]
    by_cases e : f = n + 1
    · rw [if_pos (by rw [n_lt (by omega) (by omega)]; omega), if_pos e]
    · have z := hend.resolve_left e
      have q2 := hb f
      have q3 := hDl f
      rw [if_neg (show ¬ nI n < nI f from fun q => by have := (n_lt (by omega) (by omega)).mp q; omega), n_rem2 (by omega), if_neg e]
      by_cases e' : f % 2 = 0
      · have e2 : D f = L0 := by rw [hD, if_pos e']
        rw [e2] at z q3
        rw [e', if_pos (show nI 0 = 0 from rfl), if_neg (by rw [n_le (by omega) (by omega)]; exact z)]
      · have e1 : f % 2 = 1 := by omega
        have e2 : D f = L1 := by rw [hD, if_neg e']
        rw [e2] at z q3
        rw [e1, if_neg (show ¬ nI 1 = 0 by decide), if_neg (by rw [n_le (by omega) (by omega)]; exact z)]
section P21
variable {men md day drw : Int32} {bu st ki we wo wr now : Nat → Int32}
theorem m_upright {nm nd dy dr m n f : Nat} {bu0 st0 ki0 we0 wo0 : Nat → Nat} {wr0 : Nat → Option Nat} {s : Nat → Int32} (h : okD nm nd ki0 we0 wo0 wr0) (hR : RM nm nd dy dr bu0 st0 ki0 we0 wo0 wr0 s) (hdy : dy ≤ 9999) (hs : ∀ i, i < nm → st0 i ≤ bu0 i ∧ bu0 i < 100000) (hm : m < nm) (hn : n ≤ 40) (hn1 : 1 ≤ n) (hf : f ≤ n + 1) (hok : ∀ k, k < f → loadN nd ki0 we0 wo0 wr0 m ((dy + k) % 2) ≤ stB (loadN nd ki0 we0 wo0 wr0) bu0 st0 dy m k) (hend : f = n + 1 ∨ ¬ loadN nd ki0 we0 wo0 wr0 m ((dy + f) % 2) ≤ stB (loadN nd ki0 we0 wo0 wr0) bu0 st0 dy m f) :
    ∃ t, fX6_isUpright (nI m) (nI n) s = some (if f = n + 1 then 1 else 0, t) := by
  have hst : ∀ k i, i < nm → stB (loadN nd ki0 we0 wo0 wr0) bu0 st0 dy i k < 100000 := fun k i hi => by
    have := stB_le (L := loadN nd ki0 we0 wo0 wr0) (dy := dy) (hs i hi).1 k
    have := (hs i hi).2
    omega
  have hbent : ∀ k, k < 20000 → fX6_isBent (nI m) (itD s k) = some (if loadN nd ki0 we0 wo0 wr0 m ((dy + k) % 2) ≤ stB (loadN nd ki0 we0 wo0 wr0) bu0 st0 dy m k then 0 else 1) := fun k hk => by
    obtain ⟨q1, -⟩ := itD_RM h hR (by omega) hs k hk
    exact m_isBent h q1 (by omega) hm (hst k m hm)
  unfold fX6_isUpright
  have b0 := hbent 0 (by omega)
  rw [show itD s 0 = s from rfl] at b0
  rw [b0, Option.bind_some]
  by_cases z0 : f = 0
  · subst z0
    have z := hend.resolve_left (by omega)
    rw [if_neg z, if_neg n10]
    refine ⟨s, lp_to (fun k => (0, nI k, s)) 0 rfl (by omega) (fun k hk K => by omega) (fun K => ?_)⟩
    rw [bX6_isUpright_20, if_neg (show ¬ nI n ≤ nI 0 from fun q => by have := (n_le (by omega) (by omega)).mp q; omega), if_pos n00, gbz0, if_neg (by omega)]
  · rw [if_pos (hok 0 (by omega)), if_pos n00]
    by_cases e : f = n + 1
    · refine ⟨itD s n, lp_to (fun k => (1, nI k, itD s k)) n rfl (by omega) (fun k hk K => ?_) (fun K => ?_)⟩
      · obtain ⟨-, q2⟩ := itD_RM h hR (by omega) hs k (by omega)
        rw [bX6_isUpright_20_1, if_neg (show ¬ nI n ≤ nI k from fun q => by have := (n_le (by omega) (by omega)).mp q; omega), if_neg n10, q2, Option.bind_some, hbent (k + 1) (by omega), Option.bind_some, if_pos (hok (k + 1) (by omega)), if_pos n00, nm_def, n_add1]
      · rw [bX6_isUpright_20_1, if_pos (by rw [n_le (by omega) (by omega)]; omega), gbz1, if_pos e]
    · have z := hend.resolve_left e
      refine ⟨itD s f, lp_to (fun k => (if k = f then 0 else 1, nI k, itD s k)) f (by show (if 0 = f then _ else _, nI 0, itD s 0) = _; rw [if_neg (by omega)]; rfl) (by omega) (fun k hk K => ?_) (fun K => ?_)⟩
      · obtain ⟨-, q2⟩ := itD_RM h hR (by omega) hs k (by omega)
        rw [if_neg (show ¬ k = f by omega), bX6_isUpright_20_1, if_neg (show ¬ nI n ≤ nI k from fun q => by have := (n_le (by omega) (by omega)).mp q; omega), if_neg n10, q2, Option.bind_some, hbent (k + 1) (by omega), Option.bind_some]
        by_cases e3 : k + 1 = f
        · rw [e3, if_neg z, if_neg n10, nm_def, n_add1, e3, if_pos rfl]
        · rw [if_pos (hok (k + 1) (by omega)), if_pos n00, nm_def, n_add1, if_neg e3]
      · rw [if_pos rfl, bX6_isUpright_20_1]
        by_cases e4 : nI n ≤ nI f
        · rw [if_pos e4, gbz0, if_neg e]
        · rw [if_neg e4, if_pos n00, gbz0, if_neg e]
theorem pub_needs {p1 p2 : Int32} {tri : Nat → Int32} (h : SY men md day drw bu st ki we wo wr now) : ∃ r tri', fX5_needs p1 p2 men md day bu ki we wo wr = some r ∧ fX6_needs p1 p2 now tri = some (r, tri') := by
  obtain ⟨nm, nd, dy, dr, bu0, st0, ki0, we0, wo0, wr0, ⟨hk, hb, hdy, hdr⟩, ⟨rfl, rfl, rfl, rfl, c5, c6, c7, c8⟩, hR⟩ := h
  have h5 := hk.1
  have h6 := hk.2.1
  have hs : ∀ i, i < nm → st0 i ≤ bu0 i ∧ bu0 i < 100000 := fun i hi => by have := hb i hi; omega
  unfold fX5_needs fX6_needs
  rcases ixc p1 (n := nm) (by omega) with ⟨m, hm, rfl⟩ | hn
  · rw [s_hasMan_y hm (by omega), m_isMan_y hR hm h5, Option.bind_some, Option.bind_some, if_neg n10, if_neg n10]
    by_cases a1 : p2 < 1
    · rw [if_pos a1, in_l a1]
      exact ⟨_, _, rfl, rfl⟩
    rw [if_neg a1]
    by_cases a2 : p2 ≤ 40
    · rw [if_pos a2, in_y a1 (Int32.not_lt.mpr a2), Option.bind_some, if_neg n10]
      obtain ⟨n, hn1, hn2, rfl⟩ := rng1 (hi := 40) (by decide) a1 (Int32.not_lt.mpr a2)
      have hL : ∀ o, o ≤ 1 → loadN nd ki0 we0 wo0 wr0 m o ≤ 276 := fun o ho => loadS_le hk ho
      rw [s_loadOn hk c7 c8 (by omega) (by omega), Option.bind_some, n_add1, s_loadOn hk c7 c8 (by omega) (by omega), Option.bind_some]
      have hbm := hb m hm
      obtain ⟨r, s, q1, q2, q3⟩ := lp_simx (b1 := bX5_needs_62 bu (nI m) (nI n) (nI (loadN nd ki0 we0 wo0 wr0 m (dy % 2))) (nI (loadN nd ki0 we0 wo0 wr0 m ((dy + 1) % 2)))) (b2 := bX6_needs_22 now (nI m) (nI n)) 201
        (fun v a b => a = nI v ∧ b.1 = nI v) (fun r s => r = s.1) (by omega)
        (fun v a b hv hrel => by
          obtain ⟨b1, tr⟩ := b
          obtain ⟨g1, g2⟩ := hrel
          simp only at g1 g2
          subst g1 g2
          by_cases v201 : v = 201
          · right
            subst v201
            exact ⟨-4, (-4, tr), fun K => by rw [bX5_needs_62, if_pos (by decide)], fun K => by rw [bX6_needs_22, if_pos (by decide)], rfl⟩
          · have z : ¬ 200 < nI v := fun q => by have := (n_lt (a := 200) (by omega) (by omega)).mp q; omega
            have hRb := RM_begin (t := tr) h6 h5 hR
            have hR' := RM_sb (b := if bu0 m < v then v else bu0 m) (v := v) h6 h5 hm hRb
            have hs' : ∀ i, i < nm → va_up st0 m v i ≤ va_up bu0 m (if bu0 m < v then v else bu0 m) i ∧ va_up bu0 m (if bu0 m < v then v else bu0 m) i < 100000 := fun i hi => by
              by_cases e : i = m
              · subst e
                rw [va_up_self, va_up_self]
                split <;> omega
              · rw [va_up_ne _ _ e, va_up_ne _ _ e]
                exact hs i hi
            obtain ⟨f, f1, f2, f3⟩ := first_bad (fun k => loadN nd ki0 we0 wo0 wr0 m ((dy + k) % 2) ≤ stB (loadN nd ki0 we0 wo0 wr0) (va_up bu0 m (if bu0 m < v then v else bu0 m)) (va_up st0 m v) dy m k) n
            obtain ⟨t, U2⟩ := m_upright hk hR' hdy hs' hm hn2 hn1 f1 f2 f3
            have U1 := s_stays (L0 := loadN nd ki0 we0 wo0 wr0 m (dy % 2)) (L1 := loadN nd ki0 we0 wo0 wr0 m ((dy + 1) % 2)) (v := v) (b := if bu0 m < v then v else bu0 m) (n := n) (f := f) (S := fun k => stB (loadN nd ki0 we0 wo0 wr0) (va_up bu0 m (if bu0 m < v then v else bu0 m)) (va_up st0 m v) dy m k) (D := fun k => loadN nd ki0 we0 wo0 wr0 m ((dy + k) % 2))
              (fun k => by
                by_cases e : k % 2 = 0
                · rw [if_pos e, show (dy + k) % 2 = dy % 2 by omega]
                · rw [if_neg e, show (dy + k) % 2 = (dy + 1) % 2 by omega])
              (by show va_up st0 m v m = v; rw [va_up_self]) (fun k => by show nxt _ (va_up bu0 m _ m) _ = _; rw [va_up_self])
              (fun k => by have := stB_le (L := loadN nd ki0 we0 wo0 wr0) (dy := dy) (hs' m hm).1 k; rw [va_up_self] at this; exact this)
              (by split <;> omega) (by have := hL (dy % 2) (by omega); omega) (by have := hL ((dy + 1) % 2) (by omega); omega) hn2 f1 f2 f3
            have B1 : (if bu m < nI v then nI v else bu m) = nI (if bu0 m < v then v else bu0 m) := by
              rw [c5 m hm]
              by_cases e : bu0 m < v
              · rw [if_pos e, if_pos (by rw [n_lt (by omega) (by omega)]; exact e)]
              · rw [if_neg e, if_neg (by rw [n_lt (by omega) (by omega)]; exact e)]
            have E1 : ∀ K, bX5_needs_62 bu (nI m) (nI n) (nI (loadN nd ki0 we0 wo0 wr0 m (dy % 2))) (nI (loadN nd ki0 we0 wo0 wr0 m ((dy + 1) % 2))) K (nI v) = if (if f = n + 1 then (1 : Int32) else 0) = 0 then K (nI (v + 1)) else some (nI v) := fun K => by
              rw [bX5_needs_62, if_neg z, gin_nI (by omega) (by decide), n_cl (by omega), B1, U1, Option.bind_some, nm_def, n_add1]
            have n2 : ∀ {α : Type} (A : Option α), gin (2 + nI m) 191 A = A := fun A => gin_add (c := 2) (by omega) (by decide)
            have n20 : ∀ {α : Type} (A : Option α), gin (20 + nI m) 191 A = A := fun A => gin_add (c := 20) (by omega) (by decide)
            have k2 : (2 + nI m).toNatClampNeg = 2 + m := cl_add (c := 2) (by omega)
            have k20 : (20 + nI m).toNatClampNeg = 20 + m := cl_add (c := 20) (by omega)
            have rb : upd (fun q => if q < 38 then now q else tr q) (2 + m) (nI v) (20 + m) = nI (bu0 m) := by
              rw [upd_ne (by omega)]
              exact (hRb.2.2.2.2.1 m hm).1
            have E2 : ∀ K, bX6_needs_22 now (nI m) (nI n) K (nI v, tr) = if (if f = n + 1 then (1 : Int32) else 0) = 0 then K (nI (v + 1), t) else some (nI v, t) := fun K => by
              rw [bX6_needs_22, if_neg z, m_begin, Option.bind_some, n2, n20, k2, k20, rb]
              by_cases e : bu0 m < v
              · rw [if_pos e] at U2
                rw [if_neg (show ¬ nI v ≤ nI (bu0 m) from fun q => by have := (n_le (by omega) (by omega)).mp q; omega), n20, U2, Option.bind_some, nm_def, n_add1]
              · rw [if_neg e] at U2
                rw [if_pos (show nI v ≤ nI (bu0 m) by rw [n_le (by omega) (by omega)]; omega), n20, n20, U2, Option.bind_some, nm_def, n_add1]
            by_cases e : f = n + 1
            · right
              exact ⟨nI v, (nI v, t), fun K => by rw [E1, if_pos e, if_neg n10], fun K => by rw [E2, if_pos e, if_neg n10], rfl⟩
            · left
              exact ⟨by omega, nI (v + 1), (nI (v + 1), t), fun K => by rw [E1, if_neg e, if_pos n00], fun K => by rw [E2, if_neg e, if_pos n00], rfl, rfl⟩)
        (a0 := 0) (b0 := (0, tri)) ⟨rfl, rfl⟩
      obtain ⟨s1, s2⟩ := s
      simp only at q3
      subst q3
      exact ⟨_, _, q1, q2⟩
    · rw [if_neg a2, in_h a1 (Int32.not_le.mp a2)]
      exact ⟨_, _, rfl, rfl⟩
  · rw [s_hasMan_n hn, m_isMan_n hR h5 hn]
    exact ⟨-1, tri, rfl, rfl⟩
end P21
