/-! PURE, 8: men, medals, polishing -/
theorem in_y {p lo hi : Int32} (h1 : ¬ p < lo) (h2 : ¬ hi < p) : fX6_in p lo hi = some 1 := by unfold fX6_in; rw [if_neg h1, if_neg h2]
theorem in_l {p lo hi : Int32} (h1 : p < lo) : fX6_in p lo hi = some 0 := by unfold fX6_in; rw [if_pos h1]
theorem in_h {p lo hi : Int32} (h1 : ¬ p < lo) (h2 : hi < p) : fX6_in p lo hi = some 0 := by unfold fX6_in; rw [if_neg h1, if_pos h2]
theorem rng1 {p : Int32} {hi : Nat} (hh : hi < 100000) (h1 : ¬ p < 1) (h2 : ¬ nI hi < p) : ∃ n, 1 ≤ n ∧ n ≤ hi ∧ p = nI n := by
  have h0 : ¬ p < 0 := fun q => h1 (Int32.lt_trans q (by decide))
  obtain ⟨n, hn, rfl⟩ := rng hh h0 h2
  refine ⟨n, ?_, hn, rfl⟩
  rw [show (1 : Int32) = nI 1 from rfl, n_lt (by omega) (by omega)] at h1
  omega
section P8
variable {men md day drw kn nx : Int32} {bu st ki we wo wr now : Nat → Int32} {ke : Nat → Nat → Int32}
theorem pub_man {p1 : Int32} (h : SYH men md day drw bu st ki we wo wr kn nx ke now) : ∃ r men' bu' st' kn' now', fX5_man p1 men bu st kn = some (r, men', bu', st', kn') ∧ fX6_man p1 now = some (r, now') ∧ SYH men' md day drw bu' st' ki we wo wr kn' nx ke now' := by
  have h0 := h
  obtain ⟨nm, nd, dy, dr, bu0, st0, ki0, we0, wo0, wr0, kn0, nx0, ⟨hk, hb, hdy, hdr⟩, ⟨rfl, rfl, rfl, rfl, c5, c6, c7, c8⟩, hR, rfl, rfl, hH⟩ := h
  have h5 := hk.1
  have h6 := hk.2.1
  unfold fX5_man fX6_man
  by_cases a1 : p1 < 1
  · rw [if_pos a1, in_l a1]
    exact ⟨-1, _, _, _, _, _, rfl, rfl, h0⟩
  rw [if_neg a1]
  by_cases a2 : p1 ≤ 60
  · obtain ⟨n, hn1, hn, rfl⟩ := rng1 (hi := 60) (by decide) a1 (Int32.not_lt.mpr a2)
    have c19 : Int32.toNatClampNeg 19 = 19 := by decide
    have c38 : Int32.toNatClampNeg 38 = 38 := by decide
    have g19 : ∀ {α : Type} (A : Option α), gin 19 191 A = A := fun A => gin_nI (k := 19) (by decide) (by decide)
    have g38 : ∀ {α : Type} (A : Option α), gin 38 191 A = A := fun A => gin_nI (k := 38) (by decide) (by decide)
    rw [if_pos a2, in_y a1 (Int32.not_lt.mpr a2), Option.bind_some, if_neg n10, g19, c19, hR.1]
    by_cases z : nm < 5
    · rw [if_pos (show nI nm < 5 from (n_lt (b := 5) (by omega) (by omega)).mpr z), if_neg (show ¬ nI nm = 5 from fun q => by have := (n_eq (b := 5) (by omega) (by omega)).mp q; omega), g38, c38]
      unfold fX2_forget fX1_addMan fX6_addMan
      have e20 : (20 + nI nm : Int32) = nI (20 + nm) := n_add 20 nm
      have e2 : (2 + nI nm : Int32) = nI (2 + nm) := n_add 2 nm
      have k20 : (nI (20 + nm)).toNatClampNeg = 20 + nm := n_cl (by omega)
      have k2 : (nI (2 + nm)).toNatClampNeg = 2 + nm := n_cl (by omega)
      have kk : (nI nm).toNatClampNeg = nm := n_cl (by omega)
      have g20 : ∀ {α : Type} (A : Option α), gin (nI (20 + nm)) 191 A = A := fun A => gin_nI (by omega) (by decide)
      have g2 : ∀ {α : Type} (A : Option α), gin (nI (2 + nm)) 191 A = A := fun A => gin_nI (by omega) (by decide)
      have g5 : ∀ {α : Type} (A : Option α), gin (nI nm) 5 A = A := fun A => gin_nI (by omega) (by decide)
      have u1 : upd now 38 0 19 = nI nm := by rw [pk_un (by decide), hR.1]
      have u2 : upd (upd (upd now 38 0) (20 + nm) (nI n)) (2 + nm) (nI n) 19 = nI nm := by rw [pk_un (by omega), pk_un (by omega), u1]
      have hs1 : nI (nm + 1) - 1 = nI nm := by rw [n_sub1 (by omega), Nat.add_sub_cancel]
      simp only [Option.bind_some, nm_def, g19, c19, u1, e20, e2, k20, k2, g20, g2, u2, n_add1, if_pos (show nI nm < 5 from (n_lt (b := 5) (by omega) (by omega)).mpr z), g5, kk, hs1]
      refine ⟨_, _, _, _, _, _, rfl, rfl, nm + 1, nd, dy, dr, va_up bu0 nm n, va_up st0 nm n, ki0, we0, wo0, wr0, 0, nx0, ⟨⟨by omega, h6, fun _ => by omega, fun d hd => ?_⟩, fun i hi => ?_, hdy, hdr⟩, ⟨rfl, rfl, rfl, rfl, fun i hi => ?_, fun i hi => ?_, c7, c8⟩, ?_, rfl, rfl, HI_0 hH.2.1 ?_⟩
      · obtain ⟨q1, q2, q3, q4, q5⟩ := hk.2.2.2 d hd
        exact ⟨q1, q2, q3, by omega, fun m e => by have := q5 m e; omega⟩
      · by_cases e : i = nm
        · subst e
          rw [va_up_self, va_up_self]
          omega
        · rw [va_up_ne _ _ e, va_up_ne _ _ e]
          exact hb i (by omega)
      · by_cases e : i = nm
        · subst e
          rw [va_up_self, pk_us]
        · rw [va_up_ne _ _ e, pk_un e, c5 i (by omega)]
      · by_cases e : i = nm
        · subst e
          rw [va_up_self, pk_us]
        · rw [va_up_ne _ _ e, pk_un e, c6 i (by omega)]
      · obtain ⟨r1, r2, r3, r4, r5, r6⟩ := hR
        refine ⟨pk_us, by rw [pk_un (by omega), pk_un (by omega), pk_un (by omega), pk_un (by omega), r2], by rw [pk_un (by omega), pk_un (by omega), pk_un (by omega), pk_un (by omega), r3], by rw [pk_un (by omega), pk_un (by omega), pk_un (by omega), pk_un (by omega), r4], fun i hi => ?_, fun d hd => ?_⟩
        · by_cases e : i = nm
          · subst e
            rw [va_up_self, va_up_self]
            exact ⟨by rw [pk_un (by omega), pk_un (by omega), pk_us], by rw [pk_un (by omega), pk_us]⟩
          · rw [va_up_ne _ _ e, va_up_ne _ _ e]
            exact ⟨by rw [pk_un (by omega), pk_un (by omega), pk_un (by omega), pk_un (by omega), (r5 i (by omega)).1], by rw [pk_un (by omega), pk_un (by omega), pk_un (by omega), pk_un (by omega), (r5 i (by omega)).2]⟩
        · obtain ⟨q1, q2, q3, q4⟩ := r6 d hd
          exact ⟨by rw [pk_un (by omega), pk_un (by omega), pk_un (by omega), pk_un (by omega), q1], by rw [pk_un (by omega), pk_un (by omega), pk_un (by omega), pk_un (by omega), q2], by rw [pk_un (by omega), pk_un (by omega), pk_un (by omega), pk_un (by omega), q3], by rw [pk_un (by omega), pk_un (by omega), pk_un (by omega), pk_un (by omega), q4]⟩
      · rw [pk_un (by omega), pk_un (by omega), pk_un (by omega), pk_us]
        rfl
    · rw [if_neg (show ¬ nI nm < 5 from fun q => z ((n_lt (b := 5) (by omega) (by omega)).mp q)), if_pos (show nI nm = 5 by rw [show nm = 5 by omega]; rfl)]
      exact ⟨-3, _, _, _, _, _, rfl, rfl, h0⟩
  · rw [if_neg a2, in_h a1 (Int32.not_le.mp a2)]
    exact ⟨-1, _, _, _, _, _, rfl, rfl, h0⟩
theorem pub_done {p1 : Int32} {tri : Nat → Int32} (h : SY men md day drw bu st ki we wo wr now) : ∃ r tri', fX5_done p1 men md day bu st ki we wo wr = some r ∧ fX6_done p1 now tri = some (r, tri') := by
  obtain ⟨nm, nd, dy, dr, bu0, st0, ki0, we0, wo0, wr0, ⟨hk, hb, hdy, hdr⟩, ⟨rfl, rfl, rfl, rfl, c5, c6, c7, c8⟩, hR⟩ := h
  have h5 := hk.1
  have h6 := hk.2.1
  have hs : ∀ i, i < nm → st0 i ≤ bu0 i ∧ bu0 i < 100000 := fun i hi => by have := hb i hi; omega
  unfold fX5_done fX6_done
  rcases ixc p1 (n := nm) (by omega) with ⟨j, hj, rfl⟩ | hn
  · have hRb := RM_begin (t := tri) h6 h5 hR
    rw [s_hasMan_y hj (by omega), m_isMan_y hR hj h5, Option.bind_some, Option.bind_some, if_neg n10, if_neg n10, m_begin, Option.bind_some, gin_nI (by omega) (by decide), nm_def, n_cl (by omega), c6 j hj]
    have hst := fun k => stB_le (L := loadN nd ki0 we0 wo0 wr0) (dy := dy) (hs j hj).1 k
    have hbj := (hs j hj).2
    -- where the class and the reference stop: the first k at which nothing is left, or 61
    obtain ⟨n, hn, hlt, hend⟩ : ∃ n, n ≤ 61 ∧ (∀ k, k < n → stB (loadN nd ki0 we0 wo0 wr0) bu0 st0 dy j k ≠ 0) ∧ (n = 61 ∨ stB (loadN nd ki0 we0 wo0 wr0) bu0 st0 dy j n = 0) := by
      by_cases q : ∃ k, k < 61 ∧ stB (loadN nd ki0 we0 wo0 wr0) bu0 st0 dy j k = 0
      · obtain ⟨k, ⟨k1, k2⟩, k3⟩ := pk_least (fun k => k < 61 ∧ stB (loadN nd ki0 we0 wo0 wr0) bu0 st0 dy j k = 0) q
        exact ⟨k, by omega, fun i hi e => k3 i hi ⟨by omega, e⟩, Or.inr k2⟩
      · exact ⟨61, by omega, fun i hi e => q ⟨i, hi, e⟩, Or.inl rfl⟩
    refine ⟨if n = 61 then -4 else nI n, itD (fun q => if q < 38 then now q else tri q) n, ?_, ?_⟩
    · refine lp_to (fun k => (nI (stB (loadN nd ki0 we0 wo0 wr0) bu0 st0 dy j k), nI k)) n rfl (by omega) (fun k hk2 K => ?_) (fun K => ?_)
      · have := hst k
        rw [bX5_done_25, if_neg (show ¬ 60 < nI k from fun q => by have := (n_lt (a := 60) (by omega) (by omega)).mp q; omega), if_neg (show ¬ nI _ = 0 from fun q => hlt k hk2 ((n_eq (b := 0) (by omega) (by omega)).mp q)), n_add, s_strengthAfter hk c7 c8 c5 (fun i hi => (hs i hi).2) hj (by omega) (by omega), Option.bind_some, nm_def, n_add1]
        rfl
      · rw [bX5_done_25]
        rcases hend with e | e
        · subst e
          rw [if_pos (show (60 : Int32) < nI 61 by decide), if_pos rfl]
        · by_cases e2 : n = 61
          · subst e2
            rw [if_pos (show (60 : Int32) < nI 61 by decide), if_pos rfl]
          · rw [if_neg (show ¬ 60 < nI n from fun q => by have := (n_lt (a := 60) (by omega) (by omega)).mp q; omega), e, if_pos (show nI 0 = 0 from rfl), if_neg e2]
    · refine lp_to (fun k => (nI k, itD (fun q => if q < 38 then now q else tri q) k)) n rfl (by omega) (fun k hk2 K => ?_) (fun K => ?_)
      · have := hst k
        obtain ⟨q1, q2⟩ := itD_RM hk hRb (by omega) hs k (by omega)
        rw [bX6_done_16, if_neg (show ¬ 60 < nI k from fun q => by have := (n_lt (a := 60) (by omega) (by omega)).mp q; omega), show (2 : Int32) = nI 2 from rfl, gin_add (by omega) (by decide), cl_add (by omega), (q1.2.2.2.2.1 j hj).2, if_neg (show ¬ nI _ = 0 from fun q => hlt k hk2 ((n_eq (b := 0) (by omega) (by omega)).mp q)), q2, Option.bind_some, nm_def, n_add1]
      · obtain ⟨q1, q2⟩ := itD_RM hk hRb (by omega) hs n (by omega)
        rw [bX6_done_16]
        by_cases e2 : n = 61
        · subst e2
          rw [if_pos (show (60 : Int32) < nI 61 by decide), if_pos rfl]
        · have e := hend.resolve_left e2
          rw [if_neg (show ¬ 60 < nI n from fun q => by have := (n_lt (a := 60) (by omega) (by omega)).mp q; omega), show (2 : Int32) = nI 2 from rfl, gin_add (by omega) (by decide), cl_add (by omega), (q1.2.2.2.2.1 j hj).2, if_pos (show nI ((fun i => stB (loadN nd ki0 we0 wo0 wr0) bu0 st0 dy i n) j) = 0 by show nI (stB (loadN nd ki0 we0 wo0 wr0) bu0 st0 dy j n) = 0; rw [e]; rfl), if_neg e2]
  · rw [s_hasMan_n hn, m_isMan_n hR h5 hn]
    exact ⟨-1, tri, rfl, rfl⟩
end P8
