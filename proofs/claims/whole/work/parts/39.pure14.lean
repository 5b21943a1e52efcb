/-! PURE, 14: image, restore, type, ever -/
theorem s_take {bu st ki we wo wr bu2 st2 ki2 we2 wo2 wr2 : Nat → Int32} {men md day drw : Int32} : fX1_take bu st ki we wo wr men md day drw bu2 st2 ki2 we2 wo2 wr2 = some (men, md, day, drw, va_cpy bu2 bu 0 0 5, va_cpy st2 st 0 0 5, va_cpy ki2 ki 0 0 6, va_cpy we2 we 0 0 6, va_cpy wo2 wo 0 0 6, va_cpy wr2 wr 0 0 6) := by
  unfold fX1_take
  have g5 : ∀ {α : Type} (A : Option α), gcp 0 0 5 5 5 A = A := fun A => gcp_n (sp := 0) (dp := 0) (n := 5) (by decide) (by decide) (by decide) (by decide)
  have g6 : ∀ {α : Type} (A : Option α), gcp 0 0 6 6 6 A = A := fun A => gcp_n (sp := 0) (dp := 0) (n := 6) (by decide) (by decide) (by decide) (by decide)
  have c0 : Int32.toNatClampNeg 0 = 0 := by decide
  have c5 : Int32.toNatClampNeg 5 = 5 := by decide
  have c6 : Int32.toNatClampNeg 6 = 6 := by decide
  rw [g5, g5, g6, g6, g6, g6, c0, c5, c6]
theorem s_take2 {ke ke2 : Nat → Nat → Int32} {kn nx : Int32} : ∃ ke3, fX2_take ke kn nx ke2 = some (kn, nx, ke3) ∧ ∀ j, j < 8 → ∀ q, q < 19 → ke3 j q = ke2 j q := by
  refine ⟨fun j => if j < 8 then va_cpy (ke2 j) (ke j) 0 0 19 else ke j, ?_, fun j hj q hq => ?_⟩
  · unfold fX2_take
    have g9 : ∀ {α : Type} (A : Option α), gcp 0 0 19 19 19 A = A := fun A => gcp_n (sp := 0) (dp := 0) (n := 19) (by decide) (by decide) (by decide) (by decide)
    have c0 : Int32.toNatClampNeg 0 = 0 := by decide
    have c19 : Int32.toNatClampNeg 19 = 19 := by decide
    refine lp_to (fun k => (nI k, fun j => if j < k then va_cpy (ke2 j) (ke j) 0 0 19 else ke j)) 8 ?_ (by omega) (fun k hk K => ?_) (fun K => ?_)
    · show (nI 0, _) = (0, ke)
      congr 1
    · rw [bX2_take_2, if_neg (show ¬ 8 ≤ nI k from fun q => by have := (n_le (a := 8) (by omega) (by omega)).mp q; omega), gin_nI hk (by decide), gin_nI hk (by decide), g9, nm_def, n_add1, n_cl (by omega), c0, c19, if_neg (Nat.lt_irrefl k)]
      congr 2
      funext j
      by_cases e : j = k
      · subst e
        rw [va_up_self, if_pos (by omega)]
      · rw [va_up_ne _ _ e]
        by_cases c : j < k
        · rw [if_pos c, if_pos (by omega)]
        · rw [if_neg c, if_neg (by omega)]
    · rw [bX2_take_2, if_pos (by decide)]
  · show (if j < 8 then va_cpy (ke2 j) (ke j) 0 0 19 else ke j) q = _
    rw [if_pos hj, pk_cpy_in (by omega) (by omega), show 0 + (q - 0) = q by omega]
theorem SYH_copy {men md day drw kn nx : Int32} {bu st ki we wo wr now bu2 st2 ki2 we2 wo2 wr2 now2 : Nat → Int32} {ke ke2 : Nat → Nat → Int32} (h : SYH men md day drw bu st ki we wo wr kn nx ke now) (hk2 : ∀ j, j < 8 → ∀ q, q < 19 → ke2 j q = ke j q) (hn : ∀ q, q < 191 → now2 q = now q) : SYH men md day drw (va_cpy bu bu2 0 0 5) (va_cpy st st2 0 0 5) (va_cpy ki ki2 0 0 6) (va_cpy we we2 0 0 6) (va_cpy wo wo2 0 0 6) (va_cpy wr wr2 0 0 6) kn nx ke2 now2 := by
  obtain ⟨nm, nd, dy, dr, bu0, st0, ki0, we0, wo0, wr0, kn0, nx0, ⟨hk, hb, hdy, hdr⟩, ⟨rfl, rfl, rfl, rfl, c5, c6, c7, c8⟩, hR, rfl, rfl, k1, k2, k3, k4⟩ := h
  have h5 := hk.1
  have h6 := hk.2.1
  have C : ∀ {f g : Nat → Int32} {n i : Nat}, i < n → va_cpy f g 0 0 n i = f i := fun {f g n i} h => by rw [pk_cpy_in (by omega) (by omega), show 0 + (i - 0) = i by omega]
  refine ⟨nm, nd, dy, dr, bu0, st0, ki0, we0, wo0, wr0, kn0, nx0, ⟨hk, hb, hdy, hdr⟩, ⟨rfl, rfl, rfl, rfl, fun i hi => by rw [C (by omega), c5 i hi], fun i hi => by rw [C (by omega), c6 i hi], fun d hd => ?_, fun d hd => by rw [C (by omega), c8 d hd]⟩, RM_kept h5 h6 hR (fun q hq => hn q (by omega)), rfl, rfl, k1, k2, by rw [hn _ (by omega), k3], fun i hi => ?_⟩
  · rw [C (by omega), C (by omega), C (by omega)]
    exact c7 d hd
  · obtain ⟨st3, we3, wr3, dy3, dr3, hA3, ⟨b1, b2, b3, b4⟩, f2, f3, f4, f5⟩ := k4 i hi
    exact ⟨st3, we3, wr3, dy3, dr3, hA3, ⟨fun j hj => by rw [hk2 _ (by omega) _ (by omega), b1 j hj], fun d hd => ⟨by rw [hk2 _ (by omega) _ (by omega), (b2 d hd).1], by rw [hk2 _ (by omega) _ (by omega), (b2 d hd).2]⟩, by rw [hk2 _ (by omega) _ (by omega), b3], by rw [hk2 _ (by omega) _ (by omega), b4]⟩, by rw [hn _ (by omega), f2], by rw [hn _ (by omega), f3], fun j hj => by rw [hn _ (by omega), f4 j hj], fun d hd => ⟨by rw [hn _ (by omega), (f5 d hd).1], by rw [hn _ (by omega), (f5 d hd).2]⟩⟩
theorem m_bring_all {a b : Nat → Int32} : ∃ c, fX6_bring_d 0 0 191 191 a b = some c ∧ ∀ q, q < 191 → c q = a q := by
  refine ⟨_, m_bring_d (i := 0) (j := 0) (n := 191) (by decide) (by decide) (by decide), fun q hq => ?_⟩
  show (if 0 ≤ q ∧ q < 0 + 191 then a (0 + (q - 0)) else b q) = a q
  rw [if_pos (by omega), show 0 + (q - 0) = q by omega]
section P14
variable {men md day drw kn nx : Int32} {bu st ki we wo wr now : Nat → Int32} {ke : Nat → Nat → Int32}
variable {men2 md2 day2 drw2 kn2 nx2 : Int32} {bu2 st2 ki2 we2 wo2 wr2 kp : Nat → Int32} {ke2 : Nat → Nat → Int32}
theorem pub_image (h : SYH men md day drw bu st ki we wo wr kn nx ke now) : ∃ bu3 st3 ki3 we3 wo3 wr3 ke3 kp3, fX5_image men md day drw bu st ki we wo wr kn nx ke bu2 st2 ki2 we2 wo2 wr2 ke2 = some (1, 1, men, md, day, drw, bu3, st3, ki3, we3, wo3, wr3, kn, nx, ke3) ∧ fX6_image now kp = some (1, 1, kp3) ∧ SYH men md day drw bu3 st3 ki3 we3 wo3 wr3 kn nx ke3 kp3 := by
  obtain ⟨ke3, e1, e2⟩ := s_take2 (ke := ke2) (ke2 := ke) (kn := kn) (nx := nx)
  obtain ⟨kp3, e3, e4⟩ := m_bring_all (a := now) (b := kp)
  unfold fX5_image fX6_image
  rw [s_take, Option.bind_some, e1, Option.bind_some, e3, Option.bind_some]
  exact ⟨_, _, _, _, _, _, _, _, rfl, rfl, SYH_copy h e2 e4⟩
theorem pub_restore {img isk : Int32} (h : SYH men md day drw bu st ki we wo wr kn nx ke now) (hi : img = isk) (hS : img = 0 ∨ SYH men2 md2 day2 drw2 bu2 st2 ki2 we2 wo2 wr2 kn2 nx2 ke2 kp) : ∃ r men3 md3 day3 drw3 bu3 st3 ki3 we3 wo3 wr3 kn3 nx3 ke3 now3, fX5_restore img men md day drw bu st ki we wo wr kn nx ke men2 md2 day2 drw2 bu2 st2 ki2 we2 wo2 wr2 kn2 nx2 ke2 = some (r, men3, md3, day3, drw3, bu3, st3, ki3, we3, wo3, wr3, kn3, nx3, ke3) ∧ fX6_restore isk now kp = some (r, now3) ∧ SYH men3 md3 day3 drw3 bu3 st3 ki3 we3 wo3 wr3 kn3 nx3 ke3 now3 := by
  subst hi
  unfold fX5_restore fX6_restore
  by_cases c : img = 0
  · rw [if_pos c, if_pos c]
    exact ⟨_, _, _, _, _, _, _, _, _, _, _, _, _, _, _, rfl, rfl, h⟩
  · have hS := hS.resolve_left c
    obtain ⟨ke3, e1, e2⟩ := s_take2 (ke := ke) (ke2 := ke2) (kn := kn2) (nx := nx2)
    obtain ⟨kp3, e3, e4⟩ := m_bring_all (a := kp) (b := now)
    rw [if_neg c, if_neg c, s_take, Option.bind_some, e1, Option.bind_some, e3, Option.bind_some]
    exact ⟨_, _, _, _, _, _, _, _, _, _, _, _, _, _, _, rfl, rfl, SYH_copy hS e2 e4⟩
end P14
/-- the tape, on both sides -/
def TP (ln ltrM : Int32) (ltr tap : Nat → Int32) : Prop := ∃ n, n ≤ 90 ∧ ln = nI n ∧ ltrM = nI n ∧ ∀ i, i < n → ltr i = tap i ∧ ∃ c, 32 ≤ c ∧ c ≤ 126 ∧ tap i = nI c
theorem ch_id {c : Nat} (h : c < 65536) : (Int32.toUInt32 (nI c) % 65536).toInt32 = nI c := by
  rw [pk_char, pk_tn (by omega), Nat.mod_eq_of_lt h]
theorem pub_type {p1 ln ltrM : Int32} {ltr tap : Nat → Int32} (h : TP ln ltrM ltr tap) : ∃ r ln' ltrM' ltr' tap', fX5_type p1 ln ltr = some (r, ln', ltr') ∧ fX6_type p1 ltrM tap = some (r, ltrM', tap') ∧ TP ln' ltrM' ltr' tap' := by
  have h0 := h
  obtain ⟨n, hn, rfl, rfl, ht⟩ := h
  unfold fX5_type fX6_type
  by_cases a1 : p1 < 32
  · rw [if_pos a1, in_l a1]
    exact ⟨-1, _, _, _, _, rfl, rfl, h0⟩
  rw [if_neg a1]
  by_cases a2 : p1 ≤ 126
  · have a0 : ¬ p1 < 0 := fun q => a1 (Int32.lt_trans q (by decide))
    obtain ⟨c, hc, rfl⟩ := rng' (hi := 126) (by decide) a0 a2
    have hc32 : 32 ≤ c := by
      rw [show (32 : Int32) = nI 32 from rfl, n_lt (by omega) (by omega)] at a1
      omega
    have hnar : vp_nar .char (nI c) = nI c := by
      have := pk_vc (nI c)
      rwa [ch_id (by omega)] at this
    rw [if_pos a2, in_y a1 (Int32.not_lt.mpr a2), Option.bind_some, if_neg n10, ch_id (by omega)]
    unfold fX4_add
    by_cases z : n < 90
    · rw [if_pos (show nI n < 90 from (n_lt (b := 90) (by omega) (by omega)).mpr z), gin_nI z (by decide), Option.bind_some, if_neg n10, if_neg (show ¬ nI n = 90 from fun q => by have := (n_eq (b := 90) (by omega) (by omega)).mp q; omega), gin_nI z (by decide), n_cl (by omega), hnar, n_add1]
      refine ⟨nI (n + 1), nI (n + 1), nI (n + 1), upd ltr n (nI c), upd tap n (nI c), rfl, rfl, n + 1, by omega, rfl, rfl, fun i hi => ?_⟩
      by_cases e : i = n
      · subst e
        rw [pk_us, pk_us]
        exact ⟨rfl, c, hc32, hc, rfl⟩
      · rw [pk_un e, pk_un e]
        exact ht i (by omega)
    · rw [if_neg (show ¬ nI n < 90 from fun q => z ((n_lt (b := 90) (by omega) (by omega)).mp q)), Option.bind_some, if_pos n00, if_pos (show nI n = 90 by rw [show n = 90 by omega]; rfl)]
      exact ⟨-3, _, _, _, _, rfl, rfl, h0⟩
  · rw [if_neg a2, in_h a1 (Int32.not_le.mp a2)]
    exact ⟨-1, _, _, _, _, rfl, rfl, h0⟩
