/-! PURE, 12: the draw, drift -/
theorem l_mask (a : Nat) : lN a &&& 2147483647 = lN (a % 2147483648) := by
  apply Int64.toBitVec_inj.mp
  apply BitVec.eq_of_toNat_eq
  show ((lN a).toBitVec &&& (2147483647 : Int64).toBitVec).toNat = (lN (a % 2147483648)).toBitVec.toNat
  rw [BitVec.toNat_and]
  have h1 : ∀ b : Nat, (lN b).toBitVec.toNat = b % 2 ^ 64 := fun b => BitVec.toNat_ofNat b 64
  have h2 : (2147483647 : Int64).toBitVec.toNat = 2 ^ 31 - 1 := by decide
  rw [h1, h1, h2, Nat.and_two_pow_sub_one_eq_mod]
  omega
def drwN (dr : Nat) : Nat := (dr * 1103515245 + 12345) % 2147483648
theorem drwN_lt (dr : Nat) : drwN dr < 2147483648 := Nat.mod_lt _ (by decide)
theorem d_base {dr : Nat} (h : dr < 2147483648) : Int32.toInt64 (nI dr) * 1103515245 + 12345 = lN (dr * 1103515245 + 12345) := by
  rw [show Int32.toInt64 (nI dr) = lN dr from nI_l h, show (1103515245 : Int64) = lN 1103515245 from rfl, show (12345 : Int64) = lN 12345 from rfl, lN_mul, lN_add]
theorem d_and {dr : Nat} (h : dr < 2147483648) : Int64.toInt32 ((Int32.toInt64 (nI dr) * 1103515245 + 12345) &&& 2147483647) = nI (drwN dr) := by
  rw [d_base h, l_mask, lN_i]
  rfl
theorem d_rem {dr : Nat} (h : dr < 2147483648) : Int64.toInt32 ((Int32.toInt64 (nI dr) * 1103515245 + 12345) - (Int32.toInt64 (nI dr) * 1103515245 + 12345) / 2147483648 * 2147483648) = nI (drwN dr) := by
  rw [d_base h, show (2147483648 : Int64) = lN 2147483648 from rfl, pk_lRem (by omega) (by decide) (by decide), lN_i]
  rfl
section P12
variable {men md day drw kn nx : Int32} {bu st ki we wo wr now : Nat → Int32} {ke : Nat → Nat → Int32}
/-- the draw's own step: what the reference's array is then -/
theorem SYH_draw {dr0 : Nat} (h : SYH men md day drw bu st ki we wo wr kn nx ke now) (hd : dr0 < 2147483648) : SYH men md day (nI dr0) bu st ki we wo wr kn nx ke (upd now 1 (nI dr0)) := by
  obtain ⟨nm, nd, dy, dr, bu0, st0, ki0, we0, wo0, wr0, kn0, nx0, ⟨hk, hb, hdy, hdr⟩, ⟨rfl, rfl, rfl, rfl, c5, c6, c7, c8⟩, hR, rfl, rfl, hH⟩ := h
  refine ⟨nm, nd, dy, dr0, bu0, st0, ki0, we0, wo0, wr0, kn0, nx0, ⟨hk, hb, hdy, hd⟩, ⟨rfl, rfl, rfl, rfl, c5, c6, c7, c8⟩, ?_, rfl, rfl, HI_kept hH (fun q hq => pk_un (by omega))⟩
  obtain ⟨r1, r2, r3, r4, r5, r6⟩ := hR
  refine ⟨by rw [pk_un (by omega), r1], by rw [pk_un (by omega), r2], by rw [pk_un (by omega), r3], pk_us, fun i hi => ⟨by rw [pk_un (by omega), (r5 i hi).1], by rw [pk_un (by omega), (r5 i hi).2]⟩, fun d hd => ?_⟩
  obtain ⟨a1, a2, a3, a4⟩ := r6 d hd
  exact ⟨by rw [pk_un (by omega), a1], by rw [pk_un (by omega), a2], by rw [pk_un (by omega), a3], by rw [pk_un (by omega), a4]⟩
theorem gnz_y {α : Type} {a : Nat} {A : Option α} (h : 0 < a) (h2 : a < 1000) : gnz (nI a) A = A := if_neg (fun q => by have := (n_eq (b := 0) (by omega) (by omega)).mp q; omega)
/-- a day of a drift behind the note: the draw, what is hung by it, on both sides -/
theorem both_drift {p1 : Int32} {k dy0 : Nat} (h : SYH men md day drw bu st ki we wo wr kn nx ke now) (hd : day = nI dy0) (hl : dy0 + 1 ≤ 9999) (hk40 : k < 40) (hp : ¬ p1 ≤ nI k) {now0 : Nat → Int32} (hn : fX6_note now0 = some now) :
    ∃ drw' st' wr' now', (∀ {α : Type} (F : Int32 × (Nat → Int32) → Int32 × (Nat → Int32) → Option α), ((fX1_drawAndHang men md drw wr).bind (fun r11 => (fX1_passDay men md day bu st ki we wo r11.2).bind (fun r12 => F r11 r12))) = F (drw', wr') (nI (dy0 + 1), st')) ∧ (∀ K, bX6_drift_31 p1 K (nI k, now0) = K (nI (k + 1), now')) ∧ SYH men md (nI (dy0 + 1)) drw' bu st' ki we wo wr' kn nx ke now' := by
  have h0 := h
  obtain ⟨nm, nd, dy, dr, bu0, st0, ki0, we0, wo0, wr0, kn0, nx0, ⟨hk, hb, hdy, hdr⟩, ⟨rfl, rfl, rfl, rfl, c5, c6, c7, c8⟩, hR, rfl, rfl, hH⟩ := h
  have h5 := hk.1
  have h6 := hk.2.1
  have hdl := drwN_lt dr
  have hS1 := SYH_draw h0 hdl
  have c1 : Int32.toNatClampNeg 1 = 1 := by decide
  have c19 : Int32.toNatClampNeg 19 = 19 := by decide
  have c25 : Int32.toNatClampNeg 25 = 25 := by decide
  have g1 : ∀ {α : Type} (A : Option α), gin 1 191 A = A := fun A => gin_nI (k := 1) (by decide) (by decide)
  have g19 : ∀ {α : Type} (A : Option α), gin 19 191 A = A := fun A => gin_nI (k := 19) (by decide) (by decide)
  have g25 : ∀ {α : Type} (A : Option α), gin 25 191 A = A := fun A => gin_nI (k := 25) (by decide) (by decide)
  have u25 : upd now 1 (nI (drwN dr)) 25 = nI nd := by rw [pk_un (by decide), hR.2.1]
  have u19 : upd now 1 (nI (drwN dr)) 19 = nI nm := by rw [pk_un (by decide), hR.1]
  have u1 : upd now 1 (nI (drwN dr)) 1 = nI (drwN dr) := pk_us
  by_cases z : nd = 0
  · subst z
    obtain ⟨st', now', j1, j2, j3⟩ := both_day hS1 hd hl
    refine ⟨nI (drwN dr), st', wr, now', fun F => ?_, fun K => ?_, j3⟩
    · unfold fX1_drawAndHang
      rw [if_pos (show nI 0 ≤ 0 by decide), Option.bind_some, d_and hdr, j1, Option.bind_some]
    · rw [bX6_drift_31, if_neg hp, hn, Option.bind_some]
      simp only [g1, g25, c1, c25, hR.2.2.2.1, d_rem hdr, u25]
      rw [if_pos (show nI 0 ≤ 0 by decide), j2, Option.bind_some, nm_def, n_add1]
  · have hm0 : 0 < nm := hk.2.2.1 (by omega)
    have q1 : ¬ nI nd ≤ 0 := fun q => by have := (n_le (b := 0) (by omega) (by omega)).mp q; omega
    have q2 : ¬ nI nm ≤ 0 := fun q => by have := (n_le (b := 0) (by omega) (by omega)).mp q; omega
    have x1 : nI (drwN dr) / 65536 = nI (drwN dr / 65536) := pk_div (d := 65536) hdl (by decide) (by decide)
    have x2 : nI (drwN dr) / 128 = nI (drwN dr / 128) := pk_div (d := 128) hdl (by decide) (by decide)
    have y1 : nI (drwN dr / 65536) - nI (drwN dr / 65536) / nI nd * nI nd = nI (drwN dr / 65536 % nd) := pk_rem (Nat.lt_of_le_of_lt (Nat.div_le_self _ _) hdl) (by omega) (by omega)
    have y2 : nI (drwN dr / 128) - nI (drwN dr / 128) / nI nm * nI nm = nI (drwN dr / 128 % nm) := pk_rem (Nat.lt_of_le_of_lt (Nat.div_le_self _ _) hdl) (by omega) (by omega)
    have l1 : drwN dr / 65536 % nd < nd := Nat.mod_lt _ (by omega)
    have l2 : drwN dr / 128 % nm < nm := Nat.mod_lt _ (by omega)
    have hS2 := SYH_wear (d := drwN dr / 65536 % nd) (o := some (drwN dr / 128 % nm)) hS1 ((n_lt (by omega) (by omega)).mpr l1) (by omega) (fun m e => by cases e; exact ⟨(n_lt (by omega) (by omega)).mpr l2, by omega⟩)
    obtain ⟨st', now', j1, j2, j3⟩ := both_day hS2 hd hl
    have gn1 : ∀ {α : Type} (A : Option α), gnz (nI nd) A = A := fun A => gnz_y (by omega) (by omega)
    have gn2 : ∀ {α : Type} (A : Option α), gnz (nI nm) A = A := fun A => gnz_y (by omega) (by omega)
    refine ⟨nI (drwN dr), st', _, now', fun F => ?_, fun K => ?_, j3⟩
    · unfold fX1_drawAndHang
      rw [if_neg q1, if_neg q2]
      simp only [d_and hdr, x1, x2, y1, y2, gn1, gn2]
      rw [gin_nI (by omega) (by decide), n_cl (by omega), Option.bind_some]
      show (fX1_passDay (nI nm) (nI nd) (nI dy) bu st ki we wo (upd wr (drwN dr / 65536 % nd) (en (some (drwN dr / 128 % nm))))).bind _ = _
      rw [j1, Option.bind_some]
      rfl
    · rw [bX6_drift_31, if_neg hp, hn, Option.bind_some]
      simp only [g1, g25, g19, c1, c25, c19, hR.2.2.2.1, d_rem hdr, u25, u19, u1, x1, x2, y1, y2, gn1, gn2]
      rw [if_neg q1, show (13 : Int32) = nI 13 from rfl, gin_add (by omega) (by decide), cl_add (by omega), show nI (drwN dr / 128 % nm) = en (some (drwN dr / 128 % nm)) from rfl, j2, Option.bind_some, nm_def, n_add1]
theorem pub_drift {p1 : Int32} (h : SYH men md day drw bu st ki we wo wr kn nx ke now) : ∃ r day' drw' st' wr' kn' nx' ke' now', fX5_drift p1 men md day drw bu st ki we wo wr kn nx ke = some (r, day', drw', st', wr', kn', nx', ke') ∧ fX6_drift p1 now = some (r, now') ∧ SYH men md day' drw' bu st' ki we wo wr' kn' nx' ke' now' := by
  have h0 := h
  obtain ⟨n0, nd, dy, dr, bu0, st0, ki0, we0, wo0, wr0, kn0, nx0, ⟨hk, hb, hdy, hdr⟩, ⟨e1, e2, e3, e4, c5, c6, c7, c8⟩, hR, e5, e6, hH⟩ := h
  unfold fX5_drift fX5_passDays fX6_drift
  have g0 : ∀ {α : Type} (A : Option α), gin 0 191 A = A := fun A => gin_nI (k := 0) (by decide) (by decide)
  have z0 : Int32.toNatClampNeg 0 = 0 := by decide
  by_cases a1 : p1 < 1
  · rw [if_pos a1, in_l a1]
    exact ⟨-1, _, _, _, _, _, _, _, _, rfl, rfl, h0⟩
  rw [if_neg a1]
  by_cases a2 : p1 ≤ 40
  · obtain ⟨n, hn1, hn, rfl⟩ := rng1 (hi := 40) (by decide) a1 (Int32.not_lt.mpr a2)
    rw [if_pos a2, in_y a1 (Int32.not_lt.mpr a2), Option.bind_some, if_neg n10, g0, z0, hR.2.2.1, e3, n_add]
    by_cases a3 : dy + n ≤ 9999
    · have a3' : nI (dy + n) ≤ 9999 := (n_le (b := 9999) (by omega) (by omega)).mpr a3
      rw [if_pos a3', if_pos a3']
      obtain ⟨r, s, q1, q2, q3⟩ := lp_sim (b1 := bX5_passDays_33 men md bu ki we wo (nI n) 1) (b2 := bX6_drift_31 (nI n)) n (fun k a b => a.1 = nI k ∧ b.1 = nI k ∧ a.2.1 = nI (dy + k) ∧ SYH men md a.2.1 a.2.2.1 bu a.2.2.2.1 ki we wo a.2.2.2.2.1 a.2.2.2.2.2.1 a.2.2.2.2.2.2.1 a.2.2.2.2.2.2.2 b.2) (fun r s => r.1 = s.1 ∧ SYH men md r.2.1 r.2.2.1 bu r.2.2.2.1 ki we wo r.2.2.2.2.1 r.2.2.2.2.2.1 r.2.2.2.2.2.2.1 r.2.2.2.2.2.2.2 s.2) (by omega)
        (fun k a b hk2 hrel => by
          obtain ⟨v3, day2, drw2, st2, wr2, kn2, nx2, ke2⟩ := a
          obtain ⟨v2, now2⟩ := b
          obtain ⟨f1, f2, f3, f4⟩ := hrel
          simp only at f1 f2 f3 f4
          subst f1 f2
          obtain ⟨kn3, nx3, ke3, now3, i1, i2, i3, i4⟩ := both_note f4
          obtain ⟨drw5, st5, wr5, now5, j1, j2, j3⟩ := both_drift (p1 := nI n) (k := k) i3 f3 (by omega) (by omega) (fun q => by have := (n_le (by omega) (by omega)).mp q; omega) i2
          refine ⟨(nI (k + 1), nI (dy + k + 1), drw5, st5, wr5, kn3, nx3, ke3), (nI (k + 1), now5), fun K => ?_, j2, rfl, rfl, rfl, j3⟩
          rw [bX5_passDays_33, if_neg (by rw [n_le (by omega) (by omega)]; omega), i1, Option.bind_some, if_neg n10]
          refine (j1 (fun r11 r12 => nm (nI k + 1) (fun x13 => K (x13, r12.1, r11.1, r12.2, r11.2, kn3, nx3, ke3)))).trans ?_
          show K (nI k + 1, _) = _
          rw [n_add1])
        (fun a b hrel => by
          obtain ⟨v3, day2, drw2, st2, wr2, kn2, nx2, ke2⟩ := a
          obtain ⟨v2, now2⟩ := b
          obtain ⟨f1, f2, f3, f4⟩ := hrel
          simp only at f1 f2 f3 f4
          subst f1 f2
          obtain ⟨r, i1, i2⟩ := both_bent f4
          refine ⟨(r, day2, drw2, st2, wr2, kn2, nx2, ke2), (r, now2), fun K => ?_, fun K => ?_, rfl, f4⟩
          · rw [bX5_passDays_33, if_pos (by rw [n_le (by omega) (by omega)]; omega), i1, Option.bind_some]
          · rw [bX6_drift_31, if_pos (by rw [n_le (by omega) (by omega)]; omega), i2, Option.bind_some])
        (a0 := (0, nI dy, drw, st, wr, kn, nx, ke)) (b0 := (0, now)) ⟨rfl, rfl, rfl, by rw [← e3]; exact h0⟩
      obtain ⟨r1, day5, drw5, st5, wr5, kn5, nx5, ke5⟩ := r
      obtain ⟨s1, now5⟩ := s
      obtain ⟨t1, t2⟩ := q3
      simp only at t1 t2
      subst t1
      rw [q1, q2, Option.bind_some]
      exact ⟨_, _, _, _, _, _, _, _, _, rfl, rfl, t2⟩
    · have a3' : ¬ nI (dy + n) ≤ 9999 := fun q => a3 ((n_le (b := 9999) (by omega) (by omega)).mp q)
      rw [if_neg a3', if_neg a3', Option.bind_some]
      exact ⟨-3, _, _, _, _, _, _, _, _, rfl, rfl, by rw [← e3]; exact h0⟩
  · rw [if_neg a2, in_h a1 (Int32.not_le.mp a2)]
    exact ⟨-1, _, _, _, _, _, _, _, _, rfl, rfl, h0⟩
end P12
