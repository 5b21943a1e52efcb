/-! PURE, 10: undo, days, drift -/
theorem n_add8 (a : Nat) : nI a + 8 = nI (a + 8) := nI_add a 8
section P10
variable {men md day drw kn nx : Int32} {bu st ki we wo wr now : Nat → Int32} {ke : Nat → Nat → Int32}
theorem pub_undo (h : SYH men md day drw bu st ki we wo wr kn nx ke now) : ∃ r day' drw' st' we' wr' kn' nx' now', fX5_undo day drw st we wr kn nx ke = some (r, day', drw', st', we', wr', kn', nx') ∧ fX6_undo now = some (r, now') ∧ SYH men md day' drw' bu st' ki we' wo wr' kn' nx' ke now' := by
  have h0 := h
  obtain ⟨nm, nd, dy, dr, bu0, st0, ki0, we0, wo0, wr0, kn0, nx0, ⟨hk, hb, hdy, hdr⟩, ⟨rfl, rfl, rfl, rfl, c5, c6, c7, c8⟩, hR, rfl, rfl, hH⟩ := h
  have h5 := hk.1
  have h6 := hk.2.1
  have c38 : Int32.toNatClampNeg 38 = 38 := by decide
  have g38 : ∀ {α : Type} (A : Option α), gin 38 191 A = A := fun A => gin_nI (k := 38) (by decide) (by decide)
  obtain ⟨k1, k2, k3, k4⟩ := hH
  unfold fX5_undo fX6_undo fX2_giveBack
  simp only [g38, c38, k3, pk_us]
  by_cases z : kn0 = 0
  · subst z
    rw [if_pos (show nI 0 = 0 from rfl), if_pos (show nI 0 = 0 from rfl), Option.bind_some, if_pos (show (0 : Int32) = 0 from rfl)]
    exact ⟨-4, _, _, _, _, _, _, _, _, rfl, rfl, h0⟩
  · have zn : ¬ nI kn0 = 0 := fun q => z ((n_eq (b := 0) (by omega) (by omega)).mp q)
    obtain ⟨st2, we2, wr2, dy2, dr2, hA2, ⟨b1, b2, b3, b4⟩, d1, d2, d3, d4⟩ := k4 0 (by omega)
    have e1 : nI nx0 + 8 - 1 - (nI nx0 + 8 - 1) / 8 * 8 = nI ((nx0 + 7) % 8) := by
      rw [n_add8, n_sub1 (by omega), n_rem8 (by omega)]
      rfl
    have c0 : Int32.toNatClampNeg 0 = 0 := by decide
    have q5 : Int32.toNatClampNeg 5 = 5 := by decide
    have q6 : Int32.toNatClampNeg 6 = 6 := by decide
    have q11 : Int32.toNatClampNeg 11 = 11 := by decide
    have q17 : Int32.toNatClampNeg 17 = 17 := by decide
    have q18 : Int32.toNatClampNeg 18 = 18 := by decide
    have g1 : ∀ {α : Type} (A : Option α), gcp 0 0 5 19 5 A = A := fun A => gcp_n (sp := 0) (dp := 0) (n := 5) (by decide) (by decide) (by decide) (by decide)
    have g2 : ∀ {α : Type} (A : Option α), gcp 5 0 6 19 6 A = A := fun A => gcp_n (sp := 5) (dp := 0) (n := 6) (by decide) (by decide) (by decide) (by decide)
    have g3 : ∀ {α : Type} (A : Option α), gcp 11 0 6 19 6 A = A := fun A => gcp_n (sp := 11) (dp := 0) (n := 6) (by decide) (by decide) (by decide) (by decide)
    have g4 : ∀ {α : Type} (A : Option α), gin 17 19 A = A := fun A => gin_nI (k := 17) (by decide) (by decide)
    have g5 : ∀ {α : Type} (A : Option α), gin 18 19 A = A := fun A => gin_nI (k := 18) (by decide) (by decide)
    have g8 : ∀ {α : Type} (A : Option α), gin (nI ((nx0 + 7) % 8)) 8 A = A := fun A => gin_nI (by omega) (by decide)
    have kk : (nI ((nx0 + 7) % 8)).toNatClampNeg = (nx0 + 7) % 8 := n_cl (by omega)
    have e2 : 39 + 19 * (nI kn0 - 1) = nI (39 + 19 * (kn0 - 1)) := by
      rw [n_sub1 (by omega), show (19 : Int32) = nI 19 from rfl, show (39 : Int32) = nI 39 from rfl, pk_mul, n_add]
    rw [if_neg zn, if_neg zn]
    simp only [e1, g8, g1, g2, g3, g4, g5, kk, c0, q5, q6, q11, q17, q18, Option.bind_some, if_neg n10]
    rw [e2, show (0 : Int32) = nI 0 from rfl, show (19 : Int32) = nI 19 from rfl, m_bring_s (by omega) (by omega) (by omega), Option.bind_some, cpF_out (by omega), pk_us]
    rw [show (nx0 + 7 - 0) % 8 = (nx0 + 7) % 8 by omega] at b1 b2 b3 b4
    rw [show kn0 - 1 - 0 = kn0 - 1 by omega] at d1 d2 d3 d4
    have hs1 : nI kn0 - 1 = nI (kn0 - 1) := n_sub1 (by omega)
    refine ⟨_, _, _, _, _, _, _, _, _, rfl, rfl, nm, nd, dy2, dr2, bu0, st2, ki0, we2, wo0, wr2, kn0 - 1, (nx0 + 7) % 8, hA2, ⟨rfl, rfl, b3, b4, c5, fun i hi => ?_, fun d hd => ⟨(c7 d hd).1, ?_, (c7 d hd).2.2⟩, fun d hd => ?_⟩, ?_, hs1, rfl, ?_⟩
    · rw [pk_cpy_in (by omega) (by omega), show 0 + (i - 0) = i by omega, b1 i hi]
    · rw [pk_cpy_in (by omega) (by omega), show 5 + (d - 0) = 5 + d by omega, (b2 d hd).1]
    · rw [pk_cpy_in (by omega) (by omega), show 11 + (d - 0) = 11 + d by omega, (b2 d hd).2]
    · obtain ⟨r1, r2, r3, r4, r5, r6⟩ := hR
      refine ⟨by rw [cpF_out (by omega), pk_un (by omega), r1], by rw [cpF_out (by omega), pk_un (by omega), r2], by rw [cpF_in (by omega) (by omega), pk_un (by omega), show 39 + 19 * (kn0 - 1) + (0 - 0) = 39 + 19 * (kn0 - 1) by omega, d1], by rw [cpF_in (by omega) (by omega), pk_un (by omega), show 39 + 19 * (kn0 - 1) + (1 - 0) = 39 + 19 * (kn0 - 1) + 1 by omega, d2], fun i hi => ⟨by rw [cpF_out (by omega), pk_un (by omega), (r5 i hi).1], by rw [cpF_in (by omega) (by omega), pk_un (by omega), show 39 + 19 * (kn0 - 1) + (2 + i - 0) = 39 + 19 * (kn0 - 1) + 2 + i by omega, d3 i hi]⟩, fun d hd => ?_⟩
      obtain ⟨a1, a2, a3, a4⟩ := r6 d hd
      exact ⟨by rw [cpF_out (by omega), pk_un (by omega), a1], by rw [cpF_in (by omega) (by omega), pk_un (by omega), show 39 + 19 * (kn0 - 1) + (7 + d - 0) = 39 + 19 * (kn0 - 1) + 7 + d by omega, (d4 d hd).1], by rw [cpF_out (by omega), pk_un (by omega), a3], by rw [cpF_in (by omega) (by omega), pk_un (by omega), show 39 + 19 * (kn0 - 1) + (13 + d - 0) = 39 + 19 * (kn0 - 1) + 13 + d by omega, (d4 d hd).2]⟩
    · refine ⟨by omega, by omega, by rw [cpF_out (by omega), pk_us, hs1], fun i hi => ?_⟩
      obtain ⟨st3, we3, wr3, dy3, dr3, hA3, f1, f2, f3, f4, f5⟩ := k4 (i + 1) (by omega)
      have eb : 39 + 19 * (kn0 - 1 - 1 - i) = 39 + 19 * (kn0 - 1 - (i + 1)) := by omega
      refine ⟨st3, we3, wr3, dy3, dr3, hA3, ?_, ?_⟩
      · rw [show ((nx0 + 7) % 8 + 7 - i) % 8 = (nx0 + 7 - (i + 1)) % 8 by omega]
        exact f1
      · rw [eb]
        exact ⟨by rw [cpF_out (by omega), pk_un (by omega), f2], by rw [cpF_out (by omega), pk_un (by omega), f3], fun j hj => by rw [cpF_out (by omega), pk_un (by omega), f4 j hj], fun d hd => ⟨by rw [cpF_out (by omega), pk_un (by omega), (f5 d hd).1], by rw [cpF_out (by omega), pk_un (by omega), (f5 d hd).2]⟩⟩
end P10
