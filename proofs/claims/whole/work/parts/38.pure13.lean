/-! PURE, 13: medal, polish, ever, image, restore -/
section P13
variable {men md day drw kn nx : Int32} {bu st ki we wo wr now : Nat → Int32} {ke : Nat → Nat → Int32}
theorem pub_medal {p1 p2 p3 : Int32} (h : SYH men md day drw bu st ki we wo wr kn nx ke now) : ∃ r md' ki' we' wo' wr' kn' now', fX5_medal p1 p2 p3 men md ki we wo wr kn = some (r, md', ki', we', wo', wr', kn') ∧ fX6_medal p1 p2 p3 now = some (r, now') ∧ SYH men md' day drw bu st ki' we' wo' wr' kn' nx ke now' := by
  have h0 := h
  obtain ⟨nm, nd, dy, dr, bu0, st0, ki0, we0, wo0, wr0, kn0, nx0, ⟨hk, hb, hdy, hdr⟩, ⟨rfl, rfl, rfl, rfl, c5, c6, c7, c8⟩, hR, rfl, rfl, hH⟩ := h
  have h5 := hk.1
  have h6 := hk.2.1
  unfold fX5_medal fX6_medal
  by_cases a1 : p1 < 0
  · rw [if_pos a1, in_l a1]
    exact ⟨-1, _, _, _, _, _, _, _, rfl, rfl, h0⟩
  rw [if_neg a1]
  by_cases a2 : 4 < p1
  · rw [if_pos a2, in_h a1 a2]
    exact ⟨-1, _, _, _, _, _, _, _, rfl, rfl, h0⟩
  obtain ⟨k, hk4, rfl⟩ := rng (hi := 4) (by decide) a1 a2
  rw [if_neg a2, in_y a1 a2, Option.bind_some, if_neg n10]
  by_cases a3 : p2 < 1
  · rw [if_pos a3, in_l a3]
    exact ⟨-1, _, _, _, _, _, _, _, rfl, rfl, h0⟩
  rw [if_neg a3]
  by_cases a4 : 20 < p2
  · rw [if_pos a4, in_h a3 a4]
    exact ⟨-1, _, _, _, _, _, _, _, rfl, rfl, h0⟩
  obtain ⟨w, hw1, hw20, rfl⟩ := rng1 (hi := 20) (by decide) a3 a4
  rw [if_neg a4, in_y a3 a4, Option.bind_some, if_neg n10]
  rcases ixc p3 (n := nm) (by omega) with ⟨j, hj, rfl⟩ | hn
  · have c25 : Int32.toNatClampNeg 25 = 25 := by decide
    have c38 : Int32.toNatClampNeg 38 = 38 := by decide
    have g25 : ∀ {α : Type} (A : Option α), gin 25 191 A = A := fun A => gin_nI (k := 25) (by decide) (by decide)
    have g38 : ∀ {α : Type} (A : Option α), gin 38 191 A = A := fun A => gin_nI (k := 38) (by decide) (by decide)
    rw [s_hasMan_y hj (by omega), m_isMan_y hR hj h5, Option.bind_some, Option.bind_some, if_neg n10, if_neg n10, g25, c25, hR.2.1]
    by_cases z : nd < 6
    · have z' : nI nd < 6 := (n_lt (b := 6) (by omega) (by omega)).mpr z
      rw [if_pos z', if_neg (show ¬ nI nd = 6 from fun q => by have := (n_eq (b := 6) (by omega) (by omega)).mp q; omega), g38, c38]
      unfold fX2_forget fX1_addMedal fX6_addMedal
      have e26 : (26 + nI nd : Int32) = nI (26 + nd) := n_add 26 nd
      have e7 : (7 + nI nd : Int32) = nI (7 + nd) := n_add 7 nd
      have e32 : (32 + nI nd : Int32) = nI (32 + nd) := n_add 32 nd
      have e13 : (13 + nI nd : Int32) = nI (13 + nd) := n_add 13 nd
      have k26 : (nI (26 + nd)).toNatClampNeg = 26 + nd := n_cl (by omega)
      have k7 : (nI (7 + nd)).toNatClampNeg = 7 + nd := n_cl (by omega)
      have k32 : (nI (32 + nd)).toNatClampNeg = 32 + nd := n_cl (by omega)
      have k13 : (nI (13 + nd)).toNatClampNeg = 13 + nd := n_cl (by omega)
      have kk : (nI nd).toNatClampNeg = nd := n_cl (by omega)
      have g26 : ∀ {α : Type} (A : Option α), gin (nI (26 + nd)) 191 A = A := fun A => gin_nI (by omega) (by decide)
      have g7 : ∀ {α : Type} (A : Option α), gin (nI (7 + nd)) 191 A = A := fun A => gin_nI (by omega) (by decide)
      have g32 : ∀ {α : Type} (A : Option α), gin (nI (32 + nd)) 191 A = A := fun A => gin_nI (by omega) (by decide)
      have g13 : ∀ {α : Type} (A : Option α), gin (nI (13 + nd)) 191 A = A := fun A => gin_nI (by omega) (by decide)
      have g6 : ∀ {α : Type} (A : Option α), gin (nI nd) 6 A = A := fun A => gin_nI (by omega) (by decide)
      have u1 : upd now 38 0 25 = nI nd := by rw [pk_un (by decide), hR.2.1]
      have u2 : upd (upd (upd (upd (upd now 38 0) (26 + nd) (nI k)) (7 + nd) (nI w)) (32 + nd) (nI j)) (13 + nd) (-4) 25 = nI nd := by rw [pk_un (by omega), pk_un (by omega), pk_un (by omega), pk_un (by omega), u1]
      have hs1 : nI (nd + 1) - 1 = nI nd := by rw [n_sub1 (by omega), Nat.add_sub_cancel]
      simp only [Option.bind_some, nm_def, g25, c25, u1, e26, e7, e32, e13, k26, k7, k32, k13, g26, g7, g32, g13, u2, n_add1, if_pos z', g6, kk, hs1]
      refine ⟨_, _, _, _, _, _, _, _, rfl, rfl, nm, nd + 1, dy, dr, bu0, st0, va_up ki0 nd k, va_up we0 nd w, va_up wo0 nd j, va_up wr0 nd none, 0, nx0, ⟨⟨h5, by omega, fun _ => by omega, fun d hd => ?_⟩, hb, hdy, hdr⟩, ⟨rfl, rfl, rfl, rfl, c5, c6, fun d hd => ?_, fun d hd => ?_⟩, ?_, rfl, rfl, HI_0 hH.2.1 ?_⟩
      · by_cases e : d = nd
        · subst e
          rw [va_up_self, va_up_self, va_up_self, va_up_self]
          exact ⟨hk4, hw1, hw20, hj, fun m e => by cases e⟩
        · rw [va_up_ne _ _ e, va_up_ne _ _ e, va_up_ne _ _ e, va_up_ne _ _ e]
          exact hk.2.2.2 d (by omega)
      · by_cases e : d = nd
        · subst e
          rw [va_up_self, va_up_self, va_up_self, pk_us, pk_us, pk_us]
          exact ⟨rfl, rfl, rfl⟩
        · rw [va_up_ne _ _ e, va_up_ne _ _ e, va_up_ne _ _ e, pk_un e, pk_un e, pk_un e]
          exact c7 d (by omega)
      · by_cases e : d = nd
        · subst e
          rw [va_up_self, pk_us]
          rfl
        · rw [va_up_ne _ _ e, pk_un e]
          exact c8 d (by omega)
      · obtain ⟨r1, r2, r3, r4, r5, r6⟩ := hR
        have P : ∀ q, q ≠ 25 → q ≠ 13 + nd → q ≠ 32 + nd → q ≠ 7 + nd → q ≠ 26 + nd → q ≠ 38 → upd (upd (upd (upd (upd (upd now 38 0) (26 + nd) (nI k)) (7 + nd) (nI w)) (32 + nd) (nI j)) (13 + nd) (-4)) 25 (nI (nd + 1)) q = now q := fun q a b c d e f => by rw [pk_un a, pk_un b, pk_un c, pk_un d, pk_un e, pk_un f]
        refine ⟨by rw [P _ (by omega) (by omega) (by omega) (by omega) (by omega) (by omega), r1], pk_us, by rw [P _ (by omega) (by omega) (by omega) (by omega) (by omega) (by omega), r3], by rw [P _ (by omega) (by omega) (by omega) (by omega) (by omega) (by omega), r4], fun i hi => ⟨by rw [P _ (by omega) (by omega) (by omega) (by omega) (by omega) (by omega), (r5 i hi).1], by rw [P _ (by omega) (by omega) (by omega) (by omega) (by omega) (by omega), (r5 i hi).2]⟩, fun d hd => ?_⟩
        by_cases e : d = nd
        · subst e
          rw [va_up_self, va_up_self, va_up_self, va_up_self]
          exact ⟨by rw [pk_un (by omega), pk_un (by omega), pk_un (by omega), pk_un (by omega), pk_us], by rw [pk_un (by omega), pk_un (by omega), pk_un (by omega), pk_us], by rw [pk_un (by omega), pk_un (by omega), pk_us], by rw [pk_un (by omega), pk_us]; rfl⟩
        · rw [va_up_ne _ _ e, va_up_ne _ _ e, va_up_ne _ _ e, va_up_ne _ _ e]
          obtain ⟨q1, q2, q3, q4⟩ := r6 d (by omega)
          exact ⟨by rw [P _ (by omega) (by omega) (by omega) (by omega) (by omega) (by omega), q1], by rw [P _ (by omega) (by omega) (by omega) (by omega) (by omega) (by omega), q2], by rw [P _ (by omega) (by omega) (by omega) (by omega) (by omega) (by omega), q3], by rw [P _ (by omega) (by omega) (by omega) (by omega) (by omega) (by omega), q4]⟩
      · rw [pk_un (by omega), pk_un (by omega), pk_un (by omega), pk_un (by omega), pk_un (by omega), pk_us]
        rfl
    · rw [if_neg (show ¬ nI nd < 6 from fun q => z ((n_lt (b := 6) (by omega) (by omega)).mp q)), if_pos (show nI nd = 6 by rw [show nd = 6 by omega]; rfl)]
      exact ⟨-3, _, _, _, _, _, _, _, rfl, rfl, h0⟩
  · rw [s_hasMan_n hn, m_isMan_n hR h5 hn, Option.bind_some, Option.bind_some, if_pos n00, if_pos n00]
    exact ⟨-1, _, _, _, _, _, _, _, rfl, rfl, h0⟩
/-- a medal gets another weight -/
theorem SYH_weigh {d w : Nat} (h : SYH men md day drw bu st ki we wo wr kn nx ke now) (hd : nI d < md) (hd6 : d < 6) (h1 : 1 ≤ w) (h2 : w ≤ 20) : SYH men md day drw bu st ki (upd we d (nI w)) wo wr kn nx ke (upd now (7 + d) (nI w)) := by
  obtain ⟨nm, nd, dy, dr, bu0, st0, ki0, we0, wo0, wr0, kn0, nx0, ⟨hk, hb, hdy, hdr⟩, ⟨rfl, rfl, rfl, rfl, c5, c6, c7, c8⟩, hR, rfl, rfl, hH⟩ := h
  have h5 := hk.1
  have h6 := hk.2.1
  rw [n_lt (by omega) (by omega)] at hd
  refine ⟨nm, nd, dy, dr, bu0, st0, ki0, va_up we0 d w, wo0, wr0, kn0, nx0, ⟨⟨h5, h6, hk.2.2.1, fun j hj => ?_⟩, hb, hdy, hdr⟩, ⟨rfl, rfl, rfl, rfl, c5, c6, fun j hj => ?_, c8⟩, ?_, rfl, rfl, HI_kept hH (fun q hq => pk_un (by omega))⟩
  · obtain ⟨e1, e2, e3, e4, e5⟩ := hk.2.2.2 j hj
    by_cases q : j = d
    · subst q
      rw [va_up_self]
      exact ⟨e1, h1, h2, e4, e5⟩
    · rw [va_up_ne _ _ q]
      exact ⟨e1, e2, e3, e4, e5⟩
  · obtain ⟨e1, e2, e3⟩ := c7 j hj
    by_cases q : j = d
    · subst q
      rw [va_up_self, pk_us]
      exact ⟨e1, rfl, e3⟩
    · rw [va_up_ne _ _ q, pk_un q]
      exact ⟨e1, e2, e3⟩
  · obtain ⟨r1, r2, r3, r4, r5, r6⟩ := hR
    refine ⟨by rw [pk_un (by omega), r1], by rw [pk_un (by omega), r2], by rw [pk_un (by omega), r3], by rw [pk_un (by omega), r4], fun i hi => ⟨by rw [pk_un (by omega), (r5 i hi).1], by rw [pk_un (by omega), (r5 i hi).2]⟩, fun j hj => ?_⟩
    obtain ⟨a1, a2, a3, a4⟩ := r6 j hj
    refine ⟨by rw [pk_un (by omega), a1], ?_, by rw [pk_un (by omega), a3], by rw [pk_un (by omega), a4]⟩
    by_cases q : j = d
    · subst q
      rw [pk_us, va_up_self]
    · rw [pk_un (by omega), va_up_ne _ _ q, a2]
theorem pub_polish {p1 p2 : Int32} (h : SYH men md day drw bu st ki we wo wr kn nx ke now) : ∃ r we' kn' nx' ke' now', fX5_polish p1 p2 md day drw st we wr kn nx ke = some (r, we', kn', nx', ke') ∧ fX6_polish p1 p2 now = some (r, now') ∧ SYH men md day drw bu st ki we' wo wr kn' nx' ke' now' := by
  have h0 := h
  obtain ⟨nm, nd, dy, dr, bu0, st0, ki0, we0, wo0, wr0, kn0, nx0, ⟨hk, hb, hdy, hdr⟩, ⟨rfl, rfl, rfl, rfl, c5, c6, c7, c8⟩, hR, rfl, rfl, hH⟩ := h
  have h5 := hk.1
  have h6 := hk.2.1
  obtain ⟨kn', nx', ke', now', e1, e2, hS, e4⟩ := both_note h0
  unfold fX5_polish fX6_polish
  rcases ixc p1 (n := nd) (by omega) with ⟨j, hj, rfl⟩ | hn
  · rw [s_hasMedal_y hj (by omega), m_isMedal_y hR hj h6, Option.bind_some, Option.bind_some, if_neg n10, if_neg n10]
    by_cases a1 : p2 < 1
    · rw [if_pos a1, in_l a1]
      exact ⟨-1, _, _, _, _, _, rfl, rfl, h0⟩
    rw [if_neg a1]
    by_cases a2 : p2 ≤ 20
    · obtain ⟨n, hn1, hn20, rfl⟩ := rng1 (hi := 20) (by decide) a1 (Int32.not_lt.mpr a2)
      obtain ⟨b1, b2, b3, b4, b5⟩ := hk.2.2.2 j hj
      have kj : (nI j).toNatClampNeg = j := n_cl (by omega)
      have e7 : (7 + nI j : Int32) = nI (7 + j) := n_add 7 j
      have k7 : (nI (7 + j)).toNatClampNeg = 7 + j := n_cl (by omega)
      have g7 : ∀ {α : Type} (A : Option α), gin (nI (7 + j)) 191 A = A := fun A => gin_nI (by omega) (by decide)
      have g6 : ∀ {α : Type} (A : Option α), gin (nI j) 6 A = A := fun A => gin_nI (by omega) (by decide)
      have w1 : we j = nI (we0 j) := (c7 j hj).2.1
      have w2 : now (7 + j) = nI (we0 j) := (hR.2.2.2.2.2 j hj).2.1
      have w3 : now' (7 + j) = nI (we0 j) := by rw [e4 _ (by omega), w2]
      rw [if_pos a2, in_y a1 (Int32.not_lt.mpr a2), Option.bind_some, if_neg n10]
      simp only [g6, kj, w1, e7, g7, k7, w2, e1, e2, Option.bind_some, w3, n_add, pk_us]
      by_cases z : we0 j < 20
      · rw [if_pos (show nI (we0 j) < 20 from (n_lt (b := 20) (by omega) (by omega)).mpr z), if_neg (show ¬ nI (we0 j) = 20 from fun q => by have := (n_eq (b := 20) (by omega) (by omega)).mp q; omega)]
        by_cases y : we0 j + n ≤ 20
        · rw [if_pos (show nI (we0 j + n) ≤ 20 from (n_le (b := 20) (by omega) (by omega)).mpr y)]
          have ev : (if nI (we0 j + n) < 20 then nI (we0 j + n) else 20) = nI (we0 j + n) := by
            by_cases x : we0 j + n < 20
            · rw [if_pos (show nI (we0 j + n) < 20 from (n_lt (b := 20) (by omega) (by omega)).mpr x)]
            · rw [if_neg (show ¬ nI (we0 j + n) < 20 from fun q => x ((n_lt (b := 20) (by omega) (by omega)).mp q)), show we0 j + n = 20 by omega]
              rfl
          rw [ev]
          exact ⟨_, _, _, _, _, _, rfl, rfl, SYH_weigh hS ((n_lt (by omega) (by omega)).mpr hj) (by omega) (by omega) y⟩
        · rw [if_neg (show ¬ nI (we0 j + n) ≤ 20 from fun q => y ((n_le (b := 20) (by omega) (by omega)).mp q)), if_neg (show ¬ nI (we0 j + n) < 20 from fun q => by have := (n_lt (b := 20) (by omega) (by omega)).mp q; omega)]
          exact ⟨_, _, _, _, _, _, rfl, rfl, SYH_weigh (w := 20) hS ((n_lt (by omega) (by omega)).mpr hj) (by omega) (by omega) (by omega)⟩
      · rw [if_neg (show ¬ nI (we0 j) < 20 from fun q => z ((n_lt (b := 20) (by omega) (by omega)).mp q)), if_pos (show nI (we0 j) = 20 by rw [show we0 j = 20 by omega]; rfl)]
        exact ⟨-2, _, _, _, _, _, rfl, rfl, h0⟩
    · rw [if_neg a2, in_h a1 (Int32.not_le.mp a2)]
      exact ⟨-1, _, _, _, _, _, rfl, rfl, h0⟩
  · rw [s_hasMedal_n hn, m_isMedal_n hR h6 hn, Option.bind_some, Option.bind_some, if_pos n00, if_pos n00]
    exact ⟨-1, _, _, _, _, _, rfl, rfl, h0⟩
end P13
