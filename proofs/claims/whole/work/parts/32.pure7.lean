/-! PURE, 7: what is done: both sides answer alike and stay alike -/
section P7
variable {men md day drw kn nx : Int32} {bu st ki we wo wr now : Nat → Int32} {ke : Nat → Nat → Int32}
/-- keep on the one side, note on the other -/
theorem both_note (h : SYH men md day drw bu st ki we wo wr kn nx ke now) : ∃ kn' nx' ke' now', fX2_keep kn nx ke day drw st we wr = some (kn', nx', ke') ∧ fX6_note now = some now' ∧ SYH men md day drw bu st ki we wo wr kn' nx' ke' now' ∧ ∀ q, q < 38 → now' q = now q := by
  obtain ⟨nm, nd, dy, dr, bu0, st0, ki0, we0, wo0, wr0, kn0, nx0, hA, ⟨rfl, rfl, rfl, rfl, c5, c6, c7, c8⟩, hR, rfl, rfl, hH⟩ := h
  obtain ⟨now', e1, n1, n2, n3, n4⟩ := m_note hH.1 hH.2.2.1
  refine ⟨_, _, _, now', s_keep hH.1 hH.2.1, e1, ⟨nm, nd, dy, dr, bu0, st0, ki0, we0, wo0, wr0, min 8 (kn0 + 1), (nx0 + 1) % 8, hA, ⟨rfl, rfl, rfl, rfl, c5, c6, c7, c8⟩, RM_kept hA.1.1 hA.1.2.1 hR n2, rfl, rfl, HI_note hH hA c6 (fun d hd => (c7 d hd).2.1) c8 hR n1 n3 n4⟩, n2⟩
theorem okD_wr {nm nd : Nat} {ki we wo : Nat → Nat} {wr : Nat → Option Nat} {d : Nat} {o : Option Nat} (h : okD nm nd ki we wo wr) (ho : ∀ m, o = some m → m < nm) : okD nm nd ki we wo (va_up wr d o) := by
  obtain ⟨a, b, c, e⟩ := h
  refine ⟨a, b, c, fun j hj => ?_⟩
  obtain ⟨e1, e2, e3, e4, e5⟩ := e j hj
  refine ⟨e1, e2, e3, e4, fun m hm => ?_⟩
  by_cases q : j = d
  · subst q
    rw [va_up_self] at hm
    exact ho m hm
  · rw [va_up_ne _ _ q] at hm
    exact e5 m hm
theorem rW_up {nd d : Nat} {wr0 : Nat → Option Nat} {wr' : Nat → Int32} {o : Option Nat} (h : rW nd wr0 wr') : rW nd (va_up wr0 d o) (upd wr' d (en o)) := by
  intro j hj
  by_cases q : j = d
  · subst q
    rw [va_up_self, pk_us]
  · rw [va_up_ne _ _ q, pk_un q, h j hj]
/-- a medal gets another wearer -/
theorem SYH_wear {d : Nat} {o : Option Nat} (h : SYH men md day drw bu st ki we wo wr kn nx ke now) (hd : nI d < md) (hd6 : d < 6) (ho : ∀ m, o = some m → nI m < men ∧ m < 1000) : SYH men md day drw bu st ki we wo (upd wr d (en o)) kn nx ke (upd now (13 + d) (en o)) := by
  obtain ⟨nm, nd, dy, dr, bu0, st0, ki0, we0, wo0, wr0, kn0, nx0, ⟨hk, hb, hdy, hdr⟩, ⟨rfl, rfl, rfl, rfl, c5, c6, c7, c8⟩, hR, rfl, rfl, hH⟩ := h
  have h5 := hk.1
  have h6 := hk.2.1
  rw [n_lt (by omega) (by omega)] at hd
  have ho' : ∀ m, o = some m → m < nm := fun m e => by
    obtain ⟨q1, q2⟩ := ho m e
    rwa [n_lt (by omega) (by omega)] at q1
  refine ⟨nm, nd, dy, dr, bu0, st0, ki0, we0, wo0, va_up wr0 d o, kn0, nx0, ⟨okD_wr hk ho', hb, hdy, hdr⟩, ⟨rfl, rfl, rfl, rfl, c5, c6, c7, rW_up c8⟩, ?_, rfl, rfl, HI_kept hH (fun q hq => pk_un (by omega))⟩
  obtain ⟨r1, r2, r3, r4, r5, r6⟩ := hR
  refine ⟨by rw [pk_un (by omega), r1], by rw [pk_un (by omega), r2], by rw [pk_un (by omega), r3], by rw [pk_un (by omega), r4], fun i hi => ⟨by rw [pk_un (by omega), (r5 i hi).1], by rw [pk_un (by omega), (r5 i hi).2]⟩, fun j hj => ?_⟩
  obtain ⟨a1, a2, a3, a4⟩ := r6 j hj
  refine ⟨by rw [pk_un (by omega), a1], by rw [pk_un (by omega), a2], by rw [pk_un (by omega), a3], ?_⟩
  by_cases q : j = d
  · subst q
    rw [pk_us, va_up_self]
  · rw [pk_un (by omega), va_up_ne _ _ q, a4]
theorem pub_hang {p1 p2 : Int32} (h : SYH men md day drw bu st ki we wo wr kn nx ke now) : ∃ r wr' kn' nx' ke' now', fX5_hang p1 p2 men md day drw st we wr kn nx ke = some (r, wr', kn', nx', ke') ∧ fX6_hang p1 p2 now = some (r, now') ∧ SYH men md day drw bu st ki we wo wr' kn' nx' ke' now' := by
  have h0 := h
  obtain ⟨n0, nd, dy, dr, bu0, st0, ki0, we0, wo0, wr0, kn0, nx0, ⟨hk, hb, hdy, hdr⟩, ⟨rfl, rfl, rfl, rfl, c5, c6, c7, c8⟩, hR, rfl, rfl, hH⟩ := h
  have h5 := hk.1
  have h6 := hk.2.1
  obtain ⟨kn', nx', ke', now', e1, e2, hS, e4⟩ := both_note h0
  have fin : ∀ (j : Nat) (o : Option Nat), j < nd → (∀ m, o = some m → m < n0) → ∃ r wr' kn'' nx'' ke'' now'', (gin (nI j) 6 (nm (wr (Int32.toNatClampNeg (nI j))) (fun x5 => if x5 = en o then (some ((-2), wr, nI kn0, nI nx0, ke)) else ((fX2_keep (nI kn0) (nI nx0) ke (nI dy) (nI dr) st we wr).bind (fun r7 => gin (nI j) 6 (some (x5, upd wr (Int32.toNatClampNeg (nI j)) (en o), r7.1, r7.2.1, r7.2.2))))))) = some (r, wr', kn'', nx'', ke'') ∧ (gin (13 + nI j) 191 (nm (now (Int32.toNatClampNeg (13 + nI j))) (fun x5 => if x5 = en o then (some ((-2), now)) else ((fX6_note now).bind (fun r7 => gin (13 + nI j) 191 (some (x5, upd r7 (Int32.toNatClampNeg (13 + nI j)) (en o)))))))) = some (r, now'') ∧ SYH (nI n0) (nI nd) (nI dy) (nI dr) bu st ki we wo wr' kn'' nx'' ke'' now'' := by
    intro j o hj ho
    rw [gin_nI (by omega) (by decide), nm_def, n_cl (by omega), show (13 : Int32) = nI 13 from rfl, gin_add (by omega) (by decide), nm_def, cl_add (by omega), c8 j hj, (hR.2.2.2.2.2 j hj).2.2.2]
    by_cases c : en (wr0 j) = en o
    · rw [if_pos c, if_pos c]
      exact ⟨-2, wr, _, _, _, now, rfl, rfl, h0⟩
    · rw [if_neg c, if_neg c, e1, e2, Option.bind_some, Option.bind_some, gin_nI (by omega) (by decide), gin_add (by omega) (by decide)]
      exact ⟨_, _, _, _, _, _, rfl, rfl, SYH_wear hS ((n_lt (by omega) (by omega)).mpr hj) (by omega) (fun m e => ⟨(n_lt (by have := ho m e; omega) (by omega)).mpr (ho m e), by have := ho m e; omega⟩)⟩
  unfold fX5_hang fX6_hang
  rcases ixc p1 (n := nd) (by omega) with ⟨j, hj, rfl⟩ | hn
  · rw [s_hasMedal_y hj (by omega), m_isMedal_y hR hj h6, Option.bind_some, Option.bind_some, if_neg n10, if_neg n10]
    by_cases a1 : p2 = -4
    · subst a1
      rw [if_pos rfl, if_pos rfl]
      exact fin j none hj (fun m e => by cases e)
    · rw [if_neg a1, if_neg a1]
      rcases ixc p2 (n := n0) (by omega) with ⟨i, hi, rfl⟩ | hn
      · rw [s_hasMan_y hi (by omega), m_isMan_y hR hi h5, Option.bind_some, Option.bind_some, if_neg n10, if_neg n10]
        exact fin j (some i) hj (fun m e => by cases e; exact hi)
      · rw [s_hasMan_n hn, m_isMan_n hR h5 hn, Option.bind_some, Option.bind_some, if_pos n00, if_pos n00]
        exact ⟨-1, _, _, _, _, _, rfl, rfl, h0⟩
  · rw [s_hasMedal_n hn, m_isMedal_n hR h6 hn, Option.bind_some, Option.bind_some, if_pos n00, if_pos n00]
    exact ⟨-1, _, _, _, _, _, rfl, rfl, h0⟩
theorem pub_seed {p1 : Int32} (h : SYH men md day drw bu st ki we wo wr kn nx ke now) : ∃ r drw' now', fX5_seed p1 drw = some (r, drw') ∧ fX6_seed p1 now = some (r, now') ∧ SYH men md day drw' bu st ki we wo wr kn nx ke now' := by
  have h0 := h
  obtain ⟨nm, nd, dy, dr, bu0, st0, ki0, we0, wo0, wr0, kn0, nx0, ⟨hk, hb, hdy, hdr⟩, ⟨rfl, rfl, rfl, rfl, c5, c6, c7, c8⟩, hR, rfl, rfl, hH⟩ := h
  unfold fX5_seed fX6_seed
  by_cases c : 0 ≤ p1
  · obtain ⟨j, hj, rfl⟩ := nI_of (Int32.not_lt.mpr c)
    rw [if_pos c, if_pos c, show (1 : Int32) = nI 1 from rfl, gin_nI (by decide) (by decide), nm_def, gin_nI (by decide) (by decide), n_cl (by decide), hR.2.2.2.1]
    refine ⟨_, _, _, rfl, rfl, nm, nd, dy, j, bu0, st0, ki0, we0, wo0, wr0, kn0, nx0, ⟨hk, hb, hdy, hj⟩, ⟨rfl, rfl, rfl, rfl, c5, c6, c7, c8⟩, ?_, rfl, rfl, HI_kept hH (fun q hq => pk_un (by omega))⟩
    obtain ⟨r1, r2, r3, r4, r5, r6⟩ := hR
    refine ⟨by rw [pk_un (by omega), r1], by rw [pk_un (by omega), r2], by rw [pk_un (by omega), r3], pk_us, fun i hi => ⟨by rw [pk_un (by omega), (r5 i hi).1], by rw [pk_un (by omega), (r5 i hi).2]⟩, fun d hd => ?_⟩
    obtain ⟨a1, a2, a3, a4⟩ := r6 d hd
    exact ⟨by rw [pk_un (by omega), a1], by rw [pk_un (by omega), a2], by rw [pk_un (by omega), a3], by rw [pk_un (by omega), a4]⟩
  · rw [if_neg c, if_neg c]
    exact ⟨-1, _, _, rfl, rfl, h0⟩
end P7
