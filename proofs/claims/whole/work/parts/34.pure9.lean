/-! PURE, 9: at, count, medal, polish -/
theorem s_allStrength {nm : Nat} {st : Nat → Nat} {st' : Nat → Int32} (h5 : nm ≤ 5) (hst : rS nm st st') : ∃ r, fX1_allStrength (nI nm) st' = some r ∧ r = bx_sum (fun i => nI (st i)) nm := by
  refine ⟨_, ?_, rfl⟩
  unfold fX1_allStrength
  refine lp_to (fun k => (bx_sum (fun i => nI (st i)) k, nI k)) nm rfl (by omega) (fun k hk K => ?_) (fun K => ?_)
  · rw [bX1_allStrength_4, if_neg (by rw [n_le (by omega) (by omega)]; omega), gin_nI (by omega) (by decide), nm_def, nm_def, n_cl (by omega), hst k hk, n_add1]
    rfl
  · rw [bX1_allStrength_4, if_pos (by rw [n_le (by omega) (by omega)]; omega)]
section P9a
variable {nm nd dy dr : Nat} {bu st ki we wo : Nat → Nat} {wr : Nat → Option Nat} {s : Nat → Int32}
theorem m_strengths (h5 : nm ≤ 5) (hR : RM nm nd dy dr bu st ki we wo wr s) : fX6_strengths s = some (bx_sum (fun i => nI (st i)) nm) := by
  unfold fX6_strengths
  refine lp_to (fun k => (bx_sum (fun i => nI (st i)) k, nI k)) nm rfl (by omega) (fun k hk K => ?_) (fun K => ?_)
  · rw [bX6_strengths_4, show (19 : Int32) = nI 19 from rfl, show (2 : Int32) = nI 2 from rfl, gin_nI (by decide) (by decide), n_cl (by decide), hR.1, if_neg (by rw [n_le (by omega) (by omega)]; omega), gin_add (by omega) (by decide), nm_def, nm_def, cl_add (by omega), (hR.2.2.2.2.1 k hk).2, n_add1]
    rfl
  · rw [bX6_strengths_4, show (19 : Int32) = nI 19 from rfl, gin_nI (by decide) (by decide), n_cl (by decide), hR.1, if_pos (by rw [n_le (by omega) (by omega)]; omega)]
theorem m_loads (h : okD nm nd ki we wo wr) (hR : RM nm nd dy dr bu st ki we wo wr s) (hdy : dy < 100000) : fX6_loads s = some (bx_sum (fun i => nI (loadN nd ki we wo wr i (dy % 2))) nm) := by
  have h5 := h.1
  unfold fX6_loads
  refine lp_to (fun k => (bx_sum (fun i => nI (loadN nd ki we wo wr i (dy % 2))) k, nI k)) nm rfl (by omega) (fun k hk K => ?_) (fun K => ?_)
  · rw [bX6_loads_4, show (19 : Int32) = nI 19 from rfl, gin_nI (by decide) (by decide), n_cl (by decide), hR.1, if_neg (by rw [n_le (by omega) (by omega)]; omega), m_load h hR hdy (by omega), Option.bind_some, nm_def, nm_def, n_add1]
    rfl
  · rw [bX6_loads_4, show (19 : Int32) = nI 19 from rfl, gin_nI (by decide) (by decide), n_cl (by decide), hR.1, if_pos (by rw [n_le (by omega) (by omega)]; omega)]
theorem s_allLoads {ki' we' wo' wr' : Nat → Int32} (h : okD nm nd ki we wo wr) (hr : rD nd ki we wo ki' we' wo') (hw : rW nd wr wr') (hdy : dy < 100000) : fX1_allLoads (nI nm) (nI nd) (nI dy) ki' we' wo' wr' = some (bx_sum (fun i => nI (loadN nd ki we wo wr i (dy % 2))) nm) := by
  have h5 := h.1
  unfold fX1_allLoads
  refine lp_to (fun k => (bx_sum (fun i => nI (loadN nd ki we wo wr i (dy % 2))) k, nI k)) nm rfl (by omega) (fun k hk K => ?_) (fun K => ?_)
  · rw [bX1_allLoads_4, if_neg (by rw [n_le (by omega) (by omega)]; omega), s_loadOn h hr hw (by omega) hdy, Option.bind_some, nm_def, nm_def, n_add1]
    rfl
  · rw [bX1_allLoads_4, if_pos (by rw [n_le (by omega) (by omega)]; omega)]
theorem s_bearsNow {d : Nat} {ki' we' wo' wr' : Nat → Int32} (h : okD nm nd ki we wo wr) (hr : rD nd ki we wo ki' we' wo') (hw : rW nd wr wr') (hR : RM nm nd dy dr bu st ki we wo wr s) (hdy : dy < 100000) (hd : d < nd) : ∃ r, fX1_bearsNow (nI d) (nI nd) (nI dy) ki' we' wo' wr' = some r ∧ fX6_bears (nI d) s = some r := by
  have h5 := h.1
  have h6 := h.2.1
  unfold fX1_bearsNow
  rw [gin_nI (by omega) (by decide), nm_def, n_cl (by omega), hw d hd]
  cases hm : wr d with
  | none =>
    rw [if_pos (show en none = -4 from rfl)]
    refine ⟨0, rfl, ?_⟩
    unfold fX6_bears
    rw [show (13 : Int32) = nI 13 from rfl, gin_add (by omega) (by decide), nm_def, cl_add (by omega), (hR.2.2.2.2.2 d hd).2.2.2, hm, if_pos (show en none = -4 from rfl)]
  | some m =>
    have hmm := (h.2.2.2 d hd).2.2.2.2 m hm
    obtain ⟨b1, b2, b3, b4, b5⟩ := h.2.2.2 d hd
    obtain ⟨a1, a2, a3⟩ := hr d hd
    have hne : ¬ en (some m) = -4 := fun q => by have := (en_none (o := some m) (fun k q => by cases q; omega)).mp q; cases this
    have hcl := cn_le (fun d => wr d == some m) nd
    have hcp : 0 < cn (fun d => wr d == some m) nd := cn_pos (P := fun d => wr d == some m) (k := d) (by show (wr d == some m) = true; rw [hm]; exact beq_self_eq_true _) nd hd
    have hm64 : mk (fun d => wr d == some m) nd < 64 := Nat.lt_of_lt_of_le (mk_lt _ nd) (Nat.pow_le_pow_right (by decide) h6)
    rw [if_neg hne, s_wornBy h hw (fun k q => by cases q; omega), Option.bind_some, s_bitCount hm64, Option.bind_some, cn_mk h6, n_sub1 hcp, show en (some m) = nI m from rfl, s_bears (by omega) a1 a2 a3 b1 b3 (by omega) (by omega) (by omega) hdy, Option.bind_some, m_bears h hR hdy hd hm]
    exact ⟨_, rfl, rfl⟩
end P9a
section P9
variable {men md day drw kn nx : Int32} {bu st ki we wo wr now : Nat → Int32} {ke : Nat → Nat → Int32}
theorem pub_at {p1 p2 : Int32} (h : SY men md day drw bu st ki we wo wr now) : ∃ r, fX5_at p1 p2 md day ki we wo wr = some r ∧ fX6_at p1 p2 now = some r := by
  obtain ⟨nm, nd, dy, dr, bu0, st0, ki0, we0, wo0, wr0, ⟨hk, hb, hdy, hdr⟩, ⟨rfl, rfl, rfl, rfl, c5, c6, c7, c8⟩, hR⟩ := h
  have h5 := hk.1
  have h6 := hk.2.1
  unfold fX5_at fX6_at
  rcases ixc p1 (n := nd) (by omega) with ⟨j, hj, rfl⟩ | hn
  · obtain ⟨q1, q2, q3, q4⟩ := hR.2.2.2.2.2 j hj
    obtain ⟨w1, w2, w3⟩ := c7 j hj
    have w4 := c8 j hj
    rw [s_hasMedal_y hj (by omega), m_isMedal_y hR hj h6, Option.bind_some, Option.bind_some, if_neg n10, if_neg n10]
    by_cases c0 : p2 = 0
    · rw [if_pos c0, if_pos c0]
      exact ⟨nI (ki0 j), by rw [gin_nI (by omega) (by decide), n_cl (by omega), w1], by rw [show (26 : Int32) = nI 26 from rfl, gin_add (by omega) (by decide), cl_add (by omega), q1]⟩
    rw [if_neg c0, if_neg c0]
    by_cases c1 : p2 = 1
    · rw [if_pos c1, if_pos c1]
      exact ⟨nI (we0 j), by rw [gin_nI (by omega) (by decide), n_cl (by omega), w2], by rw [show (7 : Int32) = nI 7 from rfl, gin_add (by omega) (by decide), cl_add (by omega), q2]⟩
    rw [if_neg c1, if_neg c1]
    by_cases c2 : p2 = 2
    · rw [if_pos c2, if_pos c2]
      exact ⟨nI (wo0 j), by rw [gin_nI (by omega) (by decide), n_cl (by omega), w3], by rw [show (32 : Int32) = nI 32 from rfl, gin_add (by omega) (by decide), cl_add (by omega), q3]⟩
    rw [if_neg c2, if_neg c2]
    by_cases c3 : p2 = 3
    · rw [if_pos c3, if_pos c3]
      exact ⟨en (wr0 j), by rw [gin_nI (by omega) (by decide), n_cl (by omega), w4], by rw [show (13 : Int32) = nI 13 from rfl, gin_add (by omega) (by decide), cl_add (by omega), q4]⟩
    rw [if_neg c3, if_neg c3]
    by_cases c4 : p2 = 4
    · obtain ⟨r, e1, e2⟩ := s_bearsNow hk c7 c8 hR (by omega) hj
      rw [if_pos c4, if_pos c4, e1, e2]
      exact ⟨r, rfl, rfl⟩
    rw [if_neg c4, if_neg c4]
    exact ⟨_, rfl, rfl⟩
  · rw [s_hasMedal_n hn, m_isMedal_n hR h6 hn]
    exact ⟨-1, rfl, rfl⟩
theorem pub_count {p1 : Int32} (h : SYH men md day drw bu st ki we wo wr kn nx ke now) : ∃ r, fX5_count p1 men md day st ki we wo wr kn = some r ∧ fX6_count p1 now = some r := by
  obtain ⟨nm, nd, dy, dr, bu0, st0, ki0, we0, wo0, wr0, kn0, nx0, ⟨hk, hb, hdy, hdr⟩, ⟨rfl, rfl, rfl, rfl, c5, c6, c7, c8⟩, hR, rfl, rfl, hH⟩ := h
  have h5 := hk.1
  have h6 := hk.2.1
  have hs : ∀ i, i < nm → st0 i < 100000 := fun i hi => by have := hb i hi; omega
  have c19 : Int32.toNatClampNeg 19 = 19 := by decide
  have c25 : Int32.toNatClampNeg 25 = 25 := by decide
  have c38 : Int32.toNatClampNeg 38 = 38 := by decide
  have z0 : Int32.toNatClampNeg 0 = 0 := by decide
  have g19 : ∀ {α : Type} (A : Option α), gin 19 191 A = A := fun A => gin_nI (k := 19) (by decide) (by decide)
  have g25 : ∀ {α : Type} (A : Option α), gin 25 191 A = A := fun A => gin_nI (k := 25) (by decide) (by decide)
  have g38 : ∀ {α : Type} (A : Option α), gin 38 191 A = A := fun A => gin_nI (k := 38) (by decide) (by decide)
  have g0 : ∀ {α : Type} (A : Option α), gin 0 191 A = A := fun A => gin_nI (k := 0) (by decide) (by decide)
  unfold fX5_count fX6_count
  rw [g19, g25, g38, g0, c19, c25, c38, z0, hR.1, hR.2.1, hR.2.2.1, hH.2.2.1]
  by_cases q0 : p1 = 0
  · rw [if_pos q0, if_pos q0]; exact ⟨_, rfl, rfl⟩
  rw [if_neg q0, if_neg q0]
  by_cases q1 : p1 = 1
  · rw [if_pos q1, if_pos q1]; exact ⟨_, rfl, rfl⟩
  rw [if_neg q1, if_neg q1]
  by_cases q2 : p1 = 2
  · rw [if_pos q2, if_pos q2]; exact ⟨_, rfl, rfl⟩
  rw [if_neg q2, if_neg q2]
  by_cases q3 : p1 = 3
  · rw [if_pos q3, if_pos q3, s_allBent hk c7 c8 c6 hs (by omega), m_bentOnes hk hR (by omega) hs]; exact ⟨_, rfl, rfl⟩
  rw [if_neg q3, if_neg q3]
  by_cases q4 : p1 = 4
  · have e1 := s_wornBy (o := none) hk c8 (fun k q => by cases q)
    have e2 := m_wornBy (o := none) hk hR (fun k q => by cases q)
    rw [if_pos q4, if_pos q4, show fX1_wornBy (-4) (nI nd) wr = _ from e1, show fX6_wornBy (-4) now = _ from e2]; exact ⟨_, rfl, rfl⟩
  rw [if_neg q4, if_neg q4]
  by_cases q5 : p1 = 5
  · obtain ⟨r, e1, e2⟩ := s_allStrength h5 c6
    rw [if_pos q5, if_pos q5, e1, m_strengths h5 hR, e2]; exact ⟨_, rfl, rfl⟩
  rw [if_neg q5, if_neg q5]
  by_cases q6 : p1 = 6
  · rw [if_pos q6, if_pos q6, s_allLoads hk c7 c8 (by omega), m_loads hk hR (by omega)]; exact ⟨_, rfl, rfl⟩
  rw [if_neg q6, if_neg q6]
  by_cases q7 : p1 = 7
  · rw [if_pos q7]; exact ⟨_, rfl, rfl⟩
  rw [if_neg q7]
  exact ⟨_, rfl, rfl⟩
end P9
