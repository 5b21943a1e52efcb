/-! PURE, 39: error, both sides -/
theorem sg_le {f : Nat → Nat} : ∀ n, (∀ k, k < n → f k ≤ 1) → sg f n ≤ n := by
  intro n
  induction n with
  | zero => intro _; exact Nat.le_refl _
  | succ n ih =>
    intro h
    have h1 := ih (fun k hk => h k (by omega))
    have h2 := h n (by omega)
    show sg f n + f n ≤ n + 1
    omega
theorem nI_nz {g : Nat} (h : 0 < g) (h2 : g < 2147483648) : ¬ nI g = 0 := fun q => by
  have := (n_eq (b := 0) h2 (by omega)).mp q
  omega
theorem gnz_z {α : Type} {g : Nat} {A : Option α} (h : 0 < g) (h2 : g < 2147483648) : gnz (nI g) A = A := if_neg (nI_nz h h2)
theorem err_same : bX6_error_106_1 = bX6_error_106 := rfl
section P39
variable {nm nd dy dr : Nat} {bu st ki we wo : Nat → Nat} {wr : Nat → Option Nat} {s : Nat → Int32}
theorem m_gcd {p2 : Int32} {U w : Nat} {t : Nat → Int32} (hy : fX6_ways s = some (nI w)) : ∀ (y x f : Nat), y < f → x < 1000000 → y < 1000000 → 0 < x + y → lp (bX6_error_106 s p2 (nI U) t) f (nI x, nI y) = some (if p2 = 0 then nI U / nI (Nat.gcd x y) else nI w / nI (Nat.gcd x y), t) := by
  intro y
  induction y using Nat.strongRecOn with
  | ind y ih =>
    intro x f hf hx hyb hp
    obtain ⟨f, rfl⟩ : ∃ g, f = g + 1 := ⟨f - 1, by omega⟩
    by_cases z : y = 0
    · subst z
      rw [lp_succ, bX6_error_106, if_pos (show nI 0 ≤ 0 by decide), Nat.gcd_zero_right]
      by_cases c : p2 = 0
      · rw [if_pos c, if_pos c, gnz_z (by omega) (by omega)]
      · rw [if_neg c, if_neg c, hy, Option.bind_some, gnz_z (by omega) (by omega)]
    · have hlt := Nat.mod_lt x (Nat.pos_of_ne_zero z)
      rw [lp_succ, bX6_error_106, if_neg (show ¬ nI y ≤ 0 from fun q => z (by have := (n_le (b := 0) (by omega) (by omega)).mp q; omega)), gnz_z (by omega) (by omega), nm_def, pk_rem (by omega) (by omega) (by omega), ih (x % y) hlt y f (by omega) (by omega) (by omega) (by omega), gcd_step]
theorem nN_le : nN nm nd dy st ki we wo wr ≤ nw (wn nd wr) nm 0 := sg_le _ (fun c _ => by
  unfold idn
  split <;> omega)
theorem nB_le {m : Nat} : nB nm nd dy st ki we wo wr m ≤ nw (wn nd wr) nm 0 := sg_le _ (fun c _ => by
  split <;> omega)
theorem m_errN {p2 : Int32} {tri : Nat → Int32} (h : okD nm nd ki we wo wr) (hR : RM nm nd dy dr bu st ki we wo wr s) (hdy : dy < 100000) (hst : ∀ i, i < nm → st i < 100000) : ∃ t', lp (bX6_error_29 s p2) FU (0, 0, tri) = some (if p2 = 0 then nI (nN nm nd (dy % 2) st ki we wo wr) / nI (Nat.gcd (nN nm nd (dy % 2) st ki we wo wr) (nw (wn nd wr) nm 0)) else nI (nw (wn nd wr) nm 0) / nI (Nat.gcd (nN nm nd (dy % 2) st ki we wo wr) (nw (wn nd wr) nm 0)), t') := by
  have h6 := h.2.1
  have h5 := h.1
  have hpos : 0 < nw (wn nd wr) nm 0 := nw_pos (wn_b h)
  have hle : nw (wn nd wr) nm 0 ≤ 15625 := nw_le h5
  have hNl := nN_le (nm := nm) (nd := nd) (dy := dy % 2) (st := st) (ki := ki) (we := we) (wo := wo) (wr := wr)
  have hWY := m_ways h hR
  obtain ⟨t', -, e⟩ := lp_inv (β := Nat → Int32) (body := bX6_error_29 s p2) (nw (wn nd wr) nm 0)
    (fun c a => a.1 = nI (sg (fun c => idn (okm nd (dy % 2) st ki we wo) nm (wn nd wr) (dg (wn nd wr) nm c)) c) ∧ a.2.1 = nI c)
    (fun _ => True) (fun t => some (if p2 = 0 then nI (nN nm nd (dy % 2) st ki we wo wr) / nI (Nat.gcd (nN nm nd (dy % 2) st ki we wo wr) (nw (wn nd wr) nm 0)) else nI (nw (wn nd wr) nm 0) / nI (Nat.gcd (nN nm nd (dy % 2) st ki we wo wr) (nw (wn nd wr) nm 0)), t))
    (a0 := (0, 0, tri)) ⟨rfl, rfl⟩ (by omega)
    (fun c hc a hI => by
      obtain ⟨v, cc, tt⟩ := a
      obtain ⟨g1, g2⟩ := hI
      simp only at g1 g2
      subst g1 g2
      obtain ⟨t1, q1, q2⟩ := m_hangBy (c := c) (t := tt) h hR (by omega)
      have G := m_bentOnes (okD_hw h) q2 hdy hst
      have z : ¬ nI (nw (wn nd wr) nm 0) ≤ nI c := fun q => by have := (n_le (by omega) (by omega)).mp q; omega
      have hbl := bent_lt (L := loadN nd ki we wo (hw nd wr nm c)) (st := st) (dy := dy) h5
      have e0 : bentM (loadN nd ki we wo (hw nd wr nm c)) st nm dy = 0 ↔ alB (fun m => okm nd (dy % 2) st ki we wo m (sw (wn nd wr) (dg (wn nd wr) nm c) m 6)) nm = true := by
        unfold bentM
        rw [alB_mk, alB_ext (Q := fun m => okm nd (dy % 2) st ki we wo m (sw (wn nd wr) (dg (wn nd wr) nm c) m 6)) nm (fun m _ => ?_)]
        show (!decide (st m < loadN nd ki we wo (hw nd wr nm c) m (dy % 2))) = decide (lS_ nd ki we wo (dy % 2) m (sw (wn nd wr) (dg (wn nd wr) nm c) m 6) ≤ st m)
        rw [lSs_hw h6]
        by_cases q : lS_ nd ki we wo (dy % 2) m (sw (wn nd wr) (dg (wn nd wr) nm c) m 6) ≤ st m
        · rw [decide_eq_true q, decide_eq_false (by omega)]
          rfl
        · rw [decide_eq_false q, decide_eq_true (by omega)]
          rfl
      refine ⟨(nI (sg (fun c => idn (okm nd (dy % 2) st ki we wo) nm (wn nd wr) (dg (wn nd wr) nm c)) (c + 1)), nI (c + 1), t1), ⟨rfl, rfl⟩, fun K => ?_⟩
      rw [bX6_error_29, hWY, Option.bind_some, if_neg z, q1, Option.bind_some]
      show (fX6_bentOnes t1).bind _ = K (nI (sg (fun c => idn (okm nd (dy % 2) st ki we wo) nm (wn nd wr) (dg (wn nd wr) nm c)) c + idn (okm nd (dy % 2) st ki we wo) nm (wn nd wr) (dg (wn nd wr) nm c)), nI (c + 1), t1)
      rw [G, Option.bind_some]
      unfold idn
      by_cases q : alB (fun m => okm nd (dy % 2) st ki we wo m (sw (wn nd wr) (dg (wn nd wr) nm c) m 6)) nm = true
      · rw [e0.mpr q, if_pos (show nI 0 = 0 from rfl), nm_def, nm_def, n_add1, n_add1, if_pos q]
      · rw [if_neg (show ¬ nI (bentM (loadN nd ki we wo (hw nd wr nm c)) st nm dy) = 0 from fun w => q (e0.mp ((n_eq (b := 0) (by omega) (by omega)).mp w))), nm_def, nm_def, n_add1, Int32.add_zero, if_neg q]
        rfl)
    (fun a hI => by
      obtain ⟨v, cc, tt⟩ := a
      obtain ⟨g1, g2⟩ := hI
      simp only at g1 g2
      refine ⟨tt, trivial, fun K => ?_⟩
      rw [bX6_error_29, hWY, Option.bind_some, g2, if_pos (Int32.le_refl _), Option.bind_some, g1]
      exact m_gcd hWY _ _ FU (by unfold FU; omega) (by show nN nm nd (dy % 2) st ki we wo wr < _; omega) (by omega) (by omega))
  exact ⟨t', e⟩
theorem m_errB {p2 : Int32} {m : Nat} {tri : Nat → Int32} (h : okD nm nd ki we wo wr) (hR : RM nm nd dy dr bu st ki we wo wr s) (hdy : dy < 100000) (hst : ∀ i, i < nm → st i < 100000) (hm : m < nm) : ∃ t', lp (bX6_error_29_1 s (nI m) p2) FU (0, 0, tri) = some (if p2 = 0 then nI (nB nm nd (dy % 2) st ki we wo wr m) / nI (Nat.gcd (nB nm nd (dy % 2) st ki we wo wr m) (nw (wn nd wr) nm 0)) else nI (nw (wn nd wr) nm 0) / nI (Nat.gcd (nB nm nd (dy % 2) st ki we wo wr m) (nw (wn nd wr) nm 0)), t') := by
  have h6 := h.2.1
  have h5 := h.1
  have hpos : 0 < nw (wn nd wr) nm 0 := nw_pos (wn_b h)
  have hle : nw (wn nd wr) nm 0 ≤ 15625 := nw_le h5
  have hNl := nB_le (nm := nm) (nd := nd) (dy := dy % 2) (st := st) (ki := ki) (we := we) (wo := wo) (wr := wr) (m := m)
  have hWY := m_ways h hR
  obtain ⟨t', -, e⟩ := lp_inv (β := Nat → Int32) (body := bX6_error_29_1 s (nI m) p2) (nw (wn nd wr) nm 0)
    (fun c a => a.1 = nI (sg (fun c => if lS_ nd ki we wo (dy % 2) m (sw (wn nd wr) (dg (wn nd wr) nm c) m 6) ≤ st m then 0 else 1) c) ∧ a.2.1 = nI c)
    (fun _ => True) (fun t => some (if p2 = 0 then nI (nB nm nd (dy % 2) st ki we wo wr m) / nI (Nat.gcd (nB nm nd (dy % 2) st ki we wo wr m) (nw (wn nd wr) nm 0)) else nI (nw (wn nd wr) nm 0) / nI (Nat.gcd (nB nm nd (dy % 2) st ki we wo wr m) (nw (wn nd wr) nm 0)), t))
    (a0 := (0, 0, tri)) ⟨rfl, rfl⟩ (by omega)
    (fun c hc a hI => by
      obtain ⟨v, cc, tt⟩ := a
      obtain ⟨g1, g2⟩ := hI
      simp only at g1 g2
      subst g1 g2
      obtain ⟨t1, q1, q2⟩ := m_hangBy (c := c) (t := tt) h hR (by omega)
      have G := m_isBent (okD_hw h) q2 hdy hm (hst m hm)
      rw [lSs_hw h6] at G
      have z : ¬ nI (nw (wn nd wr) nm 0) ≤ nI c := fun q => by have := (n_le (by omega) (by omega)).mp q; omega
      refine ⟨(nI (sg (fun c => if lS_ nd ki we wo (dy % 2) m (sw (wn nd wr) (dg (wn nd wr) nm c) m 6) ≤ st m then 0 else 1) (c + 1)), nI (c + 1), t1), ⟨rfl, rfl⟩, fun K => ?_⟩
      rw [bX6_error_29_1, hWY, Option.bind_some, if_neg z, q1, Option.bind_some]
      show (fX6_isBent (nI m) t1).bind _ = K (nI (sg (fun c => if lS_ nd ki we wo (dy % 2) m (sw (wn nd wr) (dg (wn nd wr) nm c) m 6) ≤ st m then 0 else 1) c + (if lS_ nd ki we wo (dy % 2) m (sw (wn nd wr) (dg (wn nd wr) nm c) m 6) ≤ st m then 0 else 1)), nI (c + 1), t1)
      rw [G, Option.bind_some]
      by_cases q : lS_ nd ki we wo (dy % 2) m (sw (wn nd wr) (dg (wn nd wr) nm c) m 6) ≤ st m
      · rw [if_pos q, if_pos n00, nm_def, nm_def, n_add1, Int32.add_zero, if_pos q]
        rfl
      · rw [if_neg q, if_neg n10, nm_def, nm_def, n_add1, n_add1, if_neg q])
    (fun a hI => by
      obtain ⟨v, cc, tt⟩ := a
      obtain ⟨g1, g2⟩ := hI
      simp only at g1 g2
      refine ⟨tt, trivial, fun K => ?_⟩
      rw [bX6_error_29_1, hWY, Option.bind_some, g2, if_pos (Int32.le_refl _), Option.bind_some, g1, err_same]
      exact m_gcd hWY _ _ FU (by unfold FU; omega) (by show nB nm nd (dy % 2) st ki we wo wr m < _; omega) (by omega) (by omega))
  exact ⟨t', e⟩
theorem s_gcd' {a b : Nat} (h1 : b ≤ a) (h2 : a ≤ 15625) : fX5_greatestCommonDivisor (nI a) (nI b) = some (nI (Nat.gcd a b)) := s_gcd 60 a b 0 FU h1 (Nat.lt_of_le_of_lt (Nat.mul_le_mul h2 (Nat.le_trans h1 h2)) (by decide)) (by omega) (by unfold FU; omega) (by omega)
end P39
section P39b
variable {men md day drw : Int32} {bu st ki we wo wr now tri wy : Nat → Int32} {ld : Nat → Nat → Int32} {worn p1 p2 : Int32}
theorem pub_error (h : SY men md day drw bu st ki we wo wr now) : ∃ r a1 a2 a3 tri', fX5_error p1 p2 men md day st ki we wo wr worn ld wy = some (r, a1, a2, a3) ∧ fX6_error p1 p2 now tri = some (r, tri') := by
  obtain ⟨nm, nd, dy, dr, bu0, st0, ki0, we0, wo0, wr0, ⟨hk, hb, hdy, hdr⟩, ⟨rfl, rfl, rfl, rfl, c5, c6, c7, c8⟩, hR⟩ := h
  have h5 := hk.1
  have hs : ∀ i, i < nm → st0 i < 100000 := fun i hi => by have := hb i hi; omega
  have hpos : 0 < nw (wn nd wr0) nm 0 := nw_pos (wn_b hk)
  have hle : nw (wn nd wr0) nm 0 ≤ 15625 := nw_le h5
  have k5 := s_ways (nm := nm) (nd := nd) (wr := wr0) h5
  obtain ⟨ld', k1, k2⟩ := s_prepare (ld := ld) hk c7 c8 (show dy < 100000 by omega)
  unfold fX5_error fX6_error fX6_in
  by_cases a0 : p1 = -1
  · rw [if_pos a0, if_pos a0]
    by_cases a1 : p2 < 0
    · rw [if_pos a1, if_pos a1]
      exact ⟨-1, _, _, _, _, rfl, rfl⟩
    rw [if_neg a1, if_neg a1]
    by_cases a2 : p2 ≤ 1
    · obtain ⟨wy', k3⟩ := s_waysWithNobodyBent (wy := wy) hk (show dy % 2 ≤ 1 by omega) k2 c6 hs
      obtain ⟨t', k4⟩ := m_errN (tri := tri) (p2 := p2) hk hR (by omega) hs
      have hN := nN_le (nm := nm) (nd := nd) (dy := dy % 2) (st := st0) (ki := ki0) (we := we0) (wo := wo0) (wr := wr0)
      have k6 := s_gcd' hN hle
      have hg : 0 < Nat.gcd (nw (wn nd wr0) nm 0) (nN nm nd (dy % 2) st0 ki0 we0 wo0 wr0) := Nat.gcd_pos_of_pos_left _ hpos
      have hg2 : Nat.gcd (nw (wn nd wr0) nm 0) (nN nm nd (dy % 2) st0 ki0 we0 wo0 wr0) ≤ 15625 := Nat.le_trans (Nat.gcd_le_left _ hpos) hle
      rw [Nat.gcd_comm] at k4
      rw [if_pos a2, if_neg (Int32.not_lt.mpr a2), Option.bind_some, if_neg n10, k4, k1, Option.bind_some]
      dsimp only
      rw [k3, Option.bind_some, nm_def, k5, Option.bind_some, k6, Option.bind_some, if_neg (nI_nz hg (by omega)), gnz_z hg (by omega), gnz_z hg (by omega)]
      by_cases a3 : p2 = 0
      · rw [if_pos a3, if_pos a3]
        exact ⟨_, _, _, _, _, rfl, rfl⟩
      · rw [if_neg a3, if_neg a3]
        exact ⟨_, _, _, _, _, rfl, rfl⟩
    · rw [if_neg a2, if_pos (Int32.not_le.mp a2)]
      exact ⟨-1, _, _, _, _, rfl, rfl⟩
  · rw [if_neg a0, if_neg a0]
    rcases ixc p1 (n := nm) (by omega) with ⟨j, hj, rfl⟩ | hn
    · rw [s_hasMan_y hj (by omega), m_isMan_y hR hj h5, Option.bind_some, Option.bind_some, if_neg n10, if_neg n10]
      by_cases a1 : p2 < 0
      · rw [if_pos a1, if_pos a1]
        exact ⟨-1, _, _, _, _, rfl, rfl⟩
      rw [if_neg a1, if_neg a1]
      by_cases a2 : p2 ≤ 1
      · have k3 := s_waysWithBent (m := j) hk (show dy % 2 ≤ 1 by omega) k2 c6 hs hj
        obtain ⟨t', k4⟩ := m_errB (tri := tri) (p2 := p2) hk hR (by omega) hs hj
        have hN := nB_le (nm := nm) (nd := nd) (dy := dy % 2) (st := st0) (ki := ki0) (we := we0) (wo := wo0) (wr := wr0) (m := j)
        have k6 := s_gcd' hN hle
        have hg : 0 < Nat.gcd (nw (wn nd wr0) nm 0) (nB nm nd (dy % 2) st0 ki0 we0 wo0 wr0 j) := Nat.gcd_pos_of_pos_left _ hpos
        have hg2 : Nat.gcd (nw (wn nd wr0) nm 0) (nB nm nd (dy % 2) st0 ki0 we0 wo0 wr0 j) ≤ 15625 := Nat.le_trans (Nat.gcd_le_left _ hpos) hle
        rw [Nat.gcd_comm] at k4
        rw [if_pos a2, if_neg (Int32.not_lt.mpr a2), Option.bind_some, if_neg n10, k4, k1, Option.bind_some]
        dsimp only
        rw [k3, Option.bind_some, k5, Option.bind_some, k6, Option.bind_some, if_neg (nI_nz hg (by omega)), gnz_z hg (by omega), gnz_z hg (by omega)]
        by_cases a3 : p2 = 0
        · rw [if_pos a3, if_pos a3]
          exact ⟨_, _, _, _, _, rfl, rfl⟩
        · rw [if_neg a3, if_neg a3]
          exact ⟨_, _, _, _, _, rfl, rfl⟩
      · rw [if_neg a2, if_pos (Int32.not_le.mp a2)]
        exact ⟨-1, _, _, _, _, rfl, rfl⟩
    · rw [s_hasMan_n hn, m_isMan_n hR h5 hn]
      exact ⟨-1, _, _, _, _, rfl, rfl⟩
end P39b
