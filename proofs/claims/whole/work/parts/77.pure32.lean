/-! PURE, 32: the reference's best way -/
section P32
variable {nm nd dy dr : Nat} {bu st ki we wo : Nat → Nat} {wr : Nat → Option Nat} {s : Nat → Int32}
def FE (nm nd odd : Nat) (ki we wo : Nat → Nat) (wr : Nat → Option Nat) (c : Nat) : Nat := mx (fun m => loadN nd ki we wo (hw nd wr nm c) m odd) nm
def FF (nm nd odd : Nat) (st ki we wo : Nat → Nat) (wr : Nat → Option Nat) (c : Nat) : Nat := cn (chg nd wr nm c) 6 + 16 * cn (fun m => decide (st m < loadN nd ki we wo (hw nd wr nm c) m odd)) nm
def BR (nd nm : Nat) (wr : Nat → Option Nat) (c : Nat) (bes : Nat → Int32) : Prop := ∀ j, j < nd → bes j = en (hw nd wr nm c j)
theorem BR_new {c : Nat} {t bes : Nat → Int32} (h6 : nd ≤ 6) (hR : RM nm nd dy dr bu st ki we wo (hw nd wr nm c) t) : BR nd nm wr c (fun q => if 0 ≤ q ∧ q < 0 + 6 then t (13 + (q - 0)) else bes q) := fun j hj => by
  show (if 0 ≤ j ∧ j < 0 + 6 then t (13 + (j - 0)) else bes j) = _
  rw [if_pos (by omega), show 13 + (j - 0) = 13 + j by omega]
  exact (hR.2.2.2.2.2 j hj).2.2.2
theorem bs_y {F : Nat → Nat} {c : Nat} (h : F c < (bs F c).1) : bs F (c + 1) = (F c, c) := if_pos h
theorem bs_n {F : Nat → Nat} {c : Nat} (h : ¬ F c < (bs F c).1) : bs F (c + 1) = bs F c := if_neg h
theorem m_bring6 {t bes : Nat → Int32} : fX6_bring_d 13 0 6 6 t bes = some (fun q => if 0 ≤ q ∧ q < 0 + 6 then t (13 + (q - 0)) else bes q) := m_bring_d (i := 13) (j := 0) (n := 6) (N2 := 6) (by decide) (by decide) (by decide)
theorem m_layEven {t bes : Nat → Int32} (h : okD nm nd ki we wo wr) (hR : RM nm nd dy dr bu st ki we wo wr s) (hdy : dy < 100000) : ∃ bch t' bes', fX6_layBest 1 s t bes = some (nI (bs (FE nm nd (dy % 2) ki we wo wr) (nw (wn nd wr) nm 0)).1, bch, t', bes') ∧ BR nd nm wr (bs (FE nm nd (dy % 2) ki we wo wr) (nw (wn nd wr) nm 0)).2 bes' := by
  have h6 := h.2.1
  have h5 := h.1
  have hpos : 0 < nw (wn nd wr) nm 0 := nw_pos (wn_b h)
  have hle : nw (wn nd wr) nm 0 ≤ 15625 := nw_le h5
  have hF : ∀ c, FE nm nd (dy % 2) ki we wo wr c ≤ 276 := fun c => mx_le nm (fun m _ => loadS_le h (by omega))
  unfold fX6_layBest
  obtain ⟨⟨bm, bch, t', bes'⟩, ⟨e1, e2⟩, e3⟩ := lp_inv (β := Int32 × Int32 × (Nat → Int32) × (Nat → Int32)) (body := bX6_layBest_13 s 1) (nw (wn nd wr) nm 0)
    (fun c a => a.1 = nI c ∧ (c = 0 → a.2.1 = -4) ∧ (0 < c → a.2.1 = nI (bs (FE nm nd (dy % 2) ki we wo wr) c).1 ∧ BR nd nm wr (bs (FE nm nd (dy % 2) ki we wo wr) c).2 a.2.2.2.2))
    (fun r => r.1 = nI (bs (FE nm nd (dy % 2) ki we wo wr) (nw (wn nd wr) nm 0)).1 ∧ BR nd nm wr (bs (FE nm nd (dy % 2) ki we wo wr) (nw (wn nd wr) nm 0)).2 r.2.2.2) (fun r => some r)
    (a0 := (0, -4, 0, t, bes)) ⟨rfl, fun _ => rfl, fun z => absurd z (by decide)⟩ (by omega)
    (fun c hc a hI => by
      obtain ⟨cc, bm, bch, tt, bb⟩ := a
      obtain ⟨g1, g2, g3⟩ := hI
      simp only at g1 g2 g3
      subst g1
      obtain ⟨t1, q1, q2⟩ := m_hangBy (c := c) (t := tt) h hR (by omega)
      have G := m_greatest (okD_hw h) q2 hdy
      have G' : fX6_greatest t1 = some (nI (FE nm nd (dy % 2) ki we wo wr c)) := G
      have hFc := hF c
      have hbl := bs_le (F := FE nm nd (dy % 2) ki we wo wr) c
      have z : ¬ nI (nw (wn nd wr) nm 0) ≤ nI c := fun q => by have := (n_le (by omega) (by omega)).mp q; omega
      by_cases c0 : c = 0
      · have e4 := g2 c0
        have hy : FE nm nd (dy % 2) ki we wo wr c < (bs (FE nm nd (dy % 2) ki we wo wr) c).1 := by
          subst c0
          show _ < 1000000
          omega
        refine ⟨(nI (c + 1), nI (FE nm nd (dy % 2) ki we wo wr c), nI (cn (chg nd wr nm c) 6), t1, fun q => if 0 ≤ q ∧ q < 0 + 6 then t1 (13 + (q - 0)) else bb q), ⟨rfl, fun q => by omega, fun _ => ?_⟩, fun K => ?_⟩
        · rw [bs_y hy]
          exact ⟨rfl, BR_new h6 q2⟩
        · rw [bX6_layBest_13, m_ways h hR, Option.bind_some, if_neg z, q1, Option.bind_some, nm_def, if_neg n10, G', Option.bind_some, if_pos e4, m_bring6, Option.bind_some, nm_def, n_add1]
      · obtain ⟨e4, e5⟩ := g3 (by omega)
        have ne : ¬ bm = -4 := by rw [e4]; exact n_ne4 (by omega)
        by_cases hy : FE nm nd (dy % 2) ki we wo wr c < (bs (FE nm nd (dy % 2) ki we wo wr) c).1
        · refine ⟨(nI (c + 1), nI (FE nm nd (dy % 2) ki we wo wr c), nI (cn (chg nd wr nm c) 6), t1, fun q => if 0 ≤ q ∧ q < 0 + 6 then t1 (13 + (q - 0)) else bb q), ⟨rfl, fun q => by omega, fun _ => ?_⟩, fun K => ?_⟩
          · rw [bs_y hy]
            exact ⟨rfl, BR_new h6 q2⟩
          · rw [bX6_layBest_13, m_ways h hR, Option.bind_some, if_neg z, q1, Option.bind_some, nm_def, if_neg n10, G', Option.bind_some, if_neg ne, if_pos (show nI (FE nm nd (dy % 2) ki we wo wr c) < bm by rw [e4]; exact (n_lt (by omega) (by omega)).mpr hy), m_bring6, Option.bind_some, nm_def, n_add1]
        · refine ⟨(nI (c + 1), bm, bch, t1, bb), ⟨rfl, fun q => by omega, fun _ => ?_⟩, fun K => ?_⟩
          · rw [bs_n hy]
            exact ⟨e4, e5⟩
          · rw [bX6_layBest_13, m_ways h hR, Option.bind_some, if_neg z, q1, Option.bind_some, nm_def, if_neg n10, G', Option.bind_some, if_neg ne, if_neg (show ¬ nI (FE nm nd (dy % 2) ki we wo wr c) < bm from fun q => by rw [e4] at q; exact hy ((n_lt (by omega) (by omega)).mp q)), nm_def, n_add1])
    (fun a hI => by
      obtain ⟨cc, bm, bch, tt, bb⟩ := a
      obtain ⟨g1, g2, g3⟩ := hI
      simp only at g1 g2 g3
      obtain ⟨e4, e5⟩ := g3 hpos
      refine ⟨(bm, bch, tt, bb), ⟨e4, e5⟩, fun K => ?_⟩
      rw [bX6_layBest_13, m_ways h hR, Option.bind_some, g1, if_pos (Int32.le_refl _)])
  simp only at e1 e2
  subst e1
  exact ⟨_, _, _, e3, e2⟩
theorem m_layFew {t bes : Nat → Int32} (h : okD nm nd ki we wo wr) (hR : RM nm nd dy dr bu st ki we wo wr s) (hdy : dy < 100000) (hst : ∀ i, i < nm → st i < 100000) : ∃ t' bes', fX6_layBest 0 s t bes = some (nI ((bs (FF nm nd (dy % 2) st ki we wo wr) (nw (wn nd wr) nm 0)).1 / 16), nI ((bs (FF nm nd (dy % 2) st ki we wo wr) (nw (wn nd wr) nm 0)).1 % 16), t', bes') ∧ BR nd nm wr (bs (FF nm nd (dy % 2) st ki we wo wr) (nw (wn nd wr) nm 0)).2 bes' := by
  have h6 := h.2.1
  have h5 := h.1
  have hpos : 0 < nw (wn nd wr) nm 0 := nw_pos (wn_b h)
  have hle : nw (wn nd wr) nm 0 ≤ 15625 := nw_le h5
  have hC : ∀ c, cn (chg nd wr nm c) 6 ≤ 6 := fun c => cn_le _ 6
  have hB : ∀ c, cn (fun m => decide (st m < loadN nd ki we wo (hw nd wr nm c) m (dy % 2))) nm ≤ 5 := fun c => Nat.le_trans (cn_le _ nm) h5
  unfold fX6_layBest
  obtain ⟨⟨bm, bch, t', bes'⟩, ⟨e1, e2, e0⟩, e3⟩ := lp_inv (β := Int32 × Int32 × (Nat → Int32) × (Nat → Int32)) (body := bX6_layBest_13 s 0) (nw (wn nd wr) nm 0)
    (fun c a => a.1 = nI c ∧ (c = 0 → a.2.1 = -4) ∧ (0 < c → a.2.1 = nI ((bs (FF nm nd (dy % 2) st ki we wo wr) c).1 / 16) ∧ a.2.2.1 = nI ((bs (FF nm nd (dy % 2) st ki we wo wr) c).1 % 16) ∧ BR nd nm wr (bs (FF nm nd (dy % 2) st ki we wo wr) c).2 a.2.2.2.2))
    (fun r => r.1 = nI ((bs (FF nm nd (dy % 2) st ki we wo wr) (nw (wn nd wr) nm 0)).1 / 16) ∧ r.2.1 = nI ((bs (FF nm nd (dy % 2) st ki we wo wr) (nw (wn nd wr) nm 0)).1 % 16) ∧ BR nd nm wr (bs (FF nm nd (dy % 2) st ki we wo wr) (nw (wn nd wr) nm 0)).2 r.2.2.2) (fun r => some r)
    (a0 := (0, -4, 0, t, bes)) ⟨rfl, fun _ => rfl, fun z => absurd z (by decide)⟩ (by omega)
    (fun c hc a hI => by
      obtain ⟨cc, bm, bch, tt, bb⟩ := a
      obtain ⟨g1, g2, g3⟩ := hI
      simp only at g1 g2 g3
      subst g1
      obtain ⟨t1, q1, q2⟩ := m_hangBy (c := c) (t := tt) h hR (by omega)
      have G := m_bentOnes (okD_hw h) q2 hdy hst
      have G2 : fX6_bits (nI (bentM (loadN nd ki we wo (hw nd wr nm c)) st nm dy)) = some (nI (cn (fun m => decide (st m < loadN nd ki we wo (hw nd wr nm c) m (dy % 2))) nm)) := by
        rw [m_bits (bent_lt h5)]
        unfold bentM
        rw [cn_mk (by omega)]
      have eF : FF nm nd (dy % 2) st ki we wo wr c = cn (chg nd wr nm c) 6 + 16 * cn (fun m => decide (st m < loadN nd ki we wo (hw nd wr nm c) m (dy % 2))) nm := rfl
      have hCc := hC c
      have hBc := hB c
      have hbl := bs_le (F := FF nm nd (dy % 2) st ki we wo wr) c
      generalize hX : cn (fun m => decide (st m < loadN nd ki we wo (hw nd wr nm c) m (dy % 2))) nm = X at G2 eF hBc
      generalize hY : cn (chg nd wr nm c) 6 = Y at q1 eF hCc
      have z : ¬ nI (nw (wn nd wr) nm 0) ≤ nI c := fun q => by have := (n_le (by omega) (by omega)).mp q; omega
      have d1 : (FF nm nd (dy % 2) st ki we wo wr c) / 16 = X := by omega
      have d2 : (FF nm nd (dy % 2) st ki we wo wr c) % 16 = Y := by omega
      by_cases c0 : c = 0
      · have e4 := g2 c0
        have hy : FF nm nd (dy % 2) st ki we wo wr c < (bs (FF nm nd (dy % 2) st ki we wo wr) c).1 := by
          subst c0
          show _ < 1000000
          omega
        refine ⟨(nI (c + 1), nI X, nI Y, t1, fun q => if 0 ≤ q ∧ q < 0 + 6 then t1 (13 + (q - 0)) else bb q), ⟨rfl, fun q => by omega, fun _ => ?_⟩, fun K => ?_⟩
        · rw [bs_y hy]
          exact ⟨by show nI X = nI (_ / 16); rw [d1], by show nI Y = nI (_ % 16); rw [d2], BR_new h6 q2⟩
        · rw [bX6_layBest_13, m_ways h hR, Option.bind_some, if_neg z, q1, Option.bind_some, nm_def, if_pos n00, G, Option.bind_some, G2, Option.bind_some, if_pos e4, m_bring6, Option.bind_some, nm_def, n_add1]
      · obtain ⟨e4, e5, e6⟩ := g3 (by omega)
        have ne : ¬ bm = -4 := by rw [e4]; exact n_ne4 (by omega)
        generalize hZ : (bs (FF nm nd (dy % 2) st ki we wo wr) c).1 = Z at e4 e5 hbl
        have new : FF nm nd (dy % 2) st ki we wo wr c < Z → (nI X = nI ((bs (FF nm nd (dy % 2) st ki we wo wr) (c + 1)).1 / 16) ∧ nI Y = nI ((bs (FF nm nd (dy % 2) st ki we wo wr) (c + 1)).1 % 16) ∧ BR nd nm wr (bs (FF nm nd (dy % 2) st ki we wo wr) (c + 1)).2 (fun q => if 0 ≤ q ∧ q < 0 + 6 then t1 (13 + (q - 0)) else bb q)) := fun hy => by
          rw [← hZ] at hy
          rw [bs_y hy]
          exact ⟨by show nI X = nI (_ / 16); rw [d1], by show nI Y = nI (_ % 16); rw [d2], BR_new h6 q2⟩
        have old : ¬ FF nm nd (dy % 2) st ki we wo wr c < Z → (bm = nI ((bs (FF nm nd (dy % 2) st ki we wo wr) (c + 1)).1 / 16) ∧ bch = nI ((bs (FF nm nd (dy % 2) st ki we wo wr) (c + 1)).1 % 16) ∧ BR nd nm wr (bs (FF nm nd (dy % 2) st ki we wo wr) (c + 1)).2 bb) := fun hy => by
          rw [← hZ] at hy
          rw [bs_n hy, hZ]
          exact ⟨e4, e5, e6⟩
        by_cases y1 : X < Z / 16
        · refine ⟨(nI (c + 1), nI X, nI Y, t1, fun q => if 0 ≤ q ∧ q < 0 + 6 then t1 (13 + (q - 0)) else bb q), ⟨rfl, fun q => by omega, fun _ => new (by omega)⟩, fun K => ?_⟩
          rw [bX6_layBest_13, m_ways h hR, Option.bind_some, if_neg z, q1, Option.bind_some, nm_def, if_pos n00, G, Option.bind_some, G2, Option.bind_some, if_neg ne, if_pos (show nI X < bm by rw [e4]; exact (n_lt (by omega) (by omega)).mpr y1), m_bring6, Option.bind_some, nm_def, n_add1]
        · have y1' : ¬ nI X < bm := fun q => by rw [e4] at q; exact y1 ((n_lt (by omega) (by omega)).mp q)
          by_cases y2 : X = Z / 16
          · have y2' : nI X = bm := by rw [e4, y2]
            by_cases y3 : Z % 16 ≤ Y
            · refine ⟨(nI (c + 1), bm, bch, t1, bb), ⟨rfl, fun q => by omega, fun _ => old (by omega)⟩, fun K => ?_⟩
              rw [bX6_layBest_13, m_ways h hR, Option.bind_some, if_neg z, q1, Option.bind_some, nm_def, if_pos n00, G, Option.bind_some, G2, Option.bind_some, if_neg ne, if_neg y1', if_pos y2', if_pos (show bch ≤ nI Y by rw [e5]; exact (n_le (by omega) (by omega)).mpr y3), nm_def, n_add1]
            · refine ⟨(nI (c + 1), nI X, nI Y, t1, fun q => if 0 ≤ q ∧ q < 0 + 6 then t1 (13 + (q - 0)) else bb q), ⟨rfl, fun q => by omega, fun _ => new (by omega)⟩, fun K => ?_⟩
              rw [bX6_layBest_13, m_ways h hR, Option.bind_some, if_neg z, q1, Option.bind_some, nm_def, if_pos n00, G, Option.bind_some, G2, Option.bind_some, if_neg ne, if_neg y1', if_pos y2', if_neg (show ¬ bch ≤ nI Y from fun q => by rw [e5] at q; exact y3 ((n_le (by omega) (by omega)).mp q)), m_bring6, Option.bind_some, nm_def, n_add1]
          · refine ⟨(nI (c + 1), bm, bch, t1, bb), ⟨rfl, fun q => by omega, fun _ => old (by omega)⟩, fun K => ?_⟩
            rw [bX6_layBest_13, m_ways h hR, Option.bind_some, if_neg z, q1, Option.bind_some, nm_def, if_pos n00, G, Option.bind_some, G2, Option.bind_some, if_neg ne, if_neg y1', if_neg (show ¬ nI X = bm from fun q => by rw [e4] at q; exact y2 ((n_eq (by omega) (by omega)).mp q)), nm_def, n_add1])
    (fun a hI => by
      obtain ⟨cc, bm, bch, tt, bb⟩ := a
      obtain ⟨g1, g2, g3⟩ := hI
      simp only at g1 g2 g3
      obtain ⟨e4, e5, e6⟩ := g3 hpos
      refine ⟨(bm, bch, tt, bb), ⟨e4, e5, e6⟩, fun K => ?_⟩
      rw [bX6_layBest_13, m_ways h hR, Option.bind_some, g1, if_pos (Int32.le_refl _)])
  simp only at e1 e2 e0
  subst e1 e2
  exact ⟨_, _, e3, e0⟩
end P32
