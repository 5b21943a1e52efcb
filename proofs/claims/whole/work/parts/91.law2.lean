/-! THE LAW: all calls -/
theorem law_step {L k : Nat} {xs : Nat → Int32} (hL : L ≤ 512) (h : 8 * k + 8 ≤ L) (a : Int32 × Int32 × Int32 × Int32 × Int32 × Int32 × (Nat → Int32) × (Nat → Int32) × (Nat → Int32) × (Nat → Int32) × (Nat → Int32) × (Nat → Int32) × Int32 × Int32 × (Nat → Nat → Int32) × Int32 × Int32 × Int32 × Int32 × (Nat → Int32) × (Nat → Int32) × (Nat → Int32) × (Nat → Int32) × (Nat → Int32) × (Nat → Int32) × Int32 × Int32 × (Nat → Nat → Int32) × Int32 × Int32 × Int32 × Int32 × (Nat → Int32) × (Nat → Int32) × (Nat → Int32) × (Nat → Int32) × (Nat → Int32) × (Nat → Int32) × Int32 × Int32 × (Nat → Int32) × Int32 × Int32 × Int32 × (Nat → Nat → Int32) × (Nat → Int32) × (Nat → Int32) × (Nat → Int32) × (Nat → Int32) × (Nat → Int32) × (Nat → Int32) × (Nat → Int32) × (Nat → Nat → Int64) × Int32 × Int32 × Int32 × Int32 × Int32 × Int32 × (Nat → Int32) × (Nat → Int32) × (Nat → Int64) × (Nat → Int32) × (Nat → Int32) × (Nat → Int32) × (Nat → Int32) × (Nat → Int32) × (Nat → Int32)) (hI : IT k a) : ∃ a', IT (k + 1) a' ∧ ∀ K, bL_law_18 L xs K a = K a' := by
  obtain ⟨v3, img_x, men_n, md_n, day_n, drw_n, bu_n, st_n, ki_n, we_n, wo_n, wr_n, kn_p, nx_p, ke_p, men_a, md_a, day_a, drw_a, bu_a, st_a, ki_a, we_a, wo_a, wr_a, kn_q, nx_q, ke_q, men_t, md_t, day_t, drw_t, bu_t, st_t, ki_t, we_t, wo_t, wr_t, ln_T, plc_T, ltr_T, worn_h, few_h, bc_h, ld_h, so_h, tr_h, be_h, wy_h, th_r, lan_r, siz_r, itm_r, ltr_M, pos_M, num_M, isk_M, bm_M, bch_M, lan_M, siz_M, itm_M, tap_M, now_M, tri_M, rd_M, kp_M, bes_M⟩ := a
  obtain ⟨rfl, hS, hG, hA, hT, hR⟩ := hI
  by_cases c0 : (xs (Int32.toNatClampNeg (nI (8 * k))) &&& 31) = 0
  · exact st_man hS hG hA hT hR h hL c0
  by_cases c1 : (xs (Int32.toNatClampNeg (nI (8 * k))) &&& 31) = 1
  · exact st_medal hS hG hA hT hR h hL c1
  by_cases c2 : (xs (Int32.toNatClampNeg (nI (8 * k))) &&& 31) = 2
  · exact st_of hS hG hA hT hR h hL c2
  by_cases c3 : (xs (Int32.toNatClampNeg (nI (8 * k))) &&& 31) = 3
  · exact st_at hS hG hA hT hR h hL c3
  by_cases c4 : (xs (Int32.toNatClampNeg (nI (8 * k))) &&& 31) = 4
  · exact st_type hS hG hA hT hR h hL c4
  by_cases c5 : (xs (Int32.toNatClampNeg (nI (8 * k))) &&& 31) = 5
  · exact st_state hS hG hA hT hR h hL c5
  by_cases c6 : (xs (Int32.toNatClampNeg (nI (8 * k))) &&& 31) = 6
  · exact st_count hS hG hA hT hR h hL c6
  by_cases c7 : (xs (Int32.toNatClampNeg (nI (8 * k))) &&& 31) = 7
  · exact st_days hS hG hA hT hR h hL c7
  by_cases c8 : (xs (Int32.toNatClampNeg (nI (8 * k))) &&& 31) = 8
  · exact st_hang hS hG hA hT hR h hL c8
  by_cases c9 : (xs (Int32.toNatClampNeg (nI (8 * k))) &&& 31) = 9
  · exact st_polish hS hG hA hT hR h hL c9
  by_cases c10 : (xs (Int32.toNatClampNeg (nI (8 * k))) &&& 31) = 10
  · exact st_drift hS hG hA hT hR h hL c10
  by_cases c11 : (xs (Int32.toNatClampNeg (nI (8 * k))) &&& 31) = 11
  · exact st_undo hS hG hA hT hR h hL c11
  by_cases c12 : (xs (Int32.toNatClampNeg (nI (8 * k))) &&& 31) = 12
  · exact st_seed hS hG hA hT hR h hL c12
  by_cases c13 : (xs (Int32.toNatClampNeg (nI (8 * k))) &&& 31) = 13
  · exact st_ahead hS hG hA hT hR h hL c13
  by_cases c14 : (xs (Int32.toNatClampNeg (nI (8 * k))) &&& 31) = 14
  · exact st_then hS hG hA hT hR h hL c14
  by_cases c15 : (xs (Int32.toNatClampNeg (nI (8 * k))) &&& 31) = 15
  · exact st_done hS hG hA hT hR h hL c15
  by_cases c16 : (xs (Int32.toNatClampNeg (nI (8 * k))) &&& 31) = 16
  · exact st_ever hS hG hA hT hR h hL c16
  by_cases c17 : (xs (Int32.toNatClampNeg (nI (8 * k))) &&& 31) = 17
  · exact st_even hS hG hA hT hR h hL c17
  by_cases c18 : (xs (Int32.toNatClampNeg (nI (8 * k))) &&& 31) = 18
  · exact st_few hS hG hA hT hR h hL c18
  by_cases c19 : (xs (Int32.toNatClampNeg (nI (8 * k))) &&& 31) = 19
  · exact st_off hS hG hA hT hR h hL c19
  by_cases c20 : (xs (Int32.toNatClampNeg (nI (8 * k))) &&& 31) = 20
  · exact st_needs hS hG hA hT hR h hL c20
  by_cases c21 : (xs (Int32.toNatClampNeg (nI (8 * k))) &&& 31) = 21
  · exact st_two hS hG hA hT hR h hL c21
  by_cases c22 : (xs (Int32.toNatClampNeg (nI (8 * k))) &&& 31) = 22
  · exact st_error hS hG hA hT hR h hL c22
  by_cases c23 : (xs (Int32.toNatClampNeg (nI (8 * k))) &&& 31) = 23
  · exact st_image hS hG hA hT hR h hL c23
  by_cases c24 : (xs (Int32.toNatClampNeg (nI (8 * k))) &&& 31) = 24
  · exact st_restore hS hG hA hT hR h hL c24
  by_cases c25 : (xs (Int32.toNatClampNeg (nI (8 * k))) &&& 31) = 25
  · exact st_felt hS hG hA hT hR h hL c25
  by_cases c26 : (xs (Int32.toNatClampNeg (nI (8 * k))) &&& 31) = 26
  · exact st_film hS hG hA hT hR h hL c26
  by_cases c27 : (xs (Int32.toNatClampNeg (nI (8 * k))) &&& 31) = 27
  · exact st_sheet hS hG hA hT hR h hL c27
  by_cases c28 : (xs (Int32.toNatClampNeg (nI (8 * k))) &&& 31) = 28
  · exact st_drop hS hG hA hT hR h hL c28
  by_cases c29 : (xs (Int32.toNatClampNeg (nI (8 * k))) &&& 31) = 29
  · exact st_item hS hG hA hT hR h hL c29
  by_cases c30 : (xs (Int32.toNatClampNeg (nI (8 * k))) &&& 31) = 30
  · exact st_copy hS hG hA hT hR h hL c30
  exact st_else hS hG hA hT hR h hL c0 c1 c2 c3 c4 c5 c6 c7 c8 c9 c10 c11 c12 c13 c14 c15 c16 c17 c18 c19 c20 c21 c22 c23 c24 c25 c26 c27 c28 c29 c30
theorem law_end {L k : Nat} {xs : Nat → Int32} (hL : L ≤ 512) (h : L < 8 * k + 8) (hk : 8 * k ≤ L) (a : Int32 × Int32 × Int32 × Int32 × Int32 × Int32 × (Nat → Int32) × (Nat → Int32) × (Nat → Int32) × (Nat → Int32) × (Nat → Int32) × (Nat → Int32) × Int32 × Int32 × (Nat → Nat → Int32) × Int32 × Int32 × Int32 × Int32 × (Nat → Int32) × (Nat → Int32) × (Nat → Int32) × (Nat → Int32) × (Nat → Int32) × (Nat → Int32) × Int32 × Int32 × (Nat → Nat → Int32) × Int32 × Int32 × Int32 × Int32 × (Nat → Int32) × (Nat → Int32) × (Nat → Int32) × (Nat → Int32) × (Nat → Int32) × (Nat → Int32) × Int32 × Int32 × (Nat → Int32) × Int32 × Int32 × Int32 × (Nat → Nat → Int32) × (Nat → Int32) × (Nat → Int32) × (Nat → Int32) × (Nat → Int32) × (Nat → Int32) × (Nat → Int32) × (Nat → Int32) × (Nat → Nat → Int64) × Int32 × Int32 × Int32 × Int32 × Int32 × Int32 × (Nat → Int32) × (Nat → Int32) × (Nat → Int64) × (Nat → Int32) × (Nat → Int32) × (Nat → Int32) × (Nat → Int32) × (Nat → Int32) × (Nat → Int32)) (hI : IT k a) : ∀ K, bL_law_18 L xs K a = some 1 := by
  obtain ⟨v3, img_x, men_n, md_n, day_n, drw_n, bu_n, st_n, ki_n, we_n, wo_n, wr_n, kn_p, nx_p, ke_p, men_a, md_a, day_a, drw_a, bu_a, st_a, ki_a, we_a, wo_a, wr_a, kn_q, nx_q, ke_q, men_t, md_t, day_t, drw_t, bu_t, st_t, ki_t, we_t, wo_t, wr_t, ln_T, plc_T, ltr_T, worn_h, few_h, bc_h, ld_h, so_h, tr_h, be_h, wy_h, th_r, lan_r, siz_r, itm_r, ltr_M, pos_M, num_M, isk_M, bm_M, bch_M, lan_M, siz_M, itm_M, tap_M, now_M, tri_M, rd_M, kp_M, bes_M⟩ := a
  obtain ⟨rfl, hS, hG, hA, hT, hR⟩ := hI
  intro K
  exact if_pos (gateE h hL hk)
theorem law_pure {L : Nat} {xs : Nat → Int32} (hL : L ≤ 512) {a0 : Int32 × Int32 × Int32 × Int32 × Int32 × Int32 × (Nat → Int32) × (Nat → Int32) × (Nat → Int32) × (Nat → Int32) × (Nat → Int32) × (Nat → Int32) × Int32 × Int32 × (Nat → Nat → Int32) × Int32 × Int32 × Int32 × Int32 × (Nat → Int32) × (Nat → Int32) × (Nat → Int32) × (Nat → Int32) × (Nat → Int32) × (Nat → Int32) × Int32 × Int32 × (Nat → Nat → Int32) × Int32 × Int32 × Int32 × Int32 × (Nat → Int32) × (Nat → Int32) × (Nat → Int32) × (Nat → Int32) × (Nat → Int32) × (Nat → Int32) × Int32 × Int32 × (Nat → Int32) × Int32 × Int32 × Int32 × (Nat → Nat → Int32) × (Nat → Int32) × (Nat → Int32) × (Nat → Int32) × (Nat → Int32) × (Nat → Int32) × (Nat → Int32) × (Nat → Int32) × (Nat → Nat → Int64) × Int32 × Int32 × Int32 × Int32 × Int32 × Int32 × (Nat → Int32) × (Nat → Int32) × (Nat → Int64) × (Nat → Int32) × (Nat → Int32) × (Nat → Int32) × (Nat → Int32) × (Nat → Int32) × (Nat → Int32)} (h0 : IT 0 a0) : lp (bL_law_18 L xs) FU a0 = some 1 := by
  obtain ⟨r, -, e⟩ := lp_inv (β := Unit) (body := bL_law_18 L xs) (L / 8) IT (fun _ => True) (fun _ => some 1) h0 (by omega) (fun k hk a hI => law_step hL (by omega) a hI) (fun a hI => ⟨(), trivial, law_end hL (by omega) (by omega) a hI⟩)
  exact e
