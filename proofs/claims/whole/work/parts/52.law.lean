def bL_law_18 (L : Nat) (xs : Nat → Int32) (K1 : ((Int32 × Int32 × Int32 × Int32 × Int32 × Int32 × (Nat → Int32) × (Nat → Int32) × (Nat → Int32) × (Nat → Int32) × (Nat → Int32) × (Nat → Int32) × Int32 × Int32 × (Nat → Nat → Int32) × Int32 × Int32 × Int32 × Int32 × (Nat → Int32) × (Nat → Int32) × (Nat → Int32) × (Nat → Int32) × (Nat → Int32) × (Nat → Int32) × Int32 × Int32 × (Nat → Nat → Int32) × Int32 × Int32 × Int32 × Int32 × (Nat → Int32) × (Nat → Int32) × (Nat → Int32) × (Nat → Int32) × (Nat → Int32) × (Nat → Int32) × Int32 × Int32 × (Nat → Int32) × Int32 × Int32 × Int32 × (Nat → Nat → Int32) × (Nat → Int32) × (Nat → Int32) × (Nat → Int32) × (Nat → Int32) × (Nat → Int32) × (Nat → Int32) × (Nat → Int32) × (Nat → Nat → Int64) × Int32 × Int32 × Int32 × Int32 × Int32 × Int32 × (Nat → Int32) × (Nat → Int32) × (Nat → Int64) × (Nat → Int32) × (Nat → Int32) × (Nat → Int32) × (Nat → Int32) × (Nat → Int32) × (Nat → Int32))) → Option Int32) : ((Int32 × Int32 × Int32 × Int32 × Int32 × Int32 × (Nat → Int32) × (Nat → Int32) × (Nat → Int32) × (Nat → Int32) × (Nat → Int32) × (Nat → Int32) × Int32 × Int32 × (Nat → Nat → Int32) × Int32 × Int32 × Int32 × Int32 × (Nat → Int32) × (Nat → Int32) × (Nat → Int32) × (Nat → Int32) × (Nat → Int32) × (Nat → Int32) × Int32 × Int32 × (Nat → Nat → Int32) × Int32 × Int32 × Int32 × Int32 × (Nat → Int32) × (Nat → Int32) × (Nat → Int32) × (Nat → Int32) × (Nat → Int32) × (Nat → Int32) × Int32 × Int32 × (Nat → Int32) × Int32 × Int32 × Int32 × (Nat → Nat → Int32) × (Nat → Int32) × (Nat → Int32) × (Nat → Int32) × (Nat → Int32) × (Nat → Int32) × (Nat → Int32) × (Nat → Int32) × (Nat → Nat → Int64) × Int32 × Int32 × Int32 × Int32 × Int32 × Int32 × (Nat → Int32) × (Nat → Int32) × (Nat → Int64) × (Nat → Int32) × (Nat → Int32) × (Nat → Int32) × (Nat → Int32) × (Nat → Int32) × (Nat → Int32))) → Option Int32
  | (v3_1, img_x_1, men_n_1, md_n_1, day_n_1, drw_n_1, bu_n_1, st_n_1, ki_n_1, we_n_1, wo_n_1, wr_n_1, kn_p_1, nx_p_1, ke_p_1, men_a_1, md_a_1, day_a_1, drw_a_1, bu_a_1, st_a_1, ki_a_1, we_a_1, wo_a_1, wr_a_1, kn_q_1, nx_q_1, ke_q_1, men_t_1, md_t_1, day_t_1, drw_t_1, bu_t_1, st_t_1, ki_t_1, we_t_1, wo_t_1, wr_t_1, ln_T_1, plc_T_1, ltr_T_1, worn_h_1, few_h_1, bc_h_1, ld_h_1, so_h_1, tr_h_1, be_h_1, wy_h_1, th_r_1, lan_r_1, siz_r_1, itm_r_1, ltr_M_1, pos_M_1, num_M_1, isk_M_1, bm_M_1, bch_M_1, lan_M_1, siz_M_1, itm_M_1, tap_M_1, now_M_1, tri_M_1, rd_M_1, kp_M_1, bes_M_1) => if ((nI L) - 8) < v3_1 then (some 1) else (gin v3_1 L (if ((xs (Int32.toNatClampNeg v3_1)) &&& 31) = 0 then (gin (v3_1 + 1) L ((fX5_man (xs (Int32.toNatClampNeg (v3_1 + 1))) men_n_1 bu_n_1 st_n_1 kn_p_1).bind (fun r6 => gin (v3_1 + 1) L ((fX6_man (xs (Int32.toNatClampNeg (v3_1 + 1))) now_M_1).bind (fun r8 => if r6.1 = r8.1 then (nm (v3_1 + 8) (fun x10 => K1 (x10, img_x_1, r6.2.1, md_n_1, day_n_1, drw_n_1, r6.2.2.1, r6.2.2.2.1, ki_n_1, we_n_1, wo_n_1, wr_n_1, r6.2.2.2.2, nx_p_1, ke_p_1, men_a_1, md_a_1, day_a_1, drw_a_1, bu_a_1, st_a_1, ki_a_1, we_a_1, wo_a_1, wr_a_1, kn_q_1, nx_q_1, ke_q_1, men_t_1, md_t_1, day_t_1, drw_t_1, bu_t_1, st_t_1, ki_t_1, we_t_1, wo_t_1, wr_t_1, ln_T_1, plc_T_1, ltr_T_1, worn_h_1, few_h_1, bc_h_1, ld_h_1, so_h_1, tr_h_1, be_h_1, wy_h_1, th_r_1, lan_r_1, siz_r_1, itm_r_1, ltr_M_1, pos_M_1, num_M_1, isk_M_1, bm_M_1, bch_M_1, lan_M_1, siz_M_1, itm_M_1, tap_M_1, r8.2, tri_M_1, rd_M_1, kp_M_1, bes_M_1))) else (some 0)))))) else (if ((xs (Int32.toNatClampNeg v3_1)) &&& 31) = 1 then (gin (v3_1 + 1) L (gin (v3_1 + 2) L (gin (v3_1 + 3) L ((fX5_medal (xs (Int32.toNatClampNeg (v3_1 + 1))) (xs (Int32.toNatClampNeg (v3_1 + 2))) (xs (Int32.toNatClampNeg (v3_1 + 3))) men_n_1 md_n_1 ki_n_1 we_n_1 wo_n_1 wr_n_1 kn_p_1).bind (fun r15 => gin (v3_1 + 1) L (gin (v3_1 + 2) L (gin (v3_1 + 3) L ((fX6_medal (xs (Int32.toNatClampNeg (v3_1 + 1))) (xs (Int32.toNatClampNeg (v3_1 + 2))) (xs (Int32.toNatClampNeg (v3_1 + 3))) now_M_1).bind (fun r19 => if r15.1 = r19.1 then (nm (v3_1 + 8) (fun x21 => K1 (x21, img_x_1, men_n_1, r15.2.1, day_n_1, drw_n_1, bu_n_1, st_n_1, r15.2.2.1, r15.2.2.2.1, r15.2.2.2.2.1, r15.2.2.2.2.2.1, r15.2.2.2.2.2.2, nx_p_1, ke_p_1, men_a_1, md_a_1, day_a_1, drw_a_1, bu_a_1, st_a_1, ki_a_1, we_a_1, wo_a_1, wr_a_1, kn_q_1, nx_q_1, ke_q_1, men_t_1, md_t_1, day_t_1, drw_t_1, bu_t_1, st_t_1, ki_t_1, we_t_1, wo_t_1, wr_t_1, ln_T_1, plc_T_1, ltr_T_1, worn_h_1, few_h_1, bc_h_1, ld_h_1, so_h_1, tr_h_1, be_h_1, wy_h_1, th_r_1, lan_r_1, siz_r_1, itm_r_1, ltr_M_1, pos_M_1, num_M_1, isk_M_1, bm_M_1, bch_M_1, lan_M_1, siz_M_1, itm_M_1, tap_M_1, r19.2, tri_M_1, rd_M_1, kp_M_1, bes_M_1))) else (some 0)))))))))) else (if ((xs (Int32.toNatClampNeg v3_1)) &&& 31) = 2 then (gin (v3_1 + 1) L (gin (v3_1 + 2) L ((fX5_of (xs (Int32.toNatClampNeg (v3_1 + 1))) (xs (Int32.toNatClampNeg (v3_1 + 2))) men_n_1 md_n_1 day_n_1 bu_n_1 st_n_1 ki_n_1 we_n_1 wo_n_1 wr_n_1).bind (fun r25 => gin (v3_1 + 1) L (gin (v3_1 + 2) L ((fX6_of (xs (Int32.toNatClampNeg (v3_1 + 1))) (xs (Int32.toNatClampNeg (v3_1 + 2))) now_M_1).bind (fun r28 => if r25 = r28 then (nm (v3_1 + 8) (fun x30 => K1 (x30, img_x_1, men_n_1, md_n_1, day_n_1, drw_n_1, bu_n_1, st_n_1, ki_n_1, we_n_1, wo_n_1, wr_n_1, kn_p_1, nx_p_1, ke_p_1, men_a_1, md_a_1, day_a_1, drw_a_1, bu_a_1, st_a_1, ki_a_1, we_a_1, wo_a_1, wr_a_1, kn_q_1, nx_q_1, ke_q_1, men_t_1, md_t_1, day_t_1, drw_t_1, bu_t_1, st_t_1, ki_t_1, we_t_1, wo_t_1, wr_t_1, ln_T_1, plc_T_1, ltr_T_1, worn_h_1, few_h_1, bc_h_1, ld_h_1, so_h_1, tr_h_1, be_h_1, wy_h_1, th_r_1, lan_r_1, siz_r_1, itm_r_1, ltr_M_1, pos_M_1, num_M_1, isk_M_1, bm_M_1, bch_M_1, lan_M_1, siz_M_1, itm_M_1, tap_M_1, now_M_1, tri_M_1, rd_M_1, kp_M_1, bes_M_1))) else (some 0)))))))) else (if ((xs (Int32.toNatClampNeg v3_1)) &&& 31) = 3 then (gin (v3_1 + 1) L (gin (v3_1 + 2) L ((fX5_at (xs (Int32.toNatClampNeg (v3_1 + 1))) (xs (Int32.toNatClampNeg (v3_1 + 2))) md_n_1 day_n_1 ki_n_1 we_n_1 wo_n_1 wr_n_1).bind (fun r34 => gin (v3_1 + 1) L (gin (v3_1 + 2) L ((fX6_at (xs (Int32.toNatClampNeg (v3_1 + 1))) (xs (Int32.toNatClampNeg (v3_1 + 2))) now_M_1).bind (fun r37 => if r34 = r37 then (nm (v3_1 + 8) (fun x39 => K1 (x39, img_x_1, men_n_1, md_n_1, day_n_1, drw_n_1, bu_n_1, st_n_1, ki_n_1, we_n_1, wo_n_1, wr_n_1, kn_p_1, nx_p_1, ke_p_1, men_a_1, md_a_1, day_a_1, drw_a_1, bu_a_1, st_a_1, ki_a_1, we_a_1, wo_a_1, wr_a_1, kn_q_1, nx_q_1, ke_q_1, men_t_1, md_t_1, day_t_1, drw_t_1, bu_t_1, st_t_1, ki_t_1, we_t_1, wo_t_1, wr_t_1, ln_T_1, plc_T_1, ltr_T_1, worn_h_1, few_h_1, bc_h_1, ld_h_1, so_h_1, tr_h_1, be_h_1, wy_h_1, th_r_1, lan_r_1, siz_r_1, itm_r_1, ltr_M_1, pos_M_1, num_M_1, isk_M_1, bm_M_1, bch_M_1, lan_M_1, siz_M_1, itm_M_1, tap_M_1, now_M_1, tri_M_1, rd_M_1, kp_M_1, bes_M_1))) else (some 0)))))))) else (if ((xs (Int32.toNatClampNeg v3_1)) &&& 31) = 4 then (gin (v3_1 + 1) L ((fX5_type (xs (Int32.toNatClampNeg (v3_1 + 1))) ln_T_1 ltr_T_1).bind (fun r42 => gin (v3_1 + 1) L ((fX6_type (xs (Int32.toNatClampNeg (v3_1 + 1))) ltr_M_1 tap_M_1).bind (fun r44 => if r42.1 = r44.1 then (nm (v3_1 + 8) (fun x46 => K1 (x46, img_x_1, men_n_1, md_n_1, day_n_1, drw_n_1, bu_n_1, st_n_1, ki_n_1, we_n_1, wo_n_1, wr_n_1, kn_p_1, nx_p_1, ke_p_1, men_a_1, md_a_1, day_a_1, drw_a_1, bu_a_1, st_a_1, ki_a_1, we_a_1, wo_a_1, wr_a_1, kn_q_1, nx_q_1, ke_q_1, men_t_1, md_t_1, day_t_1, drw_t_1, bu_t_1, st_t_1, ki_t_1, we_t_1, wo_t_1, wr_t_1, r42.2.1, plc_T_1, r42.2.2, worn_h_1, few_h_1, bc_h_1, ld_h_1, so_h_1, tr_h_1, be_h_1, wy_h_1, th_r_1, lan_r_1, siz_r_1, itm_r_1, r44.2.1, pos_M_1, num_M_1, isk_M_1, bm_M_1, bch_M_1, lan_M_1, siz_M_1, itm_M_1, r44.2.2, now_M_1, tri_M_1, rd_M_1, kp_M_1, bes_M_1))) else (some 0)))))) else (if ((xs (Int32.toNatClampNeg v3_1)) &&& 31) = 5 then ((fX5_state men_n_1 md_n_1 day_n_1 drw_n_1 bu_n_1 st_n_1 ki_n_1 we_n_1 wo_n_1 wr_n_1 kn_p_1 bu_t_1 st_t_1 ki_t_1 we_t_1 wo_t_1 wr_t_1 ln_T_1 ltr_T_1).bind (fun r48 => (fX6_state ltr_M_1 num_M_1 tap_M_1 now_M_1 rd_M_1).bind (fun r49 => if r48.1 = r49.1 then (nm (v3_1 + 8) (fun x51 => K1 (x51, img_x_1, r48.2.1, r48.2.2.1, r48.2.2.2.1, r48.2.2.2.2.1, r48.2.2.2.2.2.1, r48.2.2.2.2.2.2.1, r48.2.2.2.2.2.2.2.1, r48.2.2.2.2.2.2.2.2.1, r48.2.2.2.2.2.2.2.2.2.1, r48.2.2.2.2.2.2.2.2.2.2.1, r48.2.2.2.2.2.2.2.2.2.2.2.1, nx_p_1, ke_p_1, men_a_1, md_a_1, day_a_1, drw_a_1, bu_a_1, st_a_1, ki_a_1, we_a_1, wo_a_1, wr_a_1, kn_q_1, nx_q_1, ke_q_1, r48.2.2.2.2.2.2.2.2.2.2.2.2.1, r48.2.2.2.2.2.2.2.2.2.2.2.2.2.1, r48.2.2.2.2.2.2.2.2.2.2.2.2.2.2.1, r48.2.2.2.2.2.2.2.2.2.2.2.2.2.2.2.1, r48.2.2.2.2.2.2.2.2.2.2.2.2.2.2.2.2.1, r48.2.2.2.2.2.2.2.2.2.2.2.2.2.2.2.2.2.1, r48.2.2.2.2.2.2.2.2.2.2.2.2.2.2.2.2.2.2.1, r48.2.2.2.2.2.2.2.2.2.2.2.2.2.2.2.2.2.2.2.1, r48.2.2.2.2.2.2.2.2.2.2.2.2.2.2.2.2.2.2.2.2.1, r48.2.2.2.2.2.2.2.2.2.2.2.2.2.2.2.2.2.2.2.2.2.1, r48.2.2.2.2.2.2.2.2.2.2.2.2.2.2.2.2.2.2.2.2.2.2.1, r48.2.2.2.2.2.2.2.2.2.2.2.2.2.2.2.2.2.2.2.2.2.2.2, ltr_T_1, worn_h_1, few_h_1, bc_h_1, ld_h_1, so_h_1, tr_h_1, be_h_1, wy_h_1, th_r_1, lan_r_1, siz_r_1, itm_r_1, r49.2.1, r49.2.2.1, r49.2.2.2.1, isk_M_1, bm_M_1, bch_M_1, lan_M_1, siz_M_1, itm_M_1, tap_M_1, r49.2.2.2.2.1, tri_M_1, r49.2.2.2.2.2, kp_M_1, bes_M_1))) else (some 0)))) else (if ((xs (Int32.toNatClampNeg v3_1)) &&& 31) = 6 then (gin (v3_1 + 1) L ((fX5_count (xs (Int32.toNatClampNeg (v3_1 + 1))) men_n_1 md_n_1 day_n_1 st_n_1 ki_n_1 we_n_1 wo_n_1 wr_n_1 kn_p_1).bind (fun r54 => gin (v3_1 + 1) L ((fX6_count (xs (Int32.toNatClampNeg (v3_1 + 1))) now_M_1).bind (fun r56 => if r54 = r56 then (nm (v3_1 + 8) (fun x58 => K1 (x58, img_x_1, men_n_1, md_n_1, day_n_1, drw_n_1, bu_n_1, st_n_1, ki_n_1, we_n_1, wo_n_1, wr_n_1, kn_p_1, nx_p_1, ke_p_1, men_a_1, md_a_1, day_a_1, drw_a_1, bu_a_1, st_a_1, ki_a_1, we_a_1, wo_a_1, wr_a_1, kn_q_1, nx_q_1, ke_q_1, men_t_1, md_t_1, day_t_1, drw_t_1, bu_t_1, st_t_1, ki_t_1, we_t_1, wo_t_1, wr_t_1, ln_T_1, plc_T_1, ltr_T_1, worn_h_1, few_h_1, bc_h_1, ld_h_1, so_h_1, tr_h_1, be_h_1, wy_h_1, th_r_1, lan_r_1, siz_r_1, itm_r_1, ltr_M_1, pos_M_1, num_M_1, isk_M_1, bm_M_1, bch_M_1, lan_M_1, siz_M_1, itm_M_1, tap_M_1, now_M_1, tri_M_1, rd_M_1, kp_M_1, bes_M_1))) else (some 0)))))) else (if ((xs (Int32.toNatClampNeg v3_1)) &&& 31) = 7 then (gin (v3_1 + 1) L ((fX5_days (xs (Int32.toNatClampNeg (v3_1 + 1))) men_n_1 md_n_1 day_n_1 drw_n_1 bu_n_1 st_n_1 ki_n_1 we_n_1 wo_n_1 wr_n_1 kn_p_1 nx_p_1 ke_p_1).bind (fun r61 => gin (v3_1 + 1) L ((fX6_days (xs (Int32.toNatClampNeg (v3_1 + 1))) now_M_1).bind (fun r63 => if r61.1 = r63.1 then (nm (v3_1 + 8) (fun x65 => K1 (x65, img_x_1, men_n_1, md_n_1, r61.2.1, r61.2.2.1, bu_n_1, r61.2.2.2.1, ki_n_1, we_n_1, wo_n_1, r61.2.2.2.2.1, r61.2.2.2.2.2.1, r61.2.2.2.2.2.2.1, r61.2.2.2.2.2.2.2, men_a_1, md_a_1, day_a_1, drw_a_1, bu_a_1, st_a_1, ki_a_1, we_a_1, wo_a_1, wr_a_1, kn_q_1, nx_q_1, ke_q_1, men_t_1, md_t_1, day_t_1, drw_t_1, bu_t_1, st_t_1, ki_t_1, we_t_1, wo_t_1, wr_t_1, ln_T_1, plc_T_1, ltr_T_1, worn_h_1, few_h_1, bc_h_1, ld_h_1, so_h_1, tr_h_1, be_h_1, wy_h_1, th_r_1, lan_r_1, siz_r_1, itm_r_1, ltr_M_1, pos_M_1, num_M_1, isk_M_1, bm_M_1, bch_M_1, lan_M_1, siz_M_1, itm_M_1, tap_M_1, r63.2, tri_M_1, rd_M_1, kp_M_1, bes_M_1))) else (some 0)))))) else (if ((xs (Int32.toNatClampNeg v3_1)) &&& 31) = 8 then (gin (v3_1 + 1) L (gin (v3_1 + 2) L ((fX5_hang (xs (Int32.toNatClampNeg (v3_1 + 1))) (xs (Int32.toNatClampNeg (v3_1 + 2))) men_n_1 md_n_1 day_n_1 drw_n_1 st_n_1 we_n_1 wr_n_1 kn_p_1 nx_p_1 ke_p_1).bind (fun r69 => gin (v3_1 + 1) L (gin (v3_1 + 2) L ((fX6_hang (xs (Int32.toNatClampNeg (v3_1 + 1))) (xs (Int32.toNatClampNeg (v3_1 + 2))) now_M_1).bind (fun r72 => if r69.1 = r72.1 then (nm (v3_1 + 8) (fun x74 => K1 (x74, img_x_1, men_n_1, md_n_1, day_n_1, drw_n_1, bu_n_1, st_n_1, ki_n_1, we_n_1, wo_n_1, r69.2.1, r69.2.2.1, r69.2.2.2.1, r69.2.2.2.2, men_a_1, md_a_1, day_a_1, drw_a_1, bu_a_1, st_a_1, ki_a_1, we_a_1, wo_a_1, wr_a_1, kn_q_1, nx_q_1, ke_q_1, men_t_1, md_t_1, day_t_1, drw_t_1, bu_t_1, st_t_1, ki_t_1, we_t_1, wo_t_1, wr_t_1, ln_T_1, plc_T_1, ltr_T_1, worn_h_1, few_h_1, bc_h_1, ld_h_1, so_h_1, tr_h_1, be_h_1, wy_h_1, th_r_1, lan_r_1, siz_r_1, itm_r_1, ltr_M_1, pos_M_1, num_M_1, isk_M_1, bm_M_1, bch_M_1, lan_M_1, siz_M_1, itm_M_1, tap_M_1, r72.2, tri_M_1, rd_M_1, kp_M_1, bes_M_1))) else (some 0)))))))) else (if ((xs (Int32.toNatClampNeg v3_1)) &&& 31) = 9 then (gin (v3_1 + 1) L (gin (v3_1 + 2) L ((fX5_polish (xs (Int32.toNatClampNeg (v3_1 + 1))) (xs (Int32.toNatClampNeg (v3_1 + 2))) md_n_1 day_n_1 drw_n_1 st_n_1 we_n_1 wr_n_1 kn_p_1 nx_p_1 ke_p_1).bind (fun r78 => gin (v3_1 + 1) L (gin (v3_1 + 2) L ((fX6_polish (xs (Int32.toNatClampNeg (v3_1 + 1))) (xs (Int32.toNatClampNeg (v3_1 + 2))) now_M_1).bind (fun r81 => if r78.1 = r81.1 then (nm (v3_1 + 8) (fun x83 => K1 (x83, img_x_1, men_n_1, md_n_1, day_n_1, drw_n_1, bu_n_1, st_n_1, ki_n_1, r78.2.1, wo_n_1, wr_n_1, r78.2.2.1, r78.2.2.2.1, r78.2.2.2.2, men_a_1, md_a_1, day_a_1, drw_a_1, bu_a_1, st_a_1, ki_a_1, we_a_1, wo_a_1, wr_a_1, kn_q_1, nx_q_1, ke_q_1, men_t_1, md_t_1, day_t_1, drw_t_1, bu_t_1, st_t_1, ki_t_1, we_t_1, wo_t_1, wr_t_1, ln_T_1, plc_T_1, ltr_T_1, worn_h_1, few_h_1, bc_h_1, ld_h_1, so_h_1, tr_h_1, be_h_1, wy_h_1, th_r_1, lan_r_1, siz_r_1, itm_r_1, ltr_M_1, pos_M_1, num_M_1, isk_M_1, bm_M_1, bch_M_1, lan_M_1, siz_M_1, itm_M_1, tap_M_1, r81.2, tri_M_1, rd_M_1, kp_M_1, bes_M_1))) else (some 0)))))))) else (if ((xs (Int32.toNatClampNeg v3_1)) &&& 31) = 10 then (gin (v3_1 + 1) L ((fX5_drift (xs (Int32.toNatClampNeg (v3_1 + 1))) men_n_1 md_n_1 day_n_1 drw_n_1 bu_n_1 st_n_1 ki_n_1 we_n_1 wo_n_1 wr_n_1 kn_p_1 nx_p_1 ke_p_1).bind (fun r86 => gin (v3_1 + 1) L ((fX6_drift (xs (Int32.toNatClampNeg (v3_1 + 1))) now_M_1).bind (fun r88 => if r86.1 = r88.1 then (nm (v3_1 + 8) (fun x90 => K1 (x90, img_x_1, men_n_1, md_n_1, r86.2.1, r86.2.2.1, bu_n_1, r86.2.2.2.1, ki_n_1, we_n_1, wo_n_1, r86.2.2.2.2.1, r86.2.2.2.2.2.1, r86.2.2.2.2.2.2.1, r86.2.2.2.2.2.2.2, men_a_1, md_a_1, day_a_1, drw_a_1, bu_a_1, st_a_1, ki_a_1, we_a_1, wo_a_1, wr_a_1, kn_q_1, nx_q_1, ke_q_1, men_t_1, md_t_1, day_t_1, drw_t_1, bu_t_1, st_t_1, ki_t_1, we_t_1, wo_t_1, wr_t_1, ln_T_1, plc_T_1, ltr_T_1, worn_h_1, few_h_1, bc_h_1, ld_h_1, so_h_1, tr_h_1, be_h_1, wy_h_1, th_r_1, lan_r_1, siz_r_1, itm_r_1, ltr_M_1, pos_M_1, num_M_1, isk_M_1, bm_M_1, bch_M_1, lan_M_1, siz_M_1, itm_M_1, tap_M_1, r88.2, tri_M_1, rd_M_1, kp_M_1, bes_M_1))) else (some 0)))))) else (if ((xs (Int32.toNatClampNeg v3_1)) &&& 31) = 11 then ((fX5_undo day_n_1 drw_n_1 st_n_1 we_n_1 wr_n_1 kn_p_1 nx_p_1 ke_p_1).bind (fun r92 => (fX6_undo now_M_1).bind (fun r93 => if r92.1 = r93.1 then (nm (v3_1 + 8) (fun x95 => K1 (x95, img_x_1, men_n_1, md_n_1, r92.2.1, r92.2.2.1, bu_n_1, r92.2.2.2.1, ki_n_1, r92.2.2.2.2.1, wo_n_1, r92.2.2.2.2.2.1, r92.2.2.2.2.2.2.1, r92.2.2.2.2.2.2.2, ke_p_1, men_a_1, md_a_1, day_a_1, drw_a_1, bu_a_1, st_a_1, ki_a_1, we_a_1, wo_a_1, wr_a_1, kn_q_1, nx_q_1, ke_q_1, men_t_1, md_t_1, day_t_1, drw_t_1, bu_t_1, st_t_1, ki_t_1, we_t_1, wo_t_1, wr_t_1, ln_T_1, plc_T_1, ltr_T_1, worn_h_1, few_h_1, bc_h_1, ld_h_1, so_h_1, tr_h_1, be_h_1, wy_h_1, th_r_1, lan_r_1, siz_r_1, itm_r_1, ltr_M_1, pos_M_1, num_M_1, isk_M_1, bm_M_1, bch_M_1, lan_M_1, siz_M_1, itm_M_1, tap_M_1, r93.2, tri_M_1, rd_M_1, kp_M_1, bes_M_1))) else (some 0)))) else (if ((xs (Int32.toNatClampNeg v3_1)) &&& 31) = 12 then (gin (v3_1 + 1) L ((fX5_seed (xs (Int32.toNatClampNeg (v3_1 + 1))) drw_n_1).bind (fun r98 => gin (v3_1 + 1) L ((fX6_seed (xs (Int32.toNatClampNeg (v3_1 + 1))) now_M_1).bind (fun r100 => if r98.1 = r100.1 then (nm (v3_1 + 8) (fun x102 => K1 (x102, img_x_1, men_n_1, md_n_1, day_n_1, r98.2, bu_n_1, st_n_1, ki_n_1, we_n_1, wo_n_1, wr_n_1, kn_p_1, nx_p_1, ke_p_1, men_a_1, md_a_1, day_a_1, drw_a_1, bu_a_1, st_a_1, ki_a_1, we_a_1, wo_a_1, wr_a_1, kn_q_1, nx_q_1, ke_q_1, men_t_1, md_t_1, day_t_1, drw_t_1, bu_t_1, st_t_1, ki_t_1, we_t_1, wo_t_1, wr_t_1, ln_T_1, plc_T_1, ltr_T_1, worn_h_1, few_h_1, bc_h_1, ld_h_1, so_h_1, tr_h_1, be_h_1, wy_h_1, th_r_1, lan_r_1, siz_r_1, itm_r_1, ltr_M_1, pos_M_1, num_M_1, isk_M_1, bm_M_1, bch_M_1, lan_M_1, siz_M_1, itm_M_1, tap_M_1, r100.2, tri_M_1, rd_M_1, kp_M_1, bes_M_1))) else (some 0)))))) else (if ((xs (Int32.toNatClampNeg v3_1)) &&& 31) = 13 then (gin (v3_1 + 1) L (gin (v3_1 + 2) L (gin (v3_1 + 3) L ((fX5_ahead (xs (Int32.toNatClampNeg (v3_1 + 1))) (xs (Int32.toNatClampNeg (v3_1 + 2))) (xs (Int32.toNatClampNeg (v3_1 + 3))) men_n_1 md_n_1 day_n_1 bu_n_1 st_n_1 ki_n_1 we_n_1 wo_n_1 wr_n_1).bind (fun r107 => gin (v3_1 + 1) L (gin (v3_1 + 2) L (gin (v3_1 + 3) L ((fX6_ahead (xs (Int32.toNatClampNeg (v3_1 + 1))) (xs (Int32.toNatClampNeg (v3_1 + 2))) (xs (Int32.toNatClampNeg (v3_1 + 3))) now_M_1 tri_M_1).bind (fun r111 => if r107 = r111.1 then (nm (v3_1 + 8) (fun x113 => K1 (x113, img_x_1, men_n_1, md_n_1, day_n_1, drw_n_1, bu_n_1, st_n_1, ki_n_1, we_n_1, wo_n_1, wr_n_1, kn_p_1, nx_p_1, ke_p_1, men_a_1, md_a_1, day_a_1, drw_a_1, bu_a_1, st_a_1, ki_a_1, we_a_1, wo_a_1, wr_a_1, kn_q_1, nx_q_1, ke_q_1, men_t_1, md_t_1, day_t_1, drw_t_1, bu_t_1, st_t_1, ki_t_1, we_t_1, wo_t_1, wr_t_1, ln_T_1, plc_T_1, ltr_T_1, worn_h_1, few_h_1, bc_h_1, ld_h_1, so_h_1, tr_h_1, be_h_1, wy_h_1, th_r_1, lan_r_1, siz_r_1, itm_r_1, ltr_M_1, pos_M_1, num_M_1, isk_M_1, bm_M_1, bch_M_1, lan_M_1, siz_M_1, itm_M_1, tap_M_1, now_M_1, r111.2, rd_M_1, kp_M_1, bes_M_1))) else (some 0)))))))))) else (if ((xs (Int32.toNatClampNeg v3_1)) &&& 31) = 14 then (gin (v3_1 + 1) L ((fX5_then (xs (Int32.toNatClampNeg (v3_1 + 1))) men_n_1 md_n_1 day_n_1 bu_n_1 st_n_1 ki_n_1 we_n_1 wo_n_1 wr_n_1).bind (fun r116 => gin (v3_1 + 1) L ((fX6_then (xs (Int32.toNatClampNeg (v3_1 + 1))) now_M_1 tri_M_1).bind (fun r118 => if r116 = r118.1 then (nm (v3_1 + 8) (fun x120 => K1 (x120, img_x_1, men_n_1, md_n_1, day_n_1, drw_n_1, bu_n_1, st_n_1, ki_n_1, we_n_1, wo_n_1, wr_n_1, kn_p_1, nx_p_1, ke_p_1, men_a_1, md_a_1, day_a_1, drw_a_1, bu_a_1, st_a_1, ki_a_1, we_a_1, wo_a_1, wr_a_1, kn_q_1, nx_q_1, ke_q_1, men_t_1, md_t_1, day_t_1, drw_t_1, bu_t_1, st_t_1, ki_t_1, we_t_1, wo_t_1, wr_t_1, ln_T_1, plc_T_1, ltr_T_1, worn_h_1, few_h_1, bc_h_1, ld_h_1, so_h_1, tr_h_1, be_h_1, wy_h_1, th_r_1, lan_r_1, siz_r_1, itm_r_1, ltr_M_1, pos_M_1, num_M_1, isk_M_1, bm_M_1, bch_M_1, lan_M_1, siz_M_1, itm_M_1, tap_M_1, now_M_1, r118.2, rd_M_1, kp_M_1, bes_M_1))) else (some 0)))))) else (if ((xs (Int32.toNatClampNeg v3_1)) &&& 31) = 15 then (gin (v3_1 + 1) L ((fX5_done (xs (Int32.toNatClampNeg (v3_1 + 1))) men_n_1 md_n_1 day_n_1 bu_n_1 st_n_1 ki_n_1 we_n_1 wo_n_1 wr_n_1).bind (fun r123 => gin (v3_1 + 1) L ((fX6_done (xs (Int32.toNatClampNeg (v3_1 + 1))) now_M_1 tri_M_1).bind (fun r125 => if r123 = r125.1 then (nm (v3_1 + 8) (fun x127 => K1 (x127, img_x_1, men_n_1, md_n_1, day_n_1, drw_n_1, bu_n_1, st_n_1, ki_n_1, we_n_1, wo_n_1, wr_n_1, kn_p_1, nx_p_1, ke_p_1, men_a_1, md_a_1, day_a_1, drw_a_1, bu_a_1, st_a_1, ki_a_1, we_a_1, wo_a_1, wr_a_1, kn_q_1, nx_q_1, ke_q_1, men_t_1, md_t_1, day_t_1, drw_t_1, bu_t_1, st_t_1, ki_t_1, we_t_1, wo_t_1, wr_t_1, ln_T_1, plc_T_1, ltr_T_1, worn_h_1, few_h_1, bc_h_1, ld_h_1, so_h_1, tr_h_1, be_h_1, wy_h_1, th_r_1, lan_r_1, siz_r_1, itm_r_1, ltr_M_1, pos_M_1, num_M_1, isk_M_1, bm_M_1, bch_M_1, lan_M_1, siz_M_1, itm_M_1, tap_M_1, now_M_1, r125.2, rd_M_1, kp_M_1, bes_M_1))) else (some 0)))))) else (if ((xs (Int32.toNatClampNeg v3_1)) &&& 31) = 16 then ((fX5_ever men_n_1 md_n_1 day_n_1 bu_n_1 st_n_1 ki_n_1 we_n_1 wo_n_1 wr_n_1).bind (fun r129 => (fX6_ever now_M_1 tri_M_1).bind (fun r130 => if r129 = r130.1 then (nm (v3_1 + 8) (fun x132 => K1 (x132, img_x_1, men_n_1, md_n_1, day_n_1, drw_n_1, bu_n_1, st_n_1, ki_n_1, we_n_1, wo_n_1, wr_n_1, kn_p_1, nx_p_1, ke_p_1, men_a_1, md_a_1, day_a_1, drw_a_1, bu_a_1, st_a_1, ki_a_1, we_a_1, wo_a_1, wr_a_1, kn_q_1, nx_q_1, ke_q_1, men_t_1, md_t_1, day_t_1, drw_t_1, bu_t_1, st_t_1, ki_t_1, we_t_1, wo_t_1, wr_t_1, ln_T_1, plc_T_1, ltr_T_1, worn_h_1, few_h_1, bc_h_1, ld_h_1, so_h_1, tr_h_1, be_h_1, wy_h_1, th_r_1, lan_r_1, siz_r_1, itm_r_1, ltr_M_1, pos_M_1, num_M_1, isk_M_1, bm_M_1, bch_M_1, lan_M_1, siz_M_1, itm_M_1, tap_M_1, now_M_1, r130.2, rd_M_1, kp_M_1, bes_M_1))) else (some 0)))) else (if ((xs (Int32.toNatClampNeg v3_1)) &&& 31) = 17 then (gin (v3_1 + 1) L ((fX5_even (xs (Int32.toNatClampNeg (v3_1 + 1))) men_n_1 md_n_1 day_n_1 st_n_1 ki_n_1 we_n_1 wo_n_1 wr_n_1 worn_h_1 few_h_1 bc_h_1 ld_h_1 so_h_1 tr_h_1 be_h_1).bind (fun r135 => gin (v3_1 + 1) L ((fX6_even (xs (Int32.toNatClampNeg (v3_1 + 1))) bm_M_1 bch_M_1 now_M_1 tri_M_1 bes_M_1).bind (fun r137 => if r135.1 = r137.1 then (nm (v3_1 + 8) (fun x139 => K1 (x139, img_x_1, men_n_1, md_n_1, day_n_1, drw_n_1, bu_n_1, st_n_1, ki_n_1, we_n_1, wo_n_1, wr_n_1, kn_p_1, nx_p_1, ke_p_1, men_a_1, md_a_1, day_a_1, drw_a_1, bu_a_1, st_a_1, ki_a_1, we_a_1, wo_a_1, wr_a_1, kn_q_1, nx_q_1, ke_q_1, men_t_1, md_t_1, day_t_1, drw_t_1, bu_t_1, st_t_1, ki_t_1, we_t_1, wo_t_1, wr_t_1, ln_T_1, plc_T_1, ltr_T_1, r135.2.1, r135.2.2.1, r135.2.2.2.1, r135.2.2.2.2.1, r135.2.2.2.2.2.1, r135.2.2.2.2.2.2.1, r135.2.2.2.2.2.2.2, wy_h_1, th_r_1, lan_r_1, siz_r_1, itm_r_1, ltr_M_1, pos_M_1, num_M_1, isk_M_1, r137.2.1, r137.2.2.1, lan_M_1, siz_M_1, itm_M_1, tap_M_1, now_M_1, r137.2.2.2.1, rd_M_1, kp_M_1, r137.2.2.2.2))) else (some 0)))))) else (if ((xs (Int32.toNatClampNeg v3_1)) &&& 31) = 18 then (gin (v3_1 + 1) L ((fX5_few (xs (Int32.toNatClampNeg (v3_1 + 1))) men_n_1 md_n_1 day_n_1 st_n_1 ki_n_1 we_n_1 wo_n_1 wr_n_1 worn_h_1 few_h_1 bc_h_1 ld_h_1 so_h_1 tr_h_1 be_h_1).bind (fun r142 => gin (v3_1 + 1) L ((fX6_few (xs (Int32.toNatClampNeg (v3_1 + 1))) bm_M_1 bch_M_1 now_M_1 tri_M_1 bes_M_1).bind (fun r144 => if r142.1 = r144.1 then (nm (v3_1 + 8) (fun x146 => K1 (x146, img_x_1, men_n_1, md_n_1, day_n_1, drw_n_1, bu_n_1, st_n_1, ki_n_1, we_n_1, wo_n_1, wr_n_1, kn_p_1, nx_p_1, ke_p_1, men_a_1, md_a_1, day_a_1, drw_a_1, bu_a_1, st_a_1, ki_a_1, we_a_1, wo_a_1, wr_a_1, kn_q_1, nx_q_1, ke_q_1, men_t_1, md_t_1, day_t_1, drw_t_1, bu_t_1, st_t_1, ki_t_1, we_t_1, wo_t_1, wr_t_1, ln_T_1, plc_T_1, ltr_T_1, r142.2.1, r142.2.2.1, r142.2.2.2.1, r142.2.2.2.2.1, r142.2.2.2.2.2.1, r142.2.2.2.2.2.2.1, r142.2.2.2.2.2.2.2, wy_h_1, th_r_1, lan_r_1, siz_r_1, itm_r_1, ltr_M_1, pos_M_1, num_M_1, isk_M_1, r144.2.1, r144.2.2.1, lan_M_1, siz_M_1, itm_M_1, tap_M_1, now_M_1, r144.2.2.2.1, rd_M_1, kp_M_1, r144.2.2.2.2))) else (some 0)))))) else (if ((xs (Int32.toNatClampNeg v3_1)) &&& 31) = 19 then (gin (v3_1 + 1) L (gin (v3_1 + 2) L ((fX5_off (xs (Int32.toNatClampNeg (v3_1 + 1))) (xs (Int32.toNatClampNeg (v3_1 + 2))) men_n_1 md_n_1 day_n_1 drw_n_1 bu_n_1 st_n_1 ki_n_1 we_n_1 wo_n_1 wr_n_1 men_t_1 md_t_1 day_t_1 drw_t_1 bu_t_1 st_t_1 ki_t_1 we_t_1 wo_t_1 wr_t_1).bind (fun r150 => gin (v3_1 + 1) L (gin (v3_1 + 2) L ((fX6_off (xs (Int32.toNatClampNeg (v3_1 + 1))) (xs (Int32.toNatClampNeg (v3_1 + 2))) now_M_1 tri_M_1).bind (fun r153 => if r150.1 = r153.1 then (nm (v3_1 + 8) (fun x155 => K1 (x155, img_x_1, men_n_1, md_n_1, day_n_1, drw_n_1, bu_n_1, st_n_1, ki_n_1, we_n_1, wo_n_1, wr_n_1, kn_p_1, nx_p_1, ke_p_1, men_a_1, md_a_1, day_a_1, drw_a_1, bu_a_1, st_a_1, ki_a_1, we_a_1, wo_a_1, wr_a_1, kn_q_1, nx_q_1, ke_q_1, r150.2.1, r150.2.2.1, r150.2.2.2.1, r150.2.2.2.2.1, r150.2.2.2.2.2.1, r150.2.2.2.2.2.2.1, r150.2.2.2.2.2.2.2.1, r150.2.2.2.2.2.2.2.2.1, r150.2.2.2.2.2.2.2.2.2.1, r150.2.2.2.2.2.2.2.2.2.2, ln_T_1, plc_T_1, ltr_T_1, worn_h_1, few_h_1, bc_h_1, ld_h_1, so_h_1, tr_h_1, be_h_1, wy_h_1, th_r_1, lan_r_1, siz_r_1, itm_r_1, ltr_M_1, pos_M_1, num_M_1, isk_M_1, bm_M_1, bch_M_1, lan_M_1, siz_M_1, itm_M_1, tap_M_1, now_M_1, r153.2, rd_M_1, kp_M_1, bes_M_1))) else (some 0)))))))) else (if ((xs (Int32.toNatClampNeg v3_1)) &&& 31) = 20 then (gin (v3_1 + 1) L (gin (v3_1 + 2) L ((fX5_needs (xs (Int32.toNatClampNeg (v3_1 + 1))) (xs (Int32.toNatClampNeg (v3_1 + 2))) men_n_1 md_n_1 day_n_1 bu_n_1 ki_n_1 we_n_1 wo_n_1 wr_n_1).bind (fun r159 => gin (v3_1 + 1) L (gin (v3_1 + 2) L ((fX6_needs (xs (Int32.toNatClampNeg (v3_1 + 1))) (xs (Int32.toNatClampNeg (v3_1 + 2))) now_M_1 tri_M_1).bind (fun r162 => if r159 = r162.1 then (nm (v3_1 + 8) (fun x164 => K1 (x164, img_x_1, men_n_1, md_n_1, day_n_1, drw_n_1, bu_n_1, st_n_1, ki_n_1, we_n_1, wo_n_1, wr_n_1, kn_p_1, nx_p_1, ke_p_1, men_a_1, md_a_1, day_a_1, drw_a_1, bu_a_1, st_a_1, ki_a_1, we_a_1, wo_a_1, wr_a_1, kn_q_1, nx_q_1, ke_q_1, men_t_1, md_t_1, day_t_1, drw_t_1, bu_t_1, st_t_1, ki_t_1, we_t_1, wo_t_1, wr_t_1, ln_T_1, plc_T_1, ltr_T_1, worn_h_1, few_h_1, bc_h_1, ld_h_1, so_h_1, tr_h_1, be_h_1, wy_h_1, th_r_1, lan_r_1, siz_r_1, itm_r_1, ltr_M_1, pos_M_1, num_M_1, isk_M_1, bm_M_1, bch_M_1, lan_M_1, siz_M_1, itm_M_1, tap_M_1, now_M_1, r162.2, rd_M_1, kp_M_1, bes_M_1))) else (some 0)))))))) else (if ((xs (Int32.toNatClampNeg v3_1)) &&& 31) = 21 then (gin (v3_1 + 1) L ((fX5_two (xs (Int32.toNatClampNeg (v3_1 + 1))) md_n_1 day_n_1 ki_n_1 we_n_1 wo_n_1 wr_n_1).bind (fun r167 => gin (v3_1 + 1) L ((fX6_two (xs (Int32.toNatClampNeg (v3_1 + 1))) now_M_1 tri_M_1).bind (fun r169 => if r167 = r169.1 then (nm (v3_1 + 8) (fun x171 => K1 (x171, img_x_1, men_n_1, md_n_1, day_n_1, drw_n_1, bu_n_1, st_n_1, ki_n_1, we_n_1, wo_n_1, wr_n_1, kn_p_1, nx_p_1, ke_p_1, men_a_1, md_a_1, day_a_1, drw_a_1, bu_a_1, st_a_1, ki_a_1, we_a_1, wo_a_1, wr_a_1, kn_q_1, nx_q_1, ke_q_1, men_t_1, md_t_1, day_t_1, drw_t_1, bu_t_1, st_t_1, ki_t_1, we_t_1, wo_t_1, wr_t_1, ln_T_1, plc_T_1, ltr_T_1, worn_h_1, few_h_1, bc_h_1, ld_h_1, so_h_1, tr_h_1, be_h_1, wy_h_1, th_r_1, lan_r_1, siz_r_1, itm_r_1, ltr_M_1, pos_M_1, num_M_1, isk_M_1, bm_M_1, bch_M_1, lan_M_1, siz_M_1, itm_M_1, tap_M_1, now_M_1, r169.2, rd_M_1, kp_M_1, bes_M_1))) else (some 0)))))) else (if ((xs (Int32.toNatClampNeg v3_1)) &&& 31) = 22 then (gin (v3_1 + 1) L (gin (v3_1 + 2) L ((fX5_error (xs (Int32.toNatClampNeg (v3_1 + 1))) (xs (Int32.toNatClampNeg (v3_1 + 2))) men_n_1 md_n_1 day_n_1 st_n_1 ki_n_1 we_n_1 wo_n_1 wr_n_1 worn_h_1 ld_h_1 wy_h_1).bind (fun r175 => gin (v3_1 + 1) L (gin (v3_1 + 2) L ((fX6_error (xs (Int32.toNatClampNeg (v3_1 + 1))) (xs (Int32.toNatClampNeg (v3_1 + 2))) now_M_1 tri_M_1).bind (fun r178 => if r175.1 = r178.1 then (nm (v3_1 + 8) (fun x180 => K1 (x180, img_x_1, men_n_1, md_n_1, day_n_1, drw_n_1, bu_n_1, st_n_1, ki_n_1, we_n_1, wo_n_1, wr_n_1, kn_p_1, nx_p_1, ke_p_1, men_a_1, md_a_1, day_a_1, drw_a_1, bu_a_1, st_a_1, ki_a_1, we_a_1, wo_a_1, wr_a_1, kn_q_1, nx_q_1, ke_q_1, men_t_1, md_t_1, day_t_1, drw_t_1, bu_t_1, st_t_1, ki_t_1, we_t_1, wo_t_1, wr_t_1, ln_T_1, plc_T_1, ltr_T_1, r175.2.1, few_h_1, bc_h_1, r175.2.2.1, so_h_1, tr_h_1, be_h_1, r175.2.2.2, th_r_1, lan_r_1, siz_r_1, itm_r_1, ltr_M_1, pos_M_1, num_M_1, isk_M_1, bm_M_1, bch_M_1, lan_M_1, siz_M_1, itm_M_1, tap_M_1, now_M_1, r178.2, rd_M_1, kp_M_1, bes_M_1))) else (some 0)))))))) else (if ((xs (Int32.toNatClampNeg v3_1)) &&& 31) = 23 then ((fX5_image men_n_1 md_n_1 day_n_1 drw_n_1 bu_n_1 st_n_1 ki_n_1 we_n_1 wo_n_1 wr_n_1 kn_p_1 nx_p_1 ke_p_1 bu_a_1 st_a_1 ki_a_1 we_a_1 wo_a_1 wr_a_1 ke_q_1).bind (fun r182 => (fX6_image now_M_1 kp_M_1).bind (fun r183 => if r182.1 = r183.1 then (nm (v3_1 + 8) (fun x185 => K1 (x185, r182.2.1, men_n_1, md_n_1, day_n_1, drw_n_1, bu_n_1, st_n_1, ki_n_1, we_n_1, wo_n_1, wr_n_1, kn_p_1, nx_p_1, ke_p_1, r182.2.2.1, r182.2.2.2.1, r182.2.2.2.2.1, r182.2.2.2.2.2.1, r182.2.2.2.2.2.2.1, r182.2.2.2.2.2.2.2.1, r182.2.2.2.2.2.2.2.2.1, r182.2.2.2.2.2.2.2.2.2.1, r182.2.2.2.2.2.2.2.2.2.2.1, r182.2.2.2.2.2.2.2.2.2.2.2.1, r182.2.2.2.2.2.2.2.2.2.2.2.2.1, r182.2.2.2.2.2.2.2.2.2.2.2.2.2.1, r182.2.2.2.2.2.2.2.2.2.2.2.2.2.2, men_t_1, md_t_1, day_t_1, drw_t_1, bu_t_1, st_t_1, ki_t_1, we_t_1, wo_t_1, wr_t_1, ln_T_1, plc_T_1, ltr_T_1, worn_h_1, few_h_1, bc_h_1, ld_h_1, so_h_1, tr_h_1, be_h_1, wy_h_1, th_r_1, lan_r_1, siz_r_1, itm_r_1, ltr_M_1, pos_M_1, num_M_1, r183.2.1, bm_M_1, bch_M_1, lan_M_1, siz_M_1, itm_M_1, tap_M_1, now_M_1, tri_M_1, rd_M_1, r183.2.2, bes_M_1))) else (some 0)))) else (if ((xs (Int32.toNatClampNeg v3_1)) &&& 31) = 24 then ((fX5_restore img_x_1 men_n_1 md_n_1 day_n_1 drw_n_1 bu_n_1 st_n_1 ki_n_1 we_n_1 wo_n_1 wr_n_1 kn_p_1 nx_p_1 ke_p_1 men_a_1 md_a_1 day_a_1 drw_a_1 bu_a_1 st_a_1 ki_a_1 we_a_1 wo_a_1 wr_a_1 kn_q_1 nx_q_1 ke_q_1).bind (fun r187 => (fX6_restore isk_M_1 now_M_1 kp_M_1).bind (fun r188 => if r187.1 = r188.1 then (nm (v3_1 + 8) (fun x190 => K1 (x190, img_x_1, r187.2.1, r187.2.2.1, r187.2.2.2.1, r187.2.2.2.2.1, r187.2.2.2.2.2.1, r187.2.2.2.2.2.2.1, r187.2.2.2.2.2.2.2.1, r187.2.2.2.2.2.2.2.2.1, r187.2.2.2.2.2.2.2.2.2.1, r187.2.2.2.2.2.2.2.2.2.2.1, r187.2.2.2.2.2.2.2.2.2.2.2.1, r187.2.2.2.2.2.2.2.2.2.2.2.2.1, r187.2.2.2.2.2.2.2.2.2.2.2.2.2, men_a_1, md_a_1, day_a_1, drw_a_1, bu_a_1, st_a_1, ki_a_1, we_a_1, wo_a_1, wr_a_1, kn_q_1, nx_q_1, ke_q_1, men_t_1, md_t_1, day_t_1, drw_t_1, bu_t_1, st_t_1, ki_t_1, we_t_1, wo_t_1, wr_t_1, ln_T_1, plc_T_1, ltr_T_1, worn_h_1, few_h_1, bc_h_1, ld_h_1, so_h_1, tr_h_1, be_h_1, wy_h_1, th_r_1, lan_r_1, siz_r_1, itm_r_1, ltr_M_1, pos_M_1, num_M_1, isk_M_1, bm_M_1, bch_M_1, lan_M_1, siz_M_1, itm_M_1, tap_M_1, r188.2, tri_M_1, rd_M_1, kp_M_1, bes_M_1))) else (some 0)))) else (if ((xs (Int32.toNatClampNeg v3_1)) &&& 31) = 25 then (gin (v3_1 + 1) L (gin (v3_1 + 2) L (gin (v3_1 + 3) L (gin (v3_1 + 4) L (gin (v3_1 + 5) L (gin (v3_1 + 6) L (gin (v3_1 + 7) L ((fX5_felt (xs (Int32.toNatClampNeg (v3_1 + 1))) (xs (Int32.toNatClampNeg (v3_1 + 2))) (xs (Int32.toNatClampNeg (v3_1 + 3))) (xs (Int32.toNatClampNeg (v3_1 + 4))) (xs (Int32.toNatClampNeg (v3_1 + 5))) (xs (Int32.toNatClampNeg (v3_1 + 6))) (xs (Int32.toNatClampNeg (v3_1 + 7))) men_n_1 md_n_1 day_n_1 drw_n_1 bu_n_1 st_n_1 ki_n_1 we_n_1 wo_n_1 wr_n_1 men_t_1 md_t_1 day_t_1 drw_t_1 bu_t_1 st_t_1 ki_t_1 we_t_1 wo_t_1 wr_t_1 th_r_1 lan_r_1 siz_r_1 itm_r_1).bind (fun r199 => gin (v3_1 + 1) L (gin (v3_1 + 2) L (gin (v3_1 + 3) L (gin (v3_1 + 4) L (gin (v3_1 + 5) L (gin (v3_1 + 6) L (gin (v3_1 + 7) L ((fX6_felt (xs (Int32.toNatClampNeg (v3_1 + 1))) (xs (Int32.toNatClampNeg (v3_1 + 2))) (xs (Int32.toNatClampNeg (v3_1 + 3))) (xs (Int32.toNatClampNeg (v3_1 + 4))) (xs (Int32.toNatClampNeg (v3_1 + 5))) (xs (Int32.toNatClampNeg (v3_1 + 6))) (xs (Int32.toNatClampNeg (v3_1 + 7))) lan_M_1 siz_M_1 itm_M_1 now_M_1 tri_M_1).bind (fun r207 => if r199.1 = r207.1 then (nm (v3_1 + 8) (fun x209 => K1 (x209, img_x_1, men_n_1, md_n_1, day_n_1, drw_n_1, bu_n_1, st_n_1, ki_n_1, we_n_1, wo_n_1, wr_n_1, kn_p_1, nx_p_1, ke_p_1, men_a_1, md_a_1, day_a_1, drw_a_1, bu_a_1, st_a_1, ki_a_1, we_a_1, wo_a_1, wr_a_1, kn_q_1, nx_q_1, ke_q_1, r199.2.1, r199.2.2.1, r199.2.2.2.1, r199.2.2.2.2.1, r199.2.2.2.2.2.1, r199.2.2.2.2.2.2.1, r199.2.2.2.2.2.2.2.1, r199.2.2.2.2.2.2.2.2.1, r199.2.2.2.2.2.2.2.2.2.1, r199.2.2.2.2.2.2.2.2.2.2, ln_T_1, plc_T_1, ltr_T_1, worn_h_1, few_h_1, bc_h_1, ld_h_1, so_h_1, tr_h_1, be_h_1, wy_h_1, th_r_1, lan_r_1, siz_r_1, itm_r_1, ltr_M_1, pos_M_1, num_M_1, isk_M_1, bm_M_1, bch_M_1, lan_M_1, siz_M_1, itm_M_1, tap_M_1, now_M_1, r207.2, rd_M_1, kp_M_1, bes_M_1))) else (some 0)))))))))))))))))) else (if ((xs (Int32.toNatClampNeg v3_1)) &&& 31) = 26 then (gin (v3_1 + 1) L (gin (v3_1 + 2) L (gin (v3_1 + 3) L (gin (v3_1 + 4) L (gin (v3_1 + 5) L ((fX5_film (xs (Int32.toNatClampNeg (v3_1 + 1))) (xs (Int32.toNatClampNeg (v3_1 + 2))) (xs (Int32.toNatClampNeg (v3_1 + 3))) (xs (Int32.toNatClampNeg (v3_1 + 4))) (xs (Int32.toNatClampNeg (v3_1 + 5))) men_n_1 md_n_1 day_n_1 bu_n_1 st_n_1 ki_n_1 we_n_1 wo_n_1 wr_n_1 th_r_1 lan_r_1 siz_r_1 itm_r_1).bind (fun r216 => gin (v3_1 + 1) L (gin (v3_1 + 2) L (gin (v3_1 + 3) L (gin (v3_1 + 4) L (gin (v3_1 + 5) L ((fX6_film (xs (Int32.toNatClampNeg (v3_1 + 1))) (xs (Int32.toNatClampNeg (v3_1 + 2))) (xs (Int32.toNatClampNeg (v3_1 + 3))) (xs (Int32.toNatClampNeg (v3_1 + 4))) (xs (Int32.toNatClampNeg (v3_1 + 5))) lan_M_1 siz_M_1 itm_M_1 now_M_1 tri_M_1).bind (fun r222 => if r216.1 = r222.1 then (nm (v3_1 + 8) (fun x224 => K1 (x224, img_x_1, men_n_1, md_n_1, day_n_1, drw_n_1, bu_n_1, st_n_1, ki_n_1, we_n_1, wo_n_1, wr_n_1, kn_p_1, nx_p_1, ke_p_1, men_a_1, md_a_1, day_a_1, drw_a_1, bu_a_1, st_a_1, ki_a_1, we_a_1, wo_a_1, wr_a_1, kn_q_1, nx_q_1, ke_q_1, men_t_1, md_t_1, day_t_1, drw_t_1, bu_t_1, st_t_1, ki_t_1, we_t_1, wo_t_1, wr_t_1, ln_T_1, plc_T_1, ltr_T_1, worn_h_1, few_h_1, bc_h_1, ld_h_1, so_h_1, tr_h_1, be_h_1, wy_h_1, th_r_1, lan_r_1, siz_r_1, r216.2, ltr_M_1, pos_M_1, num_M_1, isk_M_1, bm_M_1, bch_M_1, lan_M_1, siz_M_1, r222.2.1, tap_M_1, now_M_1, r222.2.2, rd_M_1, kp_M_1, bes_M_1))) else (some 0)))))))))))))) else (if ((xs (Int32.toNatClampNeg v3_1)) &&& 31) = 27 then (gin (v3_1 + 1) L (gin (v3_1 + 2) L (gin (v3_1 + 3) L ((fX5_sheet (xs (Int32.toNatClampNeg (v3_1 + 1))) (xs (Int32.toNatClampNeg (v3_1 + 2))) (xs (Int32.toNatClampNeg (v3_1 + 3))) th_r_1 lan_r_1 siz_r_1 itm_r_1).bind (fun r229 => gin (v3_1 + 1) L (gin (v3_1 + 2) L (gin (v3_1 + 3) L ((fX6_sheet (xs (Int32.toNatClampNeg (v3_1 + 1))) (xs (Int32.toNatClampNeg (v3_1 + 2))) (xs (Int32.toNatClampNeg (v3_1 + 3))) lan_M_1 siz_M_1 itm_M_1).bind (fun r233 => if r229.1 = r233.1 then (nm (v3_1 + 8) (fun x235 => K1 (x235, img_x_1, men_n_1, md_n_1, day_n_1, drw_n_1, bu_n_1, st_n_1, ki_n_1, we_n_1, wo_n_1, wr_n_1, kn_p_1, nx_p_1, ke_p_1, men_a_1, md_a_1, day_a_1, drw_a_1, bu_a_1, st_a_1, ki_a_1, we_a_1, wo_a_1, wr_a_1, kn_q_1, nx_q_1, ke_q_1, men_t_1, md_t_1, day_t_1, drw_t_1, bu_t_1, st_t_1, ki_t_1, we_t_1, wo_t_1, wr_t_1, ln_T_1, plc_T_1, ltr_T_1, worn_h_1, few_h_1, bc_h_1, ld_h_1, so_h_1, tr_h_1, be_h_1, wy_h_1, r229.2.1, r229.2.2.1, r229.2.2.2.1, r229.2.2.2.2, ltr_M_1, pos_M_1, num_M_1, isk_M_1, bm_M_1, bch_M_1, r233.2.1, r233.2.2.1, r233.2.2.2, tap_M_1, now_M_1, tri_M_1, rd_M_1, kp_M_1, bes_M_1))) else (some 0)))))))))) else (if ((xs (Int32.toNatClampNeg v3_1)) &&& 31) = 28 then (gin (v3_1 + 1) L ((fX5_drop (xs (Int32.toNatClampNeg (v3_1 + 1))) th_r_1 siz_r_1).bind (fun r238 => gin (v3_1 + 1) L ((fX6_drop (xs (Int32.toNatClampNeg (v3_1 + 1))) lan_M_1 siz_M_1).bind (fun r240 => if r238.1 = r240.1 then (nm (v3_1 + 8) (fun x242 => K1 (x242, img_x_1, men_n_1, md_n_1, day_n_1, drw_n_1, bu_n_1, st_n_1, ki_n_1, we_n_1, wo_n_1, wr_n_1, kn_p_1, nx_p_1, ke_p_1, men_a_1, md_a_1, day_a_1, drw_a_1, bu_a_1, st_a_1, ki_a_1, we_a_1, wo_a_1, wr_a_1, kn_q_1, nx_q_1, ke_q_1, men_t_1, md_t_1, day_t_1, drw_t_1, bu_t_1, st_t_1, ki_t_1, we_t_1, wo_t_1, wr_t_1, ln_T_1, plc_T_1, ltr_T_1, worn_h_1, few_h_1, bc_h_1, ld_h_1, so_h_1, tr_h_1, be_h_1, wy_h_1, r238.2, lan_r_1, siz_r_1, itm_r_1, ltr_M_1, pos_M_1, num_M_1, isk_M_1, bm_M_1, bch_M_1, r240.2, siz_M_1, itm_M_1, tap_M_1, now_M_1, tri_M_1, rd_M_1, kp_M_1, bes_M_1))) else (some 0)))))) else (if ((xs (Int32.toNatClampNeg v3_1)) &&& 31) = 29 then (gin (v3_1 + 1) L (gin (v3_1 + 2) L (gin (v3_1 + 3) L (gin (v3_1 + 4) L (gin (v3_1 + 5) L ((fX5_item (xs (Int32.toNatClampNeg (v3_1 + 1))) (xs (Int32.toNatClampNeg (v3_1 + 2))) (xs (Int32.toNatClampNeg (v3_1 + 3))) (((Int32.toInt64 (xs (Int32.toNatClampNeg (v3_1 + 4)))) <<< (Int32.toInt64 32 &&& 63)) ||| ((Int32.toInt64 (xs (Int32.toNatClampNeg (v3_1 + 5)))) &&& 4294967295)) th_r_1 lan_r_1 siz_r_1 itm_r_1).bind (fun r249 => gin (v3_1 + 1) L (gin (v3_1 + 2) L (gin (v3_1 + 3) L (gin (v3_1 + 4) L (gin (v3_1 + 5) L ((fX6_item (xs (Int32.toNatClampNeg (v3_1 + 1))) (xs (Int32.toNatClampNeg (v3_1 + 2))) (xs (Int32.toNatClampNeg (v3_1 + 3))) (((Int32.toInt64 (xs (Int32.toNatClampNeg (v3_1 + 4)))) <<< (Int32.toInt64 32 &&& 63)) ||| ((Int32.toInt64 (xs (Int32.toNatClampNeg (v3_1 + 5)))) &&& 4294967295)) lan_M_1 siz_M_1 itm_M_1).bind (fun r255 => if r249.1 = r255.1 then (nm (v3_1 + 8) (fun x257 => K1 (x257, img_x_1, men_n_1, md_n_1, day_n_1, drw_n_1, bu_n_1, st_n_1, ki_n_1, we_n_1, wo_n_1, wr_n_1, kn_p_1, nx_p_1, ke_p_1, men_a_1, md_a_1, day_a_1, drw_a_1, bu_a_1, st_a_1, ki_a_1, we_a_1, wo_a_1, wr_a_1, kn_q_1, nx_q_1, ke_q_1, men_t_1, md_t_1, day_t_1, drw_t_1, bu_t_1, st_t_1, ki_t_1, we_t_1, wo_t_1, wr_t_1, ln_T_1, plc_T_1, ltr_T_1, worn_h_1, few_h_1, bc_h_1, ld_h_1, so_h_1, tr_h_1, be_h_1, wy_h_1, th_r_1, lan_r_1, siz_r_1, r249.2, ltr_M_1, pos_M_1, num_M_1, isk_M_1, bm_M_1, bch_M_1, lan_M_1, siz_M_1, r255.2, tap_M_1, now_M_1, tri_M_1, rd_M_1, kp_M_1, bes_M_1))) else (some 0)))))))))))))) else (if ((xs (Int32.toNatClampNeg v3_1)) &&& 31) = 30 then (gin (v3_1 + 1) L (gin (v3_1 + 2) L (gin (v3_1 + 3) L (gin (v3_1 + 4) L (gin (v3_1 + 5) L ((fX5_copy (xs (Int32.toNatClampNeg (v3_1 + 1))) (xs (Int32.toNatClampNeg (v3_1 + 2))) (xs (Int32.toNatClampNeg (v3_1 + 3))) (xs (Int32.toNatClampNeg (v3_1 + 4))) (xs (Int32.toNatClampNeg (v3_1 + 5))) th_r_1 lan_r_1 siz_r_1 itm_r_1).bind (fun r264 => gin (v3_1 + 1) L (gin (v3_1 + 2) L (gin (v3_1 + 3) L (gin (v3_1 + 4) L (gin (v3_1 + 5) L ((fX6_copy (xs (Int32.toNatClampNeg (v3_1 + 1))) (xs (Int32.toNatClampNeg (v3_1 + 2))) (xs (Int32.toNatClampNeg (v3_1 + 3))) (xs (Int32.toNatClampNeg (v3_1 + 4))) (xs (Int32.toNatClampNeg (v3_1 + 5))) lan_M_1 siz_M_1 itm_M_1).bind (fun r270 => if r264.1 = r270.1 then (nm (v3_1 + 8) (fun x272 => K1 (x272, img_x_1, men_n_1, md_n_1, day_n_1, drw_n_1, bu_n_1, st_n_1, ki_n_1, we_n_1, wo_n_1, wr_n_1, kn_p_1, nx_p_1, ke_p_1, men_a_1, md_a_1, day_a_1, drw_a_1, bu_a_1, st_a_1, ki_a_1, we_a_1, wo_a_1, wr_a_1, kn_q_1, nx_q_1, ke_q_1, men_t_1, md_t_1, day_t_1, drw_t_1, bu_t_1, st_t_1, ki_t_1, we_t_1, wo_t_1, wr_t_1, ln_T_1, plc_T_1, ltr_T_1, worn_h_1, few_h_1, bc_h_1, ld_h_1, so_h_1, tr_h_1, be_h_1, wy_h_1, th_r_1, lan_r_1, siz_r_1, r264.2, ltr_M_1, pos_M_1, num_M_1, isk_M_1, bm_M_1, bch_M_1, lan_M_1, siz_M_1, r270.2, tap_M_1, now_M_1, tri_M_1, rd_M_1, kp_M_1, bes_M_1))) else (some 0)))))))))))))) else (nm (v3_1 + 8) (fun x273 => K1 (x273, img_x_1, men_n_1, md_n_1, day_n_1, drw_n_1, bu_n_1, st_n_1, ki_n_1, we_n_1, wo_n_1, wr_n_1, kn_p_1, nx_p_1, ke_p_1, men_a_1, md_a_1, day_a_1, drw_a_1, bu_a_1, st_a_1, ki_a_1, we_a_1, wo_a_1, wr_a_1, kn_q_1, nx_q_1, ke_q_1, men_t_1, md_t_1, day_t_1, drw_t_1, bu_t_1, st_t_1, ki_t_1, we_t_1, wo_t_1, wr_t_1, ln_T_1, plc_T_1, ltr_T_1, worn_h_1, few_h_1, bc_h_1, ld_h_1, so_h_1, tr_h_1, be_h_1, wy_h_1, th_r_1, lan_r_1, siz_r_1, itm_r_1, ltr_M_1, pos_M_1, num_M_1, isk_M_1, bm_M_1, bch_M_1, lan_M_1, siz_M_1, itm_M_1, tap_M_1, now_M_1, tri_M_1, rd_M_1, kp_M_1, bes_M_1)))))))))))))))))))))))))))))))))))
set_option maxHeartbeats 40000000 in
set_option maxRecDepth 100000 in
theorem law_lp {p : Program} {l : Launch} {e : Env} {s : State} {m : MethodId} {args : Array Value} {below : List Frame} {meth : Method} {c : Code} {Q : State → Prop} {D : va_G} {g : Nat → ClassId} {qa : Nat → Nat} {b L : Nat} {xs : Nat → Int32} (X : Cx p s m args c cL_law 4 RL wsL_law D g qa) (hX : va_X b L xs s s.heap) (hbl : b < s.heap.size) (hbA : ¬ gA qa s.heap.size b) (hret : ∀ (H : Heap) (locs : List Loc) (ls : Array Slot), va_S (gA qa s.heap.size) s.heap H locs → W p l e room_1 s m args below meth c H locs 600000 7302250 Q (F0 m 1176 ls [.int 1])) :
    ∀ (n1 : Nat) (v3_1 : Int32) (img_x_1 : Int32) (men_n_1 : Int32) (md_n_1 : Int32) (day_n_1 : Int32) (drw_n_1 : Int32) (bu_n_1 : Nat → Int32) (st_n_1 : Nat → Int32) (ki_n_1 : Nat → Int32) (we_n_1 : Nat → Int32) (wo_n_1 : Nat → Int32) (wr_n_1 : Nat → Int32) (kn_p_1 : Int32) (nx_p_1 : Int32) (ke_p_1 : Nat → Nat → Int32) (men_a_1 : Int32) (md_a_1 : Int32) (day_a_1 : Int32) (drw_a_1 : Int32) (bu_a_1 : Nat → Int32) (st_a_1 : Nat → Int32) (ki_a_1 : Nat → Int32) (we_a_1 : Nat → Int32) (wo_a_1 : Nat → Int32) (wr_a_1 : Nat → Int32) (kn_q_1 : Int32) (nx_q_1 : Int32) (ke_q_1 : Nat → Nat → Int32) (men_t_1 : Int32) (md_t_1 : Int32) (day_t_1 : Int32) (drw_t_1 : Int32) (bu_t_1 : Nat → Int32) (st_t_1 : Nat → Int32) (ki_t_1 : Nat → Int32) (we_t_1 : Nat → Int32) (wo_t_1 : Nat → Int32) (wr_t_1 : Nat → Int32) (ln_T_1 : Int32) (plc_T_1 : Int32) (ltr_T_1 : Nat → Int32) (worn_h_1 : Int32) (few_h_1 : Int32) (bc_h_1 : Int32) (ld_h_1 : Nat → Nat → Int32) (so_h_1 : Nat → Int32) (tr_h_1 : Nat → Int32) (be_h_1 : Nat → Int32) (wy_h_1 : Nat → Int32) (th_r_1 : Nat → Int32) (lan_r_1 : Nat → Int32) (siz_r_1 : Nat → Int32) (itm_r_1 : Nat → Nat → Int64) (ltr_M_1 : Int32) (pos_M_1 : Int32) (num_M_1 : Int32) (isk_M_1 : Int32) (bm_M_1 : Int32) (bch_M_1 : Int32) (lan_M_1 : Nat → Int32) (siz_M_1 : Nat → Int32) (itm_M_1 : Nat → Int64) (tap_M_1 : Nat → Int32) (now_M_1 : Nat → Int32) (tri_M_1 : Nat → Int32) (rd_M_1 : Nat → Int32) (kp_M_1 : Nat → Int32) (bes_M_1 : Nat → Int32) (E : Nat → va_E) (H : Heap) (locs : List Loc) (ls : Array Slot), lp (bL_law_18 L xs) n1 (v3_1, img_x_1, men_n_1, md_n_1, day_n_1, drw_n_1, bu_n_1, st_n_1, ki_n_1, we_n_1, wo_n_1, wr_n_1, kn_p_1, nx_p_1, ke_p_1, men_a_1, md_a_1, day_a_1, drw_a_1, bu_a_1, st_a_1, ki_a_1, we_a_1, wo_a_1, wr_a_1, kn_q_1, nx_q_1, ke_q_1, men_t_1, md_t_1, day_t_1, drw_t_1, bu_t_1, st_t_1, ki_t_1, we_t_1, wo_t_1, wr_t_1, ln_T_1, plc_T_1, ltr_T_1, worn_h_1, few_h_1, bc_h_1, ld_h_1, so_h_1, tr_h_1, be_h_1, wy_h_1, th_r_1, lan_r_1, siz_r_1, itm_r_1, ltr_M_1, pos_M_1, num_M_1, isk_M_1, bm_M_1, bch_M_1, lan_M_1, siz_M_1, itm_M_1, tap_M_1, now_M_1, tri_M_1, rd_M_1, kp_M_1, bes_M_1) = some 1 → va_P D vwCl (WD qa E) H → va_S (gA qa s.heap.size) s.heap H locs → Xo g qa E 0 img_x_1 → Mu g qa E 1 men_n_1 md_n_1 day_n_1 drw_n_1 bu_n_1 st_n_1 ki_n_1 we_n_1 wo_n_1 wr_n_1 → Pa g qa E 8 kn_p_1 nx_p_1 ke_p_1 → Mu g qa E 18 men_a_1 md_a_1 day_a_1 drw_a_1 bu_a_1 st_a_1 ki_a_1 we_a_1 wo_a_1 wr_a_1 → Pa g qa E 25 kn_q_1 nx_q_1 ke_q_1 → Mu g qa E 35 men_t_1 md_t_1 day_t_1 drw_t_1 bu_t_1 st_t_1 ki_t_1 we_t_1 wo_t_1 wr_t_1 → Ta g qa E 42 ln_T_1 plc_T_1 ltr_T_1 → Ha g qa E 44 worn_h_1 few_h_1 bc_h_1 ld_h_1 so_h_1 tr_h_1 be_h_1 wy_h_1 → Rs g qa E 55 th_r_1 lan_r_1 siz_r_1 itm_r_1 → Mo g qa E 64 ltr_M_1 pos_M_1 num_M_1 isk_M_1 bm_M_1 bch_M_1 lan_M_1 siz_M_1 itm_M_1 tap_M_1 now_M_1 tri_M_1 rd_M_1 kp_M_1 bes_M_1 → lv_has ls 4 [(0, .ref b), (1, .ref (qa 0)), (2, .ref (qa 64)), (3, .int v3_1)] → W p l e room_1 s m args below meth c H locs 600000 7302250 Q (F0 m 18 ls []) := by
  intro n1
  induction n1 with
  | zero =>
    intro v3_1 img_x_1 men_n_1 md_n_1 day_n_1 drw_n_1 bu_n_1 st_n_1 ki_n_1 we_n_1 wo_n_1 wr_n_1 kn_p_1 nx_p_1 ke_p_1 men_a_1 md_a_1 day_a_1 drw_a_1 bu_a_1 st_a_1 ki_a_1 we_a_1 wo_a_1 wr_a_1 kn_q_1 nx_q_1 ke_q_1 men_t_1 md_t_1 day_t_1 drw_t_1 bu_t_1 st_t_1 ki_t_1 we_t_1 wo_t_1 wr_t_1 ln_T_1 plc_T_1 ltr_T_1 worn_h_1 few_h_1 bc_h_1 ld_h_1 so_h_1 tr_h_1 be_h_1 wy_h_1 th_r_1 lan_r_1 siz_r_1 itm_r_1 ltr_M_1 pos_M_1 num_M_1 isk_M_1 bm_M_1 bch_M_1 lan_M_1 siz_M_1 itm_M_1 tap_M_1 now_M_1 tri_M_1 rd_M_1 kp_M_1 bes_M_1 E H locs ls hf
    exact absurd hf (by intro h; cases h)
  | succ n1 ih1 =>
    intro v3_1 img_x_1 men_n_1 md_n_1 day_n_1 drw_n_1 bu_n_1 st_n_1 ki_n_1 we_n_1 wo_n_1 wr_n_1 kn_p_1 nx_p_1 ke_p_1 men_a_1 md_a_1 day_a_1 drw_a_1 bu_a_1 st_a_1 ki_a_1 we_a_1 wo_a_1 wr_a_1 kn_q_1 nx_q_1 ke_q_1 men_t_1 md_t_1 day_t_1 drw_t_1 bu_t_1 st_t_1 ki_t_1 we_t_1 wo_t_1 wr_t_1 ln_T_1 plc_T_1 ltr_T_1 worn_h_1 few_h_1 bc_h_1 ld_h_1 so_h_1 tr_h_1 be_h_1 wy_h_1 th_r_1 lan_r_1 siz_r_1 itm_r_1 ltr_M_1 pos_M_1 num_M_1 isk_M_1 bm_M_1 bch_M_1 lan_M_1 siz_M_1 itm_M_1 tap_M_1 now_M_1 tri_M_1 rd_M_1 kp_M_1 bes_M_1 E H locs ls hf hP hS hG_x hG_n hG_p hG_a hG_q hG_t hG_T hG_h hG_r hG_M hl
    rw [lp_succ, bL_law_18] at hf
    refine lv_iload_n X.1 X.2.1 dL_law_18 rfl (lv_at hl 3 rfl) ?_
    refine lv_aload_n X.1 X.2.1 dL_law_19 rfl (lv_at hl 0 rfl) ?_
    refine va_slen X.1 X.2.1 hX hbl hbA hS dL_law_20 ?_
    refine lv_bipush (v := 8) X.1 X.2.1 dL_law_21 (by decide) ?_
    refine lv_isub X.1 X.2.1 dL_law_23 ?_
    refine lv_icmp_gt (tgt := 1175) X.1 X.2.1 dL_law_24 (by decide) (fun c2 => ?_) (fun c2 => ?_)
    · have hf := ifp hf c2
      refine lv_iconst (v := 1) X.1 X.2.1 dL_law_1175 (by decide) ?_
      exact hret _ _ _ hS
    · have hf := ifn hf c2
      refine lv_aload_n X.1 X.2.1 dL_law_27 rfl (lv_at hl 0 rfl) ?_
      refine lv_iload_n X.1 X.2.1 dL_law_28 rfl (lv_at hl 3 rfl) ?_
      obtain ⟨hi3, hf⟩ := gin_of hf
      refine va_sld X.1 X.2.1 hX hbl hbA hS hi3 dL_law_29 ?_
      refine lv_bipush (v := 31) X.1 X.2.1 dL_law_30 (by decide) ?_
      refine lv_iand X.1 X.2.1 dL_law_32 ?_
      by_cases w4 : ((xs (Int32.toNatClampNeg v3_1)) &&& 31) = 0
      · have hf := ifp hf w4
        refine lv_tableIn (tgt := 172) X.1 X.2.1 dL_law_33 (by rw [w4]; decide) (by rw [w4]; decide) (off := 139) (by rw [w4]; decide) (by decide) ?_
        refine lv_aload_n X.1 X.2.1 dL_law_172 rfl (lv_at hl 1 rfl) ?_
        refine lv_aload_n X.1 X.2.1 dL_law_173 rfl (lv_at hl 0 rfl) ?_
        refine lv_iload_n X.1 X.2.1 dL_law_174 rfl (lv_at hl 3 rfl) ?_
        refine lv_iconst (v := 1) X.1 X.2.1 dL_law_175 (by decide) ?_
        refine lv_iadd X.1 X.2.1 dL_law_176 ?_
        obtain ⟨hi5, hf⟩ := gin_of hf
        refine va_sld X.1 X.2.1 hX hbl hbA hS hi5 dL_law_177 ?_
        obtain ⟨r6, hr6, hf⟩ := bd_of hf
        refine xl_callVi ⟨by decide, by decide⟩ X hP hS hG_x (by omega) rfl (n := 1) (As := [.int (xs (Int32.toNatClampNeg (v3_1 + 1)))]) (ct_X5_man hG_x hG_n hG_p hr6) gL_law_X5_man rfl (by decide +kernel) ⟨by decide, by decide⟩ rfl hl.1 rfl (Nat.le_of_ble_eq_true rfl) dL_law_178 (fun E H locs hp hP hS => ?_)
        obtain ⟨hW_n, hW_p, hk⟩ := hp
        have hG_n := hW_n
        have hG_p := hW_p
        have hG_x := Xo_kept hG_x (fun j h8 h9 => hk j (by omega) (by omega))
        have hG_a := Mu_kept hG_a (fun j h8 h9 => hk j (by omega) (by omega))
        have hG_q := Pa_kept hG_q (fun j h8 h9 => hk j (by omega) (by omega))
        have hG_t := Mu_kept hG_t (fun j h8 h9 => hk j (by omega) (by omega))
        have hG_T := Ta_kept hG_T (fun j h8 h9 => hk j (by omega) (by omega))
        have hG_h := Ha_kept hG_h (fun j h8 h9 => hk j (by omega) (by omega))
        have hG_r := Rs_kept hG_r (fun j h8 h9 => hk j (by omega) (by omega))
        have hG_M := Mo_kept hG_M (fun j h8 h9 => hk j (by omega) (by omega))
        refine lv_aload_n X.1 X.2.1 dL_law_181 rfl (lv_at hl 2 rfl) ?_
        refine lv_aload_n X.1 X.2.1 dL_law_182 rfl (lv_at hl 0 rfl) ?_
        refine lv_iload_n X.1 X.2.1 dL_law_183 rfl (lv_at hl 3 rfl) ?_
        refine lv_iconst (v := 1) X.1 X.2.1 dL_law_184 (by decide) ?_
        refine lv_iadd X.1 X.2.1 dL_law_185 ?_
        obtain ⟨hi7, hf⟩ := gin_of hf
        refine va_sld X.1 X.2.1 hX hbl hbA hS hi7 dL_law_186 ?_
        obtain ⟨r8, hr8, hf⟩ := bd_of hf
        refine xl_callVi ⟨by decide, by decide⟩ X hP hS hG_M.1 (by omega) rfl (n := 1) (As := [.int (xs (Int32.toNatClampNeg (v3_1 + 1)))]) (ct_X6_man hG_M hr8) gL_law_X6_man rfl (by decide +kernel) ⟨by decide, by decide⟩ rfl hl.1 rfl (Nat.le_of_ble_eq_true rfl) dL_law_187 (fun E H locs hp hP hS => ?_)
        obtain ⟨hW_M, hk⟩ := hp
        have hG_M := hW_M
        have hG_x := Xo_kept hG_x (fun j h8 h9 => hk j (by omega))
        have hG_n := Mu_kept hG_n (fun j h8 h9 => hk j (by omega))
        have hG_p := Pa_kept hG_p (fun j h8 h9 => hk j (by omega))
        have hG_a := Mu_kept hG_a (fun j h8 h9 => hk j (by omega))
        have hG_q := Pa_kept hG_q (fun j h8 h9 => hk j (by omega))
        have hG_t := Mu_kept hG_t (fun j h8 h9 => hk j (by omega))
        have hG_T := Ta_kept hG_T (fun j h8 h9 => hk j (by omega))
        have hG_h := Ha_kept hG_h (fun j h8 h9 => hk j (by omega))
        have hG_r := Rs_kept hG_r (fun j h8 h9 => hk j (by omega))
        refine lv_icmp_eq (tgt := 1169) X.1 X.2.1 dL_law_190 (by decide) (fun c9 => ?_) (fun c9 => ?_)
        · have hf := ifp hf c9
          obtain ⟨x10, ex10, hf⟩ := nm_of hf
          refine lv_iinc (v := x10) (lv' := [(3, .int x10), (0, .ref b), (1, .ref (qa 0)), (2, .ref (qa 64))]) X.1 X.2.1 dL_law_1169 hl (k := 3) rfl (by rw [ex10]; rfl) (by decide) rfl (fun ls hl => ?_)
          refine lv_goto (tgt := 18) X.1 X.2.1 dL_law_1172 (by decide) ?_
          exact ih1 x10 img_x_1 r6.2.1 md_n_1 day_n_1 drw_n_1 r6.2.2.1 r6.2.2.2.1 ki_n_1 we_n_1 wo_n_1 wr_n_1 r6.2.2.2.2 nx_p_1 ke_p_1 men_a_1 md_a_1 day_a_1 drw_a_1 bu_a_1 st_a_1 ki_a_1 we_a_1 wo_a_1 wr_a_1 kn_q_1 nx_q_1 ke_q_1 men_t_1 md_t_1 day_t_1 drw_t_1 bu_t_1 st_t_1 ki_t_1 we_t_1 wo_t_1 wr_t_1 ln_T_1 plc_T_1 ltr_T_1 worn_h_1 few_h_1 bc_h_1 ld_h_1 so_h_1 tr_h_1 be_h_1 wy_h_1 th_r_1 lan_r_1 siz_r_1 itm_r_1 ltr_M_1 pos_M_1 num_M_1 isk_M_1 bm_M_1 bch_M_1 lan_M_1 siz_M_1 itm_M_1 tap_M_1 r8.2 tri_M_1 rd_M_1 kp_M_1 bes_M_1 _ _ _ _ hf hP hS hG_x hG_n hG_p hG_a hG_q hG_t hG_T hG_h hG_r hG_M (lv_sub hl [1, 2, 3, 0] rfl)
        · have hf := ifn hf c9
          refine lv_iconst (v := 0) X.1 X.2.1 dL_law_193 (by decide) ?_
          exact absurd (Option.some.inj hf) (by decide)
      have hf := ifn hf w4
      by_cases w11 : ((xs (Int32.toNatClampNeg v3_1)) &&& 31) = 1
      · have hf := ifp hf w11
        refine lv_tableIn (tgt := 195) X.1 X.2.1 dL_law_33 (by rw [w11]; decide) (by rw [w11]; decide) (off := 162) (by rw [w11]; decide) (by decide) ?_
        refine lv_aload_n X.1 X.2.1 dL_law_195 rfl (lv_at hl 1 rfl) ?_
        refine lv_aload_n X.1 X.2.1 dL_law_196 rfl (lv_at hl 0 rfl) ?_
        refine lv_iload_n X.1 X.2.1 dL_law_197 rfl (lv_at hl 3 rfl) ?_
        refine lv_iconst (v := 1) X.1 X.2.1 dL_law_198 (by decide) ?_
        refine lv_iadd X.1 X.2.1 dL_law_199 ?_
        obtain ⟨hi12, hf⟩ := gin_of hf
        refine va_sld X.1 X.2.1 hX hbl hbA hS hi12 dL_law_200 ?_
        refine lv_aload_n X.1 X.2.1 dL_law_201 rfl (lv_at hl 0 rfl) ?_
        refine lv_iload_n X.1 X.2.1 dL_law_202 rfl (lv_at hl 3 rfl) ?_
        refine lv_iconst (v := 2) X.1 X.2.1 dL_law_203 (by decide) ?_
        refine lv_iadd X.1 X.2.1 dL_law_204 ?_
        obtain ⟨hi13, hf⟩ := gin_of hf
        refine va_sld X.1 X.2.1 hX hbl hbA hS hi13 dL_law_205 ?_
        refine lv_aload_n X.1 X.2.1 dL_law_206 rfl (lv_at hl 0 rfl) ?_
        refine lv_iload_n X.1 X.2.1 dL_law_207 rfl (lv_at hl 3 rfl) ?_
        refine lv_iconst (v := 3) X.1 X.2.1 dL_law_208 (by decide) ?_
        refine lv_iadd X.1 X.2.1 dL_law_209 ?_
        obtain ⟨hi14, hf⟩ := gin_of hf
        refine va_sld X.1 X.2.1 hX hbl hbA hS hi14 dL_law_210 ?_
        obtain ⟨r15, hr15, hf⟩ := bd_of hf
        refine xl_callVi ⟨by decide, by decide⟩ X hP hS hG_x (by omega) rfl (n := 3) (As := [.int (xs (Int32.toNatClampNeg (v3_1 + 1))), .int (xs (Int32.toNatClampNeg (v3_1 + 2))), .int (xs (Int32.toNatClampNeg (v3_1 + 3)))]) (ct_X5_medal hG_x hG_n hG_p hr15) gL_law_X5_medal rfl (by decide +kernel) ⟨by decide, by decide⟩ rfl hl.1 rfl (Nat.le_of_ble_eq_true rfl) dL_law_211 (fun E H locs hp hP hS => ?_)
        obtain ⟨hW_n, hW_p, hk⟩ := hp
        have hG_n := hW_n
        have hG_p := hW_p
        have hG_x := Xo_kept hG_x (fun j h8 h9 => hk j (by omega) (by omega))
        have hG_a := Mu_kept hG_a (fun j h8 h9 => hk j (by omega) (by omega))
        have hG_q := Pa_kept hG_q (fun j h8 h9 => hk j (by omega) (by omega))
        have hG_t := Mu_kept hG_t (fun j h8 h9 => hk j (by omega) (by omega))
        have hG_T := Ta_kept hG_T (fun j h8 h9 => hk j (by omega) (by omega))
        have hG_h := Ha_kept hG_h (fun j h8 h9 => hk j (by omega) (by omega))
        have hG_r := Rs_kept hG_r (fun j h8 h9 => hk j (by omega) (by omega))
        have hG_M := Mo_kept hG_M (fun j h8 h9 => hk j (by omega) (by omega))
        refine lv_aload_n X.1 X.2.1 dL_law_214 rfl (lv_at hl 2 rfl) ?_
        refine lv_aload_n X.1 X.2.1 dL_law_215 rfl (lv_at hl 0 rfl) ?_
        refine lv_iload_n X.1 X.2.1 dL_law_216 rfl (lv_at hl 3 rfl) ?_
        refine lv_iconst (v := 1) X.1 X.2.1 dL_law_217 (by decide) ?_
        refine lv_iadd X.1 X.2.1 dL_law_218 ?_
        obtain ⟨hi16, hf⟩ := gin_of hf
        refine va_sld X.1 X.2.1 hX hbl hbA hS hi16 dL_law_219 ?_
        refine lv_aload_n X.1 X.2.1 dL_law_220 rfl (lv_at hl 0 rfl) ?_
        refine lv_iload_n X.1 X.2.1 dL_law_221 rfl (lv_at hl 3 rfl) ?_
        refine lv_iconst (v := 2) X.1 X.2.1 dL_law_222 (by decide) ?_
        refine lv_iadd X.1 X.2.1 dL_law_223 ?_
        obtain ⟨hi17, hf⟩ := gin_of hf
        refine va_sld X.1 X.2.1 hX hbl hbA hS hi17 dL_law_224 ?_
        refine lv_aload_n X.1 X.2.1 dL_law_225 rfl (lv_at hl 0 rfl) ?_
        refine lv_iload_n X.1 X.2.1 dL_law_226 rfl (lv_at hl 3 rfl) ?_
        refine lv_iconst (v := 3) X.1 X.2.1 dL_law_227 (by decide) ?_
        refine lv_iadd X.1 X.2.1 dL_law_228 ?_
        obtain ⟨hi18, hf⟩ := gin_of hf
        refine va_sld X.1 X.2.1 hX hbl hbA hS hi18 dL_law_229 ?_
        obtain ⟨r19, hr19, hf⟩ := bd_of hf
        refine xl_callVi ⟨by decide, by decide⟩ X hP hS hG_M.1 (by omega) rfl (n := 3) (As := [.int (xs (Int32.toNatClampNeg (v3_1 + 1))), .int (xs (Int32.toNatClampNeg (v3_1 + 2))), .int (xs (Int32.toNatClampNeg (v3_1 + 3)))]) (ct_X6_medal hG_M hr19) gL_law_X6_medal rfl (by decide +kernel) ⟨by decide, by decide⟩ rfl hl.1 rfl (Nat.le_of_ble_eq_true rfl) dL_law_230 (fun E H locs hp hP hS => ?_)
        obtain ⟨hW_M, hk⟩ := hp
        have hG_M := hW_M
        have hG_x := Xo_kept hG_x (fun j h8 h9 => hk j (by omega))
        have hG_n := Mu_kept hG_n (fun j h8 h9 => hk j (by omega))
        have hG_p := Pa_kept hG_p (fun j h8 h9 => hk j (by omega))
        have hG_a := Mu_kept hG_a (fun j h8 h9 => hk j (by omega))
        have hG_q := Pa_kept hG_q (fun j h8 h9 => hk j (by omega))
        have hG_t := Mu_kept hG_t (fun j h8 h9 => hk j (by omega))
        have hG_T := Ta_kept hG_T (fun j h8 h9 => hk j (by omega))
        have hG_h := Ha_kept hG_h (fun j h8 h9 => hk j (by omega))
        have hG_r := Rs_kept hG_r (fun j h8 h9 => hk j (by omega))
        refine lv_icmp_eq (tgt := 1169) X.1 X.2.1 dL_law_233 (by decide) (fun c20 => ?_) (fun c20 => ?_)
        · have hf := ifp hf c20
          obtain ⟨x21, ex21, hf⟩ := nm_of hf
          refine lv_iinc (v := x21) (lv' := [(3, .int x21), (0, .ref b), (1, .ref (qa 0)), (2, .ref (qa 64))]) X.1 X.2.1 dL_law_1169 hl (k := 3) rfl (by rw [ex21]; rfl) (by decide) rfl (fun ls hl => ?_)
          refine lv_goto (tgt := 18) X.1 X.2.1 dL_law_1172 (by decide) ?_
          exact ih1 x21 img_x_1 men_n_1 r15.2.1 day_n_1 drw_n_1 bu_n_1 st_n_1 r15.2.2.1 r15.2.2.2.1 r15.2.2.2.2.1 r15.2.2.2.2.2.1 r15.2.2.2.2.2.2 nx_p_1 ke_p_1 men_a_1 md_a_1 day_a_1 drw_a_1 bu_a_1 st_a_1 ki_a_1 we_a_1 wo_a_1 wr_a_1 kn_q_1 nx_q_1 ke_q_1 men_t_1 md_t_1 day_t_1 drw_t_1 bu_t_1 st_t_1 ki_t_1 we_t_1 wo_t_1 wr_t_1 ln_T_1 plc_T_1 ltr_T_1 worn_h_1 few_h_1 bc_h_1 ld_h_1 so_h_1 tr_h_1 be_h_1 wy_h_1 th_r_1 lan_r_1 siz_r_1 itm_r_1 ltr_M_1 pos_M_1 num_M_1 isk_M_1 bm_M_1 bch_M_1 lan_M_1 siz_M_1 itm_M_1 tap_M_1 r19.2 tri_M_1 rd_M_1 kp_M_1 bes_M_1 _ _ _ _ hf hP hS hG_x hG_n hG_p hG_a hG_q hG_t hG_T hG_h hG_r hG_M (lv_sub hl [1, 2, 3, 0] rfl)
        · have hf := ifn hf c20
          refine lv_iconst (v := 0) X.1 X.2.1 dL_law_236 (by decide) ?_
          exact absurd (Option.some.inj hf) (by decide)
      have hf := ifn hf w11
      by_cases w22 : ((xs (Int32.toNatClampNeg v3_1)) &&& 31) = 2
      · have hf := ifp hf w22
        refine lv_tableIn (tgt := 238) X.1 X.2.1 dL_law_33 (by rw [w22]; decide) (by rw [w22]; decide) (off := 205) (by rw [w22]; decide) (by decide) ?_
        refine lv_aload_n X.1 X.2.1 dL_law_238 rfl (lv_at hl 1 rfl) ?_
        refine lv_aload_n X.1 X.2.1 dL_law_239 rfl (lv_at hl 0 rfl) ?_
        refine lv_iload_n X.1 X.2.1 dL_law_240 rfl (lv_at hl 3 rfl) ?_
        refine lv_iconst (v := 1) X.1 X.2.1 dL_law_241 (by decide) ?_
        refine lv_iadd X.1 X.2.1 dL_law_242 ?_
        obtain ⟨hi23, hf⟩ := gin_of hf
        refine va_sld X.1 X.2.1 hX hbl hbA hS hi23 dL_law_243 ?_
        refine lv_aload_n X.1 X.2.1 dL_law_244 rfl (lv_at hl 0 rfl) ?_
        refine lv_iload_n X.1 X.2.1 dL_law_245 rfl (lv_at hl 3 rfl) ?_
        refine lv_iconst (v := 2) X.1 X.2.1 dL_law_246 (by decide) ?_
        refine lv_iadd X.1 X.2.1 dL_law_247 ?_
        obtain ⟨hi24, hf⟩ := gin_of hf
        refine va_sld X.1 X.2.1 hX hbl hbA hS hi24 dL_law_248 ?_
        obtain ⟨r25, hr25, hf⟩ := bd_of hf
        refine xl_rdVi ⟨by decide, by decide⟩ X hP hS hG_x (by omega) rfl (n := 2) (As := [.int (xs (Int32.toNatClampNeg (v3_1 + 1))), .int (xs (Int32.toNatClampNeg (v3_1 + 2)))]) (ct_X5_of hG_x hG_n hr25) gL_law_X5_of rfl (by decide +kernel) ⟨by decide, by decide⟩ rfl hl.1 rfl (Nat.le_of_ble_eq_true rfl) dL_law_249 (fun H locs hP hS => ?_)
        refine lv_aload_n X.1 X.2.1 dL_law_252 rfl (lv_at hl 2 rfl) ?_
        refine lv_aload_n X.1 X.2.1 dL_law_253 rfl (lv_at hl 0 rfl) ?_
        refine lv_iload_n X.1 X.2.1 dL_law_254 rfl (lv_at hl 3 rfl) ?_
        refine lv_iconst (v := 1) X.1 X.2.1 dL_law_255 (by decide) ?_
        refine lv_iadd X.1 X.2.1 dL_law_256 ?_
        obtain ⟨hi26, hf⟩ := gin_of hf
        refine va_sld X.1 X.2.1 hX hbl hbA hS hi26 dL_law_257 ?_
        refine lv_aload_n X.1 X.2.1 dL_law_258 rfl (lv_at hl 0 rfl) ?_
        refine lv_iload_n X.1 X.2.1 dL_law_259 rfl (lv_at hl 3 rfl) ?_
        refine lv_iconst (v := 2) X.1 X.2.1 dL_law_260 (by decide) ?_
        refine lv_iadd X.1 X.2.1 dL_law_261 ?_
        obtain ⟨hi27, hf⟩ := gin_of hf
        refine va_sld X.1 X.2.1 hX hbl hbA hS hi27 dL_law_262 ?_
        obtain ⟨r28, hr28, hf⟩ := bd_of hf
        refine xl_rdVi ⟨by decide, by decide⟩ X hP hS hG_M.1 (by omega) rfl (n := 2) (As := [.int (xs (Int32.toNatClampNeg (v3_1 + 1))), .int (xs (Int32.toNatClampNeg (v3_1 + 2)))]) (ct_X6_of hG_M hr28) gL_law_X6_of rfl (by decide +kernel) ⟨by decide, by decide⟩ rfl hl.1 rfl (Nat.le_of_ble_eq_true rfl) dL_law_263 (fun H locs hP hS => ?_)
        refine lv_icmp_eq (tgt := 1169) X.1 X.2.1 dL_law_266 (by decide) (fun c29 => ?_) (fun c29 => ?_)
        · have hf := ifp hf c29
          obtain ⟨x30, ex30, hf⟩ := nm_of hf
          refine lv_iinc (v := x30) (lv' := [(3, .int x30), (0, .ref b), (1, .ref (qa 0)), (2, .ref (qa 64))]) X.1 X.2.1 dL_law_1169 hl (k := 3) rfl (by rw [ex30]; rfl) (by decide) rfl (fun ls hl => ?_)
          refine lv_goto (tgt := 18) X.1 X.2.1 dL_law_1172 (by decide) ?_
          exact ih1 x30 img_x_1 men_n_1 md_n_1 day_n_1 drw_n_1 bu_n_1 st_n_1 ki_n_1 we_n_1 wo_n_1 wr_n_1 kn_p_1 nx_p_1 ke_p_1 men_a_1 md_a_1 day_a_1 drw_a_1 bu_a_1 st_a_1 ki_a_1 we_a_1 wo_a_1 wr_a_1 kn_q_1 nx_q_1 ke_q_1 men_t_1 md_t_1 day_t_1 drw_t_1 bu_t_1 st_t_1 ki_t_1 we_t_1 wo_t_1 wr_t_1 ln_T_1 plc_T_1 ltr_T_1 worn_h_1 few_h_1 bc_h_1 ld_h_1 so_h_1 tr_h_1 be_h_1 wy_h_1 th_r_1 lan_r_1 siz_r_1 itm_r_1 ltr_M_1 pos_M_1 num_M_1 isk_M_1 bm_M_1 bch_M_1 lan_M_1 siz_M_1 itm_M_1 tap_M_1 now_M_1 tri_M_1 rd_M_1 kp_M_1 bes_M_1 _ _ _ _ hf hP hS hG_x hG_n hG_p hG_a hG_q hG_t hG_T hG_h hG_r hG_M (lv_sub hl [1, 2, 3, 0] rfl)
        · have hf := ifn hf c29
          refine lv_iconst (v := 0) X.1 X.2.1 dL_law_269 (by decide) ?_
          exact absurd (Option.some.inj hf) (by decide)
      have hf := ifn hf w22
      by_cases w31 : ((xs (Int32.toNatClampNeg v3_1)) &&& 31) = 3
      · have hf := ifp hf w31
        refine lv_tableIn (tgt := 271) X.1 X.2.1 dL_law_33 (by rw [w31]; decide) (by rw [w31]; decide) (off := 238) (by rw [w31]; decide) (by decide) ?_
        refine lv_aload_n X.1 X.2.1 dL_law_271 rfl (lv_at hl 1 rfl) ?_
        refine lv_aload_n X.1 X.2.1 dL_law_272 rfl (lv_at hl 0 rfl) ?_
        refine lv_iload_n X.1 X.2.1 dL_law_273 rfl (lv_at hl 3 rfl) ?_
        refine lv_iconst (v := 1) X.1 X.2.1 dL_law_274 (by decide) ?_
        refine lv_iadd X.1 X.2.1 dL_law_275 ?_
        obtain ⟨hi32, hf⟩ := gin_of hf
        refine va_sld X.1 X.2.1 hX hbl hbA hS hi32 dL_law_276 ?_
        refine lv_aload_n X.1 X.2.1 dL_law_277 rfl (lv_at hl 0 rfl) ?_
        refine lv_iload_n X.1 X.2.1 dL_law_278 rfl (lv_at hl 3 rfl) ?_
        refine lv_iconst (v := 2) X.1 X.2.1 dL_law_279 (by decide) ?_
        refine lv_iadd X.1 X.2.1 dL_law_280 ?_
        obtain ⟨hi33, hf⟩ := gin_of hf
        refine va_sld X.1 X.2.1 hX hbl hbA hS hi33 dL_law_281 ?_
        obtain ⟨r34, hr34, hf⟩ := bd_of hf
        refine xl_rdVi ⟨by decide, by decide⟩ X hP hS hG_x (by omega) rfl (n := 2) (As := [.int (xs (Int32.toNatClampNeg (v3_1 + 1))), .int (xs (Int32.toNatClampNeg (v3_1 + 2)))]) (ct_X5_at hG_x hG_n hr34) gL_law_X5_at rfl (by decide +kernel) ⟨by decide, by decide⟩ rfl hl.1 rfl (Nat.le_of_ble_eq_true rfl) dL_law_282 (fun H locs hP hS => ?_)
        refine lv_aload_n X.1 X.2.1 dL_law_285 rfl (lv_at hl 2 rfl) ?_
        refine lv_aload_n X.1 X.2.1 dL_law_286 rfl (lv_at hl 0 rfl) ?_
        refine lv_iload_n X.1 X.2.1 dL_law_287 rfl (lv_at hl 3 rfl) ?_
        refine lv_iconst (v := 1) X.1 X.2.1 dL_law_288 (by decide) ?_
        refine lv_iadd X.1 X.2.1 dL_law_289 ?_
        obtain ⟨hi35, hf⟩ := gin_of hf
        refine va_sld X.1 X.2.1 hX hbl hbA hS hi35 dL_law_290 ?_
        refine lv_aload_n X.1 X.2.1 dL_law_291 rfl (lv_at hl 0 rfl) ?_
        refine lv_iload_n X.1 X.2.1 dL_law_292 rfl (lv_at hl 3 rfl) ?_
        refine lv_iconst (v := 2) X.1 X.2.1 dL_law_293 (by decide) ?_
        refine lv_iadd X.1 X.2.1 dL_law_294 ?_
        obtain ⟨hi36, hf⟩ := gin_of hf
        refine va_sld X.1 X.2.1 hX hbl hbA hS hi36 dL_law_295 ?_
        obtain ⟨r37, hr37, hf⟩ := bd_of hf
        refine xl_rdVi ⟨by decide, by decide⟩ X hP hS hG_M.1 (by omega) rfl (n := 2) (As := [.int (xs (Int32.toNatClampNeg (v3_1 + 1))), .int (xs (Int32.toNatClampNeg (v3_1 + 2)))]) (ct_X6_at hG_M hr37) gL_law_X6_at rfl (by decide +kernel) ⟨by decide, by decide⟩ rfl hl.1 rfl (Nat.le_of_ble_eq_true rfl) dL_law_296 (fun H locs hP hS => ?_)
        refine lv_icmp_eq (tgt := 1169) X.1 X.2.1 dL_law_299 (by decide) (fun c38 => ?_) (fun c38 => ?_)
        · have hf := ifp hf c38
          obtain ⟨x39, ex39, hf⟩ := nm_of hf
          refine lv_iinc (v := x39) (lv' := [(3, .int x39), (0, .ref b), (1, .ref (qa 0)), (2, .ref (qa 64))]) X.1 X.2.1 dL_law_1169 hl (k := 3) rfl (by rw [ex39]; rfl) (by decide) rfl (fun ls hl => ?_)
          refine lv_goto (tgt := 18) X.1 X.2.1 dL_law_1172 (by decide) ?_
          exact ih1 x39 img_x_1 men_n_1 md_n_1 day_n_1 drw_n_1 bu_n_1 st_n_1 ki_n_1 we_n_1 wo_n_1 wr_n_1 kn_p_1 nx_p_1 ke_p_1 men_a_1 md_a_1 day_a_1 drw_a_1 bu_a_1 st_a_1 ki_a_1 we_a_1 wo_a_1 wr_a_1 kn_q_1 nx_q_1 ke_q_1 men_t_1 md_t_1 day_t_1 drw_t_1 bu_t_1 st_t_1 ki_t_1 we_t_1 wo_t_1 wr_t_1 ln_T_1 plc_T_1 ltr_T_1 worn_h_1 few_h_1 bc_h_1 ld_h_1 so_h_1 tr_h_1 be_h_1 wy_h_1 th_r_1 lan_r_1 siz_r_1 itm_r_1 ltr_M_1 pos_M_1 num_M_1 isk_M_1 bm_M_1 bch_M_1 lan_M_1 siz_M_1 itm_M_1 tap_M_1 now_M_1 tri_M_1 rd_M_1 kp_M_1 bes_M_1 _ _ _ _ hf hP hS hG_x hG_n hG_p hG_a hG_q hG_t hG_T hG_h hG_r hG_M (lv_sub hl [1, 2, 3, 0] rfl)
        · have hf := ifn hf c38
          refine lv_iconst (v := 0) X.1 X.2.1 dL_law_302 (by decide) ?_
          exact absurd (Option.some.inj hf) (by decide)
      have hf := ifn hf w31
      by_cases w40 : ((xs (Int32.toNatClampNeg v3_1)) &&& 31) = 4
      · have hf := ifp hf w40
        refine lv_tableIn (tgt := 304) X.1 X.2.1 dL_law_33 (by rw [w40]; decide) (by rw [w40]; decide) (off := 271) (by rw [w40]; decide) (by decide) ?_
        refine lv_aload_n X.1 X.2.1 dL_law_304 rfl (lv_at hl 1 rfl) ?_
        refine lv_aload_n X.1 X.2.1 dL_law_305 rfl (lv_at hl 0 rfl) ?_
        refine lv_iload_n X.1 X.2.1 dL_law_306 rfl (lv_at hl 3 rfl) ?_
        refine lv_iconst (v := 1) X.1 X.2.1 dL_law_307 (by decide) ?_
        refine lv_iadd X.1 X.2.1 dL_law_308 ?_
        obtain ⟨hi41, hf⟩ := gin_of hf
        refine va_sld X.1 X.2.1 hX hbl hbA hS hi41 dL_law_309 ?_
        obtain ⟨r42, hr42, hf⟩ := bd_of hf
        refine xl_callVi ⟨by decide, by decide⟩ X hP hS hG_x (by omega) rfl (n := 1) (As := [.int (xs (Int32.toNatClampNeg (v3_1 + 1)))]) (ct_X5_type hG_x hG_T hr42) gL_law_X5_type rfl (by decide +kernel) ⟨by decide, by decide⟩ rfl hl.1 rfl (Nat.le_of_ble_eq_true rfl) dL_law_310 (fun E H locs hp hP hS => ?_)
        obtain ⟨hW_T, hk⟩ := hp
        have hG_T := hW_T
        have hG_x := Xo_kept hG_x (fun j h8 h9 => hk j (by omega))
        have hG_n := Mu_kept hG_n (fun j h8 h9 => hk j (by omega))
        have hG_p := Pa_kept hG_p (fun j h8 h9 => hk j (by omega))
        have hG_a := Mu_kept hG_a (fun j h8 h9 => hk j (by omega))
        have hG_q := Pa_kept hG_q (fun j h8 h9 => hk j (by omega))
        have hG_t := Mu_kept hG_t (fun j h8 h9 => hk j (by omega))
        have hG_h := Ha_kept hG_h (fun j h8 h9 => hk j (by omega))
        have hG_r := Rs_kept hG_r (fun j h8 h9 => hk j (by omega))
        have hG_M := Mo_kept hG_M (fun j h8 h9 => hk j (by omega))
        refine lv_aload_n X.1 X.2.1 dL_law_313 rfl (lv_at hl 2 rfl) ?_
        refine lv_aload_n X.1 X.2.1 dL_law_314 rfl (lv_at hl 0 rfl) ?_
        refine lv_iload_n X.1 X.2.1 dL_law_315 rfl (lv_at hl 3 rfl) ?_
        refine lv_iconst (v := 1) X.1 X.2.1 dL_law_316 (by decide) ?_
        refine lv_iadd X.1 X.2.1 dL_law_317 ?_
        obtain ⟨hi43, hf⟩ := gin_of hf
        refine va_sld X.1 X.2.1 hX hbl hbA hS hi43 dL_law_318 ?_
        obtain ⟨r44, hr44, hf⟩ := bd_of hf
        refine xl_callVi ⟨by decide, by decide⟩ X hP hS hG_M.1 (by omega) rfl (n := 1) (As := [.int (xs (Int32.toNatClampNeg (v3_1 + 1)))]) (ct_X6_type hG_M hr44) gL_law_X6_type rfl (by decide +kernel) ⟨by decide, by decide⟩ rfl hl.1 rfl (Nat.le_of_ble_eq_true rfl) dL_law_319 (fun E H locs hp hP hS => ?_)
        obtain ⟨hW_M, hk⟩ := hp
        have hG_M := hW_M
        have hG_x := Xo_kept hG_x (fun j h8 h9 => hk j (by omega))
        have hG_n := Mu_kept hG_n (fun j h8 h9 => hk j (by omega))
        have hG_p := Pa_kept hG_p (fun j h8 h9 => hk j (by omega))
        have hG_a := Mu_kept hG_a (fun j h8 h9 => hk j (by omega))
        have hG_q := Pa_kept hG_q (fun j h8 h9 => hk j (by omega))
        have hG_t := Mu_kept hG_t (fun j h8 h9 => hk j (by omega))
        have hG_T := Ta_kept hG_T (fun j h8 h9 => hk j (by omega))
        have hG_h := Ha_kept hG_h (fun j h8 h9 => hk j (by omega))
        have hG_r := Rs_kept hG_r (fun j h8 h9 => hk j (by omega))
        refine lv_icmp_eq (tgt := 1169) X.1 X.2.1 dL_law_322 (by decide) (fun c45 => ?_) (fun c45 => ?_)
        · have hf := ifp hf c45
          obtain ⟨x46, ex46, hf⟩ := nm_of hf
          refine lv_iinc (v := x46) (lv' := [(3, .int x46), (0, .ref b), (1, .ref (qa 0)), (2, .ref (qa 64))]) X.1 X.2.1 dL_law_1169 hl (k := 3) rfl (by rw [ex46]; rfl) (by decide) rfl (fun ls hl => ?_)
          refine lv_goto (tgt := 18) X.1 X.2.1 dL_law_1172 (by decide) ?_
          exact ih1 x46 img_x_1 men_n_1 md_n_1 day_n_1 drw_n_1 bu_n_1 st_n_1 ki_n_1 we_n_1 wo_n_1 wr_n_1 kn_p_1 nx_p_1 ke_p_1 men_a_1 md_a_1 day_a_1 drw_a_1 bu_a_1 st_a_1 ki_a_1 we_a_1 wo_a_1 wr_a_1 kn_q_1 nx_q_1 ke_q_1 men_t_1 md_t_1 day_t_1 drw_t_1 bu_t_1 st_t_1 ki_t_1 we_t_1 wo_t_1 wr_t_1 r42.2.1 plc_T_1 r42.2.2 worn_h_1 few_h_1 bc_h_1 ld_h_1 so_h_1 tr_h_1 be_h_1 wy_h_1 th_r_1 lan_r_1 siz_r_1 itm_r_1 r44.2.1 pos_M_1 num_M_1 isk_M_1 bm_M_1 bch_M_1 lan_M_1 siz_M_1 itm_M_1 r44.2.2 now_M_1 tri_M_1 rd_M_1 kp_M_1 bes_M_1 _ _ _ _ hf hP hS hG_x hG_n hG_p hG_a hG_q hG_t hG_T hG_h hG_r hG_M (lv_sub hl [1, 2, 3, 0] rfl)
        · have hf := ifn hf c45
          refine lv_iconst (v := 0) X.1 X.2.1 dL_law_325 (by decide) ?_
          exact absurd (Option.some.inj hf) (by decide)
      have hf := ifn hf w40
      by_cases w47 : ((xs (Int32.toNatClampNeg v3_1)) &&& 31) = 5
      · have hf := ifp hf w47
        refine lv_tableIn (tgt := 327) X.1 X.2.1 dL_law_33 (by rw [w47]; decide) (by rw [w47]; decide) (off := 294) (by rw [w47]; decide) (by decide) ?_
        refine lv_aload_n X.1 X.2.1 dL_law_327 rfl (lv_at hl 1 rfl) ?_
        obtain ⟨r48, hr48, hf⟩ := bd_of hf
        refine xl_callVi ⟨by decide, by decide⟩ X hP hS hG_x (by omega) rfl (n := 0) (As := []) (ct_X5_state hG_x hG_n hG_p hG_t hG_T hr48) gL_law_X5_state rfl (by decide +kernel) ⟨by decide, by decide⟩ rfl hl.1 rfl (Nat.le_of_ble_eq_true rfl) dL_law_328 (fun E H locs hp hP hS => ?_)
        obtain ⟨hW_n, hW_p, hW_t, hW_T, hk⟩ := hp
        have hG_n := hW_n
        have hG_p := hW_p
        have hG_t := hW_t
        have hG_T := hW_T
        have hG_x := Xo_kept hG_x (fun j h8 h9 => hk j (by omega) (by omega) (by omega) (by omega))
        have hG_a := Mu_kept hG_a (fun j h8 h9 => hk j (by omega) (by omega) (by omega) (by omega))
        have hG_q := Pa_kept hG_q (fun j h8 h9 => hk j (by omega) (by omega) (by omega) (by omega))
        have hG_h := Ha_kept hG_h (fun j h8 h9 => hk j (by omega) (by omega) (by omega) (by omega))
        have hG_r := Rs_kept hG_r (fun j h8 h9 => hk j (by omega) (by omega) (by omega) (by omega))
        have hG_M := Mo_kept hG_M (fun j h8 h9 => hk j (by omega) (by omega) (by omega) (by omega))
        refine lv_aload_n X.1 X.2.1 dL_law_331 rfl (lv_at hl 2 rfl) ?_
        obtain ⟨r49, hr49, hf⟩ := bd_of hf
        refine xl_callVi ⟨by decide, by decide⟩ X hP hS hG_M.1 (by omega) rfl (n := 0) (As := []) (ct_X6_state hG_M hr49) gL_law_X6_state rfl (by decide +kernel) ⟨by decide, by decide⟩ rfl hl.1 rfl (Nat.le_of_ble_eq_true rfl) dL_law_332 (fun E H locs hp hP hS => ?_)
        obtain ⟨hW_M, hk⟩ := hp
        have hG_M := hW_M
        have hG_x := Xo_kept hG_x (fun j h8 h9 => hk j (by omega))
        have hG_n := Mu_kept hG_n (fun j h8 h9 => hk j (by omega))
        have hG_p := Pa_kept hG_p (fun j h8 h9 => hk j (by omega))
        have hG_a := Mu_kept hG_a (fun j h8 h9 => hk j (by omega))
        have hG_q := Pa_kept hG_q (fun j h8 h9 => hk j (by omega))
        have hG_t := Mu_kept hG_t (fun j h8 h9 => hk j (by omega))
        have hG_T := Ta_kept hG_T (fun j h8 h9 => hk j (by omega))
        have hG_h := Ha_kept hG_h (fun j h8 h9 => hk j (by omega))
        have hG_r := Rs_kept hG_r (fun j h8 h9 => hk j (by omega))
        refine lv_icmp_eq (tgt := 1169) X.1 X.2.1 dL_law_335 (by decide) (fun c50 => ?_) (fun c50 => ?_)
        · have hf := ifp hf c50
          obtain ⟨x51, ex51, hf⟩ := nm_of hf
          refine lv_iinc (v := x51) (lv' := [(3, .int x51), (0, .ref b), (1, .ref (qa 0)), (2, .ref (qa 64))]) X.1 X.2.1 dL_law_1169 hl (k := 3) rfl (by rw [ex51]; rfl) (by decide) rfl (fun ls hl => ?_)
          refine lv_goto (tgt := 18) X.1 X.2.1 dL_law_1172 (by decide) ?_
          exact ih1 x51 img_x_1 r48.2.1 r48.2.2.1 r48.2.2.2.1 r48.2.2.2.2.1 r48.2.2.2.2.2.1 r48.2.2.2.2.2.2.1 r48.2.2.2.2.2.2.2.1 r48.2.2.2.2.2.2.2.2.1 r48.2.2.2.2.2.2.2.2.2.1 r48.2.2.2.2.2.2.2.2.2.2.1 r48.2.2.2.2.2.2.2.2.2.2.2.1 nx_p_1 ke_p_1 men_a_1 md_a_1 day_a_1 drw_a_1 bu_a_1 st_a_1 ki_a_1 we_a_1 wo_a_1 wr_a_1 kn_q_1 nx_q_1 ke_q_1 r48.2.2.2.2.2.2.2.2.2.2.2.2.1 r48.2.2.2.2.2.2.2.2.2.2.2.2.2.1 r48.2.2.2.2.2.2.2.2.2.2.2.2.2.2.1 r48.2.2.2.2.2.2.2.2.2.2.2.2.2.2.2.1 r48.2.2.2.2.2.2.2.2.2.2.2.2.2.2.2.2.1 r48.2.2.2.2.2.2.2.2.2.2.2.2.2.2.2.2.2.1 r48.2.2.2.2.2.2.2.2.2.2.2.2.2.2.2.2.2.2.1 r48.2.2.2.2.2.2.2.2.2.2.2.2.2.2.2.2.2.2.2.1 r48.2.2.2.2.2.2.2.2.2.2.2.2.2.2.2.2.2.2.2.2.1 r48.2.2.2.2.2.2.2.2.2.2.2.2.2.2.2.2.2.2.2.2.2.1 r48.2.2.2.2.2.2.2.2.2.2.2.2.2.2.2.2.2.2.2.2.2.2.1 r48.2.2.2.2.2.2.2.2.2.2.2.2.2.2.2.2.2.2.2.2.2.2.2 ltr_T_1 worn_h_1 few_h_1 bc_h_1 ld_h_1 so_h_1 tr_h_1 be_h_1 wy_h_1 th_r_1 lan_r_1 siz_r_1 itm_r_1 r49.2.1 r49.2.2.1 r49.2.2.2.1 isk_M_1 bm_M_1 bch_M_1 lan_M_1 siz_M_1 itm_M_1 tap_M_1 r49.2.2.2.2.1 tri_M_1 r49.2.2.2.2.2 kp_M_1 bes_M_1 _ _ _ _ hf hP hS hG_x hG_n hG_p hG_a hG_q hG_t hG_T hG_h hG_r hG_M (lv_sub hl [1, 2, 3, 0] rfl)
        · have hf := ifn hf c50
          refine lv_iconst (v := 0) X.1 X.2.1 dL_law_338 (by decide) ?_
          exact absurd (Option.some.inj hf) (by decide)
      have hf := ifn hf w47
      by_cases w52 : ((xs (Int32.toNatClampNeg v3_1)) &&& 31) = 6
      · have hf := ifp hf w52
        refine lv_tableIn (tgt := 340) X.1 X.2.1 dL_law_33 (by rw [w52]; decide) (by rw [w52]; decide) (off := 307) (by rw [w52]; decide) (by decide) ?_
        refine lv_aload_n X.1 X.2.1 dL_law_340 rfl (lv_at hl 1 rfl) ?_
        refine lv_aload_n X.1 X.2.1 dL_law_341 rfl (lv_at hl 0 rfl) ?_
        refine lv_iload_n X.1 X.2.1 dL_law_342 rfl (lv_at hl 3 rfl) ?_
        refine lv_iconst (v := 1) X.1 X.2.1 dL_law_343 (by decide) ?_
        refine lv_iadd X.1 X.2.1 dL_law_344 ?_
        obtain ⟨hi53, hf⟩ := gin_of hf
        refine va_sld X.1 X.2.1 hX hbl hbA hS hi53 dL_law_345 ?_
        obtain ⟨r54, hr54, hf⟩ := bd_of hf
        refine xl_rdVi ⟨by decide, by decide⟩ X hP hS hG_x (by omega) rfl (n := 1) (As := [.int (xs (Int32.toNatClampNeg (v3_1 + 1)))]) (ct_X5_count hG_x hG_n hG_p hr54) gL_law_X5_count rfl (by decide +kernel) ⟨by decide, by decide⟩ rfl hl.1 rfl (Nat.le_of_ble_eq_true rfl) dL_law_346 (fun H locs hP hS => ?_)
        refine lv_aload_n X.1 X.2.1 dL_law_349 rfl (lv_at hl 2 rfl) ?_
        refine lv_aload_n X.1 X.2.1 dL_law_350 rfl (lv_at hl 0 rfl) ?_
        refine lv_iload_n X.1 X.2.1 dL_law_351 rfl (lv_at hl 3 rfl) ?_
        refine lv_iconst (v := 1) X.1 X.2.1 dL_law_352 (by decide) ?_
        refine lv_iadd X.1 X.2.1 dL_law_353 ?_
        obtain ⟨hi55, hf⟩ := gin_of hf
        refine va_sld X.1 X.2.1 hX hbl hbA hS hi55 dL_law_354 ?_
        obtain ⟨r56, hr56, hf⟩ := bd_of hf
        refine xl_rdVi ⟨by decide, by decide⟩ X hP hS hG_M.1 (by omega) rfl (n := 1) (As := [.int (xs (Int32.toNatClampNeg (v3_1 + 1)))]) (ct_X6_count hG_M hr56) gL_law_X6_count rfl (by decide +kernel) ⟨by decide, by decide⟩ rfl hl.1 rfl (Nat.le_of_ble_eq_true rfl) dL_law_355 (fun H locs hP hS => ?_)
        refine lv_icmp_eq (tgt := 1169) X.1 X.2.1 dL_law_358 (by decide) (fun c57 => ?_) (fun c57 => ?_)
        · have hf := ifp hf c57
          obtain ⟨x58, ex58, hf⟩ := nm_of hf
          refine lv_iinc (v := x58) (lv' := [(3, .int x58), (0, .ref b), (1, .ref (qa 0)), (2, .ref (qa 64))]) X.1 X.2.1 dL_law_1169 hl (k := 3) rfl (by rw [ex58]; rfl) (by decide) rfl (fun ls hl => ?_)
          refine lv_goto (tgt := 18) X.1 X.2.1 dL_law_1172 (by decide) ?_
          exact ih1 x58 img_x_1 men_n_1 md_n_1 day_n_1 drw_n_1 bu_n_1 st_n_1 ki_n_1 we_n_1 wo_n_1 wr_n_1 kn_p_1 nx_p_1 ke_p_1 men_a_1 md_a_1 day_a_1 drw_a_1 bu_a_1 st_a_1 ki_a_1 we_a_1 wo_a_1 wr_a_1 kn_q_1 nx_q_1 ke_q_1 men_t_1 md_t_1 day_t_1 drw_t_1 bu_t_1 st_t_1 ki_t_1 we_t_1 wo_t_1 wr_t_1 ln_T_1 plc_T_1 ltr_T_1 worn_h_1 few_h_1 bc_h_1 ld_h_1 so_h_1 tr_h_1 be_h_1 wy_h_1 th_r_1 lan_r_1 siz_r_1 itm_r_1 ltr_M_1 pos_M_1 num_M_1 isk_M_1 bm_M_1 bch_M_1 lan_M_1 siz_M_1 itm_M_1 tap_M_1 now_M_1 tri_M_1 rd_M_1 kp_M_1 bes_M_1 _ _ _ _ hf hP hS hG_x hG_n hG_p hG_a hG_q hG_t hG_T hG_h hG_r hG_M (lv_sub hl [1, 2, 3, 0] rfl)
        · have hf := ifn hf c57
          refine lv_iconst (v := 0) X.1 X.2.1 dL_law_361 (by decide) ?_
          exact absurd (Option.some.inj hf) (by decide)
      have hf := ifn hf w52
      by_cases w59 : ((xs (Int32.toNatClampNeg v3_1)) &&& 31) = 7
      · have hf := ifp hf w59
        refine lv_tableIn (tgt := 363) X.1 X.2.1 dL_law_33 (by rw [w59]; decide) (by rw [w59]; decide) (off := 330) (by rw [w59]; decide) (by decide) ?_
        refine lv_aload_n X.1 X.2.1 dL_law_363 rfl (lv_at hl 1 rfl) ?_
        refine lv_aload_n X.1 X.2.1 dL_law_364 rfl (lv_at hl 0 rfl) ?_
        refine lv_iload_n X.1 X.2.1 dL_law_365 rfl (lv_at hl 3 rfl) ?_
        refine lv_iconst (v := 1) X.1 X.2.1 dL_law_366 (by decide) ?_
        refine lv_iadd X.1 X.2.1 dL_law_367 ?_
        obtain ⟨hi60, hf⟩ := gin_of hf
        refine va_sld X.1 X.2.1 hX hbl hbA hS hi60 dL_law_368 ?_
        obtain ⟨r61, hr61, hf⟩ := bd_of hf
        refine xl_callVi ⟨by decide, by decide⟩ X hP hS hG_x (by omega) rfl (n := 1) (As := [.int (xs (Int32.toNatClampNeg (v3_1 + 1)))]) (ct_X5_days hG_x hG_n hG_p hr61) gL_law_X5_days rfl (by decide +kernel) ⟨by decide, by decide⟩ rfl hl.1 rfl (Nat.le_of_ble_eq_true rfl) dL_law_369 (fun E H locs hp hP hS => ?_)
        obtain ⟨hW_n, hW_p, hk⟩ := hp
        have hG_n := hW_n
        have hG_p := hW_p
        have hG_x := Xo_kept hG_x (fun j h8 h9 => hk j (by omega) (by omega))
        have hG_a := Mu_kept hG_a (fun j h8 h9 => hk j (by omega) (by omega))
        have hG_q := Pa_kept hG_q (fun j h8 h9 => hk j (by omega) (by omega))
        have hG_t := Mu_kept hG_t (fun j h8 h9 => hk j (by omega) (by omega))
        have hG_T := Ta_kept hG_T (fun j h8 h9 => hk j (by omega) (by omega))
        have hG_h := Ha_kept hG_h (fun j h8 h9 => hk j (by omega) (by omega))
        have hG_r := Rs_kept hG_r (fun j h8 h9 => hk j (by omega) (by omega))
        have hG_M := Mo_kept hG_M (fun j h8 h9 => hk j (by omega) (by omega))
        refine lv_aload_n X.1 X.2.1 dL_law_372 rfl (lv_at hl 2 rfl) ?_
        refine lv_aload_n X.1 X.2.1 dL_law_373 rfl (lv_at hl 0 rfl) ?_
        refine lv_iload_n X.1 X.2.1 dL_law_374 rfl (lv_at hl 3 rfl) ?_
        refine lv_iconst (v := 1) X.1 X.2.1 dL_law_375 (by decide) ?_
        refine lv_iadd X.1 X.2.1 dL_law_376 ?_
        obtain ⟨hi62, hf⟩ := gin_of hf
        refine va_sld X.1 X.2.1 hX hbl hbA hS hi62 dL_law_377 ?_
        obtain ⟨r63, hr63, hf⟩ := bd_of hf
        refine xl_callVi ⟨by decide, by decide⟩ X hP hS hG_M.1 (by omega) rfl (n := 1) (As := [.int (xs (Int32.toNatClampNeg (v3_1 + 1)))]) (ct_X6_days hG_M hr63) gL_law_X6_days rfl (by decide +kernel) ⟨by decide, by decide⟩ rfl hl.1 rfl (Nat.le_of_ble_eq_true rfl) dL_law_378 (fun E H locs hp hP hS => ?_)
        obtain ⟨hW_M, hk⟩ := hp
        have hG_M := hW_M
        have hG_x := Xo_kept hG_x (fun j h8 h9 => hk j (by omega))
        have hG_n := Mu_kept hG_n (fun j h8 h9 => hk j (by omega))
        have hG_p := Pa_kept hG_p (fun j h8 h9 => hk j (by omega))
        have hG_a := Mu_kept hG_a (fun j h8 h9 => hk j (by omega))
        have hG_q := Pa_kept hG_q (fun j h8 h9 => hk j (by omega))
        have hG_t := Mu_kept hG_t (fun j h8 h9 => hk j (by omega))
        have hG_T := Ta_kept hG_T (fun j h8 h9 => hk j (by omega))
        have hG_h := Ha_kept hG_h (fun j h8 h9 => hk j (by omega))
        have hG_r := Rs_kept hG_r (fun j h8 h9 => hk j (by omega))
        refine lv_icmp_eq (tgt := 1169) X.1 X.2.1 dL_law_381 (by decide) (fun c64 => ?_) (fun c64 => ?_)
        · have hf := ifp hf c64
          obtain ⟨x65, ex65, hf⟩ := nm_of hf
          refine lv_iinc (v := x65) (lv' := [(3, .int x65), (0, .ref b), (1, .ref (qa 0)), (2, .ref (qa 64))]) X.1 X.2.1 dL_law_1169 hl (k := 3) rfl (by rw [ex65]; rfl) (by decide) rfl (fun ls hl => ?_)
          refine lv_goto (tgt := 18) X.1 X.2.1 dL_law_1172 (by decide) ?_
          exact ih1 x65 img_x_1 men_n_1 md_n_1 r61.2.1 r61.2.2.1 bu_n_1 r61.2.2.2.1 ki_n_1 we_n_1 wo_n_1 r61.2.2.2.2.1 r61.2.2.2.2.2.1 r61.2.2.2.2.2.2.1 r61.2.2.2.2.2.2.2 men_a_1 md_a_1 day_a_1 drw_a_1 bu_a_1 st_a_1 ki_a_1 we_a_1 wo_a_1 wr_a_1 kn_q_1 nx_q_1 ke_q_1 men_t_1 md_t_1 day_t_1 drw_t_1 bu_t_1 st_t_1 ki_t_1 we_t_1 wo_t_1 wr_t_1 ln_T_1 plc_T_1 ltr_T_1 worn_h_1 few_h_1 bc_h_1 ld_h_1 so_h_1 tr_h_1 be_h_1 wy_h_1 th_r_1 lan_r_1 siz_r_1 itm_r_1 ltr_M_1 pos_M_1 num_M_1 isk_M_1 bm_M_1 bch_M_1 lan_M_1 siz_M_1 itm_M_1 tap_M_1 r63.2 tri_M_1 rd_M_1 kp_M_1 bes_M_1 _ _ _ _ hf hP hS hG_x hG_n hG_p hG_a hG_q hG_t hG_T hG_h hG_r hG_M (lv_sub hl [1, 2, 3, 0] rfl)
        · have hf := ifn hf c64
          refine lv_iconst (v := 0) X.1 X.2.1 dL_law_384 (by decide) ?_
          exact absurd (Option.some.inj hf) (by decide)
      have hf := ifn hf w59
      by_cases w66 : ((xs (Int32.toNatClampNeg v3_1)) &&& 31) = 8
      · have hf := ifp hf w66
        refine lv_tableIn (tgt := 386) X.1 X.2.1 dL_law_33 (by rw [w66]; decide) (by rw [w66]; decide) (off := 353) (by rw [w66]; decide) (by decide) ?_
        refine lv_aload_n X.1 X.2.1 dL_law_386 rfl (lv_at hl 1 rfl) ?_
        refine lv_aload_n X.1 X.2.1 dL_law_387 rfl (lv_at hl 0 rfl) ?_
        refine lv_iload_n X.1 X.2.1 dL_law_388 rfl (lv_at hl 3 rfl) ?_
        refine lv_iconst (v := 1) X.1 X.2.1 dL_law_389 (by decide) ?_
        refine lv_iadd X.1 X.2.1 dL_law_390 ?_
        obtain ⟨hi67, hf⟩ := gin_of hf
        refine va_sld X.1 X.2.1 hX hbl hbA hS hi67 dL_law_391 ?_
        refine lv_aload_n X.1 X.2.1 dL_law_392 rfl (lv_at hl 0 rfl) ?_
        refine lv_iload_n X.1 X.2.1 dL_law_393 rfl (lv_at hl 3 rfl) ?_
        refine lv_iconst (v := 2) X.1 X.2.1 dL_law_394 (by decide) ?_
        refine lv_iadd X.1 X.2.1 dL_law_395 ?_
        obtain ⟨hi68, hf⟩ := gin_of hf
        refine va_sld X.1 X.2.1 hX hbl hbA hS hi68 dL_law_396 ?_
        obtain ⟨r69, hr69, hf⟩ := bd_of hf
        refine xl_callVi ⟨by decide, by decide⟩ X hP hS hG_x (by omega) rfl (n := 2) (As := [.int (xs (Int32.toNatClampNeg (v3_1 + 1))), .int (xs (Int32.toNatClampNeg (v3_1 + 2)))]) (ct_X5_hang hG_x hG_n hG_p hr69) gL_law_X5_hang rfl (by decide +kernel) ⟨by decide, by decide⟩ rfl hl.1 rfl (Nat.le_of_ble_eq_true rfl) dL_law_397 (fun E H locs hp hP hS => ?_)
        obtain ⟨hW_n, hW_p, hk⟩ := hp
        have hG_n := hW_n
        have hG_p := hW_p
        have hG_x := Xo_kept hG_x (fun j h8 h9 => hk j (by omega) (by omega))
        have hG_a := Mu_kept hG_a (fun j h8 h9 => hk j (by omega) (by omega))
        have hG_q := Pa_kept hG_q (fun j h8 h9 => hk j (by omega) (by omega))
        have hG_t := Mu_kept hG_t (fun j h8 h9 => hk j (by omega) (by omega))
        have hG_T := Ta_kept hG_T (fun j h8 h9 => hk j (by omega) (by omega))
        have hG_h := Ha_kept hG_h (fun j h8 h9 => hk j (by omega) (by omega))
        have hG_r := Rs_kept hG_r (fun j h8 h9 => hk j (by omega) (by omega))
        have hG_M := Mo_kept hG_M (fun j h8 h9 => hk j (by omega) (by omega))
        refine lv_aload_n X.1 X.2.1 dL_law_400 rfl (lv_at hl 2 rfl) ?_
        refine lv_aload_n X.1 X.2.1 dL_law_401 rfl (lv_at hl 0 rfl) ?_
        refine lv_iload_n X.1 X.2.1 dL_law_402 rfl (lv_at hl 3 rfl) ?_
        refine lv_iconst (v := 1) X.1 X.2.1 dL_law_403 (by decide) ?_
        refine lv_iadd X.1 X.2.1 dL_law_404 ?_
        obtain ⟨hi70, hf⟩ := gin_of hf
        refine va_sld X.1 X.2.1 hX hbl hbA hS hi70 dL_law_405 ?_
        refine lv_aload_n X.1 X.2.1 dL_law_406 rfl (lv_at hl 0 rfl) ?_
        refine lv_iload_n X.1 X.2.1 dL_law_407 rfl (lv_at hl 3 rfl) ?_
        refine lv_iconst (v := 2) X.1 X.2.1 dL_law_408 (by decide) ?_
        refine lv_iadd X.1 X.2.1 dL_law_409 ?_
        obtain ⟨hi71, hf⟩ := gin_of hf
        refine va_sld X.1 X.2.1 hX hbl hbA hS hi71 dL_law_410 ?_
        obtain ⟨r72, hr72, hf⟩ := bd_of hf
        refine xl_callVi ⟨by decide, by decide⟩ X hP hS hG_M.1 (by omega) rfl (n := 2) (As := [.int (xs (Int32.toNatClampNeg (v3_1 + 1))), .int (xs (Int32.toNatClampNeg (v3_1 + 2)))]) (ct_X6_hang hG_M hr72) gL_law_X6_hang rfl (by decide +kernel) ⟨by decide, by decide⟩ rfl hl.1 rfl (Nat.le_of_ble_eq_true rfl) dL_law_411 (fun E H locs hp hP hS => ?_)
        obtain ⟨hW_M, hk⟩ := hp
        have hG_M := hW_M
        have hG_x := Xo_kept hG_x (fun j h8 h9 => hk j (by omega))
        have hG_n := Mu_kept hG_n (fun j h8 h9 => hk j (by omega))
        have hG_p := Pa_kept hG_p (fun j h8 h9 => hk j (by omega))
        have hG_a := Mu_kept hG_a (fun j h8 h9 => hk j (by omega))
        have hG_q := Pa_kept hG_q (fun j h8 h9 => hk j (by omega))
        have hG_t := Mu_kept hG_t (fun j h8 h9 => hk j (by omega))
        have hG_T := Ta_kept hG_T (fun j h8 h9 => hk j (by omega))
        have hG_h := Ha_kept hG_h (fun j h8 h9 => hk j (by omega))
        have hG_r := Rs_kept hG_r (fun j h8 h9 => hk j (by omega))
        refine lv_icmp_eq (tgt := 1169) X.1 X.2.1 dL_law_414 (by decide) (fun c73 => ?_) (fun c73 => ?_)
        · have hf := ifp hf c73
          obtain ⟨x74, ex74, hf⟩ := nm_of hf
          refine lv_iinc (v := x74) (lv' := [(3, .int x74), (0, .ref b), (1, .ref (qa 0)), (2, .ref (qa 64))]) X.1 X.2.1 dL_law_1169 hl (k := 3) rfl (by rw [ex74]; rfl) (by decide) rfl (fun ls hl => ?_)
          refine lv_goto (tgt := 18) X.1 X.2.1 dL_law_1172 (by decide) ?_
          exact ih1 x74 img_x_1 men_n_1 md_n_1 day_n_1 drw_n_1 bu_n_1 st_n_1 ki_n_1 we_n_1 wo_n_1 r69.2.1 r69.2.2.1 r69.2.2.2.1 r69.2.2.2.2 men_a_1 md_a_1 day_a_1 drw_a_1 bu_a_1 st_a_1 ki_a_1 we_a_1 wo_a_1 wr_a_1 kn_q_1 nx_q_1 ke_q_1 men_t_1 md_t_1 day_t_1 drw_t_1 bu_t_1 st_t_1 ki_t_1 we_t_1 wo_t_1 wr_t_1 ln_T_1 plc_T_1 ltr_T_1 worn_h_1 few_h_1 bc_h_1 ld_h_1 so_h_1 tr_h_1 be_h_1 wy_h_1 th_r_1 lan_r_1 siz_r_1 itm_r_1 ltr_M_1 pos_M_1 num_M_1 isk_M_1 bm_M_1 bch_M_1 lan_M_1 siz_M_1 itm_M_1 tap_M_1 r72.2 tri_M_1 rd_M_1 kp_M_1 bes_M_1 _ _ _ _ hf hP hS hG_x hG_n hG_p hG_a hG_q hG_t hG_T hG_h hG_r hG_M (lv_sub hl [1, 2, 3, 0] rfl)
        · have hf := ifn hf c73
          refine lv_iconst (v := 0) X.1 X.2.1 dL_law_417 (by decide) ?_
          exact absurd (Option.some.inj hf) (by decide)
      have hf := ifn hf w66
      by_cases w75 : ((xs (Int32.toNatClampNeg v3_1)) &&& 31) = 9
      · have hf := ifp hf w75
        refine lv_tableIn (tgt := 419) X.1 X.2.1 dL_law_33 (by rw [w75]; decide) (by rw [w75]; decide) (off := 386) (by rw [w75]; decide) (by decide) ?_
        refine lv_aload_n X.1 X.2.1 dL_law_419 rfl (lv_at hl 1 rfl) ?_
        refine lv_aload_n X.1 X.2.1 dL_law_420 rfl (lv_at hl 0 rfl) ?_
        refine lv_iload_n X.1 X.2.1 dL_law_421 rfl (lv_at hl 3 rfl) ?_
        refine lv_iconst (v := 1) X.1 X.2.1 dL_law_422 (by decide) ?_
        refine lv_iadd X.1 X.2.1 dL_law_423 ?_
        obtain ⟨hi76, hf⟩ := gin_of hf
        refine va_sld X.1 X.2.1 hX hbl hbA hS hi76 dL_law_424 ?_
        refine lv_aload_n X.1 X.2.1 dL_law_425 rfl (lv_at hl 0 rfl) ?_
        refine lv_iload_n X.1 X.2.1 dL_law_426 rfl (lv_at hl 3 rfl) ?_
        refine lv_iconst (v := 2) X.1 X.2.1 dL_law_427 (by decide) ?_
        refine lv_iadd X.1 X.2.1 dL_law_428 ?_
        obtain ⟨hi77, hf⟩ := gin_of hf
        refine va_sld X.1 X.2.1 hX hbl hbA hS hi77 dL_law_429 ?_
        obtain ⟨r78, hr78, hf⟩ := bd_of hf
        refine xl_callVi ⟨by decide, by decide⟩ X hP hS hG_x (by omega) rfl (n := 2) (As := [.int (xs (Int32.toNatClampNeg (v3_1 + 1))), .int (xs (Int32.toNatClampNeg (v3_1 + 2)))]) (ct_X5_polish hG_x hG_n hG_p hr78) gL_law_X5_polish rfl (by decide +kernel) ⟨by decide, by decide⟩ rfl hl.1 rfl (Nat.le_of_ble_eq_true rfl) dL_law_430 (fun E H locs hp hP hS => ?_)
        obtain ⟨hW_n, hW_p, hk⟩ := hp
        have hG_n := hW_n
        have hG_p := hW_p
        have hG_x := Xo_kept hG_x (fun j h8 h9 => hk j (by omega) (by omega))
        have hG_a := Mu_kept hG_a (fun j h8 h9 => hk j (by omega) (by omega))
        have hG_q := Pa_kept hG_q (fun j h8 h9 => hk j (by omega) (by omega))
        have hG_t := Mu_kept hG_t (fun j h8 h9 => hk j (by omega) (by omega))
        have hG_T := Ta_kept hG_T (fun j h8 h9 => hk j (by omega) (by omega))
        have hG_h := Ha_kept hG_h (fun j h8 h9 => hk j (by omega) (by omega))
        have hG_r := Rs_kept hG_r (fun j h8 h9 => hk j (by omega) (by omega))
        have hG_M := Mo_kept hG_M (fun j h8 h9 => hk j (by omega) (by omega))
        refine lv_aload_n X.1 X.2.1 dL_law_433 rfl (lv_at hl 2 rfl) ?_
        refine lv_aload_n X.1 X.2.1 dL_law_434 rfl (lv_at hl 0 rfl) ?_
        refine lv_iload_n X.1 X.2.1 dL_law_435 rfl (lv_at hl 3 rfl) ?_
        refine lv_iconst (v := 1) X.1 X.2.1 dL_law_436 (by decide) ?_
        refine lv_iadd X.1 X.2.1 dL_law_437 ?_
        obtain ⟨hi79, hf⟩ := gin_of hf
        refine va_sld X.1 X.2.1 hX hbl hbA hS hi79 dL_law_438 ?_
        refine lv_aload_n X.1 X.2.1 dL_law_439 rfl (lv_at hl 0 rfl) ?_
        refine lv_iload_n X.1 X.2.1 dL_law_440 rfl (lv_at hl 3 rfl) ?_
        refine lv_iconst (v := 2) X.1 X.2.1 dL_law_441 (by decide) ?_
        refine lv_iadd X.1 X.2.1 dL_law_442 ?_
        obtain ⟨hi80, hf⟩ := gin_of hf
        refine va_sld X.1 X.2.1 hX hbl hbA hS hi80 dL_law_443 ?_
        obtain ⟨r81, hr81, hf⟩ := bd_of hf
        refine xl_callVi ⟨by decide, by decide⟩ X hP hS hG_M.1 (by omega) rfl (n := 2) (As := [.int (xs (Int32.toNatClampNeg (v3_1 + 1))), .int (xs (Int32.toNatClampNeg (v3_1 + 2)))]) (ct_X6_polish hG_M hr81) gL_law_X6_polish rfl (by decide +kernel) ⟨by decide, by decide⟩ rfl hl.1 rfl (Nat.le_of_ble_eq_true rfl) dL_law_444 (fun E H locs hp hP hS => ?_)
        obtain ⟨hW_M, hk⟩ := hp
        have hG_M := hW_M
        have hG_x := Xo_kept hG_x (fun j h8 h9 => hk j (by omega))
        have hG_n := Mu_kept hG_n (fun j h8 h9 => hk j (by omega))
        have hG_p := Pa_kept hG_p (fun j h8 h9 => hk j (by omega))
        have hG_a := Mu_kept hG_a (fun j h8 h9 => hk j (by omega))
        have hG_q := Pa_kept hG_q (fun j h8 h9 => hk j (by omega))
        have hG_t := Mu_kept hG_t (fun j h8 h9 => hk j (by omega))
        have hG_T := Ta_kept hG_T (fun j h8 h9 => hk j (by omega))
        have hG_h := Ha_kept hG_h (fun j h8 h9 => hk j (by omega))
        have hG_r := Rs_kept hG_r (fun j h8 h9 => hk j (by omega))
        refine lv_icmp_eq (tgt := 1169) X.1 X.2.1 dL_law_447 (by decide) (fun c82 => ?_) (fun c82 => ?_)
        · have hf := ifp hf c82
          obtain ⟨x83, ex83, hf⟩ := nm_of hf
          refine lv_iinc (v := x83) (lv' := [(3, .int x83), (0, .ref b), (1, .ref (qa 0)), (2, .ref (qa 64))]) X.1 X.2.1 dL_law_1169 hl (k := 3) rfl (by rw [ex83]; rfl) (by decide) rfl (fun ls hl => ?_)
          refine lv_goto (tgt := 18) X.1 X.2.1 dL_law_1172 (by decide) ?_
          exact ih1 x83 img_x_1 men_n_1 md_n_1 day_n_1 drw_n_1 bu_n_1 st_n_1 ki_n_1 r78.2.1 wo_n_1 wr_n_1 r78.2.2.1 r78.2.2.2.1 r78.2.2.2.2 men_a_1 md_a_1 day_a_1 drw_a_1 bu_a_1 st_a_1 ki_a_1 we_a_1 wo_a_1 wr_a_1 kn_q_1 nx_q_1 ke_q_1 men_t_1 md_t_1 day_t_1 drw_t_1 bu_t_1 st_t_1 ki_t_1 we_t_1 wo_t_1 wr_t_1 ln_T_1 plc_T_1 ltr_T_1 worn_h_1 few_h_1 bc_h_1 ld_h_1 so_h_1 tr_h_1 be_h_1 wy_h_1 th_r_1 lan_r_1 siz_r_1 itm_r_1 ltr_M_1 pos_M_1 num_M_1 isk_M_1 bm_M_1 bch_M_1 lan_M_1 siz_M_1 itm_M_1 tap_M_1 r81.2 tri_M_1 rd_M_1 kp_M_1 bes_M_1 _ _ _ _ hf hP hS hG_x hG_n hG_p hG_a hG_q hG_t hG_T hG_h hG_r hG_M (lv_sub hl [1, 2, 3, 0] rfl)
        · have hf := ifn hf c82
          refine lv_iconst (v := 0) X.1 X.2.1 dL_law_450 (by decide) ?_
          exact absurd (Option.some.inj hf) (by decide)
      have hf := ifn hf w75
      by_cases w84 : ((xs (Int32.toNatClampNeg v3_1)) &&& 31) = 10
      · have hf := ifp hf w84
        refine lv_tableIn (tgt := 452) X.1 X.2.1 dL_law_33 (by rw [w84]; decide) (by rw [w84]; decide) (off := 419) (by rw [w84]; decide) (by decide) ?_
        refine lv_aload_n X.1 X.2.1 dL_law_452 rfl (lv_at hl 1 rfl) ?_
        refine lv_aload_n X.1 X.2.1 dL_law_453 rfl (lv_at hl 0 rfl) ?_
        refine lv_iload_n X.1 X.2.1 dL_law_454 rfl (lv_at hl 3 rfl) ?_
        refine lv_iconst (v := 1) X.1 X.2.1 dL_law_455 (by decide) ?_
        refine lv_iadd X.1 X.2.1 dL_law_456 ?_
        obtain ⟨hi85, hf⟩ := gin_of hf
        refine va_sld X.1 X.2.1 hX hbl hbA hS hi85 dL_law_457 ?_
        obtain ⟨r86, hr86, hf⟩ := bd_of hf
        refine xl_callVi ⟨by decide, by decide⟩ X hP hS hG_x (by omega) rfl (n := 1) (As := [.int (xs (Int32.toNatClampNeg (v3_1 + 1)))]) (ct_X5_drift hG_x hG_n hG_p hr86) gL_law_X5_drift rfl (by decide +kernel) ⟨by decide, by decide⟩ rfl hl.1 rfl (Nat.le_of_ble_eq_true rfl) dL_law_458 (fun E H locs hp hP hS => ?_)
        obtain ⟨hW_n, hW_p, hk⟩ := hp
        have hG_n := hW_n
        have hG_p := hW_p
        have hG_x := Xo_kept hG_x (fun j h8 h9 => hk j (by omega) (by omega))
        have hG_a := Mu_kept hG_a (fun j h8 h9 => hk j (by omega) (by omega))
        have hG_q := Pa_kept hG_q (fun j h8 h9 => hk j (by omega) (by omega))
        have hG_t := Mu_kept hG_t (fun j h8 h9 => hk j (by omega) (by omega))
        have hG_T := Ta_kept hG_T (fun j h8 h9 => hk j (by omega) (by omega))
        have hG_h := Ha_kept hG_h (fun j h8 h9 => hk j (by omega) (by omega))
        have hG_r := Rs_kept hG_r (fun j h8 h9 => hk j (by omega) (by omega))
        have hG_M := Mo_kept hG_M (fun j h8 h9 => hk j (by omega) (by omega))
        refine lv_aload_n X.1 X.2.1 dL_law_461 rfl (lv_at hl 2 rfl) ?_
        refine lv_aload_n X.1 X.2.1 dL_law_462 rfl (lv_at hl 0 rfl) ?_
        refine lv_iload_n X.1 X.2.1 dL_law_463 rfl (lv_at hl 3 rfl) ?_
        refine lv_iconst (v := 1) X.1 X.2.1 dL_law_464 (by decide) ?_
        refine lv_iadd X.1 X.2.1 dL_law_465 ?_
        obtain ⟨hi87, hf⟩ := gin_of hf
        refine va_sld X.1 X.2.1 hX hbl hbA hS hi87 dL_law_466 ?_
        obtain ⟨r88, hr88, hf⟩ := bd_of hf
        refine xl_callVi ⟨by decide, by decide⟩ X hP hS hG_M.1 (by omega) rfl (n := 1) (As := [.int (xs (Int32.toNatClampNeg (v3_1 + 1)))]) (ct_X6_drift hG_M hr88) gL_law_X6_drift rfl (by decide +kernel) ⟨by decide, by decide⟩ rfl hl.1 rfl (Nat.le_of_ble_eq_true rfl) dL_law_467 (fun E H locs hp hP hS => ?_)
        obtain ⟨hW_M, hk⟩ := hp
        have hG_M := hW_M
        have hG_x := Xo_kept hG_x (fun j h8 h9 => hk j (by omega))
        have hG_n := Mu_kept hG_n (fun j h8 h9 => hk j (by omega))
        have hG_p := Pa_kept hG_p (fun j h8 h9 => hk j (by omega))
        have hG_a := Mu_kept hG_a (fun j h8 h9 => hk j (by omega))
        have hG_q := Pa_kept hG_q (fun j h8 h9 => hk j (by omega))
        have hG_t := Mu_kept hG_t (fun j h8 h9 => hk j (by omega))
        have hG_T := Ta_kept hG_T (fun j h8 h9 => hk j (by omega))
        have hG_h := Ha_kept hG_h (fun j h8 h9 => hk j (by omega))
        have hG_r := Rs_kept hG_r (fun j h8 h9 => hk j (by omega))
        refine lv_icmp_eq (tgt := 1169) X.1 X.2.1 dL_law_470 (by decide) (fun c89 => ?_) (fun c89 => ?_)
        · have hf := ifp hf c89
          obtain ⟨x90, ex90, hf⟩ := nm_of hf
          refine lv_iinc (v := x90) (lv' := [(3, .int x90), (0, .ref b), (1, .ref (qa 0)), (2, .ref (qa 64))]) X.1 X.2.1 dL_law_1169 hl (k := 3) rfl (by rw [ex90]; rfl) (by decide) rfl (fun ls hl => ?_)
          refine lv_goto (tgt := 18) X.1 X.2.1 dL_law_1172 (by decide) ?_
          exact ih1 x90 img_x_1 men_n_1 md_n_1 r86.2.1 r86.2.2.1 bu_n_1 r86.2.2.2.1 ki_n_1 we_n_1 wo_n_1 r86.2.2.2.2.1 r86.2.2.2.2.2.1 r86.2.2.2.2.2.2.1 r86.2.2.2.2.2.2.2 men_a_1 md_a_1 day_a_1 drw_a_1 bu_a_1 st_a_1 ki_a_1 we_a_1 wo_a_1 wr_a_1 kn_q_1 nx_q_1 ke_q_1 men_t_1 md_t_1 day_t_1 drw_t_1 bu_t_1 st_t_1 ki_t_1 we_t_1 wo_t_1 wr_t_1 ln_T_1 plc_T_1 ltr_T_1 worn_h_1 few_h_1 bc_h_1 ld_h_1 so_h_1 tr_h_1 be_h_1 wy_h_1 th_r_1 lan_r_1 siz_r_1 itm_r_1 ltr_M_1 pos_M_1 num_M_1 isk_M_1 bm_M_1 bch_M_1 lan_M_1 siz_M_1 itm_M_1 tap_M_1 r88.2 tri_M_1 rd_M_1 kp_M_1 bes_M_1 _ _ _ _ hf hP hS hG_x hG_n hG_p hG_a hG_q hG_t hG_T hG_h hG_r hG_M (lv_sub hl [1, 2, 3, 0] rfl)
        · have hf := ifn hf c89
          refine lv_iconst (v := 0) X.1 X.2.1 dL_law_473 (by decide) ?_
          exact absurd (Option.some.inj hf) (by decide)
      have hf := ifn hf w84
      by_cases w91 : ((xs (Int32.toNatClampNeg v3_1)) &&& 31) = 11
      · have hf := ifp hf w91
        refine lv_tableIn (tgt := 475) X.1 X.2.1 dL_law_33 (by rw [w91]; decide) (by rw [w91]; decide) (off := 442) (by rw [w91]; decide) (by decide) ?_
        refine lv_aload_n X.1 X.2.1 dL_law_475 rfl (lv_at hl 1 rfl) ?_
        obtain ⟨r92, hr92, hf⟩ := bd_of hf
        refine xl_callVi ⟨by decide, by decide⟩ X hP hS hG_x (by omega) rfl (n := 0) (As := []) (ct_X5_undo hG_x hG_n hG_p hr92) gL_law_X5_undo rfl (by decide +kernel) ⟨by decide, by decide⟩ rfl hl.1 rfl (Nat.le_of_ble_eq_true rfl) dL_law_476 (fun E H locs hp hP hS => ?_)
        obtain ⟨hW_n, hW_p, hk⟩ := hp
        have hG_n := hW_n
        have hG_p := hW_p
        have hG_x := Xo_kept hG_x (fun j h8 h9 => hk j (by omega) (by omega))
        have hG_a := Mu_kept hG_a (fun j h8 h9 => hk j (by omega) (by omega))
        have hG_q := Pa_kept hG_q (fun j h8 h9 => hk j (by omega) (by omega))
        have hG_t := Mu_kept hG_t (fun j h8 h9 => hk j (by omega) (by omega))
        have hG_T := Ta_kept hG_T (fun j h8 h9 => hk j (by omega) (by omega))
        have hG_h := Ha_kept hG_h (fun j h8 h9 => hk j (by omega) (by omega))
        have hG_r := Rs_kept hG_r (fun j h8 h9 => hk j (by omega) (by omega))
        have hG_M := Mo_kept hG_M (fun j h8 h9 => hk j (by omega) (by omega))
        refine lv_aload_n X.1 X.2.1 dL_law_479 rfl (lv_at hl 2 rfl) ?_
        obtain ⟨r93, hr93, hf⟩ := bd_of hf
        refine xl_callVi ⟨by decide, by decide⟩ X hP hS hG_M.1 (by omega) rfl (n := 0) (As := []) (ct_X6_undo hG_M hr93) gL_law_X6_undo rfl (by decide +kernel) ⟨by decide, by decide⟩ rfl hl.1 rfl (Nat.le_of_ble_eq_true rfl) dL_law_480 (fun E H locs hp hP hS => ?_)
        obtain ⟨hW_M, hk⟩ := hp
        have hG_M := hW_M
        have hG_x := Xo_kept hG_x (fun j h8 h9 => hk j (by omega))
        have hG_n := Mu_kept hG_n (fun j h8 h9 => hk j (by omega))
        have hG_p := Pa_kept hG_p (fun j h8 h9 => hk j (by omega))
        have hG_a := Mu_kept hG_a (fun j h8 h9 => hk j (by omega))
        have hG_q := Pa_kept hG_q (fun j h8 h9 => hk j (by omega))
        have hG_t := Mu_kept hG_t (fun j h8 h9 => hk j (by omega))
        have hG_T := Ta_kept hG_T (fun j h8 h9 => hk j (by omega))
        have hG_h := Ha_kept hG_h (fun j h8 h9 => hk j (by omega))
        have hG_r := Rs_kept hG_r (fun j h8 h9 => hk j (by omega))
        refine lv_icmp_eq (tgt := 1169) X.1 X.2.1 dL_law_483 (by decide) (fun c94 => ?_) (fun c94 => ?_)
        · have hf := ifp hf c94
          obtain ⟨x95, ex95, hf⟩ := nm_of hf
          refine lv_iinc (v := x95) (lv' := [(3, .int x95), (0, .ref b), (1, .ref (qa 0)), (2, .ref (qa 64))]) X.1 X.2.1 dL_law_1169 hl (k := 3) rfl (by rw [ex95]; rfl) (by decide) rfl (fun ls hl => ?_)
          refine lv_goto (tgt := 18) X.1 X.2.1 dL_law_1172 (by decide) ?_
          exact ih1 x95 img_x_1 men_n_1 md_n_1 r92.2.1 r92.2.2.1 bu_n_1 r92.2.2.2.1 ki_n_1 r92.2.2.2.2.1 wo_n_1 r92.2.2.2.2.2.1 r92.2.2.2.2.2.2.1 r92.2.2.2.2.2.2.2 ke_p_1 men_a_1 md_a_1 day_a_1 drw_a_1 bu_a_1 st_a_1 ki_a_1 we_a_1 wo_a_1 wr_a_1 kn_q_1 nx_q_1 ke_q_1 men_t_1 md_t_1 day_t_1 drw_t_1 bu_t_1 st_t_1 ki_t_1 we_t_1 wo_t_1 wr_t_1 ln_T_1 plc_T_1 ltr_T_1 worn_h_1 few_h_1 bc_h_1 ld_h_1 so_h_1 tr_h_1 be_h_1 wy_h_1 th_r_1 lan_r_1 siz_r_1 itm_r_1 ltr_M_1 pos_M_1 num_M_1 isk_M_1 bm_M_1 bch_M_1 lan_M_1 siz_M_1 itm_M_1 tap_M_1 r93.2 tri_M_1 rd_M_1 kp_M_1 bes_M_1 _ _ _ _ hf hP hS hG_x hG_n hG_p hG_a hG_q hG_t hG_T hG_h hG_r hG_M (lv_sub hl [1, 2, 3, 0] rfl)
        · have hf := ifn hf c94
          refine lv_iconst (v := 0) X.1 X.2.1 dL_law_486 (by decide) ?_
          exact absurd (Option.some.inj hf) (by decide)
      have hf := ifn hf w91
      by_cases w96 : ((xs (Int32.toNatClampNeg v3_1)) &&& 31) = 12
      · have hf := ifp hf w96
        refine lv_tableIn (tgt := 488) X.1 X.2.1 dL_law_33 (by rw [w96]; decide) (by rw [w96]; decide) (off := 455) (by rw [w96]; decide) (by decide) ?_
        refine lv_aload_n X.1 X.2.1 dL_law_488 rfl (lv_at hl 1 rfl) ?_
        refine lv_aload_n X.1 X.2.1 dL_law_489 rfl (lv_at hl 0 rfl) ?_
        refine lv_iload_n X.1 X.2.1 dL_law_490 rfl (lv_at hl 3 rfl) ?_
        refine lv_iconst (v := 1) X.1 X.2.1 dL_law_491 (by decide) ?_
        refine lv_iadd X.1 X.2.1 dL_law_492 ?_
        obtain ⟨hi97, hf⟩ := gin_of hf
        refine va_sld X.1 X.2.1 hX hbl hbA hS hi97 dL_law_493 ?_
        obtain ⟨r98, hr98, hf⟩ := bd_of hf
        refine xl_callVi ⟨by decide, by decide⟩ X hP hS hG_x (by omega) rfl (n := 1) (As := [.int (xs (Int32.toNatClampNeg (v3_1 + 1)))]) (ct_X5_seed hG_x hG_n hr98) gL_law_X5_seed rfl (by decide +kernel) ⟨by decide, by decide⟩ rfl hl.1 rfl (Nat.le_of_ble_eq_true rfl) dL_law_494 (fun E H locs hp hP hS => ?_)
        obtain ⟨hW_n, hk⟩ := hp
        have hG_n := hW_n
        have hG_x := Xo_kept hG_x (fun j h8 h9 => hk j (by omega))
        have hG_p := Pa_kept hG_p (fun j h8 h9 => hk j (by omega))
        have hG_a := Mu_kept hG_a (fun j h8 h9 => hk j (by omega))
        have hG_q := Pa_kept hG_q (fun j h8 h9 => hk j (by omega))
        have hG_t := Mu_kept hG_t (fun j h8 h9 => hk j (by omega))
        have hG_T := Ta_kept hG_T (fun j h8 h9 => hk j (by omega))
        have hG_h := Ha_kept hG_h (fun j h8 h9 => hk j (by omega))
        have hG_r := Rs_kept hG_r (fun j h8 h9 => hk j (by omega))
        have hG_M := Mo_kept hG_M (fun j h8 h9 => hk j (by omega))
        refine lv_aload_n X.1 X.2.1 dL_law_497 rfl (lv_at hl 2 rfl) ?_
        refine lv_aload_n X.1 X.2.1 dL_law_498 rfl (lv_at hl 0 rfl) ?_
        refine lv_iload_n X.1 X.2.1 dL_law_499 rfl (lv_at hl 3 rfl) ?_
        refine lv_iconst (v := 1) X.1 X.2.1 dL_law_500 (by decide) ?_
        refine lv_iadd X.1 X.2.1 dL_law_501 ?_
        obtain ⟨hi99, hf⟩ := gin_of hf
        refine va_sld X.1 X.2.1 hX hbl hbA hS hi99 dL_law_502 ?_
        obtain ⟨r100, hr100, hf⟩ := bd_of hf
        refine xl_callVi ⟨by decide, by decide⟩ X hP hS hG_M.1 (by omega) rfl (n := 1) (As := [.int (xs (Int32.toNatClampNeg (v3_1 + 1)))]) (ct_X6_seed hG_M hr100) gL_law_X6_seed rfl (by decide +kernel) ⟨by decide, by decide⟩ rfl hl.1 rfl (Nat.le_of_ble_eq_true rfl) dL_law_503 (fun E H locs hp hP hS => ?_)
        obtain ⟨hW_M, hk⟩ := hp
        have hG_M := hW_M
        have hG_x := Xo_kept hG_x (fun j h8 h9 => hk j (by omega))
        have hG_n := Mu_kept hG_n (fun j h8 h9 => hk j (by omega))
        have hG_p := Pa_kept hG_p (fun j h8 h9 => hk j (by omega))
        have hG_a := Mu_kept hG_a (fun j h8 h9 => hk j (by omega))
        have hG_q := Pa_kept hG_q (fun j h8 h9 => hk j (by omega))
        have hG_t := Mu_kept hG_t (fun j h8 h9 => hk j (by omega))
        have hG_T := Ta_kept hG_T (fun j h8 h9 => hk j (by omega))
        have hG_h := Ha_kept hG_h (fun j h8 h9 => hk j (by omega))
        have hG_r := Rs_kept hG_r (fun j h8 h9 => hk j (by omega))
        refine lv_icmp_eq (tgt := 1169) X.1 X.2.1 dL_law_506 (by decide) (fun c101 => ?_) (fun c101 => ?_)
        · have hf := ifp hf c101
          obtain ⟨x102, ex102, hf⟩ := nm_of hf
          refine lv_iinc (v := x102) (lv' := [(3, .int x102), (0, .ref b), (1, .ref (qa 0)), (2, .ref (qa 64))]) X.1 X.2.1 dL_law_1169 hl (k := 3) rfl (by rw [ex102]; rfl) (by decide) rfl (fun ls hl => ?_)
          refine lv_goto (tgt := 18) X.1 X.2.1 dL_law_1172 (by decide) ?_
          exact ih1 x102 img_x_1 men_n_1 md_n_1 day_n_1 r98.2 bu_n_1 st_n_1 ki_n_1 we_n_1 wo_n_1 wr_n_1 kn_p_1 nx_p_1 ke_p_1 men_a_1 md_a_1 day_a_1 drw_a_1 bu_a_1 st_a_1 ki_a_1 we_a_1 wo_a_1 wr_a_1 kn_q_1 nx_q_1 ke_q_1 men_t_1 md_t_1 day_t_1 drw_t_1 bu_t_1 st_t_1 ki_t_1 we_t_1 wo_t_1 wr_t_1 ln_T_1 plc_T_1 ltr_T_1 worn_h_1 few_h_1 bc_h_1 ld_h_1 so_h_1 tr_h_1 be_h_1 wy_h_1 th_r_1 lan_r_1 siz_r_1 itm_r_1 ltr_M_1 pos_M_1 num_M_1 isk_M_1 bm_M_1 bch_M_1 lan_M_1 siz_M_1 itm_M_1 tap_M_1 r100.2 tri_M_1 rd_M_1 kp_M_1 bes_M_1 _ _ _ _ hf hP hS hG_x hG_n hG_p hG_a hG_q hG_t hG_T hG_h hG_r hG_M (lv_sub hl [1, 2, 3, 0] rfl)
        · have hf := ifn hf c101
          refine lv_iconst (v := 0) X.1 X.2.1 dL_law_509 (by decide) ?_
          exact absurd (Option.some.inj hf) (by decide)
      have hf := ifn hf w96
      by_cases w103 : ((xs (Int32.toNatClampNeg v3_1)) &&& 31) = 13
      · have hf := ifp hf w103
        refine lv_tableIn (tgt := 511) X.1 X.2.1 dL_law_33 (by rw [w103]; decide) (by rw [w103]; decide) (off := 478) (by rw [w103]; decide) (by decide) ?_
        refine lv_aload_n X.1 X.2.1 dL_law_511 rfl (lv_at hl 1 rfl) ?_
        refine lv_aload_n X.1 X.2.1 dL_law_512 rfl (lv_at hl 0 rfl) ?_
        refine lv_iload_n X.1 X.2.1 dL_law_513 rfl (lv_at hl 3 rfl) ?_
        refine lv_iconst (v := 1) X.1 X.2.1 dL_law_514 (by decide) ?_
        refine lv_iadd X.1 X.2.1 dL_law_515 ?_
        obtain ⟨hi104, hf⟩ := gin_of hf
        refine va_sld X.1 X.2.1 hX hbl hbA hS hi104 dL_law_516 ?_
        refine lv_aload_n X.1 X.2.1 dL_law_517 rfl (lv_at hl 0 rfl) ?_
        refine lv_iload_n X.1 X.2.1 dL_law_518 rfl (lv_at hl 3 rfl) ?_
        refine lv_iconst (v := 2) X.1 X.2.1 dL_law_519 (by decide) ?_
        refine lv_iadd X.1 X.2.1 dL_law_520 ?_
        obtain ⟨hi105, hf⟩ := gin_of hf
        refine va_sld X.1 X.2.1 hX hbl hbA hS hi105 dL_law_521 ?_
        refine lv_aload_n X.1 X.2.1 dL_law_522 rfl (lv_at hl 0 rfl) ?_
        refine lv_iload_n X.1 X.2.1 dL_law_523 rfl (lv_at hl 3 rfl) ?_
        refine lv_iconst (v := 3) X.1 X.2.1 dL_law_524 (by decide) ?_
        refine lv_iadd X.1 X.2.1 dL_law_525 ?_
        obtain ⟨hi106, hf⟩ := gin_of hf
        refine va_sld X.1 X.2.1 hX hbl hbA hS hi106 dL_law_526 ?_
        obtain ⟨r107, hr107, hf⟩ := bd_of hf
        refine xl_rdVi ⟨by decide, by decide⟩ X hP hS hG_x (by omega) rfl (n := 3) (As := [.int (xs (Int32.toNatClampNeg (v3_1 + 1))), .int (xs (Int32.toNatClampNeg (v3_1 + 2))), .int (xs (Int32.toNatClampNeg (v3_1 + 3)))]) (ct_X5_ahead hG_x hG_n hr107) gL_law_X5_ahead rfl (by decide +kernel) ⟨by decide, by decide⟩ rfl hl.1 rfl (Nat.le_of_ble_eq_true rfl) dL_law_527 (fun H locs hP hS => ?_)
        refine lv_aload_n X.1 X.2.1 dL_law_530 rfl (lv_at hl 2 rfl) ?_
        refine lv_aload_n X.1 X.2.1 dL_law_531 rfl (lv_at hl 0 rfl) ?_
        refine lv_iload_n X.1 X.2.1 dL_law_532 rfl (lv_at hl 3 rfl) ?_
        refine lv_iconst (v := 1) X.1 X.2.1 dL_law_533 (by decide) ?_
        refine lv_iadd X.1 X.2.1 dL_law_534 ?_
        obtain ⟨hi108, hf⟩ := gin_of hf
        refine va_sld X.1 X.2.1 hX hbl hbA hS hi108 dL_law_535 ?_
        refine lv_aload_n X.1 X.2.1 dL_law_536 rfl (lv_at hl 0 rfl) ?_
        refine lv_iload_n X.1 X.2.1 dL_law_537 rfl (lv_at hl 3 rfl) ?_
        refine lv_iconst (v := 2) X.1 X.2.1 dL_law_538 (by decide) ?_
        refine lv_iadd X.1 X.2.1 dL_law_539 ?_
        obtain ⟨hi109, hf⟩ := gin_of hf
        refine va_sld X.1 X.2.1 hX hbl hbA hS hi109 dL_law_540 ?_
        refine lv_aload_n X.1 X.2.1 dL_law_541 rfl (lv_at hl 0 rfl) ?_
        refine lv_iload_n X.1 X.2.1 dL_law_542 rfl (lv_at hl 3 rfl) ?_
        refine lv_iconst (v := 3) X.1 X.2.1 dL_law_543 (by decide) ?_
        refine lv_iadd X.1 X.2.1 dL_law_544 ?_
        obtain ⟨hi110, hf⟩ := gin_of hf
        refine va_sld X.1 X.2.1 hX hbl hbA hS hi110 dL_law_545 ?_
        obtain ⟨r111, hr111, hf⟩ := bd_of hf
        refine xl_callVi ⟨by decide, by decide⟩ X hP hS hG_M.1 (by omega) rfl (n := 3) (As := [.int (xs (Int32.toNatClampNeg (v3_1 + 1))), .int (xs (Int32.toNatClampNeg (v3_1 + 2))), .int (xs (Int32.toNatClampNeg (v3_1 + 3)))]) (ct_X6_ahead hG_M hr111) gL_law_X6_ahead rfl (by decide +kernel) ⟨by decide, by decide⟩ rfl hl.1 rfl (Nat.le_of_ble_eq_true rfl) dL_law_546 (fun E H locs hp hP hS => ?_)
        obtain ⟨hW_M, hk⟩ := hp
        have hG_M := hW_M
        have hG_x := Xo_kept hG_x (fun j h8 h9 => hk j (by omega))
        have hG_n := Mu_kept hG_n (fun j h8 h9 => hk j (by omega))
        have hG_p := Pa_kept hG_p (fun j h8 h9 => hk j (by omega))
        have hG_a := Mu_kept hG_a (fun j h8 h9 => hk j (by omega))
        have hG_q := Pa_kept hG_q (fun j h8 h9 => hk j (by omega))
        have hG_t := Mu_kept hG_t (fun j h8 h9 => hk j (by omega))
        have hG_T := Ta_kept hG_T (fun j h8 h9 => hk j (by omega))
        have hG_h := Ha_kept hG_h (fun j h8 h9 => hk j (by omega))
        have hG_r := Rs_kept hG_r (fun j h8 h9 => hk j (by omega))
        refine lv_icmp_eq (tgt := 1169) X.1 X.2.1 dL_law_549 (by decide) (fun c112 => ?_) (fun c112 => ?_)
        · have hf := ifp hf c112
          obtain ⟨x113, ex113, hf⟩ := nm_of hf
          refine lv_iinc (v := x113) (lv' := [(3, .int x113), (0, .ref b), (1, .ref (qa 0)), (2, .ref (qa 64))]) X.1 X.2.1 dL_law_1169 hl (k := 3) rfl (by rw [ex113]; rfl) (by decide) rfl (fun ls hl => ?_)
          refine lv_goto (tgt := 18) X.1 X.2.1 dL_law_1172 (by decide) ?_
          exact ih1 x113 img_x_1 men_n_1 md_n_1 day_n_1 drw_n_1 bu_n_1 st_n_1 ki_n_1 we_n_1 wo_n_1 wr_n_1 kn_p_1 nx_p_1 ke_p_1 men_a_1 md_a_1 day_a_1 drw_a_1 bu_a_1 st_a_1 ki_a_1 we_a_1 wo_a_1 wr_a_1 kn_q_1 nx_q_1 ke_q_1 men_t_1 md_t_1 day_t_1 drw_t_1 bu_t_1 st_t_1 ki_t_1 we_t_1 wo_t_1 wr_t_1 ln_T_1 plc_T_1 ltr_T_1 worn_h_1 few_h_1 bc_h_1 ld_h_1 so_h_1 tr_h_1 be_h_1 wy_h_1 th_r_1 lan_r_1 siz_r_1 itm_r_1 ltr_M_1 pos_M_1 num_M_1 isk_M_1 bm_M_1 bch_M_1 lan_M_1 siz_M_1 itm_M_1 tap_M_1 now_M_1 r111.2 rd_M_1 kp_M_1 bes_M_1 _ _ _ _ hf hP hS hG_x hG_n hG_p hG_a hG_q hG_t hG_T hG_h hG_r hG_M (lv_sub hl [1, 2, 3, 0] rfl)
        · have hf := ifn hf c112
          refine lv_iconst (v := 0) X.1 X.2.1 dL_law_552 (by decide) ?_
          exact absurd (Option.some.inj hf) (by decide)
      have hf := ifn hf w103
      by_cases w114 : ((xs (Int32.toNatClampNeg v3_1)) &&& 31) = 14
      · have hf := ifp hf w114
        refine lv_tableIn (tgt := 554) X.1 X.2.1 dL_law_33 (by rw [w114]; decide) (by rw [w114]; decide) (off := 521) (by rw [w114]; decide) (by decide) ?_
        refine lv_aload_n X.1 X.2.1 dL_law_554 rfl (lv_at hl 1 rfl) ?_
        refine lv_aload_n X.1 X.2.1 dL_law_555 rfl (lv_at hl 0 rfl) ?_
        refine lv_iload_n X.1 X.2.1 dL_law_556 rfl (lv_at hl 3 rfl) ?_
        refine lv_iconst (v := 1) X.1 X.2.1 dL_law_557 (by decide) ?_
        refine lv_iadd X.1 X.2.1 dL_law_558 ?_
        obtain ⟨hi115, hf⟩ := gin_of hf
        refine va_sld X.1 X.2.1 hX hbl hbA hS hi115 dL_law_559 ?_
        obtain ⟨r116, hr116, hf⟩ := bd_of hf
        refine xl_rdVi ⟨by decide, by decide⟩ X hP hS hG_x (by omega) rfl (n := 1) (As := [.int (xs (Int32.toNatClampNeg (v3_1 + 1)))]) (ct_X5_then hG_x hG_n hr116) gL_law_X5_then rfl (by decide +kernel) ⟨by decide, by decide⟩ rfl hl.1 rfl (Nat.le_of_ble_eq_true rfl) dL_law_560 (fun H locs hP hS => ?_)
        refine lv_aload_n X.1 X.2.1 dL_law_563 rfl (lv_at hl 2 rfl) ?_
        refine lv_aload_n X.1 X.2.1 dL_law_564 rfl (lv_at hl 0 rfl) ?_
        refine lv_iload_n X.1 X.2.1 dL_law_565 rfl (lv_at hl 3 rfl) ?_
        refine lv_iconst (v := 1) X.1 X.2.1 dL_law_566 (by decide) ?_
        refine lv_iadd X.1 X.2.1 dL_law_567 ?_
        obtain ⟨hi117, hf⟩ := gin_of hf
        refine va_sld X.1 X.2.1 hX hbl hbA hS hi117 dL_law_568 ?_
        obtain ⟨r118, hr118, hf⟩ := bd_of hf
        refine xl_callVi ⟨by decide, by decide⟩ X hP hS hG_M.1 (by omega) rfl (n := 1) (As := [.int (xs (Int32.toNatClampNeg (v3_1 + 1)))]) (ct_X6_then hG_M hr118) gL_law_X6_then rfl (by decide +kernel) ⟨by decide, by decide⟩ rfl hl.1 rfl (Nat.le_of_ble_eq_true rfl) dL_law_569 (fun E H locs hp hP hS => ?_)
        obtain ⟨hW_M, hk⟩ := hp
        have hG_M := hW_M
        have hG_x := Xo_kept hG_x (fun j h8 h9 => hk j (by omega))
        have hG_n := Mu_kept hG_n (fun j h8 h9 => hk j (by omega))
        have hG_p := Pa_kept hG_p (fun j h8 h9 => hk j (by omega))
        have hG_a := Mu_kept hG_a (fun j h8 h9 => hk j (by omega))
        have hG_q := Pa_kept hG_q (fun j h8 h9 => hk j (by omega))
        have hG_t := Mu_kept hG_t (fun j h8 h9 => hk j (by omega))
        have hG_T := Ta_kept hG_T (fun j h8 h9 => hk j (by omega))
        have hG_h := Ha_kept hG_h (fun j h8 h9 => hk j (by omega))
        have hG_r := Rs_kept hG_r (fun j h8 h9 => hk j (by omega))
        refine lv_icmp_eq (tgt := 1169) X.1 X.2.1 dL_law_572 (by decide) (fun c119 => ?_) (fun c119 => ?_)
        · have hf := ifp hf c119
          obtain ⟨x120, ex120, hf⟩ := nm_of hf
          refine lv_iinc (v := x120) (lv' := [(3, .int x120), (0, .ref b), (1, .ref (qa 0)), (2, .ref (qa 64))]) X.1 X.2.1 dL_law_1169 hl (k := 3) rfl (by rw [ex120]; rfl) (by decide) rfl (fun ls hl => ?_)
          refine lv_goto (tgt := 18) X.1 X.2.1 dL_law_1172 (by decide) ?_
          exact ih1 x120 img_x_1 men_n_1 md_n_1 day_n_1 drw_n_1 bu_n_1 st_n_1 ki_n_1 we_n_1 wo_n_1 wr_n_1 kn_p_1 nx_p_1 ke_p_1 men_a_1 md_a_1 day_a_1 drw_a_1 bu_a_1 st_a_1 ki_a_1 we_a_1 wo_a_1 wr_a_1 kn_q_1 nx_q_1 ke_q_1 men_t_1 md_t_1 day_t_1 drw_t_1 bu_t_1 st_t_1 ki_t_1 we_t_1 wo_t_1 wr_t_1 ln_T_1 plc_T_1 ltr_T_1 worn_h_1 few_h_1 bc_h_1 ld_h_1 so_h_1 tr_h_1 be_h_1 wy_h_1 th_r_1 lan_r_1 siz_r_1 itm_r_1 ltr_M_1 pos_M_1 num_M_1 isk_M_1 bm_M_1 bch_M_1 lan_M_1 siz_M_1 itm_M_1 tap_M_1 now_M_1 r118.2 rd_M_1 kp_M_1 bes_M_1 _ _ _ _ hf hP hS hG_x hG_n hG_p hG_a hG_q hG_t hG_T hG_h hG_r hG_M (lv_sub hl [1, 2, 3, 0] rfl)
        · have hf := ifn hf c119
          refine lv_iconst (v := 0) X.1 X.2.1 dL_law_575 (by decide) ?_
          exact absurd (Option.some.inj hf) (by decide)
      have hf := ifn hf w114
      by_cases w121 : ((xs (Int32.toNatClampNeg v3_1)) &&& 31) = 15
      · have hf := ifp hf w121
        refine lv_tableIn (tgt := 577) X.1 X.2.1 dL_law_33 (by rw [w121]; decide) (by rw [w121]; decide) (off := 544) (by rw [w121]; decide) (by decide) ?_
        refine lv_aload_n X.1 X.2.1 dL_law_577 rfl (lv_at hl 1 rfl) ?_
        refine lv_aload_n X.1 X.2.1 dL_law_578 rfl (lv_at hl 0 rfl) ?_
        refine lv_iload_n X.1 X.2.1 dL_law_579 rfl (lv_at hl 3 rfl) ?_
        refine lv_iconst (v := 1) X.1 X.2.1 dL_law_580 (by decide) ?_
        refine lv_iadd X.1 X.2.1 dL_law_581 ?_
        obtain ⟨hi122, hf⟩ := gin_of hf
        refine va_sld X.1 X.2.1 hX hbl hbA hS hi122 dL_law_582 ?_
        obtain ⟨r123, hr123, hf⟩ := bd_of hf
        refine xl_rdVi ⟨by decide, by decide⟩ X hP hS hG_x (by omega) rfl (n := 1) (As := [.int (xs (Int32.toNatClampNeg (v3_1 + 1)))]) (ct_X5_done hG_x hG_n hr123) gL_law_X5_done rfl (by decide +kernel) ⟨by decide, by decide⟩ rfl hl.1 rfl (Nat.le_of_ble_eq_true rfl) dL_law_583 (fun H locs hP hS => ?_)
        refine lv_aload_n X.1 X.2.1 dL_law_586 rfl (lv_at hl 2 rfl) ?_
        refine lv_aload_n X.1 X.2.1 dL_law_587 rfl (lv_at hl 0 rfl) ?_
        refine lv_iload_n X.1 X.2.1 dL_law_588 rfl (lv_at hl 3 rfl) ?_
        refine lv_iconst (v := 1) X.1 X.2.1 dL_law_589 (by decide) ?_
        refine lv_iadd X.1 X.2.1 dL_law_590 ?_
        obtain ⟨hi124, hf⟩ := gin_of hf
        refine va_sld X.1 X.2.1 hX hbl hbA hS hi124 dL_law_591 ?_
        obtain ⟨r125, hr125, hf⟩ := bd_of hf
        refine xl_callVi ⟨by decide, by decide⟩ X hP hS hG_M.1 (by omega) rfl (n := 1) (As := [.int (xs (Int32.toNatClampNeg (v3_1 + 1)))]) (ct_X6_done hG_M hr125) gL_law_X6_done rfl (by decide +kernel) ⟨by decide, by decide⟩ rfl hl.1 rfl (Nat.le_of_ble_eq_true rfl) dL_law_592 (fun E H locs hp hP hS => ?_)
        obtain ⟨hW_M, hk⟩ := hp
        have hG_M := hW_M
        have hG_x := Xo_kept hG_x (fun j h8 h9 => hk j (by omega))
        have hG_n := Mu_kept hG_n (fun j h8 h9 => hk j (by omega))
        have hG_p := Pa_kept hG_p (fun j h8 h9 => hk j (by omega))
        have hG_a := Mu_kept hG_a (fun j h8 h9 => hk j (by omega))
        have hG_q := Pa_kept hG_q (fun j h8 h9 => hk j (by omega))
        have hG_t := Mu_kept hG_t (fun j h8 h9 => hk j (by omega))
        have hG_T := Ta_kept hG_T (fun j h8 h9 => hk j (by omega))
        have hG_h := Ha_kept hG_h (fun j h8 h9 => hk j (by omega))
        have hG_r := Rs_kept hG_r (fun j h8 h9 => hk j (by omega))
        refine lv_icmp_eq (tgt := 1169) X.1 X.2.1 dL_law_595 (by decide) (fun c126 => ?_) (fun c126 => ?_)
        · have hf := ifp hf c126
          obtain ⟨x127, ex127, hf⟩ := nm_of hf
          refine lv_iinc (v := x127) (lv' := [(3, .int x127), (0, .ref b), (1, .ref (qa 0)), (2, .ref (qa 64))]) X.1 X.2.1 dL_law_1169 hl (k := 3) rfl (by rw [ex127]; rfl) (by decide) rfl (fun ls hl => ?_)
          refine lv_goto (tgt := 18) X.1 X.2.1 dL_law_1172 (by decide) ?_
          exact ih1 x127 img_x_1 men_n_1 md_n_1 day_n_1 drw_n_1 bu_n_1 st_n_1 ki_n_1 we_n_1 wo_n_1 wr_n_1 kn_p_1 nx_p_1 ke_p_1 men_a_1 md_a_1 day_a_1 drw_a_1 bu_a_1 st_a_1 ki_a_1 we_a_1 wo_a_1 wr_a_1 kn_q_1 nx_q_1 ke_q_1 men_t_1 md_t_1 day_t_1 drw_t_1 bu_t_1 st_t_1 ki_t_1 we_t_1 wo_t_1 wr_t_1 ln_T_1 plc_T_1 ltr_T_1 worn_h_1 few_h_1 bc_h_1 ld_h_1 so_h_1 tr_h_1 be_h_1 wy_h_1 th_r_1 lan_r_1 siz_r_1 itm_r_1 ltr_M_1 pos_M_1 num_M_1 isk_M_1 bm_M_1 bch_M_1 lan_M_1 siz_M_1 itm_M_1 tap_M_1 now_M_1 r125.2 rd_M_1 kp_M_1 bes_M_1 _ _ _ _ hf hP hS hG_x hG_n hG_p hG_a hG_q hG_t hG_T hG_h hG_r hG_M (lv_sub hl [1, 2, 3, 0] rfl)
        · have hf := ifn hf c126
          refine lv_iconst (v := 0) X.1 X.2.1 dL_law_598 (by decide) ?_
          exact absurd (Option.some.inj hf) (by decide)
      have hf := ifn hf w121
      by_cases w128 : ((xs (Int32.toNatClampNeg v3_1)) &&& 31) = 16
      · have hf := ifp hf w128
        refine lv_tableIn (tgt := 600) X.1 X.2.1 dL_law_33 (by rw [w128]; decide) (by rw [w128]; decide) (off := 567) (by rw [w128]; decide) (by decide) ?_
        refine lv_aload_n X.1 X.2.1 dL_law_600 rfl (lv_at hl 1 rfl) ?_
        obtain ⟨r129, hr129, hf⟩ := bd_of hf
        refine xl_rdVi ⟨by decide, by decide⟩ X hP hS hG_x (by omega) rfl (n := 0) (As := []) (ct_X5_ever hG_x hG_n hr129) gL_law_X5_ever rfl (by decide +kernel) ⟨by decide, by decide⟩ rfl hl.1 rfl (Nat.le_of_ble_eq_true rfl) dL_law_601 (fun H locs hP hS => ?_)
        refine lv_aload_n X.1 X.2.1 dL_law_604 rfl (lv_at hl 2 rfl) ?_
        obtain ⟨r130, hr130, hf⟩ := bd_of hf
        refine xl_callVi ⟨by decide, by decide⟩ X hP hS hG_M.1 (by omega) rfl (n := 0) (As := []) (ct_X6_ever hG_M hr130) gL_law_X6_ever rfl (by decide +kernel) ⟨by decide, by decide⟩ rfl hl.1 rfl (Nat.le_of_ble_eq_true rfl) dL_law_605 (fun E H locs hp hP hS => ?_)
        obtain ⟨hW_M, hk⟩ := hp
        have hG_M := hW_M
        have hG_x := Xo_kept hG_x (fun j h8 h9 => hk j (by omega))
        have hG_n := Mu_kept hG_n (fun j h8 h9 => hk j (by omega))
        have hG_p := Pa_kept hG_p (fun j h8 h9 => hk j (by omega))
        have hG_a := Mu_kept hG_a (fun j h8 h9 => hk j (by omega))
        have hG_q := Pa_kept hG_q (fun j h8 h9 => hk j (by omega))
        have hG_t := Mu_kept hG_t (fun j h8 h9 => hk j (by omega))
        have hG_T := Ta_kept hG_T (fun j h8 h9 => hk j (by omega))
        have hG_h := Ha_kept hG_h (fun j h8 h9 => hk j (by omega))
        have hG_r := Rs_kept hG_r (fun j h8 h9 => hk j (by omega))
        refine lv_icmp_eq (tgt := 1169) X.1 X.2.1 dL_law_608 (by decide) (fun c131 => ?_) (fun c131 => ?_)
        · have hf := ifp hf c131
          obtain ⟨x132, ex132, hf⟩ := nm_of hf
          refine lv_iinc (v := x132) (lv' := [(3, .int x132), (0, .ref b), (1, .ref (qa 0)), (2, .ref (qa 64))]) X.1 X.2.1 dL_law_1169 hl (k := 3) rfl (by rw [ex132]; rfl) (by decide) rfl (fun ls hl => ?_)
          refine lv_goto (tgt := 18) X.1 X.2.1 dL_law_1172 (by decide) ?_
          exact ih1 x132 img_x_1 men_n_1 md_n_1 day_n_1 drw_n_1 bu_n_1 st_n_1 ki_n_1 we_n_1 wo_n_1 wr_n_1 kn_p_1 nx_p_1 ke_p_1 men_a_1 md_a_1 day_a_1 drw_a_1 bu_a_1 st_a_1 ki_a_1 we_a_1 wo_a_1 wr_a_1 kn_q_1 nx_q_1 ke_q_1 men_t_1 md_t_1 day_t_1 drw_t_1 bu_t_1 st_t_1 ki_t_1 we_t_1 wo_t_1 wr_t_1 ln_T_1 plc_T_1 ltr_T_1 worn_h_1 few_h_1 bc_h_1 ld_h_1 so_h_1 tr_h_1 be_h_1 wy_h_1 th_r_1 lan_r_1 siz_r_1 itm_r_1 ltr_M_1 pos_M_1 num_M_1 isk_M_1 bm_M_1 bch_M_1 lan_M_1 siz_M_1 itm_M_1 tap_M_1 now_M_1 r130.2 rd_M_1 kp_M_1 bes_M_1 _ _ _ _ hf hP hS hG_x hG_n hG_p hG_a hG_q hG_t hG_T hG_h hG_r hG_M (lv_sub hl [1, 2, 3, 0] rfl)
        · have hf := ifn hf c131
          refine lv_iconst (v := 0) X.1 X.2.1 dL_law_611 (by decide) ?_
          exact absurd (Option.some.inj hf) (by decide)
      have hf := ifn hf w128
      by_cases w133 : ((xs (Int32.toNatClampNeg v3_1)) &&& 31) = 17
      · have hf := ifp hf w133
        refine lv_tableIn (tgt := 613) X.1 X.2.1 dL_law_33 (by rw [w133]; decide) (by rw [w133]; decide) (off := 580) (by rw [w133]; decide) (by decide) ?_
        refine lv_aload_n X.1 X.2.1 dL_law_613 rfl (lv_at hl 1 rfl) ?_
        refine lv_aload_n X.1 X.2.1 dL_law_614 rfl (lv_at hl 0 rfl) ?_
        refine lv_iload_n X.1 X.2.1 dL_law_615 rfl (lv_at hl 3 rfl) ?_
        refine lv_iconst (v := 1) X.1 X.2.1 dL_law_616 (by decide) ?_
        refine lv_iadd X.1 X.2.1 dL_law_617 ?_
        obtain ⟨hi134, hf⟩ := gin_of hf
        refine va_sld X.1 X.2.1 hX hbl hbA hS hi134 dL_law_618 ?_
        obtain ⟨r135, hr135, hf⟩ := bd_of hf
        refine xl_callVi ⟨by decide, by decide⟩ X hP hS hG_x (by omega) rfl (n := 1) (As := [.int (xs (Int32.toNatClampNeg (v3_1 + 1)))]) (ct_X5_even hG_x hG_n hG_h hr135) gL_law_X5_even rfl (by decide +kernel) ⟨by decide, by decide⟩ rfl hl.1 rfl (Nat.le_of_ble_eq_true rfl) dL_law_619 (fun E H locs hp hP hS => ?_)
        obtain ⟨hW_h, hk⟩ := hp
        have hG_h := hW_h
        have hG_x := Xo_kept hG_x (fun j h8 h9 => hk j (by omega))
        have hG_n := Mu_kept hG_n (fun j h8 h9 => hk j (by omega))
        have hG_p := Pa_kept hG_p (fun j h8 h9 => hk j (by omega))
        have hG_a := Mu_kept hG_a (fun j h8 h9 => hk j (by omega))
        have hG_q := Pa_kept hG_q (fun j h8 h9 => hk j (by omega))
        have hG_t := Mu_kept hG_t (fun j h8 h9 => hk j (by omega))
        have hG_T := Ta_kept hG_T (fun j h8 h9 => hk j (by omega))
        have hG_r := Rs_kept hG_r (fun j h8 h9 => hk j (by omega))
        have hG_M := Mo_kept hG_M (fun j h8 h9 => hk j (by omega))
        refine lv_aload_n X.1 X.2.1 dL_law_622 rfl (lv_at hl 2 rfl) ?_
        refine lv_aload_n X.1 X.2.1 dL_law_623 rfl (lv_at hl 0 rfl) ?_
        refine lv_iload_n X.1 X.2.1 dL_law_624 rfl (lv_at hl 3 rfl) ?_
        refine lv_iconst (v := 1) X.1 X.2.1 dL_law_625 (by decide) ?_
        refine lv_iadd X.1 X.2.1 dL_law_626 ?_
        obtain ⟨hi136, hf⟩ := gin_of hf
        refine va_sld X.1 X.2.1 hX hbl hbA hS hi136 dL_law_627 ?_
        obtain ⟨r137, hr137, hf⟩ := bd_of hf
        refine xl_callVi ⟨by decide, by decide⟩ X hP hS hG_M.1 (by omega) rfl (n := 1) (As := [.int (xs (Int32.toNatClampNeg (v3_1 + 1)))]) (ct_X6_even hG_M hr137) gL_law_X6_even rfl (by decide +kernel) ⟨by decide, by decide⟩ rfl hl.1 rfl (Nat.le_of_ble_eq_true rfl) dL_law_628 (fun E H locs hp hP hS => ?_)
        obtain ⟨hW_M, hk⟩ := hp
        have hG_M := hW_M
        have hG_x := Xo_kept hG_x (fun j h8 h9 => hk j (by omega))
        have hG_n := Mu_kept hG_n (fun j h8 h9 => hk j (by omega))
        have hG_p := Pa_kept hG_p (fun j h8 h9 => hk j (by omega))
        have hG_a := Mu_kept hG_a (fun j h8 h9 => hk j (by omega))
        have hG_q := Pa_kept hG_q (fun j h8 h9 => hk j (by omega))
        have hG_t := Mu_kept hG_t (fun j h8 h9 => hk j (by omega))
        have hG_T := Ta_kept hG_T (fun j h8 h9 => hk j (by omega))
        have hG_h := Ha_kept hG_h (fun j h8 h9 => hk j (by omega))
        have hG_r := Rs_kept hG_r (fun j h8 h9 => hk j (by omega))
        refine lv_icmp_eq (tgt := 1169) X.1 X.2.1 dL_law_631 (by decide) (fun c138 => ?_) (fun c138 => ?_)
        · have hf := ifp hf c138
          obtain ⟨x139, ex139, hf⟩ := nm_of hf
          refine lv_iinc (v := x139) (lv' := [(3, .int x139), (0, .ref b), (1, .ref (qa 0)), (2, .ref (qa 64))]) X.1 X.2.1 dL_law_1169 hl (k := 3) rfl (by rw [ex139]; rfl) (by decide) rfl (fun ls hl => ?_)
          refine lv_goto (tgt := 18) X.1 X.2.1 dL_law_1172 (by decide) ?_
          exact ih1 x139 img_x_1 men_n_1 md_n_1 day_n_1 drw_n_1 bu_n_1 st_n_1 ki_n_1 we_n_1 wo_n_1 wr_n_1 kn_p_1 nx_p_1 ke_p_1 men_a_1 md_a_1 day_a_1 drw_a_1 bu_a_1 st_a_1 ki_a_1 we_a_1 wo_a_1 wr_a_1 kn_q_1 nx_q_1 ke_q_1 men_t_1 md_t_1 day_t_1 drw_t_1 bu_t_1 st_t_1 ki_t_1 we_t_1 wo_t_1 wr_t_1 ln_T_1 plc_T_1 ltr_T_1 r135.2.1 r135.2.2.1 r135.2.2.2.1 r135.2.2.2.2.1 r135.2.2.2.2.2.1 r135.2.2.2.2.2.2.1 r135.2.2.2.2.2.2.2 wy_h_1 th_r_1 lan_r_1 siz_r_1 itm_r_1 ltr_M_1 pos_M_1 num_M_1 isk_M_1 r137.2.1 r137.2.2.1 lan_M_1 siz_M_1 itm_M_1 tap_M_1 now_M_1 r137.2.2.2.1 rd_M_1 kp_M_1 r137.2.2.2.2 _ _ _ _ hf hP hS hG_x hG_n hG_p hG_a hG_q hG_t hG_T hG_h hG_r hG_M (lv_sub hl [1, 2, 3, 0] rfl)
        · have hf := ifn hf c138
          refine lv_iconst (v := 0) X.1 X.2.1 dL_law_634 (by decide) ?_
          exact absurd (Option.some.inj hf) (by decide)
      have hf := ifn hf w133
      by_cases w140 : ((xs (Int32.toNatClampNeg v3_1)) &&& 31) = 18
      · have hf := ifp hf w140
        refine lv_tableIn (tgt := 636) X.1 X.2.1 dL_law_33 (by rw [w140]; decide) (by rw [w140]; decide) (off := 603) (by rw [w140]; decide) (by decide) ?_
        refine lv_aload_n X.1 X.2.1 dL_law_636 rfl (lv_at hl 1 rfl) ?_
        refine lv_aload_n X.1 X.2.1 dL_law_637 rfl (lv_at hl 0 rfl) ?_
        refine lv_iload_n X.1 X.2.1 dL_law_638 rfl (lv_at hl 3 rfl) ?_
        refine lv_iconst (v := 1) X.1 X.2.1 dL_law_639 (by decide) ?_
        refine lv_iadd X.1 X.2.1 dL_law_640 ?_
        obtain ⟨hi141, hf⟩ := gin_of hf
        refine va_sld X.1 X.2.1 hX hbl hbA hS hi141 dL_law_641 ?_
        obtain ⟨r142, hr142, hf⟩ := bd_of hf
        refine xl_callVi ⟨by decide, by decide⟩ X hP hS hG_x (by omega) rfl (n := 1) (As := [.int (xs (Int32.toNatClampNeg (v3_1 + 1)))]) (ct_X5_few hG_x hG_n hG_h hr142) gL_law_X5_few rfl (by decide +kernel) ⟨by decide, by decide⟩ rfl hl.1 rfl (Nat.le_of_ble_eq_true rfl) dL_law_642 (fun E H locs hp hP hS => ?_)
        obtain ⟨hW_h, hk⟩ := hp
        have hG_h := hW_h
        have hG_x := Xo_kept hG_x (fun j h8 h9 => hk j (by omega))
        have hG_n := Mu_kept hG_n (fun j h8 h9 => hk j (by omega))
        have hG_p := Pa_kept hG_p (fun j h8 h9 => hk j (by omega))
        have hG_a := Mu_kept hG_a (fun j h8 h9 => hk j (by omega))
        have hG_q := Pa_kept hG_q (fun j h8 h9 => hk j (by omega))
        have hG_t := Mu_kept hG_t (fun j h8 h9 => hk j (by omega))
        have hG_T := Ta_kept hG_T (fun j h8 h9 => hk j (by omega))
        have hG_r := Rs_kept hG_r (fun j h8 h9 => hk j (by omega))
        have hG_M := Mo_kept hG_M (fun j h8 h9 => hk j (by omega))
        refine lv_aload_n X.1 X.2.1 dL_law_645 rfl (lv_at hl 2 rfl) ?_
        refine lv_aload_n X.1 X.2.1 dL_law_646 rfl (lv_at hl 0 rfl) ?_
        refine lv_iload_n X.1 X.2.1 dL_law_647 rfl (lv_at hl 3 rfl) ?_
        refine lv_iconst (v := 1) X.1 X.2.1 dL_law_648 (by decide) ?_
        refine lv_iadd X.1 X.2.1 dL_law_649 ?_
        obtain ⟨hi143, hf⟩ := gin_of hf
        refine va_sld X.1 X.2.1 hX hbl hbA hS hi143 dL_law_650 ?_
        obtain ⟨r144, hr144, hf⟩ := bd_of hf
        refine xl_callVi ⟨by decide, by decide⟩ X hP hS hG_M.1 (by omega) rfl (n := 1) (As := [.int (xs (Int32.toNatClampNeg (v3_1 + 1)))]) (ct_X6_few hG_M hr144) gL_law_X6_few rfl (by decide +kernel) ⟨by decide, by decide⟩ rfl hl.1 rfl (Nat.le_of_ble_eq_true rfl) dL_law_651 (fun E H locs hp hP hS => ?_)
        obtain ⟨hW_M, hk⟩ := hp
        have hG_M := hW_M
        have hG_x := Xo_kept hG_x (fun j h8 h9 => hk j (by omega))
        have hG_n := Mu_kept hG_n (fun j h8 h9 => hk j (by omega))
        have hG_p := Pa_kept hG_p (fun j h8 h9 => hk j (by omega))
        have hG_a := Mu_kept hG_a (fun j h8 h9 => hk j (by omega))
        have hG_q := Pa_kept hG_q (fun j h8 h9 => hk j (by omega))
        have hG_t := Mu_kept hG_t (fun j h8 h9 => hk j (by omega))
        have hG_T := Ta_kept hG_T (fun j h8 h9 => hk j (by omega))
        have hG_h := Ha_kept hG_h (fun j h8 h9 => hk j (by omega))
        have hG_r := Rs_kept hG_r (fun j h8 h9 => hk j (by omega))
        refine lv_icmp_eq (tgt := 1169) X.1 X.2.1 dL_law_654 (by decide) (fun c145 => ?_) (fun c145 => ?_)
        · have hf := ifp hf c145
          obtain ⟨x146, ex146, hf⟩ := nm_of hf
          refine lv_iinc (v := x146) (lv' := [(3, .int x146), (0, .ref b), (1, .ref (qa 0)), (2, .ref (qa 64))]) X.1 X.2.1 dL_law_1169 hl (k := 3) rfl (by rw [ex146]; rfl) (by decide) rfl (fun ls hl => ?_)
          refine lv_goto (tgt := 18) X.1 X.2.1 dL_law_1172 (by decide) ?_
          exact ih1 x146 img_x_1 men_n_1 md_n_1 day_n_1 drw_n_1 bu_n_1 st_n_1 ki_n_1 we_n_1 wo_n_1 wr_n_1 kn_p_1 nx_p_1 ke_p_1 men_a_1 md_a_1 day_a_1 drw_a_1 bu_a_1 st_a_1 ki_a_1 we_a_1 wo_a_1 wr_a_1 kn_q_1 nx_q_1 ke_q_1 men_t_1 md_t_1 day_t_1 drw_t_1 bu_t_1 st_t_1 ki_t_1 we_t_1 wo_t_1 wr_t_1 ln_T_1 plc_T_1 ltr_T_1 r142.2.1 r142.2.2.1 r142.2.2.2.1 r142.2.2.2.2.1 r142.2.2.2.2.2.1 r142.2.2.2.2.2.2.1 r142.2.2.2.2.2.2.2 wy_h_1 th_r_1 lan_r_1 siz_r_1 itm_r_1 ltr_M_1 pos_M_1 num_M_1 isk_M_1 r144.2.1 r144.2.2.1 lan_M_1 siz_M_1 itm_M_1 tap_M_1 now_M_1 r144.2.2.2.1 rd_M_1 kp_M_1 r144.2.2.2.2 _ _ _ _ hf hP hS hG_x hG_n hG_p hG_a hG_q hG_t hG_T hG_h hG_r hG_M (lv_sub hl [1, 2, 3, 0] rfl)
        · have hf := ifn hf c145
          refine lv_iconst (v := 0) X.1 X.2.1 dL_law_657 (by decide) ?_
          exact absurd (Option.some.inj hf) (by decide)
      have hf := ifn hf w140
      by_cases w147 : ((xs (Int32.toNatClampNeg v3_1)) &&& 31) = 19
      · have hf := ifp hf w147
        refine lv_tableIn (tgt := 659) X.1 X.2.1 dL_law_33 (by rw [w147]; decide) (by rw [w147]; decide) (off := 626) (by rw [w147]; decide) (by decide) ?_
        refine lv_aload_n X.1 X.2.1 dL_law_659 rfl (lv_at hl 1 rfl) ?_
        refine lv_aload_n X.1 X.2.1 dL_law_660 rfl (lv_at hl 0 rfl) ?_
        refine lv_iload_n X.1 X.2.1 dL_law_661 rfl (lv_at hl 3 rfl) ?_
        refine lv_iconst (v := 1) X.1 X.2.1 dL_law_662 (by decide) ?_
        refine lv_iadd X.1 X.2.1 dL_law_663 ?_
        obtain ⟨hi148, hf⟩ := gin_of hf
        refine va_sld X.1 X.2.1 hX hbl hbA hS hi148 dL_law_664 ?_
        refine lv_aload_n X.1 X.2.1 dL_law_665 rfl (lv_at hl 0 rfl) ?_
        refine lv_iload_n X.1 X.2.1 dL_law_666 rfl (lv_at hl 3 rfl) ?_
        refine lv_iconst (v := 2) X.1 X.2.1 dL_law_667 (by decide) ?_
        refine lv_iadd X.1 X.2.1 dL_law_668 ?_
        obtain ⟨hi149, hf⟩ := gin_of hf
        refine va_sld X.1 X.2.1 hX hbl hbA hS hi149 dL_law_669 ?_
        obtain ⟨r150, hr150, hf⟩ := bd_of hf
        refine xl_callVi ⟨by decide, by decide⟩ X hP hS hG_x (by omega) rfl (n := 2) (As := [.int (xs (Int32.toNatClampNeg (v3_1 + 1))), .int (xs (Int32.toNatClampNeg (v3_1 + 2)))]) (ct_X5_off hG_x hG_n hG_t hr150) gL_law_X5_off rfl (by decide +kernel) ⟨by decide, by decide⟩ rfl hl.1 rfl (Nat.le_of_ble_eq_true rfl) dL_law_670 (fun E H locs hp hP hS => ?_)
        obtain ⟨hW_t, hk⟩ := hp
        have hG_t := hW_t
        have hG_x := Xo_kept hG_x (fun j h8 h9 => hk j (by omega))
        have hG_n := Mu_kept hG_n (fun j h8 h9 => hk j (by omega))
        have hG_p := Pa_kept hG_p (fun j h8 h9 => hk j (by omega))
        have hG_a := Mu_kept hG_a (fun j h8 h9 => hk j (by omega))
        have hG_q := Pa_kept hG_q (fun j h8 h9 => hk j (by omega))
        have hG_T := Ta_kept hG_T (fun j h8 h9 => hk j (by omega))
        have hG_h := Ha_kept hG_h (fun j h8 h9 => hk j (by omega))
        have hG_r := Rs_kept hG_r (fun j h8 h9 => hk j (by omega))
        have hG_M := Mo_kept hG_M (fun j h8 h9 => hk j (by omega))
        refine lv_aload_n X.1 X.2.1 dL_law_673 rfl (lv_at hl 2 rfl) ?_
        refine lv_aload_n X.1 X.2.1 dL_law_674 rfl (lv_at hl 0 rfl) ?_
        refine lv_iload_n X.1 X.2.1 dL_law_675 rfl (lv_at hl 3 rfl) ?_
        refine lv_iconst (v := 1) X.1 X.2.1 dL_law_676 (by decide) ?_
        refine lv_iadd X.1 X.2.1 dL_law_677 ?_
        obtain ⟨hi151, hf⟩ := gin_of hf
        refine va_sld X.1 X.2.1 hX hbl hbA hS hi151 dL_law_678 ?_
        refine lv_aload_n X.1 X.2.1 dL_law_679 rfl (lv_at hl 0 rfl) ?_
        refine lv_iload_n X.1 X.2.1 dL_law_680 rfl (lv_at hl 3 rfl) ?_
        refine lv_iconst (v := 2) X.1 X.2.1 dL_law_681 (by decide) ?_
        refine lv_iadd X.1 X.2.1 dL_law_682 ?_
        obtain ⟨hi152, hf⟩ := gin_of hf
        refine va_sld X.1 X.2.1 hX hbl hbA hS hi152 dL_law_683 ?_
        obtain ⟨r153, hr153, hf⟩ := bd_of hf
        refine xl_callVi ⟨by decide, by decide⟩ X hP hS hG_M.1 (by omega) rfl (n := 2) (As := [.int (xs (Int32.toNatClampNeg (v3_1 + 1))), .int (xs (Int32.toNatClampNeg (v3_1 + 2)))]) (ct_X6_off hG_M hr153) gL_law_X6_off rfl (by decide +kernel) ⟨by decide, by decide⟩ rfl hl.1 rfl (Nat.le_of_ble_eq_true rfl) dL_law_684 (fun E H locs hp hP hS => ?_)
        obtain ⟨hW_M, hk⟩ := hp
        have hG_M := hW_M
        have hG_x := Xo_kept hG_x (fun j h8 h9 => hk j (by omega))
        have hG_n := Mu_kept hG_n (fun j h8 h9 => hk j (by omega))
        have hG_p := Pa_kept hG_p (fun j h8 h9 => hk j (by omega))
        have hG_a := Mu_kept hG_a (fun j h8 h9 => hk j (by omega))
        have hG_q := Pa_kept hG_q (fun j h8 h9 => hk j (by omega))
        have hG_t := Mu_kept hG_t (fun j h8 h9 => hk j (by omega))
        have hG_T := Ta_kept hG_T (fun j h8 h9 => hk j (by omega))
        have hG_h := Ha_kept hG_h (fun j h8 h9 => hk j (by omega))
        have hG_r := Rs_kept hG_r (fun j h8 h9 => hk j (by omega))
        refine lv_icmp_eq (tgt := 1169) X.1 X.2.1 dL_law_687 (by decide) (fun c154 => ?_) (fun c154 => ?_)
        · have hf := ifp hf c154
          obtain ⟨x155, ex155, hf⟩ := nm_of hf
          refine lv_iinc (v := x155) (lv' := [(3, .int x155), (0, .ref b), (1, .ref (qa 0)), (2, .ref (qa 64))]) X.1 X.2.1 dL_law_1169 hl (k := 3) rfl (by rw [ex155]; rfl) (by decide) rfl (fun ls hl => ?_)
          refine lv_goto (tgt := 18) X.1 X.2.1 dL_law_1172 (by decide) ?_
          exact ih1 x155 img_x_1 men_n_1 md_n_1 day_n_1 drw_n_1 bu_n_1 st_n_1 ki_n_1 we_n_1 wo_n_1 wr_n_1 kn_p_1 nx_p_1 ke_p_1 men_a_1 md_a_1 day_a_1 drw_a_1 bu_a_1 st_a_1 ki_a_1 we_a_1 wo_a_1 wr_a_1 kn_q_1 nx_q_1 ke_q_1 r150.2.1 r150.2.2.1 r150.2.2.2.1 r150.2.2.2.2.1 r150.2.2.2.2.2.1 r150.2.2.2.2.2.2.1 r150.2.2.2.2.2.2.2.1 r150.2.2.2.2.2.2.2.2.1 r150.2.2.2.2.2.2.2.2.2.1 r150.2.2.2.2.2.2.2.2.2.2 ln_T_1 plc_T_1 ltr_T_1 worn_h_1 few_h_1 bc_h_1 ld_h_1 so_h_1 tr_h_1 be_h_1 wy_h_1 th_r_1 lan_r_1 siz_r_1 itm_r_1 ltr_M_1 pos_M_1 num_M_1 isk_M_1 bm_M_1 bch_M_1 lan_M_1 siz_M_1 itm_M_1 tap_M_1 now_M_1 r153.2 rd_M_1 kp_M_1 bes_M_1 _ _ _ _ hf hP hS hG_x hG_n hG_p hG_a hG_q hG_t hG_T hG_h hG_r hG_M (lv_sub hl [1, 2, 3, 0] rfl)
        · have hf := ifn hf c154
          refine lv_iconst (v := 0) X.1 X.2.1 dL_law_690 (by decide) ?_
          exact absurd (Option.some.inj hf) (by decide)
      have hf := ifn hf w147
      by_cases w156 : ((xs (Int32.toNatClampNeg v3_1)) &&& 31) = 20
      · have hf := ifp hf w156
        refine lv_tableIn (tgt := 692) X.1 X.2.1 dL_law_33 (by rw [w156]; decide) (by rw [w156]; decide) (off := 659) (by rw [w156]; decide) (by decide) ?_
        refine lv_aload_n X.1 X.2.1 dL_law_692 rfl (lv_at hl 1 rfl) ?_
        refine lv_aload_n X.1 X.2.1 dL_law_693 rfl (lv_at hl 0 rfl) ?_
        refine lv_iload_n X.1 X.2.1 dL_law_694 rfl (lv_at hl 3 rfl) ?_
        refine lv_iconst (v := 1) X.1 X.2.1 dL_law_695 (by decide) ?_
        refine lv_iadd X.1 X.2.1 dL_law_696 ?_
        obtain ⟨hi157, hf⟩ := gin_of hf
        refine va_sld X.1 X.2.1 hX hbl hbA hS hi157 dL_law_697 ?_
        refine lv_aload_n X.1 X.2.1 dL_law_698 rfl (lv_at hl 0 rfl) ?_
        refine lv_iload_n X.1 X.2.1 dL_law_699 rfl (lv_at hl 3 rfl) ?_
        refine lv_iconst (v := 2) X.1 X.2.1 dL_law_700 (by decide) ?_
        refine lv_iadd X.1 X.2.1 dL_law_701 ?_
        obtain ⟨hi158, hf⟩ := gin_of hf
        refine va_sld X.1 X.2.1 hX hbl hbA hS hi158 dL_law_702 ?_
        obtain ⟨r159, hr159, hf⟩ := bd_of hf
        refine xl_rdVi ⟨by decide, by decide⟩ X hP hS hG_x (by omega) rfl (n := 2) (As := [.int (xs (Int32.toNatClampNeg (v3_1 + 1))), .int (xs (Int32.toNatClampNeg (v3_1 + 2)))]) (ct_X5_needs hG_x hG_n hr159) gL_law_X5_needs rfl (by decide +kernel) ⟨by decide, by decide⟩ rfl hl.1 rfl (Nat.le_of_ble_eq_true rfl) dL_law_703 (fun H locs hP hS => ?_)
        refine lv_aload_n X.1 X.2.1 dL_law_706 rfl (lv_at hl 2 rfl) ?_
        refine lv_aload_n X.1 X.2.1 dL_law_707 rfl (lv_at hl 0 rfl) ?_
        refine lv_iload_n X.1 X.2.1 dL_law_708 rfl (lv_at hl 3 rfl) ?_
        refine lv_iconst (v := 1) X.1 X.2.1 dL_law_709 (by decide) ?_
        refine lv_iadd X.1 X.2.1 dL_law_710 ?_
        obtain ⟨hi160, hf⟩ := gin_of hf
        refine va_sld X.1 X.2.1 hX hbl hbA hS hi160 dL_law_711 ?_
        refine lv_aload_n X.1 X.2.1 dL_law_712 rfl (lv_at hl 0 rfl) ?_
        refine lv_iload_n X.1 X.2.1 dL_law_713 rfl (lv_at hl 3 rfl) ?_
        refine lv_iconst (v := 2) X.1 X.2.1 dL_law_714 (by decide) ?_
        refine lv_iadd X.1 X.2.1 dL_law_715 ?_
        obtain ⟨hi161, hf⟩ := gin_of hf
        refine va_sld X.1 X.2.1 hX hbl hbA hS hi161 dL_law_716 ?_
        obtain ⟨r162, hr162, hf⟩ := bd_of hf
        refine xl_callVi ⟨by decide, by decide⟩ X hP hS hG_M.1 (by omega) rfl (n := 2) (As := [.int (xs (Int32.toNatClampNeg (v3_1 + 1))), .int (xs (Int32.toNatClampNeg (v3_1 + 2)))]) (ct_X6_needs hG_M hr162) gL_law_X6_needs rfl (by decide +kernel) ⟨by decide, by decide⟩ rfl hl.1 rfl (Nat.le_of_ble_eq_true rfl) dL_law_717 (fun E H locs hp hP hS => ?_)
        obtain ⟨hW_M, hk⟩ := hp
        have hG_M := hW_M
        have hG_x := Xo_kept hG_x (fun j h8 h9 => hk j (by omega))
        have hG_n := Mu_kept hG_n (fun j h8 h9 => hk j (by omega))
        have hG_p := Pa_kept hG_p (fun j h8 h9 => hk j (by omega))
        have hG_a := Mu_kept hG_a (fun j h8 h9 => hk j (by omega))
        have hG_q := Pa_kept hG_q (fun j h8 h9 => hk j (by omega))
        have hG_t := Mu_kept hG_t (fun j h8 h9 => hk j (by omega))
        have hG_T := Ta_kept hG_T (fun j h8 h9 => hk j (by omega))
        have hG_h := Ha_kept hG_h (fun j h8 h9 => hk j (by omega))
        have hG_r := Rs_kept hG_r (fun j h8 h9 => hk j (by omega))
        refine lv_icmp_eq (tgt := 1169) X.1 X.2.1 dL_law_720 (by decide) (fun c163 => ?_) (fun c163 => ?_)
        · have hf := ifp hf c163
          obtain ⟨x164, ex164, hf⟩ := nm_of hf
          refine lv_iinc (v := x164) (lv' := [(3, .int x164), (0, .ref b), (1, .ref (qa 0)), (2, .ref (qa 64))]) X.1 X.2.1 dL_law_1169 hl (k := 3) rfl (by rw [ex164]; rfl) (by decide) rfl (fun ls hl => ?_)
          refine lv_goto (tgt := 18) X.1 X.2.1 dL_law_1172 (by decide) ?_
          exact ih1 x164 img_x_1 men_n_1 md_n_1 day_n_1 drw_n_1 bu_n_1 st_n_1 ki_n_1 we_n_1 wo_n_1 wr_n_1 kn_p_1 nx_p_1 ke_p_1 men_a_1 md_a_1 day_a_1 drw_a_1 bu_a_1 st_a_1 ki_a_1 we_a_1 wo_a_1 wr_a_1 kn_q_1 nx_q_1 ke_q_1 men_t_1 md_t_1 day_t_1 drw_t_1 bu_t_1 st_t_1 ki_t_1 we_t_1 wo_t_1 wr_t_1 ln_T_1 plc_T_1 ltr_T_1 worn_h_1 few_h_1 bc_h_1 ld_h_1 so_h_1 tr_h_1 be_h_1 wy_h_1 th_r_1 lan_r_1 siz_r_1 itm_r_1 ltr_M_1 pos_M_1 num_M_1 isk_M_1 bm_M_1 bch_M_1 lan_M_1 siz_M_1 itm_M_1 tap_M_1 now_M_1 r162.2 rd_M_1 kp_M_1 bes_M_1 _ _ _ _ hf hP hS hG_x hG_n hG_p hG_a hG_q hG_t hG_T hG_h hG_r hG_M (lv_sub hl [1, 2, 3, 0] rfl)
        · have hf := ifn hf c163
          refine lv_iconst (v := 0) X.1 X.2.1 dL_law_723 (by decide) ?_
          exact absurd (Option.some.inj hf) (by decide)
      have hf := ifn hf w156
      by_cases w165 : ((xs (Int32.toNatClampNeg v3_1)) &&& 31) = 21
      · have hf := ifp hf w165
        refine lv_tableIn (tgt := 725) X.1 X.2.1 dL_law_33 (by rw [w165]; decide) (by rw [w165]; decide) (off := 692) (by rw [w165]; decide) (by decide) ?_
        refine lv_aload_n X.1 X.2.1 dL_law_725 rfl (lv_at hl 1 rfl) ?_
        refine lv_aload_n X.1 X.2.1 dL_law_726 rfl (lv_at hl 0 rfl) ?_
        refine lv_iload_n X.1 X.2.1 dL_law_727 rfl (lv_at hl 3 rfl) ?_
        refine lv_iconst (v := 1) X.1 X.2.1 dL_law_728 (by decide) ?_
        refine lv_iadd X.1 X.2.1 dL_law_729 ?_
        obtain ⟨hi166, hf⟩ := gin_of hf
        refine va_sld X.1 X.2.1 hX hbl hbA hS hi166 dL_law_730 ?_
        obtain ⟨r167, hr167, hf⟩ := bd_of hf
        refine xl_rdVi ⟨by decide, by decide⟩ X hP hS hG_x (by omega) rfl (n := 1) (As := [.int (xs (Int32.toNatClampNeg (v3_1 + 1)))]) (ct_X5_two hG_x hG_n hr167) gL_law_X5_two rfl (by decide +kernel) ⟨by decide, by decide⟩ rfl hl.1 rfl (Nat.le_of_ble_eq_true rfl) dL_law_731 (fun H locs hP hS => ?_)
        refine lv_aload_n X.1 X.2.1 dL_law_734 rfl (lv_at hl 2 rfl) ?_
        refine lv_aload_n X.1 X.2.1 dL_law_735 rfl (lv_at hl 0 rfl) ?_
        refine lv_iload_n X.1 X.2.1 dL_law_736 rfl (lv_at hl 3 rfl) ?_
        refine lv_iconst (v := 1) X.1 X.2.1 dL_law_737 (by decide) ?_
        refine lv_iadd X.1 X.2.1 dL_law_738 ?_
        obtain ⟨hi168, hf⟩ := gin_of hf
        refine va_sld X.1 X.2.1 hX hbl hbA hS hi168 dL_law_739 ?_
        obtain ⟨r169, hr169, hf⟩ := bd_of hf
        refine xl_callVi ⟨by decide, by decide⟩ X hP hS hG_M.1 (by omega) rfl (n := 1) (As := [.int (xs (Int32.toNatClampNeg (v3_1 + 1)))]) (ct_X6_two hG_M hr169) gL_law_X6_two rfl (by decide +kernel) ⟨by decide, by decide⟩ rfl hl.1 rfl (Nat.le_of_ble_eq_true rfl) dL_law_740 (fun E H locs hp hP hS => ?_)
        obtain ⟨hW_M, hk⟩ := hp
        have hG_M := hW_M
        have hG_x := Xo_kept hG_x (fun j h8 h9 => hk j (by omega))
        have hG_n := Mu_kept hG_n (fun j h8 h9 => hk j (by omega))
        have hG_p := Pa_kept hG_p (fun j h8 h9 => hk j (by omega))
        have hG_a := Mu_kept hG_a (fun j h8 h9 => hk j (by omega))
        have hG_q := Pa_kept hG_q (fun j h8 h9 => hk j (by omega))
        have hG_t := Mu_kept hG_t (fun j h8 h9 => hk j (by omega))
        have hG_T := Ta_kept hG_T (fun j h8 h9 => hk j (by omega))
        have hG_h := Ha_kept hG_h (fun j h8 h9 => hk j (by omega))
        have hG_r := Rs_kept hG_r (fun j h8 h9 => hk j (by omega))
        refine lv_icmp_eq (tgt := 1169) X.1 X.2.1 dL_law_743 (by decide) (fun c170 => ?_) (fun c170 => ?_)
        · have hf := ifp hf c170
          obtain ⟨x171, ex171, hf⟩ := nm_of hf
          refine lv_iinc (v := x171) (lv' := [(3, .int x171), (0, .ref b), (1, .ref (qa 0)), (2, .ref (qa 64))]) X.1 X.2.1 dL_law_1169 hl (k := 3) rfl (by rw [ex171]; rfl) (by decide) rfl (fun ls hl => ?_)
          refine lv_goto (tgt := 18) X.1 X.2.1 dL_law_1172 (by decide) ?_
          exact ih1 x171 img_x_1 men_n_1 md_n_1 day_n_1 drw_n_1 bu_n_1 st_n_1 ki_n_1 we_n_1 wo_n_1 wr_n_1 kn_p_1 nx_p_1 ke_p_1 men_a_1 md_a_1 day_a_1 drw_a_1 bu_a_1 st_a_1 ki_a_1 we_a_1 wo_a_1 wr_a_1 kn_q_1 nx_q_1 ke_q_1 men_t_1 md_t_1 day_t_1 drw_t_1 bu_t_1 st_t_1 ki_t_1 we_t_1 wo_t_1 wr_t_1 ln_T_1 plc_T_1 ltr_T_1 worn_h_1 few_h_1 bc_h_1 ld_h_1 so_h_1 tr_h_1 be_h_1 wy_h_1 th_r_1 lan_r_1 siz_r_1 itm_r_1 ltr_M_1 pos_M_1 num_M_1 isk_M_1 bm_M_1 bch_M_1 lan_M_1 siz_M_1 itm_M_1 tap_M_1 now_M_1 r169.2 rd_M_1 kp_M_1 bes_M_1 _ _ _ _ hf hP hS hG_x hG_n hG_p hG_a hG_q hG_t hG_T hG_h hG_r hG_M (lv_sub hl [1, 2, 3, 0] rfl)
        · have hf := ifn hf c170
          refine lv_iconst (v := 0) X.1 X.2.1 dL_law_746 (by decide) ?_
          exact absurd (Option.some.inj hf) (by decide)
      have hf := ifn hf w165
      by_cases w172 : ((xs (Int32.toNatClampNeg v3_1)) &&& 31) = 22
      · have hf := ifp hf w172
        refine lv_tableIn (tgt := 748) X.1 X.2.1 dL_law_33 (by rw [w172]; decide) (by rw [w172]; decide) (off := 715) (by rw [w172]; decide) (by decide) ?_
        refine lv_aload_n X.1 X.2.1 dL_law_748 rfl (lv_at hl 1 rfl) ?_
        refine lv_aload_n X.1 X.2.1 dL_law_749 rfl (lv_at hl 0 rfl) ?_
        refine lv_iload_n X.1 X.2.1 dL_law_750 rfl (lv_at hl 3 rfl) ?_
        refine lv_iconst (v := 1) X.1 X.2.1 dL_law_751 (by decide) ?_
        refine lv_iadd X.1 X.2.1 dL_law_752 ?_
        obtain ⟨hi173, hf⟩ := gin_of hf
        refine va_sld X.1 X.2.1 hX hbl hbA hS hi173 dL_law_753 ?_
        refine lv_aload_n X.1 X.2.1 dL_law_754 rfl (lv_at hl 0 rfl) ?_
        refine lv_iload_n X.1 X.2.1 dL_law_755 rfl (lv_at hl 3 rfl) ?_
        refine lv_iconst (v := 2) X.1 X.2.1 dL_law_756 (by decide) ?_
        refine lv_iadd X.1 X.2.1 dL_law_757 ?_
        obtain ⟨hi174, hf⟩ := gin_of hf
        refine va_sld X.1 X.2.1 hX hbl hbA hS hi174 dL_law_758 ?_
        obtain ⟨r175, hr175, hf⟩ := bd_of hf
        refine xl_callVi ⟨by decide, by decide⟩ X hP hS hG_x (by omega) rfl (n := 2) (As := [.int (xs (Int32.toNatClampNeg (v3_1 + 1))), .int (xs (Int32.toNatClampNeg (v3_1 + 2)))]) (ct_X5_error hG_x hG_n hG_h hr175) gL_law_X5_error rfl (by decide +kernel) ⟨by decide, by decide⟩ rfl hl.1 rfl (Nat.le_of_ble_eq_true rfl) dL_law_759 (fun E H locs hp hP hS => ?_)
        obtain ⟨hW_h, hk⟩ := hp
        have hG_h := hW_h
        have hG_x := Xo_kept hG_x (fun j h8 h9 => hk j (by omega))
        have hG_n := Mu_kept hG_n (fun j h8 h9 => hk j (by omega))
        have hG_p := Pa_kept hG_p (fun j h8 h9 => hk j (by omega))
        have hG_a := Mu_kept hG_a (fun j h8 h9 => hk j (by omega))
        have hG_q := Pa_kept hG_q (fun j h8 h9 => hk j (by omega))
        have hG_t := Mu_kept hG_t (fun j h8 h9 => hk j (by omega))
        have hG_T := Ta_kept hG_T (fun j h8 h9 => hk j (by omega))
        have hG_r := Rs_kept hG_r (fun j h8 h9 => hk j (by omega))
        have hG_M := Mo_kept hG_M (fun j h8 h9 => hk j (by omega))
        refine lv_aload_n X.1 X.2.1 dL_law_762 rfl (lv_at hl 2 rfl) ?_
        refine lv_aload_n X.1 X.2.1 dL_law_763 rfl (lv_at hl 0 rfl) ?_
        refine lv_iload_n X.1 X.2.1 dL_law_764 rfl (lv_at hl 3 rfl) ?_
        refine lv_iconst (v := 1) X.1 X.2.1 dL_law_765 (by decide) ?_
        refine lv_iadd X.1 X.2.1 dL_law_766 ?_
        obtain ⟨hi176, hf⟩ := gin_of hf
        refine va_sld X.1 X.2.1 hX hbl hbA hS hi176 dL_law_767 ?_
        refine lv_aload_n X.1 X.2.1 dL_law_768 rfl (lv_at hl 0 rfl) ?_
        refine lv_iload_n X.1 X.2.1 dL_law_769 rfl (lv_at hl 3 rfl) ?_
        refine lv_iconst (v := 2) X.1 X.2.1 dL_law_770 (by decide) ?_
        refine lv_iadd X.1 X.2.1 dL_law_771 ?_
        obtain ⟨hi177, hf⟩ := gin_of hf
        refine va_sld X.1 X.2.1 hX hbl hbA hS hi177 dL_law_772 ?_
        obtain ⟨r178, hr178, hf⟩ := bd_of hf
        refine xl_callVi ⟨by decide, by decide⟩ X hP hS hG_M.1 (by omega) rfl (n := 2) (As := [.int (xs (Int32.toNatClampNeg (v3_1 + 1))), .int (xs (Int32.toNatClampNeg (v3_1 + 2)))]) (ct_X6_error hG_M hr178) gL_law_X6_error rfl (by decide +kernel) ⟨by decide, by decide⟩ rfl hl.1 rfl (Nat.le_of_ble_eq_true rfl) dL_law_773 (fun E H locs hp hP hS => ?_)
        obtain ⟨hW_M, hk⟩ := hp
        have hG_M := hW_M
        have hG_x := Xo_kept hG_x (fun j h8 h9 => hk j (by omega))
        have hG_n := Mu_kept hG_n (fun j h8 h9 => hk j (by omega))
        have hG_p := Pa_kept hG_p (fun j h8 h9 => hk j (by omega))
        have hG_a := Mu_kept hG_a (fun j h8 h9 => hk j (by omega))
        have hG_q := Pa_kept hG_q (fun j h8 h9 => hk j (by omega))
        have hG_t := Mu_kept hG_t (fun j h8 h9 => hk j (by omega))
        have hG_T := Ta_kept hG_T (fun j h8 h9 => hk j (by omega))
        have hG_h := Ha_kept hG_h (fun j h8 h9 => hk j (by omega))
        have hG_r := Rs_kept hG_r (fun j h8 h9 => hk j (by omega))
        refine lv_icmp_eq (tgt := 1169) X.1 X.2.1 dL_law_776 (by decide) (fun c179 => ?_) (fun c179 => ?_)
        · have hf := ifp hf c179
          obtain ⟨x180, ex180, hf⟩ := nm_of hf
          refine lv_iinc (v := x180) (lv' := [(3, .int x180), (0, .ref b), (1, .ref (qa 0)), (2, .ref (qa 64))]) X.1 X.2.1 dL_law_1169 hl (k := 3) rfl (by rw [ex180]; rfl) (by decide) rfl (fun ls hl => ?_)
          refine lv_goto (tgt := 18) X.1 X.2.1 dL_law_1172 (by decide) ?_
          exact ih1 x180 img_x_1 men_n_1 md_n_1 day_n_1 drw_n_1 bu_n_1 st_n_1 ki_n_1 we_n_1 wo_n_1 wr_n_1 kn_p_1 nx_p_1 ke_p_1 men_a_1 md_a_1 day_a_1 drw_a_1 bu_a_1 st_a_1 ki_a_1 we_a_1 wo_a_1 wr_a_1 kn_q_1 nx_q_1 ke_q_1 men_t_1 md_t_1 day_t_1 drw_t_1 bu_t_1 st_t_1 ki_t_1 we_t_1 wo_t_1 wr_t_1 ln_T_1 plc_T_1 ltr_T_1 r175.2.1 few_h_1 bc_h_1 r175.2.2.1 so_h_1 tr_h_1 be_h_1 r175.2.2.2 th_r_1 lan_r_1 siz_r_1 itm_r_1 ltr_M_1 pos_M_1 num_M_1 isk_M_1 bm_M_1 bch_M_1 lan_M_1 siz_M_1 itm_M_1 tap_M_1 now_M_1 r178.2 rd_M_1 kp_M_1 bes_M_1 _ _ _ _ hf hP hS hG_x hG_n hG_p hG_a hG_q hG_t hG_T hG_h hG_r hG_M (lv_sub hl [1, 2, 3, 0] rfl)
        · have hf := ifn hf c179
          refine lv_iconst (v := 0) X.1 X.2.1 dL_law_779 (by decide) ?_
          exact absurd (Option.some.inj hf) (by decide)
      have hf := ifn hf w172
      by_cases w181 : ((xs (Int32.toNatClampNeg v3_1)) &&& 31) = 23
      · have hf := ifp hf w181
        refine lv_tableIn (tgt := 781) X.1 X.2.1 dL_law_33 (by rw [w181]; decide) (by rw [w181]; decide) (off := 748) (by rw [w181]; decide) (by decide) ?_
        refine lv_aload_n X.1 X.2.1 dL_law_781 rfl (lv_at hl 1 rfl) ?_
        obtain ⟨r182, hr182, hf⟩ := bd_of hf
        refine xl_callVi ⟨by decide, by decide⟩ X hP hS hG_x (by omega) rfl (n := 0) (As := []) (ct_X5_image hG_x hG_n hG_p hG_a hG_q hr182) gL_law_X5_image rfl (by decide +kernel) ⟨by decide, by decide⟩ rfl hl.1 rfl (Nat.le_of_ble_eq_true rfl) dL_law_782 (fun E H locs hp hP hS => ?_)
        obtain ⟨hW_x, hW_a, hW_q, hk⟩ := hp
        have hG_x := hW_x
        have hG_a := hW_a
        have hG_q := hW_q
        have hG_n := Mu_kept hG_n (fun j h8 h9 => hk j (by omega) (by omega) (by omega))
        have hG_p := Pa_kept hG_p (fun j h8 h9 => hk j (by omega) (by omega) (by omega))
        have hG_t := Mu_kept hG_t (fun j h8 h9 => hk j (by omega) (by omega) (by omega))
        have hG_T := Ta_kept hG_T (fun j h8 h9 => hk j (by omega) (by omega) (by omega))
        have hG_h := Ha_kept hG_h (fun j h8 h9 => hk j (by omega) (by omega) (by omega))
        have hG_r := Rs_kept hG_r (fun j h8 h9 => hk j (by omega) (by omega) (by omega))
        have hG_M := Mo_kept hG_M (fun j h8 h9 => hk j (by omega) (by omega) (by omega))
        refine lv_aload_n X.1 X.2.1 dL_law_785 rfl (lv_at hl 2 rfl) ?_
        obtain ⟨r183, hr183, hf⟩ := bd_of hf
        refine xl_callVi ⟨by decide, by decide⟩ X hP hS hG_M.1 (by omega) rfl (n := 0) (As := []) (ct_X6_image hG_M hr183) gL_law_X6_image rfl (by decide +kernel) ⟨by decide, by decide⟩ rfl hl.1 rfl (Nat.le_of_ble_eq_true rfl) dL_law_786 (fun E H locs hp hP hS => ?_)
        obtain ⟨hW_M, hk⟩ := hp
        have hG_M := hW_M
        have hG_x := Xo_kept hG_x (fun j h8 h9 => hk j (by omega))
        have hG_n := Mu_kept hG_n (fun j h8 h9 => hk j (by omega))
        have hG_p := Pa_kept hG_p (fun j h8 h9 => hk j (by omega))
        have hG_a := Mu_kept hG_a (fun j h8 h9 => hk j (by omega))
        have hG_q := Pa_kept hG_q (fun j h8 h9 => hk j (by omega))
        have hG_t := Mu_kept hG_t (fun j h8 h9 => hk j (by omega))
        have hG_T := Ta_kept hG_T (fun j h8 h9 => hk j (by omega))
        have hG_h := Ha_kept hG_h (fun j h8 h9 => hk j (by omega))
        have hG_r := Rs_kept hG_r (fun j h8 h9 => hk j (by omega))
        refine lv_icmp_eq (tgt := 1169) X.1 X.2.1 dL_law_789 (by decide) (fun c184 => ?_) (fun c184 => ?_)
        · have hf := ifp hf c184
          obtain ⟨x185, ex185, hf⟩ := nm_of hf
          refine lv_iinc (v := x185) (lv' := [(3, .int x185), (0, .ref b), (1, .ref (qa 0)), (2, .ref (qa 64))]) X.1 X.2.1 dL_law_1169 hl (k := 3) rfl (by rw [ex185]; rfl) (by decide) rfl (fun ls hl => ?_)
          refine lv_goto (tgt := 18) X.1 X.2.1 dL_law_1172 (by decide) ?_
          exact ih1 x185 r182.2.1 men_n_1 md_n_1 day_n_1 drw_n_1 bu_n_1 st_n_1 ki_n_1 we_n_1 wo_n_1 wr_n_1 kn_p_1 nx_p_1 ke_p_1 r182.2.2.1 r182.2.2.2.1 r182.2.2.2.2.1 r182.2.2.2.2.2.1 r182.2.2.2.2.2.2.1 r182.2.2.2.2.2.2.2.1 r182.2.2.2.2.2.2.2.2.1 r182.2.2.2.2.2.2.2.2.2.1 r182.2.2.2.2.2.2.2.2.2.2.1 r182.2.2.2.2.2.2.2.2.2.2.2.1 r182.2.2.2.2.2.2.2.2.2.2.2.2.1 r182.2.2.2.2.2.2.2.2.2.2.2.2.2.1 r182.2.2.2.2.2.2.2.2.2.2.2.2.2.2 men_t_1 md_t_1 day_t_1 drw_t_1 bu_t_1 st_t_1 ki_t_1 we_t_1 wo_t_1 wr_t_1 ln_T_1 plc_T_1 ltr_T_1 worn_h_1 few_h_1 bc_h_1 ld_h_1 so_h_1 tr_h_1 be_h_1 wy_h_1 th_r_1 lan_r_1 siz_r_1 itm_r_1 ltr_M_1 pos_M_1 num_M_1 r183.2.1 bm_M_1 bch_M_1 lan_M_1 siz_M_1 itm_M_1 tap_M_1 now_M_1 tri_M_1 rd_M_1 r183.2.2 bes_M_1 _ _ _ _ hf hP hS hG_x hG_n hG_p hG_a hG_q hG_t hG_T hG_h hG_r hG_M (lv_sub hl [1, 2, 3, 0] rfl)
        · have hf := ifn hf c184
          refine lv_iconst (v := 0) X.1 X.2.1 dL_law_792 (by decide) ?_
          exact absurd (Option.some.inj hf) (by decide)
      have hf := ifn hf w181
      by_cases w186 : ((xs (Int32.toNatClampNeg v3_1)) &&& 31) = 24
      · have hf := ifp hf w186
        refine lv_tableIn (tgt := 794) X.1 X.2.1 dL_law_33 (by rw [w186]; decide) (by rw [w186]; decide) (off := 761) (by rw [w186]; decide) (by decide) ?_
        refine lv_aload_n X.1 X.2.1 dL_law_794 rfl (lv_at hl 1 rfl) ?_
        obtain ⟨r187, hr187, hf⟩ := bd_of hf
        refine xl_callVi ⟨by decide, by decide⟩ X hP hS hG_x (by omega) rfl (n := 0) (As := []) (ct_X5_restore hG_x hG_n hG_p hG_a hG_q hr187) gL_law_X5_restore rfl (by decide +kernel) ⟨by decide, by decide⟩ rfl hl.1 rfl (Nat.le_of_ble_eq_true rfl) dL_law_795 (fun E H locs hp hP hS => ?_)
        obtain ⟨hW_n, hW_p, hk⟩ := hp
        have hG_n := hW_n
        have hG_p := hW_p
        have hG_x := Xo_kept hG_x (fun j h8 h9 => hk j (by omega) (by omega))
        have hG_a := Mu_kept hG_a (fun j h8 h9 => hk j (by omega) (by omega))
        have hG_q := Pa_kept hG_q (fun j h8 h9 => hk j (by omega) (by omega))
        have hG_t := Mu_kept hG_t (fun j h8 h9 => hk j (by omega) (by omega))
        have hG_T := Ta_kept hG_T (fun j h8 h9 => hk j (by omega) (by omega))
        have hG_h := Ha_kept hG_h (fun j h8 h9 => hk j (by omega) (by omega))
        have hG_r := Rs_kept hG_r (fun j h8 h9 => hk j (by omega) (by omega))
        have hG_M := Mo_kept hG_M (fun j h8 h9 => hk j (by omega) (by omega))
        refine lv_aload_n X.1 X.2.1 dL_law_798 rfl (lv_at hl 2 rfl) ?_
        obtain ⟨r188, hr188, hf⟩ := bd_of hf
        refine xl_callVi ⟨by decide, by decide⟩ X hP hS hG_M.1 (by omega) rfl (n := 0) (As := []) (ct_X6_restore hG_M hr188) gL_law_X6_restore rfl (by decide +kernel) ⟨by decide, by decide⟩ rfl hl.1 rfl (Nat.le_of_ble_eq_true rfl) dL_law_799 (fun E H locs hp hP hS => ?_)
        obtain ⟨hW_M, hk⟩ := hp
        have hG_M := hW_M
        have hG_x := Xo_kept hG_x (fun j h8 h9 => hk j (by omega))
        have hG_n := Mu_kept hG_n (fun j h8 h9 => hk j (by omega))
        have hG_p := Pa_kept hG_p (fun j h8 h9 => hk j (by omega))
        have hG_a := Mu_kept hG_a (fun j h8 h9 => hk j (by omega))
        have hG_q := Pa_kept hG_q (fun j h8 h9 => hk j (by omega))
        have hG_t := Mu_kept hG_t (fun j h8 h9 => hk j (by omega))
        have hG_T := Ta_kept hG_T (fun j h8 h9 => hk j (by omega))
        have hG_h := Ha_kept hG_h (fun j h8 h9 => hk j (by omega))
        have hG_r := Rs_kept hG_r (fun j h8 h9 => hk j (by omega))
        refine lv_icmp_eq (tgt := 1169) X.1 X.2.1 dL_law_802 (by decide) (fun c189 => ?_) (fun c189 => ?_)
        · have hf := ifp hf c189
          obtain ⟨x190, ex190, hf⟩ := nm_of hf
          refine lv_iinc (v := x190) (lv' := [(3, .int x190), (0, .ref b), (1, .ref (qa 0)), (2, .ref (qa 64))]) X.1 X.2.1 dL_law_1169 hl (k := 3) rfl (by rw [ex190]; rfl) (by decide) rfl (fun ls hl => ?_)
          refine lv_goto (tgt := 18) X.1 X.2.1 dL_law_1172 (by decide) ?_
          exact ih1 x190 img_x_1 r187.2.1 r187.2.2.1 r187.2.2.2.1 r187.2.2.2.2.1 r187.2.2.2.2.2.1 r187.2.2.2.2.2.2.1 r187.2.2.2.2.2.2.2.1 r187.2.2.2.2.2.2.2.2.1 r187.2.2.2.2.2.2.2.2.2.1 r187.2.2.2.2.2.2.2.2.2.2.1 r187.2.2.2.2.2.2.2.2.2.2.2.1 r187.2.2.2.2.2.2.2.2.2.2.2.2.1 r187.2.2.2.2.2.2.2.2.2.2.2.2.2 men_a_1 md_a_1 day_a_1 drw_a_1 bu_a_1 st_a_1 ki_a_1 we_a_1 wo_a_1 wr_a_1 kn_q_1 nx_q_1 ke_q_1 men_t_1 md_t_1 day_t_1 drw_t_1 bu_t_1 st_t_1 ki_t_1 we_t_1 wo_t_1 wr_t_1 ln_T_1 plc_T_1 ltr_T_1 worn_h_1 few_h_1 bc_h_1 ld_h_1 so_h_1 tr_h_1 be_h_1 wy_h_1 th_r_1 lan_r_1 siz_r_1 itm_r_1 ltr_M_1 pos_M_1 num_M_1 isk_M_1 bm_M_1 bch_M_1 lan_M_1 siz_M_1 itm_M_1 tap_M_1 r188.2 tri_M_1 rd_M_1 kp_M_1 bes_M_1 _ _ _ _ hf hP hS hG_x hG_n hG_p hG_a hG_q hG_t hG_T hG_h hG_r hG_M (lv_sub hl [1, 2, 3, 0] rfl)
        · have hf := ifn hf c189
          refine lv_iconst (v := 0) X.1 X.2.1 dL_law_805 (by decide) ?_
          exact absurd (Option.some.inj hf) (by decide)
      have hf := ifn hf w186
      by_cases w191 : ((xs (Int32.toNatClampNeg v3_1)) &&& 31) = 25
      · have hf := ifp hf w191
        refine lv_tableIn (tgt := 807) X.1 X.2.1 dL_law_33 (by rw [w191]; decide) (by rw [w191]; decide) (off := 774) (by rw [w191]; decide) (by decide) ?_
        refine lv_aload_n X.1 X.2.1 dL_law_807 rfl (lv_at hl 1 rfl) ?_
        refine lv_aload_n X.1 X.2.1 dL_law_808 rfl (lv_at hl 0 rfl) ?_
        refine lv_iload_n X.1 X.2.1 dL_law_809 rfl (lv_at hl 3 rfl) ?_
        refine lv_iconst (v := 1) X.1 X.2.1 dL_law_810 (by decide) ?_
        refine lv_iadd X.1 X.2.1 dL_law_811 ?_
        obtain ⟨hi192, hf⟩ := gin_of hf
        refine va_sld X.1 X.2.1 hX hbl hbA hS hi192 dL_law_812 ?_
        refine lv_aload_n X.1 X.2.1 dL_law_813 rfl (lv_at hl 0 rfl) ?_
        refine lv_iload_n X.1 X.2.1 dL_law_814 rfl (lv_at hl 3 rfl) ?_
        refine lv_iconst (v := 2) X.1 X.2.1 dL_law_815 (by decide) ?_
        refine lv_iadd X.1 X.2.1 dL_law_816 ?_
        obtain ⟨hi193, hf⟩ := gin_of hf
        refine va_sld X.1 X.2.1 hX hbl hbA hS hi193 dL_law_817 ?_
        refine lv_aload_n X.1 X.2.1 dL_law_818 rfl (lv_at hl 0 rfl) ?_
        refine lv_iload_n X.1 X.2.1 dL_law_819 rfl (lv_at hl 3 rfl) ?_
        refine lv_iconst (v := 3) X.1 X.2.1 dL_law_820 (by decide) ?_
        refine lv_iadd X.1 X.2.1 dL_law_821 ?_
        obtain ⟨hi194, hf⟩ := gin_of hf
        refine va_sld X.1 X.2.1 hX hbl hbA hS hi194 dL_law_822 ?_
        refine lv_aload_n X.1 X.2.1 dL_law_823 rfl (lv_at hl 0 rfl) ?_
        refine lv_iload_n X.1 X.2.1 dL_law_824 rfl (lv_at hl 3 rfl) ?_
        refine lv_iconst (v := 4) X.1 X.2.1 dL_law_825 (by decide) ?_
        refine lv_iadd X.1 X.2.1 dL_law_826 ?_
        obtain ⟨hi195, hf⟩ := gin_of hf
        refine va_sld X.1 X.2.1 hX hbl hbA hS hi195 dL_law_827 ?_
        refine lv_aload_n X.1 X.2.1 dL_law_828 rfl (lv_at hl 0 rfl) ?_
        refine lv_iload_n X.1 X.2.1 dL_law_829 rfl (lv_at hl 3 rfl) ?_
        refine lv_iconst (v := 5) X.1 X.2.1 dL_law_830 (by decide) ?_
        refine lv_iadd X.1 X.2.1 dL_law_831 ?_
        obtain ⟨hi196, hf⟩ := gin_of hf
        refine va_sld X.1 X.2.1 hX hbl hbA hS hi196 dL_law_832 ?_
        refine lv_aload_n X.1 X.2.1 dL_law_833 rfl (lv_at hl 0 rfl) ?_
        refine lv_iload_n X.1 X.2.1 dL_law_834 rfl (lv_at hl 3 rfl) ?_
        refine lv_bipush (v := 6) X.1 X.2.1 dL_law_835 (by decide) ?_
        refine lv_iadd X.1 X.2.1 dL_law_837 ?_
        obtain ⟨hi197, hf⟩ := gin_of hf
        refine va_sld X.1 X.2.1 hX hbl hbA hS hi197 dL_law_838 ?_
        refine lv_aload_n X.1 X.2.1 dL_law_839 rfl (lv_at hl 0 rfl) ?_
        refine lv_iload_n X.1 X.2.1 dL_law_840 rfl (lv_at hl 3 rfl) ?_
        refine lv_bipush (v := 7) X.1 X.2.1 dL_law_841 (by decide) ?_
        refine lv_iadd X.1 X.2.1 dL_law_843 ?_
        obtain ⟨hi198, hf⟩ := gin_of hf
        refine va_sld X.1 X.2.1 hX hbl hbA hS hi198 dL_law_844 ?_
        obtain ⟨r199, hr199, hf⟩ := bd_of hf
        refine xl_callVi ⟨by decide, by decide⟩ X hP hS hG_x (by omega) rfl (n := 7) (As := [.int (xs (Int32.toNatClampNeg (v3_1 + 1))), .int (xs (Int32.toNatClampNeg (v3_1 + 2))), .int (xs (Int32.toNatClampNeg (v3_1 + 3))), .int (xs (Int32.toNatClampNeg (v3_1 + 4))), .int (xs (Int32.toNatClampNeg (v3_1 + 5))), .int (xs (Int32.toNatClampNeg (v3_1 + 6))), .int (xs (Int32.toNatClampNeg (v3_1 + 7)))]) (ct_X5_felt hG_x hG_n hG_t hG_r hr199) gL_law_X5_felt rfl (by decide +kernel) ⟨by decide, by decide⟩ rfl hl.1 rfl (Nat.le_of_ble_eq_true rfl) dL_law_845 (fun E H locs hp hP hS => ?_)
        obtain ⟨hW_t, hk⟩ := hp
        have hG_t := hW_t
        have hG_x := Xo_kept hG_x (fun j h8 h9 => hk j (by omega))
        have hG_n := Mu_kept hG_n (fun j h8 h9 => hk j (by omega))
        have hG_p := Pa_kept hG_p (fun j h8 h9 => hk j (by omega))
        have hG_a := Mu_kept hG_a (fun j h8 h9 => hk j (by omega))
        have hG_q := Pa_kept hG_q (fun j h8 h9 => hk j (by omega))
        have hG_T := Ta_kept hG_T (fun j h8 h9 => hk j (by omega))
        have hG_h := Ha_kept hG_h (fun j h8 h9 => hk j (by omega))
        have hG_r := Rs_kept hG_r (fun j h8 h9 => hk j (by omega))
        have hG_M := Mo_kept hG_M (fun j h8 h9 => hk j (by omega))
        refine lv_aload_n X.1 X.2.1 dL_law_848 rfl (lv_at hl 2 rfl) ?_
        refine lv_aload_n X.1 X.2.1 dL_law_849 rfl (lv_at hl 0 rfl) ?_
        refine lv_iload_n X.1 X.2.1 dL_law_850 rfl (lv_at hl 3 rfl) ?_
        refine lv_iconst (v := 1) X.1 X.2.1 dL_law_851 (by decide) ?_
        refine lv_iadd X.1 X.2.1 dL_law_852 ?_
        obtain ⟨hi200, hf⟩ := gin_of hf
        refine va_sld X.1 X.2.1 hX hbl hbA hS hi200 dL_law_853 ?_
        refine lv_aload_n X.1 X.2.1 dL_law_854 rfl (lv_at hl 0 rfl) ?_
        refine lv_iload_n X.1 X.2.1 dL_law_855 rfl (lv_at hl 3 rfl) ?_
        refine lv_iconst (v := 2) X.1 X.2.1 dL_law_856 (by decide) ?_
        refine lv_iadd X.1 X.2.1 dL_law_857 ?_
        obtain ⟨hi201, hf⟩ := gin_of hf
        refine va_sld X.1 X.2.1 hX hbl hbA hS hi201 dL_law_858 ?_
        refine lv_aload_n X.1 X.2.1 dL_law_859 rfl (lv_at hl 0 rfl) ?_
        refine lv_iload_n X.1 X.2.1 dL_law_860 rfl (lv_at hl 3 rfl) ?_
        refine lv_iconst (v := 3) X.1 X.2.1 dL_law_861 (by decide) ?_
        refine lv_iadd X.1 X.2.1 dL_law_862 ?_
        obtain ⟨hi202, hf⟩ := gin_of hf
        refine va_sld X.1 X.2.1 hX hbl hbA hS hi202 dL_law_863 ?_
        refine lv_aload_n X.1 X.2.1 dL_law_864 rfl (lv_at hl 0 rfl) ?_
        refine lv_iload_n X.1 X.2.1 dL_law_865 rfl (lv_at hl 3 rfl) ?_
        refine lv_iconst (v := 4) X.1 X.2.1 dL_law_866 (by decide) ?_
        refine lv_iadd X.1 X.2.1 dL_law_867 ?_
        obtain ⟨hi203, hf⟩ := gin_of hf
        refine va_sld X.1 X.2.1 hX hbl hbA hS hi203 dL_law_868 ?_
        refine lv_aload_n X.1 X.2.1 dL_law_869 rfl (lv_at hl 0 rfl) ?_
        refine lv_iload_n X.1 X.2.1 dL_law_870 rfl (lv_at hl 3 rfl) ?_
        refine lv_iconst (v := 5) X.1 X.2.1 dL_law_871 (by decide) ?_
        refine lv_iadd X.1 X.2.1 dL_law_872 ?_
        obtain ⟨hi204, hf⟩ := gin_of hf
        refine va_sld X.1 X.2.1 hX hbl hbA hS hi204 dL_law_873 ?_
        refine lv_aload_n X.1 X.2.1 dL_law_874 rfl (lv_at hl 0 rfl) ?_
        refine lv_iload_n X.1 X.2.1 dL_law_875 rfl (lv_at hl 3 rfl) ?_
        refine lv_bipush (v := 6) X.1 X.2.1 dL_law_876 (by decide) ?_
        refine lv_iadd X.1 X.2.1 dL_law_878 ?_
        obtain ⟨hi205, hf⟩ := gin_of hf
        refine va_sld X.1 X.2.1 hX hbl hbA hS hi205 dL_law_879 ?_
        refine lv_aload_n X.1 X.2.1 dL_law_880 rfl (lv_at hl 0 rfl) ?_
        refine lv_iload_n X.1 X.2.1 dL_law_881 rfl (lv_at hl 3 rfl) ?_
        refine lv_bipush (v := 7) X.1 X.2.1 dL_law_882 (by decide) ?_
        refine lv_iadd X.1 X.2.1 dL_law_884 ?_
        obtain ⟨hi206, hf⟩ := gin_of hf
        refine va_sld X.1 X.2.1 hX hbl hbA hS hi206 dL_law_885 ?_
        obtain ⟨r207, hr207, hf⟩ := bd_of hf
        refine xl_callVi ⟨by decide, by decide⟩ X hP hS hG_M.1 (by omega) rfl (n := 7) (As := [.int (xs (Int32.toNatClampNeg (v3_1 + 1))), .int (xs (Int32.toNatClampNeg (v3_1 + 2))), .int (xs (Int32.toNatClampNeg (v3_1 + 3))), .int (xs (Int32.toNatClampNeg (v3_1 + 4))), .int (xs (Int32.toNatClampNeg (v3_1 + 5))), .int (xs (Int32.toNatClampNeg (v3_1 + 6))), .int (xs (Int32.toNatClampNeg (v3_1 + 7)))]) (ct_X6_felt hG_M hr207) gL_law_X6_felt rfl (by decide +kernel) ⟨by decide, by decide⟩ rfl hl.1 rfl (Nat.le_of_ble_eq_true rfl) dL_law_886 (fun E H locs hp hP hS => ?_)
        obtain ⟨hW_M, hk⟩ := hp
        have hG_M := hW_M
        have hG_x := Xo_kept hG_x (fun j h8 h9 => hk j (by omega))
        have hG_n := Mu_kept hG_n (fun j h8 h9 => hk j (by omega))
        have hG_p := Pa_kept hG_p (fun j h8 h9 => hk j (by omega))
        have hG_a := Mu_kept hG_a (fun j h8 h9 => hk j (by omega))
        have hG_q := Pa_kept hG_q (fun j h8 h9 => hk j (by omega))
        have hG_t := Mu_kept hG_t (fun j h8 h9 => hk j (by omega))
        have hG_T := Ta_kept hG_T (fun j h8 h9 => hk j (by omega))
        have hG_h := Ha_kept hG_h (fun j h8 h9 => hk j (by omega))
        have hG_r := Rs_kept hG_r (fun j h8 h9 => hk j (by omega))
        refine lv_icmp_eq (tgt := 1169) X.1 X.2.1 dL_law_889 (by decide) (fun c208 => ?_) (fun c208 => ?_)
        · have hf := ifp hf c208
          obtain ⟨x209, ex209, hf⟩ := nm_of hf
          refine lv_iinc (v := x209) (lv' := [(3, .int x209), (0, .ref b), (1, .ref (qa 0)), (2, .ref (qa 64))]) X.1 X.2.1 dL_law_1169 hl (k := 3) rfl (by rw [ex209]; rfl) (by decide) rfl (fun ls hl => ?_)
          refine lv_goto (tgt := 18) X.1 X.2.1 dL_law_1172 (by decide) ?_
          exact ih1 x209 img_x_1 men_n_1 md_n_1 day_n_1 drw_n_1 bu_n_1 st_n_1 ki_n_1 we_n_1 wo_n_1 wr_n_1 kn_p_1 nx_p_1 ke_p_1 men_a_1 md_a_1 day_a_1 drw_a_1 bu_a_1 st_a_1 ki_a_1 we_a_1 wo_a_1 wr_a_1 kn_q_1 nx_q_1 ke_q_1 r199.2.1 r199.2.2.1 r199.2.2.2.1 r199.2.2.2.2.1 r199.2.2.2.2.2.1 r199.2.2.2.2.2.2.1 r199.2.2.2.2.2.2.2.1 r199.2.2.2.2.2.2.2.2.1 r199.2.2.2.2.2.2.2.2.2.1 r199.2.2.2.2.2.2.2.2.2.2 ln_T_1 plc_T_1 ltr_T_1 worn_h_1 few_h_1 bc_h_1 ld_h_1 so_h_1 tr_h_1 be_h_1 wy_h_1 th_r_1 lan_r_1 siz_r_1 itm_r_1 ltr_M_1 pos_M_1 num_M_1 isk_M_1 bm_M_1 bch_M_1 lan_M_1 siz_M_1 itm_M_1 tap_M_1 now_M_1 r207.2 rd_M_1 kp_M_1 bes_M_1 _ _ _ _ hf hP hS hG_x hG_n hG_p hG_a hG_q hG_t hG_T hG_h hG_r hG_M (lv_sub hl [1, 2, 3, 0] rfl)
        · have hf := ifn hf c208
          refine lv_iconst (v := 0) X.1 X.2.1 dL_law_892 (by decide) ?_
          exact absurd (Option.some.inj hf) (by decide)
      have hf := ifn hf w191
      by_cases w210 : ((xs (Int32.toNatClampNeg v3_1)) &&& 31) = 26
      · have hf := ifp hf w210
        refine lv_tableIn (tgt := 894) X.1 X.2.1 dL_law_33 (by rw [w210]; decide) (by rw [w210]; decide) (off := 861) (by rw [w210]; decide) (by decide) ?_
        refine lv_aload_n X.1 X.2.1 dL_law_894 rfl (lv_at hl 1 rfl) ?_
        refine lv_aload_n X.1 X.2.1 dL_law_895 rfl (lv_at hl 0 rfl) ?_
        refine lv_iload_n X.1 X.2.1 dL_law_896 rfl (lv_at hl 3 rfl) ?_
        refine lv_iconst (v := 1) X.1 X.2.1 dL_law_897 (by decide) ?_
        refine lv_iadd X.1 X.2.1 dL_law_898 ?_
        obtain ⟨hi211, hf⟩ := gin_of hf
        refine va_sld X.1 X.2.1 hX hbl hbA hS hi211 dL_law_899 ?_
        refine lv_aload_n X.1 X.2.1 dL_law_900 rfl (lv_at hl 0 rfl) ?_
        refine lv_iload_n X.1 X.2.1 dL_law_901 rfl (lv_at hl 3 rfl) ?_
        refine lv_iconst (v := 2) X.1 X.2.1 dL_law_902 (by decide) ?_
        refine lv_iadd X.1 X.2.1 dL_law_903 ?_
        obtain ⟨hi212, hf⟩ := gin_of hf
        refine va_sld X.1 X.2.1 hX hbl hbA hS hi212 dL_law_904 ?_
        refine lv_aload_n X.1 X.2.1 dL_law_905 rfl (lv_at hl 0 rfl) ?_
        refine lv_iload_n X.1 X.2.1 dL_law_906 rfl (lv_at hl 3 rfl) ?_
        refine lv_iconst (v := 3) X.1 X.2.1 dL_law_907 (by decide) ?_
        refine lv_iadd X.1 X.2.1 dL_law_908 ?_
        obtain ⟨hi213, hf⟩ := gin_of hf
        refine va_sld X.1 X.2.1 hX hbl hbA hS hi213 dL_law_909 ?_
        refine lv_aload_n X.1 X.2.1 dL_law_910 rfl (lv_at hl 0 rfl) ?_
        refine lv_iload_n X.1 X.2.1 dL_law_911 rfl (lv_at hl 3 rfl) ?_
        refine lv_iconst (v := 4) X.1 X.2.1 dL_law_912 (by decide) ?_
        refine lv_iadd X.1 X.2.1 dL_law_913 ?_
        obtain ⟨hi214, hf⟩ := gin_of hf
        refine va_sld X.1 X.2.1 hX hbl hbA hS hi214 dL_law_914 ?_
        refine lv_aload_n X.1 X.2.1 dL_law_915 rfl (lv_at hl 0 rfl) ?_
        refine lv_iload_n X.1 X.2.1 dL_law_916 rfl (lv_at hl 3 rfl) ?_
        refine lv_iconst (v := 5) X.1 X.2.1 dL_law_917 (by decide) ?_
        refine lv_iadd X.1 X.2.1 dL_law_918 ?_
        obtain ⟨hi215, hf⟩ := gin_of hf
        refine va_sld X.1 X.2.1 hX hbl hbA hS hi215 dL_law_919 ?_
        obtain ⟨r216, hr216, hf⟩ := bd_of hf
        refine xl_callVi ⟨by decide, by decide⟩ X hP hS hG_x (by omega) rfl (n := 5) (As := [.int (xs (Int32.toNatClampNeg (v3_1 + 1))), .int (xs (Int32.toNatClampNeg (v3_1 + 2))), .int (xs (Int32.toNatClampNeg (v3_1 + 3))), .int (xs (Int32.toNatClampNeg (v3_1 + 4))), .int (xs (Int32.toNatClampNeg (v3_1 + 5)))]) (ct_X5_film hG_x hG_n hG_r hr216) gL_law_X5_film rfl (by decide +kernel) ⟨by decide, by decide⟩ rfl hl.1 rfl (Nat.le_of_ble_eq_true rfl) dL_law_920 (fun E H locs hp hP hS => ?_)
        obtain ⟨hW_r, hk⟩ := hp
        have hG_r := hW_r
        have hG_x := Xo_kept hG_x (fun j h8 h9 => hk j (by omega))
        have hG_n := Mu_kept hG_n (fun j h8 h9 => hk j (by omega))
        have hG_p := Pa_kept hG_p (fun j h8 h9 => hk j (by omega))
        have hG_a := Mu_kept hG_a (fun j h8 h9 => hk j (by omega))
        have hG_q := Pa_kept hG_q (fun j h8 h9 => hk j (by omega))
        have hG_t := Mu_kept hG_t (fun j h8 h9 => hk j (by omega))
        have hG_T := Ta_kept hG_T (fun j h8 h9 => hk j (by omega))
        have hG_h := Ha_kept hG_h (fun j h8 h9 => hk j (by omega))
        have hG_M := Mo_kept hG_M (fun j h8 h9 => hk j (by omega))
        refine lv_aload_n X.1 X.2.1 dL_law_923 rfl (lv_at hl 2 rfl) ?_
        refine lv_aload_n X.1 X.2.1 dL_law_924 rfl (lv_at hl 0 rfl) ?_
        refine lv_iload_n X.1 X.2.1 dL_law_925 rfl (lv_at hl 3 rfl) ?_
        refine lv_iconst (v := 1) X.1 X.2.1 dL_law_926 (by decide) ?_
        refine lv_iadd X.1 X.2.1 dL_law_927 ?_
        obtain ⟨hi217, hf⟩ := gin_of hf
        refine va_sld X.1 X.2.1 hX hbl hbA hS hi217 dL_law_928 ?_
        refine lv_aload_n X.1 X.2.1 dL_law_929 rfl (lv_at hl 0 rfl) ?_
        refine lv_iload_n X.1 X.2.1 dL_law_930 rfl (lv_at hl 3 rfl) ?_
        refine lv_iconst (v := 2) X.1 X.2.1 dL_law_931 (by decide) ?_
        refine lv_iadd X.1 X.2.1 dL_law_932 ?_
        obtain ⟨hi218, hf⟩ := gin_of hf
        refine va_sld X.1 X.2.1 hX hbl hbA hS hi218 dL_law_933 ?_
        refine lv_aload_n X.1 X.2.1 dL_law_934 rfl (lv_at hl 0 rfl) ?_
        refine lv_iload_n X.1 X.2.1 dL_law_935 rfl (lv_at hl 3 rfl) ?_
        refine lv_iconst (v := 3) X.1 X.2.1 dL_law_936 (by decide) ?_
        refine lv_iadd X.1 X.2.1 dL_law_937 ?_
        obtain ⟨hi219, hf⟩ := gin_of hf
        refine va_sld X.1 X.2.1 hX hbl hbA hS hi219 dL_law_938 ?_
        refine lv_aload_n X.1 X.2.1 dL_law_939 rfl (lv_at hl 0 rfl) ?_
        refine lv_iload_n X.1 X.2.1 dL_law_940 rfl (lv_at hl 3 rfl) ?_
        refine lv_iconst (v := 4) X.1 X.2.1 dL_law_941 (by decide) ?_
        refine lv_iadd X.1 X.2.1 dL_law_942 ?_
        obtain ⟨hi220, hf⟩ := gin_of hf
        refine va_sld X.1 X.2.1 hX hbl hbA hS hi220 dL_law_943 ?_
        refine lv_aload_n X.1 X.2.1 dL_law_944 rfl (lv_at hl 0 rfl) ?_
        refine lv_iload_n X.1 X.2.1 dL_law_945 rfl (lv_at hl 3 rfl) ?_
        refine lv_iconst (v := 5) X.1 X.2.1 dL_law_946 (by decide) ?_
        refine lv_iadd X.1 X.2.1 dL_law_947 ?_
        obtain ⟨hi221, hf⟩ := gin_of hf
        refine va_sld X.1 X.2.1 hX hbl hbA hS hi221 dL_law_948 ?_
        obtain ⟨r222, hr222, hf⟩ := bd_of hf
        refine xl_callVi ⟨by decide, by decide⟩ X hP hS hG_M.1 (by omega) rfl (n := 5) (As := [.int (xs (Int32.toNatClampNeg (v3_1 + 1))), .int (xs (Int32.toNatClampNeg (v3_1 + 2))), .int (xs (Int32.toNatClampNeg (v3_1 + 3))), .int (xs (Int32.toNatClampNeg (v3_1 + 4))), .int (xs (Int32.toNatClampNeg (v3_1 + 5)))]) (ct_X6_film hG_M hr222) gL_law_X6_film rfl (by decide +kernel) ⟨by decide, by decide⟩ rfl hl.1 rfl (Nat.le_of_ble_eq_true rfl) dL_law_949 (fun E H locs hp hP hS => ?_)
        obtain ⟨hW_M, hk⟩ := hp
        have hG_M := hW_M
        have hG_x := Xo_kept hG_x (fun j h8 h9 => hk j (by omega))
        have hG_n := Mu_kept hG_n (fun j h8 h9 => hk j (by omega))
        have hG_p := Pa_kept hG_p (fun j h8 h9 => hk j (by omega))
        have hG_a := Mu_kept hG_a (fun j h8 h9 => hk j (by omega))
        have hG_q := Pa_kept hG_q (fun j h8 h9 => hk j (by omega))
        have hG_t := Mu_kept hG_t (fun j h8 h9 => hk j (by omega))
        have hG_T := Ta_kept hG_T (fun j h8 h9 => hk j (by omega))
        have hG_h := Ha_kept hG_h (fun j h8 h9 => hk j (by omega))
        have hG_r := Rs_kept hG_r (fun j h8 h9 => hk j (by omega))
        refine lv_icmp_eq (tgt := 1169) X.1 X.2.1 dL_law_952 (by decide) (fun c223 => ?_) (fun c223 => ?_)
        · have hf := ifp hf c223
          obtain ⟨x224, ex224, hf⟩ := nm_of hf
          refine lv_iinc (v := x224) (lv' := [(3, .int x224), (0, .ref b), (1, .ref (qa 0)), (2, .ref (qa 64))]) X.1 X.2.1 dL_law_1169 hl (k := 3) rfl (by rw [ex224]; rfl) (by decide) rfl (fun ls hl => ?_)
          refine lv_goto (tgt := 18) X.1 X.2.1 dL_law_1172 (by decide) ?_
          exact ih1 x224 img_x_1 men_n_1 md_n_1 day_n_1 drw_n_1 bu_n_1 st_n_1 ki_n_1 we_n_1 wo_n_1 wr_n_1 kn_p_1 nx_p_1 ke_p_1 men_a_1 md_a_1 day_a_1 drw_a_1 bu_a_1 st_a_1 ki_a_1 we_a_1 wo_a_1 wr_a_1 kn_q_1 nx_q_1 ke_q_1 men_t_1 md_t_1 day_t_1 drw_t_1 bu_t_1 st_t_1 ki_t_1 we_t_1 wo_t_1 wr_t_1 ln_T_1 plc_T_1 ltr_T_1 worn_h_1 few_h_1 bc_h_1 ld_h_1 so_h_1 tr_h_1 be_h_1 wy_h_1 th_r_1 lan_r_1 siz_r_1 r216.2 ltr_M_1 pos_M_1 num_M_1 isk_M_1 bm_M_1 bch_M_1 lan_M_1 siz_M_1 r222.2.1 tap_M_1 now_M_1 r222.2.2 rd_M_1 kp_M_1 bes_M_1 _ _ _ _ hf hP hS hG_x hG_n hG_p hG_a hG_q hG_t hG_T hG_h hG_r hG_M (lv_sub hl [1, 2, 3, 0] rfl)
        · have hf := ifn hf c223
          refine lv_iconst (v := 0) X.1 X.2.1 dL_law_955 (by decide) ?_
          exact absurd (Option.some.inj hf) (by decide)
      have hf := ifn hf w210
      by_cases w225 : ((xs (Int32.toNatClampNeg v3_1)) &&& 31) = 27
      · have hf := ifp hf w225
        refine lv_tableIn (tgt := 957) X.1 X.2.1 dL_law_33 (by rw [w225]; decide) (by rw [w225]; decide) (off := 924) (by rw [w225]; decide) (by decide) ?_
        refine lv_aload_n X.1 X.2.1 dL_law_957 rfl (lv_at hl 1 rfl) ?_
        refine lv_aload_n X.1 X.2.1 dL_law_958 rfl (lv_at hl 0 rfl) ?_
        refine lv_iload_n X.1 X.2.1 dL_law_959 rfl (lv_at hl 3 rfl) ?_
        refine lv_iconst (v := 1) X.1 X.2.1 dL_law_960 (by decide) ?_
        refine lv_iadd X.1 X.2.1 dL_law_961 ?_
        obtain ⟨hi226, hf⟩ := gin_of hf
        refine va_sld X.1 X.2.1 hX hbl hbA hS hi226 dL_law_962 ?_
        refine lv_aload_n X.1 X.2.1 dL_law_963 rfl (lv_at hl 0 rfl) ?_
        refine lv_iload_n X.1 X.2.1 dL_law_964 rfl (lv_at hl 3 rfl) ?_
        refine lv_iconst (v := 2) X.1 X.2.1 dL_law_965 (by decide) ?_
        refine lv_iadd X.1 X.2.1 dL_law_966 ?_
        obtain ⟨hi227, hf⟩ := gin_of hf
        refine va_sld X.1 X.2.1 hX hbl hbA hS hi227 dL_law_967 ?_
        refine lv_aload_n X.1 X.2.1 dL_law_968 rfl (lv_at hl 0 rfl) ?_
        refine lv_iload_n X.1 X.2.1 dL_law_969 rfl (lv_at hl 3 rfl) ?_
        refine lv_iconst (v := 3) X.1 X.2.1 dL_law_970 (by decide) ?_
        refine lv_iadd X.1 X.2.1 dL_law_971 ?_
        obtain ⟨hi228, hf⟩ := gin_of hf
        refine va_sld X.1 X.2.1 hX hbl hbA hS hi228 dL_law_972 ?_
        obtain ⟨r229, hr229, hf⟩ := bd_of hf
        refine xl_callVi ⟨by decide, by decide⟩ X hP hS hG_x (by omega) rfl (n := 3) (As := [.int (xs (Int32.toNatClampNeg (v3_1 + 1))), .int (xs (Int32.toNatClampNeg (v3_1 + 2))), .int (xs (Int32.toNatClampNeg (v3_1 + 3)))]) (ct_X5_sheet hG_x hG_r hr229) gL_law_X5_sheet rfl (by decide +kernel) ⟨by decide, by decide⟩ rfl hl.1 rfl (Nat.le_of_ble_eq_true rfl) dL_law_973 (fun E H locs hp hP hS => ?_)
        obtain ⟨hW_r, hk⟩ := hp
        have hG_r := hW_r
        have hG_x := Xo_kept hG_x (fun j h8 h9 => hk j (by omega))
        have hG_n := Mu_kept hG_n (fun j h8 h9 => hk j (by omega))
        have hG_p := Pa_kept hG_p (fun j h8 h9 => hk j (by omega))
        have hG_a := Mu_kept hG_a (fun j h8 h9 => hk j (by omega))
        have hG_q := Pa_kept hG_q (fun j h8 h9 => hk j (by omega))
        have hG_t := Mu_kept hG_t (fun j h8 h9 => hk j (by omega))
        have hG_T := Ta_kept hG_T (fun j h8 h9 => hk j (by omega))
        have hG_h := Ha_kept hG_h (fun j h8 h9 => hk j (by omega))
        have hG_M := Mo_kept hG_M (fun j h8 h9 => hk j (by omega))
        refine lv_aload_n X.1 X.2.1 dL_law_976 rfl (lv_at hl 2 rfl) ?_
        refine lv_aload_n X.1 X.2.1 dL_law_977 rfl (lv_at hl 0 rfl) ?_
        refine lv_iload_n X.1 X.2.1 dL_law_978 rfl (lv_at hl 3 rfl) ?_
        refine lv_iconst (v := 1) X.1 X.2.1 dL_law_979 (by decide) ?_
        refine lv_iadd X.1 X.2.1 dL_law_980 ?_
        obtain ⟨hi230, hf⟩ := gin_of hf
        refine va_sld X.1 X.2.1 hX hbl hbA hS hi230 dL_law_981 ?_
        refine lv_aload_n X.1 X.2.1 dL_law_982 rfl (lv_at hl 0 rfl) ?_
        refine lv_iload_n X.1 X.2.1 dL_law_983 rfl (lv_at hl 3 rfl) ?_
        refine lv_iconst (v := 2) X.1 X.2.1 dL_law_984 (by decide) ?_
        refine lv_iadd X.1 X.2.1 dL_law_985 ?_
        obtain ⟨hi231, hf⟩ := gin_of hf
        refine va_sld X.1 X.2.1 hX hbl hbA hS hi231 dL_law_986 ?_
        refine lv_aload_n X.1 X.2.1 dL_law_987 rfl (lv_at hl 0 rfl) ?_
        refine lv_iload_n X.1 X.2.1 dL_law_988 rfl (lv_at hl 3 rfl) ?_
        refine lv_iconst (v := 3) X.1 X.2.1 dL_law_989 (by decide) ?_
        refine lv_iadd X.1 X.2.1 dL_law_990 ?_
        obtain ⟨hi232, hf⟩ := gin_of hf
        refine va_sld X.1 X.2.1 hX hbl hbA hS hi232 dL_law_991 ?_
        obtain ⟨r233, hr233, hf⟩ := bd_of hf
        refine xl_callVi ⟨by decide, by decide⟩ X hP hS hG_M.1 (by omega) rfl (n := 3) (As := [.int (xs (Int32.toNatClampNeg (v3_1 + 1))), .int (xs (Int32.toNatClampNeg (v3_1 + 2))), .int (xs (Int32.toNatClampNeg (v3_1 + 3)))]) (ct_X6_sheet hG_M hr233) gL_law_X6_sheet rfl (by decide +kernel) ⟨by decide, by decide⟩ rfl hl.1 rfl (Nat.le_of_ble_eq_true rfl) dL_law_992 (fun E H locs hp hP hS => ?_)
        obtain ⟨hW_M, hk⟩ := hp
        have hG_M := hW_M
        have hG_x := Xo_kept hG_x (fun j h8 h9 => hk j (by omega))
        have hG_n := Mu_kept hG_n (fun j h8 h9 => hk j (by omega))
        have hG_p := Pa_kept hG_p (fun j h8 h9 => hk j (by omega))
        have hG_a := Mu_kept hG_a (fun j h8 h9 => hk j (by omega))
        have hG_q := Pa_kept hG_q (fun j h8 h9 => hk j (by omega))
        have hG_t := Mu_kept hG_t (fun j h8 h9 => hk j (by omega))
        have hG_T := Ta_kept hG_T (fun j h8 h9 => hk j (by omega))
        have hG_h := Ha_kept hG_h (fun j h8 h9 => hk j (by omega))
        have hG_r := Rs_kept hG_r (fun j h8 h9 => hk j (by omega))
        refine lv_icmp_eq (tgt := 1169) X.1 X.2.1 dL_law_995 (by decide) (fun c234 => ?_) (fun c234 => ?_)
        · have hf := ifp hf c234
          obtain ⟨x235, ex235, hf⟩ := nm_of hf
          refine lv_iinc (v := x235) (lv' := [(3, .int x235), (0, .ref b), (1, .ref (qa 0)), (2, .ref (qa 64))]) X.1 X.2.1 dL_law_1169 hl (k := 3) rfl (by rw [ex235]; rfl) (by decide) rfl (fun ls hl => ?_)
          refine lv_goto (tgt := 18) X.1 X.2.1 dL_law_1172 (by decide) ?_
          exact ih1 x235 img_x_1 men_n_1 md_n_1 day_n_1 drw_n_1 bu_n_1 st_n_1 ki_n_1 we_n_1 wo_n_1 wr_n_1 kn_p_1 nx_p_1 ke_p_1 men_a_1 md_a_1 day_a_1 drw_a_1 bu_a_1 st_a_1 ki_a_1 we_a_1 wo_a_1 wr_a_1 kn_q_1 nx_q_1 ke_q_1 men_t_1 md_t_1 day_t_1 drw_t_1 bu_t_1 st_t_1 ki_t_1 we_t_1 wo_t_1 wr_t_1 ln_T_1 plc_T_1 ltr_T_1 worn_h_1 few_h_1 bc_h_1 ld_h_1 so_h_1 tr_h_1 be_h_1 wy_h_1 r229.2.1 r229.2.2.1 r229.2.2.2.1 r229.2.2.2.2 ltr_M_1 pos_M_1 num_M_1 isk_M_1 bm_M_1 bch_M_1 r233.2.1 r233.2.2.1 r233.2.2.2 tap_M_1 now_M_1 tri_M_1 rd_M_1 kp_M_1 bes_M_1 _ _ _ _ hf hP hS hG_x hG_n hG_p hG_a hG_q hG_t hG_T hG_h hG_r hG_M (lv_sub hl [1, 2, 3, 0] rfl)
        · have hf := ifn hf c234
          refine lv_iconst (v := 0) X.1 X.2.1 dL_law_998 (by decide) ?_
          exact absurd (Option.some.inj hf) (by decide)
      have hf := ifn hf w225
      by_cases w236 : ((xs (Int32.toNatClampNeg v3_1)) &&& 31) = 28
      · have hf := ifp hf w236
        refine lv_tableIn (tgt := 1000) X.1 X.2.1 dL_law_33 (by rw [w236]; decide) (by rw [w236]; decide) (off := 967) (by rw [w236]; decide) (by decide) ?_
        refine lv_aload_n X.1 X.2.1 dL_law_1000 rfl (lv_at hl 1 rfl) ?_
        refine lv_aload_n X.1 X.2.1 dL_law_1001 rfl (lv_at hl 0 rfl) ?_
        refine lv_iload_n X.1 X.2.1 dL_law_1002 rfl (lv_at hl 3 rfl) ?_
        refine lv_iconst (v := 1) X.1 X.2.1 dL_law_1003 (by decide) ?_
        refine lv_iadd X.1 X.2.1 dL_law_1004 ?_
        obtain ⟨hi237, hf⟩ := gin_of hf
        refine va_sld X.1 X.2.1 hX hbl hbA hS hi237 dL_law_1005 ?_
        obtain ⟨r238, hr238, hf⟩ := bd_of hf
        refine xl_callVi ⟨by decide, by decide⟩ X hP hS hG_x (by omega) rfl (n := 1) (As := [.int (xs (Int32.toNatClampNeg (v3_1 + 1)))]) (ct_X5_drop hG_x hG_r hr238) gL_law_X5_drop rfl (by decide +kernel) ⟨by decide, by decide⟩ rfl hl.1 rfl (Nat.le_of_ble_eq_true rfl) dL_law_1006 (fun E H locs hp hP hS => ?_)
        obtain ⟨hW_r, hk⟩ := hp
        have hG_r := hW_r
        have hG_x := Xo_kept hG_x (fun j h8 h9 => hk j (by omega))
        have hG_n := Mu_kept hG_n (fun j h8 h9 => hk j (by omega))
        have hG_p := Pa_kept hG_p (fun j h8 h9 => hk j (by omega))
        have hG_a := Mu_kept hG_a (fun j h8 h9 => hk j (by omega))
        have hG_q := Pa_kept hG_q (fun j h8 h9 => hk j (by omega))
        have hG_t := Mu_kept hG_t (fun j h8 h9 => hk j (by omega))
        have hG_T := Ta_kept hG_T (fun j h8 h9 => hk j (by omega))
        have hG_h := Ha_kept hG_h (fun j h8 h9 => hk j (by omega))
        have hG_M := Mo_kept hG_M (fun j h8 h9 => hk j (by omega))
        refine lv_aload_n X.1 X.2.1 dL_law_1009 rfl (lv_at hl 2 rfl) ?_
        refine lv_aload_n X.1 X.2.1 dL_law_1010 rfl (lv_at hl 0 rfl) ?_
        refine lv_iload_n X.1 X.2.1 dL_law_1011 rfl (lv_at hl 3 rfl) ?_
        refine lv_iconst (v := 1) X.1 X.2.1 dL_law_1012 (by decide) ?_
        refine lv_iadd X.1 X.2.1 dL_law_1013 ?_
        obtain ⟨hi239, hf⟩ := gin_of hf
        refine va_sld X.1 X.2.1 hX hbl hbA hS hi239 dL_law_1014 ?_
        obtain ⟨r240, hr240, hf⟩ := bd_of hf
        refine xl_callVi ⟨by decide, by decide⟩ X hP hS hG_M.1 (by omega) rfl (n := 1) (As := [.int (xs (Int32.toNatClampNeg (v3_1 + 1)))]) (ct_X6_drop hG_M hr240) gL_law_X6_drop rfl (by decide +kernel) ⟨by decide, by decide⟩ rfl hl.1 rfl (Nat.le_of_ble_eq_true rfl) dL_law_1015 (fun E H locs hp hP hS => ?_)
        obtain ⟨hW_M, hk⟩ := hp
        have hG_M := hW_M
        have hG_x := Xo_kept hG_x (fun j h8 h9 => hk j (by omega))
        have hG_n := Mu_kept hG_n (fun j h8 h9 => hk j (by omega))
        have hG_p := Pa_kept hG_p (fun j h8 h9 => hk j (by omega))
        have hG_a := Mu_kept hG_a (fun j h8 h9 => hk j (by omega))
        have hG_q := Pa_kept hG_q (fun j h8 h9 => hk j (by omega))
        have hG_t := Mu_kept hG_t (fun j h8 h9 => hk j (by omega))
        have hG_T := Ta_kept hG_T (fun j h8 h9 => hk j (by omega))
        have hG_h := Ha_kept hG_h (fun j h8 h9 => hk j (by omega))
        have hG_r := Rs_kept hG_r (fun j h8 h9 => hk j (by omega))
        refine lv_icmp_eq (tgt := 1169) X.1 X.2.1 dL_law_1018 (by decide) (fun c241 => ?_) (fun c241 => ?_)
        · have hf := ifp hf c241
          obtain ⟨x242, ex242, hf⟩ := nm_of hf
          refine lv_iinc (v := x242) (lv' := [(3, .int x242), (0, .ref b), (1, .ref (qa 0)), (2, .ref (qa 64))]) X.1 X.2.1 dL_law_1169 hl (k := 3) rfl (by rw [ex242]; rfl) (by decide) rfl (fun ls hl => ?_)
          refine lv_goto (tgt := 18) X.1 X.2.1 dL_law_1172 (by decide) ?_
          exact ih1 x242 img_x_1 men_n_1 md_n_1 day_n_1 drw_n_1 bu_n_1 st_n_1 ki_n_1 we_n_1 wo_n_1 wr_n_1 kn_p_1 nx_p_1 ke_p_1 men_a_1 md_a_1 day_a_1 drw_a_1 bu_a_1 st_a_1 ki_a_1 we_a_1 wo_a_1 wr_a_1 kn_q_1 nx_q_1 ke_q_1 men_t_1 md_t_1 day_t_1 drw_t_1 bu_t_1 st_t_1 ki_t_1 we_t_1 wo_t_1 wr_t_1 ln_T_1 plc_T_1 ltr_T_1 worn_h_1 few_h_1 bc_h_1 ld_h_1 so_h_1 tr_h_1 be_h_1 wy_h_1 r238.2 lan_r_1 siz_r_1 itm_r_1 ltr_M_1 pos_M_1 num_M_1 isk_M_1 bm_M_1 bch_M_1 r240.2 siz_M_1 itm_M_1 tap_M_1 now_M_1 tri_M_1 rd_M_1 kp_M_1 bes_M_1 _ _ _ _ hf hP hS hG_x hG_n hG_p hG_a hG_q hG_t hG_T hG_h hG_r hG_M (lv_sub hl [1, 2, 3, 0] rfl)
        · have hf := ifn hf c241
          refine lv_iconst (v := 0) X.1 X.2.1 dL_law_1021 (by decide) ?_
          exact absurd (Option.some.inj hf) (by decide)
      have hf := ifn hf w236
      by_cases w243 : ((xs (Int32.toNatClampNeg v3_1)) &&& 31) = 29
      · have hf := ifp hf w243
        refine lv_tableIn (tgt := 1023) X.1 X.2.1 dL_law_33 (by rw [w243]; decide) (by rw [w243]; decide) (off := 990) (by rw [w243]; decide) (by decide) ?_
        refine lv_aload_n X.1 X.2.1 dL_law_1023 rfl (lv_at hl 1 rfl) ?_
        refine lv_aload_n X.1 X.2.1 dL_law_1024 rfl (lv_at hl 0 rfl) ?_
        refine lv_iload_n X.1 X.2.1 dL_law_1025 rfl (lv_at hl 3 rfl) ?_
        refine lv_iconst (v := 1) X.1 X.2.1 dL_law_1026 (by decide) ?_
        refine lv_iadd X.1 X.2.1 dL_law_1027 ?_
        obtain ⟨hi244, hf⟩ := gin_of hf
        refine va_sld X.1 X.2.1 hX hbl hbA hS hi244 dL_law_1028 ?_
        refine lv_aload_n X.1 X.2.1 dL_law_1029 rfl (lv_at hl 0 rfl) ?_
        refine lv_iload_n X.1 X.2.1 dL_law_1030 rfl (lv_at hl 3 rfl) ?_
        refine lv_iconst (v := 2) X.1 X.2.1 dL_law_1031 (by decide) ?_
        refine lv_iadd X.1 X.2.1 dL_law_1032 ?_
        obtain ⟨hi245, hf⟩ := gin_of hf
        refine va_sld X.1 X.2.1 hX hbl hbA hS hi245 dL_law_1033 ?_
        refine lv_aload_n X.1 X.2.1 dL_law_1034 rfl (lv_at hl 0 rfl) ?_
        refine lv_iload_n X.1 X.2.1 dL_law_1035 rfl (lv_at hl 3 rfl) ?_
        refine lv_iconst (v := 3) X.1 X.2.1 dL_law_1036 (by decide) ?_
        refine lv_iadd X.1 X.2.1 dL_law_1037 ?_
        obtain ⟨hi246, hf⟩ := gin_of hf
        refine va_sld X.1 X.2.1 hX hbl hbA hS hi246 dL_law_1038 ?_
        refine lv_aload_n X.1 X.2.1 dL_law_1039 rfl (lv_at hl 0 rfl) ?_
        refine lv_iload_n X.1 X.2.1 dL_law_1040 rfl (lv_at hl 3 rfl) ?_
        refine lv_iconst (v := 4) X.1 X.2.1 dL_law_1041 (by decide) ?_
        refine lv_iadd X.1 X.2.1 dL_law_1042 ?_
        obtain ⟨hi247, hf⟩ := gin_of hf
        refine va_sld X.1 X.2.1 hX hbl hbA hS hi247 dL_law_1043 ?_
        refine lv_i2l X.1 X.2.1 dL_law_1044 rfl ?_
        refine lv_bipush (v := 32) X.1 X.2.1 dL_law_1045 (by decide) ?_
        refine lv_lshl X.1 X.2.1 dL_law_1047 rfl ?_
        refine lv_aload_n X.1 X.2.1 dL_law_1048 rfl (lv_at hl 0 rfl) ?_
        refine lv_iload_n X.1 X.2.1 dL_law_1049 rfl (lv_at hl 3 rfl) ?_
        refine lv_iconst (v := 5) X.1 X.2.1 dL_law_1050 (by decide) ?_
        refine lv_iadd X.1 X.2.1 dL_law_1051 ?_
        obtain ⟨hi248, hf⟩ := gin_of hf
        refine va_sld X.1 X.2.1 hX hbl hbA hS hi248 dL_law_1052 ?_
        refine lv_i2l X.1 X.2.1 dL_law_1053 rfl ?_
        refine lv_ldc2 (v := 4294967295) X.1 X.2.1 X.2.2.2.1 (X.2.2.2.2.1 (.constantLong RL 135 (4294967295)) (by decide +kernel)) dL_law_1054 ?_
        refine lv_land X.1 X.2.1 dL_law_1057 ?_
        refine lv_lor X.1 X.2.1 dL_law_1058 ?_
        obtain ⟨r249, hr249, hf⟩ := bd_of hf
        refine xl_callVi ⟨by decide, by decide⟩ X hP hS hG_x (by omega) rfl (n := 4) (As := [.int (xs (Int32.toNatClampNeg (v3_1 + 1))), .int (xs (Int32.toNatClampNeg (v3_1 + 2))), .int (xs (Int32.toNatClampNeg (v3_1 + 3))), .long (((Int32.toInt64 (xs (Int32.toNatClampNeg (v3_1 + 4)))) <<< (Int32.toInt64 32 &&& 63)) ||| ((Int32.toInt64 (xs (Int32.toNatClampNeg (v3_1 + 5)))) &&& 4294967295))]) (ct_X5_item hG_x hG_r hr249) gL_law_X5_item rfl (by decide +kernel) ⟨by decide, by decide⟩ rfl hl.1 rfl (Nat.le_of_ble_eq_true rfl) dL_law_1059 (fun E H locs hp hP hS => ?_)
        obtain ⟨hW_r, hk⟩ := hp
        have hG_r := hW_r
        have hG_x := Xo_kept hG_x (fun j h8 h9 => hk j (by omega))
        have hG_n := Mu_kept hG_n (fun j h8 h9 => hk j (by omega))
        have hG_p := Pa_kept hG_p (fun j h8 h9 => hk j (by omega))
        have hG_a := Mu_kept hG_a (fun j h8 h9 => hk j (by omega))
        have hG_q := Pa_kept hG_q (fun j h8 h9 => hk j (by omega))
        have hG_t := Mu_kept hG_t (fun j h8 h9 => hk j (by omega))
        have hG_T := Ta_kept hG_T (fun j h8 h9 => hk j (by omega))
        have hG_h := Ha_kept hG_h (fun j h8 h9 => hk j (by omega))
        have hG_M := Mo_kept hG_M (fun j h8 h9 => hk j (by omega))
        refine lv_aload_n X.1 X.2.1 dL_law_1062 rfl (lv_at hl 2 rfl) ?_
        refine lv_aload_n X.1 X.2.1 dL_law_1063 rfl (lv_at hl 0 rfl) ?_
        refine lv_iload_n X.1 X.2.1 dL_law_1064 rfl (lv_at hl 3 rfl) ?_
        refine lv_iconst (v := 1) X.1 X.2.1 dL_law_1065 (by decide) ?_
        refine lv_iadd X.1 X.2.1 dL_law_1066 ?_
        obtain ⟨hi250, hf⟩ := gin_of hf
        refine va_sld X.1 X.2.1 hX hbl hbA hS hi250 dL_law_1067 ?_
        refine lv_aload_n X.1 X.2.1 dL_law_1068 rfl (lv_at hl 0 rfl) ?_
        refine lv_iload_n X.1 X.2.1 dL_law_1069 rfl (lv_at hl 3 rfl) ?_
        refine lv_iconst (v := 2) X.1 X.2.1 dL_law_1070 (by decide) ?_
        refine lv_iadd X.1 X.2.1 dL_law_1071 ?_
        obtain ⟨hi251, hf⟩ := gin_of hf
        refine va_sld X.1 X.2.1 hX hbl hbA hS hi251 dL_law_1072 ?_
        refine lv_aload_n X.1 X.2.1 dL_law_1073 rfl (lv_at hl 0 rfl) ?_
        refine lv_iload_n X.1 X.2.1 dL_law_1074 rfl (lv_at hl 3 rfl) ?_
        refine lv_iconst (v := 3) X.1 X.2.1 dL_law_1075 (by decide) ?_
        refine lv_iadd X.1 X.2.1 dL_law_1076 ?_
        obtain ⟨hi252, hf⟩ := gin_of hf
        refine va_sld X.1 X.2.1 hX hbl hbA hS hi252 dL_law_1077 ?_
        refine lv_aload_n X.1 X.2.1 dL_law_1078 rfl (lv_at hl 0 rfl) ?_
        refine lv_iload_n X.1 X.2.1 dL_law_1079 rfl (lv_at hl 3 rfl) ?_
        refine lv_iconst (v := 4) X.1 X.2.1 dL_law_1080 (by decide) ?_
        refine lv_iadd X.1 X.2.1 dL_law_1081 ?_
        obtain ⟨hi253, hf⟩ := gin_of hf
        refine va_sld X.1 X.2.1 hX hbl hbA hS hi253 dL_law_1082 ?_
        refine lv_i2l X.1 X.2.1 dL_law_1083 rfl ?_
        refine lv_bipush (v := 32) X.1 X.2.1 dL_law_1084 (by decide) ?_
        refine lv_lshl X.1 X.2.1 dL_law_1086 rfl ?_
        refine lv_aload_n X.1 X.2.1 dL_law_1087 rfl (lv_at hl 0 rfl) ?_
        refine lv_iload_n X.1 X.2.1 dL_law_1088 rfl (lv_at hl 3 rfl) ?_
        refine lv_iconst (v := 5) X.1 X.2.1 dL_law_1089 (by decide) ?_
        refine lv_iadd X.1 X.2.1 dL_law_1090 ?_
        obtain ⟨hi254, hf⟩ := gin_of hf
        refine va_sld X.1 X.2.1 hX hbl hbA hS hi254 dL_law_1091 ?_
        refine lv_i2l X.1 X.2.1 dL_law_1092 rfl ?_
        refine lv_ldc2 (v := 4294967295) X.1 X.2.1 X.2.2.2.1 (X.2.2.2.2.1 (.constantLong RL 135 (4294967295)) (by decide +kernel)) dL_law_1093 ?_
        refine lv_land X.1 X.2.1 dL_law_1096 ?_
        refine lv_lor X.1 X.2.1 dL_law_1097 ?_
        obtain ⟨r255, hr255, hf⟩ := bd_of hf
        refine xl_callVi ⟨by decide, by decide⟩ X hP hS hG_M.1 (by omega) rfl (n := 4) (As := [.int (xs (Int32.toNatClampNeg (v3_1 + 1))), .int (xs (Int32.toNatClampNeg (v3_1 + 2))), .int (xs (Int32.toNatClampNeg (v3_1 + 3))), .long (((Int32.toInt64 (xs (Int32.toNatClampNeg (v3_1 + 4)))) <<< (Int32.toInt64 32 &&& 63)) ||| ((Int32.toInt64 (xs (Int32.toNatClampNeg (v3_1 + 5)))) &&& 4294967295))]) (ct_X6_item hG_M hr255) gL_law_X6_item rfl (by decide +kernel) ⟨by decide, by decide⟩ rfl hl.1 rfl (Nat.le_of_ble_eq_true rfl) dL_law_1098 (fun E H locs hp hP hS => ?_)
        obtain ⟨hW_M, hk⟩ := hp
        have hG_M := hW_M
        have hG_x := Xo_kept hG_x (fun j h8 h9 => hk j (by omega))
        have hG_n := Mu_kept hG_n (fun j h8 h9 => hk j (by omega))
        have hG_p := Pa_kept hG_p (fun j h8 h9 => hk j (by omega))
        have hG_a := Mu_kept hG_a (fun j h8 h9 => hk j (by omega))
        have hG_q := Pa_kept hG_q (fun j h8 h9 => hk j (by omega))
        have hG_t := Mu_kept hG_t (fun j h8 h9 => hk j (by omega))
        have hG_T := Ta_kept hG_T (fun j h8 h9 => hk j (by omega))
        have hG_h := Ha_kept hG_h (fun j h8 h9 => hk j (by omega))
        have hG_r := Rs_kept hG_r (fun j h8 h9 => hk j (by omega))
        refine lv_icmp_eq (tgt := 1169) X.1 X.2.1 dL_law_1101 (by decide) (fun c256 => ?_) (fun c256 => ?_)
        · have hf := ifp hf c256
          obtain ⟨x257, ex257, hf⟩ := nm_of hf
          refine lv_iinc (v := x257) (lv' := [(3, .int x257), (0, .ref b), (1, .ref (qa 0)), (2, .ref (qa 64))]) X.1 X.2.1 dL_law_1169 hl (k := 3) rfl (by rw [ex257]; rfl) (by decide) rfl (fun ls hl => ?_)
          refine lv_goto (tgt := 18) X.1 X.2.1 dL_law_1172 (by decide) ?_
          exact ih1 x257 img_x_1 men_n_1 md_n_1 day_n_1 drw_n_1 bu_n_1 st_n_1 ki_n_1 we_n_1 wo_n_1 wr_n_1 kn_p_1 nx_p_1 ke_p_1 men_a_1 md_a_1 day_a_1 drw_a_1 bu_a_1 st_a_1 ki_a_1 we_a_1 wo_a_1 wr_a_1 kn_q_1 nx_q_1 ke_q_1 men_t_1 md_t_1 day_t_1 drw_t_1 bu_t_1 st_t_1 ki_t_1 we_t_1 wo_t_1 wr_t_1 ln_T_1 plc_T_1 ltr_T_1 worn_h_1 few_h_1 bc_h_1 ld_h_1 so_h_1 tr_h_1 be_h_1 wy_h_1 th_r_1 lan_r_1 siz_r_1 r249.2 ltr_M_1 pos_M_1 num_M_1 isk_M_1 bm_M_1 bch_M_1 lan_M_1 siz_M_1 r255.2 tap_M_1 now_M_1 tri_M_1 rd_M_1 kp_M_1 bes_M_1 _ _ _ _ hf hP hS hG_x hG_n hG_p hG_a hG_q hG_t hG_T hG_h hG_r hG_M (lv_sub hl [1, 2, 3, 0] rfl)
        · have hf := ifn hf c256
          refine lv_iconst (v := 0) X.1 X.2.1 dL_law_1104 (by decide) ?_
          exact absurd (Option.some.inj hf) (by decide)
      have hf := ifn hf w243
      by_cases w258 : ((xs (Int32.toNatClampNeg v3_1)) &&& 31) = 30
      · have hf := ifp hf w258
        refine lv_tableIn (tgt := 1106) X.1 X.2.1 dL_law_33 (by rw [w258]; decide) (by rw [w258]; decide) (off := 1073) (by rw [w258]; decide) (by decide) ?_
        refine lv_aload_n X.1 X.2.1 dL_law_1106 rfl (lv_at hl 1 rfl) ?_
        refine lv_aload_n X.1 X.2.1 dL_law_1107 rfl (lv_at hl 0 rfl) ?_
        refine lv_iload_n X.1 X.2.1 dL_law_1108 rfl (lv_at hl 3 rfl) ?_
        refine lv_iconst (v := 1) X.1 X.2.1 dL_law_1109 (by decide) ?_
        refine lv_iadd X.1 X.2.1 dL_law_1110 ?_
        obtain ⟨hi259, hf⟩ := gin_of hf
        refine va_sld X.1 X.2.1 hX hbl hbA hS hi259 dL_law_1111 ?_
        refine lv_aload_n X.1 X.2.1 dL_law_1112 rfl (lv_at hl 0 rfl) ?_
        refine lv_iload_n X.1 X.2.1 dL_law_1113 rfl (lv_at hl 3 rfl) ?_
        refine lv_iconst (v := 2) X.1 X.2.1 dL_law_1114 (by decide) ?_
        refine lv_iadd X.1 X.2.1 dL_law_1115 ?_
        obtain ⟨hi260, hf⟩ := gin_of hf
        refine va_sld X.1 X.2.1 hX hbl hbA hS hi260 dL_law_1116 ?_
        refine lv_aload_n X.1 X.2.1 dL_law_1117 rfl (lv_at hl 0 rfl) ?_
        refine lv_iload_n X.1 X.2.1 dL_law_1118 rfl (lv_at hl 3 rfl) ?_
        refine lv_iconst (v := 3) X.1 X.2.1 dL_law_1119 (by decide) ?_
        refine lv_iadd X.1 X.2.1 dL_law_1120 ?_
        obtain ⟨hi261, hf⟩ := gin_of hf
        refine va_sld X.1 X.2.1 hX hbl hbA hS hi261 dL_law_1121 ?_
        refine lv_aload_n X.1 X.2.1 dL_law_1122 rfl (lv_at hl 0 rfl) ?_
        refine lv_iload_n X.1 X.2.1 dL_law_1123 rfl (lv_at hl 3 rfl) ?_
        refine lv_iconst (v := 4) X.1 X.2.1 dL_law_1124 (by decide) ?_
        refine lv_iadd X.1 X.2.1 dL_law_1125 ?_
        obtain ⟨hi262, hf⟩ := gin_of hf
        refine va_sld X.1 X.2.1 hX hbl hbA hS hi262 dL_law_1126 ?_
        refine lv_aload_n X.1 X.2.1 dL_law_1127 rfl (lv_at hl 0 rfl) ?_
        refine lv_iload_n X.1 X.2.1 dL_law_1128 rfl (lv_at hl 3 rfl) ?_
        refine lv_iconst (v := 5) X.1 X.2.1 dL_law_1129 (by decide) ?_
        refine lv_iadd X.1 X.2.1 dL_law_1130 ?_
        obtain ⟨hi263, hf⟩ := gin_of hf
        refine va_sld X.1 X.2.1 hX hbl hbA hS hi263 dL_law_1131 ?_
        obtain ⟨r264, hr264, hf⟩ := bd_of hf
        refine xl_callVi ⟨by decide, by decide⟩ X hP hS hG_x (by omega) rfl (n := 5) (As := [.int (xs (Int32.toNatClampNeg (v3_1 + 1))), .int (xs (Int32.toNatClampNeg (v3_1 + 2))), .int (xs (Int32.toNatClampNeg (v3_1 + 3))), .int (xs (Int32.toNatClampNeg (v3_1 + 4))), .int (xs (Int32.toNatClampNeg (v3_1 + 5)))]) (ct_X5_copy hG_x hG_r hr264) gL_law_X5_copy rfl (by decide +kernel) ⟨by decide, by decide⟩ rfl hl.1 rfl (Nat.le_of_ble_eq_true rfl) dL_law_1132 (fun E H locs hp hP hS => ?_)
        obtain ⟨hW_r, hk⟩ := hp
        have hG_r := hW_r
        have hG_x := Xo_kept hG_x (fun j h8 h9 => hk j (by omega))
        have hG_n := Mu_kept hG_n (fun j h8 h9 => hk j (by omega))
        have hG_p := Pa_kept hG_p (fun j h8 h9 => hk j (by omega))
        have hG_a := Mu_kept hG_a (fun j h8 h9 => hk j (by omega))
        have hG_q := Pa_kept hG_q (fun j h8 h9 => hk j (by omega))
        have hG_t := Mu_kept hG_t (fun j h8 h9 => hk j (by omega))
        have hG_T := Ta_kept hG_T (fun j h8 h9 => hk j (by omega))
        have hG_h := Ha_kept hG_h (fun j h8 h9 => hk j (by omega))
        have hG_M := Mo_kept hG_M (fun j h8 h9 => hk j (by omega))
        refine lv_aload_n X.1 X.2.1 dL_law_1135 rfl (lv_at hl 2 rfl) ?_
        refine lv_aload_n X.1 X.2.1 dL_law_1136 rfl (lv_at hl 0 rfl) ?_
        refine lv_iload_n X.1 X.2.1 dL_law_1137 rfl (lv_at hl 3 rfl) ?_
        refine lv_iconst (v := 1) X.1 X.2.1 dL_law_1138 (by decide) ?_
        refine lv_iadd X.1 X.2.1 dL_law_1139 ?_
        obtain ⟨hi265, hf⟩ := gin_of hf
        refine va_sld X.1 X.2.1 hX hbl hbA hS hi265 dL_law_1140 ?_
        refine lv_aload_n X.1 X.2.1 dL_law_1141 rfl (lv_at hl 0 rfl) ?_
        refine lv_iload_n X.1 X.2.1 dL_law_1142 rfl (lv_at hl 3 rfl) ?_
        refine lv_iconst (v := 2) X.1 X.2.1 dL_law_1143 (by decide) ?_
        refine lv_iadd X.1 X.2.1 dL_law_1144 ?_
        obtain ⟨hi266, hf⟩ := gin_of hf
        refine va_sld X.1 X.2.1 hX hbl hbA hS hi266 dL_law_1145 ?_
        refine lv_aload_n X.1 X.2.1 dL_law_1146 rfl (lv_at hl 0 rfl) ?_
        refine lv_iload_n X.1 X.2.1 dL_law_1147 rfl (lv_at hl 3 rfl) ?_
        refine lv_iconst (v := 3) X.1 X.2.1 dL_law_1148 (by decide) ?_
        refine lv_iadd X.1 X.2.1 dL_law_1149 ?_
        obtain ⟨hi267, hf⟩ := gin_of hf
        refine va_sld X.1 X.2.1 hX hbl hbA hS hi267 dL_law_1150 ?_
        refine lv_aload_n X.1 X.2.1 dL_law_1151 rfl (lv_at hl 0 rfl) ?_
        refine lv_iload_n X.1 X.2.1 dL_law_1152 rfl (lv_at hl 3 rfl) ?_
        refine lv_iconst (v := 4) X.1 X.2.1 dL_law_1153 (by decide) ?_
        refine lv_iadd X.1 X.2.1 dL_law_1154 ?_
        obtain ⟨hi268, hf⟩ := gin_of hf
        refine va_sld X.1 X.2.1 hX hbl hbA hS hi268 dL_law_1155 ?_
        refine lv_aload_n X.1 X.2.1 dL_law_1156 rfl (lv_at hl 0 rfl) ?_
        refine lv_iload_n X.1 X.2.1 dL_law_1157 rfl (lv_at hl 3 rfl) ?_
        refine lv_iconst (v := 5) X.1 X.2.1 dL_law_1158 (by decide) ?_
        refine lv_iadd X.1 X.2.1 dL_law_1159 ?_
        obtain ⟨hi269, hf⟩ := gin_of hf
        refine va_sld X.1 X.2.1 hX hbl hbA hS hi269 dL_law_1160 ?_
        obtain ⟨r270, hr270, hf⟩ := bd_of hf
        refine xl_callVi ⟨by decide, by decide⟩ X hP hS hG_M.1 (by omega) rfl (n := 5) (As := [.int (xs (Int32.toNatClampNeg (v3_1 + 1))), .int (xs (Int32.toNatClampNeg (v3_1 + 2))), .int (xs (Int32.toNatClampNeg (v3_1 + 3))), .int (xs (Int32.toNatClampNeg (v3_1 + 4))), .int (xs (Int32.toNatClampNeg (v3_1 + 5)))]) (ct_X6_copy hG_M hr270) gL_law_X6_copy rfl (by decide +kernel) ⟨by decide, by decide⟩ rfl hl.1 rfl (Nat.le_of_ble_eq_true rfl) dL_law_1161 (fun E H locs hp hP hS => ?_)
        obtain ⟨hW_M, hk⟩ := hp
        have hG_M := hW_M
        have hG_x := Xo_kept hG_x (fun j h8 h9 => hk j (by omega))
        have hG_n := Mu_kept hG_n (fun j h8 h9 => hk j (by omega))
        have hG_p := Pa_kept hG_p (fun j h8 h9 => hk j (by omega))
        have hG_a := Mu_kept hG_a (fun j h8 h9 => hk j (by omega))
        have hG_q := Pa_kept hG_q (fun j h8 h9 => hk j (by omega))
        have hG_t := Mu_kept hG_t (fun j h8 h9 => hk j (by omega))
        have hG_T := Ta_kept hG_T (fun j h8 h9 => hk j (by omega))
        have hG_h := Ha_kept hG_h (fun j h8 h9 => hk j (by omega))
        have hG_r := Rs_kept hG_r (fun j h8 h9 => hk j (by omega))
        refine lv_icmp_eq (tgt := 1169) X.1 X.2.1 dL_law_1164 (by decide) (fun c271 => ?_) (fun c271 => ?_)
        · have hf := ifp hf c271
          obtain ⟨x272, ex272, hf⟩ := nm_of hf
          refine lv_iinc (v := x272) (lv' := [(3, .int x272), (0, .ref b), (1, .ref (qa 0)), (2, .ref (qa 64))]) X.1 X.2.1 dL_law_1169 hl (k := 3) rfl (by rw [ex272]; rfl) (by decide) rfl (fun ls hl => ?_)
          refine lv_goto (tgt := 18) X.1 X.2.1 dL_law_1172 (by decide) ?_
          exact ih1 x272 img_x_1 men_n_1 md_n_1 day_n_1 drw_n_1 bu_n_1 st_n_1 ki_n_1 we_n_1 wo_n_1 wr_n_1 kn_p_1 nx_p_1 ke_p_1 men_a_1 md_a_1 day_a_1 drw_a_1 bu_a_1 st_a_1 ki_a_1 we_a_1 wo_a_1 wr_a_1 kn_q_1 nx_q_1 ke_q_1 men_t_1 md_t_1 day_t_1 drw_t_1 bu_t_1 st_t_1 ki_t_1 we_t_1 wo_t_1 wr_t_1 ln_T_1 plc_T_1 ltr_T_1 worn_h_1 few_h_1 bc_h_1 ld_h_1 so_h_1 tr_h_1 be_h_1 wy_h_1 th_r_1 lan_r_1 siz_r_1 r264.2 ltr_M_1 pos_M_1 num_M_1 isk_M_1 bm_M_1 bch_M_1 lan_M_1 siz_M_1 r270.2 tap_M_1 now_M_1 tri_M_1 rd_M_1 kp_M_1 bes_M_1 _ _ _ _ hf hP hS hG_x hG_n hG_p hG_a hG_q hG_t hG_T hG_h hG_r hG_M (lv_sub hl [1, 2, 3, 0] rfl)
        · have hf := ifn hf c271
          refine lv_iconst (v := 0) X.1 X.2.1 dL_law_1167 (by decide) ?_
          exact absurd (Option.some.inj hf) (by decide)
      have hf := ifn hf w258
      refine lv_tableOut (tgt := 1169) X.1 X.2.1 dL_law_33 (by have := i_ne 0 (0) (by decide) w4; have := i_ne 1 (1) (by decide) w11; have := i_ne 2 (2) (by decide) w22; have := i_ne 3 (3) (by decide) w31; have := i_ne 4 (4) (by decide) w40; have := i_ne 5 (5) (by decide) w47; have := i_ne 6 (6) (by decide) w52; have := i_ne 7 (7) (by decide) w59; have := i_ne 8 (8) (by decide) w66; have := i_ne 9 (9) (by decide) w75; have := i_ne 10 (10) (by decide) w84; have := i_ne 11 (11) (by decide) w91; have := i_ne 12 (12) (by decide) w96; have := i_ne 13 (13) (by decide) w103; have := i_ne 14 (14) (by decide) w114; have := i_ne 15 (15) (by decide) w121; have := i_ne 16 (16) (by decide) w128; have := i_ne 17 (17) (by decide) w133; have := i_ne 18 (18) (by decide) w140; have := i_ne 19 (19) (by decide) w147; have := i_ne 20 (20) (by decide) w156; have := i_ne 21 (21) (by decide) w165; have := i_ne 22 (22) (by decide) w172; have := i_ne 23 (23) (by decide) w181; have := i_ne 24 (24) (by decide) w186; have := i_ne 25 (25) (by decide) w191; have := i_ne 26 (26) (by decide) w210; have := i_ne 27 (27) (by decide) w225; have := i_ne 28 (28) (by decide) w236; have := i_ne 29 (29) (by decide) w243; have := i_ne 30 (30) (by decide) w258; omega) (by decide) ?_
      obtain ⟨x273, ex273, hf⟩ := nm_of hf
      refine lv_iinc (v := x273) (lv' := [(3, .int x273), (0, .ref b), (1, .ref (qa 0)), (2, .ref (qa 64))]) X.1 X.2.1 dL_law_1169 hl (k := 3) rfl (by rw [ex273]; rfl) (by decide) rfl (fun ls hl => ?_)
      refine lv_goto (tgt := 18) X.1 X.2.1 dL_law_1172 (by decide) ?_
      exact ih1 x273 img_x_1 men_n_1 md_n_1 day_n_1 drw_n_1 bu_n_1 st_n_1 ki_n_1 we_n_1 wo_n_1 wr_n_1 kn_p_1 nx_p_1 ke_p_1 men_a_1 md_a_1 day_a_1 drw_a_1 bu_a_1 st_a_1 ki_a_1 we_a_1 wo_a_1 wr_a_1 kn_q_1 nx_q_1 ke_q_1 men_t_1 md_t_1 day_t_1 drw_t_1 bu_t_1 st_t_1 ki_t_1 we_t_1 wo_t_1 wr_t_1 ln_T_1 plc_T_1 ltr_T_1 worn_h_1 few_h_1 bc_h_1 ld_h_1 so_h_1 tr_h_1 be_h_1 wy_h_1 th_r_1 lan_r_1 siz_r_1 itm_r_1 ltr_M_1 pos_M_1 num_M_1 isk_M_1 bm_M_1 bch_M_1 lan_M_1 siz_M_1 itm_M_1 tap_M_1 now_M_1 tri_M_1 rd_M_1 kp_M_1 bes_M_1 _ _ _ _ hf hP hS hG_x hG_n hG_p hG_a hG_q hG_t hG_T hG_h hG_r hG_M (lv_sub hl [1, 2, 3, 0] rfl)