/-! THE LAW: one call after the other -/
theorem SY_of {men md day drw kn nx : Int32} {bu st ki we wo wr now : Nat → Int32} {ke : Nat → Nat → Int32} (h : SYH men md day drw bu st ki we wo wr kn nx ke now) : SY men md day drw bu st ki we wo wr now := by
  obtain ⟨nm, nd, dy, dr, bu0, st0, ki0, we0, wo0, wr0, kn0, nx0, h1, h2, h3, -, -, -⟩ := h
  exact ⟨nm, nd, dy, dr, bu0, st0, ki0, we0, wo0, wr0, h1, h2, h3⟩
theorem TP_0 {ltr tap : Nat → Int32} : TP 0 0 ltr tap := ⟨0, by omega, rfl, rfl, fun i hi => absurd hi (Nat.not_lt_zero i)⟩
theorem nej {x a b : Int32} (h : x = a) (hn : ¬ a = b) : ¬ x = b := fun q => hn (h.symm.trans q)
theorem bdS {α β : Type} {x : Option α} {a : α} {f : α → Option β} {y : Option β} (h : x = some a) (h2 : f a = y) : x.bind f = y := by
  rw [h, Option.bind_some]
  exact h2
theorem v8 {k : Nat} : nI (8 * k) + 8 = nI (8 * (k + 1)) := nI_add (8 * k) 8
theorem gl0 {α : Type} {k L : Nat} {A : Option α} (h : 8 * k + 8 ≤ L) (hL : L ≤ 512) : gin (nI (8 * k)) L A = A := gin_nI (by omega) (by omega)
theorem gl1 {α : Type} {k L : Nat} {A : Option α} (h : 8 * k + 8 ≤ L) (hL : L ≤ 512) : gin (nI (8 * k) + 1) L A = A := gin_add (k := 1) (by omega) (by omega)
theorem gl2 {α : Type} {k L : Nat} {A : Option α} (h : 8 * k + 8 ≤ L) (hL : L ≤ 512) : gin (nI (8 * k) + 2) L A = A := gin_add (k := 2) (by omega) (by omega)
theorem gl3 {α : Type} {k L : Nat} {A : Option α} (h : 8 * k + 8 ≤ L) (hL : L ≤ 512) : gin (nI (8 * k) + 3) L A = A := gin_add (k := 3) (by omega) (by omega)
theorem gl4 {α : Type} {k L : Nat} {A : Option α} (h : 8 * k + 8 ≤ L) (hL : L ≤ 512) : gin (nI (8 * k) + 4) L A = A := gin_add (k := 4) (by omega) (by omega)
theorem gl5 {α : Type} {k L : Nat} {A : Option α} (h : 8 * k + 8 ≤ L) (hL : L ≤ 512) : gin (nI (8 * k) + 5) L A = A := gin_add (k := 5) (by omega) (by omega)
theorem gl6 {α : Type} {k L : Nat} {A : Option α} (h : 8 * k + 8 ≤ L) (hL : L ≤ 512) : gin (nI (8 * k) + 6) L A = A := gin_add (k := 6) (by omega) (by omega)
theorem gl7 {α : Type} {k L : Nat} {A : Option α} (h : 8 * k + 8 ≤ L) (hL : L ≤ 512) : gin (nI (8 * k) + 7) L A = A := gin_add (k := 7) (by omega) (by omega)
theorem gate {k L : Nat} (h : 8 * k + 8 ≤ L) (hL : L ≤ 512) : ¬ nI L - 8 < nI (8 * k) := fun q => by
  rw [show nI L - 8 = nI (L - 8) from pk_sub (b := 8) (by omega)] at q
  have := (n_lt (by omega) (by omega)).mp q
  omega
theorem gateE {k L : Nat} (h : L < 8 * k + 8) (hL : L ≤ 512) (hk : 8 * k ≤ L) : nI L - 8 < nI (8 * k) := by
  by_cases c : 8 ≤ L
  · rw [show nI L - 8 = nI (L - 8) from pk_sub (b := 8) (by omega)]
    exact (n_lt (by omega) (by omega)).mpr (by omega)
  · have : k = 0 := by omega
    subst this
    have z : ∀ L : Fin 8, nI L.val - 8 < nI (8 * 0) := by decide +kernel
    exact z ⟨L, by omega⟩
/-- what holds between two calls -/
def IT (k : Nat) : (Int32 × Int32 × Int32 × Int32 × Int32 × Int32 × (Nat → Int32) × (Nat → Int32) × (Nat → Int32) × (Nat → Int32) × (Nat → Int32) × (Nat → Int32) × Int32 × Int32 × (Nat → Nat → Int32) × Int32 × Int32 × Int32 × Int32 × (Nat → Int32) × (Nat → Int32) × (Nat → Int32) × (Nat → Int32) × (Nat → Int32) × (Nat → Int32) × Int32 × Int32 × (Nat → Nat → Int32) × Int32 × Int32 × Int32 × Int32 × (Nat → Int32) × (Nat → Int32) × (Nat → Int32) × (Nat → Int32) × (Nat → Int32) × (Nat → Int32) × Int32 × Int32 × (Nat → Int32) × Int32 × Int32 × Int32 × (Nat → Nat → Int32) × (Nat → Int32) × (Nat → Int32) × (Nat → Int32) × (Nat → Int32) × (Nat → Int32) × (Nat → Int32) × (Nat → Int32) × (Nat → Nat → Int64) × Int32 × Int32 × Int32 × Int32 × Int32 × Int32 × (Nat → Int32) × (Nat → Int32) × (Nat → Int64) × (Nat → Int32) × (Nat → Int32) × (Nat → Int32) × (Nat → Int32) × (Nat → Int32) × (Nat → Int32)) → Prop
  | (v3, img_x, men_n, md_n, day_n, drw_n, bu_n, st_n, ki_n, we_n, wo_n, wr_n, kn_p, nx_p, ke_p, men_a, md_a, day_a, drw_a, bu_a, st_a, ki_a, we_a, wo_a, wr_a, kn_q, nx_q, ke_q, men_t, md_t, day_t, drw_t, bu_t, st_t, ki_t, we_t, wo_t, wr_t, ln_T, plc_T, ltr_T, worn_h, few_h, bc_h, ld_h, so_h, tr_h, be_h, wy_h, th_r, lan_r, siz_r, itm_r, ltr_M, pos_M, num_M, isk_M, bm_M, bch_M, lan_M, siz_M, itm_M, tap_M, now_M, tri_M, rd_M, kp_M, bes_M) => v3 = nI (8 * k) ∧ SYH men_n md_n day_n drw_n bu_n st_n ki_n we_n wo_n wr_n kn_p nx_p ke_p now_M ∧ img_x = isk_M ∧ (img_x = 0 ∨ SYH men_a md_a day_a drw_a bu_a st_a ki_a we_a wo_a wr_a kn_q nx_q ke_q kp_M) ∧ TP ln_T ltr_M ltr_T tap_M ∧ SHT th_r lan_r siz_r itm_r lan_M siz_M itm_M
section LAW
variable {L k : Nat} {xs : Nat → Int32}
variable {bu_n st_n ki_n we_n wo_n wr_n bu_a st_a ki_a we_a wo_a wr_a bu_t st_t ki_t we_t wo_t wr_t ltr_T so_h tr_h be_h wy_h th_r lan_r siz_r lan_M siz_M tap_M now_M tri_M rd_M kp_M bes_M : Nat → Int32}
variable {itm_M : Nat → Int64}
variable {ke_p ke_q ld_h : Nat → Nat → Int32}
variable {itm_r : Nat → Nat → Int64}
variable {img_x men_n md_n day_n drw_n kn_p nx_p men_a md_a day_a drw_a kn_q nx_q men_t md_t day_t drw_t ln_T plc_T worn_h few_h bc_h ltr_M pos_M num_M isk_M bm_M bch_M : Int32}
theorem st_man (hS : SYH men_n md_n day_n drw_n bu_n st_n ki_n we_n wo_n wr_n kn_p nx_p ke_p now_M) (hG : img_x = isk_M) (hA : img_x = 0 ∨ SYH men_a md_a day_a drw_a bu_a st_a ki_a we_a wo_a wr_a kn_q nx_q ke_q kp_M) (hT : TP ln_T ltr_M ltr_T tap_M) (hR : SHT th_r lan_r siz_r itm_r lan_M siz_M itm_M) (h : 8 * k + 8 ≤ L) (hL : L ≤ 512) (c : (xs (Int32.toNatClampNeg (nI (8 * k))) &&& 31) = 0) : ∃ a', IT (k + 1) a' ∧ ∀ K, bL_law_18 L xs K (nI (8 * k), img_x, men_n, md_n, day_n, drw_n, bu_n, st_n, ki_n, we_n, wo_n, wr_n, kn_p, nx_p, ke_p, men_a, md_a, day_a, drw_a, bu_a, st_a, ki_a, we_a, wo_a, wr_a, kn_q, nx_q, ke_q, men_t, md_t, day_t, drw_t, bu_t, st_t, ki_t, we_t, wo_t, wr_t, ln_T, plc_T, ltr_T, worn_h, few_h, bc_h, ld_h, so_h, tr_h, be_h, wy_h, th_r, lan_r, siz_r, itm_r, ltr_M, pos_M, num_M, isk_M, bm_M, bch_M, lan_M, siz_M, itm_M, tap_M, now_M, tri_M, rd_M, kp_M, bes_M) = K a' := by
  obtain ⟨r, z1, z2, z3, z4, now', e1, e2, hN⟩ := pub_man (p1 := xs (Int32.toNatClampNeg (nI (8 * k) + 1)))  hS
  refine ⟨(nI (8 * k) + 8, img_x, z1, md_n, day_n, drw_n, z2, z3, ki_n, we_n, wo_n, wr_n, z4, nx_p, ke_p, men_a, md_a, day_a, drw_a, bu_a, st_a, ki_a, we_a, wo_a, wr_a, kn_q, nx_q, ke_q, men_t, md_t, day_t, drw_t, bu_t, st_t, ki_t, we_t, wo_t, wr_t, ln_T, plc_T, ltr_T, worn_h, few_h, bc_h, ld_h, so_h, tr_h, be_h, wy_h, th_r, lan_r, siz_r, itm_r, ltr_M, pos_M, num_M, isk_M, bm_M, bch_M, lan_M, siz_M, itm_M, tap_M, now', tri_M, rd_M, kp_M, bes_M), ⟨v8, hN, hG, hA, hT, hR⟩, fun K => ?_⟩
  refine (if_neg (gate h hL)).trans ?_
  refine (gl0 h hL).trans ?_
  refine (if_pos c).trans ?_
  refine (gl1 h hL).trans ?_
  refine bdS e1 ?_
  refine (gl1 h hL).trans ?_
  refine bdS e2 ?_
  exact if_pos rfl
theorem st_medal (hS : SYH men_n md_n day_n drw_n bu_n st_n ki_n we_n wo_n wr_n kn_p nx_p ke_p now_M) (hG : img_x = isk_M) (hA : img_x = 0 ∨ SYH men_a md_a day_a drw_a bu_a st_a ki_a we_a wo_a wr_a kn_q nx_q ke_q kp_M) (hT : TP ln_T ltr_M ltr_T tap_M) (hR : SHT th_r lan_r siz_r itm_r lan_M siz_M itm_M) (h : 8 * k + 8 ≤ L) (hL : L ≤ 512) (c : (xs (Int32.toNatClampNeg (nI (8 * k))) &&& 31) = 1) : ∃ a', IT (k + 1) a' ∧ ∀ K, bL_law_18 L xs K (nI (8 * k), img_x, men_n, md_n, day_n, drw_n, bu_n, st_n, ki_n, we_n, wo_n, wr_n, kn_p, nx_p, ke_p, men_a, md_a, day_a, drw_a, bu_a, st_a, ki_a, we_a, wo_a, wr_a, kn_q, nx_q, ke_q, men_t, md_t, day_t, drw_t, bu_t, st_t, ki_t, we_t, wo_t, wr_t, ln_T, plc_T, ltr_T, worn_h, few_h, bc_h, ld_h, so_h, tr_h, be_h, wy_h, th_r, lan_r, siz_r, itm_r, ltr_M, pos_M, num_M, isk_M, bm_M, bch_M, lan_M, siz_M, itm_M, tap_M, now_M, tri_M, rd_M, kp_M, bes_M) = K a' := by
  obtain ⟨r, z1, z2, z3, z4, z5, z6, now', e1, e2, hN⟩ := pub_medal (p1 := xs (Int32.toNatClampNeg (nI (8 * k) + 1))) (p2 := xs (Int32.toNatClampNeg (nI (8 * k) + 2))) (p3 := xs (Int32.toNatClampNeg (nI (8 * k) + 3)))  hS
  refine ⟨(nI (8 * k) + 8, img_x, men_n, z1, day_n, drw_n, bu_n, st_n, z2, z3, z4, z5, z6, nx_p, ke_p, men_a, md_a, day_a, drw_a, bu_a, st_a, ki_a, we_a, wo_a, wr_a, kn_q, nx_q, ke_q, men_t, md_t, day_t, drw_t, bu_t, st_t, ki_t, we_t, wo_t, wr_t, ln_T, plc_T, ltr_T, worn_h, few_h, bc_h, ld_h, so_h, tr_h, be_h, wy_h, th_r, lan_r, siz_r, itm_r, ltr_M, pos_M, num_M, isk_M, bm_M, bch_M, lan_M, siz_M, itm_M, tap_M, now', tri_M, rd_M, kp_M, bes_M), ⟨v8, hN, hG, hA, hT, hR⟩, fun K => ?_⟩
  refine (if_neg (gate h hL)).trans ?_
  refine (gl0 h hL).trans ?_
  refine (if_neg (nej c (by decide : ¬ (1 : Int32) = 0))).trans ?_
  refine (if_pos c).trans ?_
  refine (gl1 h hL).trans ?_
  refine (gl2 h hL).trans ?_
  refine (gl3 h hL).trans ?_
  refine bdS e1 ?_
  refine (gl1 h hL).trans ?_
  refine (gl2 h hL).trans ?_
  refine (gl3 h hL).trans ?_
  refine bdS e2 ?_
  exact if_pos rfl
theorem st_of (hS : SYH men_n md_n day_n drw_n bu_n st_n ki_n we_n wo_n wr_n kn_p nx_p ke_p now_M) (hG : img_x = isk_M) (hA : img_x = 0 ∨ SYH men_a md_a day_a drw_a bu_a st_a ki_a we_a wo_a wr_a kn_q nx_q ke_q kp_M) (hT : TP ln_T ltr_M ltr_T tap_M) (hR : SHT th_r lan_r siz_r itm_r lan_M siz_M itm_M) (h : 8 * k + 8 ≤ L) (hL : L ≤ 512) (c : (xs (Int32.toNatClampNeg (nI (8 * k))) &&& 31) = 2) : ∃ a', IT (k + 1) a' ∧ ∀ K, bL_law_18 L xs K (nI (8 * k), img_x, men_n, md_n, day_n, drw_n, bu_n, st_n, ki_n, we_n, wo_n, wr_n, kn_p, nx_p, ke_p, men_a, md_a, day_a, drw_a, bu_a, st_a, ki_a, we_a, wo_a, wr_a, kn_q, nx_q, ke_q, men_t, md_t, day_t, drw_t, bu_t, st_t, ki_t, we_t, wo_t, wr_t, ln_T, plc_T, ltr_T, worn_h, few_h, bc_h, ld_h, so_h, tr_h, be_h, wy_h, th_r, lan_r, siz_r, itm_r, ltr_M, pos_M, num_M, isk_M, bm_M, bch_M, lan_M, siz_M, itm_M, tap_M, now_M, tri_M, rd_M, kp_M, bes_M) = K a' := by
  obtain ⟨r, e1, e2⟩ := pub_of (p1 := xs (Int32.toNatClampNeg (nI (8 * k) + 1))) (p2 := xs (Int32.toNatClampNeg (nI (8 * k) + 2)))  (SY_of hS)
  refine ⟨(nI (8 * k) + 8, img_x, men_n, md_n, day_n, drw_n, bu_n, st_n, ki_n, we_n, wo_n, wr_n, kn_p, nx_p, ke_p, men_a, md_a, day_a, drw_a, bu_a, st_a, ki_a, we_a, wo_a, wr_a, kn_q, nx_q, ke_q, men_t, md_t, day_t, drw_t, bu_t, st_t, ki_t, we_t, wo_t, wr_t, ln_T, plc_T, ltr_T, worn_h, few_h, bc_h, ld_h, so_h, tr_h, be_h, wy_h, th_r, lan_r, siz_r, itm_r, ltr_M, pos_M, num_M, isk_M, bm_M, bch_M, lan_M, siz_M, itm_M, tap_M, now_M, tri_M, rd_M, kp_M, bes_M), ⟨v8, hS, hG, hA, hT, hR⟩, fun K => ?_⟩
  refine (if_neg (gate h hL)).trans ?_
  refine (gl0 h hL).trans ?_
  refine (if_neg (nej c (by decide : ¬ (2 : Int32) = 0))).trans ?_
  refine (if_neg (nej c (by decide : ¬ (2 : Int32) = 1))).trans ?_
  refine (if_pos c).trans ?_
  refine (gl1 h hL).trans ?_
  refine (gl2 h hL).trans ?_
  refine bdS e1 ?_
  refine (gl1 h hL).trans ?_
  refine (gl2 h hL).trans ?_
  refine bdS e2 ?_
  exact if_pos rfl
theorem st_at (hS : SYH men_n md_n day_n drw_n bu_n st_n ki_n we_n wo_n wr_n kn_p nx_p ke_p now_M) (hG : img_x = isk_M) (hA : img_x = 0 ∨ SYH men_a md_a day_a drw_a bu_a st_a ki_a we_a wo_a wr_a kn_q nx_q ke_q kp_M) (hT : TP ln_T ltr_M ltr_T tap_M) (hR : SHT th_r lan_r siz_r itm_r lan_M siz_M itm_M) (h : 8 * k + 8 ≤ L) (hL : L ≤ 512) (c : (xs (Int32.toNatClampNeg (nI (8 * k))) &&& 31) = 3) : ∃ a', IT (k + 1) a' ∧ ∀ K, bL_law_18 L xs K (nI (8 * k), img_x, men_n, md_n, day_n, drw_n, bu_n, st_n, ki_n, we_n, wo_n, wr_n, kn_p, nx_p, ke_p, men_a, md_a, day_a, drw_a, bu_a, st_a, ki_a, we_a, wo_a, wr_a, kn_q, nx_q, ke_q, men_t, md_t, day_t, drw_t, bu_t, st_t, ki_t, we_t, wo_t, wr_t, ln_T, plc_T, ltr_T, worn_h, few_h, bc_h, ld_h, so_h, tr_h, be_h, wy_h, th_r, lan_r, siz_r, itm_r, ltr_M, pos_M, num_M, isk_M, bm_M, bch_M, lan_M, siz_M, itm_M, tap_M, now_M, tri_M, rd_M, kp_M, bes_M) = K a' := by
  obtain ⟨r, e1, e2⟩ := pub_at (p1 := xs (Int32.toNatClampNeg (nI (8 * k) + 1))) (p2 := xs (Int32.toNatClampNeg (nI (8 * k) + 2)))  (SY_of hS)
  refine ⟨(nI (8 * k) + 8, img_x, men_n, md_n, day_n, drw_n, bu_n, st_n, ki_n, we_n, wo_n, wr_n, kn_p, nx_p, ke_p, men_a, md_a, day_a, drw_a, bu_a, st_a, ki_a, we_a, wo_a, wr_a, kn_q, nx_q, ke_q, men_t, md_t, day_t, drw_t, bu_t, st_t, ki_t, we_t, wo_t, wr_t, ln_T, plc_T, ltr_T, worn_h, few_h, bc_h, ld_h, so_h, tr_h, be_h, wy_h, th_r, lan_r, siz_r, itm_r, ltr_M, pos_M, num_M, isk_M, bm_M, bch_M, lan_M, siz_M, itm_M, tap_M, now_M, tri_M, rd_M, kp_M, bes_M), ⟨v8, hS, hG, hA, hT, hR⟩, fun K => ?_⟩
  refine (if_neg (gate h hL)).trans ?_
  refine (gl0 h hL).trans ?_
  refine (if_neg (nej c (by decide : ¬ (3 : Int32) = 0))).trans ?_
  refine (if_neg (nej c (by decide : ¬ (3 : Int32) = 1))).trans ?_
  refine (if_neg (nej c (by decide : ¬ (3 : Int32) = 2))).trans ?_
  refine (if_pos c).trans ?_
  refine (gl1 h hL).trans ?_
  refine (gl2 h hL).trans ?_
  refine bdS e1 ?_
  refine (gl1 h hL).trans ?_
  refine (gl2 h hL).trans ?_
  refine bdS e2 ?_
  exact if_pos rfl
theorem st_type (hS : SYH men_n md_n day_n drw_n bu_n st_n ki_n we_n wo_n wr_n kn_p nx_p ke_p now_M) (hG : img_x = isk_M) (hA : img_x = 0 ∨ SYH men_a md_a day_a drw_a bu_a st_a ki_a we_a wo_a wr_a kn_q nx_q ke_q kp_M) (hT : TP ln_T ltr_M ltr_T tap_M) (hR : SHT th_r lan_r siz_r itm_r lan_M siz_M itm_M) (h : 8 * k + 8 ≤ L) (hL : L ≤ 512) (c : (xs (Int32.toNatClampNeg (nI (8 * k))) &&& 31) = 4) : ∃ a', IT (k + 1) a' ∧ ∀ K, bL_law_18 L xs K (nI (8 * k), img_x, men_n, md_n, day_n, drw_n, bu_n, st_n, ki_n, we_n, wo_n, wr_n, kn_p, nx_p, ke_p, men_a, md_a, day_a, drw_a, bu_a, st_a, ki_a, we_a, wo_a, wr_a, kn_q, nx_q, ke_q, men_t, md_t, day_t, drw_t, bu_t, st_t, ki_t, we_t, wo_t, wr_t, ln_T, plc_T, ltr_T, worn_h, few_h, bc_h, ld_h, so_h, tr_h, be_h, wy_h, th_r, lan_r, siz_r, itm_r, ltr_M, pos_M, num_M, isk_M, bm_M, bch_M, lan_M, siz_M, itm_M, tap_M, now_M, tri_M, rd_M, kp_M, bes_M) = K a' := by
  obtain ⟨r, z1, y1, z2, y2, e1, e2, hN⟩ := pub_type (p1 := xs (Int32.toNatClampNeg (nI (8 * k) + 1)))  hT
  refine ⟨(nI (8 * k) + 8, img_x, men_n, md_n, day_n, drw_n, bu_n, st_n, ki_n, we_n, wo_n, wr_n, kn_p, nx_p, ke_p, men_a, md_a, day_a, drw_a, bu_a, st_a, ki_a, we_a, wo_a, wr_a, kn_q, nx_q, ke_q, men_t, md_t, day_t, drw_t, bu_t, st_t, ki_t, we_t, wo_t, wr_t, z1, plc_T, z2, worn_h, few_h, bc_h, ld_h, so_h, tr_h, be_h, wy_h, th_r, lan_r, siz_r, itm_r, y1, pos_M, num_M, isk_M, bm_M, bch_M, lan_M, siz_M, itm_M, y2, now_M, tri_M, rd_M, kp_M, bes_M), ⟨v8, hS, hG, hA, hN, hR⟩, fun K => ?_⟩
  refine (if_neg (gate h hL)).trans ?_
  refine (gl0 h hL).trans ?_
  refine (if_neg (nej c (by decide : ¬ (4 : Int32) = 0))).trans ?_
  refine (if_neg (nej c (by decide : ¬ (4 : Int32) = 1))).trans ?_
  refine (if_neg (nej c (by decide : ¬ (4 : Int32) = 2))).trans ?_
  refine (if_neg (nej c (by decide : ¬ (4 : Int32) = 3))).trans ?_
  refine (if_pos c).trans ?_
  refine (gl1 h hL).trans ?_
  refine bdS e1 ?_
  refine (gl1 h hL).trans ?_
  refine bdS e2 ?_
  exact if_pos rfl
theorem st_state (hS : SYH men_n md_n day_n drw_n bu_n st_n ki_n we_n wo_n wr_n kn_p nx_p ke_p now_M) (hG : img_x = isk_M) (hA : img_x = 0 ∨ SYH men_a md_a day_a drw_a bu_a st_a ki_a we_a wo_a wr_a kn_q nx_q ke_q kp_M) (hT : TP ln_T ltr_M ltr_T tap_M) (hR : SHT th_r lan_r siz_r itm_r lan_M siz_M itm_M) (h : 8 * k + 8 ≤ L) (hL : L ≤ 512) (c : (xs (Int32.toNatClampNeg (nI (8 * k))) &&& 31) = 5) : ∃ a', IT (k + 1) a' ∧ ∀ K, bL_law_18 L xs K (nI (8 * k), img_x, men_n, md_n, day_n, drw_n, bu_n, st_n, ki_n, we_n, wo_n, wr_n, kn_p, nx_p, ke_p, men_a, md_a, day_a, drw_a, bu_a, st_a, ki_a, we_a, wo_a, wr_a, kn_q, nx_q, ke_q, men_t, md_t, day_t, drw_t, bu_t, st_t, ki_t, we_t, wo_t, wr_t, ln_T, plc_T, ltr_T, worn_h, few_h, bc_h, ld_h, so_h, tr_h, be_h, wy_h, th_r, lan_r, siz_r, itm_r, ltr_M, pos_M, num_M, isk_M, bm_M, bch_M, lan_M, siz_M, itm_M, tap_M, now_M, tri_M, rd_M, kp_M, bes_M) = K a' := by
  obtain ⟨r, z1, z2, z3, z4, z5, z6, z7, z8, z9, z10, z11, b1, b2, b3, b4, b5, b6, b7, b8, b9, b10, plc', pos', num', now', rd', e1, e2, hN⟩ := pub_state  (bu_t := bu_t) (st_t := st_t) (ki_t := ki_t) (we_t := we_t) (wo_t := wo_t) (wr_t := wr_t) (numM := num_M) (rd := rd_M) hS hT
  refine ⟨(nI (8 * k) + 8, img_x, z1, z2, z3, z4, z5, z6, z7, z8, z9, z10, z11, nx_p, ke_p, men_a, md_a, day_a, drw_a, bu_a, st_a, ki_a, we_a, wo_a, wr_a, kn_q, nx_q, ke_q, b1, b2, b3, b4, b5, b6, b7, b8, b9, b10, 0, plc', ltr_T, worn_h, few_h, bc_h, ld_h, so_h, tr_h, be_h, wy_h, th_r, lan_r, siz_r, itm_r, 0, pos', num', isk_M, bm_M, bch_M, lan_M, siz_M, itm_M, tap_M, now', tri_M, rd', kp_M, bes_M), ⟨v8, hN, hG, hA, TP_0, hR⟩, fun K => ?_⟩
  refine (if_neg (gate h hL)).trans ?_
  refine (gl0 h hL).trans ?_
  refine (if_neg (nej c (by decide : ¬ (5 : Int32) = 0))).trans ?_
  refine (if_neg (nej c (by decide : ¬ (5 : Int32) = 1))).trans ?_
  refine (if_neg (nej c (by decide : ¬ (5 : Int32) = 2))).trans ?_
  refine (if_neg (nej c (by decide : ¬ (5 : Int32) = 3))).trans ?_
  refine (if_neg (nej c (by decide : ¬ (5 : Int32) = 4))).trans ?_
  refine (if_pos c).trans ?_
  refine bdS e1 ?_
  refine bdS e2 ?_
  exact if_pos rfl
theorem st_count (hS : SYH men_n md_n day_n drw_n bu_n st_n ki_n we_n wo_n wr_n kn_p nx_p ke_p now_M) (hG : img_x = isk_M) (hA : img_x = 0 ∨ SYH men_a md_a day_a drw_a bu_a st_a ki_a we_a wo_a wr_a kn_q nx_q ke_q kp_M) (hT : TP ln_T ltr_M ltr_T tap_M) (hR : SHT th_r lan_r siz_r itm_r lan_M siz_M itm_M) (h : 8 * k + 8 ≤ L) (hL : L ≤ 512) (c : (xs (Int32.toNatClampNeg (nI (8 * k))) &&& 31) = 6) : ∃ a', IT (k + 1) a' ∧ ∀ K, bL_law_18 L xs K (nI (8 * k), img_x, men_n, md_n, day_n, drw_n, bu_n, st_n, ki_n, we_n, wo_n, wr_n, kn_p, nx_p, ke_p, men_a, md_a, day_a, drw_a, bu_a, st_a, ki_a, we_a, wo_a, wr_a, kn_q, nx_q, ke_q, men_t, md_t, day_t, drw_t, bu_t, st_t, ki_t, we_t, wo_t, wr_t, ln_T, plc_T, ltr_T, worn_h, few_h, bc_h, ld_h, so_h, tr_h, be_h, wy_h, th_r, lan_r, siz_r, itm_r, ltr_M, pos_M, num_M, isk_M, bm_M, bch_M, lan_M, siz_M, itm_M, tap_M, now_M, tri_M, rd_M, kp_M, bes_M) = K a' := by
  obtain ⟨r, e1, e2⟩ := pub_count (p1 := xs (Int32.toNatClampNeg (nI (8 * k) + 1)))  hS
  refine ⟨(nI (8 * k) + 8, img_x, men_n, md_n, day_n, drw_n, bu_n, st_n, ki_n, we_n, wo_n, wr_n, kn_p, nx_p, ke_p, men_a, md_a, day_a, drw_a, bu_a, st_a, ki_a, we_a, wo_a, wr_a, kn_q, nx_q, ke_q, men_t, md_t, day_t, drw_t, bu_t, st_t, ki_t, we_t, wo_t, wr_t, ln_T, plc_T, ltr_T, worn_h, few_h, bc_h, ld_h, so_h, tr_h, be_h, wy_h, th_r, lan_r, siz_r, itm_r, ltr_M, pos_M, num_M, isk_M, bm_M, bch_M, lan_M, siz_M, itm_M, tap_M, now_M, tri_M, rd_M, kp_M, bes_M), ⟨v8, hS, hG, hA, hT, hR⟩, fun K => ?_⟩
  refine (if_neg (gate h hL)).trans ?_
  refine (gl0 h hL).trans ?_
  refine (if_neg (nej c (by decide : ¬ (6 : Int32) = 0))).trans ?_
  refine (if_neg (nej c (by decide : ¬ (6 : Int32) = 1))).trans ?_
  refine (if_neg (nej c (by decide : ¬ (6 : Int32) = 2))).trans ?_
  refine (if_neg (nej c (by decide : ¬ (6 : Int32) = 3))).trans ?_
  refine (if_neg (nej c (by decide : ¬ (6 : Int32) = 4))).trans ?_
  refine (if_neg (nej c (by decide : ¬ (6 : Int32) = 5))).trans ?_
  refine (if_pos c).trans ?_
  refine (gl1 h hL).trans ?_
  refine bdS e1 ?_
  refine (gl1 h hL).trans ?_
  refine bdS e2 ?_
  exact if_pos rfl
theorem st_days (hS : SYH men_n md_n day_n drw_n bu_n st_n ki_n we_n wo_n wr_n kn_p nx_p ke_p now_M) (hG : img_x = isk_M) (hA : img_x = 0 ∨ SYH men_a md_a day_a drw_a bu_a st_a ki_a we_a wo_a wr_a kn_q nx_q ke_q kp_M) (hT : TP ln_T ltr_M ltr_T tap_M) (hR : SHT th_r lan_r siz_r itm_r lan_M siz_M itm_M) (h : 8 * k + 8 ≤ L) (hL : L ≤ 512) (c : (xs (Int32.toNatClampNeg (nI (8 * k))) &&& 31) = 7) : ∃ a', IT (k + 1) a' ∧ ∀ K, bL_law_18 L xs K (nI (8 * k), img_x, men_n, md_n, day_n, drw_n, bu_n, st_n, ki_n, we_n, wo_n, wr_n, kn_p, nx_p, ke_p, men_a, md_a, day_a, drw_a, bu_a, st_a, ki_a, we_a, wo_a, wr_a, kn_q, nx_q, ke_q, men_t, md_t, day_t, drw_t, bu_t, st_t, ki_t, we_t, wo_t, wr_t, ln_T, plc_T, ltr_T, worn_h, few_h, bc_h, ld_h, so_h, tr_h, be_h, wy_h, th_r, lan_r, siz_r, itm_r, ltr_M, pos_M, num_M, isk_M, bm_M, bch_M, lan_M, siz_M, itm_M, tap_M, now_M, tri_M, rd_M, kp_M, bes_M) = K a' := by
  obtain ⟨r, z1, z2, z3, z4, z5, z6, z7, now', e1, e2, hN⟩ := pub_days (p1 := xs (Int32.toNatClampNeg (nI (8 * k) + 1)))  hS
  refine ⟨(nI (8 * k) + 8, img_x, men_n, md_n, z1, z2, bu_n, z3, ki_n, we_n, wo_n, z4, z5, z6, z7, men_a, md_a, day_a, drw_a, bu_a, st_a, ki_a, we_a, wo_a, wr_a, kn_q, nx_q, ke_q, men_t, md_t, day_t, drw_t, bu_t, st_t, ki_t, we_t, wo_t, wr_t, ln_T, plc_T, ltr_T, worn_h, few_h, bc_h, ld_h, so_h, tr_h, be_h, wy_h, th_r, lan_r, siz_r, itm_r, ltr_M, pos_M, num_M, isk_M, bm_M, bch_M, lan_M, siz_M, itm_M, tap_M, now', tri_M, rd_M, kp_M, bes_M), ⟨v8, hN, hG, hA, hT, hR⟩, fun K => ?_⟩
  refine (if_neg (gate h hL)).trans ?_
  refine (gl0 h hL).trans ?_
  refine (if_neg (nej c (by decide : ¬ (7 : Int32) = 0))).trans ?_
  refine (if_neg (nej c (by decide : ¬ (7 : Int32) = 1))).trans ?_
  refine (if_neg (nej c (by decide : ¬ (7 : Int32) = 2))).trans ?_
  refine (if_neg (nej c (by decide : ¬ (7 : Int32) = 3))).trans ?_
  refine (if_neg (nej c (by decide : ¬ (7 : Int32) = 4))).trans ?_
  refine (if_neg (nej c (by decide : ¬ (7 : Int32) = 5))).trans ?_
  refine (if_neg (nej c (by decide : ¬ (7 : Int32) = 6))).trans ?_
  refine (if_pos c).trans ?_
  refine (gl1 h hL).trans ?_
  refine bdS e1 ?_
  refine (gl1 h hL).trans ?_
  refine bdS e2 ?_
  exact if_pos rfl
theorem st_hang (hS : SYH men_n md_n day_n drw_n bu_n st_n ki_n we_n wo_n wr_n kn_p nx_p ke_p now_M) (hG : img_x = isk_M) (hA : img_x = 0 ∨ SYH men_a md_a day_a drw_a bu_a st_a ki_a we_a wo_a wr_a kn_q nx_q ke_q kp_M) (hT : TP ln_T ltr_M ltr_T tap_M) (hR : SHT th_r lan_r siz_r itm_r lan_M siz_M itm_M) (h : 8 * k + 8 ≤ L) (hL : L ≤ 512) (c : (xs (Int32.toNatClampNeg (nI (8 * k))) &&& 31) = 8) : ∃ a', IT (k + 1) a' ∧ ∀ K, bL_law_18 L xs K (nI (8 * k), img_x, men_n, md_n, day_n, drw_n, bu_n, st_n, ki_n, we_n, wo_n, wr_n, kn_p, nx_p, ke_p, men_a, md_a, day_a, drw_a, bu_a, st_a, ki_a, we_a, wo_a, wr_a, kn_q, nx_q, ke_q, men_t, md_t, day_t, drw_t, bu_t, st_t, ki_t, we_t, wo_t, wr_t, ln_T, plc_T, ltr_T, worn_h, few_h, bc_h, ld_h, so_h, tr_h, be_h, wy_h, th_r, lan_r, siz_r, itm_r, ltr_M, pos_M, num_M, isk_M, bm_M, bch_M, lan_M, siz_M, itm_M, tap_M, now_M, tri_M, rd_M, kp_M, bes_M) = K a' := by
  obtain ⟨r, z1, z2, z3, z4, now', e1, e2, hN⟩ := pub_hang (p1 := xs (Int32.toNatClampNeg (nI (8 * k) + 1))) (p2 := xs (Int32.toNatClampNeg (nI (8 * k) + 2)))  hS
  refine ⟨(nI (8 * k) + 8, img_x, men_n, md_n, day_n, drw_n, bu_n, st_n, ki_n, we_n, wo_n, z1, z2, z3, z4, men_a, md_a, day_a, drw_a, bu_a, st_a, ki_a, we_a, wo_a, wr_a, kn_q, nx_q, ke_q, men_t, md_t, day_t, drw_t, bu_t, st_t, ki_t, we_t, wo_t, wr_t, ln_T, plc_T, ltr_T, worn_h, few_h, bc_h, ld_h, so_h, tr_h, be_h, wy_h, th_r, lan_r, siz_r, itm_r, ltr_M, pos_M, num_M, isk_M, bm_M, bch_M, lan_M, siz_M, itm_M, tap_M, now', tri_M, rd_M, kp_M, bes_M), ⟨v8, hN, hG, hA, hT, hR⟩, fun K => ?_⟩
  refine (if_neg (gate h hL)).trans ?_
  refine (gl0 h hL).trans ?_
  refine (if_neg (nej c (by decide : ¬ (8 : Int32) = 0))).trans ?_
  refine (if_neg (nej c (by decide : ¬ (8 : Int32) = 1))).trans ?_
  refine (if_neg (nej c (by decide : ¬ (8 : Int32) = 2))).trans ?_
  refine (if_neg (nej c (by decide : ¬ (8 : Int32) = 3))).trans ?_
  refine (if_neg (nej c (by decide : ¬ (8 : Int32) = 4))).trans ?_
  refine (if_neg (nej c (by decide : ¬ (8 : Int32) = 5))).trans ?_
  refine (if_neg (nej c (by decide : ¬ (8 : Int32) = 6))).trans ?_
  refine (if_neg (nej c (by decide : ¬ (8 : Int32) = 7))).trans ?_
  refine (if_pos c).trans ?_
  refine (gl1 h hL).trans ?_
  refine (gl2 h hL).trans ?_
  refine bdS e1 ?_
  refine (gl1 h hL).trans ?_
  refine (gl2 h hL).trans ?_
  refine bdS e2 ?_
  exact if_pos rfl
theorem st_polish (hS : SYH men_n md_n day_n drw_n bu_n st_n ki_n we_n wo_n wr_n kn_p nx_p ke_p now_M) (hG : img_x = isk_M) (hA : img_x = 0 ∨ SYH men_a md_a day_a drw_a bu_a st_a ki_a we_a wo_a wr_a kn_q nx_q ke_q kp_M) (hT : TP ln_T ltr_M ltr_T tap_M) (hR : SHT th_r lan_r siz_r itm_r lan_M siz_M itm_M) (h : 8 * k + 8 ≤ L) (hL : L ≤ 512) (c : (xs (Int32.toNatClampNeg (nI (8 * k))) &&& 31) = 9) : ∃ a', IT (k + 1) a' ∧ ∀ K, bL_law_18 L xs K (nI (8 * k), img_x, men_n, md_n, day_n, drw_n, bu_n, st_n, ki_n, we_n, wo_n, wr_n, kn_p, nx_p, ke_p, men_a, md_a, day_a, drw_a, bu_a, st_a, ki_a, we_a, wo_a, wr_a, kn_q, nx_q, ke_q, men_t, md_t, day_t, drw_t, bu_t, st_t, ki_t, we_t, wo_t, wr_t, ln_T, plc_T, ltr_T, worn_h, few_h, bc_h, ld_h, so_h, tr_h, be_h, wy_h, th_r, lan_r, siz_r, itm_r, ltr_M, pos_M, num_M, isk_M, bm_M, bch_M, lan_M, siz_M, itm_M, tap_M, now_M, tri_M, rd_M, kp_M, bes_M) = K a' := by
  obtain ⟨r, z1, z2, z3, z4, now', e1, e2, hN⟩ := pub_polish (p1 := xs (Int32.toNatClampNeg (nI (8 * k) + 1))) (p2 := xs (Int32.toNatClampNeg (nI (8 * k) + 2)))  hS
  refine ⟨(nI (8 * k) + 8, img_x, men_n, md_n, day_n, drw_n, bu_n, st_n, ki_n, z1, wo_n, wr_n, z2, z3, z4, men_a, md_a, day_a, drw_a, bu_a, st_a, ki_a, we_a, wo_a, wr_a, kn_q, nx_q, ke_q, men_t, md_t, day_t, drw_t, bu_t, st_t, ki_t, we_t, wo_t, wr_t, ln_T, plc_T, ltr_T, worn_h, few_h, bc_h, ld_h, so_h, tr_h, be_h, wy_h, th_r, lan_r, siz_r, itm_r, ltr_M, pos_M, num_M, isk_M, bm_M, bch_M, lan_M, siz_M, itm_M, tap_M, now', tri_M, rd_M, kp_M, bes_M), ⟨v8, hN, hG, hA, hT, hR⟩, fun K => ?_⟩
  refine (if_neg (gate h hL)).trans ?_
  refine (gl0 h hL).trans ?_
  refine (if_neg (nej c (by decide : ¬ (9 : Int32) = 0))).trans ?_
  refine (if_neg (nej c (by decide : ¬ (9 : Int32) = 1))).trans ?_
  refine (if_neg (nej c (by decide : ¬ (9 : Int32) = 2))).trans ?_
  refine (if_neg (nej c (by decide : ¬ (9 : Int32) = 3))).trans ?_
  refine (if_neg (nej c (by decide : ¬ (9 : Int32) = 4))).trans ?_
  refine (if_neg (nej c (by decide : ¬ (9 : Int32) = 5))).trans ?_
  refine (if_neg (nej c (by decide : ¬ (9 : Int32) = 6))).trans ?_
  refine (if_neg (nej c (by decide : ¬ (9 : Int32) = 7))).trans ?_
  refine (if_neg (nej c (by decide : ¬ (9 : Int32) = 8))).trans ?_
  refine (if_pos c).trans ?_
  refine (gl1 h hL).trans ?_
  refine (gl2 h hL).trans ?_
  refine bdS e1 ?_
  refine (gl1 h hL).trans ?_
  refine (gl2 h hL).trans ?_
  refine bdS e2 ?_
  exact if_pos rfl
theorem st_drift (hS : SYH men_n md_n day_n drw_n bu_n st_n ki_n we_n wo_n wr_n kn_p nx_p ke_p now_M) (hG : img_x = isk_M) (hA : img_x = 0 ∨ SYH men_a md_a day_a drw_a bu_a st_a ki_a we_a wo_a wr_a kn_q nx_q ke_q kp_M) (hT : TP ln_T ltr_M ltr_T tap_M) (hR : SHT th_r lan_r siz_r itm_r lan_M siz_M itm_M) (h : 8 * k + 8 ≤ L) (hL : L ≤ 512) (c : (xs (Int32.toNatClampNeg (nI (8 * k))) &&& 31) = 10) : ∃ a', IT (k + 1) a' ∧ ∀ K, bL_law_18 L xs K (nI (8 * k), img_x, men_n, md_n, day_n, drw_n, bu_n, st_n, ki_n, we_n, wo_n, wr_n, kn_p, nx_p, ke_p, men_a, md_a, day_a, drw_a, bu_a, st_a, ki_a, we_a, wo_a, wr_a, kn_q, nx_q, ke_q, men_t, md_t, day_t, drw_t, bu_t, st_t, ki_t, we_t, wo_t, wr_t, ln_T, plc_T, ltr_T, worn_h, few_h, bc_h, ld_h, so_h, tr_h, be_h, wy_h, th_r, lan_r, siz_r, itm_r, ltr_M, pos_M, num_M, isk_M, bm_M, bch_M, lan_M, siz_M, itm_M, tap_M, now_M, tri_M, rd_M, kp_M, bes_M) = K a' := by
  obtain ⟨r, z1, z2, z3, z4, z5, z6, z7, now', e1, e2, hN⟩ := pub_drift (p1 := xs (Int32.toNatClampNeg (nI (8 * k) + 1)))  hS
  refine ⟨(nI (8 * k) + 8, img_x, men_n, md_n, z1, z2, bu_n, z3, ki_n, we_n, wo_n, z4, z5, z6, z7, men_a, md_a, day_a, drw_a, bu_a, st_a, ki_a, we_a, wo_a, wr_a, kn_q, nx_q, ke_q, men_t, md_t, day_t, drw_t, bu_t, st_t, ki_t, we_t, wo_t, wr_t, ln_T, plc_T, ltr_T, worn_h, few_h, bc_h, ld_h, so_h, tr_h, be_h, wy_h, th_r, lan_r, siz_r, itm_r, ltr_M, pos_M, num_M, isk_M, bm_M, bch_M, lan_M, siz_M, itm_M, tap_M, now', tri_M, rd_M, kp_M, bes_M), ⟨v8, hN, hG, hA, hT, hR⟩, fun K => ?_⟩
  refine (if_neg (gate h hL)).trans ?_
  refine (gl0 h hL).trans ?_
  refine (if_neg (nej c (by decide : ¬ (10 : Int32) = 0))).trans ?_
  refine (if_neg (nej c (by decide : ¬ (10 : Int32) = 1))).trans ?_
  refine (if_neg (nej c (by decide : ¬ (10 : Int32) = 2))).trans ?_
  refine (if_neg (nej c (by decide : ¬ (10 : Int32) = 3))).trans ?_
  refine (if_neg (nej c (by decide : ¬ (10 : Int32) = 4))).trans ?_
  refine (if_neg (nej c (by decide : ¬ (10 : Int32) = 5))).trans ?_
  refine (if_neg (nej c (by decide : ¬ (10 : Int32) = 6))).trans ?_
  refine (if_neg (nej c (by decide : ¬ (10 : Int32) = 7))).trans ?_
  refine (if_neg (nej c (by decide : ¬ (10 : Int32) = 8))).trans ?_
  refine (if_neg (nej c (by decide : ¬ (10 : Int32) = 9))).trans ?_
  refine (if_pos c).trans ?_
  refine (gl1 h hL).trans ?_
  refine bdS e1 ?_
  refine (gl1 h hL).trans ?_
  refine bdS e2 ?_
  exact if_pos rfl
theorem st_undo (hS : SYH men_n md_n day_n drw_n bu_n st_n ki_n we_n wo_n wr_n kn_p nx_p ke_p now_M) (hG : img_x = isk_M) (hA : img_x = 0 ∨ SYH men_a md_a day_a drw_a bu_a st_a ki_a we_a wo_a wr_a kn_q nx_q ke_q kp_M) (hT : TP ln_T ltr_M ltr_T tap_M) (hR : SHT th_r lan_r siz_r itm_r lan_M siz_M itm_M) (h : 8 * k + 8 ≤ L) (hL : L ≤ 512) (c : (xs (Int32.toNatClampNeg (nI (8 * k))) &&& 31) = 11) : ∃ a', IT (k + 1) a' ∧ ∀ K, bL_law_18 L xs K (nI (8 * k), img_x, men_n, md_n, day_n, drw_n, bu_n, st_n, ki_n, we_n, wo_n, wr_n, kn_p, nx_p, ke_p, men_a, md_a, day_a, drw_a, bu_a, st_a, ki_a, we_a, wo_a, wr_a, kn_q, nx_q, ke_q, men_t, md_t, day_t, drw_t, bu_t, st_t, ki_t, we_t, wo_t, wr_t, ln_T, plc_T, ltr_T, worn_h, few_h, bc_h, ld_h, so_h, tr_h, be_h, wy_h, th_r, lan_r, siz_r, itm_r, ltr_M, pos_M, num_M, isk_M, bm_M, bch_M, lan_M, siz_M, itm_M, tap_M, now_M, tri_M, rd_M, kp_M, bes_M) = K a' := by
  obtain ⟨r, z1, z2, z3, z4, z5, z6, z7, now', e1, e2, hN⟩ := pub_undo   hS
  refine ⟨(nI (8 * k) + 8, img_x, men_n, md_n, z1, z2, bu_n, z3, ki_n, z4, wo_n, z5, z6, z7, ke_p, men_a, md_a, day_a, drw_a, bu_a, st_a, ki_a, we_a, wo_a, wr_a, kn_q, nx_q, ke_q, men_t, md_t, day_t, drw_t, bu_t, st_t, ki_t, we_t, wo_t, wr_t, ln_T, plc_T, ltr_T, worn_h, few_h, bc_h, ld_h, so_h, tr_h, be_h, wy_h, th_r, lan_r, siz_r, itm_r, ltr_M, pos_M, num_M, isk_M, bm_M, bch_M, lan_M, siz_M, itm_M, tap_M, now', tri_M, rd_M, kp_M, bes_M), ⟨v8, hN, hG, hA, hT, hR⟩, fun K => ?_⟩
  refine (if_neg (gate h hL)).trans ?_
  refine (gl0 h hL).trans ?_
  refine (if_neg (nej c (by decide : ¬ (11 : Int32) = 0))).trans ?_
  refine (if_neg (nej c (by decide : ¬ (11 : Int32) = 1))).trans ?_
  refine (if_neg (nej c (by decide : ¬ (11 : Int32) = 2))).trans ?_
  refine (if_neg (nej c (by decide : ¬ (11 : Int32) = 3))).trans ?_
  refine (if_neg (nej c (by decide : ¬ (11 : Int32) = 4))).trans ?_
  refine (if_neg (nej c (by decide : ¬ (11 : Int32) = 5))).trans ?_
  refine (if_neg (nej c (by decide : ¬ (11 : Int32) = 6))).trans ?_
  refine (if_neg (nej c (by decide : ¬ (11 : Int32) = 7))).trans ?_
  refine (if_neg (nej c (by decide : ¬ (11 : Int32) = 8))).trans ?_
  refine (if_neg (nej c (by decide : ¬ (11 : Int32) = 9))).trans ?_
  refine (if_neg (nej c (by decide : ¬ (11 : Int32) = 10))).trans ?_
  refine (if_pos c).trans ?_
  refine bdS e1 ?_
  refine bdS e2 ?_
  exact if_pos rfl
theorem st_seed (hS : SYH men_n md_n day_n drw_n bu_n st_n ki_n we_n wo_n wr_n kn_p nx_p ke_p now_M) (hG : img_x = isk_M) (hA : img_x = 0 ∨ SYH men_a md_a day_a drw_a bu_a st_a ki_a we_a wo_a wr_a kn_q nx_q ke_q kp_M) (hT : TP ln_T ltr_M ltr_T tap_M) (hR : SHT th_r lan_r siz_r itm_r lan_M siz_M itm_M) (h : 8 * k + 8 ≤ L) (hL : L ≤ 512) (c : (xs (Int32.toNatClampNeg (nI (8 * k))) &&& 31) = 12) : ∃ a', IT (k + 1) a' ∧ ∀ K, bL_law_18 L xs K (nI (8 * k), img_x, men_n, md_n, day_n, drw_n, bu_n, st_n, ki_n, we_n, wo_n, wr_n, kn_p, nx_p, ke_p, men_a, md_a, day_a, drw_a, bu_a, st_a, ki_a, we_a, wo_a, wr_a, kn_q, nx_q, ke_q, men_t, md_t, day_t, drw_t, bu_t, st_t, ki_t, we_t, wo_t, wr_t, ln_T, plc_T, ltr_T, worn_h, few_h, bc_h, ld_h, so_h, tr_h, be_h, wy_h, th_r, lan_r, siz_r, itm_r, ltr_M, pos_M, num_M, isk_M, bm_M, bch_M, lan_M, siz_M, itm_M, tap_M, now_M, tri_M, rd_M, kp_M, bes_M) = K a' := by
  obtain ⟨r, z1, now', e1, e2, hN⟩ := pub_seed (p1 := xs (Int32.toNatClampNeg (nI (8 * k) + 1)))  hS
  refine ⟨(nI (8 * k) + 8, img_x, men_n, md_n, day_n, z1, bu_n, st_n, ki_n, we_n, wo_n, wr_n, kn_p, nx_p, ke_p, men_a, md_a, day_a, drw_a, bu_a, st_a, ki_a, we_a, wo_a, wr_a, kn_q, nx_q, ke_q, men_t, md_t, day_t, drw_t, bu_t, st_t, ki_t, we_t, wo_t, wr_t, ln_T, plc_T, ltr_T, worn_h, few_h, bc_h, ld_h, so_h, tr_h, be_h, wy_h, th_r, lan_r, siz_r, itm_r, ltr_M, pos_M, num_M, isk_M, bm_M, bch_M, lan_M, siz_M, itm_M, tap_M, now', tri_M, rd_M, kp_M, bes_M), ⟨v8, hN, hG, hA, hT, hR⟩, fun K => ?_⟩
  refine (if_neg (gate h hL)).trans ?_
  refine (gl0 h hL).trans ?_
  refine (if_neg (nej c (by decide : ¬ (12 : Int32) = 0))).trans ?_
  refine (if_neg (nej c (by decide : ¬ (12 : Int32) = 1))).trans ?_
  refine (if_neg (nej c (by decide : ¬ (12 : Int32) = 2))).trans ?_
  refine (if_neg (nej c (by decide : ¬ (12 : Int32) = 3))).trans ?_
  refine (if_neg (nej c (by decide : ¬ (12 : Int32) = 4))).trans ?_
  refine (if_neg (nej c (by decide : ¬ (12 : Int32) = 5))).trans ?_
  refine (if_neg (nej c (by decide : ¬ (12 : Int32) = 6))).trans ?_
  refine (if_neg (nej c (by decide : ¬ (12 : Int32) = 7))).trans ?_
  refine (if_neg (nej c (by decide : ¬ (12 : Int32) = 8))).trans ?_
  refine (if_neg (nej c (by decide : ¬ (12 : Int32) = 9))).trans ?_
  refine (if_neg (nej c (by decide : ¬ (12 : Int32) = 10))).trans ?_
  refine (if_neg (nej c (by decide : ¬ (12 : Int32) = 11))).trans ?_
  refine (if_pos c).trans ?_
  refine (gl1 h hL).trans ?_
  refine bdS e1 ?_
  refine (gl1 h hL).trans ?_
  refine bdS e2 ?_
  exact if_pos rfl
theorem st_ahead (hS : SYH men_n md_n day_n drw_n bu_n st_n ki_n we_n wo_n wr_n kn_p nx_p ke_p now_M) (hG : img_x = isk_M) (hA : img_x = 0 ∨ SYH men_a md_a day_a drw_a bu_a st_a ki_a we_a wo_a wr_a kn_q nx_q ke_q kp_M) (hT : TP ln_T ltr_M ltr_T tap_M) (hR : SHT th_r lan_r siz_r itm_r lan_M siz_M itm_M) (h : 8 * k + 8 ≤ L) (hL : L ≤ 512) (c : (xs (Int32.toNatClampNeg (nI (8 * k))) &&& 31) = 13) : ∃ a', IT (k + 1) a' ∧ ∀ K, bL_law_18 L xs K (nI (8 * k), img_x, men_n, md_n, day_n, drw_n, bu_n, st_n, ki_n, we_n, wo_n, wr_n, kn_p, nx_p, ke_p, men_a, md_a, day_a, drw_a, bu_a, st_a, ki_a, we_a, wo_a, wr_a, kn_q, nx_q, ke_q, men_t, md_t, day_t, drw_t, bu_t, st_t, ki_t, we_t, wo_t, wr_t, ln_T, plc_T, ltr_T, worn_h, few_h, bc_h, ld_h, so_h, tr_h, be_h, wy_h, th_r, lan_r, siz_r, itm_r, ltr_M, pos_M, num_M, isk_M, bm_M, bch_M, lan_M, siz_M, itm_M, tap_M, now_M, tri_M, rd_M, kp_M, bes_M) = K a' := by
  obtain ⟨r, tri', e1, e2⟩ := pub_ahead (p1 := xs (Int32.toNatClampNeg (nI (8 * k) + 1))) (p2 := xs (Int32.toNatClampNeg (nI (8 * k) + 2))) (p3 := xs (Int32.toNatClampNeg (nI (8 * k) + 3))) (tri := tri_M) (SY_of hS)
  refine ⟨(nI (8 * k) + 8, img_x, men_n, md_n, day_n, drw_n, bu_n, st_n, ki_n, we_n, wo_n, wr_n, kn_p, nx_p, ke_p, men_a, md_a, day_a, drw_a, bu_a, st_a, ki_a, we_a, wo_a, wr_a, kn_q, nx_q, ke_q, men_t, md_t, day_t, drw_t, bu_t, st_t, ki_t, we_t, wo_t, wr_t, ln_T, plc_T, ltr_T, worn_h, few_h, bc_h, ld_h, so_h, tr_h, be_h, wy_h, th_r, lan_r, siz_r, itm_r, ltr_M, pos_M, num_M, isk_M, bm_M, bch_M, lan_M, siz_M, itm_M, tap_M, now_M, tri', rd_M, kp_M, bes_M), ⟨v8, hS, hG, hA, hT, hR⟩, fun K => ?_⟩
  refine (if_neg (gate h hL)).trans ?_
  refine (gl0 h hL).trans ?_
  refine (if_neg (nej c (by decide : ¬ (13 : Int32) = 0))).trans ?_
  refine (if_neg (nej c (by decide : ¬ (13 : Int32) = 1))).trans ?_
  refine (if_neg (nej c (by decide : ¬ (13 : Int32) = 2))).trans ?_
  refine (if_neg (nej c (by decide : ¬ (13 : Int32) = 3))).trans ?_
  refine (if_neg (nej c (by decide : ¬ (13 : Int32) = 4))).trans ?_
  refine (if_neg (nej c (by decide : ¬ (13 : Int32) = 5))).trans ?_
  refine (if_neg (nej c (by decide : ¬ (13 : Int32) = 6))).trans ?_
  refine (if_neg (nej c (by decide : ¬ (13 : Int32) = 7))).trans ?_
  refine (if_neg (nej c (by decide : ¬ (13 : Int32) = 8))).trans ?_
  refine (if_neg (nej c (by decide : ¬ (13 : Int32) = 9))).trans ?_
  refine (if_neg (nej c (by decide : ¬ (13 : Int32) = 10))).trans ?_
  refine (if_neg (nej c (by decide : ¬ (13 : Int32) = 11))).trans ?_
  refine (if_neg (nej c (by decide : ¬ (13 : Int32) = 12))).trans ?_
  refine (if_pos c).trans ?_
  refine (gl1 h hL).trans ?_
  refine (gl2 h hL).trans ?_
  refine (gl3 h hL).trans ?_
  refine bdS e1 ?_
  refine (gl1 h hL).trans ?_
  refine (gl2 h hL).trans ?_
  refine (gl3 h hL).trans ?_
  refine bdS e2 ?_
  exact if_pos rfl
theorem st_then (hS : SYH men_n md_n day_n drw_n bu_n st_n ki_n we_n wo_n wr_n kn_p nx_p ke_p now_M) (hG : img_x = isk_M) (hA : img_x = 0 ∨ SYH men_a md_a day_a drw_a bu_a st_a ki_a we_a wo_a wr_a kn_q nx_q ke_q kp_M) (hT : TP ln_T ltr_M ltr_T tap_M) (hR : SHT th_r lan_r siz_r itm_r lan_M siz_M itm_M) (h : 8 * k + 8 ≤ L) (hL : L ≤ 512) (c : (xs (Int32.toNatClampNeg (nI (8 * k))) &&& 31) = 14) : ∃ a', IT (k + 1) a' ∧ ∀ K, bL_law_18 L xs K (nI (8 * k), img_x, men_n, md_n, day_n, drw_n, bu_n, st_n, ki_n, we_n, wo_n, wr_n, kn_p, nx_p, ke_p, men_a, md_a, day_a, drw_a, bu_a, st_a, ki_a, we_a, wo_a, wr_a, kn_q, nx_q, ke_q, men_t, md_t, day_t, drw_t, bu_t, st_t, ki_t, we_t, wo_t, wr_t, ln_T, plc_T, ltr_T, worn_h, few_h, bc_h, ld_h, so_h, tr_h, be_h, wy_h, th_r, lan_r, siz_r, itm_r, ltr_M, pos_M, num_M, isk_M, bm_M, bch_M, lan_M, siz_M, itm_M, tap_M, now_M, tri_M, rd_M, kp_M, bes_M) = K a' := by
  obtain ⟨r, tri', e1, e2⟩ := pub_then (p1 := xs (Int32.toNatClampNeg (nI (8 * k) + 1))) (tri := tri_M) (SY_of hS)
  refine ⟨(nI (8 * k) + 8, img_x, men_n, md_n, day_n, drw_n, bu_n, st_n, ki_n, we_n, wo_n, wr_n, kn_p, nx_p, ke_p, men_a, md_a, day_a, drw_a, bu_a, st_a, ki_a, we_a, wo_a, wr_a, kn_q, nx_q, ke_q, men_t, md_t, day_t, drw_t, bu_t, st_t, ki_t, we_t, wo_t, wr_t, ln_T, plc_T, ltr_T, worn_h, few_h, bc_h, ld_h, so_h, tr_h, be_h, wy_h, th_r, lan_r, siz_r, itm_r, ltr_M, pos_M, num_M, isk_M, bm_M, bch_M, lan_M, siz_M, itm_M, tap_M, now_M, tri', rd_M, kp_M, bes_M), ⟨v8, hS, hG, hA, hT, hR⟩, fun K => ?_⟩
  refine (if_neg (gate h hL)).trans ?_
  refine (gl0 h hL).trans ?_
  refine (if_neg (nej c (by decide : ¬ (14 : Int32) = 0))).trans ?_
  refine (if_neg (nej c (by decide : ¬ (14 : Int32) = 1))).trans ?_
  refine (if_neg (nej c (by decide : ¬ (14 : Int32) = 2))).trans ?_
  refine (if_neg (nej c (by decide : ¬ (14 : Int32) = 3))).trans ?_
  refine (if_neg (nej c (by decide : ¬ (14 : Int32) = 4))).trans ?_
  refine (if_neg (nej c (by decide : ¬ (14 : Int32) = 5))).trans ?_
  refine (if_neg (nej c (by decide : ¬ (14 : Int32) = 6))).trans ?_
  refine (if_neg (nej c (by decide : ¬ (14 : Int32) = 7))).trans ?_
  refine (if_neg (nej c (by decide : ¬ (14 : Int32) = 8))).trans ?_
  refine (if_neg (nej c (by decide : ¬ (14 : Int32) = 9))).trans ?_
  refine (if_neg (nej c (by decide : ¬ (14 : Int32) = 10))).trans ?_
  refine (if_neg (nej c (by decide : ¬ (14 : Int32) = 11))).trans ?_
  refine (if_neg (nej c (by decide : ¬ (14 : Int32) = 12))).trans ?_
  refine (if_neg (nej c (by decide : ¬ (14 : Int32) = 13))).trans ?_
  refine (if_pos c).trans ?_
  refine (gl1 h hL).trans ?_
  refine bdS e1 ?_
  refine (gl1 h hL).trans ?_
  refine bdS e2 ?_
  exact if_pos rfl
theorem st_done (hS : SYH men_n md_n day_n drw_n bu_n st_n ki_n we_n wo_n wr_n kn_p nx_p ke_p now_M) (hG : img_x = isk_M) (hA : img_x = 0 ∨ SYH men_a md_a day_a drw_a bu_a st_a ki_a we_a wo_a wr_a kn_q nx_q ke_q kp_M) (hT : TP ln_T ltr_M ltr_T tap_M) (hR : SHT th_r lan_r siz_r itm_r lan_M siz_M itm_M) (h : 8 * k + 8 ≤ L) (hL : L ≤ 512) (c : (xs (Int32.toNatClampNeg (nI (8 * k))) &&& 31) = 15) : ∃ a', IT (k + 1) a' ∧ ∀ K, bL_law_18 L xs K (nI (8 * k), img_x, men_n, md_n, day_n, drw_n, bu_n, st_n, ki_n, we_n, wo_n, wr_n, kn_p, nx_p, ke_p, men_a, md_a, day_a, drw_a, bu_a, st_a, ki_a, we_a, wo_a, wr_a, kn_q, nx_q, ke_q, men_t, md_t, day_t, drw_t, bu_t, st_t, ki_t, we_t, wo_t, wr_t, ln_T, plc_T, ltr_T, worn_h, few_h, bc_h, ld_h, so_h, tr_h, be_h, wy_h, th_r, lan_r, siz_r, itm_r, ltr_M, pos_M, num_M, isk_M, bm_M, bch_M, lan_M, siz_M, itm_M, tap_M, now_M, tri_M, rd_M, kp_M, bes_M) = K a' := by
  obtain ⟨r, tri', e1, e2⟩ := pub_done (p1 := xs (Int32.toNatClampNeg (nI (8 * k) + 1))) (tri := tri_M) (SY_of hS)
  refine ⟨(nI (8 * k) + 8, img_x, men_n, md_n, day_n, drw_n, bu_n, st_n, ki_n, we_n, wo_n, wr_n, kn_p, nx_p, ke_p, men_a, md_a, day_a, drw_a, bu_a, st_a, ki_a, we_a, wo_a, wr_a, kn_q, nx_q, ke_q, men_t, md_t, day_t, drw_t, bu_t, st_t, ki_t, we_t, wo_t, wr_t, ln_T, plc_T, ltr_T, worn_h, few_h, bc_h, ld_h, so_h, tr_h, be_h, wy_h, th_r, lan_r, siz_r, itm_r, ltr_M, pos_M, num_M, isk_M, bm_M, bch_M, lan_M, siz_M, itm_M, tap_M, now_M, tri', rd_M, kp_M, bes_M), ⟨v8, hS, hG, hA, hT, hR⟩, fun K => ?_⟩
  refine (if_neg (gate h hL)).trans ?_
  refine (gl0 h hL).trans ?_
  refine (if_neg (nej c (by decide : ¬ (15 : Int32) = 0))).trans ?_
  refine (if_neg (nej c (by decide : ¬ (15 : Int32) = 1))).trans ?_
  refine (if_neg (nej c (by decide : ¬ (15 : Int32) = 2))).trans ?_
  refine (if_neg (nej c (by decide : ¬ (15 : Int32) = 3))).trans ?_
  refine (if_neg (nej c (by decide : ¬ (15 : Int32) = 4))).trans ?_
  refine (if_neg (nej c (by decide : ¬ (15 : Int32) = 5))).trans ?_
  refine (if_neg (nej c (by decide : ¬ (15 : Int32) = 6))).trans ?_
  refine (if_neg (nej c (by decide : ¬ (15 : Int32) = 7))).trans ?_
  refine (if_neg (nej c (by decide : ¬ (15 : Int32) = 8))).trans ?_
  refine (if_neg (nej c (by decide : ¬ (15 : Int32) = 9))).trans ?_
  refine (if_neg (nej c (by decide : ¬ (15 : Int32) = 10))).trans ?_
  refine (if_neg (nej c (by decide : ¬ (15 : Int32) = 11))).trans ?_
  refine (if_neg (nej c (by decide : ¬ (15 : Int32) = 12))).trans ?_
  refine (if_neg (nej c (by decide : ¬ (15 : Int32) = 13))).trans ?_
  refine (if_neg (nej c (by decide : ¬ (15 : Int32) = 14))).trans ?_
  refine (if_pos c).trans ?_
  refine (gl1 h hL).trans ?_
  refine bdS e1 ?_
  refine (gl1 h hL).trans ?_
  refine bdS e2 ?_
  exact if_pos rfl
theorem st_ever (hS : SYH men_n md_n day_n drw_n bu_n st_n ki_n we_n wo_n wr_n kn_p nx_p ke_p now_M) (hG : img_x = isk_M) (hA : img_x = 0 ∨ SYH men_a md_a day_a drw_a bu_a st_a ki_a we_a wo_a wr_a kn_q nx_q ke_q kp_M) (hT : TP ln_T ltr_M ltr_T tap_M) (hR : SHT th_r lan_r siz_r itm_r lan_M siz_M itm_M) (h : 8 * k + 8 ≤ L) (hL : L ≤ 512) (c : (xs (Int32.toNatClampNeg (nI (8 * k))) &&& 31) = 16) : ∃ a', IT (k + 1) a' ∧ ∀ K, bL_law_18 L xs K (nI (8 * k), img_x, men_n, md_n, day_n, drw_n, bu_n, st_n, ki_n, we_n, wo_n, wr_n, kn_p, nx_p, ke_p, men_a, md_a, day_a, drw_a, bu_a, st_a, ki_a, we_a, wo_a, wr_a, kn_q, nx_q, ke_q, men_t, md_t, day_t, drw_t, bu_t, st_t, ki_t, we_t, wo_t, wr_t, ln_T, plc_T, ltr_T, worn_h, few_h, bc_h, ld_h, so_h, tr_h, be_h, wy_h, th_r, lan_r, siz_r, itm_r, ltr_M, pos_M, num_M, isk_M, bm_M, bch_M, lan_M, siz_M, itm_M, tap_M, now_M, tri_M, rd_M, kp_M, bes_M) = K a' := by
  obtain ⟨r, tri', e1, e2⟩ := pub_ever  (tri := tri_M) (SY_of hS)
  refine ⟨(nI (8 * k) + 8, img_x, men_n, md_n, day_n, drw_n, bu_n, st_n, ki_n, we_n, wo_n, wr_n, kn_p, nx_p, ke_p, men_a, md_a, day_a, drw_a, bu_a, st_a, ki_a, we_a, wo_a, wr_a, kn_q, nx_q, ke_q, men_t, md_t, day_t, drw_t, bu_t, st_t, ki_t, we_t, wo_t, wr_t, ln_T, plc_T, ltr_T, worn_h, few_h, bc_h, ld_h, so_h, tr_h, be_h, wy_h, th_r, lan_r, siz_r, itm_r, ltr_M, pos_M, num_M, isk_M, bm_M, bch_M, lan_M, siz_M, itm_M, tap_M, now_M, tri', rd_M, kp_M, bes_M), ⟨v8, hS, hG, hA, hT, hR⟩, fun K => ?_⟩
  refine (if_neg (gate h hL)).trans ?_
  refine (gl0 h hL).trans ?_
  refine (if_neg (nej c (by decide : ¬ (16 : Int32) = 0))).trans ?_
  refine (if_neg (nej c (by decide : ¬ (16 : Int32) = 1))).trans ?_
  refine (if_neg (nej c (by decide : ¬ (16 : Int32) = 2))).trans ?_
  refine (if_neg (nej c (by decide : ¬ (16 : Int32) = 3))).trans ?_
  refine (if_neg (nej c (by decide : ¬ (16 : Int32) = 4))).trans ?_
  refine (if_neg (nej c (by decide : ¬ (16 : Int32) = 5))).trans ?_
  refine (if_neg (nej c (by decide : ¬ (16 : Int32) = 6))).trans ?_
  refine (if_neg (nej c (by decide : ¬ (16 : Int32) = 7))).trans ?_
  refine (if_neg (nej c (by decide : ¬ (16 : Int32) = 8))).trans ?_
  refine (if_neg (nej c (by decide : ¬ (16 : Int32) = 9))).trans ?_
  refine (if_neg (nej c (by decide : ¬ (16 : Int32) = 10))).trans ?_
  refine (if_neg (nej c (by decide : ¬ (16 : Int32) = 11))).trans ?_
  refine (if_neg (nej c (by decide : ¬ (16 : Int32) = 12))).trans ?_
  refine (if_neg (nej c (by decide : ¬ (16 : Int32) = 13))).trans ?_
  refine (if_neg (nej c (by decide : ¬ (16 : Int32) = 14))).trans ?_
  refine (if_neg (nej c (by decide : ¬ (16 : Int32) = 15))).trans ?_
  refine (if_pos c).trans ?_
  refine bdS e1 ?_
  refine bdS e2 ?_
  exact if_pos rfl
theorem st_even (hS : SYH men_n md_n day_n drw_n bu_n st_n ki_n we_n wo_n wr_n kn_p nx_p ke_p now_M) (hG : img_x = isk_M) (hA : img_x = 0 ∨ SYH men_a md_a day_a drw_a bu_a st_a ki_a we_a wo_a wr_a kn_q nx_q ke_q kp_M) (hT : TP ln_T ltr_M ltr_T tap_M) (hR : SHT th_r lan_r siz_r itm_r lan_M siz_M itm_M) (h : 8 * k + 8 ≤ L) (hL : L ≤ 512) (c : (xs (Int32.toNatClampNeg (nI (8 * k))) &&& 31) = 17) : ∃ a', IT (k + 1) a' ∧ ∀ K, bL_law_18 L xs K (nI (8 * k), img_x, men_n, md_n, day_n, drw_n, bu_n, st_n, ki_n, we_n, wo_n, wr_n, kn_p, nx_p, ke_p, men_a, md_a, day_a, drw_a, bu_a, st_a, ki_a, we_a, wo_a, wr_a, kn_q, nx_q, ke_q, men_t, md_t, day_t, drw_t, bu_t, st_t, ki_t, we_t, wo_t, wr_t, ln_T, plc_T, ltr_T, worn_h, few_h, bc_h, ld_h, so_h, tr_h, be_h, wy_h, th_r, lan_r, siz_r, itm_r, ltr_M, pos_M, num_M, isk_M, bm_M, bch_M, lan_M, siz_M, itm_M, tap_M, now_M, tri_M, rd_M, kp_M, bes_M) = K a' := by
  obtain ⟨r, a1, a2, a3, a4, a5, a6, a7, b1, b2, b3, b4, e1, e2⟩ := pub_even (p1 := xs (Int32.toNatClampNeg (nI (8 * k) + 1))) (tri := tri_M) (bes := bes_M) (so := so_h) (tr := tr_h) (be := be_h) (ld := ld_h) (worn := worn_h) (few := few_h) (bc := bc_h) (bm := bm_M) (bch := bch_M) (SY_of hS)
  refine ⟨(nI (8 * k) + 8, img_x, men_n, md_n, day_n, drw_n, bu_n, st_n, ki_n, we_n, wo_n, wr_n, kn_p, nx_p, ke_p, men_a, md_a, day_a, drw_a, bu_a, st_a, ki_a, we_a, wo_a, wr_a, kn_q, nx_q, ke_q, men_t, md_t, day_t, drw_t, bu_t, st_t, ki_t, we_t, wo_t, wr_t, ln_T, plc_T, ltr_T, a1, a2, a3, a4, a5, a6, a7, wy_h, th_r, lan_r, siz_r, itm_r, ltr_M, pos_M, num_M, isk_M, b1, b2, lan_M, siz_M, itm_M, tap_M, now_M, b3, rd_M, kp_M, b4), ⟨v8, hS, hG, hA, hT, hR⟩, fun K => ?_⟩
  refine (if_neg (gate h hL)).trans ?_
  refine (gl0 h hL).trans ?_
  refine (if_neg (nej c (by decide : ¬ (17 : Int32) = 0))).trans ?_
  refine (if_neg (nej c (by decide : ¬ (17 : Int32) = 1))).trans ?_
  refine (if_neg (nej c (by decide : ¬ (17 : Int32) = 2))).trans ?_
  refine (if_neg (nej c (by decide : ¬ (17 : Int32) = 3))).trans ?_
  refine (if_neg (nej c (by decide : ¬ (17 : Int32) = 4))).trans ?_
  refine (if_neg (nej c (by decide : ¬ (17 : Int32) = 5))).trans ?_
  refine (if_neg (nej c (by decide : ¬ (17 : Int32) = 6))).trans ?_
  refine (if_neg (nej c (by decide : ¬ (17 : Int32) = 7))).trans ?_
  refine (if_neg (nej c (by decide : ¬ (17 : Int32) = 8))).trans ?_
  refine (if_neg (nej c (by decide : ¬ (17 : Int32) = 9))).trans ?_
  refine (if_neg (nej c (by decide : ¬ (17 : Int32) = 10))).trans ?_
  refine (if_neg (nej c (by decide : ¬ (17 : Int32) = 11))).trans ?_
  refine (if_neg (nej c (by decide : ¬ (17 : Int32) = 12))).trans ?_
  refine (if_neg (nej c (by decide : ¬ (17 : Int32) = 13))).trans ?_
  refine (if_neg (nej c (by decide : ¬ (17 : Int32) = 14))).trans ?_
  refine (if_neg (nej c (by decide : ¬ (17 : Int32) = 15))).trans ?_
  refine (if_neg (nej c (by decide : ¬ (17 : Int32) = 16))).trans ?_
  refine (if_pos c).trans ?_
  refine (gl1 h hL).trans ?_
  refine bdS e1 ?_
  refine (gl1 h hL).trans ?_
  refine bdS e2 ?_
  exact if_pos rfl
theorem st_few (hS : SYH men_n md_n day_n drw_n bu_n st_n ki_n we_n wo_n wr_n kn_p nx_p ke_p now_M) (hG : img_x = isk_M) (hA : img_x = 0 ∨ SYH men_a md_a day_a drw_a bu_a st_a ki_a we_a wo_a wr_a kn_q nx_q ke_q kp_M) (hT : TP ln_T ltr_M ltr_T tap_M) (hR : SHT th_r lan_r siz_r itm_r lan_M siz_M itm_M) (h : 8 * k + 8 ≤ L) (hL : L ≤ 512) (c : (xs (Int32.toNatClampNeg (nI (8 * k))) &&& 31) = 18) : ∃ a', IT (k + 1) a' ∧ ∀ K, bL_law_18 L xs K (nI (8 * k), img_x, men_n, md_n, day_n, drw_n, bu_n, st_n, ki_n, we_n, wo_n, wr_n, kn_p, nx_p, ke_p, men_a, md_a, day_a, drw_a, bu_a, st_a, ki_a, we_a, wo_a, wr_a, kn_q, nx_q, ke_q, men_t, md_t, day_t, drw_t, bu_t, st_t, ki_t, we_t, wo_t, wr_t, ln_T, plc_T, ltr_T, worn_h, few_h, bc_h, ld_h, so_h, tr_h, be_h, wy_h, th_r, lan_r, siz_r, itm_r, ltr_M, pos_M, num_M, isk_M, bm_M, bch_M, lan_M, siz_M, itm_M, tap_M, now_M, tri_M, rd_M, kp_M, bes_M) = K a' := by
  obtain ⟨r, a1, a2, a3, a4, a5, a6, a7, b1, b2, b3, b4, e1, e2⟩ := pub_few (p1 := xs (Int32.toNatClampNeg (nI (8 * k) + 1))) (tri := tri_M) (bes := bes_M) (so := so_h) (tr := tr_h) (be := be_h) (ld := ld_h) (worn := worn_h) (few := few_h) (bc := bc_h) (bm := bm_M) (bch := bch_M) (SY_of hS)
  refine ⟨(nI (8 * k) + 8, img_x, men_n, md_n, day_n, drw_n, bu_n, st_n, ki_n, we_n, wo_n, wr_n, kn_p, nx_p, ke_p, men_a, md_a, day_a, drw_a, bu_a, st_a, ki_a, we_a, wo_a, wr_a, kn_q, nx_q, ke_q, men_t, md_t, day_t, drw_t, bu_t, st_t, ki_t, we_t, wo_t, wr_t, ln_T, plc_T, ltr_T, a1, a2, a3, a4, a5, a6, a7, wy_h, th_r, lan_r, siz_r, itm_r, ltr_M, pos_M, num_M, isk_M, b1, b2, lan_M, siz_M, itm_M, tap_M, now_M, b3, rd_M, kp_M, b4), ⟨v8, hS, hG, hA, hT, hR⟩, fun K => ?_⟩
  refine (if_neg (gate h hL)).trans ?_
  refine (gl0 h hL).trans ?_
  refine (if_neg (nej c (by decide : ¬ (18 : Int32) = 0))).trans ?_
  refine (if_neg (nej c (by decide : ¬ (18 : Int32) = 1))).trans ?_
  refine (if_neg (nej c (by decide : ¬ (18 : Int32) = 2))).trans ?_
  refine (if_neg (nej c (by decide : ¬ (18 : Int32) = 3))).trans ?_
  refine (if_neg (nej c (by decide : ¬ (18 : Int32) = 4))).trans ?_
  refine (if_neg (nej c (by decide : ¬ (18 : Int32) = 5))).trans ?_
  refine (if_neg (nej c (by decide : ¬ (18 : Int32) = 6))).trans ?_
  refine (if_neg (nej c (by decide : ¬ (18 : Int32) = 7))).trans ?_
  refine (if_neg (nej c (by decide : ¬ (18 : Int32) = 8))).trans ?_
  refine (if_neg (nej c (by decide : ¬ (18 : Int32) = 9))).trans ?_
  refine (if_neg (nej c (by decide : ¬ (18 : Int32) = 10))).trans ?_
  refine (if_neg (nej c (by decide : ¬ (18 : Int32) = 11))).trans ?_
  refine (if_neg (nej c (by decide : ¬ (18 : Int32) = 12))).trans ?_
  refine (if_neg (nej c (by decide : ¬ (18 : Int32) = 13))).trans ?_
  refine (if_neg (nej c (by decide : ¬ (18 : Int32) = 14))).trans ?_
  refine (if_neg (nej c (by decide : ¬ (18 : Int32) = 15))).trans ?_
  refine (if_neg (nej c (by decide : ¬ (18 : Int32) = 16))).trans ?_
  refine (if_neg (nej c (by decide : ¬ (18 : Int32) = 17))).trans ?_
  refine (if_pos c).trans ?_
  refine (gl1 h hL).trans ?_
  refine bdS e1 ?_
  refine (gl1 h hL).trans ?_
  refine bdS e2 ?_
  exact if_pos rfl
theorem st_off (hS : SYH men_n md_n day_n drw_n bu_n st_n ki_n we_n wo_n wr_n kn_p nx_p ke_p now_M) (hG : img_x = isk_M) (hA : img_x = 0 ∨ SYH men_a md_a day_a drw_a bu_a st_a ki_a we_a wo_a wr_a kn_q nx_q ke_q kp_M) (hT : TP ln_T ltr_M ltr_T tap_M) (hR : SHT th_r lan_r siz_r itm_r lan_M siz_M itm_M) (h : 8 * k + 8 ≤ L) (hL : L ≤ 512) (c : (xs (Int32.toNatClampNeg (nI (8 * k))) &&& 31) = 19) : ∃ a', IT (k + 1) a' ∧ ∀ K, bL_law_18 L xs K (nI (8 * k), img_x, men_n, md_n, day_n, drw_n, bu_n, st_n, ki_n, we_n, wo_n, wr_n, kn_p, nx_p, ke_p, men_a, md_a, day_a, drw_a, bu_a, st_a, ki_a, we_a, wo_a, wr_a, kn_q, nx_q, ke_q, men_t, md_t, day_t, drw_t, bu_t, st_t, ki_t, we_t, wo_t, wr_t, ln_T, plc_T, ltr_T, worn_h, few_h, bc_h, ld_h, so_h, tr_h, be_h, wy_h, th_r, lan_r, siz_r, itm_r, ltr_M, pos_M, num_M, isk_M, bm_M, bch_M, lan_M, siz_M, itm_M, tap_M, now_M, tri_M, rd_M, kp_M, bes_M) = K a' := by
  obtain ⟨r, a1, a2, a3, a4, a5, a6, a7, a8, a9, a10, tri', e1, e2⟩ := pub_off (p1 := xs (Int32.toNatClampNeg (nI (8 * k) + 1))) (p2 := xs (Int32.toNatClampNeg (nI (8 * k) + 2))) (tri := tri_M) (men_t := men_t) (md_t := md_t) (day_t := day_t) (drw_t := drw_t) (bu_t := bu_t) (st_t := st_t) (ki_t := ki_t) (we_t := we_t) (wo_t := wo_t) (wr_t := wr_t) (SY_of hS)
  refine ⟨(nI (8 * k) + 8, img_x, men_n, md_n, day_n, drw_n, bu_n, st_n, ki_n, we_n, wo_n, wr_n, kn_p, nx_p, ke_p, men_a, md_a, day_a, drw_a, bu_a, st_a, ki_a, we_a, wo_a, wr_a, kn_q, nx_q, ke_q, a1, a2, a3, a4, a5, a6, a7, a8, a9, a10, ln_T, plc_T, ltr_T, worn_h, few_h, bc_h, ld_h, so_h, tr_h, be_h, wy_h, th_r, lan_r, siz_r, itm_r, ltr_M, pos_M, num_M, isk_M, bm_M, bch_M, lan_M, siz_M, itm_M, tap_M, now_M, tri', rd_M, kp_M, bes_M), ⟨v8, hS, hG, hA, hT, hR⟩, fun K => ?_⟩
  refine (if_neg (gate h hL)).trans ?_
  refine (gl0 h hL).trans ?_
  refine (if_neg (nej c (by decide : ¬ (19 : Int32) = 0))).trans ?_
  refine (if_neg (nej c (by decide : ¬ (19 : Int32) = 1))).trans ?_
  refine (if_neg (nej c (by decide : ¬ (19 : Int32) = 2))).trans ?_
  refine (if_neg (nej c (by decide : ¬ (19 : Int32) = 3))).trans ?_
  refine (if_neg (nej c (by decide : ¬ (19 : Int32) = 4))).trans ?_
  refine (if_neg (nej c (by decide : ¬ (19 : Int32) = 5))).trans ?_
  refine (if_neg (nej c (by decide : ¬ (19 : Int32) = 6))).trans ?_
  refine (if_neg (nej c (by decide : ¬ (19 : Int32) = 7))).trans ?_
  refine (if_neg (nej c (by decide : ¬ (19 : Int32) = 8))).trans ?_
  refine (if_neg (nej c (by decide : ¬ (19 : Int32) = 9))).trans ?_
  refine (if_neg (nej c (by decide : ¬ (19 : Int32) = 10))).trans ?_
  refine (if_neg (nej c (by decide : ¬ (19 : Int32) = 11))).trans ?_
  refine (if_neg (nej c (by decide : ¬ (19 : Int32) = 12))).trans ?_
  refine (if_neg (nej c (by decide : ¬ (19 : Int32) = 13))).trans ?_
  refine (if_neg (nej c (by decide : ¬ (19 : Int32) = 14))).trans ?_
  refine (if_neg (nej c (by decide : ¬ (19 : Int32) = 15))).trans ?_
  refine (if_neg (nej c (by decide : ¬ (19 : Int32) = 16))).trans ?_
  refine (if_neg (nej c (by decide : ¬ (19 : Int32) = 17))).trans ?_
  refine (if_neg (nej c (by decide : ¬ (19 : Int32) = 18))).trans ?_
  refine (if_pos c).trans ?_
  refine (gl1 h hL).trans ?_
  refine (gl2 h hL).trans ?_
  refine bdS e1 ?_
  refine (gl1 h hL).trans ?_
  refine (gl2 h hL).trans ?_
  refine bdS e2 ?_
  exact if_pos rfl
theorem st_needs (hS : SYH men_n md_n day_n drw_n bu_n st_n ki_n we_n wo_n wr_n kn_p nx_p ke_p now_M) (hG : img_x = isk_M) (hA : img_x = 0 ∨ SYH men_a md_a day_a drw_a bu_a st_a ki_a we_a wo_a wr_a kn_q nx_q ke_q kp_M) (hT : TP ln_T ltr_M ltr_T tap_M) (hR : SHT th_r lan_r siz_r itm_r lan_M siz_M itm_M) (h : 8 * k + 8 ≤ L) (hL : L ≤ 512) (c : (xs (Int32.toNatClampNeg (nI (8 * k))) &&& 31) = 20) : ∃ a', IT (k + 1) a' ∧ ∀ K, bL_law_18 L xs K (nI (8 * k), img_x, men_n, md_n, day_n, drw_n, bu_n, st_n, ki_n, we_n, wo_n, wr_n, kn_p, nx_p, ke_p, men_a, md_a, day_a, drw_a, bu_a, st_a, ki_a, we_a, wo_a, wr_a, kn_q, nx_q, ke_q, men_t, md_t, day_t, drw_t, bu_t, st_t, ki_t, we_t, wo_t, wr_t, ln_T, plc_T, ltr_T, worn_h, few_h, bc_h, ld_h, so_h, tr_h, be_h, wy_h, th_r, lan_r, siz_r, itm_r, ltr_M, pos_M, num_M, isk_M, bm_M, bch_M, lan_M, siz_M, itm_M, tap_M, now_M, tri_M, rd_M, kp_M, bes_M) = K a' := by
  obtain ⟨r, tri', e1, e2⟩ := pub_needs (p1 := xs (Int32.toNatClampNeg (nI (8 * k) + 1))) (p2 := xs (Int32.toNatClampNeg (nI (8 * k) + 2))) (tri := tri_M) (SY_of hS)
  refine ⟨(nI (8 * k) + 8, img_x, men_n, md_n, day_n, drw_n, bu_n, st_n, ki_n, we_n, wo_n, wr_n, kn_p, nx_p, ke_p, men_a, md_a, day_a, drw_a, bu_a, st_a, ki_a, we_a, wo_a, wr_a, kn_q, nx_q, ke_q, men_t, md_t, day_t, drw_t, bu_t, st_t, ki_t, we_t, wo_t, wr_t, ln_T, plc_T, ltr_T, worn_h, few_h, bc_h, ld_h, so_h, tr_h, be_h, wy_h, th_r, lan_r, siz_r, itm_r, ltr_M, pos_M, num_M, isk_M, bm_M, bch_M, lan_M, siz_M, itm_M, tap_M, now_M, tri', rd_M, kp_M, bes_M), ⟨v8, hS, hG, hA, hT, hR⟩, fun K => ?_⟩
  refine (if_neg (gate h hL)).trans ?_
  refine (gl0 h hL).trans ?_
  refine (if_neg (nej c (by decide : ¬ (20 : Int32) = 0))).trans ?_
  refine (if_neg (nej c (by decide : ¬ (20 : Int32) = 1))).trans ?_
  refine (if_neg (nej c (by decide : ¬ (20 : Int32) = 2))).trans ?_
  refine (if_neg (nej c (by decide : ¬ (20 : Int32) = 3))).trans ?_
  refine (if_neg (nej c (by decide : ¬ (20 : Int32) = 4))).trans ?_
  refine (if_neg (nej c (by decide : ¬ (20 : Int32) = 5))).trans ?_
  refine (if_neg (nej c (by decide : ¬ (20 : Int32) = 6))).trans ?_
  refine (if_neg (nej c (by decide : ¬ (20 : Int32) = 7))).trans ?_
  refine (if_neg (nej c (by decide : ¬ (20 : Int32) = 8))).trans ?_
  refine (if_neg (nej c (by decide : ¬ (20 : Int32) = 9))).trans ?_
  refine (if_neg (nej c (by decide : ¬ (20 : Int32) = 10))).trans ?_
  refine (if_neg (nej c (by decide : ¬ (20 : Int32) = 11))).trans ?_
  refine (if_neg (nej c (by decide : ¬ (20 : Int32) = 12))).trans ?_
  refine (if_neg (nej c (by decide : ¬ (20 : Int32) = 13))).trans ?_
  refine (if_neg (nej c (by decide : ¬ (20 : Int32) = 14))).trans ?_
  refine (if_neg (nej c (by decide : ¬ (20 : Int32) = 15))).trans ?_
  refine (if_neg (nej c (by decide : ¬ (20 : Int32) = 16))).trans ?_
  refine (if_neg (nej c (by decide : ¬ (20 : Int32) = 17))).trans ?_
  refine (if_neg (nej c (by decide : ¬ (20 : Int32) = 18))).trans ?_
  refine (if_neg (nej c (by decide : ¬ (20 : Int32) = 19))).trans ?_
  refine (if_pos c).trans ?_
  refine (gl1 h hL).trans ?_
  refine (gl2 h hL).trans ?_
  refine bdS e1 ?_
  refine (gl1 h hL).trans ?_
  refine (gl2 h hL).trans ?_
  refine bdS e2 ?_
  exact if_pos rfl
theorem st_two (hS : SYH men_n md_n day_n drw_n bu_n st_n ki_n we_n wo_n wr_n kn_p nx_p ke_p now_M) (hG : img_x = isk_M) (hA : img_x = 0 ∨ SYH men_a md_a day_a drw_a bu_a st_a ki_a we_a wo_a wr_a kn_q nx_q ke_q kp_M) (hT : TP ln_T ltr_M ltr_T tap_M) (hR : SHT th_r lan_r siz_r itm_r lan_M siz_M itm_M) (h : 8 * k + 8 ≤ L) (hL : L ≤ 512) (c : (xs (Int32.toNatClampNeg (nI (8 * k))) &&& 31) = 21) : ∃ a', IT (k + 1) a' ∧ ∀ K, bL_law_18 L xs K (nI (8 * k), img_x, men_n, md_n, day_n, drw_n, bu_n, st_n, ki_n, we_n, wo_n, wr_n, kn_p, nx_p, ke_p, men_a, md_a, day_a, drw_a, bu_a, st_a, ki_a, we_a, wo_a, wr_a, kn_q, nx_q, ke_q, men_t, md_t, day_t, drw_t, bu_t, st_t, ki_t, we_t, wo_t, wr_t, ln_T, plc_T, ltr_T, worn_h, few_h, bc_h, ld_h, so_h, tr_h, be_h, wy_h, th_r, lan_r, siz_r, itm_r, ltr_M, pos_M, num_M, isk_M, bm_M, bch_M, lan_M, siz_M, itm_M, tap_M, now_M, tri_M, rd_M, kp_M, bes_M) = K a' := by
  obtain ⟨r, tri', e1, e2⟩ := pub_two (p1 := xs (Int32.toNatClampNeg (nI (8 * k) + 1))) (tri := tri_M) (SY_of hS)
  refine ⟨(nI (8 * k) + 8, img_x, men_n, md_n, day_n, drw_n, bu_n, st_n, ki_n, we_n, wo_n, wr_n, kn_p, nx_p, ke_p, men_a, md_a, day_a, drw_a, bu_a, st_a, ki_a, we_a, wo_a, wr_a, kn_q, nx_q, ke_q, men_t, md_t, day_t, drw_t, bu_t, st_t, ki_t, we_t, wo_t, wr_t, ln_T, plc_T, ltr_T, worn_h, few_h, bc_h, ld_h, so_h, tr_h, be_h, wy_h, th_r, lan_r, siz_r, itm_r, ltr_M, pos_M, num_M, isk_M, bm_M, bch_M, lan_M, siz_M, itm_M, tap_M, now_M, tri', rd_M, kp_M, bes_M), ⟨v8, hS, hG, hA, hT, hR⟩, fun K => ?_⟩
  refine (if_neg (gate h hL)).trans ?_
  refine (gl0 h hL).trans ?_
  refine (if_neg (nej c (by decide : ¬ (21 : Int32) = 0))).trans ?_
  refine (if_neg (nej c (by decide : ¬ (21 : Int32) = 1))).trans ?_
  refine (if_neg (nej c (by decide : ¬ (21 : Int32) = 2))).trans ?_
  refine (if_neg (nej c (by decide : ¬ (21 : Int32) = 3))).trans ?_
  refine (if_neg (nej c (by decide : ¬ (21 : Int32) = 4))).trans ?_
  refine (if_neg (nej c (by decide : ¬ (21 : Int32) = 5))).trans ?_
  refine (if_neg (nej c (by decide : ¬ (21 : Int32) = 6))).trans ?_
  refine (if_neg (nej c (by decide : ¬ (21 : Int32) = 7))).trans ?_
  refine (if_neg (nej c (by decide : ¬ (21 : Int32) = 8))).trans ?_
  refine (if_neg (nej c (by decide : ¬ (21 : Int32) = 9))).trans ?_
  refine (if_neg (nej c (by decide : ¬ (21 : Int32) = 10))).trans ?_
  refine (if_neg (nej c (by decide : ¬ (21 : Int32) = 11))).trans ?_
  refine (if_neg (nej c (by decide : ¬ (21 : Int32) = 12))).trans ?_
  refine (if_neg (nej c (by decide : ¬ (21 : Int32) = 13))).trans ?_
  refine (if_neg (nej c (by decide : ¬ (21 : Int32) = 14))).trans ?_
  refine (if_neg (nej c (by decide : ¬ (21 : Int32) = 15))).trans ?_
  refine (if_neg (nej c (by decide : ¬ (21 : Int32) = 16))).trans ?_
  refine (if_neg (nej c (by decide : ¬ (21 : Int32) = 17))).trans ?_
  refine (if_neg (nej c (by decide : ¬ (21 : Int32) = 18))).trans ?_
  refine (if_neg (nej c (by decide : ¬ (21 : Int32) = 19))).trans ?_
  refine (if_neg (nej c (by decide : ¬ (21 : Int32) = 20))).trans ?_
  refine (if_pos c).trans ?_
  refine (gl1 h hL).trans ?_
  refine bdS e1 ?_
  refine (gl1 h hL).trans ?_
  refine bdS e2 ?_
  exact if_pos rfl
theorem st_error (hS : SYH men_n md_n day_n drw_n bu_n st_n ki_n we_n wo_n wr_n kn_p nx_p ke_p now_M) (hG : img_x = isk_M) (hA : img_x = 0 ∨ SYH men_a md_a day_a drw_a bu_a st_a ki_a we_a wo_a wr_a kn_q nx_q ke_q kp_M) (hT : TP ln_T ltr_M ltr_T tap_M) (hR : SHT th_r lan_r siz_r itm_r lan_M siz_M itm_M) (h : 8 * k + 8 ≤ L) (hL : L ≤ 512) (c : (xs (Int32.toNatClampNeg (nI (8 * k))) &&& 31) = 22) : ∃ a', IT (k + 1) a' ∧ ∀ K, bL_law_18 L xs K (nI (8 * k), img_x, men_n, md_n, day_n, drw_n, bu_n, st_n, ki_n, we_n, wo_n, wr_n, kn_p, nx_p, ke_p, men_a, md_a, day_a, drw_a, bu_a, st_a, ki_a, we_a, wo_a, wr_a, kn_q, nx_q, ke_q, men_t, md_t, day_t, drw_t, bu_t, st_t, ki_t, we_t, wo_t, wr_t, ln_T, plc_T, ltr_T, worn_h, few_h, bc_h, ld_h, so_h, tr_h, be_h, wy_h, th_r, lan_r, siz_r, itm_r, ltr_M, pos_M, num_M, isk_M, bm_M, bch_M, lan_M, siz_M, itm_M, tap_M, now_M, tri_M, rd_M, kp_M, bes_M) = K a' := by
  obtain ⟨r, a1, a2, a3, tri', e1, e2⟩ := pub_error (p1 := xs (Int32.toNatClampNeg (nI (8 * k) + 1))) (p2 := xs (Int32.toNatClampNeg (nI (8 * k) + 2))) (tri := tri_M) (wy := wy_h) (ld := ld_h) (worn := worn_h) (SY_of hS)
  refine ⟨(nI (8 * k) + 8, img_x, men_n, md_n, day_n, drw_n, bu_n, st_n, ki_n, we_n, wo_n, wr_n, kn_p, nx_p, ke_p, men_a, md_a, day_a, drw_a, bu_a, st_a, ki_a, we_a, wo_a, wr_a, kn_q, nx_q, ke_q, men_t, md_t, day_t, drw_t, bu_t, st_t, ki_t, we_t, wo_t, wr_t, ln_T, plc_T, ltr_T, a1, few_h, bc_h, a2, so_h, tr_h, be_h, a3, th_r, lan_r, siz_r, itm_r, ltr_M, pos_M, num_M, isk_M, bm_M, bch_M, lan_M, siz_M, itm_M, tap_M, now_M, tri', rd_M, kp_M, bes_M), ⟨v8, hS, hG, hA, hT, hR⟩, fun K => ?_⟩
  refine (if_neg (gate h hL)).trans ?_
  refine (gl0 h hL).trans ?_
  refine (if_neg (nej c (by decide : ¬ (22 : Int32) = 0))).trans ?_
  refine (if_neg (nej c (by decide : ¬ (22 : Int32) = 1))).trans ?_
  refine (if_neg (nej c (by decide : ¬ (22 : Int32) = 2))).trans ?_
  refine (if_neg (nej c (by decide : ¬ (22 : Int32) = 3))).trans ?_
  refine (if_neg (nej c (by decide : ¬ (22 : Int32) = 4))).trans ?_
  refine (if_neg (nej c (by decide : ¬ (22 : Int32) = 5))).trans ?_
  refine (if_neg (nej c (by decide : ¬ (22 : Int32) = 6))).trans ?_
  refine (if_neg (nej c (by decide : ¬ (22 : Int32) = 7))).trans ?_
  refine (if_neg (nej c (by decide : ¬ (22 : Int32) = 8))).trans ?_
  refine (if_neg (nej c (by decide : ¬ (22 : Int32) = 9))).trans ?_
  refine (if_neg (nej c (by decide : ¬ (22 : Int32) = 10))).trans ?_
  refine (if_neg (nej c (by decide : ¬ (22 : Int32) = 11))).trans ?_
  refine (if_neg (nej c (by decide : ¬ (22 : Int32) = 12))).trans ?_
  refine (if_neg (nej c (by decide : ¬ (22 : Int32) = 13))).trans ?_
  refine (if_neg (nej c (by decide : ¬ (22 : Int32) = 14))).trans ?_
  refine (if_neg (nej c (by decide : ¬ (22 : Int32) = 15))).trans ?_
  refine (if_neg (nej c (by decide : ¬ (22 : Int32) = 16))).trans ?_
  refine (if_neg (nej c (by decide : ¬ (22 : Int32) = 17))).trans ?_
  refine (if_neg (nej c (by decide : ¬ (22 : Int32) = 18))).trans ?_
  refine (if_neg (nej c (by decide : ¬ (22 : Int32) = 19))).trans ?_
  refine (if_neg (nej c (by decide : ¬ (22 : Int32) = 20))).trans ?_
  refine (if_neg (nej c (by decide : ¬ (22 : Int32) = 21))).trans ?_
  refine (if_pos c).trans ?_
  refine (gl1 h hL).trans ?_
  refine (gl2 h hL).trans ?_
  refine bdS e1 ?_
  refine (gl1 h hL).trans ?_
  refine (gl2 h hL).trans ?_
  refine bdS e2 ?_
  exact if_pos rfl
theorem st_image (hS : SYH men_n md_n day_n drw_n bu_n st_n ki_n we_n wo_n wr_n kn_p nx_p ke_p now_M) (hG : img_x = isk_M) (hA : img_x = 0 ∨ SYH men_a md_a day_a drw_a bu_a st_a ki_a we_a wo_a wr_a kn_q nx_q ke_q kp_M) (hT : TP ln_T ltr_M ltr_T tap_M) (hR : SHT th_r lan_r siz_r itm_r lan_M siz_M itm_M) (h : 8 * k + 8 ≤ L) (hL : L ≤ 512) (c : (xs (Int32.toNatClampNeg (nI (8 * k))) &&& 31) = 23) : ∃ a', IT (k + 1) a' ∧ ∀ K, bL_law_18 L xs K (nI (8 * k), img_x, men_n, md_n, day_n, drw_n, bu_n, st_n, ki_n, we_n, wo_n, wr_n, kn_p, nx_p, ke_p, men_a, md_a, day_a, drw_a, bu_a, st_a, ki_a, we_a, wo_a, wr_a, kn_q, nx_q, ke_q, men_t, md_t, day_t, drw_t, bu_t, st_t, ki_t, we_t, wo_t, wr_t, ln_T, plc_T, ltr_T, worn_h, few_h, bc_h, ld_h, so_h, tr_h, be_h, wy_h, th_r, lan_r, siz_r, itm_r, ltr_M, pos_M, num_M, isk_M, bm_M, bch_M, lan_M, siz_M, itm_M, tap_M, now_M, tri_M, rd_M, kp_M, bes_M) = K a' := by
  obtain ⟨z1, z2, z3, z4, z5, z6, z7, kp', e1, e2, hN⟩ := pub_image  (bu2 := bu_a) (st2 := st_a) (ki2 := ki_a) (we2 := we_a) (wo2 := wo_a) (wr2 := wr_a) (ke2 := ke_q) (kp := kp_M) hS
  refine ⟨(nI (8 * k) + 8, 1, men_n, md_n, day_n, drw_n, bu_n, st_n, ki_n, we_n, wo_n, wr_n, kn_p, nx_p, ke_p, men_n, md_n, day_n, drw_n, z1, z2, z3, z4, z5, z6, kn_p, nx_p, z7, men_t, md_t, day_t, drw_t, bu_t, st_t, ki_t, we_t, wo_t, wr_t, ln_T, plc_T, ltr_T, worn_h, few_h, bc_h, ld_h, so_h, tr_h, be_h, wy_h, th_r, lan_r, siz_r, itm_r, ltr_M, pos_M, num_M, 1, bm_M, bch_M, lan_M, siz_M, itm_M, tap_M, now_M, tri_M, rd_M, kp', bes_M), ⟨v8, hS, rfl, Or.inr hN, hT, hR⟩, fun K => ?_⟩
  refine (if_neg (gate h hL)).trans ?_
  refine (gl0 h hL).trans ?_
  refine (if_neg (nej c (by decide : ¬ (23 : Int32) = 0))).trans ?_
  refine (if_neg (nej c (by decide : ¬ (23 : Int32) = 1))).trans ?_
  refine (if_neg (nej c (by decide : ¬ (23 : Int32) = 2))).trans ?_
  refine (if_neg (nej c (by decide : ¬ (23 : Int32) = 3))).trans ?_
  refine (if_neg (nej c (by decide : ¬ (23 : Int32) = 4))).trans ?_
  refine (if_neg (nej c (by decide : ¬ (23 : Int32) = 5))).trans ?_
  refine (if_neg (nej c (by decide : ¬ (23 : Int32) = 6))).trans ?_
  refine (if_neg (nej c (by decide : ¬ (23 : Int32) = 7))).trans ?_
  refine (if_neg (nej c (by decide : ¬ (23 : Int32) = 8))).trans ?_
  refine (if_neg (nej c (by decide : ¬ (23 : Int32) = 9))).trans ?_
  refine (if_neg (nej c (by decide : ¬ (23 : Int32) = 10))).trans ?_
  refine (if_neg (nej c (by decide : ¬ (23 : Int32) = 11))).trans ?_
  refine (if_neg (nej c (by decide : ¬ (23 : Int32) = 12))).trans ?_
  refine (if_neg (nej c (by decide : ¬ (23 : Int32) = 13))).trans ?_
  refine (if_neg (nej c (by decide : ¬ (23 : Int32) = 14))).trans ?_
  refine (if_neg (nej c (by decide : ¬ (23 : Int32) = 15))).trans ?_
  refine (if_neg (nej c (by decide : ¬ (23 : Int32) = 16))).trans ?_
  refine (if_neg (nej c (by decide : ¬ (23 : Int32) = 17))).trans ?_
  refine (if_neg (nej c (by decide : ¬ (23 : Int32) = 18))).trans ?_
  refine (if_neg (nej c (by decide : ¬ (23 : Int32) = 19))).trans ?_
  refine (if_neg (nej c (by decide : ¬ (23 : Int32) = 20))).trans ?_
  refine (if_neg (nej c (by decide : ¬ (23 : Int32) = 21))).trans ?_
  refine (if_neg (nej c (by decide : ¬ (23 : Int32) = 22))).trans ?_
  refine (if_pos c).trans ?_
  refine bdS e1 ?_
  refine bdS e2 ?_
  exact if_pos rfl
theorem st_restore (hS : SYH men_n md_n day_n drw_n bu_n st_n ki_n we_n wo_n wr_n kn_p nx_p ke_p now_M) (hG : img_x = isk_M) (hA : img_x = 0 ∨ SYH men_a md_a day_a drw_a bu_a st_a ki_a we_a wo_a wr_a kn_q nx_q ke_q kp_M) (hT : TP ln_T ltr_M ltr_T tap_M) (hR : SHT th_r lan_r siz_r itm_r lan_M siz_M itm_M) (h : 8 * k + 8 ≤ L) (hL : L ≤ 512) (c : (xs (Int32.toNatClampNeg (nI (8 * k))) &&& 31) = 24) : ∃ a', IT (k + 1) a' ∧ ∀ K, bL_law_18 L xs K (nI (8 * k), img_x, men_n, md_n, day_n, drw_n, bu_n, st_n, ki_n, we_n, wo_n, wr_n, kn_p, nx_p, ke_p, men_a, md_a, day_a, drw_a, bu_a, st_a, ki_a, we_a, wo_a, wr_a, kn_q, nx_q, ke_q, men_t, md_t, day_t, drw_t, bu_t, st_t, ki_t, we_t, wo_t, wr_t, ln_T, plc_T, ltr_T, worn_h, few_h, bc_h, ld_h, so_h, tr_h, be_h, wy_h, th_r, lan_r, siz_r, itm_r, ltr_M, pos_M, num_M, isk_M, bm_M, bch_M, lan_M, siz_M, itm_M, tap_M, now_M, tri_M, rd_M, kp_M, bes_M) = K a' := by
  obtain ⟨r, z1, z2, z3, z4, z5, z6, z7, z8, z9, z10, z11, z12, z13, now', e1, e2, hN⟩ := pub_restore   hS hG hA
  refine ⟨(nI (8 * k) + 8, img_x, z1, z2, z3, z4, z5, z6, z7, z8, z9, z10, z11, z12, z13, men_a, md_a, day_a, drw_a, bu_a, st_a, ki_a, we_a, wo_a, wr_a, kn_q, nx_q, ke_q, men_t, md_t, day_t, drw_t, bu_t, st_t, ki_t, we_t, wo_t, wr_t, ln_T, plc_T, ltr_T, worn_h, few_h, bc_h, ld_h, so_h, tr_h, be_h, wy_h, th_r, lan_r, siz_r, itm_r, ltr_M, pos_M, num_M, isk_M, bm_M, bch_M, lan_M, siz_M, itm_M, tap_M, now', tri_M, rd_M, kp_M, bes_M), ⟨v8, hN, hG, hA, hT, hR⟩, fun K => ?_⟩
  refine (if_neg (gate h hL)).trans ?_
  refine (gl0 h hL).trans ?_
  refine (if_neg (nej c (by decide : ¬ (24 : Int32) = 0))).trans ?_
  refine (if_neg (nej c (by decide : ¬ (24 : Int32) = 1))).trans ?_
  refine (if_neg (nej c (by decide : ¬ (24 : Int32) = 2))).trans ?_
  refine (if_neg (nej c (by decide : ¬ (24 : Int32) = 3))).trans ?_
  refine (if_neg (nej c (by decide : ¬ (24 : Int32) = 4))).trans ?_
  refine (if_neg (nej c (by decide : ¬ (24 : Int32) = 5))).trans ?_
  refine (if_neg (nej c (by decide : ¬ (24 : Int32) = 6))).trans ?_
  refine (if_neg (nej c (by decide : ¬ (24 : Int32) = 7))).trans ?_
  refine (if_neg (nej c (by decide : ¬ (24 : Int32) = 8))).trans ?_
  refine (if_neg (nej c (by decide : ¬ (24 : Int32) = 9))).trans ?_
  refine (if_neg (nej c (by decide : ¬ (24 : Int32) = 10))).trans ?_
  refine (if_neg (nej c (by decide : ¬ (24 : Int32) = 11))).trans ?_
  refine (if_neg (nej c (by decide : ¬ (24 : Int32) = 12))).trans ?_
  refine (if_neg (nej c (by decide : ¬ (24 : Int32) = 13))).trans ?_
  refine (if_neg (nej c (by decide : ¬ (24 : Int32) = 14))).trans ?_
  refine (if_neg (nej c (by decide : ¬ (24 : Int32) = 15))).trans ?_
  refine (if_neg (nej c (by decide : ¬ (24 : Int32) = 16))).trans ?_
  refine (if_neg (nej c (by decide : ¬ (24 : Int32) = 17))).trans ?_
  refine (if_neg (nej c (by decide : ¬ (24 : Int32) = 18))).trans ?_
  refine (if_neg (nej c (by decide : ¬ (24 : Int32) = 19))).trans ?_
  refine (if_neg (nej c (by decide : ¬ (24 : Int32) = 20))).trans ?_
  refine (if_neg (nej c (by decide : ¬ (24 : Int32) = 21))).trans ?_
  refine (if_neg (nej c (by decide : ¬ (24 : Int32) = 22))).trans ?_
  refine (if_neg (nej c (by decide : ¬ (24 : Int32) = 23))).trans ?_
  refine (if_pos c).trans ?_
  refine bdS e1 ?_
  refine bdS e2 ?_
  exact if_pos rfl
theorem st_felt (hS : SYH men_n md_n day_n drw_n bu_n st_n ki_n we_n wo_n wr_n kn_p nx_p ke_p now_M) (hG : img_x = isk_M) (hA : img_x = 0 ∨ SYH men_a md_a day_a drw_a bu_a st_a ki_a we_a wo_a wr_a kn_q nx_q ke_q kp_M) (hT : TP ln_T ltr_M ltr_T tap_M) (hR : SHT th_r lan_r siz_r itm_r lan_M siz_M itm_M) (h : 8 * k + 8 ≤ L) (hL : L ≤ 512) (c : (xs (Int32.toNatClampNeg (nI (8 * k))) &&& 31) = 25) : ∃ a', IT (k + 1) a' ∧ ∀ K, bL_law_18 L xs K (nI (8 * k), img_x, men_n, md_n, day_n, drw_n, bu_n, st_n, ki_n, we_n, wo_n, wr_n, kn_p, nx_p, ke_p, men_a, md_a, day_a, drw_a, bu_a, st_a, ki_a, we_a, wo_a, wr_a, kn_q, nx_q, ke_q, men_t, md_t, day_t, drw_t, bu_t, st_t, ki_t, we_t, wo_t, wr_t, ln_T, plc_T, ltr_T, worn_h, few_h, bc_h, ld_h, so_h, tr_h, be_h, wy_h, th_r, lan_r, siz_r, itm_r, ltr_M, pos_M, num_M, isk_M, bm_M, bch_M, lan_M, siz_M, itm_M, tap_M, now_M, tri_M, rd_M, kp_M, bes_M) = K a' := by
  obtain ⟨r, a1, a2, a3, a4, a5, a6, a7, a8, a9, a10, tri', e1, e2⟩ := pub_felt (p1 := xs (Int32.toNatClampNeg (nI (8 * k) + 1))) (p2 := xs (Int32.toNatClampNeg (nI (8 * k) + 2))) (p3 := xs (Int32.toNatClampNeg (nI (8 * k) + 3))) (p4 := xs (Int32.toNatClampNeg (nI (8 * k) + 4))) (p5 := xs (Int32.toNatClampNeg (nI (8 * k) + 5))) (p6 := xs (Int32.toNatClampNeg (nI (8 * k) + 6))) (p7 := xs (Int32.toNatClampNeg (nI (8 * k) + 7))) (tri := tri_M) (men_t := men_t) (md_t := md_t) (day_t := day_t) (drw_t := drw_t) (bu_t := bu_t) (st_t := st_t) (ki_t := ki_t) (we_t := we_t) (wo_t := wo_t) (wr_t := wr_t) (SY_of hS) hR
  refine ⟨(nI (8 * k) + 8, img_x, men_n, md_n, day_n, drw_n, bu_n, st_n, ki_n, we_n, wo_n, wr_n, kn_p, nx_p, ke_p, men_a, md_a, day_a, drw_a, bu_a, st_a, ki_a, we_a, wo_a, wr_a, kn_q, nx_q, ke_q, a1, a2, a3, a4, a5, a6, a7, a8, a9, a10, ln_T, plc_T, ltr_T, worn_h, few_h, bc_h, ld_h, so_h, tr_h, be_h, wy_h, th_r, lan_r, siz_r, itm_r, ltr_M, pos_M, num_M, isk_M, bm_M, bch_M, lan_M, siz_M, itm_M, tap_M, now_M, tri', rd_M, kp_M, bes_M), ⟨v8, hS, hG, hA, hT, hR⟩, fun K => ?_⟩
  refine (if_neg (gate h hL)).trans ?_
  refine (gl0 h hL).trans ?_
  refine (if_neg (nej c (by decide : ¬ (25 : Int32) = 0))).trans ?_
  refine (if_neg (nej c (by decide : ¬ (25 : Int32) = 1))).trans ?_
  refine (if_neg (nej c (by decide : ¬ (25 : Int32) = 2))).trans ?_
  refine (if_neg (nej c (by decide : ¬ (25 : Int32) = 3))).trans ?_
  refine (if_neg (nej c (by decide : ¬ (25 : Int32) = 4))).trans ?_
  refine (if_neg (nej c (by decide : ¬ (25 : Int32) = 5))).trans ?_
  refine (if_neg (nej c (by decide : ¬ (25 : Int32) = 6))).trans ?_
  refine (if_neg (nej c (by decide : ¬ (25 : Int32) = 7))).trans ?_
  refine (if_neg (nej c (by decide : ¬ (25 : Int32) = 8))).trans ?_
  refine (if_neg (nej c (by decide : ¬ (25 : Int32) = 9))).trans ?_
  refine (if_neg (nej c (by decide : ¬ (25 : Int32) = 10))).trans ?_
  refine (if_neg (nej c (by decide : ¬ (25 : Int32) = 11))).trans ?_
  refine (if_neg (nej c (by decide : ¬ (25 : Int32) = 12))).trans ?_
  refine (if_neg (nej c (by decide : ¬ (25 : Int32) = 13))).trans ?_
  refine (if_neg (nej c (by decide : ¬ (25 : Int32) = 14))).trans ?_
  refine (if_neg (nej c (by decide : ¬ (25 : Int32) = 15))).trans ?_
  refine (if_neg (nej c (by decide : ¬ (25 : Int32) = 16))).trans ?_
  refine (if_neg (nej c (by decide : ¬ (25 : Int32) = 17))).trans ?_
  refine (if_neg (nej c (by decide : ¬ (25 : Int32) = 18))).trans ?_
  refine (if_neg (nej c (by decide : ¬ (25 : Int32) = 19))).trans ?_
  refine (if_neg (nej c (by decide : ¬ (25 : Int32) = 20))).trans ?_
  refine (if_neg (nej c (by decide : ¬ (25 : Int32) = 21))).trans ?_
  refine (if_neg (nej c (by decide : ¬ (25 : Int32) = 22))).trans ?_
  refine (if_neg (nej c (by decide : ¬ (25 : Int32) = 23))).trans ?_
  refine (if_neg (nej c (by decide : ¬ (25 : Int32) = 24))).trans ?_
  refine (if_pos c).trans ?_
  refine (gl1 h hL).trans ?_
  refine (gl2 h hL).trans ?_
  refine (gl3 h hL).trans ?_
  refine (gl4 h hL).trans ?_
  refine (gl5 h hL).trans ?_
  refine (gl6 h hL).trans ?_
  refine (gl7 h hL).trans ?_
  refine bdS e1 ?_
  refine (gl1 h hL).trans ?_
  refine (gl2 h hL).trans ?_
  refine (gl3 h hL).trans ?_
  refine (gl4 h hL).trans ?_
  refine (gl5 h hL).trans ?_
  refine (gl6 h hL).trans ?_
  refine (gl7 h hL).trans ?_
  refine bdS e2 ?_
  exact if_pos rfl
theorem st_film (hS : SYH men_n md_n day_n drw_n bu_n st_n ki_n we_n wo_n wr_n kn_p nx_p ke_p now_M) (hG : img_x = isk_M) (hA : img_x = 0 ∨ SYH men_a md_a day_a drw_a bu_a st_a ki_a we_a wo_a wr_a kn_q nx_q ke_q kp_M) (hT : TP ln_T ltr_M ltr_T tap_M) (hR : SHT th_r lan_r siz_r itm_r lan_M siz_M itm_M) (h : 8 * k + 8 ≤ L) (hL : L ≤ 512) (c : (xs (Int32.toNatClampNeg (nI (8 * k))) &&& 31) = 26) : ∃ a', IT (k + 1) a' ∧ ∀ K, bL_law_18 L xs K (nI (8 * k), img_x, men_n, md_n, day_n, drw_n, bu_n, st_n, ki_n, we_n, wo_n, wr_n, kn_p, nx_p, ke_p, men_a, md_a, day_a, drw_a, bu_a, st_a, ki_a, we_a, wo_a, wr_a, kn_q, nx_q, ke_q, men_t, md_t, day_t, drw_t, bu_t, st_t, ki_t, we_t, wo_t, wr_t, ln_T, plc_T, ltr_T, worn_h, few_h, bc_h, ld_h, so_h, tr_h, be_h, wy_h, th_r, lan_r, siz_r, itm_r, ltr_M, pos_M, num_M, isk_M, bm_M, bch_M, lan_M, siz_M, itm_M, tap_M, now_M, tri_M, rd_M, kp_M, bes_M) = K a' := by
  obtain ⟨r, z1, y1, tri', e1, e2, hN⟩ := pub_film (p1 := xs (Int32.toNatClampNeg (nI (8 * k) + 1))) (p2 := xs (Int32.toNatClampNeg (nI (8 * k) + 2))) (p3 := xs (Int32.toNatClampNeg (nI (8 * k) + 3))) (p4 := xs (Int32.toNatClampNeg (nI (8 * k) + 4))) (p5 := xs (Int32.toNatClampNeg (nI (8 * k) + 5))) (tri := tri_M) (SY_of hS) hR
  refine ⟨(nI (8 * k) + 8, img_x, men_n, md_n, day_n, drw_n, bu_n, st_n, ki_n, we_n, wo_n, wr_n, kn_p, nx_p, ke_p, men_a, md_a, day_a, drw_a, bu_a, st_a, ki_a, we_a, wo_a, wr_a, kn_q, nx_q, ke_q, men_t, md_t, day_t, drw_t, bu_t, st_t, ki_t, we_t, wo_t, wr_t, ln_T, plc_T, ltr_T, worn_h, few_h, bc_h, ld_h, so_h, tr_h, be_h, wy_h, th_r, lan_r, siz_r, z1, ltr_M, pos_M, num_M, isk_M, bm_M, bch_M, lan_M, siz_M, y1, tap_M, now_M, tri', rd_M, kp_M, bes_M), ⟨v8, hS, hG, hA, hT, hN⟩, fun K => ?_⟩
  refine (if_neg (gate h hL)).trans ?_
  refine (gl0 h hL).trans ?_
  refine (if_neg (nej c (by decide : ¬ (26 : Int32) = 0))).trans ?_
  refine (if_neg (nej c (by decide : ¬ (26 : Int32) = 1))).trans ?_
  refine (if_neg (nej c (by decide : ¬ (26 : Int32) = 2))).trans ?_
  refine (if_neg (nej c (by decide : ¬ (26 : Int32) = 3))).trans ?_
  refine (if_neg (nej c (by decide : ¬ (26 : Int32) = 4))).trans ?_
  refine (if_neg (nej c (by decide : ¬ (26 : Int32) = 5))).trans ?_
  refine (if_neg (nej c (by decide : ¬ (26 : Int32) = 6))).trans ?_
  refine (if_neg (nej c (by decide : ¬ (26 : Int32) = 7))).trans ?_
  refine (if_neg (nej c (by decide : ¬ (26 : Int32) = 8))).trans ?_
  refine (if_neg (nej c (by decide : ¬ (26 : Int32) = 9))).trans ?_
  refine (if_neg (nej c (by decide : ¬ (26 : Int32) = 10))).trans ?_
  refine (if_neg (nej c (by decide : ¬ (26 : Int32) = 11))).trans ?_
  refine (if_neg (nej c (by decide : ¬ (26 : Int32) = 12))).trans ?_
  refine (if_neg (nej c (by decide : ¬ (26 : Int32) = 13))).trans ?_
  refine (if_neg (nej c (by decide : ¬ (26 : Int32) = 14))).trans ?_
  refine (if_neg (nej c (by decide : ¬ (26 : Int32) = 15))).trans ?_
  refine (if_neg (nej c (by decide : ¬ (26 : Int32) = 16))).trans ?_
  refine (if_neg (nej c (by decide : ¬ (26 : Int32) = 17))).trans ?_
  refine (if_neg (nej c (by decide : ¬ (26 : Int32) = 18))).trans ?_
  refine (if_neg (nej c (by decide : ¬ (26 : Int32) = 19))).trans ?_
  refine (if_neg (nej c (by decide : ¬ (26 : Int32) = 20))).trans ?_
  refine (if_neg (nej c (by decide : ¬ (26 : Int32) = 21))).trans ?_
  refine (if_neg (nej c (by decide : ¬ (26 : Int32) = 22))).trans ?_
  refine (if_neg (nej c (by decide : ¬ (26 : Int32) = 23))).trans ?_
  refine (if_neg (nej c (by decide : ¬ (26 : Int32) = 24))).trans ?_
  refine (if_neg (nej c (by decide : ¬ (26 : Int32) = 25))).trans ?_
  refine (if_pos c).trans ?_
  refine (gl1 h hL).trans ?_
  refine (gl2 h hL).trans ?_
  refine (gl3 h hL).trans ?_
  refine (gl4 h hL).trans ?_
  refine (gl5 h hL).trans ?_
  refine bdS e1 ?_
  refine (gl1 h hL).trans ?_
  refine (gl2 h hL).trans ?_
  refine (gl3 h hL).trans ?_
  refine (gl4 h hL).trans ?_
  refine (gl5 h hL).trans ?_
  refine bdS e2 ?_
  exact if_pos rfl
theorem st_sheet (hS : SYH men_n md_n day_n drw_n bu_n st_n ki_n we_n wo_n wr_n kn_p nx_p ke_p now_M) (hG : img_x = isk_M) (hA : img_x = 0 ∨ SYH men_a md_a day_a drw_a bu_a st_a ki_a we_a wo_a wr_a kn_q nx_q ke_q kp_M) (hT : TP ln_T ltr_M ltr_T tap_M) (hR : SHT th_r lan_r siz_r itm_r lan_M siz_M itm_M) (h : 8 * k + 8 ≤ L) (hL : L ≤ 512) (c : (xs (Int32.toNatClampNeg (nI (8 * k))) &&& 31) = 27) : ∃ a', IT (k + 1) a' ∧ ∀ K, bL_law_18 L xs K (nI (8 * k), img_x, men_n, md_n, day_n, drw_n, bu_n, st_n, ki_n, we_n, wo_n, wr_n, kn_p, nx_p, ke_p, men_a, md_a, day_a, drw_a, bu_a, st_a, ki_a, we_a, wo_a, wr_a, kn_q, nx_q, ke_q, men_t, md_t, day_t, drw_t, bu_t, st_t, ki_t, we_t, wo_t, wr_t, ln_T, plc_T, ltr_T, worn_h, few_h, bc_h, ld_h, so_h, tr_h, be_h, wy_h, th_r, lan_r, siz_r, itm_r, ltr_M, pos_M, num_M, isk_M, bm_M, bch_M, lan_M, siz_M, itm_M, tap_M, now_M, tri_M, rd_M, kp_M, bes_M) = K a' := by
  obtain ⟨r, z1, z2, z3, z4, y1, y2, y3, e1, e2, hN⟩ := pub_sheet (p1 := xs (Int32.toNatClampNeg (nI (8 * k) + 1))) (p2 := xs (Int32.toNatClampNeg (nI (8 * k) + 2))) (p3 := xs (Int32.toNatClampNeg (nI (8 * k) + 3)))  hR
  refine ⟨(nI (8 * k) + 8, img_x, men_n, md_n, day_n, drw_n, bu_n, st_n, ki_n, we_n, wo_n, wr_n, kn_p, nx_p, ke_p, men_a, md_a, day_a, drw_a, bu_a, st_a, ki_a, we_a, wo_a, wr_a, kn_q, nx_q, ke_q, men_t, md_t, day_t, drw_t, bu_t, st_t, ki_t, we_t, wo_t, wr_t, ln_T, plc_T, ltr_T, worn_h, few_h, bc_h, ld_h, so_h, tr_h, be_h, wy_h, z1, z2, z3, z4, ltr_M, pos_M, num_M, isk_M, bm_M, bch_M, y1, y2, y3, tap_M, now_M, tri_M, rd_M, kp_M, bes_M), ⟨v8, hS, hG, hA, hT, hN⟩, fun K => ?_⟩
  refine (if_neg (gate h hL)).trans ?_
  refine (gl0 h hL).trans ?_
  refine (if_neg (nej c (by decide : ¬ (27 : Int32) = 0))).trans ?_
  refine (if_neg (nej c (by decide : ¬ (27 : Int32) = 1))).trans ?_
  refine (if_neg (nej c (by decide : ¬ (27 : Int32) = 2))).trans ?_
  refine (if_neg (nej c (by decide : ¬ (27 : Int32) = 3))).trans ?_
  refine (if_neg (nej c (by decide : ¬ (27 : Int32) = 4))).trans ?_
  refine (if_neg (nej c (by decide : ¬ (27 : Int32) = 5))).trans ?_
  refine (if_neg (nej c (by decide : ¬ (27 : Int32) = 6))).trans ?_
  refine (if_neg (nej c (by decide : ¬ (27 : Int32) = 7))).trans ?_
  refine (if_neg (nej c (by decide : ¬ (27 : Int32) = 8))).trans ?_
  refine (if_neg (nej c (by decide : ¬ (27 : Int32) = 9))).trans ?_
  refine (if_neg (nej c (by decide : ¬ (27 : Int32) = 10))).trans ?_
  refine (if_neg (nej c (by decide : ¬ (27 : Int32) = 11))).trans ?_
  refine (if_neg (nej c (by decide : ¬ (27 : Int32) = 12))).trans ?_
  refine (if_neg (nej c (by decide : ¬ (27 : Int32) = 13))).trans ?_
  refine (if_neg (nej c (by decide : ¬ (27 : Int32) = 14))).trans ?_
  refine (if_neg (nej c (by decide : ¬ (27 : Int32) = 15))).trans ?_
  refine (if_neg (nej c (by decide : ¬ (27 : Int32) = 16))).trans ?_
  refine (if_neg (nej c (by decide : ¬ (27 : Int32) = 17))).trans ?_
  refine (if_neg (nej c (by decide : ¬ (27 : Int32) = 18))).trans ?_
  refine (if_neg (nej c (by decide : ¬ (27 : Int32) = 19))).trans ?_
  refine (if_neg (nej c (by decide : ¬ (27 : Int32) = 20))).trans ?_
  refine (if_neg (nej c (by decide : ¬ (27 : Int32) = 21))).trans ?_
  refine (if_neg (nej c (by decide : ¬ (27 : Int32) = 22))).trans ?_
  refine (if_neg (nej c (by decide : ¬ (27 : Int32) = 23))).trans ?_
  refine (if_neg (nej c (by decide : ¬ (27 : Int32) = 24))).trans ?_
  refine (if_neg (nej c (by decide : ¬ (27 : Int32) = 25))).trans ?_
  refine (if_neg (nej c (by decide : ¬ (27 : Int32) = 26))).trans ?_
  refine (if_pos c).trans ?_
  refine (gl1 h hL).trans ?_
  refine (gl2 h hL).trans ?_
  refine (gl3 h hL).trans ?_
  refine bdS e1 ?_
  refine (gl1 h hL).trans ?_
  refine (gl2 h hL).trans ?_
  refine (gl3 h hL).trans ?_
  refine bdS e2 ?_
  exact if_pos rfl
theorem st_drop (hS : SYH men_n md_n day_n drw_n bu_n st_n ki_n we_n wo_n wr_n kn_p nx_p ke_p now_M) (hG : img_x = isk_M) (hA : img_x = 0 ∨ SYH men_a md_a day_a drw_a bu_a st_a ki_a we_a wo_a wr_a kn_q nx_q ke_q kp_M) (hT : TP ln_T ltr_M ltr_T tap_M) (hR : SHT th_r lan_r siz_r itm_r lan_M siz_M itm_M) (h : 8 * k + 8 ≤ L) (hL : L ≤ 512) (c : (xs (Int32.toNatClampNeg (nI (8 * k))) &&& 31) = 28) : ∃ a', IT (k + 1) a' ∧ ∀ K, bL_law_18 L xs K (nI (8 * k), img_x, men_n, md_n, day_n, drw_n, bu_n, st_n, ki_n, we_n, wo_n, wr_n, kn_p, nx_p, ke_p, men_a, md_a, day_a, drw_a, bu_a, st_a, ki_a, we_a, wo_a, wr_a, kn_q, nx_q, ke_q, men_t, md_t, day_t, drw_t, bu_t, st_t, ki_t, we_t, wo_t, wr_t, ln_T, plc_T, ltr_T, worn_h, few_h, bc_h, ld_h, so_h, tr_h, be_h, wy_h, th_r, lan_r, siz_r, itm_r, ltr_M, pos_M, num_M, isk_M, bm_M, bch_M, lan_M, siz_M, itm_M, tap_M, now_M, tri_M, rd_M, kp_M, bes_M) = K a' := by
  obtain ⟨r, z1, y1, e1, e2, hN⟩ := pub_drop (p1 := xs (Int32.toNatClampNeg (nI (8 * k) + 1)))  hR
  refine ⟨(nI (8 * k) + 8, img_x, men_n, md_n, day_n, drw_n, bu_n, st_n, ki_n, we_n, wo_n, wr_n, kn_p, nx_p, ke_p, men_a, md_a, day_a, drw_a, bu_a, st_a, ki_a, we_a, wo_a, wr_a, kn_q, nx_q, ke_q, men_t, md_t, day_t, drw_t, bu_t, st_t, ki_t, we_t, wo_t, wr_t, ln_T, plc_T, ltr_T, worn_h, few_h, bc_h, ld_h, so_h, tr_h, be_h, wy_h, z1, lan_r, siz_r, itm_r, ltr_M, pos_M, num_M, isk_M, bm_M, bch_M, y1, siz_M, itm_M, tap_M, now_M, tri_M, rd_M, kp_M, bes_M), ⟨v8, hS, hG, hA, hT, hN⟩, fun K => ?_⟩
  refine (if_neg (gate h hL)).trans ?_
  refine (gl0 h hL).trans ?_
  refine (if_neg (nej c (by decide : ¬ (28 : Int32) = 0))).trans ?_
  refine (if_neg (nej c (by decide : ¬ (28 : Int32) = 1))).trans ?_
  refine (if_neg (nej c (by decide : ¬ (28 : Int32) = 2))).trans ?_
  refine (if_neg (nej c (by decide : ¬ (28 : Int32) = 3))).trans ?_
  refine (if_neg (nej c (by decide : ¬ (28 : Int32) = 4))).trans ?_
  refine (if_neg (nej c (by decide : ¬ (28 : Int32) = 5))).trans ?_
  refine (if_neg (nej c (by decide : ¬ (28 : Int32) = 6))).trans ?_
  refine (if_neg (nej c (by decide : ¬ (28 : Int32) = 7))).trans ?_
  refine (if_neg (nej c (by decide : ¬ (28 : Int32) = 8))).trans ?_
  refine (if_neg (nej c (by decide : ¬ (28 : Int32) = 9))).trans ?_
  refine (if_neg (nej c (by decide : ¬ (28 : Int32) = 10))).trans ?_
  refine (if_neg (nej c (by decide : ¬ (28 : Int32) = 11))).trans ?_
  refine (if_neg (nej c (by decide : ¬ (28 : Int32) = 12))).trans ?_
  refine (if_neg (nej c (by decide : ¬ (28 : Int32) = 13))).trans ?_
  refine (if_neg (nej c (by decide : ¬ (28 : Int32) = 14))).trans ?_
  refine (if_neg (nej c (by decide : ¬ (28 : Int32) = 15))).trans ?_
  refine (if_neg (nej c (by decide : ¬ (28 : Int32) = 16))).trans ?_
  refine (if_neg (nej c (by decide : ¬ (28 : Int32) = 17))).trans ?_
  refine (if_neg (nej c (by decide : ¬ (28 : Int32) = 18))).trans ?_
  refine (if_neg (nej c (by decide : ¬ (28 : Int32) = 19))).trans ?_
  refine (if_neg (nej c (by decide : ¬ (28 : Int32) = 20))).trans ?_
  refine (if_neg (nej c (by decide : ¬ (28 : Int32) = 21))).trans ?_
  refine (if_neg (nej c (by decide : ¬ (28 : Int32) = 22))).trans ?_
  refine (if_neg (nej c (by decide : ¬ (28 : Int32) = 23))).trans ?_
  refine (if_neg (nej c (by decide : ¬ (28 : Int32) = 24))).trans ?_
  refine (if_neg (nej c (by decide : ¬ (28 : Int32) = 25))).trans ?_
  refine (if_neg (nej c (by decide : ¬ (28 : Int32) = 26))).trans ?_
  refine (if_neg (nej c (by decide : ¬ (28 : Int32) = 27))).trans ?_
  refine (if_pos c).trans ?_
  refine (gl1 h hL).trans ?_
  refine bdS e1 ?_
  refine (gl1 h hL).trans ?_
  refine bdS e2 ?_
  exact if_pos rfl
theorem st_item (hS : SYH men_n md_n day_n drw_n bu_n st_n ki_n we_n wo_n wr_n kn_p nx_p ke_p now_M) (hG : img_x = isk_M) (hA : img_x = 0 ∨ SYH men_a md_a day_a drw_a bu_a st_a ki_a we_a wo_a wr_a kn_q nx_q ke_q kp_M) (hT : TP ln_T ltr_M ltr_T tap_M) (hR : SHT th_r lan_r siz_r itm_r lan_M siz_M itm_M) (h : 8 * k + 8 ≤ L) (hL : L ≤ 512) (c : (xs (Int32.toNatClampNeg (nI (8 * k))) &&& 31) = 29) : ∃ a', IT (k + 1) a' ∧ ∀ K, bL_law_18 L xs K (nI (8 * k), img_x, men_n, md_n, day_n, drw_n, bu_n, st_n, ki_n, we_n, wo_n, wr_n, kn_p, nx_p, ke_p, men_a, md_a, day_a, drw_a, bu_a, st_a, ki_a, we_a, wo_a, wr_a, kn_q, nx_q, ke_q, men_t, md_t, day_t, drw_t, bu_t, st_t, ki_t, we_t, wo_t, wr_t, ln_T, plc_T, ltr_T, worn_h, few_h, bc_h, ld_h, so_h, tr_h, be_h, wy_h, th_r, lan_r, siz_r, itm_r, ltr_M, pos_M, num_M, isk_M, bm_M, bch_M, lan_M, siz_M, itm_M, tap_M, now_M, tri_M, rd_M, kp_M, bes_M) = K a' := by
  obtain ⟨r, z1, y1, e1, e2, hN⟩ := pub_item (p1 := xs (Int32.toNatClampNeg (nI (8 * k) + 1))) (p2 := xs (Int32.toNatClampNeg (nI (8 * k) + 2))) (p3 := xs (Int32.toNatClampNeg (nI (8 * k) + 3))) (p4 := ((Int32.toInt64 (xs (Int32.toNatClampNeg (nI (8 * k) + 4)))) <<< (Int32.toInt64 32 &&& 63)) ||| ((Int32.toInt64 (xs (Int32.toNatClampNeg (nI (8 * k) + 5)))) &&& 4294967295))  hR
  refine ⟨(nI (8 * k) + 8, img_x, men_n, md_n, day_n, drw_n, bu_n, st_n, ki_n, we_n, wo_n, wr_n, kn_p, nx_p, ke_p, men_a, md_a, day_a, drw_a, bu_a, st_a, ki_a, we_a, wo_a, wr_a, kn_q, nx_q, ke_q, men_t, md_t, day_t, drw_t, bu_t, st_t, ki_t, we_t, wo_t, wr_t, ln_T, plc_T, ltr_T, worn_h, few_h, bc_h, ld_h, so_h, tr_h, be_h, wy_h, th_r, lan_r, siz_r, z1, ltr_M, pos_M, num_M, isk_M, bm_M, bch_M, lan_M, siz_M, y1, tap_M, now_M, tri_M, rd_M, kp_M, bes_M), ⟨v8, hS, hG, hA, hT, hN⟩, fun K => ?_⟩
  refine (if_neg (gate h hL)).trans ?_
  refine (gl0 h hL).trans ?_
  refine (if_neg (nej c (by decide : ¬ (29 : Int32) = 0))).trans ?_
  refine (if_neg (nej c (by decide : ¬ (29 : Int32) = 1))).trans ?_
  refine (if_neg (nej c (by decide : ¬ (29 : Int32) = 2))).trans ?_
  refine (if_neg (nej c (by decide : ¬ (29 : Int32) = 3))).trans ?_
  refine (if_neg (nej c (by decide : ¬ (29 : Int32) = 4))).trans ?_
  refine (if_neg (nej c (by decide : ¬ (29 : Int32) = 5))).trans ?_
  refine (if_neg (nej c (by decide : ¬ (29 : Int32) = 6))).trans ?_
  refine (if_neg (nej c (by decide : ¬ (29 : Int32) = 7))).trans ?_
  refine (if_neg (nej c (by decide : ¬ (29 : Int32) = 8))).trans ?_
  refine (if_neg (nej c (by decide : ¬ (29 : Int32) = 9))).trans ?_
  refine (if_neg (nej c (by decide : ¬ (29 : Int32) = 10))).trans ?_
  refine (if_neg (nej c (by decide : ¬ (29 : Int32) = 11))).trans ?_
  refine (if_neg (nej c (by decide : ¬ (29 : Int32) = 12))).trans ?_
  refine (if_neg (nej c (by decide : ¬ (29 : Int32) = 13))).trans ?_
  refine (if_neg (nej c (by decide : ¬ (29 : Int32) = 14))).trans ?_
  refine (if_neg (nej c (by decide : ¬ (29 : Int32) = 15))).trans ?_
  refine (if_neg (nej c (by decide : ¬ (29 : Int32) = 16))).trans ?_
  refine (if_neg (nej c (by decide : ¬ (29 : Int32) = 17))).trans ?_
  refine (if_neg (nej c (by decide : ¬ (29 : Int32) = 18))).trans ?_
  refine (if_neg (nej c (by decide : ¬ (29 : Int32) = 19))).trans ?_
  refine (if_neg (nej c (by decide : ¬ (29 : Int32) = 20))).trans ?_
  refine (if_neg (nej c (by decide : ¬ (29 : Int32) = 21))).trans ?_
  refine (if_neg (nej c (by decide : ¬ (29 : Int32) = 22))).trans ?_
  refine (if_neg (nej c (by decide : ¬ (29 : Int32) = 23))).trans ?_
  refine (if_neg (nej c (by decide : ¬ (29 : Int32) = 24))).trans ?_
  refine (if_neg (nej c (by decide : ¬ (29 : Int32) = 25))).trans ?_
  refine (if_neg (nej c (by decide : ¬ (29 : Int32) = 26))).trans ?_
  refine (if_neg (nej c (by decide : ¬ (29 : Int32) = 27))).trans ?_
  refine (if_neg (nej c (by decide : ¬ (29 : Int32) = 28))).trans ?_
  refine (if_pos c).trans ?_
  refine (gl1 h hL).trans ?_
  refine (gl2 h hL).trans ?_
  refine (gl3 h hL).trans ?_
  refine (gl4 h hL).trans ?_
  refine (gl5 h hL).trans ?_
  refine bdS e1 ?_
  refine (gl1 h hL).trans ?_
  refine (gl2 h hL).trans ?_
  refine (gl3 h hL).trans ?_
  refine (gl4 h hL).trans ?_
  refine (gl5 h hL).trans ?_
  refine bdS e2 ?_
  exact if_pos rfl
theorem st_copy (hS : SYH men_n md_n day_n drw_n bu_n st_n ki_n we_n wo_n wr_n kn_p nx_p ke_p now_M) (hG : img_x = isk_M) (hA : img_x = 0 ∨ SYH men_a md_a day_a drw_a bu_a st_a ki_a we_a wo_a wr_a kn_q nx_q ke_q kp_M) (hT : TP ln_T ltr_M ltr_T tap_M) (hR : SHT th_r lan_r siz_r itm_r lan_M siz_M itm_M) (h : 8 * k + 8 ≤ L) (hL : L ≤ 512) (c : (xs (Int32.toNatClampNeg (nI (8 * k))) &&& 31) = 30) : ∃ a', IT (k + 1) a' ∧ ∀ K, bL_law_18 L xs K (nI (8 * k), img_x, men_n, md_n, day_n, drw_n, bu_n, st_n, ki_n, we_n, wo_n, wr_n, kn_p, nx_p, ke_p, men_a, md_a, day_a, drw_a, bu_a, st_a, ki_a, we_a, wo_a, wr_a, kn_q, nx_q, ke_q, men_t, md_t, day_t, drw_t, bu_t, st_t, ki_t, we_t, wo_t, wr_t, ln_T, plc_T, ltr_T, worn_h, few_h, bc_h, ld_h, so_h, tr_h, be_h, wy_h, th_r, lan_r, siz_r, itm_r, ltr_M, pos_M, num_M, isk_M, bm_M, bch_M, lan_M, siz_M, itm_M, tap_M, now_M, tri_M, rd_M, kp_M, bes_M) = K a' := by
  obtain ⟨r, z1, y1, e1, e2, hN⟩ := pub_copy (p1 := xs (Int32.toNatClampNeg (nI (8 * k) + 1))) (p2 := xs (Int32.toNatClampNeg (nI (8 * k) + 2))) (p3 := xs (Int32.toNatClampNeg (nI (8 * k) + 3))) (p4 := xs (Int32.toNatClampNeg (nI (8 * k) + 4))) (p5 := xs (Int32.toNatClampNeg (nI (8 * k) + 5)))  hR
  refine ⟨(nI (8 * k) + 8, img_x, men_n, md_n, day_n, drw_n, bu_n, st_n, ki_n, we_n, wo_n, wr_n, kn_p, nx_p, ke_p, men_a, md_a, day_a, drw_a, bu_a, st_a, ki_a, we_a, wo_a, wr_a, kn_q, nx_q, ke_q, men_t, md_t, day_t, drw_t, bu_t, st_t, ki_t, we_t, wo_t, wr_t, ln_T, plc_T, ltr_T, worn_h, few_h, bc_h, ld_h, so_h, tr_h, be_h, wy_h, th_r, lan_r, siz_r, z1, ltr_M, pos_M, num_M, isk_M, bm_M, bch_M, lan_M, siz_M, y1, tap_M, now_M, tri_M, rd_M, kp_M, bes_M), ⟨v8, hS, hG, hA, hT, hN⟩, fun K => ?_⟩
  refine (if_neg (gate h hL)).trans ?_
  refine (gl0 h hL).trans ?_
  refine (if_neg (nej c (by decide : ¬ (30 : Int32) = 0))).trans ?_
  refine (if_neg (nej c (by decide : ¬ (30 : Int32) = 1))).trans ?_
  refine (if_neg (nej c (by decide : ¬ (30 : Int32) = 2))).trans ?_
  refine (if_neg (nej c (by decide : ¬ (30 : Int32) = 3))).trans ?_
  refine (if_neg (nej c (by decide : ¬ (30 : Int32) = 4))).trans ?_
  refine (if_neg (nej c (by decide : ¬ (30 : Int32) = 5))).trans ?_
  refine (if_neg (nej c (by decide : ¬ (30 : Int32) = 6))).trans ?_
  refine (if_neg (nej c (by decide : ¬ (30 : Int32) = 7))).trans ?_
  refine (if_neg (nej c (by decide : ¬ (30 : Int32) = 8))).trans ?_
  refine (if_neg (nej c (by decide : ¬ (30 : Int32) = 9))).trans ?_
  refine (if_neg (nej c (by decide : ¬ (30 : Int32) = 10))).trans ?_
  refine (if_neg (nej c (by decide : ¬ (30 : Int32) = 11))).trans ?_
  refine (if_neg (nej c (by decide : ¬ (30 : Int32) = 12))).trans ?_
  refine (if_neg (nej c (by decide : ¬ (30 : Int32) = 13))).trans ?_
  refine (if_neg (nej c (by decide : ¬ (30 : Int32) = 14))).trans ?_
  refine (if_neg (nej c (by decide : ¬ (30 : Int32) = 15))).trans ?_
  refine (if_neg (nej c (by decide : ¬ (30 : Int32) = 16))).trans ?_
  refine (if_neg (nej c (by decide : ¬ (30 : Int32) = 17))).trans ?_
  refine (if_neg (nej c (by decide : ¬ (30 : Int32) = 18))).trans ?_
  refine (if_neg (nej c (by decide : ¬ (30 : Int32) = 19))).trans ?_
  refine (if_neg (nej c (by decide : ¬ (30 : Int32) = 20))).trans ?_
  refine (if_neg (nej c (by decide : ¬ (30 : Int32) = 21))).trans ?_
  refine (if_neg (nej c (by decide : ¬ (30 : Int32) = 22))).trans ?_
  refine (if_neg (nej c (by decide : ¬ (30 : Int32) = 23))).trans ?_
  refine (if_neg (nej c (by decide : ¬ (30 : Int32) = 24))).trans ?_
  refine (if_neg (nej c (by decide : ¬ (30 : Int32) = 25))).trans ?_
  refine (if_neg (nej c (by decide : ¬ (30 : Int32) = 26))).trans ?_
  refine (if_neg (nej c (by decide : ¬ (30 : Int32) = 27))).trans ?_
  refine (if_neg (nej c (by decide : ¬ (30 : Int32) = 28))).trans ?_
  refine (if_neg (nej c (by decide : ¬ (30 : Int32) = 29))).trans ?_
  refine (if_pos c).trans ?_
  refine (gl1 h hL).trans ?_
  refine (gl2 h hL).trans ?_
  refine (gl3 h hL).trans ?_
  refine (gl4 h hL).trans ?_
  refine (gl5 h hL).trans ?_
  refine bdS e1 ?_
  refine (gl1 h hL).trans ?_
  refine (gl2 h hL).trans ?_
  refine (gl3 h hL).trans ?_
  refine (gl4 h hL).trans ?_
  refine (gl5 h hL).trans ?_
  refine bdS e2 ?_
  exact if_pos rfl
theorem st_else (hS : SYH men_n md_n day_n drw_n bu_n st_n ki_n we_n wo_n wr_n kn_p nx_p ke_p now_M) (hG : img_x = isk_M) (hA : img_x = 0 ∨ SYH men_a md_a day_a drw_a bu_a st_a ki_a we_a wo_a wr_a kn_q nx_q ke_q kp_M) (hT : TP ln_T ltr_M ltr_T tap_M) (hR : SHT th_r lan_r siz_r itm_r lan_M siz_M itm_M) (h : 8 * k + 8 ≤ L) (hL : L ≤ 512) (c0 : ¬ (xs (Int32.toNatClampNeg (nI (8 * k))) &&& 31) = 0) (c1 : ¬ (xs (Int32.toNatClampNeg (nI (8 * k))) &&& 31) = 1) (c2 : ¬ (xs (Int32.toNatClampNeg (nI (8 * k))) &&& 31) = 2) (c3 : ¬ (xs (Int32.toNatClampNeg (nI (8 * k))) &&& 31) = 3) (c4 : ¬ (xs (Int32.toNatClampNeg (nI (8 * k))) &&& 31) = 4) (c5 : ¬ (xs (Int32.toNatClampNeg (nI (8 * k))) &&& 31) = 5) (c6 : ¬ (xs (Int32.toNatClampNeg (nI (8 * k))) &&& 31) = 6) (c7 : ¬ (xs (Int32.toNatClampNeg (nI (8 * k))) &&& 31) = 7) (c8 : ¬ (xs (Int32.toNatClampNeg (nI (8 * k))) &&& 31) = 8) (c9 : ¬ (xs (Int32.toNatClampNeg (nI (8 * k))) &&& 31) = 9) (c10 : ¬ (xs (Int32.toNatClampNeg (nI (8 * k))) &&& 31) = 10) (c11 : ¬ (xs (Int32.toNatClampNeg (nI (8 * k))) &&& 31) = 11) (c12 : ¬ (xs (Int32.toNatClampNeg (nI (8 * k))) &&& 31) = 12) (c13 : ¬ (xs (Int32.toNatClampNeg (nI (8 * k))) &&& 31) = 13) (c14 : ¬ (xs (Int32.toNatClampNeg (nI (8 * k))) &&& 31) = 14) (c15 : ¬ (xs (Int32.toNatClampNeg (nI (8 * k))) &&& 31) = 15) (c16 : ¬ (xs (Int32.toNatClampNeg (nI (8 * k))) &&& 31) = 16) (c17 : ¬ (xs (Int32.toNatClampNeg (nI (8 * k))) &&& 31) = 17) (c18 : ¬ (xs (Int32.toNatClampNeg (nI (8 * k))) &&& 31) = 18) (c19 : ¬ (xs (Int32.toNatClampNeg (nI (8 * k))) &&& 31) = 19) (c20 : ¬ (xs (Int32.toNatClampNeg (nI (8 * k))) &&& 31) = 20) (c21 : ¬ (xs (Int32.toNatClampNeg (nI (8 * k))) &&& 31) = 21) (c22 : ¬ (xs (Int32.toNatClampNeg (nI (8 * k))) &&& 31) = 22) (c23 : ¬ (xs (Int32.toNatClampNeg (nI (8 * k))) &&& 31) = 23) (c24 : ¬ (xs (Int32.toNatClampNeg (nI (8 * k))) &&& 31) = 24) (c25 : ¬ (xs (Int32.toNatClampNeg (nI (8 * k))) &&& 31) = 25) (c26 : ¬ (xs (Int32.toNatClampNeg (nI (8 * k))) &&& 31) = 26) (c27 : ¬ (xs (Int32.toNatClampNeg (nI (8 * k))) &&& 31) = 27) (c28 : ¬ (xs (Int32.toNatClampNeg (nI (8 * k))) &&& 31) = 28) (c29 : ¬ (xs (Int32.toNatClampNeg (nI (8 * k))) &&& 31) = 29) (c30 : ¬ (xs (Int32.toNatClampNeg (nI (8 * k))) &&& 31) = 30) : ∃ a', IT (k + 1) a' ∧ ∀ K, bL_law_18 L xs K (nI (8 * k), img_x, men_n, md_n, day_n, drw_n, bu_n, st_n, ki_n, we_n, wo_n, wr_n, kn_p, nx_p, ke_p, men_a, md_a, day_a, drw_a, bu_a, st_a, ki_a, we_a, wo_a, wr_a, kn_q, nx_q, ke_q, men_t, md_t, day_t, drw_t, bu_t, st_t, ki_t, we_t, wo_t, wr_t, ln_T, plc_T, ltr_T, worn_h, few_h, bc_h, ld_h, so_h, tr_h, be_h, wy_h, th_r, lan_r, siz_r, itm_r, ltr_M, pos_M, num_M, isk_M, bm_M, bch_M, lan_M, siz_M, itm_M, tap_M, now_M, tri_M, rd_M, kp_M, bes_M) = K a' := by
  refine ⟨(nI (8 * k) + 8, img_x, men_n, md_n, day_n, drw_n, bu_n, st_n, ki_n, we_n, wo_n, wr_n, kn_p, nx_p, ke_p, men_a, md_a, day_a, drw_a, bu_a, st_a, ki_a, we_a, wo_a, wr_a, kn_q, nx_q, ke_q, men_t, md_t, day_t, drw_t, bu_t, st_t, ki_t, we_t, wo_t, wr_t, ln_T, plc_T, ltr_T, worn_h, few_h, bc_h, ld_h, so_h, tr_h, be_h, wy_h, th_r, lan_r, siz_r, itm_r, ltr_M, pos_M, num_M, isk_M, bm_M, bch_M, lan_M, siz_M, itm_M, tap_M, now_M, tri_M, rd_M, kp_M, bes_M), ⟨v8, hS, hG, hA, hT, hR⟩, fun K => ?_⟩
  refine (if_neg (gate h hL)).trans ?_
  refine (gl0 h hL).trans ?_
  refine (if_neg c0).trans ?_
  refine (if_neg c1).trans ?_
  refine (if_neg c2).trans ?_
  refine (if_neg c3).trans ?_
  refine (if_neg c4).trans ?_
  refine (if_neg c5).trans ?_
  refine (if_neg c6).trans ?_
  refine (if_neg c7).trans ?_
  refine (if_neg c8).trans ?_
  refine (if_neg c9).trans ?_
  refine (if_neg c10).trans ?_
  refine (if_neg c11).trans ?_
  refine (if_neg c12).trans ?_
  refine (if_neg c13).trans ?_
  refine (if_neg c14).trans ?_
  refine (if_neg c15).trans ?_
  refine (if_neg c16).trans ?_
  refine (if_neg c17).trans ?_
  refine (if_neg c18).trans ?_
  refine (if_neg c19).trans ?_
  refine (if_neg c20).trans ?_
  refine (if_neg c21).trans ?_
  refine (if_neg c22).trans ?_
  refine (if_neg c23).trans ?_
  refine (if_neg c24).trans ?_
  refine (if_neg c25).trans ?_
  refine (if_neg c26).trans ?_
  refine (if_neg c27).trans ?_
  refine (if_neg c28).trans ?_
  refine (if_neg c29).trans ?_
  refine (if_neg c30).trans ?_
  rfl
end LAW
