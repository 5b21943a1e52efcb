theorem dX1_init_0 : decode cX1_init 0 = .ok (.aload_n 0, 1) := by decide +kernel
theorem dX1_init_1 : decode cX1_init 1 = .ok (.invokespecial 3, 3) := by decide +kernel
theorem dX1_init_4 : decode cX1_init 4 = .ok (.aload_n 0, 1) := by decide +kernel
theorem dX1_init_5 : decode cX1_init 5 = .ok (.iconst 0, 1) := by decide +kernel
theorem dX1_init_6 : decode cX1_init 6 = .ok (.putfield 9, 3) := by decide +kernel
theorem dX1_init_9 : decode cX1_init 9 = .ok (.aload_n 0, 1) := by decide +kernel
theorem dX1_init_10 : decode cX1_init 10 = .ok (.iconst 5, 1) := by decide +kernel
theorem dX1_init_11 : decode cX1_init 11 = .ok (.newarray .int, 2) := by decide +kernel
theorem dX1_init_13 : decode cX1_init 13 = .ok (.putfield 15, 3) := by decide +kernel
theorem dX1_init_16 : decode cX1_init 16 = .ok (.aload_n 0, 1) := by decide +kernel
theorem dX1_init_17 : decode cX1_init 17 = .ok (.iconst 5, 1) := by decide +kernel
theorem dX1_init_18 : decode cX1_init 18 = .ok (.newarray .int, 2) := by decide +kernel
theorem dX1_init_20 : decode cX1_init 20 = .ok (.putfield 19, 3) := by decide +kernel
theorem dX1_init_23 : decode cX1_init 23 = .ok (.aload_n 0, 1) := by decide +kernel
theorem dX1_init_24 : decode cX1_init 24 = .ok (.iconst 0, 1) := by decide +kernel
theorem dX1_init_25 : decode cX1_init 25 = .ok (.putfield 22, 3) := by decide +kernel
theorem dX1_init_28 : decode cX1_init 28 = .ok (.aload_n 0, 1) := by decide +kernel
theorem dX1_init_29 : decode cX1_init 29 = .ok (.bipush 6, 2) := by decide +kernel
theorem dX1_init_31 : decode cX1_init 31 = .ok (.newarray .int, 2) := by decide +kernel
theorem dX1_init_33 : decode cX1_init 33 = .ok (.putfield 25, 3) := by decide +kernel
theorem dX1_init_36 : decode cX1_init 36 = .ok (.aload_n 0, 1) := by decide +kernel
theorem dX1_init_37 : decode cX1_init 37 = .ok (.bipush 6, 2) := by decide +kernel
theorem dX1_init_39 : decode cX1_init 39 = .ok (.newarray .int, 2) := by decide +kernel
theorem dX1_init_41 : decode cX1_init 41 = .ok (.putfield 28, 3) := by decide +kernel
theorem dX1_init_44 : decode cX1_init 44 = .ok (.aload_n 0, 1) := by decide +kernel
theorem dX1_init_45 : decode cX1_init 45 = .ok (.bipush 6, 2) := by decide +kernel
theorem dX1_init_47 : decode cX1_init 47 = .ok (.newarray .int, 2) := by decide +kernel
theorem dX1_init_49 : decode cX1_init 49 = .ok (.putfield 31, 3) := by decide +kernel
theorem dX1_init_52 : decode cX1_init 52 = .ok (.aload_n 0, 1) := by decide +kernel
theorem dX1_init_53 : decode cX1_init 53 = .ok (.bipush 6, 2) := by decide +kernel
theorem dX1_init_55 : decode cX1_init 55 = .ok (.newarray .int, 2) := by decide +kernel
theorem dX1_init_57 : decode cX1_init 57 = .ok (.putfield 34, 3) := by decide +kernel
theorem dX1_init_60 : decode cX1_init 60 = .ok (.aload_n 0, 1) := by decide +kernel
theorem dX1_init_61 : decode cX1_init 61 = .ok (.iconst 0, 1) := by decide +kernel
theorem dX1_init_62 : decode cX1_init 62 = .ok (.putfield 37, 3) := by decide +kernel
theorem dX1_init_65 : decode cX1_init 65 = .ok (.aload_n 0, 1) := by decide +kernel
theorem dX1_init_66 : decode cX1_init 66 = .ok (.iconst 1, 1) := by decide +kernel
theorem dX1_init_67 : decode cX1_init 67 = .ok (.putfield 40, 3) := by decide +kernel
theorem dX1_init_70 : decode cX1_init 70 = .ok (.return_, 1) := by decide +kernel
set_option maxHeartbeats 1000000 in
set_option maxRecDepth 100000 in
theorem kX1_init {l : Launch} {D : va_G} {g : Nat → ClassId} (h0 : Nat) (sz : Nat) : Met l yX1_init wsX1_init ({ frames := 1, cells := 6, slots := 34, locals := 100 }) (va_Pc [.ref h0] (pC D g [(h0, .inr (1, [.int 0, .null, .null, .int 0, .null, .null, .null, .null, .int 0, .int 0]))] sz)) (qC D (va_A [(h0, .inr (1, [.int 0, .null, .null, .int 0, .null, .null, .null, .null, .int 0, .int 0]))] sz) (fun u => [(h0, .inr (1, [.int 0, .ref (u 0 1), .ref (u 0 2), .int 0, .ref (u 0 3), .ref (u 0 4), .ref (u 0 5), .ref (u 0 6), .int 0, .int 1])), ((u 0 1), .inl (g 0, 5, .inl (fun _ => 0))), ((u 0 2), .inl (g 0, 5, .inl (fun _ => 0))), ((u 0 3), .inl (g 0, 6, .inl (fun _ => 0))), ((u 0 4), .inl (g 0, 6, .inl (fun _ => 0))), ((u 0 5), .inl (g 0, 6, .inl (fun _ => 0))), ((u 0 6), .inl (g 0, 6, .inl (fun _ => 0)))])) 6 34 (va_A [(h0, .inr (1, [.int 0, .null, .null, .int 0, .null, .null, .null, .null, .int 0, .int 0]))] sz) := by
  revert sz
  refine KC.mk (by decide) rfl rfl (Nat.le_of_ble_eq_true rfl) ?_
  intro p e s m args below meth c ls A Q hx hb hml hown hts hin hK hT hA hP hD hS hl hret
  have hl : lv_has ls 1 [(0, .ref h0)] := hl
  refine lv_aload_n hx hb dX1_init_0 rfl (lv_at hl 0 rfl) ?_
  refine W.objInit hx hb hown (hts (.methodLink RX1 3 objectInit) (by decide +kernel)) (hts (.instanceMethod objectInit) (by decide +kernel)) (hts _ (List.mem_cons_of_mem _ (List.mem_of_getElem? (i := 2) rfl))) rfl (by rw [hml]; exact hl.1) rfl dX1_init_1 (Nat.le_of_ble_eq_true rfl) (Nat.le_of_ble_eq_true rfl) ?_
  refine W.eq (g2 := F0 m 4 ls []) rfl ?_
  refine lv_aload_n hx hb dX1_init_4 rfl (lv_at hl 0 rfl) ?_
  refine lv_iconst (v := 0) hx hb dX1_init_5 (by decide) ?_
  refine va_put (D := D) (ci := 1) (v := .int 0) (ty := .int) (C := RX1) (T := TX1) (N := 10) hx hb hts (by decide +kernel) tyX1 tyX1_ok nmX1 hown hK hP hD hS 0 rfl rfl 0 (by decide) (hts (.fieldLink RX1 9 "WoundMedals$Muster" "men" "I") (by decide +kernel)) (fun _ h9 => h9) rfl (by decide +kernel) rfl rfl (Nat.le_of_ble_eq_true rfl) dX1_init_6 (fun H locs hP hD hS => ?_)
  have hP : va_P D vwCl [(h0, .inr (1, [.int 0, .null, .null, .int 0, .null, .null, .null, .null, .int 0, .int 0]))] H := hP
  have hD : va_D A [(h0, .inr (1, [.int 0, .null, .null, .int 0, .null, .null, .null, .null, .int 0, .int 0]))] := hD
  refine lv_aload_n hx hb dX1_init_9 rfl (lv_at hl 0 rfl) ?_
  refine lv_iconst (v := 5) hx hb dX1_init_10 (by decide) ?_
  refine va_newa (atype := .int) (ty := .int) (a0 := (5, .inl (fun _ => 0))) hx hb (hts (.arrayClass .int) (by decide +kernel)) rfl hK hP hD hS hA (z_int 5) (nI_pos (n := 5) (by decide)) (n_cl (n := 5) (by decide)) (by show 5 * 4 ≤ 536870912; omega) (by show _ ≤ 6; omega) (by show _ ≤ 34; omega) dX1_init_11 (fun q1 cA2 H hK1 hP hD hS => ?_)
  obtain rfl := cA_0 hK hK1
  have hP : va_P D vwCl [(h0, .inr (1, [.int 0, .null, .null, .int 0, .null, .null, .null, .null, .int 0, .int 0])), (q1, .inl (g 0, 5, .inl (fun _ => 0)))] H := hP
  have hD : va_D A [(h0, .inr (1, [.int 0, .null, .null, .int 0, .null, .null, .null, .null, .int 0, .int 0])), (q1, .inl (g 0, 5, .inl (fun _ => 0)))] := hD
  refine va_putF (D := D) (ci := 1) (v := .ref q1) (ty := .array .int) (C := RX1) (T := TX1) (N := 10) hx hb hts (by decide +kernel) tyX1 tyX1_ok nmX1 hown hK hP hD hS 0 rfl rfl 1 (by decide) (hts (.fieldLink RX1 15 "WoundMedals$Muster" "build" "[I") (by decide +kernel)) (fun _ h9 => h9) rfl hin rfl (by decide +kernel) rfl rfl (Nat.le_of_ble_eq_true rfl) dX1_init_13 (fun H locs hP hD hS => ?_)
  have hP : va_P D vwCl [(h0, .inr (1, [.int 0, .ref q1, .null, .int 0, .null, .null, .null, .null, .int 0, .int 0])), (q1, .inl (g 0, 5, .inl (fun _ => 0)))] H := hP
  have hD : va_D A [(h0, .inr (1, [.int 0, .ref q1, .null, .int 0, .null, .null, .null, .null, .int 0, .int 0])), (q1, .inl (g 0, 5, .inl (fun _ => 0)))] := hD
  refine lv_aload_n hx hb dX1_init_16 rfl (lv_at hl 0 rfl) ?_
  refine lv_iconst (v := 5) hx hb dX1_init_17 (by decide) ?_
  refine va_newa (atype := .int) (ty := .int) (a0 := (5, .inl (fun _ => 0))) hx hb (hts (.arrayClass .int) (by decide +kernel)) rfl hK hP hD hS hA (z_int 5) (nI_pos (n := 5) (by decide)) (n_cl (n := 5) (by decide)) (by show 5 * 4 ≤ 536870912; omega) (by show _ ≤ 6; omega) (by show _ ≤ 34; omega) dX1_init_18 (fun q3 cA4 H hK1 hP hD hS => ?_)
  obtain rfl := cA_0 hK hK1
  have hP : va_P D vwCl [(h0, .inr (1, [.int 0, .ref q1, .null, .int 0, .null, .null, .null, .null, .int 0, .int 0])), (q1, .inl (g 0, 5, .inl (fun _ => 0))), (q3, .inl (g 0, 5, .inl (fun _ => 0)))] H := hP
  have hD : va_D A [(h0, .inr (1, [.int 0, .ref q1, .null, .int 0, .null, .null, .null, .null, .int 0, .int 0])), (q1, .inl (g 0, 5, .inl (fun _ => 0))), (q3, .inl (g 0, 5, .inl (fun _ => 0)))] := hD
  refine va_putF (D := D) (ci := 1) (v := .ref q3) (ty := .array .int) (C := RX1) (T := TX1) (N := 10) hx hb hts (by decide +kernel) tyX1 tyX1_ok nmX1 hown hK hP hD hS 0 rfl rfl 2 (by decide) (hts (.fieldLink RX1 19 "WoundMedals$Muster" "strength" "[I") (by decide +kernel)) (fun _ h9 => h9) rfl hin rfl (by decide +kernel) rfl rfl (Nat.le_of_ble_eq_true rfl) dX1_init_20 (fun H locs hP hD hS => ?_)
  have hP : va_P D vwCl [(h0, .inr (1, [.int 0, .ref q1, .ref q3, .int 0, .null, .null, .null, .null, .int 0, .int 0])), (q1, .inl (g 0, 5, .inl (fun _ => 0))), (q3, .inl (g 0, 5, .inl (fun _ => 0)))] H := hP
  have hD : va_D A [(h0, .inr (1, [.int 0, .ref q1, .ref q3, .int 0, .null, .null, .null, .null, .int 0, .int 0])), (q1, .inl (g 0, 5, .inl (fun _ => 0))), (q3, .inl (g 0, 5, .inl (fun _ => 0)))] := hD
  refine lv_aload_n hx hb dX1_init_23 rfl (lv_at hl 0 rfl) ?_
  refine lv_iconst (v := 0) hx hb dX1_init_24 (by decide) ?_
  refine va_put (D := D) (ci := 1) (v := .int 0) (ty := .int) (C := RX1) (T := TX1) (N := 10) hx hb hts (by decide +kernel) tyX1 tyX1_ok nmX1 hown hK hP hD hS 0 rfl rfl 3 (by decide) (hts (.fieldLink RX1 22 "WoundMedals$Muster" "medals" "I") (by decide +kernel)) (fun _ h9 => h9) rfl (by decide +kernel) rfl rfl (Nat.le_of_ble_eq_true rfl) dX1_init_25 (fun H locs hP hD hS => ?_)
  have hP : va_P D vwCl [(h0, .inr (1, [.int 0, .ref q1, .ref q3, .int 0, .null, .null, .null, .null, .int 0, .int 0])), (q1, .inl (g 0, 5, .inl (fun _ => 0))), (q3, .inl (g 0, 5, .inl (fun _ => 0)))] H := hP
  have hD : va_D A [(h0, .inr (1, [.int 0, .ref q1, .ref q3, .int 0, .null, .null, .null, .null, .int 0, .int 0])), (q1, .inl (g 0, 5, .inl (fun _ => 0))), (q3, .inl (g 0, 5, .inl (fun _ => 0)))] := hD
  refine lv_aload_n hx hb dX1_init_28 rfl (lv_at hl 0 rfl) ?_
  refine lv_bipush (v := 6) hx hb dX1_init_29 (by decide) ?_
  refine va_newa (atype := .int) (ty := .int) (a0 := (6, .inl (fun _ => 0))) hx hb (hts (.arrayClass .int) (by decide +kernel)) rfl hK hP hD hS hA (z_int 6) (nI_pos (n := 6) (by decide)) (n_cl (n := 6) (by decide)) (by show 6 * 4 ≤ 536870912; omega) (by show _ ≤ 6; omega) (by show _ ≤ 34; omega) dX1_init_31 (fun q5 cA6 H hK1 hP hD hS => ?_)
  obtain rfl := cA_0 hK hK1
  have hP : va_P D vwCl [(h0, .inr (1, [.int 0, .ref q1, .ref q3, .int 0, .null, .null, .null, .null, .int 0, .int 0])), (q1, .inl (g 0, 5, .inl (fun _ => 0))), (q3, .inl (g 0, 5, .inl (fun _ => 0))), (q5, .inl (g 0, 6, .inl (fun _ => 0)))] H := hP
  have hD : va_D A [(h0, .inr (1, [.int 0, .ref q1, .ref q3, .int 0, .null, .null, .null, .null, .int 0, .int 0])), (q1, .inl (g 0, 5, .inl (fun _ => 0))), (q3, .inl (g 0, 5, .inl (fun _ => 0))), (q5, .inl (g 0, 6, .inl (fun _ => 0)))] := hD
  refine va_putF (D := D) (ci := 1) (v := .ref q5) (ty := .array .int) (C := RX1) (T := TX1) (N := 10) hx hb hts (by decide +kernel) tyX1 tyX1_ok nmX1 hown hK hP hD hS 0 rfl rfl 4 (by decide) (hts (.fieldLink RX1 25 "WoundMedals$Muster" "kind" "[I") (by decide +kernel)) (fun _ h9 => h9) rfl hin rfl (by decide +kernel) rfl rfl (Nat.le_of_ble_eq_true rfl) dX1_init_33 (fun H locs hP hD hS => ?_)
  have hP : va_P D vwCl [(h0, .inr (1, [.int 0, .ref q1, .ref q3, .int 0, .ref q5, .null, .null, .null, .int 0, .int 0])), (q1, .inl (g 0, 5, .inl (fun _ => 0))), (q3, .inl (g 0, 5, .inl (fun _ => 0))), (q5, .inl (g 0, 6, .inl (fun _ => 0)))] H := hP
  have hD : va_D A [(h0, .inr (1, [.int 0, .ref q1, .ref q3, .int 0, .ref q5, .null, .null, .null, .int 0, .int 0])), (q1, .inl (g 0, 5, .inl (fun _ => 0))), (q3, .inl (g 0, 5, .inl (fun _ => 0))), (q5, .inl (g 0, 6, .inl (fun _ => 0)))] := hD
  refine lv_aload_n hx hb dX1_init_36 rfl (lv_at hl 0 rfl) ?_
  refine lv_bipush (v := 6) hx hb dX1_init_37 (by decide) ?_
  refine va_newa (atype := .int) (ty := .int) (a0 := (6, .inl (fun _ => 0))) hx hb (hts (.arrayClass .int) (by decide +kernel)) rfl hK hP hD hS hA (z_int 6) (nI_pos (n := 6) (by decide)) (n_cl (n := 6) (by decide)) (by show 6 * 4 ≤ 536870912; omega) (by show _ ≤ 6; omega) (by show _ ≤ 34; omega) dX1_init_39 (fun q7 cA8 H hK1 hP hD hS => ?_)
  obtain rfl := cA_0 hK hK1
  have hP : va_P D vwCl [(h0, .inr (1, [.int 0, .ref q1, .ref q3, .int 0, .ref q5, .null, .null, .null, .int 0, .int 0])), (q1, .inl (g 0, 5, .inl (fun _ => 0))), (q3, .inl (g 0, 5, .inl (fun _ => 0))), (q5, .inl (g 0, 6, .inl (fun _ => 0))), (q7, .inl (g 0, 6, .inl (fun _ => 0)))] H := hP
  have hD : va_D A [(h0, .inr (1, [.int 0, .ref q1, .ref q3, .int 0, .ref q5, .null, .null, .null, .int 0, .int 0])), (q1, .inl (g 0, 5, .inl (fun _ => 0))), (q3, .inl (g 0, 5, .inl (fun _ => 0))), (q5, .inl (g 0, 6, .inl (fun _ => 0))), (q7, .inl (g 0, 6, .inl (fun _ => 0)))] := hD
  refine va_putF (D := D) (ci := 1) (v := .ref q7) (ty := .array .int) (C := RX1) (T := TX1) (N := 10) hx hb hts (by decide +kernel) tyX1 tyX1_ok nmX1 hown hK hP hD hS 0 rfl rfl 5 (by decide) (hts (.fieldLink RX1 28 "WoundMedals$Muster" "weight" "[I") (by decide +kernel)) (fun _ h9 => h9) rfl hin rfl (by decide +kernel) rfl rfl (Nat.le_of_ble_eq_true rfl) dX1_init_41 (fun H locs hP hD hS => ?_)
  have hP : va_P D vwCl [(h0, .inr (1, [.int 0, .ref q1, .ref q3, .int 0, .ref q5, .ref q7, .null, .null, .int 0, .int 0])), (q1, .inl (g 0, 5, .inl (fun _ => 0))), (q3, .inl (g 0, 5, .inl (fun _ => 0))), (q5, .inl (g 0, 6, .inl (fun _ => 0))), (q7, .inl (g 0, 6, .inl (fun _ => 0)))] H := hP
  have hD : va_D A [(h0, .inr (1, [.int 0, .ref q1, .ref q3, .int 0, .ref q5, .ref q7, .null, .null, .int 0, .int 0])), (q1, .inl (g 0, 5, .inl (fun _ => 0))), (q3, .inl (g 0, 5, .inl (fun _ => 0))), (q5, .inl (g 0, 6, .inl (fun _ => 0))), (q7, .inl (g 0, 6, .inl (fun _ => 0)))] := hD
  refine lv_aload_n hx hb dX1_init_44 rfl (lv_at hl 0 rfl) ?_
  refine lv_bipush (v := 6) hx hb dX1_init_45 (by decide) ?_
  refine va_newa (atype := .int) (ty := .int) (a0 := (6, .inl (fun _ => 0))) hx hb (hts (.arrayClass .int) (by decide +kernel)) rfl hK hP hD hS hA (z_int 6) (nI_pos (n := 6) (by decide)) (n_cl (n := 6) (by decide)) (by show 6 * 4 ≤ 536870912; omega) (by show _ ≤ 6; omega) (by show _ ≤ 34; omega) dX1_init_47 (fun q9 cA10 H hK1 hP hD hS => ?_)
  obtain rfl := cA_0 hK hK1
  have hP : va_P D vwCl [(h0, .inr (1, [.int 0, .ref q1, .ref q3, .int 0, .ref q5, .ref q7, .null, .null, .int 0, .int 0])), (q1, .inl (g 0, 5, .inl (fun _ => 0))), (q3, .inl (g 0, 5, .inl (fun _ => 0))), (q5, .inl (g 0, 6, .inl (fun _ => 0))), (q7, .inl (g 0, 6, .inl (fun _ => 0))), (q9, .inl (g 0, 6, .inl (fun _ => 0)))] H := hP
  have hD : va_D A [(h0, .inr (1, [.int 0, .ref q1, .ref q3, .int 0, .ref q5, .ref q7, .null, .null, .int 0, .int 0])), (q1, .inl (g 0, 5, .inl (fun _ => 0))), (q3, .inl (g 0, 5, .inl (fun _ => 0))), (q5, .inl (g 0, 6, .inl (fun _ => 0))), (q7, .inl (g 0, 6, .inl (fun _ => 0))), (q9, .inl (g 0, 6, .inl (fun _ => 0)))] := hD
  refine va_putF (D := D) (ci := 1) (v := .ref q9) (ty := .array .int) (C := RX1) (T := TX1) (N := 10) hx hb hts (by decide +kernel) tyX1 tyX1_ok nmX1 hown hK hP hD hS 0 rfl rfl 6 (by decide) (hts (.fieldLink RX1 31 "WoundMedals$Muster" "wound" "[I") (by decide +kernel)) (fun _ h9 => h9) rfl hin rfl (by decide +kernel) rfl rfl (Nat.le_of_ble_eq_true rfl) dX1_init_49 (fun H locs hP hD hS => ?_)
  have hP : va_P D vwCl [(h0, .inr (1, [.int 0, .ref q1, .ref q3, .int 0, .ref q5, .ref q7, .ref q9, .null, .int 0, .int 0])), (q1, .inl (g 0, 5, .inl (fun _ => 0))), (q3, .inl (g 0, 5, .inl (fun _ => 0))), (q5, .inl (g 0, 6, .inl (fun _ => 0))), (q7, .inl (g 0, 6, .inl (fun _ => 0))), (q9, .inl (g 0, 6, .inl (fun _ => 0)))] H := hP
  have hD : va_D A [(h0, .inr (1, [.int 0, .ref q1, .ref q3, .int 0, .ref q5, .ref q7, .ref q9, .null, .int 0, .int 0])), (q1, .inl (g 0, 5, .inl (fun _ => 0))), (q3, .inl (g 0, 5, .inl (fun _ => 0))), (q5, .inl (g 0, 6, .inl (fun _ => 0))), (q7, .inl (g 0, 6, .inl (fun _ => 0))), (q9, .inl (g 0, 6, .inl (fun _ => 0)))] := hD
  refine lv_aload_n hx hb dX1_init_52 rfl (lv_at hl 0 rfl) ?_
  refine lv_bipush (v := 6) hx hb dX1_init_53 (by decide) ?_
  refine va_newa (atype := .int) (ty := .int) (a0 := (6, .inl (fun _ => 0))) hx hb (hts (.arrayClass .int) (by decide +kernel)) rfl hK hP hD hS hA (z_int 6) (nI_pos (n := 6) (by decide)) (n_cl (n := 6) (by decide)) (by show 6 * 4 ≤ 536870912; omega) (by show _ ≤ 6; omega) (by show _ ≤ 34; omega) dX1_init_55 (fun q11 cA12 H hK1 hP hD hS => ?_)
  obtain rfl := cA_0 hK hK1
  have hP : va_P D vwCl [(h0, .inr (1, [.int 0, .ref q1, .ref q3, .int 0, .ref q5, .ref q7, .ref q9, .null, .int 0, .int 0])), (q1, .inl (g 0, 5, .inl (fun _ => 0))), (q3, .inl (g 0, 5, .inl (fun _ => 0))), (q5, .inl (g 0, 6, .inl (fun _ => 0))), (q7, .inl (g 0, 6, .inl (fun _ => 0))), (q9, .inl (g 0, 6, .inl (fun _ => 0))), (q11, .inl (g 0, 6, .inl (fun _ => 0)))] H := hP
  have hD : va_D A [(h0, .inr (1, [.int 0, .ref q1, .ref q3, .int 0, .ref q5, .ref q7, .ref q9, .null, .int 0, .int 0])), (q1, .inl (g 0, 5, .inl (fun _ => 0))), (q3, .inl (g 0, 5, .inl (fun _ => 0))), (q5, .inl (g 0, 6, .inl (fun _ => 0))), (q7, .inl (g 0, 6, .inl (fun _ => 0))), (q9, .inl (g 0, 6, .inl (fun _ => 0))), (q11, .inl (g 0, 6, .inl (fun _ => 0)))] := hD
  refine va_putF (D := D) (ci := 1) (v := .ref q11) (ty := .array .int) (C := RX1) (T := TX1) (N := 10) hx hb hts (by decide +kernel) tyX1 tyX1_ok nmX1 hown hK hP hD hS 0 rfl rfl 7 (by decide) (hts (.fieldLink RX1 34 "WoundMedals$Muster" "wearer" "[I") (by decide +kernel)) (fun _ h9 => h9) rfl hin rfl (by decide +kernel) rfl rfl (Nat.le_of_ble_eq_true rfl) dX1_init_57 (fun H locs hP hD hS => ?_)
  have hP : va_P D vwCl [(h0, .inr (1, [.int 0, .ref q1, .ref q3, .int 0, .ref q5, .ref q7, .ref q9, .ref q11, .int 0, .int 0])), (q1, .inl (g 0, 5, .inl (fun _ => 0))), (q3, .inl (g 0, 5, .inl (fun _ => 0))), (q5, .inl (g 0, 6, .inl (fun _ => 0))), (q7, .inl (g 0, 6, .inl (fun _ => 0))), (q9, .inl (g 0, 6, .inl (fun _ => 0))), (q11, .inl (g 0, 6, .inl (fun _ => 0)))] H := hP
  have hD : va_D A [(h0, .inr (1, [.int 0, .ref q1, .ref q3, .int 0, .ref q5, .ref q7, .ref q9, .ref q11, .int 0, .int 0])), (q1, .inl (g 0, 5, .inl (fun _ => 0))), (q3, .inl (g 0, 5, .inl (fun _ => 0))), (q5, .inl (g 0, 6, .inl (fun _ => 0))), (q7, .inl (g 0, 6, .inl (fun _ => 0))), (q9, .inl (g 0, 6, .inl (fun _ => 0))), (q11, .inl (g 0, 6, .inl (fun _ => 0)))] := hD
  refine lv_aload_n hx hb dX1_init_60 rfl (lv_at hl 0 rfl) ?_
  refine lv_iconst (v := 0) hx hb dX1_init_61 (by decide) ?_
  refine va_put (D := D) (ci := 1) (v := .int 0) (ty := .int) (C := RX1) (T := TX1) (N := 10) hx hb hts (by decide +kernel) tyX1 tyX1_ok nmX1 hown hK hP hD hS 0 rfl rfl 8 (by decide) (hts (.fieldLink RX1 37 "WoundMedals$Muster" "day" "I") (by decide +kernel)) (fun _ h9 => h9) rfl (by decide +kernel) rfl rfl (Nat.le_of_ble_eq_true rfl) dX1_init_62 (fun H locs hP hD hS => ?_)
  have hP : va_P D vwCl [(h0, .inr (1, [.int 0, .ref q1, .ref q3, .int 0, .ref q5, .ref q7, .ref q9, .ref q11, .int 0, .int 0])), (q1, .inl (g 0, 5, .inl (fun _ => 0))), (q3, .inl (g 0, 5, .inl (fun _ => 0))), (q5, .inl (g 0, 6, .inl (fun _ => 0))), (q7, .inl (g 0, 6, .inl (fun _ => 0))), (q9, .inl (g 0, 6, .inl (fun _ => 0))), (q11, .inl (g 0, 6, .inl (fun _ => 0)))] H := hP
  have hD : va_D A [(h0, .inr (1, [.int 0, .ref q1, .ref q3, .int 0, .ref q5, .ref q7, .ref q9, .ref q11, .int 0, .int 0])), (q1, .inl (g 0, 5, .inl (fun _ => 0))), (q3, .inl (g 0, 5, .inl (fun _ => 0))), (q5, .inl (g 0, 6, .inl (fun _ => 0))), (q7, .inl (g 0, 6, .inl (fun _ => 0))), (q9, .inl (g 0, 6, .inl (fun _ => 0))), (q11, .inl (g 0, 6, .inl (fun _ => 0)))] := hD
  refine lv_aload_n hx hb dX1_init_65 rfl (lv_at hl 0 rfl) ?_
  refine lv_iconst (v := 1) hx hb dX1_init_66 (by decide) ?_
  refine va_put (D := D) (ci := 1) (v := .int 1) (ty := .int) (C := RX1) (T := TX1) (N := 10) hx hb hts (by decide +kernel) tyX1 tyX1_ok nmX1 hown hK hP hD hS 0 rfl rfl 9 (by decide) (hts (.fieldLink RX1 40 "WoundMedals$Muster" "draw" "I") (by decide +kernel)) (fun _ h9 => h9) rfl (by decide +kernel) rfl rfl (Nat.le_of_ble_eq_true rfl) dX1_init_67 (fun H locs hP hD hS => ?_)
  have hP : va_P D vwCl [(h0, .inr (1, [.int 0, .ref q1, .ref q3, .int 0, .ref q5, .ref q7, .ref q9, .ref q11, .int 0, .int 1])), (q1, .inl (g 0, 5, .inl (fun _ => 0))), (q3, .inl (g 0, 5, .inl (fun _ => 0))), (q5, .inl (g 0, 6, .inl (fun _ => 0))), (q7, .inl (g 0, 6, .inl (fun _ => 0))), (q9, .inl (g 0, 6, .inl (fun _ => 0))), (q11, .inl (g 0, 6, .inl (fun _ => 0)))] H := hP
  have hD : va_D A [(h0, .inr (1, [.int 0, .ref q1, .ref q3, .int 0, .ref q5, .ref q7, .ref q9, .ref q11, .int 0, .int 1])), (q1, .inl (g 0, 5, .inl (fun _ => 0))), (q3, .inl (g 0, 5, .inl (fun _ => 0))), (q5, .inl (g 0, 6, .inl (fun _ => 0))), (q7, .inl (g 0, 6, .inl (fun _ => 0))), (q9, .inl (g 0, 6, .inl (fun _ => 0))), (q11, .inl (g 0, 6, .inl (fun _ => 0)))] := hD
  exact hret (fun a => if a = 0 then (fun k => [h0, q1, q3, q5, q7, q9, q11].getD k 0) else (fun _ => 0)) _ _ _ _ dX1_init_70 hP hD hS
theorem dX2_init_0 : decode cX2_init 0 = .ok (.aload_n 0, 1) := by decide +kernel
theorem dX2_init_1 : decode cX2_init 1 = .ok (.invokespecial 5, 3) := by decide +kernel
theorem dX2_init_4 : decode cX2_init 4 = .ok (.aload_n 0, 1) := by decide +kernel
theorem dX2_init_5 : decode cX2_init 5 = .ok (.bipush 8, 2) := by decide +kernel
theorem dX2_init_7 : decode cX2_init 7 = .ok (.bipush 19, 2) := by decide +kernel
theorem dX2_init_9 : decode cX2_init 9 = .ok (.multianewarray 11 2, 4) := by decide +kernel
theorem dX2_init_13 : decode cX2_init 13 = .ok (.putfield 13, 3) := by decide +kernel
theorem dX2_init_16 : decode cX2_init 16 = .ok (.aload_n 0, 1) := by decide +kernel
theorem dX2_init_17 : decode cX2_init 17 = .ok (.iconst 0, 1) := by decide +kernel
theorem dX2_init_18 : decode cX2_init 18 = .ok (.putfield 16, 3) := by decide +kernel
theorem dX2_init_21 : decode cX2_init 21 = .ok (.aload_n 0, 1) := by decide +kernel
theorem dX2_init_22 : decode cX2_init 22 = .ok (.iconst 0, 1) := by decide +kernel
theorem dX2_init_23 : decode cX2_init 23 = .ok (.putfield 20, 3) := by decide +kernel
theorem dX2_init_26 : decode cX2_init 26 = .ok (.return_, 1) := by decide +kernel
set_option maxHeartbeats 1000000 in
set_option maxRecDepth 100000 in
theorem kX2_init {l : Launch} {D : va_G} {g : Nat → ClassId} (h0 : Nat) (sz : Nat) : Met l yX2_init wsX2_init ({ frames := 1, cells := 9, slots := 160, locals := 100 }) (va_Pc [.ref h0] (pC D g [(h0, .inr (2, [.null, .int 0, .int 0]))] sz)) (qC D (va_A [(h0, .inr (2, [.null, .int 0, .int 0]))] sz) (fun u => [(h0, .inr (2, [.ref (u 0 1), .int 0, .int 0])), ((u 0 1), .inl (g 3, 8, .inr (.inr (.inr (.inr (fun i => if i < 8 then some (u 1 i) else none)))))), ((u 1 0), .inl (g 0, 19, .inl (fun _ => 0))), ((u 1 1), .inl (g 0, 19, .inl (fun _ => 0))), ((u 1 2), .inl (g 0, 19, .inl (fun _ => 0))), ((u 1 3), .inl (g 0, 19, .inl (fun _ => 0))), ((u 1 4), .inl (g 0, 19, .inl (fun _ => 0))), ((u 1 5), .inl (g 0, 19, .inl (fun _ => 0))), ((u 1 6), .inl (g 0, 19, .inl (fun _ => 0))), ((u 1 7), .inl (g 0, 19, .inl (fun _ => 0)))])) 9 160 (va_A [(h0, .inr (2, [.null, .int 0, .int 0]))] sz) := by
  revert sz
  refine KC.mk (by decide) rfl rfl (Nat.le_of_ble_eq_true rfl) ?_
  intro p e s m args below meth c ls A Q hx hb hml hown hts hin hK hT hA hP hD hS hl hret
  have hl : lv_has ls 1 [(0, .ref h0)] := hl
  refine lv_aload_n hx hb dX2_init_0 rfl (lv_at hl 0 rfl) ?_
  refine W.objInit hx hb hown (hts (.methodLink RX2 5 objectInit) (by decide +kernel)) (hts (.instanceMethod objectInit) (by decide +kernel)) (hts _ (List.mem_cons_of_mem _ (List.mem_of_getElem? (i := 2) rfl))) rfl (by rw [hml]; exact hl.1) rfl dX2_init_1 (Nat.le_of_ble_eq_true rfl) (Nat.le_of_ble_eq_true rfl) ?_
  refine W.eq (g2 := F0 m 4 ls []) rfl ?_
  refine lv_aload_n hx hb dX2_init_4 rfl (lv_at hl 0 rfl) ?_
  refine lv_bipush (v := 8) hx hb dX2_init_5 (by decide) ?_
  refine lv_bipush (v := 19) hx hb dX2_init_7 (by decide) ?_
  refine va_mna (ty := .int) (cy := g 0) (X := [(h0, .inr (2, [.null, .int 0, .int 0]))]) (L := []) (f := fun _ => .inr (0, [])) (z := (19, .inl (fun _ => 0))) hx hb hown (hts (.classLink RX2 11 "[[I") (by decide +kernel)) hT.2.1 (hts (.arrayClass .int) (by decide +kernel)) (hK.2 0 _ rfl).2 hK (by rw [show va_pl [] _ = [] from rfl, List.append_nil]; exact hP) (by rw [show va_pl [] _ = [] from rfl, List.append_nil]; exact hD) hS hA (nI_pos (n := 8) (by decide)) (nI_pos (n := 19) (by decide)) (n_cl (n := 8) (by decide)) (n_cl (n := 19) (by decide)) (by omega) (by show _ * 4 ≤ 536870912; omega) (by omega) rfl rfl (by show _ ≤ 9; omega) (by show _ ≤ 160; omega) (z_int 19) dX2_init_9 (fun q1 r2 cA3 H hinj hnl hK1 hP hD hS => ?_)
  obtain rfl := cA_3 hK hK1
  rw [← vr_rows (L := []) (fun _ _ h => absurd h List.not_mem_nil)] at hP hD
  have hP : va_P D vwCl [(h0, .inr (2, [.null, .int 0, .int 0])), (q1, .inl (g 3, 8, .inr (.inr (.inr (.inr (fun i => if i < 8 then some (r2 i) else none)))))), ((r2 0), .inl (g 0, 19, .inl (fun _ => 0))), ((r2 1), .inl (g 0, 19, .inl (fun _ => 0))), ((r2 2), .inl (g 0, 19, .inl (fun _ => 0))), ((r2 3), .inl (g 0, 19, .inl (fun _ => 0))), ((r2 4), .inl (g 0, 19, .inl (fun _ => 0))), ((r2 5), .inl (g 0, 19, .inl (fun _ => 0))), ((r2 6), .inl (g 0, 19, .inl (fun _ => 0))), ((r2 7), .inl (g 0, 19, .inl (fun _ => 0)))] H := hP
  have hD : va_D A [(h0, .inr (2, [.null, .int 0, .int 0])), (q1, .inl (g 3, 8, .inr (.inr (.inr (.inr (fun i => if i < 8 then some (r2 i) else none)))))), ((r2 0), .inl (g 0, 19, .inl (fun _ => 0))), ((r2 1), .inl (g 0, 19, .inl (fun _ => 0))), ((r2 2), .inl (g 0, 19, .inl (fun _ => 0))), ((r2 3), .inl (g 0, 19, .inl (fun _ => 0))), ((r2 4), .inl (g 0, 19, .inl (fun _ => 0))), ((r2 5), .inl (g 0, 19, .inl (fun _ => 0))), ((r2 6), .inl (g 0, 19, .inl (fun _ => 0))), ((r2 7), .inl (g 0, 19, .inl (fun _ => 0)))] := hD
  refine va_putF (D := D) (ci := 2) (v := .ref q1) (ty := .array (.array .int)) (C := RX2) (T := TX2) (N := 3) hx hb hts (by decide +kernel) tyX2 tyX2_ok nmX2 hown hK hP hD hS 0 rfl rfl 0 (by decide) (hts (.fieldLink RX2 13 "WoundMedals$Past" "kept" "[[I") (by decide +kernel)) (fun _ h9 => h9) rfl hin rfl (by decide +kernel) rfl rfl (Nat.le_of_ble_eq_true rfl) dX2_init_13 (fun H locs hP hD hS => ?_)
  have hP : va_P D vwCl [(h0, .inr (2, [.ref q1, .int 0, .int 0])), (q1, .inl (g 3, 8, .inr (.inr (.inr (.inr (fun i => if i < 8 then some (r2 i) else none)))))), ((r2 0), .inl (g 0, 19, .inl (fun _ => 0))), ((r2 1), .inl (g 0, 19, .inl (fun _ => 0))), ((r2 2), .inl (g 0, 19, .inl (fun _ => 0))), ((r2 3), .inl (g 0, 19, .inl (fun _ => 0))), ((r2 4), .inl (g 0, 19, .inl (fun _ => 0))), ((r2 5), .inl (g 0, 19, .inl (fun _ => 0))), ((r2 6), .inl (g 0, 19, .inl (fun _ => 0))), ((r2 7), .inl (g 0, 19, .inl (fun _ => 0)))] H := hP
  have hD : va_D A [(h0, .inr (2, [.ref q1, .int 0, .int 0])), (q1, .inl (g 3, 8, .inr (.inr (.inr (.inr (fun i => if i < 8 then some (r2 i) else none)))))), ((r2 0), .inl (g 0, 19, .inl (fun _ => 0))), ((r2 1), .inl (g 0, 19, .inl (fun _ => 0))), ((r2 2), .inl (g 0, 19, .inl (fun _ => 0))), ((r2 3), .inl (g 0, 19, .inl (fun _ => 0))), ((r2 4), .inl (g 0, 19, .inl (fun _ => 0))), ((r2 5), .inl (g 0, 19, .inl (fun _ => 0))), ((r2 6), .inl (g 0, 19, .inl (fun _ => 0))), ((r2 7), .inl (g 0, 19, .inl (fun _ => 0)))] := hD
  refine lv_aload_n hx hb dX2_init_16 rfl (lv_at hl 0 rfl) ?_
  refine lv_iconst (v := 0) hx hb dX2_init_17 (by decide) ?_
  refine va_put (D := D) (ci := 2) (v := .int 0) (ty := .int) (C := RX2) (T := TX2) (N := 3) hx hb hts (by decide +kernel) tyX2 tyX2_ok nmX2 hown hK hP hD hS 0 rfl rfl 1 (by decide) (hts (.fieldLink RX2 16 "WoundMedals$Past" "known" "I") (by decide +kernel)) (fun _ h9 => h9) rfl (by decide +kernel) rfl rfl (Nat.le_of_ble_eq_true rfl) dX2_init_18 (fun H locs hP hD hS => ?_)
  have hP : va_P D vwCl [(h0, .inr (2, [.ref q1, .int 0, .int 0])), (q1, .inl (g 3, 8, .inr (.inr (.inr (.inr (fun i => if i < 8 then some (r2 i) else none)))))), ((r2 0), .inl (g 0, 19, .inl (fun _ => 0))), ((r2 1), .inl (g 0, 19, .inl (fun _ => 0))), ((r2 2), .inl (g 0, 19, .inl (fun _ => 0))), ((r2 3), .inl (g 0, 19, .inl (fun _ => 0))), ((r2 4), .inl (g 0, 19, .inl (fun _ => 0))), ((r2 5), .inl (g 0, 19, .inl (fun _ => 0))), ((r2 6), .inl (g 0, 19, .inl (fun _ => 0))), ((r2 7), .inl (g 0, 19, .inl (fun _ => 0)))] H := hP
  have hD : va_D A [(h0, .inr (2, [.ref q1, .int 0, .int 0])), (q1, .inl (g 3, 8, .inr (.inr (.inr (.inr (fun i => if i < 8 then some (r2 i) else none)))))), ((r2 0), .inl (g 0, 19, .inl (fun _ => 0))), ((r2 1), .inl (g 0, 19, .inl (fun _ => 0))), ((r2 2), .inl (g 0, 19, .inl (fun _ => 0))), ((r2 3), .inl (g 0, 19, .inl (fun _ => 0))), ((r2 4), .inl (g 0, 19, .inl (fun _ => 0))), ((r2 5), .inl (g 0, 19, .inl (fun _ => 0))), ((r2 6), .inl (g 0, 19, .inl (fun _ => 0))), ((r2 7), .inl (g 0, 19, .inl (fun _ => 0)))] := hD
  refine lv_aload_n hx hb dX2_init_21 rfl (lv_at hl 0 rfl) ?_
  refine lv_iconst (v := 0) hx hb dX2_init_22 (by decide) ?_
  refine va_put (D := D) (ci := 2) (v := .int 0) (ty := .int) (C := RX2) (T := TX2) (N := 3) hx hb hts (by decide +kernel) tyX2 tyX2_ok nmX2 hown hK hP hD hS 0 rfl rfl 2 (by decide) (hts (.fieldLink RX2 20 "WoundMedals$Past" "next" "I") (by decide +kernel)) (fun _ h9 => h9) rfl (by decide +kernel) rfl rfl (Nat.le_of_ble_eq_true rfl) dX2_init_23 (fun H locs hP hD hS => ?_)
  have hP : va_P D vwCl [(h0, .inr (2, [.ref q1, .int 0, .int 0])), (q1, .inl (g 3, 8, .inr (.inr (.inr (.inr (fun i => if i < 8 then some (r2 i) else none)))))), ((r2 0), .inl (g 0, 19, .inl (fun _ => 0))), ((r2 1), .inl (g 0, 19, .inl (fun _ => 0))), ((r2 2), .inl (g 0, 19, .inl (fun _ => 0))), ((r2 3), .inl (g 0, 19, .inl (fun _ => 0))), ((r2 4), .inl (g 0, 19, .inl (fun _ => 0))), ((r2 5), .inl (g 0, 19, .inl (fun _ => 0))), ((r2 6), .inl (g 0, 19, .inl (fun _ => 0))), ((r2 7), .inl (g 0, 19, .inl (fun _ => 0)))] H := hP
  have hD : va_D A [(h0, .inr (2, [.ref q1, .int 0, .int 0])), (q1, .inl (g 3, 8, .inr (.inr (.inr (.inr (fun i => if i < 8 then some (r2 i) else none)))))), ((r2 0), .inl (g 0, 19, .inl (fun _ => 0))), ((r2 1), .inl (g 0, 19, .inl (fun _ => 0))), ((r2 2), .inl (g 0, 19, .inl (fun _ => 0))), ((r2 3), .inl (g 0, 19, .inl (fun _ => 0))), ((r2 4), .inl (g 0, 19, .inl (fun _ => 0))), ((r2 5), .inl (g 0, 19, .inl (fun _ => 0))), ((r2 6), .inl (g 0, 19, .inl (fun _ => 0))), ((r2 7), .inl (g 0, 19, .inl (fun _ => 0)))] := hD
  exact hret (fun a => if a = 0 then (fun k => [h0, q1].getD k 0) else if a = 1 then (r2) else (fun _ => 0)) _ _ _ _ dX2_init_26 hP hD hS
theorem dX3_init_0 : decode cX3_init 0 = .ok (.aload_n 0, 1) := by decide +kernel
theorem dX3_init_1 : decode cX3_init 1 = .ok (.invokespecial 3, 3) := by decide +kernel
theorem dX3_init_4 : decode cX3_init 4 = .ok (.aload_n 0, 1) := by decide +kernel
theorem dX3_init_5 : decode cX3_init 5 = .ok (.iconst 0, 1) := by decide +kernel
theorem dX3_init_6 : decode cX3_init 6 = .ok (.putfield 9, 3) := by decide +kernel
theorem dX3_init_9 : decode cX3_init 9 = .ok (.aload_n 0, 1) := by decide +kernel
theorem dX3_init_10 : decode cX3_init 10 = .ok (.iconst 0, 1) := by decide +kernel
theorem dX3_init_11 : decode cX3_init 11 = .ok (.putfield 15, 3) := by decide +kernel
theorem dX3_init_14 : decode cX3_init 14 = .ok (.aload_n 0, 1) := by decide +kernel
theorem dX3_init_15 : decode cX3_init 15 = .ok (.iconst 0, 1) := by decide +kernel
theorem dX3_init_16 : decode cX3_init 16 = .ok (.putfield 19, 3) := by decide +kernel
theorem dX3_init_19 : decode cX3_init 19 = .ok (.aload_n 0, 1) := by decide +kernel
theorem dX3_init_20 : decode cX3_init 20 = .ok (.bipush 24, 2) := by decide +kernel
theorem dX3_init_22 : decode cX3_init 22 = .ok (.newarray .long, 2) := by decide +kernel
theorem dX3_init_24 : decode cX3_init 24 = .ok (.putfield 22, 3) := by decide +kernel
theorem dX3_init_27 : decode cX3_init 27 = .ok (.return_, 1) := by decide +kernel
set_option maxHeartbeats 1000000 in
set_option maxRecDepth 100000 in
theorem kX3_init {l : Launch} {D : va_G} {g : Nat → ClassId} (h0 : Nat) (sz : Nat) : Met l yX3_init wsX3_init ({ frames := 1, cells := 1, slots := 24, locals := 100 }) (va_Pc [.ref h0] (pC D g [(h0, .inr (3, [.int 0, .int 0, .int 0, .null]))] sz)) (qC D (va_A [(h0, .inr (3, [.int 0, .int 0, .int 0, .null]))] sz) (fun u => [(h0, .inr (3, [.int 0, .int 0, .int 0, .ref (u 0 1)])), ((u 0 1), .inl (g 1, 24, .inr (.inl (fun _ => 0))))])) 1 24 (va_A [(h0, .inr (3, [.int 0, .int 0, .int 0, .null]))] sz) := by
  revert sz
  refine KC.mk (by decide) rfl rfl (Nat.le_of_ble_eq_true rfl) ?_
  intro p e s m args below meth c ls A Q hx hb hml hown hts hin hK hT hA hP hD hS hl hret
  have hl : lv_has ls 1 [(0, .ref h0)] := hl
  refine lv_aload_n hx hb dX3_init_0 rfl (lv_at hl 0 rfl) ?_
  refine W.objInit hx hb hown (hts (.methodLink RX3 3 objectInit) (by decide +kernel)) (hts (.instanceMethod objectInit) (by decide +kernel)) (hts _ (List.mem_cons_of_mem _ (List.mem_of_getElem? (i := 2) rfl))) rfl (by rw [hml]; exact hl.1) rfl dX3_init_1 (Nat.le_of_ble_eq_true rfl) (Nat.le_of_ble_eq_true rfl) ?_
  refine W.eq (g2 := F0 m 4 ls []) rfl ?_
  refine lv_aload_n hx hb dX3_init_4 rfl (lv_at hl 0 rfl) ?_
  refine lv_iconst (v := 0) hx hb dX3_init_5 (by decide) ?_
  refine va_put (D := D) (ci := 3) (v := .int 0) (ty := .boolean) (C := RX3) (T := TX3) (N := 4) hx hb hts (by decide +kernel) tyX3 tyX3_ok nmX3 hown hK hP hD hS 0 rfl rfl 0 (by decide) (hts (.fieldLink RX3 9 "WoundMedals$Row" "isThere" "Z") (by decide +kernel)) (fun _ h9 => h9) rfl (by decide +kernel) rfl rfl (Nat.le_of_ble_eq_true rfl) dX3_init_6 (fun H locs hP hD hS => ?_)
  have hP : va_P D vwCl [(h0, .inr (3, [.int 0, .int 0, .int 0, .null]))] H := hP
  have hD : va_D A [(h0, .inr (3, [.int 0, .int 0, .int 0, .null]))] := hD
  refine lv_aload_n hx hb dX3_init_9 rfl (lv_at hl 0 rfl) ?_
  refine lv_iconst (v := 0) hx hb dX3_init_10 (by decide) ?_
  refine va_put (D := D) (ci := 3) (v := .int 0) (ty := .int) (C := RX3) (T := TX3) (N := 4) hx hb hts (by decide +kernel) tyX3 tyX3_ok nmX3 hown hK hP hD hS 0 rfl rfl 1 (by decide) (hts (.fieldLink RX3 15 "WoundMedals$Row" "lane" "I") (by decide +kernel)) (fun _ h9 => h9) rfl (by decide +kernel) rfl rfl (Nat.le_of_ble_eq_true rfl) dX3_init_11 (fun H locs hP hD hS => ?_)
  have hP : va_P D vwCl [(h0, .inr (3, [.int 0, .int 0, .int 0, .null]))] H := hP
  have hD : va_D A [(h0, .inr (3, [.int 0, .int 0, .int 0, .null]))] := hD
  refine lv_aload_n hx hb dX3_init_14 rfl (lv_at hl 0 rfl) ?_
  refine lv_iconst (v := 0) hx hb dX3_init_15 (by decide) ?_
  refine va_put (D := D) (ci := 3) (v := .int 0) (ty := .int) (C := RX3) (T := TX3) (N := 4) hx hb hts (by decide +kernel) tyX3 tyX3_ok nmX3 hown hK hP hD hS 0 rfl rfl 2 (by decide) (hts (.fieldLink RX3 19 "WoundMedals$Row" "length" "I") (by decide +kernel)) (fun _ h9 => h9) rfl (by decide +kernel) rfl rfl (Nat.le_of_ble_eq_true rfl) dX3_init_16 (fun H locs hP hD hS => ?_)
  have hP : va_P D vwCl [(h0, .inr (3, [.int 0, .int 0, .int 0, .null]))] H := hP
  have hD : va_D A [(h0, .inr (3, [.int 0, .int 0, .int 0, .null]))] := hD
  refine lv_aload_n hx hb dX3_init_19 rfl (lv_at hl 0 rfl) ?_
  refine lv_bipush (v := 24) hx hb dX3_init_20 (by decide) ?_
  refine va_newa (atype := .long) (ty := .long) (a0 := (24, .inr (.inl (fun _ => 0)))) hx hb (hts (.arrayClass .long) (by decide +kernel)) rfl hK hP hD hS hA (z_long 24) (nI_pos (n := 24) (by decide)) (n_cl (n := 24) (by decide)) (by show 24 * 8 ≤ 536870912; omega) (by show _ ≤ 1; omega) (by show _ ≤ 24; omega) dX3_init_22 (fun q1 cA2 H hK1 hP hD hS => ?_)
  obtain rfl := cA_1 hK hK1
  have hP : va_P D vwCl [(h0, .inr (3, [.int 0, .int 0, .int 0, .null])), (q1, .inl (g 1, 24, .inr (.inl (fun _ => 0))))] H := hP
  have hD : va_D A [(h0, .inr (3, [.int 0, .int 0, .int 0, .null])), (q1, .inl (g 1, 24, .inr (.inl (fun _ => 0))))] := hD
  refine va_putF (D := D) (ci := 3) (v := .ref q1) (ty := .array .long) (C := RX3) (T := TX3) (N := 4) hx hb hts (by decide +kernel) tyX3 tyX3_ok nmX3 hown hK hP hD hS 0 rfl rfl 3 (by decide) (hts (.fieldLink RX3 22 "WoundMedals$Row" "items" "[J") (by decide +kernel)) (fun _ h9 => h9) rfl hin rfl (by decide +kernel) rfl rfl (Nat.le_of_ble_eq_true rfl) dX3_init_24 (fun H locs hP hD hS => ?_)
  have hP : va_P D vwCl [(h0, .inr (3, [.int 0, .int 0, .int 0, .ref q1])), (q1, .inl (g 1, 24, .inr (.inl (fun _ => 0))))] H := hP
  have hD : va_D A [(h0, .inr (3, [.int 0, .int 0, .int 0, .ref q1])), (q1, .inl (g 1, 24, .inr (.inl (fun _ => 0))))] := hD
  exact hret (fun a => if a = 0 then (fun k => [h0, q1].getD k 0) else (fun _ => 0)) _ _ _ _ dX3_init_27 hP hD hS
theorem dX4_init_0 : decode cX4_init 0 = .ok (.aload_n 0, 1) := by decide +kernel
theorem dX4_init_1 : decode cX4_init 1 = .ok (.invokespecial 3, 3) := by decide +kernel
theorem dX4_init_4 : decode cX4_init 4 = .ok (.aload_n 0, 1) := by decide +kernel
theorem dX4_init_5 : decode cX4_init 5 = .ok (.bipush 90, 2) := by decide +kernel
theorem dX4_init_7 : decode cX4_init 7 = .ok (.newarray .char, 2) := by decide +kernel
theorem dX4_init_9 : decode cX4_init 9 = .ok (.putfield 9, 3) := by decide +kernel
theorem dX4_init_12 : decode cX4_init 12 = .ok (.aload_n 0, 1) := by decide +kernel
theorem dX4_init_13 : decode cX4_init 13 = .ok (.iconst 0, 1) := by decide +kernel
theorem dX4_init_14 : decode cX4_init 14 = .ok (.putfield 15, 3) := by decide +kernel
theorem dX4_init_17 : decode cX4_init 17 = .ok (.aload_n 0, 1) := by decide +kernel
theorem dX4_init_18 : decode cX4_init 18 = .ok (.iconst 0, 1) := by decide +kernel
theorem dX4_init_19 : decode cX4_init 19 = .ok (.putfield 19, 3) := by decide +kernel
theorem dX4_init_22 : decode cX4_init 22 = .ok (.return_, 1) := by decide +kernel
set_option maxHeartbeats 1000000 in
set_option maxRecDepth 100000 in
theorem kX4_init {l : Launch} {D : va_G} {g : Nat → ClassId} (h0 : Nat) (sz : Nat) : Met l yX4_init wsX4_init ({ frames := 1, cells := 1, slots := 90, locals := 100 }) (va_Pc [.ref h0] (pC D g [(h0, .inr (4, [.null, .int 0, .int 0]))] sz)) (qC D (va_A [(h0, .inr (4, [.null, .int 0, .int 0]))] sz) (fun u => [(h0, .inr (4, [.ref (u 0 1), .int 0, .int 0])), ((u 0 1), .inl (g 2, 90, .inl (fun _ => 0)))])) 1 90 (va_A [(h0, .inr (4, [.null, .int 0, .int 0]))] sz) := by
  revert sz
  refine KC.mk (by decide) rfl rfl (Nat.le_of_ble_eq_true rfl) ?_
  intro p e s m args below meth c ls A Q hx hb hml hown hts hin hK hT hA hP hD hS hl hret
  have hl : lv_has ls 1 [(0, .ref h0)] := hl
  refine lv_aload_n hx hb dX4_init_0 rfl (lv_at hl 0 rfl) ?_
  refine W.objInit hx hb hown (hts (.methodLink RX4 3 objectInit) (by decide +kernel)) (hts (.instanceMethod objectInit) (by decide +kernel)) (hts _ (List.mem_cons_of_mem _ (List.mem_of_getElem? (i := 2) rfl))) rfl (by rw [hml]; exact hl.1) rfl dX4_init_1 (Nat.le_of_ble_eq_true rfl) (Nat.le_of_ble_eq_true rfl) ?_
  refine W.eq (g2 := F0 m 4 ls []) rfl ?_
  refine lv_aload_n hx hb dX4_init_4 rfl (lv_at hl 0 rfl) ?_
  refine lv_bipush (v := 90) hx hb dX4_init_5 (by decide) ?_
  refine va_newa (atype := .char) (ty := .char) (a0 := (90, .inl (fun _ => 0))) hx hb (hts (.arrayClass .char) (by decide +kernel)) rfl hK hP hD hS hA (z_char 90) (nI_pos (n := 90) (by decide)) (n_cl (n := 90) (by decide)) (by show 90 * 2 ≤ 536870912; omega) (by show _ ≤ 1; omega) (by show _ ≤ 90; omega) dX4_init_7 (fun q1 cA2 H hK1 hP hD hS => ?_)
  obtain rfl := cA_2 hK hK1
  have hP : va_P D vwCl [(h0, .inr (4, [.null, .int 0, .int 0])), (q1, .inl (g 2, 90, .inl (fun _ => 0)))] H := hP
  have hD : va_D A [(h0, .inr (4, [.null, .int 0, .int 0])), (q1, .inl (g 2, 90, .inl (fun _ => 0)))] := hD
  refine va_putF (D := D) (ci := 4) (v := .ref q1) (ty := .array .char) (C := RX4) (T := TX4) (N := 3) hx hb hts (by decide +kernel) tyX4 tyX4_ok nmX4 hown hK hP hD hS 0 rfl rfl 0 (by decide) (hts (.fieldLink RX4 9 "WoundMedals$Tape" "letters" "[C") (by decide +kernel)) (fun _ h9 => h9) rfl hin rfl (by decide +kernel) rfl rfl (Nat.le_of_ble_eq_true rfl) dX4_init_9 (fun H locs hP hD hS => ?_)
  have hP : va_P D vwCl [(h0, .inr (4, [.ref q1, .int 0, .int 0])), (q1, .inl (g 2, 90, .inl (fun _ => 0)))] H := hP
  have hD : va_D A [(h0, .inr (4, [.ref q1, .int 0, .int 0])), (q1, .inl (g 2, 90, .inl (fun _ => 0)))] := hD
  refine lv_aload_n hx hb dX4_init_12 rfl (lv_at hl 0 rfl) ?_
  refine lv_iconst (v := 0) hx hb dX4_init_13 (by decide) ?_
  refine va_put (D := D) (ci := 4) (v := .int 0) (ty := .int) (C := RX4) (T := TX4) (N := 3) hx hb hts (by decide +kernel) tyX4 tyX4_ok nmX4 hown hK hP hD hS 0 rfl rfl 1 (by decide) (hts (.fieldLink RX4 15 "WoundMedals$Tape" "length" "I") (by decide +kernel)) (fun _ h9 => h9) rfl (by decide +kernel) rfl rfl (Nat.le_of_ble_eq_true rfl) dX4_init_14 (fun H locs hP hD hS => ?_)
  have hP : va_P D vwCl [(h0, .inr (4, [.ref q1, .int 0, .int 0])), (q1, .inl (g 2, 90, .inl (fun _ => 0)))] H := hP
  have hD : va_D A [(h0, .inr (4, [.ref q1, .int 0, .int 0])), (q1, .inl (g 2, 90, .inl (fun _ => 0)))] := hD
  refine lv_aload_n hx hb dX4_init_17 rfl (lv_at hl 0 rfl) ?_
  refine lv_iconst (v := 0) hx hb dX4_init_18 (by decide) ?_
  refine va_put (D := D) (ci := 4) (v := .int 0) (ty := .int) (C := RX4) (T := TX4) (N := 3) hx hb hts (by decide +kernel) tyX4 tyX4_ok nmX4 hown hK hP hD hS 0 rfl rfl 2 (by decide) (hts (.fieldLink RX4 19 "WoundMedals$Tape" "place" "I") (by decide +kernel)) (fun _ h9 => h9) rfl (by decide +kernel) rfl rfl (Nat.le_of_ble_eq_true rfl) dX4_init_19 (fun H locs hP hD hS => ?_)
  have hP : va_P D vwCl [(h0, .inr (4, [.ref q1, .int 0, .int 0])), (q1, .inl (g 2, 90, .inl (fun _ => 0)))] H := hP
  have hD : va_D A [(h0, .inr (4, [.ref q1, .int 0, .int 0])), (q1, .inl (g 2, 90, .inl (fun _ => 0)))] := hD
  exact hret (fun a => if a = 0 then (fun k => [h0, q1].getD k 0) else (fun _ => 0)) _ _ _ _ dX4_init_22 hP hD hS
