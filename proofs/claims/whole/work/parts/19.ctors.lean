theorem dX1_init_0 : decode cX1_init 0 = .ok (.aload_n 0, 1) := by decide +kernel
theorem dX1_init_1 : decode cX1_init 1 = .ok (.invokespecial 3, 3) := by decide +kernel
theorem dX1_init_4 : decode cX1_init 4 = .ok (.aload_n 0, 1) := by decide +kernel
theorem dX1_init_5 : decode cX1_init 5 = .ok (.iconst 0, 1) := by decide +kernel
theorem dX1_init_6 : decode cX1_init 6 = .ok (.putfield 9, 3) := by decide +kernel
theorem dX1_init_9 : decode cX1_init 9 = .ok (.aload_n 0, 1) := by decide +kernel
theorem dX1_init_10 : decode cX1_init 10 = .ok (.iconst 5, 1) := by decide +kernel
theorem dX1_init_11 : decode cX1_init 11 = .ok (.newarray .int, 2) := by decide +kernel
theorem dX1_init_13 : decode cX1_init 13 = .ok (.putfield 15, 3) := by decide +kernel
theorem dX1_init_16 : decode cX1_init 16 = .ok (.aload_n 0, 1) := by decide +kernel
theorem dX1_init_17 : decode cX1_init 17 = .ok (.iconst 5, 1) := by decide +kernel
theorem dX1_init_18 : decode cX1_init 18 = .ok (.newarray .int, 2) := by decide +kernel
theorem dX1_init_20 : decode cX1_init 20 = .ok (.putfield 19, 3) := by decide +kernel
theorem dX1_init_23 : decode cX1_init 23 = .ok (.aload_n 0, 1) := by decide +kernel
theorem dX1_init_24 : decode cX1_init 24 = .ok (.iconst 0, 1) := by decide +kernel
theorem dX1_init_25 : decode cX1_init 25 = .ok (.putfield 22, 3) := by decide +kernel
theorem dX1_init_28 : decode cX1_init 28 = .ok (.aload_n 0, 1) := by decide +kernel
theorem dX1_init_29 : decode cX1_init 29 = .ok (.bipush 6, 2) := by decide +kernel
theorem dX1_init_31 : decode cX1_init 31 = .ok (.newarray .int, 2) := by decide +kernel
theorem dX1_init_33 : decode cX1_init 33 = .ok (.putfield 25, 3) := by decide +kernel
theorem dX1_init_36 : decode cX1_init 36 = .ok (.aload_n 0, 1) := by decide +kernel
theorem dX1_init_37 : decode cX1_init 37 = .ok (.bipush 6, 2) := by decide +kernel
theorem dX1_init_39 : decode cX1_init 39 = .ok (.newarray .int, 2) := by decide +kernel
theorem dX1_init_41 : decode cX1_init 41 = .ok (.putfield 28, 3) := by decide +kernel
theorem dX1_init_44 : decode cX1_init 44 = .ok (.aload_n 0, 1) := by decide +kernel
theorem dX1_init_45 : decode cX1_init 45 = .ok (.bipush 6, 2) := by decide +kernel
theorem dX1_init_47 : decode cX1_init 47 = .ok (.newarray .int, 2) := by decide +kernel
theorem dX1_init_49 : decode cX1_init 49 = .ok (.putfield 31, 3) := by decide +kernel
theorem dX1_init_52 : decode cX1_init 52 = .ok (.aload_n 0, 1) := by decide +kernel
theorem dX1_init_53 : decode cX1_init 53 = .ok (.bipush 6, 2) := by decide +kernel
theorem dX1_init_55 : decode cX1_init 55 = .ok (.newarray .int, 2) := by decide +kernel
theorem dX1_init_57 : decode cX1_init 57 = .ok (.putfield 34, 3) := by decide +kernel
theorem dX1_init_60 : decode cX1_init 60 = .ok (.aload_n 0, 1) := by decide +kernel
theorem dX1_init_61 : decode cX1_init 61 = .ok (.iconst 0, 1) := by decide +kernel
theorem dX1_init_62 : decode cX1_init 62 = .ok (.putfield 37, 3) := by decide +kernel
theorem dX1_init_65 : decode cX1_init 65 = .ok (.aload_n 0, 1) := by decide +kernel
theorem dX1_init_66 : decode cX1_init 66 = .ok (.iconst 1, 1) := by decide +kernel
theorem dX1_init_67 : decode cX1_init 67 = .ok (.putfield 40, 3) := by decide +kernel
theorem dX1_init_70 : decode cX1_init 70 = .ok (.return_, 1) := by decide +kernel
set_option maxHeartbeats 1000000 in
set_option maxRecDepth 100000 in
theorem kX1_init {l : Launch} {D : va_G} {g : Nat → ClassId} (h0 : Nat) (sz : Nat) : Met l yX1_init wsX1_init ({ frames := 1, cells := 6, slots := 34, locals := 100 }) (va_Pc [.ref h0] (pC D g [(h0, .inr (1, [.int 0, .null, .null, .int 0, .null, .null, .null, .null, .int 0, .int 0]))] sz)) (qC D (va_A [(h0, .inr (1, [.int 0, .null, .null, .int 0, .null, .null, .null, .null, .int 0, .int 0]))] sz) (fun u => [(h0, .inr (1, [.int 0, .ref (u 0 1), .ref (u 0 2), .int 0, .ref (u 0 3), .ref (u 0 4), .ref (u 0 5), .ref (u 0 6), .int 0, .int 1])), ((u 0 1), .inl (g 0, 5, .inl (fun _ => 0))), ((u 0 2), .inl (g 0, 5, .inl (fun _ => 0))), ((u 0 3), .inl (g 0, 6, .inl (fun _ => 0))), ((u 0 4), .inl (g 0, 6, .inl (fun _ => 0))), ((u 0 5), .inl (g 0, 6, .inl (fun _ => 0))), ((u 0 6), .inl (g 0, 6, .inl (fun _ => 0)))])) 6 34 (va_A [(h0, .inr (1, [.int 0, .null, .null, .int 0, .null, .null, .null, .null, .int 0, .int 0]))] sz) := by
  revert sz
  refine KC.mk (by decide) rfl rfl (Nat.le_of_ble_eq_true rfl) ?_
  intro p e s m args below meth c ls A Q hx hb hml hown hts hin hK hT hA hP hD hS hl hret
  have hl : lv_has ls 1 [(0, .ref h0)] := hl
  refine lv_aload_n hx hb dX1_init_0 rfl (lv_at hl 0 rfl) ?_
  refine W.objInit hx hb hown (hts (.methodLink RX1 3 objectInit) (by decide +kernel)) (hts (.instanceMethod objectInit) (by decide +kernel)) (hts _ (List.mem_cons_of_mem _ (List.mem_of_getElem? (i := 2) rfl))) rfl (by rw [hml]; exact hl.1) rfl dX1_init_1 (Nat.le_of_ble_eq_true rfl) (Nat.le_of_ble_eq_true rfl) ?_
  refine W.eq (g2 := F0 m 4 ls []) rfl ?_
  refine lv_aload_n hx hb dX1_init_4 rfl (lv_at hl 0 rfl) ?_
  refine lv_iconst (v := 0) hx hb dX1_init_5 (by decide) ?_
  refine va_put (D := D) (ci := 1) (v := .int 0) (ty := .int) (C := RX1) (T := TX1) (N := 10) hx hb hts (by decide +kernel) tyX1 tyX1_ok nmX1 hown hK hP hD hS 0 rfl rfl 0 (by decide) (hts (.fieldLink RX1 9 "WoundMedals$Muster" "men" "I") (by decide +kernel)) (fun _ h9 => h9) rfl (by decide +kernel) rfl rfl (Nat.le_of_ble_eq_true rfl) dX1_init_6 (fun H locs hP hD hS => ?_)
  have hP : va_P D vwCl [(h0, .inr (1, [.int 0, .null, .null, .int 0, .null, .null, .null, .null, .int 0, .int 0]))] H := hP
  have hD : va_D A [(h0, .inr (1, [.int 0, .null, .null, .int 0, .null, .null, .null, .null, .int 0, .int 0]))] := hD
  refine lv_aload_n hx hb dX1_init_9 rfl (lv_at hl 0 rfl) ?_
  refine lv_iconst (v := 5) hx hb dX1_init_10 (by decide) ?_
  refine va_newa (atype := .int) (ty := .int) (a0 := (5, .inl (fun _ => 0))) hx hb (hts (.arrayClass .int) (by decide +kernel)) rfl hK hP hD hS hA (z_int 5) (nI_pos (n := 5) (by decide)) (n_cl (n := 5) (by decide)) (by show 5 * 4 ≤ 536870912; omega) (by show _ ≤ 6; omega) (by show _ ≤ 34; omega) dX1_init_11 (fun q1 cA2 H hK1 hP hD hS => ?_)
  obtain rfl := cA_0 hK hK1
  have hP : va_P D vwCl [(h0, .inr (1, [.int 0, .null, .null, .int 0, .null, .null, .null, .null, .int 0, .int 0])), (q1, .inl (g 0, 5, .inl (fun _ => 0)))] H := hP
  have hD : va_D A [(h0, .inr (1, [.int 0, .null, .null, .int 0, .null, .null, .null, .null, .int 0, .int 0])), (q1, .inl (g 0, 5, .inl (fun _ => 0)))] := hD
  refine va_putF (D := D) (ci := 1) (v := .ref q1) (ty := .array .int) (C := RX1) (T := TX1) (N := 10) hx hb hts (by decide +kernel) tyX1 tyX1_ok nmX1 hown hK hP hD hS 0 rfl rfl 1 (by decide) (hts (.fieldLink RX1 15 "WoundMedals$Muster" "build" "[I") (by decide +kernel)) (fun _ h9 => h9) rfl hin rfl (by decide +kernel) rfl rfl (Nat.le_of_ble_eq_true rfl) dX1_init_13 (fun H locs hP hD hS => ?_)
  have hP : va_P D vwCl [(h0, .inr (1, [.int 0, .ref q1, .null, .int 0, .null, .null, .null, .null, .int 0, .int 0])), (q1, .inl (g 0, 5, .inl (fun _ => 0)))] H := hP
  have hD : va_D A [(h0, .inr (1, [.int 0, .ref q1, .null, .int 0, .null, .null, .null, .null, .int 0, .int 0])), (q1, .inl (g 0, 5, .inl (fun _ => 0)))] := hD
  refine lv_aload_n hx hb dX1_init_16 rfl (lv_at hl 0 rfl) ?_
  refine lv_iconst (v := 5) hx hb dX1_init_17 (by decide) ?_
  refine va_newa (atype := .int) (ty := .int) (a0 := (5, .inl (fun _ => 0))) hx hb (hts (.arrayClass .int) (by decide +kernel)) rfl hK hP hD hS hA (z_int 5) (nI_pos (n := 5) (by decide)) (n_cl (n := 5) (by decide)) (by show 5 * 4 ≤ 536870912; omega) (by show _ ≤ 6; omega) (by show _ ≤ 34; omega) dX1_init_18 (fun q3 cA4 H hK1 hP hD hS => ?_)
  obtain rfl := cA_0 hK hK1
  have hP : va_P D vwCl [(h0, .inr (1, [.int 0, .ref q1, .null, .int 0, .null, .null, .null, .null, .int 0, .int 0])), (q1, .inl (g 0, 5, .inl (fun _ => 0))), (q3, .inl (g 0, 5, .inl (fun _ => 0)))] H := hP
  have hD : va_D A [(h0, .inr (1, [.int 0, .ref q1, .null, .int 0, .null, .null, .null, .null, .int 0, .int 0])), (q1, .inl (g 0, 5, .inl (fun _ => 0))), (q3, .inl (g 0, 5, .inl (fun _ => 0)))] := hD
  refine va_putF (D := D) (ci := 1) (v := .ref q3) (ty := .array .int) (C := RX1) (T := TX1) (N := 10) hx hb hts (by decide +kernel) tyX1 tyX1_ok nmX1 hown hK hP hD hS 0 rfl rfl 2 (by decide) (hts (.fieldLink RX1 19 "WoundMedals$Muster" "strength" "[I") (by decide +kernel)) (fun _ h9 => h9) rfl hin rfl (by decide +kernel) rfl rfl (Nat.le_of_ble_eq_true rfl) dX1_init_20 (fun H locs hP hD hS => ?_)
  have hP : va_P D vwCl [(h0, .inr (1, [.int 0, .ref q1, .ref q3, .int 0, .null, .null, .null, .null, .int 0, .int 0])), (q1, .inl (g 0, 5, .inl (fun _ => 0))), (q3, .inl (g 0, 5, .inl (fun _ => 0)))] H := hP
  have hD : va_D A [(h0, .inr (1, [.int 0, .ref q1, .ref q3, .int 0, .null, .null, .null, .null, .int 0, .int 0])), (q1, .inl (g 0, 5, .inl (fun _ => 0))), (q3, .inl (g 0, 5, .inl (fun _ => 0)))] := hD
  refine lv_aload_n hx hb dX1_init_23 rfl (lv_at hl 0 rfl) ?_
  refine lv_iconst (v := 0) hx hb dX1_init_24 (by decide) ?_
  refine va_put (D := D) (ci := 1) (v := .int 0) (ty := .int) (C := RX1) (T := TX1) (N := 10) hx hb hts (by decide +kernel) tyX1 tyX1_ok nmX1 hown hK hP hD hS 0 rfl rfl 3 (by decide) (hts (.fieldLink RX1 22 "WoundMedals$Muster" "medals" "I") (by decide +kernel)) (fun _ h9 => h9) rfl (by decide +kernel) rfl rfl (Nat.le_of_ble_eq_true rfl) dX1_init_25 (fun H locs hP hD hS => ?_)
  have hP : va_P D vwCl [(h0, .inr (1, [.int 0, .ref q1, .ref q3, .int 0, .null, .null, .null, .null, .int 0, .int 0])), (q1, .inl (g 0, 5, .inl (fun _ => 0))), (q3, .inl (g 0, 5, .inl (fun _ => 0)))] H := hP
  have hD : va_D A [(h0, .inr (1, [.int 0, .ref q1, .ref q3, .int 0, .null, .null, .null, .null, .int 0, .int 0])), (q1, .inl (g 0, 5, .inl (fun _ => 0))), (q3, .inl (g 0, 5, .inl (fun _ => 0)))] := hD
  refine lv_aload_n hx hb dX1_init_28 rfl (lv_at hl 0 rfl) ?_
  refine lv_bipush (v := 6) hx hb dX1_init_29 (by decide) ?_
  refine va_newa (atype := .int) (ty := .int) (a0 := (6, .inl (fun _ => 0))) hx hb (hts (.arrayClass .int) (by decide +kernel)) rfl hK hP hD hS hA (z_int 6) (nI_pos (n := 6) (by decide)) (n_cl (n := 6) (by decide)) (by show 6 * 4 ≤ 536870912; omega) (by show _ ≤ 6; omega) (by show _ ≤ 34; omega) dX1_init_31 (fun q5 cA6 H hK1 hP hD hS => ?_)
  obtain rfl := cA_0 hK hK1
  have hP : va_P D vwCl [(h0, .inr (1, [.int 0, .ref q1, .ref q3, .int 0, .null, .null, .null, .null, .int 0, .int 0])), (q1, .inl (g 0, 5, .inl (fun _ => 0))), (q3, .inl (g 0, 5, .inl (fun _ => 0))), (q5, .inl (g 0, 6, .inl (fun _ => 0)))] H := hP
  have hD : va_D A [(h0, .inr (1, [.int 0, .ref q1, .ref q3, .int 0, .null, .null, .null, .null, .int 0, .int 0])), (q1, .inl (g 0, 5, .inl (fun _ => 0))), (q3, .inl (g 0, 5, .inl (fun _ => 0))), (q5, .inl (g 0, 6, .inl (fun _ => 0)))] := hD
  refine va_putF (D := D) (ci := 1) (v := .ref q5) (ty := .array .int) (C := RX1) (T := TX1) (N := 10) hx hb hts (by decide +kernel) tyX1 tyX1_ok nmX1 hown hK hP hD hS 0 rfl rfl 4 (by decide) (hts (.fieldLink RX1 25 "WoundMedals$Muster" "kind" "[I") (by decide +kernel)) (fun _ h9 => h9) rfl hin rfl (by decide +kernel) rfl rfl (Nat.le_of_ble_eq_true rfl) dX1_init_33 (fun H locs hP hD hS => ?_)
  have hP : va_P D vwCl [(h0, .inr (1, [.int 0, .ref q1, .ref q3, .int 0, .ref q5, .null, .null, .null, .int 0, .int 0])), (q1, .inl (g 0, 5, .inl (fun _ => 0))), (q3, .inl (g 0, 5, .inl (fun _ => 0))), (q5, .inl (g 0, 6, .inl (fun _ => 0)))] H := hP
  have hD : va_D A [(h0, .inr (1, [.int 0, .ref q1, .ref q3, .int 0, .ref q5, .null, .null, .null, .int 0, .int 0])), (q1, .inl (g 0, 5, .inl (fun _ => 0))), (q3, .inl (g 0, 5, .inl (fun _ => 0))), (q5, .inl (g 0, 6, .inl (fun _ => 0)))] := hD
  refine lv_aload_n hx hb dX1_init_36 rfl (lv_at hl 0 rfl) ?_
  refine lv_bipush (v := 6) hx hb dX1_init_37 (by decide) ?_
  refine va_newa (atype := .int) (ty := .int) (a0 := (6, .inl (fun _ => 0))) hx hb (hts (.arrayClass .int) (by decide +kernel)) rfl hK hP hD hS hA (z_int 6) (nI_pos (n := 6) (by decide)) (n_cl (n := 6) (by decide)) (by show 6 * 4 ≤ 536870912; omega) (by show _ ≤ 6; omega) (by show _ ≤ 34; omega) dX1_init_39 (fun q7 cA8 H hK1 hP hD hS => ?_)
  obtain rfl := cA_0 hK hK1
  have hP : va_P D vwCl [(h0, .inr (1, [.int 0, .ref q1, .ref q3, .int 0, .ref q5, .null, .null, .null, .int 0, .int 0])), (q1, .inl (g 0, 5, .inl (fun _ => 0))), (q3, .inl (g 0, 5, .inl (fun _ => 0))), (q5, .inl (g 0, 6, .inl (fun _ => 0))), (q7, .inl (g 0, 6, .inl (fun _ => 0)))] H := hP
  have hD : va_D A [(h0, .inr (1, [.int 0, .ref q1, .ref q3, .int 0, .ref q5, .null, .null, .null, .int 0, .int 0])), (q1, .inl (g 0, 5, .inl (fun _ => 0))), (q3, .inl (g 0, 5, .inl (fun _ => 0))), (q5, .inl (g 0, 6, .inl (fun _ => 0))), (q7, .inl (g 0, 6, .inl (fun _ => 0)))] := hD
  refine va_putF (D := D) (ci := 1) (v := .ref q7) (ty := .array .int) (C := RX1) (T := TX1) (N := 10) hx hb hts (by decide +kernel) tyX1 tyX1_ok nmX1 hown hK hP hD hS 0 rfl rfl 5 (by decide) (hts (.fieldLink RX1 28 "WoundMedals$Muster" "weight" "[I") (by decide +kernel)) (fun _ h9 => h9) rfl hin rfl (by decide +kernel) rfl rfl (Nat.le_of_ble_eq_true rfl) dX1_init_41 (fun H locs hP hD hS => ?_)
  have hP : va_P D vwCl [(h0, .inr (1, [.int 0, .ref q1, .ref q3, .int 0, .ref q5, .ref q7, .null, .null, .int 0, .int 0])), (q1, .inl (g 0, 5, .inl (fun _ => 0))), (q3, .inl (g 0, 5, .inl (fun _ => 0))), (q5, .inl (g 0, 6, .inl (fun _ => 0))), (q7, .inl (g 0, 6, .inl (fun _ => 0)))] H := hP
  have hD : va_D A [(h0, .inr (1, [.int 0, .ref q1, .ref q3, .int 0, .ref q5, .ref q7, .null, .null, .int 0, .int 0])), (q1, .inl (g 0, 5, .inl (fun _ => 0))), (q3, .inl (g 0, 5, .inl (fun _ => 0))), (q5, .inl (g 0, 6, .inl (fun _ => 0))), (q7, .inl (g 0, 6, .inl (fun _ => 0)))] := hD
  refine lv_aload_n hx hb dX1_init_44 rfl (lv_at hl 0 rfl) ?_
  refine lv_bipush (v := 6) hx hb dX1_init_45 (by decide) ?_
  refine va_newa (atype := .int) (ty := .int) (a0 := (6, .inl (fun _ => 0))) hx hb (hts (.arrayClass .int) (by decide +kernel)) rfl hK hP hD hS hA (z_int 6) (nI_pos (n := 6) (by decide)) (n_cl (n := 6) (by decide)) (by show 6 * 4 ≤ 536870912; omega) (by show _ ≤ 6; omega) (by show _ ≤ 34; omega) dX1_init_47 (fun q9 cA10 H hK1 hP hD hS => ?_)
  obtain rfl := cA_0 hK hK1
  have hP : va_P D vwCl [(h0, .inr (1, [.int 0, .ref q1, .ref q3, .int 0, .ref q5, .ref q7, .null, .null, .int 0, .int 0])), (q1, .inl (g 0, 5, .inl (fun _ => 0))), (q3, .inl (g 0, 5, .inl (fun _ => 0))), (q5, .inl (g 0, 6, .inl (fun _ => 0))), (q7, .inl (g 0, 6, .inl (fun _ => 0))), (q9, .inl (g 0, 6, .inl (fun _ => 0)))] H := hP
  have hD : va_D A [(h0, .inr (1, [.int 0, .ref q1, .ref q3, .int 0, .ref q5, .ref q7, .null, .null, .int 0, .int 0])), (q1, .inl (g 0, 5, .inl (fun _ => 0))), (q3, .inl (g 0, 5, .inl (fun _ => 0))), (q5, .inl (g 0, 6, .inl (fun _ => 0))), (q7, .inl (g 0, 6, .inl (fun _ => 0))), (q9, .inl (g 0, 6, .inl (fun _ => 0)))] := hD
  refine va_putF (D := D) (ci := 1) (v := .ref q9) (ty := .array .int) (C := RX1) (T := TX1) (N := 10) hx hb hts (by decide +kernel) tyX1 tyX1_ok nmX1 hown hK hP hD hS 0 rfl rfl 6 (by decide) (hts (.fieldLink RX1 31 "WoundMedals$Muster" "wound" "[I") (by decide +kernel)) (fun _ h9 => h9) rfl hin rfl (by decide +kernel) rfl rfl (Nat.le_of_ble_eq_true rfl) dX1_init_49 (fun H locs hP hD hS => ?_)
  have hP : va_P D vwCl [(h0, .inr (1, [.int 0, .ref q1, .ref q3, .int 0, .ref q5, .ref q7, .ref q9, .null, .int 0, .int 0])), (q1, .inl (g 0, 5, .inl (fun _ => 0))), (q3, .inl (g 0, 5, .inl (fun _ => 0))), (q5, .inl (g 0, 6, .inl (fun _ => 0))), (q7, .inl (g 0, 6, .inl (fun _ => 0))), (q9, .inl (g 0, 6, .inl (fun _ => 0)))] H := hP
  have hD : va_D A [(h0, .inr (1, [.int 0, .ref q1, .ref q3, .int 0, .ref q5, .ref q7, .ref q9, .null, .int 0, .int 0])), (q1, .inl (g 0, 5, .inl (fun _ => 0))), (q3, .inl (g 0, 5, .inl (fun _ => 0))), (q5, .inl (g 0, 6, .inl (fun _ => 0))), (q7, .inl (g 0, 6, .inl (fun _ => 0))), (q9, .inl (g 0, 6, .inl (fun _ => 0)))] := hD
  refine lv_aload_n hx hb dX1_init_52 rfl (lv_at hl 0 rfl) ?_
  refine lv_bipush (v := 6) hx hb dX1_init_53 (by decide) ?_
  refine va_newa (atype := .int) (ty := .int) (a0 := (6, .inl (fun _ => 0))) hx hb (hts (.arrayClass .int) (by decide +kernel)) rfl hK hP hD hS hA (z_int 6) (nI_pos (n := 6) (by decide)) (n_cl (n := 6) (by decide)) (by show 6 * 4 ≤ 536870912; omega) (by show _ ≤ 6; omega) (by show _ ≤ 34; omega) dX1_init_55 (fun q11 cA12 H hK1 hP hD hS => ?_)
  obtain rfl := cA_0 hK hK1
  have hP : va_P D vwCl [(h0, .inr (1, [.int 0, .ref q1, .ref q3, .int 0, .ref q5, .ref q7, .ref q9, .null, .int 0, .int 0])), (q1, .inl (g 0, 5, .inl (fun _ => 0))), (q3, .inl (g 0, 5, .inl (fun _ => 0))), (q5, .inl (g 0, 6, .inl (fun _ => 0))), (q7, .inl (g 0, 6, .inl (fun _ => 0))), (q9, .inl (g 0, 6, .inl (fun _ => 0))), (q11, .inl (g 0, 6, .inl (fun _ => 0)))] H := hP
  have hD : va_D A [(h0, .inr (1, [.int 0, .ref q1, .ref q3, .int 0, .ref q5, .ref q7, .ref q9, .null, .int 0, .int 0])), (q1, .inl (g 0, 5, .inl (fun _ => 0))), (q3, .inl (g 0, 5, .inl (fun _ => 0))), (q5, .inl (g 0, 6, .inl (fun _ => 0))), (q7, .inl (g 0, 6, .inl (fun _ => 0))), (q9, .inl (g 0, 6, .inl (fun _ => 0))), (q11, .inl (g 0, 6, .inl (fun _ => 0)))] := hD
  refine va_putF (D := D) (ci := 1) (v := .ref q11) (ty := .array .int) (C := RX1) (T := TX1) (N := 10) hx hb hts (by decide +kernel) tyX1 tyX1_ok nmX1 hown hK hP hD hS 0 rfl rfl 7 (by decide) (hts (.fieldLink RX1 34 "WoundMedals$Muster" "wearer" "[I") (by decide +kernel)) (fun _ h9 => h9) rfl hin rfl (by decide +kernel) rfl rfl (Nat.le_of_ble_eq_true rfl) dX1_init_57 (fun H locs hP hD hS => ?_)
  have hP : va_P D vwCl [(h0, .inr (1, [.int 0, .ref q1, .ref q3, .int 0, .ref q5, .ref q7, .ref q9, .ref q11, .int 0, .int 0])), (q1, .inl (g 0, 5, .inl (fun _ => 0))), (q3, .inl (g 0, 5, .inl (fun _ => 0))), (q5, .inl (g 0, 6, .inl (fun _ => 0))), (q7, .inl (g 0, 6, .inl (fun _ => 0))), (q9, .inl (g 0, 6, .inl (fun _ => 0))), (q11, .inl (g 0, 6, .inl (fun _ => 0)))] H := hP
  have hD : va_D A [(h0, .inr (1, [.int 0, .ref q1, .ref q3, .int 0, .ref q5, .ref q7, .ref q9, .ref q11, .int 0, .int 0])), (q1, .inl (g 0, 5, .inl (fun _ => 0))), (q3, .inl (g 0, 5, .inl (fun _ => 0))), (q5, .inl (g 0, 6, .inl (fun _ => 0))), (q7, .inl (g 0, 6, .inl (fun _ => 0))), (q9, .inl (g 0, 6, .inl (fun _ => 0))), (q11, .inl (g 0, 6, .inl (fun _ => 0)))] := hD
  refine lv_aload_n hx hb dX1_init_60 rfl (lv_at hl 0 rfl) ?_
  refine lv_iconst (v := 0) hx hb dX1_init_61 (by decide) ?_
  refine va_put (D := D) (ci := 1) (v := .int 0) (ty := .int) (C := RX1) (T := TX1) (N := 10) hx hb hts (by decide +kernel) tyX1 tyX1_ok nmX1 hown hK hP hD hS 0 rfl rfl 8 (by decide) (hts (.fieldLink RX1 37 "WoundMedals$Muster" "day" "I") (by decide +kernel)) (fun _ h9 => h9) rfl (by decide +kernel) rfl rfl (Nat.le_of_ble_eq_true rfl) dX1_init_62 (fun H locs hP hD hS => ?_)
  have hP : va_P D vwCl [(h0, .inr (1, [.int 0, .ref q1, .ref q3, .int 0, .ref q5, .ref q7, .ref q9, .ref q11, .int 0, .int 0])), (q1, .inl (g 0, 5, .inl (fun _ => 0))), (q3, .inl (g 0, 5, .inl (fun _ => 0))), (q5, .inl (g 0, 6, .inl (fun _ => 0))), (q7, .inl (g 0, 6, .inl (fun _ => 0))), (q9, .inl (g 0, 6, .inl (fun _ => 0))), (q11, .inl (g 0, 6, .inl (fun _ => 0)))] H := hP
  have hD : va_D A [(h0, .inr (1, [.int 0, .ref q1, .ref q3, .int 0, .ref q5, .ref q7, .ref q9, .ref q11, .int 0, .int 0])), (q1, .inl (g 0, 5, .inl (fun _ => 0))), (q3, .inl (g 0, 5, .inl (fun _ => 0))), (q5, .inl (g 0, 6, .inl (fun _ => 0))), (q7, .inl (g 0, 6, .inl (fun _ => 0))), (q9, .inl (g 0, 6, .inl (fun _ => 0))), (q11, .inl (g 0, 6, .inl (fun _ => 0)))] := hD
  refine lv_aload_n hx hb dX1_init_65 rfl (lv_at hl 0 rfl) ?_
  refine lv_iconst (v := 1) hx hb dX1_init_66 (by decide) ?_
  refine va_put (D := D) (ci := 1) (v := .int 1) (ty := .int) (C := RX1) (T := TX1) (N := 10) hx hb hts (by decide +kernel) tyX1 tyX1_ok nmX1 hown hK hP hD hS 0 rfl rfl 9 (by decide) (hts (.fieldLink RX1 40 "WoundMedals$Muster" "draw" "I") (by decide +kernel)) (fun _ h9 => h9) rfl (by decide +kernel) rfl rfl (Nat.le_of_ble_eq_true rfl) dX1_init_67 (fun H locs hP hD hS => ?_)
  have hP : va_P D vwCl [(h0, .inr (1, [.int 0, .ref q1, .ref q3, .int 0, .ref q5, .ref q7, .ref q9, .ref q11, .int 0, .int 1])), (q1, .inl (g 0, 5, .inl (fun _ => 0))), (q3, .inl (g 0, 5, .inl (fun _ => 0))), (q5, .inl (g 0, 6, .inl (fun _ => 0))), (q7, .inl (g 0, 6, .inl (fun _ => 0))), (q9, .inl (g 0, 6, .inl (fun _ => 0))), (q11, .inl (g 0, 6, .inl (fun _ => 0)))] H := hP
  have hD : va_D A [(h0, .inr (1, [.int 0, .ref q1, .ref q3, .int 0, .ref q5, .ref q7, .ref q9, .ref q11, .int 0, .int 1])), (q1, .inl (g 0, 5, .inl (fun _ => 0))), (q3, .inl (g 0, 5, .inl (fun _ => 0))), (q5, .inl (g 0, 6, .inl (fun _ => 0))), (q7, .inl (g 0, 6, .inl (fun _ => 0))), (q9, .inl (g 0, 6, .inl (fun _ => 0))), (q11, .inl (g 0, 6, .inl (fun _ => 0)))] := hD
  exact hret (fun a => if a = 0 then (fun k => [h0, q1, q3, q5, q7, q9, q11].getD k 0) else (fun _ => 0)) _ _ _ _ dX1_init_70 hP hD hS
theorem dX2_init_0 : decode cX2_init 0 = .ok (.aload_n 0, 1) := by decide +kernel
theorem dX2_init_1 : decode cX2_init 1 = .ok (.invokespecial 5, 3) := by decide +kernel
theorem dX2_init_4 : decode cX2_init 4 = .ok (.aload_n 0, 1) := by decide +kernel
theorem dX2_init_5 : decode cX2_init 5 = .ok (.bipush 8, 2) := by decide +kernel
theorem dX2_init_7 : decode cX2_init 7 = .ok (.bipush 19, 2) := by decide +kernel
theorem dX2_init_9 : decode cX2_init 9 = .ok (.multianewarray 11 2, 4) := by decide +kernel
theorem dX2_init_13 : decode cX2_init 13 = .ok (.putfield 13, 3) := by decide +kernel
theorem dX2_init_16 : decode cX2_init 16 = .ok (.aload_n 0, 1) := by decide +kernel
theorem dX2_init_17 : decode cX2_init 17 = .ok (.iconst 0, 1) := by decide +kernel
theorem dX2_init_18 : decode cX2_init 18 = .ok (.putfield 16, 3) := by decide +kernel
theorem dX2_init_21 : decode cX2_init 21 = .ok (.aload_n 0, 1) := by decide +kernel
theorem dX2_init_22 : decode cX2_init 22 = .ok (.iconst 0, 1) := by decide +kernel
theorem dX2_init_23 : decode cX2_init 23 = .ok (.putfield 20, 3) := by decide +kernel
theorem dX2_init_26 : decode cX2_init 26 = .ok (.return_, 1) := by decide +kernel
set_option maxHeartbeats 1000000 in
set_option maxRecDepth 100000 in
theorem kX2_init {l : Launch} {D : va_G} {g : Nat → ClassId} (h0 : Nat) (sz : Nat) : Met l yX2_init wsX2_init ({ frames := 1, cells := 9, slots := 160, locals := 100 }) (va_Pc [.ref h0] (pC D g [(h0, .inr (2, [.null, .int 0, .int 0]))] sz)) (qC D (va_A [(h0, .inr (2, [.null, .int 0, .int 0]))] sz) (fun u => [(h0, .inr (2, [.ref (u 0 1), .int 0, .int 0])), ((u 0 1), .inl (g 3, 8, .inr (.inr (.inr (.inr (fun i => if i < 8 then some (u 1 i) else none)))))), ((u 1 0), .inl (g 0, 19, .inl (fun _ => 0))), ((u 1 1), .inl (g 0, 19, .inl (fun _ => 0))), ((u 1 2), .inl (g 0, 19, .inl (fun _ => 0))), ((u 1 3), .inl (g 0, 19, .inl (fun _ => 0))), ((u 1 4), .inl (g 0, 19, .inl (fun _ => 0))), ((u 1 5), .inl (g 0, 19, .inl (fun _ => 0))), ((u 1 6), .inl (g 0, 19, .inl (fun _ => 0))), ((u 1 7), .inl (g 0, 19, .inl (fun _ => 0)))])) 9 160 (va_A [(h0, .inr (2, [.null, .int 0, .int 0]))] sz) := by
  revert sz
  refine KC.mk (by decide) rfl rfl (Nat.le_of_ble_eq_true rfl) ?_
  intro p e s m args below meth c ls A Q hx hb hml hown hts hin hK hT hA hP hD hS hl hret
  have hl : lv_has ls 1 [(0, .ref h0)] := hl
  refine lv_aload_n hx hb dX2_init_0 rfl (lv_at hl 0 rfl) ?_
  refine W.objInit hx hb hown (hts (.methodLink RX2 5 objectInit) (by decide +kernel)) (hts (.instanceMethod objectInit) (by decide +kernel)) (hts _ (List.mem_cons_of_mem _ (List.mem_of_getElem? (i := 2) rfl))) rfl (by rw [hml]; exact hl.1) rfl dX2_init_1 (Nat.le_of_ble_eq_true rfl) (Nat.le_of_ble_eq_true rfl) ?_
  refine W.eq (g2 := F0 m 4 ls []) rfl ?_
  refine lv_aload_n hx hb dX2_init_4 rfl (lv_at hl 0 rfl) ?_
  refine lv_bipush (v := 8) hx hb dX2_init_5 (by decide) ?_
  refine lv_bipush (v := 19) hx hb dX2_init_7 (by decide) ?_
  refine va_mna (ty := .int) (cy := g 0) (X := [(h0, .inr (2, [.null, .int 0, .int 0]))]) (L := []) (f := fun _ => .inr (0, [])) (z := (19, .inl (fun _ => 0))) hx hb hown (hts (.classLink RX2 11 "[[I") (by decide +kernel)) hT.2.1 (hts (.arrayClass .int) (by decide +kernel)) (hK.2 0 _ rfl).2 hK (by rw [show va_pl [] _ = [] from rfl, List.append_nil]; exact hP) (by rw [show va_pl [] _ = [] from rfl, List.append_nil]; exact hD) hS hA (nI_pos (n := 8) (by decide)) (nI_pos (n := 19) (by decide)) (n_cl (n := 8) (by decide)) (n_cl (n := 19) (by decide)) (by omega) (by show _ * 4 ≤ 536870912; omega) (by omega) rfl rfl (by show _ ≤ 9; omega) (by show _ ≤ 160; omega) (z_int 19) dX2_init_9 (fun q1 r2 cA3 H hinj hnl hK1 hP hD hS => ?_)
  obtain rfl := cA_3 hK hK1
  rw [← vr_rows (L := []) (fun _ _ h => absurd h List.not_mem_nil)] at hP hD
  have hP : va_P D vwCl [(h0, .inr (2, [.null, .int 0, .int 0])), (q1, .inl (g 3, 8, .inr (.inr (.inr (.inr (fun i => if i < 8 then some (r2 i) else none)))))), ((r2 0), .inl (g 0, 19, .inl (fun _ => 0))), ((r2 1), .inl (g 0, 19, .inl (fun _ => 0))), ((r2 2), .inl (g 0, 19, .inl (fun _ => 0))), ((r2 3), .inl (g 0, 19, .inl (fun _ => 0))), ((r2 4), .inl (g 0, 19, .inl (fun _ => 0))), ((r2 5), .inl (g 0, 19, .inl (fun _ => 0))), ((r2 6), .inl (g 0, 19, .inl (fun _ => 0))), ((r2 7), .inl (g 0, 19, .inl (fun _ => 0)))] H := hP
  have hD : va_D A [(h0, .inr (2, [.null, .int 0, .int 0])), (q1, .inl (g 3, 8, .inr (.inr (.inr (.inr (fun i => if i < 8 then some (r2 i) else none)))))), ((r2 0), .inl (g 0, 19, .inl (fun _ => 0))), ((r2 1), .inl (g 0, 19, .inl (fun _ => 0))), ((r2 2), .inl (g 0, 19, .inl (fun _ => 0))), ((r2 3), .inl (g 0, 19, .inl (fun _ => 0))), ((r2 4), .inl (g 0, 19, .inl (fun _ => 0))), ((r2 5), .inl (g 0, 19, .inl (fun _ => 0))), ((r2 6), .inl (g 0, 19, .inl (fun _ => 0))), ((r2 7), .inl (g 0, 19, .inl (fun _ => 0)))] := hD
  refine va_putF (D := D) (ci := 2) (v := .ref q1) (ty := .array (.array .int)) (C := RX2) (T := TX2) (N := 3) hx hb hts (by decide +kernel) tyX2 tyX2_ok nmX2 hown hK hP hD hS 0 rfl rfl 0 (by decide) (hts (.fieldLink RX2 13 "WoundMedals$Past" "kept" "[[I") (by decide +kernel)) (fun _ h9 => h9) rfl hin rfl (by decide +kernel) rfl rfl (Nat.le_of_ble_eq_true rfl) dX2_init_13 (fun H locs hP hD hS => ?_)
  have hP : va_P D vwCl [(h0, .inr (2, [.ref q1, .int 0, .int 0])), (q1, .inl (g 3, 8, .inr (.inr (.inr (.inr (fun i => if i < 8 then some (r2 i) else none)))))), ((r2 0), .inl (g 0, 19, .inl (fun _ => 0))), ((r2 1), .inl (g 0, 19, .inl (fun _ => 0))), ((r2 2), .inl (g 0, 19, .inl (fun _ => 0))), ((r2 3), .inl (g 0, 19, .inl (fun _ => 0))), ((r2 4), .inl (g 0, 19, .inl (fun _ => 0))), ((r2 5), .inl (g 0, 19, .inl (fun _ => 0))), ((r2 6), .inl (g 0, 19, .inl (fun _ => 0))), ((r2 7), .inl (g 0, 19, .inl (fun _ => 0)))] H := hP
  have hD : va_D A [(h0, .inr (2, [.ref q1, .int 0, .int 0])), (q1, .inl (g 3, 8, .inr (.inr (.inr (.inr (fun i => if i < 8 then some (r2 i) else none)))))), ((r2 0), .inl (g 0, 19, .inl (fun _ => 0))), ((r2 1), .inl (g 0, 19, .inl (fun _ => 0))), ((r2 2), .inl (g 0, 19, .inl (fun _ => 0))), ((r2 3), .inl (g 0, 19, .inl (fun _ => 0))), ((r2 4), .inl (g 0, 19, .inl (fun _ => 0))), ((r2 5), .inl (g 0, 19, .inl (fun _ => 0))), ((r2 6), .inl (g 0, 19, .inl (fun _ => 0))), ((r2 7), .inl (g 0, 19, .inl (fun _ => 0)))] := hD
  refine lv_aload_n hx hb dX2_init_16 rfl (lv_at hl 0 rfl) ?_
  refine lv_iconst (v := 0) hx hb dX2_init_17 (by decide) ?_
  refine va_put (D := D) (ci := 2) (v := .int 0) (ty := .int) (C := RX2) (T := TX2) (N := 3) hx hb hts (by decide +kernel) tyX2 tyX2_ok nmX2 hown hK hP hD hS 0 rfl rfl 1 (by decide) (hts (.fieldLink RX2 16 "WoundMedals$Past" "known" "I") (by decide +kernel)) (fun _ h9 => h9) rfl (by decide +kernel) rfl rfl (Nat.le_of_ble_eq_true rfl) dX2_init_18 (fun H locs hP hD hS => ?_)
  have hP : va_P D vwCl [(h0, .inr (2, [.ref q1, .int 0, .int 0])), (q1, .inl (g 3, 8, .inr (.inr (.inr (.inr (fun i => if i < 8 then some (r2 i) else none)))))), ((r2 0), .inl (g 0, 19, .inl (fun _ => 0))), ((r2 1), .inl (g 0, 19, .inl (fun _ => 0))), ((r2 2), .inl (g 0, 19, .inl (fun _ => 0))), ((r2 3), .inl (g 0, 19, .inl (fun _ => 0))), ((r2 4), .inl (g 0, 19, .inl (fun _ => 0))), ((r2 5), .inl (g 0, 19, .inl (fun _ => 0))), ((r2 6), .inl (g 0, 19, .inl (fun _ => 0))), ((r2 7), .inl (g 0, 19, .inl (fun _ => 0)))] H := hP
  have hD : va_D A [(h0, .inr (2, [.ref q1, .int 0, .int 0])), (q1, .inl (g 3, 8, .inr (.inr (.inr (.inr (fun i => if i < 8 then some (r2 i) else none)))))), ((r2 0), .inl (g 0, 19, .inl (fun _ => 0))), ((r2 1), .inl (g 0, 19, .inl (fun _ => 0))), ((r2 2), .inl (g 0, 19, .inl (fun _ => 0))), ((r2 3), .inl (g 0, 19, .inl (fun _ => 0))), ((r2 4), .inl (g 0, 19, .inl (fun _ => 0))), ((r2 5), .inl (g 0, 19, .inl (fun _ => 0))), ((r2 6), .inl (g 0, 19, .inl (fun _ => 0))), ((r2 7), .inl (g 0, 19, .inl (fun _ => 0)))] := hD
  refine lv_aload_n hx hb dX2_init_21 rfl (lv_at hl 0 rfl) ?_
  refine lv_iconst (v := 0) hx hb dX2_init_22 (by decide) ?_
  refine va_put (D := D) (ci := 2) (v := .int 0) (ty := .int) (C := RX2) (T := TX2) (N := 3) hx hb hts (by decide +kernel) tyX2 tyX2_ok nmX2 hown hK hP hD hS 0 rfl rfl 2 (by decide) (hts (.fieldLink RX2 20 "WoundMedals$Past" "next" "I") (by decide +kernel)) (fun _ h9 => h9) rfl (by decide +kernel) rfl rfl (Nat.le_of_ble_eq_true rfl) dX2_init_23 (fun H locs hP hD hS => ?_)
  have hP : va_P D vwCl [(h0, .inr (2, [.ref q1, .int 0, .int 0])), (q1, .inl (g 3, 8, .inr (.inr (.inr (.inr (fun i => if i < 8 then some (r2 i) else none)))))), ((r2 0), .inl (g 0, 19, .inl (fun _ => 0))), ((r2 1), .inl (g 0, 19, .inl (fun _ => 0))), ((r2 2), .inl (g 0, 19, .inl (fun _ => 0))), ((r2 3), .inl (g 0, 19, .inl (fun _ => 0))), ((r2 4), .inl (g 0, 19, .inl (fun _ => 0))), ((r2 5), .inl (g 0, 19, .inl (fun _ => 0))), ((r2 6), .inl (g 0, 19, .inl (fun _ => 0))), ((r2 7), .inl (g 0, 19, .inl (fun _ => 0)))] H := hP
  have hD : va_D A [(h0, .inr (2, [.ref q1, .int 0, .int 0])), (q1, .inl (g 3, 8, .inr (.inr (.inr (.inr (fun i => if i < 8 then some (r2 i) else none)))))), ((r2 0), .inl (g 0, 19, .inl (fun _ => 0))), ((r2 1), .inl (g 0, 19, .inl (fun _ => 0))), ((r2 2), .inl (g 0, 19, .inl (fun _ => 0))), ((r2 3), .inl (g 0, 19, .inl (fun _ => 0))), ((r2 4), .inl (g 0, 19, .inl (fun _ => 0))), ((r2 5), .inl (g 0, 19, .inl (fun _ => 0))), ((r2 6), .inl (g 0, 19, .inl (fun _ => 0))), ((r2 7), .inl (g 0, 19, .inl (fun _ => 0)))] := hD
  exact hret (fun a => if a = 0 then (fun k => [h0, q1].getD k 0) else if a = 1 then (r2) else (fun _ => 0)) _ _ _ _ dX2_init_26 hP hD hS
theorem dX3_init_0 : decode cX3_init 0 = .ok (.aload_n 0, 1) := by decide +kernel
theorem dX3_init_1 : decode cX3_init 1 = .ok (.invokespecial 3, 3) := by decide +kernel
theorem dX3_init_4 : decode cX3_init 4 = .ok (.aload_n 0, 1) := by decide +kernel
theorem dX3_init_5 : decode cX3_init 5 = .ok (.iconst 0, 1) := by decide +kernel
theorem dX3_init_6 : decode cX3_init 6 = .ok (.putfield 9, 3) := by decide +kernel
theorem dX3_init_9 : decode cX3_init 9 = .ok (.aload_n 0, 1) := by decide +kernel
theorem dX3_init_10 : decode cX3_init 10 = .ok (.iconst 0, 1) := by decide +kernel
theorem dX3_init_11 : decode cX3_init 11 = .ok (.putfield 15, 3) := by decide +kernel
theorem dX3_init_14 : decode cX3_init 14 = .ok (.aload_n 0, 1) := by decide +kernel
theorem dX3_init_15 : decode cX3_init 15 = .ok (.iconst 0, 1) := by decide +kernel
theorem dX3_init_16 : decode cX3_init 16 = .ok (.putfield 19, 3) := by decide +kernel
theorem dX3_init_19 : decode cX3_init 19 = .ok (.aload_n 0, 1) := by decide +kernel
theorem dX3_init_20 : decode cX3_init 20 = .ok (.bipush 24, 2) := by decide +kernel
theorem dX3_init_22 : decode cX3_init 22 = .ok (.newarray .long, 2) := by decide +kernel
theorem dX3_init_24 : decode cX3_init 24 = .ok (.putfield 22, 3) := by decide +kernel
theorem dX3_init_27 : decode cX3_init 27 = .ok (.return_, 1) := by decide +kernel
set_option maxHeartbeats 1000000 in
set_option maxRecDepth 100000 in
theorem kX3_init {l : Launch} {D : va_G} {g : Nat → ClassId} (h0 : Nat) (sz : Nat) : Met l yX3_init wsX3_init ({ frames := 1, cells := 1, slots := 24, locals := 100 }) (va_Pc [.ref h0] (pC D g [(h0, .inr (3, [.int 0, .int 0, .int 0, .null]))] sz)) (qC D (va_A [(h0, .inr (3, [.int 0, .int 0, .int 0, .null]))] sz) (fun u => [(h0, .inr (3, [.int 0, .int 0, .int 0, .ref (u 0 1)])), ((u 0 1), .inl (g 1, 24, .inr (.inl (fun _ => 0))))])) 1 24 (va_A [(h0, .inr (3, [.int 0, .int 0, .int 0, .null]))] sz) := by
  revert sz
  refine KC.mk (by decide) rfl rfl (Nat.le_of_ble_eq_true rfl) ?_
  intro p e s m args below meth c ls A Q hx hb hml hown hts hin hK hT hA hP hD hS hl hret
  have hl : lv_has ls 1 [(0, .ref h0)] := hl
  refine lv_aload_n hx hb dX3_init_0 rfl (lv_at hl 0 rfl) ?_
  refine W.objInit hx hb hown (hts (.methodLink RX3 3 objectInit) (by decide +kernel)) (hts (.instanceMethod objectInit) (by decide +kernel)) (hts _ (List.mem_cons_of_mem _ (List.mem_of_getElem? (i := 2) rfl))) rfl (by rw [hml]; exact hl.1) rfl dX3_init_1 (Nat.le_of_ble_eq_true rfl) (Nat.le_of_ble_eq_true rfl) ?_
  refine W.eq (g2 := F0 m 4 ls []) rfl ?_
  refine lv_aload_n hx hb dX3_init_4 rfl (lv_at hl 0 rfl) ?_
  refine lv_iconst (v := 0) hx hb dX3_init_5 (by decide) ?_
  refine va_put (D := D) (ci := 3) (v := .int 0) (ty := .boolean) (C := RX3) (T := TX3) (N := 4) hx hb hts (by decide +kernel) tyX3 tyX3_ok nmX3 hown hK hP hD hS 0 rfl rfl 0 (by decide) (hts (.fieldLink RX3 9 "WoundMedals$Row" "isThere" "Z") (by decide +kernel)) (fun _ h9 => h9) rfl (by decide +kernel) rfl rfl (Nat.le_of_ble_eq_true rfl) dX3_init_6 (fun H locs hP hD hS => ?_)
  have hP : va_P D vwCl [(h0, .inr (3, [.int 0, .int 0, .int 0, .null]))] H := hP
  have hD : va_D A [(h0, .inr (3, [.int 0, .int 0, .int 0, .null]))] := hD
  refine lv_aload_n hx hb dX3_init_9 rfl (lv_at hl 0 rfl) ?_
  refine lv_iconst (v := 0) hx hb dX3_init_10 (by decide) ?_
  refine va_put (D := D) (ci := 3) (v := .int 0) (ty := .int) (C := RX3) (T := TX3) (N := 4) hx hb hts (by decide +kernel) tyX3 tyX3_ok nmX3 hown hK hP hD hS 0 rfl rfl 1 (by decide) (hts (.fieldLink RX3 15 "WoundMedals$Row" "lane" "I") (by decide +kernel)) (fun _ h9 => h9) rfl (by decide +kernel) rfl rfl (Nat.le_of_ble_eq_true rfl) dX3_init_11 (fun H locs hP hD hS => ?_)
  have hP : va_P D vwCl [(h0, .inr (3, [.int 0, .int 0, .int 0, .null]))] H := hP
  have hD : va_D A [(h0, .inr (3, [.int 0, .int 0, .int 0, .null]))] := hD
  refine lv_aload_n hx hb dX3_init_14 rfl (lv_at hl 0 rfl) ?_
  refine lv_iconst (v := 0) hx hb dX3_init_15 (by decide) ?_
  refine va_put (D := D) (ci := 3) (v := .int 0) (ty := .int) (C := RX3) (T := TX3) (N := 4) hx hb hts (by decide +kernel) tyX3 tyX3_ok nmX3 hown hK hP hD hS 0 rfl rfl 2 (by decide) (hts (.fieldLink RX3 19 "WoundMedals$Row" "length" "I") (by decide +kernel)) (fun _ h9 => h9) rfl (by decide +kernel) rfl rfl (Nat.le_of_ble_eq_true rfl) dX3_init_16 (fun H locs hP hD hS => ?_)
  have hP : va_P D vwCl [(h0, .inr (3, [.int 0, .int 0, .int 0, .null]))] H := hP
  have hD : va_D A [(h0, .inr (3, [.int 0, .int 0, .int 0, .null]))] := hD
  refine lv_aload_n hx hb dX3_init_19 rfl (lv_at hl 0 rfl) ?_
  refine lv_bipush (v := 24) hx hb dX3_init_20 (by decide) ?_
  refine va_newa (atype := .long) (ty := .long) (a0 := (24, .inr (.inl (fun _ => 0)))) hx hb (hts (.arrayClass .long) (by decide +kernel)) rfl hK hP hD hS hA (z_long 24) (nI_pos (n := 24) (by decide)) (n_cl (n := 24) (by decide)) (by show 24 * 8 ≤ 536870912; omega) (by show _ ≤ 1; omega) (by show _ ≤ 24; omega) dX3_init_22 (fun q1 cA2 H hK1 hP hD hS => ?_)
  obtain rfl := cA_1 hK hK1
  have hP : va_P D vwCl [(h0, .inr (3, [.int 0, .int 0, .int 0, .null])), (q1, .inl (g 1, 24, .inr (.inl (fun _ => 0))))] H := hP
  have hD : va_D A [(h0, .inr (3, [.int 0, .int 0, .int 0, .null])), (q1, .inl (g 1, 24, .inr (.inl (fun _ => 0))))] := hD
  refine va_putF (D := D) (ci := 3) (v := .ref q1) (ty := .array .long) (C := RX3) (T := TX3) (N := 4) hx hb hts (by decide +kernel) tyX3 tyX3_ok nmX3 hown hK hP hD hS 0 rfl rfl 3 (by decide) (hts (.fieldLink RX3 22 "WoundMedals$Row" "items" "[J") (by decide +kernel)) (fun _ h9 => h9) rfl hin rfl (by decide +kernel) rfl rfl (Nat.le_of_ble_eq_true rfl) dX3_init_24 (fun H locs hP hD hS => ?_)
  have hP : va_P D vwCl [(h0, .inr (3, [.int 0, .int 0, .int 0, .ref q1])), (q1, .inl (g 1, 24, .inr (.inl (fun _ => 0))))] H := hP
  have hD : va_D A [(h0, .inr (3, [.int 0, .int 0, .int 0, .ref q1])), (q1, .inl (g 1, 24, .inr (.inl (fun _ => 0))))] := hD
  exact hret (fun a => if a = 0 then (fun k => [h0, q1].getD k 0) else (fun _ => 0)) _ _ _ _ dX3_init_27 hP hD hS
theorem dX4_init_0 : decode cX4_init 0 = .ok (.aload_n 0, 1) := by decide +kernel
theorem dX4_init_1 : decode cX4_init 1 = .ok (.invokespecial 3, 3) := by decide +kernel
theorem dX4_init_4 : decode cX4_init 4 = .ok (.aload_n 0, 1) := by decide +kernel
theorem dX4_init_5 : decode cX4_init 5 = .ok (.bipush 90, 2) := by decide +kernel
theorem dX4_init_7 : decode cX4_init 7 = .ok (.newarray .char, 2) := by decide +kernel
theorem dX4_init_9 : decode cX4_init 9 = .ok (.putfield 9, 3) := by decide +kernel
theorem dX4_init_12 : decode cX4_init 12 = .ok (.aload_n 0, 1) := by decide +kernel
theorem dX4_init_13 : decode cX4_init 13 = .ok (.iconst 0, 1) := by decide +kernel
theorem dX4_init_14 : decode cX4_init 14 = .ok (.putfield 15, 3) := by decide +kernel
theorem dX4_init_17 : decode cX4_init 17 = .ok (.aload_n 0, 1) := by decide +kernel
theorem dX4_init_18 : decode cX4_init 18 = .ok (.iconst 0, 1) := by decide +kernel
theorem dX4_init_19 : decode cX4_init 19 = .ok (.putfield 19, 3) := by decide +kernel
theorem dX4_init_22 : decode cX4_init 22 = .ok (.return_, 1) := by decide +kernel
set_option maxHeartbeats 1000000 in
set_option maxRecDepth 100000 in
theorem kX4_init {l : Launch} {D : va_G} {g : Nat → ClassId} (h0 : Nat) (sz : Nat) : Met l yX4_init wsX4_init ({ frames := 1, cells := 1, slots := 90, locals := 100 }) (va_Pc [.ref h0] (pC D g [(h0, .inr (4, [.null, .int 0, .int 0]))] sz)) (qC D (va_A [(h0, .inr (4, [.null, .int 0, .int 0]))] sz) (fun u => [(h0, .inr (4, [.ref (u 0 1), .int 0, .int 0])), ((u 0 1), .inl (g 2, 90, .inl (fun _ => 0)))])) 1 90 (va_A [(h0, .inr (4, [.null, .int 0, .int 0]))] sz) := by
  revert sz
  refine KC.mk (by decide) rfl rfl (Nat.le_of_ble_eq_true rfl) ?_
  intro p e s m args below meth c ls A Q hx hb hml hown hts hin hK hT hA hP hD hS hl hret
  have hl : lv_has ls 1 [(0, .ref h0)] := hl
  refine lv_aload_n hx hb dX4_init_0 rfl (lv_at hl 0 rfl) ?_
  refine W.objInit hx hb hown (hts (.methodLink RX4 3 objectInit) (by decide +kernel)) (hts (.instanceMethod objectInit) (by decide +kernel)) (hts _ (List.mem_cons_of_mem _ (List.mem_of_getElem? (i := 2) rfl))) rfl (by rw [hml]; exact hl.1) rfl dX4_init_1 (Nat.le_of_ble_eq_true rfl) (Nat.le_of_ble_eq_true rfl) ?_
  refine W.eq (g2 := F0 m 4 ls []) rfl ?_
  refine lv_aload_n hx hb dX4_init_4 rfl (lv_at hl 0 rfl) ?_
  refine lv_bipush (v := 90) hx hb dX4_init_5 (by decide) ?_
  refine va_newa (atype := .char) (ty := .char) (a0 := (90, .inl (fun _ => 0))) hx hb (hts (.arrayClass .char) (by decide +kernel)) rfl hK hP hD hS hA (z_char 90) (nI_pos (n := 90) (by decide)) (n_cl (n := 90) (by decide)) (by show 90 * 2 ≤ 536870912; omega) (by show _ ≤ 1; omega) (by show _ ≤ 90; omega) dX4_init_7 (fun q1 cA2 H hK1 hP hD hS => ?_)
  obtain rfl := cA_2 hK hK1
  have hP : va_P D vwCl [(h0, .inr (4, [.null, .int 0, .int 0])), (q1, .inl (g 2, 90, .inl (fun _ => 0)))] H := hP
  have hD : va_D A [(h0, .inr (4, [.null, .int 0, .int 0])), (q1, .inl (g 2, 90, .inl (fun _ => 0)))] := hD
  refine va_putF (D := D) (ci := 4) (v := .ref q1) (ty := .array .char) (C := RX4) (T := TX4) (N := 3) hx hb hts (by decide +kernel) tyX4 tyX4_ok nmX4 hown hK hP hD hS 0 rfl rfl 0 (by decide) (hts (.fieldLink RX4 9 "WoundMedals$Tape" "letters" "[C") (by decide +kernel)) (fun _ h9 => h9) rfl hin rfl (by decide +kernel) rfl rfl (Nat.le_of_ble_eq_true rfl) dX4_init_9 (fun H locs hP hD hS => ?_)
  have hP : va_P D vwCl [(h0, .inr (4, [.ref q1, .int 0, .int 0])), (q1, .inl (g 2, 90, .inl (fun _ => 0)))] H := hP
  have hD : va_D A [(h0, .inr (4, [.ref q1, .int 0, .int 0])), (q1, .inl (g 2, 90, .inl (fun _ => 0)))] := hD
  refine lv_aload_n hx hb dX4_init_12 rfl (lv_at hl 0 rfl) ?_
  refine lv_iconst (v := 0) hx hb dX4_init_13 (by decide) ?_
  refine va_put (D := D) (ci := 4) (v := .int 0) (ty := .int) (C := RX4) (T := TX4) (N := 3) hx hb hts (by decide +kernel) tyX4 tyX4_ok nmX4 hown hK hP hD hS 0 rfl rfl 1 (by decide) (hts (.fieldLink RX4 15 "WoundMedals$Tape" "length" "I") (by decide +kernel)) (fun _ h9 => h9) rfl (by decide +kernel) rfl rfl (Nat.le_of_ble_eq_true rfl) dX4_init_14 (fun H locs hP hD hS => ?_)
  have hP : va_P D vwCl [(h0, .inr (4, [.ref q1, .int 0, .int 0])), (q1, .inl (g 2, 90, .inl (fun _ => 0)))] H := hP
  have hD : va_D A [(h0, .inr (4, [.ref q1, .int 0, .int 0])), (q1, .inl (g 2, 90, .inl (fun _ => 0)))] := hD
  refine lv_aload_n hx hb dX4_init_17 rfl (lv_at hl 0 rfl) ?_
  refine lv_iconst (v := 0) hx hb dX4_init_18 (by decide) ?_
  refine va_put (D := D) (ci := 4) (v := .int 0) (ty := .int) (C := RX4) (T := TX4) (N := 3) hx hb hts (by decide +kernel) tyX4 tyX4_ok nmX4 hown hK hP hD hS 0 rfl rfl 2 (by decide) (hts (.fieldLink RX4 19 "WoundMedals$Tape" "place" "I") (by decide +kernel)) (fun _ h9 => h9) rfl (by decide +kernel) rfl rfl (Nat.le_of_ble_eq_true rfl) dX4_init_19 (fun H locs hP hD hS => ?_)
  have hP : va_P D vwCl [(h0, .inr (4, [.ref q1, .int 0, .int 0])), (q1, .inl (g 2, 90, .inl (fun _ => 0)))] H := hP
  have hD : va_D A [(h0, .inr (4, [.ref q1, .int 0, .int 0])), (q1, .inl (g 2, 90, .inl (fun _ => 0)))] := hD
  exact hret (fun a => if a = 0 then (fun k => [h0, q1].getD k 0) else (fun _ => 0)) _ _ _ _ dX4_init_22 hP hD hS
theorem dX0_init_0 : decode cX0_init 0 = .ok (.aload_n 0, 1) := by decide +kernel
theorem dX0_init_1 : decode cX0_init 1 = .ok (.invokespecial 3, 3) := by decide +kernel
theorem dX0_init_4 : decode cX0_init 4 = .ok (.aload_n 0, 1) := by decide +kernel
theorem dX0_init_5 : decode cX0_init 5 = .ok (.iconst 5, 1) := by decide +kernel
theorem dX0_init_6 : decode cX0_init 6 = .ok (.bipush 64, 2) := by decide +kernel
theorem dX0_init_8 : decode cX0_init 8 = .ok (.multianewarray 9 2, 4) := by decide +kernel
theorem dX0_init_12 : decode cX0_init 12 = .ok (.putfield 11, 3) := by decide +kernel
theorem dX0_init_15 : decode cX0_init 15 = .ok (.aload_n 0, 1) := by decide +kernel
theorem dX0_init_16 : decode cX0_init 16 = .ok (.iconst 0, 1) := by decide +kernel
theorem dX0_init_17 : decode cX0_init 17 = .ok (.putfield 16, 3) := by decide +kernel
theorem dX0_init_20 : decode cX0_init 20 = .ok (.aload_n 0, 1) := by decide +kernel
theorem dX0_init_21 : decode cX0_init 21 = .ok (.iconst 5, 1) := by decide +kernel
theorem dX0_init_22 : decode cX0_init 22 = .ok (.newarray .int, 2) := by decide +kernel
theorem dX0_init_24 : decode cX0_init 24 = .ok (.putfield 20, 3) := by decide +kernel
theorem dX0_init_27 : decode cX0_init 27 = .ok (.aload_n 0, 1) := by decide +kernel
theorem dX0_init_28 : decode cX0_init 28 = .ok (.bipush 6, 2) := by decide +kernel
theorem dX0_init_30 : decode cX0_init 30 = .ok (.newarray .int, 2) := by decide +kernel
theorem dX0_init_32 : decode cX0_init 32 = .ok (.putfield 24, 3) := by decide +kernel
theorem dX0_init_35 : decode cX0_init 35 = .ok (.aload_n 0, 1) := by decide +kernel
theorem dX0_init_36 : decode cX0_init 36 = .ok (.bipush 6, 2) := by decide +kernel
theorem dX0_init_38 : decode cX0_init 38 = .ok (.newarray .int, 2) := by decide +kernel
theorem dX0_init_40 : decode cX0_init 40 = .ok (.putfield 27, 3) := by decide +kernel
theorem dX0_init_43 : decode cX0_init 43 = .ok (.aload_n 0, 1) := by decide +kernel
theorem dX0_init_44 : decode cX0_init 44 = .ok (.bipush 64, 2) := by decide +kernel
theorem dX0_init_46 : decode cX0_init 46 = .ok (.newarray .int, 2) := by decide +kernel
theorem dX0_init_48 : decode cX0_init 48 = .ok (.putfield 30, 3) := by decide +kernel
theorem dX0_init_51 : decode cX0_init 51 = .ok (.aload_n 0, 1) := by decide +kernel
theorem dX0_init_52 : decode cX0_init 52 = .ok (.iconst 0, 1) := by decide +kernel
theorem dX0_init_53 : decode cX0_init 53 = .ok (.putfield 33, 3) := by decide +kernel
theorem dX0_init_56 : decode cX0_init 56 = .ok (.aload_n 0, 1) := by decide +kernel
theorem dX0_init_57 : decode cX0_init 57 = .ok (.iconst 0, 1) := by decide +kernel
theorem dX0_init_58 : decode cX0_init 58 = .ok (.putfield 37, 3) := by decide +kernel
theorem dX0_init_61 : decode cX0_init 61 = .ok (.aload_n 0, 1) := by decide +kernel
theorem dX0_init_62 : decode cX0_init 62 = .ok (.aload_n 1, 1) := by decide +kernel
theorem dX0_init_63 : decode cX0_init 63 = .ok (.putfield 40, 3) := by decide +kernel
theorem dX0_init_66 : decode cX0_init 66 = .ok (.return_, 1) := by decide +kernel
set_option maxHeartbeats 1000000 in
set_option maxRecDepth 100000 in
theorem kX0_init {l : Launch} {D : va_G} {g : Nat → ClassId} (h0 hm : Nat) (sz : Nat) : Met l yX0_init wsX0_init ({ frames := 1, cells := 10, slots := 406, locals := 100 }) (va_Pc [.ref h0, .ref hm] (pC D g [(h0, .inr (0, [.null, .null, .int 0, .null, .null, .null, .null, .int 0, .int 0]))] sz)) (qC D (va_A [(h0, .inr (0, [.null, .null, .int 0, .null, .null, .null, .null, .int 0, .int 0]))] sz) (fun u => [(h0, .inr (0, [.ref hm, .ref (u 0 1), .int 0, .ref (u 0 2), .ref (u 0 3), .ref (u 0 4), .ref (u 0 5), .int 0, .int 0])), ((u 0 1), .inl (g 3, 5, .inr (.inr (.inr (.inr (fun i => if i < 5 then some (u 1 i) else none)))))), ((u 1 0), .inl (g 0, 64, .inl (fun _ => 0))), ((u 1 1), .inl (g 0, 64, .inl (fun _ => 0))), ((u 1 2), .inl (g 0, 64, .inl (fun _ => 0))), ((u 1 3), .inl (g 0, 64, .inl (fun _ => 0))), ((u 1 4), .inl (g 0, 64, .inl (fun _ => 0))), ((u 0 2), .inl (g 0, 5, .inl (fun _ => 0))), ((u 0 3), .inl (g 0, 6, .inl (fun _ => 0))), ((u 0 4), .inl (g 0, 6, .inl (fun _ => 0))), ((u 0 5), .inl (g 0, 64, .inl (fun _ => 0)))])) 10 406 (va_A [(h0, .inr (0, [.null, .null, .int 0, .null, .null, .null, .null, .int 0, .int 0]))] sz) := by
  revert sz
  refine KC.mk (by decide) rfl rfl (Nat.le_of_ble_eq_true rfl) ?_
  intro p e s m args below meth c ls A Q hx hb hml hown hts hin hK hT hA hP hD hS hl hret
  have hl : lv_has ls 2 [(0, .ref h0), (1, .ref hm)] := hl
  refine lv_aload_n hx hb dX0_init_0 rfl (lv_at hl 0 rfl) ?_
  refine W.objInit hx hb hown (hts (.methodLink RX0 3 objectInit) (by decide +kernel)) (hts (.instanceMethod objectInit) (by decide +kernel)) (hts _ (List.mem_cons_of_mem _ (List.mem_of_getElem? (i := 2) rfl))) rfl (by rw [hml]; exact hl.1) rfl dX0_init_1 (Nat.le_of_ble_eq_true rfl) (Nat.le_of_ble_eq_true rfl) ?_
  refine W.eq (g2 := F0 m 4 ls []) rfl ?_
  refine lv_aload_n hx hb dX0_init_4 rfl (lv_at hl 0 rfl) ?_
  refine lv_iconst (v := 5) hx hb dX0_init_5 (by decide) ?_
  refine lv_bipush (v := 64) hx hb dX0_init_6 (by decide) ?_
  refine va_mna (ty := .int) (cy := g 0) (X := [(h0, .inr (0, [.null, .null, .int 0, .null, .null, .null, .null, .int 0, .int 0]))]) (L := []) (f := fun _ => .inr (0, [])) (z := (64, .inl (fun _ => 0))) hx hb hown (hts (.classLink RX0 9 "[[I") (by decide +kernel)) hT.2.1 (hts (.arrayClass .int) (by decide +kernel)) (hK.2 0 _ rfl).2 hK (by rw [show va_pl [] _ = [] from rfl, List.append_nil]; exact hP) (by rw [show va_pl [] _ = [] from rfl, List.append_nil]; exact hD) hS hA (nI_pos (n := 5) (by decide)) (nI_pos (n := 64) (by decide)) (n_cl (n := 5) (by decide)) (n_cl (n := 64) (by decide)) (by omega) (by show _ * 4 ≤ 536870912; omega) (by omega) rfl rfl (by show _ ≤ 10; omega) (by show _ ≤ 406; omega) (z_int 64) dX0_init_8 (fun q1 r2 cA3 H hinj hnl hK1 hP hD hS => ?_)
  obtain rfl := cA_3 hK hK1
  rw [← vr_rows (L := []) (fun _ _ h => absurd h List.not_mem_nil)] at hP hD
  have hP : va_P D vwCl [(h0, .inr (0, [.null, .null, .int 0, .null, .null, .null, .null, .int 0, .int 0])), (q1, .inl (g 3, 5, .inr (.inr (.inr (.inr (fun i => if i < 5 then some (r2 i) else none)))))), ((r2 0), .inl (g 0, 64, .inl (fun _ => 0))), ((r2 1), .inl (g 0, 64, .inl (fun _ => 0))), ((r2 2), .inl (g 0, 64, .inl (fun _ => 0))), ((r2 3), .inl (g 0, 64, .inl (fun _ => 0))), ((r2 4), .inl (g 0, 64, .inl (fun _ => 0)))] H := hP
  have hD : va_D A [(h0, .inr (0, [.null, .null, .int 0, .null, .null, .null, .null, .int 0, .int 0])), (q1, .inl (g 3, 5, .inr (.inr (.inr (.inr (fun i => if i < 5 then some (r2 i) else none)))))), ((r2 0), .inl (g 0, 64, .inl (fun _ => 0))), ((r2 1), .inl (g 0, 64, .inl (fun _ => 0))), ((r2 2), .inl (g 0, 64, .inl (fun _ => 0))), ((r2 3), .inl (g 0, 64, .inl (fun _ => 0))), ((r2 4), .inl (g 0, 64, .inl (fun _ => 0)))] := hD
  refine va_putF (D := D) (ci := 0) (v := .ref q1) (ty := .array (.array .int)) (C := RX0) (T := TX0) (N := 9) hx hb hts (by decide +kernel) tyX0 tyX0_ok nmX0 hown hK hP hD hS 0 rfl rfl 1 (by decide) (hts (.fieldLink RX0 11 "WoundMedals$Hanging" "loads" "[[I") (by decide +kernel)) (fun _ h9 => h9) rfl hin rfl (by decide +kernel) rfl rfl (Nat.le_of_ble_eq_true rfl) dX0_init_12 (fun H locs hP hD hS => ?_)
  have hP : va_P D vwCl [(h0, .inr (0, [.null, .ref q1, .int 0, .null, .null, .null, .null, .int 0, .int 0])), (q1, .inl (g 3, 5, .inr (.inr (.inr (.inr (fun i => if i < 5 then some (r2 i) else none)))))), ((r2 0), .inl (g 0, 64, .inl (fun _ => 0))), ((r2 1), .inl (g 0, 64, .inl (fun _ => 0))), ((r2 2), .inl (g 0, 64, .inl (fun _ => 0))), ((r2 3), .inl (g 0, 64, .inl (fun _ => 0))), ((r2 4), .inl (g 0, 64, .inl (fun _ => 0)))] H := hP
  have hD : va_D A [(h0, .inr (0, [.null, .ref q1, .int 0, .null, .null, .null, .null, .int 0, .int 0])), (q1, .inl (g 3, 5, .inr (.inr (.inr (.inr (fun i => if i < 5 then some (r2 i) else none)))))), ((r2 0), .inl (g 0, 64, .inl (fun _ => 0))), ((r2 1), .inl (g 0, 64, .inl (fun _ => 0))), ((r2 2), .inl (g 0, 64, .inl (fun _ => 0))), ((r2 3), .inl (g 0, 64, .inl (fun _ => 0))), ((r2 4), .inl (g 0, 64, .inl (fun _ => 0)))] := hD
  refine lv_aload_n hx hb dX0_init_15 rfl (lv_at hl 0 rfl) ?_
  refine lv_iconst (v := 0) hx hb dX0_init_16 (by decide) ?_
  refine va_put (D := D) (ci := 0) (v := .int 0) (ty := .int) (C := RX0) (T := TX0) (N := 9) hx hb hts (by decide +kernel) tyX0 tyX0_ok nmX0 hown hK hP hD hS 0 rfl rfl 2 (by decide) (hts (.fieldLink RX0 16 "WoundMedals$Hanging" "worn" "I") (by decide +kernel)) (fun _ h9 => h9) rfl (by decide +kernel) rfl rfl (Nat.le_of_ble_eq_true rfl) dX0_init_17 (fun H locs hP hD hS => ?_)
  have hP : va_P D vwCl [(h0, .inr (0, [.null, .ref q1, .int 0, .null, .null, .null, .null, .int 0, .int 0])), (q1, .inl (g 3, 5, .inr (.inr (.inr (.inr (fun i => if i < 5 then some (r2 i) else none)))))), ((r2 0), .inl (g 0, 64, .inl (fun _ => 0))), ((r2 1), .inl (g 0, 64, .inl (fun _ => 0))), ((r2 2), .inl (g 0, 64, .inl (fun _ => 0))), ((r2 3), .inl (g 0, 64, .inl (fun _ => 0))), ((r2 4), .inl (g 0, 64, .inl (fun _ => 0)))] H := hP
  have hD : va_D A [(h0, .inr (0, [.null, .ref q1, .int 0, .null, .null, .null, .null, .int 0, .int 0])), (q1, .inl (g 3, 5, .inr (.inr (.inr (.inr (fun i => if i < 5 then some (r2 i) else none)))))), ((r2 0), .inl (g 0, 64, .inl (fun _ => 0))), ((r2 1), .inl (g 0, 64, .inl (fun _ => 0))), ((r2 2), .inl (g 0, 64, .inl (fun _ => 0))), ((r2 3), .inl (g 0, 64, .inl (fun _ => 0))), ((r2 4), .inl (g 0, 64, .inl (fun _ => 0)))] := hD
  refine lv_aload_n hx hb dX0_init_20 rfl (lv_at hl 0 rfl) ?_
  refine lv_iconst (v := 5) hx hb dX0_init_21 (by decide) ?_
  refine va_newa (atype := .int) (ty := .int) (a0 := (5, .inl (fun _ => 0))) hx hb (hts (.arrayClass .int) (by decide +kernel)) rfl hK hP hD hS hA (z_int 5) (nI_pos (n := 5) (by decide)) (n_cl (n := 5) (by decide)) (by show 5 * 4 ≤ 536870912; omega) (by show _ ≤ 10; omega) (by show _ ≤ 406; omega) dX0_init_22 (fun q4 cA5 H hK1 hP hD hS => ?_)
  obtain rfl := cA_0 hK hK1
  have hP : va_P D vwCl [(h0, .inr (0, [.null, .ref q1, .int 0, .null, .null, .null, .null, .int 0, .int 0])), (q1, .inl (g 3, 5, .inr (.inr (.inr (.inr (fun i => if i < 5 then some (r2 i) else none)))))), ((r2 0), .inl (g 0, 64, .inl (fun _ => 0))), ((r2 1), .inl (g 0, 64, .inl (fun _ => 0))), ((r2 2), .inl (g 0, 64, .inl (fun _ => 0))), ((r2 3), .inl (g 0, 64, .inl (fun _ => 0))), ((r2 4), .inl (g 0, 64, .inl (fun _ => 0))), (q4, .inl (g 0, 5, .inl (fun _ => 0)))] H := hP
  have hD : va_D A [(h0, .inr (0, [.null, .ref q1, .int 0, .null, .null, .null, .null, .int 0, .int 0])), (q1, .inl (g 3, 5, .inr (.inr (.inr (.inr (fun i => if i < 5 then some (r2 i) else none)))))), ((r2 0), .inl (g 0, 64, .inl (fun _ => 0))), ((r2 1), .inl (g 0, 64, .inl (fun _ => 0))), ((r2 2), .inl (g 0, 64, .inl (fun _ => 0))), ((r2 3), .inl (g 0, 64, .inl (fun _ => 0))), ((r2 4), .inl (g 0, 64, .inl (fun _ => 0))), (q4, .inl (g 0, 5, .inl (fun _ => 0)))] := hD
  refine va_putF (D := D) (ci := 0) (v := .ref q4) (ty := .array .int) (C := RX0) (T := TX0) (N := 9) hx hb hts (by decide +kernel) tyX0 tyX0_ok nmX0 hown hK hP hD hS 0 rfl rfl 3 (by decide) (hts (.fieldLink RX0 20 "WoundMedals$Hanging" "setOf" "[I") (by decide +kernel)) (fun _ h9 => h9) rfl hin rfl (by decide +kernel) rfl rfl (Nat.le_of_ble_eq_true rfl) dX0_init_24 (fun H locs hP hD hS => ?_)
  have hP : va_P D vwCl [(h0, .inr (0, [.null, .ref q1, .int 0, .ref q4, .null, .null, .null, .int 0, .int 0])), (q1, .inl (g 3, 5, .inr (.inr (.inr (.inr (fun i => if i < 5 then some (r2 i) else none)))))), ((r2 0), .inl (g 0, 64, .inl (fun _ => 0))), ((r2 1), .inl (g 0, 64, .inl (fun _ => 0))), ((r2 2), .inl (g 0, 64, .inl (fun _ => 0))), ((r2 3), .inl (g 0, 64, .inl (fun _ => 0))), ((r2 4), .inl (g 0, 64, .inl (fun _ => 0))), (q4, .inl (g 0, 5, .inl (fun _ => 0)))] H := hP
  have hD : va_D A [(h0, .inr (0, [.null, .ref q1, .int 0, .ref q4, .null, .null, .null, .int 0, .int 0])), (q1, .inl (g 3, 5, .inr (.inr (.inr (.inr (fun i => if i < 5 then some (r2 i) else none)))))), ((r2 0), .inl (g 0, 64, .inl (fun _ => 0))), ((r2 1), .inl (g 0, 64, .inl (fun _ => 0))), ((r2 2), .inl (g 0, 64, .inl (fun _ => 0))), ((r2 3), .inl (g 0, 64, .inl (fun _ => 0))), ((r2 4), .inl (g 0, 64, .inl (fun _ => 0))), (q4, .inl (g 0, 5, .inl (fun _ => 0)))] := hD
  refine lv_aload_n hx hb dX0_init_27 rfl (lv_at hl 0 rfl) ?_
  refine lv_bipush (v := 6) hx hb dX0_init_28 (by decide) ?_
  refine va_newa (atype := .int) (ty := .int) (a0 := (6, .inl (fun _ => 0))) hx hb (hts (.arrayClass .int) (by decide +kernel)) rfl hK hP hD hS hA (z_int 6) (nI_pos (n := 6) (by decide)) (n_cl (n := 6) (by decide)) (by show 6 * 4 ≤ 536870912; omega) (by show _ ≤ 10; omega) (by show _ ≤ 406; omega) dX0_init_30 (fun q6 cA7 H hK1 hP hD hS => ?_)
  obtain rfl := cA_0 hK hK1
  have hP : va_P D vwCl [(h0, .inr (0, [.null, .ref q1, .int 0, .ref q4, .null, .null, .null, .int 0, .int 0])), (q1, .inl (g 3, 5, .inr (.inr (.inr (.inr (fun i => if i < 5 then some (r2 i) else none)))))), ((r2 0), .inl (g 0, 64, .inl (fun _ => 0))), ((r2 1), .inl (g 0, 64, .inl (fun _ => 0))), ((r2 2), .inl (g 0, 64, .inl (fun _ => 0))), ((r2 3), .inl (g 0, 64, .inl (fun _ => 0))), ((r2 4), .inl (g 0, 64, .inl (fun _ => 0))), (q4, .inl (g 0, 5, .inl (fun _ => 0))), (q6, .inl (g 0, 6, .inl (fun _ => 0)))] H := hP
  have hD : va_D A [(h0, .inr (0, [.null, .ref q1, .int 0, .ref q4, .null, .null, .null, .int 0, .int 0])), (q1, .inl (g 3, 5, .inr (.inr (.inr (.inr (fun i => if i < 5 then some (r2 i) else none)))))), ((r2 0), .inl (g 0, 64, .inl (fun _ => 0))), ((r2 1), .inl (g 0, 64, .inl (fun _ => 0))), ((r2 2), .inl (g 0, 64, .inl (fun _ => 0))), ((r2 3), .inl (g 0, 64, .inl (fun _ => 0))), ((r2 4), .inl (g 0, 64, .inl (fun _ => 0))), (q4, .inl (g 0, 5, .inl (fun _ => 0))), (q6, .inl (g 0, 6, .inl (fun _ => 0)))] := hD
  refine va_putF (D := D) (ci := 0) (v := .ref q6) (ty := .array .int) (C := RX0) (T := TX0) (N := 9) hx hb hts (by decide +kernel) tyX0 tyX0_ok nmX0 hown hK hP hD hS 0 rfl rfl 4 (by decide) (hts (.fieldLink RX0 24 "WoundMedals$Hanging" "tried" "[I") (by decide +kernel)) (fun _ h9 => h9) rfl hin rfl (by decide +kernel) rfl rfl (Nat.le_of_ble_eq_true rfl) dX0_init_32 (fun H locs hP hD hS => ?_)
  have hP : va_P D vwCl [(h0, .inr (0, [.null, .ref q1, .int 0, .ref q4, .ref q6, .null, .null, .int 0, .int 0])), (q1, .inl (g 3, 5, .inr (.inr (.inr (.inr (fun i => if i < 5 then some (r2 i) else none)))))), ((r2 0), .inl (g 0, 64, .inl (fun _ => 0))), ((r2 1), .inl (g 0, 64, .inl (fun _ => 0))), ((r2 2), .inl (g 0, 64, .inl (fun _ => 0))), ((r2 3), .inl (g 0, 64, .inl (fun _ => 0))), ((r2 4), .inl (g 0, 64, .inl (fun _ => 0))), (q4, .inl (g 0, 5, .inl (fun _ => 0))), (q6, .inl (g 0, 6, .inl (fun _ => 0)))] H := hP
  have hD : va_D A [(h0, .inr (0, [.null, .ref q1, .int 0, .ref q4, .ref q6, .null, .null, .int 0, .int 0])), (q1, .inl (g 3, 5, .inr (.inr (.inr (.inr (fun i => if i < 5 then some (r2 i) else none)))))), ((r2 0), .inl (g 0, 64, .inl (fun _ => 0))), ((r2 1), .inl (g 0, 64, .inl (fun _ => 0))), ((r2 2), .inl (g 0, 64, .inl (fun _ => 0))), ((r2 3), .inl (g 0, 64, .inl (fun _ => 0))), ((r2 4), .inl (g 0, 64, .inl (fun _ => 0))), (q4, .inl (g 0, 5, .inl (fun _ => 0))), (q6, .inl (g 0, 6, .inl (fun _ => 0)))] := hD
  refine lv_aload_n hx hb dX0_init_35 rfl (lv_at hl 0 rfl) ?_
  refine lv_bipush (v := 6) hx hb dX0_init_36 (by decide) ?_
  refine va_newa (atype := .int) (ty := .int) (a0 := (6, .inl (fun _ => 0))) hx hb (hts (.arrayClass .int) (by decide +kernel)) rfl hK hP hD hS hA (z_int 6) (nI_pos (n := 6) (by decide)) (n_cl (n := 6) (by decide)) (by show 6 * 4 ≤ 536870912; omega) (by show _ ≤ 10; omega) (by show _ ≤ 406; omega) dX0_init_38 (fun q8 cA9 H hK1 hP hD hS => ?_)
  obtain rfl := cA_0 hK hK1
  have hP : va_P D vwCl [(h0, .inr (0, [.null, .ref q1, .int 0, .ref q4, .ref q6, .null, .null, .int 0, .int 0])), (q1, .inl (g 3, 5, .inr (.inr (.inr (.inr (fun i => if i < 5 then some (r2 i) else none)))))), ((r2 0), .inl (g 0, 64, .inl (fun _ => 0))), ((r2 1), .inl (g 0, 64, .inl (fun _ => 0))), ((r2 2), .inl (g 0, 64, .inl (fun _ => 0))), ((r2 3), .inl (g 0, 64, .inl (fun _ => 0))), ((r2 4), .inl (g 0, 64, .inl (fun _ => 0))), (q4, .inl (g 0, 5, .inl (fun _ => 0))), (q6, .inl (g 0, 6, .inl (fun _ => 0))), (q8, .inl (g 0, 6, .inl (fun _ => 0)))] H := hP
  have hD : va_D A [(h0, .inr (0, [.null, .ref q1, .int 0, .ref q4, .ref q6, .null, .null, .int 0, .int 0])), (q1, .inl (g 3, 5, .inr (.inr (.inr (.inr (fun i => if i < 5 then some (r2 i) else none)))))), ((r2 0), .inl (g 0, 64, .inl (fun _ => 0))), ((r2 1), .inl (g 0, 64, .inl (fun _ => 0))), ((r2 2), .inl (g 0, 64, .inl (fun _ => 0))), ((r2 3), .inl (g 0, 64, .inl (fun _ => 0))), ((r2 4), .inl (g 0, 64, .inl (fun _ => 0))), (q4, .inl (g 0, 5, .inl (fun _ => 0))), (q6, .inl (g 0, 6, .inl (fun _ => 0))), (q8, .inl (g 0, 6, .inl (fun _ => 0)))] := hD
  refine va_putF (D := D) (ci := 0) (v := .ref q8) (ty := .array .int) (C := RX0) (T := TX0) (N := 9) hx hb hts (by decide +kernel) tyX0 tyX0_ok nmX0 hown hK hP hD hS 0 rfl rfl 5 (by decide) (hts (.fieldLink RX0 27 "WoundMedals$Hanging" "best" "[I") (by decide +kernel)) (fun _ h9 => h9) rfl hin rfl (by decide +kernel) rfl rfl (Nat.le_of_ble_eq_true rfl) dX0_init_40 (fun H locs hP hD hS => ?_)
  have hP : va_P D vwCl [(h0, .inr (0, [.null, .ref q1, .int 0, .ref q4, .ref q6, .ref q8, .null, .int 0, .int 0])), (q1, .inl (g 3, 5, .inr (.inr (.inr (.inr (fun i => if i < 5 then some (r2 i) else none)))))), ((r2 0), .inl (g 0, 64, .inl (fun _ => 0))), ((r2 1), .inl (g 0, 64, .inl (fun _ => 0))), ((r2 2), .inl (g 0, 64, .inl (fun _ => 0))), ((r2 3), .inl (g 0, 64, .inl (fun _ => 0))), ((r2 4), .inl (g 0, 64, .inl (fun _ => 0))), (q4, .inl (g 0, 5, .inl (fun _ => 0))), (q6, .inl (g 0, 6, .inl (fun _ => 0))), (q8, .inl (g 0, 6, .inl (fun _ => 0)))] H := hP
  have hD : va_D A [(h0, .inr (0, [.null, .ref q1, .int 0, .ref q4, .ref q6, .ref q8, .null, .int 0, .int 0])), (q1, .inl (g 3, 5, .inr (.inr (.inr (.inr (fun i => if i < 5 then some (r2 i) else none)))))), ((r2 0), .inl (g 0, 64, .inl (fun _ => 0))), ((r2 1), .inl (g 0, 64, .inl (fun _ => 0))), ((r2 2), .inl (g 0, 64, .inl (fun _ => 0))), ((r2 3), .inl (g 0, 64, .inl (fun _ => 0))), ((r2 4), .inl (g 0, 64, .inl (fun _ => 0))), (q4, .inl (g 0, 5, .inl (fun _ => 0))), (q6, .inl (g 0, 6, .inl (fun _ => 0))), (q8, .inl (g 0, 6, .inl (fun _ => 0)))] := hD
  refine lv_aload_n hx hb dX0_init_43 rfl (lv_at hl 0 rfl) ?_
  refine lv_bipush (v := 64) hx hb dX0_init_44 (by decide) ?_
  refine va_newa (atype := .int) (ty := .int) (a0 := (64, .inl (fun _ => 0))) hx hb (hts (.arrayClass .int) (by decide +kernel)) rfl hK hP hD hS hA (z_int 64) (nI_pos (n := 64) (by decide)) (n_cl (n := 64) (by decide)) (by show 64 * 4 ≤ 536870912; omega) (by show _ ≤ 10; omega) (by show _ ≤ 406; omega) dX0_init_46 (fun q10 cA11 H hK1 hP hD hS => ?_)
  obtain rfl := cA_0 hK hK1
  have hP : va_P D vwCl [(h0, .inr (0, [.null, .ref q1, .int 0, .ref q4, .ref q6, .ref q8, .null, .int 0, .int 0])), (q1, .inl (g 3, 5, .inr (.inr (.inr (.inr (fun i => if i < 5 then some (r2 i) else none)))))), ((r2 0), .inl (g 0, 64, .inl (fun _ => 0))), ((r2 1), .inl (g 0, 64, .inl (fun _ => 0))), ((r2 2), .inl (g 0, 64, .inl (fun _ => 0))), ((r2 3), .inl (g 0, 64, .inl (fun _ => 0))), ((r2 4), .inl (g 0, 64, .inl (fun _ => 0))), (q4, .inl (g 0, 5, .inl (fun _ => 0))), (q6, .inl (g 0, 6, .inl (fun _ => 0))), (q8, .inl (g 0, 6, .inl (fun _ => 0))), (q10, .inl (g 0, 64, .inl (fun _ => 0)))] H := hP
  have hD : va_D A [(h0, .inr (0, [.null, .ref q1, .int 0, .ref q4, .ref q6, .ref q8, .null, .int 0, .int 0])), (q1, .inl (g 3, 5, .inr (.inr (.inr (.inr (fun i => if i < 5 then some (r2 i) else none)))))), ((r2 0), .inl (g 0, 64, .inl (fun _ => 0))), ((r2 1), .inl (g 0, 64, .inl (fun _ => 0))), ((r2 2), .inl (g 0, 64, .inl (fun _ => 0))), ((r2 3), .inl (g 0, 64, .inl (fun _ => 0))), ((r2 4), .inl (g 0, 64, .inl (fun _ => 0))), (q4, .inl (g 0, 5, .inl (fun _ => 0))), (q6, .inl (g 0, 6, .inl (fun _ => 0))), (q8, .inl (g 0, 6, .inl (fun _ => 0))), (q10, .inl (g 0, 64, .inl (fun _ => 0)))] := hD
  refine va_putF (D := D) (ci := 0) (v := .ref q10) (ty := .array .int) (C := RX0) (T := TX0) (N := 9) hx hb hts (by decide +kernel) tyX0 tyX0_ok nmX0 hown hK hP hD hS 0 rfl rfl 6 (by decide) (hts (.fieldLink RX0 30 "WoundMedals$Hanging" "waysOfSet" "[I") (by decide +kernel)) (fun _ h9 => h9) rfl hin rfl (by decide +kernel) rfl rfl (Nat.le_of_ble_eq_true rfl) dX0_init_48 (fun H locs hP hD hS => ?_)
  have hP : va_P D vwCl [(h0, .inr (0, [.null, .ref q1, .int 0, .ref q4, .ref q6, .ref q8, .ref q10, .int 0, .int 0])), (q1, .inl (g 3, 5, .inr (.inr (.inr (.inr (fun i => if i < 5 then some (r2 i) else none)))))), ((r2 0), .inl (g 0, 64, .inl (fun _ => 0))), ((r2 1), .inl (g 0, 64, .inl (fun _ => 0))), ((r2 2), .inl (g 0, 64, .inl (fun _ => 0))), ((r2 3), .inl (g 0, 64, .inl (fun _ => 0))), ((r2 4), .inl (g 0, 64, .inl (fun _ => 0))), (q4, .inl (g 0, 5, .inl (fun _ => 0))), (q6, .inl (g 0, 6, .inl (fun _ => 0))), (q8, .inl (g 0, 6, .inl (fun _ => 0))), (q10, .inl (g 0, 64, .inl (fun _ => 0)))] H := hP
  have hD : va_D A [(h0, .inr (0, [.null, .ref q1, .int 0, .ref q4, .ref q6, .ref q8, .ref q10, .int 0, .int 0])), (q1, .inl (g 3, 5, .inr (.inr (.inr (.inr (fun i => if i < 5 then some (r2 i) else none)))))), ((r2 0), .inl (g 0, 64, .inl (fun _ => 0))), ((r2 1), .inl (g 0, 64, .inl (fun _ => 0))), ((r2 2), .inl (g 0, 64, .inl (fun _ => 0))), ((r2 3), .inl (g 0, 64, .inl (fun _ => 0))), ((r2 4), .inl (g 0, 64, .inl (fun _ => 0))), (q4, .inl (g 0, 5, .inl (fun _ => 0))), (q6, .inl (g 0, 6, .inl (fun _ => 0))), (q8, .inl (g 0, 6, .inl (fun _ => 0))), (q10, .inl (g 0, 64, .inl (fun _ => 0)))] := hD
  refine lv_aload_n hx hb dX0_init_51 rfl (lv_at hl 0 rfl) ?_
  refine lv_iconst (v := 0) hx hb dX0_init_52 (by decide) ?_
  refine va_put (D := D) (ci := 0) (v := .int 0) (ty := .boolean) (C := RX0) (T := TX0) (N := 9) hx hb hts (by decide +kernel) tyX0 tyX0_ok nmX0 hown hK hP hD hS 0 rfl rfl 7 (by decide) (hts (.fieldLink RX0 33 "WoundMedals$Hanging" "wantsFew" "Z") (by decide +kernel)) (fun _ h9 => h9) rfl (by decide +kernel) rfl rfl (Nat.le_of_ble_eq_true rfl) dX0_init_53 (fun H locs hP hD hS => ?_)
  have hP : va_P D vwCl [(h0, .inr (0, [.null, .ref q1, .int 0, .ref q4, .ref q6, .ref q8, .ref q10, .int 0, .int 0])), (q1, .inl (g 3, 5, .inr (.inr (.inr (.inr (fun i => if i < 5 then some (r2 i) else none)))))), ((r2 0), .inl (g 0, 64, .inl (fun _ => 0))), ((r2 1), .inl (g 0, 64, .inl (fun _ => 0))), ((r2 2), .inl (g 0, 64, .inl (fun _ => 0))), ((r2 3), .inl (g 0, 64, .inl (fun _ => 0))), ((r2 4), .inl (g 0, 64, .inl (fun _ => 0))), (q4, .inl (g 0, 5, .inl (fun _ => 0))), (q6, .inl (g 0, 6, .inl (fun _ => 0))), (q8, .inl (g 0, 6, .inl (fun _ => 0))), (q10, .inl (g 0, 64, .inl (fun _ => 0)))] H := hP
  have hD : va_D A [(h0, .inr (0, [.null, .ref q1, .int 0, .ref q4, .ref q6, .ref q8, .ref q10, .int 0, .int 0])), (q1, .inl (g 3, 5, .inr (.inr (.inr (.inr (fun i => if i < 5 then some (r2 i) else none)))))), ((r2 0), .inl (g 0, 64, .inl (fun _ => 0))), ((r2 1), .inl (g 0, 64, .inl (fun _ => 0))), ((r2 2), .inl (g 0, 64, .inl (fun _ => 0))), ((r2 3), .inl (g 0, 64, .inl (fun _ => 0))), ((r2 4), .inl (g 0, 64, .inl (fun _ => 0))), (q4, .inl (g 0, 5, .inl (fun _ => 0))), (q6, .inl (g 0, 6, .inl (fun _ => 0))), (q8, .inl (g 0, 6, .inl (fun _ => 0))), (q10, .inl (g 0, 64, .inl (fun _ => 0)))] := hD
  refine lv_aload_n hx hb dX0_init_56 rfl (lv_at hl 0 rfl) ?_
  refine lv_iconst (v := 0) hx hb dX0_init_57 (by decide) ?_
  refine va_put (D := D) (ci := 0) (v := .int 0) (ty := .int) (C := RX0) (T := TX0) (N := 9) hx hb hts (by decide +kernel) tyX0 tyX0_ok nmX0 hown hK hP hD hS 0 rfl rfl 8 (by decide) (hts (.fieldLink RX0 37 "WoundMedals$Hanging" "bestCost" "I") (by decide +kernel)) (fun _ h9 => h9) rfl (by decide +kernel) rfl rfl (Nat.le_of_ble_eq_true rfl) dX0_init_58 (fun H locs hP hD hS => ?_)
  have hP : va_P D vwCl [(h0, .inr (0, [.null, .ref q1, .int 0, .ref q4, .ref q6, .ref q8, .ref q10, .int 0, .int 0])), (q1, .inl (g 3, 5, .inr (.inr (.inr (.inr (fun i => if i < 5 then some (r2 i) else none)))))), ((r2 0), .inl (g 0, 64, .inl (fun _ => 0))), ((r2 1), .inl (g 0, 64, .inl (fun _ => 0))), ((r2 2), .inl (g 0, 64, .inl (fun _ => 0))), ((r2 3), .inl (g 0, 64, .inl (fun _ => 0))), ((r2 4), .inl (g 0, 64, .inl (fun _ => 0))), (q4, .inl (g 0, 5, .inl (fun _ => 0))), (q6, .inl (g 0, 6, .inl (fun _ => 0))), (q8, .inl (g 0, 6, .inl (fun _ => 0))), (q10, .inl (g 0, 64, .inl (fun _ => 0)))] H := hP
  have hD : va_D A [(h0, .inr (0, [.null, .ref q1, .int 0, .ref q4, .ref q6, .ref q8, .ref q10, .int 0, .int 0])), (q1, .inl (g 3, 5, .inr (.inr (.inr (.inr (fun i => if i < 5 then some (r2 i) else none)))))), ((r2 0), .inl (g 0, 64, .inl (fun _ => 0))), ((r2 1), .inl (g 0, 64, .inl (fun _ => 0))), ((r2 2), .inl (g 0, 64, .inl (fun _ => 0))), ((r2 3), .inl (g 0, 64, .inl (fun _ => 0))), ((r2 4), .inl (g 0, 64, .inl (fun _ => 0))), (q4, .inl (g 0, 5, .inl (fun _ => 0))), (q6, .inl (g 0, 6, .inl (fun _ => 0))), (q8, .inl (g 0, 6, .inl (fun _ => 0))), (q10, .inl (g 0, 64, .inl (fun _ => 0)))] := hD
  refine lv_aload_n hx hb dX0_init_61 rfl (lv_at hl 0 rfl) ?_
  refine lv_aload_n hx hb dX0_init_62 rfl (lv_at hl 1 rfl) ?_
  refine va_putF (D := D) (ci := 0) (v := .ref hm) (ty := .object "WoundMedals$Muster") (C := RX0) (T := TX0) (N := 9) hx hb hts (by decide +kernel) tyX0 tyX0_ok nmX0 hown hK hP hD hS 0 rfl rfl 0 (by decide) (hts (.fieldLink RX0 40 "WoundMedals$Hanging" "muster" "LWoundMedals$Muster;") (by decide +kernel)) (fun _ h9 => h9) rfl hin rfl (by decide +kernel) rfl rfl (Nat.le_of_ble_eq_true rfl) dX0_init_63 (fun H locs hP hD hS => ?_)
  have hP : va_P D vwCl [(h0, .inr (0, [.ref hm, .ref q1, .int 0, .ref q4, .ref q6, .ref q8, .ref q10, .int 0, .int 0])), (q1, .inl (g 3, 5, .inr (.inr (.inr (.inr (fun i => if i < 5 then some (r2 i) else none)))))), ((r2 0), .inl (g 0, 64, .inl (fun _ => 0))), ((r2 1), .inl (g 0, 64, .inl (fun _ => 0))), ((r2 2), .inl (g 0, 64, .inl (fun _ => 0))), ((r2 3), .inl (g 0, 64, .inl (fun _ => 0))), ((r2 4), .inl (g 0, 64, .inl (fun _ => 0))), (q4, .inl (g 0, 5, .inl (fun _ => 0))), (q6, .inl (g 0, 6, .inl (fun _ => 0))), (q8, .inl (g 0, 6, .inl (fun _ => 0))), (q10, .inl (g 0, 64, .inl (fun _ => 0)))] H := hP
  have hD : va_D A [(h0, .inr (0, [.ref hm, .ref q1, .int 0, .ref q4, .ref q6, .ref q8, .ref q10, .int 0, .int 0])), (q1, .inl (g 3, 5, .inr (.inr (.inr (.inr (fun i => if i < 5 then some (r2 i) else none)))))), ((r2 0), .inl (g 0, 64, .inl (fun _ => 0))), ((r2 1), .inl (g 0, 64, .inl (fun _ => 0))), ((r2 2), .inl (g 0, 64, .inl (fun _ => 0))), ((r2 3), .inl (g 0, 64, .inl (fun _ => 0))), ((r2 4), .inl (g 0, 64, .inl (fun _ => 0))), (q4, .inl (g 0, 5, .inl (fun _ => 0))), (q6, .inl (g 0, 6, .inl (fun _ => 0))), (q8, .inl (g 0, 6, .inl (fun _ => 0))), (q10, .inl (g 0, 64, .inl (fun _ => 0)))] := hD
  exact hret (fun a => if a = 0 then (fun k => [h0, q1, q4, q6, q8, q10].getD k 0) else if a = 1 then (r2) else (fun _ => 0)) _ _ _ _ dX0_init_66 hP hD hS
theorem dX6_init_0 : decode cX6_init 0 = .ok (.aload_n 0, 1) := by decide +kernel
theorem dX6_init_1 : decode cX6_init 1 = .ok (.invokespecial 1, 3) := by decide +kernel
theorem dX6_init_4 : decode cX6_init 4 = .ok (.aload_n 0, 1) := by decide +kernel
theorem dX6_init_5 : decode cX6_init 5 = .ok (.iconst 4, 1) := by decide +kernel
theorem dX6_init_6 : decode cX6_init 6 = .ok (.newarray .int, 2) := by decide +kernel
theorem dX6_init_8 : decode cX6_init 8 = .ok (.putfield 7, 3) := by decide +kernel
theorem dX6_init_11 : decode cX6_init 11 = .ok (.aload_n 0, 1) := by decide +kernel
theorem dX6_init_12 : decode cX6_init 12 = .ok (.iconst 4, 1) := by decide +kernel
theorem dX6_init_13 : decode cX6_init 13 = .ok (.newarray .int, 2) := by decide +kernel
theorem dX6_init_15 : decode cX6_init 15 = .ok (.putfield 13, 3) := by decide +kernel
theorem dX6_init_18 : decode cX6_init 18 = .ok (.aload_n 0, 1) := by decide +kernel
theorem dX6_init_19 : decode cX6_init 19 = .ok (.bipush 96, 2) := by decide +kernel
theorem dX6_init_21 : decode cX6_init 21 = .ok (.newarray .long, 2) := by decide +kernel
theorem dX6_init_23 : decode cX6_init 23 = .ok (.putfield 16, 3) := by decide +kernel
theorem dX6_init_26 : decode cX6_init 26 = .ok (.aload_n 0, 1) := by decide +kernel
theorem dX6_init_27 : decode cX6_init 27 = .ok (.bipush 90, 2) := by decide +kernel
theorem dX6_init_29 : decode cX6_init 29 = .ok (.newarray .int, 2) := by decide +kernel
theorem dX6_init_31 : decode cX6_init 31 = .ok (.putfield 20, 3) := by decide +kernel
theorem dX6_init_34 : decode cX6_init 34 = .ok (.aload_n 0, 1) := by decide +kernel
theorem dX6_init_35 : decode cX6_init 35 = .ok (.sipush 191, 3) := by decide +kernel
theorem dX6_init_38 : decode cX6_init 38 = .ok (.newarray .int, 2) := by decide +kernel
theorem dX6_init_40 : decode cX6_init 40 = .ok (.putfield 23, 3) := by decide +kernel
theorem dX6_init_43 : decode cX6_init 43 = .ok (.aload_n 0, 1) := by decide +kernel
theorem dX6_init_44 : decode cX6_init 44 = .ok (.sipush 191, 3) := by decide +kernel
theorem dX6_init_47 : decode cX6_init 47 = .ok (.newarray .int, 2) := by decide +kernel
theorem dX6_init_49 : decode cX6_init 49 = .ok (.putfield 26, 3) := by decide +kernel
theorem dX6_init_52 : decode cX6_init 52 = .ok (.aload_n 0, 1) := by decide +kernel
theorem dX6_init_53 : decode cX6_init 53 = .ok (.sipush 191, 3) := by decide +kernel
theorem dX6_init_56 : decode cX6_init 56 = .ok (.newarray .int, 2) := by decide +kernel
theorem dX6_init_58 : decode cX6_init 58 = .ok (.putfield 29, 3) := by decide +kernel
theorem dX6_init_61 : decode cX6_init 61 = .ok (.aload_n 0, 1) := by decide +kernel
theorem dX6_init_62 : decode cX6_init 62 = .ok (.sipush 191, 3) := by decide +kernel
theorem dX6_init_65 : decode cX6_init 65 = .ok (.newarray .int, 2) := by decide +kernel
theorem dX6_init_67 : decode cX6_init 67 = .ok (.putfield 32, 3) := by decide +kernel
theorem dX6_init_70 : decode cX6_init 70 = .ok (.aload_n 0, 1) := by decide +kernel
theorem dX6_init_71 : decode cX6_init 71 = .ok (.bipush 6, 2) := by decide +kernel
theorem dX6_init_73 : decode cX6_init 73 = .ok (.newarray .int, 2) := by decide +kernel
theorem dX6_init_75 : decode cX6_init 75 = .ok (.putfield 35, 3) := by decide +kernel
theorem dX6_init_78 : decode cX6_init 78 = .ok (.iconst 0, 1) := by decide +kernel
theorem dX6_init_79 : decode cX6_init 79 = .ok (.istore_n 1, 1) := by decide +kernel
theorem dX6_init_80 : decode cX6_init 80 = .ok (.iload_n 1, 1) := by decide +kernel
theorem dX6_init_81 : decode cX6_init 81 = .ok (.iconst 4, 1) := by decide +kernel
theorem dX6_init_82 : decode cX6_init 82 = .ok (.if_icmp .ge 16, 3) := by decide +kernel
theorem dX6_init_85 : decode cX6_init 85 = .ok (.aload_n 0, 1) := by decide +kernel
theorem dX6_init_86 : decode cX6_init 86 = .ok (.getfield 7, 3) := by decide +kernel
theorem dX6_init_89 : decode cX6_init 89 = .ok (.iload_n 1, 1) := by decide +kernel
theorem dX6_init_90 : decode cX6_init 90 = .ok (.iconst (-1), 1) := by decide +kernel
theorem dX6_init_91 : decode cX6_init 91 = .ok (.iastore, 1) := by decide +kernel
theorem dX6_init_92 : decode cX6_init 92 = .ok (.iinc 1 1, 3) := by decide +kernel
theorem dX6_init_95 : decode cX6_init 95 = .ok (.goto (-15), 3) := by decide +kernel
theorem dX6_init_98 : decode cX6_init 98 = .ok (.aload_n 0, 1) := by decide +kernel
theorem dX6_init_99 : decode cX6_init 99 = .ok (.getfield 23, 3) := by decide +kernel
theorem dX6_init_102 : decode cX6_init 102 = .ok (.iconst 1, 1) := by decide +kernel
theorem dX6_init_103 : decode cX6_init 103 = .ok (.iconst 1, 1) := by decide +kernel
theorem dX6_init_104 : decode cX6_init 104 = .ok (.iastore, 1) := by decide +kernel
theorem dX6_init_105 : decode cX6_init 105 = .ok (.return_, 1) := by decide +kernel
set_option maxHeartbeats 1000000 in
set_option maxRecDepth 100000 in
theorem kX6_init {l : Launch} {D : va_G} {g : Nat → ClassId} (h0 : Nat) (sz : Nat) : Met l yX6_init wsX6_init ({ frames := 1, cells := 9, slots := 964, locals := 100 }) (va_Pc [.ref h0] (pC D g [(h0, .inr (6, [.null, .null, .null, .int 0, .null, .int 0, .int 0, .null, .null, .null, .null, .int 0, .null, .int 0, .int 0]))] sz)) (qC D (va_A [(h0, .inr (6, [.null, .null, .null, .int 0, .null, .int 0, .int 0, .null, .null, .null, .null, .int 0, .null, .int 0, .int 0]))] sz) (fun u => [(h0, .inr (6, [.ref (u 0 1), .ref (u 0 2), .ref (u 0 3), .int 0, .ref (u 0 4), .int 0, .int 0, .ref (u 0 5), .ref (u 0 6), .ref (u 0 7), .ref (u 0 8), .int 0, .ref (u 0 9), .int 0, .int 0])), ((u 0 1), .inl (g 0, 4, .inl (upd (upd (upd (upd (fun _ => 0) (Int32.toNatClampNeg 0) (-1)) (Int32.toNatClampNeg 1) (-1)) (Int32.toNatClampNeg 2) (-1)) (Int32.toNatClampNeg 3) (-1)))), ((u 0 2), .inl (g 0, 4, .inl (fun _ => 0))), ((u 0 3), .inl (g 1, 96, .inr (.inl (fun _ => 0)))), ((u 0 4), .inl (g 0, 90, .inl (fun _ => 0))), ((u 0 5), .inl (g 0, 191, .inl (upd (fun _ => 0) (Int32.toNatClampNeg 1) 1))), ((u 0 6), .inl (g 0, 191, .inl (fun _ => 0))), ((u 0 7), .inl (g 0, 191, .inl (fun _ => 0))), ((u 0 8), .inl (g 0, 191, .inl (fun _ => 0))), ((u 0 9), .inl (g 0, 6, .inl (fun _ => 0)))])) 9 964 (va_A [(h0, .inr (6, [.null, .null, .null, .int 0, .null, .int 0, .int 0, .null, .null, .null, .null, .int 0, .null, .int 0, .int 0]))] sz) := by
  revert sz
  refine KC.mk (by decide) rfl rfl (Nat.le_of_ble_eq_true rfl) ?_
  intro p e s m args below meth c ls A Q hx hb hml hown hts hin hK hT hA hP hD hS hl hret
  have hl : lv_has ls 2 [(0, .ref h0)] := hl
  refine lv_aload_n hx hb dX6_init_0 rfl (lv_at hl 0 rfl) ?_
  refine W.objInit hx hb hown (hts (.methodLink RX6 1 objectInit) (by decide +kernel)) (hts (.instanceMethod objectInit) (by decide +kernel)) (hts _ (List.mem_cons_of_mem _ (List.mem_of_getElem? (i := 2) rfl))) rfl (by rw [hml]; exact hl.1) rfl dX6_init_1 (Nat.le_of_ble_eq_true rfl) (Nat.le_of_ble_eq_true rfl) ?_
  refine W.eq (g2 := F0 m 4 ls []) rfl ?_
  refine lv_aload_n hx hb dX6_init_4 rfl (lv_at hl 0 rfl) ?_
  refine lv_iconst (v := 4) hx hb dX6_init_5 (by decide) ?_
  refine va_newa (atype := .int) (ty := .int) (a0 := (4, .inl (fun _ => 0))) hx hb (hts (.arrayClass .int) (by decide +kernel)) rfl hK hP hD hS hA (z_int 4) (nI_pos (n := 4) (by decide)) (n_cl (n := 4) (by decide)) (by show 4 * 4 ≤ 536870912; omega) (by show _ ≤ 9; omega) (by show _ ≤ 964; omega) dX6_init_6 (fun q1 cA2 H hK1 hP hD hS => ?_)
  obtain rfl := cA_0 hK hK1
  have hP : va_P D vwCl [(h0, .inr (6, [.null, .null, .null, .int 0, .null, .int 0, .int 0, .null, .null, .null, .null, .int 0, .null, .int 0, .int 0])), (q1, .inl (g 0, 4, .inl (fun _ => 0)))] H := hP
  have hD : va_D A [(h0, .inr (6, [.null, .null, .null, .int 0, .null, .int 0, .int 0, .null, .null, .null, .null, .int 0, .null, .int 0, .int 0])), (q1, .inl (g 0, 4, .inl (fun _ => 0)))] := hD
  refine va_putF (D := D) (ci := 6) (v := .ref q1) (ty := .array .int) (C := RX6) (T := TX6) (N := 15) hx hb hts (by decide +kernel) tyX6 tyX6_ok nmX6 hown hK hP hD hS 0 rfl rfl 0 (by decide) (hts (.fieldLink RX6 7 "WoundMedalsModel" "lane" "[I") (by decide +kernel)) (fun _ h9 => h9) rfl hin rfl (by decide +kernel) rfl rfl (Nat.le_of_ble_eq_true rfl) dX6_init_8 (fun H locs hP hD hS => ?_)
  have hP : va_P D vwCl [(h0, .inr (6, [.ref q1, .null, .null, .int 0, .null, .int 0, .int 0, .null, .null, .null, .null, .int 0, .null, .int 0, .int 0])), (q1, .inl (g 0, 4, .inl (fun _ => 0)))] H := hP
  have hD : va_D A [(h0, .inr (6, [.ref q1, .null, .null, .int 0, .null, .int 0, .int 0, .null, .null, .null, .null, .int 0, .null, .int 0, .int 0])), (q1, .inl (g 0, 4, .inl (fun _ => 0)))] := hD
  refine lv_aload_n hx hb dX6_init_11 rfl (lv_at hl 0 rfl) ?_
  refine lv_iconst (v := 4) hx hb dX6_init_12 (by decide) ?_
  refine va_newa (atype := .int) (ty := .int) (a0 := (4, .inl (fun _ => 0))) hx hb (hts (.arrayClass .int) (by decide +kernel)) rfl hK hP hD hS hA (z_int 4) (nI_pos (n := 4) (by decide)) (n_cl (n := 4) (by decide)) (by show 4 * 4 ≤ 536870912; omega) (by show _ ≤ 9; omega) (by show _ ≤ 964; omega) dX6_init_13 (fun q3 cA4 H hK1 hP hD hS => ?_)
  obtain rfl := cA_0 hK hK1
  have hP : va_P D vwCl [(h0, .inr (6, [.ref q1, .null, .null, .int 0, .null, .int 0, .int 0, .null, .null, .null, .null, .int 0, .null, .int 0, .int 0])), (q1, .inl (g 0, 4, .inl (fun _ => 0))), (q3, .inl (g 0, 4, .inl (fun _ => 0)))] H := hP
  have hD : va_D A [(h0, .inr (6, [.ref q1, .null, .null, .int 0, .null, .int 0, .int 0, .null, .null, .null, .null, .int 0, .null, .int 0, .int 0])), (q1, .inl (g 0, 4, .inl (fun _ => 0))), (q3, .inl (g 0, 4, .inl (fun _ => 0)))] := hD
  refine va_putF (D := D) (ci := 6) (v := .ref q3) (ty := .array .int) (C := RX6) (T := TX6) (N := 15) hx hb hts (by decide +kernel) tyX6 tyX6_ok nmX6 hown hK hP hD hS 0 rfl rfl 1 (by decide) (hts (.fieldLink RX6 13 "WoundMedalsModel" "size" "[I") (by decide +kernel)) (fun _ h9 => h9) rfl hin rfl (by decide +kernel) rfl rfl (Nat.le_of_ble_eq_true rfl) dX6_init_15 (fun H locs hP hD hS => ?_)
  have hP : va_P D vwCl [(h0, .inr (6, [.ref q1, .ref q3, .null, .int 0, .null, .int 0, .int 0, .null, .null, .null, .null, .int 0, .null, .int 0, .int 0])), (q1, .inl (g 0, 4, .inl (fun _ => 0))), (q3, .inl (g 0, 4, .inl (fun _ => 0)))] H := hP
  have hD : va_D A [(h0, .inr (6, [.ref q1, .ref q3, .null, .int 0, .null, .int 0, .int 0, .null, .null, .null, .null, .int 0, .null, .int 0, .int 0])), (q1, .inl (g 0, 4, .inl (fun _ => 0))), (q3, .inl (g 0, 4, .inl (fun _ => 0)))] := hD
  refine lv_aload_n hx hb dX6_init_18 rfl (lv_at hl 0 rfl) ?_
  refine lv_bipush (v := 96) hx hb dX6_init_19 (by decide) ?_
  refine va_newa (atype := .long) (ty := .long) (a0 := (96, .inr (.inl (fun _ => 0)))) hx hb (hts (.arrayClass .long) (by decide +kernel)) rfl hK hP hD hS hA (z_long 96) (nI_pos (n := 96) (by decide)) (n_cl (n := 96) (by decide)) (by show 96 * 8 ≤ 536870912; omega) (by show _ ≤ 9; omega) (by show _ ≤ 964; omega) dX6_init_21 (fun q5 cA6 H hK1 hP hD hS => ?_)
  obtain rfl := cA_1 hK hK1
  have hP : va_P D vwCl [(h0, .inr (6, [.ref q1, .ref q3, .null, .int 0, .null, .int 0, .int 0, .null, .null, .null, .null, .int 0, .null, .int 0, .int 0])), (q1, .inl (g 0, 4, .inl (fun _ => 0))), (q3, .inl (g 0, 4, .inl (fun _ => 0))), (q5, .inl (g 1, 96, .inr (.inl (fun _ => 0))))] H := hP
  have hD : va_D A [(h0, .inr (6, [.ref q1, .ref q3, .null, .int 0, .null, .int 0, .int 0, .null, .null, .null, .null, .int 0, .null, .int 0, .int 0])), (q1, .inl (g 0, 4, .inl (fun _ => 0))), (q3, .inl (g 0, 4, .inl (fun _ => 0))), (q5, .inl (g 1, 96, .inr (.inl (fun _ => 0))))] := hD
  refine va_putF (D := D) (ci := 6) (v := .ref q5) (ty := .array .long) (C := RX6) (T := TX6) (N := 15) hx hb hts (by decide +kernel) tyX6 tyX6_ok nmX6 hown hK hP hD hS 0 rfl rfl 2 (by decide) (hts (.fieldLink RX6 16 "WoundMedalsModel" "item" "[J") (by decide +kernel)) (fun _ h9 => h9) rfl hin rfl (by decide +kernel) rfl rfl (Nat.le_of_ble_eq_true rfl) dX6_init_23 (fun H locs hP hD hS => ?_)
  have hP : va_P D vwCl [(h0, .inr (6, [.ref q1, .ref q3, .ref q5, .int 0, .null, .int 0, .int 0, .null, .null, .null, .null, .int 0, .null, .int 0, .int 0])), (q1, .inl (g 0, 4, .inl (fun _ => 0))), (q3, .inl (g 0, 4, .inl (fun _ => 0))), (q5, .inl (g 1, 96, .inr (.inl (fun _ => 0))))] H := hP
  have hD : va_D A [(h0, .inr (6, [.ref q1, .ref q3, .ref q5, .int 0, .null, .int 0, .int 0, .null, .null, .null, .null, .int 0, .null, .int 0, .int 0])), (q1, .inl (g 0, 4, .inl (fun _ => 0))), (q3, .inl (g 0, 4, .inl (fun _ => 0))), (q5, .inl (g 1, 96, .inr (.inl (fun _ => 0))))] := hD
  refine lv_aload_n hx hb dX6_init_26 rfl (lv_at hl 0 rfl) ?_
  refine lv_bipush (v := 90) hx hb dX6_init_27 (by decide) ?_
  refine va_newa (atype := .int) (ty := .int) (a0 := (90, .inl (fun _ => 0))) hx hb (hts (.arrayClass .int) (by decide +kernel)) rfl hK hP hD hS hA (z_int 90) (nI_pos (n := 90) (by decide)) (n_cl (n := 90) (by decide)) (by show 90 * 4 ≤ 536870912; omega) (by show _ ≤ 9; omega) (by show _ ≤ 964; omega) dX6_init_29 (fun q7 cA8 H hK1 hP hD hS => ?_)
  obtain rfl := cA_0 hK hK1
  have hP : va_P D vwCl [(h0, .inr (6, [.ref q1, .ref q3, .ref q5, .int 0, .null, .int 0, .int 0, .null, .null, .null, .null, .int 0, .null, .int 0, .int 0])), (q1, .inl (g 0, 4, .inl (fun _ => 0))), (q3, .inl (g 0, 4, .inl (fun _ => 0))), (q5, .inl (g 1, 96, .inr (.inl (fun _ => 0)))), (q7, .inl (g 0, 90, .inl (fun _ => 0)))] H := hP
  have hD : va_D A [(h0, .inr (6, [.ref q1, .ref q3, .ref q5, .int 0, .null, .int 0, .int 0, .null, .null, .null, .null, .int 0, .null, .int 0, .int 0])), (q1, .inl (g 0, 4, .inl (fun _ => 0))), (q3, .inl (g 0, 4, .inl (fun _ => 0))), (q5, .inl (g 1, 96, .inr (.inl (fun _ => 0)))), (q7, .inl (g 0, 90, .inl (fun _ => 0)))] := hD
  refine va_putF (D := D) (ci := 6) (v := .ref q7) (ty := .array .int) (C := RX6) (T := TX6) (N := 15) hx hb hts (by decide +kernel) tyX6 tyX6_ok nmX6 hown hK hP hD hS 0 rfl rfl 4 (by decide) (hts (.fieldLink RX6 20 "WoundMedalsModel" "tape" "[I") (by decide +kernel)) (fun _ h9 => h9) rfl hin rfl (by decide +kernel) rfl rfl (Nat.le_of_ble_eq_true rfl) dX6_init_31 (fun H locs hP hD hS => ?_)
  have hP : va_P D vwCl [(h0, .inr (6, [.ref q1, .ref q3, .ref q5, .int 0, .ref q7, .int 0, .int 0, .null, .null, .null, .null, .int 0, .null, .int 0, .int 0])), (q1, .inl (g 0, 4, .inl (fun _ => 0))), (q3, .inl (g 0, 4, .inl (fun _ => 0))), (q5, .inl (g 1, 96, .inr (.inl (fun _ => 0)))), (q7, .inl (g 0, 90, .inl (fun _ => 0)))] H := hP
  have hD : va_D A [(h0, .inr (6, [.ref q1, .ref q3, .ref q5, .int 0, .ref q7, .int 0, .int 0, .null, .null, .null, .null, .int 0, .null, .int 0, .int 0])), (q1, .inl (g 0, 4, .inl (fun _ => 0))), (q3, .inl (g 0, 4, .inl (fun _ => 0))), (q5, .inl (g 1, 96, .inr (.inl (fun _ => 0)))), (q7, .inl (g 0, 90, .inl (fun _ => 0)))] := hD
  refine lv_aload_n hx hb dX6_init_34 rfl (lv_at hl 0 rfl) ?_
  refine lv_sipush (v := 191) hx hb dX6_init_35 (by decide) ?_
  refine va_newa (atype := .int) (ty := .int) (a0 := (191, .inl (fun _ => 0))) hx hb (hts (.arrayClass .int) (by decide +kernel)) rfl hK hP hD hS hA (z_int 191) (nI_pos (n := 191) (by decide)) (n_cl (n := 191) (by decide)) (by show 191 * 4 ≤ 536870912; omega) (by show _ ≤ 9; omega) (by show _ ≤ 964; omega) dX6_init_38 (fun q9 cA10 H hK1 hP hD hS => ?_)
  obtain rfl := cA_0 hK hK1
  have hP : va_P D vwCl [(h0, .inr (6, [.ref q1, .ref q3, .ref q5, .int 0, .ref q7, .int 0, .int 0, .null, .null, .null, .null, .int 0, .null, .int 0, .int 0])), (q1, .inl (g 0, 4, .inl (fun _ => 0))), (q3, .inl (g 0, 4, .inl (fun _ => 0))), (q5, .inl (g 1, 96, .inr (.inl (fun _ => 0)))), (q7, .inl (g 0, 90, .inl (fun _ => 0))), (q9, .inl (g 0, 191, .inl (fun _ => 0)))] H := hP
  have hD : va_D A [(h0, .inr (6, [.ref q1, .ref q3, .ref q5, .int 0, .ref q7, .int 0, .int 0, .null, .null, .null, .null, .int 0, .null, .int 0, .int 0])), (q1, .inl (g 0, 4, .inl (fun _ => 0))), (q3, .inl (g 0, 4, .inl (fun _ => 0))), (q5, .inl (g 1, 96, .inr (.inl (fun _ => 0)))), (q7, .inl (g 0, 90, .inl (fun _ => 0))), (q9, .inl (g 0, 191, .inl (fun _ => 0)))] := hD
  refine va_putF (D := D) (ci := 6) (v := .ref q9) (ty := .array .int) (C := RX6) (T := TX6) (N := 15) hx hb hts (by decide +kernel) tyX6 tyX6_ok nmX6 hown hK hP hD hS 0 rfl rfl 7 (by decide) (hts (.fieldLink RX6 23 "WoundMedalsModel" "now" "[I") (by decide +kernel)) (fun _ h9 => h9) rfl hin rfl (by decide +kernel) rfl rfl (Nat.le_of_ble_eq_true rfl) dX6_init_40 (fun H locs hP hD hS => ?_)
  have hP : va_P D vwCl [(h0, .inr (6, [.ref q1, .ref q3, .ref q5, .int 0, .ref q7, .int 0, .int 0, .ref q9, .null, .null, .null, .int 0, .null, .int 0, .int 0])), (q1, .inl (g 0, 4, .inl (fun _ => 0))), (q3, .inl (g 0, 4, .inl (fun _ => 0))), (q5, .inl (g 1, 96, .inr (.inl (fun _ => 0)))), (q7, .inl (g 0, 90, .inl (fun _ => 0))), (q9, .inl (g 0, 191, .inl (fun _ => 0)))] H := hP
  have hD : va_D A [(h0, .inr (6, [.ref q1, .ref q3, .ref q5, .int 0, .ref q7, .int 0, .int 0, .ref q9, .null, .null, .null, .int 0, .null, .int 0, .int 0])), (q1, .inl (g 0, 4, .inl (fun _ => 0))), (q3, .inl (g 0, 4, .inl (fun _ => 0))), (q5, .inl (g 1, 96, .inr (.inl (fun _ => 0)))), (q7, .inl (g 0, 90, .inl (fun _ => 0))), (q9, .inl (g 0, 191, .inl (fun _ => 0)))] := hD
  refine lv_aload_n hx hb dX6_init_43 rfl (lv_at hl 0 rfl) ?_
  refine lv_sipush (v := 191) hx hb dX6_init_44 (by decide) ?_
  refine va_newa (atype := .int) (ty := .int) (a0 := (191, .inl (fun _ => 0))) hx hb (hts (.arrayClass .int) (by decide +kernel)) rfl hK hP hD hS hA (z_int 191) (nI_pos (n := 191) (by decide)) (n_cl (n := 191) (by decide)) (by show 191 * 4 ≤ 536870912; omega) (by show _ ≤ 9; omega) (by show _ ≤ 964; omega) dX6_init_47 (fun q11 cA12 H hK1 hP hD hS => ?_)
  obtain rfl := cA_0 hK hK1
  have hP : va_P D vwCl [(h0, .inr (6, [.ref q1, .ref q3, .ref q5, .int 0, .ref q7, .int 0, .int 0, .ref q9, .null, .null, .null, .int 0, .null, .int 0, .int 0])), (q1, .inl (g 0, 4, .inl (fun _ => 0))), (q3, .inl (g 0, 4, .inl (fun _ => 0))), (q5, .inl (g 1, 96, .inr (.inl (fun _ => 0)))), (q7, .inl (g 0, 90, .inl (fun _ => 0))), (q9, .inl (g 0, 191, .inl (fun _ => 0))), (q11, .inl (g 0, 191, .inl (fun _ => 0)))] H := hP
  have hD : va_D A [(h0, .inr (6, [.ref q1, .ref q3, .ref q5, .int 0, .ref q7, .int 0, .int 0, .ref q9, .null, .null, .null, .int 0, .null, .int 0, .int 0])), (q1, .inl (g 0, 4, .inl (fun _ => 0))), (q3, .inl (g 0, 4, .inl (fun _ => 0))), (q5, .inl (g 1, 96, .inr (.inl (fun _ => 0)))), (q7, .inl (g 0, 90, .inl (fun _ => 0))), (q9, .inl (g 0, 191, .inl (fun _ => 0))), (q11, .inl (g 0, 191, .inl (fun _ => 0)))] := hD
  refine va_putF (D := D) (ci := 6) (v := .ref q11) (ty := .array .int) (C := RX6) (T := TX6) (N := 15) hx hb hts (by decide +kernel) tyX6 tyX6_ok nmX6 hown hK hP hD hS 0 rfl rfl 8 (by decide) (hts (.fieldLink RX6 26 "WoundMedalsModel" "tried" "[I") (by decide +kernel)) (fun _ h9 => h9) rfl hin rfl (by decide +kernel) rfl rfl (Nat.le_of_ble_eq_true rfl) dX6_init_49 (fun H locs hP hD hS => ?_)
  have hP : va_P D vwCl [(h0, .inr (6, [.ref q1, .ref q3, .ref q5, .int 0, .ref q7, .int 0, .int 0, .ref q9, .ref q11, .null, .null, .int 0, .null, .int 0, .int 0])), (q1, .inl (g 0, 4, .inl (fun _ => 0))), (q3, .inl (g 0, 4, .inl (fun _ => 0))), (q5, .inl (g 1, 96, .inr (.inl (fun _ => 0)))), (q7, .inl (g 0, 90, .inl (fun _ => 0))), (q9, .inl (g 0, 191, .inl (fun _ => 0))), (q11, .inl (g 0, 191, .inl (fun _ => 0)))] H := hP
  have hD : va_D A [(h0, .inr (6, [.ref q1, .ref q3, .ref q5, .int 0, .ref q7, .int 0, .int 0, .ref q9, .ref q11, .null, .null, .int 0, .null, .int 0, .int 0])), (q1, .inl (g 0, 4, .inl (fun _ => 0))), (q3, .inl (g 0, 4, .inl (fun _ => 0))), (q5, .inl (g 1, 96, .inr (.inl (fun _ => 0)))), (q7, .inl (g 0, 90, .inl (fun _ => 0))), (q9, .inl (g 0, 191, .inl (fun _ => 0))), (q11, .inl (g 0, 191, .inl (fun _ => 0)))] := hD
  refine lv_aload_n hx hb dX6_init_52 rfl (lv_at hl 0 rfl) ?_
  refine lv_sipush (v := 191) hx hb dX6_init_53 (by decide) ?_
  refine va_newa (atype := .int) (ty := .int) (a0 := (191, .inl (fun _ => 0))) hx hb (hts (.arrayClass .int) (by decide +kernel)) rfl hK hP hD hS hA (z_int 191) (nI_pos (n := 191) (by decide)) (n_cl (n := 191) (by decide)) (by show 191 * 4 ≤ 536870912; omega) (by show _ ≤ 9; omega) (by show _ ≤ 964; omega) dX6_init_56 (fun q13 cA14 H hK1 hP hD hS => ?_)
  obtain rfl := cA_0 hK hK1
  have hP : va_P D vwCl [(h0, .inr (6, [.ref q1, .ref q3, .ref q5, .int 0, .ref q7, .int 0, .int 0, .ref q9, .ref q11, .null, .null, .int 0, .null, .int 0, .int 0])), (q1, .inl (g 0, 4, .inl (fun _ => 0))), (q3, .inl (g 0, 4, .inl (fun _ => 0))), (q5, .inl (g 1, 96, .inr (.inl (fun _ => 0)))), (q7, .inl (g 0, 90, .inl (fun _ => 0))), (q9, .inl (g 0, 191, .inl (fun _ => 0))), (q11, .inl (g 0, 191, .inl (fun _ => 0))), (q13, .inl (g 0, 191, .inl (fun _ => 0)))] H := hP
  have hD : va_D A [(h0, .inr (6, [.ref q1, .ref q3, .ref q5, .int 0, .ref q7, .int 0, .int 0, .ref q9, .ref q11, .null, .null, .int 0, .null, .int 0, .int 0])), (q1, .inl (g 0, 4, .inl (fun _ => 0))), (q3, .inl (g 0, 4, .inl (fun _ => 0))), (q5, .inl (g 1, 96, .inr (.inl (fun _ => 0)))), (q7, .inl (g 0, 90, .inl (fun _ => 0))), (q9, .inl (g 0, 191, .inl (fun _ => 0))), (q11, .inl (g 0, 191, .inl (fun _ => 0))), (q13, .inl (g 0, 191, .inl (fun _ => 0)))] := hD
  refine va_putF (D := D) (ci := 6) (v := .ref q13) (ty := .array .int) (C := RX6) (T := TX6) (N := 15) hx hb hts (by decide +kernel) tyX6 tyX6_ok nmX6 hown hK hP hD hS 0 rfl rfl 9 (by decide) (hts (.fieldLink RX6 29 "WoundMedalsModel" "read" "[I") (by decide +kernel)) (fun _ h9 => h9) rfl hin rfl (by decide +kernel) rfl rfl (Nat.le_of_ble_eq_true rfl) dX6_init_58 (fun H locs hP hD hS => ?_)
  have hP : va_P D vwCl [(h0, .inr (6, [.ref q1, .ref q3, .ref q5, .int 0, .ref q7, .int 0, .int 0, .ref q9, .ref q11, .ref q13, .null, .int 0, .null, .int 0, .int 0])), (q1, .inl (g 0, 4, .inl (fun _ => 0))), (q3, .inl (g 0, 4, .inl (fun _ => 0))), (q5, .inl (g 1, 96, .inr (.inl (fun _ => 0)))), (q7, .inl (g 0, 90, .inl (fun _ => 0))), (q9, .inl (g 0, 191, .inl (fun _ => 0))), (q11, .inl (g 0, 191, .inl (fun _ => 0))), (q13, .inl (g 0, 191, .inl (fun _ => 0)))] H := hP
  have hD : va_D A [(h0, .inr (6, [.ref q1, .ref q3, .ref q5, .int 0, .ref q7, .int 0, .int 0, .ref q9, .ref q11, .ref q13, .null, .int 0, .null, .int 0, .int 0])), (q1, .inl (g 0, 4, .inl (fun _ => 0))), (q3, .inl (g 0, 4, .inl (fun _ => 0))), (q5, .inl (g 1, 96, .inr (.inl (fun _ => 0)))), (q7, .inl (g 0, 90, .inl (fun _ => 0))), (q9, .inl (g 0, 191, .inl (fun _ => 0))), (q11, .inl (g 0, 191, .inl (fun _ => 0))), (q13, .inl (g 0, 191, .inl (fun _ => 0)))] := hD
  refine lv_aload_n hx hb dX6_init_61 rfl (lv_at hl 0 rfl) ?_
  refine lv_sipush (v := 191) hx hb dX6_init_62 (by decide) ?_
  refine va_newa (atype := .int) (ty := .int) (a0 := (191, .inl (fun _ => 0))) hx hb (hts (.arrayClass .int) (by decide +kernel)) rfl hK hP hD hS hA (z_int 191) (nI_pos (n := 191) (by decide)) (n_cl (n := 191) (by decide)) (by show 191 * 4 ≤ 536870912; omega) (by show _ ≤ 9; omega) (by show _ ≤ 964; omega) dX6_init_65 (fun q15 cA16 H hK1 hP hD hS => ?_)
  obtain rfl := cA_0 hK hK1
  have hP : va_P D vwCl [(h0, .inr (6, [.ref q1, .ref q3, .ref q5, .int 0, .ref q7, .int 0, .int 0, .ref q9, .ref q11, .ref q13, .null, .int 0, .null, .int 0, .int 0])), (q1, .inl (g 0, 4, .inl (fun _ => 0))), (q3, .inl (g 0, 4, .inl (fun _ => 0))), (q5, .inl (g 1, 96, .inr (.inl (fun _ => 0)))), (q7, .inl (g 0, 90, .inl (fun _ => 0))), (q9, .inl (g 0, 191, .inl (fun _ => 0))), (q11, .inl (g 0, 191, .inl (fun _ => 0))), (q13, .inl (g 0, 191, .inl (fun _ => 0))), (q15, .inl (g 0, 191, .inl (fun _ => 0)))] H := hP
  have hD : va_D A [(h0, .inr (6, [.ref q1, .ref q3, .ref q5, .int 0, .ref q7, .int 0, .int 0, .ref q9, .ref q11, .ref q13, .null, .int 0, .null, .int 0, .int 0])), (q1, .inl (g 0, 4, .inl (fun _ => 0))), (q3, .inl (g 0, 4, .inl (fun _ => 0))), (q5, .inl (g 1, 96, .inr (.inl (fun _ => 0)))), (q7, .inl (g 0, 90, .inl (fun _ => 0))), (q9, .inl (g 0, 191, .inl (fun _ => 0))), (q11, .inl (g 0, 191, .inl (fun _ => 0))), (q13, .inl (g 0, 191, .inl (fun _ => 0))), (q15, .inl (g 0, 191, .inl (fun _ => 0)))] := hD
  refine va_putF (D := D) (ci := 6) (v := .ref q15) (ty := .array .int) (C := RX6) (T := TX6) (N := 15) hx hb hts (by decide +kernel) tyX6 tyX6_ok nmX6 hown hK hP hD hS 0 rfl rfl 10 (by decide) (hts (.fieldLink RX6 32 "WoundMedalsModel" "kept" "[I") (by decide +kernel)) (fun _ h9 => h9) rfl hin rfl (by decide +kernel) rfl rfl (Nat.le_of_ble_eq_true rfl) dX6_init_67 (fun H locs hP hD hS => ?_)
  have hP : va_P D vwCl [(h0, .inr (6, [.ref q1, .ref q3, .ref q5, .int 0, .ref q7, .int 0, .int 0, .ref q9, .ref q11, .ref q13, .ref q15, .int 0, .null, .int 0, .int 0])), (q1, .inl (g 0, 4, .inl (fun _ => 0))), (q3, .inl (g 0, 4, .inl (fun _ => 0))), (q5, .inl (g 1, 96, .inr (.inl (fun _ => 0)))), (q7, .inl (g 0, 90, .inl (fun _ => 0))), (q9, .inl (g 0, 191, .inl (fun _ => 0))), (q11, .inl (g 0, 191, .inl (fun _ => 0))), (q13, .inl (g 0, 191, .inl (fun _ => 0))), (q15, .inl (g 0, 191, .inl (fun _ => 0)))] H := hP
  have hD : va_D A [(h0, .inr (6, [.ref q1, .ref q3, .ref q5, .int 0, .ref q7, .int 0, .int 0, .ref q9, .ref q11, .ref q13, .ref q15, .int 0, .null, .int 0, .int 0])), (q1, .inl (g 0, 4, .inl (fun _ => 0))), (q3, .inl (g 0, 4, .inl (fun _ => 0))), (q5, .inl (g 1, 96, .inr (.inl (fun _ => 0)))), (q7, .inl (g 0, 90, .inl (fun _ => 0))), (q9, .inl (g 0, 191, .inl (fun _ => 0))), (q11, .inl (g 0, 191, .inl (fun _ => 0))), (q13, .inl (g 0, 191, .inl (fun _ => 0))), (q15, .inl (g 0, 191, .inl (fun _ => 0)))] := hD
  refine lv_aload_n hx hb dX6_init_70 rfl (lv_at hl 0 rfl) ?_
  refine lv_bipush (v := 6) hx hb dX6_init_71 (by decide) ?_
  refine va_newa (atype := .int) (ty := .int) (a0 := (6, .inl (fun _ => 0))) hx hb (hts (.arrayClass .int) (by decide +kernel)) rfl hK hP hD hS hA (z_int 6) (nI_pos (n := 6) (by decide)) (n_cl (n := 6) (by decide)) (by show 6 * 4 ≤ 536870912; omega) (by show _ ≤ 9; omega) (by show _ ≤ 964; omega) dX6_init_73 (fun q17 cA18 H hK1 hP hD hS => ?_)
  obtain rfl := cA_0 hK hK1
  have hP : va_P D vwCl [(h0, .inr (6, [.ref q1, .ref q3, .ref q5, .int 0, .ref q7, .int 0, .int 0, .ref q9, .ref q11, .ref q13, .ref q15, .int 0, .null, .int 0, .int 0])), (q1, .inl (g 0, 4, .inl (fun _ => 0))), (q3, .inl (g 0, 4, .inl (fun _ => 0))), (q5, .inl (g 1, 96, .inr (.inl (fun _ => 0)))), (q7, .inl (g 0, 90, .inl (fun _ => 0))), (q9, .inl (g 0, 191, .inl (fun _ => 0))), (q11, .inl (g 0, 191, .inl (fun _ => 0))), (q13, .inl (g 0, 191, .inl (fun _ => 0))), (q15, .inl (g 0, 191, .inl (fun _ => 0))), (q17, .inl (g 0, 6, .inl (fun _ => 0)))] H := hP
  have hD : va_D A [(h0, .inr (6, [.ref q1, .ref q3, .ref q5, .int 0, .ref q7, .int 0, .int 0, .ref q9, .ref q11, .ref q13, .ref q15, .int 0, .null, .int 0, .int 0])), (q1, .inl (g 0, 4, .inl (fun _ => 0))), (q3, .inl (g 0, 4, .inl (fun _ => 0))), (q5, .inl (g 1, 96, .inr (.inl (fun _ => 0)))), (q7, .inl (g 0, 90, .inl (fun _ => 0))), (q9, .inl (g 0, 191, .inl (fun _ => 0))), (q11, .inl (g 0, 191, .inl (fun _ => 0))), (q13, .inl (g 0, 191, .inl (fun _ => 0))), (q15, .inl (g 0, 191, .inl (fun _ => 0))), (q17, .inl (g 0, 6, .inl (fun _ => 0)))] := hD
  refine va_putF (D := D) (ci := 6) (v := .ref q17) (ty := .array .int) (C := RX6) (T := TX6) (N := 15) hx hb hts (by decide +kernel) tyX6 tyX6_ok nmX6 hown hK hP hD hS 0 rfl rfl 12 (by decide) (hts (.fieldLink RX6 35 "WoundMedalsModel" "best" "[I") (by decide +kernel)) (fun _ h9 => h9) rfl hin rfl (by decide +kernel) rfl rfl (Nat.le_of_ble_eq_true rfl) dX6_init_75 (fun H locs hP hD hS => ?_)
  have hP : va_P D vwCl [(h0, .inr (6, [.ref q1, .ref q3, .ref q5, .int 0, .ref q7, .int 0, .int 0, .ref q9, .ref q11, .ref q13, .ref q15, .int 0, .ref q17, .int 0, .int 0])), (q1, .inl (g 0, 4, .inl (fun _ => 0))), (q3, .inl (g 0, 4, .inl (fun _ => 0))), (q5, .inl (g 1, 96, .inr (.inl (fun _ => 0)))), (q7, .inl (g 0, 90, .inl (fun _ => 0))), (q9, .inl (g 0, 191, .inl (fun _ => 0))), (q11, .inl (g 0, 191, .inl (fun _ => 0))), (q13, .inl (g 0, 191, .inl (fun _ => 0))), (q15, .inl (g 0, 191, .inl (fun _ => 0))), (q17, .inl (g 0, 6, .inl (fun _ => 0)))] H := hP
  have hD : va_D A [(h0, .inr (6, [.ref q1, .ref q3, .ref q5, .int 0, .ref q7, .int 0, .int 0, .ref q9, .ref q11, .ref q13, .ref q15, .int 0, .ref q17, .int 0, .int 0])), (q1, .inl (g 0, 4, .inl (fun _ => 0))), (q3, .inl (g 0, 4, .inl (fun _ => 0))), (q5, .inl (g 1, 96, .inr (.inl (fun _ => 0)))), (q7, .inl (g 0, 90, .inl (fun _ => 0))), (q9, .inl (g 0, 191, .inl (fun _ => 0))), (q11, .inl (g 0, 191, .inl (fun _ => 0))), (q13, .inl (g 0, 191, .inl (fun _ => 0))), (q15, .inl (g 0, 191, .inl (fun _ => 0))), (q17, .inl (g 0, 6, .inl (fun _ => 0)))] := hD
  refine lv_iconst (v := 0) hx hb dX6_init_78 (by decide) ?_
  refine lv_istore_n (lv' := [(1, .int 0), (0, .ref h0)]) hx hb dX6_init_79 rfl hl (by decide) rfl (fun ls hl => ?_)
  refine lv_iload_n hx hb dX6_init_80 rfl (lv_at hl 0 rfl) ?_
  refine lv_iconst (v := 4) hx hb dX6_init_81 (by decide) ?_
  refine lv_icmp_ge (tgt := 98) hx hb dX6_init_82 (by decide) (fun q => absurd q (by decide)) (fun _ => ?_)
  refine lv_aload_n hx hb dX6_init_85 rfl (lv_at hl 1 rfl) ?_
  refine va_get (D := D) (ci := 6) (v := .ref q1) (C := RX6) (T := TX6) (N := 15) hx hb hts (by decide +kernel) hown hK hP 0 rfl rfl 0 (by decide) (hts (.fieldLink RX6 7 "WoundMedalsModel" "lane" "[I") (by decide +kernel)) (fun _ h9 => h9) rfl dX6_init_86 ?_
  refine lv_iload_n hx hb dX6_init_89 rfl (lv_at hl 0 rfl) ?_
  refine lv_iconst (v := (-1)) hx hb dX6_init_90 (by decide) ?_
  refine va_iast hx hb hK hP hD hS 1 0 rfl rfl (vp_in_nI (n := 0) (by decide) (by decide)) dX6_init_91 (fun H locs hP hD hS => ?_)
  have hP : va_P D vwCl [(h0, .inr (6, [.ref q1, .ref q3, .ref q5, .int 0, .ref q7, .int 0, .int 0, .ref q9, .ref q11, .ref q13, .ref q15, .int 0, .ref q17, .int 0, .int 0])), (q1, .inl (g 0, 4, .inl (upd (fun _ => 0) (Int32.toNatClampNeg 0) (-1)))), (q3, .inl (g 0, 4, .inl (fun _ => 0))), (q5, .inl (g 1, 96, .inr (.inl (fun _ => 0)))), (q7, .inl (g 0, 90, .inl (fun _ => 0))), (q9, .inl (g 0, 191, .inl (fun _ => 0))), (q11, .inl (g 0, 191, .inl (fun _ => 0))), (q13, .inl (g 0, 191, .inl (fun _ => 0))), (q15, .inl (g 0, 191, .inl (fun _ => 0))), (q17, .inl (g 0, 6, .inl (fun _ => 0)))] H := hP
  have hD : va_D A [(h0, .inr (6, [.ref q1, .ref q3, .ref q5, .int 0, .ref q7, .int 0, .int 0, .ref q9, .ref q11, .ref q13, .ref q15, .int 0, .ref q17, .int 0, .int 0])), (q1, .inl (g 0, 4, .inl (upd (fun _ => 0) (Int32.toNatClampNeg 0) (-1)))), (q3, .inl (g 0, 4, .inl (fun _ => 0))), (q5, .inl (g 1, 96, .inr (.inl (fun _ => 0)))), (q7, .inl (g 0, 90, .inl (fun _ => 0))), (q9, .inl (g 0, 191, .inl (fun _ => 0))), (q11, .inl (g 0, 191, .inl (fun _ => 0))), (q13, .inl (g 0, 191, .inl (fun _ => 0))), (q15, .inl (g 0, 191, .inl (fun _ => 0))), (q17, .inl (g 0, 6, .inl (fun _ => 0)))] := hD
  refine lv_iinc (v := 1) (lv' := [(1, .int 1), (0, .ref h0)]) hx hb dX6_init_92 hl (k := 0) rfl (by decide) (by decide) rfl (fun ls hl => ?_)
  refine lv_goto (tgt := 80) hx hb dX6_init_95 (by decide) ?_
  refine lv_iload_n hx hb dX6_init_80 rfl (lv_at hl 0 rfl) ?_
  refine lv_iconst (v := 4) hx hb dX6_init_81 (by decide) ?_
  refine lv_icmp_ge (tgt := 98) hx hb dX6_init_82 (by decide) (fun q => absurd q (by decide)) (fun _ => ?_)
  refine lv_aload_n hx hb dX6_init_85 rfl (lv_at hl 1 rfl) ?_
  refine va_get (D := D) (ci := 6) (v := .ref q1) (C := RX6) (T := TX6) (N := 15) hx hb hts (by decide +kernel) hown hK hP 0 rfl rfl 0 (by decide) (hts (.fieldLink RX6 7 "WoundMedalsModel" "lane" "[I") (by decide +kernel)) (fun _ h9 => h9) rfl dX6_init_86 ?_
  refine lv_iload_n hx hb dX6_init_89 rfl (lv_at hl 0 rfl) ?_
  refine lv_iconst (v := (-1)) hx hb dX6_init_90 (by decide) ?_
  refine va_iast hx hb hK hP hD hS 1 0 rfl rfl (vp_in_nI (n := 1) (by decide) (by decide)) dX6_init_91 (fun H locs hP hD hS => ?_)
  have hP : va_P D vwCl [(h0, .inr (6, [.ref q1, .ref q3, .ref q5, .int 0, .ref q7, .int 0, .int 0, .ref q9, .ref q11, .ref q13, .ref q15, .int 0, .ref q17, .int 0, .int 0])), (q1, .inl (g 0, 4, .inl (upd (upd (fun _ => 0) (Int32.toNatClampNeg 0) (-1)) (Int32.toNatClampNeg 1) (-1)))), (q3, .inl (g 0, 4, .inl (fun _ => 0))), (q5, .inl (g 1, 96, .inr (.inl (fun _ => 0)))), (q7, .inl (g 0, 90, .inl (fun _ => 0))), (q9, .inl (g 0, 191, .inl (fun _ => 0))), (q11, .inl (g 0, 191, .inl (fun _ => 0))), (q13, .inl (g 0, 191, .inl (fun _ => 0))), (q15, .inl (g 0, 191, .inl (fun _ => 0))), (q17, .inl (g 0, 6, .inl (fun _ => 0)))] H := hP
  have hD : va_D A [(h0, .inr (6, [.ref q1, .ref q3, .ref q5, .int 0, .ref q7, .int 0, .int 0, .ref q9, .ref q11, .ref q13, .ref q15, .int 0, .ref q17, .int 0, .int 0])), (q1, .inl (g 0, 4, .inl (upd (upd (fun _ => 0) (Int32.toNatClampNeg 0) (-1)) (Int32.toNatClampNeg 1) (-1)))), (q3, .inl (g 0, 4, .inl (fun _ => 0))), (q5, .inl (g 1, 96, .inr (.inl (fun _ => 0)))), (q7, .inl (g 0, 90, .inl (fun _ => 0))), (q9, .inl (g 0, 191, .inl (fun _ => 0))), (q11, .inl (g 0, 191, .inl (fun _ => 0))), (q13, .inl (g 0, 191, .inl (fun _ => 0))), (q15, .inl (g 0, 191, .inl (fun _ => 0))), (q17, .inl (g 0, 6, .inl (fun _ => 0)))] := hD
  refine lv_iinc (v := 2) (lv' := [(1, .int 2), (0, .ref h0)]) hx hb dX6_init_92 hl (k := 0) rfl (by decide) (by decide) rfl (fun ls hl => ?_)
  refine lv_goto (tgt := 80) hx hb dX6_init_95 (by decide) ?_
  refine lv_iload_n hx hb dX6_init_80 rfl (lv_at hl 0 rfl) ?_
  refine lv_iconst (v := 4) hx hb dX6_init_81 (by decide) ?_
  refine lv_icmp_ge (tgt := 98) hx hb dX6_init_82 (by decide) (fun q => absurd q (by decide)) (fun _ => ?_)
  refine lv_aload_n hx hb dX6_init_85 rfl (lv_at hl 1 rfl) ?_
  refine va_get (D := D) (ci := 6) (v := .ref q1) (C := RX6) (T := TX6) (N := 15) hx hb hts (by decide +kernel) hown hK hP 0 rfl rfl 0 (by decide) (hts (.fieldLink RX6 7 "WoundMedalsModel" "lane" "[I") (by decide +kernel)) (fun _ h9 => h9) rfl dX6_init_86 ?_
  refine lv_iload_n hx hb dX6_init_89 rfl (lv_at hl 0 rfl) ?_
  refine lv_iconst (v := (-1)) hx hb dX6_init_90 (by decide) ?_
  refine va_iast hx hb hK hP hD hS 1 0 rfl rfl (vp_in_nI (n := 2) (by decide) (by decide)) dX6_init_91 (fun H locs hP hD hS => ?_)
  have hP : va_P D vwCl [(h0, .inr (6, [.ref q1, .ref q3, .ref q5, .int 0, .ref q7, .int 0, .int 0, .ref q9, .ref q11, .ref q13, .ref q15, .int 0, .ref q17, .int 0, .int 0])), (q1, .inl (g 0, 4, .inl (upd (upd (upd (fun _ => 0) (Int32.toNatClampNeg 0) (-1)) (Int32.toNatClampNeg 1) (-1)) (Int32.toNatClampNeg 2) (-1)))), (q3, .inl (g 0, 4, .inl (fun _ => 0))), (q5, .inl (g 1, 96, .inr (.inl (fun _ => 0)))), (q7, .inl (g 0, 90, .inl (fun _ => 0))), (q9, .inl (g 0, 191, .inl (fun _ => 0))), (q11, .inl (g 0, 191, .inl (fun _ => 0))), (q13, .inl (g 0, 191, .inl (fun _ => 0))), (q15, .inl (g 0, 191, .inl (fun _ => 0))), (q17, .inl (g 0, 6, .inl (fun _ => 0)))] H := hP
  have hD : va_D A [(h0, .inr (6, [.ref q1, .ref q3, .ref q5, .int 0, .ref q7, .int 0, .int 0, .ref q9, .ref q11, .ref q13, .ref q15, .int 0, .ref q17, .int 0, .int 0])), (q1, .inl (g 0, 4, .inl (upd (upd (upd (fun _ => 0) (Int32.toNatClampNeg 0) (-1)) (Int32.toNatClampNeg 1) (-1)) (Int32.toNatClampNeg 2) (-1)))), (q3, .inl (g 0, 4, .inl (fun _ => 0))), (q5, .inl (g 1, 96, .inr (.inl (fun _ => 0)))), (q7, .inl (g 0, 90, .inl (fun _ => 0))), (q9, .inl (g 0, 191, .inl (fun _ => 0))), (q11, .inl (g 0, 191, .inl (fun _ => 0))), (q13, .inl (g 0, 191, .inl (fun _ => 0))), (q15, .inl (g 0, 191, .inl (fun _ => 0))), (q17, .inl (g 0, 6, .inl (fun _ => 0)))] := hD
  refine lv_iinc (v := 3) (lv' := [(1, .int 3), (0, .ref h0)]) hx hb dX6_init_92 hl (k := 0) rfl (by decide) (by decide) rfl (fun ls hl => ?_)
  refine lv_goto (tgt := 80) hx hb dX6_init_95 (by decide) ?_
  refine lv_iload_n hx hb dX6_init_80 rfl (lv_at hl 0 rfl) ?_
  refine lv_iconst (v := 4) hx hb dX6_init_81 (by decide) ?_
  refine lv_icmp_ge (tgt := 98) hx hb dX6_init_82 (by decide) (fun q => absurd q (by decide)) (fun _ => ?_)
  refine lv_aload_n hx hb dX6_init_85 rfl (lv_at hl 1 rfl) ?_
  refine va_get (D := D) (ci := 6) (v := .ref q1) (C := RX6) (T := TX6) (N := 15) hx hb hts (by decide +kernel) hown hK hP 0 rfl rfl 0 (by decide) (hts (.fieldLink RX6 7 "WoundMedalsModel" "lane" "[I") (by decide +kernel)) (fun _ h9 => h9) rfl dX6_init_86 ?_
  refine lv_iload_n hx hb dX6_init_89 rfl (lv_at hl 0 rfl) ?_
  refine lv_iconst (v := (-1)) hx hb dX6_init_90 (by decide) ?_
  refine va_iast hx hb hK hP hD hS 1 0 rfl rfl (vp_in_nI (n := 3) (by decide) (by decide)) dX6_init_91 (fun H locs hP hD hS => ?_)
  have hP : va_P D vwCl [(h0, .inr (6, [.ref q1, .ref q3, .ref q5, .int 0, .ref q7, .int 0, .int 0, .ref q9, .ref q11, .ref q13, .ref q15, .int 0, .ref q17, .int 0, .int 0])), (q1, .inl (g 0, 4, .inl (upd (upd (upd (upd (fun _ => 0) (Int32.toNatClampNeg 0) (-1)) (Int32.toNatClampNeg 1) (-1)) (Int32.toNatClampNeg 2) (-1)) (Int32.toNatClampNeg 3) (-1)))), (q3, .inl (g 0, 4, .inl (fun _ => 0))), (q5, .inl (g 1, 96, .inr (.inl (fun _ => 0)))), (q7, .inl (g 0, 90, .inl (fun _ => 0))), (q9, .inl (g 0, 191, .inl (fun _ => 0))), (q11, .inl (g 0, 191, .inl (fun _ => 0))), (q13, .inl (g 0, 191, .inl (fun _ => 0))), (q15, .inl (g 0, 191, .inl (fun _ => 0))), (q17, .inl (g 0, 6, .inl (fun _ => 0)))] H := hP
  have hD : va_D A [(h0, .inr (6, [.ref q1, .ref q3, .ref q5, .int 0, .ref q7, .int 0, .int 0, .ref q9, .ref q11, .ref q13, .ref q15, .int 0, .ref q17, .int 0, .int 0])), (q1, .inl (g 0, 4, .inl (upd (upd (upd (upd (fun _ => 0) (Int32.toNatClampNeg 0) (-1)) (Int32.toNatClampNeg 1) (-1)) (Int32.toNatClampNeg 2) (-1)) (Int32.toNatClampNeg 3) (-1)))), (q3, .inl (g 0, 4, .inl (fun _ => 0))), (q5, .inl (g 1, 96, .inr (.inl (fun _ => 0)))), (q7, .inl (g 0, 90, .inl (fun _ => 0))), (q9, .inl (g 0, 191, .inl (fun _ => 0))), (q11, .inl (g 0, 191, .inl (fun _ => 0))), (q13, .inl (g 0, 191, .inl (fun _ => 0))), (q15, .inl (g 0, 191, .inl (fun _ => 0))), (q17, .inl (g 0, 6, .inl (fun _ => 0)))] := hD
  refine lv_iinc (v := 4) (lv' := [(1, .int 4), (0, .ref h0)]) hx hb dX6_init_92 hl (k := 0) rfl (by decide) (by decide) rfl (fun ls hl => ?_)
  refine lv_goto (tgt := 80) hx hb dX6_init_95 (by decide) ?_
  refine lv_iload_n hx hb dX6_init_80 rfl (lv_at hl 0 rfl) ?_
  refine lv_iconst (v := 4) hx hb dX6_init_81 (by decide) ?_
  refine lv_icmp_ge (tgt := 98) hx hb dX6_init_82 (by decide) (fun _ => ?_) (fun q => absurd (by decide) q)
  refine lv_aload_n hx hb dX6_init_98 rfl (lv_at hl 1 rfl) ?_
  refine va_get (D := D) (ci := 6) (v := .ref q9) (C := RX6) (T := TX6) (N := 15) hx hb hts (by decide +kernel) hown hK hP 0 rfl rfl 7 (by decide) (hts (.fieldLink RX6 23 "WoundMedalsModel" "now" "[I") (by decide +kernel)) (fun _ h9 => h9) rfl dX6_init_99 ?_
  refine lv_iconst (v := 1) hx hb dX6_init_102 (by decide) ?_
  refine lv_iconst (v := 1) hx hb dX6_init_103 (by decide) ?_
  refine va_iast hx hb hK hP hD hS 5 0 rfl rfl (vp_in_nI (n := 1) (by decide) (by decide)) dX6_init_104 (fun H locs hP hD hS => ?_)
  have hP : va_P D vwCl [(h0, .inr (6, [.ref q1, .ref q3, .ref q5, .int 0, .ref q7, .int 0, .int 0, .ref q9, .ref q11, .ref q13, .ref q15, .int 0, .ref q17, .int 0, .int 0])), (q1, .inl (g 0, 4, .inl (upd (upd (upd (upd (fun _ => 0) (Int32.toNatClampNeg 0) (-1)) (Int32.toNatClampNeg 1) (-1)) (Int32.toNatClampNeg 2) (-1)) (Int32.toNatClampNeg 3) (-1)))), (q3, .inl (g 0, 4, .inl (fun _ => 0))), (q5, .inl (g 1, 96, .inr (.inl (fun _ => 0)))), (q7, .inl (g 0, 90, .inl (fun _ => 0))), (q9, .inl (g 0, 191, .inl (upd (fun _ => 0) (Int32.toNatClampNeg 1) 1))), (q11, .inl (g 0, 191, .inl (fun _ => 0))), (q13, .inl (g 0, 191, .inl (fun _ => 0))), (q15, .inl (g 0, 191, .inl (fun _ => 0))), (q17, .inl (g 0, 6, .inl (fun _ => 0)))] H := hP
  have hD : va_D A [(h0, .inr (6, [.ref q1, .ref q3, .ref q5, .int 0, .ref q7, .int 0, .int 0, .ref q9, .ref q11, .ref q13, .ref q15, .int 0, .ref q17, .int 0, .int 0])), (q1, .inl (g 0, 4, .inl (upd (upd (upd (upd (fun _ => 0) (Int32.toNatClampNeg 0) (-1)) (Int32.toNatClampNeg 1) (-1)) (Int32.toNatClampNeg 2) (-1)) (Int32.toNatClampNeg 3) (-1)))), (q3, .inl (g 0, 4, .inl (fun _ => 0))), (q5, .inl (g 1, 96, .inr (.inl (fun _ => 0)))), (q7, .inl (g 0, 90, .inl (fun _ => 0))), (q9, .inl (g 0, 191, .inl (upd (fun _ => 0) (Int32.toNatClampNeg 1) 1))), (q11, .inl (g 0, 191, .inl (fun _ => 0))), (q13, .inl (g 0, 191, .inl (fun _ => 0))), (q15, .inl (g 0, 191, .inl (fun _ => 0))), (q17, .inl (g 0, 6, .inl (fun _ => 0)))] := hD
  exact hret (fun a => if a = 0 then (fun k => [h0, q1, q3, q5, q7, q9, q11, q13, q15, q17].getD k 0) else (fun _ => 0)) _ _ _ _ dX6_init_105 hP hD hS
