theorem lp_succ {α ρ : Type} (body : (α → Option ρ) → α → Option ρ) (n : Nat) (a : α) : lp body (n + 1) a = body (lp body n) a := rfl
set_option maxRecDepth 20000 in
theorem ggX6_two_X6_in : GoodIn wsX6_two wsX6_in := goodIn_r _ [6] (by decide +kernel) (by decide +kernel)
set_option maxRecDepth 20000 in
theorem gX6_two_X6_in : GoodIn wsX6_two (va_wsS RX6 38 yX6_in wsX6_in) := goodIn_app (goodIn_of _ (by decide +kernel)) ggX6_two_X6_in
set_option maxRecDepth 20000 in
theorem ggX6_two_X6_begin : GoodIn wsX6_two wsX6_begin := goodIn_r _ [10, 1, 2, 11, 12, 5, 13, 26, 27, 28, 29, 30, 31, 32, 33, 34, 35, 36, 37, 38, 39, 40] (by decide +kernel) (by decide +kernel)
set_option maxRecDepth 20000 in
theorem gX6_two_X6_begin : GoodIn wsX6_two (wsV RX6 142 RX6 yX6_begin wsX6_begin) := goodIn_app (goodIn_of _ (by decide +kernel)) ggX6_two_X6_begin
set_option maxRecDepth 20000 in
theorem ggX6_two_X6_load : GoodIn wsX6_two wsX6_load := goodIn_r _ [16, 17, 18, 5, 19, 20, 21, 22, 23, 24, 25] (by decide +kernel) (by decide +kernel)
set_option maxRecDepth 20000 in
theorem gX6_two_X6_load : GoodIn wsX6_two (va_wsS RX6 64 yX6_load wsX6_load) := goodIn_app (goodIn_of _ (by decide +kernel)) ggX6_two_X6_load
theorem dX6_two_0 : decode cX6_two 0 = .ok (.iload_n 1, 1) := by decide +kernel
theorem dX6_two_1 : decode cX6_two 1 = .ok (.iconst 0, 1) := by decide +kernel
theorem dX6_two_2 : decode cX6_two 2 = .ok (.iconst 1, 1) := by decide +kernel
theorem dX6_two_3 : decode cX6_two 3 = .ok (.invokestatic 38, 3) := by decide +kernel
theorem dX6_two_6 : decode cX6_two 6 = .ok (.ifCond .ne 5, 3) := by decide +kernel
theorem dX6_two_9 : decode cX6_two 9 = .ok (.iconst (-1), 1) := by decide +kernel
theorem dX6_two_10 : decode cX6_two 10 = .ok (.ireturn, 1) := by decide +kernel
theorem dX6_two_11 : decode cX6_two 11 = .ok (.bipush (-4), 2) := by decide +kernel
theorem dX6_two_13 : decode cX6_two 13 = .ok (.istore_n 2, 1) := by decide +kernel
theorem dX6_two_14 : decode cX6_two 14 = .ok (.bipush (-4), 2) := by decide +kernel
theorem dX6_two_16 : decode cX6_two 16 = .ok (.istore_n 3, 1) := by decide +kernel
theorem dX6_two_17 : decode cX6_two 17 = .ok (.iconst 0, 1) := by decide +kernel
theorem dX6_two_18 : decode cX6_two 18 = .ok (.istore 4, 2) := by decide +kernel
theorem dX6_two_20 : decode cX6_two 20 = .ok (.iload 4, 2) := by decide +kernel
theorem dX6_two_22 : decode cX6_two 22 = .ok (.aload_n 0, 1) := by decide +kernel
theorem dX6_two_23 : decode cX6_two 23 = .ok (.getfield 23, 3) := by decide +kernel
theorem dX6_two_26 : decode cX6_two 26 = .ok (.bipush 25, 2) := by decide +kernel
theorem dX6_two_28 : decode cX6_two 28 = .ok (.iaload, 1) := by decide +kernel
theorem dX6_two_29 : decode cX6_two 29 = .ok (.if_icmp .ge 151, 3) := by decide +kernel
theorem dX6_two_32 : decode cX6_two 32 = .ok (.iload 4, 2) := by decide +kernel
theorem dX6_two_34 : decode cX6_two 34 = .ok (.iconst 1, 1) := by decide +kernel
theorem dX6_two_35 : decode cX6_two 35 = .ok (.iadd, 1) := by decide +kernel
theorem dX6_two_36 : decode cX6_two 36 = .ok (.istore 5, 2) := by decide +kernel
theorem dX6_two_38 : decode cX6_two 38 = .ok (.iload 5, 2) := by decide +kernel
theorem dX6_two_40 : decode cX6_two 40 = .ok (.aload_n 0, 1) := by decide +kernel
theorem dX6_two_41 : decode cX6_two 41 = .ok (.getfield 23, 3) := by decide +kernel
theorem dX6_two_44 : decode cX6_two 44 = .ok (.bipush 25, 2) := by decide +kernel
theorem dX6_two_46 : decode cX6_two 46 = .ok (.iaload, 1) := by decide +kernel
theorem dX6_two_47 : decode cX6_two 47 = .ok (.if_icmp .ge 127, 3) := by decide +kernel
theorem dX6_two_50 : decode cX6_two 50 = .ok (.aload_n 0, 1) := by decide +kernel
theorem dX6_two_51 : decode cX6_two 51 = .ok (.getfield 23, 3) := by decide +kernel
theorem dX6_two_54 : decode cX6_two 54 = .ok (.bipush 13, 2) := by decide +kernel
theorem dX6_two_56 : decode cX6_two 56 = .ok (.iload 4, 2) := by decide +kernel
theorem dX6_two_58 : decode cX6_two 58 = .ok (.iadd, 1) := by decide +kernel
theorem dX6_two_59 : decode cX6_two 59 = .ok (.iaload, 1) := by decide +kernel
theorem dX6_two_60 : decode cX6_two 60 = .ok (.istore 6, 2) := by decide +kernel
theorem dX6_two_62 : decode cX6_two 62 = .ok (.aload_n 0, 1) := by decide +kernel
theorem dX6_two_63 : decode cX6_two 63 = .ok (.getfield 23, 3) := by decide +kernel
theorem dX6_two_66 : decode cX6_two 66 = .ok (.bipush 13, 2) := by decide +kernel
theorem dX6_two_68 : decode cX6_two 68 = .ok (.iload 5, 2) := by decide +kernel
theorem dX6_two_70 : decode cX6_two 70 = .ok (.iadd, 1) := by decide +kernel
theorem dX6_two_71 : decode cX6_two 71 = .ok (.iaload, 1) := by decide +kernel
theorem dX6_two_72 : decode cX6_two 72 = .ok (.istore 7, 2) := by decide +kernel
theorem dX6_two_74 : decode cX6_two 74 = .ok (.iload 6, 2) := by decide +kernel
theorem dX6_two_76 : decode cX6_two 76 = .ok (.bipush (-4), 2) := by decide +kernel
theorem dX6_two_78 : decode cX6_two 78 = .ok (.if_icmp .eq 90, 3) := by decide +kernel
theorem dX6_two_81 : decode cX6_two 81 = .ok (.iload 7, 2) := by decide +kernel
theorem dX6_two_83 : decode cX6_two 83 = .ok (.bipush (-4), 2) := by decide +kernel
theorem dX6_two_85 : decode cX6_two 85 = .ok (.if_icmp .eq 83, 3) := by decide +kernel
theorem dX6_two_88 : decode cX6_two 88 = .ok (.iload 6, 2) := by decide +kernel
theorem dX6_two_90 : decode cX6_two 90 = .ok (.iload 7, 2) := by decide +kernel
theorem dX6_two_92 : decode cX6_two 92 = .ok (.if_icmp .eq 76, 3) := by decide +kernel
theorem dX6_two_95 : decode cX6_two 95 = .ok (.aload_n 0, 1) := by decide +kernel
theorem dX6_two_96 : decode cX6_two 96 = .ok (.invokevirtual 142, 3) := by decide +kernel
theorem dX6_two_99 : decode cX6_two 99 = .ok (.aload_n 0, 1) := by decide +kernel
theorem dX6_two_100 : decode cX6_two 100 = .ok (.getfield 26, 3) := by decide +kernel
theorem dX6_two_103 : decode cX6_two 103 = .ok (.bipush 13, 2) := by decide +kernel
theorem dX6_two_105 : decode cX6_two 105 = .ok (.iload 4, 2) := by decide +kernel
theorem dX6_two_107 : decode cX6_two 107 = .ok (.iadd, 1) := by decide +kernel
theorem dX6_two_108 : decode cX6_two 108 = .ok (.iload 7, 2) := by decide +kernel
theorem dX6_two_110 : decode cX6_two 110 = .ok (.iastore, 1) := by decide +kernel
theorem dX6_two_111 : decode cX6_two 111 = .ok (.aload_n 0, 1) := by decide +kernel
theorem dX6_two_112 : decode cX6_two 112 = .ok (.getfield 26, 3) := by decide +kernel
theorem dX6_two_115 : decode cX6_two 115 = .ok (.bipush 13, 2) := by decide +kernel
theorem dX6_two_117 : decode cX6_two 117 = .ok (.iload 5, 2) := by decide +kernel
theorem dX6_two_119 : decode cX6_two 119 = .ok (.iadd, 1) := by decide +kernel
theorem dX6_two_120 : decode cX6_two 120 = .ok (.iload 6, 2) := by decide +kernel
theorem dX6_two_122 : decode cX6_two 122 = .ok (.iastore, 1) := by decide +kernel
theorem dX6_two_123 : decode cX6_two 123 = .ok (.aload_n 0, 1) := by decide +kernel
theorem dX6_two_124 : decode cX6_two 124 = .ok (.getfield 26, 3) := by decide +kernel
theorem dX6_two_127 : decode cX6_two 127 = .ok (.iload 6, 2) := by decide +kernel
theorem dX6_two_129 : decode cX6_two 129 = .ok (.invokestatic 64, 3) := by decide +kernel
theorem dX6_two_132 : decode cX6_two 132 = .ok (.aload_n 0, 1) := by decide +kernel
theorem dX6_two_133 : decode cX6_two 133 = .ok (.getfield 26, 3) := by decide +kernel
theorem dX6_two_136 : decode cX6_two 136 = .ok (.iload 7, 2) := by decide +kernel
theorem dX6_two_138 : decode cX6_two 138 = .ok (.invokestatic 64, 3) := by decide +kernel
theorem dX6_two_141 : decode cX6_two 141 = .ok (.iadd, 1) := by decide +kernel
theorem dX6_two_142 : decode cX6_two 142 = .ok (.istore 8, 2) := by decide +kernel
theorem dX6_two_144 : decode cX6_two 144 = .ok (.iload_n 2, 1) := by decide +kernel
theorem dX6_two_145 : decode cX6_two 145 = .ok (.bipush (-4), 2) := by decide +kernel
theorem dX6_two_147 : decode cX6_two 147 = .ok (.if_icmp .eq 9, 3) := by decide +kernel
theorem dX6_two_150 : decode cX6_two 150 = .ok (.iload 8, 2) := by decide +kernel
theorem dX6_two_152 : decode cX6_two 152 = .ok (.iload_n 3, 1) := by decide +kernel
theorem dX6_two_153 : decode cX6_two 153 = .ok (.if_icmp .ge 15, 3) := by decide +kernel
theorem dX6_two_156 : decode cX6_two 156 = .ok (.bipush 10, 2) := by decide +kernel
theorem dX6_two_158 : decode cX6_two 158 = .ok (.iload 4, 2) := by decide +kernel
theorem dX6_two_160 : decode cX6_two 160 = .ok (.imul, 1) := by decide +kernel
theorem dX6_two_161 : decode cX6_two 161 = .ok (.iload 5, 2) := by decide +kernel
theorem dX6_two_163 : decode cX6_two 163 = .ok (.iadd, 1) := by decide +kernel
theorem dX6_two_164 : decode cX6_two 164 = .ok (.istore_n 2, 1) := by decide +kernel
theorem dX6_two_165 : decode cX6_two 165 = .ok (.iload 8, 2) := by decide +kernel
theorem dX6_two_167 : decode cX6_two 167 = .ok (.istore_n 3, 1) := by decide +kernel
theorem dX6_two_168 : decode cX6_two 168 = .ok (.iinc 5 1, 3) := by decide +kernel
theorem dX6_two_171 : decode cX6_two 171 = .ok (.goto (-133), 3) := by decide +kernel
theorem dX6_two_174 : decode cX6_two 174 = .ok (.iinc 4 1, 3) := by decide +kernel
theorem dX6_two_177 : decode cX6_two 177 = .ok (.goto (-157), 3) := by decide +kernel
theorem dX6_two_180 : decode cX6_two 180 = .ok (.iload_n 1, 1) := by decide +kernel
theorem dX6_two_181 : decode cX6_two 181 = .ok (.ifCond .ne 7, 3) := by decide +kernel
theorem dX6_two_184 : decode cX6_two 184 = .ok (.iload_n 2, 1) := by decide +kernel
theorem dX6_two_185 : decode cX6_two 185 = .ok (.goto 4, 3) := by decide +kernel
theorem dX6_two_188 : decode cX6_two 188 = .ok (.iload_n 3, 1) := by decide +kernel
theorem dX6_two_189 : decode cX6_two 189 = .ok (.ireturn, 1) := by decide +kernel
def bX6_two_38 (now_M : Nat → Int32) (v4_3 : Int32) (K3 : ((Int32 × Int32 × Int32 × (Nat → Int32))) → Option (Int32 × (Nat → Int32))) (K8 : ((Int32 × Int32 × Int32 × (Nat → Int32))) → Option (Int32 × (Nat → Int32))) : ((Int32 × Int32 × Int32 × (Nat → Int32))) → Option (Int32 × (Nat → Int32))
  | (v2_8, v3_8, v5_8, tri_M_8) => gin 25 191 (if (now_M (Int32.toNatClampNeg 25)) ≤ v5_8 then (nm (v4_3 + 1) (fun x11 => K3 (v2_8, v3_8, x11, tri_M_8))) else (gin (13 + v4_3) 191 (nm (now_M (Int32.toNatClampNeg (13 + v4_3))) (fun x13 => gin (13 + v5_8) 191 (nm (now_M (Int32.toNatClampNeg (13 + v5_8))) (fun x15 => if x13 = (-4) then (nm (v5_8 + 1) (fun x17 => K8 (v2_8, v3_8, x17, tri_M_8))) else (if x15 = (-4) then (nm (v5_8 + 1) (fun x19 => K8 (v2_8, v3_8, x19, tri_M_8))) else (if x13 = x15 then (nm (v5_8 + 1) (fun x21 => K8 (v2_8, v3_8, x21, tri_M_8))) else ((fX6_begin now_M tri_M_8).bind (fun r22 => gin (13 + v4_3) 191 (gin (13 + v5_8) 191 ((fX6_load x13 (upd (upd r22 (Int32.toNatClampNeg (13 + v4_3)) x15) (Int32.toNatClampNeg (13 + v5_8)) x13)).bind (fun r25 => (fX6_load x15 (upd (upd r22 (Int32.toNatClampNeg (13 + v4_3)) x15) (Int32.toNatClampNeg (13 + v5_8)) x13)).bind (fun r26 => nm (r25 + r26) (fun x27 => if v2_8 = (-4) then (nm ((10 * v4_3) + v5_8) (fun x29 => nm (v5_8 + 1) (fun x30 => K8 (x29, x27, x30, upd (upd r22 (Int32.toNatClampNeg (13 + v4_3)) x15) (Int32.toNatClampNeg (13 + v5_8)) x13)))) else (if v3_8 ≤ x27 then (nm (v5_8 + 1) (fun x32 => K8 (v2_8, v3_8, x32, upd (upd r22 (Int32.toNatClampNeg (13 + v4_3)) x15) (Int32.toNatClampNeg (13 + v5_8)) x13))) else (nm ((10 * v4_3) + v5_8) (fun x33 => nm (v5_8 + 1) (fun x34 => K8 (x33, x27, x34, upd (upd r22 (Int32.toNatClampNeg (13 + v4_3)) x15) (Int32.toNatClampNeg (13 + v5_8)) x13))))))))))))))))))))
def bX6_two_20 (now_M : Nat → Int32) (p1 : Int32) (K3 : ((Int32 × Int32 × Int32 × (Nat → Int32))) → Option (Int32 × (Nat → Int32))) : ((Int32 × Int32 × Int32 × (Nat → Int32))) → Option (Int32 × (Nat → Int32))
  | (v2_3, v3_3, v4_3, tri_M_3) => gin 25 191 (if (now_M (Int32.toNatClampNeg 25)) ≤ v4_3 then (if p1 = 0 then (some (v2_3, tri_M_3)) else (some (v3_3, tri_M_3))) else (nm (v4_3 + 1) (fun x7 => lp (bX6_two_38 now_M v4_3 K3) FU (v2_3, v3_3, x7, tri_M_3))))
def fX6_two (p1 : Int32)  (now_M : Nat → Int32) (tri_M : Nat → Int32) : Option (Int32 × (Nat → Int32)) := (fX6_in p1 0 1).bind (fun r1 => if r1 = 0 then (some ((-1), tri_M)) else (lp (bX6_two_20 now_M p1) FU ((-4), (-4), 0, tri_M)))
theorem in_X6_two_X6 : ∀ w ∈ wsX60, w ∈ wsX6_two := by decide +kernel
set_option maxHeartbeats 4000000 in
set_option maxRecDepth 100000 in
theorem ct_X6_two {l : Launch} {D : va_G} {g : Nat → ClassId} {qa : Nat → Nat} {E0 : Nat → va_E} {p1 : Int32} {ltr_M : Int32} {pos_M : Int32} {num_M : Int32} {isk_M : Int32} {bm_M : Int32} {bch_M : Int32} {lan_M : Nat → Int32} {siz_M : Nat → Int32} {itm_M : Nat → Int64} {tap_M : Nat → Int32} {now_M : Nat → Int32} {tri_M : Nat → Int32} {rd_M : Nat → Int32} {kp_M : Nat → Int32} {bes_M : Nat → Int32} (hG_M : Mo g qa E0 64 ltr_M pos_M num_M isk_M bm_M bch_M lan_M siz_M itm_M tap_M now_M tri_M rd_M kp_M bes_M) {R : (Int32 × (Nat → Int32))} (hf : fX6_two p1 now_M tri_M = some R) : MI l yX6_two wsX6_two 3 D g qa E0 [.ref (qa 64), .int p1] R.1 (fun E => Mo g qa E 64 ltr_M pos_M num_M isk_M bm_M bch_M lan_M siz_M itm_M tap_M now_M R.2 rd_M kp_M bes_M ∧ ∀ j, (j < 64 ∨ 74 ≤ j) → E j = E0 j) := by
  refine MI.mk (by decide) rfl (Nat.le_of_ble_eq_true rfl) ?_
  intro p e s m args below meth c ls Q X hret hP hS hl
  have hl : lv_has ls 9 [(0, .ref (qa 64)), (1, .int p1)] := hl
  have hfr : ∀ j, (j < 64 ∨ 74 ≤ j) → E0 j = E0 j := fun _ _ => rfl
  rw [fX6_two] at hf
  refine lv_iload_n X.1 X.2.1 dX6_two_0 rfl (lv_at hl 1 rfl) ?_
  refine lv_iconst (v := 0) X.1 X.2.1 dX6_two_1 (by decide) ?_
  refine lv_iconst (v := 1) X.1 X.2.1 dX6_two_2 (by decide) ?_
  obtain ⟨r1, hr1, hf⟩ := bd_of hf
  refine x_rdSi X hP hS (index := 38) (n := 3) (As := [.int p1, .int 0, .int 1]) (ct_X6_in  hr1) ggX6_two_X6_in (by decide +kernel) (by decide +kernel) (by decide +kernel) rfl (by decide +kernel) ⟨by decide, by decide⟩ rfl hl.1 rfl (Nat.le_of_ble_eq_true rfl) dX6_two_3 (fun H locs hP hS => ?_)
  refine lv_if_ne (tgt := 11) X.1 X.2.1 dX6_two_6 (by decide) (fun c2 => ?_) (fun c2 => ?_)
  · have hf := ifn hf c2
    refine lv_bipush (v := (-4)) X.1 X.2.1 dX6_two_11 (by decide) ?_
    refine lv_istore_n (lv' := [(2, .int (-4)), (0, .ref (qa 64)), (1, .int p1)]) X.1 X.2.1 dX6_two_13 rfl hl (by decide) rfl (fun ls hl => ?_)
    refine lv_bipush (v := (-4)) X.1 X.2.1 dX6_two_14 (by decide) ?_
    refine lv_istore_n (lv' := [(3, .int (-4)), (2, .int (-4)), (0, .ref (qa 64)), (1, .int p1)]) X.1 X.2.1 dX6_two_16 rfl hl (by decide) rfl (fun ls hl => ?_)
    refine lv_iconst (v := 0) X.1 X.2.1 dX6_two_17 (by decide) ?_
    refine lv_istore (lv' := [(4, .int 0), (3, .int (-4)), (2, .int (-4)), (0, .ref (qa 64)), (1, .int p1)]) X.1 X.2.1 dX6_two_18 hl (by decide) rfl (fun ls hl => ?_)
    have lp3 : ∀ (n3 : Nat) (v2_3 : Int32) (v3_3 : Int32) (v4_3 : Int32) (tri_M_3 : Nat → Int32) (E : Nat → va_E) (H : Heap) (locs : List Loc) (ls : Array Slot), lp (bX6_two_20 now_M p1) n3 (v2_3, v3_3, v4_3, tri_M_3) = some R → va_P D vwCl (WD qa E) H → va_S (gA qa s.heap.size) s.heap H locs → Mo g qa E 64 ltr_M pos_M num_M isk_M bm_M bch_M lan_M siz_M itm_M tap_M now_M tri_M_3 rd_M kp_M bes_M → (∀ j, (j < 64 ∨ 74 ≤ j) → E j = E0 j) → lv_has ls 9 [(0, .ref (qa 64)), (1, .int p1), (2, .int v2_3), (3, .int v3_3), (4, .int v4_3)] → W p l e (rmf 3) s m args below meth c H locs 0 0 Q (F0 m 20 ls []) := by
      intro n3
      induction n3 with
      | zero =>
        intro v2_3 v3_3 v4_3 tri_M_3 E H locs ls hf
        exact absurd hf (by intro h; cases h)
      | succ n3 ih3 =>
        intro v2_3 v3_3 v4_3 tri_M_3 E H locs ls hf hP hS hG_M hfr hl
        rw [lp_succ, bX6_two_20] at hf
        refine lv_iload X.1 X.2.1 dX6_two_20 (lv_at hl 4 rfl) ?_
        refine lv_aload_n X.1 X.2.1 dX6_two_22 rfl (lv_at hl 0 rfl) ?_
        refine x_get X hP hG_M.1 (by omega) rfl in_X6_two_X6 7 (by decide) (by decide +kernel) rfl rfl dX6_two_23 ?_
        refine lv_bipush (v := 25) X.1 X.2.1 dX6_two_26 (by decide) ?_
        obtain ⟨hi4, hf⟩ := gin_of hf
        refine x_iald X hP hG_M.2.2.2.2.2.1 (by omega) hi4 dX6_two_28 ?_
        refine lv_icmp_ge (tgt := 180) X.1 X.2.1 dX6_two_29 (by decide) (fun c5 => ?_) (fun c5 => ?_)
        · have hf := ifp hf c5
          refine lv_iload_n X.1 X.2.1 dX6_two_180 rfl (lv_at hl 1 rfl) ?_
          refine lv_if_ne (tgt := 188) X.1 X.2.1 dX6_two_181 (by decide) (fun c6 => ?_) (fun c6 => ?_)
          · have hf := ifn hf c6
            refine lv_iload_n X.1 X.2.1 dX6_two_188 rfl (lv_at hl 3 rfl) ?_
            obtain rfl := Option.some.inj hf
            exact hret _ _ _ _ _ _ dX6_two_189 rfl rfl (⟨hG_M, hfr⟩) hP hS
          · have hf := ifp hf c6
            refine lv_iload_n X.1 X.2.1 dX6_two_184 rfl (lv_at hl 2 rfl) ?_
            refine lv_goto (tgt := 189) X.1 X.2.1 dX6_two_185 (by decide) ?_
            obtain rfl := Option.some.inj hf
            exact hret _ _ _ _ _ _ dX6_two_189 rfl rfl (⟨hG_M, hfr⟩) hP hS
        · have hf := ifn hf c5
          refine lv_iload X.1 X.2.1 dX6_two_32 (lv_at hl 4 rfl) ?_
          refine lv_iconst (v := 1) X.1 X.2.1 dX6_two_34 (by decide) ?_
          refine lv_iadd X.1 X.2.1 dX6_two_35 ?_
          obtain ⟨x7, ex7, hf⟩ := nm_of hf
          refine lv_top_as ex7 ?_
          refine lv_istore (lv' := [(5, .int x7), (0, .ref (qa 64)), (1, .int p1), (2, .int v2_3), (3, .int v3_3), (4, .int v4_3)]) X.1 X.2.1 dX6_two_36 hl (by decide) rfl (fun ls hl => ?_)
          have lp8 : ∀ (n8 : Nat) (v2_8 : Int32) (v3_8 : Int32) (v5_8 : Int32) (tri_M_8 : Nat → Int32) (E : Nat → va_E) (H : Heap) (locs : List Loc) (ls : Array Slot), lp (bX6_two_38 now_M v4_3 (lp (bX6_two_20 now_M p1) n3)) n8 (v2_8, v3_8, v5_8, tri_M_8) = some R → va_P D vwCl (WD qa E) H → va_S (gA qa s.heap.size) s.heap H locs → Mo g qa E 64 ltr_M pos_M num_M isk_M bm_M bch_M lan_M siz_M itm_M tap_M now_M tri_M_8 rd_M kp_M bes_M → (∀ j, (j < 64 ∨ 74 ≤ j) → E j = E0 j) → lv_has ls 9 [(0, .ref (qa 64)), (1, .int p1), (2, .int v2_8), (3, .int v3_8), (4, .int v4_3), (5, .int v5_8)] → W p l e (rmf 3) s m args below meth c H locs 0 0 Q (F0 m 38 ls []) := by
            intro n8
            induction n8 with
            | zero =>
              intro v2_8 v3_8 v5_8 tri_M_8 E H locs ls hf
              exact absurd hf (by intro h; cases h)
            | succ n8 ih8 =>
              intro v2_8 v3_8 v5_8 tri_M_8 E H locs ls hf hP hS hG_M hfr hl
              rw [lp_succ, bX6_two_38] at hf
              refine lv_iload X.1 X.2.1 dX6_two_38 (lv_at hl 5 rfl) ?_
              refine lv_aload_n X.1 X.2.1 dX6_two_40 rfl (lv_at hl 0 rfl) ?_
              refine x_get X hP hG_M.1 (by omega) rfl in_X6_two_X6 7 (by decide) (by decide +kernel) rfl rfl dX6_two_41 ?_
              refine lv_bipush (v := 25) X.1 X.2.1 dX6_two_44 (by decide) ?_
              obtain ⟨hi9, hf⟩ := gin_of hf
              refine x_iald X hP hG_M.2.2.2.2.2.1 (by omega) hi9 dX6_two_46 ?_
              refine lv_icmp_ge (tgt := 174) X.1 X.2.1 dX6_two_47 (by decide) (fun c10 => ?_) (fun c10 => ?_)
              · have hf := ifp hf c10
                obtain ⟨x11, ex11, hf⟩ := nm_of hf
                refine lv_iinc (v := x11) (lv' := [(4, .int x11), (0, .ref (qa 64)), (1, .int p1), (2, .int v2_8), (3, .int v3_8), (5, .int v5_8)]) X.1 X.2.1 dX6_two_174 hl (k := 4) rfl (by rw [ex11]; rfl) (by decide) rfl (fun ls hl => ?_)
                refine lv_goto (tgt := 20) X.1 X.2.1 dX6_two_177 (by decide) ?_
                exact ih3 v2_8 v3_8 x11 tri_M_8 _ _ _ _ hf hP hS hG_M hfr (lv_sub hl [1, 2, 3, 4, 0] rfl)
              · have hf := ifn hf c10
                refine lv_aload_n X.1 X.2.1 dX6_two_50 rfl (lv_at hl 0 rfl) ?_
                refine x_get X hP hG_M.1 (by omega) rfl in_X6_two_X6 7 (by decide) (by decide +kernel) rfl rfl dX6_two_51 ?_
                refine lv_bipush (v := 13) X.1 X.2.1 dX6_two_54 (by decide) ?_
                refine lv_iload X.1 X.2.1 dX6_two_56 (lv_at hl 4 rfl) ?_
                refine lv_iadd X.1 X.2.1 dX6_two_58 ?_
                obtain ⟨hi12, hf⟩ := gin_of hf
                refine x_iald X hP hG_M.2.2.2.2.2.1 (by omega) hi12 dX6_two_59 ?_
                obtain ⟨x13, ex13, hf⟩ := nm_of hf
                refine lv_top_as ex13 ?_
                refine lv_istore (lv' := [(6, .int x13), (0, .ref (qa 64)), (1, .int p1), (2, .int v2_8), (3, .int v3_8), (4, .int v4_3), (5, .int v5_8)]) X.1 X.2.1 dX6_two_60 hl (by decide) rfl (fun ls hl => ?_)
                refine lv_aload_n X.1 X.2.1 dX6_two_62 rfl (lv_at hl 1 rfl) ?_
                refine x_get X hP hG_M.1 (by omega) rfl in_X6_two_X6 7 (by decide) (by decide +kernel) rfl rfl dX6_two_63 ?_
                refine lv_bipush (v := 13) X.1 X.2.1 dX6_two_66 (by decide) ?_
                refine lv_iload X.1 X.2.1 dX6_two_68 (lv_at hl 6 rfl) ?_
                refine lv_iadd X.1 X.2.1 dX6_two_70 ?_
                obtain ⟨hi14, hf⟩ := gin_of hf
                refine x_iald X hP hG_M.2.2.2.2.2.1 (by omega) hi14 dX6_two_71 ?_
                obtain ⟨x15, ex15, hf⟩ := nm_of hf
                refine lv_top_as ex15 ?_
                refine lv_istore (lv' := [(7, .int x15), (6, .int x13), (0, .ref (qa 64)), (1, .int p1), (2, .int v2_8), (3, .int v3_8), (4, .int v4_3), (5, .int v5_8)]) X.1 X.2.1 dX6_two_72 hl (by decide) rfl (fun ls hl => ?_)
                refine lv_iload X.1 X.2.1 dX6_two_74 (lv_at hl 1 rfl) ?_
                refine lv_bipush (v := (-4)) X.1 X.2.1 dX6_two_76 (by decide) ?_
                refine lv_icmp_eq (tgt := 168) X.1 X.2.1 dX6_two_78 (by decide) (fun c16 => ?_) (fun c16 => ?_)
                · have hf := ifp hf c16
                  obtain ⟨x17, ex17, hf⟩ := nm_of hf
                  refine lv_iinc (v := x17) (lv' := [(5, .int x17), (7, .int x15), (6, .int x13), (0, .ref (qa 64)), (1, .int p1), (2, .int v2_8), (3, .int v3_8), (4, .int v4_3)]) X.1 X.2.1 dX6_two_168 hl (k := 7) rfl (by rw [ex17]; rfl) (by decide) rfl (fun ls hl => ?_)
                  refine lv_goto (tgt := 38) X.1 X.2.1 dX6_two_171 (by decide) ?_
                  exact ih8 v2_8 v3_8 x17 tri_M_8 _ _ _ _ hf hP hS hG_M hfr (lv_sub hl [3, 4, 5, 6, 7, 0] rfl)
                · have hf := ifn hf c16
                  refine lv_iload X.1 X.2.1 dX6_two_81 (lv_at hl 0 rfl) ?_
                  refine lv_bipush (v := (-4)) X.1 X.2.1 dX6_two_83 (by decide) ?_
                  refine lv_icmp_eq (tgt := 168) X.1 X.2.1 dX6_two_85 (by decide) (fun c18 => ?_) (fun c18 => ?_)
                  · have hf := ifp hf c18
                    obtain ⟨x19, ex19, hf⟩ := nm_of hf
                    refine lv_iinc (v := x19) (lv' := [(5, .int x19), (7, .int x15), (6, .int x13), (0, .ref (qa 64)), (1, .int p1), (2, .int v2_8), (3, .int v3_8), (4, .int v4_3)]) X.1 X.2.1 dX6_two_168 hl (k := 7) rfl (by rw [ex19]; rfl) (by decide) rfl (fun ls hl => ?_)
                    refine lv_goto (tgt := 38) X.1 X.2.1 dX6_two_171 (by decide) ?_
                    exact ih8 v2_8 v3_8 x19 tri_M_8 _ _ _ _ hf hP hS hG_M hfr (lv_sub hl [3, 4, 5, 6, 7, 0] rfl)
                  · have hf := ifn hf c18
                    refine lv_iload X.1 X.2.1 dX6_two_88 (lv_at hl 1 rfl) ?_
                    refine lv_iload X.1 X.2.1 dX6_two_90 (lv_at hl 0 rfl) ?_
                    refine lv_icmp_eq (tgt := 168) X.1 X.2.1 dX6_two_92 (by decide) (fun c20 => ?_) (fun c20 => ?_)
                    · have hf := ifp hf c20
                      obtain ⟨x21, ex21, hf⟩ := nm_of hf
                      refine lv_iinc (v := x21) (lv' := [(5, .int x21), (7, .int x15), (6, .int x13), (0, .ref (qa 64)), (1, .int p1), (2, .int v2_8), (3, .int v3_8), (4, .int v4_3)]) X.1 X.2.1 dX6_two_168 hl (k := 7) rfl (by rw [ex21]; rfl) (by decide) rfl (fun ls hl => ?_)
                      refine lv_goto (tgt := 38) X.1 X.2.1 dX6_two_171 (by decide) ?_
                      exact ih8 v2_8 v3_8 x21 tri_M_8 _ _ _ _ hf hP hS hG_M hfr (lv_sub hl [3, 4, 5, 6, 7, 0] rfl)
                    · have hf := ifn hf c20
                      refine lv_aload_n X.1 X.2.1 dX6_two_95 rfl (lv_at hl 2 rfl) ?_
                      obtain ⟨r22, hr22, hf⟩ := bd_of hf
                      refine x_callVv X hP hS hG_M.1 (by omega) rfl (n := 0) (As := []) (ct_X6_begin hG_M hr22) gX6_two_X6_begin rfl (by decide +kernel) ⟨by decide, by decide⟩ rfl hl.1 rfl (Nat.le_of_ble_eq_true rfl) dX6_two_96 (fun E H locs hp hP hS => ?_)
                      obtain ⟨hW_M, hk⟩ := hp
                      have hG_M := hW_M
                      have hfr : ∀ j, (j < 64 ∨ 74 ≤ j) → E j = E0 j := fun j o0 => (hk j (by omega)).trans (hfr j o0)
                      refine lv_aload_n X.1 X.2.1 dX6_two_99 rfl (lv_at hl 2 rfl) ?_
                      refine x_get X hP hG_M.1 (by omega) rfl in_X6_two_X6 8 (by decide) (by decide +kernel) rfl rfl dX6_two_100 ?_
                      refine lv_bipush (v := 13) X.1 X.2.1 dX6_two_103 (by decide) ?_
                      refine lv_iload X.1 X.2.1 dX6_two_105 (lv_at hl 6 rfl) ?_
                      refine lv_iadd X.1 X.2.1 dX6_two_107 ?_
                      refine lv_iload X.1 X.2.1 dX6_two_108 (lv_at hl 0 rfl) ?_
                      obtain ⟨hi23, hf⟩ := gin_of hf
                      refine x_iast X hP hS hG_M.2.2.2.2.2.2.1 (by omega) hi23 dX6_two_110 (fun E H locs h1 hk hP hS => ?_)
                      have hG_M := Mo_set_6 hG_M h1 hk
                      have hfr : ∀ j, (j < 64 ∨ 74 ≤ j) → E j = E0 j := fun j o0 => (hk j (by omega)).trans (hfr j o0)
                      refine lv_aload_n X.1 X.2.1 dX6_two_111 rfl (lv_at hl 2 rfl) ?_
                      refine x_get X hP hG_M.1 (by omega) rfl in_X6_two_X6 8 (by decide) (by decide +kernel) rfl rfl dX6_two_112 ?_
                      refine lv_bipush (v := 13) X.1 X.2.1 dX6_two_115 (by decide) ?_
                      refine lv_iload X.1 X.2.1 dX6_two_117 (lv_at hl 7 rfl) ?_
                      refine lv_iadd X.1 X.2.1 dX6_two_119 ?_
                      refine lv_iload X.1 X.2.1 dX6_two_120 (lv_at hl 1 rfl) ?_
                      obtain ⟨hi24, hf⟩ := gin_of hf
                      refine x_iast X hP hS hG_M.2.2.2.2.2.2.1 (by omega) hi24 dX6_two_122 (fun E H locs h1 hk hP hS => ?_)
                      have hG_M := Mo_set_6 hG_M h1 hk
                      have hfr : ∀ j, (j < 64 ∨ 74 ≤ j) → E j = E0 j := fun j o0 => (hk j (by omega)).trans (hfr j o0)
                      refine lv_aload_n X.1 X.2.1 dX6_two_123 rfl (lv_at hl 2 rfl) ?_
                      refine x_get X hP hG_M.1 (by omega) rfl in_X6_two_X6 8 (by decide) (by decide +kernel) rfl rfl dX6_two_124 ?_
                      refine lv_iload X.1 X.2.1 dX6_two_127 (lv_at hl 1 rfl) ?_
                      obtain ⟨r25, hr25, hf⟩ := bd_of hf
                      refine x_rdSi X hP hS (index := 64) (n := 2) (As := [.ref (qa (64 + 6)), .int x13]) (ct_X6_load (by omega) hG_M.2.2.2.2.2.2.1 hr25) ggX6_two_X6_load (by decide +kernel) (by decide +kernel) (by decide +kernel) rfl (by decide +kernel) ⟨by decide, by decide⟩ rfl hl.1 rfl (Nat.le_of_ble_eq_true rfl) dX6_two_129 (fun H locs hP hS => ?_)
                      refine lv_aload_n X.1 X.2.1 dX6_two_132 rfl (lv_at hl 2 rfl) ?_
                      refine x_get X hP hG_M.1 (by omega) rfl in_X6_two_X6 8 (by decide) (by decide +kernel) rfl rfl dX6_two_133 ?_
                      refine lv_iload X.1 X.2.1 dX6_two_136 (lv_at hl 0 rfl) ?_
                      obtain ⟨r26, hr26, hf⟩ := bd_of hf
                      refine x_rdSi X hP hS (index := 64) (n := 2) (As := [.ref (qa (64 + 6)), .int x15]) (ct_X6_load (by omega) hG_M.2.2.2.2.2.2.1 hr26) ggX6_two_X6_load (by decide +kernel) (by decide +kernel) (by decide +kernel) rfl (by decide +kernel) ⟨by decide, by decide⟩ rfl hl.1 rfl (Nat.le_of_ble_eq_true rfl) dX6_two_138 (fun H locs hP hS => ?_)
                      refine lv_iadd X.1 X.2.1 dX6_two_141 ?_
                      obtain ⟨x27, ex27, hf⟩ := nm_of hf
                      refine lv_top_as ex27 ?_
                      refine lv_istore (lv' := [(8, .int x27), (7, .int x15), (6, .int x13), (0, .ref (qa 64)), (1, .int p1), (2, .int v2_8), (3, .int v3_8), (4, .int v4_3), (5, .int v5_8)]) X.1 X.2.1 dX6_two_142 hl (by decide) rfl (fun ls hl => ?_)
                      refine lv_iload_n X.1 X.2.1 dX6_two_144 rfl (lv_at hl 5 rfl) ?_
                      refine lv_bipush (v := (-4)) X.1 X.2.1 dX6_two_145 (by decide) ?_
                      refine lv_icmp_eq (tgt := 156) X.1 X.2.1 dX6_two_147 (by decide) (fun c28 => ?_) (fun c28 => ?_)
                      · have hf := ifp hf c28
                        refine lv_bipush (v := 10) X.1 X.2.1 dX6_two_156 (by decide) ?_
                        refine lv_iload X.1 X.2.1 dX6_two_158 (lv_at hl 7 rfl) ?_
                        refine lv_imul X.1 X.2.1 dX6_two_160 ?_
                        refine lv_iload X.1 X.2.1 dX6_two_161 (lv_at hl 8 rfl) ?_
                        refine lv_iadd X.1 X.2.1 dX6_two_163 ?_
                        obtain ⟨x29, ex29, hf⟩ := nm_of hf
                        refine lv_top_as ex29 ?_
                        refine lv_istore_n (lv' := [(2, .int x29), (8, .int x27), (7, .int x15), (6, .int x13), (0, .ref (qa 64)), (1, .int p1), (3, .int v3_8), (4, .int v4_3), (5, .int v5_8)]) X.1 X.2.1 dX6_two_164 rfl hl (by decide) rfl (fun ls hl => ?_)
                        refine lv_iload X.1 X.2.1 dX6_two_165 (lv_at hl 1 rfl) ?_
                        refine lv_istore_n (lv' := [(3, .int x27), (2, .int x29), (8, .int x27), (7, .int x15), (6, .int x13), (0, .ref (qa 64)), (1, .int p1), (4, .int v4_3), (5, .int v5_8)]) X.1 X.2.1 dX6_two_167 rfl hl (by decide) rfl (fun ls hl => ?_)
                        obtain ⟨x30, ex30, hf⟩ := nm_of hf
                        refine lv_iinc (v := x30) (lv' := [(5, .int x30), (3, .int x27), (2, .int x29), (8, .int x27), (7, .int x15), (6, .int x13), (0, .ref (qa 64)), (1, .int p1), (4, .int v4_3)]) X.1 X.2.1 dX6_two_168 hl (k := 8) rfl (by rw [ex30]; rfl) (by decide) rfl (fun ls hl => ?_)
                        refine lv_goto (tgt := 38) X.1 X.2.1 dX6_two_171 (by decide) ?_
                        exact ih8 x29 x27 x30 (upd (upd r22 (Int32.toNatClampNeg (13 + v4_3)) x15) (Int32.toNatClampNeg (13 + v5_8)) x13) _ _ _ _ hf hP hS hG_M hfr (lv_sub hl [6, 7, 2, 1, 8, 0] rfl)
                      · have hf := ifn hf c28
                        refine lv_iload X.1 X.2.1 dX6_two_150 (lv_at hl 0 rfl) ?_
                        refine lv_iload_n X.1 X.2.1 dX6_two_152 rfl (lv_at hl 6 rfl) ?_
                        refine lv_icmp_ge (tgt := 168) X.1 X.2.1 dX6_two_153 (by decide) (fun c31 => ?_) (fun c31 => ?_)
                        · have hf := ifp hf c31
                          obtain ⟨x32, ex32, hf⟩ := nm_of hf
                          refine lv_iinc (v := x32) (lv' := [(5, .int x32), (8, .int x27), (7, .int x15), (6, .int x13), (0, .ref (qa 64)), (1, .int p1), (2, .int v2_8), (3, .int v3_8), (4, .int v4_3)]) X.1 X.2.1 dX6_two_168 hl (k := 8) rfl (by rw [ex32]; rfl) (by decide) rfl (fun ls hl => ?_)
                          refine lv_goto (tgt := 38) X.1 X.2.1 dX6_two_171 (by decide) ?_
                          exact ih8 v2_8 v3_8 x32 (upd (upd r22 (Int32.toNatClampNeg (13 + v4_3)) x15) (Int32.toNatClampNeg (13 + v5_8)) x13) _ _ _ _ hf hP hS hG_M hfr (lv_sub hl [4, 5, 6, 7, 8, 0] rfl)
                        · have hf := ifn hf c31
                          refine lv_bipush (v := 10) X.1 X.2.1 dX6_two_156 (by decide) ?_
                          refine lv_iload X.1 X.2.1 dX6_two_158 (lv_at hl 7 rfl) ?_
                          refine lv_imul X.1 X.2.1 dX6_two_160 ?_
                          refine lv_iload X.1 X.2.1 dX6_two_161 (lv_at hl 8 rfl) ?_
                          refine lv_iadd X.1 X.2.1 dX6_two_163 ?_
                          obtain ⟨x33, ex33, hf⟩ := nm_of hf
                          refine lv_top_as ex33 ?_
                          refine lv_istore_n (lv' := [(2, .int x33), (8, .int x27), (7, .int x15), (6, .int x13), (0, .ref (qa 64)), (1, .int p1), (3, .int v3_8), (4, .int v4_3), (5, .int v5_8)]) X.1 X.2.1 dX6_two_164 rfl hl (by decide) rfl (fun ls hl => ?_)
                          refine lv_iload X.1 X.2.1 dX6_two_165 (lv_at hl 1 rfl) ?_
                          refine lv_istore_n (lv' := [(3, .int x27), (2, .int x33), (8, .int x27), (7, .int x15), (6, .int x13), (0, .ref (qa 64)), (1, .int p1), (4, .int v4_3), (5, .int v5_8)]) X.1 X.2.1 dX6_two_167 rfl hl (by decide) rfl (fun ls hl => ?_)
                          obtain ⟨x34, ex34, hf⟩ := nm_of hf
                          refine lv_iinc (v := x34) (lv' := [(5, .int x34), (3, .int x27), (2, .int x33), (8, .int x27), (7, .int x15), (6, .int x13), (0, .ref (qa 64)), (1, .int p1), (4, .int v4_3)]) X.1 X.2.1 dX6_two_168 hl (k := 8) rfl (by rw [ex34]; rfl) (by decide) rfl (fun ls hl => ?_)
                          refine lv_goto (tgt := 38) X.1 X.2.1 dX6_two_171 (by decide) ?_
                          exact ih8 x33 x27 x34 (upd (upd r22 (Int32.toNatClampNeg (13 + v4_3)) x15) (Int32.toNatClampNeg (13 + v5_8)) x13) _ _ _ _ hf hP hS hG_M hfr (lv_sub hl [6, 7, 2, 1, 8, 0] rfl)
          exact lp8 FU v2_3 v3_3 x7 tri_M_3 _ _ _ _ hf hP hS hG_M hfr (lv_sub hl [1, 2, 3, 4, 5, 0] rfl)
    exact lp3 FU (-4) (-4) 0 tri_M _ _ _ _ hf hP hS hG_M hfr (lv_sub hl [3, 4, 2, 1, 0] rfl)
  · have hf := ifp hf c2
    refine lv_iconst (v := (-1)) X.1 X.2.1 dX6_two_9 (by decide) ?_
    obtain rfl := Option.some.inj hf
    exact hret _ _ _ _ _ _ dX6_two_10 rfl rfl (⟨hG_M, hfr⟩) hP hS
