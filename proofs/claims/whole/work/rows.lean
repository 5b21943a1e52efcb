section
-- ===== PART A: goes FIRST, ahead of the names: the tables' words, and 'selects' of the private methods out of them =====
/-- a private method of a class that the tables say can be made, by its rows of tables_1 -/
def lw_okq (q : MethodName × Nat) : Prop := (q.1.cls ≠ "java/lang/invoke/MethodHandle" ∧ q.1.cls ≠ "java/lang/invoke/VarHandle") ∧ Cond.instantiable q.1.cls q.2 ∈ tables_1 ∧ Cond.privateMethod q.1 ∈ tables_1 ∧ Cond.instanceMethod q.1 ∈ tables_1
theorem lw_p0 : lw_okq (⟨"WoundMedals$Muster", "medalsWith", "([II)I"⟩, 10) := ⟨⟨by decide +kernel, by decide +kernel⟩, List.mem_of_getElem? (i := 20) (by decide +kernel), List.mem_of_getElem? (i := 240) (by decide +kernel), List.mem_of_getElem? (i := 241) (by decide +kernel)⟩
theorem lw_p1 : lw_okq (⟨"WoundMedals$Tape", "readMen", "(LWoundMedals$Muster;)Z"⟩, 3) := ⟨⟨by decide +kernel, by decide +kernel⟩, List.mem_of_getElem? (i := 96) (by decide +kernel), List.mem_of_getElem? (i := 300) (by decide +kernel), List.mem_of_getElem? (i := 301) (by decide +kernel)⟩
theorem lw_p2 : lw_okq (⟨"WoundMedals$Tape", "readMan", "(LWoundMedals$Muster;)Z"⟩, 3) := ⟨⟨by decide +kernel, by decide +kernel⟩, List.mem_of_getElem? (i := 96) (by decide +kernel), List.mem_of_getElem? (i := 304) (by decide +kernel), List.mem_of_getElem? (i := 305) (by decide +kernel)⟩
theorem lw_p3 : lw_okq (⟨"WoundMedals$Tape", "readNumber", "(II)I"⟩, 3) := ⟨⟨by decide +kernel, by decide +kernel⟩, List.mem_of_getElem? (i := 96) (by decide +kernel), List.mem_of_getElem? (i := 308) (by decide +kernel), List.mem_of_getElem? (i := 309) (by decide +kernel)⟩
theorem lw_p4 : lw_okq (⟨"WoundMedals$Tape", "nextLetter", "()C"⟩, 3) := ⟨⟨by decide +kernel, by decide +kernel⟩, List.mem_of_getElem? (i := 96) (by decide +kernel), List.mem_of_getElem? (i := 312) (by decide +kernel), List.mem_of_getElem? (i := 313) (by decide +kernel)⟩
theorem lw_p5 : lw_okq (⟨"WoundMedals$Tape", "letterHere", "()C"⟩, 3) := ⟨⟨by decide +kernel, by decide +kernel⟩, List.mem_of_getElem? (i := 96) (by decide +kernel), List.mem_of_getElem? (i := 316) (by decide +kernel), List.mem_of_getElem? (i := 317) (by decide +kernel)⟩
theorem lw_p6 : lw_okq (⟨"WoundMedals$Tape", "takes", "(C)Z"⟩, 3) := ⟨⟨by decide +kernel, by decide +kernel⟩, List.mem_of_getElem? (i := 96) (by decide +kernel), List.mem_of_getElem? (i := 323) (by decide +kernel), List.mem_of_getElem? (i := 324) (by decide +kernel)⟩
theorem lw_p7 : lw_okq (⟨"WoundMedals$Tape", "readMedals", "(LWoundMedals$Muster;)Z"⟩, 3) := ⟨⟨by decide +kernel, by decide +kernel⟩, List.mem_of_getElem? (i := 96) (by decide +kernel), List.mem_of_getElem? (i := 328) (by decide +kernel), List.mem_of_getElem? (i := 329) (by decide +kernel)⟩
theorem lw_p8 : lw_okq (⟨"WoundMedals$Tape", "readMedal", "(LWoundMedals$Muster;)Z"⟩, 3) := ⟨⟨by decide +kernel, by decide +kernel⟩, List.mem_of_getElem? (i := 96) (by decide +kernel), List.mem_of_getElem? (i := 332) (by decide +kernel), List.mem_of_getElem? (i := 333) (by decide +kernel)⟩
theorem lw_p9 : lw_okq (⟨"WoundMedals$Tape", "readManOf", "(LWoundMedals$Muster;)I"⟩, 3) := ⟨⟨by decide +kernel, by decide +kernel⟩, List.mem_of_getElem? (i := 96) (by decide +kernel), List.mem_of_getElem? (i := 339) (by decide +kernel), List.mem_of_getElem? (i := 340) (by decide +kernel)⟩
theorem lw_p10 : lw_okq (⟨"WoundMedals", "passDays", "(IZ)I"⟩, 9) := ⟨⟨by decide +kernel, by decide +kernel⟩, List.mem_of_getElem? (i := 12) (by decide +kernel), List.mem_of_getElem? (i := 373) (by decide +kernel), List.mem_of_getElem? (i := 374) (by decide +kernel)⟩
theorem lw_p11 : lw_okq (⟨"WoundMedals$Hanging", "find", "()V"⟩, 9) := ⟨⟨by decide +kernel, by decide +kernel⟩, List.mem_of_getElem? (i := 115) (by decide +kernel), List.mem_of_getElem? (i := 470) (by decide +kernel), List.mem_of_getElem? (i := 471) (by decide +kernel)⟩
theorem lw_p12 : lw_okq (⟨"WoundMedals$Hanging", "hangFrom", "(II)V"⟩, 9) := ⟨⟨by decide +kernel, by decide +kernel⟩, List.mem_of_getElem? (i := 115) (by decide +kernel), List.mem_of_getElem? (i := 484) (by decide +kernel), List.mem_of_getElem? (i := 485) (by decide +kernel)⟩
theorem lw_p13 : lw_okq (⟨"WoundMedals$Hanging", "costOfFew", "(IIII)I"⟩, 9) := ⟨⟨by decide +kernel, by decide +kernel⟩, List.mem_of_getElem? (i := 115) (by decide +kernel), List.mem_of_getElem? (i := 489) (by decide +kernel), List.mem_of_getElem? (i := 490) (by decide +kernel)⟩
theorem lw_p14 : lw_okq (⟨"WoundMedals$Hanging", "bends", "(II)Z"⟩, 9) := ⟨⟨by decide +kernel, by decide +kernel⟩, List.mem_of_getElem? (i := 115) (by decide +kernel), List.mem_of_getElem? (i := 493) (by decide +kernel), List.mem_of_getElem? (i := 494) (by decide +kernel)⟩
theorem lw_p15 : lw_okq (⟨"WoundMedals$Hanging", "costOfEven", "(II)I"⟩, 9) := ⟨⟨by decide +kernel, by decide +kernel⟩, List.mem_of_getElem? (i := 115) (by decide +kernel), List.mem_of_getElem? (i := 497) (by decide +kernel), List.mem_of_getElem? (i := 498) (by decide +kernel)⟩
def lw_privs_1 : List (MethodName × Nat) := [(⟨"WoundMedals$Muster", "medalsWith", "([II)I"⟩, 10), (⟨"WoundMedals$Tape", "readMen", "(LWoundMedals$Muster;)Z"⟩, 3), (⟨"WoundMedals$Tape", "readMan", "(LWoundMedals$Muster;)Z"⟩, 3), (⟨"WoundMedals$Tape", "readNumber", "(II)I"⟩, 3), (⟨"WoundMedals$Tape", "nextLetter", "()C"⟩, 3), (⟨"WoundMedals$Tape", "letterHere", "()C"⟩, 3), (⟨"WoundMedals$Tape", "takes", "(C)Z"⟩, 3), (⟨"WoundMedals$Tape", "readMedals", "(LWoundMedals$Muster;)Z"⟩, 3), (⟨"WoundMedals$Tape", "readMedal", "(LWoundMedals$Muster;)Z"⟩, 3), (⟨"WoundMedals$Tape", "readManOf", "(LWoundMedals$Muster;)I"⟩, 3), (⟨"WoundMedals", "passDays", "(IZ)I"⟩, 9), (⟨"WoundMedals$Hanging", "find", "()V"⟩, 9), (⟨"WoundMedals$Hanging", "hangFrom", "(II)V"⟩, 9), (⟨"WoundMedals$Hanging", "costOfFew", "(IIII)I"⟩, 9), (⟨"WoundMedals$Hanging", "bends", "(II)Z"⟩, 9), (⟨"WoundMedals$Hanging", "costOfEven", "(II)I"⟩, 9)]
theorem lw_r1 : ∀ q ∈ lw_privs_1, lw_okq q := List.forall_mem_cons.mpr ⟨lw_p0, List.forall_mem_cons.mpr ⟨lw_p1, List.forall_mem_cons.mpr ⟨lw_p2, List.forall_mem_cons.mpr ⟨lw_p3, List.forall_mem_cons.mpr ⟨lw_p4, List.forall_mem_cons.mpr ⟨lw_p5, List.forall_mem_cons.mpr ⟨lw_p6, List.forall_mem_cons.mpr ⟨lw_p7, List.forall_mem_cons.mpr ⟨lw_p8, List.forall_mem_cons.mpr ⟨lw_p9, List.forall_mem_cons.mpr ⟨lw_p10, List.forall_mem_cons.mpr ⟨lw_p11, List.forall_mem_cons.mpr ⟨lw_p12, List.forall_mem_cons.mpr ⟨lw_p13, List.forall_mem_cons.mpr ⟨lw_p14, List.forall_mem_cons.mpr ⟨lw_p15, fun _ h => absurd h List.not_mem_nil⟩⟩⟩⟩⟩⟩⟩⟩⟩⟩⟩⟩⟩⟩⟩⟩
theorem lw_p16 : lw_okq (⟨"WoundMedals$Hanging", "waysWith", "(II)I"⟩, 9) := ⟨⟨by decide +kernel, by decide +kernel⟩, List.mem_of_getElem? (i := 115) (by decide +kernel), List.mem_of_getElem? (i := 548) (by decide +kernel), List.mem_of_getElem? (i := 549) (by decide +kernel)⟩
theorem lw_p17 : lw_okq (⟨"WoundMedals", "trialIsTold", "(ILWoundMedals$Row;II)Z"⟩, 9) := ⟨⟨by decide +kernel, by decide +kernel⟩, List.mem_of_getElem? (i := 12) (by decide +kernel), List.mem_of_getElem? (i := 597) (by decide +kernel), List.mem_of_getElem? (i := 598) (by decide +kernel)⟩
theorem lw_p18 : lw_okq (⟨"WoundMedalsModel", "isMan", "(I)Z"⟩, 15) := ⟨⟨by decide +kernel, by decide +kernel⟩, List.mem_of_getElem? (i := 631) (by decide +kernel), List.mem_of_getElem? (i := 697) (by decide +kernel), List.mem_of_getElem? (i := 698) (by decide +kernel)⟩
theorem lw_p19 : lw_okq (⟨"WoundMedalsModel", "woundsOf", "(I)I"⟩, 15) := ⟨⟨by decide +kernel, by decide +kernel⟩, List.mem_of_getElem? (i := 631) (by decide +kernel), List.mem_of_getElem? (i := 723) (by decide +kernel), List.mem_of_getElem? (i := 724) (by decide +kernel)⟩
theorem lw_p20 : lw_okq (⟨"WoundMedalsModel", "isMedal", "(I)Z"⟩, 15) := ⟨⟨by decide +kernel, by decide +kernel⟩, List.mem_of_getElem? (i := 631) (by decide +kernel), List.mem_of_getElem? (i := 731) (by decide +kernel), List.mem_of_getElem? (i := 732) (by decide +kernel)⟩
theorem lw_p21 : lw_okq (⟨"WoundMedalsModel", "isState", "()Z"⟩, 15) := ⟨⟨by decide +kernel, by decide +kernel⟩, List.mem_of_getElem? (i := 631) (by decide +kernel), List.mem_of_getElem? (i := 743) (by decide +kernel), List.mem_of_getElem? (i := 744) (by decide +kernel)⟩
theorem lw_p22 : lw_okq (⟨"WoundMedalsModel", "isManItem", "()Z"⟩, 15) := ⟨⟨by decide +kernel, by decide +kernel⟩, List.mem_of_getElem? (i := 631) (by decide +kernel), List.mem_of_getElem? (i := 747) (by decide +kernel), List.mem_of_getElem? (i := 748) (by decide +kernel)⟩
theorem lw_p23 : lw_okq (⟨"WoundMedalsModel", "isNumber", "(II)Z"⟩, 15) := ⟨⟨by decide +kernel, by decide +kernel⟩, List.mem_of_getElem? (i := 631) (by decide +kernel), List.mem_of_getElem? (i := 751) (by decide +kernel), List.mem_of_getElem? (i := 752) (by decide +kernel)⟩
theorem lw_p24 : lw_okq (⟨"WoundMedalsModel", "isDigit", "(II)Z"⟩, 15) := ⟨⟨by decide +kernel, by decide +kernel⟩, List.mem_of_getElem? (i := 631) (by decide +kernel), List.mem_of_getElem? (i := 755) (by decide +kernel), List.mem_of_getElem? (i := 756) (by decide +kernel)⟩
theorem lw_p25 : lw_okq (⟨"WoundMedalsModel", "peek", "()I"⟩, 15) := ⟨⟨by decide +kernel, by decide +kernel⟩, List.mem_of_getElem? (i := 631) (by decide +kernel), List.mem_of_getElem? (i := 759) (by decide +kernel), List.mem_of_getElem? (i := 760) (by decide +kernel)⟩
theorem lw_p26 : lw_okq (⟨"WoundMedalsModel", "isSign", "(I)Z"⟩, 15) := ⟨⟨by decide +kernel, by decide +kernel⟩, List.mem_of_getElem? (i := 631) (by decide +kernel), List.mem_of_getElem? (i := 763) (by decide +kernel), List.mem_of_getElem? (i := 764) (by decide +kernel)⟩
theorem lw_p27 : lw_okq (⟨"WoundMedalsModel", "isMedalItem", "()Z"⟩, 15) := ⟨⟨by decide +kernel, by decide +kernel⟩, List.mem_of_getElem? (i := 631) (by decide +kernel), List.mem_of_getElem? (i := 767) (by decide +kernel), List.mem_of_getElem? (i := 768) (by decide +kernel)⟩
theorem lw_p28 : lw_okq (⟨"WoundMedalsModel", "strengths", "()I"⟩, 15) := ⟨⟨by decide +kernel, by decide +kernel⟩, List.mem_of_getElem? (i := 631) (by decide +kernel), List.mem_of_getElem? (i := 784) (by decide +kernel), List.mem_of_getElem? (i := 785) (by decide +kernel)⟩
theorem lw_p29 : lw_okq (⟨"WoundMedalsModel", "note", "()V"⟩, 15) := ⟨⟨by decide +kernel, by decide +kernel⟩, List.mem_of_getElem? (i := 631) (by decide +kernel), List.mem_of_getElem? (i := 795) (by decide +kernel), List.mem_of_getElem? (i := 796) (by decide +kernel)⟩
theorem lw_p30 : lw_okq (⟨"WoundMedalsModel", "begin", "()V"⟩, 15) := ⟨⟨by decide +kernel, by decide +kernel⟩, List.mem_of_getElem? (i := 631) (by decide +kernel), List.mem_of_getElem? (i := 830) (by decide +kernel), List.mem_of_getElem? (i := 831) (by decide +kernel)⟩
theorem lw_p31 : lw_okq (⟨"WoundMedalsModel", "goOn", "(I)V"⟩, 15) := ⟨⟨by decide +kernel, by decide +kernel⟩, List.mem_of_getElem? (i := 631) (by decide +kernel), List.mem_of_getElem? (i := 834) (by decide +kernel), List.mem_of_getElem? (i := 835) (by decide +kernel)⟩
def lw_privs_2 : List (MethodName × Nat) := [(⟨"WoundMedals$Hanging", "waysWith", "(II)I"⟩, 9), (⟨"WoundMedals", "trialIsTold", "(ILWoundMedals$Row;II)Z"⟩, 9), (⟨"WoundMedalsModel", "isMan", "(I)Z"⟩, 15), (⟨"WoundMedalsModel", "woundsOf", "(I)I"⟩, 15), (⟨"WoundMedalsModel", "isMedal", "(I)Z"⟩, 15), (⟨"WoundMedalsModel", "isState", "()Z"⟩, 15), (⟨"WoundMedalsModel", "isManItem", "()Z"⟩, 15), (⟨"WoundMedalsModel", "isNumber", "(II)Z"⟩, 15), (⟨"WoundMedalsModel", "isDigit", "(II)Z"⟩, 15), (⟨"WoundMedalsModel", "peek", "()I"⟩, 15), (⟨"WoundMedalsModel", "isSign", "(I)Z"⟩, 15), (⟨"WoundMedalsModel", "isMedalItem", "()Z"⟩, 15), (⟨"WoundMedalsModel", "strengths", "()I"⟩, 15), (⟨"WoundMedalsModel", "note", "()V"⟩, 15), (⟨"WoundMedalsModel", "begin", "()V"⟩, 15), (⟨"WoundMedalsModel", "goOn", "(I)V"⟩, 15)]
theorem lw_r2 : ∀ q ∈ lw_privs_2, lw_okq q := List.forall_mem_cons.mpr ⟨lw_p16, List.forall_mem_cons.mpr ⟨lw_p17, List.forall_mem_cons.mpr ⟨lw_p18, List.forall_mem_cons.mpr ⟨lw_p19, List.forall_mem_cons.mpr ⟨lw_p20, List.forall_mem_cons.mpr ⟨lw_p21, List.forall_mem_cons.mpr ⟨lw_p22, List.forall_mem_cons.mpr ⟨lw_p23, List.forall_mem_cons.mpr ⟨lw_p24, List.forall_mem_cons.mpr ⟨lw_p25, List.forall_mem_cons.mpr ⟨lw_p26, List.forall_mem_cons.mpr ⟨lw_p27, List.forall_mem_cons.mpr ⟨lw_p28, List.forall_mem_cons.mpr ⟨lw_p29, List.forall_mem_cons.mpr ⟨lw_p30, List.forall_mem_cons.mpr ⟨lw_p31, fun _ h => absurd h List.not_mem_nil⟩⟩⟩⟩⟩⟩⟩⟩⟩⟩⟩⟩⟩⟩⟩⟩
theorem lw_p32 : lw_okq (⟨"WoundMedalsModel", "layBest", "(Z)V"⟩, 15) := ⟨⟨by decide +kernel, by decide +kernel⟩, List.mem_of_getElem? (i := 631) (by decide +kernel), List.mem_of_getElem? (i := 854) (by decide +kernel), List.mem_of_getElem? (i := 855) (by decide +kernel)⟩
theorem lw_p33 : lw_okq (⟨"WoundMedalsModel", "ways", "()I"⟩, 15) := ⟨⟨by decide +kernel, by decide +kernel⟩, List.mem_of_getElem? (i := 631) (by decide +kernel), List.mem_of_getElem? (i := 858) (by decide +kernel), List.mem_of_getElem? (i := 859) (by decide +kernel)⟩
theorem lw_p34 : lw_okq (⟨"WoundMedalsModel", "hangBy", "(I)I"⟩, 15) := ⟨⟨by decide +kernel, by decide +kernel⟩, List.mem_of_getElem? (i := 631) (by decide +kernel), List.mem_of_getElem? (i := 862) (by decide +kernel), List.mem_of_getElem? (i := 863) (by decide +kernel)⟩
theorem lw_p35 : lw_okq (⟨"WoundMedalsModel", "isUpright", "(II)Z"⟩, 15) := ⟨⟨by decide +kernel, by decide +kernel⟩, List.mem_of_getElem? (i := 631) (by decide +kernel), List.mem_of_getElem? (i := 881) (by decide +kernel), List.mem_of_getElem? (i := 882) (by decide +kernel)⟩
theorem lw_p36 : lw_okq (⟨"WoundMedalsModel", "wrong", "(IIII)I"⟩, 15) := ⟨⟨by decide +kernel, by decide +kernel⟩, List.mem_of_getElem? (i := 631) (by decide +kernel), List.mem_of_getElem? (i := 908) (by decide +kernel), List.mem_of_getElem? (i := 909) (by decide +kernel)⟩
theorem lw_p37 : lw_okq (⟨"WoundMedalsModel", "isFelt", "(IIII)Z"⟩, 15) := ⟨⟨by decide +kernel, by decide +kernel⟩, List.mem_of_getElem? (i := 631) (by decide +kernel), List.mem_of_getElem? (i := 915) (by decide +kernel), List.mem_of_getElem? (i := 916) (by decide +kernel)⟩
def lw_privs_3 : List (MethodName × Nat) := [(⟨"WoundMedalsModel", "layBest", "(Z)V"⟩, 15), (⟨"WoundMedalsModel", "ways", "()I"⟩, 15), (⟨"WoundMedalsModel", "hangBy", "(I)I"⟩, 15), (⟨"WoundMedalsModel", "isUpright", "(II)Z"⟩, 15), (⟨"WoundMedalsModel", "wrong", "(IIII)I"⟩, 15), (⟨"WoundMedalsModel", "isFelt", "(IIII)Z"⟩, 15)]
theorem lw_r3 : ∀ q ∈ lw_privs_3, lw_okq q := List.forall_mem_cons.mpr ⟨lw_p32, List.forall_mem_cons.mpr ⟨lw_p33, List.forall_mem_cons.mpr ⟨lw_p34, List.forall_mem_cons.mpr ⟨lw_p35, List.forall_mem_cons.mpr ⟨lw_p36, List.forall_mem_cons.mpr ⟨lw_p37, fun _ h => absurd h List.not_mem_nil⟩⟩⟩⟩⟩⟩
def lw_privs : List (MethodName × Nat) := lw_privs_1 ++ (lw_privs_2 ++ (lw_privs_3))
def lw_tbl : List Cond := k2_sels lw_privs ++ tables_1
theorem lw_privs_ok : ∀ q ∈ lw_privs, lw_okq q := by
  show ∀ q ∈ lw_privs_1 ++ (lw_privs_2 ++ (lw_privs_3)), lw_okq q
  exact List.forall_mem_append.mpr ⟨lw_r1, List.forall_mem_append.mpr ⟨lw_r2, lw_r3⟩⟩
-- ===== end of PART A; then your names; then what follows =====
end
section
/-! ===== BEGIN words of one list among another's, by their places ===== -/
theorem goodIn_r {big : List Cond} (ws : List Cond) (ps : List Nat) (hp : ws = ps.filterMap (fun i => big[i]?)) (h : ws.all goodWord = true) : GoodIn big ws := by
  intro w hw
  have h1 := List.all_eq_true.mp h w hw
  rw [hp] at hw
  obtain ⟨i, -, hi⟩ := List.mem_filterMap.mp hw
  have hm : w ∈ big := by first | exact List.mem_of_getElem? hi | exact List.getElem?_mem hi
  exact ⟨hm, good_of_word h1⟩
theorem goodIn_app {big a b : List Cond} (ha : GoodIn big a) (hb : GoodIn big b) : GoodIn big (a ++ b) := fun w h => (List.mem_append.mp h).elim (ha w) (hb w)
theorem goodIn_ca {big a b : List Cond} {c : Cond} (ha : GoodIn big (c :: a)) (hb : GoodIn big b) : GoodIn big (c :: (a ++ b)) := fun w h => (List.mem_cons.mp h).elim (fun e => ha w (List.mem_cons.mpr (Or.inl e))) (fun h => (List.mem_append.mp h).elim (fun h => ha w (List.mem_cons.mpr (Or.inr h))) (hb w))
theorem goodIn_sub {big ws : List Cond} (hm : ∀ w ∈ ws, w ∈ big) (h : ws.all goodWord = true) : GoodIn big ws := fun w hw => ⟨hm w hw, good_of_word (List.all_eq_true.mp h w hw)⟩
/-! ===== END ===== -/


/-! ===== BEGIN printed: names, fields, word lists, decode rows ===== -/
def RX0 : String := "WoundMedals$Hanging"
def TX0 : u_T := fun k => match k with
  | 0 => ("WoundMedals$Hanging", "muster", "LWoundMedals$Muster;", true)
  | 1 => ("WoundMedals$Hanging", "loads", "[[I", true)
  | 2 => ("WoundMedals$Hanging", "worn", "I", false)
  | 3 => ("WoundMedals$Hanging", "setOf", "[I", true)
  | 4 => ("WoundMedals$Hanging", "tried", "[I", true)
  | 5 => ("WoundMedals$Hanging", "best", "[I", true)
  | 6 => ("WoundMedals$Hanging", "waysOfSet", "[I", true)
  | 7 => ("WoundMedals$Hanging", "wantsFew", "Z", false)
  | _ => ("WoundMedals$Hanging", "bestCost", "I", false)
def tyX0 : Nat → FieldType := fun k => match k with
  | 0 => .object "WoundMedals$Muster"
  | 1 => .array (.array .int)
  | 2 => .int
  | 3 => .array .int
  | 4 => .array .int
  | 5 => .array .int
  | 6 => .array .int
  | 7 => .boolean
  | _ => .int
abbrev wsX00 : List Cond := u_ws RX0 TX0 9
theorem nmX0 : ∀ a, a < 9 → ∀ b, b < 9 → a ≠ b → (TX0 a).2.1 ≠ (TX0 b).2.1 := by decide +kernel
theorem tyX0_ok : ∀ k, k < 9 → parseFieldDescriptor (TX0 k).2.2.1 = some (tyX0 k) := by decide +kernel
abbrev cX0_init : ByteArray := prog_2_method_1_code
def yX0_init : MethodName := ⟨RX0, "<init>", "(LWoundMedals$Muster;)V"⟩
abbrev cX0_prepare : ByteArray := prog_2_method_2_code
def yX0_prepare : MethodName := ⟨RX0, "prepare", "()V"⟩
abbrev cX0_findEven : ByteArray := prog_2_method_3_code
def yX0_findEven : MethodName := ⟨RX0, "findEven", "()V"⟩
abbrev cX0_findFew : ByteArray := prog_2_method_4_code
def yX0_findFew : MethodName := ⟨RX0, "findFew", "()V"⟩
abbrev cX0_find : ByteArray := prog_2_method_5_code
def yX0_find : MethodName := ⟨RX0, "find", "()V"⟩
abbrev cX0_hangFrom : ByteArray := prog_2_method_6_code
def yX0_hangFrom : MethodName := ⟨RX0, "hangFrom", "(II)V"⟩
abbrev cX0_costOfEven : ByteArray := prog_2_method_7_code
def yX0_costOfEven : MethodName := ⟨RX0, "costOfEven", "(II)I"⟩
abbrev cX0_costOfFew : ByteArray := prog_2_method_8_code
def yX0_costOfFew : MethodName := ⟨RX0, "costOfFew", "(IIII)I"⟩
abbrev cX0_bends : ByteArray := prog_2_method_9_code
def yX0_bends : MethodName := ⟨RX0, "bends", "(II)Z"⟩
abbrev cX0_wouldWear : ByteArray := prog_2_method_10_code
def yX0_wouldWear : MethodName := ⟨RX0, "wouldWear", "(I)I"⟩
abbrev cX0_ways : ByteArray := prog_2_method_11_code
def yX0_ways : MethodName := ⟨RX0, "ways", "()I"⟩
abbrev cX0_waysWithBent : ByteArray := prog_2_method_12_code
def yX0_waysWithBent : MethodName := ⟨RX0, "waysWithBent", "(I)I"⟩
abbrev cX0_waysWithNobodyBent : ByteArray := prog_2_method_13_code
def yX0_waysWithNobodyBent : MethodName := ⟨RX0, "waysWithNobodyBent", "()I"⟩
abbrev cX0_waysWith : ByteArray := prog_2_method_14_code
def yX0_waysWith : MethodName := ⟨RX0, "waysWith", "(II)I"⟩
abbrev cX0_power : ByteArray := prog_2_method_15_code
def yX0_power : MethodName := ⟨RX0, "power", "(II)I"⟩
def RX1 : String := "WoundMedals$Muster"
def TX1 : u_T := fun k => match k with
  | 0 => ("WoundMedals$Muster", "men", "I", false)
  | 1 => ("WoundMedals$Muster", "build", "[I", true)
  | 2 => ("WoundMedals$Muster", "strength", "[I", true)
  | 3 => ("WoundMedals$Muster", "medals", "I", false)
  | 4 => ("WoundMedals$Muster", "kind", "[I", true)
  | 5 => ("WoundMedals$Muster", "weight", "[I", true)
  | 6 => ("WoundMedals$Muster", "wound", "[I", true)
  | 7 => ("WoundMedals$Muster", "wearer", "[I", true)
  | 8 => ("WoundMedals$Muster", "day", "I", false)
  | _ => ("WoundMedals$Muster", "draw", "I", false)
def tyX1 : Nat → FieldType := fun k => match k with
  | 0 => .int
  | 1 => .array .int
  | 2 => .array .int
  | 3 => .int
  | 4 => .array .int
  | 5 => .array .int
  | 6 => .array .int
  | 7 => .array .int
  | 8 => .int
  | _ => .int
abbrev wsX10 : List Cond := u_ws RX1 TX1 10
theorem nmX1 : ∀ a, a < 10 → ∀ b, b < 10 → a ≠ b → (TX1 a).2.1 ≠ (TX1 b).2.1 := by decide +kernel
theorem tyX1_ok : ∀ k, k < 10 → parseFieldDescriptor (TX1 k).2.2.1 = some (tyX1 k) := by decide +kernel
abbrev cX1_init : ByteArray := prog_3_method_1_code
def yX1_init : MethodName := ⟨RX1, "<init>", "()V"⟩
abbrev cX1_clear : ByteArray := prog_3_method_2_code
def yX1_clear : MethodName := ⟨RX1, "clear", "()V"⟩
abbrev cX1_take : ByteArray := prog_3_method_3_code
def yX1_take : MethodName := ⟨RX1, "take", "(LWoundMedals$Muster;)V"⟩
abbrev cX1_hasMan : ByteArray := prog_3_method_4_code
def yX1_hasMan : MethodName := ⟨RX1, "hasMan", "(I)Z"⟩
abbrev cX1_hasMedal : ByteArray := prog_3_method_5_code
def yX1_hasMedal : MethodName := ⟨RX1, "hasMedal", "(I)Z"⟩
abbrev cX1_addMan : ByteArray := prog_3_method_6_code
def yX1_addMan : MethodName := ⟨RX1, "addMan", "(II)I"⟩
abbrev cX1_addMedal : ByteArray := prog_3_method_7_code
def yX1_addMedal : MethodName := ⟨RX1, "addMedal", "(IIII)I"⟩
abbrev cX1_wornBy : ByteArray := prog_3_method_8_code
def yX1_wornBy : MethodName := ⟨RX1, "wornBy", "(I)I"⟩
abbrev cX1_allWorn : ByteArray := prog_3_method_9_code
def yX1_allWorn : MethodName := ⟨RX1, "allWorn", "()I"⟩
abbrev cX1_woundsOf : ByteArray := prog_3_method_10_code
def yX1_woundsOf : MethodName := ⟨RX1, "woundsOf", "(I)I"⟩
abbrev cX1_medalsWith : ByteArray := prog_3_method_11_code
def yX1_medalsWith : MethodName := ⟨RX1, "medalsWith", "([II)I"⟩
abbrev cX1_bears : ByteArray := prog_3_method_12_code
def yX1_bears : MethodName := ⟨RX1, "bears", "(IIII)I"⟩
abbrev cX1_bearsNow : ByteArray := prog_3_method_13_code
def yX1_bearsNow : MethodName := ⟨RX1, "bearsNow", "(I)I"⟩
abbrev cX1_loadOfSet : ByteArray := prog_3_method_14_code
def yX1_loadOfSet : MethodName := ⟨RX1, "loadOfSet", "(III)I"⟩
abbrev cX1_loadOn : ByteArray := prog_3_method_15_code
def yX1_loadOn : MethodName := ⟨RX1, "loadOn", "(II)I"⟩
abbrev cX1_isBent : ByteArray := prog_3_method_16_code
def yX1_isBent : MethodName := ⟨RX1, "isBent", "(I)Z"⟩
abbrev cX1_allStrength : ByteArray := prog_3_method_17_code
def yX1_allStrength : MethodName := ⟨RX1, "allStrength", "()I"⟩
abbrev cX1_allLoads : ByteArray := prog_3_method_18_code
def yX1_allLoads : MethodName := ⟨RX1, "allLoads", "()I"⟩
abbrev cX1_strengthAfter : ByteArray := prog_3_method_19_code
def yX1_strengthAfter : MethodName := ⟨RX1, "strengthAfter", "(III)I"⟩
abbrev cX1_strengthBehind : ByteArray := prog_3_method_20_code
def yX1_strengthBehind : MethodName := ⟨RX1, "strengthBehind", "(II)I"⟩
abbrev cX1_allBent : ByteArray := prog_3_method_21_code
def yX1_allBent : MethodName := ⟨RX1, "allBent", "()I"⟩
abbrev cX1_bentBehind : ByteArray := prog_3_method_22_code
def yX1_bentBehind : MethodName := ⟨RX1, "bentBehind", "(I)I"⟩
abbrev cX1_isBentWithin : ByteArray := prog_3_method_23_code
def yX1_isBentWithin : MethodName := ⟨RX1, "isBentWithin", "(II)Z"⟩
abbrev cX1_wornByTwo : ByteArray := prog_3_method_24_code
def yX1_wornByTwo : MethodName := ⟨RX1, "wornByTwo", "(II)Z"⟩
abbrev cX1_loadsIfChanged : ByteArray := prog_3_method_25_code
def yX1_loadsIfChanged : MethodName := ⟨RX1, "loadsIfChanged", "(II)I"⟩
abbrev cX1_passDay : ByteArray := prog_3_method_26_code
def yX1_passDay : MethodName := ⟨RX1, "passDay", "()V"⟩
abbrev cX1_drawAndHang : ByteArray := prog_3_method_27_code
def yX1_drawAndHang : MethodName := ⟨RX1, "drawAndHang", "()V"⟩
def RX2 : String := "WoundMedals$Past"
def TX2 : u_T := fun k => match k with
  | 0 => ("WoundMedals$Past", "kept", "[[I", true)
  | 1 => ("WoundMedals$Past", "known", "I", false)
  | _ => ("WoundMedals$Past", "next", "I", false)
def tyX2 : Nat → FieldType := fun k => match k with
  | 0 => .array (.array .int)
  | 1 => .int
  | _ => .int
abbrev wsX20 : List Cond := u_ws RX2 TX2 3
theorem nmX2 : ∀ a, a < 3 → ∀ b, b < 3 → a ≠ b → (TX2 a).2.1 ≠ (TX2 b).2.1 := by decide +kernel
theorem tyX2_ok : ∀ k, k < 3 → parseFieldDescriptor (TX2 k).2.2.1 = some (tyX2 k) := by decide +kernel
abbrev cX2_init : ByteArray := prog_4_method_1_code
def yX2_init : MethodName := ⟨RX2, "<init>", "()V"⟩
abbrev cX2_forget : ByteArray := prog_4_method_2_code
def yX2_forget : MethodName := ⟨RX2, "forget", "()V"⟩
abbrev cX2_keep : ByteArray := prog_4_method_3_code
def yX2_keep : MethodName := ⟨RX2, "keep", "(LWoundMedals$Muster;)V"⟩
abbrev cX2_giveBack : ByteArray := prog_4_method_4_code
def yX2_giveBack : MethodName := ⟨RX2, "giveBack", "(LWoundMedals$Muster;)Z"⟩
abbrev cX2_take : ByteArray := prog_4_method_5_code
def yX2_take : MethodName := ⟨RX2, "take", "(LWoundMedals$Past;)V"⟩
def RX3 : String := "WoundMedals$Row"
def TX3 : u_T := fun k => match k with
  | 0 => ("WoundMedals$Row", "isThere", "Z", false)
  | 1 => ("WoundMedals$Row", "lane", "I", false)
  | 2 => ("WoundMedals$Row", "length", "I", false)
  | _ => ("WoundMedals$Row", "items", "[J", true)
def tyX3 : Nat → FieldType := fun k => match k with
  | 0 => .boolean
  | 1 => .int
  | 2 => .int
  | _ => .array .long
abbrev wsX30 : List Cond := u_ws RX3 TX3 4
theorem nmX3 : ∀ a, a < 4 → ∀ b, b < 4 → a ≠ b → (TX3 a).2.1 ≠ (TX3 b).2.1 := by decide +kernel
theorem tyX3_ok : ∀ k, k < 4 → parseFieldDescriptor (TX3 k).2.2.1 = some (tyX3 k) := by decide +kernel
abbrev cX3_init : ByteArray := prog_5_method_1_code
def yX3_init : MethodName := ⟨RX3, "<init>", "()V"⟩
abbrev cX3_begin : ByteArray := prog_5_method_2_code
def yX3_begin : MethodName := ⟨RX3, "begin", "(II)V"⟩
abbrev cX3_refuses : ByteArray := prog_5_method_3_code
def yX3_refuses : MethodName := ⟨RX3, "refuses", "(III)I"⟩
abbrev cX3_reaches : ByteArray := prog_5_method_4_code
def yX3_reaches : MethodName := ⟨RX3, "reaches", "(II)Z"⟩
abbrev cX3_put : ByteArray := prog_5_method_5_code
def yX3_put : MethodName := ⟨RX3, "put", "(IJ)V"⟩
def RX4 : String := "WoundMedals$Tape"
def TX4 : u_T := fun k => match k with
  | 0 => ("WoundMedals$Tape", "letters", "[C", true)
  | 1 => ("WoundMedals$Tape", "length", "I", false)
  | _ => ("WoundMedals$Tape", "place", "I", false)
def tyX4 : Nat → FieldType := fun k => match k with
  | 0 => .array .char
  | 1 => .int
  | _ => .int
abbrev wsX40 : List Cond := u_ws RX4 TX4 3
theorem nmX4 : ∀ a, a < 3 → ∀ b, b < 3 → a ≠ b → (TX4 a).2.1 ≠ (TX4 b).2.1 := by decide +kernel
theorem tyX4_ok : ∀ k, k < 3 → parseFieldDescriptor (TX4 k).2.2.1 = some (tyX4 k) := by decide +kernel
abbrev cX4_init : ByteArray := prog_6_method_1_code
def yX4_init : MethodName := ⟨RX4, "<init>", "()V"⟩
abbrev cX4_add : ByteArray := prog_6_method_2_code
def yX4_add : MethodName := ⟨RX4, "add", "(C)Z"⟩
abbrev cX4_readState : ByteArray := prog_6_method_3_code
def yX4_readState : MethodName := ⟨RX4, "readState", "(LWoundMedals$Muster;)Z"⟩
abbrev cX4_readMen : ByteArray := prog_6_method_4_code
def yX4_readMen : MethodName := ⟨RX4, "readMen", "(LWoundMedals$Muster;)Z"⟩
abbrev cX4_readMan : ByteArray := prog_6_method_5_code
def yX4_readMan : MethodName := ⟨RX4, "readMan", "(LWoundMedals$Muster;)Z"⟩
abbrev cX4_readMedals : ByteArray := prog_6_method_6_code
def yX4_readMedals : MethodName := ⟨RX4, "readMedals", "(LWoundMedals$Muster;)Z"⟩
abbrev cX4_readMedal : ByteArray := prog_6_method_7_code
def yX4_readMedal : MethodName := ⟨RX4, "readMedal", "(LWoundMedals$Muster;)Z"⟩
abbrev cX4_kindOf : ByteArray := prog_6_method_8_code
def yX4_kindOf : MethodName := ⟨RX4, "kindOf", "(C)I"⟩
abbrev cX4_nextLetter : ByteArray := prog_6_method_9_code
def yX4_nextLetter : MethodName := ⟨RX4, "nextLetter", "()C"⟩
abbrev cX4_letterHere : ByteArray := prog_6_method_10_code
def yX4_letterHere : MethodName := ⟨RX4, "letterHere", "()C"⟩
abbrev cX4_takes : ByteArray := prog_6_method_11_code
def yX4_takes : MethodName := ⟨RX4, "takes", "(C)Z"⟩
abbrev cX4_readNumber : ByteArray := prog_6_method_12_code
def yX4_readNumber : MethodName := ⟨RX4, "readNumber", "(II)I"⟩
abbrev cX4_readManOf : ByteArray := prog_6_method_13_code
def yX4_readManOf : MethodName := ⟨RX4, "readManOf", "(LWoundMedals$Muster;)I"⟩
abbrev cX4_isDigit : ByteArray := prog_6_method_14_code
def yX4_isDigit : MethodName := ⟨RX4, "isDigit", "(C)Z"⟩
def RX5 : String := "WoundMedals"
def TX5 : u_T := fun k => match k with
  | 0 => ("WoundMedals", "now", "LWoundMedals$Muster;", true)
  | 1 => ("WoundMedals", "past", "LWoundMedals$Past;", true)
  | 2 => ("WoundMedals", "imageOfNow", "LWoundMedals$Muster;", true)
  | 3 => ("WoundMedals", "imageOfPast", "LWoundMedals$Past;", true)
  | 4 => ("WoundMedals", "hasImage", "Z", false)
  | 5 => ("WoundMedals", "trial", "LWoundMedals$Muster;", true)
  | 6 => ("WoundMedals", "tape", "LWoundMedals$Tape;", true)
  | 7 => ("WoundMedals", "hanging", "LWoundMedals$Hanging;", true)
  | _ => ("WoundMedals", "rows", "[LWoundMedals$Row;", true)
def tyX5 : Nat → FieldType := fun k => match k with
  | 0 => .object "WoundMedals$Muster"
  | 1 => .object "WoundMedals$Past"
  | 2 => .object "WoundMedals$Muster"
  | 3 => .object "WoundMedals$Past"
  | 4 => .boolean
  | 5 => .object "WoundMedals$Muster"
  | 6 => .object "WoundMedals$Tape"
  | 7 => .object "WoundMedals$Hanging"
  | _ => .array (.object "WoundMedals$Row")
abbrev wsX50 : List Cond := u_ws RX5 TX5 9
theorem nmX5 : ∀ a, a < 9 → ∀ b, b < 9 → a ≠ b → (TX5 a).2.1 ≠ (TX5 b).2.1 := by decide +kernel
theorem tyX5_ok : ∀ k, k < 9 → parseFieldDescriptor (TX5 k).2.2.1 = some (tyX5 k) := by decide +kernel
abbrev cX5_init : ByteArray := prog_1_method_1_code
def yX5_init : MethodName := ⟨RX5, "<init>", "()V"⟩
abbrev cX5_man : ByteArray := prog_1_method_2_code
def yX5_man : MethodName := ⟨RX5, "man", "(I)I"⟩
abbrev cX5_medal : ByteArray := prog_1_method_3_code
def yX5_medal : MethodName := ⟨RX5, "medal", "(III)I"⟩
abbrev cX5_of : ByteArray := prog_1_method_4_code
def yX5_of : MethodName := ⟨RX5, "of", "(II)I"⟩
abbrev cX5_at : ByteArray := prog_1_method_5_code
def yX5_at : MethodName := ⟨RX5, "at", "(II)I"⟩
abbrev cX5_type : ByteArray := prog_1_method_6_code
def yX5_type : MethodName := ⟨RX5, "type", "(I)I"⟩
abbrev cX5_state : ByteArray := prog_1_method_7_code
def yX5_state : MethodName := ⟨RX5, "state", "()I"⟩
abbrev cX5_count : ByteArray := prog_1_method_8_code
def yX5_count : MethodName := ⟨RX5, "count", "(I)I"⟩
abbrev cX5_days : ByteArray := prog_1_method_9_code
def yX5_days : MethodName := ⟨RX5, "days", "(I)I"⟩
abbrev cX5_hang : ByteArray := prog_1_method_10_code
def yX5_hang : MethodName := ⟨RX5, "hang", "(II)I"⟩
abbrev cX5_polish : ByteArray := prog_1_method_11_code
def yX5_polish : MethodName := ⟨RX5, "polish", "(II)I"⟩
abbrev cX5_drift : ByteArray := prog_1_method_12_code
def yX5_drift : MethodName := ⟨RX5, "drift", "(I)I"⟩
abbrev cX5_undo : ByteArray := prog_1_method_13_code
def yX5_undo : MethodName := ⟨RX5, "undo", "()I"⟩
abbrev cX5_seed : ByteArray := prog_1_method_14_code
def yX5_seed : MethodName := ⟨RX5, "seed", "(I)I"⟩
abbrev cX5_ahead : ByteArray := prog_1_method_15_code
def yX5_ahead : MethodName := ⟨RX5, "ahead", "(III)I"⟩
abbrev cX5_then : ByteArray := prog_1_method_16_code
def yX5_then : MethodName := ⟨RX5, "then", "(I)I"⟩
abbrev cX5_done : ByteArray := prog_1_method_17_code
def yX5_done : MethodName := ⟨RX5, "done", "(I)I"⟩
abbrev cX5_ever : ByteArray := prog_1_method_18_code
def yX5_ever : MethodName := ⟨RX5, "ever", "()I"⟩
abbrev cX5_even : ByteArray := prog_1_method_19_code
def yX5_even : MethodName := ⟨RX5, "even", "(I)I"⟩
abbrev cX5_few : ByteArray := prog_1_method_20_code
def yX5_few : MethodName := ⟨RX5, "few", "(I)I"⟩
abbrev cX5_off : ByteArray := prog_1_method_21_code
def yX5_off : MethodName := ⟨RX5, "off", "(II)I"⟩
abbrev cX5_needs : ByteArray := prog_1_method_22_code
def yX5_needs : MethodName := ⟨RX5, "needs", "(II)I"⟩
abbrev cX5_two : ByteArray := prog_1_method_23_code
def yX5_two : MethodName := ⟨RX5, "two", "(I)I"⟩
abbrev cX5_error : ByteArray := prog_1_method_24_code
def yX5_error : MethodName := ⟨RX5, "error", "(II)I"⟩
abbrev cX5_image : ByteArray := prog_1_method_25_code
def yX5_image : MethodName := ⟨RX5, "image", "()I"⟩
abbrev cX5_restore : ByteArray := prog_1_method_26_code
def yX5_restore : MethodName := ⟨RX5, "restore", "()I"⟩
abbrev cX5_felt : ByteArray := prog_1_method_27_code
def yX5_felt : MethodName := ⟨RX5, "felt", "(IIIIIII)I"⟩
abbrev cX5_film : ByteArray := prog_1_method_28_code
def yX5_film : MethodName := ⟨RX5, "film", "(IIIII)I"⟩
abbrev cX5_sheet : ByteArray := prog_1_method_29_code
def yX5_sheet : MethodName := ⟨RX5, "sheet", "(III)I"⟩
abbrev cX5_drop : ByteArray := prog_1_method_30_code
def yX5_drop : MethodName := ⟨RX5, "drop", "(I)I"⟩
abbrev cX5_item : ByteArray := prog_1_method_31_code
def yX5_item : MethodName := ⟨RX5, "item", "(IIIJ)I"⟩
abbrev cX5_copy : ByteArray := prog_1_method_32_code
def yX5_copy : MethodName := ⟨RX5, "copy", "(IIIII)I"⟩
abbrev cX5_passDays : ByteArray := prog_1_method_33_code
def yX5_passDays : MethodName := ⟨RX5, "passDays", "(IZ)I"⟩
abbrev cX5_isSheet : ByteArray := prog_1_method_34_code
def yX5_isSheet : MethodName := ⟨RX5, "isSheet", "(I)Z"⟩
abbrev cX5_isLane : ByteArray := prog_1_method_35_code
def yX5_isLane : MethodName := ⟨RX5, "isLane", "(I)Z"⟩
abbrev cX5_trialIsTold : ByteArray := prog_1_method_36_code
def yX5_trialIsTold : MethodName := ⟨RX5, "trialIsTold", "(ILWoundMedals$Row;II)Z"⟩
abbrev cX5_staysUpright : ByteArray := prog_1_method_37_code
def yX5_staysUpright : MethodName := ⟨RX5, "staysUpright", "(IIIII)Z"⟩
abbrev cX5_strengthNext : ByteArray := prog_1_method_38_code
def yX5_strengthNext : MethodName := ⟨RX5, "strengthNext", "(III)I"⟩
abbrev cX5_greatestCommonDivisor : ByteArray := prog_1_method_39_code
def yX5_greatestCommonDivisor : MethodName := ⟨RX5, "greatestCommonDivisor", "(II)I"⟩
def RX6 : String := "WoundMedalsModel"
def TX6 : u_T := fun k => match k with
  | 0 => ("WoundMedalsModel", "lane", "[I", true)
  | 1 => ("WoundMedalsModel", "size", "[I", true)
  | 2 => ("WoundMedalsModel", "item", "[J", true)
  | 3 => ("WoundMedalsModel", "letters", "I", false)
  | 4 => ("WoundMedalsModel", "tape", "[I", true)
  | 5 => ("WoundMedalsModel", "position", "I", false)
  | 6 => ("WoundMedalsModel", "number", "I", false)
  | 7 => ("WoundMedalsModel", "now", "[I", true)
  | 8 => ("WoundMedalsModel", "tried", "[I", true)
  | 9 => ("WoundMedalsModel", "read", "[I", true)
  | 10 => ("WoundMedalsModel", "kept", "[I", true)
  | 11 => ("WoundMedalsModel", "isKept", "Z", false)
  | 12 => ("WoundMedalsModel", "best", "[I", true)
  | 13 => ("WoundMedalsModel", "bestMuch", "I", false)
  | _ => ("WoundMedalsModel", "bestChange", "I", false)
def tyX6 : Nat → FieldType := fun k => match k with
  | 0 => .array .int
  | 1 => .array .int
  | 2 => .array .long
  | 3 => .int
  | 4 => .array .int
  | 5 => .int
  | 6 => .int
  | 7 => .array .int
  | 8 => .array .int
  | 9 => .array .int
  | 10 => .array .int
  | 11 => .boolean
  | 12 => .array .int
  | 13 => .int
  | _ => .int
abbrev wsX60 : List Cond := u_ws RX6 TX6 15
theorem nmX6 : ∀ a, a < 15 → ∀ b, b < 15 → a ≠ b → (TX6 a).2.1 ≠ (TX6 b).2.1 := by decide +kernel
theorem tyX6_ok : ∀ k, k < 15 → parseFieldDescriptor (TX6 k).2.2.1 = some (tyX6 k) := by decide +kernel
abbrev cX6_init : ByteArray := prog_8_method_1_code
def yX6_init : MethodName := ⟨RX6, "<init>", "()V"⟩
abbrev cX6_in : ByteArray := prog_8_method_2_code
def yX6_in : MethodName := ⟨RX6, "in", "(III)Z"⟩
abbrev cX6_bits : ByteArray := prog_8_method_3_code
def yX6_bits : MethodName := ⟨RX6, "bits", "(I)I"⟩
abbrev cX6_bring : ByteArray := prog_8_method_4_code
def yX6_bring : MethodName := ⟨RX6, "bring", "([II[III)V"⟩
abbrev cX6_isMan : ByteArray := prog_8_method_5_code
def yX6_isMan : MethodName := ⟨RX6, "isMan", "(I)Z"⟩
abbrev cX6_isMedal : ByteArray := prog_8_method_6_code
def yX6_isMedal : MethodName := ⟨RX6, "isMedal", "(I)Z"⟩
abbrev cX6_addMan : ByteArray := prog_8_method_7_code
def yX6_addMan : MethodName := ⟨RX6, "addMan", "([II)I"⟩
abbrev cX6_addMedal : ByteArray := prog_8_method_8_code
def yX6_addMedal : MethodName := ⟨RX6, "addMedal", "([IIII)I"⟩
abbrev cX6_man : ByteArray := prog_8_method_9_code
def yX6_man : MethodName := ⟨RX6, "man", "(I)I"⟩
abbrev cX6_medal : ByteArray := prog_8_method_10_code
def yX6_medal : MethodName := ⟨RX6, "medal", "(III)I"⟩
abbrev cX6_wornBy : ByteArray := prog_8_method_11_code
def yX6_wornBy : MethodName := ⟨RX6, "wornBy", "([II)I"⟩
abbrev cX6_bears : ByteArray := prog_8_method_12_code
def yX6_bears : MethodName := ⟨RX6, "bears", "([II)I"⟩
abbrev cX6_load : ByteArray := prog_8_method_13_code
def yX6_load : MethodName := ⟨RX6, "load", "([II)I"⟩
abbrev cX6_isBent : ByteArray := prog_8_method_14_code
def yX6_isBent : MethodName := ⟨RX6, "isBent", "([II)Z"⟩
abbrev cX6_bentOnes : ByteArray := prog_8_method_15_code
def yX6_bentOnes : MethodName := ⟨RX6, "bentOnes", "([I)I"⟩
abbrev cX6_woundsOf : ByteArray := prog_8_method_16_code
def yX6_woundsOf : MethodName := ⟨RX6, "woundsOf", "(I)I"⟩
abbrev cX6_of : ByteArray := prog_8_method_17_code
def yX6_of : MethodName := ⟨RX6, "of", "(II)I"⟩
abbrev cX6_at : ByteArray := prog_8_method_18_code
def yX6_at : MethodName := ⟨RX6, "at", "(II)I"⟩
abbrev cX6_type : ByteArray := prog_8_method_19_code
def yX6_type : MethodName := ⟨RX6, "type", "(I)I"⟩
abbrev cX6_peek : ByteArray := prog_8_method_20_code
def yX6_peek : MethodName := ⟨RX6, "peek", "()I"⟩
abbrev cX6_isSign : ByteArray := prog_8_method_21_code
def yX6_isSign : MethodName := ⟨RX6, "isSign", "(I)Z"⟩
abbrev cX6_isDigit : ByteArray := prog_8_method_22_code
def yX6_isDigit : MethodName := ⟨RX6, "isDigit", "(II)Z"⟩
abbrev cX6_isNumber : ByteArray := prog_8_method_23_code
def yX6_isNumber : MethodName := ⟨RX6, "isNumber", "(II)Z"⟩
abbrev cX6_kindBy : ByteArray := prog_8_method_24_code
def yX6_kindBy : MethodName := ⟨RX6, "kindBy", "(I)I"⟩
abbrev cX6_isManItem : ByteArray := prog_8_method_25_code
def yX6_isManItem : MethodName := ⟨RX6, "isManItem", "()Z"⟩
abbrev cX6_isMedalItem : ByteArray := prog_8_method_26_code
def yX6_isMedalItem : MethodName := ⟨RX6, "isMedalItem", "()Z"⟩
abbrev cX6_isState : ByteArray := prog_8_method_27_code
def yX6_isState : MethodName := ⟨RX6, "isState", "()Z"⟩
abbrev cX6_state : ByteArray := prog_8_method_28_code
def yX6_state : MethodName := ⟨RX6, "state", "()I"⟩
abbrev cX6_strengths : ByteArray := prog_8_method_29_code
def yX6_strengths : MethodName := ⟨RX6, "strengths", "()I"⟩
abbrev cX6_loads : ByteArray := prog_8_method_30_code
def yX6_loads : MethodName := ⟨RX6, "loads", "([I)I"⟩
abbrev cX6_count : ByteArray := prog_8_method_31_code
def yX6_count : MethodName := ⟨RX6, "count", "(I)I"⟩
abbrev cX6_note : ByteArray := prog_8_method_32_code
def yX6_note : MethodName := ⟨RX6, "note", "()V"⟩
abbrev cX6_dayIn : ByteArray := prog_8_method_33_code
def yX6_dayIn : MethodName := ⟨RX6, "dayIn", "([I)V"⟩
abbrev cX6_days : ByteArray := prog_8_method_34_code
def yX6_days : MethodName := ⟨RX6, "days", "(I)I"⟩
abbrev cX6_hang : ByteArray := prog_8_method_35_code
def yX6_hang : MethodName := ⟨RX6, "hang", "(II)I"⟩
abbrev cX6_polish : ByteArray := prog_8_method_36_code
def yX6_polish : MethodName := ⟨RX6, "polish", "(II)I"⟩
abbrev cX6_drift : ByteArray := prog_8_method_37_code
def yX6_drift : MethodName := ⟨RX6, "drift", "(I)I"⟩
abbrev cX6_undo : ByteArray := prog_8_method_38_code
def yX6_undo : MethodName := ⟨RX6, "undo", "()I"⟩
abbrev cX6_seed : ByteArray := prog_8_method_39_code
def yX6_seed : MethodName := ⟨RX6, "seed", "(I)I"⟩
abbrev cX6_begin : ByteArray := prog_8_method_40_code
def yX6_begin : MethodName := ⟨RX6, "begin", "()V"⟩
abbrev cX6_goOn : ByteArray := prog_8_method_41_code
def yX6_goOn : MethodName := ⟨RX6, "goOn", "(I)V"⟩
abbrev cX6_ahead : ByteArray := prog_8_method_42_code
def yX6_ahead : MethodName := ⟨RX6, "ahead", "(III)I"⟩
abbrev cX6_then : ByteArray := prog_8_method_43_code
def yX6_then : MethodName := ⟨RX6, "then", "(I)I"⟩
abbrev cX6_done : ByteArray := prog_8_method_44_code
def yX6_done : MethodName := ⟨RX6, "done", "(I)I"⟩
abbrev cX6_ever : ByteArray := prog_8_method_45_code
def yX6_ever : MethodName := ⟨RX6, "ever", "()I"⟩
abbrev cX6_ways : ByteArray := prog_8_method_46_code
def yX6_ways : MethodName := ⟨RX6, "ways", "()I"⟩
abbrev cX6_hangBy : ByteArray := prog_8_method_47_code
def yX6_hangBy : MethodName := ⟨RX6, "hangBy", "(I)I"⟩
abbrev cX6_greatest : ByteArray := prog_8_method_48_code
def yX6_greatest : MethodName := ⟨RX6, "greatest", "([I)I"⟩
abbrev cX6_layBest : ByteArray := prog_8_method_49_code
def yX6_layBest : MethodName := ⟨RX6, "layBest", "(Z)V"⟩
abbrev cX6_even : ByteArray := prog_8_method_50_code
def yX6_even : MethodName := ⟨RX6, "even", "(I)I"⟩
abbrev cX6_few : ByteArray := prog_8_method_51_code
def yX6_few : MethodName := ⟨RX6, "few", "(I)I"⟩
abbrev cX6_off : ByteArray := prog_8_method_52_code
def yX6_off : MethodName := ⟨RX6, "off", "(II)I"⟩
abbrev cX6_isUpright : ByteArray := prog_8_method_53_code
def yX6_isUpright : MethodName := ⟨RX6, "isUpright", "(II)Z"⟩
abbrev cX6_needs : ByteArray := prog_8_method_54_code
def yX6_needs : MethodName := ⟨RX6, "needs", "(II)I"⟩
abbrev cX6_two : ByteArray := prog_8_method_55_code
def yX6_two : MethodName := ⟨RX6, "two", "(I)I"⟩
abbrev cX6_error : ByteArray := prog_8_method_56_code
def yX6_error : MethodName := ⟨RX6, "error", "(II)I"⟩
abbrev cX6_image : ByteArray := prog_8_method_57_code
def yX6_image : MethodName := ⟨RX6, "image", "()I"⟩
abbrev cX6_restore : ByteArray := prog_8_method_58_code
def yX6_restore : MethodName := ⟨RX6, "restore", "()I"⟩
abbrev cX6_isSheet : ByteArray := prog_8_method_59_code
def yX6_isSheet : MethodName := ⟨RX6, "isSheet", "(I)Z"⟩
abbrev cX6_isPart : ByteArray := prog_8_method_60_code
def yX6_isPart : MethodName := ⟨RX6, "isPart", "(III)Z"⟩
abbrev cX6_wrong : ByteArray := prog_8_method_61_code
def yX6_wrong : MethodName := ⟨RX6, "wrong", "(IIII)I"⟩
abbrev cX6_isFelt : ByteArray := prog_8_method_62_code
def yX6_isFelt : MethodName := ⟨RX6, "isFelt", "(IIII)Z"⟩
abbrev cX6_felt : ByteArray := prog_8_method_63_code
def yX6_felt : MethodName := ⟨RX6, "felt", "(IIIIIII)I"⟩
abbrev cX6_cutTo : ByteArray := prog_8_method_64_code
def yX6_cutTo : MethodName := ⟨RX6, "cutTo", "(IJ)J"⟩
abbrev cX6_film : ByteArray := prog_8_method_65_code
def yX6_film : MethodName := ⟨RX6, "film", "(IIIII)I"⟩
abbrev cX6_sheet : ByteArray := prog_8_method_66_code
def yX6_sheet : MethodName := ⟨RX6, "sheet", "(III)I"⟩
abbrev cX6_drop : ByteArray := prog_8_method_67_code
def yX6_drop : MethodName := ⟨RX6, "drop", "(I)I"⟩
abbrev cX6_item : ByteArray := prog_8_method_68_code
def yX6_item : MethodName := ⟨RX6, "item", "(IIIJ)I"⟩
abbrev cX6_copy : ByteArray := prog_8_method_69_code
def yX6_copy : MethodName := ⟨RX6, "copy", "(IIIII)I"⟩
def RJ6 : String := "java/lang/Integer"
def TJ6 : u_T := fun k => match k with
  | _ => ("", "", "", false)
def tyJ6 : Nat → FieldType := fun k => match k with
  | _ => .int
abbrev wsJ60 : List Cond := u_ws RJ6 TJ6 0
theorem nmJ6 : ∀ a, a < 0 → ∀ b, b < 0 → a ≠ b → (TJ6 a).2.1 ≠ (TJ6 b).2.1 := by decide +kernel
theorem tyJ6_ok : ∀ k, k < 0 → parseFieldDescriptor (TJ6 k).2.2.1 = some (tyJ6 k) := by decide +kernel
abbrev cJ6_bitCount_0f7a4 : ByteArray := prog_9_method_49_code
def yJ6_bitCount_0f7a4 : MethodName := ⟨RJ6, "bitCount", "(I)I"⟩
def RJ9 : String := "java/lang/Math"
def TJ9 : u_T := fun k => match k with
  | _ => ("", "", "", false)
def tyJ9 : Nat → FieldType := fun k => match k with
  | _ => .int
abbrev wsJ90 : List Cond := u_ws RJ9 TJ9 0
theorem nmJ9 : ∀ a, a < 0 → ∀ b, b < 0 → a ≠ b → (TJ9 a).2.1 ≠ (TJ9 b).2.1 := by decide +kernel
theorem tyJ9_ok : ∀ k, k < 0 → parseFieldDescriptor (TJ9 k).2.2.1 = some (tyJ9 k) := by decide +kernel
abbrev cJ9_max_7cf53 : ByteArray := prog_10_method_65_code
def yJ9_max_7cf53 : MethodName := ⟨RJ9, "max", "(II)I"⟩
abbrev cJ9_min_7cf53 : ByteArray := prog_10_method_69_code
def yJ9_min_7cf53 : MethodName := ⟨RJ9, "min", "(II)I"⟩
def RJ10 : String := "java/lang/System"
def TJ10 : u_T := fun k => match k with
  | _ => ("", "", "", false)
def tyJ10 : Nat → FieldType := fun k => match k with
  | _ => .int
abbrev wsJ100 : List Cond := u_ws RJ10 TJ10 0
theorem nmJ10 : ∀ a, a < 0 → ∀ b, b < 0 → a ≠ b → (TJ10 a).2.1 ≠ (TJ10 b).2.1 := by decide +kernel
theorem tyJ10_ok : ∀ k, k < 0 → parseFieldDescriptor (TJ10 k).2.2.1 = some (tyJ10 k) := by decide +kernel
def RL : String := "WoundMedalsLaw"
abbrev cL_law : ByteArray := code
def yL_law : MethodName := ⟨RL, "law", "([I)Z"⟩
def wsX0_init : List Cond := .code yX0_init cX0_init 2 none :: ([.methodLink RX0 3 objectInit, .instanceMethod objectInit, .code objectInit ⟨#[0xb1]⟩ 1 none, .classLink RX0 9 "[[I", .arrayClass .int, .fieldLink RX0 11 "WoundMedals$Hanging" "loads" "[[I", .fieldLink RX0 16 "WoundMedals$Hanging" "worn" "I", .fieldLink RX0 20 "WoundMedals$Hanging" "setOf" "[I", .fieldLink RX0 24 "WoundMedals$Hanging" "tried" "[I", .fieldLink RX0 27 "WoundMedals$Hanging" "best" "[I", .fieldLink RX0 30 "WoundMedals$Hanging" "waysOfSet" "[I", .fieldLink RX0 33 "WoundMedals$Hanging" "wantsFew" "Z", .fieldLink RX0 37 "WoundMedals$Hanging" "bestCost" "I", .fieldLink RX0 40 "WoundMedals$Hanging" "muster" "LWoundMedals$Muster;"] ++ wsX00)
def wsX1_medalsWith : List Cond := .code yX1_medalsWith cX1_medalsWith 5 (some .int) :: ([.fieldLink RX1 22 "WoundMedals$Muster" "medals" "I"] ++ wsX10)
def wsX1_wornBy : List Cond := .code yX1_wornBy cX1_wornBy 2 (some .int) :: ([.fieldLink RX1 34 "WoundMedals$Muster" "wearer" "[I", .methodLink RX1 49 yX1_medalsWith, .instanceMethod yX1_medalsWith, .selects RX1 yX1_medalsWith yX1_medalsWith, .initialized RX1, .code yX1_medalsWith cX1_medalsWith 5 (some .int), .fieldLink RX1 22 "WoundMedals$Muster" "medals" "I"] ++ wsX10)
def wsX1_allWorn : List Cond := .code yX1_allWorn cX1_allWorn 1 (some .int) :: ([.fieldLink RX1 22 "WoundMedals$Muster" "medals" "I", .methodLink RX1 53 yX1_wornBy, .instanceMethod yX1_wornBy, .selects RX1 yX1_wornBy yX1_wornBy, .initialized RX1, .code yX1_wornBy cX1_wornBy 2 (some .int), .fieldLink RX1 34 "WoundMedals$Muster" "wearer" "[I", .methodLink RX1 49 yX1_medalsWith, .instanceMethod yX1_medalsWith, .selects RX1 yX1_medalsWith yX1_medalsWith, .code yX1_medalsWith cX1_medalsWith 5 (some .int)] ++ wsX10)
def wsJ6_bitCount_0f7a4 : List Cond := .code yJ6_bitCount_0f7a4 cJ6_bitCount_0f7a4 1 (some .int) :: ([.constant RJ6 265 (1431655765), .constant RJ6 266 (858993459), .constant RJ6 267 (252645135)])
def wsX1_bears : List Cond := .code yX1_bears cX1_bears 9 (some .int) :: ([.fieldLink RX1 28 "WoundMedals$Muster" "weight" "[I", .fieldLink RX1 25 "WoundMedals$Muster" "kind" "[I", .fieldLink RX1 31 "WoundMedals$Muster" "wound" "[I"] ++ wsX10)
def wsX1_loadOfSet : List Cond := .code yX1_loadOfSet cX1_loadOfSet 7 (some .int) :: ([.fieldLink RX1 22 "WoundMedals$Muster" "medals" "I", .methodLink RX1 57 yJ6_bitCount_0f7a4, .static yJ6_bitCount_0f7a4, .initialized RJ6, .code yJ6_bitCount_0f7a4 cJ6_bitCount_0f7a4 1 (some .int), .constant RJ6 265 (1431655765), .constant RJ6 266 (858993459), .constant RJ6 267 (252645135), .methodLink RX1 62 yX1_bears, .instanceMethod yX1_bears, .selects RX1 yX1_bears yX1_bears, .initialized RX1, .code yX1_bears cX1_bears 9 (some .int), .fieldLink RX1 28 "WoundMedals$Muster" "weight" "[I", .fieldLink RX1 25 "WoundMedals$Muster" "kind" "[I", .fieldLink RX1 31 "WoundMedals$Muster" "wound" "[I"] ++ wsX10)
def wsX0_prepare_r1 : List Cond := [Cond.fieldLink RX0 40 "WoundMedals$Hanging" "muster" "LWoundMedals$Muster;", Cond.fieldLink RX0 16 "WoundMedals$Hanging" "worn" "I", Cond.fieldLink RX0 50 "WoundMedals$Muster" "men" "I", Cond.fieldLink RX0 11 "WoundMedals$Hanging" "loads" "[[I", Cond.fieldLink RX0 53 "WoundMedals$Muster" "day" "I", Cond.methodLink RX0 44 yX1_allWorn, Cond.instanceMethod yX1_allWorn, Cond.selects RX1 yX1_allWorn yX1_allWorn, Cond.initialized RX1, Cond.code yX1_allWorn cX1_allWorn 1 (some .int), Cond.fieldLink RX1 22 "WoundMedals$Muster" "medals" "I", Cond.methodLink RX1 53 yX1_wornBy, Cond.instanceMethod yX1_wornBy, Cond.selects RX1 yX1_wornBy yX1_wornBy, Cond.code yX1_wornBy cX1_wornBy 2 (some .int), Cond.fieldLink RX1 34 "WoundMedals$Muster" "wearer" "[I", Cond.methodLink RX1 49 yX1_medalsWith, Cond.instanceMethod yX1_medalsWith, Cond.selects RX1 yX1_medalsWith yX1_medalsWith, Cond.code yX1_medalsWith cX1_medalsWith 5 (some .int), Cond.methodLink RX0 56 yX1_loadOfSet, Cond.instanceMethod yX1_loadOfSet, Cond.selects RX1 yX1_loadOfSet yX1_loadOfSet, Cond.code yX1_loadOfSet cX1_loadOfSet 7 (some .int)]
def wsX0_prepare_r2 : List Cond := [Cond.methodLink RX1 57 yJ6_bitCount_0f7a4, Cond.static yJ6_bitCount_0f7a4, Cond.initialized RJ6, Cond.code yJ6_bitCount_0f7a4 cJ6_bitCount_0f7a4 1 (some .int), Cond.constant RJ6 265 (1431655765), Cond.constant RJ6 266 (858993459), Cond.constant RJ6 267 (252645135), Cond.methodLink RX1 62 yX1_bears, Cond.instanceMethod yX1_bears, Cond.selects RX1 yX1_bears yX1_bears, Cond.code yX1_bears cX1_bears 9 (some .int), Cond.fieldLink RX1 28 "WoundMedals$Muster" "weight" "[I", Cond.fieldLink RX1 25 "WoundMedals$Muster" "kind" "[I", Cond.fieldLink RX1 31 "WoundMedals$Muster" "wound" "[I"]
def wsX0_prepare : List Cond := .code yX0_prepare cX0_prepare 3 none :: ((wsX0_prepare_r1 ++ wsX0_prepare_r2) ++ wsX00 ++ wsX10)
def wsX0_bends : List Cond := .code yX0_bends cX0_bends 3 (some .boolean) :: ([.fieldLink RX0 11 "WoundMedals$Hanging" "loads" "[[I", .fieldLink RX0 40 "WoundMedals$Hanging" "muster" "LWoundMedals$Muster;", .fieldLink RX0 97 "WoundMedals$Muster" "strength" "[I"] ++ wsX00 ++ wsX10)
def wsX0_costOfFew : List Cond := .code yX0_costOfFew cX0_costOfFew 6 (some .int) :: ([.fieldLink RX0 40 "WoundMedals$Hanging" "muster" "LWoundMedals$Muster;", .fieldLink RX0 90 "WoundMedals$Muster" "wearer" "[I", .fieldLink RX0 20 "WoundMedals$Hanging" "setOf" "[I", .methodLink RX0 93 yX0_bends, .instanceMethod yX0_bends, .selects RX0 yX0_bends yX0_bends, .initialized RX0, .code yX0_bends cX0_bends 3 (some .boolean), .fieldLink RX0 11 "WoundMedals$Hanging" "loads" "[[I", .fieldLink RX0 97 "WoundMedals$Muster" "strength" "[I"] ++ wsX00 ++ wsX10)
def wsX0_costOfEven : List Cond := .code yX0_costOfEven cX0_costOfEven 3 (some .int) :: ([.fieldLink RX0 11 "WoundMedals$Hanging" "loads" "[[I", .fieldLink RX0 20 "WoundMedals$Hanging" "setOf" "[I", .methodLink RX0 85 Lib.Math.max.name, .static Lib.Math.max.name, .initialized "java/lang/Math", .code Lib.Math.max.name Lib.Math.max.code 2 (some .int)] ++ wsX00)
def wsX0_hangFrom_r1 : List Cond := [Cond.fieldLink RX0 37 "WoundMedals$Hanging" "bestCost" "I", Cond.fieldLink RX0 24 "WoundMedals$Hanging" "tried" "[I", Cond.fieldLink RX0 27 "WoundMedals$Hanging" "best" "[I", Cond.methodLink RX0 71 arraycopyName, Cond.native arraycopyName, Cond.static arraycopyName, Cond.initialized "java/lang/System", Cond.fieldLink RX0 16 "WoundMedals$Hanging" "worn" "I", Cond.fieldLink RX0 40 "WoundMedals$Hanging" "muster" "LWoundMedals$Muster;", Cond.fieldLink RX0 50 "WoundMedals$Muster" "men" "I", Cond.fieldLink RX0 20 "WoundMedals$Hanging" "setOf" "[I", Cond.fieldLink RX0 33 "WoundMedals$Hanging" "wantsFew" "Z", Cond.methodLink RX0 67 yX0_hangFrom, Cond.instanceMethod yX0_hangFrom, Cond.selects RX0 yX0_hangFrom yX0_hangFrom, Cond.initialized RX0, Cond.methodLink RX0 77 yX0_costOfFew, Cond.instanceMethod yX0_costOfFew, Cond.selects RX0 yX0_costOfFew yX0_costOfFew, Cond.code yX0_costOfFew cX0_costOfFew 6 (some .int), Cond.fieldLink RX0 90 "WoundMedals$Muster" "wearer" "[I", Cond.methodLink RX0 93 yX0_bends, Cond.instanceMethod yX0_bends, Cond.selects RX0 yX0_bends yX0_bends]
def wsX0_hangFrom_r2 : List Cond := [Cond.code yX0_bends cX0_bends 3 (some .boolean), Cond.fieldLink RX0 11 "WoundMedals$Hanging" "loads" "[[I", Cond.fieldLink RX0 97 "WoundMedals$Muster" "strength" "[I", Cond.methodLink RX0 81 yX0_costOfEven, Cond.instanceMethod yX0_costOfEven, Cond.selects RX0 yX0_costOfEven yX0_costOfEven, Cond.code yX0_costOfEven cX0_costOfEven 3 (some .int), Cond.methodLink RX0 85 Lib.Math.max.name, Cond.static Lib.Math.max.name, Cond.initialized "java/lang/Math", Cond.code Lib.Math.max.name Lib.Math.max.code 2 (some .int)]
def wsX0_hangFrom : List Cond := .code yX0_hangFrom cX0_hangFrom 5 none :: ((wsX0_hangFrom_r1 ++ wsX0_hangFrom_r2) ++ wsX00 ++ wsX10)
def wsX0_find_r1 : List Cond := [Cond.fieldLink RX0 20 "WoundMedals$Hanging" "setOf" "[I", Cond.fieldLink RX0 24 "WoundMedals$Hanging" "tried" "[I", Cond.constant RX0 66 (1000000), Cond.fieldLink RX0 37 "WoundMedals$Hanging" "bestCost" "I", Cond.methodLink RX0 63 yX0_prepare, Cond.instanceMethod yX0_prepare, Cond.selects RX0 yX0_prepare yX0_prepare, Cond.initialized RX0, Cond.code yX0_prepare cX0_prepare 3 none, Cond.fieldLink RX0 40 "WoundMedals$Hanging" "muster" "LWoundMedals$Muster;", Cond.fieldLink RX0 16 "WoundMedals$Hanging" "worn" "I", Cond.fieldLink RX0 50 "WoundMedals$Muster" "men" "I", Cond.fieldLink RX0 11 "WoundMedals$Hanging" "loads" "[[I", Cond.fieldLink RX0 53 "WoundMedals$Muster" "day" "I", Cond.methodLink RX0 44 yX1_allWorn, Cond.instanceMethod yX1_allWorn, Cond.selects RX1 yX1_allWorn yX1_allWorn, Cond.initialized RX1, Cond.code yX1_allWorn cX1_allWorn 1 (some .int), Cond.fieldLink RX1 22 "WoundMedals$Muster" "medals" "I", Cond.methodLink RX1 53 yX1_wornBy, Cond.instanceMethod yX1_wornBy, Cond.selects RX1 yX1_wornBy yX1_wornBy, Cond.code yX1_wornBy cX1_wornBy 2 (some .int)]
def wsX0_find_r2 : List Cond := [Cond.fieldLink RX1 34 "WoundMedals$Muster" "wearer" "[I", Cond.methodLink RX1 49 yX1_medalsWith, Cond.instanceMethod yX1_medalsWith, Cond.selects RX1 yX1_medalsWith yX1_medalsWith, Cond.code yX1_medalsWith cX1_medalsWith 5 (some .int), Cond.methodLink RX0 56 yX1_loadOfSet, Cond.instanceMethod yX1_loadOfSet, Cond.selects RX1 yX1_loadOfSet yX1_loadOfSet, Cond.code yX1_loadOfSet cX1_loadOfSet 7 (some .int), Cond.methodLink RX1 57 yJ6_bitCount_0f7a4, Cond.static yJ6_bitCount_0f7a4, Cond.initialized RJ6, Cond.code yJ6_bitCount_0f7a4 cJ6_bitCount_0f7a4 1 (some .int), Cond.constant RJ6 265 (1431655765), Cond.constant RJ6 266 (858993459), Cond.constant RJ6 267 (252645135), Cond.methodLink RX1 62 yX1_bears, Cond.instanceMethod yX1_bears, Cond.selects RX1 yX1_bears yX1_bears, Cond.code yX1_bears cX1_bears 9 (some .int), Cond.fieldLink RX1 28 "WoundMedals$Muster" "weight" "[I", Cond.fieldLink RX1 25 "WoundMedals$Muster" "kind" "[I", Cond.fieldLink RX1 31 "WoundMedals$Muster" "wound" "[I", Cond.methodLink RX0 67 yX0_hangFrom]
def wsX0_find_r3 : List Cond := [Cond.instanceMethod yX0_hangFrom, Cond.selects RX0 yX0_hangFrom yX0_hangFrom, Cond.code yX0_hangFrom cX0_hangFrom 5 none, Cond.fieldLink RX0 27 "WoundMedals$Hanging" "best" "[I", Cond.methodLink RX0 71 arraycopyName, Cond.native arraycopyName, Cond.static arraycopyName, Cond.initialized "java/lang/System", Cond.fieldLink RX0 33 "WoundMedals$Hanging" "wantsFew" "Z", Cond.methodLink RX0 77 yX0_costOfFew, Cond.instanceMethod yX0_costOfFew, Cond.selects RX0 yX0_costOfFew yX0_costOfFew, Cond.code yX0_costOfFew cX0_costOfFew 6 (some .int), Cond.fieldLink RX0 90 "WoundMedals$Muster" "wearer" "[I", Cond.methodLink RX0 93 yX0_bends, Cond.instanceMethod yX0_bends, Cond.selects RX0 yX0_bends yX0_bends, Cond.code yX0_bends cX0_bends 3 (some .boolean), Cond.fieldLink RX0 97 "WoundMedals$Muster" "strength" "[I", Cond.methodLink RX0 81 yX0_costOfEven, Cond.instanceMethod yX0_costOfEven, Cond.selects RX0 yX0_costOfEven yX0_costOfEven, Cond.code yX0_costOfEven cX0_costOfEven 3 (some .int), Cond.methodLink RX0 85 Lib.Math.max.name]
def wsX0_find_r4 : List Cond := [Cond.static Lib.Math.max.name, Cond.initialized "java/lang/Math", Cond.code Lib.Math.max.name Lib.Math.max.code 2 (some .int)]
def wsX0_find : List Cond := .code yX0_find cX0_find 2 none :: ((wsX0_find_r1 ++ (wsX0_find_r2 ++ (wsX0_find_r3 ++ wsX0_find_r4))) ++ wsX00 ++ wsX10)
def wsX0_findEven_r1 : List Cond := [Cond.fieldLink RX0 33 "WoundMedals$Hanging" "wantsFew" "Z", Cond.methodLink RX0 60 yX0_find, Cond.instanceMethod yX0_find, Cond.selects RX0 yX0_find yX0_find, Cond.initialized RX0, Cond.code yX0_find cX0_find 2 none, Cond.fieldLink RX0 20 "WoundMedals$Hanging" "setOf" "[I", Cond.fieldLink RX0 24 "WoundMedals$Hanging" "tried" "[I", Cond.constant RX0 66 (1000000), Cond.fieldLink RX0 37 "WoundMedals$Hanging" "bestCost" "I", Cond.methodLink RX0 63 yX0_prepare, Cond.instanceMethod yX0_prepare, Cond.selects RX0 yX0_prepare yX0_prepare, Cond.code yX0_prepare cX0_prepare 3 none, Cond.fieldLink RX0 40 "WoundMedals$Hanging" "muster" "LWoundMedals$Muster;", Cond.fieldLink RX0 16 "WoundMedals$Hanging" "worn" "I", Cond.fieldLink RX0 50 "WoundMedals$Muster" "men" "I", Cond.fieldLink RX0 11 "WoundMedals$Hanging" "loads" "[[I", Cond.fieldLink RX0 53 "WoundMedals$Muster" "day" "I", Cond.methodLink RX0 44 yX1_allWorn, Cond.instanceMethod yX1_allWorn, Cond.selects RX1 yX1_allWorn yX1_allWorn, Cond.initialized RX1, Cond.code yX1_allWorn cX1_allWorn 1 (some .int)]
def wsX0_findEven_r2 : List Cond := [Cond.fieldLink RX1 22 "WoundMedals$Muster" "medals" "I", Cond.methodLink RX1 53 yX1_wornBy, Cond.instanceMethod yX1_wornBy, Cond.selects RX1 yX1_wornBy yX1_wornBy, Cond.code yX1_wornBy cX1_wornBy 2 (some .int), Cond.fieldLink RX1 34 "WoundMedals$Muster" "wearer" "[I", Cond.methodLink RX1 49 yX1_medalsWith, Cond.instanceMethod yX1_medalsWith, Cond.selects RX1 yX1_medalsWith yX1_medalsWith, Cond.code yX1_medalsWith cX1_medalsWith 5 (some .int), Cond.methodLink RX0 56 yX1_loadOfSet, Cond.instanceMethod yX1_loadOfSet, Cond.selects RX1 yX1_loadOfSet yX1_loadOfSet, Cond.code yX1_loadOfSet cX1_loadOfSet 7 (some .int), Cond.methodLink RX1 57 yJ6_bitCount_0f7a4, Cond.static yJ6_bitCount_0f7a4, Cond.initialized RJ6, Cond.code yJ6_bitCount_0f7a4 cJ6_bitCount_0f7a4 1 (some .int), Cond.constant RJ6 265 (1431655765), Cond.constant RJ6 266 (858993459), Cond.constant RJ6 267 (252645135), Cond.methodLink RX1 62 yX1_bears, Cond.instanceMethod yX1_bears, Cond.selects RX1 yX1_bears yX1_bears]
def wsX0_findEven_r3 : List Cond := [Cond.code yX1_bears cX1_bears 9 (some .int), Cond.fieldLink RX1 28 "WoundMedals$Muster" "weight" "[I", Cond.fieldLink RX1 25 "WoundMedals$Muster" "kind" "[I", Cond.fieldLink RX1 31 "WoundMedals$Muster" "wound" "[I", Cond.methodLink RX0 67 yX0_hangFrom, Cond.instanceMethod yX0_hangFrom, Cond.selects RX0 yX0_hangFrom yX0_hangFrom, Cond.code yX0_hangFrom cX0_hangFrom 5 none, Cond.fieldLink RX0 27 "WoundMedals$Hanging" "best" "[I", Cond.methodLink RX0 71 arraycopyName, Cond.native arraycopyName, Cond.static arraycopyName, Cond.initialized "java/lang/System", Cond.methodLink RX0 77 yX0_costOfFew, Cond.instanceMethod yX0_costOfFew, Cond.selects RX0 yX0_costOfFew yX0_costOfFew, Cond.code yX0_costOfFew cX0_costOfFew 6 (some .int), Cond.fieldLink RX0 90 "WoundMedals$Muster" "wearer" "[I", Cond.methodLink RX0 93 yX0_bends, Cond.instanceMethod yX0_bends, Cond.selects RX0 yX0_bends yX0_bends, Cond.code yX0_bends cX0_bends 3 (some .boolean), Cond.fieldLink RX0 97 "WoundMedals$Muster" "strength" "[I", Cond.methodLink RX0 81 yX0_costOfEven]
def wsX0_findEven_r4 : List Cond := [Cond.instanceMethod yX0_costOfEven, Cond.selects RX0 yX0_costOfEven yX0_costOfEven, Cond.code yX0_costOfEven cX0_costOfEven 3 (some .int), Cond.methodLink RX0 85 Lib.Math.max.name, Cond.static Lib.Math.max.name, Cond.initialized "java/lang/Math", Cond.code Lib.Math.max.name Lib.Math.max.code 2 (some .int)]
def wsX0_findEven : List Cond := .code yX0_findEven cX0_findEven 1 none :: ((wsX0_findEven_r1 ++ (wsX0_findEven_r2 ++ (wsX0_findEven_r3 ++ wsX0_findEven_r4))) ++ wsX00 ++ wsX10)
def wsX0_findFew_r1 : List Cond := [Cond.fieldLink RX0 33 "WoundMedals$Hanging" "wantsFew" "Z", Cond.methodLink RX0 60 yX0_find, Cond.instanceMethod yX0_find, Cond.selects RX0 yX0_find yX0_find, Cond.initialized RX0, Cond.code yX0_find cX0_find 2 none, Cond.fieldLink RX0 20 "WoundMedals$Hanging" "setOf" "[I", Cond.fieldLink RX0 24 "WoundMedals$Hanging" "tried" "[I", Cond.constant RX0 66 (1000000), Cond.fieldLink RX0 37 "WoundMedals$Hanging" "bestCost" "I", Cond.methodLink RX0 63 yX0_prepare, Cond.instanceMethod yX0_prepare, Cond.selects RX0 yX0_prepare yX0_prepare, Cond.code yX0_prepare cX0_prepare 3 none, Cond.fieldLink RX0 40 "WoundMedals$Hanging" "muster" "LWoundMedals$Muster;", Cond.fieldLink RX0 16 "WoundMedals$Hanging" "worn" "I", Cond.fieldLink RX0 50 "WoundMedals$Muster" "men" "I", Cond.fieldLink RX0 11 "WoundMedals$Hanging" "loads" "[[I", Cond.fieldLink RX0 53 "WoundMedals$Muster" "day" "I", Cond.methodLink RX0 44 yX1_allWorn, Cond.instanceMethod yX1_allWorn, Cond.selects RX1 yX1_allWorn yX1_allWorn, Cond.initialized RX1, Cond.code yX1_allWorn cX1_allWorn 1 (some .int)]
def wsX0_findFew_r2 : List Cond := [Cond.fieldLink RX1 22 "WoundMedals$Muster" "medals" "I", Cond.methodLink RX1 53 yX1_wornBy, Cond.instanceMethod yX1_wornBy, Cond.selects RX1 yX1_wornBy yX1_wornBy, Cond.code yX1_wornBy cX1_wornBy 2 (some .int), Cond.fieldLink RX1 34 "WoundMedals$Muster" "wearer" "[I", Cond.methodLink RX1 49 yX1_medalsWith, Cond.instanceMethod yX1_medalsWith, Cond.selects RX1 yX1_medalsWith yX1_medalsWith, Cond.code yX1_medalsWith cX1_medalsWith 5 (some .int), Cond.methodLink RX0 56 yX1_loadOfSet, Cond.instanceMethod yX1_loadOfSet, Cond.selects RX1 yX1_loadOfSet yX1_loadOfSet, Cond.code yX1_loadOfSet cX1_loadOfSet 7 (some .int), Cond.methodLink RX1 57 yJ6_bitCount_0f7a4, Cond.static yJ6_bitCount_0f7a4, Cond.initialized RJ6, Cond.code yJ6_bitCount_0f7a4 cJ6_bitCount_0f7a4 1 (some .int), Cond.constant RJ6 265 (1431655765), Cond.constant RJ6 266 (858993459), Cond.constant RJ6 267 (252645135), Cond.methodLink RX1 62 yX1_bears, Cond.instanceMethod yX1_bears, Cond.selects RX1 yX1_bears yX1_bears]
def wsX0_findFew_r3 : List Cond := [Cond.code yX1_bears cX1_bears 9 (some .int), Cond.fieldLink RX1 28 "WoundMedals$Muster" "weight" "[I", Cond.fieldLink RX1 25 "WoundMedals$Muster" "kind" "[I", Cond.fieldLink RX1 31 "WoundMedals$Muster" "wound" "[I", Cond.methodLink RX0 67 yX0_hangFrom, Cond.instanceMethod yX0_hangFrom, Cond.selects RX0 yX0_hangFrom yX0_hangFrom, Cond.code yX0_hangFrom cX0_hangFrom 5 none, Cond.fieldLink RX0 27 "WoundMedals$Hanging" "best" "[I", Cond.methodLink RX0 71 arraycopyName, Cond.native arraycopyName, Cond.static arraycopyName, Cond.initialized "java/lang/System", Cond.methodLink RX0 77 yX0_costOfFew, Cond.instanceMethod yX0_costOfFew, Cond.selects RX0 yX0_costOfFew yX0_costOfFew, Cond.code yX0_costOfFew cX0_costOfFew 6 (some .int), Cond.fieldLink RX0 90 "WoundMedals$Muster" "wearer" "[I", Cond.methodLink RX0 93 yX0_bends, Cond.instanceMethod yX0_bends, Cond.selects RX0 yX0_bends yX0_bends, Cond.code yX0_bends cX0_bends 3 (some .boolean), Cond.fieldLink RX0 97 "WoundMedals$Muster" "strength" "[I", Cond.methodLink RX0 81 yX0_costOfEven]
def wsX0_findFew_r4 : List Cond := [Cond.instanceMethod yX0_costOfEven, Cond.selects RX0 yX0_costOfEven yX0_costOfEven, Cond.code yX0_costOfEven cX0_costOfEven 3 (some .int), Cond.methodLink RX0 85 Lib.Math.max.name, Cond.static Lib.Math.max.name, Cond.initialized "java/lang/Math", Cond.code Lib.Math.max.name Lib.Math.max.code 2 (some .int)]
def wsX0_findFew : List Cond := .code yX0_findFew cX0_findFew 1 none :: ((wsX0_findFew_r1 ++ (wsX0_findFew_r2 ++ (wsX0_findFew_r3 ++ wsX0_findFew_r4))) ++ wsX00 ++ wsX10)
def wsX0_wouldWear : List Cond := .code yX0_wouldWear cX0_wouldWear 2 (some .int) :: ([.fieldLink RX0 27 "WoundMedals$Hanging" "best" "[I"] ++ wsX00)
def wsX0_power : List Cond := .code yX0_power cX0_power 4 (some .int) :: ([])
def wsX0_ways : List Cond := .code yX0_ways cX0_ways 1 (some .int) :: ([.fieldLink RX0 40 "WoundMedals$Hanging" "muster" "LWoundMedals$Muster;", .fieldLink RX0 50 "WoundMedals$Muster" "men" "I", .fieldLink RX0 16 "WoundMedals$Hanging" "worn" "I", .methodLink RX0 100 yJ6_bitCount_0f7a4, .static yJ6_bitCount_0f7a4, .initialized RJ6, .code yJ6_bitCount_0f7a4 cJ6_bitCount_0f7a4 1 (some .int), .constant RJ6 265 (1431655765), .constant RJ6 266 (858993459), .constant RJ6 267 (252645135), .methodLink RX0 106 yX0_power, .static yX0_power, .initialized RX0, .code yX0_power cX0_power 4 (some .int)] ++ wsX00 ++ wsX10)
def wsX0_waysWithBent : List Cond := .code yX0_waysWithBent cX0_waysWithBent 4 (some .int) :: ([.fieldLink RX0 16 "WoundMedals$Hanging" "worn" "I", .fieldLink RX0 40 "WoundMedals$Hanging" "muster" "LWoundMedals$Muster;", .fieldLink RX0 50 "WoundMedals$Muster" "men" "I", .methodLink RX0 93 yX0_bends, .instanceMethod yX0_bends, .selects RX0 yX0_bends yX0_bends, .initialized RX0, .code yX0_bends cX0_bends 3 (some .boolean), .fieldLink RX0 11 "WoundMedals$Hanging" "loads" "[[I", .fieldLink RX0 97 "WoundMedals$Muster" "strength" "[I", .methodLink RX0 100 yJ6_bitCount_0f7a4, .static yJ6_bitCount_0f7a4, .initialized RJ6, .code yJ6_bitCount_0f7a4 cJ6_bitCount_0f7a4 1 (some .int), .constant RJ6 265 (1431655765), .constant RJ6 266 (858993459), .constant RJ6 267 (252645135), .methodLink RX0 106 yX0_power, .static yX0_power, .code yX0_power cX0_power 4 (some .int)] ++ wsX00 ++ wsX10)
def wsX0_waysWith : List Cond := .code yX0_waysWith cX0_waysWith 5 (some .int) :: ([.fieldLink RX0 30 "WoundMedals$Hanging" "waysOfSet" "[I", .methodLink RX0 93 yX0_bends, .instanceMethod yX0_bends, .selects RX0 yX0_bends yX0_bends, .initialized RX0, .code yX0_bends cX0_bends 3 (some .boolean), .fieldLink RX0 11 "WoundMedals$Hanging" "loads" "[[I", .fieldLink RX0 40 "WoundMedals$Hanging" "muster" "LWoundMedals$Muster;", .fieldLink RX0 97 "WoundMedals$Muster" "strength" "[I"] ++ wsX00 ++ wsX10)
def wsX0_waysWithNobodyBent : List Cond := .code yX0_waysWithNobodyBent cX0_waysWithNobodyBent 3 (some .int) :: ([.fieldLink RX0 30 "WoundMedals$Hanging" "waysOfSet" "[I", .fieldLink RX0 40 "WoundMedals$Hanging" "muster" "LWoundMedals$Muster;", .fieldLink RX0 50 "WoundMedals$Muster" "men" "I", .fieldLink RX0 16 "WoundMedals$Hanging" "worn" "I", .methodLink RX0 109 yX0_waysWith, .instanceMethod yX0_waysWith, .selects RX0 yX0_waysWith yX0_waysWith, .initialized RX0, .code yX0_waysWith cX0_waysWith 5 (some .int), .methodLink RX0 93 yX0_bends, .instanceMethod yX0_bends, .selects RX0 yX0_bends yX0_bends, .code yX0_bends cX0_bends 3 (some .boolean), .fieldLink RX0 11 "WoundMedals$Hanging" "loads" "[[I", .fieldLink RX0 97 "WoundMedals$Muster" "strength" "[I"] ++ wsX00 ++ wsX10)
def wsX1_init : List Cond := .code yX1_init cX1_init 1 none :: ([.methodLink RX1 3 objectInit, .instanceMethod objectInit, .code objectInit ⟨#[0xb1]⟩ 1 none, .fieldLink RX1 9 "WoundMedals$Muster" "men" "I", .arrayClass .int, .fieldLink RX1 15 "WoundMedals$Muster" "build" "[I", .fieldLink RX1 19 "WoundMedals$Muster" "strength" "[I", .fieldLink RX1 22 "WoundMedals$Muster" "medals" "I", .fieldLink RX1 25 "WoundMedals$Muster" "kind" "[I", .fieldLink RX1 28 "WoundMedals$Muster" "weight" "[I", .fieldLink RX1 31 "WoundMedals$Muster" "wound" "[I", .fieldLink RX1 34 "WoundMedals$Muster" "wearer" "[I", .fieldLink RX1 37 "WoundMedals$Muster" "day" "I", .fieldLink RX1 40 "WoundMedals$Muster" "draw" "I"] ++ wsX10)
def wsX1_clear : List Cond := .code yX1_clear cX1_clear 1 none :: ([.fieldLink RX1 9 "WoundMedals$Muster" "men" "I", .fieldLink RX1 22 "WoundMedals$Muster" "medals" "I", .fieldLink RX1 37 "WoundMedals$Muster" "day" "I"] ++ wsX10)
def wsX1_take : List Cond := .code yX1_take cX1_take 2 none :: ([.fieldLink RX1 9 "WoundMedals$Muster" "men" "I", .fieldLink RX1 15 "WoundMedals$Muster" "build" "[I", .methodLink RX1 43 arraycopyName, .native arraycopyName, .static arraycopyName, .initialized "java/lang/System", .fieldLink RX1 19 "WoundMedals$Muster" "strength" "[I", .fieldLink RX1 22 "WoundMedals$Muster" "medals" "I", .fieldLink RX1 25 "WoundMedals$Muster" "kind" "[I", .fieldLink RX1 28 "WoundMedals$Muster" "weight" "[I", .fieldLink RX1 31 "WoundMedals$Muster" "wound" "[I", .fieldLink RX1 34 "WoundMedals$Muster" "wearer" "[I", .fieldLink RX1 37 "WoundMedals$Muster" "day" "I", .fieldLink RX1 40 "WoundMedals$Muster" "draw" "I"] ++ wsX10)
def wsX1_hasMan : List Cond := .code yX1_hasMan cX1_hasMan 2 (some .boolean) :: ([.fieldLink RX1 9 "WoundMedals$Muster" "men" "I"] ++ wsX10)
def wsX1_hasMedal : List Cond := .code yX1_hasMedal cX1_hasMedal 2 (some .boolean) :: ([.fieldLink RX1 22 "WoundMedals$Muster" "medals" "I"] ++ wsX10)
def wsX1_addMan : List Cond := .code yX1_addMan cX1_addMan 3 (some .int) :: ([.fieldLink RX1 9 "WoundMedals$Muster" "men" "I", .fieldLink RX1 15 "WoundMedals$Muster" "build" "[I", .fieldLink RX1 19 "WoundMedals$Muster" "strength" "[I"] ++ wsX10)
def wsX1_addMedal : List Cond := .code yX1_addMedal cX1_addMedal 5 (some .int) :: ([.fieldLink RX1 22 "WoundMedals$Muster" "medals" "I", .fieldLink RX1 25 "WoundMedals$Muster" "kind" "[I", .fieldLink RX1 28 "WoundMedals$Muster" "weight" "[I", .fieldLink RX1 31 "WoundMedals$Muster" "wound" "[I", .fieldLink RX1 34 "WoundMedals$Muster" "wearer" "[I"] ++ wsX10)
def wsX1_woundsOf : List Cond := .code yX1_woundsOf cX1_woundsOf 2 (some .int) :: ([.fieldLink RX1 31 "WoundMedals$Muster" "wound" "[I", .methodLink RX1 49 yX1_medalsWith, .instanceMethod yX1_medalsWith, .selects RX1 yX1_medalsWith yX1_medalsWith, .initialized RX1, .code yX1_medalsWith cX1_medalsWith 5 (some .int), .fieldLink RX1 22 "WoundMedals$Muster" "medals" "I"] ++ wsX10)
def wsX1_bearsNow_r1 : List Cond := [Cond.fieldLink RX1 34 "WoundMedals$Muster" "wearer" "[I", Cond.fieldLink RX1 37 "WoundMedals$Muster" "day" "I", Cond.methodLink RX1 53 yX1_wornBy, Cond.instanceMethod yX1_wornBy, Cond.selects RX1 yX1_wornBy yX1_wornBy, Cond.initialized RX1, Cond.code yX1_wornBy cX1_wornBy 2 (some .int), Cond.methodLink RX1 49 yX1_medalsWith, Cond.instanceMethod yX1_medalsWith, Cond.selects RX1 yX1_medalsWith yX1_medalsWith, Cond.code yX1_medalsWith cX1_medalsWith 5 (some .int), Cond.fieldLink RX1 22 "WoundMedals$Muster" "medals" "I", Cond.methodLink RX1 57 yJ6_bitCount_0f7a4, Cond.static yJ6_bitCount_0f7a4, Cond.initialized RJ6, Cond.code yJ6_bitCount_0f7a4 cJ6_bitCount_0f7a4 1 (some .int), Cond.constant RJ6 265 (1431655765), Cond.constant RJ6 266 (858993459), Cond.constant RJ6 267 (252645135), Cond.methodLink RX1 62 yX1_bears, Cond.instanceMethod yX1_bears, Cond.selects RX1 yX1_bears yX1_bears, Cond.code yX1_bears cX1_bears 9 (some .int), Cond.fieldLink RX1 28 "WoundMedals$Muster" "weight" "[I"]
def wsX1_bearsNow_r2 : List Cond := [Cond.fieldLink RX1 25 "WoundMedals$Muster" "kind" "[I", Cond.fieldLink RX1 31 "WoundMedals$Muster" "wound" "[I"]
def wsX1_bearsNow : List Cond := .code yX1_bearsNow cX1_bearsNow 3 (some .int) :: ((wsX1_bearsNow_r1 ++ wsX1_bearsNow_r2) ++ wsX10)
def wsX1_loadOn_r1 : List Cond := [Cond.methodLink RX1 53 yX1_wornBy, Cond.instanceMethod yX1_wornBy, Cond.selects RX1 yX1_wornBy yX1_wornBy, Cond.initialized RX1, Cond.code yX1_wornBy cX1_wornBy 2 (some .int), Cond.fieldLink RX1 34 "WoundMedals$Muster" "wearer" "[I", Cond.methodLink RX1 49 yX1_medalsWith, Cond.instanceMethod yX1_medalsWith, Cond.selects RX1 yX1_medalsWith yX1_medalsWith, Cond.code yX1_medalsWith cX1_medalsWith 5 (some .int), Cond.fieldLink RX1 22 "WoundMedals$Muster" "medals" "I", Cond.methodLink RX1 66 yX1_loadOfSet, Cond.instanceMethod yX1_loadOfSet, Cond.selects RX1 yX1_loadOfSet yX1_loadOfSet, Cond.code yX1_loadOfSet cX1_loadOfSet 7 (some .int), Cond.methodLink RX1 57 yJ6_bitCount_0f7a4, Cond.static yJ6_bitCount_0f7a4, Cond.initialized RJ6, Cond.code yJ6_bitCount_0f7a4 cJ6_bitCount_0f7a4 1 (some .int), Cond.constant RJ6 265 (1431655765), Cond.constant RJ6 266 (858993459), Cond.constant RJ6 267 (252645135), Cond.methodLink RX1 62 yX1_bears, Cond.instanceMethod yX1_bears]
def wsX1_loadOn_r2 : List Cond := [Cond.selects RX1 yX1_bears yX1_bears, Cond.code yX1_bears cX1_bears 9 (some .int), Cond.fieldLink RX1 28 "WoundMedals$Muster" "weight" "[I", Cond.fieldLink RX1 25 "WoundMedals$Muster" "kind" "[I", Cond.fieldLink RX1 31 "WoundMedals$Muster" "wound" "[I"]
def wsX1_loadOn : List Cond := .code yX1_loadOn cX1_loadOn 3 (some .int) :: ((wsX1_loadOn_r1 ++ wsX1_loadOn_r2) ++ wsX10)
def wsX1_isBent_r1 : List Cond := [Cond.fieldLink RX1 37 "WoundMedals$Muster" "day" "I", Cond.fieldLink RX1 19 "WoundMedals$Muster" "strength" "[I", Cond.methodLink RX1 70 yX1_loadOn, Cond.instanceMethod yX1_loadOn, Cond.selects RX1 yX1_loadOn yX1_loadOn, Cond.initialized RX1, Cond.code yX1_loadOn cX1_loadOn 3 (some .int), Cond.methodLink RX1 53 yX1_wornBy, Cond.instanceMethod yX1_wornBy, Cond.selects RX1 yX1_wornBy yX1_wornBy, Cond.code yX1_wornBy cX1_wornBy 2 (some .int), Cond.fieldLink RX1 34 "WoundMedals$Muster" "wearer" "[I", Cond.methodLink RX1 49 yX1_medalsWith, Cond.instanceMethod yX1_medalsWith, Cond.selects RX1 yX1_medalsWith yX1_medalsWith, Cond.code yX1_medalsWith cX1_medalsWith 5 (some .int), Cond.fieldLink RX1 22 "WoundMedals$Muster" "medals" "I", Cond.methodLink RX1 66 yX1_loadOfSet, Cond.instanceMethod yX1_loadOfSet, Cond.selects RX1 yX1_loadOfSet yX1_loadOfSet, Cond.code yX1_loadOfSet cX1_loadOfSet 7 (some .int), Cond.methodLink RX1 57 yJ6_bitCount_0f7a4, Cond.static yJ6_bitCount_0f7a4, Cond.initialized RJ6]
def wsX1_isBent_r2 : List Cond := [Cond.code yJ6_bitCount_0f7a4 cJ6_bitCount_0f7a4 1 (some .int), Cond.constant RJ6 265 (1431655765), Cond.constant RJ6 266 (858993459), Cond.constant RJ6 267 (252645135), Cond.methodLink RX1 62 yX1_bears, Cond.instanceMethod yX1_bears, Cond.selects RX1 yX1_bears yX1_bears, Cond.code yX1_bears cX1_bears 9 (some .int), Cond.fieldLink RX1 28 "WoundMedals$Muster" "weight" "[I", Cond.fieldLink RX1 25 "WoundMedals$Muster" "kind" "[I", Cond.fieldLink RX1 31 "WoundMedals$Muster" "wound" "[I"]
def wsX1_isBent : List Cond := .code yX1_isBent cX1_isBent 2 (some .boolean) :: ((wsX1_isBent_r1 ++ wsX1_isBent_r2) ++ wsX10)
def wsX1_allStrength : List Cond := .code yX1_allStrength cX1_allStrength 3 (some .int) :: ([.fieldLink RX1 9 "WoundMedals$Muster" "men" "I", .fieldLink RX1 19 "WoundMedals$Muster" "strength" "[I"] ++ wsX10)
def wsX1_allLoads_r1 : List Cond := [Cond.fieldLink RX1 9 "WoundMedals$Muster" "men" "I", Cond.fieldLink RX1 37 "WoundMedals$Muster" "day" "I", Cond.methodLink RX1 70 yX1_loadOn, Cond.instanceMethod yX1_loadOn, Cond.selects RX1 yX1_loadOn yX1_loadOn, Cond.initialized RX1, Cond.code yX1_loadOn cX1_loadOn 3 (some .int), Cond.methodLink RX1 53 yX1_wornBy, Cond.instanceMethod yX1_wornBy, Cond.selects RX1 yX1_wornBy yX1_wornBy, Cond.code yX1_wornBy cX1_wornBy 2 (some .int), Cond.fieldLink RX1 34 "WoundMedals$Muster" "wearer" "[I", Cond.methodLink RX1 49 yX1_medalsWith, Cond.instanceMethod yX1_medalsWith, Cond.selects RX1 yX1_medalsWith yX1_medalsWith, Cond.code yX1_medalsWith cX1_medalsWith 5 (some .int), Cond.fieldLink RX1 22 "WoundMedals$Muster" "medals" "I", Cond.methodLink RX1 66 yX1_loadOfSet, Cond.instanceMethod yX1_loadOfSet, Cond.selects RX1 yX1_loadOfSet yX1_loadOfSet, Cond.code yX1_loadOfSet cX1_loadOfSet 7 (some .int), Cond.methodLink RX1 57 yJ6_bitCount_0f7a4, Cond.static yJ6_bitCount_0f7a4, Cond.initialized RJ6]
def wsX1_allLoads_r2 : List Cond := [Cond.code yJ6_bitCount_0f7a4 cJ6_bitCount_0f7a4 1 (some .int), Cond.constant RJ6 265 (1431655765), Cond.constant RJ6 266 (858993459), Cond.constant RJ6 267 (252645135), Cond.methodLink RX1 62 yX1_bears, Cond.instanceMethod yX1_bears, Cond.selects RX1 yX1_bears yX1_bears, Cond.code yX1_bears cX1_bears 9 (some .int), Cond.fieldLink RX1 28 "WoundMedals$Muster" "weight" "[I", Cond.fieldLink RX1 25 "WoundMedals$Muster" "kind" "[I", Cond.fieldLink RX1 31 "WoundMedals$Muster" "wound" "[I"]
def wsX1_allLoads : List Cond := .code yX1_allLoads cX1_allLoads 3 (some .int) :: ((wsX1_allLoads_r1 ++ wsX1_allLoads_r2) ++ wsX10)
def wsX5_strengthNext : List Cond := .code yX5_strengthNext cX5_strengthNext 3 (some .int) :: ([.methodLink RX5 204 Lib.Math.max.name, .static Lib.Math.max.name, .initialized "java/lang/Math", .code Lib.Math.max.name Lib.Math.max.code 2 (some .int), .methodLink RX5 165 Lib.Math.min.name, .static Lib.Math.min.name, .code Lib.Math.min.name Lib.Math.min.code 2 (some .int)])
def wsX1_strengthAfter_r1 : List Cond := [Cond.fieldLink RX1 15 "WoundMedals$Muster" "build" "[I", Cond.methodLink RX1 70 yX1_loadOn, Cond.instanceMethod yX1_loadOn, Cond.selects RX1 yX1_loadOn yX1_loadOn, Cond.initialized RX1, Cond.code yX1_loadOn cX1_loadOn 3 (some .int), Cond.methodLink RX1 53 yX1_wornBy, Cond.instanceMethod yX1_wornBy, Cond.selects RX1 yX1_wornBy yX1_wornBy, Cond.code yX1_wornBy cX1_wornBy 2 (some .int), Cond.fieldLink RX1 34 "WoundMedals$Muster" "wearer" "[I", Cond.methodLink RX1 49 yX1_medalsWith, Cond.instanceMethod yX1_medalsWith, Cond.selects RX1 yX1_medalsWith yX1_medalsWith, Cond.code yX1_medalsWith cX1_medalsWith 5 (some .int), Cond.fieldLink RX1 22 "WoundMedals$Muster" "medals" "I", Cond.methodLink RX1 66 yX1_loadOfSet, Cond.instanceMethod yX1_loadOfSet, Cond.selects RX1 yX1_loadOfSet yX1_loadOfSet, Cond.code yX1_loadOfSet cX1_loadOfSet 7 (some .int), Cond.methodLink RX1 57 yJ6_bitCount_0f7a4, Cond.static yJ6_bitCount_0f7a4, Cond.initialized RJ6, Cond.code yJ6_bitCount_0f7a4 cJ6_bitCount_0f7a4 1 (some .int)]
def wsX1_strengthAfter_r2 : List Cond := [Cond.constant RJ6 265 (1431655765), Cond.constant RJ6 266 (858993459), Cond.constant RJ6 267 (252645135), Cond.methodLink RX1 62 yX1_bears, Cond.instanceMethod yX1_bears, Cond.selects RX1 yX1_bears yX1_bears, Cond.code yX1_bears cX1_bears 9 (some .int), Cond.fieldLink RX1 28 "WoundMedals$Muster" "weight" "[I", Cond.fieldLink RX1 25 "WoundMedals$Muster" "kind" "[I", Cond.fieldLink RX1 31 "WoundMedals$Muster" "wound" "[I", Cond.static yX5_strengthNext, Cond.initialized RX5, Cond.code yX5_strengthNext cX5_strengthNext 3 (some .int), Cond.methodLink RX5 204 Lib.Math.max.name, Cond.static Lib.Math.max.name, Cond.initialized "java/lang/Math", Cond.code Lib.Math.max.name Lib.Math.max.code 2 (some .int), Cond.methodLink RX5 165 Lib.Math.min.name, Cond.static Lib.Math.min.name, Cond.code Lib.Math.min.name Lib.Math.min.code 2 (some .int)]
def wsX1_strengthAfter : List Cond := .code yX1_strengthAfter cX1_strengthAfter 4 (some .int) :: ((wsX1_strengthAfter_r1 ++ wsX1_strengthAfter_r2) ++ wsX10)
def wsX1_strengthBehind_r1 : List Cond := [Cond.fieldLink RX1 19 "WoundMedals$Muster" "strength" "[I", Cond.fieldLink RX1 37 "WoundMedals$Muster" "day" "I", Cond.methodLink RX1 77 yX1_strengthAfter, Cond.instanceMethod yX1_strengthAfter, Cond.selects RX1 yX1_strengthAfter yX1_strengthAfter, Cond.initialized RX1, Cond.code yX1_strengthAfter cX1_strengthAfter 4 (some .int), Cond.fieldLink RX1 15 "WoundMedals$Muster" "build" "[I", Cond.methodLink RX1 70 yX1_loadOn, Cond.instanceMethod yX1_loadOn, Cond.selects RX1 yX1_loadOn yX1_loadOn, Cond.code yX1_loadOn cX1_loadOn 3 (some .int), Cond.methodLink RX1 53 yX1_wornBy, Cond.instanceMethod yX1_wornBy, Cond.selects RX1 yX1_wornBy yX1_wornBy, Cond.code yX1_wornBy cX1_wornBy 2 (some .int), Cond.fieldLink RX1 34 "WoundMedals$Muster" "wearer" "[I", Cond.methodLink RX1 49 yX1_medalsWith, Cond.instanceMethod yX1_medalsWith, Cond.selects RX1 yX1_medalsWith yX1_medalsWith, Cond.code yX1_medalsWith cX1_medalsWith 5 (some .int), Cond.fieldLink RX1 22 "WoundMedals$Muster" "medals" "I", Cond.methodLink RX1 66 yX1_loadOfSet, Cond.instanceMethod yX1_loadOfSet]
def wsX1_strengthBehind_r2 : List Cond := [Cond.selects RX1 yX1_loadOfSet yX1_loadOfSet, Cond.code yX1_loadOfSet cX1_loadOfSet 7 (some .int), Cond.methodLink RX1 57 yJ6_bitCount_0f7a4, Cond.static yJ6_bitCount_0f7a4, Cond.initialized RJ6, Cond.code yJ6_bitCount_0f7a4 cJ6_bitCount_0f7a4 1 (some .int), Cond.constant RJ6 265 (1431655765), Cond.constant RJ6 266 (858993459), Cond.constant RJ6 267 (252645135), Cond.methodLink RX1 62 yX1_bears, Cond.instanceMethod yX1_bears, Cond.selects RX1 yX1_bears yX1_bears, Cond.code yX1_bears cX1_bears 9 (some .int), Cond.fieldLink RX1 28 "WoundMedals$Muster" "weight" "[I", Cond.fieldLink RX1 25 "WoundMedals$Muster" "kind" "[I", Cond.fieldLink RX1 31 "WoundMedals$Muster" "wound" "[I", Cond.static yX5_strengthNext, Cond.initialized RX5, Cond.code yX5_strengthNext cX5_strengthNext 3 (some .int), Cond.methodLink RX5 204 Lib.Math.max.name, Cond.static Lib.Math.max.name, Cond.initialized "java/lang/Math", Cond.code Lib.Math.max.name Lib.Math.max.code 2 (some .int), Cond.methodLink RX5 165 Lib.Math.min.name]
def wsX1_strengthBehind_r3 : List Cond := [Cond.static Lib.Math.min.name, Cond.code Lib.Math.min.name Lib.Math.min.code 2 (some .int)]
def wsX1_strengthBehind : List Cond := .code yX1_strengthBehind cX1_strengthBehind 5 (some .int) :: ((wsX1_strengthBehind_r1 ++ (wsX1_strengthBehind_r2 ++ wsX1_strengthBehind_r3)) ++ wsX10)
def wsX1_allBent_r1 : List Cond := [Cond.fieldLink RX1 9 "WoundMedals$Muster" "men" "I", Cond.methodLink RX1 80 yX1_isBent, Cond.instanceMethod yX1_isBent, Cond.selects RX1 yX1_isBent yX1_isBent, Cond.initialized RX1, Cond.code yX1_isBent cX1_isBent 2 (some .boolean), Cond.fieldLink RX1 37 "WoundMedals$Muster" "day" "I", Cond.fieldLink RX1 19 "WoundMedals$Muster" "strength" "[I", Cond.methodLink RX1 70 yX1_loadOn, Cond.instanceMethod yX1_loadOn, Cond.selects RX1 yX1_loadOn yX1_loadOn, Cond.code yX1_loadOn cX1_loadOn 3 (some .int), Cond.methodLink RX1 53 yX1_wornBy, Cond.instanceMethod yX1_wornBy, Cond.selects RX1 yX1_wornBy yX1_wornBy, Cond.code yX1_wornBy cX1_wornBy 2 (some .int), Cond.fieldLink RX1 34 "WoundMedals$Muster" "wearer" "[I", Cond.methodLink RX1 49 yX1_medalsWith, Cond.instanceMethod yX1_medalsWith, Cond.selects RX1 yX1_medalsWith yX1_medalsWith, Cond.code yX1_medalsWith cX1_medalsWith 5 (some .int), Cond.fieldLink RX1 22 "WoundMedals$Muster" "medals" "I", Cond.methodLink RX1 66 yX1_loadOfSet, Cond.instanceMethod yX1_loadOfSet]
def wsX1_allBent_r2 : List Cond := [Cond.selects RX1 yX1_loadOfSet yX1_loadOfSet, Cond.code yX1_loadOfSet cX1_loadOfSet 7 (some .int), Cond.methodLink RX1 57 yJ6_bitCount_0f7a4, Cond.static yJ6_bitCount_0f7a4, Cond.initialized RJ6, Cond.code yJ6_bitCount_0f7a4 cJ6_bitCount_0f7a4 1 (some .int), Cond.constant RJ6 265 (1431655765), Cond.constant RJ6 266 (858993459), Cond.constant RJ6 267 (252645135), Cond.methodLink RX1 62 yX1_bears, Cond.instanceMethod yX1_bears, Cond.selects RX1 yX1_bears yX1_bears, Cond.code yX1_bears cX1_bears 9 (some .int), Cond.fieldLink RX1 28 "WoundMedals$Muster" "weight" "[I", Cond.fieldLink RX1 25 "WoundMedals$Muster" "kind" "[I", Cond.fieldLink RX1 31 "WoundMedals$Muster" "wound" "[I"]
def wsX1_allBent : List Cond := .code yX1_allBent cX1_allBent 3 (some .int) :: ((wsX1_allBent_r1 ++ wsX1_allBent_r2) ++ wsX10)
def wsX1_bentBehind_r1 : List Cond := [Cond.fieldLink RX1 9 "WoundMedals$Muster" "men" "I", Cond.fieldLink RX1 37 "WoundMedals$Muster" "day" "I", Cond.methodLink RX1 70 yX1_loadOn, Cond.instanceMethod yX1_loadOn, Cond.selects RX1 yX1_loadOn yX1_loadOn, Cond.initialized RX1, Cond.code yX1_loadOn cX1_loadOn 3 (some .int), Cond.methodLink RX1 53 yX1_wornBy, Cond.instanceMethod yX1_wornBy, Cond.selects RX1 yX1_wornBy yX1_wornBy, Cond.code yX1_wornBy cX1_wornBy 2 (some .int), Cond.fieldLink RX1 34 "WoundMedals$Muster" "wearer" "[I", Cond.methodLink RX1 49 yX1_medalsWith, Cond.instanceMethod yX1_medalsWith, Cond.selects RX1 yX1_medalsWith yX1_medalsWith, Cond.code yX1_medalsWith cX1_medalsWith 5 (some .int), Cond.fieldLink RX1 22 "WoundMedals$Muster" "medals" "I", Cond.methodLink RX1 66 yX1_loadOfSet, Cond.instanceMethod yX1_loadOfSet, Cond.selects RX1 yX1_loadOfSet yX1_loadOfSet, Cond.code yX1_loadOfSet cX1_loadOfSet 7 (some .int), Cond.methodLink RX1 57 yJ6_bitCount_0f7a4, Cond.static yJ6_bitCount_0f7a4, Cond.initialized RJ6]
def wsX1_bentBehind_r2 : List Cond := [Cond.code yJ6_bitCount_0f7a4 cJ6_bitCount_0f7a4 1 (some .int), Cond.constant RJ6 265 (1431655765), Cond.constant RJ6 266 (858993459), Cond.constant RJ6 267 (252645135), Cond.methodLink RX1 62 yX1_bears, Cond.instanceMethod yX1_bears, Cond.selects RX1 yX1_bears yX1_bears, Cond.code yX1_bears cX1_bears 9 (some .int), Cond.fieldLink RX1 28 "WoundMedals$Muster" "weight" "[I", Cond.fieldLink RX1 25 "WoundMedals$Muster" "kind" "[I", Cond.fieldLink RX1 31 "WoundMedals$Muster" "wound" "[I", Cond.methodLink RX1 84 yX1_strengthBehind, Cond.instanceMethod yX1_strengthBehind, Cond.selects RX1 yX1_strengthBehind yX1_strengthBehind, Cond.code yX1_strengthBehind cX1_strengthBehind 5 (some .int), Cond.fieldLink RX1 19 "WoundMedals$Muster" "strength" "[I", Cond.methodLink RX1 77 yX1_strengthAfter, Cond.instanceMethod yX1_strengthAfter, Cond.selects RX1 yX1_strengthAfter yX1_strengthAfter, Cond.code yX1_strengthAfter cX1_strengthAfter 4 (some .int), Cond.fieldLink RX1 15 "WoundMedals$Muster" "build" "[I", Cond.static yX5_strengthNext, Cond.initialized RX5, Cond.code yX5_strengthNext cX5_strengthNext 3 (some .int)]
def wsX1_bentBehind_r3 : List Cond := [Cond.methodLink RX5 204 Lib.Math.max.name, Cond.static Lib.Math.max.name, Cond.initialized "java/lang/Math", Cond.code Lib.Math.max.name Lib.Math.max.code 2 (some .int), Cond.methodLink RX5 165 Lib.Math.min.name, Cond.static Lib.Math.min.name, Cond.code Lib.Math.min.name Lib.Math.min.code 2 (some .int)]
def wsX1_bentBehind : List Cond := .code yX1_bentBehind cX1_bentBehind 4 (some .int) :: ((wsX1_bentBehind_r1 ++ (wsX1_bentBehind_r2 ++ wsX1_bentBehind_r3)) ++ wsX10)
def wsX1_isBentWithin_r1 : List Cond := [Cond.fieldLink RX1 19 "WoundMedals$Muster" "strength" "[I", Cond.fieldLink RX1 37 "WoundMedals$Muster" "day" "I", Cond.methodLink RX1 70 yX1_loadOn, Cond.instanceMethod yX1_loadOn, Cond.selects RX1 yX1_loadOn yX1_loadOn, Cond.initialized RX1, Cond.code yX1_loadOn cX1_loadOn 3 (some .int), Cond.methodLink RX1 53 yX1_wornBy, Cond.instanceMethod yX1_wornBy, Cond.selects RX1 yX1_wornBy yX1_wornBy, Cond.code yX1_wornBy cX1_wornBy 2 (some .int), Cond.fieldLink RX1 34 "WoundMedals$Muster" "wearer" "[I", Cond.methodLink RX1 49 yX1_medalsWith, Cond.instanceMethod yX1_medalsWith, Cond.selects RX1 yX1_medalsWith yX1_medalsWith, Cond.code yX1_medalsWith cX1_medalsWith 5 (some .int), Cond.fieldLink RX1 22 "WoundMedals$Muster" "medals" "I", Cond.methodLink RX1 66 yX1_loadOfSet, Cond.instanceMethod yX1_loadOfSet, Cond.selects RX1 yX1_loadOfSet yX1_loadOfSet, Cond.code yX1_loadOfSet cX1_loadOfSet 7 (some .int), Cond.methodLink RX1 57 yJ6_bitCount_0f7a4, Cond.static yJ6_bitCount_0f7a4, Cond.initialized RJ6]
def wsX1_isBentWithin_r2 : List Cond := [Cond.code yJ6_bitCount_0f7a4 cJ6_bitCount_0f7a4 1 (some .int), Cond.constant RJ6 265 (1431655765), Cond.constant RJ6 266 (858993459), Cond.constant RJ6 267 (252645135), Cond.methodLink RX1 62 yX1_bears, Cond.instanceMethod yX1_bears, Cond.selects RX1 yX1_bears yX1_bears, Cond.code yX1_bears cX1_bears 9 (some .int), Cond.fieldLink RX1 28 "WoundMedals$Muster" "weight" "[I", Cond.fieldLink RX1 25 "WoundMedals$Muster" "kind" "[I", Cond.fieldLink RX1 31 "WoundMedals$Muster" "wound" "[I", Cond.methodLink RX1 77 yX1_strengthAfter, Cond.instanceMethod yX1_strengthAfter, Cond.selects RX1 yX1_strengthAfter yX1_strengthAfter, Cond.code yX1_strengthAfter cX1_strengthAfter 4 (some .int), Cond.fieldLink RX1 15 "WoundMedals$Muster" "build" "[I", Cond.static yX5_strengthNext, Cond.initialized RX5, Cond.code yX5_strengthNext cX5_strengthNext 3 (some .int), Cond.methodLink RX5 204 Lib.Math.max.name, Cond.static Lib.Math.max.name, Cond.initialized "java/lang/Math", Cond.code Lib.Math.max.name Lib.Math.max.code 2 (some .int), Cond.methodLink RX5 165 Lib.Math.min.name]
def wsX1_isBentWithin_r3 : List Cond := [Cond.static Lib.Math.min.name, Cond.code Lib.Math.min.name Lib.Math.min.code 2 (some .int)]
def wsX1_isBentWithin : List Cond := .code yX1_isBentWithin cX1_isBentWithin 5 (some .boolean) :: ((wsX1_isBentWithin_r1 ++ (wsX1_isBentWithin_r2 ++ wsX1_isBentWithin_r3)) ++ wsX10)
def wsX1_wornByTwo : List Cond := .code yX1_wornByTwo cX1_wornByTwo 3 (some .boolean) :: ([.fieldLink RX1 34 "WoundMedals$Muster" "wearer" "[I"] ++ wsX10)
def wsX1_loadsIfChanged_r1 : List Cond := [Cond.fieldLink RX1 34 "WoundMedals$Muster" "wearer" "[I", Cond.fieldLink RX1 37 "WoundMedals$Muster" "day" "I", Cond.methodLink RX1 53 yX1_wornBy, Cond.instanceMethod yX1_wornBy, Cond.selects RX1 yX1_wornBy yX1_wornBy, Cond.initialized RX1, Cond.code yX1_wornBy cX1_wornBy 2 (some .int), Cond.methodLink RX1 49 yX1_medalsWith, Cond.instanceMethod yX1_medalsWith, Cond.selects RX1 yX1_medalsWith yX1_medalsWith, Cond.code yX1_medalsWith cX1_medalsWith 5 (some .int), Cond.fieldLink RX1 22 "WoundMedals$Muster" "medals" "I", Cond.methodLink RX1 66 yX1_loadOfSet, Cond.instanceMethod yX1_loadOfSet, Cond.selects RX1 yX1_loadOfSet yX1_loadOfSet, Cond.code yX1_loadOfSet cX1_loadOfSet 7 (some .int), Cond.methodLink RX1 57 yJ6_bitCount_0f7a4, Cond.static yJ6_bitCount_0f7a4, Cond.initialized RJ6, Cond.code yJ6_bitCount_0f7a4 cJ6_bitCount_0f7a4 1 (some .int), Cond.constant RJ6 265 (1431655765), Cond.constant RJ6 266 (858993459), Cond.constant RJ6 267 (252645135), Cond.methodLink RX1 62 yX1_bears]
def wsX1_loadsIfChanged_r2 : List Cond := [Cond.instanceMethod yX1_bears, Cond.selects RX1 yX1_bears yX1_bears, Cond.code yX1_bears cX1_bears 9 (some .int), Cond.fieldLink RX1 28 "WoundMedals$Muster" "weight" "[I", Cond.fieldLink RX1 25 "WoundMedals$Muster" "kind" "[I", Cond.fieldLink RX1 31 "WoundMedals$Muster" "wound" "[I"]
def wsX1_loadsIfChanged : List Cond := .code yX1_loadsIfChanged cX1_loadsIfChanged 6 (some .int) :: ((wsX1_loadsIfChanged_r1 ++ wsX1_loadsIfChanged_r2) ++ wsX10)
def wsX1_passDay_r1 : List Cond := [Cond.fieldLink RX1 9 "WoundMedals$Muster" "men" "I", Cond.fieldLink RX1 19 "WoundMedals$Muster" "strength" "[I", Cond.fieldLink RX1 37 "WoundMedals$Muster" "day" "I", Cond.methodLink RX1 77 yX1_strengthAfter, Cond.instanceMethod yX1_strengthAfter, Cond.selects RX1 yX1_strengthAfter yX1_strengthAfter, Cond.initialized RX1, Cond.code yX1_strengthAfter cX1_strengthAfter 4 (some .int), Cond.fieldLink RX1 15 "WoundMedals$Muster" "build" "[I", Cond.methodLink RX1 70 yX1_loadOn, Cond.instanceMethod yX1_loadOn, Cond.selects RX1 yX1_loadOn yX1_loadOn, Cond.code yX1_loadOn cX1_loadOn 3 (some .int), Cond.methodLink RX1 53 yX1_wornBy, Cond.instanceMethod yX1_wornBy, Cond.selects RX1 yX1_wornBy yX1_wornBy, Cond.code yX1_wornBy cX1_wornBy 2 (some .int), Cond.fieldLink RX1 34 "WoundMedals$Muster" "wearer" "[I", Cond.methodLink RX1 49 yX1_medalsWith, Cond.instanceMethod yX1_medalsWith, Cond.selects RX1 yX1_medalsWith yX1_medalsWith, Cond.code yX1_medalsWith cX1_medalsWith 5 (some .int), Cond.fieldLink RX1 22 "WoundMedals$Muster" "medals" "I", Cond.methodLink RX1 66 yX1_loadOfSet]
def wsX1_passDay_r2 : List Cond := [Cond.instanceMethod yX1_loadOfSet, Cond.selects RX1 yX1_loadOfSet yX1_loadOfSet, Cond.code yX1_loadOfSet cX1_loadOfSet 7 (some .int), Cond.methodLink RX1 57 yJ6_bitCount_0f7a4, Cond.static yJ6_bitCount_0f7a4, Cond.initialized RJ6, Cond.code yJ6_bitCount_0f7a4 cJ6_bitCount_0f7a4 1 (some .int), Cond.constant RJ6 265 (1431655765), Cond.constant RJ6 266 (858993459), Cond.constant RJ6 267 (252645135), Cond.methodLink RX1 62 yX1_bears, Cond.instanceMethod yX1_bears, Cond.selects RX1 yX1_bears yX1_bears, Cond.code yX1_bears cX1_bears 9 (some .int), Cond.fieldLink RX1 28 "WoundMedals$Muster" "weight" "[I", Cond.fieldLink RX1 25 "WoundMedals$Muster" "kind" "[I", Cond.fieldLink RX1 31 "WoundMedals$Muster" "wound" "[I", Cond.static yX5_strengthNext, Cond.initialized RX5, Cond.code yX5_strengthNext cX5_strengthNext 3 (some .int), Cond.methodLink RX5 204 Lib.Math.max.name, Cond.static Lib.Math.max.name, Cond.initialized "java/lang/Math", Cond.code Lib.Math.max.name Lib.Math.max.code 2 (some .int)]
def wsX1_passDay_r3 : List Cond := [Cond.methodLink RX5 165 Lib.Math.min.name, Cond.static Lib.Math.min.name, Cond.code Lib.Math.min.name Lib.Math.min.code 2 (some .int)]
def wsX1_passDay : List Cond := .code yX1_passDay cX1_passDay 2 none :: ((wsX1_passDay_r1 ++ (wsX1_passDay_r2 ++ wsX1_passDay_r3)) ++ wsX10)
def wsX1_drawAndHang : List Cond := .code yX1_drawAndHang cX1_drawAndHang 1 none :: ([.fieldLink RX1 40 "WoundMedals$Muster" "draw" "I", .constantLong RX1 87 (1103515245), .constantLong RX1 89 (12345), .constantLong RX1 91 (2147483647), .fieldLink RX1 22 "WoundMedals$Muster" "medals" "I", .fieldLink RX1 9 "WoundMedals$Muster" "men" "I", .fieldLink RX1 34 "WoundMedals$Muster" "wearer" "[I", .constant RX1 93 (65536)] ++ wsX10)
def wsX2_init : List Cond := .code yX2_init cX2_init 1 none :: ([.methodLink RX2 5 objectInit, .instanceMethod objectInit, .code objectInit ⟨#[0xb1]⟩ 1 none, .classLink RX2 11 "[[I", .arrayClass .int, .fieldLink RX2 13 "WoundMedals$Past" "kept" "[[I", .fieldLink RX2 16 "WoundMedals$Past" "known" "I", .fieldLink RX2 20 "WoundMedals$Past" "next" "I"] ++ wsX20)
def wsX2_forget : List Cond := .code yX2_forget cX2_forget 1 none :: ([.fieldLink RX2 16 "WoundMedals$Past" "known" "I"] ++ wsX20)
def wsX2_keep : List Cond := .code yX2_keep cX2_keep 3 none :: ([.fieldLink RX2 13 "WoundMedals$Past" "kept" "[[I", .fieldLink RX2 20 "WoundMedals$Past" "next" "I", .fieldLink RX2 23 "WoundMedals$Muster" "strength" "[I", .methodLink RX2 29 arraycopyName, .native arraycopyName, .static arraycopyName, .initialized "java/lang/System", .fieldLink RX2 35 "WoundMedals$Muster" "weight" "[I", .fieldLink RX2 38 "WoundMedals$Muster" "wearer" "[I", .fieldLink RX2 41 "WoundMedals$Muster" "day" "I", .fieldLink RX2 44 "WoundMedals$Muster" "draw" "I", .fieldLink RX2 16 "WoundMedals$Past" "known" "I", .methodLink RX2 47 Lib.Math.min.name, .static Lib.Math.min.name, .initialized "java/lang/Math", .code Lib.Math.min.name Lib.Math.min.code 2 (some .int)] ++ wsX20 ++ wsX10)
def wsX2_giveBack : List Cond := .code yX2_giveBack cX2_giveBack 3 (some .boolean) :: ([.fieldLink RX2 16 "WoundMedals$Past" "known" "I", .fieldLink RX2 20 "WoundMedals$Past" "next" "I", .fieldLink RX2 13 "WoundMedals$Past" "kept" "[[I", .fieldLink RX2 23 "WoundMedals$Muster" "strength" "[I", .methodLink RX2 29 arraycopyName, .native arraycopyName, .static arraycopyName, .initialized "java/lang/System", .fieldLink RX2 35 "WoundMedals$Muster" "weight" "[I", .fieldLink RX2 38 "WoundMedals$Muster" "wearer" "[I", .fieldLink RX2 41 "WoundMedals$Muster" "day" "I", .fieldLink RX2 44 "WoundMedals$Muster" "draw" "I"] ++ wsX20 ++ wsX10)
def wsX2_take : List Cond := .code yX2_take cX2_take 3 none :: ([.fieldLink RX2 13 "WoundMedals$Past" "kept" "[[I", .methodLink RX2 29 arraycopyName, .native arraycopyName, .static arraycopyName, .initialized "java/lang/System", .fieldLink RX2 16 "WoundMedals$Past" "known" "I", .fieldLink RX2 20 "WoundMedals$Past" "next" "I"] ++ wsX20)
def wsX3_init : List Cond := .code yX3_init cX3_init 1 none :: ([.methodLink RX3 3 objectInit, .instanceMethod objectInit, .code objectInit ⟨#[0xb1]⟩ 1 none, .fieldLink RX3 9 "WoundMedals$Row" "isThere" "Z", .fieldLink RX3 15 "WoundMedals$Row" "lane" "I", .fieldLink RX3 19 "WoundMedals$Row" "length" "I", .arrayClass .long, .fieldLink RX3 22 "WoundMedals$Row" "items" "[J"] ++ wsX30)
def wsX3_begin : List Cond := .code yX3_begin cX3_begin 4 none :: ([.fieldLink RX3 9 "WoundMedals$Row" "isThere" "Z", .fieldLink RX3 15 "WoundMedals$Row" "lane" "I", .fieldLink RX3 19 "WoundMedals$Row" "length" "I", .fieldLink RX3 22 "WoundMedals$Row" "items" "[J"] ++ wsX30)
def wsX3_reaches : List Cond := .code yX3_reaches cX3_reaches 3 (some .boolean) :: ([.fieldLink RX3 19 "WoundMedals$Row" "length" "I"] ++ wsX30)
def wsX3_refuses : List Cond := .code yX3_refuses cX3_refuses 4 (some .int) :: ([.fieldLink RX3 9 "WoundMedals$Row" "isThere" "Z", .fieldLink RX3 15 "WoundMedals$Row" "lane" "I", .methodLink RX3 26 yX3_reaches, .instanceMethod yX3_reaches, .selects RX3 yX3_reaches yX3_reaches, .initialized RX3, .code yX3_reaches cX3_reaches 3 (some .boolean), .fieldLink RX3 19 "WoundMedals$Row" "length" "I"] ++ wsX30)
def wsX3_put : List Cond := .code yX3_put cX3_put 4 none :: ([.fieldLink RX3 15 "WoundMedals$Row" "lane" "I", .fieldLink RX3 22 "WoundMedals$Row" "items" "[J"] ++ wsX30)
def wsX4_init : List Cond := .code yX4_init cX4_init 1 none :: ([.methodLink RX4 3 objectInit, .instanceMethod objectInit, .code objectInit ⟨#[0xb1]⟩ 1 none, .arrayClass .char, .fieldLink RX4 9 "WoundMedals$Tape" "letters" "[C", .fieldLink RX4 15 "WoundMedals$Tape" "length" "I", .fieldLink RX4 19 "WoundMedals$Tape" "place" "I"] ++ wsX40)
def wsX4_add : List Cond := .code yX4_add cX4_add 2 (some .boolean) :: ([.fieldLink RX4 15 "WoundMedals$Tape" "length" "I", .fieldLink RX4 9 "WoundMedals$Tape" "letters" "[C"] ++ wsX40)
def wsX4_letterHere : List Cond := .code yX4_letterHere cX4_letterHere 1 (some .char) :: ([.fieldLink RX4 19 "WoundMedals$Tape" "place" "I", .fieldLink RX4 15 "WoundMedals$Tape" "length" "I", .fieldLink RX4 9 "WoundMedals$Tape" "letters" "[C"] ++ wsX40)
def wsX4_nextLetter : List Cond := .code yX4_nextLetter cX4_nextLetter 1 (some .char) :: ([.fieldLink RX4 19 "WoundMedals$Tape" "place" "I", .fieldLink RX4 15 "WoundMedals$Tape" "length" "I", .fieldLink RX4 9 "WoundMedals$Tape" "letters" "[C", .methodLink RX4 64 yX4_letterHere, .instanceMethod yX4_letterHere, .selects RX4 yX4_letterHere yX4_letterHere, .initialized RX4, .code yX4_letterHere cX4_letterHere 1 (some .char)] ++ wsX40)
def wsX4_isDigit : List Cond := .code yX4_isDigit cX4_isDigit 1 (some .boolean) :: ([])
def wsX4_readNumber : List Cond := .code yX4_readNumber cX4_readNumber 6 (some .int) :: ([.fieldLink RX4 19 "WoundMedals$Tape" "place" "I", .methodLink RX4 33 yX4_nextLetter, .instanceMethod yX4_nextLetter, .selects RX4 yX4_nextLetter yX4_nextLetter, .initialized RX4, .code yX4_nextLetter cX4_nextLetter 1 (some .char), .fieldLink RX4 15 "WoundMedals$Tape" "length" "I", .fieldLink RX4 9 "WoundMedals$Tape" "letters" "[C", .methodLink RX4 64 yX4_letterHere, .instanceMethod yX4_letterHere, .selects RX4 yX4_letterHere yX4_letterHere, .code yX4_letterHere cX4_letterHere 1 (some .char), .methodLink RX4 67 yX4_isDigit, .static yX4_isDigit, .code yX4_isDigit cX4_isDigit 1 (some .boolean)] ++ wsX40)
def wsX4_takes : List Cond := .code yX4_takes cX4_takes 2 (some .boolean) :: ([.fieldLink RX4 19 "WoundMedals$Tape" "place" "I", .methodLink RX4 33 yX4_nextLetter, .instanceMethod yX4_nextLetter, .selects RX4 yX4_nextLetter yX4_nextLetter, .initialized RX4, .code yX4_nextLetter cX4_nextLetter 1 (some .char), .fieldLink RX4 15 "WoundMedals$Tape" "length" "I", .fieldLink RX4 9 "WoundMedals$Tape" "letters" "[C", .methodLink RX4 64 yX4_letterHere, .instanceMethod yX4_letterHere, .selects RX4 yX4_letterHere yX4_letterHere, .code yX4_letterHere cX4_letterHere 1 (some .char)] ++ wsX40)
def wsX4_readMan_r1 : List Cond := [Cond.methodLink RX4 40 yX4_readNumber, Cond.instanceMethod yX4_readNumber, Cond.selects RX4 yX4_readNumber yX4_readNumber, Cond.initialized RX4, Cond.code yX4_readNumber cX4_readNumber 6 (some .int), Cond.fieldLink RX4 19 "WoundMedals$Tape" "place" "I", Cond.methodLink RX4 33 yX4_nextLetter, Cond.instanceMethod yX4_nextLetter, Cond.selects RX4 yX4_nextLetter yX4_nextLetter, Cond.code yX4_nextLetter cX4_nextLetter 1 (some .char), Cond.fieldLink RX4 15 "WoundMedals$Tape" "length" "I", Cond.fieldLink RX4 9 "WoundMedals$Tape" "letters" "[C", Cond.methodLink RX4 64 yX4_letterHere, Cond.instanceMethod yX4_letterHere, Cond.selects RX4 yX4_letterHere yX4_letterHere, Cond.code yX4_letterHere cX4_letterHere 1 (some .char), Cond.methodLink RX4 67 yX4_isDigit, Cond.static yX4_isDigit, Cond.code yX4_isDigit cX4_isDigit 1 (some .boolean), Cond.methodLink RX4 26 yX4_takes, Cond.instanceMethod yX4_takes, Cond.selects RX4 yX4_takes yX4_takes, Cond.code yX4_takes cX4_takes 2 (some .boolean), Cond.methodLink RX4 44 yX1_addMan]
def wsX4_readMan_r2 : List Cond := [Cond.instanceMethod yX1_addMan, Cond.selects RX1 yX1_addMan yX1_addMan, Cond.initialized RX1, Cond.code yX1_addMan cX1_addMan 3 (some .int), Cond.fieldLink RX1 9 "WoundMedals$Muster" "men" "I", Cond.fieldLink RX1 15 "WoundMedals$Muster" "build" "[I", Cond.fieldLink RX1 19 "WoundMedals$Muster" "strength" "[I"]
def wsX4_readMan : List Cond := .code yX4_readMan cX4_readMan 4 (some .boolean) :: ((wsX4_readMan_r1 ++ wsX4_readMan_r2) ++ wsX40 ++ wsX10)
def wsX4_readMen_r1 : List Cond := [Cond.methodLink RX4 37 yX4_readMan, Cond.instanceMethod yX4_readMan, Cond.selects RX4 yX4_readMan yX4_readMan, Cond.initialized RX4, Cond.code yX4_readMan cX4_readMan 4 (some .boolean), Cond.methodLink RX4 40 yX4_readNumber, Cond.instanceMethod yX4_readNumber, Cond.selects RX4 yX4_readNumber yX4_readNumber, Cond.code yX4_readNumber cX4_readNumber 6 (some .int), Cond.fieldLink RX4 19 "WoundMedals$Tape" "place" "I", Cond.methodLink RX4 33 yX4_nextLetter, Cond.instanceMethod yX4_nextLetter, Cond.selects RX4 yX4_nextLetter yX4_nextLetter, Cond.code yX4_nextLetter cX4_nextLetter 1 (some .char), Cond.fieldLink RX4 15 "WoundMedals$Tape" "length" "I", Cond.fieldLink RX4 9 "WoundMedals$Tape" "letters" "[C", Cond.methodLink RX4 64 yX4_letterHere, Cond.instanceMethod yX4_letterHere, Cond.selects RX4 yX4_letterHere yX4_letterHere, Cond.code yX4_letterHere cX4_letterHere 1 (some .char), Cond.methodLink RX4 67 yX4_isDigit, Cond.static yX4_isDigit, Cond.code yX4_isDigit cX4_isDigit 1 (some .boolean), Cond.methodLink RX4 26 yX4_takes]
def wsX4_readMen_r2 : List Cond := [Cond.instanceMethod yX4_takes, Cond.selects RX4 yX4_takes yX4_takes, Cond.code yX4_takes cX4_takes 2 (some .boolean), Cond.methodLink RX4 44 yX1_addMan, Cond.instanceMethod yX1_addMan, Cond.selects RX1 yX1_addMan yX1_addMan, Cond.initialized RX1, Cond.code yX1_addMan cX1_addMan 3 (some .int), Cond.fieldLink RX1 9 "WoundMedals$Muster" "men" "I", Cond.fieldLink RX1 15 "WoundMedals$Muster" "build" "[I", Cond.fieldLink RX1 19 "WoundMedals$Muster" "strength" "[I"]
def wsX4_readMen : List Cond := .code yX4_readMen cX4_readMen 3 (some .boolean) :: ((wsX4_readMen_r1 ++ wsX4_readMen_r2) ++ wsX40 ++ wsX10)
def wsX4_kindOf : List Cond := .code yX4_kindOf cX4_kindOf 1 (some .int) :: ([])
def wsX4_readManOf : List Cond := .code yX4_readManOf cX4_readManOf 3 (some .int) :: ([.fieldLink RX4 19 "WoundMedals$Tape" "place" "I", .methodLink RX4 33 yX4_nextLetter, .instanceMethod yX4_nextLetter, .selects RX4 yX4_nextLetter yX4_nextLetter, .initialized RX4, .code yX4_nextLetter cX4_nextLetter 1 (some .char), .fieldLink RX4 15 "WoundMedals$Tape" "length" "I", .fieldLink RX4 9 "WoundMedals$Tape" "letters" "[C", .methodLink RX4 64 yX4_letterHere, .instanceMethod yX4_letterHere, .selects RX4 yX4_letterHere yX4_letterHere, .code yX4_letterHere cX4_letterHere 1 (some .char), .methodLink RX4 67 yX4_isDigit, .static yX4_isDigit, .code yX4_isDigit cX4_isDigit 1 (some .boolean), .methodLink RX4 70 yX1_hasMan, .instanceMethod yX1_hasMan, .selects RX1 yX1_hasMan yX1_hasMan, .initialized RX1, .code yX1_hasMan cX1_hasMan 2 (some .boolean), .fieldLink RX1 9 "WoundMedals$Muster" "men" "I"] ++ wsX40 ++ wsX10)
def wsX4_readMedal_r1 : List Cond := [Cond.fieldLink RX4 19 "WoundMedals$Tape" "place" "I", Cond.methodLink RX4 33 yX4_nextLetter, Cond.instanceMethod yX4_nextLetter, Cond.selects RX4 yX4_nextLetter yX4_nextLetter, Cond.initialized RX4, Cond.code yX4_nextLetter cX4_nextLetter 1 (some .char), Cond.fieldLink RX4 15 "WoundMedals$Tape" "length" "I", Cond.fieldLink RX4 9 "WoundMedals$Tape" "letters" "[C", Cond.methodLink RX4 64 yX4_letterHere, Cond.instanceMethod yX4_letterHere, Cond.selects RX4 yX4_letterHere yX4_letterHere, Cond.code yX4_letterHere cX4_letterHere 1 (some .char), Cond.methodLink RX4 52 yX4_kindOf, Cond.static yX4_kindOf, Cond.code yX4_kindOf cX4_kindOf 1 (some .int), Cond.methodLink RX4 40 yX4_readNumber, Cond.instanceMethod yX4_readNumber, Cond.selects RX4 yX4_readNumber yX4_readNumber, Cond.code yX4_readNumber cX4_readNumber 6 (some .int), Cond.methodLink RX4 67 yX4_isDigit, Cond.static yX4_isDigit, Cond.code yX4_isDigit cX4_isDigit 1 (some .boolean), Cond.methodLink RX4 26 yX4_takes, Cond.instanceMethod yX4_takes]
def wsX4_readMedal_r2 : List Cond := [Cond.selects RX4 yX4_takes yX4_takes, Cond.code yX4_takes cX4_takes 2 (some .boolean), Cond.methodLink RX4 56 yX4_readManOf, Cond.instanceMethod yX4_readManOf, Cond.selects RX4 yX4_readManOf yX4_readManOf, Cond.code yX4_readManOf cX4_readManOf 3 (some .int), Cond.methodLink RX4 70 yX1_hasMan, Cond.instanceMethod yX1_hasMan, Cond.selects RX1 yX1_hasMan yX1_hasMan, Cond.initialized RX1, Cond.code yX1_hasMan cX1_hasMan 2 (some .boolean), Cond.fieldLink RX1 9 "WoundMedals$Muster" "men" "I", Cond.methodLink RX4 60 yX1_addMedal, Cond.instanceMethod yX1_addMedal, Cond.selects RX1 yX1_addMedal yX1_addMedal, Cond.code yX1_addMedal cX1_addMedal 5 (some .int), Cond.fieldLink RX1 22 "WoundMedals$Muster" "medals" "I", Cond.fieldLink RX1 25 "WoundMedals$Muster" "kind" "[I", Cond.fieldLink RX1 28 "WoundMedals$Muster" "weight" "[I", Cond.fieldLink RX1 31 "WoundMedals$Muster" "wound" "[I", Cond.fieldLink RX1 34 "WoundMedals$Muster" "wearer" "[I"]
def wsX4_readMedal : List Cond := .code yX4_readMedal cX4_readMedal 6 (some .boolean) :: ((wsX4_readMedal_r1 ++ wsX4_readMedal_r2) ++ wsX40 ++ wsX10)
def wsX4_readMedals_r1 : List Cond := [Cond.methodLink RX4 49 yX4_readMedal, Cond.instanceMethod yX4_readMedal, Cond.selects RX4 yX4_readMedal yX4_readMedal, Cond.initialized RX4, Cond.code yX4_readMedal cX4_readMedal 6 (some .boolean), Cond.fieldLink RX4 19 "WoundMedals$Tape" "place" "I", Cond.methodLink RX4 33 yX4_nextLetter, Cond.instanceMethod yX4_nextLetter, Cond.selects RX4 yX4_nextLetter yX4_nextLetter, Cond.code yX4_nextLetter cX4_nextLetter 1 (some .char), Cond.fieldLink RX4 15 "WoundMedals$Tape" "length" "I", Cond.fieldLink RX4 9 "WoundMedals$Tape" "letters" "[C", Cond.methodLink RX4 64 yX4_letterHere, Cond.instanceMethod yX4_letterHere, Cond.selects RX4 yX4_letterHere yX4_letterHere, Cond.code yX4_letterHere cX4_letterHere 1 (some .char), Cond.methodLink RX4 52 yX4_kindOf, Cond.static yX4_kindOf, Cond.code yX4_kindOf cX4_kindOf 1 (some .int), Cond.methodLink RX4 40 yX4_readNumber, Cond.instanceMethod yX4_readNumber, Cond.selects RX4 yX4_readNumber yX4_readNumber, Cond.code yX4_readNumber cX4_readNumber 6 (some .int), Cond.methodLink RX4 67 yX4_isDigit]
def wsX4_readMedals_r2 : List Cond := [Cond.static yX4_isDigit, Cond.code yX4_isDigit cX4_isDigit 1 (some .boolean), Cond.methodLink RX4 26 yX4_takes, Cond.instanceMethod yX4_takes, Cond.selects RX4 yX4_takes yX4_takes, Cond.code yX4_takes cX4_takes 2 (some .boolean), Cond.methodLink RX4 56 yX4_readManOf, Cond.instanceMethod yX4_readManOf, Cond.selects RX4 yX4_readManOf yX4_readManOf, Cond.code yX4_readManOf cX4_readManOf 3 (some .int), Cond.methodLink RX4 70 yX1_hasMan, Cond.instanceMethod yX1_hasMan, Cond.selects RX1 yX1_hasMan yX1_hasMan, Cond.initialized RX1, Cond.code yX1_hasMan cX1_hasMan 2 (some .boolean), Cond.fieldLink RX1 9 "WoundMedals$Muster" "men" "I", Cond.methodLink RX4 60 yX1_addMedal, Cond.instanceMethod yX1_addMedal, Cond.selects RX1 yX1_addMedal yX1_addMedal, Cond.code yX1_addMedal cX1_addMedal 5 (some .int), Cond.fieldLink RX1 22 "WoundMedals$Muster" "medals" "I", Cond.fieldLink RX1 25 "WoundMedals$Muster" "kind" "[I", Cond.fieldLink RX1 28 "WoundMedals$Muster" "weight" "[I", Cond.fieldLink RX1 31 "WoundMedals$Muster" "wound" "[I"]
def wsX4_readMedals_r3 : List Cond := [Cond.fieldLink RX1 34 "WoundMedals$Muster" "wearer" "[I"]
def wsX4_readMedals : List Cond := .code yX4_readMedals cX4_readMedals 3 (some .boolean) :: ((wsX4_readMedals_r1 ++ (wsX4_readMedals_r2 ++ wsX4_readMedals_r3)) ++ wsX40 ++ wsX10)
def wsX4_readState_r1 : List Cond := [Cond.fieldLink RX4 19 "WoundMedals$Tape" "place" "I", Cond.methodLink RX4 22 yX4_readMen, Cond.instanceMethod yX4_readMen, Cond.selects RX4 yX4_readMen yX4_readMen, Cond.initialized RX4, Cond.code yX4_readMen cX4_readMen 3 (some .boolean), Cond.methodLink RX4 37 yX4_readMan, Cond.instanceMethod yX4_readMan, Cond.selects RX4 yX4_readMan yX4_readMan, Cond.code yX4_readMan cX4_readMan 4 (some .boolean), Cond.methodLink RX4 40 yX4_readNumber, Cond.instanceMethod yX4_readNumber, Cond.selects RX4 yX4_readNumber yX4_readNumber, Cond.code yX4_readNumber cX4_readNumber 6 (some .int), Cond.methodLink RX4 33 yX4_nextLetter, Cond.instanceMethod yX4_nextLetter, Cond.selects RX4 yX4_nextLetter yX4_nextLetter, Cond.code yX4_nextLetter cX4_nextLetter 1 (some .char), Cond.fieldLink RX4 15 "WoundMedals$Tape" "length" "I", Cond.fieldLink RX4 9 "WoundMedals$Tape" "letters" "[C", Cond.methodLink RX4 64 yX4_letterHere, Cond.instanceMethod yX4_letterHere, Cond.selects RX4 yX4_letterHere yX4_letterHere, Cond.code yX4_letterHere cX4_letterHere 1 (some .char)]
def wsX4_readState_r2 : List Cond := [Cond.methodLink RX4 67 yX4_isDigit, Cond.static yX4_isDigit, Cond.code yX4_isDigit cX4_isDigit 1 (some .boolean), Cond.methodLink RX4 26 yX4_takes, Cond.instanceMethod yX4_takes, Cond.selects RX4 yX4_takes yX4_takes, Cond.code yX4_takes cX4_takes 2 (some .boolean), Cond.methodLink RX4 44 yX1_addMan, Cond.instanceMethod yX1_addMan, Cond.selects RX1 yX1_addMan yX1_addMan, Cond.initialized RX1, Cond.code yX1_addMan cX1_addMan 3 (some .int), Cond.fieldLink RX1 9 "WoundMedals$Muster" "men" "I", Cond.fieldLink RX1 15 "WoundMedals$Muster" "build" "[I", Cond.fieldLink RX1 19 "WoundMedals$Muster" "strength" "[I", Cond.methodLink RX4 30 yX4_readMedals, Cond.instanceMethod yX4_readMedals, Cond.selects RX4 yX4_readMedals yX4_readMedals, Cond.code yX4_readMedals cX4_readMedals 3 (some .boolean), Cond.methodLink RX4 49 yX4_readMedal, Cond.instanceMethod yX4_readMedal, Cond.selects RX4 yX4_readMedal yX4_readMedal, Cond.code yX4_readMedal cX4_readMedal 6 (some .boolean), Cond.methodLink RX4 52 yX4_kindOf]
def wsX4_readState_r3 : List Cond := [Cond.static yX4_kindOf, Cond.code yX4_kindOf cX4_kindOf 1 (some .int), Cond.methodLink RX4 56 yX4_readManOf, Cond.instanceMethod yX4_readManOf, Cond.selects RX4 yX4_readManOf yX4_readManOf, Cond.code yX4_readManOf cX4_readManOf 3 (some .int), Cond.methodLink RX4 70 yX1_hasMan, Cond.instanceMethod yX1_hasMan, Cond.selects RX1 yX1_hasMan yX1_hasMan, Cond.code yX1_hasMan cX1_hasMan 2 (some .boolean), Cond.methodLink RX4 60 yX1_addMedal, Cond.instanceMethod yX1_addMedal, Cond.selects RX1 yX1_addMedal yX1_addMedal, Cond.code yX1_addMedal cX1_addMedal 5 (some .int), Cond.fieldLink RX1 22 "WoundMedals$Muster" "medals" "I", Cond.fieldLink RX1 25 "WoundMedals$Muster" "kind" "[I", Cond.fieldLink RX1 28 "WoundMedals$Muster" "weight" "[I", Cond.fieldLink RX1 31 "WoundMedals$Muster" "wound" "[I", Cond.fieldLink RX1 34 "WoundMedals$Muster" "wearer" "[I"]
def wsX4_readState : List Cond := .code yX4_readState cX4_readState 2 (some .boolean) :: ((wsX4_readState_r1 ++ (wsX4_readState_r2 ++ wsX4_readState_r3)) ++ wsX40 ++ wsX10)
def wsX5_init_r1 : List Cond := [Cond.methodLink RX5 1 objectInit, Cond.instanceMethod objectInit, Cond.code objectInit ⟨#[0xb1]⟩ 1 none, Cond.classLink RX5 7 RX1, Cond.instantiable RX1 10, Cond.initialized RX1, Cond.fieldLink RX5 10 "WoundMedals" "now" "LWoundMedals$Muster;", Cond.classLink RX5 16 RX2, Cond.instantiable RX2 3, Cond.initialized RX2, Cond.fieldLink RX5 19 "WoundMedals" "past" "LWoundMedals$Past;", Cond.fieldLink RX5 23 "WoundMedals" "imageOfNow" "LWoundMedals$Muster;", Cond.fieldLink RX5 26 "WoundMedals" "imageOfPast" "LWoundMedals$Past;", Cond.fieldLink RX5 29 "WoundMedals" "hasImage" "Z", Cond.fieldLink RX5 33 "WoundMedals" "trial" "LWoundMedals$Muster;", Cond.classLink RX5 36 RX4, Cond.instantiable RX4 3, Cond.initialized RX4, Cond.fieldLink RX5 39 "WoundMedals" "tape" "LWoundMedals$Tape;", Cond.classLink RX5 43 RX0, Cond.instantiable RX0 9, Cond.initialized RX0, Cond.fieldLink RX5 48 "WoundMedals" "hanging" "LWoundMedals$Hanging;", Cond.classLink RX5 52 RX3]
def wsX5_init_r2 : List Cond := [Cond.fieldLink RX5 54 "WoundMedals" "rows" "[LWoundMedals$Row;", Cond.instantiable RX3 4, Cond.initialized RX3, Cond.instanceMethod yX1_init, Cond.code yX1_init cX1_init 1 none, Cond.methodLink RX1 3 objectInit, Cond.fieldLink RX1 9 "WoundMedals$Muster" "men" "I", Cond.arrayClass .int, Cond.fieldLink RX1 15 "WoundMedals$Muster" "build" "[I", Cond.fieldLink RX1 19 "WoundMedals$Muster" "strength" "[I", Cond.fieldLink RX1 22 "WoundMedals$Muster" "medals" "I", Cond.fieldLink RX1 25 "WoundMedals$Muster" "kind" "[I", Cond.fieldLink RX1 28 "WoundMedals$Muster" "weight" "[I", Cond.fieldLink RX1 31 "WoundMedals$Muster" "wound" "[I", Cond.fieldLink RX1 34 "WoundMedals$Muster" "wearer" "[I", Cond.fieldLink RX1 37 "WoundMedals$Muster" "day" "I", Cond.fieldLink RX1 40 "WoundMedals$Muster" "draw" "I", Cond.instanceMethod yX2_init, Cond.code yX2_init cX2_init 1 none, Cond.methodLink RX2 5 objectInit, Cond.classLink RX2 11 "[[I", Cond.fieldLink RX2 13 "WoundMedals$Past" "kept" "[[I", Cond.fieldLink RX2 16 "WoundMedals$Past" "known" "I", Cond.fieldLink RX2 20 "WoundMedals$Past" "next" "I"]
def wsX5_init_r3 : List Cond := [Cond.instanceMethod yX4_init, Cond.code yX4_init cX4_init 1 none, Cond.methodLink RX4 3 objectInit, Cond.arrayClass .char, Cond.fieldLink RX4 9 "WoundMedals$Tape" "letters" "[C", Cond.fieldLink RX4 15 "WoundMedals$Tape" "length" "I", Cond.fieldLink RX4 19 "WoundMedals$Tape" "place" "I", Cond.methodLink RX5 45 yX0_init, Cond.instanceMethod yX0_init, Cond.code yX0_init cX0_init 2 none, Cond.methodLink RX0 3 objectInit, Cond.classLink RX0 9 "[[I", Cond.fieldLink RX0 11 "WoundMedals$Hanging" "loads" "[[I", Cond.fieldLink RX0 16 "WoundMedals$Hanging" "worn" "I", Cond.fieldLink RX0 20 "WoundMedals$Hanging" "setOf" "[I", Cond.fieldLink RX0 24 "WoundMedals$Hanging" "tried" "[I", Cond.fieldLink RX0 27 "WoundMedals$Hanging" "best" "[I", Cond.fieldLink RX0 30 "WoundMedals$Hanging" "waysOfSet" "[I", Cond.fieldLink RX0 33 "WoundMedals$Hanging" "wantsFew" "Z", Cond.fieldLink RX0 37 "WoundMedals$Hanging" "bestCost" "I", Cond.fieldLink RX0 40 "WoundMedals$Hanging" "muster" "LWoundMedals$Muster;", Cond.instanceMethod yX3_init, Cond.code yX3_init cX3_init 1 none, Cond.methodLink RX3 3 objectInit]
def wsX5_init_r4 : List Cond := [Cond.fieldLink RX3 9 "WoundMedals$Row" "isThere" "Z", Cond.fieldLink RX3 15 "WoundMedals$Row" "lane" "I", Cond.fieldLink RX3 19 "WoundMedals$Row" "length" "I", Cond.arrayClass .long, Cond.fieldLink RX3 22 "WoundMedals$Row" "items" "[J"]
def wsX5_init : List Cond := .code yX5_init cX5_init 2 none :: ((wsX5_init_r1 ++ (wsX5_init_r2 ++ (wsX5_init_r3 ++ wsX5_init_r4))) ++ wsX10 ++ wsX50 ++ wsX20 ++ wsX40 ++ wsX00 ++ wsX30)
def wsX5_man : List Cond := .code yX5_man cX5_man 2 (some .int) :: ([.fieldLink RX5 10 "WoundMedals" "now" "LWoundMedals$Muster;", .fieldLink RX5 59 "WoundMedals$Muster" "men" "I", .fieldLink RX5 19 "WoundMedals" "past" "LWoundMedals$Past;", .methodLink RX5 63 yX2_forget, .instanceMethod yX2_forget, .selects RX2 yX2_forget yX2_forget, .initialized RX2, .code yX2_forget cX2_forget 1 none, .fieldLink RX2 16 "WoundMedals$Past" "known" "I", .methodLink RX5 66 yX1_addMan, .instanceMethod yX1_addMan, .selects RX1 yX1_addMan yX1_addMan, .initialized RX1, .code yX1_addMan cX1_addMan 3 (some .int), .fieldLink RX1 9 "WoundMedals$Muster" "men" "I", .fieldLink RX1 15 "WoundMedals$Muster" "build" "[I", .fieldLink RX1 19 "WoundMedals$Muster" "strength" "[I"] ++ wsX50 ++ wsX10 ++ wsX20)
def wsX5_medal : List Cond := .code yX5_medal cX5_medal 4 (some .int) :: ([.fieldLink RX5 10 "WoundMedals" "now" "LWoundMedals$Muster;", .fieldLink RX5 74 "WoundMedals$Muster" "medals" "I", .fieldLink RX5 19 "WoundMedals" "past" "LWoundMedals$Past;", .methodLink RX5 70 yX1_hasMan, .instanceMethod yX1_hasMan, .selects RX1 yX1_hasMan yX1_hasMan, .initialized RX1, .code yX1_hasMan cX1_hasMan 2 (some .boolean), .fieldLink RX1 9 "WoundMedals$Muster" "men" "I", .methodLink RX5 63 yX2_forget, .instanceMethod yX2_forget, .selects RX2 yX2_forget yX2_forget, .initialized RX2, .code yX2_forget cX2_forget 1 none, .fieldLink RX2 16 "WoundMedals$Past" "known" "I", .methodLink RX5 77 yX1_addMedal, .instanceMethod yX1_addMedal, .selects RX1 yX1_addMedal yX1_addMedal, .code yX1_addMedal cX1_addMedal 5 (some .int), .fieldLink RX1 22 "WoundMedals$Muster" "medals" "I", .fieldLink RX1 25 "WoundMedals$Muster" "kind" "[I", .fieldLink RX1 28 "WoundMedals$Muster" "weight" "[I", .fieldLink RX1 31 "WoundMedals$Muster" "wound" "[I", .fieldLink RX1 34 "WoundMedals$Muster" "wearer" "[I"] ++ wsX50 ++ wsX10 ++ wsX20)
def wsX5_of_r1 : List Cond := [Cond.fieldLink RX5 10 "WoundMedals" "now" "LWoundMedals$Muster;", Cond.fieldLink RX5 81 "WoundMedals$Muster" "build" "[I", Cond.fieldLink RX5 85 "WoundMedals$Muster" "strength" "[I", Cond.fieldLink RX5 88 "WoundMedals$Muster" "day" "I", Cond.methodLink RX5 70 yX1_hasMan, Cond.instanceMethod yX1_hasMan, Cond.selects RX1 yX1_hasMan yX1_hasMan, Cond.initialized RX1, Cond.code yX1_hasMan cX1_hasMan 2 (some .boolean), Cond.fieldLink RX1 9 "WoundMedals$Muster" "men" "I", Cond.methodLink RX5 91 yX1_loadOn, Cond.instanceMethod yX1_loadOn, Cond.selects RX1 yX1_loadOn yX1_loadOn, Cond.code yX1_loadOn cX1_loadOn 3 (some .int), Cond.methodLink RX1 53 yX1_wornBy, Cond.instanceMethod yX1_wornBy, Cond.selects RX1 yX1_wornBy yX1_wornBy, Cond.code yX1_wornBy cX1_wornBy 2 (some .int), Cond.fieldLink RX1 34 "WoundMedals$Muster" "wearer" "[I", Cond.methodLink RX1 49 yX1_medalsWith, Cond.instanceMethod yX1_medalsWith, Cond.selects RX1 yX1_medalsWith yX1_medalsWith, Cond.code yX1_medalsWith cX1_medalsWith 5 (some .int), Cond.fieldLink RX1 22 "WoundMedals$Muster" "medals" "I"]
def wsX5_of_r2 : List Cond := [Cond.methodLink RX1 66 yX1_loadOfSet, Cond.instanceMethod yX1_loadOfSet, Cond.selects RX1 yX1_loadOfSet yX1_loadOfSet, Cond.code yX1_loadOfSet cX1_loadOfSet 7 (some .int), Cond.methodLink RX1 57 yJ6_bitCount_0f7a4, Cond.static yJ6_bitCount_0f7a4, Cond.initialized RJ6, Cond.code yJ6_bitCount_0f7a4 cJ6_bitCount_0f7a4 1 (some .int), Cond.constant RJ6 265 (1431655765), Cond.constant RJ6 266 (858993459), Cond.constant RJ6 267 (252645135), Cond.methodLink RX1 62 yX1_bears, Cond.instanceMethod yX1_bears, Cond.selects RX1 yX1_bears yX1_bears, Cond.code yX1_bears cX1_bears 9 (some .int), Cond.fieldLink RX1 28 "WoundMedals$Muster" "weight" "[I", Cond.fieldLink RX1 25 "WoundMedals$Muster" "kind" "[I", Cond.fieldLink RX1 31 "WoundMedals$Muster" "wound" "[I", Cond.methodLink RX5 94 yX1_isBent, Cond.instanceMethod yX1_isBent, Cond.selects RX1 yX1_isBent yX1_isBent, Cond.code yX1_isBent cX1_isBent 2 (some .boolean), Cond.fieldLink RX1 37 "WoundMedals$Muster" "day" "I", Cond.fieldLink RX1 19 "WoundMedals$Muster" "strength" "[I"]
def wsX5_of_r3 : List Cond := [Cond.methodLink RX1 70 yX1_loadOn, Cond.methodLink RX5 97 yX1_wornBy, Cond.methodLink RX5 101 yX1_woundsOf, Cond.instanceMethod yX1_woundsOf, Cond.selects RX1 yX1_woundsOf yX1_woundsOf, Cond.code yX1_woundsOf cX1_woundsOf 2 (some .int)]
def wsX5_of : List Cond := .code yX5_of cX5_of 3 (some .int) :: ((wsX5_of_r1 ++ (wsX5_of_r2 ++ wsX5_of_r3)) ++ wsX50 ++ wsX10)
def wsX5_at_r1 : List Cond := [Cond.fieldLink RX5 10 "WoundMedals" "now" "LWoundMedals$Muster;", Cond.fieldLink RX5 107 "WoundMedals$Muster" "kind" "[I", Cond.fieldLink RX5 110 "WoundMedals$Muster" "weight" "[I", Cond.fieldLink RX5 113 "WoundMedals$Muster" "wound" "[I", Cond.fieldLink RX5 116 "WoundMedals$Muster" "wearer" "[I", Cond.methodLink RX5 104 yX1_hasMedal, Cond.instanceMethod yX1_hasMedal, Cond.selects RX1 yX1_hasMedal yX1_hasMedal, Cond.initialized RX1, Cond.code yX1_hasMedal cX1_hasMedal 2 (some .boolean), Cond.fieldLink RX1 22 "WoundMedals$Muster" "medals" "I", Cond.methodLink RX5 119 yX1_bearsNow, Cond.instanceMethod yX1_bearsNow, Cond.selects RX1 yX1_bearsNow yX1_bearsNow, Cond.code yX1_bearsNow cX1_bearsNow 3 (some .int), Cond.fieldLink RX1 34 "WoundMedals$Muster" "wearer" "[I", Cond.fieldLink RX1 37 "WoundMedals$Muster" "day" "I", Cond.methodLink RX1 53 yX1_wornBy, Cond.instanceMethod yX1_wornBy, Cond.selects RX1 yX1_wornBy yX1_wornBy, Cond.code yX1_wornBy cX1_wornBy 2 (some .int), Cond.methodLink RX1 49 yX1_medalsWith, Cond.instanceMethod yX1_medalsWith, Cond.selects RX1 yX1_medalsWith yX1_medalsWith]
def wsX5_at_r2 : List Cond := [Cond.code yX1_medalsWith cX1_medalsWith 5 (some .int), Cond.methodLink RX1 57 yJ6_bitCount_0f7a4, Cond.static yJ6_bitCount_0f7a4, Cond.initialized RJ6, Cond.code yJ6_bitCount_0f7a4 cJ6_bitCount_0f7a4 1 (some .int), Cond.constant RJ6 265 (1431655765), Cond.constant RJ6 266 (858993459), Cond.constant RJ6 267 (252645135), Cond.methodLink RX1 62 yX1_bears, Cond.instanceMethod yX1_bears, Cond.selects RX1 yX1_bears yX1_bears, Cond.code yX1_bears cX1_bears 9 (some .int), Cond.fieldLink RX1 28 "WoundMedals$Muster" "weight" "[I", Cond.fieldLink RX1 25 "WoundMedals$Muster" "kind" "[I", Cond.fieldLink RX1 31 "WoundMedals$Muster" "wound" "[I"]
def wsX5_at : List Cond := .code yX5_at cX5_at 3 (some .int) :: ((wsX5_at_r1 ++ wsX5_at_r2) ++ wsX50 ++ wsX10)
def wsX5_type : List Cond := .code yX5_type cX5_type 2 (some .int) :: ([.fieldLink RX5 39 "WoundMedals" "tape" "LWoundMedals$Tape;", .fieldLink RX5 126 "WoundMedals$Tape" "length" "I", .methodLink RX5 122 yX4_add, .instanceMethod yX4_add, .selects RX4 yX4_add yX4_add, .initialized RX4, .code yX4_add cX4_add 2 (some .boolean), .fieldLink RX4 15 "WoundMedals$Tape" "length" "I", .fieldLink RX4 9 "WoundMedals$Tape" "letters" "[C"] ++ wsX50 ++ wsX40)
def wsX5_state_r1 : List Cond := [Cond.fieldLink RX5 33 "WoundMedals" "trial" "LWoundMedals$Muster;", Cond.fieldLink RX5 10 "WoundMedals" "now" "LWoundMedals$Muster;", Cond.fieldLink RX5 132 "WoundMedals$Muster" "draw" "I", Cond.fieldLink RX5 39 "WoundMedals" "tape" "LWoundMedals$Tape;", Cond.fieldLink RX5 139 "WoundMedals$Tape" "place" "I", Cond.fieldLink RX5 126 "WoundMedals$Tape" "length" "I", Cond.fieldLink RX5 19 "WoundMedals" "past" "LWoundMedals$Past;", Cond.fieldLink RX5 59 "WoundMedals$Muster" "men" "I", Cond.methodLink RX5 129 yX1_clear, Cond.instanceMethod yX1_clear, Cond.selects RX1 yX1_clear yX1_clear, Cond.initialized RX1, Cond.code yX1_clear cX1_clear 1 none, Cond.fieldLink RX1 9 "WoundMedals$Muster" "men" "I", Cond.fieldLink RX1 22 "WoundMedals$Muster" "medals" "I", Cond.fieldLink RX1 37 "WoundMedals$Muster" "day" "I", Cond.methodLink RX5 135 yX4_readState, Cond.instanceMethod yX4_readState, Cond.selects RX4 yX4_readState yX4_readState, Cond.initialized RX4, Cond.code yX4_readState cX4_readState 2 (some .boolean), Cond.fieldLink RX4 19 "WoundMedals$Tape" "place" "I", Cond.methodLink RX4 22 yX4_readMen, Cond.instanceMethod yX4_readMen]
def wsX5_state_r2 : List Cond := [Cond.selects RX4 yX4_readMen yX4_readMen, Cond.code yX4_readMen cX4_readMen 3 (some .boolean), Cond.methodLink RX4 37 yX4_readMan, Cond.instanceMethod yX4_readMan, Cond.selects RX4 yX4_readMan yX4_readMan, Cond.code yX4_readMan cX4_readMan 4 (some .boolean), Cond.methodLink RX4 40 yX4_readNumber, Cond.instanceMethod yX4_readNumber, Cond.selects RX4 yX4_readNumber yX4_readNumber, Cond.code yX4_readNumber cX4_readNumber 6 (some .int), Cond.methodLink RX4 33 yX4_nextLetter, Cond.instanceMethod yX4_nextLetter, Cond.selects RX4 yX4_nextLetter yX4_nextLetter, Cond.code yX4_nextLetter cX4_nextLetter 1 (some .char), Cond.fieldLink RX4 15 "WoundMedals$Tape" "length" "I", Cond.fieldLink RX4 9 "WoundMedals$Tape" "letters" "[C", Cond.methodLink RX4 64 yX4_letterHere, Cond.instanceMethod yX4_letterHere, Cond.selects RX4 yX4_letterHere yX4_letterHere, Cond.code yX4_letterHere cX4_letterHere 1 (some .char), Cond.methodLink RX4 67 yX4_isDigit, Cond.static yX4_isDigit, Cond.code yX4_isDigit cX4_isDigit 1 (some .boolean), Cond.methodLink RX4 26 yX4_takes]
def wsX5_state_r3 : List Cond := [Cond.instanceMethod yX4_takes, Cond.selects RX4 yX4_takes yX4_takes, Cond.code yX4_takes cX4_takes 2 (some .boolean), Cond.methodLink RX4 44 yX1_addMan, Cond.instanceMethod yX1_addMan, Cond.selects RX1 yX1_addMan yX1_addMan, Cond.code yX1_addMan cX1_addMan 3 (some .int), Cond.fieldLink RX1 15 "WoundMedals$Muster" "build" "[I", Cond.fieldLink RX1 19 "WoundMedals$Muster" "strength" "[I", Cond.methodLink RX4 30 yX4_readMedals, Cond.instanceMethod yX4_readMedals, Cond.selects RX4 yX4_readMedals yX4_readMedals, Cond.code yX4_readMedals cX4_readMedals 3 (some .boolean), Cond.methodLink RX4 49 yX4_readMedal, Cond.instanceMethod yX4_readMedal, Cond.selects RX4 yX4_readMedal yX4_readMedal, Cond.code yX4_readMedal cX4_readMedal 6 (some .boolean), Cond.methodLink RX4 52 yX4_kindOf, Cond.static yX4_kindOf, Cond.code yX4_kindOf cX4_kindOf 1 (some .int), Cond.methodLink RX4 56 yX4_readManOf, Cond.instanceMethod yX4_readManOf, Cond.selects RX4 yX4_readManOf yX4_readManOf, Cond.code yX4_readManOf cX4_readManOf 3 (some .int)]
def wsX5_state_r4 : List Cond := [Cond.methodLink RX4 70 yX1_hasMan, Cond.instanceMethod yX1_hasMan, Cond.selects RX1 yX1_hasMan yX1_hasMan, Cond.code yX1_hasMan cX1_hasMan 2 (some .boolean), Cond.methodLink RX4 60 yX1_addMedal, Cond.instanceMethod yX1_addMedal, Cond.selects RX1 yX1_addMedal yX1_addMedal, Cond.code yX1_addMedal cX1_addMedal 5 (some .int), Cond.fieldLink RX1 25 "WoundMedals$Muster" "kind" "[I", Cond.fieldLink RX1 28 "WoundMedals$Muster" "weight" "[I", Cond.fieldLink RX1 31 "WoundMedals$Muster" "wound" "[I", Cond.fieldLink RX1 34 "WoundMedals$Muster" "wearer" "[I", Cond.methodLink RX5 142 yX1_take, Cond.instanceMethod yX1_take, Cond.selects RX1 yX1_take yX1_take, Cond.code yX1_take cX1_take 2 none, Cond.methodLink RX1 43 arraycopyName, Cond.native arraycopyName, Cond.static arraycopyName, Cond.initialized "java/lang/System", Cond.fieldLink RX1 40 "WoundMedals$Muster" "draw" "I", Cond.methodLink RX5 63 yX2_forget, Cond.instanceMethod yX2_forget, Cond.selects RX2 yX2_forget yX2_forget]
def wsX5_state_r5 : List Cond := [Cond.initialized RX2, Cond.code yX2_forget cX2_forget 1 none, Cond.fieldLink RX2 16 "WoundMedals$Past" "known" "I"]
def wsX5_state : List Cond := .code yX5_state cX5_state 3 (some .int) :: ((wsX5_state_r1 ++ (wsX5_state_r2 ++ (wsX5_state_r3 ++ (wsX5_state_r4 ++ wsX5_state_r5)))) ++ wsX50 ++ wsX10 ++ wsX40 ++ wsX20)
def wsX5_count_r1 : List Cond := [Cond.fieldLink RX5 10 "WoundMedals" "now" "LWoundMedals$Muster;", Cond.fieldLink RX5 59 "WoundMedals$Muster" "men" "I", Cond.fieldLink RX5 74 "WoundMedals$Muster" "medals" "I", Cond.fieldLink RX5 88 "WoundMedals$Muster" "day" "I", Cond.fieldLink RX5 19 "WoundMedals" "past" "LWoundMedals$Past;", Cond.fieldLink RX5 155 "WoundMedals$Past" "known" "I", Cond.methodLink RX5 145 yX1_allBent, Cond.instanceMethod yX1_allBent, Cond.selects RX1 yX1_allBent yX1_allBent, Cond.initialized RX1, Cond.code yX1_allBent cX1_allBent 3 (some .int), Cond.fieldLink RX1 9 "WoundMedals$Muster" "men" "I", Cond.methodLink RX1 80 yX1_isBent, Cond.instanceMethod yX1_isBent, Cond.selects RX1 yX1_isBent yX1_isBent, Cond.code yX1_isBent cX1_isBent 2 (some .boolean), Cond.fieldLink RX1 37 "WoundMedals$Muster" "day" "I", Cond.fieldLink RX1 19 "WoundMedals$Muster" "strength" "[I", Cond.methodLink RX1 70 yX1_loadOn, Cond.instanceMethod yX1_loadOn, Cond.selects RX1 yX1_loadOn yX1_loadOn, Cond.code yX1_loadOn cX1_loadOn 3 (some .int), Cond.methodLink RX1 53 yX1_wornBy, Cond.instanceMethod yX1_wornBy]
def wsX5_count_r2 : List Cond := [Cond.selects RX1 yX1_wornBy yX1_wornBy, Cond.code yX1_wornBy cX1_wornBy 2 (some .int), Cond.fieldLink RX1 34 "WoundMedals$Muster" "wearer" "[I", Cond.methodLink RX1 49 yX1_medalsWith, Cond.instanceMethod yX1_medalsWith, Cond.selects RX1 yX1_medalsWith yX1_medalsWith, Cond.code yX1_medalsWith cX1_medalsWith 5 (some .int), Cond.fieldLink RX1 22 "WoundMedals$Muster" "medals" "I", Cond.methodLink RX1 66 yX1_loadOfSet, Cond.instanceMethod yX1_loadOfSet, Cond.selects RX1 yX1_loadOfSet yX1_loadOfSet, Cond.code yX1_loadOfSet cX1_loadOfSet 7 (some .int), Cond.methodLink RX1 57 yJ6_bitCount_0f7a4, Cond.static yJ6_bitCount_0f7a4, Cond.initialized RJ6, Cond.code yJ6_bitCount_0f7a4 cJ6_bitCount_0f7a4 1 (some .int), Cond.constant RJ6 265 (1431655765), Cond.constant RJ6 266 (858993459), Cond.constant RJ6 267 (252645135), Cond.methodLink RX1 62 yX1_bears, Cond.instanceMethod yX1_bears, Cond.selects RX1 yX1_bears yX1_bears, Cond.code yX1_bears cX1_bears 9 (some .int), Cond.fieldLink RX1 28 "WoundMedals$Muster" "weight" "[I"]
def wsX5_count_r3 : List Cond := [Cond.fieldLink RX1 25 "WoundMedals$Muster" "kind" "[I", Cond.fieldLink RX1 31 "WoundMedals$Muster" "wound" "[I", Cond.methodLink RX5 97 yX1_wornBy, Cond.methodLink RX5 149 yX1_allStrength, Cond.instanceMethod yX1_allStrength, Cond.selects RX1 yX1_allStrength yX1_allStrength, Cond.code yX1_allStrength cX1_allStrength 3 (some .int), Cond.methodLink RX5 152 yX1_allLoads, Cond.instanceMethod yX1_allLoads, Cond.selects RX1 yX1_allLoads yX1_allLoads, Cond.code yX1_allLoads cX1_allLoads 3 (some .int)]
def wsX5_count : List Cond := .code yX5_count cX5_count 2 (some .int) :: ((wsX5_count_r1 ++ (wsX5_count_r2 ++ wsX5_count_r3)) ++ wsX50 ++ wsX10 ++ wsX20)
def wsX5_passDays_r1 : List Cond := [Cond.fieldLink RX5 10 "WoundMedals" "now" "LWoundMedals$Muster;", Cond.fieldLink RX5 88 "WoundMedals$Muster" "day" "I", Cond.fieldLink RX5 19 "WoundMedals" "past" "LWoundMedals$Past;", Cond.methodLink RX5 162 yX2_keep, Cond.instanceMethod yX2_keep, Cond.selects RX2 yX2_keep yX2_keep, Cond.initialized RX2, Cond.code yX2_keep cX2_keep 3 none, Cond.fieldLink RX2 13 "WoundMedals$Past" "kept" "[[I", Cond.fieldLink RX2 20 "WoundMedals$Past" "next" "I", Cond.fieldLink RX2 23 "WoundMedals$Muster" "strength" "[I", Cond.methodLink RX2 29 arraycopyName, Cond.native arraycopyName, Cond.static arraycopyName, Cond.initialized "java/lang/System", Cond.fieldLink RX2 35 "WoundMedals$Muster" "weight" "[I", Cond.fieldLink RX2 38 "WoundMedals$Muster" "wearer" "[I", Cond.fieldLink RX2 41 "WoundMedals$Muster" "day" "I", Cond.fieldLink RX2 44 "WoundMedals$Muster" "draw" "I", Cond.fieldLink RX2 16 "WoundMedals$Past" "known" "I", Cond.methodLink RX2 47 Lib.Math.min.name, Cond.static Lib.Math.min.name, Cond.initialized "java/lang/Math", Cond.code Lib.Math.min.name Lib.Math.min.code 2 (some .int)]
def wsX5_passDays_r2 : List Cond := [Cond.methodLink RX5 276 yX1_drawAndHang, Cond.instanceMethod yX1_drawAndHang, Cond.selects RX1 yX1_drawAndHang yX1_drawAndHang, Cond.initialized RX1, Cond.code yX1_drawAndHang cX1_drawAndHang 1 none, Cond.fieldLink RX1 40 "WoundMedals$Muster" "draw" "I", Cond.constantLong RX1 87 (1103515245), Cond.constantLong RX1 89 (12345), Cond.constantLong RX1 91 (2147483647), Cond.fieldLink RX1 22 "WoundMedals$Muster" "medals" "I", Cond.fieldLink RX1 9 "WoundMedals$Muster" "men" "I", Cond.fieldLink RX1 34 "WoundMedals$Muster" "wearer" "[I", Cond.constant RX1 93 (65536), Cond.methodLink RX5 279 yX1_passDay, Cond.instanceMethod yX1_passDay, Cond.selects RX1 yX1_passDay yX1_passDay, Cond.code yX1_passDay cX1_passDay 2 none, Cond.fieldLink RX1 19 "WoundMedals$Muster" "strength" "[I", Cond.fieldLink RX1 37 "WoundMedals$Muster" "day" "I", Cond.methodLink RX1 77 yX1_strengthAfter, Cond.instanceMethod yX1_strengthAfter, Cond.selects RX1 yX1_strengthAfter yX1_strengthAfter, Cond.code yX1_strengthAfter cX1_strengthAfter 4 (some .int), Cond.fieldLink RX1 15 "WoundMedals$Muster" "build" "[I"]
def wsX5_passDays_r3 : List Cond := [Cond.methodLink RX1 70 yX1_loadOn, Cond.instanceMethod yX1_loadOn, Cond.selects RX1 yX1_loadOn yX1_loadOn, Cond.code yX1_loadOn cX1_loadOn 3 (some .int), Cond.methodLink RX1 53 yX1_wornBy, Cond.instanceMethod yX1_wornBy, Cond.selects RX1 yX1_wornBy yX1_wornBy, Cond.code yX1_wornBy cX1_wornBy 2 (some .int), Cond.methodLink RX1 49 yX1_medalsWith, Cond.instanceMethod yX1_medalsWith, Cond.selects RX1 yX1_medalsWith yX1_medalsWith, Cond.code yX1_medalsWith cX1_medalsWith 5 (some .int), Cond.methodLink RX1 66 yX1_loadOfSet, Cond.instanceMethod yX1_loadOfSet, Cond.selects RX1 yX1_loadOfSet yX1_loadOfSet, Cond.code yX1_loadOfSet cX1_loadOfSet 7 (some .int), Cond.methodLink RX1 57 yJ6_bitCount_0f7a4, Cond.static yJ6_bitCount_0f7a4, Cond.initialized RJ6, Cond.code yJ6_bitCount_0f7a4 cJ6_bitCount_0f7a4 1 (some .int), Cond.constant RJ6 265 (1431655765), Cond.constant RJ6 266 (858993459), Cond.constant RJ6 267 (252645135), Cond.methodLink RX1 62 yX1_bears]
def wsX5_passDays_r4 : List Cond := [Cond.instanceMethod yX1_bears, Cond.selects RX1 yX1_bears yX1_bears, Cond.code yX1_bears cX1_bears 9 (some .int), Cond.fieldLink RX1 28 "WoundMedals$Muster" "weight" "[I", Cond.fieldLink RX1 25 "WoundMedals$Muster" "kind" "[I", Cond.fieldLink RX1 31 "WoundMedals$Muster" "wound" "[I", Cond.static yX5_strengthNext, Cond.initialized RX5, Cond.code yX5_strengthNext cX5_strengthNext 3 (some .int), Cond.methodLink RX5 204 Lib.Math.max.name, Cond.static Lib.Math.max.name, Cond.code Lib.Math.max.name Lib.Math.max.code 2 (some .int), Cond.methodLink RX5 165 Lib.Math.min.name, Cond.methodLink RX5 145 yX1_allBent, Cond.instanceMethod yX1_allBent, Cond.selects RX1 yX1_allBent yX1_allBent, Cond.code yX1_allBent cX1_allBent 3 (some .int), Cond.methodLink RX1 80 yX1_isBent, Cond.instanceMethod yX1_isBent, Cond.selects RX1 yX1_isBent yX1_isBent, Cond.code yX1_isBent cX1_isBent 2 (some .boolean)]
def wsX5_passDays : List Cond := .code yX5_passDays cX5_passDays 4 (some .int) :: ((wsX5_passDays_r1 ++ (wsX5_passDays_r2 ++ (wsX5_passDays_r3 ++ wsX5_passDays_r4))) ++ wsX50 ++ wsX10 ++ wsX20)
def wsX5_days_r1 : List Cond := [Cond.methodLink RX5 158 yX5_passDays, Cond.instanceMethod yX5_passDays, Cond.selects RX5 yX5_passDays yX5_passDays, Cond.initialized RX5, Cond.code yX5_passDays cX5_passDays 4 (some .int), Cond.fieldLink RX5 10 "WoundMedals" "now" "LWoundMedals$Muster;", Cond.fieldLink RX5 88 "WoundMedals$Muster" "day" "I", Cond.fieldLink RX5 19 "WoundMedals" "past" "LWoundMedals$Past;", Cond.methodLink RX5 162 yX2_keep, Cond.instanceMethod yX2_keep, Cond.selects RX2 yX2_keep yX2_keep, Cond.initialized RX2, Cond.code yX2_keep cX2_keep 3 none, Cond.fieldLink RX2 13 "WoundMedals$Past" "kept" "[[I", Cond.fieldLink RX2 20 "WoundMedals$Past" "next" "I", Cond.fieldLink RX2 23 "WoundMedals$Muster" "strength" "[I", Cond.methodLink RX2 29 arraycopyName, Cond.native arraycopyName, Cond.static arraycopyName, Cond.initialized "java/lang/System", Cond.fieldLink RX2 35 "WoundMedals$Muster" "weight" "[I", Cond.fieldLink RX2 38 "WoundMedals$Muster" "wearer" "[I", Cond.fieldLink RX2 41 "WoundMedals$Muster" "day" "I", Cond.fieldLink RX2 44 "WoundMedals$Muster" "draw" "I"]
def wsX5_days_r2 : List Cond := [Cond.fieldLink RX2 16 "WoundMedals$Past" "known" "I", Cond.methodLink RX2 47 Lib.Math.min.name, Cond.static Lib.Math.min.name, Cond.initialized "java/lang/Math", Cond.code Lib.Math.min.name Lib.Math.min.code 2 (some .int), Cond.methodLink RX5 276 yX1_drawAndHang, Cond.instanceMethod yX1_drawAndHang, Cond.selects RX1 yX1_drawAndHang yX1_drawAndHang, Cond.initialized RX1, Cond.code yX1_drawAndHang cX1_drawAndHang 1 none, Cond.fieldLink RX1 40 "WoundMedals$Muster" "draw" "I", Cond.constantLong RX1 87 (1103515245), Cond.constantLong RX1 89 (12345), Cond.constantLong RX1 91 (2147483647), Cond.fieldLink RX1 22 "WoundMedals$Muster" "medals" "I", Cond.fieldLink RX1 9 "WoundMedals$Muster" "men" "I", Cond.fieldLink RX1 34 "WoundMedals$Muster" "wearer" "[I", Cond.constant RX1 93 (65536), Cond.methodLink RX5 279 yX1_passDay, Cond.instanceMethod yX1_passDay, Cond.selects RX1 yX1_passDay yX1_passDay, Cond.code yX1_passDay cX1_passDay 2 none, Cond.fieldLink RX1 19 "WoundMedals$Muster" "strength" "[I", Cond.fieldLink RX1 37 "WoundMedals$Muster" "day" "I"]
def wsX5_days_r3 : List Cond := [Cond.methodLink RX1 77 yX1_strengthAfter, Cond.instanceMethod yX1_strengthAfter, Cond.selects RX1 yX1_strengthAfter yX1_strengthAfter, Cond.code yX1_strengthAfter cX1_strengthAfter 4 (some .int), Cond.fieldLink RX1 15 "WoundMedals$Muster" "build" "[I", Cond.methodLink RX1 70 yX1_loadOn, Cond.instanceMethod yX1_loadOn, Cond.selects RX1 yX1_loadOn yX1_loadOn, Cond.code yX1_loadOn cX1_loadOn 3 (some .int), Cond.methodLink RX1 53 yX1_wornBy, Cond.instanceMethod yX1_wornBy, Cond.selects RX1 yX1_wornBy yX1_wornBy, Cond.code yX1_wornBy cX1_wornBy 2 (some .int), Cond.methodLink RX1 49 yX1_medalsWith, Cond.instanceMethod yX1_medalsWith, Cond.selects RX1 yX1_medalsWith yX1_medalsWith, Cond.code yX1_medalsWith cX1_medalsWith 5 (some .int), Cond.methodLink RX1 66 yX1_loadOfSet, Cond.instanceMethod yX1_loadOfSet, Cond.selects RX1 yX1_loadOfSet yX1_loadOfSet, Cond.code yX1_loadOfSet cX1_loadOfSet 7 (some .int), Cond.methodLink RX1 57 yJ6_bitCount_0f7a4, Cond.static yJ6_bitCount_0f7a4, Cond.initialized RJ6]
def wsX5_days_r4 : List Cond := [Cond.code yJ6_bitCount_0f7a4 cJ6_bitCount_0f7a4 1 (some .int), Cond.constant RJ6 265 (1431655765), Cond.constant RJ6 266 (858993459), Cond.constant RJ6 267 (252645135), Cond.methodLink RX1 62 yX1_bears, Cond.instanceMethod yX1_bears, Cond.selects RX1 yX1_bears yX1_bears, Cond.code yX1_bears cX1_bears 9 (some .int), Cond.fieldLink RX1 28 "WoundMedals$Muster" "weight" "[I", Cond.fieldLink RX1 25 "WoundMedals$Muster" "kind" "[I", Cond.fieldLink RX1 31 "WoundMedals$Muster" "wound" "[I", Cond.static yX5_strengthNext, Cond.code yX5_strengthNext cX5_strengthNext 3 (some .int), Cond.methodLink RX5 204 Lib.Math.max.name, Cond.static Lib.Math.max.name, Cond.code Lib.Math.max.name Lib.Math.max.code 2 (some .int), Cond.methodLink RX5 165 Lib.Math.min.name, Cond.methodLink RX5 145 yX1_allBent, Cond.instanceMethod yX1_allBent, Cond.selects RX1 yX1_allBent yX1_allBent, Cond.code yX1_allBent cX1_allBent 3 (some .int), Cond.methodLink RX1 80 yX1_isBent, Cond.instanceMethod yX1_isBent, Cond.selects RX1 yX1_isBent yX1_isBent]
def wsX5_days_r5 : List Cond := [Cond.code yX1_isBent cX1_isBent 2 (some .boolean)]
def wsX5_days : List Cond := .code yX5_days cX5_days 2 (some .int) :: ((wsX5_days_r1 ++ (wsX5_days_r2 ++ (wsX5_days_r3 ++ (wsX5_days_r4 ++ wsX5_days_r5)))) ++ wsX50 ++ wsX10 ++ wsX20)
def wsX5_hang_r1 : List Cond := [Cond.fieldLink RX5 10 "WoundMedals" "now" "LWoundMedals$Muster;", Cond.fieldLink RX5 116 "WoundMedals$Muster" "wearer" "[I", Cond.fieldLink RX5 19 "WoundMedals" "past" "LWoundMedals$Past;", Cond.methodLink RX5 104 yX1_hasMedal, Cond.instanceMethod yX1_hasMedal, Cond.selects RX1 yX1_hasMedal yX1_hasMedal, Cond.initialized RX1, Cond.code yX1_hasMedal cX1_hasMedal 2 (some .boolean), Cond.fieldLink RX1 22 "WoundMedals$Muster" "medals" "I", Cond.methodLink RX5 70 yX1_hasMan, Cond.instanceMethod yX1_hasMan, Cond.selects RX1 yX1_hasMan yX1_hasMan, Cond.code yX1_hasMan cX1_hasMan 2 (some .boolean), Cond.fieldLink RX1 9 "WoundMedals$Muster" "men" "I", Cond.methodLink RX5 162 yX2_keep, Cond.instanceMethod yX2_keep, Cond.selects RX2 yX2_keep yX2_keep, Cond.initialized RX2, Cond.code yX2_keep cX2_keep 3 none, Cond.fieldLink RX2 13 "WoundMedals$Past" "kept" "[[I", Cond.fieldLink RX2 20 "WoundMedals$Past" "next" "I", Cond.fieldLink RX2 23 "WoundMedals$Muster" "strength" "[I", Cond.methodLink RX2 29 arraycopyName, Cond.native arraycopyName]
def wsX5_hang_r2 : List Cond := [Cond.static arraycopyName, Cond.initialized "java/lang/System", Cond.fieldLink RX2 35 "WoundMedals$Muster" "weight" "[I", Cond.fieldLink RX2 38 "WoundMedals$Muster" "wearer" "[I", Cond.fieldLink RX2 41 "WoundMedals$Muster" "day" "I", Cond.fieldLink RX2 44 "WoundMedals$Muster" "draw" "I", Cond.fieldLink RX2 16 "WoundMedals$Past" "known" "I", Cond.methodLink RX2 47 Lib.Math.min.name, Cond.static Lib.Math.min.name, Cond.initialized "java/lang/Math", Cond.code Lib.Math.min.name Lib.Math.min.code 2 (some .int)]
def wsX5_hang : List Cond := .code yX5_hang cX5_hang 4 (some .int) :: ((wsX5_hang_r1 ++ wsX5_hang_r2) ++ wsX50 ++ wsX10 ++ wsX20)
def wsX5_polish_r1 : List Cond := [Cond.fieldLink RX5 10 "WoundMedals" "now" "LWoundMedals$Muster;", Cond.fieldLink RX5 110 "WoundMedals$Muster" "weight" "[I", Cond.fieldLink RX5 19 "WoundMedals" "past" "LWoundMedals$Past;", Cond.methodLink RX5 165 Lib.Math.min.name, Cond.static Lib.Math.min.name, Cond.initialized "java/lang/Math", Cond.code Lib.Math.min.name Lib.Math.min.code 2 (some .int), Cond.methodLink RX5 104 yX1_hasMedal, Cond.instanceMethod yX1_hasMedal, Cond.selects RX1 yX1_hasMedal yX1_hasMedal, Cond.initialized RX1, Cond.code yX1_hasMedal cX1_hasMedal 2 (some .boolean), Cond.fieldLink RX1 22 "WoundMedals$Muster" "medals" "I", Cond.methodLink RX5 162 yX2_keep, Cond.instanceMethod yX2_keep, Cond.selects RX2 yX2_keep yX2_keep, Cond.initialized RX2, Cond.code yX2_keep cX2_keep 3 none, Cond.fieldLink RX2 13 "WoundMedals$Past" "kept" "[[I", Cond.fieldLink RX2 20 "WoundMedals$Past" "next" "I", Cond.fieldLink RX2 23 "WoundMedals$Muster" "strength" "[I", Cond.methodLink RX2 29 arraycopyName, Cond.native arraycopyName, Cond.static arraycopyName]
def wsX5_polish_r2 : List Cond := [Cond.initialized "java/lang/System", Cond.fieldLink RX2 35 "WoundMedals$Muster" "weight" "[I", Cond.fieldLink RX2 38 "WoundMedals$Muster" "wearer" "[I", Cond.fieldLink RX2 41 "WoundMedals$Muster" "day" "I", Cond.fieldLink RX2 44 "WoundMedals$Muster" "draw" "I", Cond.fieldLink RX2 16 "WoundMedals$Past" "known" "I", Cond.methodLink RX2 47 Lib.Math.min.name]
def wsX5_polish : List Cond := .code yX5_polish cX5_polish 3 (some .int) :: ((wsX5_polish_r1 ++ wsX5_polish_r2) ++ wsX50 ++ wsX10 ++ wsX20)
def wsX5_drift_r1 : List Cond := [Cond.methodLink RX5 158 yX5_passDays, Cond.instanceMethod yX5_passDays, Cond.selects RX5 yX5_passDays yX5_passDays, Cond.initialized RX5, Cond.code yX5_passDays cX5_passDays 4 (some .int), Cond.fieldLink RX5 10 "WoundMedals" "now" "LWoundMedals$Muster;", Cond.fieldLink RX5 88 "WoundMedals$Muster" "day" "I", Cond.fieldLink RX5 19 "WoundMedals" "past" "LWoundMedals$Past;", Cond.methodLink RX5 162 yX2_keep, Cond.instanceMethod yX2_keep, Cond.selects RX2 yX2_keep yX2_keep, Cond.initialized RX2, Cond.code yX2_keep cX2_keep 3 none, Cond.fieldLink RX2 13 "WoundMedals$Past" "kept" "[[I", Cond.fieldLink RX2 20 "WoundMedals$Past" "next" "I", Cond.fieldLink RX2 23 "WoundMedals$Muster" "strength" "[I", Cond.methodLink RX2 29 arraycopyName, Cond.native arraycopyName, Cond.static arraycopyName, Cond.initialized "java/lang/System", Cond.fieldLink RX2 35 "WoundMedals$Muster" "weight" "[I", Cond.fieldLink RX2 38 "WoundMedals$Muster" "wearer" "[I", Cond.fieldLink RX2 41 "WoundMedals$Muster" "day" "I", Cond.fieldLink RX2 44 "WoundMedals$Muster" "draw" "I"]
def wsX5_drift_r2 : List Cond := [Cond.fieldLink RX2 16 "WoundMedals$Past" "known" "I", Cond.methodLink RX2 47 Lib.Math.min.name, Cond.static Lib.Math.min.name, Cond.initialized "java/lang/Math", Cond.code Lib.Math.min.name Lib.Math.min.code 2 (some .int), Cond.methodLink RX5 276 yX1_drawAndHang, Cond.instanceMethod yX1_drawAndHang, Cond.selects RX1 yX1_drawAndHang yX1_drawAndHang, Cond.initialized RX1, Cond.code yX1_drawAndHang cX1_drawAndHang 1 none, Cond.fieldLink RX1 40 "WoundMedals$Muster" "draw" "I", Cond.constantLong RX1 87 (1103515245), Cond.constantLong RX1 89 (12345), Cond.constantLong RX1 91 (2147483647), Cond.fieldLink RX1 22 "WoundMedals$Muster" "medals" "I", Cond.fieldLink RX1 9 "WoundMedals$Muster" "men" "I", Cond.fieldLink RX1 34 "WoundMedals$Muster" "wearer" "[I", Cond.constant RX1 93 (65536), Cond.methodLink RX5 279 yX1_passDay, Cond.instanceMethod yX1_passDay, Cond.selects RX1 yX1_passDay yX1_passDay, Cond.code yX1_passDay cX1_passDay 2 none, Cond.fieldLink RX1 19 "WoundMedals$Muster" "strength" "[I", Cond.fieldLink RX1 37 "WoundMedals$Muster" "day" "I"]
def wsX5_drift_r3 : List Cond := [Cond.methodLink RX1 77 yX1_strengthAfter, Cond.instanceMethod yX1_strengthAfter, Cond.selects RX1 yX1_strengthAfter yX1_strengthAfter, Cond.code yX1_strengthAfter cX1_strengthAfter 4 (some .int), Cond.fieldLink RX1 15 "WoundMedals$Muster" "build" "[I", Cond.methodLink RX1 70 yX1_loadOn, Cond.instanceMethod yX1_loadOn, Cond.selects RX1 yX1_loadOn yX1_loadOn, Cond.code yX1_loadOn cX1_loadOn 3 (some .int), Cond.methodLink RX1 53 yX1_wornBy, Cond.instanceMethod yX1_wornBy, Cond.selects RX1 yX1_wornBy yX1_wornBy, Cond.code yX1_wornBy cX1_wornBy 2 (some .int), Cond.methodLink RX1 49 yX1_medalsWith, Cond.instanceMethod yX1_medalsWith, Cond.selects RX1 yX1_medalsWith yX1_medalsWith, Cond.code yX1_medalsWith cX1_medalsWith 5 (some .int), Cond.methodLink RX1 66 yX1_loadOfSet, Cond.instanceMethod yX1_loadOfSet, Cond.selects RX1 yX1_loadOfSet yX1_loadOfSet, Cond.code yX1_loadOfSet cX1_loadOfSet 7 (some .int), Cond.methodLink RX1 57 yJ6_bitCount_0f7a4, Cond.static yJ6_bitCount_0f7a4, Cond.initialized RJ6]
def wsX5_drift_r4 : List Cond := [Cond.code yJ6_bitCount_0f7a4 cJ6_bitCount_0f7a4 1 (some .int), Cond.constant RJ6 265 (1431655765), Cond.constant RJ6 266 (858993459), Cond.constant RJ6 267 (252645135), Cond.methodLink RX1 62 yX1_bears, Cond.instanceMethod yX1_bears, Cond.selects RX1 yX1_bears yX1_bears, Cond.code yX1_bears cX1_bears 9 (some .int), Cond.fieldLink RX1 28 "WoundMedals$Muster" "weight" "[I", Cond.fieldLink RX1 25 "WoundMedals$Muster" "kind" "[I", Cond.fieldLink RX1 31 "WoundMedals$Muster" "wound" "[I", Cond.static yX5_strengthNext, Cond.code yX5_strengthNext cX5_strengthNext 3 (some .int), Cond.methodLink RX5 204 Lib.Math.max.name, Cond.static Lib.Math.max.name, Cond.code Lib.Math.max.name Lib.Math.max.code 2 (some .int), Cond.methodLink RX5 165 Lib.Math.min.name, Cond.methodLink RX5 145 yX1_allBent, Cond.instanceMethod yX1_allBent, Cond.selects RX1 yX1_allBent yX1_allBent, Cond.code yX1_allBent cX1_allBent 3 (some .int), Cond.methodLink RX1 80 yX1_isBent, Cond.instanceMethod yX1_isBent, Cond.selects RX1 yX1_isBent yX1_isBent]
def wsX5_drift_r5 : List Cond := [Cond.code yX1_isBent cX1_isBent 2 (some .boolean)]
def wsX5_drift : List Cond := .code yX5_drift cX5_drift 2 (some .int) :: ((wsX5_drift_r1 ++ (wsX5_drift_r2 ++ (wsX5_drift_r3 ++ (wsX5_drift_r4 ++ wsX5_drift_r5)))) ++ wsX50 ++ wsX10 ++ wsX20)
def wsX5_undo : List Cond := .code yX5_undo cX5_undo 1 (some .int) :: ([.fieldLink RX5 19 "WoundMedals" "past" "LWoundMedals$Past;", .fieldLink RX5 10 "WoundMedals" "now" "LWoundMedals$Muster;", .fieldLink RX5 155 "WoundMedals$Past" "known" "I", .methodLink RX5 170 yX2_giveBack, .instanceMethod yX2_giveBack, .selects RX2 yX2_giveBack yX2_giveBack, .initialized RX2, .code yX2_giveBack cX2_giveBack 3 (some .boolean), .fieldLink RX2 16 "WoundMedals$Past" "known" "I", .fieldLink RX2 20 "WoundMedals$Past" "next" "I", .fieldLink RX2 13 "WoundMedals$Past" "kept" "[[I", .fieldLink RX2 23 "WoundMedals$Muster" "strength" "[I", .methodLink RX2 29 arraycopyName, .native arraycopyName, .static arraycopyName, .initialized "java/lang/System", .fieldLink RX2 35 "WoundMedals$Muster" "weight" "[I", .fieldLink RX2 38 "WoundMedals$Muster" "wearer" "[I", .fieldLink RX2 41 "WoundMedals$Muster" "day" "I", .fieldLink RX2 44 "WoundMedals$Muster" "draw" "I"] ++ wsX50 ++ wsX20 ++ wsX10)
def wsX5_seed : List Cond := .code yX5_seed cX5_seed 3 (some .int) :: ([.fieldLink RX5 10 "WoundMedals" "now" "LWoundMedals$Muster;", .fieldLink RX5 132 "WoundMedals$Muster" "draw" "I"] ++ wsX50 ++ wsX10)
def wsX5_ahead_r1 : List Cond := [Cond.fieldLink RX5 10 "WoundMedals" "now" "LWoundMedals$Muster;", Cond.fieldLink RX5 88 "WoundMedals$Muster" "day" "I", Cond.methodLink RX5 70 yX1_hasMan, Cond.instanceMethod yX1_hasMan, Cond.selects RX1 yX1_hasMan yX1_hasMan, Cond.initialized RX1, Cond.code yX1_hasMan cX1_hasMan 2 (some .boolean), Cond.fieldLink RX1 9 "WoundMedals$Muster" "men" "I", Cond.methodLink RX5 173 yX1_strengthBehind, Cond.instanceMethod yX1_strengthBehind, Cond.selects RX1 yX1_strengthBehind yX1_strengthBehind, Cond.code yX1_strengthBehind cX1_strengthBehind 5 (some .int), Cond.fieldLink RX1 19 "WoundMedals$Muster" "strength" "[I", Cond.fieldLink RX1 37 "WoundMedals$Muster" "day" "I", Cond.methodLink RX1 77 yX1_strengthAfter, Cond.instanceMethod yX1_strengthAfter, Cond.selects RX1 yX1_strengthAfter yX1_strengthAfter, Cond.code yX1_strengthAfter cX1_strengthAfter 4 (some .int), Cond.fieldLink RX1 15 "WoundMedals$Muster" "build" "[I", Cond.methodLink RX1 70 yX1_loadOn, Cond.instanceMethod yX1_loadOn, Cond.selects RX1 yX1_loadOn yX1_loadOn, Cond.code yX1_loadOn cX1_loadOn 3 (some .int), Cond.methodLink RX1 53 yX1_wornBy]
def wsX5_ahead_r2 : List Cond := [Cond.instanceMethod yX1_wornBy, Cond.selects RX1 yX1_wornBy yX1_wornBy, Cond.code yX1_wornBy cX1_wornBy 2 (some .int), Cond.fieldLink RX1 34 "WoundMedals$Muster" "wearer" "[I", Cond.methodLink RX1 49 yX1_medalsWith, Cond.instanceMethod yX1_medalsWith, Cond.selects RX1 yX1_medalsWith yX1_medalsWith, Cond.code yX1_medalsWith cX1_medalsWith 5 (some .int), Cond.fieldLink RX1 22 "WoundMedals$Muster" "medals" "I", Cond.methodLink RX1 66 yX1_loadOfSet, Cond.instanceMethod yX1_loadOfSet, Cond.selects RX1 yX1_loadOfSet yX1_loadOfSet, Cond.code yX1_loadOfSet cX1_loadOfSet 7 (some .int), Cond.methodLink RX1 57 yJ6_bitCount_0f7a4, Cond.static yJ6_bitCount_0f7a4, Cond.initialized RJ6, Cond.code yJ6_bitCount_0f7a4 cJ6_bitCount_0f7a4 1 (some .int), Cond.constant RJ6 265 (1431655765), Cond.constant RJ6 266 (858993459), Cond.constant RJ6 267 (252645135), Cond.methodLink RX1 62 yX1_bears, Cond.instanceMethod yX1_bears, Cond.selects RX1 yX1_bears yX1_bears, Cond.code yX1_bears cX1_bears 9 (some .int)]
def wsX5_ahead_r3 : List Cond := [Cond.fieldLink RX1 28 "WoundMedals$Muster" "weight" "[I", Cond.fieldLink RX1 25 "WoundMedals$Muster" "kind" "[I", Cond.fieldLink RX1 31 "WoundMedals$Muster" "wound" "[I", Cond.static yX5_strengthNext, Cond.initialized RX5, Cond.code yX5_strengthNext cX5_strengthNext 3 (some .int), Cond.methodLink RX5 204 Lib.Math.max.name, Cond.static Lib.Math.max.name, Cond.initialized "java/lang/Math", Cond.code Lib.Math.max.name Lib.Math.max.code 2 (some .int), Cond.methodLink RX5 165 Lib.Math.min.name, Cond.static Lib.Math.min.name, Cond.code Lib.Math.min.name Lib.Math.min.code 2 (some .int), Cond.methodLink RX5 91 yX1_loadOn]
def wsX5_ahead : List Cond := .code yX5_ahead cX5_ahead 4 (some .int) :: ((wsX5_ahead_r1 ++ (wsX5_ahead_r2 ++ wsX5_ahead_r3)) ++ wsX50 ++ wsX10)
def wsX5_then_r1 : List Cond := [Cond.fieldLink RX5 10 "WoundMedals" "now" "LWoundMedals$Muster;", Cond.methodLink RX5 176 yX1_bentBehind, Cond.instanceMethod yX1_bentBehind, Cond.selects RX1 yX1_bentBehind yX1_bentBehind, Cond.initialized RX1, Cond.code yX1_bentBehind cX1_bentBehind 4 (some .int), Cond.fieldLink RX1 9 "WoundMedals$Muster" "men" "I", Cond.fieldLink RX1 37 "WoundMedals$Muster" "day" "I", Cond.methodLink RX1 70 yX1_loadOn, Cond.instanceMethod yX1_loadOn, Cond.selects RX1 yX1_loadOn yX1_loadOn, Cond.code yX1_loadOn cX1_loadOn 3 (some .int), Cond.methodLink RX1 53 yX1_wornBy, Cond.instanceMethod yX1_wornBy, Cond.selects RX1 yX1_wornBy yX1_wornBy, Cond.code yX1_wornBy cX1_wornBy 2 (some .int), Cond.fieldLink RX1 34 "WoundMedals$Muster" "wearer" "[I", Cond.methodLink RX1 49 yX1_medalsWith, Cond.instanceMethod yX1_medalsWith, Cond.selects RX1 yX1_medalsWith yX1_medalsWith, Cond.code yX1_medalsWith cX1_medalsWith 5 (some .int), Cond.fieldLink RX1 22 "WoundMedals$Muster" "medals" "I", Cond.methodLink RX1 66 yX1_loadOfSet, Cond.instanceMethod yX1_loadOfSet]
def wsX5_then_r2 : List Cond := [Cond.selects RX1 yX1_loadOfSet yX1_loadOfSet, Cond.code yX1_loadOfSet cX1_loadOfSet 7 (some .int), Cond.methodLink RX1 57 yJ6_bitCount_0f7a4, Cond.static yJ6_bitCount_0f7a4, Cond.initialized RJ6, Cond.code yJ6_bitCount_0f7a4 cJ6_bitCount_0f7a4 1 (some .int), Cond.constant RJ6 265 (1431655765), Cond.constant RJ6 266 (858993459), Cond.constant RJ6 267 (252645135), Cond.methodLink RX1 62 yX1_bears, Cond.instanceMethod yX1_bears, Cond.selects RX1 yX1_bears yX1_bears, Cond.code yX1_bears cX1_bears 9 (some .int), Cond.fieldLink RX1 28 "WoundMedals$Muster" "weight" "[I", Cond.fieldLink RX1 25 "WoundMedals$Muster" "kind" "[I", Cond.fieldLink RX1 31 "WoundMedals$Muster" "wound" "[I", Cond.methodLink RX1 84 yX1_strengthBehind, Cond.instanceMethod yX1_strengthBehind, Cond.selects RX1 yX1_strengthBehind yX1_strengthBehind, Cond.code yX1_strengthBehind cX1_strengthBehind 5 (some .int), Cond.fieldLink RX1 19 "WoundMedals$Muster" "strength" "[I", Cond.methodLink RX1 77 yX1_strengthAfter, Cond.instanceMethod yX1_strengthAfter, Cond.selects RX1 yX1_strengthAfter yX1_strengthAfter]
def wsX5_then_r3 : List Cond := [Cond.code yX1_strengthAfter cX1_strengthAfter 4 (some .int), Cond.fieldLink RX1 15 "WoundMedals$Muster" "build" "[I", Cond.static yX5_strengthNext, Cond.initialized RX5, Cond.code yX5_strengthNext cX5_strengthNext 3 (some .int), Cond.methodLink RX5 204 Lib.Math.max.name, Cond.static Lib.Math.max.name, Cond.initialized "java/lang/Math", Cond.code Lib.Math.max.name Lib.Math.max.code 2 (some .int), Cond.methodLink RX5 165 Lib.Math.min.name, Cond.static Lib.Math.min.name, Cond.code Lib.Math.min.name Lib.Math.min.code 2 (some .int)]
def wsX5_then : List Cond := .code yX5_then cX5_then 2 (some .int) :: ((wsX5_then_r1 ++ (wsX5_then_r2 ++ wsX5_then_r3)) ++ wsX50 ++ wsX10)
def wsX5_done_r1 : List Cond := [Cond.fieldLink RX5 10 "WoundMedals" "now" "LWoundMedals$Muster;", Cond.fieldLink RX5 85 "WoundMedals$Muster" "strength" "[I", Cond.fieldLink RX5 88 "WoundMedals$Muster" "day" "I", Cond.methodLink RX5 70 yX1_hasMan, Cond.instanceMethod yX1_hasMan, Cond.selects RX1 yX1_hasMan yX1_hasMan, Cond.initialized RX1, Cond.code yX1_hasMan cX1_hasMan 2 (some .boolean), Cond.fieldLink RX1 9 "WoundMedals$Muster" "men" "I", Cond.methodLink RX5 179 yX1_strengthAfter, Cond.instanceMethod yX1_strengthAfter, Cond.selects RX1 yX1_strengthAfter yX1_strengthAfter, Cond.code yX1_strengthAfter cX1_strengthAfter 4 (some .int), Cond.fieldLink RX1 15 "WoundMedals$Muster" "build" "[I", Cond.methodLink RX1 70 yX1_loadOn, Cond.instanceMethod yX1_loadOn, Cond.selects RX1 yX1_loadOn yX1_loadOn, Cond.code yX1_loadOn cX1_loadOn 3 (some .int), Cond.methodLink RX1 53 yX1_wornBy, Cond.instanceMethod yX1_wornBy, Cond.selects RX1 yX1_wornBy yX1_wornBy, Cond.code yX1_wornBy cX1_wornBy 2 (some .int), Cond.fieldLink RX1 34 "WoundMedals$Muster" "wearer" "[I", Cond.methodLink RX1 49 yX1_medalsWith]
def wsX5_done_r2 : List Cond := [Cond.instanceMethod yX1_medalsWith, Cond.selects RX1 yX1_medalsWith yX1_medalsWith, Cond.code yX1_medalsWith cX1_medalsWith 5 (some .int), Cond.fieldLink RX1 22 "WoundMedals$Muster" "medals" "I", Cond.methodLink RX1 66 yX1_loadOfSet, Cond.instanceMethod yX1_loadOfSet, Cond.selects RX1 yX1_loadOfSet yX1_loadOfSet, Cond.code yX1_loadOfSet cX1_loadOfSet 7 (some .int), Cond.methodLink RX1 57 yJ6_bitCount_0f7a4, Cond.static yJ6_bitCount_0f7a4, Cond.initialized RJ6, Cond.code yJ6_bitCount_0f7a4 cJ6_bitCount_0f7a4 1 (some .int), Cond.constant RJ6 265 (1431655765), Cond.constant RJ6 266 (858993459), Cond.constant RJ6 267 (252645135), Cond.methodLink RX1 62 yX1_bears, Cond.instanceMethod yX1_bears, Cond.selects RX1 yX1_bears yX1_bears, Cond.code yX1_bears cX1_bears 9 (some .int), Cond.fieldLink RX1 28 "WoundMedals$Muster" "weight" "[I", Cond.fieldLink RX1 25 "WoundMedals$Muster" "kind" "[I", Cond.fieldLink RX1 31 "WoundMedals$Muster" "wound" "[I", Cond.static yX5_strengthNext, Cond.initialized RX5]
def wsX5_done_r3 : List Cond := [Cond.code yX5_strengthNext cX5_strengthNext 3 (some .int), Cond.methodLink RX5 204 Lib.Math.max.name, Cond.static Lib.Math.max.name, Cond.initialized "java/lang/Math", Cond.code Lib.Math.max.name Lib.Math.max.code 2 (some .int), Cond.methodLink RX5 165 Lib.Math.min.name, Cond.static Lib.Math.min.name, Cond.code Lib.Math.min.name Lib.Math.min.code 2 (some .int)]
def wsX5_done : List Cond := .code yX5_done cX5_done 4 (some .int) :: ((wsX5_done_r1 ++ (wsX5_done_r2 ++ wsX5_done_r3)) ++ wsX50 ++ wsX10)
def wsX5_ever_r1 : List Cond := [Cond.fieldLink RX5 10 "WoundMedals" "now" "LWoundMedals$Muster;", Cond.fieldLink RX5 59 "WoundMedals$Muster" "men" "I", Cond.methodLink RX5 183 yX1_isBentWithin, Cond.instanceMethod yX1_isBentWithin, Cond.selects RX1 yX1_isBentWithin yX1_isBentWithin, Cond.initialized RX1, Cond.code yX1_isBentWithin cX1_isBentWithin 5 (some .boolean), Cond.fieldLink RX1 19 "WoundMedals$Muster" "strength" "[I", Cond.fieldLink RX1 37 "WoundMedals$Muster" "day" "I", Cond.methodLink RX1 70 yX1_loadOn, Cond.instanceMethod yX1_loadOn, Cond.selects RX1 yX1_loadOn yX1_loadOn, Cond.code yX1_loadOn cX1_loadOn 3 (some .int), Cond.methodLink RX1 53 yX1_wornBy, Cond.instanceMethod yX1_wornBy, Cond.selects RX1 yX1_wornBy yX1_wornBy, Cond.code yX1_wornBy cX1_wornBy 2 (some .int), Cond.fieldLink RX1 34 "WoundMedals$Muster" "wearer" "[I", Cond.methodLink RX1 49 yX1_medalsWith, Cond.instanceMethod yX1_medalsWith, Cond.selects RX1 yX1_medalsWith yX1_medalsWith, Cond.code yX1_medalsWith cX1_medalsWith 5 (some .int), Cond.fieldLink RX1 22 "WoundMedals$Muster" "medals" "I", Cond.methodLink RX1 66 yX1_loadOfSet]
def wsX5_ever_r2 : List Cond := [Cond.instanceMethod yX1_loadOfSet, Cond.selects RX1 yX1_loadOfSet yX1_loadOfSet, Cond.code yX1_loadOfSet cX1_loadOfSet 7 (some .int), Cond.methodLink RX1 57 yJ6_bitCount_0f7a4, Cond.static yJ6_bitCount_0f7a4, Cond.initialized RJ6, Cond.code yJ6_bitCount_0f7a4 cJ6_bitCount_0f7a4 1 (some .int), Cond.constant RJ6 265 (1431655765), Cond.constant RJ6 266 (858993459), Cond.constant RJ6 267 (252645135), Cond.methodLink RX1 62 yX1_bears, Cond.instanceMethod yX1_bears, Cond.selects RX1 yX1_bears yX1_bears, Cond.code yX1_bears cX1_bears 9 (some .int), Cond.fieldLink RX1 28 "WoundMedals$Muster" "weight" "[I", Cond.fieldLink RX1 25 "WoundMedals$Muster" "kind" "[I", Cond.fieldLink RX1 31 "WoundMedals$Muster" "wound" "[I", Cond.methodLink RX1 77 yX1_strengthAfter, Cond.instanceMethod yX1_strengthAfter, Cond.selects RX1 yX1_strengthAfter yX1_strengthAfter, Cond.code yX1_strengthAfter cX1_strengthAfter 4 (some .int), Cond.fieldLink RX1 15 "WoundMedals$Muster" "build" "[I", Cond.static yX5_strengthNext, Cond.initialized RX5]
def wsX5_ever_r3 : List Cond := [Cond.code yX5_strengthNext cX5_strengthNext 3 (some .int), Cond.methodLink RX5 204 Lib.Math.max.name, Cond.static Lib.Math.max.name, Cond.initialized "java/lang/Math", Cond.code Lib.Math.max.name Lib.Math.max.code 2 (some .int), Cond.methodLink RX5 165 Lib.Math.min.name, Cond.static Lib.Math.min.name, Cond.code Lib.Math.min.name Lib.Math.min.code 2 (some .int)]
def wsX5_ever : List Cond := .code yX5_ever cX5_ever 3 (some .int) :: ((wsX5_ever_r1 ++ (wsX5_ever_r2 ++ wsX5_ever_r3)) ++ wsX50 ++ wsX10)
def wsX5_even_r1 : List Cond := [Cond.fieldLink RX5 48 "WoundMedals" "hanging" "LWoundMedals$Hanging;", Cond.fieldLink RX5 190 "WoundMedals$Hanging" "bestCost" "I", Cond.methodLink RX5 187 yX0_findEven, Cond.instanceMethod yX0_findEven, Cond.selects RX0 yX0_findEven yX0_findEven, Cond.initialized RX0, Cond.code yX0_findEven cX0_findEven 1 none, Cond.fieldLink RX0 33 "WoundMedals$Hanging" "wantsFew" "Z", Cond.methodLink RX0 60 yX0_find, Cond.instanceMethod yX0_find, Cond.selects RX0 yX0_find yX0_find, Cond.code yX0_find cX0_find 2 none, Cond.fieldLink RX0 20 "WoundMedals$Hanging" "setOf" "[I", Cond.fieldLink RX0 24 "WoundMedals$Hanging" "tried" "[I", Cond.constant RX0 66 (1000000), Cond.fieldLink RX0 37 "WoundMedals$Hanging" "bestCost" "I", Cond.methodLink RX0 63 yX0_prepare, Cond.instanceMethod yX0_prepare, Cond.selects RX0 yX0_prepare yX0_prepare, Cond.code yX0_prepare cX0_prepare 3 none, Cond.fieldLink RX0 40 "WoundMedals$Hanging" "muster" "LWoundMedals$Muster;", Cond.fieldLink RX0 16 "WoundMedals$Hanging" "worn" "I", Cond.fieldLink RX0 50 "WoundMedals$Muster" "men" "I", Cond.fieldLink RX0 11 "WoundMedals$Hanging" "loads" "[[I"]
def wsX5_even_r2 : List Cond := [Cond.fieldLink RX0 53 "WoundMedals$Muster" "day" "I", Cond.methodLink RX0 44 yX1_allWorn, Cond.instanceMethod yX1_allWorn, Cond.selects RX1 yX1_allWorn yX1_allWorn, Cond.initialized RX1, Cond.code yX1_allWorn cX1_allWorn 1 (some .int), Cond.fieldLink RX1 22 "WoundMedals$Muster" "medals" "I", Cond.methodLink RX1 53 yX1_wornBy, Cond.instanceMethod yX1_wornBy, Cond.selects RX1 yX1_wornBy yX1_wornBy, Cond.code yX1_wornBy cX1_wornBy 2 (some .int), Cond.fieldLink RX1 34 "WoundMedals$Muster" "wearer" "[I", Cond.methodLink RX1 49 yX1_medalsWith, Cond.instanceMethod yX1_medalsWith, Cond.selects RX1 yX1_medalsWith yX1_medalsWith, Cond.code yX1_medalsWith cX1_medalsWith 5 (some .int), Cond.methodLink RX0 56 yX1_loadOfSet, Cond.instanceMethod yX1_loadOfSet, Cond.selects RX1 yX1_loadOfSet yX1_loadOfSet, Cond.code yX1_loadOfSet cX1_loadOfSet 7 (some .int), Cond.methodLink RX1 57 yJ6_bitCount_0f7a4, Cond.static yJ6_bitCount_0f7a4, Cond.initialized RJ6, Cond.code yJ6_bitCount_0f7a4 cJ6_bitCount_0f7a4 1 (some .int)]
def wsX5_even_r3 : List Cond := [Cond.constant RJ6 265 (1431655765), Cond.constant RJ6 266 (858993459), Cond.constant RJ6 267 (252645135), Cond.methodLink RX1 62 yX1_bears, Cond.instanceMethod yX1_bears, Cond.selects RX1 yX1_bears yX1_bears, Cond.code yX1_bears cX1_bears 9 (some .int), Cond.fieldLink RX1 28 "WoundMedals$Muster" "weight" "[I", Cond.fieldLink RX1 25 "WoundMedals$Muster" "kind" "[I", Cond.fieldLink RX1 31 "WoundMedals$Muster" "wound" "[I", Cond.methodLink RX0 67 yX0_hangFrom, Cond.instanceMethod yX0_hangFrom, Cond.selects RX0 yX0_hangFrom yX0_hangFrom, Cond.code yX0_hangFrom cX0_hangFrom 5 none, Cond.fieldLink RX0 27 "WoundMedals$Hanging" "best" "[I", Cond.methodLink RX0 71 arraycopyName, Cond.native arraycopyName, Cond.static arraycopyName, Cond.initialized "java/lang/System", Cond.methodLink RX0 77 yX0_costOfFew, Cond.instanceMethod yX0_costOfFew, Cond.selects RX0 yX0_costOfFew yX0_costOfFew, Cond.code yX0_costOfFew cX0_costOfFew 6 (some .int), Cond.fieldLink RX0 90 "WoundMedals$Muster" "wearer" "[I"]
def wsX5_even_r4 : List Cond := [Cond.methodLink RX0 93 yX0_bends, Cond.instanceMethod yX0_bends, Cond.selects RX0 yX0_bends yX0_bends, Cond.code yX0_bends cX0_bends 3 (some .boolean), Cond.fieldLink RX0 97 "WoundMedals$Muster" "strength" "[I", Cond.methodLink RX0 81 yX0_costOfEven, Cond.instanceMethod yX0_costOfEven, Cond.selects RX0 yX0_costOfEven yX0_costOfEven, Cond.code yX0_costOfEven cX0_costOfEven 3 (some .int), Cond.methodLink RX0 85 Lib.Math.max.name, Cond.static Lib.Math.max.name, Cond.initialized "java/lang/Math", Cond.code Lib.Math.max.name Lib.Math.max.code 2 (some .int), Cond.methodLink RX5 193 yX0_wouldWear, Cond.instanceMethod yX0_wouldWear, Cond.selects RX0 yX0_wouldWear yX0_wouldWear, Cond.code yX0_wouldWear cX0_wouldWear 2 (some .int)]
def wsX5_even : List Cond := .code yX5_even cX5_even 2 (some .int) :: ((wsX5_even_r1 ++ (wsX5_even_r2 ++ (wsX5_even_r3 ++ wsX5_even_r4))) ++ wsX50 ++ wsX00 ++ wsX10)
def wsX5_few_r1 : List Cond := [Cond.fieldLink RX5 48 "WoundMedals" "hanging" "LWoundMedals$Hanging;", Cond.fieldLink RX5 190 "WoundMedals$Hanging" "bestCost" "I", Cond.methodLink RX5 196 yX0_findFew, Cond.instanceMethod yX0_findFew, Cond.selects RX0 yX0_findFew yX0_findFew, Cond.initialized RX0, Cond.code yX0_findFew cX0_findFew 1 none, Cond.fieldLink RX0 33 "WoundMedals$Hanging" "wantsFew" "Z", Cond.methodLink RX0 60 yX0_find, Cond.instanceMethod yX0_find, Cond.selects RX0 yX0_find yX0_find, Cond.code yX0_find cX0_find 2 none, Cond.fieldLink RX0 20 "WoundMedals$Hanging" "setOf" "[I", Cond.fieldLink RX0 24 "WoundMedals$Hanging" "tried" "[I", Cond.constant RX0 66 (1000000), Cond.fieldLink RX0 37 "WoundMedals$Hanging" "bestCost" "I", Cond.methodLink RX0 63 yX0_prepare, Cond.instanceMethod yX0_prepare, Cond.selects RX0 yX0_prepare yX0_prepare, Cond.code yX0_prepare cX0_prepare 3 none, Cond.fieldLink RX0 40 "WoundMedals$Hanging" "muster" "LWoundMedals$Muster;", Cond.fieldLink RX0 16 "WoundMedals$Hanging" "worn" "I", Cond.fieldLink RX0 50 "WoundMedals$Muster" "men" "I", Cond.fieldLink RX0 11 "WoundMedals$Hanging" "loads" "[[I"]
def wsX5_few_r2 : List Cond := [Cond.fieldLink RX0 53 "WoundMedals$Muster" "day" "I", Cond.methodLink RX0 44 yX1_allWorn, Cond.instanceMethod yX1_allWorn, Cond.selects RX1 yX1_allWorn yX1_allWorn, Cond.initialized RX1, Cond.code yX1_allWorn cX1_allWorn 1 (some .int), Cond.fieldLink RX1 22 "WoundMedals$Muster" "medals" "I", Cond.methodLink RX1 53 yX1_wornBy, Cond.instanceMethod yX1_wornBy, Cond.selects RX1 yX1_wornBy yX1_wornBy, Cond.code yX1_wornBy cX1_wornBy 2 (some .int), Cond.fieldLink RX1 34 "WoundMedals$Muster" "wearer" "[I", Cond.methodLink RX1 49 yX1_medalsWith, Cond.instanceMethod yX1_medalsWith, Cond.selects RX1 yX1_medalsWith yX1_medalsWith, Cond.code yX1_medalsWith cX1_medalsWith 5 (some .int), Cond.methodLink RX0 56 yX1_loadOfSet, Cond.instanceMethod yX1_loadOfSet, Cond.selects RX1 yX1_loadOfSet yX1_loadOfSet, Cond.code yX1_loadOfSet cX1_loadOfSet 7 (some .int), Cond.methodLink RX1 57 yJ6_bitCount_0f7a4, Cond.static yJ6_bitCount_0f7a4, Cond.initialized RJ6, Cond.code yJ6_bitCount_0f7a4 cJ6_bitCount_0f7a4 1 (some .int)]
def wsX5_few_r3 : List Cond := [Cond.constant RJ6 265 (1431655765), Cond.constant RJ6 266 (858993459), Cond.constant RJ6 267 (252645135), Cond.methodLink RX1 62 yX1_bears, Cond.instanceMethod yX1_bears, Cond.selects RX1 yX1_bears yX1_bears, Cond.code yX1_bears cX1_bears 9 (some .int), Cond.fieldLink RX1 28 "WoundMedals$Muster" "weight" "[I", Cond.fieldLink RX1 25 "WoundMedals$Muster" "kind" "[I", Cond.fieldLink RX1 31 "WoundMedals$Muster" "wound" "[I", Cond.methodLink RX0 67 yX0_hangFrom, Cond.instanceMethod yX0_hangFrom, Cond.selects RX0 yX0_hangFrom yX0_hangFrom, Cond.code yX0_hangFrom cX0_hangFrom 5 none, Cond.fieldLink RX0 27 "WoundMedals$Hanging" "best" "[I", Cond.methodLink RX0 71 arraycopyName, Cond.native arraycopyName, Cond.static arraycopyName, Cond.initialized "java/lang/System", Cond.methodLink RX0 77 yX0_costOfFew, Cond.instanceMethod yX0_costOfFew, Cond.selects RX0 yX0_costOfFew yX0_costOfFew, Cond.code yX0_costOfFew cX0_costOfFew 6 (some .int), Cond.fieldLink RX0 90 "WoundMedals$Muster" "wearer" "[I"]
def wsX5_few_r4 : List Cond := [Cond.methodLink RX0 93 yX0_bends, Cond.instanceMethod yX0_bends, Cond.selects RX0 yX0_bends yX0_bends, Cond.code yX0_bends cX0_bends 3 (some .boolean), Cond.fieldLink RX0 97 "WoundMedals$Muster" "strength" "[I", Cond.methodLink RX0 81 yX0_costOfEven, Cond.instanceMethod yX0_costOfEven, Cond.selects RX0 yX0_costOfEven yX0_costOfEven, Cond.code yX0_costOfEven cX0_costOfEven 3 (some .int), Cond.methodLink RX0 85 Lib.Math.max.name, Cond.static Lib.Math.max.name, Cond.initialized "java/lang/Math", Cond.code Lib.Math.max.name Lib.Math.max.code 2 (some .int), Cond.methodLink RX5 193 yX0_wouldWear, Cond.instanceMethod yX0_wouldWear, Cond.selects RX0 yX0_wouldWear yX0_wouldWear, Cond.code yX0_wouldWear cX0_wouldWear 2 (some .int)]
def wsX5_few : List Cond := .code yX5_few cX5_few 2 (some .int) :: ((wsX5_few_r1 ++ (wsX5_few_r2 ++ (wsX5_few_r3 ++ wsX5_few_r4))) ++ wsX50 ++ wsX00 ++ wsX10)
def wsX5_off_r1 : List Cond := [Cond.fieldLink RX5 33 "WoundMedals" "trial" "LWoundMedals$Muster;", Cond.fieldLink RX5 10 "WoundMedals" "now" "LWoundMedals$Muster;", Cond.fieldLink RX5 74 "WoundMedals$Muster" "medals" "I", Cond.fieldLink RX5 116 "WoundMedals$Muster" "wearer" "[I", Cond.methodLink RX5 142 yX1_take, Cond.instanceMethod yX1_take, Cond.selects RX1 yX1_take yX1_take, Cond.initialized RX1, Cond.code yX1_take cX1_take 2 none, Cond.fieldLink RX1 9 "WoundMedals$Muster" "men" "I", Cond.fieldLink RX1 15 "WoundMedals$Muster" "build" "[I", Cond.methodLink RX1 43 arraycopyName, Cond.native arraycopyName, Cond.static arraycopyName, Cond.initialized "java/lang/System", Cond.fieldLink RX1 19 "WoundMedals$Muster" "strength" "[I", Cond.fieldLink RX1 22 "WoundMedals$Muster" "medals" "I", Cond.fieldLink RX1 25 "WoundMedals$Muster" "kind" "[I", Cond.fieldLink RX1 28 "WoundMedals$Muster" "weight" "[I", Cond.fieldLink RX1 31 "WoundMedals$Muster" "wound" "[I", Cond.fieldLink RX1 34 "WoundMedals$Muster" "wearer" "[I", Cond.fieldLink RX1 37 "WoundMedals$Muster" "day" "I", Cond.fieldLink RX1 40 "WoundMedals$Muster" "draw" "I", Cond.methodLink RX5 176 yX1_bentBehind]
def wsX5_off_r2 : List Cond := [Cond.instanceMethod yX1_bentBehind, Cond.selects RX1 yX1_bentBehind yX1_bentBehind, Cond.code yX1_bentBehind cX1_bentBehind 4 (some .int), Cond.methodLink RX1 70 yX1_loadOn, Cond.instanceMethod yX1_loadOn, Cond.selects RX1 yX1_loadOn yX1_loadOn, Cond.code yX1_loadOn cX1_loadOn 3 (some .int), Cond.methodLink RX1 53 yX1_wornBy, Cond.instanceMethod yX1_wornBy, Cond.selects RX1 yX1_wornBy yX1_wornBy, Cond.code yX1_wornBy cX1_wornBy 2 (some .int), Cond.methodLink RX1 49 yX1_medalsWith, Cond.instanceMethod yX1_medalsWith, Cond.selects RX1 yX1_medalsWith yX1_medalsWith, Cond.code yX1_medalsWith cX1_medalsWith 5 (some .int), Cond.methodLink RX1 66 yX1_loadOfSet, Cond.instanceMethod yX1_loadOfSet, Cond.selects RX1 yX1_loadOfSet yX1_loadOfSet, Cond.code yX1_loadOfSet cX1_loadOfSet 7 (some .int), Cond.methodLink RX1 57 yJ6_bitCount_0f7a4, Cond.static yJ6_bitCount_0f7a4, Cond.initialized RJ6, Cond.code yJ6_bitCount_0f7a4 cJ6_bitCount_0f7a4 1 (some .int), Cond.constant RJ6 265 (1431655765)]
def wsX5_off_r3 : List Cond := [Cond.constant RJ6 266 (858993459), Cond.constant RJ6 267 (252645135), Cond.methodLink RX1 62 yX1_bears, Cond.instanceMethod yX1_bears, Cond.selects RX1 yX1_bears yX1_bears, Cond.code yX1_bears cX1_bears 9 (some .int), Cond.methodLink RX1 84 yX1_strengthBehind, Cond.instanceMethod yX1_strengthBehind, Cond.selects RX1 yX1_strengthBehind yX1_strengthBehind, Cond.code yX1_strengthBehind cX1_strengthBehind 5 (some .int), Cond.methodLink RX1 77 yX1_strengthAfter, Cond.instanceMethod yX1_strengthAfter, Cond.selects RX1 yX1_strengthAfter yX1_strengthAfter, Cond.code yX1_strengthAfter cX1_strengthAfter 4 (some .int), Cond.static yX5_strengthNext, Cond.initialized RX5, Cond.code yX5_strengthNext cX5_strengthNext 3 (some .int), Cond.methodLink RX5 204 Lib.Math.max.name, Cond.static Lib.Math.max.name, Cond.initialized "java/lang/Math", Cond.code Lib.Math.max.name Lib.Math.max.code 2 (some .int), Cond.methodLink RX5 165 Lib.Math.min.name, Cond.static Lib.Math.min.name, Cond.code Lib.Math.min.name Lib.Math.min.code 2 (some .int)]
def wsX5_off_r4 : List Cond := [Cond.methodLink RX5 199 yJ6_bitCount_0f7a4]
def wsX5_off : List Cond := .code yX5_off cX5_off 7 (some .int) :: ((wsX5_off_r1 ++ (wsX5_off_r2 ++ (wsX5_off_r3 ++ wsX5_off_r4))) ++ wsX50 ++ wsX10)
def wsX5_staysUpright : List Cond := .code yX5_staysUpright cX5_staysUpright 8 (some .boolean) :: ([.methodLink RX5 282 yX5_strengthNext, .static yX5_strengthNext, .initialized RX5, .code yX5_strengthNext cX5_strengthNext 3 (some .int), .methodLink RX5 204 Lib.Math.max.name, .static Lib.Math.max.name, .initialized "java/lang/Math", .code Lib.Math.max.name Lib.Math.max.code 2 (some .int), .methodLink RX5 165 Lib.Math.min.name, .static Lib.Math.min.name, .code Lib.Math.min.name Lib.Math.min.code 2 (some .int)])
def wsX5_needs_r1 : List Cond := [Cond.fieldLink RX5 10 "WoundMedals" "now" "LWoundMedals$Muster;", Cond.fieldLink RX5 88 "WoundMedals$Muster" "day" "I", Cond.fieldLink RX5 81 "WoundMedals$Muster" "build" "[I", Cond.methodLink RX5 204 Lib.Math.max.name, Cond.static Lib.Math.max.name, Cond.initialized "java/lang/Math", Cond.code Lib.Math.max.name Lib.Math.max.code 2 (some .int), Cond.methodLink RX5 70 yX1_hasMan, Cond.instanceMethod yX1_hasMan, Cond.selects RX1 yX1_hasMan yX1_hasMan, Cond.initialized RX1, Cond.code yX1_hasMan cX1_hasMan 2 (some .boolean), Cond.fieldLink RX1 9 "WoundMedals$Muster" "men" "I", Cond.methodLink RX5 91 yX1_loadOn, Cond.instanceMethod yX1_loadOn, Cond.selects RX1 yX1_loadOn yX1_loadOn, Cond.code yX1_loadOn cX1_loadOn 3 (some .int), Cond.methodLink RX1 53 yX1_wornBy, Cond.instanceMethod yX1_wornBy, Cond.selects RX1 yX1_wornBy yX1_wornBy, Cond.code yX1_wornBy cX1_wornBy 2 (some .int), Cond.fieldLink RX1 34 "WoundMedals$Muster" "wearer" "[I", Cond.methodLink RX1 49 yX1_medalsWith, Cond.instanceMethod yX1_medalsWith]
def wsX5_needs_r2 : List Cond := [Cond.selects RX1 yX1_medalsWith yX1_medalsWith, Cond.code yX1_medalsWith cX1_medalsWith 5 (some .int), Cond.fieldLink RX1 22 "WoundMedals$Muster" "medals" "I", Cond.methodLink RX1 66 yX1_loadOfSet, Cond.instanceMethod yX1_loadOfSet, Cond.selects RX1 yX1_loadOfSet yX1_loadOfSet, Cond.code yX1_loadOfSet cX1_loadOfSet 7 (some .int), Cond.methodLink RX1 57 yJ6_bitCount_0f7a4, Cond.static yJ6_bitCount_0f7a4, Cond.initialized RJ6, Cond.code yJ6_bitCount_0f7a4 cJ6_bitCount_0f7a4 1 (some .int), Cond.constant RJ6 265 (1431655765), Cond.constant RJ6 266 (858993459), Cond.constant RJ6 267 (252645135), Cond.methodLink RX1 62 yX1_bears, Cond.instanceMethod yX1_bears, Cond.selects RX1 yX1_bears yX1_bears, Cond.code yX1_bears cX1_bears 9 (some .int), Cond.fieldLink RX1 28 "WoundMedals$Muster" "weight" "[I", Cond.fieldLink RX1 25 "WoundMedals$Muster" "kind" "[I", Cond.fieldLink RX1 31 "WoundMedals$Muster" "wound" "[I", Cond.methodLink RX5 207 yX5_staysUpright, Cond.static yX5_staysUpright, Cond.initialized RX5]
def wsX5_needs_r3 : List Cond := [Cond.code yX5_staysUpright cX5_staysUpright 8 (some .boolean), Cond.methodLink RX5 282 yX5_strengthNext, Cond.static yX5_strengthNext, Cond.code yX5_strengthNext cX5_strengthNext 3 (some .int), Cond.methodLink RX5 165 Lib.Math.min.name, Cond.static Lib.Math.min.name, Cond.code Lib.Math.min.name Lib.Math.min.code 2 (some .int)]
def wsX5_needs : List Cond := .code yX5_needs cX5_needs 6 (some .int) :: ((wsX5_needs_r1 ++ (wsX5_needs_r2 ++ wsX5_needs_r3)) ++ wsX50 ++ wsX10)
def wsX5_two_r1 : List Cond := [Cond.fieldLink RX5 10 "WoundMedals" "now" "LWoundMedals$Muster;", Cond.fieldLink RX5 74 "WoundMedals$Muster" "medals" "I", Cond.methodLink RX5 211 yX1_wornByTwo, Cond.instanceMethod yX1_wornByTwo, Cond.selects RX1 yX1_wornByTwo yX1_wornByTwo, Cond.initialized RX1, Cond.code yX1_wornByTwo cX1_wornByTwo 3 (some .boolean), Cond.fieldLink RX1 34 "WoundMedals$Muster" "wearer" "[I", Cond.methodLink RX5 214 yX1_loadsIfChanged, Cond.instanceMethod yX1_loadsIfChanged, Cond.selects RX1 yX1_loadsIfChanged yX1_loadsIfChanged, Cond.code yX1_loadsIfChanged cX1_loadsIfChanged 6 (some .int), Cond.fieldLink RX1 37 "WoundMedals$Muster" "day" "I", Cond.methodLink RX1 53 yX1_wornBy, Cond.instanceMethod yX1_wornBy, Cond.selects RX1 yX1_wornBy yX1_wornBy, Cond.code yX1_wornBy cX1_wornBy 2 (some .int), Cond.methodLink RX1 49 yX1_medalsWith, Cond.instanceMethod yX1_medalsWith, Cond.selects RX1 yX1_medalsWith yX1_medalsWith, Cond.code yX1_medalsWith cX1_medalsWith 5 (some .int), Cond.fieldLink RX1 22 "WoundMedals$Muster" "medals" "I", Cond.methodLink RX1 66 yX1_loadOfSet, Cond.instanceMethod yX1_loadOfSet]
def wsX5_two_r2 : List Cond := [Cond.selects RX1 yX1_loadOfSet yX1_loadOfSet, Cond.code yX1_loadOfSet cX1_loadOfSet 7 (some .int), Cond.methodLink RX1 57 yJ6_bitCount_0f7a4, Cond.static yJ6_bitCount_0f7a4, Cond.initialized RJ6, Cond.code yJ6_bitCount_0f7a4 cJ6_bitCount_0f7a4 1 (some .int), Cond.constant RJ6 265 (1431655765), Cond.constant RJ6 266 (858993459), Cond.constant RJ6 267 (252645135), Cond.methodLink RX1 62 yX1_bears, Cond.instanceMethod yX1_bears, Cond.selects RX1 yX1_bears yX1_bears, Cond.code yX1_bears cX1_bears 9 (some .int), Cond.fieldLink RX1 28 "WoundMedals$Muster" "weight" "[I", Cond.fieldLink RX1 25 "WoundMedals$Muster" "kind" "[I", Cond.fieldLink RX1 31 "WoundMedals$Muster" "wound" "[I"]
def wsX5_two : List Cond := .code yX5_two cX5_two 7 (some .int) :: ((wsX5_two_r1 ++ wsX5_two_r2) ++ wsX50 ++ wsX10)
def wsX5_greatestCommonDivisor : List Cond := .code yX5_greatestCommonDivisor cX5_greatestCommonDivisor 6 (some .int) :: ([])
def wsX5_error_r1 : List Cond := [Cond.fieldLink RX5 10 "WoundMedals" "now" "LWoundMedals$Muster;", Cond.fieldLink RX5 48 "WoundMedals" "hanging" "LWoundMedals$Hanging;", Cond.methodLink RX5 70 yX1_hasMan, Cond.instanceMethod yX1_hasMan, Cond.selects RX1 yX1_hasMan yX1_hasMan, Cond.initialized RX1, Cond.code yX1_hasMan cX1_hasMan 2 (some .boolean), Cond.fieldLink RX1 9 "WoundMedals$Muster" "men" "I", Cond.methodLink RX5 217 yX0_prepare, Cond.instanceMethod yX0_prepare, Cond.selects RX0 yX0_prepare yX0_prepare, Cond.initialized RX0, Cond.code yX0_prepare cX0_prepare 3 none, Cond.fieldLink RX0 40 "WoundMedals$Hanging" "muster" "LWoundMedals$Muster;", Cond.fieldLink RX0 16 "WoundMedals$Hanging" "worn" "I", Cond.fieldLink RX0 50 "WoundMedals$Muster" "men" "I", Cond.fieldLink RX0 11 "WoundMedals$Hanging" "loads" "[[I", Cond.fieldLink RX0 53 "WoundMedals$Muster" "day" "I", Cond.methodLink RX0 44 yX1_allWorn, Cond.instanceMethod yX1_allWorn, Cond.selects RX1 yX1_allWorn yX1_allWorn, Cond.code yX1_allWorn cX1_allWorn 1 (some .int), Cond.fieldLink RX1 22 "WoundMedals$Muster" "medals" "I", Cond.methodLink RX1 53 yX1_wornBy]
def wsX5_error_r2 : List Cond := [Cond.instanceMethod yX1_wornBy, Cond.selects RX1 yX1_wornBy yX1_wornBy, Cond.code yX1_wornBy cX1_wornBy 2 (some .int), Cond.fieldLink RX1 34 "WoundMedals$Muster" "wearer" "[I", Cond.methodLink RX1 49 yX1_medalsWith, Cond.instanceMethod yX1_medalsWith, Cond.selects RX1 yX1_medalsWith yX1_medalsWith, Cond.code yX1_medalsWith cX1_medalsWith 5 (some .int), Cond.methodLink RX0 56 yX1_loadOfSet, Cond.instanceMethod yX1_loadOfSet, Cond.selects RX1 yX1_loadOfSet yX1_loadOfSet, Cond.code yX1_loadOfSet cX1_loadOfSet 7 (some .int), Cond.methodLink RX1 57 yJ6_bitCount_0f7a4, Cond.static yJ6_bitCount_0f7a4, Cond.initialized RJ6, Cond.code yJ6_bitCount_0f7a4 cJ6_bitCount_0f7a4 1 (some .int), Cond.constant RJ6 265 (1431655765), Cond.constant RJ6 266 (858993459), Cond.constant RJ6 267 (252645135), Cond.methodLink RX1 62 yX1_bears, Cond.instanceMethod yX1_bears, Cond.selects RX1 yX1_bears yX1_bears, Cond.code yX1_bears cX1_bears 9 (some .int), Cond.fieldLink RX1 28 "WoundMedals$Muster" "weight" "[I"]
def wsX5_error_r3 : List Cond := [Cond.fieldLink RX1 25 "WoundMedals$Muster" "kind" "[I", Cond.fieldLink RX1 31 "WoundMedals$Muster" "wound" "[I", Cond.methodLink RX5 220 yX0_waysWithNobodyBent, Cond.instanceMethod yX0_waysWithNobodyBent, Cond.selects RX0 yX0_waysWithNobodyBent yX0_waysWithNobodyBent, Cond.code yX0_waysWithNobodyBent cX0_waysWithNobodyBent 3 (some .int), Cond.fieldLink RX0 30 "WoundMedals$Hanging" "waysOfSet" "[I", Cond.methodLink RX0 109 yX0_waysWith, Cond.instanceMethod yX0_waysWith, Cond.selects RX0 yX0_waysWith yX0_waysWith, Cond.code yX0_waysWith cX0_waysWith 5 (some .int), Cond.methodLink RX0 93 yX0_bends, Cond.instanceMethod yX0_bends, Cond.selects RX0 yX0_bends yX0_bends, Cond.code yX0_bends cX0_bends 3 (some .boolean), Cond.fieldLink RX0 97 "WoundMedals$Muster" "strength" "[I", Cond.methodLink RX5 223 yX0_waysWithBent, Cond.instanceMethod yX0_waysWithBent, Cond.selects RX0 yX0_waysWithBent yX0_waysWithBent, Cond.code yX0_waysWithBent cX0_waysWithBent 4 (some .int), Cond.methodLink RX0 100 yJ6_bitCount_0f7a4, Cond.methodLink RX0 106 yX0_power, Cond.static yX0_power, Cond.code yX0_power cX0_power 4 (some .int)]
def wsX5_error_r4 : List Cond := [Cond.methodLink RX5 226 yX0_ways, Cond.instanceMethod yX0_ways, Cond.selects RX0 yX0_ways yX0_ways, Cond.code yX0_ways cX0_ways 1 (some .int), Cond.methodLink RX5 229 yX5_greatestCommonDivisor, Cond.static yX5_greatestCommonDivisor, Cond.initialized RX5, Cond.code yX5_greatestCommonDivisor cX5_greatestCommonDivisor 6 (some .int)]
def wsX5_error : List Cond := .code yX5_error cX5_error 6 (some .int) :: ((wsX5_error_r1 ++ (wsX5_error_r2 ++ (wsX5_error_r3 ++ wsX5_error_r4))) ++ wsX50 ++ wsX10 ++ wsX00)
def wsX5_image_r1 : List Cond := [Cond.fieldLink RX5 23 "WoundMedals" "imageOfNow" "LWoundMedals$Muster;", Cond.fieldLink RX5 10 "WoundMedals" "now" "LWoundMedals$Muster;", Cond.fieldLink RX5 26 "WoundMedals" "imageOfPast" "LWoundMedals$Past;", Cond.fieldLink RX5 19 "WoundMedals" "past" "LWoundMedals$Past;", Cond.fieldLink RX5 29 "WoundMedals" "hasImage" "Z", Cond.methodLink RX5 142 yX1_take, Cond.instanceMethod yX1_take, Cond.selects RX1 yX1_take yX1_take, Cond.initialized RX1, Cond.code yX1_take cX1_take 2 none, Cond.fieldLink RX1 9 "WoundMedals$Muster" "men" "I", Cond.fieldLink RX1 15 "WoundMedals$Muster" "build" "[I", Cond.methodLink RX1 43 arraycopyName, Cond.native arraycopyName, Cond.static arraycopyName, Cond.initialized "java/lang/System", Cond.fieldLink RX1 19 "WoundMedals$Muster" "strength" "[I", Cond.fieldLink RX1 22 "WoundMedals$Muster" "medals" "I", Cond.fieldLink RX1 25 "WoundMedals$Muster" "kind" "[I", Cond.fieldLink RX1 28 "WoundMedals$Muster" "weight" "[I", Cond.fieldLink RX1 31 "WoundMedals$Muster" "wound" "[I", Cond.fieldLink RX1 34 "WoundMedals$Muster" "wearer" "[I", Cond.fieldLink RX1 37 "WoundMedals$Muster" "day" "I", Cond.fieldLink RX1 40 "WoundMedals$Muster" "draw" "I"]
def wsX5_image_r2 : List Cond := [Cond.methodLink RX5 232 yX2_take, Cond.instanceMethod yX2_take, Cond.selects RX2 yX2_take yX2_take, Cond.initialized RX2, Cond.code yX2_take cX2_take 3 none, Cond.fieldLink RX2 13 "WoundMedals$Past" "kept" "[[I", Cond.methodLink RX2 29 arraycopyName, Cond.fieldLink RX2 16 "WoundMedals$Past" "known" "I", Cond.fieldLink RX2 20 "WoundMedals$Past" "next" "I"]
def wsX5_image : List Cond := .code yX5_image cX5_image 1 (some .int) :: ((wsX5_image_r1 ++ wsX5_image_r2) ++ wsX50 ++ wsX10 ++ wsX20)
def wsX5_restore_r1 : List Cond := [Cond.fieldLink RX5 29 "WoundMedals" "hasImage" "Z", Cond.fieldLink RX5 10 "WoundMedals" "now" "LWoundMedals$Muster;", Cond.fieldLink RX5 23 "WoundMedals" "imageOfNow" "LWoundMedals$Muster;", Cond.fieldLink RX5 19 "WoundMedals" "past" "LWoundMedals$Past;", Cond.fieldLink RX5 26 "WoundMedals" "imageOfPast" "LWoundMedals$Past;", Cond.methodLink RX5 142 yX1_take, Cond.instanceMethod yX1_take, Cond.selects RX1 yX1_take yX1_take, Cond.initialized RX1, Cond.code yX1_take cX1_take 2 none, Cond.fieldLink RX1 9 "WoundMedals$Muster" "men" "I", Cond.fieldLink RX1 15 "WoundMedals$Muster" "build" "[I", Cond.methodLink RX1 43 arraycopyName, Cond.native arraycopyName, Cond.static arraycopyName, Cond.initialized "java/lang/System", Cond.fieldLink RX1 19 "WoundMedals$Muster" "strength" "[I", Cond.fieldLink RX1 22 "WoundMedals$Muster" "medals" "I", Cond.fieldLink RX1 25 "WoundMedals$Muster" "kind" "[I", Cond.fieldLink RX1 28 "WoundMedals$Muster" "weight" "[I", Cond.fieldLink RX1 31 "WoundMedals$Muster" "wound" "[I", Cond.fieldLink RX1 34 "WoundMedals$Muster" "wearer" "[I", Cond.fieldLink RX1 37 "WoundMedals$Muster" "day" "I", Cond.fieldLink RX1 40 "WoundMedals$Muster" "draw" "I"]
def wsX5_restore_r2 : List Cond := [Cond.methodLink RX5 232 yX2_take, Cond.instanceMethod yX2_take, Cond.selects RX2 yX2_take yX2_take, Cond.initialized RX2, Cond.code yX2_take cX2_take 3 none, Cond.fieldLink RX2 13 "WoundMedals$Past" "kept" "[[I", Cond.methodLink RX2 29 arraycopyName, Cond.fieldLink RX2 16 "WoundMedals$Past" "known" "I", Cond.fieldLink RX2 20 "WoundMedals$Past" "next" "I"]
def wsX5_restore : List Cond := .code yX5_restore cX5_restore 1 (some .int) :: ((wsX5_restore_r1 ++ wsX5_restore_r2) ++ wsX50 ++ wsX10 ++ wsX20)
def wsX5_isSheet : List Cond := .code yX5_isSheet cX5_isSheet 1 (some .boolean) :: ([])
def wsX5_isLane : List Cond := .code yX5_isLane cX5_isLane 1 (some .boolean) :: ([])
def wsX5_trialIsTold_r1 : List Cond := [Cond.fieldLink RX5 33 "WoundMedals" "trial" "LWoundMedals$Muster;", Cond.fieldLink RX5 85 "WoundMedals$Muster" "strength" "[I", Cond.fieldLink RX5 88 "WoundMedals$Muster" "day" "I", Cond.fieldLink RX5 266 "WoundMedals$Row" "items" "[J", Cond.methodLink RX5 179 yX1_strengthAfter, Cond.instanceMethod yX1_strengthAfter, Cond.selects RX1 yX1_strengthAfter yX1_strengthAfter, Cond.initialized RX1, Cond.code yX1_strengthAfter cX1_strengthAfter 4 (some .int), Cond.fieldLink RX1 15 "WoundMedals$Muster" "build" "[I", Cond.methodLink RX1 70 yX1_loadOn, Cond.instanceMethod yX1_loadOn, Cond.selects RX1 yX1_loadOn yX1_loadOn, Cond.code yX1_loadOn cX1_loadOn 3 (some .int), Cond.methodLink RX1 53 yX1_wornBy, Cond.instanceMethod yX1_wornBy, Cond.selects RX1 yX1_wornBy yX1_wornBy, Cond.code yX1_wornBy cX1_wornBy 2 (some .int), Cond.fieldLink RX1 34 "WoundMedals$Muster" "wearer" "[I", Cond.methodLink RX1 49 yX1_medalsWith, Cond.instanceMethod yX1_medalsWith, Cond.selects RX1 yX1_medalsWith yX1_medalsWith, Cond.code yX1_medalsWith cX1_medalsWith 5 (some .int), Cond.fieldLink RX1 22 "WoundMedals$Muster" "medals" "I"]
def wsX5_trialIsTold_r2 : List Cond := [Cond.methodLink RX1 66 yX1_loadOfSet, Cond.instanceMethod yX1_loadOfSet, Cond.selects RX1 yX1_loadOfSet yX1_loadOfSet, Cond.code yX1_loadOfSet cX1_loadOfSet 7 (some .int), Cond.methodLink RX1 57 yJ6_bitCount_0f7a4, Cond.static yJ6_bitCount_0f7a4, Cond.initialized RJ6, Cond.code yJ6_bitCount_0f7a4 cJ6_bitCount_0f7a4 1 (some .int), Cond.constant RJ6 265 (1431655765), Cond.constant RJ6 266 (858993459), Cond.constant RJ6 267 (252645135), Cond.methodLink RX1 62 yX1_bears, Cond.instanceMethod yX1_bears, Cond.selects RX1 yX1_bears yX1_bears, Cond.code yX1_bears cX1_bears 9 (some .int), Cond.fieldLink RX1 28 "WoundMedals$Muster" "weight" "[I", Cond.fieldLink RX1 25 "WoundMedals$Muster" "kind" "[I", Cond.fieldLink RX1 31 "WoundMedals$Muster" "wound" "[I", Cond.static yX5_strengthNext, Cond.initialized RX5, Cond.code yX5_strengthNext cX5_strengthNext 3 (some .int), Cond.methodLink RX5 204 Lib.Math.max.name, Cond.static Lib.Math.max.name, Cond.initialized "java/lang/Math"]
def wsX5_trialIsTold_r3 : List Cond := [Cond.code Lib.Math.max.name Lib.Math.max.code 2 (some .int), Cond.methodLink RX5 165 Lib.Math.min.name, Cond.static Lib.Math.min.name, Cond.code Lib.Math.min.name Lib.Math.min.code 2 (some .int)]
def wsX5_trialIsTold : List Cond := .code yX5_trialIsTold cX5_trialIsTold 7 (some .boolean) :: ((wsX5_trialIsTold_r1 ++ (wsX5_trialIsTold_r2 ++ wsX5_trialIsTold_r3)) ++ wsX50 ++ wsX10 ++ wsX30)
def wsX5_felt_r1 : List Cond := [Cond.fieldLink RX5 10 "WoundMedals" "now" "LWoundMedals$Muster;", Cond.fieldLink RX5 54 "WoundMedals" "rows" "[LWoundMedals$Row;", Cond.fieldLink RX5 59 "WoundMedals$Muster" "men" "I", Cond.fieldLink RX5 33 "WoundMedals" "trial" "LWoundMedals$Muster;", Cond.fieldLink RX5 107 "WoundMedals$Muster" "kind" "[I", Cond.fieldLink RX5 110 "WoundMedals$Muster" "weight" "[I", Cond.fieldLink RX5 113 "WoundMedals$Muster" "wound" "[I", Cond.methodLink RX5 70 yX1_hasMan, Cond.instanceMethod yX1_hasMan, Cond.selects RX1 yX1_hasMan yX1_hasMan, Cond.initialized RX1, Cond.code yX1_hasMan cX1_hasMan 2 (some .boolean), Cond.fieldLink RX1 9 "WoundMedals$Muster" "men" "I", Cond.methodLink RX5 104 yX1_hasMedal, Cond.instanceMethod yX1_hasMedal, Cond.selects RX1 yX1_hasMedal yX1_hasMedal, Cond.code yX1_hasMedal cX1_hasMedal 2 (some .boolean), Cond.fieldLink RX1 22 "WoundMedals$Muster" "medals" "I", Cond.methodLink RX5 235 yX5_isSheet, Cond.static yX5_isSheet, Cond.initialized RX5, Cond.code yX5_isSheet cX5_isSheet 1 (some .boolean), Cond.methodLink RX5 238 yX5_isLane, Cond.static yX5_isLane]
def wsX5_felt_r2 : List Cond := [Cond.code yX5_isLane cX5_isLane 1 (some .boolean), Cond.methodLink RX5 241 yX3_refuses, Cond.instanceMethod yX3_refuses, Cond.selects RX3 yX3_refuses yX3_refuses, Cond.initialized RX3, Cond.code yX3_refuses cX3_refuses 4 (some .int), Cond.fieldLink RX3 9 "WoundMedals$Row" "isThere" "Z", Cond.fieldLink RX3 15 "WoundMedals$Row" "lane" "I", Cond.methodLink RX3 26 yX3_reaches, Cond.instanceMethod yX3_reaches, Cond.selects RX3 yX3_reaches yX3_reaches, Cond.code yX3_reaches cX3_reaches 3 (some .boolean), Cond.fieldLink RX3 19 "WoundMedals$Row" "length" "I", Cond.methodLink RX5 142 yX1_take, Cond.instanceMethod yX1_take, Cond.selects RX1 yX1_take yX1_take, Cond.code yX1_take cX1_take 2 none, Cond.fieldLink RX1 15 "WoundMedals$Muster" "build" "[I", Cond.methodLink RX1 43 arraycopyName, Cond.native arraycopyName, Cond.static arraycopyName, Cond.initialized "java/lang/System", Cond.fieldLink RX1 19 "WoundMedals$Muster" "strength" "[I", Cond.fieldLink RX1 25 "WoundMedals$Muster" "kind" "[I"]
def wsX5_felt_r3 : List Cond := [Cond.fieldLink RX1 28 "WoundMedals$Muster" "weight" "[I", Cond.fieldLink RX1 31 "WoundMedals$Muster" "wound" "[I", Cond.fieldLink RX1 34 "WoundMedals$Muster" "wearer" "[I", Cond.fieldLink RX1 37 "WoundMedals$Muster" "day" "I", Cond.fieldLink RX1 40 "WoundMedals$Muster" "draw" "I", Cond.methodLink RX5 244 yX5_trialIsTold, Cond.instanceMethod yX5_trialIsTold, Cond.selects RX5 yX5_trialIsTold yX5_trialIsTold, Cond.code yX5_trialIsTold cX5_trialIsTold 7 (some .boolean), Cond.fieldLink RX5 85 "WoundMedals$Muster" "strength" "[I", Cond.fieldLink RX5 88 "WoundMedals$Muster" "day" "I", Cond.fieldLink RX5 266 "WoundMedals$Row" "items" "[J", Cond.methodLink RX5 179 yX1_strengthAfter, Cond.instanceMethod yX1_strengthAfter, Cond.selects RX1 yX1_strengthAfter yX1_strengthAfter, Cond.code yX1_strengthAfter cX1_strengthAfter 4 (some .int), Cond.methodLink RX1 70 yX1_loadOn, Cond.instanceMethod yX1_loadOn, Cond.selects RX1 yX1_loadOn yX1_loadOn, Cond.code yX1_loadOn cX1_loadOn 3 (some .int), Cond.methodLink RX1 53 yX1_wornBy, Cond.instanceMethod yX1_wornBy, Cond.selects RX1 yX1_wornBy yX1_wornBy, Cond.code yX1_wornBy cX1_wornBy 2 (some .int)]
def wsX5_felt_r4 : List Cond := [Cond.methodLink RX1 49 yX1_medalsWith, Cond.instanceMethod yX1_medalsWith, Cond.selects RX1 yX1_medalsWith yX1_medalsWith, Cond.code yX1_medalsWith cX1_medalsWith 5 (some .int), Cond.methodLink RX1 66 yX1_loadOfSet, Cond.instanceMethod yX1_loadOfSet, Cond.selects RX1 yX1_loadOfSet yX1_loadOfSet, Cond.code yX1_loadOfSet cX1_loadOfSet 7 (some .int), Cond.methodLink RX1 57 yJ6_bitCount_0f7a4, Cond.static yJ6_bitCount_0f7a4, Cond.initialized RJ6, Cond.code yJ6_bitCount_0f7a4 cJ6_bitCount_0f7a4 1 (some .int), Cond.constant RJ6 265 (1431655765), Cond.constant RJ6 266 (858993459), Cond.constant RJ6 267 (252645135), Cond.methodLink RX1 62 yX1_bears, Cond.instanceMethod yX1_bears, Cond.selects RX1 yX1_bears yX1_bears, Cond.code yX1_bears cX1_bears 9 (some .int), Cond.static yX5_strengthNext, Cond.code yX5_strengthNext cX5_strengthNext 3 (some .int), Cond.methodLink RX5 204 Lib.Math.max.name, Cond.static Lib.Math.max.name, Cond.initialized "java/lang/Math"]
def wsX5_felt_r5 : List Cond := [Cond.code Lib.Math.max.name Lib.Math.max.code 2 (some .int), Cond.methodLink RX5 165 Lib.Math.min.name, Cond.static Lib.Math.min.name, Cond.code Lib.Math.min.name Lib.Math.min.code 2 (some .int)]
def wsX5_felt : List Cond := .code yX5_felt cX5_felt 14 (some .int) :: ((wsX5_felt_r1 ++ (wsX5_felt_r2 ++ (wsX5_felt_r3 ++ (wsX5_felt_r4 ++ wsX5_felt_r5)))) ++ wsX50 ++ wsX10 ++ wsX30)
def wsX5_film_r1 : List Cond := [Cond.fieldLink RX5 10 "WoundMedals" "now" "LWoundMedals$Muster;", Cond.fieldLink RX5 54 "WoundMedals" "rows" "[LWoundMedals$Row;", Cond.fieldLink RX5 85 "WoundMedals$Muster" "strength" "[I", Cond.fieldLink RX5 88 "WoundMedals$Muster" "day" "I", Cond.methodLink RX5 70 yX1_hasMan, Cond.instanceMethod yX1_hasMan, Cond.selects RX1 yX1_hasMan yX1_hasMan, Cond.initialized RX1, Cond.code yX1_hasMan cX1_hasMan 2 (some .boolean), Cond.fieldLink RX1 9 "WoundMedals$Muster" "men" "I", Cond.methodLink RX5 235 yX5_isSheet, Cond.static yX5_isSheet, Cond.initialized RX5, Cond.code yX5_isSheet cX5_isSheet 1 (some .boolean), Cond.methodLink RX5 238 yX5_isLane, Cond.static yX5_isLane, Cond.code yX5_isLane cX5_isLane 1 (some .boolean), Cond.methodLink RX5 241 yX3_refuses, Cond.instanceMethod yX3_refuses, Cond.selects RX3 yX3_refuses yX3_refuses, Cond.initialized RX3, Cond.code yX3_refuses cX3_refuses 4 (some .int), Cond.fieldLink RX3 9 "WoundMedals$Row" "isThere" "Z", Cond.fieldLink RX3 15 "WoundMedals$Row" "lane" "I"]
def wsX5_film_r2 : List Cond := [Cond.methodLink RX3 26 yX3_reaches, Cond.instanceMethod yX3_reaches, Cond.selects RX3 yX3_reaches yX3_reaches, Cond.code yX3_reaches cX3_reaches 3 (some .boolean), Cond.fieldLink RX3 19 "WoundMedals$Row" "length" "I", Cond.methodLink RX5 179 yX1_strengthAfter, Cond.instanceMethod yX1_strengthAfter, Cond.selects RX1 yX1_strengthAfter yX1_strengthAfter, Cond.code yX1_strengthAfter cX1_strengthAfter 4 (some .int), Cond.fieldLink RX1 15 "WoundMedals$Muster" "build" "[I", Cond.methodLink RX1 70 yX1_loadOn, Cond.instanceMethod yX1_loadOn, Cond.selects RX1 yX1_loadOn yX1_loadOn, Cond.code yX1_loadOn cX1_loadOn 3 (some .int), Cond.methodLink RX1 53 yX1_wornBy, Cond.instanceMethod yX1_wornBy, Cond.selects RX1 yX1_wornBy yX1_wornBy, Cond.code yX1_wornBy cX1_wornBy 2 (some .int), Cond.fieldLink RX1 34 "WoundMedals$Muster" "wearer" "[I", Cond.methodLink RX1 49 yX1_medalsWith, Cond.instanceMethod yX1_medalsWith, Cond.selects RX1 yX1_medalsWith yX1_medalsWith, Cond.code yX1_medalsWith cX1_medalsWith 5 (some .int), Cond.fieldLink RX1 22 "WoundMedals$Muster" "medals" "I"]
def wsX5_film_r3 : List Cond := [Cond.methodLink RX1 66 yX1_loadOfSet, Cond.instanceMethod yX1_loadOfSet, Cond.selects RX1 yX1_loadOfSet yX1_loadOfSet, Cond.code yX1_loadOfSet cX1_loadOfSet 7 (some .int), Cond.methodLink RX1 57 yJ6_bitCount_0f7a4, Cond.static yJ6_bitCount_0f7a4, Cond.initialized RJ6, Cond.code yJ6_bitCount_0f7a4 cJ6_bitCount_0f7a4 1 (some .int), Cond.constant RJ6 265 (1431655765), Cond.constant RJ6 266 (858993459), Cond.constant RJ6 267 (252645135), Cond.methodLink RX1 62 yX1_bears, Cond.instanceMethod yX1_bears, Cond.selects RX1 yX1_bears yX1_bears, Cond.code yX1_bears cX1_bears 9 (some .int), Cond.fieldLink RX1 28 "WoundMedals$Muster" "weight" "[I", Cond.fieldLink RX1 25 "WoundMedals$Muster" "kind" "[I", Cond.fieldLink RX1 31 "WoundMedals$Muster" "wound" "[I", Cond.static yX5_strengthNext, Cond.code yX5_strengthNext cX5_strengthNext 3 (some .int), Cond.methodLink RX5 204 Lib.Math.max.name, Cond.static Lib.Math.max.name, Cond.initialized "java/lang/Math", Cond.code Lib.Math.max.name Lib.Math.max.code 2 (some .int)]
def wsX5_film_r4 : List Cond := [Cond.methodLink RX5 165 Lib.Math.min.name, Cond.static Lib.Math.min.name, Cond.code Lib.Math.min.name Lib.Math.min.code 2 (some .int), Cond.methodLink RX5 248 yX3_put, Cond.instanceMethod yX3_put, Cond.selects RX3 yX3_put yX3_put, Cond.code yX3_put cX3_put 4 none, Cond.fieldLink RX3 22 "WoundMedals$Row" "items" "[J"]
def wsX5_film : List Cond := .code yX5_film cX5_film 10 (some .int) :: ((wsX5_film_r1 ++ (wsX5_film_r2 ++ (wsX5_film_r3 ++ wsX5_film_r4))) ++ wsX50 ++ wsX10 ++ wsX30)
def wsX5_sheet : List Cond := .code yX5_sheet cX5_sheet 4 (some .int) :: ([.fieldLink RX5 54 "WoundMedals" "rows" "[LWoundMedals$Row;", .methodLink RX5 235 yX5_isSheet, .static yX5_isSheet, .initialized RX5, .code yX5_isSheet cX5_isSheet 1 (some .boolean), .methodLink RX5 238 yX5_isLane, .static yX5_isLane, .code yX5_isLane cX5_isLane 1 (some .boolean), .methodLink RX5 252 yX3_begin, .instanceMethod yX3_begin, .selects RX3 yX3_begin yX3_begin, .initialized RX3, .code yX3_begin cX3_begin 4 none, .fieldLink RX3 9 "WoundMedals$Row" "isThere" "Z", .fieldLink RX3 15 "WoundMedals$Row" "lane" "I", .fieldLink RX3 19 "WoundMedals$Row" "length" "I", .fieldLink RX3 22 "WoundMedals$Row" "items" "[J"] ++ wsX50 ++ wsX30)
def wsX5_drop : List Cond := .code yX5_drop cX5_drop 3 (some .int) :: ([.fieldLink RX5 54 "WoundMedals" "rows" "[LWoundMedals$Row;", .fieldLink RX5 256 "WoundMedals$Row" "isThere" "Z", .fieldLink RX5 259 "WoundMedals$Row" "length" "I", .methodLink RX5 235 yX5_isSheet, .static yX5_isSheet, .initialized RX5, .code yX5_isSheet cX5_isSheet 1 (some .boolean)] ++ wsX50 ++ wsX30)
def wsX5_item_r1 : List Cond := [Cond.fieldLink RX5 54 "WoundMedals" "rows" "[LWoundMedals$Row;", Cond.methodLink RX5 235 yX5_isSheet, Cond.static yX5_isSheet, Cond.initialized RX5, Cond.code yX5_isSheet cX5_isSheet 1 (some .boolean), Cond.methodLink RX5 238 yX5_isLane, Cond.static yX5_isLane, Cond.code yX5_isLane cX5_isLane 1 (some .boolean), Cond.methodLink RX5 241 yX3_refuses, Cond.instanceMethod yX3_refuses, Cond.selects RX3 yX3_refuses yX3_refuses, Cond.initialized RX3, Cond.code yX3_refuses cX3_refuses 4 (some .int), Cond.fieldLink RX3 9 "WoundMedals$Row" "isThere" "Z", Cond.fieldLink RX3 15 "WoundMedals$Row" "lane" "I", Cond.methodLink RX3 26 yX3_reaches, Cond.instanceMethod yX3_reaches, Cond.selects RX3 yX3_reaches yX3_reaches, Cond.code yX3_reaches cX3_reaches 3 (some .boolean), Cond.fieldLink RX3 19 "WoundMedals$Row" "length" "I", Cond.methodLink RX5 248 yX3_put, Cond.instanceMethod yX3_put, Cond.selects RX3 yX3_put yX3_put, Cond.code yX3_put cX3_put 4 none]
def wsX5_item_r2 : List Cond := [Cond.fieldLink RX3 22 "WoundMedals$Row" "items" "[J"]
def wsX5_item : List Cond := .code yX5_item cX5_item 7 (some .int) :: ((wsX5_item_r1 ++ wsX5_item_r2) ++ wsX50 ++ wsX30)
def wsX5_copy : List Cond := .code yX5_copy cX5_copy 8 (some .int) :: ([.fieldLink RX5 54 "WoundMedals" "rows" "[LWoundMedals$Row;", .fieldLink RX5 256 "WoundMedals$Row" "isThere" "Z", .fieldLink RX5 260 "WoundMedals$Row" "lane" "I", .fieldLink RX5 266 "WoundMedals$Row" "items" "[J", .methodLink RX5 270 arraycopyName, .native arraycopyName, .static arraycopyName, .initialized "java/lang/System", .methodLink RX5 235 yX5_isSheet, .static yX5_isSheet, .initialized RX5, .code yX5_isSheet cX5_isSheet 1 (some .boolean), .methodLink RX5 263 yX3_reaches, .instanceMethod yX3_reaches, .selects RX3 yX3_reaches yX3_reaches, .initialized RX3, .code yX3_reaches cX3_reaches 3 (some .boolean), .fieldLink RX3 19 "WoundMedals$Row" "length" "I"] ++ wsX50 ++ wsX30)
def wsX6_init : List Cond := .code yX6_init cX6_init 2 none :: ([.methodLink RX6 1 objectInit, .instanceMethod objectInit, .code objectInit ⟨#[0xb1]⟩ 1 none, .arrayClass .int, .fieldLink RX6 7 "WoundMedalsModel" "lane" "[I", .fieldLink RX6 13 "WoundMedalsModel" "size" "[I", .arrayClass .long, .fieldLink RX6 16 "WoundMedalsModel" "item" "[J", .fieldLink RX6 20 "WoundMedalsModel" "tape" "[I", .fieldLink RX6 23 "WoundMedalsModel" "now" "[I", .fieldLink RX6 26 "WoundMedalsModel" "tried" "[I", .fieldLink RX6 29 "WoundMedalsModel" "read" "[I", .fieldLink RX6 32 "WoundMedalsModel" "kept" "[I", .fieldLink RX6 35 "WoundMedalsModel" "best" "[I"] ++ wsX60)
def wsX6_in : List Cond := .code yX6_in cX6_in 3 (some .boolean) :: ([])
def wsX6_bits : List Cond := .code yX6_bits cX6_bits 3 (some .int) :: ([])
def wsX6_bring : List Cond := .code yX6_bring cX6_bring 6 none :: ([])
def wsX6_isMan : List Cond := .code yX6_isMan cX6_isMan 2 (some .boolean) :: ([.fieldLink RX6 23 "WoundMedalsModel" "now" "[I", .methodLink RX6 38 yX6_in, .static yX6_in, .initialized RX6, .code yX6_in cX6_in 3 (some .boolean)] ++ wsX60)
def wsX6_isMedal : List Cond := .code yX6_isMedal cX6_isMedal 2 (some .boolean) :: ([.fieldLink RX6 23 "WoundMedalsModel" "now" "[I", .methodLink RX6 38 yX6_in, .static yX6_in, .initialized RX6, .code yX6_in cX6_in 3 (some .boolean)] ++ wsX60)
def wsX6_addMan : List Cond := .code yX6_addMan cX6_addMan 3 (some .int) :: ([])
def wsX6_addMedal : List Cond := .code yX6_addMedal cX6_addMedal 5 (some .int) :: ([])
def wsX6_man : List Cond := .code yX6_man cX6_man 2 (some .int) :: ([.fieldLink RX6 23 "WoundMedalsModel" "now" "[I", .methodLink RX6 38 yX6_in, .static yX6_in, .initialized RX6, .code yX6_in cX6_in 3 (some .boolean), .methodLink RX6 42 yX6_addMan, .static yX6_addMan, .code yX6_addMan cX6_addMan 3 (some .int)] ++ wsX60)
def wsX6_medal : List Cond := .code yX6_medal cX6_medal 4 (some .int) :: ([.fieldLink RX6 23 "WoundMedalsModel" "now" "[I", .methodLink RX6 38 yX6_in, .static yX6_in, .initialized RX6, .code yX6_in cX6_in 3 (some .boolean), .methodLink RX6 46 yX6_isMan, .instanceMethod yX6_isMan, .selects RX6 yX6_isMan yX6_isMan, .code yX6_isMan cX6_isMan 2 (some .boolean), .methodLink RX6 50 yX6_addMedal, .static yX6_addMedal, .code yX6_addMedal cX6_addMedal 5 (some .int)] ++ wsX60)
def wsX6_wornBy : List Cond := .code yX6_wornBy cX6_wornBy 4 (some .int) :: ([])
def wsX6_bears : List Cond := .code yX6_bears cX6_bears 6 (some .int) :: ([.methodLink RX6 54 yX6_wornBy, .static yX6_wornBy, .initialized RX6, .code yX6_wornBy cX6_wornBy 4 (some .int), .methodLink RX6 57 yX6_bits, .static yX6_bits, .code yX6_bits cX6_bits 3 (some .int)])
def wsX6_load : List Cond := .code yX6_load cX6_load 4 (some .int) :: ([.methodLink RX6 61 yX6_bears, .static yX6_bears, .initialized RX6, .code yX6_bears cX6_bears 6 (some .int), .methodLink RX6 54 yX6_wornBy, .static yX6_wornBy, .code yX6_wornBy cX6_wornBy 4 (some .int), .methodLink RX6 57 yX6_bits, .static yX6_bits, .code yX6_bits cX6_bits 3 (some .int)])
def wsX6_isBent : List Cond := .code yX6_isBent cX6_isBent 2 (some .boolean) :: ([.methodLink RX6 64 yX6_load, .static yX6_load, .initialized RX6, .code yX6_load cX6_load 4 (some .int), .methodLink RX6 61 yX6_bears, .static yX6_bears, .code yX6_bears cX6_bears 6 (some .int), .methodLink RX6 54 yX6_wornBy, .static yX6_wornBy, .code yX6_wornBy cX6_wornBy 4 (some .int), .methodLink RX6 57 yX6_bits, .static yX6_bits, .code yX6_bits cX6_bits 3 (some .int)])
def wsX6_bentOnes : List Cond := .code yX6_bentOnes cX6_bentOnes 3 (some .int) :: ([.methodLink RX6 67 yX6_isBent, .static yX6_isBent, .initialized RX6, .code yX6_isBent cX6_isBent 2 (some .boolean), .methodLink RX6 64 yX6_load, .static yX6_load, .code yX6_load cX6_load 4 (some .int), .methodLink RX6 61 yX6_bears, .static yX6_bears, .code yX6_bears cX6_bears 6 (some .int), .methodLink RX6 54 yX6_wornBy, .static yX6_wornBy, .code yX6_wornBy cX6_wornBy 4 (some .int), .methodLink RX6 57 yX6_bits, .static yX6_bits, .code yX6_bits cX6_bits 3 (some .int)])
def wsX6_woundsOf : List Cond := .code yX6_woundsOf cX6_woundsOf 4 (some .int) :: ([.fieldLink RX6 23 "WoundMedalsModel" "now" "[I"] ++ wsX60)
def wsX6_of_r1 : List Cond := [Cond.fieldLink RX6 23 "WoundMedalsModel" "now" "[I", Cond.methodLink RX6 46 yX6_isMan, Cond.instanceMethod yX6_isMan, Cond.selects RX6 yX6_isMan yX6_isMan, Cond.initialized RX6, Cond.code yX6_isMan cX6_isMan 2 (some .boolean), Cond.methodLink RX6 38 yX6_in, Cond.static yX6_in, Cond.code yX6_in cX6_in 3 (some .boolean), Cond.methodLink RX6 64 yX6_load, Cond.static yX6_load, Cond.code yX6_load cX6_load 4 (some .int), Cond.methodLink RX6 61 yX6_bears, Cond.static yX6_bears, Cond.code yX6_bears cX6_bears 6 (some .int), Cond.methodLink RX6 54 yX6_wornBy, Cond.static yX6_wornBy, Cond.code yX6_wornBy cX6_wornBy 4 (some .int), Cond.methodLink RX6 57 yX6_bits, Cond.static yX6_bits, Cond.code yX6_bits cX6_bits 3 (some .int), Cond.methodLink RX6 67 yX6_isBent, Cond.static yX6_isBent, Cond.code yX6_isBent cX6_isBent 2 (some .boolean)]
def wsX6_of_r2 : List Cond := [Cond.methodLink RX6 71 yX6_woundsOf, Cond.instanceMethod yX6_woundsOf, Cond.selects RX6 yX6_woundsOf yX6_woundsOf, Cond.code yX6_woundsOf cX6_woundsOf 4 (some .int)]
def wsX6_of : List Cond := .code yX6_of cX6_of 3 (some .int) :: ((wsX6_of_r1 ++ wsX6_of_r2) ++ wsX60)
def wsX6_at : List Cond := .code yX6_at cX6_at 3 (some .int) :: ([.fieldLink RX6 23 "WoundMedalsModel" "now" "[I", .methodLink RX6 74 yX6_isMedal, .instanceMethod yX6_isMedal, .selects RX6 yX6_isMedal yX6_isMedal, .initialized RX6, .code yX6_isMedal cX6_isMedal 2 (some .boolean), .methodLink RX6 38 yX6_in, .static yX6_in, .code yX6_in cX6_in 3 (some .boolean), .methodLink RX6 61 yX6_bears, .static yX6_bears, .code yX6_bears cX6_bears 6 (some .int), .methodLink RX6 54 yX6_wornBy, .static yX6_wornBy, .code yX6_wornBy cX6_wornBy 4 (some .int), .methodLink RX6 57 yX6_bits, .static yX6_bits, .code yX6_bits cX6_bits 3 (some .int)] ++ wsX60)
def wsX6_type : List Cond := .code yX6_type cX6_type 2 (some .int) :: ([.fieldLink RX6 77 "WoundMedalsModel" "letters" "I", .fieldLink RX6 20 "WoundMedalsModel" "tape" "[I", .methodLink RX6 38 yX6_in, .static yX6_in, .initialized RX6, .code yX6_in cX6_in 3 (some .boolean)] ++ wsX60)
def wsX6_peek : List Cond := .code yX6_peek cX6_peek 1 (some .int) :: ([.fieldLink RX6 81 "WoundMedalsModel" "position" "I", .fieldLink RX6 77 "WoundMedalsModel" "letters" "I", .fieldLink RX6 20 "WoundMedalsModel" "tape" "[I"] ++ wsX60)
def wsX6_isSign : List Cond := .code yX6_isSign cX6_isSign 2 (some .boolean) :: ([.fieldLink RX6 81 "WoundMedalsModel" "position" "I", .methodLink RX6 84 yX6_peek, .instanceMethod yX6_peek, .selects RX6 yX6_peek yX6_peek, .initialized RX6, .code yX6_peek cX6_peek 1 (some .int), .fieldLink RX6 77 "WoundMedalsModel" "letters" "I", .fieldLink RX6 20 "WoundMedalsModel" "tape" "[I"] ++ wsX60)
def wsX6_isDigit : List Cond := .code yX6_isDigit cX6_isDigit 3 (some .boolean) :: ([.fieldLink RX6 88 "WoundMedalsModel" "number" "I", .fieldLink RX6 81 "WoundMedalsModel" "position" "I", .methodLink RX6 84 yX6_peek, .instanceMethod yX6_peek, .selects RX6 yX6_peek yX6_peek, .initialized RX6, .code yX6_peek cX6_peek 1 (some .int), .fieldLink RX6 77 "WoundMedalsModel" "letters" "I", .fieldLink RX6 20 "WoundMedalsModel" "tape" "[I", .methodLink RX6 38 yX6_in, .static yX6_in, .code yX6_in cX6_in 3 (some .boolean)] ++ wsX60)
def wsX6_isNumber : List Cond := .code yX6_isNumber cX6_isNumber 5 (some .boolean) :: ([.fieldLink RX6 81 "WoundMedalsModel" "position" "I", .fieldLink RX6 88 "WoundMedalsModel" "number" "I", .fieldLink RX6 77 "WoundMedalsModel" "letters" "I", .fieldLink RX6 20 "WoundMedalsModel" "tape" "[I", .methodLink RX6 91 yX6_isDigit, .instanceMethod yX6_isDigit, .selects RX6 yX6_isDigit yX6_isDigit, .initialized RX6, .code yX6_isDigit cX6_isDigit 3 (some .boolean), .methodLink RX6 84 yX6_peek, .instanceMethod yX6_peek, .selects RX6 yX6_peek yX6_peek, .code yX6_peek cX6_peek 1 (some .int), .methodLink RX6 38 yX6_in, .static yX6_in, .code yX6_in cX6_in 3 (some .boolean)] ++ wsX60)
def wsX6_kindBy : List Cond := .code yX6_kindBy cX6_kindBy 1 (some .int) :: ([])
def wsX6_isManItem_r1 : List Cond := [Cond.fieldLink RX6 29 "WoundMedalsModel" "read" "[I", Cond.fieldLink RX6 88 "WoundMedalsModel" "number" "I", Cond.methodLink RX6 95 yX6_isNumber, Cond.instanceMethod yX6_isNumber, Cond.selects RX6 yX6_isNumber yX6_isNumber, Cond.initialized RX6, Cond.code yX6_isNumber cX6_isNumber 5 (some .boolean), Cond.fieldLink RX6 81 "WoundMedalsModel" "position" "I", Cond.fieldLink RX6 77 "WoundMedalsModel" "letters" "I", Cond.fieldLink RX6 20 "WoundMedalsModel" "tape" "[I", Cond.methodLink RX6 91 yX6_isDigit, Cond.instanceMethod yX6_isDigit, Cond.selects RX6 yX6_isDigit yX6_isDigit, Cond.code yX6_isDigit cX6_isDigit 3 (some .boolean), Cond.methodLink RX6 84 yX6_peek, Cond.instanceMethod yX6_peek, Cond.selects RX6 yX6_peek yX6_peek, Cond.code yX6_peek cX6_peek 1 (some .int), Cond.methodLink RX6 38 yX6_in, Cond.static yX6_in, Cond.code yX6_in cX6_in 3 (some .boolean), Cond.methodLink RX6 42 yX6_addMan, Cond.static yX6_addMan, Cond.code yX6_addMan cX6_addMan 3 (some .int)]
def wsX6_isManItem_r2 : List Cond := [Cond.methodLink RX6 98 yX6_isSign, Cond.instanceMethod yX6_isSign, Cond.selects RX6 yX6_isSign yX6_isSign, Cond.code yX6_isSign cX6_isSign 2 (some .boolean)]
def wsX6_isManItem : List Cond := .code yX6_isManItem cX6_isManItem 2 (some .boolean) :: ((wsX6_isManItem_r1 ++ wsX6_isManItem_r2) ++ wsX60)
def wsX6_isMedalItem_r1 : List Cond := [Cond.fieldLink RX6 81 "WoundMedalsModel" "position" "I", Cond.fieldLink RX6 88 "WoundMedalsModel" "number" "I", Cond.fieldLink RX6 29 "WoundMedalsModel" "read" "[I", Cond.methodLink RX6 84 yX6_peek, Cond.instanceMethod yX6_peek, Cond.selects RX6 yX6_peek yX6_peek, Cond.initialized RX6, Cond.code yX6_peek cX6_peek 1 (some .int), Cond.fieldLink RX6 77 "WoundMedalsModel" "letters" "I", Cond.fieldLink RX6 20 "WoundMedalsModel" "tape" "[I", Cond.methodLink RX6 101 yX6_kindBy, Cond.static yX6_kindBy, Cond.code yX6_kindBy cX6_kindBy 1 (some .int), Cond.methodLink RX6 95 yX6_isNumber, Cond.instanceMethod yX6_isNumber, Cond.selects RX6 yX6_isNumber yX6_isNumber, Cond.code yX6_isNumber cX6_isNumber 5 (some .boolean), Cond.methodLink RX6 91 yX6_isDigit, Cond.instanceMethod yX6_isDigit, Cond.selects RX6 yX6_isDigit yX6_isDigit, Cond.code yX6_isDigit cX6_isDigit 3 (some .boolean), Cond.methodLink RX6 38 yX6_in, Cond.static yX6_in, Cond.code yX6_in cX6_in 3 (some .boolean)]
def wsX6_isMedalItem_r2 : List Cond := [Cond.methodLink RX6 98 yX6_isSign, Cond.instanceMethod yX6_isSign, Cond.selects RX6 yX6_isSign yX6_isSign, Cond.code yX6_isSign cX6_isSign 2 (some .boolean), Cond.methodLink RX6 50 yX6_addMedal, Cond.static yX6_addMedal, Cond.code yX6_addMedal cX6_addMedal 5 (some .int)]
def wsX6_isMedalItem : List Cond := .code yX6_isMedalItem cX6_isMedalItem 4 (some .boolean) :: ((wsX6_isMedalItem_r1 ++ wsX6_isMedalItem_r2) ++ wsX60)
def wsX6_isState_r1 : List Cond := [Cond.fieldLink RX6 29 "WoundMedalsModel" "read" "[I", Cond.methodLink RX6 104 yX6_isManItem, Cond.instanceMethod yX6_isManItem, Cond.selects RX6 yX6_isManItem yX6_isManItem, Cond.initialized RX6, Cond.code yX6_isManItem cX6_isManItem 2 (some .boolean), Cond.fieldLink RX6 88 "WoundMedalsModel" "number" "I", Cond.methodLink RX6 95 yX6_isNumber, Cond.instanceMethod yX6_isNumber, Cond.selects RX6 yX6_isNumber yX6_isNumber, Cond.code yX6_isNumber cX6_isNumber 5 (some .boolean), Cond.fieldLink RX6 81 "WoundMedalsModel" "position" "I", Cond.fieldLink RX6 77 "WoundMedalsModel" "letters" "I", Cond.fieldLink RX6 20 "WoundMedalsModel" "tape" "[I", Cond.methodLink RX6 91 yX6_isDigit, Cond.instanceMethod yX6_isDigit, Cond.selects RX6 yX6_isDigit yX6_isDigit, Cond.code yX6_isDigit cX6_isDigit 3 (some .boolean), Cond.methodLink RX6 84 yX6_peek, Cond.instanceMethod yX6_peek, Cond.selects RX6 yX6_peek yX6_peek, Cond.code yX6_peek cX6_peek 1 (some .int), Cond.methodLink RX6 38 yX6_in, Cond.static yX6_in]
def wsX6_isState_r2 : List Cond := [Cond.code yX6_in cX6_in 3 (some .boolean), Cond.methodLink RX6 42 yX6_addMan, Cond.static yX6_addMan, Cond.code yX6_addMan cX6_addMan 3 (some .int), Cond.methodLink RX6 98 yX6_isSign, Cond.instanceMethod yX6_isSign, Cond.selects RX6 yX6_isSign yX6_isSign, Cond.code yX6_isSign cX6_isSign 2 (some .boolean), Cond.methodLink RX6 108 yX6_isMedalItem, Cond.instanceMethod yX6_isMedalItem, Cond.selects RX6 yX6_isMedalItem yX6_isMedalItem, Cond.code yX6_isMedalItem cX6_isMedalItem 4 (some .boolean), Cond.methodLink RX6 101 yX6_kindBy, Cond.static yX6_kindBy, Cond.code yX6_kindBy cX6_kindBy 1 (some .int), Cond.methodLink RX6 50 yX6_addMedal, Cond.static yX6_addMedal, Cond.code yX6_addMedal cX6_addMedal 5 (some .int)]
def wsX6_isState : List Cond := .code yX6_isState cX6_isState 2 (some .boolean) :: ((wsX6_isState_r1 ++ wsX6_isState_r2) ++ wsX60)
def wsX6_state_r1 : List Cond := [Cond.fieldLink RX6 29 "WoundMedalsModel" "read" "[I", Cond.fieldLink RX6 23 "WoundMedalsModel" "now" "[I", Cond.fieldLink RX6 81 "WoundMedalsModel" "position" "I", Cond.fieldLink RX6 77 "WoundMedalsModel" "letters" "I", Cond.methodLink RX6 111 yX6_isState, Cond.instanceMethod yX6_isState, Cond.selects RX6 yX6_isState yX6_isState, Cond.initialized RX6, Cond.code yX6_isState cX6_isState 2 (some .boolean), Cond.methodLink RX6 104 yX6_isManItem, Cond.instanceMethod yX6_isManItem, Cond.selects RX6 yX6_isManItem yX6_isManItem, Cond.code yX6_isManItem cX6_isManItem 2 (some .boolean), Cond.fieldLink RX6 88 "WoundMedalsModel" "number" "I", Cond.methodLink RX6 95 yX6_isNumber, Cond.instanceMethod yX6_isNumber, Cond.selects RX6 yX6_isNumber yX6_isNumber, Cond.code yX6_isNumber cX6_isNumber 5 (some .boolean), Cond.fieldLink RX6 20 "WoundMedalsModel" "tape" "[I", Cond.methodLink RX6 91 yX6_isDigit, Cond.instanceMethod yX6_isDigit, Cond.selects RX6 yX6_isDigit yX6_isDigit, Cond.code yX6_isDigit cX6_isDigit 3 (some .boolean), Cond.methodLink RX6 84 yX6_peek]
def wsX6_state_r2 : List Cond := [Cond.instanceMethod yX6_peek, Cond.selects RX6 yX6_peek yX6_peek, Cond.code yX6_peek cX6_peek 1 (some .int), Cond.methodLink RX6 38 yX6_in, Cond.static yX6_in, Cond.code yX6_in cX6_in 3 (some .boolean), Cond.methodLink RX6 42 yX6_addMan, Cond.static yX6_addMan, Cond.code yX6_addMan cX6_addMan 3 (some .int), Cond.methodLink RX6 98 yX6_isSign, Cond.instanceMethod yX6_isSign, Cond.selects RX6 yX6_isSign yX6_isSign, Cond.code yX6_isSign cX6_isSign 2 (some .boolean), Cond.methodLink RX6 108 yX6_isMedalItem, Cond.instanceMethod yX6_isMedalItem, Cond.selects RX6 yX6_isMedalItem yX6_isMedalItem, Cond.code yX6_isMedalItem cX6_isMedalItem 4 (some .boolean), Cond.methodLink RX6 101 yX6_kindBy, Cond.static yX6_kindBy, Cond.code yX6_kindBy cX6_kindBy 1 (some .int), Cond.methodLink RX6 50 yX6_addMedal, Cond.static yX6_addMedal, Cond.code yX6_addMedal cX6_addMedal 5 (some .int), Cond.methodLink RX6 114 yX6_bring]
def wsX6_state_r3 : List Cond := [Cond.static yX6_bring, Cond.code yX6_bring cX6_bring 6 none]
def wsX6_state : List Cond := .code yX6_state cX6_state 2 (some .int) :: ((wsX6_state_r1 ++ (wsX6_state_r2 ++ wsX6_state_r3)) ++ wsX60)
def wsX6_strengths : List Cond := .code yX6_strengths cX6_strengths 3 (some .int) :: ([.fieldLink RX6 23 "WoundMedalsModel" "now" "[I"] ++ wsX60)
def wsX6_loads : List Cond := .code yX6_loads cX6_loads 3 (some .int) :: ([.methodLink RX6 64 yX6_load, .static yX6_load, .initialized RX6, .code yX6_load cX6_load 4 (some .int), .methodLink RX6 61 yX6_bears, .static yX6_bears, .code yX6_bears cX6_bears 6 (some .int), .methodLink RX6 54 yX6_wornBy, .static yX6_wornBy, .code yX6_wornBy cX6_wornBy 4 (some .int), .methodLink RX6 57 yX6_bits, .static yX6_bits, .code yX6_bits cX6_bits 3 (some .int)])
def wsX6_count_r1 : List Cond := [Cond.fieldLink RX6 23 "WoundMedalsModel" "now" "[I", Cond.methodLink RX6 118 yX6_bentOnes, Cond.static yX6_bentOnes, Cond.initialized RX6, Cond.code yX6_bentOnes cX6_bentOnes 3 (some .int), Cond.methodLink RX6 67 yX6_isBent, Cond.static yX6_isBent, Cond.code yX6_isBent cX6_isBent 2 (some .boolean), Cond.methodLink RX6 64 yX6_load, Cond.static yX6_load, Cond.code yX6_load cX6_load 4 (some .int), Cond.methodLink RX6 61 yX6_bears, Cond.static yX6_bears, Cond.code yX6_bears cX6_bears 6 (some .int), Cond.methodLink RX6 54 yX6_wornBy, Cond.static yX6_wornBy, Cond.code yX6_wornBy cX6_wornBy 4 (some .int), Cond.methodLink RX6 57 yX6_bits, Cond.static yX6_bits, Cond.code yX6_bits cX6_bits 3 (some .int), Cond.methodLink RX6 122 yX6_strengths, Cond.instanceMethod yX6_strengths, Cond.selects RX6 yX6_strengths yX6_strengths, Cond.code yX6_strengths cX6_strengths 3 (some .int)]
def wsX6_count_r2 : List Cond := [Cond.methodLink RX6 125 yX6_loads, Cond.static yX6_loads, Cond.code yX6_loads cX6_loads 3 (some .int)]
def wsX6_count : List Cond := .code yX6_count cX6_count 2 (some .int) :: ((wsX6_count_r1 ++ wsX6_count_r2) ++ wsX60)
def wsX6_note : List Cond := .code yX6_note cX6_note 1 none :: ([.fieldLink RX6 23 "WoundMedalsModel" "now" "[I", .methodLink RX6 114 yX6_bring, .static yX6_bring, .initialized RX6, .code yX6_bring cX6_bring 6 none] ++ wsX60)
def wsX6_dayIn : List Cond := .code yX6_dayIn cX6_dayIn 4 none :: ([.methodLink RX6 118 yX6_bentOnes, .static yX6_bentOnes, .initialized RX6, .code yX6_bentOnes cX6_bentOnes 3 (some .int), .methodLink RX6 67 yX6_isBent, .static yX6_isBent, .code yX6_isBent cX6_isBent 2 (some .boolean), .methodLink RX6 64 yX6_load, .static yX6_load, .code yX6_load cX6_load 4 (some .int), .methodLink RX6 61 yX6_bears, .static yX6_bears, .code yX6_bears cX6_bears 6 (some .int), .methodLink RX6 54 yX6_wornBy, .static yX6_wornBy, .code yX6_wornBy cX6_wornBy 4 (some .int), .methodLink RX6 57 yX6_bits, .static yX6_bits, .code yX6_bits cX6_bits 3 (some .int)])
def wsX6_days_r1 : List Cond := [Cond.fieldLink RX6 23 "WoundMedalsModel" "now" "[I", Cond.methodLink RX6 38 yX6_in, Cond.static yX6_in, Cond.initialized RX6, Cond.code yX6_in cX6_in 3 (some .boolean), Cond.methodLink RX6 128 yX6_note, Cond.instanceMethod yX6_note, Cond.selects RX6 yX6_note yX6_note, Cond.code yX6_note cX6_note 1 none, Cond.methodLink RX6 114 yX6_bring, Cond.static yX6_bring, Cond.code yX6_bring cX6_bring 6 none, Cond.methodLink RX6 131 yX6_dayIn, Cond.static yX6_dayIn, Cond.code yX6_dayIn cX6_dayIn 4 none, Cond.methodLink RX6 118 yX6_bentOnes, Cond.static yX6_bentOnes, Cond.code yX6_bentOnes cX6_bentOnes 3 (some .int), Cond.methodLink RX6 67 yX6_isBent, Cond.static yX6_isBent, Cond.code yX6_isBent cX6_isBent 2 (some .boolean), Cond.methodLink RX6 64 yX6_load, Cond.static yX6_load, Cond.code yX6_load cX6_load 4 (some .int)]
def wsX6_days_r2 : List Cond := [Cond.methodLink RX6 61 yX6_bears, Cond.static yX6_bears, Cond.code yX6_bears cX6_bears 6 (some .int), Cond.methodLink RX6 54 yX6_wornBy, Cond.static yX6_wornBy, Cond.code yX6_wornBy cX6_wornBy 4 (some .int), Cond.methodLink RX6 57 yX6_bits, Cond.static yX6_bits, Cond.code yX6_bits cX6_bits 3 (some .int)]
def wsX6_days : List Cond := .code yX6_days cX6_days 3 (some .int) :: ((wsX6_days_r1 ++ wsX6_days_r2) ++ wsX60)
def wsX6_hang : List Cond := .code yX6_hang cX6_hang 4 (some .int) :: ([.fieldLink RX6 23 "WoundMedalsModel" "now" "[I", .methodLink RX6 74 yX6_isMedal, .instanceMethod yX6_isMedal, .selects RX6 yX6_isMedal yX6_isMedal, .initialized RX6, .code yX6_isMedal cX6_isMedal 2 (some .boolean), .methodLink RX6 38 yX6_in, .static yX6_in, .code yX6_in cX6_in 3 (some .boolean), .methodLink RX6 46 yX6_isMan, .instanceMethod yX6_isMan, .selects RX6 yX6_isMan yX6_isMan, .code yX6_isMan cX6_isMan 2 (some .boolean), .methodLink RX6 128 yX6_note, .instanceMethod yX6_note, .selects RX6 yX6_note yX6_note, .code yX6_note cX6_note 1 none, .methodLink RX6 114 yX6_bring, .static yX6_bring, .code yX6_bring cX6_bring 6 none] ++ wsX60)
def wsX6_polish : List Cond := .code yX6_polish cX6_polish 3 (some .int) :: ([.fieldLink RX6 23 "WoundMedalsModel" "now" "[I", .methodLink RX6 74 yX6_isMedal, .instanceMethod yX6_isMedal, .selects RX6 yX6_isMedal yX6_isMedal, .initialized RX6, .code yX6_isMedal cX6_isMedal 2 (some .boolean), .methodLink RX6 38 yX6_in, .static yX6_in, .code yX6_in cX6_in 3 (some .boolean), .methodLink RX6 128 yX6_note, .instanceMethod yX6_note, .selects RX6 yX6_note yX6_note, .code yX6_note cX6_note 1 none, .methodLink RX6 114 yX6_bring, .static yX6_bring, .code yX6_bring cX6_bring 6 none] ++ wsX60)
def wsX6_drift_r1 : List Cond := [Cond.fieldLink RX6 23 "WoundMedalsModel" "now" "[I", Cond.constantLong RX6 135 (1103515245), Cond.constantLong RX6 137 (12345), Cond.constantLong RX6 139 (2147483648), Cond.constant RX6 141 (65536), Cond.methodLink RX6 38 yX6_in, Cond.static yX6_in, Cond.initialized RX6, Cond.code yX6_in cX6_in 3 (some .boolean), Cond.methodLink RX6 128 yX6_note, Cond.instanceMethod yX6_note, Cond.selects RX6 yX6_note yX6_note, Cond.code yX6_note cX6_note 1 none, Cond.methodLink RX6 114 yX6_bring, Cond.static yX6_bring, Cond.code yX6_bring cX6_bring 6 none, Cond.methodLink RX6 131 yX6_dayIn, Cond.static yX6_dayIn, Cond.code yX6_dayIn cX6_dayIn 4 none, Cond.methodLink RX6 118 yX6_bentOnes, Cond.static yX6_bentOnes, Cond.code yX6_bentOnes cX6_bentOnes 3 (some .int), Cond.methodLink RX6 67 yX6_isBent, Cond.static yX6_isBent]
def wsX6_drift_r2 : List Cond := [Cond.code yX6_isBent cX6_isBent 2 (some .boolean), Cond.methodLink RX6 64 yX6_load, Cond.static yX6_load, Cond.code yX6_load cX6_load 4 (some .int), Cond.methodLink RX6 61 yX6_bears, Cond.static yX6_bears, Cond.code yX6_bears cX6_bears 6 (some .int), Cond.methodLink RX6 54 yX6_wornBy, Cond.static yX6_wornBy, Cond.code yX6_wornBy cX6_wornBy 4 (some .int), Cond.methodLink RX6 57 yX6_bits, Cond.static yX6_bits, Cond.code yX6_bits cX6_bits 3 (some .int)]
def wsX6_drift : List Cond := .code yX6_drift cX6_drift 3 (some .int) :: ((wsX6_drift_r1 ++ wsX6_drift_r2) ++ wsX60)
def wsX6_undo : List Cond := .code yX6_undo cX6_undo 1 (some .int) :: ([.fieldLink RX6 23 "WoundMedalsModel" "now" "[I", .methodLink RX6 114 yX6_bring, .static yX6_bring, .initialized RX6, .code yX6_bring cX6_bring 6 none] ++ wsX60)
def wsX6_seed : List Cond := .code yX6_seed cX6_seed 3 (some .int) :: ([.fieldLink RX6 23 "WoundMedalsModel" "now" "[I"] ++ wsX60)
def wsX6_begin : List Cond := .code yX6_begin cX6_begin 1 none :: ([.fieldLink RX6 23 "WoundMedalsModel" "now" "[I", .fieldLink RX6 26 "WoundMedalsModel" "tried" "[I", .methodLink RX6 114 yX6_bring, .static yX6_bring, .initialized RX6, .code yX6_bring cX6_bring 6 none] ++ wsX60)
def wsX6_goOn : List Cond := .code yX6_goOn cX6_goOn 3 none :: ([.fieldLink RX6 26 "WoundMedalsModel" "tried" "[I", .methodLink RX6 131 yX6_dayIn, .static yX6_dayIn, .initialized RX6, .code yX6_dayIn cX6_dayIn 4 none, .methodLink RX6 118 yX6_bentOnes, .static yX6_bentOnes, .code yX6_bentOnes cX6_bentOnes 3 (some .int), .methodLink RX6 67 yX6_isBent, .static yX6_isBent, .code yX6_isBent cX6_isBent 2 (some .boolean), .methodLink RX6 64 yX6_load, .static yX6_load, .code yX6_load cX6_load 4 (some .int), .methodLink RX6 61 yX6_bears, .static yX6_bears, .code yX6_bears cX6_bears 6 (some .int), .methodLink RX6 54 yX6_wornBy, .static yX6_wornBy, .code yX6_wornBy cX6_wornBy 4 (some .int), .methodLink RX6 57 yX6_bits, .static yX6_bits, .code yX6_bits cX6_bits 3 (some .int)] ++ wsX60)
def wsX6_ahead_r1 : List Cond := [Cond.fieldLink RX6 26 "WoundMedalsModel" "tried" "[I", Cond.methodLink RX6 46 yX6_isMan, Cond.instanceMethod yX6_isMan, Cond.selects RX6 yX6_isMan yX6_isMan, Cond.initialized RX6, Cond.code yX6_isMan cX6_isMan 2 (some .boolean), Cond.fieldLink RX6 23 "WoundMedalsModel" "now" "[I", Cond.methodLink RX6 38 yX6_in, Cond.static yX6_in, Cond.code yX6_in cX6_in 3 (some .boolean), Cond.methodLink RX6 142 yX6_begin, Cond.instanceMethod yX6_begin, Cond.selects RX6 yX6_begin yX6_begin, Cond.code yX6_begin cX6_begin 1 none, Cond.methodLink RX6 114 yX6_bring, Cond.static yX6_bring, Cond.code yX6_bring cX6_bring 6 none, Cond.methodLink RX6 145 yX6_goOn, Cond.instanceMethod yX6_goOn, Cond.selects RX6 yX6_goOn yX6_goOn, Cond.code yX6_goOn cX6_goOn 3 none, Cond.methodLink RX6 131 yX6_dayIn, Cond.static yX6_dayIn, Cond.code yX6_dayIn cX6_dayIn 4 none]
def wsX6_ahead_r2 : List Cond := [Cond.methodLink RX6 118 yX6_bentOnes, Cond.static yX6_bentOnes, Cond.code yX6_bentOnes cX6_bentOnes 3 (some .int), Cond.methodLink RX6 67 yX6_isBent, Cond.static yX6_isBent, Cond.code yX6_isBent cX6_isBent 2 (some .boolean), Cond.methodLink RX6 64 yX6_load, Cond.static yX6_load, Cond.code yX6_load cX6_load 4 (some .int), Cond.methodLink RX6 61 yX6_bears, Cond.static yX6_bears, Cond.code yX6_bears cX6_bears 6 (some .int), Cond.methodLink RX6 54 yX6_wornBy, Cond.static yX6_wornBy, Cond.code yX6_wornBy cX6_wornBy 4 (some .int), Cond.methodLink RX6 57 yX6_bits, Cond.static yX6_bits, Cond.code yX6_bits cX6_bits 3 (some .int)]
def wsX6_ahead : List Cond := .code yX6_ahead cX6_ahead 4 (some .int) :: ((wsX6_ahead_r1 ++ wsX6_ahead_r2) ++ wsX60)
def wsX6_then_r1 : List Cond := [Cond.fieldLink RX6 26 "WoundMedalsModel" "tried" "[I", Cond.methodLink RX6 38 yX6_in, Cond.static yX6_in, Cond.initialized RX6, Cond.code yX6_in cX6_in 3 (some .boolean), Cond.methodLink RX6 142 yX6_begin, Cond.instanceMethod yX6_begin, Cond.selects RX6 yX6_begin yX6_begin, Cond.code yX6_begin cX6_begin 1 none, Cond.fieldLink RX6 23 "WoundMedalsModel" "now" "[I", Cond.methodLink RX6 114 yX6_bring, Cond.static yX6_bring, Cond.code yX6_bring cX6_bring 6 none, Cond.methodLink RX6 145 yX6_goOn, Cond.instanceMethod yX6_goOn, Cond.selects RX6 yX6_goOn yX6_goOn, Cond.code yX6_goOn cX6_goOn 3 none, Cond.methodLink RX6 131 yX6_dayIn, Cond.static yX6_dayIn, Cond.code yX6_dayIn cX6_dayIn 4 none, Cond.methodLink RX6 118 yX6_bentOnes, Cond.static yX6_bentOnes, Cond.code yX6_bentOnes cX6_bentOnes 3 (some .int), Cond.methodLink RX6 67 yX6_isBent]
def wsX6_then_r2 : List Cond := [Cond.static yX6_isBent, Cond.code yX6_isBent cX6_isBent 2 (some .boolean), Cond.methodLink RX6 64 yX6_load, Cond.static yX6_load, Cond.code yX6_load cX6_load 4 (some .int), Cond.methodLink RX6 61 yX6_bears, Cond.static yX6_bears, Cond.code yX6_bears cX6_bears 6 (some .int), Cond.methodLink RX6 54 yX6_wornBy, Cond.static yX6_wornBy, Cond.code yX6_wornBy cX6_wornBy 4 (some .int), Cond.methodLink RX6 57 yX6_bits, Cond.static yX6_bits, Cond.code yX6_bits cX6_bits 3 (some .int)]
def wsX6_then : List Cond := .code yX6_then cX6_then 2 (some .int) :: ((wsX6_then_r1 ++ wsX6_then_r2) ++ wsX60)
def wsX6_done_r1 : List Cond := [Cond.fieldLink RX6 26 "WoundMedalsModel" "tried" "[I", Cond.methodLink RX6 46 yX6_isMan, Cond.instanceMethod yX6_isMan, Cond.selects RX6 yX6_isMan yX6_isMan, Cond.initialized RX6, Cond.code yX6_isMan cX6_isMan 2 (some .boolean), Cond.fieldLink RX6 23 "WoundMedalsModel" "now" "[I", Cond.methodLink RX6 38 yX6_in, Cond.static yX6_in, Cond.code yX6_in cX6_in 3 (some .boolean), Cond.methodLink RX6 142 yX6_begin, Cond.instanceMethod yX6_begin, Cond.selects RX6 yX6_begin yX6_begin, Cond.code yX6_begin cX6_begin 1 none, Cond.methodLink RX6 114 yX6_bring, Cond.static yX6_bring, Cond.code yX6_bring cX6_bring 6 none, Cond.methodLink RX6 131 yX6_dayIn, Cond.static yX6_dayIn, Cond.code yX6_dayIn cX6_dayIn 4 none, Cond.methodLink RX6 118 yX6_bentOnes, Cond.static yX6_bentOnes, Cond.code yX6_bentOnes cX6_bentOnes 3 (some .int), Cond.methodLink RX6 67 yX6_isBent]
def wsX6_done_r2 : List Cond := [Cond.static yX6_isBent, Cond.code yX6_isBent cX6_isBent 2 (some .boolean), Cond.methodLink RX6 64 yX6_load, Cond.static yX6_load, Cond.code yX6_load cX6_load 4 (some .int), Cond.methodLink RX6 61 yX6_bears, Cond.static yX6_bears, Cond.code yX6_bears cX6_bears 6 (some .int), Cond.methodLink RX6 54 yX6_wornBy, Cond.static yX6_wornBy, Cond.code yX6_wornBy cX6_wornBy 4 (some .int), Cond.methodLink RX6 57 yX6_bits, Cond.static yX6_bits, Cond.code yX6_bits cX6_bits 3 (some .int)]
def wsX6_done : List Cond := .code yX6_done cX6_done 3 (some .int) :: ((wsX6_done_r1 ++ wsX6_done_r2) ++ wsX60)
def wsX6_ever_r1 : List Cond := [Cond.fieldLink RX6 26 "WoundMedalsModel" "tried" "[I", Cond.methodLink RX6 142 yX6_begin, Cond.instanceMethod yX6_begin, Cond.selects RX6 yX6_begin yX6_begin, Cond.initialized RX6, Cond.code yX6_begin cX6_begin 1 none, Cond.fieldLink RX6 23 "WoundMedalsModel" "now" "[I", Cond.methodLink RX6 114 yX6_bring, Cond.static yX6_bring, Cond.code yX6_bring cX6_bring 6 none, Cond.methodLink RX6 118 yX6_bentOnes, Cond.static yX6_bentOnes, Cond.code yX6_bentOnes cX6_bentOnes 3 (some .int), Cond.methodLink RX6 67 yX6_isBent, Cond.static yX6_isBent, Cond.code yX6_isBent cX6_isBent 2 (some .boolean), Cond.methodLink RX6 64 yX6_load, Cond.static yX6_load, Cond.code yX6_load cX6_load 4 (some .int), Cond.methodLink RX6 61 yX6_bears, Cond.static yX6_bears, Cond.code yX6_bears cX6_bears 6 (some .int), Cond.methodLink RX6 54 yX6_wornBy, Cond.static yX6_wornBy]
def wsX6_ever_r2 : List Cond := [Cond.code yX6_wornBy cX6_wornBy 4 (some .int), Cond.methodLink RX6 57 yX6_bits, Cond.static yX6_bits, Cond.code yX6_bits cX6_bits 3 (some .int), Cond.methodLink RX6 131 yX6_dayIn, Cond.static yX6_dayIn, Cond.code yX6_dayIn cX6_dayIn 4 none]
def wsX6_ever : List Cond := .code yX6_ever cX6_ever 3 (some .int) :: ((wsX6_ever_r1 ++ wsX6_ever_r2) ++ wsX60)
def wsX6_ways : List Cond := .code yX6_ways cX6_ways 3 (some .int) :: ([.fieldLink RX6 23 "WoundMedalsModel" "now" "[I"] ++ wsX60)
def wsX6_hangBy : List Cond := .code yX6_hangBy cX6_hangBy 5 (some .int) :: ([.fieldLink RX6 23 "WoundMedalsModel" "now" "[I", .fieldLink RX6 26 "WoundMedalsModel" "tried" "[I", .methodLink RX6 142 yX6_begin, .instanceMethod yX6_begin, .selects RX6 yX6_begin yX6_begin, .initialized RX6, .code yX6_begin cX6_begin 1 none, .methodLink RX6 114 yX6_bring, .static yX6_bring, .code yX6_bring cX6_bring 6 none] ++ wsX60)
def wsX6_greatest : List Cond := .code yX6_greatest cX6_greatest 3 (some .int) :: ([.methodLink RX6 64 yX6_load, .static yX6_load, .initialized RX6, .code yX6_load cX6_load 4 (some .int), .methodLink RX6 61 yX6_bears, .static yX6_bears, .code yX6_bears cX6_bears 6 (some .int), .methodLink RX6 54 yX6_wornBy, .static yX6_wornBy, .code yX6_wornBy cX6_wornBy 4 (some .int), .methodLink RX6 57 yX6_bits, .static yX6_bits, .code yX6_bits cX6_bits 3 (some .int)])
def wsX6_layBest_r1 : List Cond := [Cond.fieldLink RX6 149 "WoundMedalsModel" "bestMuch" "I", Cond.fieldLink RX6 152 "WoundMedalsModel" "bestChange" "I", Cond.fieldLink RX6 26 "WoundMedalsModel" "tried" "[I", Cond.fieldLink RX6 35 "WoundMedalsModel" "best" "[I", Cond.methodLink RX6 155 yX6_ways, Cond.instanceMethod yX6_ways, Cond.selects RX6 yX6_ways yX6_ways, Cond.initialized RX6, Cond.code yX6_ways cX6_ways 3 (some .int), Cond.fieldLink RX6 23 "WoundMedalsModel" "now" "[I", Cond.methodLink RX6 158 yX6_hangBy, Cond.instanceMethod yX6_hangBy, Cond.selects RX6 yX6_hangBy yX6_hangBy, Cond.code yX6_hangBy cX6_hangBy 5 (some .int), Cond.methodLink RX6 142 yX6_begin, Cond.instanceMethod yX6_begin, Cond.selects RX6 yX6_begin yX6_begin, Cond.code yX6_begin cX6_begin 1 none, Cond.methodLink RX6 114 yX6_bring, Cond.static yX6_bring, Cond.code yX6_bring cX6_bring 6 none, Cond.methodLink RX6 161 yX6_greatest, Cond.static yX6_greatest, Cond.code yX6_greatest cX6_greatest 3 (some .int)]
def wsX6_layBest_r2 : List Cond := [Cond.methodLink RX6 64 yX6_load, Cond.static yX6_load, Cond.code yX6_load cX6_load 4 (some .int), Cond.methodLink RX6 61 yX6_bears, Cond.static yX6_bears, Cond.code yX6_bears cX6_bears 6 (some .int), Cond.methodLink RX6 54 yX6_wornBy, Cond.static yX6_wornBy, Cond.code yX6_wornBy cX6_wornBy 4 (some .int), Cond.methodLink RX6 57 yX6_bits, Cond.static yX6_bits, Cond.code yX6_bits cX6_bits 3 (some .int), Cond.methodLink RX6 118 yX6_bentOnes, Cond.static yX6_bentOnes, Cond.code yX6_bentOnes cX6_bentOnes 3 (some .int), Cond.methodLink RX6 67 yX6_isBent, Cond.static yX6_isBent, Cond.code yX6_isBent cX6_isBent 2 (some .boolean)]
def wsX6_layBest : List Cond := .code yX6_layBest cX6_layBest 6 none :: ((wsX6_layBest_r1 ++ wsX6_layBest_r2) ++ wsX60)
def wsX6_even_r1 : List Cond := [Cond.fieldLink RX6 149 "WoundMedalsModel" "bestMuch" "I", Cond.fieldLink RX6 35 "WoundMedalsModel" "best" "[I", Cond.methodLink RX6 164 yX6_layBest, Cond.instanceMethod yX6_layBest, Cond.selects RX6 yX6_layBest yX6_layBest, Cond.initialized RX6, Cond.code yX6_layBest cX6_layBest 6 none, Cond.fieldLink RX6 152 "WoundMedalsModel" "bestChange" "I", Cond.fieldLink RX6 26 "WoundMedalsModel" "tried" "[I", Cond.methodLink RX6 155 yX6_ways, Cond.instanceMethod yX6_ways, Cond.selects RX6 yX6_ways yX6_ways, Cond.code yX6_ways cX6_ways 3 (some .int), Cond.fieldLink RX6 23 "WoundMedalsModel" "now" "[I", Cond.methodLink RX6 158 yX6_hangBy, Cond.instanceMethod yX6_hangBy, Cond.selects RX6 yX6_hangBy yX6_hangBy, Cond.code yX6_hangBy cX6_hangBy 5 (some .int), Cond.methodLink RX6 142 yX6_begin, Cond.instanceMethod yX6_begin, Cond.selects RX6 yX6_begin yX6_begin, Cond.code yX6_begin cX6_begin 1 none, Cond.methodLink RX6 114 yX6_bring, Cond.static yX6_bring]
def wsX6_even_r2 : List Cond := [Cond.code yX6_bring cX6_bring 6 none, Cond.methodLink RX6 161 yX6_greatest, Cond.static yX6_greatest, Cond.code yX6_greatest cX6_greatest 3 (some .int), Cond.methodLink RX6 64 yX6_load, Cond.static yX6_load, Cond.code yX6_load cX6_load 4 (some .int), Cond.methodLink RX6 61 yX6_bears, Cond.static yX6_bears, Cond.code yX6_bears cX6_bears 6 (some .int), Cond.methodLink RX6 54 yX6_wornBy, Cond.static yX6_wornBy, Cond.code yX6_wornBy cX6_wornBy 4 (some .int), Cond.methodLink RX6 57 yX6_bits, Cond.static yX6_bits, Cond.code yX6_bits cX6_bits 3 (some .int), Cond.methodLink RX6 118 yX6_bentOnes, Cond.static yX6_bentOnes, Cond.code yX6_bentOnes cX6_bentOnes 3 (some .int), Cond.methodLink RX6 67 yX6_isBent, Cond.static yX6_isBent, Cond.code yX6_isBent cX6_isBent 2 (some .boolean), Cond.methodLink RX6 74 yX6_isMedal, Cond.instanceMethod yX6_isMedal]
def wsX6_even_r3 : List Cond := [Cond.selects RX6 yX6_isMedal yX6_isMedal, Cond.code yX6_isMedal cX6_isMedal 2 (some .boolean), Cond.methodLink RX6 38 yX6_in, Cond.static yX6_in, Cond.code yX6_in cX6_in 3 (some .boolean)]
def wsX6_even : List Cond := .code yX6_even cX6_even 2 (some .int) :: ((wsX6_even_r1 ++ (wsX6_even_r2 ++ wsX6_even_r3)) ++ wsX60)
def wsX6_few_r1 : List Cond := [Cond.fieldLink RX6 149 "WoundMedalsModel" "bestMuch" "I", Cond.fieldLink RX6 152 "WoundMedalsModel" "bestChange" "I", Cond.fieldLink RX6 35 "WoundMedalsModel" "best" "[I", Cond.methodLink RX6 164 yX6_layBest, Cond.instanceMethod yX6_layBest, Cond.selects RX6 yX6_layBest yX6_layBest, Cond.initialized RX6, Cond.code yX6_layBest cX6_layBest 6 none, Cond.fieldLink RX6 26 "WoundMedalsModel" "tried" "[I", Cond.methodLink RX6 155 yX6_ways, Cond.instanceMethod yX6_ways, Cond.selects RX6 yX6_ways yX6_ways, Cond.code yX6_ways cX6_ways 3 (some .int), Cond.fieldLink RX6 23 "WoundMedalsModel" "now" "[I", Cond.methodLink RX6 158 yX6_hangBy, Cond.instanceMethod yX6_hangBy, Cond.selects RX6 yX6_hangBy yX6_hangBy, Cond.code yX6_hangBy cX6_hangBy 5 (some .int), Cond.methodLink RX6 142 yX6_begin, Cond.instanceMethod yX6_begin, Cond.selects RX6 yX6_begin yX6_begin, Cond.code yX6_begin cX6_begin 1 none, Cond.methodLink RX6 114 yX6_bring, Cond.static yX6_bring]
def wsX6_few_r2 : List Cond := [Cond.code yX6_bring cX6_bring 6 none, Cond.methodLink RX6 161 yX6_greatest, Cond.static yX6_greatest, Cond.code yX6_greatest cX6_greatest 3 (some .int), Cond.methodLink RX6 64 yX6_load, Cond.static yX6_load, Cond.code yX6_load cX6_load 4 (some .int), Cond.methodLink RX6 61 yX6_bears, Cond.static yX6_bears, Cond.code yX6_bears cX6_bears 6 (some .int), Cond.methodLink RX6 54 yX6_wornBy, Cond.static yX6_wornBy, Cond.code yX6_wornBy cX6_wornBy 4 (some .int), Cond.methodLink RX6 57 yX6_bits, Cond.static yX6_bits, Cond.code yX6_bits cX6_bits 3 (some .int), Cond.methodLink RX6 118 yX6_bentOnes, Cond.static yX6_bentOnes, Cond.code yX6_bentOnes cX6_bentOnes 3 (some .int), Cond.methodLink RX6 67 yX6_isBent, Cond.static yX6_isBent, Cond.code yX6_isBent cX6_isBent 2 (some .boolean), Cond.methodLink RX6 74 yX6_isMedal, Cond.instanceMethod yX6_isMedal]
def wsX6_few_r3 : List Cond := [Cond.selects RX6 yX6_isMedal yX6_isMedal, Cond.code yX6_isMedal cX6_isMedal 2 (some .boolean), Cond.methodLink RX6 38 yX6_in, Cond.static yX6_in, Cond.code yX6_in cX6_in 3 (some .boolean)]
def wsX6_few : List Cond := .code yX6_few cX6_few 2 (some .int) :: ((wsX6_few_r1 ++ (wsX6_few_r2 ++ wsX6_few_r3)) ++ wsX60)
def wsX6_off_r1 : List Cond := [Cond.fieldLink RX6 23 "WoundMedalsModel" "now" "[I", Cond.fieldLink RX6 26 "WoundMedalsModel" "tried" "[I", Cond.methodLink RX6 38 yX6_in, Cond.static yX6_in, Cond.initialized RX6, Cond.code yX6_in cX6_in 3 (some .boolean), Cond.methodLink RX6 142 yX6_begin, Cond.instanceMethod yX6_begin, Cond.selects RX6 yX6_begin yX6_begin, Cond.code yX6_begin cX6_begin 1 none, Cond.methodLink RX6 114 yX6_bring, Cond.static yX6_bring, Cond.code yX6_bring cX6_bring 6 none, Cond.methodLink RX6 145 yX6_goOn, Cond.instanceMethod yX6_goOn, Cond.selects RX6 yX6_goOn yX6_goOn, Cond.code yX6_goOn cX6_goOn 3 none, Cond.methodLink RX6 131 yX6_dayIn, Cond.static yX6_dayIn, Cond.code yX6_dayIn cX6_dayIn 4 none, Cond.methodLink RX6 118 yX6_bentOnes, Cond.static yX6_bentOnes, Cond.code yX6_bentOnes cX6_bentOnes 3 (some .int), Cond.methodLink RX6 67 yX6_isBent]
def wsX6_off_r2 : List Cond := [Cond.static yX6_isBent, Cond.code yX6_isBent cX6_isBent 2 (some .boolean), Cond.methodLink RX6 64 yX6_load, Cond.static yX6_load, Cond.code yX6_load cX6_load 4 (some .int), Cond.methodLink RX6 61 yX6_bears, Cond.static yX6_bears, Cond.code yX6_bears cX6_bears 6 (some .int), Cond.methodLink RX6 54 yX6_wornBy, Cond.static yX6_wornBy, Cond.code yX6_wornBy cX6_wornBy 4 (some .int), Cond.methodLink RX6 57 yX6_bits, Cond.static yX6_bits, Cond.code yX6_bits cX6_bits 3 (some .int)]
def wsX6_off : List Cond := .code yX6_off cX6_off 7 (some .int) :: ((wsX6_off_r1 ++ wsX6_off_r2) ++ wsX60)
def wsX6_isUpright : List Cond := .code yX6_isUpright cX6_isUpright 5 (some .boolean) :: ([.fieldLink RX6 26 "WoundMedalsModel" "tried" "[I", .methodLink RX6 67 yX6_isBent, .static yX6_isBent, .initialized RX6, .code yX6_isBent cX6_isBent 2 (some .boolean), .methodLink RX6 64 yX6_load, .static yX6_load, .code yX6_load cX6_load 4 (some .int), .methodLink RX6 61 yX6_bears, .static yX6_bears, .code yX6_bears cX6_bears 6 (some .int), .methodLink RX6 54 yX6_wornBy, .static yX6_wornBy, .code yX6_wornBy cX6_wornBy 4 (some .int), .methodLink RX6 57 yX6_bits, .static yX6_bits, .code yX6_bits cX6_bits 3 (some .int), .methodLink RX6 131 yX6_dayIn, .static yX6_dayIn, .code yX6_dayIn cX6_dayIn 4 none, .methodLink RX6 118 yX6_bentOnes, .static yX6_bentOnes, .code yX6_bentOnes cX6_bentOnes 3 (some .int)] ++ wsX60)
def wsX6_needs_r1 : List Cond := [Cond.fieldLink RX6 26 "WoundMedalsModel" "tried" "[I", Cond.methodLink RX6 46 yX6_isMan, Cond.instanceMethod yX6_isMan, Cond.selects RX6 yX6_isMan yX6_isMan, Cond.initialized RX6, Cond.code yX6_isMan cX6_isMan 2 (some .boolean), Cond.fieldLink RX6 23 "WoundMedalsModel" "now" "[I", Cond.methodLink RX6 38 yX6_in, Cond.static yX6_in, Cond.code yX6_in cX6_in 3 (some .boolean), Cond.methodLink RX6 142 yX6_begin, Cond.instanceMethod yX6_begin, Cond.selects RX6 yX6_begin yX6_begin, Cond.code yX6_begin cX6_begin 1 none, Cond.methodLink RX6 114 yX6_bring, Cond.static yX6_bring, Cond.code yX6_bring cX6_bring 6 none, Cond.methodLink RX6 168 yX6_isUpright, Cond.instanceMethod yX6_isUpright, Cond.selects RX6 yX6_isUpright yX6_isUpright, Cond.code yX6_isUpright cX6_isUpright 5 (some .boolean), Cond.methodLink RX6 67 yX6_isBent, Cond.static yX6_isBent, Cond.code yX6_isBent cX6_isBent 2 (some .boolean)]
def wsX6_needs_r2 : List Cond := [Cond.methodLink RX6 64 yX6_load, Cond.static yX6_load, Cond.code yX6_load cX6_load 4 (some .int), Cond.methodLink RX6 61 yX6_bears, Cond.static yX6_bears, Cond.code yX6_bears cX6_bears 6 (some .int), Cond.methodLink RX6 54 yX6_wornBy, Cond.static yX6_wornBy, Cond.code yX6_wornBy cX6_wornBy 4 (some .int), Cond.methodLink RX6 57 yX6_bits, Cond.static yX6_bits, Cond.code yX6_bits cX6_bits 3 (some .int), Cond.methodLink RX6 131 yX6_dayIn, Cond.static yX6_dayIn, Cond.code yX6_dayIn cX6_dayIn 4 none, Cond.methodLink RX6 118 yX6_bentOnes, Cond.static yX6_bentOnes, Cond.code yX6_bentOnes cX6_bentOnes 3 (some .int)]
def wsX6_needs : List Cond := .code yX6_needs cX6_needs 4 (some .int) :: ((wsX6_needs_r1 ++ wsX6_needs_r2) ++ wsX60)
def wsX6_two_r1 : List Cond := [Cond.fieldLink RX6 23 "WoundMedalsModel" "now" "[I", Cond.fieldLink RX6 26 "WoundMedalsModel" "tried" "[I", Cond.methodLink RX6 38 yX6_in, Cond.static yX6_in, Cond.initialized RX6, Cond.code yX6_in cX6_in 3 (some .boolean), Cond.methodLink RX6 142 yX6_begin, Cond.instanceMethod yX6_begin, Cond.selects RX6 yX6_begin yX6_begin, Cond.code yX6_begin cX6_begin 1 none, Cond.methodLink RX6 114 yX6_bring, Cond.static yX6_bring, Cond.code yX6_bring cX6_bring 6 none, Cond.methodLink RX6 64 yX6_load, Cond.static yX6_load, Cond.code yX6_load cX6_load 4 (some .int), Cond.methodLink RX6 61 yX6_bears, Cond.static yX6_bears, Cond.code yX6_bears cX6_bears 6 (some .int), Cond.methodLink RX6 54 yX6_wornBy, Cond.static yX6_wornBy, Cond.code yX6_wornBy cX6_wornBy 4 (some .int), Cond.methodLink RX6 57 yX6_bits, Cond.static yX6_bits]
def wsX6_two_r2 : List Cond := [Cond.code yX6_bits cX6_bits 3 (some .int)]
def wsX6_two : List Cond := .code yX6_two cX6_two 9 (some .int) :: ((wsX6_two_r1 ++ wsX6_two_r2) ++ wsX60)
def wsX6_error_r1 : List Cond := [Cond.fieldLink RX6 26 "WoundMedalsModel" "tried" "[I", Cond.methodLink RX6 46 yX6_isMan, Cond.instanceMethod yX6_isMan, Cond.selects RX6 yX6_isMan yX6_isMan, Cond.initialized RX6, Cond.code yX6_isMan cX6_isMan 2 (some .boolean), Cond.fieldLink RX6 23 "WoundMedalsModel" "now" "[I", Cond.methodLink RX6 38 yX6_in, Cond.static yX6_in, Cond.code yX6_in cX6_in 3 (some .boolean), Cond.methodLink RX6 155 yX6_ways, Cond.instanceMethod yX6_ways, Cond.selects RX6 yX6_ways yX6_ways, Cond.code yX6_ways cX6_ways 3 (some .int), Cond.methodLink RX6 158 yX6_hangBy, Cond.instanceMethod yX6_hangBy, Cond.selects RX6 yX6_hangBy yX6_hangBy, Cond.code yX6_hangBy cX6_hangBy 5 (some .int), Cond.methodLink RX6 142 yX6_begin, Cond.instanceMethod yX6_begin, Cond.selects RX6 yX6_begin yX6_begin, Cond.code yX6_begin cX6_begin 1 none, Cond.methodLink RX6 114 yX6_bring, Cond.static yX6_bring]
def wsX6_error_r2 : List Cond := [Cond.code yX6_bring cX6_bring 6 none, Cond.methodLink RX6 118 yX6_bentOnes, Cond.static yX6_bentOnes, Cond.code yX6_bentOnes cX6_bentOnes 3 (some .int), Cond.methodLink RX6 67 yX6_isBent, Cond.static yX6_isBent, Cond.code yX6_isBent cX6_isBent 2 (some .boolean), Cond.methodLink RX6 64 yX6_load, Cond.static yX6_load, Cond.code yX6_load cX6_load 4 (some .int), Cond.methodLink RX6 61 yX6_bears, Cond.static yX6_bears, Cond.code yX6_bears cX6_bears 6 (some .int), Cond.methodLink RX6 54 yX6_wornBy, Cond.static yX6_wornBy, Cond.code yX6_wornBy cX6_wornBy 4 (some .int), Cond.methodLink RX6 57 yX6_bits, Cond.static yX6_bits, Cond.code yX6_bits cX6_bits 3 (some .int)]
def wsX6_error : List Cond := .code yX6_error cX6_error 7 (some .int) :: ((wsX6_error_r1 ++ wsX6_error_r2) ++ wsX60)
def wsX6_image : List Cond := .code yX6_image cX6_image 1 (some .int) :: ([.fieldLink RX6 23 "WoundMedalsModel" "now" "[I", .fieldLink RX6 32 "WoundMedalsModel" "kept" "[I", .fieldLink RX6 171 "WoundMedalsModel" "isKept" "Z", .methodLink RX6 114 yX6_bring, .static yX6_bring, .initialized RX6, .code yX6_bring cX6_bring 6 none] ++ wsX60)
def wsX6_restore : List Cond := .code yX6_restore cX6_restore 1 (some .int) :: ([.fieldLink RX6 171 "WoundMedalsModel" "isKept" "Z", .fieldLink RX6 32 "WoundMedalsModel" "kept" "[I", .fieldLink RX6 23 "WoundMedalsModel" "now" "[I", .methodLink RX6 114 yX6_bring, .static yX6_bring, .initialized RX6, .code yX6_bring cX6_bring 6 none] ++ wsX60)
def wsX6_isSheet : List Cond := .code yX6_isSheet cX6_isSheet 1 (some .boolean) :: ([.methodLink RX6 38 yX6_in, .static yX6_in, .initialized RX6, .code yX6_in cX6_in 3 (some .boolean)])
def wsX6_isPart : List Cond := .code yX6_isPart cX6_isPart 3 (some .boolean) :: ([])
def wsX6_wrong : List Cond := .code yX6_wrong cX6_wrong 5 (some .int) :: ([.fieldLink RX6 7 "WoundMedalsModel" "lane" "[I", .fieldLink RX6 13 "WoundMedalsModel" "size" "[I", .methodLink RX6 175 yX6_isPart, .static yX6_isPart, .initialized RX6, .code yX6_isPart cX6_isPart 3 (some .boolean)] ++ wsX60)
def wsX6_isFelt : List Cond := .code yX6_isFelt cX6_isFelt 7 (some .boolean) :: ([.fieldLink RX6 26 "WoundMedalsModel" "tried" "[I", .fieldLink RX6 16 "WoundMedalsModel" "item" "[J", .methodLink RX6 131 yX6_dayIn, .static yX6_dayIn, .initialized RX6, .code yX6_dayIn cX6_dayIn 4 none, .methodLink RX6 118 yX6_bentOnes, .static yX6_bentOnes, .code yX6_bentOnes cX6_bentOnes 3 (some .int), .methodLink RX6 67 yX6_isBent, .static yX6_isBent, .code yX6_isBent cX6_isBent 2 (some .boolean), .methodLink RX6 64 yX6_load, .static yX6_load, .code yX6_load cX6_load 4 (some .int), .methodLink RX6 61 yX6_bears, .static yX6_bears, .code yX6_bears cX6_bears 6 (some .int), .methodLink RX6 54 yX6_wornBy, .static yX6_wornBy, .code yX6_wornBy cX6_wornBy 4 (some .int), .methodLink RX6 57 yX6_bits, .static yX6_bits, .code yX6_bits cX6_bits 3 (some .int)] ++ wsX60)
def wsX6_felt_r1 : List Cond := [Cond.fieldLink RX6 23 "WoundMedalsModel" "now" "[I", Cond.fieldLink RX6 26 "WoundMedalsModel" "tried" "[I", Cond.methodLink RX6 46 yX6_isMan, Cond.instanceMethod yX6_isMan, Cond.selects RX6 yX6_isMan yX6_isMan, Cond.initialized RX6, Cond.code yX6_isMan cX6_isMan 2 (some .boolean), Cond.methodLink RX6 38 yX6_in, Cond.static yX6_in, Cond.code yX6_in cX6_in 3 (some .boolean), Cond.methodLink RX6 74 yX6_isMedal, Cond.instanceMethod yX6_isMedal, Cond.selects RX6 yX6_isMedal yX6_isMedal, Cond.code yX6_isMedal cX6_isMedal 2 (some .boolean), Cond.methodLink RX6 178 yX6_isSheet, Cond.static yX6_isSheet, Cond.code yX6_isSheet cX6_isSheet 1 (some .boolean), Cond.methodLink RX6 181 yX6_wrong, Cond.instanceMethod yX6_wrong, Cond.selects RX6 yX6_wrong yX6_wrong, Cond.code yX6_wrong cX6_wrong 5 (some .int), Cond.fieldLink RX6 7 "WoundMedalsModel" "lane" "[I", Cond.fieldLink RX6 13 "WoundMedalsModel" "size" "[I", Cond.methodLink RX6 175 yX6_isPart]
def wsX6_felt_r2 : List Cond := [Cond.static yX6_isPart, Cond.code yX6_isPart cX6_isPart 3 (some .boolean), Cond.methodLink RX6 142 yX6_begin, Cond.instanceMethod yX6_begin, Cond.selects RX6 yX6_begin yX6_begin, Cond.code yX6_begin cX6_begin 1 none, Cond.methodLink RX6 114 yX6_bring, Cond.static yX6_bring, Cond.code yX6_bring cX6_bring 6 none, Cond.methodLink RX6 185 yX6_isFelt, Cond.instanceMethod yX6_isFelt, Cond.selects RX6 yX6_isFelt yX6_isFelt, Cond.code yX6_isFelt cX6_isFelt 7 (some .boolean), Cond.fieldLink RX6 16 "WoundMedalsModel" "item" "[J", Cond.methodLink RX6 131 yX6_dayIn, Cond.static yX6_dayIn, Cond.code yX6_dayIn cX6_dayIn 4 none, Cond.methodLink RX6 118 yX6_bentOnes, Cond.static yX6_bentOnes, Cond.code yX6_bentOnes cX6_bentOnes 3 (some .int), Cond.methodLink RX6 67 yX6_isBent, Cond.static yX6_isBent, Cond.code yX6_isBent cX6_isBent 2 (some .boolean), Cond.methodLink RX6 64 yX6_load]
def wsX6_felt_r3 : List Cond := [Cond.static yX6_load, Cond.code yX6_load cX6_load 4 (some .int), Cond.methodLink RX6 61 yX6_bears, Cond.static yX6_bears, Cond.code yX6_bears cX6_bears 6 (some .int), Cond.methodLink RX6 54 yX6_wornBy, Cond.static yX6_wornBy, Cond.code yX6_wornBy cX6_wornBy 4 (some .int), Cond.methodLink RX6 57 yX6_bits, Cond.static yX6_bits, Cond.code yX6_bits cX6_bits 3 (some .int)]
def wsX6_felt : List Cond := .code yX6_felt cX6_felt 11 (some .int) :: ((wsX6_felt_r1 ++ (wsX6_felt_r2 ++ wsX6_felt_r3)) ++ wsX60)
def wsX6_cutTo : List Cond := .code yX6_cutTo cX6_cutTo 3 (some .long) :: ([])
def wsX6_film_r1 : List Cond := [Cond.fieldLink RX6 26 "WoundMedalsModel" "tried" "[I", Cond.fieldLink RX6 16 "WoundMedalsModel" "item" "[J", Cond.methodLink RX6 46 yX6_isMan, Cond.instanceMethod yX6_isMan, Cond.selects RX6 yX6_isMan yX6_isMan, Cond.initialized RX6, Cond.code yX6_isMan cX6_isMan 2 (some .boolean), Cond.fieldLink RX6 23 "WoundMedalsModel" "now" "[I", Cond.methodLink RX6 38 yX6_in, Cond.static yX6_in, Cond.code yX6_in cX6_in 3 (some .boolean), Cond.methodLink RX6 178 yX6_isSheet, Cond.static yX6_isSheet, Cond.code yX6_isSheet cX6_isSheet 1 (some .boolean), Cond.methodLink RX6 181 yX6_wrong, Cond.instanceMethod yX6_wrong, Cond.selects RX6 yX6_wrong yX6_wrong, Cond.code yX6_wrong cX6_wrong 5 (some .int), Cond.fieldLink RX6 7 "WoundMedalsModel" "lane" "[I", Cond.fieldLink RX6 13 "WoundMedalsModel" "size" "[I", Cond.methodLink RX6 175 yX6_isPart, Cond.static yX6_isPart, Cond.code yX6_isPart cX6_isPart 3 (some .boolean), Cond.methodLink RX6 142 yX6_begin]
def wsX6_film_r2 : List Cond := [Cond.instanceMethod yX6_begin, Cond.selects RX6 yX6_begin yX6_begin, Cond.code yX6_begin cX6_begin 1 none, Cond.methodLink RX6 114 yX6_bring, Cond.static yX6_bring, Cond.code yX6_bring cX6_bring 6 none, Cond.methodLink RX6 131 yX6_dayIn, Cond.static yX6_dayIn, Cond.code yX6_dayIn cX6_dayIn 4 none, Cond.methodLink RX6 118 yX6_bentOnes, Cond.static yX6_bentOnes, Cond.code yX6_bentOnes cX6_bentOnes 3 (some .int), Cond.methodLink RX6 67 yX6_isBent, Cond.static yX6_isBent, Cond.code yX6_isBent cX6_isBent 2 (some .boolean), Cond.methodLink RX6 64 yX6_load, Cond.static yX6_load, Cond.code yX6_load cX6_load 4 (some .int), Cond.methodLink RX6 61 yX6_bears, Cond.static yX6_bears, Cond.code yX6_bears cX6_bears 6 (some .int), Cond.methodLink RX6 54 yX6_wornBy, Cond.static yX6_wornBy, Cond.code yX6_wornBy cX6_wornBy 4 (some .int)]
def wsX6_film_r3 : List Cond := [Cond.methodLink RX6 57 yX6_bits, Cond.static yX6_bits, Cond.code yX6_bits cX6_bits 3 (some .int), Cond.methodLink RX6 189 yX6_cutTo, Cond.static yX6_cutTo, Cond.code yX6_cutTo cX6_cutTo 3 (some .long)]
def wsX6_film : List Cond := .code yX6_film cX6_film 8 (some .int) :: ((wsX6_film_r1 ++ (wsX6_film_r2 ++ wsX6_film_r3)) ++ wsX60)
def wsX6_sheet : List Cond := .code yX6_sheet cX6_sheet 5 (some .int) :: ([.fieldLink RX6 7 "WoundMedalsModel" "lane" "[I", .fieldLink RX6 13 "WoundMedalsModel" "size" "[I", .fieldLink RX6 16 "WoundMedalsModel" "item" "[J", .methodLink RX6 178 yX6_isSheet, .static yX6_isSheet, .initialized RX6, .code yX6_isSheet cX6_isSheet 1 (some .boolean), .methodLink RX6 38 yX6_in, .static yX6_in, .code yX6_in cX6_in 3 (some .boolean)] ++ wsX60)
def wsX6_drop : List Cond := .code yX6_drop cX6_drop 2 (some .int) :: ([.fieldLink RX6 7 "WoundMedalsModel" "lane" "[I", .fieldLink RX6 13 "WoundMedalsModel" "size" "[I", .methodLink RX6 178 yX6_isSheet, .static yX6_isSheet, .initialized RX6, .code yX6_isSheet cX6_isSheet 1 (some .boolean), .methodLink RX6 38 yX6_in, .static yX6_in, .code yX6_in cX6_in 3 (some .boolean)] ++ wsX60)
def wsX6_item : List Cond := .code yX6_item cX6_item 7 (some .int) :: ([.fieldLink RX6 16 "WoundMedalsModel" "item" "[J", .methodLink RX6 178 yX6_isSheet, .static yX6_isSheet, .initialized RX6, .code yX6_isSheet cX6_isSheet 1 (some .boolean), .methodLink RX6 38 yX6_in, .static yX6_in, .code yX6_in cX6_in 3 (some .boolean), .methodLink RX6 181 yX6_wrong, .instanceMethod yX6_wrong, .selects RX6 yX6_wrong yX6_wrong, .code yX6_wrong cX6_wrong 5 (some .int), .fieldLink RX6 7 "WoundMedalsModel" "lane" "[I", .fieldLink RX6 13 "WoundMedalsModel" "size" "[I", .methodLink RX6 175 yX6_isPart, .static yX6_isPart, .code yX6_isPart cX6_isPart 3 (some .boolean)] ++ wsX60)
def wsX6_copy : List Cond := .code yX6_copy cX6_copy 9 (some .int) :: ([.fieldLink RX6 7 "WoundMedalsModel" "lane" "[I", .fieldLink RX6 13 "WoundMedalsModel" "size" "[I", .fieldLink RX6 16 "WoundMedalsModel" "item" "[J", .methodLink RX6 178 yX6_isSheet, .static yX6_isSheet, .initialized RX6, .code yX6_isSheet cX6_isSheet 1 (some .boolean), .methodLink RX6 38 yX6_in, .static yX6_in, .code yX6_in cX6_in 3 (some .boolean), .methodLink RX6 175 yX6_isPart, .static yX6_isPart, .code yX6_isPart cX6_isPart 3 (some .boolean)] ++ wsX60)
def wsJ9_max_7cf53 : List Cond := .code yJ9_max_7cf53 cJ9_max_7cf53 2 (some .int) :: ([])
def wsJ9_min_7cf53 : List Cond := .code yJ9_min_7cf53 cJ9_min_7cf53 2 (some .int) :: ([])
def wsL_law_r1 : List Cond := [Cond.classLink RL 7 RX5, Cond.instantiable RX5 9, Cond.initialized RX5, Cond.classLink RL 10 RX6, Cond.instantiable RX6 15, Cond.initialized RX6, Cond.constantLong RL 135 (4294967295), Cond.methodLink RL 9 yX5_init, Cond.instanceMethod yX5_init, Cond.code yX5_init cX5_init 2 none, Cond.methodLink RX5 1 objectInit, Cond.instanceMethod objectInit, Cond.code objectInit ⟨#[0xb1]⟩ 1 none, Cond.classLink RX5 7 RX1, Cond.instantiable RX1 10, Cond.initialized RX1, Cond.fieldLink RX5 10 "WoundMedals" "now" "LWoundMedals$Muster;", Cond.classLink RX5 16 RX2, Cond.instantiable RX2 3, Cond.initialized RX2, Cond.fieldLink RX5 19 "WoundMedals" "past" "LWoundMedals$Past;", Cond.fieldLink RX5 23 "WoundMedals" "imageOfNow" "LWoundMedals$Muster;", Cond.fieldLink RX5 26 "WoundMedals" "imageOfPast" "LWoundMedals$Past;", Cond.fieldLink RX5 29 "WoundMedals" "hasImage" "Z"]
def wsL_law_r2 : List Cond := [Cond.fieldLink RX5 33 "WoundMedals" "trial" "LWoundMedals$Muster;", Cond.classLink RX5 36 RX4, Cond.instantiable RX4 3, Cond.initialized RX4, Cond.fieldLink RX5 39 "WoundMedals" "tape" "LWoundMedals$Tape;", Cond.classLink RX5 43 RX0, Cond.instantiable RX0 9, Cond.initialized RX0, Cond.fieldLink RX5 48 "WoundMedals" "hanging" "LWoundMedals$Hanging;", Cond.classLink RX5 52 RX3, Cond.fieldLink RX5 54 "WoundMedals" "rows" "[LWoundMedals$Row;", Cond.instantiable RX3 4, Cond.initialized RX3, Cond.instanceMethod yX1_init, Cond.code yX1_init cX1_init 1 none, Cond.methodLink RX1 3 objectInit, Cond.fieldLink RX1 9 "WoundMedals$Muster" "men" "I", Cond.arrayClass .int, Cond.fieldLink RX1 15 "WoundMedals$Muster" "build" "[I", Cond.fieldLink RX1 19 "WoundMedals$Muster" "strength" "[I", Cond.fieldLink RX1 22 "WoundMedals$Muster" "medals" "I", Cond.fieldLink RX1 25 "WoundMedals$Muster" "kind" "[I", Cond.fieldLink RX1 28 "WoundMedals$Muster" "weight" "[I", Cond.fieldLink RX1 31 "WoundMedals$Muster" "wound" "[I"]
def wsL_law_r3 : List Cond := [Cond.fieldLink RX1 34 "WoundMedals$Muster" "wearer" "[I", Cond.fieldLink RX1 37 "WoundMedals$Muster" "day" "I", Cond.fieldLink RX1 40 "WoundMedals$Muster" "draw" "I", Cond.instanceMethod yX2_init, Cond.code yX2_init cX2_init 1 none, Cond.methodLink RX2 5 objectInit, Cond.classLink RX2 11 "[[I", Cond.fieldLink RX2 13 "WoundMedals$Past" "kept" "[[I", Cond.fieldLink RX2 16 "WoundMedals$Past" "known" "I", Cond.fieldLink RX2 20 "WoundMedals$Past" "next" "I", Cond.instanceMethod yX4_init, Cond.code yX4_init cX4_init 1 none, Cond.methodLink RX4 3 objectInit, Cond.arrayClass .char, Cond.fieldLink RX4 9 "WoundMedals$Tape" "letters" "[C", Cond.fieldLink RX4 15 "WoundMedals$Tape" "length" "I", Cond.fieldLink RX4 19 "WoundMedals$Tape" "place" "I", Cond.methodLink RX5 45 yX0_init, Cond.instanceMethod yX0_init, Cond.code yX0_init cX0_init 2 none, Cond.methodLink RX0 3 objectInit, Cond.classLink RX0 9 "[[I", Cond.fieldLink RX0 11 "WoundMedals$Hanging" "loads" "[[I", Cond.fieldLink RX0 16 "WoundMedals$Hanging" "worn" "I"]
def wsL_law_r4 : List Cond := [Cond.fieldLink RX0 20 "WoundMedals$Hanging" "setOf" "[I", Cond.fieldLink RX0 24 "WoundMedals$Hanging" "tried" "[I", Cond.fieldLink RX0 27 "WoundMedals$Hanging" "best" "[I", Cond.fieldLink RX0 30 "WoundMedals$Hanging" "waysOfSet" "[I", Cond.fieldLink RX0 33 "WoundMedals$Hanging" "wantsFew" "Z", Cond.fieldLink RX0 37 "WoundMedals$Hanging" "bestCost" "I", Cond.fieldLink RX0 40 "WoundMedals$Hanging" "muster" "LWoundMedals$Muster;", Cond.instanceMethod yX3_init, Cond.code yX3_init cX3_init 1 none, Cond.methodLink RX3 3 objectInit, Cond.fieldLink RX3 9 "WoundMedals$Row" "isThere" "Z", Cond.fieldLink RX3 15 "WoundMedals$Row" "lane" "I", Cond.fieldLink RX3 19 "WoundMedals$Row" "length" "I", Cond.arrayClass .long, Cond.fieldLink RX3 22 "WoundMedals$Row" "items" "[J", Cond.methodLink RL 12 yX6_init, Cond.instanceMethod yX6_init, Cond.code yX6_init cX6_init 2 none, Cond.methodLink RX6 1 objectInit, Cond.fieldLink RX6 7 "WoundMedalsModel" "lane" "[I", Cond.fieldLink RX6 13 "WoundMedalsModel" "size" "[I", Cond.fieldLink RX6 16 "WoundMedalsModel" "item" "[J", Cond.fieldLink RX6 20 "WoundMedalsModel" "tape" "[I", Cond.fieldLink RX6 23 "WoundMedalsModel" "now" "[I"]
def wsL_law_r5 : List Cond := [Cond.fieldLink RX6 26 "WoundMedalsModel" "tried" "[I", Cond.fieldLink RX6 29 "WoundMedalsModel" "read" "[I", Cond.fieldLink RX6 32 "WoundMedalsModel" "kept" "[I", Cond.fieldLink RX6 35 "WoundMedalsModel" "best" "[I", Cond.methodLink RL 13 yX5_man, Cond.instanceMethod yX5_man, Cond.selects RX5 yX5_man yX5_man, Cond.code yX5_man cX5_man 2 (some .int), Cond.fieldLink RX5 59 "WoundMedals$Muster" "men" "I", Cond.methodLink RX5 63 yX2_forget, Cond.instanceMethod yX2_forget, Cond.selects RX2 yX2_forget yX2_forget, Cond.code yX2_forget cX2_forget 1 none, Cond.methodLink RX5 66 yX1_addMan, Cond.instanceMethod yX1_addMan, Cond.selects RX1 yX1_addMan yX1_addMan, Cond.code yX1_addMan cX1_addMan 3 (some .int), Cond.methodLink RL 17 yX6_man, Cond.instanceMethod yX6_man, Cond.selects RX6 yX6_man yX6_man, Cond.code yX6_man cX6_man 2 (some .int), Cond.methodLink RX6 38 yX6_in, Cond.static yX6_in, Cond.code yX6_in cX6_in 3 (some .boolean)]
def wsL_law_r6 : List Cond := [Cond.methodLink RX6 42 yX6_addMan, Cond.static yX6_addMan, Cond.code yX6_addMan cX6_addMan 3 (some .int), Cond.methodLink RL 18 yX5_medal, Cond.instanceMethod yX5_medal, Cond.selects RX5 yX5_medal yX5_medal, Cond.code yX5_medal cX5_medal 4 (some .int), Cond.fieldLink RX5 74 "WoundMedals$Muster" "medals" "I", Cond.methodLink RX5 70 yX1_hasMan, Cond.instanceMethod yX1_hasMan, Cond.selects RX1 yX1_hasMan yX1_hasMan, Cond.code yX1_hasMan cX1_hasMan 2 (some .boolean), Cond.methodLink RX5 77 yX1_addMedal, Cond.instanceMethod yX1_addMedal, Cond.selects RX1 yX1_addMedal yX1_addMedal, Cond.code yX1_addMedal cX1_addMedal 5 (some .int), Cond.methodLink RL 22 yX6_medal, Cond.instanceMethod yX6_medal, Cond.selects RX6 yX6_medal yX6_medal, Cond.code yX6_medal cX6_medal 4 (some .int), Cond.methodLink RX6 46 yX6_isMan, Cond.instanceMethod yX6_isMan, Cond.selects RX6 yX6_isMan yX6_isMan, Cond.code yX6_isMan cX6_isMan 2 (some .boolean)]
def wsL_law_r7 : List Cond := [Cond.methodLink RX6 50 yX6_addMedal, Cond.static yX6_addMedal, Cond.code yX6_addMedal cX6_addMedal 5 (some .int), Cond.methodLink RL 23 yX5_of, Cond.instanceMethod yX5_of, Cond.selects RX5 yX5_of yX5_of, Cond.code yX5_of cX5_of 3 (some .int), Cond.fieldLink RX5 81 "WoundMedals$Muster" "build" "[I", Cond.fieldLink RX5 85 "WoundMedals$Muster" "strength" "[I", Cond.fieldLink RX5 88 "WoundMedals$Muster" "day" "I", Cond.methodLink RX5 91 yX1_loadOn, Cond.instanceMethod yX1_loadOn, Cond.selects RX1 yX1_loadOn yX1_loadOn, Cond.code yX1_loadOn cX1_loadOn 3 (some .int), Cond.methodLink RX1 53 yX1_wornBy, Cond.instanceMethod yX1_wornBy, Cond.selects RX1 yX1_wornBy yX1_wornBy, Cond.code yX1_wornBy cX1_wornBy 2 (some .int), Cond.methodLink RX1 49 yX1_medalsWith, Cond.instanceMethod yX1_medalsWith, Cond.selects RX1 yX1_medalsWith yX1_medalsWith, Cond.code yX1_medalsWith cX1_medalsWith 5 (some .int), Cond.methodLink RX1 66 yX1_loadOfSet, Cond.instanceMethod yX1_loadOfSet]
def wsL_law_r8 : List Cond := [Cond.selects RX1 yX1_loadOfSet yX1_loadOfSet, Cond.code yX1_loadOfSet cX1_loadOfSet 7 (some .int), Cond.methodLink RX1 57 yJ6_bitCount_0f7a4, Cond.static yJ6_bitCount_0f7a4, Cond.initialized RJ6, Cond.code yJ6_bitCount_0f7a4 cJ6_bitCount_0f7a4 1 (some .int), Cond.constant RJ6 265 (1431655765), Cond.constant RJ6 266 (858993459), Cond.constant RJ6 267 (252645135), Cond.methodLink RX1 62 yX1_bears, Cond.instanceMethod yX1_bears, Cond.selects RX1 yX1_bears yX1_bears, Cond.code yX1_bears cX1_bears 9 (some .int), Cond.methodLink RX5 94 yX1_isBent, Cond.instanceMethod yX1_isBent, Cond.selects RX1 yX1_isBent yX1_isBent, Cond.code yX1_isBent cX1_isBent 2 (some .boolean), Cond.methodLink RX1 70 yX1_loadOn, Cond.methodLink RX5 97 yX1_wornBy, Cond.methodLink RX5 101 yX1_woundsOf, Cond.instanceMethod yX1_woundsOf, Cond.selects RX1 yX1_woundsOf yX1_woundsOf, Cond.code yX1_woundsOf cX1_woundsOf 2 (some .int), Cond.methodLink RL 27 yX6_of]
def wsL_law_r9 : List Cond := [Cond.instanceMethod yX6_of, Cond.selects RX6 yX6_of yX6_of, Cond.code yX6_of cX6_of 3 (some .int), Cond.methodLink RX6 64 yX6_load, Cond.static yX6_load, Cond.code yX6_load cX6_load 4 (some .int), Cond.methodLink RX6 61 yX6_bears, Cond.static yX6_bears, Cond.code yX6_bears cX6_bears 6 (some .int), Cond.methodLink RX6 54 yX6_wornBy, Cond.static yX6_wornBy, Cond.code yX6_wornBy cX6_wornBy 4 (some .int), Cond.methodLink RX6 57 yX6_bits, Cond.static yX6_bits, Cond.code yX6_bits cX6_bits 3 (some .int), Cond.methodLink RX6 67 yX6_isBent, Cond.static yX6_isBent, Cond.code yX6_isBent cX6_isBent 2 (some .boolean), Cond.methodLink RX6 71 yX6_woundsOf, Cond.instanceMethod yX6_woundsOf, Cond.selects RX6 yX6_woundsOf yX6_woundsOf, Cond.code yX6_woundsOf cX6_woundsOf 4 (some .int), Cond.methodLink RL 28 yX5_at, Cond.instanceMethod yX5_at]
def wsL_law_r10 : List Cond := [Cond.selects RX5 yX5_at yX5_at, Cond.code yX5_at cX5_at 3 (some .int), Cond.fieldLink RX5 107 "WoundMedals$Muster" "kind" "[I", Cond.fieldLink RX5 110 "WoundMedals$Muster" "weight" "[I", Cond.fieldLink RX5 113 "WoundMedals$Muster" "wound" "[I", Cond.fieldLink RX5 116 "WoundMedals$Muster" "wearer" "[I", Cond.methodLink RX5 104 yX1_hasMedal, Cond.instanceMethod yX1_hasMedal, Cond.selects RX1 yX1_hasMedal yX1_hasMedal, Cond.code yX1_hasMedal cX1_hasMedal 2 (some .boolean), Cond.methodLink RX5 119 yX1_bearsNow, Cond.instanceMethod yX1_bearsNow, Cond.selects RX1 yX1_bearsNow yX1_bearsNow, Cond.code yX1_bearsNow cX1_bearsNow 3 (some .int), Cond.methodLink RL 31 yX6_at, Cond.instanceMethod yX6_at, Cond.selects RX6 yX6_at yX6_at, Cond.code yX6_at cX6_at 3 (some .int), Cond.methodLink RX6 74 yX6_isMedal, Cond.instanceMethod yX6_isMedal, Cond.selects RX6 yX6_isMedal yX6_isMedal, Cond.code yX6_isMedal cX6_isMedal 2 (some .boolean), Cond.methodLink RL 32 yX5_type, Cond.instanceMethod yX5_type]
def wsL_law_r11 : List Cond := [Cond.selects RX5 yX5_type yX5_type, Cond.code yX5_type cX5_type 2 (some .int), Cond.fieldLink RX5 126 "WoundMedals$Tape" "length" "I", Cond.methodLink RX5 122 yX4_add, Cond.instanceMethod yX4_add, Cond.selects RX4 yX4_add yX4_add, Cond.code yX4_add cX4_add 2 (some .boolean), Cond.methodLink RL 35 yX6_type, Cond.instanceMethod yX6_type, Cond.selects RX6 yX6_type yX6_type, Cond.code yX6_type cX6_type 2 (some .int), Cond.fieldLink RX6 77 "WoundMedalsModel" "letters" "I", Cond.methodLink RL 36 yX5_state, Cond.instanceMethod yX5_state, Cond.selects RX5 yX5_state yX5_state, Cond.code yX5_state cX5_state 3 (some .int), Cond.fieldLink RX5 132 "WoundMedals$Muster" "draw" "I", Cond.fieldLink RX5 139 "WoundMedals$Tape" "place" "I", Cond.methodLink RX5 129 yX1_clear, Cond.instanceMethod yX1_clear, Cond.selects RX1 yX1_clear yX1_clear, Cond.code yX1_clear cX1_clear 1 none, Cond.methodLink RX5 135 yX4_readState, Cond.instanceMethod yX4_readState]
def wsL_law_r12 : List Cond := [Cond.selects RX4 yX4_readState yX4_readState, Cond.code yX4_readState cX4_readState 2 (some .boolean), Cond.methodLink RX4 22 yX4_readMen, Cond.instanceMethod yX4_readMen, Cond.selects RX4 yX4_readMen yX4_readMen, Cond.code yX4_readMen cX4_readMen 3 (some .boolean), Cond.methodLink RX4 37 yX4_readMan, Cond.instanceMethod yX4_readMan, Cond.selects RX4 yX4_readMan yX4_readMan, Cond.code yX4_readMan cX4_readMan 4 (some .boolean), Cond.methodLink RX4 40 yX4_readNumber, Cond.instanceMethod yX4_readNumber, Cond.selects RX4 yX4_readNumber yX4_readNumber, Cond.code yX4_readNumber cX4_readNumber 6 (some .int), Cond.methodLink RX4 33 yX4_nextLetter, Cond.instanceMethod yX4_nextLetter, Cond.selects RX4 yX4_nextLetter yX4_nextLetter, Cond.code yX4_nextLetter cX4_nextLetter 1 (some .char), Cond.methodLink RX4 64 yX4_letterHere, Cond.instanceMethod yX4_letterHere, Cond.selects RX4 yX4_letterHere yX4_letterHere, Cond.code yX4_letterHere cX4_letterHere 1 (some .char), Cond.methodLink RX4 67 yX4_isDigit, Cond.static yX4_isDigit]
def wsL_law_r13 : List Cond := [Cond.code yX4_isDigit cX4_isDigit 1 (some .boolean), Cond.methodLink RX4 26 yX4_takes, Cond.instanceMethod yX4_takes, Cond.selects RX4 yX4_takes yX4_takes, Cond.code yX4_takes cX4_takes 2 (some .boolean), Cond.methodLink RX4 44 yX1_addMan, Cond.methodLink RX4 30 yX4_readMedals, Cond.instanceMethod yX4_readMedals, Cond.selects RX4 yX4_readMedals yX4_readMedals, Cond.code yX4_readMedals cX4_readMedals 3 (some .boolean), Cond.methodLink RX4 49 yX4_readMedal, Cond.instanceMethod yX4_readMedal, Cond.selects RX4 yX4_readMedal yX4_readMedal, Cond.code yX4_readMedal cX4_readMedal 6 (some .boolean), Cond.methodLink RX4 52 yX4_kindOf, Cond.static yX4_kindOf, Cond.code yX4_kindOf cX4_kindOf 1 (some .int), Cond.methodLink RX4 56 yX4_readManOf, Cond.instanceMethod yX4_readManOf, Cond.selects RX4 yX4_readManOf yX4_readManOf, Cond.code yX4_readManOf cX4_readManOf 3 (some .int), Cond.methodLink RX4 70 yX1_hasMan, Cond.methodLink RX4 60 yX1_addMedal, Cond.methodLink RX5 142 yX1_take]
def wsL_law_r14 : List Cond := [Cond.instanceMethod yX1_take, Cond.selects RX1 yX1_take yX1_take, Cond.code yX1_take cX1_take 2 none, Cond.methodLink RX1 43 arraycopyName, Cond.native arraycopyName, Cond.static arraycopyName, Cond.initialized "java/lang/System", Cond.methodLink RL 40 yX6_state, Cond.instanceMethod yX6_state, Cond.selects RX6 yX6_state yX6_state, Cond.code yX6_state cX6_state 2 (some .int), Cond.fieldLink RX6 81 "WoundMedalsModel" "position" "I", Cond.methodLink RX6 111 yX6_isState, Cond.instanceMethod yX6_isState, Cond.selects RX6 yX6_isState yX6_isState, Cond.code yX6_isState cX6_isState 2 (some .boolean), Cond.methodLink RX6 104 yX6_isManItem, Cond.instanceMethod yX6_isManItem, Cond.selects RX6 yX6_isManItem yX6_isManItem, Cond.code yX6_isManItem cX6_isManItem 2 (some .boolean), Cond.fieldLink RX6 88 "WoundMedalsModel" "number" "I", Cond.methodLink RX6 95 yX6_isNumber, Cond.instanceMethod yX6_isNumber, Cond.selects RX6 yX6_isNumber yX6_isNumber]
def wsL_law_r15 : List Cond := [Cond.code yX6_isNumber cX6_isNumber 5 (some .boolean), Cond.methodLink RX6 91 yX6_isDigit, Cond.instanceMethod yX6_isDigit, Cond.selects RX6 yX6_isDigit yX6_isDigit, Cond.code yX6_isDigit cX6_isDigit 3 (some .boolean), Cond.methodLink RX6 84 yX6_peek, Cond.instanceMethod yX6_peek, Cond.selects RX6 yX6_peek yX6_peek, Cond.code yX6_peek cX6_peek 1 (some .int), Cond.methodLink RX6 98 yX6_isSign, Cond.instanceMethod yX6_isSign, Cond.selects RX6 yX6_isSign yX6_isSign, Cond.code yX6_isSign cX6_isSign 2 (some .boolean), Cond.methodLink RX6 108 yX6_isMedalItem, Cond.instanceMethod yX6_isMedalItem, Cond.selects RX6 yX6_isMedalItem yX6_isMedalItem, Cond.code yX6_isMedalItem cX6_isMedalItem 4 (some .boolean), Cond.methodLink RX6 101 yX6_kindBy, Cond.static yX6_kindBy, Cond.code yX6_kindBy cX6_kindBy 1 (some .int), Cond.methodLink RX6 114 yX6_bring, Cond.static yX6_bring, Cond.code yX6_bring cX6_bring 6 none, Cond.methodLink RL 41 yX5_count]
def wsL_law_r16 : List Cond := [Cond.instanceMethod yX5_count, Cond.selects RX5 yX5_count yX5_count, Cond.code yX5_count cX5_count 2 (some .int), Cond.fieldLink RX5 155 "WoundMedals$Past" "known" "I", Cond.methodLink RX5 145 yX1_allBent, Cond.instanceMethod yX1_allBent, Cond.selects RX1 yX1_allBent yX1_allBent, Cond.code yX1_allBent cX1_allBent 3 (some .int), Cond.methodLink RX1 80 yX1_isBent, Cond.methodLink RX5 149 yX1_allStrength, Cond.instanceMethod yX1_allStrength, Cond.selects RX1 yX1_allStrength yX1_allStrength, Cond.code yX1_allStrength cX1_allStrength 3 (some .int), Cond.methodLink RX5 152 yX1_allLoads, Cond.instanceMethod yX1_allLoads, Cond.selects RX1 yX1_allLoads yX1_allLoads, Cond.code yX1_allLoads cX1_allLoads 3 (some .int), Cond.methodLink RL 44 yX6_count, Cond.instanceMethod yX6_count, Cond.selects RX6 yX6_count yX6_count, Cond.code yX6_count cX6_count 2 (some .int), Cond.methodLink RX6 118 yX6_bentOnes, Cond.static yX6_bentOnes, Cond.code yX6_bentOnes cX6_bentOnes 3 (some .int)]
def wsL_law_r17 : List Cond := [Cond.methodLink RX6 122 yX6_strengths, Cond.instanceMethod yX6_strengths, Cond.selects RX6 yX6_strengths yX6_strengths, Cond.code yX6_strengths cX6_strengths 3 (some .int), Cond.methodLink RX6 125 yX6_loads, Cond.static yX6_loads, Cond.code yX6_loads cX6_loads 3 (some .int), Cond.methodLink RL 45 yX5_days, Cond.instanceMethod yX5_days, Cond.selects RX5 yX5_days yX5_days, Cond.code yX5_days cX5_days 2 (some .int), Cond.methodLink RX5 158 yX5_passDays, Cond.instanceMethod yX5_passDays, Cond.selects RX5 yX5_passDays yX5_passDays, Cond.code yX5_passDays cX5_passDays 4 (some .int), Cond.methodLink RX5 162 yX2_keep, Cond.instanceMethod yX2_keep, Cond.selects RX2 yX2_keep yX2_keep, Cond.code yX2_keep cX2_keep 3 none, Cond.fieldLink RX2 23 "WoundMedals$Muster" "strength" "[I", Cond.methodLink RX2 29 arraycopyName, Cond.fieldLink RX2 35 "WoundMedals$Muster" "weight" "[I", Cond.fieldLink RX2 38 "WoundMedals$Muster" "wearer" "[I", Cond.fieldLink RX2 41 "WoundMedals$Muster" "day" "I"]
def wsL_law_r18 : List Cond := [Cond.fieldLink RX2 44 "WoundMedals$Muster" "draw" "I", Cond.methodLink RX2 47 Lib.Math.min.name, Cond.static Lib.Math.min.name, Cond.initialized "java/lang/Math", Cond.code Lib.Math.min.name Lib.Math.min.code 2 (some .int), Cond.methodLink RX5 276 yX1_drawAndHang, Cond.instanceMethod yX1_drawAndHang, Cond.selects RX1 yX1_drawAndHang yX1_drawAndHang, Cond.code yX1_drawAndHang cX1_drawAndHang 1 none, Cond.constantLong RX1 87 (1103515245), Cond.constantLong RX1 89 (12345), Cond.constantLong RX1 91 (2147483647), Cond.constant RX1 93 (65536), Cond.methodLink RX5 279 yX1_passDay, Cond.instanceMethod yX1_passDay, Cond.selects RX1 yX1_passDay yX1_passDay, Cond.code yX1_passDay cX1_passDay 2 none, Cond.methodLink RX1 77 yX1_strengthAfter, Cond.instanceMethod yX1_strengthAfter, Cond.selects RX1 yX1_strengthAfter yX1_strengthAfter, Cond.code yX1_strengthAfter cX1_strengthAfter 4 (some .int), Cond.static yX5_strengthNext, Cond.code yX5_strengthNext cX5_strengthNext 3 (some .int), Cond.methodLink RX5 204 Lib.Math.max.name]
def wsL_law_r19 : List Cond := [Cond.static Lib.Math.max.name, Cond.code Lib.Math.max.name Lib.Math.max.code 2 (some .int), Cond.methodLink RX5 165 Lib.Math.min.name, Cond.methodLink RL 48 yX6_days, Cond.instanceMethod yX6_days, Cond.selects RX6 yX6_days yX6_days, Cond.code yX6_days cX6_days 3 (some .int), Cond.methodLink RX6 128 yX6_note, Cond.instanceMethod yX6_note, Cond.selects RX6 yX6_note yX6_note, Cond.code yX6_note cX6_note 1 none, Cond.methodLink RX6 131 yX6_dayIn, Cond.static yX6_dayIn, Cond.code yX6_dayIn cX6_dayIn 4 none, Cond.methodLink RL 49 yX5_hang, Cond.instanceMethod yX5_hang, Cond.selects RX5 yX5_hang yX5_hang, Cond.code yX5_hang cX5_hang 4 (some .int), Cond.methodLink RL 52 yX6_hang, Cond.instanceMethod yX6_hang, Cond.selects RX6 yX6_hang yX6_hang, Cond.code yX6_hang cX6_hang 4 (some .int), Cond.methodLink RL 53 yX5_polish, Cond.instanceMethod yX5_polish]
def wsL_law_r20 : List Cond := [Cond.selects RX5 yX5_polish yX5_polish, Cond.code yX5_polish cX5_polish 3 (some .int), Cond.methodLink RL 56 yX6_polish, Cond.instanceMethod yX6_polish, Cond.selects RX6 yX6_polish yX6_polish, Cond.code yX6_polish cX6_polish 3 (some .int), Cond.methodLink RL 57 yX5_drift, Cond.instanceMethod yX5_drift, Cond.selects RX5 yX5_drift yX5_drift, Cond.code yX5_drift cX5_drift 2 (some .int), Cond.methodLink RL 60 yX6_drift, Cond.instanceMethod yX6_drift, Cond.selects RX6 yX6_drift yX6_drift, Cond.code yX6_drift cX6_drift 3 (some .int), Cond.constantLong RX6 135 (1103515245), Cond.constantLong RX6 137 (12345), Cond.constantLong RX6 139 (2147483648), Cond.constant RX6 141 (65536), Cond.methodLink RL 61 yX5_undo, Cond.instanceMethod yX5_undo, Cond.selects RX5 yX5_undo yX5_undo, Cond.code yX5_undo cX5_undo 1 (some .int), Cond.methodLink RX5 170 yX2_giveBack, Cond.instanceMethod yX2_giveBack]
def wsL_law_r21 : List Cond := [Cond.selects RX2 yX2_giveBack yX2_giveBack, Cond.code yX2_giveBack cX2_giveBack 3 (some .boolean), Cond.methodLink RL 64 yX6_undo, Cond.instanceMethod yX6_undo, Cond.selects RX6 yX6_undo yX6_undo, Cond.code yX6_undo cX6_undo 1 (some .int), Cond.methodLink RL 65 yX5_seed, Cond.instanceMethod yX5_seed, Cond.selects RX5 yX5_seed yX5_seed, Cond.code yX5_seed cX5_seed 3 (some .int), Cond.methodLink RL 68 yX6_seed, Cond.instanceMethod yX6_seed, Cond.selects RX6 yX6_seed yX6_seed, Cond.code yX6_seed cX6_seed 3 (some .int), Cond.methodLink RL 69 yX5_ahead, Cond.instanceMethod yX5_ahead, Cond.selects RX5 yX5_ahead yX5_ahead, Cond.code yX5_ahead cX5_ahead 4 (some .int), Cond.methodLink RX5 173 yX1_strengthBehind, Cond.instanceMethod yX1_strengthBehind, Cond.selects RX1 yX1_strengthBehind yX1_strengthBehind, Cond.code yX1_strengthBehind cX1_strengthBehind 5 (some .int), Cond.methodLink RL 72 yX6_ahead, Cond.instanceMethod yX6_ahead]
def wsL_law_r22 : List Cond := [Cond.selects RX6 yX6_ahead yX6_ahead, Cond.code yX6_ahead cX6_ahead 4 (some .int), Cond.methodLink RX6 142 yX6_begin, Cond.instanceMethod yX6_begin, Cond.selects RX6 yX6_begin yX6_begin, Cond.code yX6_begin cX6_begin 1 none, Cond.methodLink RX6 145 yX6_goOn, Cond.instanceMethod yX6_goOn, Cond.selects RX6 yX6_goOn yX6_goOn, Cond.code yX6_goOn cX6_goOn 3 none, Cond.methodLink RL 73 yX5_then, Cond.instanceMethod yX5_then, Cond.selects RX5 yX5_then yX5_then, Cond.code yX5_then cX5_then 2 (some .int), Cond.methodLink RX5 176 yX1_bentBehind, Cond.instanceMethod yX1_bentBehind, Cond.selects RX1 yX1_bentBehind yX1_bentBehind, Cond.code yX1_bentBehind cX1_bentBehind 4 (some .int), Cond.methodLink RX1 84 yX1_strengthBehind, Cond.methodLink RL 76 yX6_then, Cond.instanceMethod yX6_then, Cond.selects RX6 yX6_then yX6_then, Cond.code yX6_then cX6_then 2 (some .int), Cond.methodLink RL 77 yX5_done]
def wsL_law_r23 : List Cond := [Cond.instanceMethod yX5_done, Cond.selects RX5 yX5_done yX5_done, Cond.code yX5_done cX5_done 4 (some .int), Cond.methodLink RX5 179 yX1_strengthAfter, Cond.methodLink RL 80 yX6_done, Cond.instanceMethod yX6_done, Cond.selects RX6 yX6_done yX6_done, Cond.code yX6_done cX6_done 3 (some .int), Cond.methodLink RL 81 yX5_ever, Cond.instanceMethod yX5_ever, Cond.selects RX5 yX5_ever yX5_ever, Cond.code yX5_ever cX5_ever 3 (some .int), Cond.methodLink RX5 183 yX1_isBentWithin, Cond.instanceMethod yX1_isBentWithin, Cond.selects RX1 yX1_isBentWithin yX1_isBentWithin, Cond.code yX1_isBentWithin cX1_isBentWithin 5 (some .boolean), Cond.methodLink RL 84 yX6_ever, Cond.instanceMethod yX6_ever, Cond.selects RX6 yX6_ever yX6_ever, Cond.code yX6_ever cX6_ever 3 (some .int), Cond.methodLink RL 85 yX5_even, Cond.instanceMethod yX5_even, Cond.selects RX5 yX5_even yX5_even, Cond.code yX5_even cX5_even 2 (some .int)]
def wsL_law_r24 : List Cond := [Cond.fieldLink RX5 190 "WoundMedals$Hanging" "bestCost" "I", Cond.methodLink RX5 187 yX0_findEven, Cond.instanceMethod yX0_findEven, Cond.selects RX0 yX0_findEven yX0_findEven, Cond.code yX0_findEven cX0_findEven 1 none, Cond.methodLink RX0 60 yX0_find, Cond.instanceMethod yX0_find, Cond.selects RX0 yX0_find yX0_find, Cond.code yX0_find cX0_find 2 none, Cond.constant RX0 66 (1000000), Cond.methodLink RX0 63 yX0_prepare, Cond.instanceMethod yX0_prepare, Cond.selects RX0 yX0_prepare yX0_prepare, Cond.code yX0_prepare cX0_prepare 3 none, Cond.fieldLink RX0 50 "WoundMedals$Muster" "men" "I", Cond.fieldLink RX0 53 "WoundMedals$Muster" "day" "I", Cond.methodLink RX0 44 yX1_allWorn, Cond.instanceMethod yX1_allWorn, Cond.selects RX1 yX1_allWorn yX1_allWorn, Cond.code yX1_allWorn cX1_allWorn 1 (some .int), Cond.methodLink RX0 56 yX1_loadOfSet, Cond.methodLink RX0 67 yX0_hangFrom, Cond.instanceMethod yX0_hangFrom, Cond.selects RX0 yX0_hangFrom yX0_hangFrom]
def wsL_law_r25 : List Cond := [Cond.code yX0_hangFrom cX0_hangFrom 5 none, Cond.methodLink RX0 71 arraycopyName, Cond.methodLink RX0 77 yX0_costOfFew, Cond.instanceMethod yX0_costOfFew, Cond.selects RX0 yX0_costOfFew yX0_costOfFew, Cond.code yX0_costOfFew cX0_costOfFew 6 (some .int), Cond.fieldLink RX0 90 "WoundMedals$Muster" "wearer" "[I", Cond.methodLink RX0 93 yX0_bends, Cond.instanceMethod yX0_bends, Cond.selects RX0 yX0_bends yX0_bends, Cond.code yX0_bends cX0_bends 3 (some .boolean), Cond.fieldLink RX0 97 "WoundMedals$Muster" "strength" "[I", Cond.methodLink RX0 81 yX0_costOfEven, Cond.instanceMethod yX0_costOfEven, Cond.selects RX0 yX0_costOfEven yX0_costOfEven, Cond.code yX0_costOfEven cX0_costOfEven 3 (some .int), Cond.methodLink RX0 85 Lib.Math.max.name, Cond.methodLink RX5 193 yX0_wouldWear, Cond.instanceMethod yX0_wouldWear, Cond.selects RX0 yX0_wouldWear yX0_wouldWear, Cond.code yX0_wouldWear cX0_wouldWear 2 (some .int), Cond.methodLink RL 88 yX6_even, Cond.instanceMethod yX6_even, Cond.selects RX6 yX6_even yX6_even]
def wsL_law_r26 : List Cond := [Cond.code yX6_even cX6_even 2 (some .int), Cond.fieldLink RX6 149 "WoundMedalsModel" "bestMuch" "I", Cond.methodLink RX6 164 yX6_layBest, Cond.instanceMethod yX6_layBest, Cond.selects RX6 yX6_layBest yX6_layBest, Cond.code yX6_layBest cX6_layBest 6 none, Cond.fieldLink RX6 152 "WoundMedalsModel" "bestChange" "I", Cond.methodLink RX6 155 yX6_ways, Cond.instanceMethod yX6_ways, Cond.selects RX6 yX6_ways yX6_ways, Cond.code yX6_ways cX6_ways 3 (some .int), Cond.methodLink RX6 158 yX6_hangBy, Cond.instanceMethod yX6_hangBy, Cond.selects RX6 yX6_hangBy yX6_hangBy, Cond.code yX6_hangBy cX6_hangBy 5 (some .int), Cond.methodLink RX6 161 yX6_greatest, Cond.static yX6_greatest, Cond.code yX6_greatest cX6_greatest 3 (some .int), Cond.methodLink RL 89 yX5_few, Cond.instanceMethod yX5_few, Cond.selects RX5 yX5_few yX5_few, Cond.code yX5_few cX5_few 2 (some .int), Cond.methodLink RX5 196 yX0_findFew, Cond.instanceMethod yX0_findFew]
def wsL_law_r27 : List Cond := [Cond.selects RX0 yX0_findFew yX0_findFew, Cond.code yX0_findFew cX0_findFew 1 none, Cond.methodLink RL 92 yX6_few, Cond.instanceMethod yX6_few, Cond.selects RX6 yX6_few yX6_few, Cond.code yX6_few cX6_few 2 (some .int), Cond.methodLink RL 93 yX5_off, Cond.instanceMethod yX5_off, Cond.selects RX5 yX5_off yX5_off, Cond.code yX5_off cX5_off 7 (some .int), Cond.methodLink RX5 199 yJ6_bitCount_0f7a4, Cond.methodLink RL 96 yX6_off, Cond.instanceMethod yX6_off, Cond.selects RX6 yX6_off yX6_off, Cond.code yX6_off cX6_off 7 (some .int), Cond.methodLink RL 97 yX5_needs, Cond.instanceMethod yX5_needs, Cond.selects RX5 yX5_needs yX5_needs, Cond.code yX5_needs cX5_needs 6 (some .int), Cond.methodLink RX5 207 yX5_staysUpright, Cond.static yX5_staysUpright, Cond.code yX5_staysUpright cX5_staysUpright 8 (some .boolean), Cond.methodLink RX5 282 yX5_strengthNext, Cond.methodLink RL 100 yX6_needs]
def wsL_law_r28 : List Cond := [Cond.instanceMethod yX6_needs, Cond.selects RX6 yX6_needs yX6_needs, Cond.code yX6_needs cX6_needs 4 (some .int), Cond.methodLink RX6 168 yX6_isUpright, Cond.instanceMethod yX6_isUpright, Cond.selects RX6 yX6_isUpright yX6_isUpright, Cond.code yX6_isUpright cX6_isUpright 5 (some .boolean), Cond.methodLink RL 101 yX5_two, Cond.instanceMethod yX5_two, Cond.selects RX5 yX5_two yX5_two, Cond.code yX5_two cX5_two 7 (some .int), Cond.methodLink RX5 211 yX1_wornByTwo, Cond.instanceMethod yX1_wornByTwo, Cond.selects RX1 yX1_wornByTwo yX1_wornByTwo, Cond.code yX1_wornByTwo cX1_wornByTwo 3 (some .boolean), Cond.methodLink RX5 214 yX1_loadsIfChanged, Cond.instanceMethod yX1_loadsIfChanged, Cond.selects RX1 yX1_loadsIfChanged yX1_loadsIfChanged, Cond.code yX1_loadsIfChanged cX1_loadsIfChanged 6 (some .int), Cond.methodLink RL 104 yX6_two, Cond.instanceMethod yX6_two, Cond.selects RX6 yX6_two yX6_two, Cond.code yX6_two cX6_two 9 (some .int), Cond.methodLink RL 105 yX5_error]
def wsL_law_r29 : List Cond := [Cond.instanceMethod yX5_error, Cond.selects RX5 yX5_error yX5_error, Cond.code yX5_error cX5_error 6 (some .int), Cond.methodLink RX5 217 yX0_prepare, Cond.methodLink RX5 220 yX0_waysWithNobodyBent, Cond.instanceMethod yX0_waysWithNobodyBent, Cond.selects RX0 yX0_waysWithNobodyBent yX0_waysWithNobodyBent, Cond.code yX0_waysWithNobodyBent cX0_waysWithNobodyBent 3 (some .int), Cond.methodLink RX0 109 yX0_waysWith, Cond.instanceMethod yX0_waysWith, Cond.selects RX0 yX0_waysWith yX0_waysWith, Cond.code yX0_waysWith cX0_waysWith 5 (some .int), Cond.methodLink RX5 223 yX0_waysWithBent, Cond.instanceMethod yX0_waysWithBent, Cond.selects RX0 yX0_waysWithBent yX0_waysWithBent, Cond.code yX0_waysWithBent cX0_waysWithBent 4 (some .int), Cond.methodLink RX0 100 yJ6_bitCount_0f7a4, Cond.methodLink RX0 106 yX0_power, Cond.static yX0_power, Cond.code yX0_power cX0_power 4 (some .int), Cond.methodLink RX5 226 yX0_ways, Cond.instanceMethod yX0_ways, Cond.selects RX0 yX0_ways yX0_ways, Cond.code yX0_ways cX0_ways 1 (some .int)]
def wsL_law_r30 : List Cond := [Cond.methodLink RX5 229 yX5_greatestCommonDivisor, Cond.static yX5_greatestCommonDivisor, Cond.code yX5_greatestCommonDivisor cX5_greatestCommonDivisor 6 (some .int), Cond.methodLink RL 108 yX6_error, Cond.instanceMethod yX6_error, Cond.selects RX6 yX6_error yX6_error, Cond.code yX6_error cX6_error 7 (some .int), Cond.methodLink RL 109 yX5_image, Cond.instanceMethod yX5_image, Cond.selects RX5 yX5_image yX5_image, Cond.code yX5_image cX5_image 1 (some .int), Cond.methodLink RX5 232 yX2_take, Cond.instanceMethod yX2_take, Cond.selects RX2 yX2_take yX2_take, Cond.code yX2_take cX2_take 3 none, Cond.methodLink RL 112 yX6_image, Cond.instanceMethod yX6_image, Cond.selects RX6 yX6_image yX6_image, Cond.code yX6_image cX6_image 1 (some .int), Cond.fieldLink RX6 171 "WoundMedalsModel" "isKept" "Z", Cond.methodLink RL 113 yX5_restore, Cond.instanceMethod yX5_restore, Cond.selects RX5 yX5_restore yX5_restore, Cond.code yX5_restore cX5_restore 1 (some .int)]
def wsL_law_r31 : List Cond := [Cond.methodLink RL 116 yX6_restore, Cond.instanceMethod yX6_restore, Cond.selects RX6 yX6_restore yX6_restore, Cond.code yX6_restore cX6_restore 1 (some .int), Cond.methodLink RL 117 yX5_felt, Cond.instanceMethod yX5_felt, Cond.selects RX5 yX5_felt yX5_felt, Cond.code yX5_felt cX5_felt 14 (some .int), Cond.methodLink RX5 235 yX5_isSheet, Cond.static yX5_isSheet, Cond.code yX5_isSheet cX5_isSheet 1 (some .boolean), Cond.methodLink RX5 238 yX5_isLane, Cond.static yX5_isLane, Cond.code yX5_isLane cX5_isLane 1 (some .boolean), Cond.methodLink RX5 241 yX3_refuses, Cond.instanceMethod yX3_refuses, Cond.selects RX3 yX3_refuses yX3_refuses, Cond.code yX3_refuses cX3_refuses 4 (some .int), Cond.methodLink RX3 26 yX3_reaches, Cond.instanceMethod yX3_reaches, Cond.selects RX3 yX3_reaches yX3_reaches, Cond.code yX3_reaches cX3_reaches 3 (some .boolean), Cond.methodLink RX5 244 yX5_trialIsTold, Cond.instanceMethod yX5_trialIsTold]
def wsL_law_r32 : List Cond := [Cond.selects RX5 yX5_trialIsTold yX5_trialIsTold, Cond.code yX5_trialIsTold cX5_trialIsTold 7 (some .boolean), Cond.fieldLink RX5 266 "WoundMedals$Row" "items" "[J", Cond.methodLink RL 121 yX6_felt, Cond.instanceMethod yX6_felt, Cond.selects RX6 yX6_felt yX6_felt, Cond.code yX6_felt cX6_felt 11 (some .int), Cond.methodLink RX6 178 yX6_isSheet, Cond.static yX6_isSheet, Cond.code yX6_isSheet cX6_isSheet 1 (some .boolean), Cond.methodLink RX6 181 yX6_wrong, Cond.instanceMethod yX6_wrong, Cond.selects RX6 yX6_wrong yX6_wrong, Cond.code yX6_wrong cX6_wrong 5 (some .int), Cond.methodLink RX6 175 yX6_isPart, Cond.static yX6_isPart, Cond.code yX6_isPart cX6_isPart 3 (some .boolean), Cond.methodLink RX6 185 yX6_isFelt, Cond.instanceMethod yX6_isFelt, Cond.selects RX6 yX6_isFelt yX6_isFelt, Cond.code yX6_isFelt cX6_isFelt 7 (some .boolean), Cond.methodLink RL 122 yX5_film, Cond.instanceMethod yX5_film, Cond.selects RX5 yX5_film yX5_film]
def wsL_law_r33 : List Cond := [Cond.code yX5_film cX5_film 10 (some .int), Cond.methodLink RX5 248 yX3_put, Cond.instanceMethod yX3_put, Cond.selects RX3 yX3_put yX3_put, Cond.code yX3_put cX3_put 4 none, Cond.methodLink RL 126 yX6_film, Cond.instanceMethod yX6_film, Cond.selects RX6 yX6_film yX6_film, Cond.code yX6_film cX6_film 8 (some .int), Cond.methodLink RX6 189 yX6_cutTo, Cond.static yX6_cutTo, Cond.code yX6_cutTo cX6_cutTo 3 (some .long), Cond.methodLink RL 127 yX5_sheet, Cond.instanceMethod yX5_sheet, Cond.selects RX5 yX5_sheet yX5_sheet, Cond.code yX5_sheet cX5_sheet 4 (some .int), Cond.methodLink RX5 252 yX3_begin, Cond.instanceMethod yX3_begin, Cond.selects RX3 yX3_begin yX3_begin, Cond.code yX3_begin cX3_begin 4 none, Cond.methodLink RL 130 yX6_sheet, Cond.instanceMethod yX6_sheet, Cond.selects RX6 yX6_sheet yX6_sheet, Cond.code yX6_sheet cX6_sheet 5 (some .int)]
def wsL_law_r34 : List Cond := [Cond.methodLink RL 131 yX5_drop, Cond.instanceMethod yX5_drop, Cond.selects RX5 yX5_drop yX5_drop, Cond.code yX5_drop cX5_drop 3 (some .int), Cond.fieldLink RX5 256 "WoundMedals$Row" "isThere" "Z", Cond.fieldLink RX5 259 "WoundMedals$Row" "length" "I", Cond.methodLink RL 134 yX6_drop, Cond.instanceMethod yX6_drop, Cond.selects RX6 yX6_drop yX6_drop, Cond.code yX6_drop cX6_drop 2 (some .int), Cond.methodLink RL 137 yX5_item, Cond.instanceMethod yX5_item, Cond.selects RX5 yX5_item yX5_item, Cond.code yX5_item cX5_item 7 (some .int), Cond.methodLink RL 141 yX6_item, Cond.instanceMethod yX6_item, Cond.selects RX6 yX6_item yX6_item, Cond.code yX6_item cX6_item 7 (some .int), Cond.methodLink RL 142 yX5_copy, Cond.instanceMethod yX5_copy, Cond.selects RX5 yX5_copy yX5_copy, Cond.code yX5_copy cX5_copy 8 (some .int), Cond.fieldLink RX5 260 "WoundMedals$Row" "lane" "I", Cond.methodLink RX5 270 arraycopyName]
def wsL_law_r35 : List Cond := [Cond.methodLink RX5 263 yX3_reaches, Cond.methodLink RL 145 yX6_copy, Cond.instanceMethod yX6_copy, Cond.selects RX6 yX6_copy yX6_copy, Cond.code yX6_copy cX6_copy 9 (some .int)]
def wsL_law : List Cond := (wsL_law_r1 ++ (wsL_law_r2 ++ (wsL_law_r3 ++ (wsL_law_r4 ++ (wsL_law_r5 ++ (wsL_law_r6 ++ (wsL_law_r7 ++ (wsL_law_r8 ++ (wsL_law_r9 ++ (wsL_law_r10 ++ (wsL_law_r11 ++ (wsL_law_r12 ++ (wsL_law_r13 ++ (wsL_law_r14 ++ (wsL_law_r15 ++ (wsL_law_r16 ++ (wsL_law_r17 ++ (wsL_law_r18 ++ (wsL_law_r19 ++ (wsL_law_r20 ++ (wsL_law_r21 ++ (wsL_law_r22 ++ (wsL_law_r23 ++ (wsL_law_r24 ++ (wsL_law_r25 ++ (wsL_law_r26 ++ (wsL_law_r27 ++ (wsL_law_r28 ++ (wsL_law_r29 ++ (wsL_law_r30 ++ (wsL_law_r31 ++ (wsL_law_r32 ++ (wsL_law_r33 ++ (wsL_law_r34 ++ wsL_law_r35)))))))))))))))))))))))))))))))))) ++ wsX50 ++ wsX60 ++ wsX10 ++ wsX20 ++ wsX40 ++ wsX00 ++ wsX30 ++ ([] : List Cond)
end
section
abbrev vwCl : List vw_C := [(RX0, TX0, 9), (RX1, TX1, 10), (RX2, TX2, 3), (RX3, TX3, 4), (RX4, TX4, 3), (RX5, TX5, 9), (RX6, TX6, 15)]
/-! THE WORLD: 74 places, a cell each; qa: the address of a place, E: what the place holds -/
def WD (qa : Nat → Nat) (E : Nat → va_E) : va_W := (List.range 74).map (fun k => (qa k, E k))
theorem WD_get {qa : Nat → Nat} {E : Nat → va_E} {k : Nat} (h : k < 74) : (WD qa E)[k]? = some (qa k, E k) := by
  unfold WD
  rw [List.getElem?_map, List.getElem?_range h]
  rfl
theorem WD_get' {qa : Nat → Nat} {E : Nat → va_E} {k : Nat} {q : Nat × va_E} (h : (WD qa E)[k]? = some q) : k < 74 ∧ q = (qa k, E k) := by
  have hl : k < (WD qa E).length := (List.getElem?_eq_some_iff.mp h).1
  have h74 : k < 74 := by simpa [WD] using hl
  rw [WD_get h74] at h
  exact ⟨h74, (Option.some.inj h).symm⟩
theorem WD_at {qa : Nat → Nat} {E : Nat → va_E} {k : Nat} {e : va_E} (h : k < 74) (he : E k = e) : (WD qa E)[k]? = some (qa k, e) := by
  rw [WD_get h, he]
theorem WD_set {qa : Nat → Nat} {E : Nat → va_E} {k : Nat} {e : va_E} (h : k < 74) : (WD qa E).set k (qa k, e) = WD qa (va_up E k e) := by
  apply List.ext_getElem?
  intro j
  by_cases hj : j < 74
  · rw [WD_get hj]
    by_cases hjk : k = j
    · subst hjk
      rw [List.getElem?_set_self (by simpa [WD] using h), va_up_self]
    · rw [List.getElem?_set_ne hjk, WD_get hj, va_up_ne _ _ (fun z => hjk z.symm)]
  · rw [List.getElem?_eq_none (by simp [WD]; omega), List.getElem?_eq_none (by simp [WD]; omega)]
def gty (g : Nat → ClassId) : List (ClassId × FieldType) := [(g 0, .int), (g 1, .long), (g 2, .char), (g 3, .array .int), (g 4, .object "WoundMedals$Row")]
def gA (qa : Nat → Nat) (sz : Nat) : Nat → Prop := fun q => (∃ k, k < 74 ∧ qa k = q) ∨ sz ≤ q
def gJ (qa : Nat → Nat) : Prop := ∀ i j, i < 74 → j < 74 → qa i = qa j → i = j
theorem gD {qa : Nat → Nat} {E : Nat → va_E} {sz : Nat} (h : gJ qa) : va_D (gA qa sz) (WD qa E) := by
  refine ⟨fun i j p q hi hj e => ?_, fun k q hk => ?_⟩
  · obtain ⟨h1, rfl⟩ := WD_get' hi
    obtain ⟨h2, rfl⟩ := WD_get' hj
    exact h i j h1 h2 e
  · obtain ⟨h1, rfl⟩ := WD_get' hk
    exact Or.inl ⟨k, h1, rfl⟩
def gN (U : State) : Prop := va_Nw (.methodLinkNest RX1 74 yX5_strengthNext "WoundMedals") U
def gP (D : va_G) (g : Nat → ClassId) (qa : Nat → Nat) (E : Nat → va_E) (sz : Nat) (U : State) : Prop := U.heap.size = sz ∧ va_P D vwCl (WD qa E) U.heap ∧ va_K D vwCl (gty g) U ∧ gJ qa ∧ gN U
theorem gP_blind {D : va_G} {g : Nat → ClassId} {qa : Nat → Nat} {E : Nat → va_E} {sz : Nat} {av : List Value} : FrameBlind (va_Pc av (gP D g qa E sz)) := by
  intro a U gf mk q
  obtain ⟨q0, q1, qP, qK, qJ, qN⟩ := q
  exact ⟨q0, q1, qP, va_K.moved (u := U) (U := U.calling gf mk a) (Vm.Alike.refl U.vm) qK, qJ, va_Nw.same rfl rfl qN⟩
/-- the contracts: an int, a long, nothing is answered; E' is what the places hold then -/
def QI (D : va_G) (qa : Nat → Nat) (r : Int32) (post : (Nat → va_E) → Prop) (sz : Nat) : Array Value → State → Outcome → State → Prop := va_Qi (fun (r' : Int32) (E' : Nat → va_E) => r' = r ∧ post E') (fun E' t => va_P D vwCl (WD qa E') t.heap) (gA qa sz)
def QL (D : va_G) (qa : Nat → Nat) (r : Int64) (post : (Nat → va_E) → Prop) (sz : Nat) : Array Value → State → Outcome → State → Prop := va_Ql (fun (r' : Int64) (E' : Nat → va_E) => r' = r ∧ post E') (fun E' t => va_P D vwCl (WD qa E') t.heap) (gA qa sz)
def QV (D : va_G) (qa : Nat → Nat) (post : (Nat → va_E) → Prop) (sz : Nat) : Array Value → State → Outcome → State → Prop := va_Qv (fun (E' : Nat → va_E) => post E') (fun E' t => va_P D vwCl (WD qa E') t.heap) (gA qa sz)
def rmf (n : Nat) : Room := { frames := n, cells := 0, slots := 0, locals := 100 * n }
def MI (l : Launch) (y : MethodName) (ws : List Cond) (n : Nat) (D : va_G) (g : Nat → ClassId) (qa : Nat → Nat) (E : Nat → va_E) (av : List Value) (r : Int32) (post : (Nat → va_E) → Prop) : Prop :=
  ∀ sz : Nat, Met l y ws (rmf n) (va_Pc av (gP D g qa E sz)) (QI D qa r post sz) 0 0 (gA qa sz)
def ML (l : Launch) (y : MethodName) (ws : List Cond) (n : Nat) (D : va_G) (g : Nat → ClassId) (qa : Nat → Nat) (E : Nat → va_E) (av : List Value) (r : Int64) (post : (Nat → va_E) → Prop) : Prop :=
  ∀ sz : Nat, Met l y ws (rmf n) (va_Pc av (gP D g qa E sz)) (QL D qa r post sz) 0 0 (gA qa sz)
def MV (l : Launch) (y : MethodName) (ws : List Cond) (n : Nat) (D : va_G) (g : Nat → ClassId) (qa : Nat → Nat) (E : Nat → va_E) (av : List Value) (post : (Nat → va_E) → Prop) : Prop :=
  ∀ sz : Nat, Met l y ws (rmf n) (va_Pc av (gP D g qa E sz)) (QV D qa post sz) 0 0 (gA qa sz)
/-- what stays the same through a body -/
def Cx (p : Program) (s : State) (m : MethodId) (args : Array Value) (c : Code) (cc : ByteArray) (nL : Nat) (own : String) (Ts : List Cond) (D : va_G) (g : Nat → ClassId) (qa : Nat → Nat) : Prop :=
  p.tables.exec = Jvm.exec ∧ c.code = cc ∧ c.maxLocals = nL ∧ s.vm.findClass own = some m.cls ∧ (∀ w ∈ Ts, w.before args s = true) ∧ va_K D vwCl (gty g) s ∧ gJ qa ∧ gN s
section XR
variable {p : Program} {l : Launch} {e : Env} {R : Room} {s : State} {m : MethodId} {args : Array Value} {below : List Frame} {meth : Method} {c : Code} {H : Heap} {locs : List Loc} {Q : State → Prop}
variable {cc : ByteArray} {pc nL : Nat} {ls : Array Slot} {rest : List Value} {own : String} {Ts : List Cond} {D : va_G} {g : Nat → ClassId} {qa : Nat → Nat} {E : Nat → va_E} {H0 : Heap}
theorem x_get (X : Cx p s m args c cc nL own Ts D g qa) (hP : va_P D vwCl (WD qa E) H) {k ci : Nat} {fs : List Value} (hE : E k = .inr (ci, fs)) (hk : k < 74) {C ref : String} {T : u_T} {N index : Nat} (hc : vwCl[ci]? = some (C, T, N)) (hin : ∀ w ∈ u_ws C T N, w ∈ Ts) (i : Nat) (hi : i < N) (hlink : Cond.fieldLink own index ref (T i).2.1 (T i).2.2.1 ∈ Ts) (hsame : (T i).1 = ref) {v : Value} (hv : fs[i]? = some v) (hdg : decode cc pc = .ok (.getfield index, 3))
    (kk : W p l e R s m args below meth c H locs 0 0 Q (F0 m (pc + 3) ls (v :: rest))) : W p l e R s m args below meth c H locs 0 0 Q (F0 m pc ls (.ref (qa k) :: rest)) := by
  obtain ⟨hx, hb, hml, hown, hts, hK, hJ, hN⟩ := X
  exact va_get hx hb hts hin hown hK hP k (WD_at hk hE) hc i hi (hts _ hlink) (fun x hx => by rw [← hsame]; exact hx) hv hdg kk
theorem x_put (X : Cx p s m args c cc nL own Ts D g qa) (hP : va_P D vwCl (WD qa E) H) (hS : va_S (gA qa H0.size) H0 H locs) {k ci : Nat} {fs : List Value} (hE : E k = .inr (ci, fs)) (hk : k < 74) {C ref : String} {T : u_T} {N index : Nat} (hc : vwCl[ci]? = some (C, T, N)) (hin : ∀ w ∈ u_ws C T N, w ∈ Ts) (ty0 : Nat → FieldType) (hty : ∀ k, k < N → parseFieldDescriptor (T k).2.2.1 = some (ty0 k)) (hnm : ∀ a, a < N → ∀ b, b < N → a ≠ b → (T a).2.1 ≠ (T b).2.1) (i : Nat) (hi : i < N) (hlink : Cond.fieldLink own index ref (T i).2.1 (T i).2.2.1 ∈ Ts) (hsame : (T i).1 = ref) (hfin : (T i).2.2.2 = false) {ty : FieldType} {v : Value} (hd : parseFieldDescriptor (T i).2.2.1 = some ty) (hn : narrow ty v = v) (hfit : fits ty v = true) (hl : i < fs.length) (hdg : decode cc pc = .ok (.putfield index, 3))
    (kk : ∀ (E1 : Nat → va_E) (H1 : Heap) (locs1 : List Loc), E1 k = .inr (ci, fs.set i v) → (∀ j, j ≠ k → E1 j = E j) → va_P D vwCl (WD qa E1) H1 → va_S (gA qa H0.size) H0 H1 locs1 → W p l e R s m args below meth c H1 locs1 0 0 Q (F0 m (pc + 3) ls rest)) : W p l e R s m args below meth c H locs 0 0 Q (F0 m pc ls (v :: .ref (qa k) :: rest)) := by
  obtain ⟨hx, hb, hml, hown, hts, hK, hJ, hN⟩ := X
  refine va_put hx hb hts hin ty0 hty hnm hown hK hP (gD hJ) hS k (WD_at hk hE) hc i hi (hts _ hlink) (fun x hx => by rw [← hsame]; exact hx) hfin hd hn hfit hl hdg (fun H1 locs1 hP1 hD1 hS1 => ?_)
  rw [WD_set hk] at hP1
  exact kk _ H1 locs1 (va_up_self _ _ _) (fun j hj => va_up_ne _ _ hj) hP1 hS1
theorem x_iald (X : Cx p s m args c cc nL own Ts D g qa) (hP : va_P D vwCl (WD qa E) H) {k n : Nat} {f : Nat → Int32} (hE : E k = .inl (g 0, n, .inl f)) (hk : k < 74) {i : Int32} (hin : vp_in i n) (hdg : decode cc pc = .ok (.iaload, 1))
    (kk : W p l e R s m args below meth c H locs 0 0 Q (F0 m (pc + 1) ls (.int (f i.toNatClampNeg) :: rest))) : W p l e R s m args below meth c H locs 0 0 Q (F0 m pc ls (.int i :: .ref (qa k) :: rest)) := by
  obtain ⟨hx, hb, hml, hown, hts, hK, hJ, hN⟩ := X
  exact va_iald hx hb hK hP k 0 (WD_at hk hE) rfl hin hdg kk
theorem x_cald (X : Cx p s m args c cc nL own Ts D g qa) (hP : va_P D vwCl (WD qa E) H) {k n : Nat} {f : Nat → Int32} (hE : E k = .inl (g 2, n, .inl f)) (hk : k < 74) {i : Int32} (hin : vp_in i n) (hdg : decode cc pc = .ok (.caload, 1))
    (kk : W p l e R s m args below meth c H locs 0 0 Q (F0 m (pc + 1) ls (.int (f i.toNatClampNeg) :: rest))) : W p l e R s m args below meth c H locs 0 0 Q (F0 m pc ls (.int i :: .ref (qa k) :: rest)) := by
  obtain ⟨hx, hb, hml, hown, hts, hK, hJ, hN⟩ := X
  exact va_cald hx hb hK hP k 2 (WD_at hk hE) rfl hin hdg kk
theorem x_lald (X : Cx p s m args c cc nL own Ts D g qa) (hP : va_P D vwCl (WD qa E) H) {k n : Nat} {f : Nat → Int64} (hE : E k = .inl (g 1, n, .inr (.inl f))) (hk : k < 74) {i : Int32} (hin : vp_in i n) (hdg : decode cc pc = .ok (.laload, 1))
    (kk : W p l e R s m args below meth c H locs 0 0 Q (F0 m (pc + 1) ls (.long (f i.toNatClampNeg) :: rest))) : W p l e R s m args below meth c H locs 0 0 Q (F0 m pc ls (.int i :: .ref (qa k) :: rest)) := by
  obtain ⟨hx, hb, hml, hown, hts, hK, hJ, hN⟩ := X
  exact va_lald hx hb hK hP k 1 (WD_at hk hE) rfl hin hdg kk
/-- an array whose places hold the cells from place b on -/
def grd (qa : Nat → Nat) (b n : Nat) : vp_A := (n, .inr (.inr (.inr (.inr (fun j => if j < n then some (qa (b + j)) else none)))))
theorem x_aald (X : Cx p s m args c cc nL own Ts D g qa) (hP : va_P D vwCl (WD qa E) H) {k n b : Nat} (t : Nat) {ty : FieldType} (ht : (gty g)[t]? = some (g t, ty)) (hr : ty.isReference = true) (hE : E k = .inl (g t, grd qa b n)) (hk : k < 74) {i : Int32} (hin : vp_in i n) (hdg : decode cc pc = .ok (.aaload, 1))
    (kk : W p l e R s m args below meth c H locs 0 0 Q (F0 m (pc + 1) ls (.ref (qa (b + i.toNatClampNeg)) :: rest))) : W p l e R s m args below meth c H locs 0 0 Q (F0 m pc ls (.int i :: .ref (qa k) :: rest)) := by
  obtain ⟨hx, hb, hml, hown, hts, hK, hJ, hN⟩ := X
  have hlt : i.toNatClampNeg < n := Nat.not_le.mp fun q => hin (Or.inr q)
  have hv : va_rf ((fun j => if j < n then some (qa (b + j)) else none) i.toNatClampNeg) = .ref (qa (b + i.toNatClampNeg)) := by
    show va_rf (if i.toNatClampNeg < n then some (qa (b + i.toNatClampNeg)) else none) = _
    rw [if_pos hlt]
    rfl
  rw [← hv] at kk
  have hE : E k = .inl (g t, n, .inr (.inr (.inr (.inr (fun j => if j < n then some (qa (b + j)) else none))))) := hE
  exact W.aald (v := va_rf ((fun j => if j < n then some (qa (b + j)) else none) i.toNatClampNeg)) (ty := ty) hx hb (hP k _ (WD_at hk hE)) ((hK.2 t _ ht).1 n (fun j => va_rf ((fun j => if j < n then some (qa (b + j)) else none) j))) hr (fun q => by cases q) (by show ¬ (i < 0 ∨ (arrV _ _ _).slots.size ≤ _); rw [arrV_size]; exact hin) (by show (arrV _ _ _).slots[_]? = _; rw [arrV_read _ _ hlt]) rfl rfl hdg kk
theorem x_iast (X : Cx p s m args c cc nL own Ts D g qa) (hP : va_P D vwCl (WD qa E) H) (hS : va_S (gA qa H0.size) H0 H locs) {k n : Nat} {f : Nat → Int32} (hE : E k = .inl (g 0, n, .inl f)) (hk : k < 74) {i x : Int32} (hin : vp_in i n) (hdg : decode cc pc = .ok (.iastore, 1))
    (kk : ∀ (E1 : Nat → va_E) (H1 : Heap) (locs1 : List Loc), E1 k = .inl (g 0, n, .inl (upd f i.toNatClampNeg x)) → (∀ j, j ≠ k → E1 j = E j) → va_P D vwCl (WD qa E1) H1 → va_S (gA qa H0.size) H0 H1 locs1 → W p l e R s m args below meth c H1 locs1 0 0 Q (F0 m (pc + 1) ls rest)) : W p l e R s m args below meth c H locs 0 0 Q (F0 m pc ls (.int x :: .int i :: .ref (qa k) :: rest)) := by
  obtain ⟨hx, hb, hml, hown, hts, hK, hJ, hN⟩ := X
  refine va_iast hx hb hK hP (gD hJ) hS k 0 (WD_at hk hE) rfl hin hdg (fun H1 locs1 hP1 hD1 hS1 => ?_)
  rw [WD_set hk] at hP1
  exact kk _ H1 locs1 (va_up_self _ _ _) (fun j hj => va_up_ne _ _ hj) hP1 hS1
theorem x_cast (X : Cx p s m args c cc nL own Ts D g qa) (hP : va_P D vwCl (WD qa E) H) (hS : va_S (gA qa H0.size) H0 H locs) {k n : Nat} {f : Nat → Int32} (hE : E k = .inl (g 2, n, .inl f)) (hk : k < 74) {i x : Int32} (hin : vp_in i n) (hdg : decode cc pc = .ok (.castore, 1))
    (kk : ∀ (E1 : Nat → va_E) (H1 : Heap) (locs1 : List Loc), E1 k = .inl (g 2, n, .inl (upd f i.toNatClampNeg (vp_nar .char x))) → (∀ j, j ≠ k → E1 j = E j) → va_P D vwCl (WD qa E1) H1 → va_S (gA qa H0.size) H0 H1 locs1 → W p l e R s m args below meth c H1 locs1 0 0 Q (F0 m (pc + 1) ls rest)) : W p l e R s m args below meth c H locs 0 0 Q (F0 m pc ls (.int x :: .int i :: .ref (qa k) :: rest)) := by
  obtain ⟨hx, hb, hml, hown, hts, hK, hJ, hN⟩ := X
  refine va_cast hx hb hK hP (gD hJ) hS k 2 (WD_at hk hE) rfl hin hdg (fun H1 locs1 hP1 hD1 hS1 => ?_)
  rw [WD_set hk] at hP1
  exact kk _ H1 locs1 (va_up_self _ _ _) (fun j hj => va_up_ne _ _ hj) hP1 hS1
theorem x_last (X : Cx p s m args c cc nL own Ts D g qa) (hP : va_P D vwCl (WD qa E) H) (hS : va_S (gA qa H0.size) H0 H locs) {k n : Nat} {f : Nat → Int64} (hE : E k = .inl (g 1, n, .inr (.inl f))) (hk : k < 74) {i : Int32} {x : Int64} (hin : vp_in i n) (hdg : decode cc pc = .ok (.lastore, 1))
    (kk : ∀ (E1 : Nat → va_E) (H1 : Heap) (locs1 : List Loc), E1 k = .inl (g 1, n, .inr (.inl (vp_updL f i.toNatClampNeg x))) → (∀ j, j ≠ k → E1 j = E j) → va_P D vwCl (WD qa E1) H1 → va_S (gA qa H0.size) H0 H1 locs1 → W p l e R s m args below meth c H1 locs1 0 0 Q (F0 m (pc + 1) ls rest)) : W p l e R s m args below meth c H locs 0 0 Q (F0 m pc ls (.long x :: .int i :: .ref (qa k) :: rest)) := by
  obtain ⟨hx, hb, hml, hown, hts, hK, hJ, hN⟩ := X
  refine va_last hx hb hK hP (gD hJ) hS k 1 (WD_at hk hE) rfl hin hdg (fun H1 locs1 hP1 hD1 hS1 => ?_)
  rw [WD_set hk] at hP1
  exact kk _ H1 locs1 (va_up_self _ _ _) (fun j hj => va_up_ne _ _ hj) hP1 hS1
/-- System.arraycopy of ints, of longs -/
theorem x_copyi (X : Cx p s m args c cc nL own Ts D g qa) (hP : va_P D vwCl (WD qa E) H) (hS : va_S (gA qa H0.size) H0 H locs) {k0 k1 n0 n1 : Nat} {f h : Nat → Int32} (hE0 : E k0 = .inl (g 0, n0, .inl f)) (hk0 : k0 < 74) (hE1 : E k1 = .inl (g 0, n1, .inl h)) (hk1 : k1 < 74) {index : Nat} (hlink : Cond.methodLink own index arraycopyName ∈ Ts) (hnat : Cond.native arraycopyName ∈ Ts) (hstat : Cond.static arraycopyName ∈ Ts) (hini : Cond.initialized "java/lang/System" ∈ Ts) (hls : ls.size = nL)
    {sp dp n : Int32} (h1 : ¬ sp < 0) (h2 : ¬ dp < 0) (h3 : ¬ n < 0) (h4 : sp.toNatClampNeg + n.toNatClampNeg ≤ n0) (h5 : dp.toNatClampNeg + n.toNatClampNeg ≤ n1) (hframes : 1 ≤ R.frames) (hlocals : (rest.map fun v => v.category).sum + (nativeFrameWords "java/lang/System" "arraycopy" 5 + 11) ≤ R.locals) (hdg : decode cc pc = .ok (.invokestatic index, 3))
    (kk : ∀ (E1 : Nat → va_E) (H1 : Heap) (locs1 : List Loc), E1 k1 = .inl (g 0, n1, .inl (va_cpy f h sp.toNatClampNeg dp.toNatClampNeg n.toNatClampNeg)) → (∀ j, j ≠ k1 → E1 j = E j) → va_P D vwCl (WD qa E1) H1 → va_S (gA qa H0.size) H0 H1 locs1 → W p l e R s m args below meth c H1 locs1 0 0 Q (F0 m (pc + 3) ls rest)) : W p l e R s m args below meth c H locs 0 0 Q (F0 m pc ls (.int n :: .int dp :: .ref (qa k1) :: .int sp :: .ref (qa k0) :: rest)) := by
  obtain ⟨hx, hb, hml, hown, hts, hK, hJ, hN⟩ := X
  refine va_copyi hx hb (hml.trans hls.symm) hown (hts _ hlink) (hts _ hnat) (hts _ hstat) (hts _ hini) hK hP (gD hJ) hS k0 k1 0 0 (ty := .int) (WD_at hk0 hE0) (WD_at hk1 hE1) rfl rfl rfl h1 h2 h3 h4 h5 (fun i _ => rfl) hframes hlocals hdg (fun H1 locs1 hP1 hD1 hS1 => ?_)
  rw [WD_set hk1] at hP1
  exact kk _ H1 locs1 (va_up_self _ _ _) (fun j hj => va_up_ne _ _ hj) hP1 hS1
theorem x_copyl (X : Cx p s m args c cc nL own Ts D g qa) (hP : va_P D vwCl (WD qa E) H) (hS : va_S (gA qa H0.size) H0 H locs) {k0 k1 n0 n1 : Nat} {f h : Nat → Int64} (hE0 : E k0 = .inl (g 1, n0, .inr (.inl f))) (hk0 : k0 < 74) (hE1 : E k1 = .inl (g 1, n1, .inr (.inl h))) (hk1 : k1 < 74) {index : Nat} (hlink : Cond.methodLink own index arraycopyName ∈ Ts) (hnat : Cond.native arraycopyName ∈ Ts) (hstat : Cond.static arraycopyName ∈ Ts) (hini : Cond.initialized "java/lang/System" ∈ Ts) (hls : ls.size = nL)
    {sp dp n : Int32} (h1 : ¬ sp < 0) (h2 : ¬ dp < 0) (h3 : ¬ n < 0) (h4 : sp.toNatClampNeg + n.toNatClampNeg ≤ n0) (h5 : dp.toNatClampNeg + n.toNatClampNeg ≤ n1) (hframes : 1 ≤ R.frames) (hlocals : (rest.map fun v => v.category).sum + (nativeFrameWords "java/lang/System" "arraycopy" 5 + 11) ≤ R.locals) (hdg : decode cc pc = .ok (.invokestatic index, 3))
    (kk : ∀ (E1 : Nat → va_E) (H1 : Heap) (locs1 : List Loc), E1 k1 = .inl (g 1, n1, .inr (.inl (va_cpy f h sp.toNatClampNeg dp.toNatClampNeg n.toNatClampNeg))) → (∀ j, j ≠ k1 → E1 j = E j) → va_P D vwCl (WD qa E1) H1 → va_S (gA qa H0.size) H0 H1 locs1 → W p l e R s m args below meth c H1 locs1 0 0 Q (F0 m (pc + 3) ls rest)) : W p l e R s m args below meth c H locs 0 0 Q (F0 m pc ls (.int n :: .int dp :: .ref (qa k1) :: .int sp :: .ref (qa k0) :: rest)) := by
  obtain ⟨hx, hb, hml, hown, hts, hK, hJ, hN⟩ := X
  refine va_copyl hx hb (hml.trans hls.symm) hown (hts _ hlink) (hts _ hnat) (hts _ hstat) (hts _ hini) hK hP (gD hJ) hS k0 k1 1 1 (ty := .long) (WD_at hk0 hE0) (WD_at hk1 hE1) rfl rfl rfl h1 h2 h3 h4 h5 (fun i _ => rfl) hframes hlocals hdg (fun H1 locs1 hP1 hD1 hS1 => ?_)
  rw [WD_set hk1] at hP1
  exact kk _ H1 locs1 (va_up_self _ _ _) (fun j hj => va_up_ne _ _ hj) hP1 hS1
theorem x_max (X : Cx p s m args c cc nL own Ts D g qa) {index : Nat} (hlink : Cond.methodLink own index Lib.Math.max.name ∈ Ts) (hstat : Cond.static Lib.Math.max.name ∈ Ts) (hini : Cond.initialized "java/lang/Math" ∈ Ts) (hcode : Cond.code Lib.Math.max.name Lib.Math.max.code 2 (some .int) ∈ Ts) (hls : ls.size = nL) (hframes : 1 ≤ R.frames) (hlocals : (rest.map fun v => v.category).sum + 13 ≤ R.locals) {x y : Int32} (hdg : decode cc pc = .ok (.invokestatic index, 3))
    (kk : W p l e R s m args below meth c H locs 0 0 Q (F0 m (pc + 3) ls (.int (if x < y then y else x) :: rest))) : W p l e R s m args below meth c H locs 0 0 Q (F0 m pc ls (.int y :: .int x :: rest)) := by
  obtain ⟨hx, hb, hml, hown, hts, hK, hJ, hN⟩ := X
  exact va_mmax hx hb (hml.trans hls.symm) hown (hts _ hlink) (hts _ hstat) (hts _ hini) (hts _ hcode) hframes hlocals (Nat.zero_le _) (Nat.zero_le _) hdg kk
theorem x_min (X : Cx p s m args c cc nL own Ts D g qa) {index : Nat} (hlink : Cond.methodLink own index Lib.Math.min.name ∈ Ts) (hstat : Cond.static Lib.Math.min.name ∈ Ts) (hini : Cond.initialized "java/lang/Math" ∈ Ts) (hcode : Cond.code Lib.Math.min.name Lib.Math.min.code 2 (some .int) ∈ Ts) (hls : ls.size = nL) (hframes : 1 ≤ R.frames) (hlocals : (rest.map fun v => v.category).sum + 13 ≤ R.locals) {x y : Int32} (hdg : decode cc pc = .ok (.invokestatic index, 3))
    (kk : W p l e R s m args below meth c H locs 0 0 Q (F0 m (pc + 3) ls (.int (if y < x then y else x) :: rest))) : W p l e R s m args below meth c H locs 0 0 Q (F0 m pc ls (.int y :: .int x :: rest)) := by
  obtain ⟨hx, hb, hml, hown, hts, hK, hJ, hN⟩ := X
  exact va_mmin hx hb (hml.trans hls.symm) hown (hts _ hlink) (hts _ hstat) (hts _ hini) (hts _ hcode) hframes hlocals (Nat.zero_le _) (Nat.zero_le _) hdg kk
/-- the ends -/
theorem x_iret (X : Cx p s m args c cc nL own Ts D g qa) (hlocks : meth.locks = false) {ty : FieldType} (hr : meth.sig.returnType = some ty) {v r : Int32} (hn : narrow ty (.int v) = .int v) {post : (Nat → va_E) → Prop} (hv : v = r) (hpost : post E) (hP : va_P D vwCl (WD qa E) H) (hS : va_S (gA qa s.heap.size) s.heap H locs) (hdg : decode cc pc = .ok (.ireturn, 1)) :
    W p l e R s m args below meth c H locs 0 0 (MQ below (QI D qa r post s.heap.size) args s 0 0 (gA qa s.heap.size)) (F0 m pc ls [.int v]) :=
  W.zret X.1 X.2.1 hr hn (fun t ht hW => ⟨⟨v, E, rfl, ⟨hv, hpost⟩, (show va_P D vwCl (WD qa E) t.heap by rw [ht]; exact hP)⟩, hS.F ht⟩) hS.2.2 hdg
theorem x_lret (X : Cx p s m args c cc nL own Ts D g qa) (hlocks : meth.locks = false) (hr : meth.sig.returnType = some .long) {v r : Int64} {post : (Nat → va_E) → Prop} (hv : v = r) (hpost : post E) (hP : va_P D vwCl (WD qa E) H) (hS : va_S (gA qa s.heap.size) s.heap H locs) (hdg : decode cc pc = .ok (.lreturn, 1)) :
    W p l e R s m args below meth c H locs 0 0 (MQ below (QL D qa r post s.heap.size) args s 0 0 (gA qa s.heap.size)) (F0 m pc ls [.long v]) :=
  W.lret X.1 X.2.1 hr (fun t ht hW => ⟨⟨v, E, rfl, ⟨hv, hpost⟩, (show va_P D vwCl (WD qa E) t.heap by rw [ht]; exact hP)⟩, hS.F ht⟩) hS.2.2 hdg
theorem x_vret (X : Cx p s m args c cc nL own Ts D g qa) (hlocks : meth.locks = false) (hr : meth.sig.returnType = none) {post : (Nat → va_E) → Prop} (hpost : post E) (hP : va_P D vwCl (WD qa E) H) (hS : va_S (gA qa s.heap.size) s.heap H locs) (hdg : decode cc pc = .ok (.return_, 1)) :
    W p l e R s m args below meth c H locs 0 0 (MQ below (QV D qa post s.heap.size) args s 0 0 (gA qa s.heap.size)) (F0 m pc ls []) :=
  W.vret X.1 X.2.1 hr (fun t ht hW => ⟨⟨E, rfl, hpost, (show va_P D vwCl (WD qa E) t.heap by rw [ht]; exact hP)⟩, hS.F ht⟩) hS.2.2 hdg
theorem gA_up {H1 : Heap} {locs1 : List Loc} (hS : va_S (gA qa H0.size) H0 H1 locs1) {q : Nat} (h : gA qa H1.size q) : gA qa H0.size q := h.elim Or.inl (fun h => Or.inr (Nat.le_trans hS.1 h))
theorem lv_top_as {x y : Int32} (h : y = x) (k : W p l e R s m args below meth c H locs 0 0 Q (F0 m pc ls (.int y :: rest))) : W p l e R s m args below meth c H locs 0 0 Q (F0 m pc ls (.int x :: rest)) := h ▸ k
theorem lv_top_asl {x y : Int64} (h : y = x) (k : W p l e R s m args below meth c H locs 0 0 Q (F0 m pc ls (.long y :: rest))) : W p l e R s m args below meth c H locs 0 0 Q (F0 m pc ls (.long x :: rest)) := h ▸ k
/-- calls -/
theorem x_callVi (X : Cx p s m args c cc nL own Ts D g qa) (hP : va_P D vwCl (WD qa E) H) (hS : va_S (gA qa H0.size) H0 H locs) {k ci : Nat} {fs : List Value} (hE : E k = .inr (ci, fs)) (hk : k < 74) {C : String} {T : u_T} {N : Nat} (hc : vwCl[ci]? = some (C, T, N)) {y : MethodName} {ws ws' : List Cond} {bytes : ByteArray} {maxL n index rn : Nat} {ret : Option FieldType} {As : List Value} {r : Int32} {post : (Nat → va_E) → Prop} (hM : MI l y ws rn D g qa E (.ref (qa k) :: As) r post) (hG : GoodIn Ts (wsV own index C y ws)) (hw : ws = Cond.code y bytes maxL ret :: ws')
    (hd : y.cls = C ∧ y.cls ≠ "java/lang/invoke/MethodHandle" ∧ y.cls ≠ "java/lang/invoke/VarHandle" ∧ (parseMethodDescriptor y.desc).map (fun d => d.parameters.length) = some n) (hR : rn + 1 ≤ R.frames ∧ 8 + (maxL + 11) + 100 * rn ≤ R.locals) (hn : As.length = n) (hls : ls.size = nL) {st : List Value} (hst : st = As.reverse ++ .ref (qa k) :: rest) (hrest : (rest.map fun v => v.category).sum ≤ 8) (hdg : decode cc pc = .ok (.invokevirtual index, 3))
    (kk : ∀ (E1 : Nat → va_E) (H1 : Heap) (locs1 : List Loc), post E1 → va_P D vwCl (WD qa E1) H1 → va_S (gA qa H0.size) H0 H1 locs1 → W p l e R s m args below meth c H1 locs1 0 0 Q (F0 m (pc + 3) ls (.int r :: rest))) : W p l e R s m args below meth c H locs 0 0 Q (F0 m pc ls st) := by
  obtain ⟨hx, hb, hml, hown, hts, hK, hJ, hN⟩ := X
  have hm := hM H.size
  refine va_calli (rest := rest) (va_runV (As := As) (rest := rest) ⟨hx, hb, hml, hown, hts⟩ hm (cwV n hts hG hw rfl rfl hd hR) ⟨gP_blind, va_recv hK hP hc (WD_at hk hE), fun U hU hW => ⟨rfl, by rw [hU], by rw [hU]; exact hP, va_K.moved hW.alike hK, hJ, va_Nw.warmM hW hN⟩⟩ rfl hn hls hst (lv_room hrest) hdg ⟨Nat.zero_le _, Nat.zero_le _⟩) hS (fun q _ h => gA_up hS h) (fun q h => gA_up hS h) (fun r' E1 t H1 locs1 ht hvm hw1 hB hz1 hk1 hS1 => ?_)
  obtain ⟨rfl, hp⟩ := hw1
  rw [ht] at hB
  exact kk E1 H1 locs1 hp hB hS1
theorem x_callVv (X : Cx p s m args c cc nL own Ts D g qa) (hP : va_P D vwCl (WD qa E) H) (hS : va_S (gA qa H0.size) H0 H locs) {k ci : Nat} {fs : List Value} (hE : E k = .inr (ci, fs)) (hk : k < 74) {C : String} {T : u_T} {N : Nat} (hc : vwCl[ci]? = some (C, T, N)) {y : MethodName} {ws ws' : List Cond} {bytes : ByteArray} {maxL n index rn : Nat} {ret : Option FieldType} {As : List Value} {post : (Nat → va_E) → Prop} (hM : MV l y ws rn D g qa E (.ref (qa k) :: As) post) (hG : GoodIn Ts (wsV own index C y ws)) (hw : ws = Cond.code y bytes maxL ret :: ws')
    (hd : y.cls = C ∧ y.cls ≠ "java/lang/invoke/MethodHandle" ∧ y.cls ≠ "java/lang/invoke/VarHandle" ∧ (parseMethodDescriptor y.desc).map (fun d => d.parameters.length) = some n) (hR : rn + 1 ≤ R.frames ∧ 8 + (maxL + 11) + 100 * rn ≤ R.locals) (hn : As.length = n) (hls : ls.size = nL) {st : List Value} (hst : st = As.reverse ++ .ref (qa k) :: rest) (hrest : (rest.map fun v => v.category).sum ≤ 8) (hdg : decode cc pc = .ok (.invokevirtual index, 3))
    (kk : ∀ (E1 : Nat → va_E) (H1 : Heap) (locs1 : List Loc), post E1 → va_P D vwCl (WD qa E1) H1 → va_S (gA qa H0.size) H0 H1 locs1 → W p l e R s m args below meth c H1 locs1 0 0 Q (F0 m (pc + 3) ls rest)) : W p l e R s m args below meth c H locs 0 0 Q (F0 m pc ls st) := by
  obtain ⟨hx, hb, hml, hown, hts, hK, hJ, hN⟩ := X
  have hm := hM H.size
  refine va_callv (rest := rest) (va_runV (As := As) (rest := rest) ⟨hx, hb, hml, hown, hts⟩ hm (cwV n hts hG hw rfl rfl hd hR) ⟨gP_blind, va_recv hK hP hc (WD_at hk hE), fun U hU hW => ⟨rfl, by rw [hU], by rw [hU]; exact hP, va_K.moved hW.alike hK, hJ, va_Nw.warmM hW hN⟩⟩ rfl hn hls hst (lv_room hrest) hdg ⟨Nat.zero_le _, Nat.zero_le _⟩) hS (fun q _ h => gA_up hS h) (fun q h => gA_up hS h) (fun E1 t H1 locs1 ht hvm hw1 hB hz1 hk1 hS1 => ?_)
  rw [ht] at hB
  exact kk E1 H1 locs1 hw1 hB hS1
theorem x_callSi (X : Cx p s m args c cc nL own Ts D g qa) (hP : va_P D vwCl (WD qa E) H) (hS : va_S (gA qa H0.size) H0 H locs) {y : MethodName} {ws ws' : List Cond} {bytes : ByteArray} {maxL n index rn : Nat} {ret : Option FieldType} {As : List Value} {r : Int32} {post : (Nat → va_E) → Prop} (hM : MI l y ws rn D g qa E As r post) (hG : GoodIn Ts ws) (hlink : Cond.methodLink own index y ∈ Ts) (hstat : Cond.static y ∈ Ts) (hini : Cond.initialized y.cls ∈ Ts) (hw : ws = Cond.code y bytes maxL ret :: ws')
    (hd : y.cls ≠ "java/lang/invoke/MethodHandle" ∧ y.cls ≠ "java/lang/invoke/VarHandle" ∧ (parseMethodDescriptor y.desc).map (fun d => d.parameters.length) = some n) (hR : rn + 1 ≤ R.frames ∧ 8 + (maxL + 11) + 100 * rn ≤ R.locals) (hn : As.length = n) (hls : ls.size = nL) {st : List Value} (hst : st = As.reverse ++ rest) (hrest : (rest.map fun v => v.category).sum ≤ 8) (hdg : decode cc pc = .ok (.invokestatic index, 3))
    (kk : ∀ (E1 : Nat → va_E) (H1 : Heap) (locs1 : List Loc), post E1 → va_P D vwCl (WD qa E1) H1 → va_S (gA qa H0.size) H0 H1 locs1 → W p l e R s m args below meth c H1 locs1 0 0 Q (F0 m (pc + 3) ls (.int r :: rest))) : W p l e R s m args below meth c H locs 0 0 Q (F0 m pc ls st) := by
  obtain ⟨hx, hb, hml, hown, hts, hK, hJ, hN⟩ := X
  have hm := hM H.size
  refine va_calli (rest := rest) (va_runS (As := As) (rest := rest) ⟨hx, hb, hml, hown, hts⟩ hm ⟨callB_of n hts hG hw rfl rfl (hts _ hini) (hts _ hlink) hd hR, hts _ hstat⟩ ⟨gP_blind, fun U hU hW => ⟨rfl, by rw [hU], by rw [hU]; exact hP, va_K.moved hW.alike hK, hJ, va_Nw.warmM hW hN⟩⟩ rfl hn hls hst (lv_room hrest) hdg ⟨Nat.zero_le _, Nat.zero_le _⟩) hS (fun q _ h => gA_up hS h) (fun q h => gA_up hS h) (fun r' E1 t H1 locs1 ht hvm hw1 hB hz1 hk1 hS1 => ?_)
  obtain ⟨rfl, hp⟩ := hw1
  rw [ht] at hB
  exact kk E1 H1 locs1 hp hB hS1
theorem x_callSl (X : Cx p s m args c cc nL own Ts D g qa) (hP : va_P D vwCl (WD qa E) H) (hS : va_S (gA qa H0.size) H0 H locs) {y : MethodName} {ws ws' : List Cond} {bytes : ByteArray} {maxL n index rn : Nat} {ret : Option FieldType} {As : List Value} {r : Int64} {post : (Nat → va_E) → Prop} (hM : ML l y ws rn D g qa E As r post) (hG : GoodIn Ts ws) (hlink : Cond.methodLink own index y ∈ Ts) (hstat : Cond.static y ∈ Ts) (hini : Cond.initialized y.cls ∈ Ts) (hw : ws = Cond.code y bytes maxL ret :: ws')
    (hd : y.cls ≠ "java/lang/invoke/MethodHandle" ∧ y.cls ≠ "java/lang/invoke/VarHandle" ∧ (parseMethodDescriptor y.desc).map (fun d => d.parameters.length) = some n) (hR : rn + 1 ≤ R.frames ∧ 8 + (maxL + 11) + 100 * rn ≤ R.locals) (hn : As.length = n) (hls : ls.size = nL) {st : List Value} (hst : st = As.reverse ++ rest) (hrest : (rest.map fun v => v.category).sum ≤ 8) (hdg : decode cc pc = .ok (.invokestatic index, 3))
    (kk : ∀ (E1 : Nat → va_E) (H1 : Heap) (locs1 : List Loc), post E1 → va_P D vwCl (WD qa E1) H1 → va_S (gA qa H0.size) H0 H1 locs1 → W p l e R s m args below meth c H1 locs1 0 0 Q (F0 m (pc + 3) ls (.long r :: rest))) : W p l e R s m args below meth c H locs 0 0 Q (F0 m pc ls st) := by
  obtain ⟨hx, hb, hml, hown, hts, hK, hJ, hN⟩ := X
  have hm := hM H.size
  refine va_calll (rest := rest) (va_runS (As := As) (rest := rest) ⟨hx, hb, hml, hown, hts⟩ hm ⟨callB_of n hts hG hw rfl rfl (hts _ hini) (hts _ hlink) hd hR, hts _ hstat⟩ ⟨gP_blind, fun U hU hW => ⟨rfl, by rw [hU], by rw [hU]; exact hP, va_K.moved hW.alike hK, hJ, va_Nw.warmM hW hN⟩⟩ rfl hn hls hst (lv_room hrest) hdg ⟨Nat.zero_le _, Nat.zero_le _⟩) hS (fun q _ h => gA_up hS h) (fun q h => gA_up hS h) (fun r' E1 t H1 locs1 ht hvm hw1 hB hz1 hk1 hS1 => ?_)
  obtain ⟨rfl, hp⟩ := hw1
  rw [ht] at hB
  exact kk E1 H1 locs1 hp hB hS1
theorem x_callSv (X : Cx p s m args c cc nL own Ts D g qa) (hP : va_P D vwCl (WD qa E) H) (hS : va_S (gA qa H0.size) H0 H locs) {y : MethodName} {ws ws' : List Cond} {bytes : ByteArray} {maxL n index rn : Nat} {ret : Option FieldType} {As : List Value} {post : (Nat → va_E) → Prop} (hM : MV l y ws rn D g qa E As post) (hG : GoodIn Ts ws) (hlink : Cond.methodLink own index y ∈ Ts) (hstat : Cond.static y ∈ Ts) (hini : Cond.initialized y.cls ∈ Ts) (hw : ws = Cond.code y bytes maxL ret :: ws')
    (hd : y.cls ≠ "java/lang/invoke/MethodHandle" ∧ y.cls ≠ "java/lang/invoke/VarHandle" ∧ (parseMethodDescriptor y.desc).map (fun d => d.parameters.length) = some n) (hR : rn + 1 ≤ R.frames ∧ 8 + (maxL + 11) + 100 * rn ≤ R.locals) (hn : As.length = n) (hls : ls.size = nL) {st : List Value} (hst : st = As.reverse ++ rest) (hrest : (rest.map fun v => v.category).sum ≤ 8) (hdg : decode cc pc = .ok (.invokestatic index, 3))
    (kk : ∀ (E1 : Nat → va_E) (H1 : Heap) (locs1 : List Loc), post E1 → va_P D vwCl (WD qa E1) H1 → va_S (gA qa H0.size) H0 H1 locs1 → W p l e R s m args below meth c H1 locs1 0 0 Q (F0 m (pc + 3) ls rest)) : W p l e R s m args below meth c H locs 0 0 Q (F0 m pc ls st) := by
  obtain ⟨hx, hb, hml, hown, hts, hK, hJ, hN⟩ := X
  have hm := hM H.size
  refine va_callv (rest := rest) (va_runS (As := As) (rest := rest) ⟨hx, hb, hml, hown, hts⟩ hm ⟨callB_of n hts hG hw rfl rfl (hts _ hini) (hts _ hlink) hd hR, hts _ hstat⟩ ⟨gP_blind, fun U hU hW => ⟨rfl, by rw [hU], by rw [hU]; exact hP, va_K.moved hW.alike hK, hJ, va_Nw.warmM hW hN⟩⟩ rfl hn hls hst (lv_room hrest) hdg ⟨Nat.zero_le _, Nat.zero_le _⟩) hS (fun q _ h => gA_up hS h) (fun q h => gA_up hS h) (fun E1 t H1 locs1 ht hvm hw1 hB hz1 hk1 hS1 => ?_)
  rw [ht] at hB
  exact kk E1 H1 locs1 hw1 hB hS1
/-- the one call of a nest mate: Muster's of strengthNext -/
theorem x_callNi (X : Cx p s m args c cc nL RX1 Ts D g qa) (hP : va_P D vwCl (WD qa E) H) (hS : va_S (gA qa H0.size) H0 H locs) {ws ws' : List Cond} {bytes : ByteArray} {maxL rn : Nat} {ret : Option FieldType} {As : List Value} {r : Int32} {post : (Nat → va_E) → Prop} (hM : MI l yX5_strengthNext ws rn D g qa E As r post) (hG : GoodIn Ts ws) (hstat : Cond.static yX5_strengthNext ∈ Ts) (hini : Cond.initialized yX5_strengthNext.cls ∈ Ts) (hw : ws = Cond.code yX5_strengthNext bytes maxL ret :: ws')
    (hd : yX5_strengthNext.cls ≠ "java/lang/invoke/MethodHandle" ∧ yX5_strengthNext.cls ≠ "java/lang/invoke/VarHandle" ∧ (parseMethodDescriptor yX5_strengthNext.desc).map (fun d => d.parameters.length) = some 3) (hR : rn + 1 ≤ R.frames ∧ 8 + (maxL + 11) + 100 * rn ≤ R.locals) (hn : As.length = 3) (hls : ls.size = nL) {st : List Value} (hst : st = As.reverse ++ rest) (hrest : (rest.map fun v => v.category).sum ≤ 8) (hdg : decode cc pc = .ok (.invokestatic 74, 3))
    (kk : ∀ (E1 : Nat → va_E) (H1 : Heap) (locs1 : List Loc), post E1 → va_P D vwCl (WD qa E1) H1 → va_S (gA qa H0.size) H0 H1 locs1 → W p l e R s m args below meth c H1 locs1 0 0 Q (F0 m (pc + 3) ls (.int r :: rest))) : W p l e R s m args below meth c H locs 0 0 Q (F0 m pc ls st) := by
  obtain ⟨hx, hb, hml, hown, hts, hK, hJ, hN⟩ := X
  have hm := hM H.size
  refine va_calli (rest := rest) (va_runSN (As := As) (rest := rest) ⟨hx, hb, hml, hown, hts⟩ hm ⟨va_cnB 3 hts hG hw rfl rfl hN (hts _ hini) hd hR, hts _ hstat, trivial⟩ ⟨gP_blind, fun U hU hW => ⟨rfl, by rw [hU], by rw [hU]; exact hP, va_K.moved hW.alike hK, hJ, va_Nw.warmM hW hN⟩⟩ rfl hn hls hst (lv_room hrest) hdg ⟨Nat.zero_le _, Nat.zero_le _⟩) hS (fun q _ h => gA_up hS h) (fun q h => gA_up hS h) (fun r' E1 t H1 locs1 ht hvm hw1 hB hz1 hk1 hS1 => ?_)
  obtain ⟨rfl, hp⟩ := hw1
  rw [ht] at hB
  exact kk E1 H1 locs1 hp hB hS1
theorem x_rdVi (X : Cx p s m args c cc nL own Ts D g qa) (hP : va_P D vwCl (WD qa E) H) (hS : va_S (gA qa H0.size) H0 H locs) {k ci : Nat} {fs : List Value} (hE : E k = .inr (ci, fs)) (hk : k < 74) {C : String} {T : u_T} {N : Nat} (hc : vwCl[ci]? = some (C, T, N)) {y : MethodName} {ws ws' : List Cond} {bytes : ByteArray} {maxL n index rn : Nat} {ret : Option FieldType} {As : List Value} {r : Int32} (hM : MI l y ws rn D g qa E (.ref (qa k) :: As) r (fun E1 => E1 = E)) (hG : GoodIn Ts (wsV own index C y ws)) (hw : ws = Cond.code y bytes maxL ret :: ws')
    (hd : y.cls = C ∧ y.cls ≠ "java/lang/invoke/MethodHandle" ∧ y.cls ≠ "java/lang/invoke/VarHandle" ∧ (parseMethodDescriptor y.desc).map (fun d => d.parameters.length) = some n) (hR : rn + 1 ≤ R.frames ∧ 8 + (maxL + 11) + 100 * rn ≤ R.locals) (hn : As.length = n) (hls : ls.size = nL) {st : List Value} (hst : st = As.reverse ++ .ref (qa k) :: rest) (hrest : (rest.map fun v => v.category).sum ≤ 8) (hdg : decode cc pc = .ok (.invokevirtual index, 3))
    (kk : ∀ (H1 : Heap) (locs1 : List Loc), va_P D vwCl (WD qa E) H1 → va_S (gA qa H0.size) H0 H1 locs1 → W p l e R s m args below meth c H1 locs1 0 0 Q (F0 m (pc + 3) ls (.int r :: rest))) : W p l e R s m args below meth c H locs 0 0 Q (F0 m pc ls st) := by
  refine x_callVi X hP hS hE hk hc hM hG hw hd hR hn hls hst hrest hdg (fun E1 H1 locs1 hp hP1 hS1 => ?_)
  subst hp
  exact kk H1 locs1 hP1 hS1
theorem x_rdVv (X : Cx p s m args c cc nL own Ts D g qa) (hP : va_P D vwCl (WD qa E) H) (hS : va_S (gA qa H0.size) H0 H locs) {k ci : Nat} {fs : List Value} (hE : E k = .inr (ci, fs)) (hk : k < 74) {C : String} {T : u_T} {N : Nat} (hc : vwCl[ci]? = some (C, T, N)) {y : MethodName} {ws ws' : List Cond} {bytes : ByteArray} {maxL n index rn : Nat} {ret : Option FieldType} {As : List Value} (hM : MV l y ws rn D g qa E (.ref (qa k) :: As) (fun E1 => E1 = E)) (hG : GoodIn Ts (wsV own index C y ws)) (hw : ws = Cond.code y bytes maxL ret :: ws')
    (hd : y.cls = C ∧ y.cls ≠ "java/lang/invoke/MethodHandle" ∧ y.cls ≠ "java/lang/invoke/VarHandle" ∧ (parseMethodDescriptor y.desc).map (fun d => d.parameters.length) = some n) (hR : rn + 1 ≤ R.frames ∧ 8 + (maxL + 11) + 100 * rn ≤ R.locals) (hn : As.length = n) (hls : ls.size = nL) {st : List Value} (hst : st = As.reverse ++ .ref (qa k) :: rest) (hrest : (rest.map fun v => v.category).sum ≤ 8) (hdg : decode cc pc = .ok (.invokevirtual index, 3))
    (kk : ∀ (H1 : Heap) (locs1 : List Loc), va_P D vwCl (WD qa E) H1 → va_S (gA qa H0.size) H0 H1 locs1 → W p l e R s m args below meth c H1 locs1 0 0 Q (F0 m (pc + 3) ls rest)) : W p l e R s m args below meth c H locs 0 0 Q (F0 m pc ls st) := by
  refine x_callVv X hP hS hE hk hc hM hG hw hd hR hn hls hst hrest hdg (fun E1 H1 locs1 hp hP1 hS1 => ?_)
  subst hp
  exact kk H1 locs1 hP1 hS1
theorem x_rdSi (X : Cx p s m args c cc nL own Ts D g qa) (hP : va_P D vwCl (WD qa E) H) (hS : va_S (gA qa H0.size) H0 H locs) {y : MethodName} {ws ws' : List Cond} {bytes : ByteArray} {maxL n index rn : Nat} {ret : Option FieldType} {As : List Value} {r : Int32} (hM : MI l y ws rn D g qa E As r (fun E1 => E1 = E)) (hG : GoodIn Ts ws) (hlink : Cond.methodLink own index y ∈ Ts) (hstat : Cond.static y ∈ Ts) (hini : Cond.initialized y.cls ∈ Ts) (hw : ws = Cond.code y bytes maxL ret :: ws')
    (hd : y.cls ≠ "java/lang/invoke/MethodHandle" ∧ y.cls ≠ "java/lang/invoke/VarHandle" ∧ (parseMethodDescriptor y.desc).map (fun d => d.parameters.length) = some n) (hR : rn + 1 ≤ R.frames ∧ 8 + (maxL + 11) + 100 * rn ≤ R.locals) (hn : As.length = n) (hls : ls.size = nL) {st : List Value} (hst : st = As.reverse ++ rest) (hrest : (rest.map fun v => v.category).sum ≤ 8) (hdg : decode cc pc = .ok (.invokestatic index, 3))
    (kk : ∀ (H1 : Heap) (locs1 : List Loc), va_P D vwCl (WD qa E) H1 → va_S (gA qa H0.size) H0 H1 locs1 → W p l e R s m args below meth c H1 locs1 0 0 Q (F0 m (pc + 3) ls (.int r :: rest))) : W p l e R s m args below meth c H locs 0 0 Q (F0 m pc ls st) := by
  refine x_callSi X hP hS hM hG hlink hstat hini hw hd hR hn hls hst hrest hdg (fun E1 H1 locs1 hp hP1 hS1 => ?_)
  subst hp
  exact kk H1 locs1 hP1 hS1
theorem x_rdSl (X : Cx p s m args c cc nL own Ts D g qa) (hP : va_P D vwCl (WD qa E) H) (hS : va_S (gA qa H0.size) H0 H locs) {y : MethodName} {ws ws' : List Cond} {bytes : ByteArray} {maxL n index rn : Nat} {ret : Option FieldType} {As : List Value} {r : Int64} (hM : ML l y ws rn D g qa E As r (fun E1 => E1 = E)) (hG : GoodIn Ts ws) (hlink : Cond.methodLink own index y ∈ Ts) (hstat : Cond.static y ∈ Ts) (hini : Cond.initialized y.cls ∈ Ts) (hw : ws = Cond.code y bytes maxL ret :: ws')
    (hd : y.cls ≠ "java/lang/invoke/MethodHandle" ∧ y.cls ≠ "java/lang/invoke/VarHandle" ∧ (parseMethodDescriptor y.desc).map (fun d => d.parameters.length) = some n) (hR : rn + 1 ≤ R.frames ∧ 8 + (maxL + 11) + 100 * rn ≤ R.locals) (hn : As.length = n) (hls : ls.size = nL) {st : List Value} (hst : st = As.reverse ++ rest) (hrest : (rest.map fun v => v.category).sum ≤ 8) (hdg : decode cc pc = .ok (.invokestatic index, 3))
    (kk : ∀ (H1 : Heap) (locs1 : List Loc), va_P D vwCl (WD qa E) H1 → va_S (gA qa H0.size) H0 H1 locs1 → W p l e R s m args below meth c H1 locs1 0 0 Q (F0 m (pc + 3) ls (.long r :: rest))) : W p l e R s m args below meth c H locs 0 0 Q (F0 m pc ls st) := by
  refine x_callSl X hP hS hM hG hlink hstat hini hw hd hR hn hls hst hrest hdg (fun E1 H1 locs1 hp hP1 hS1 => ?_)
  subst hp
  exact kk H1 locs1 hP1 hS1
theorem x_rdSv (X : Cx p s m args c cc nL own Ts D g qa) (hP : va_P D vwCl (WD qa E) H) (hS : va_S (gA qa H0.size) H0 H locs) {y : MethodName} {ws ws' : List Cond} {bytes : ByteArray} {maxL n index rn : Nat} {ret : Option FieldType} {As : List Value} (hM : MV l y ws rn D g qa E As (fun E1 => E1 = E)) (hG : GoodIn Ts ws) (hlink : Cond.methodLink own index y ∈ Ts) (hstat : Cond.static y ∈ Ts) (hini : Cond.initialized y.cls ∈ Ts) (hw : ws = Cond.code y bytes maxL ret :: ws')
    (hd : y.cls ≠ "java/lang/invoke/MethodHandle" ∧ y.cls ≠ "java/lang/invoke/VarHandle" ∧ (parseMethodDescriptor y.desc).map (fun d => d.parameters.length) = some n) (hR : rn + 1 ≤ R.frames ∧ 8 + (maxL + 11) + 100 * rn ≤ R.locals) (hn : As.length = n) (hls : ls.size = nL) {st : List Value} (hst : st = As.reverse ++ rest) (hrest : (rest.map fun v => v.category).sum ≤ 8) (hdg : decode cc pc = .ok (.invokestatic index, 3))
    (kk : ∀ (H1 : Heap) (locs1 : List Loc), va_P D vwCl (WD qa E) H1 → va_S (gA qa H0.size) H0 H1 locs1 → W p l e R s m args below meth c H1 locs1 0 0 Q (F0 m (pc + 3) ls rest)) : W p l e R s m args below meth c H locs 0 0 Q (F0 m pc ls st) := by
  refine x_callSv X hP hS hM hG hlink hstat hini hw hd hR hn hls hst hrest hdg (fun E1 H1 locs1 hp hP1 hS1 => ?_)
  subst hp
  exact kk H1 locs1 hP1 hS1
theorem x_rdNi (X : Cx p s m args c cc nL RX1 Ts D g qa) (hP : va_P D vwCl (WD qa E) H) (hS : va_S (gA qa H0.size) H0 H locs) {ws ws' : List Cond} {bytes : ByteArray} {maxL rn : Nat} {ret : Option FieldType} {As : List Value} {r : Int32} (hM : MI l yX5_strengthNext ws rn D g qa E As r (fun E1 => E1 = E)) (hG : GoodIn Ts ws) (hstat : Cond.static yX5_strengthNext ∈ Ts) (hini : Cond.initialized yX5_strengthNext.cls ∈ Ts) (hw : ws = Cond.code yX5_strengthNext bytes maxL ret :: ws')
    (hd : yX5_strengthNext.cls ≠ "java/lang/invoke/MethodHandle" ∧ yX5_strengthNext.cls ≠ "java/lang/invoke/VarHandle" ∧ (parseMethodDescriptor yX5_strengthNext.desc).map (fun d => d.parameters.length) = some 3) (hR : rn + 1 ≤ R.frames ∧ 8 + (maxL + 11) + 100 * rn ≤ R.locals) (hn : As.length = 3) (hls : ls.size = nL) {st : List Value} (hst : st = As.reverse ++ rest) (hrest : (rest.map fun v => v.category).sum ≤ 8) (hdg : decode cc pc = .ok (.invokestatic 74, 3))
    (kk : ∀ (H1 : Heap) (locs1 : List Loc), va_P D vwCl (WD qa E) H1 → va_S (gA qa H0.size) H0 H1 locs1 → W p l e R s m args below meth c H1 locs1 0 0 Q (F0 m (pc + 3) ls (.int r :: rest))) : W p l e R s m args below meth c H locs 0 0 Q (F0 m pc ls st) := by
  refine x_callNi X hP hS hM hG hstat hini hw hd hR hn hls hst hrest hdg (fun E1 H1 locs1 hp hP1 hS1 => ?_)
  subst hp
  exact kk H1 locs1 hP1 hS1
end XR
/-- from a walk of the body to the contract: Q is any end, hret says that a return comes there -/
theorem MI.mk {l : Launch} {y : MethodName} {ws ws' : List Cond} {n : Nat} {D : va_G} {g : Nat → ClassId} {qa : Nat → Nat} {E0 : Nat → va_E} {av : List Value} {r : Int32} {post : (Nat → va_E) → Prop} {cc : ByteArray} {nL : Nat} {ty : FieldType} (hy : plainName y.cls = true) (hw : ws = Cond.code y cc nL (some ty) :: ws') (hen : (lg_sl av).length ≤ nL)
    (body : ∀ (p : Program) (e : Env) (s : State) (m : MethodId) (args : Array Value) (below : List Frame) (meth : Method) (c : Code) (ls : Array Slot) (Q : State → Prop), Cx p s m args c cc nL y.cls ws D g qa → (∀ (pc : Nat) (ls : Array Slot) (v : Int32) (E : Nat → va_E) (H : Heap) (locs : List Loc), decode cc pc = .ok (.ireturn, 1) → narrow ty (.int v) = .int v → v = r → post E → va_P D vwCl (WD qa E) H → va_S (gA qa s.heap.size) s.heap H locs → W p l e (rmf n) s m args below meth c H locs 0 0 Q (F0 m pc ls [.int v])) → va_P D vwCl (WD qa E0) s.heap → va_S (gA qa s.heap.size) s.heap s.heap [] → lv_has ls nL (lv_args 0 av) → W p l e (rmf n) s m args below meth c s.heap [] 0 0 Q (F0 m 0 ls [])) : MI l y ws n D g qa E0 av r post := by
  intro sz
  refine Met.ofW (cc := cc) (maxL := nL) (ret := (some ty)) hy hw ?_
  intro p e s m args below meth c s₁ B hml hv
  obtain ⟨rfl, hsz, hP, hK, hJ, hN⟩ := hv
  subst hsz
  have hl := lv_entry av (n := nL) hen
  rw [lg_entry_eq]
  exact body p e s m _ below meth c _ _ ⟨B.exec, B.bytes, hml, findClass_of_methodNamed B.named, atoms_spec (ws := ws) B.pre, hK, hJ, hN⟩ (fun pc ls v E H locs hdg hn hv hp hP hS => x_iret ⟨B.exec, B.bytes, hml, findClass_of_methodNamed B.named, atoms_spec (ws := ws) B.pre, hK, hJ, hN⟩ B.notSynchronized B.returns hn hv hp hP hS hdg) hP va_S.rf hl
theorem ML.mk {l : Launch} {y : MethodName} {ws ws' : List Cond} {n : Nat} {D : va_G} {g : Nat → ClassId} {qa : Nat → Nat} {E0 : Nat → va_E} {av : List Value} {r : Int64} {post : (Nat → va_E) → Prop} {cc : ByteArray} {nL : Nat} (hy : plainName y.cls = true) (hw : ws = Cond.code y cc nL (some .long) :: ws') (hen : (lg_sl av).length ≤ nL)
    (body : ∀ (p : Program) (e : Env) (s : State) (m : MethodId) (args : Array Value) (below : List Frame) (meth : Method) (c : Code) (ls : Array Slot) (Q : State → Prop), Cx p s m args c cc nL y.cls ws D g qa → (∀ (pc : Nat) (ls : Array Slot) (v : Int64) (E : Nat → va_E) (H : Heap) (locs : List Loc), decode cc pc = .ok (.lreturn, 1) → v = r → post E → va_P D vwCl (WD qa E) H → va_S (gA qa s.heap.size) s.heap H locs → W p l e (rmf n) s m args below meth c H locs 0 0 Q (F0 m pc ls [.long v])) → va_P D vwCl (WD qa E0) s.heap → va_S (gA qa s.heap.size) s.heap s.heap [] → lv_has ls nL (lv_args 0 av) → W p l e (rmf n) s m args below meth c s.heap [] 0 0 Q (F0 m 0 ls [])) : ML l y ws n D g qa E0 av r post := by
  intro sz
  refine Met.ofW (cc := cc) (maxL := nL) (ret := (some .long)) hy hw ?_
  intro p e s m args below meth c s₁ B hml hv
  obtain ⟨rfl, hsz, hP, hK, hJ, hN⟩ := hv
  subst hsz
  have hl := lv_entry av (n := nL) hen
  rw [lg_entry_eq]
  exact body p e s m _ below meth c _ _ ⟨B.exec, B.bytes, hml, findClass_of_methodNamed B.named, atoms_spec (ws := ws) B.pre, hK, hJ, hN⟩ (fun pc ls v E H locs hdg hv hp hP hS => x_lret ⟨B.exec, B.bytes, hml, findClass_of_methodNamed B.named, atoms_spec (ws := ws) B.pre, hK, hJ, hN⟩ B.notSynchronized B.returns hv hp hP hS hdg) hP va_S.rf hl
theorem MV.mk {l : Launch} {y : MethodName} {ws ws' : List Cond} {n : Nat} {D : va_G} {g : Nat → ClassId} {qa : Nat → Nat} {E0 : Nat → va_E} {av : List Value} {post : (Nat → va_E) → Prop} {cc : ByteArray} {nL : Nat} (hy : plainName y.cls = true) (hw : ws = Cond.code y cc nL none :: ws') (hen : (lg_sl av).length ≤ nL)
    (body : ∀ (p : Program) (e : Env) (s : State) (m : MethodId) (args : Array Value) (below : List Frame) (meth : Method) (c : Code) (ls : Array Slot) (Q : State → Prop), Cx p s m args c cc nL y.cls ws D g qa → (∀ (pc : Nat) (ls : Array Slot) (E : Nat → va_E) (H : Heap) (locs : List Loc), decode cc pc = .ok (.return_, 1) → post E → va_P D vwCl (WD qa E) H → va_S (gA qa s.heap.size) s.heap H locs → W p l e (rmf n) s m args below meth c H locs 0 0 Q (F0 m pc ls [])) → va_P D vwCl (WD qa E0) s.heap → va_S (gA qa s.heap.size) s.heap s.heap [] → lv_has ls nL (lv_args 0 av) → W p l e (rmf n) s m args below meth c s.heap [] 0 0 Q (F0 m 0 ls [])) : MV l y ws n D g qa E0 av post := by
  intro sz
  refine Met.ofW (cc := cc) (maxL := nL) (ret := none) hy hw ?_
  intro p e s m args below meth c s₁ B hml hv
  obtain ⟨rfl, hsz, hP, hK, hJ, hN⟩ := hv
  subst hsz
  have hl := lv_entry av (n := nL) hen
  rw [lg_entry_eq]
  exact body p e s m _ below meth c _ _ ⟨B.exec, B.bytes, hml, findClass_of_methodNamed B.named, atoms_spec (ws := ws) B.pre, hK, hJ, hN⟩ (fun pc ls E H locs hdg hp hP hS => x_vret ⟨B.exec, B.bytes, hml, findClass_of_methodNamed B.named, atoms_spec (ws := ws) B.pre, hK, hJ, hN⟩ B.notSynchronized B.returns hp hP hS hdg) hP va_S.rf hl
/-! THE PURE SIDE: a loop with fuel, a named value, and what a partial answer says of its parts -/
def lp {α ρ : Type} (body : (α → Option ρ) → α → Option ρ) : Nat → α → Option ρ
  | 0, _ => none
  | n + 1, a => body (lp body n) a
def nm {α β : Type} (a : α) (f : α → β) : β := f a
theorem nm_of {α β : Type} {a : α} {f : α → Option β} {R : β} (h : nm a f = some R) : ∃ x, x = a ∧ f x = some R := ⟨a, rfl, h⟩
theorem ifp {α : Type} {c : Prop} [Decidable c] {A B : Option α} {R : α} (h : (if c then A else B) = some R) (hc : c) : A = some R := by rw [if_pos hc] at h; exact h
theorem ifn {α : Type} {c : Prop} [Decidable c] {A B : Option α} {R : α} (h : (if c then A else B) = some R) (hc : ¬ c) : B = some R := by rw [if_neg hc] at h; exact h
theorem gd_of {α : Type} {c : Prop} [Decidable c] {A : Option α} {R : α} (h : (if c then A else none) = some R) : c ∧ A = some R := by
  by_cases hc : c
  · rw [if_pos hc] at h; exact ⟨hc, h⟩
  · rw [if_neg hc] at h; cases h
theorem bd_of {α β : Type} {x : Option α} {f : α → Option β} {R : β} (h : x.bind f = some R) : ∃ a, x = some a ∧ f a = some R := Option.bind_eq_some_iff.mp h
def FU : Nat := 100000
def gin {α : Type} (i : Int32) (n : Nat) (A : Option α) : Option α := if i < 0 ∨ n ≤ i.toNatClampNeg then none else A
theorem gin_of {α : Type} {i : Int32} {n : Nat} {A : Option α} {R : α} (h : gin i n A = some R) : vp_in i n ∧ A = some R := by
  unfold gin at h
  by_cases hc : i < 0 ∨ n ≤ i.toNatClampNeg
  · rw [if_pos hc] at h; cases h
  · rw [if_neg hc] at h; exact ⟨hc, h⟩
theorem in_lt {i : Int32} {n : Nat} (h : vp_in i n) : i.toNatClampNeg < n := Nat.not_le.mp fun q => h (Or.inr q)
def gnz {α : Type} (y : Int32) (A : Option α) : Option α := if y = 0 then none else A
theorem gnz_of {α : Type} {y : Int32} {A : Option α} {R : α} (h : gnz y A = some R) : ¬ y = 0 ∧ A = some R := by
  unfold gnz at h
  by_cases hc : y = 0
  · rw [if_pos hc] at h; cases h
  · rw [if_neg hc] at h; exact ⟨hc, h⟩
def gbz {α : Type} (v : Int32) (A : Option α) : Option α := if v = 0 ∨ v = 1 then A else none
theorem gbz_of {α : Type} {v : Int32} {A : Option α} {R : α} (h : gbz v A = some R) : (v = 0 ∨ v = 1) ∧ A = some R := gd_of h
theorem gbz_n {v : Int32} (h : v = 0 ∨ v = 1) : narrow .boolean (.int v) = .int v := by
  rcases h with rfl | rfl <;> rfl
def gch {α : Type} (v : Int32) (A : Option α) : Option α := if ¬ v < 0 ∧ v < 65536 then A else none
theorem gch_of {α : Type} {v : Int32} {A : Option α} {R : α} (h : gch v A = some R) : (¬ v < 0 ∧ v < 65536) ∧ A = some R := gd_of h
theorem gch_n {v : Int32} (h : ¬ v < 0 ∧ v < 65536) : narrow .char (.int v) = .int v := by
  obtain ⟨j, hj, rfl⟩ := nI_of h.1
  have h2 : j < 65536 := (nI_ltI hj (by decide)).mp h.2
  exact (pk_charN h2).1
def gcp {α : Type} (sp dp n : Int32) (n0 n1 : Nat) (A : Option α) : Option α := if ¬ sp < 0 ∧ ¬ dp < 0 ∧ ¬ n < 0 ∧ sp.toNatClampNeg + n.toNatClampNeg ≤ n0 ∧ dp.toNatClampNeg + n.toNatClampNeg ≤ n1 then A else none
theorem gcp_of {α : Type} {sp dp n : Int32} {n0 n1 : Nat} {A : Option α} {R : α} (h : gcp sp dp n n0 n1 A = some R) : (¬ sp < 0 ∧ ¬ dp < 0 ∧ ¬ n < 0 ∧ sp.toNatClampNeg + n.toNatClampNeg ≤ n0 ∧ dp.toNatClampNeg + n.toNatClampNeg ≤ n1) ∧ A = some R := gd_of h
theorem i_ne {x : Int32} (v : Int32) (n : Int) (hn : v.toInt = n) (h : ¬ x = v) : x.toInt ≠ n := fun e => h (Int32.toInt_inj.mp (e.trans hn.symm))
end
section
def Mu (g : Nat → ClassId) (qa : Nat → Nat) (E : Nat → va_E) (b : Nat) (men : Int32) (md : Int32) (day : Int32) (drw : Int32) (bu : Nat → Int32) (st : Nat → Int32) (ki : Nat → Int32) (we : Nat → Int32) (wo : Nat → Int32) (wr : Nat → Int32) : Prop := E b = .inr (1, [.int men, .ref (qa (b + 1)), .ref (qa (b + 2)), .int md, .ref (qa (b + 3)), .ref (qa (b + 4)), .ref (qa (b + 5)), .ref (qa (b + 6)), .int day, .int drw]) ∧ E (b + 1) = .inl (g 0, 5, .inl bu) ∧ E (b + 2) = .inl (g 0, 5, .inl st) ∧ E (b + 3) = .inl (g 0, 6, .inl ki) ∧ E (b + 4) = .inl (g 0, 6, .inl we) ∧ E (b + 5) = .inl (g 0, 6, .inl wo) ∧ E (b + 6) = .inl (g 0, 6, .inl wr)
theorem Mu_kept {g : Nat → ClassId} {qa : Nat → Nat} {E E1 : Nat → va_E} {b : Nat} {men : Int32} {md : Int32} {day : Int32} {drw : Int32} {bu : Nat → Int32} {st : Nat → Int32} {ki : Nat → Int32} {we : Nat → Int32} {wo : Nat → Int32} {wr : Nat → Int32} (h : Mu g qa E b men md day drw bu st ki we wo wr) (hk : ∀ j, b ≤ j → j < b + 7 → E1 j = E j) : Mu g qa E1 b men md day drw bu st ki we wo wr := ⟨((hk _ (by omega) (by omega)).trans h.1), ((hk _ (by omega) (by omega)).trans h.2.1), ((hk _ (by omega) (by omega)).trans h.2.2.1), ((hk _ (by omega) (by omega)).trans h.2.2.2.1), ((hk _ (by omega) (by omega)).trans h.2.2.2.2.1), ((hk _ (by omega) (by omega)).trans h.2.2.2.2.2.1), ((hk _ (by omega) (by omega)).trans h.2.2.2.2.2.2)⟩
theorem Mu_set_0 {g : Nat → ClassId} {qa : Nat → Nat} {E E1 : Nat → va_E} {b : Nat} {men : Int32} {md : Int32} {day : Int32} {drw : Int32} {bu : Nat → Int32} {st : Nat → Int32} {ki : Nat → Int32} {we : Nat → Int32} {wo : Nat → Int32} {wr : Nat → Int32} {men' : Int32} {md' : Int32} {day' : Int32} {drw' : Int32} (h : Mu g qa E b men md day drw bu st ki we wo wr) (h1 : E1 b = .inr (1, [.int men', .ref (qa (b + 1)), .ref (qa (b + 2)), .int md', .ref (qa (b + 3)), .ref (qa (b + 4)), .ref (qa (b + 5)), .ref (qa (b + 6)), .int day', .int drw'])) (hk : ∀ j, j ≠ b + 0 → E1 j = E j) : Mu g qa E1 b men' md' day' drw' bu st ki we wo wr := ⟨h1, ((hk _ (by omega)).trans h.2.1), ((hk _ (by omega)).trans h.2.2.1), ((hk _ (by omega)).trans h.2.2.2.1), ((hk _ (by omega)).trans h.2.2.2.2.1), ((hk _ (by omega)).trans h.2.2.2.2.2.1), ((hk _ (by omega)).trans h.2.2.2.2.2.2)⟩
theorem Mu_set_1 {g : Nat → ClassId} {qa : Nat → Nat} {E E1 : Nat → va_E} {b : Nat} {men : Int32} {md : Int32} {day : Int32} {drw : Int32} {bu : Nat → Int32} {st : Nat → Int32} {ki : Nat → Int32} {we : Nat → Int32} {wo : Nat → Int32} {wr : Nat → Int32} {bu' : Nat → Int32} (h : Mu g qa E b men md day drw bu st ki we wo wr) (h1 : E1 (b + 1) = .inl (g 0, 5, .inl bu')) (hk : ∀ j, j ≠ b + 1 → E1 j = E j) : Mu g qa E1 b men md day drw bu' st ki we wo wr := ⟨((hk _ (by omega)).trans h.1), h1, ((hk _ (by omega)).trans h.2.2.1), ((hk _ (by omega)).trans h.2.2.2.1), ((hk _ (by omega)).trans h.2.2.2.2.1), ((hk _ (by omega)).trans h.2.2.2.2.2.1), ((hk _ (by omega)).trans h.2.2.2.2.2.2)⟩
theorem Mu_set_2 {g : Nat → ClassId} {qa : Nat → Nat} {E E1 : Nat → va_E} {b : Nat} {men : Int32} {md : Int32} {day : Int32} {drw : Int32} {bu : Nat → Int32} {st : Nat → Int32} {ki : Nat → Int32} {we : Nat → Int32} {wo : Nat → Int32} {wr : Nat → Int32} {st' : Nat → Int32} (h : Mu g qa E b men md day drw bu st ki we wo wr) (h1 : E1 (b + 2) = .inl (g 0, 5, .inl st')) (hk : ∀ j, j ≠ b + 2 → E1 j = E j) : Mu g qa E1 b men md day drw bu st' ki we wo wr := ⟨((hk _ (by omega)).trans h.1), ((hk _ (by omega)).trans h.2.1), h1, ((hk _ (by omega)).trans h.2.2.2.1), ((hk _ (by omega)).trans h.2.2.2.2.1), ((hk _ (by omega)).trans h.2.2.2.2.2.1), ((hk _ (by omega)).trans h.2.2.2.2.2.2)⟩
theorem Mu_set_3 {g : Nat → ClassId} {qa : Nat → Nat} {E E1 : Nat → va_E} {b : Nat} {men : Int32} {md : Int32} {day : Int32} {drw : Int32} {bu : Nat → Int32} {st : Nat → Int32} {ki : Nat → Int32} {we : Nat → Int32} {wo : Nat → Int32} {wr : Nat → Int32} {ki' : Nat → Int32} (h : Mu g qa E b men md day drw bu st ki we wo wr) (h1 : E1 (b + 3) = .inl (g 0, 6, .inl ki')) (hk : ∀ j, j ≠ b + 3 → E1 j = E j) : Mu g qa E1 b men md day drw bu st ki' we wo wr := ⟨((hk _ (by omega)).trans h.1), ((hk _ (by omega)).trans h.2.1), ((hk _ (by omega)).trans h.2.2.1), h1, ((hk _ (by omega)).trans h.2.2.2.2.1), ((hk _ (by omega)).trans h.2.2.2.2.2.1), ((hk _ (by omega)).trans h.2.2.2.2.2.2)⟩
theorem Mu_set_4 {g : Nat → ClassId} {qa : Nat → Nat} {E E1 : Nat → va_E} {b : Nat} {men : Int32} {md : Int32} {day : Int32} {drw : Int32} {bu : Nat → Int32} {st : Nat → Int32} {ki : Nat → Int32} {we : Nat → Int32} {wo : Nat → Int32} {wr : Nat → Int32} {we' : Nat → Int32} (h : Mu g qa E b men md day drw bu st ki we wo wr) (h1 : E1 (b + 4) = .inl (g 0, 6, .inl we')) (hk : ∀ j, j ≠ b + 4 → E1 j = E j) : Mu g qa E1 b men md day drw bu st ki we' wo wr := ⟨((hk _ (by omega)).trans h.1), ((hk _ (by omega)).trans h.2.1), ((hk _ (by omega)).trans h.2.2.1), ((hk _ (by omega)).trans h.2.2.2.1), h1, ((hk _ (by omega)).trans h.2.2.2.2.2.1), ((hk _ (by omega)).trans h.2.2.2.2.2.2)⟩
theorem Mu_set_5 {g : Nat → ClassId} {qa : Nat → Nat} {E E1 : Nat → va_E} {b : Nat} {men : Int32} {md : Int32} {day : Int32} {drw : Int32} {bu : Nat → Int32} {st : Nat → Int32} {ki : Nat → Int32} {we : Nat → Int32} {wo : Nat → Int32} {wr : Nat → Int32} {wo' : Nat → Int32} (h : Mu g qa E b men md day drw bu st ki we wo wr) (h1 : E1 (b + 5) = .inl (g 0, 6, .inl wo')) (hk : ∀ j, j ≠ b + 5 → E1 j = E j) : Mu g qa E1 b men md day drw bu st ki we wo' wr := ⟨((hk _ (by omega)).trans h.1), ((hk _ (by omega)).trans h.2.1), ((hk _ (by omega)).trans h.2.2.1), ((hk _ (by omega)).trans h.2.2.2.1), ((hk _ (by omega)).trans h.2.2.2.2.1), h1, ((hk _ (by omega)).trans h.2.2.2.2.2.2)⟩
theorem Mu_set_6 {g : Nat → ClassId} {qa : Nat → Nat} {E E1 : Nat → va_E} {b : Nat} {men : Int32} {md : Int32} {day : Int32} {drw : Int32} {bu : Nat → Int32} {st : Nat → Int32} {ki : Nat → Int32} {we : Nat → Int32} {wo : Nat → Int32} {wr : Nat → Int32} {wr' : Nat → Int32} (h : Mu g qa E b men md day drw bu st ki we wo wr) (h1 : E1 (b + 6) = .inl (g 0, 6, .inl wr')) (hk : ∀ j, j ≠ b + 6 → E1 j = E j) : Mu g qa E1 b men md day drw bu st ki we wo wr' := ⟨((hk _ (by omega)).trans h.1), ((hk _ (by omega)).trans h.2.1), ((hk _ (by omega)).trans h.2.2.1), ((hk _ (by omega)).trans h.2.2.2.1), ((hk _ (by omega)).trans h.2.2.2.2.1), ((hk _ (by omega)).trans h.2.2.2.2.2.1), h1⟩
def Pa (g : Nat → ClassId) (qa : Nat → Nat) (E : Nat → va_E) (b : Nat) (kn : Int32) (nx : Int32) (ke : Nat → Nat → Int32) : Prop := E b = .inr (2, [.ref (qa (b + 1)), .int kn, .int nx]) ∧ E (b + 1) = .inl (g 3, grd qa (b + 2) 8) ∧ (∀ j, j < 8 → E (b + 2 + j) = .inl (g 0, 19, .inl (ke j)))
theorem Pa_kept {g : Nat → ClassId} {qa : Nat → Nat} {E E1 : Nat → va_E} {b : Nat} {kn : Int32} {nx : Int32} {ke : Nat → Nat → Int32} (h : Pa g qa E b kn nx ke) (hk : ∀ j, b ≤ j → j < b + 10 → E1 j = E j) : Pa g qa E1 b kn nx ke := ⟨((hk _ (by omega) (by omega)).trans h.1), ((hk _ (by omega) (by omega)).trans h.2.1), (fun j hj => (hk _ (by omega) (by omega)).trans (h.2.2 j hj))⟩
theorem Pa_set_0 {g : Nat → ClassId} {qa : Nat → Nat} {E E1 : Nat → va_E} {b : Nat} {kn : Int32} {nx : Int32} {ke : Nat → Nat → Int32} {kn' : Int32} {nx' : Int32} (h : Pa g qa E b kn nx ke) (h1 : E1 b = .inr (2, [.ref (qa (b + 1)), .int kn', .int nx'])) (hk : ∀ j, j ≠ b + 0 → E1 j = E j) : Pa g qa E1 b kn' nx' ke := ⟨h1, ((hk _ (by omega)).trans h.2.1), (fun j hj => (hk _ (by omega)).trans (h.2.2 j hj))⟩
theorem Pa_set_2 {g : Nat → ClassId} {qa : Nat → Nat} {E E1 : Nat → va_E} {b : Nat} {kn : Int32} {nx : Int32} {ke : Nat → Nat → Int32} {f : Nat → Int32} {j0 : Nat} (h : Pa g qa E b kn nx ke) (hj0 : j0 < 8) (h1 : E1 (b + 2 + j0) = .inl (g 0, 19, .inl f)) (hk : ∀ j, j ≠ b + 2 + j0 → E1 j = E j) : Pa g qa E1 b kn nx (va_up ke j0 f) := ⟨((hk _ (by omega)).trans h.1), ((hk _ (by omega)).trans h.2.1), (fun j hj => by
    by_cases e : j = j0
    · subst e
      rw [va_up_self]
      exact h1
    · rw [va_up_ne _ _ e]
      exact (hk _ (by omega)).trans (h.2.2 j hj))⟩
def Ta (g : Nat → ClassId) (qa : Nat → Nat) (E : Nat → va_E) (b : Nat) (ln : Int32) (plc : Int32) (ltr : Nat → Int32) : Prop := E b = .inr (4, [.ref (qa (b + 1)), .int ln, .int plc]) ∧ E (b + 1) = .inl (g 2, 90, .inl ltr)
theorem Ta_kept {g : Nat → ClassId} {qa : Nat → Nat} {E E1 : Nat → va_E} {b : Nat} {ln : Int32} {plc : Int32} {ltr : Nat → Int32} (h : Ta g qa E b ln plc ltr) (hk : ∀ j, b ≤ j → j < b + 2 → E1 j = E j) : Ta g qa E1 b ln plc ltr := ⟨((hk _ (by omega) (by omega)).trans h.1), ((hk _ (by omega) (by omega)).trans h.2)⟩
theorem Ta_set_0 {g : Nat → ClassId} {qa : Nat → Nat} {E E1 : Nat → va_E} {b : Nat} {ln : Int32} {plc : Int32} {ltr : Nat → Int32} {ln' : Int32} {plc' : Int32} (h : Ta g qa E b ln plc ltr) (h1 : E1 b = .inr (4, [.ref (qa (b + 1)), .int ln', .int plc'])) (hk : ∀ j, j ≠ b + 0 → E1 j = E j) : Ta g qa E1 b ln' plc' ltr := ⟨h1, ((hk _ (by omega)).trans h.2)⟩
theorem Ta_set_1 {g : Nat → ClassId} {qa : Nat → Nat} {E E1 : Nat → va_E} {b : Nat} {ln : Int32} {plc : Int32} {ltr : Nat → Int32} {ltr' : Nat → Int32} (h : Ta g qa E b ln plc ltr) (h1 : E1 (b + 1) = .inl (g 2, 90, .inl ltr')) (hk : ∀ j, j ≠ b + 1 → E1 j = E j) : Ta g qa E1 b ln plc ltr' := ⟨((hk _ (by omega)).trans h.1), h1⟩
def Ha (g : Nat → ClassId) (qa : Nat → Nat) (E : Nat → va_E) (b : Nat) (worn : Int32) (few : Int32) (bc : Int32) (ld : Nat → Nat → Int32) (so : Nat → Int32) (tr : Nat → Int32) (be : Nat → Int32) (wy : Nat → Int32) : Prop := E b = .inr (0, [.ref (qa 1), .ref (qa (b + 1)), .int worn, .ref (qa (b + 7)), .ref (qa (b + 8)), .ref (qa (b + 9)), .ref (qa (b + 10)), .int few, .int bc]) ∧ E (b + 1) = .inl (g 3, grd qa (b + 2) 5) ∧ (∀ j, j < 5 → E (b + 2 + j) = .inl (g 0, 64, .inl (ld j))) ∧ E (b + 7) = .inl (g 0, 5, .inl so) ∧ E (b + 8) = .inl (g 0, 6, .inl tr) ∧ E (b + 9) = .inl (g 0, 6, .inl be) ∧ E (b + 10) = .inl (g 0, 64, .inl wy)
theorem Ha_kept {g : Nat → ClassId} {qa : Nat → Nat} {E E1 : Nat → va_E} {b : Nat} {worn : Int32} {few : Int32} {bc : Int32} {ld : Nat → Nat → Int32} {so : Nat → Int32} {tr : Nat → Int32} {be : Nat → Int32} {wy : Nat → Int32} (h : Ha g qa E b worn few bc ld so tr be wy) (hk : ∀ j, b ≤ j → j < b + 11 → E1 j = E j) : Ha g qa E1 b worn few bc ld so tr be wy := ⟨((hk _ (by omega) (by omega)).trans h.1), ((hk _ (by omega) (by omega)).trans h.2.1), (fun j hj => (hk _ (by omega) (by omega)).trans (h.2.2.1 j hj)), ((hk _ (by omega) (by omega)).trans h.2.2.2.1), ((hk _ (by omega) (by omega)).trans h.2.2.2.2.1), ((hk _ (by omega) (by omega)).trans h.2.2.2.2.2.1), ((hk _ (by omega) (by omega)).trans h.2.2.2.2.2.2)⟩
theorem Ha_set_0 {g : Nat → ClassId} {qa : Nat → Nat} {E E1 : Nat → va_E} {b : Nat} {worn : Int32} {few : Int32} {bc : Int32} {ld : Nat → Nat → Int32} {so : Nat → Int32} {tr : Nat → Int32} {be : Nat → Int32} {wy : Nat → Int32} {worn' : Int32} {few' : Int32} {bc' : Int32} (h : Ha g qa E b worn few bc ld so tr be wy) (h1 : E1 b = .inr (0, [.ref (qa 1), .ref (qa (b + 1)), .int worn', .ref (qa (b + 7)), .ref (qa (b + 8)), .ref (qa (b + 9)), .ref (qa (b + 10)), .int few', .int bc'])) (hk : ∀ j, j ≠ b + 0 → E1 j = E j) : Ha g qa E1 b worn' few' bc' ld so tr be wy := ⟨h1, ((hk _ (by omega)).trans h.2.1), (fun j hj => (hk _ (by omega)).trans (h.2.2.1 j hj)), ((hk _ (by omega)).trans h.2.2.2.1), ((hk _ (by omega)).trans h.2.2.2.2.1), ((hk _ (by omega)).trans h.2.2.2.2.2.1), ((hk _ (by omega)).trans h.2.2.2.2.2.2)⟩
theorem Ha_set_2 {g : Nat → ClassId} {qa : Nat → Nat} {E E1 : Nat → va_E} {b : Nat} {worn : Int32} {few : Int32} {bc : Int32} {ld : Nat → Nat → Int32} {so : Nat → Int32} {tr : Nat → Int32} {be : Nat → Int32} {wy : Nat → Int32} {f : Nat → Int32} {j0 : Nat} (h : Ha g qa E b worn few bc ld so tr be wy) (hj0 : j0 < 5) (h1 : E1 (b + 2 + j0) = .inl (g 0, 64, .inl f)) (hk : ∀ j, j ≠ b + 2 + j0 → E1 j = E j) : Ha g qa E1 b worn few bc (va_up ld j0 f) so tr be wy := ⟨((hk _ (by omega)).trans h.1), ((hk _ (by omega)).trans h.2.1), (fun j hj => by
    by_cases e : j = j0
    · subst e
      rw [va_up_self]
      exact h1
    · rw [va_up_ne _ _ e]
      exact (hk _ (by omega)).trans (h.2.2.1 j hj)), ((hk _ (by omega)).trans h.2.2.2.1), ((hk _ (by omega)).trans h.2.2.2.2.1), ((hk _ (by omega)).trans h.2.2.2.2.2.1), ((hk _ (by omega)).trans h.2.2.2.2.2.2)⟩
theorem Ha_set_3 {g : Nat → ClassId} {qa : Nat → Nat} {E E1 : Nat → va_E} {b : Nat} {worn : Int32} {few : Int32} {bc : Int32} {ld : Nat → Nat → Int32} {so : Nat → Int32} {tr : Nat → Int32} {be : Nat → Int32} {wy : Nat → Int32} {so' : Nat → Int32} (h : Ha g qa E b worn few bc ld so tr be wy) (h1 : E1 (b + 7) = .inl (g 0, 5, .inl so')) (hk : ∀ j, j ≠ b + 7 → E1 j = E j) : Ha g qa E1 b worn few bc ld so' tr be wy := ⟨((hk _ (by omega)).trans h.1), ((hk _ (by omega)).trans h.2.1), (fun j hj => (hk _ (by omega)).trans (h.2.2.1 j hj)), h1, ((hk _ (by omega)).trans h.2.2.2.2.1), ((hk _ (by omega)).trans h.2.2.2.2.2.1), ((hk _ (by omega)).trans h.2.2.2.2.2.2)⟩
theorem Ha_set_4 {g : Nat → ClassId} {qa : Nat → Nat} {E E1 : Nat → va_E} {b : Nat} {worn : Int32} {few : Int32} {bc : Int32} {ld : Nat → Nat → Int32} {so : Nat → Int32} {tr : Nat → Int32} {be : Nat → Int32} {wy : Nat → Int32} {tr' : Nat → Int32} (h : Ha g qa E b worn few bc ld so tr be wy) (h1 : E1 (b + 8) = .inl (g 0, 6, .inl tr')) (hk : ∀ j, j ≠ b + 8 → E1 j = E j) : Ha g qa E1 b worn few bc ld so tr' be wy := ⟨((hk _ (by omega)).trans h.1), ((hk _ (by omega)).trans h.2.1), (fun j hj => (hk _ (by omega)).trans (h.2.2.1 j hj)), ((hk _ (by omega)).trans h.2.2.2.1), h1, ((hk _ (by omega)).trans h.2.2.2.2.2.1), ((hk _ (by omega)).trans h.2.2.2.2.2.2)⟩
theorem Ha_set_5 {g : Nat → ClassId} {qa : Nat → Nat} {E E1 : Nat → va_E} {b : Nat} {worn : Int32} {few : Int32} {bc : Int32} {ld : Nat → Nat → Int32} {so : Nat → Int32} {tr : Nat → Int32} {be : Nat → Int32} {wy : Nat → Int32} {be' : Nat → Int32} (h : Ha g qa E b worn few bc ld so tr be wy) (h1 : E1 (b + 9) = .inl (g 0, 6, .inl be')) (hk : ∀ j, j ≠ b + 9 → E1 j = E j) : Ha g qa E1 b worn few bc ld so tr be' wy := ⟨((hk _ (by omega)).trans h.1), ((hk _ (by omega)).trans h.2.1), (fun j hj => (hk _ (by omega)).trans (h.2.2.1 j hj)), ((hk _ (by omega)).trans h.2.2.2.1), ((hk _ (by omega)).trans h.2.2.2.2.1), h1, ((hk _ (by omega)).trans h.2.2.2.2.2.2)⟩
theorem Ha_set_6 {g : Nat → ClassId} {qa : Nat → Nat} {E E1 : Nat → va_E} {b : Nat} {worn : Int32} {few : Int32} {bc : Int32} {ld : Nat → Nat → Int32} {so : Nat → Int32} {tr : Nat → Int32} {be : Nat → Int32} {wy : Nat → Int32} {wy' : Nat → Int32} (h : Ha g qa E b worn few bc ld so tr be wy) (h1 : E1 (b + 10) = .inl (g 0, 64, .inl wy')) (hk : ∀ j, j ≠ b + 10 → E1 j = E j) : Ha g qa E1 b worn few bc ld so tr be wy' := ⟨((hk _ (by omega)).trans h.1), ((hk _ (by omega)).trans h.2.1), (fun j hj => (hk _ (by omega)).trans (h.2.2.1 j hj)), ((hk _ (by omega)).trans h.2.2.2.1), ((hk _ (by omega)).trans h.2.2.2.2.1), ((hk _ (by omega)).trans h.2.2.2.2.2.1), h1⟩
def Xo (g : Nat → ClassId) (qa : Nat → Nat) (E : Nat → va_E) (b : Nat) (img : Int32) : Prop := E b = .inr (5, [.ref (qa 1), .ref (qa 8), .ref (qa 18), .ref (qa 25), .int img, .ref (qa 35), .ref (qa 42), .ref (qa 44), .ref (qa 55)])
theorem Xo_kept {g : Nat → ClassId} {qa : Nat → Nat} {E E1 : Nat → va_E} {b : Nat} {img : Int32} (h : Xo g qa E b img) (hk : ∀ j, b ≤ j → j < b + 1 → E1 j = E j) : Xo g qa E1 b img := ((hk _ (by omega) (by omega)).trans h)
theorem Xo_set_0 {g : Nat → ClassId} {qa : Nat → Nat} {E E1 : Nat → va_E} {b : Nat} {img : Int32} {img' : Int32} (h : Xo g qa E b img) (h1 : E1 b = .inr (5, [.ref (qa 1), .ref (qa 8), .ref (qa 18), .ref (qa 25), .int img', .ref (qa 35), .ref (qa 42), .ref (qa 44), .ref (qa 55)])) (hk : ∀ j, j ≠ b + 0 → E1 j = E j) : Xo g qa E1 b img' := h1
def Mo (g : Nat → ClassId) (qa : Nat → Nat) (E : Nat → va_E) (b : Nat) (ltr : Int32) (pos : Int32) (num : Int32) (isk : Int32) (bm : Int32) (bch : Int32) (lan : Nat → Int32) (siz : Nat → Int32) (itm : Nat → Int64) (tap : Nat → Int32) (now : Nat → Int32) (tri : Nat → Int32) (rd : Nat → Int32) (kp : Nat → Int32) (bes : Nat → Int32) : Prop := E b = .inr (6, [.ref (qa (b + 1)), .ref (qa (b + 2)), .ref (qa (b + 3)), .int ltr, .ref (qa (b + 4)), .int pos, .int num, .ref (qa (b + 5)), .ref (qa (b + 6)), .ref (qa (b + 7)), .ref (qa (b + 8)), .int isk, .ref (qa (b + 9)), .int bm, .int bch]) ∧ E (b + 1) = .inl (g 0, 4, .inl lan) ∧ E (b + 2) = .inl (g 0, 4, .inl siz) ∧ E (b + 3) = .inl (g 1, 96, .inr (.inl itm)) ∧ E (b + 4) = .inl (g 0, 90, .inl tap) ∧ E (b + 5) = .inl (g 0, 191, .inl now) ∧ E (b + 6) = .inl (g 0, 191, .inl tri) ∧ E (b + 7) = .inl (g 0, 191, .inl rd) ∧ E (b + 8) = .inl (g 0, 191, .inl kp) ∧ E (b + 9) = .inl (g 0, 6, .inl bes)
theorem Mo_kept {g : Nat → ClassId} {qa : Nat → Nat} {E E1 : Nat → va_E} {b : Nat} {ltr : Int32} {pos : Int32} {num : Int32} {isk : Int32} {bm : Int32} {bch : Int32} {lan : Nat → Int32} {siz : Nat → Int32} {itm : Nat → Int64} {tap : Nat → Int32} {now : Nat → Int32} {tri : Nat → Int32} {rd : Nat → Int32} {kp : Nat → Int32} {bes : Nat → Int32} (h : Mo g qa E b ltr pos num isk bm bch lan siz itm tap now tri rd kp bes) (hk : ∀ j, b ≤ j → j < b + 10 → E1 j = E j) : Mo g qa E1 b ltr pos num isk bm bch lan siz itm tap now tri rd kp bes := ⟨((hk _ (by omega) (by omega)).trans h.1), ((hk _ (by omega) (by omega)).trans h.2.1), ((hk _ (by omega) (by omega)).trans h.2.2.1), ((hk _ (by omega) (by omega)).trans h.2.2.2.1), ((hk _ (by omega) (by omega)).trans h.2.2.2.2.1), ((hk _ (by omega) (by omega)).trans h.2.2.2.2.2.1), ((hk _ (by omega) (by omega)).trans h.2.2.2.2.2.2.1), ((hk _ (by omega) (by omega)).trans h.2.2.2.2.2.2.2.1), ((hk _ (by omega) (by omega)).trans h.2.2.2.2.2.2.2.2.1), ((hk _ (by omega) (by omega)).trans h.2.2.2.2.2.2.2.2.2)⟩
theorem Mo_set_0 {g : Nat → ClassId} {qa : Nat → Nat} {E E1 : Nat → va_E} {b : Nat} {ltr : Int32} {pos : Int32} {num : Int32} {isk : Int32} {bm : Int32} {bch : Int32} {lan : Nat → Int32} {siz : Nat → Int32} {itm : Nat → Int64} {tap : Nat → Int32} {now : Nat → Int32} {tri : Nat → Int32} {rd : Nat → Int32} {kp : Nat → Int32} {bes : Nat → Int32} {ltr' : Int32} {pos' : Int32} {num' : Int32} {isk' : Int32} {bm' : Int32} {bch' : Int32} (h : Mo g qa E b ltr pos num isk bm bch lan siz itm tap now tri rd kp bes) (h1 : E1 b = .inr (6, [.ref (qa (b + 1)), .ref (qa (b + 2)), .ref (qa (b + 3)), .int ltr', .ref (qa (b + 4)), .int pos', .int num', .ref (qa (b + 5)), .ref (qa (b + 6)), .ref (qa (b + 7)), .ref (qa (b + 8)), .int isk', .ref (qa (b + 9)), .int bm', .int bch'])) (hk : ∀ j, j ≠ b + 0 → E1 j = E j) : Mo g qa E1 b ltr' pos' num' isk' bm' bch' lan siz itm tap now tri rd kp bes := ⟨h1, ((hk _ (by omega)).trans h.2.1), ((hk _ (by omega)).trans h.2.2.1), ((hk _ (by omega)).trans h.2.2.2.1), ((hk _ (by omega)).trans h.2.2.2.2.1), ((hk _ (by omega)).trans h.2.2.2.2.2.1), ((hk _ (by omega)).trans h.2.2.2.2.2.2.1), ((hk _ (by omega)).trans h.2.2.2.2.2.2.2.1), ((hk _ (by omega)).trans h.2.2.2.2.2.2.2.2.1), ((hk _ (by omega)).trans h.2.2.2.2.2.2.2.2.2)⟩
theorem Mo_set_1 {g : Nat → ClassId} {qa : Nat → Nat} {E E1 : Nat → va_E} {b : Nat} {ltr : Int32} {pos : Int32} {num : Int32} {isk : Int32} {bm : Int32} {bch : Int32} {lan : Nat → Int32} {siz : Nat → Int32} {itm : Nat → Int64} {tap : Nat → Int32} {now : Nat → Int32} {tri : Nat → Int32} {rd : Nat → Int32} {kp : Nat → Int32} {bes : Nat → Int32} {lan' : Nat → Int32} (h : Mo g qa E b ltr pos num isk bm bch lan siz itm tap now tri rd kp bes) (h1 : E1 (b + 1) = .inl (g 0, 4, .inl lan')) (hk : ∀ j, j ≠ b + 1 → E1 j = E j) : Mo g qa E1 b ltr pos num isk bm bch lan' siz itm tap now tri rd kp bes := ⟨((hk _ (by omega)).trans h.1), h1, ((hk _ (by omega)).trans h.2.2.1), ((hk _ (by omega)).trans h.2.2.2.1), ((hk _ (by omega)).trans h.2.2.2.2.1), ((hk _ (by omega)).trans h.2.2.2.2.2.1), ((hk _ (by omega)).trans h.2.2.2.2.2.2.1), ((hk _ (by omega)).trans h.2.2.2.2.2.2.2.1), ((hk _ (by omega)).trans h.2.2.2.2.2.2.2.2.1), ((hk _ (by omega)).trans h.2.2.2.2.2.2.2.2.2)⟩
theorem Mo_set_2 {g : Nat → ClassId} {qa : Nat → Nat} {E E1 : Nat → va_E} {b : Nat} {ltr : Int32} {pos : Int32} {num : Int32} {isk : Int32} {bm : Int32} {bch : Int32} {lan : Nat → Int32} {siz : Nat → Int32} {itm : Nat → Int64} {tap : Nat → Int32} {now : Nat → Int32} {tri : Nat → Int32} {rd : Nat → Int32} {kp : Nat → Int32} {bes : Nat → Int32} {siz' : Nat → Int32} (h : Mo g qa E b ltr pos num isk bm bch lan siz itm tap now tri rd kp bes) (h1 : E1 (b + 2) = .inl (g 0, 4, .inl siz')) (hk : ∀ j, j ≠ b + 2 → E1 j = E j) : Mo g qa E1 b ltr pos num isk bm bch lan siz' itm tap now tri rd kp bes := ⟨((hk _ (by omega)).trans h.1), ((hk _ (by omega)).trans h.2.1), h1, ((hk _ (by omega)).trans h.2.2.2.1), ((hk _ (by omega)).trans h.2.2.2.2.1), ((hk _ (by omega)).trans h.2.2.2.2.2.1), ((hk _ (by omega)).trans h.2.2.2.2.2.2.1), ((hk _ (by omega)).trans h.2.2.2.2.2.2.2.1), ((hk _ (by omega)).trans h.2.2.2.2.2.2.2.2.1), ((hk _ (by omega)).trans h.2.2.2.2.2.2.2.2.2)⟩
theorem Mo_set_3 {g : Nat → ClassId} {qa : Nat → Nat} {E E1 : Nat → va_E} {b : Nat} {ltr : Int32} {pos : Int32} {num : Int32} {isk : Int32} {bm : Int32} {bch : Int32} {lan : Nat → Int32} {siz : Nat → Int32} {itm : Nat → Int64} {tap : Nat → Int32} {now : Nat → Int32} {tri : Nat → Int32} {rd : Nat → Int32} {kp : Nat → Int32} {bes : Nat → Int32} {itm' : Nat → Int64} (h : Mo g qa E b ltr pos num isk bm bch lan siz itm tap now tri rd kp bes) (h1 : E1 (b + 3) = .inl (g 1, 96, .inr (.inl itm'))) (hk : ∀ j, j ≠ b + 3 → E1 j = E j) : Mo g qa E1 b ltr pos num isk bm bch lan siz itm' tap now tri rd kp bes := ⟨((hk _ (by omega)).trans h.1), ((hk _ (by omega)).trans h.2.1), ((hk _ (by omega)).trans h.2.2.1), h1, ((hk _ (by omega)).trans h.2.2.2.2.1), ((hk _ (by omega)).trans h.2.2.2.2.2.1), ((hk _ (by omega)).trans h.2.2.2.2.2.2.1), ((hk _ (by omega)).trans h.2.2.2.2.2.2.2.1), ((hk _ (by omega)).trans h.2.2.2.2.2.2.2.2.1), ((hk _ (by omega)).trans h.2.2.2.2.2.2.2.2.2)⟩
theorem Mo_set_4 {g : Nat → ClassId} {qa : Nat → Nat} {E E1 : Nat → va_E} {b : Nat} {ltr : Int32} {pos : Int32} {num : Int32} {isk : Int32} {bm : Int32} {bch : Int32} {lan : Nat → Int32} {siz : Nat → Int32} {itm : Nat → Int64} {tap : Nat → Int32} {now : Nat → Int32} {tri : Nat → Int32} {rd : Nat → Int32} {kp : Nat → Int32} {bes : Nat → Int32} {tap' : Nat → Int32} (h : Mo g qa E b ltr pos num isk bm bch lan siz itm tap now tri rd kp bes) (h1 : E1 (b + 4) = .inl (g 0, 90, .inl tap')) (hk : ∀ j, j ≠ b + 4 → E1 j = E j) : Mo g qa E1 b ltr pos num isk bm bch lan siz itm tap' now tri rd kp bes := ⟨((hk _ (by omega)).trans h.1), ((hk _ (by omega)).trans h.2.1), ((hk _ (by omega)).trans h.2.2.1), ((hk _ (by omega)).trans h.2.2.2.1), h1, ((hk _ (by omega)).trans h.2.2.2.2.2.1), ((hk _ (by omega)).trans h.2.2.2.2.2.2.1), ((hk _ (by omega)).trans h.2.2.2.2.2.2.2.1), ((hk _ (by omega)).trans h.2.2.2.2.2.2.2.2.1), ((hk _ (by omega)).trans h.2.2.2.2.2.2.2.2.2)⟩
theorem Mo_set_5 {g : Nat → ClassId} {qa : Nat → Nat} {E E1 : Nat → va_E} {b : Nat} {ltr : Int32} {pos : Int32} {num : Int32} {isk : Int32} {bm : Int32} {bch : Int32} {lan : Nat → Int32} {siz : Nat → Int32} {itm : Nat → Int64} {tap : Nat → Int32} {now : Nat → Int32} {tri : Nat → Int32} {rd : Nat → Int32} {kp : Nat → Int32} {bes : Nat → Int32} {now' : Nat → Int32} (h : Mo g qa E b ltr pos num isk bm bch lan siz itm tap now tri rd kp bes) (h1 : E1 (b + 5) = .inl (g 0, 191, .inl now')) (hk : ∀ j, j ≠ b + 5 → E1 j = E j) : Mo g qa E1 b ltr pos num isk bm bch lan siz itm tap now' tri rd kp bes := ⟨((hk _ (by omega)).trans h.1), ((hk _ (by omega)).trans h.2.1), ((hk _ (by omega)).trans h.2.2.1), ((hk _ (by omega)).trans h.2.2.2.1), ((hk _ (by omega)).trans h.2.2.2.2.1), h1, ((hk _ (by omega)).trans h.2.2.2.2.2.2.1), ((hk _ (by omega)).trans h.2.2.2.2.2.2.2.1), ((hk _ (by omega)).trans h.2.2.2.2.2.2.2.2.1), ((hk _ (by omega)).trans h.2.2.2.2.2.2.2.2.2)⟩
theorem Mo_set_6 {g : Nat → ClassId} {qa : Nat → Nat} {E E1 : Nat → va_E} {b : Nat} {ltr : Int32} {pos : Int32} {num : Int32} {isk : Int32} {bm : Int32} {bch : Int32} {lan : Nat → Int32} {siz : Nat → Int32} {itm : Nat → Int64} {tap : Nat → Int32} {now : Nat → Int32} {tri : Nat → Int32} {rd : Nat → Int32} {kp : Nat → Int32} {bes : Nat → Int32} {tri' : Nat → Int32} (h : Mo g qa E b ltr pos num isk bm bch lan siz itm tap now tri rd kp bes) (h1 : E1 (b + 6) = .inl (g 0, 191, .inl tri')) (hk : ∀ j, j ≠ b + 6 → E1 j = E j) : Mo g qa E1 b ltr pos num isk bm bch lan siz itm tap now tri' rd kp bes := ⟨((hk _ (by omega)).trans h.1), ((hk _ (by omega)).trans h.2.1), ((hk _ (by omega)).trans h.2.2.1), ((hk _ (by omega)).trans h.2.2.2.1), ((hk _ (by omega)).trans h.2.2.2.2.1), ((hk _ (by omega)).trans h.2.2.2.2.2.1), h1, ((hk _ (by omega)).trans h.2.2.2.2.2.2.2.1), ((hk _ (by omega)).trans h.2.2.2.2.2.2.2.2.1), ((hk _ (by omega)).trans h.2.2.2.2.2.2.2.2.2)⟩
theorem Mo_set_7 {g : Nat → ClassId} {qa : Nat → Nat} {E E1 : Nat → va_E} {b : Nat} {ltr : Int32} {pos : Int32} {num : Int32} {isk : Int32} {bm : Int32} {bch : Int32} {lan : Nat → Int32} {siz : Nat → Int32} {itm : Nat → Int64} {tap : Nat → Int32} {now : Nat → Int32} {tri : Nat → Int32} {rd : Nat → Int32} {kp : Nat → Int32} {bes : Nat → Int32} {rd' : Nat → Int32} (h : Mo g qa E b ltr pos num isk bm bch lan siz itm tap now tri rd kp bes) (h1 : E1 (b + 7) = .inl (g 0, 191, .inl rd')) (hk : ∀ j, j ≠ b + 7 → E1 j = E j) : Mo g qa E1 b ltr pos num isk bm bch lan siz itm tap now tri rd' kp bes := ⟨((hk _ (by omega)).trans h.1), ((hk _ (by omega)).trans h.2.1), ((hk _ (by omega)).trans h.2.2.1), ((hk _ (by omega)).trans h.2.2.2.1), ((hk _ (by omega)).trans h.2.2.2.2.1), ((hk _ (by omega)).trans h.2.2.2.2.2.1), ((hk _ (by omega)).trans h.2.2.2.2.2.2.1), h1, ((hk _ (by omega)).trans h.2.2.2.2.2.2.2.2.1), ((hk _ (by omega)).trans h.2.2.2.2.2.2.2.2.2)⟩
theorem Mo_set_8 {g : Nat → ClassId} {qa : Nat → Nat} {E E1 : Nat → va_E} {b : Nat} {ltr : Int32} {pos : Int32} {num : Int32} {isk : Int32} {bm : Int32} {bch : Int32} {lan : Nat → Int32} {siz : Nat → Int32} {itm : Nat → Int64} {tap : Nat → Int32} {now : Nat → Int32} {tri : Nat → Int32} {rd : Nat → Int32} {kp : Nat → Int32} {bes : Nat → Int32} {kp' : Nat → Int32} (h : Mo g qa E b ltr pos num isk bm bch lan siz itm tap now tri rd kp bes) (h1 : E1 (b + 8) = .inl (g 0, 191, .inl kp')) (hk : ∀ j, j ≠ b + 8 → E1 j = E j) : Mo g qa E1 b ltr pos num isk bm bch lan siz itm tap now tri rd kp' bes := ⟨((hk _ (by omega)).trans h.1), ((hk _ (by omega)).trans h.2.1), ((hk _ (by omega)).trans h.2.2.1), ((hk _ (by omega)).trans h.2.2.2.1), ((hk _ (by omega)).trans h.2.2.2.2.1), ((hk _ (by omega)).trans h.2.2.2.2.2.1), ((hk _ (by omega)).trans h.2.2.2.2.2.2.1), ((hk _ (by omega)).trans h.2.2.2.2.2.2.2.1), h1, ((hk _ (by omega)).trans h.2.2.2.2.2.2.2.2.2)⟩
theorem Mo_set_9 {g : Nat → ClassId} {qa : Nat → Nat} {E E1 : Nat → va_E} {b : Nat} {ltr : Int32} {pos : Int32} {num : Int32} {isk : Int32} {bm : Int32} {bch : Int32} {lan : Nat → Int32} {siz : Nat → Int32} {itm : Nat → Int64} {tap : Nat → Int32} {now : Nat → Int32} {tri : Nat → Int32} {rd : Nat → Int32} {kp : Nat → Int32} {bes : Nat → Int32} {bes' : Nat → Int32} (h : Mo g qa E b ltr pos num isk bm bch lan siz itm tap now tri rd kp bes) (h1 : E1 (b + 9) = .inl (g 0, 6, .inl bes')) (hk : ∀ j, j ≠ b + 9 → E1 j = E j) : Mo g qa E1 b ltr pos num isk bm bch lan siz itm tap now tri rd kp bes' := ⟨((hk _ (by omega)).trans h.1), ((hk _ (by omega)).trans h.2.1), ((hk _ (by omega)).trans h.2.2.1), ((hk _ (by omega)).trans h.2.2.2.1), ((hk _ (by omega)).trans h.2.2.2.2.1), ((hk _ (by omega)).trans h.2.2.2.2.2.1), ((hk _ (by omega)).trans h.2.2.2.2.2.2.1), ((hk _ (by omega)).trans h.2.2.2.2.2.2.2.1), ((hk _ (by omega)).trans h.2.2.2.2.2.2.2.2.1), h1⟩
def Ro (g : Nat → ClassId) (qa : Nat → Nat) (E : Nat → va_E) (j0 : Nat) (th lan siz : Int32) (itm : Nat → Int64) : Prop := E (56 + j0) = .inr (3, [.int th, .int lan, .int siz, .ref (qa (60 + j0))]) ∧ E (60 + j0) = .inl (g 1, 24, .inr (.inl itm))
theorem Ro_set_0 {g : Nat → ClassId} {qa : Nat → Nat} {E E1 : Nat → va_E} {j0 : Nat} {th lan siz th' lan' siz' : Int32} {itm : Nat → Int64} (h : Ro g qa E j0 th lan siz itm) (h1 : E1 (56 + j0) = .inr (3, [.int th', .int lan', .int siz', .ref (qa (60 + j0))])) (hk : ∀ j, j ≠ 56 + j0 → E1 j = E j) : Ro g qa E1 j0 th' lan' siz' itm := ⟨h1, (hk _ (by omega)).trans h.2⟩
theorem Ro_set_1 {g : Nat → ClassId} {qa : Nat → Nat} {E E1 : Nat → va_E} {j0 : Nat} {th lan siz : Int32} {itm itm' : Nat → Int64} (h : Ro g qa E j0 th lan siz itm) (h1 : E1 (60 + j0) = .inl (g 1, 24, .inr (.inl itm'))) (hk : ∀ j, j ≠ 60 + j0 → E1 j = E j) : Ro g qa E1 j0 th lan siz itm' := ⟨(hk _ (by omega)).trans h.1, h1⟩
def Rs (g : Nat → ClassId) (qa : Nat → Nat) (E : Nat → va_E) (b : Nat) (th lan siz : Nat → Int32) (itm : Nat → Nat → Int64) : Prop := E b = .inl (g 4, grd qa (b + 1) 4) ∧ (∀ j, j < 4 → E (b + 1 + j) = .inr (3, [.int (th j), .int (lan j), .int (siz j), .ref (qa (b + 5 + j))])) ∧ (∀ j, j < 4 → E (b + 5 + j) = .inl (g 1, 24, .inr (.inl (itm j))))
theorem Rs_kept {g : Nat → ClassId} {qa : Nat → Nat} {E E1 : Nat → va_E} {b : Nat} {th lan siz : Nat → Int32} {itm : Nat → Nat → Int64} (h : Rs g qa E b th lan siz itm) (hk : ∀ j, b ≤ j → j < b + 9 → E1 j = E j) : Rs g qa E1 b th lan siz itm := ⟨(hk _ (by omega) (by omega)).trans h.1, fun j hj => (hk _ (by omega) (by omega)).trans (h.2.1 j hj), fun j hj => (hk _ (by omega) (by omega)).trans (h.2.2 j hj)⟩
theorem Ro_of {g : Nat → ClassId} {qa : Nat → Nat} {E : Nat → va_E} {th lan siz : Nat → Int32} {itm : Nat → Nat → Int64} (h : Rs g qa E 55 th lan siz itm) {j0 : Nat} (hj : j0 < 4) : Ro g qa E j0 (th j0) (lan j0) (siz j0) (itm j0) := ⟨h.2.1 j0 hj, h.2.2 j0 hj⟩
theorem va_up_id {α : Type} (f : Nat → α) (k : Nat) : va_up f k (f k) = f := by
  funext j
  by_cases e : j = k
  · subst e; exact va_up_self _ _ _
  · exact va_up_ne _ _ e
theorem Rs_put {g : Nat → ClassId} {qa : Nat → Nat} {E E1 : Nat → va_E} {th lan siz : Nat → Int32} {itm : Nat → Nat → Int64} {j0 : Nat} {th' lan' siz' : Int32} {itm' : Nat → Int64} (h : Rs g qa E 55 th lan siz itm) (hj0 : j0 < 4) (hw : Ro g qa E1 j0 th' lan' siz' itm') (hk : ∀ j, (j ≠ 56 + j0 ∧ j ≠ 60 + j0) → E1 j = E j) : Rs g qa E1 55 (va_up th j0 th') (va_up lan j0 lan') (va_up siz j0 siz') (va_up itm j0 itm') := by
  refine ⟨(hk _ (by omega)).trans h.1, fun j hj => ?_, fun j hj => ?_⟩
  · by_cases e : j = j0
    · subst e
      rw [va_up_self, va_up_self, va_up_self]
      exact hw.1
    · rw [va_up_ne _ _ e, va_up_ne _ _ e, va_up_ne _ _ e]
      exact (hk _ (by omega)).trans (h.2.1 j hj)
  · by_cases e : j = j0
    · subst e
      rw [va_up_self]
      exact hw.2
    · rw [va_up_ne _ _ e]
      exact (hk _ (by omega)).trans (h.2.2 j hj)
theorem Rs_set_P_th {g : Nat → ClassId} {qa : Nat → Nat} {E E1 : Nat → va_E} {th lan siz : Nat → Int32} {itm : Nat → Nat → Int64} {j0 : Nat} {v : Int32} (h : Rs g qa E 55 th lan siz itm) (hj0 : j0 < 4) (h1 : E1 (55 + 1 + j0) = .inr (3, [.int v, .int (lan j0), .int (siz j0), .ref (qa (55 + 5 + j0))])) (hk : ∀ j, j ≠ 55 + 1 + j0 → E1 j = E j) : Rs g qa E1 55 (va_up th j0 v) lan siz itm := by
  refine ⟨(hk _ (by omega)).trans h.1, fun j hj => ?_, fun j hj => (hk _ (by omega)).trans (h.2.2 j hj)⟩
  by_cases e : j = j0
  · subst e
    rw [va_up_self]
    exact h1
  · rw [va_up_ne _ _ e]
    exact (hk _ (by omega)).trans (h.2.1 j hj)
theorem Rs_set_Q {g : Nat → ClassId} {qa : Nat → Nat} {E E1 : Nat → va_E} {th lan siz : Nat → Int32} {itm : Nat → Nat → Int64} {j0 : Nat} {f : Nat → Int64} (h : Rs g qa E 55 th lan siz itm) (hj0 : j0 < 4) (h1 : E1 (55 + 5 + j0) = .inl (g 1, 24, .inr (.inl f))) (hk : ∀ j, j ≠ 55 + 5 + j0 → E1 j = E j) : Rs g qa E1 55 th lan siz (va_up itm j0 f) := by
  refine ⟨(hk _ (by omega)).trans h.1, fun j hj => (hk _ (by omega)).trans (h.2.1 j hj), fun j hj => ?_⟩
  by_cases e : j = j0
  · subst e
    rw [va_up_self]
    exact h1
  · rw [va_up_ne _ _ e]
    exact (hk _ (by omega)).trans (h.2.2 j hj)
end
section
theorem dX1_clear_0 : decode cX1_clear 0 = .ok (.aload_n 0, 1) := by decide +kernel
theorem dX1_clear_1 : decode cX1_clear 1 = .ok (.iconst 0, 1) := by decide +kernel
theorem dX1_clear_2 : decode cX1_clear 2 = .ok (.putfield 9, 3) := by decide +kernel
theorem dX1_clear_5 : decode cX1_clear 5 = .ok (.aload_n 0, 1) := by decide +kernel
theorem dX1_clear_6 : decode cX1_clear 6 = .ok (.iconst 0, 1) := by decide +kernel
theorem dX1_clear_7 : decode cX1_clear 7 = .ok (.putfield 22, 3) := by decide +kernel
theorem dX1_clear_10 : decode cX1_clear 10 = .ok (.aload_n 0, 1) := by decide +kernel
theorem dX1_clear_11 : decode cX1_clear 11 = .ok (.iconst 0, 1) := by decide +kernel
theorem dX1_clear_12 : decode cX1_clear 12 = .ok (.putfield 37, 3) := by decide +kernel
theorem dX1_clear_15 : decode cX1_clear 15 = .ok (.return_, 1) := by decide +kernel
theorem dX1_take_0 : decode cX1_take 0 = .ok (.aload_n 0, 1) := by decide +kernel
theorem dX1_take_1 : decode cX1_take 1 = .ok (.aload_n 1, 1) := by decide +kernel
theorem dX1_take_2 : decode cX1_take 2 = .ok (.getfield 9, 3) := by decide +kernel
theorem dX1_take_5 : decode cX1_take 5 = .ok (.putfield 9, 3) := by decide +kernel
theorem dX1_take_8 : decode cX1_take 8 = .ok (.aload_n 1, 1) := by decide +kernel
theorem dX1_take_9 : decode cX1_take 9 = .ok (.getfield 15, 3) := by decide +kernel
theorem dX1_take_12 : decode cX1_take 12 = .ok (.iconst 0, 1) := by decide +kernel
theorem dX1_take_13 : decode cX1_take 13 = .ok (.aload_n 0, 1) := by decide +kernel
theorem dX1_take_14 : decode cX1_take 14 = .ok (.getfield 15, 3) := by decide +kernel
theorem dX1_take_17 : decode cX1_take 17 = .ok (.iconst 0, 1) := by decide +kernel
theorem dX1_take_18 : decode cX1_take 18 = .ok (.iconst 5, 1) := by decide +kernel
theorem dX1_take_19 : decode cX1_take 19 = .ok (.invokestatic 43, 3) := by decide +kernel
theorem dX1_take_22 : decode cX1_take 22 = .ok (.aload_n 1, 1) := by decide +kernel
theorem dX1_take_23 : decode cX1_take 23 = .ok (.getfield 19, 3) := by decide +kernel
theorem dX1_take_26 : decode cX1_take 26 = .ok (.iconst 0, 1) := by decide +kernel
theorem dX1_take_27 : decode cX1_take 27 = .ok (.aload_n 0, 1) := by decide +kernel
theorem dX1_take_28 : decode cX1_take 28 = .ok (.getfield 19, 3) := by decide +kernel
theorem dX1_take_31 : decode cX1_take 31 = .ok (.iconst 0, 1) := by decide +kernel
theorem dX1_take_32 : decode cX1_take 32 = .ok (.iconst 5, 1) := by decide +kernel
theorem dX1_take_33 : decode cX1_take 33 = .ok (.invokestatic 43, 3) := by decide +kernel
theorem dX1_take_36 : decode cX1_take 36 = .ok (.aload_n 0, 1) := by decide +kernel
theorem dX1_take_37 : decode cX1_take 37 = .ok (.aload_n 1, 1) := by decide +kernel
theorem dX1_take_38 : decode cX1_take 38 = .ok (.getfield 22, 3) := by decide +kernel
theorem dX1_take_41 : decode cX1_take 41 = .ok (.putfield 22, 3) := by decide +kernel
theorem dX1_take_44 : decode cX1_take 44 = .ok (.aload_n 1, 1) := by decide +kernel
theorem dX1_take_45 : decode cX1_take 45 = .ok (.getfield 25, 3) := by decide +kernel
theorem dX1_take_48 : decode cX1_take 48 = .ok (.iconst 0, 1) := by decide +kernel
theorem dX1_take_49 : decode cX1_take 49 = .ok (.aload_n 0, 1) := by decide +kernel
theorem dX1_take_50 : decode cX1_take 50 = .ok (.getfield 25, 3) := by decide +kernel
theorem dX1_take_53 : decode cX1_take 53 = .ok (.iconst 0, 1) := by decide +kernel
theorem dX1_take_54 : decode cX1_take 54 = .ok (.bipush 6, 2) := by decide +kernel
theorem dX1_take_56 : decode cX1_take 56 = .ok (.invokestatic 43, 3) := by decide +kernel
theorem dX1_take_59 : decode cX1_take 59 = .ok (.aload_n 1, 1) := by decide +kernel
theorem dX1_take_60 : decode cX1_take 60 = .ok (.getfield 28, 3) := by decide +kernel
theorem dX1_take_63 : decode cX1_take 63 = .ok (.iconst 0, 1) := by decide +kernel
theorem dX1_take_64 : decode cX1_take 64 = .ok (.aload_n 0, 1) := by decide +kernel
theorem dX1_take_65 : decode cX1_take 65 = .ok (.getfield 28, 3) := by decide +kernel
theorem dX1_take_68 : decode cX1_take 68 = .ok (.iconst 0, 1) := by decide +kernel
theorem dX1_take_69 : decode cX1_take 69 = .ok (.bipush 6, 2) := by decide +kernel
theorem dX1_take_71 : decode cX1_take 71 = .ok (.invokestatic 43, 3) := by decide +kernel
theorem dX1_take_74 : decode cX1_take 74 = .ok (.aload_n 1, 1) := by decide +kernel
theorem dX1_take_75 : decode cX1_take 75 = .ok (.getfield 31, 3) := by decide +kernel
theorem dX1_take_78 : decode cX1_take 78 = .ok (.iconst 0, 1) := by decide +kernel
theorem dX1_take_79 : decode cX1_take 79 = .ok (.aload_n 0, 1) := by decide +kernel
theorem dX1_take_80 : decode cX1_take 80 = .ok (.getfield 31, 3) := by decide +kernel
theorem dX1_take_83 : decode cX1_take 83 = .ok (.iconst 0, 1) := by decide +kernel
theorem dX1_take_84 : decode cX1_take 84 = .ok (.bipush 6, 2) := by decide +kernel
theorem dX1_take_86 : decode cX1_take 86 = .ok (.invokestatic 43, 3) := by decide +kernel
theorem dX1_take_89 : decode cX1_take 89 = .ok (.aload_n 1, 1) := by decide +kernel
theorem dX1_take_90 : decode cX1_take 90 = .ok (.getfield 34, 3) := by decide +kernel
theorem dX1_take_93 : decode cX1_take 93 = .ok (.iconst 0, 1) := by decide +kernel
theorem dX1_take_94 : decode cX1_take 94 = .ok (.aload_n 0, 1) := by decide +kernel
theorem dX1_take_95 : decode cX1_take 95 = .ok (.getfield 34, 3) := by decide +kernel
theorem dX1_take_98 : decode cX1_take 98 = .ok (.iconst 0, 1) := by decide +kernel
theorem dX1_take_99 : decode cX1_take 99 = .ok (.bipush 6, 2) := by decide +kernel
theorem dX1_take_101 : decode cX1_take 101 = .ok (.invokestatic 43, 3) := by decide +kernel
theorem dX1_take_104 : decode cX1_take 104 = .ok (.aload_n 0, 1) := by decide +kernel
theorem dX1_take_105 : decode cX1_take 105 = .ok (.aload_n 1, 1) := by decide +kernel
theorem dX1_take_106 : decode cX1_take 106 = .ok (.getfield 37, 3) := by decide +kernel
theorem dX1_take_109 : decode cX1_take 109 = .ok (.putfield 37, 3) := by decide +kernel
theorem dX1_take_112 : decode cX1_take 112 = .ok (.aload_n 0, 1) := by decide +kernel
theorem dX1_take_113 : decode cX1_take 113 = .ok (.aload_n 1, 1) := by decide +kernel
theorem dX1_take_114 : decode cX1_take 114 = .ok (.getfield 40, 3) := by decide +kernel
theorem dX1_take_117 : decode cX1_take 117 = .ok (.putfield 40, 3) := by decide +kernel
theorem dX1_take_120 : decode cX1_take 120 = .ok (.return_, 1) := by decide +kernel
theorem dX1_hasMan_0 : decode cX1_hasMan 0 = .ok (.iload_n 1, 1) := by decide +kernel
theorem dX1_hasMan_1 : decode cX1_hasMan 1 = .ok (.ifCond .lt 15, 3) := by decide +kernel
theorem dX1_hasMan_4 : decode cX1_hasMan 4 = .ok (.iload_n 1, 1) := by decide +kernel
theorem dX1_hasMan_5 : decode cX1_hasMan 5 = .ok (.aload_n 0, 1) := by decide +kernel
theorem dX1_hasMan_6 : decode cX1_hasMan 6 = .ok (.getfield 9, 3) := by decide +kernel
theorem dX1_hasMan_9 : decode cX1_hasMan 9 = .ok (.if_icmp .ge 7, 3) := by decide +kernel
theorem dX1_hasMan_12 : decode cX1_hasMan 12 = .ok (.iconst 1, 1) := by decide +kernel
theorem dX1_hasMan_13 : decode cX1_hasMan 13 = .ok (.goto 4, 3) := by decide +kernel
theorem dX1_hasMan_16 : decode cX1_hasMan 16 = .ok (.iconst 0, 1) := by decide +kernel
theorem dX1_hasMan_17 : decode cX1_hasMan 17 = .ok (.ireturn, 1) := by decide +kernel
theorem dX1_hasMedal_0 : decode cX1_hasMedal 0 = .ok (.iload_n 1, 1) := by decide +kernel
theorem dX1_hasMedal_1 : decode cX1_hasMedal 1 = .ok (.ifCond .lt 15, 3) := by decide +kernel
theorem dX1_hasMedal_4 : decode cX1_hasMedal 4 = .ok (.iload_n 1, 1) := by decide +kernel
theorem dX1_hasMedal_5 : decode cX1_hasMedal 5 = .ok (.aload_n 0, 1) := by decide +kernel
theorem dX1_hasMedal_6 : decode cX1_hasMedal 6 = .ok (.getfield 22, 3) := by decide +kernel
theorem dX1_hasMedal_9 : decode cX1_hasMedal 9 = .ok (.if_icmp .ge 7, 3) := by decide +kernel
theorem dX1_hasMedal_12 : decode cX1_hasMedal 12 = .ok (.iconst 1, 1) := by decide +kernel
theorem dX1_hasMedal_13 : decode cX1_hasMedal 13 = .ok (.goto 4, 3) := by decide +kernel
theorem dX1_hasMedal_16 : decode cX1_hasMedal 16 = .ok (.iconst 0, 1) := by decide +kernel
theorem dX1_hasMedal_17 : decode cX1_hasMedal 17 = .ok (.ireturn, 1) := by decide +kernel
theorem dX1_addMan_0 : decode cX1_addMan 0 = .ok (.aload_n 0, 1) := by decide +kernel
theorem dX1_addMan_1 : decode cX1_addMan 1 = .ok (.getfield 9, 3) := by decide +kernel
theorem dX1_addMan_4 : decode cX1_addMan 4 = .ok (.iconst 5, 1) := by decide +kernel
theorem dX1_addMan_5 : decode cX1_addMan 5 = .ok (.if_icmp .lt 6, 3) := by decide +kernel
theorem dX1_addMan_8 : decode cX1_addMan 8 = .ok (.bipush (-3), 2) := by decide +kernel
theorem dX1_addMan_10 : decode cX1_addMan 10 = .ok (.ireturn, 1) := by decide +kernel
theorem dX1_addMan_11 : decode cX1_addMan 11 = .ok (.aload_n 0, 1) := by decide +kernel
theorem dX1_addMan_12 : decode cX1_addMan 12 = .ok (.getfield 15, 3) := by decide +kernel
theorem dX1_addMan_15 : decode cX1_addMan 15 = .ok (.aload_n 0, 1) := by decide +kernel
theorem dX1_addMan_16 : decode cX1_addMan 16 = .ok (.getfield 9, 3) := by decide +kernel
theorem dX1_addMan_19 : decode cX1_addMan 19 = .ok (.iload_n 1, 1) := by decide +kernel
theorem dX1_addMan_20 : decode cX1_addMan 20 = .ok (.iastore, 1) := by decide +kernel
theorem dX1_addMan_21 : decode cX1_addMan 21 = .ok (.aload_n 0, 1) := by decide +kernel
theorem dX1_addMan_22 : decode cX1_addMan 22 = .ok (.getfield 19, 3) := by decide +kernel
theorem dX1_addMan_25 : decode cX1_addMan 25 = .ok (.aload_n 0, 1) := by decide +kernel
theorem dX1_addMan_26 : decode cX1_addMan 26 = .ok (.getfield 9, 3) := by decide +kernel
theorem dX1_addMan_29 : decode cX1_addMan 29 = .ok (.iload_n 2, 1) := by decide +kernel
theorem dX1_addMan_30 : decode cX1_addMan 30 = .ok (.iastore, 1) := by decide +kernel
theorem dX1_addMan_31 : decode cX1_addMan 31 = .ok (.aload_n 0, 1) := by decide +kernel
theorem dX1_addMan_32 : decode cX1_addMan 32 = .ok (.dup, 1) := by decide +kernel
theorem dX1_addMan_33 : decode cX1_addMan 33 = .ok (.getfield 9, 3) := by decide +kernel
theorem dX1_addMan_36 : decode cX1_addMan 36 = .ok (.iconst 1, 1) := by decide +kernel
theorem dX1_addMan_37 : decode cX1_addMan 37 = .ok (.iadd, 1) := by decide +kernel
theorem dX1_addMan_38 : decode cX1_addMan 38 = .ok (.putfield 9, 3) := by decide +kernel
theorem dX1_addMan_41 : decode cX1_addMan 41 = .ok (.aload_n 0, 1) := by decide +kernel
theorem dX1_addMan_42 : decode cX1_addMan 42 = .ok (.getfield 9, 3) := by decide +kernel
theorem dX1_addMan_45 : decode cX1_addMan 45 = .ok (.iconst 1, 1) := by decide +kernel
theorem dX1_addMan_46 : decode cX1_addMan 46 = .ok (.isub, 1) := by decide +kernel
theorem dX1_addMan_47 : decode cX1_addMan 47 = .ok (.ireturn, 1) := by decide +kernel
theorem dX1_addMedal_0 : decode cX1_addMedal 0 = .ok (.aload_n 0, 1) := by decide +kernel
theorem dX1_addMedal_1 : decode cX1_addMedal 1 = .ok (.getfield 22, 3) := by decide +kernel
theorem dX1_addMedal_4 : decode cX1_addMedal 4 = .ok (.bipush 6, 2) := by decide +kernel
theorem dX1_addMedal_6 : decode cX1_addMedal 6 = .ok (.if_icmp .lt 6, 3) := by decide +kernel
theorem dX1_addMedal_9 : decode cX1_addMedal 9 = .ok (.bipush (-3), 2) := by decide +kernel
theorem dX1_addMedal_11 : decode cX1_addMedal 11 = .ok (.ireturn, 1) := by decide +kernel
theorem dX1_addMedal_12 : decode cX1_addMedal 12 = .ok (.aload_n 0, 1) := by decide +kernel
theorem dX1_addMedal_13 : decode cX1_addMedal 13 = .ok (.getfield 25, 3) := by decide +kernel
theorem dX1_addMedal_16 : decode cX1_addMedal 16 = .ok (.aload_n 0, 1) := by decide +kernel
theorem dX1_addMedal_17 : decode cX1_addMedal 17 = .ok (.getfield 22, 3) := by decide +kernel
theorem dX1_addMedal_20 : decode cX1_addMedal 20 = .ok (.iload_n 1, 1) := by decide +kernel
theorem dX1_addMedal_21 : decode cX1_addMedal 21 = .ok (.iastore, 1) := by decide +kernel
theorem dX1_addMedal_22 : decode cX1_addMedal 22 = .ok (.aload_n 0, 1) := by decide +kernel
theorem dX1_addMedal_23 : decode cX1_addMedal 23 = .ok (.getfield 28, 3) := by decide +kernel
theorem dX1_addMedal_26 : decode cX1_addMedal 26 = .ok (.aload_n 0, 1) := by decide +kernel
theorem dX1_addMedal_27 : decode cX1_addMedal 27 = .ok (.getfield 22, 3) := by decide +kernel
theorem dX1_addMedal_30 : decode cX1_addMedal 30 = .ok (.iload_n 2, 1) := by decide +kernel
theorem dX1_addMedal_31 : decode cX1_addMedal 31 = .ok (.iastore, 1) := by decide +kernel
theorem dX1_addMedal_32 : decode cX1_addMedal 32 = .ok (.aload_n 0, 1) := by decide +kernel
theorem dX1_addMedal_33 : decode cX1_addMedal 33 = .ok (.getfield 31, 3) := by decide +kernel
theorem dX1_addMedal_36 : decode cX1_addMedal 36 = .ok (.aload_n 0, 1) := by decide +kernel
theorem dX1_addMedal_37 : decode cX1_addMedal 37 = .ok (.getfield 22, 3) := by decide +kernel
theorem dX1_addMedal_40 : decode cX1_addMedal 40 = .ok (.iload_n 3, 1) := by decide +kernel
theorem dX1_addMedal_41 : decode cX1_addMedal 41 = .ok (.iastore, 1) := by decide +kernel
theorem dX1_addMedal_42 : decode cX1_addMedal 42 = .ok (.aload_n 0, 1) := by decide +kernel
theorem dX1_addMedal_43 : decode cX1_addMedal 43 = .ok (.getfield 34, 3) := by decide +kernel
theorem dX1_addMedal_46 : decode cX1_addMedal 46 = .ok (.aload_n 0, 1) := by decide +kernel
theorem dX1_addMedal_47 : decode cX1_addMedal 47 = .ok (.getfield 22, 3) := by decide +kernel
theorem dX1_addMedal_50 : decode cX1_addMedal 50 = .ok (.iload 4, 2) := by decide +kernel
theorem dX1_addMedal_52 : decode cX1_addMedal 52 = .ok (.iastore, 1) := by decide +kernel
theorem dX1_addMedal_53 : decode cX1_addMedal 53 = .ok (.aload_n 0, 1) := by decide +kernel
theorem dX1_addMedal_54 : decode cX1_addMedal 54 = .ok (.dup, 1) := by decide +kernel
theorem dX1_addMedal_55 : decode cX1_addMedal 55 = .ok (.getfield 22, 3) := by decide +kernel
theorem dX1_addMedal_58 : decode cX1_addMedal 58 = .ok (.iconst 1, 1) := by decide +kernel
theorem dX1_addMedal_59 : decode cX1_addMedal 59 = .ok (.iadd, 1) := by decide +kernel
theorem dX1_addMedal_60 : decode cX1_addMedal 60 = .ok (.putfield 22, 3) := by decide +kernel
theorem dX1_addMedal_63 : decode cX1_addMedal 63 = .ok (.aload_n 0, 1) := by decide +kernel
theorem dX1_addMedal_64 : decode cX1_addMedal 64 = .ok (.getfield 22, 3) := by decide +kernel
theorem dX1_addMedal_67 : decode cX1_addMedal 67 = .ok (.iconst 1, 1) := by decide +kernel
theorem dX1_addMedal_68 : decode cX1_addMedal 68 = .ok (.isub, 1) := by decide +kernel
theorem dX1_addMedal_69 : decode cX1_addMedal 69 = .ok (.ireturn, 1) := by decide +kernel
set_option maxRecDepth 20000 in
theorem ggX1_wornBy_X1_medalsWith : GoodIn wsX1_wornBy wsX1_medalsWith := goodIn_r _ [6, 7, 8, 9, 10, 11, 12, 13, 14, 15, 16, 17] (by decide +kernel) (by decide +kernel)
set_option maxRecDepth 20000 in
theorem gX1_wornBy_X1_medalsWith : GoodIn wsX1_wornBy (wsV RX1 49 RX1 yX1_medalsWith wsX1_medalsWith) := goodIn_app (goodIn_of _ (by decide +kernel)) ggX1_wornBy_X1_medalsWith
theorem dX1_wornBy_0 : decode cX1_wornBy 0 = .ok (.aload_n 0, 1) := by decide +kernel
theorem dX1_wornBy_1 : decode cX1_wornBy 1 = .ok (.aload_n 0, 1) := by decide +kernel
theorem dX1_wornBy_2 : decode cX1_wornBy 2 = .ok (.getfield 34, 3) := by decide +kernel
theorem dX1_wornBy_5 : decode cX1_wornBy 5 = .ok (.iload_n 1, 1) := by decide +kernel
theorem dX1_wornBy_6 : decode cX1_wornBy 6 = .ok (.invokevirtual 49, 3) := by decide +kernel
theorem dX1_wornBy_9 : decode cX1_wornBy 9 = .ok (.ireturn, 1) := by decide +kernel
set_option maxRecDepth 20000 in
theorem ggX1_allWorn_X1_wornBy : GoodIn wsX1_allWorn wsX1_wornBy := goodIn_r _ [6, 7, 8, 9, 10, 5, 11, 1, 12, 13, 14, 15, 16, 17, 18, 19, 20, 21] (by decide +kernel) (by decide +kernel)
set_option maxRecDepth 20000 in
theorem gX1_allWorn_X1_wornBy : GoodIn wsX1_allWorn (wsV RX1 53 RX1 yX1_wornBy wsX1_wornBy) := goodIn_app (goodIn_of _ (by decide +kernel)) ggX1_allWorn_X1_wornBy
theorem dX1_allWorn_0 : decode cX1_allWorn 0 = .ok (.iconst 1, 1) := by decide +kernel
theorem dX1_allWorn_1 : decode cX1_allWorn 1 = .ok (.aload_n 0, 1) := by decide +kernel
theorem dX1_allWorn_2 : decode cX1_allWorn 2 = .ok (.getfield 22, 3) := by decide +kernel
theorem dX1_allWorn_5 : decode cX1_allWorn 5 = .ok (.ishl, 1) := by decide +kernel
theorem dX1_allWorn_6 : decode cX1_allWorn 6 = .ok (.iconst 1, 1) := by decide +kernel
theorem dX1_allWorn_7 : decode cX1_allWorn 7 = .ok (.isub, 1) := by decide +kernel
theorem dX1_allWorn_8 : decode cX1_allWorn 8 = .ok (.aload_n 0, 1) := by decide +kernel
theorem dX1_allWorn_9 : decode cX1_allWorn 9 = .ok (.bipush (-4), 2) := by decide +kernel
theorem dX1_allWorn_11 : decode cX1_allWorn 11 = .ok (.invokevirtual 53, 3) := by decide +kernel
theorem dX1_allWorn_14 : decode cX1_allWorn 14 = .ok (.iconst (-1), 1) := by decide +kernel
theorem dX1_allWorn_15 : decode cX1_allWorn 15 = .ok (.ixor, 1) := by decide +kernel
theorem dX1_allWorn_16 : decode cX1_allWorn 16 = .ok (.iand, 1) := by decide +kernel
theorem dX1_allWorn_17 : decode cX1_allWorn 17 = .ok (.ireturn, 1) := by decide +kernel
set_option maxRecDepth 20000 in
theorem ggX1_woundsOf_X1_medalsWith : GoodIn wsX1_woundsOf wsX1_medalsWith := goodIn_r _ [6, 7, 8, 9, 10, 11, 12, 13, 14, 15, 16, 17] (by decide +kernel) (by decide +kernel)
set_option maxRecDepth 20000 in
theorem gX1_woundsOf_X1_medalsWith : GoodIn wsX1_woundsOf (wsV RX1 49 RX1 yX1_medalsWith wsX1_medalsWith) := goodIn_app (goodIn_of _ (by decide +kernel)) ggX1_woundsOf_X1_medalsWith
theorem dX1_woundsOf_0 : decode cX1_woundsOf 0 = .ok (.aload_n 0, 1) := by decide +kernel
theorem dX1_woundsOf_1 : decode cX1_woundsOf 1 = .ok (.aload_n 0, 1) := by decide +kernel
theorem dX1_woundsOf_2 : decode cX1_woundsOf 2 = .ok (.getfield 31, 3) := by decide +kernel
theorem dX1_woundsOf_5 : decode cX1_woundsOf 5 = .ok (.iload_n 1, 1) := by decide +kernel
theorem dX1_woundsOf_6 : decode cX1_woundsOf 6 = .ok (.invokevirtual 49, 3) := by decide +kernel
theorem dX1_woundsOf_9 : decode cX1_woundsOf 9 = .ok (.ireturn, 1) := by decide +kernel
theorem dX1_medalsWith_0 : decode cX1_medalsWith 0 = .ok (.iconst 0, 1) := by decide +kernel
theorem dX1_medalsWith_1 : decode cX1_medalsWith 1 = .ok (.istore_n 3, 1) := by decide +kernel
theorem dX1_medalsWith_2 : decode cX1_medalsWith 2 = .ok (.iconst 0, 1) := by decide +kernel
theorem dX1_medalsWith_3 : decode cX1_medalsWith 3 = .ok (.istore 4, 2) := by decide +kernel
theorem dX1_medalsWith_5 : decode cX1_medalsWith 5 = .ok (.iload 4, 2) := by decide +kernel
theorem dX1_medalsWith_7 : decode cX1_medalsWith 7 = .ok (.aload_n 0, 1) := by decide +kernel
theorem dX1_medalsWith_8 : decode cX1_medalsWith 8 = .ok (.getfield 22, 3) := by decide +kernel
theorem dX1_medalsWith_11 : decode cX1_medalsWith 11 = .ok (.if_icmp .ge 24, 3) := by decide +kernel
theorem dX1_medalsWith_14 : decode cX1_medalsWith 14 = .ok (.aload_n 1, 1) := by decide +kernel
theorem dX1_medalsWith_15 : decode cX1_medalsWith 15 = .ok (.iload 4, 2) := by decide +kernel
theorem dX1_medalsWith_17 : decode cX1_medalsWith 17 = .ok (.iaload, 1) := by decide +kernel
theorem dX1_medalsWith_18 : decode cX1_medalsWith 18 = .ok (.iload_n 2, 1) := by decide +kernel
theorem dX1_medalsWith_19 : decode cX1_medalsWith 19 = .ok (.if_icmp .ne 10, 3) := by decide +kernel
theorem dX1_medalsWith_22 : decode cX1_medalsWith 22 = .ok (.iload_n 3, 1) := by decide +kernel
theorem dX1_medalsWith_23 : decode cX1_medalsWith 23 = .ok (.iconst 1, 1) := by decide +kernel
theorem dX1_medalsWith_24 : decode cX1_medalsWith 24 = .ok (.iload 4, 2) := by decide +kernel
theorem dX1_medalsWith_26 : decode cX1_medalsWith 26 = .ok (.ishl, 1) := by decide +kernel
theorem dX1_medalsWith_27 : decode cX1_medalsWith 27 = .ok (.ior, 1) := by decide +kernel
theorem dX1_medalsWith_28 : decode cX1_medalsWith 28 = .ok (.istore_n 3, 1) := by decide +kernel
theorem dX1_medalsWith_29 : decode cX1_medalsWith 29 = .ok (.iinc 4 1, 3) := by decide +kernel
theorem dX1_medalsWith_32 : decode cX1_medalsWith 32 = .ok (.goto (-27), 3) := by decide +kernel
theorem dX1_medalsWith_35 : decode cX1_medalsWith 35 = .ok (.iload_n 3, 1) := by decide +kernel
theorem dX1_medalsWith_36 : decode cX1_medalsWith 36 = .ok (.ireturn, 1) := by decide +kernel
theorem dX1_bears_0 : decode cX1_bears 0 = .ok (.aload_n 0, 1) := by decide +kernel
theorem dX1_bears_1 : decode cX1_bears 1 = .ok (.getfield 28, 3) := by decide +kernel
theorem dX1_bears_4 : decode cX1_bears 4 = .ok (.iload_n 1, 1) := by decide +kernel
theorem dX1_bears_5 : decode cX1_bears 5 = .ok (.iaload, 1) := by decide +kernel
theorem dX1_bears_6 : decode cX1_bears 6 = .ok (.istore 5, 2) := by decide +kernel
theorem dX1_bears_8 : decode cX1_bears 8 = .ok (.iconst 2, 1) := by decide +kernel
theorem dX1_bears_9 : decode cX1_bears 9 = .ok (.iload 5, 2) := by decide +kernel
theorem dX1_bears_11 : decode cX1_bears 11 = .ok (.imul, 1) := by decide +kernel
theorem dX1_bears_12 : decode cX1_bears 12 = .ok (.istore 6, 2) := by decide +kernel
theorem dX1_bears_14 : decode cX1_bears 14 = .ok (.iload 4, 2) := by decide +kernel
theorem dX1_bears_16 : decode cX1_bears 16 = .ok (.iconst 2, 1) := by decide +kernel
theorem dX1_bears_17 : decode cX1_bears 17 = .ok (.irem, 1) := by decide +kernel
theorem dX1_bears_18 : decode cX1_bears 18 = .ok (.ifCond .ne 8, 3) := by decide +kernel
theorem dX1_bears_21 : decode cX1_bears 21 = .ok (.iload 5, 2) := by decide +kernel
theorem dX1_bears_23 : decode cX1_bears 23 = .ok (.goto 7, 3) := by decide +kernel
theorem dX1_bears_26 : decode cX1_bears 26 = .ok (.iload 5, 2) := by decide +kernel
theorem dX1_bears_28 : decode cX1_bears 28 = .ok (.iconst 3, 1) := by decide +kernel
theorem dX1_bears_29 : decode cX1_bears 29 = .ok (.iadd, 1) := by decide +kernel
theorem dX1_bears_30 : decode cX1_bears 30 = .ok (.istore 7, 2) := by decide +kernel
theorem dX1_bears_32 : decode cX1_bears 32 = .ok (.aload_n 0, 1) := by decide +kernel
theorem dX1_bears_33 : decode cX1_bears 33 = .ok (.getfield 25, 3) := by decide +kernel
theorem dX1_bears_36 : decode cX1_bears 36 = .ok (.iload_n 1, 1) := by decide +kernel
theorem dX1_bears_37 : decode cX1_bears 37 = .ok (.iaload, 1) := by decide +kernel
theorem dX1_bears_38 : decode cX1_bears 38 = .ok (.tableswitch 62 1 4 #[30, 37, 44, 53], 30) := by decide +kernel
theorem dX1_bears_68 : decode cX1_bears 68 = .ok (.iload 6, 2) := by decide +kernel
theorem dX1_bears_70 : decode cX1_bears 70 = .ok (.istore 8, 2) := by decide +kernel
theorem dX1_bears_72 : decode cX1_bears 72 = .ok (.goto 32, 3) := by decide +kernel
theorem dX1_bears_75 : decode cX1_bears 75 = .ok (.iload 7, 2) := by decide +kernel
theorem dX1_bears_77 : decode cX1_bears 77 = .ok (.istore 8, 2) := by decide +kernel
theorem dX1_bears_79 : decode cX1_bears 79 = .ok (.goto 25, 3) := by decide +kernel
theorem dX1_bears_82 : decode cX1_bears 82 = .ok (.iload 6, 2) := by decide +kernel
theorem dX1_bears_84 : decode cX1_bears 84 = .ok (.iload_n 3, 1) := by decide +kernel
theorem dX1_bears_85 : decode cX1_bears 85 = .ok (.iadd, 1) := by decide +kernel
theorem dX1_bears_86 : decode cX1_bears 86 = .ok (.istore 8, 2) := by decide +kernel
theorem dX1_bears_88 : decode cX1_bears 88 = .ok (.goto 16, 3) := by decide +kernel
theorem dX1_bears_91 : decode cX1_bears 91 = .ok (.iload 7, 2) := by decide +kernel
theorem dX1_bears_93 : decode cX1_bears 93 = .ok (.iconst 2, 1) := by decide +kernel
theorem dX1_bears_94 : decode cX1_bears 94 = .ok (.idiv, 1) := by decide +kernel
theorem dX1_bears_95 : decode cX1_bears 95 = .ok (.istore 8, 2) := by decide +kernel
theorem dX1_bears_97 : decode cX1_bears 97 = .ok (.goto 7, 3) := by decide +kernel
theorem dX1_bears_100 : decode cX1_bears 100 = .ok (.iload 5, 2) := by decide +kernel
theorem dX1_bears_102 : decode cX1_bears 102 = .ok (.istore 8, 2) := by decide +kernel
theorem dX1_bears_104 : decode cX1_bears 104 = .ok (.aload_n 0, 1) := by decide +kernel
theorem dX1_bears_105 : decode cX1_bears 105 = .ok (.getfield 31, 3) := by decide +kernel
theorem dX1_bears_108 : decode cX1_bears 108 = .ok (.iload_n 1, 1) := by decide +kernel
theorem dX1_bears_109 : decode cX1_bears 109 = .ok (.iaload, 1) := by decide +kernel
theorem dX1_bears_110 : decode cX1_bears 110 = .ok (.iload_n 2, 1) := by decide +kernel
theorem dX1_bears_111 : decode cX1_bears 111 = .ok (.if_icmp .ne 10, 3) := by decide +kernel
theorem dX1_bears_114 : decode cX1_bears 114 = .ok (.iload 8, 2) := by decide +kernel
theorem dX1_bears_116 : decode cX1_bears 116 = .ok (.iconst 2, 1) := by decide +kernel
theorem dX1_bears_117 : decode cX1_bears 117 = .ok (.idiv, 1) := by decide +kernel
theorem dX1_bears_118 : decode cX1_bears 118 = .ok (.goto 5, 3) := by decide +kernel
theorem dX1_bears_121 : decode cX1_bears 121 = .ok (.iload 8, 2) := by decide +kernel
theorem dX1_bears_123 : decode cX1_bears 123 = .ok (.ireturn, 1) := by decide +kernel
set_option maxRecDepth 20000 in
theorem ggX1_bearsNow_X1_wornBy : GoodIn wsX1_bearsNow wsX1_wornBy := goodIn_r _ [7, 1, 8, 9, 10, 6, 11, 12, 27, 28, 29, 30, 31, 32, 33, 34, 35, 36] (by decide +kernel) (by decide +kernel)
set_option maxRecDepth 20000 in
theorem gX1_bearsNow_X1_wornBy : GoodIn wsX1_bearsNow (wsV RX1 53 RX1 yX1_wornBy wsX1_wornBy) := goodIn_app (goodIn_of _ (by decide +kernel)) ggX1_bearsNow_X1_wornBy
set_option maxRecDepth 20000 in
theorem ggX1_bearsNow_J6_bitCount_0f7a4 : GoodIn wsX1_bearsNow wsJ6_bitCount_0f7a4 := goodIn_r _ [16, 17, 18, 19] (by decide +kernel) (by decide +kernel)
set_option maxRecDepth 20000 in
theorem gX1_bearsNow_J6_bitCount_0f7a4 : GoodIn wsX1_bearsNow (va_wsS RX1 57 yJ6_bitCount_0f7a4 wsJ6_bitCount_0f7a4) := goodIn_app (goodIn_of _ (by decide +kernel)) ggX1_bearsNow_J6_bitCount_0f7a4
set_option maxRecDepth 20000 in
theorem ggX1_bearsNow_X1_bears : GoodIn wsX1_bearsNow wsX1_bears := goodIn_r _ [23, 24, 25, 26, 27, 28, 29, 30, 31, 32, 33, 34, 35, 36] (by decide +kernel) (by decide +kernel)
set_option maxRecDepth 20000 in
theorem gX1_bearsNow_X1_bears : GoodIn wsX1_bearsNow (wsV RX1 62 RX1 yX1_bears wsX1_bears) := goodIn_app (goodIn_of _ (by decide +kernel)) ggX1_bearsNow_X1_bears
theorem dX1_bearsNow_0 : decode cX1_bearsNow 0 = .ok (.aload_n 0, 1) := by decide +kernel
theorem dX1_bearsNow_1 : decode cX1_bearsNow 1 = .ok (.getfield 34, 3) := by decide +kernel
theorem dX1_bearsNow_4 : decode cX1_bearsNow 4 = .ok (.iload_n 1, 1) := by decide +kernel
theorem dX1_bearsNow_5 : decode cX1_bearsNow 5 = .ok (.iaload, 1) := by decide +kernel
theorem dX1_bearsNow_6 : decode cX1_bearsNow 6 = .ok (.istore_n 2, 1) := by decide +kernel
theorem dX1_bearsNow_7 : decode cX1_bearsNow 7 = .ok (.iload_n 2, 1) := by decide +kernel
theorem dX1_bearsNow_8 : decode cX1_bearsNow 8 = .ok (.bipush (-4), 2) := by decide +kernel
theorem dX1_bearsNow_10 : decode cX1_bearsNow 10 = .ok (.if_icmp .ne 5, 3) := by decide +kernel
theorem dX1_bearsNow_13 : decode cX1_bearsNow 13 = .ok (.iconst 0, 1) := by decide +kernel
theorem dX1_bearsNow_14 : decode cX1_bearsNow 14 = .ok (.ireturn, 1) := by decide +kernel
theorem dX1_bearsNow_15 : decode cX1_bearsNow 15 = .ok (.aload_n 0, 1) := by decide +kernel
theorem dX1_bearsNow_16 : decode cX1_bearsNow 16 = .ok (.iload_n 1, 1) := by decide +kernel
theorem dX1_bearsNow_17 : decode cX1_bearsNow 17 = .ok (.iload_n 2, 1) := by decide +kernel
theorem dX1_bearsNow_18 : decode cX1_bearsNow 18 = .ok (.aload_n 0, 1) := by decide +kernel
theorem dX1_bearsNow_19 : decode cX1_bearsNow 19 = .ok (.iload_n 2, 1) := by decide +kernel
theorem dX1_bearsNow_20 : decode cX1_bearsNow 20 = .ok (.invokevirtual 53, 3) := by decide +kernel
theorem dX1_bearsNow_23 : decode cX1_bearsNow 23 = .ok (.invokestatic 57, 3) := by decide +kernel
theorem dX1_bearsNow_26 : decode cX1_bearsNow 26 = .ok (.iconst 1, 1) := by decide +kernel
theorem dX1_bearsNow_27 : decode cX1_bearsNow 27 = .ok (.isub, 1) := by decide +kernel
theorem dX1_bearsNow_28 : decode cX1_bearsNow 28 = .ok (.aload_n 0, 1) := by decide +kernel
theorem dX1_bearsNow_29 : decode cX1_bearsNow 29 = .ok (.getfield 37, 3) := by decide +kernel
theorem dX1_bearsNow_32 : decode cX1_bearsNow 32 = .ok (.invokevirtual 62, 3) := by decide +kernel
theorem dX1_bearsNow_35 : decode cX1_bearsNow 35 = .ok (.ireturn, 1) := by decide +kernel
set_option maxRecDepth 20000 in
theorem ggX1_loadOfSet_J6_bitCount_0f7a4 : GoodIn wsX1_loadOfSet wsJ6_bitCount_0f7a4 := goodIn_r _ [5, 6, 7, 8] (by decide +kernel) (by decide +kernel)
set_option maxRecDepth 20000 in
theorem gX1_loadOfSet_J6_bitCount_0f7a4 : GoodIn wsX1_loadOfSet (va_wsS RX1 57 yJ6_bitCount_0f7a4 wsJ6_bitCount_0f7a4) := goodIn_app (goodIn_of _ (by decide +kernel)) ggX1_loadOfSet_J6_bitCount_0f7a4
set_option maxRecDepth 20000 in
theorem ggX1_loadOfSet_X1_bears : GoodIn wsX1_loadOfSet wsX1_bears := goodIn_r _ [13, 14, 15, 16, 17, 18, 19, 20, 21, 22, 23, 24, 25, 26] (by decide +kernel) (by decide +kernel)
set_option maxRecDepth 20000 in
theorem gX1_loadOfSet_X1_bears : GoodIn wsX1_loadOfSet (wsV RX1 62 RX1 yX1_bears wsX1_bears) := goodIn_app (goodIn_of _ (by decide +kernel)) ggX1_loadOfSet_X1_bears
theorem dX1_loadOfSet_0 : decode cX1_loadOfSet 0 = .ok (.iload_n 2, 1) := by decide +kernel
theorem dX1_loadOfSet_1 : decode cX1_loadOfSet 1 = .ok (.invokestatic 57, 3) := by decide +kernel
theorem dX1_loadOfSet_4 : decode cX1_loadOfSet 4 = .ok (.iconst 1, 1) := by decide +kernel
theorem dX1_loadOfSet_5 : decode cX1_loadOfSet 5 = .ok (.isub, 1) := by decide +kernel
theorem dX1_loadOfSet_6 : decode cX1_loadOfSet 6 = .ok (.istore 4, 2) := by decide +kernel
theorem dX1_loadOfSet_8 : decode cX1_loadOfSet 8 = .ok (.iconst 0, 1) := by decide +kernel
theorem dX1_loadOfSet_9 : decode cX1_loadOfSet 9 = .ok (.istore 5, 2) := by decide +kernel
theorem dX1_loadOfSet_11 : decode cX1_loadOfSet 11 = .ok (.iconst 0, 1) := by decide +kernel
theorem dX1_loadOfSet_12 : decode cX1_loadOfSet 12 = .ok (.istore 6, 2) := by decide +kernel
theorem dX1_loadOfSet_14 : decode cX1_loadOfSet 14 = .ok (.iload 6, 2) := by decide +kernel
theorem dX1_loadOfSet_16 : decode cX1_loadOfSet 16 = .ok (.aload_n 0, 1) := by decide +kernel
theorem dX1_loadOfSet_17 : decode cX1_loadOfSet 17 = .ok (.getfield 22, 3) := by decide +kernel
theorem dX1_loadOfSet_20 : decode cX1_loadOfSet 20 = .ok (.if_icmp .ge 34, 3) := by decide +kernel
theorem dX1_loadOfSet_23 : decode cX1_loadOfSet 23 = .ok (.iload_n 2, 1) := by decide +kernel
theorem dX1_loadOfSet_24 : decode cX1_loadOfSet 24 = .ok (.iload 6, 2) := by decide +kernel
theorem dX1_loadOfSet_26 : decode cX1_loadOfSet 26 = .ok (.ishr, 1) := by decide +kernel
theorem dX1_loadOfSet_27 : decode cX1_loadOfSet 27 = .ok (.iconst 1, 1) := by decide +kernel
theorem dX1_loadOfSet_28 : decode cX1_loadOfSet 28 = .ok (.iand, 1) := by decide +kernel
theorem dX1_loadOfSet_29 : decode cX1_loadOfSet 29 = .ok (.iconst 1, 1) := by decide +kernel
theorem dX1_loadOfSet_30 : decode cX1_loadOfSet 30 = .ok (.if_icmp .ne 18, 3) := by decide +kernel
theorem dX1_loadOfSet_33 : decode cX1_loadOfSet 33 = .ok (.iload 5, 2) := by decide +kernel
theorem dX1_loadOfSet_35 : decode cX1_loadOfSet 35 = .ok (.aload_n 0, 1) := by decide +kernel
theorem dX1_loadOfSet_36 : decode cX1_loadOfSet 36 = .ok (.iload 6, 2) := by decide +kernel
theorem dX1_loadOfSet_38 : decode cX1_loadOfSet 38 = .ok (.iload_n 1, 1) := by decide +kernel
theorem dX1_loadOfSet_39 : decode cX1_loadOfSet 39 = .ok (.iload 4, 2) := by decide +kernel
theorem dX1_loadOfSet_41 : decode cX1_loadOfSet 41 = .ok (.iload_n 3, 1) := by decide +kernel
theorem dX1_loadOfSet_42 : decode cX1_loadOfSet 42 = .ok (.invokevirtual 62, 3) := by decide +kernel
theorem dX1_loadOfSet_45 : decode cX1_loadOfSet 45 = .ok (.iadd, 1) := by decide +kernel
theorem dX1_loadOfSet_46 : decode cX1_loadOfSet 46 = .ok (.istore 5, 2) := by decide +kernel
theorem dX1_loadOfSet_48 : decode cX1_loadOfSet 48 = .ok (.iinc 6 1, 3) := by decide +kernel
theorem dX1_loadOfSet_51 : decode cX1_loadOfSet 51 = .ok (.goto (-37), 3) := by decide +kernel
theorem dX1_loadOfSet_54 : decode cX1_loadOfSet 54 = .ok (.iload 5, 2) := by decide +kernel
theorem dX1_loadOfSet_56 : decode cX1_loadOfSet 56 = .ok (.ireturn, 1) := by decide +kernel
set_option maxRecDepth 20000 in
theorem ggX1_loadOn_X1_wornBy : GoodIn wsX1_loadOn wsX1_wornBy := goodIn_r _ [5, 6, 7, 8, 9, 4, 10, 11, 30, 31, 32, 33, 34, 35, 36, 37, 38, 39] (by decide +kernel) (by decide +kernel)
set_option maxRecDepth 20000 in
theorem gX1_loadOn_X1_wornBy : GoodIn wsX1_loadOn (wsV RX1 53 RX1 yX1_wornBy wsX1_wornBy) := goodIn_app (goodIn_of _ (by decide +kernel)) ggX1_loadOn_X1_wornBy
set_option maxRecDepth 20000 in
theorem ggX1_loadOn_X1_loadOfSet : GoodIn wsX1_loadOn wsX1_loadOfSet := goodIn_r _ [15, 11, 16, 17, 18, 19, 20, 21, 22, 23, 24, 25, 4, 26, 27, 28, 29, 30, 31, 32, 33, 34, 35, 36, 37, 38, 39] (by decide +kernel) (by decide +kernel)
set_option maxRecDepth 20000 in
theorem gX1_loadOn_X1_loadOfSet : GoodIn wsX1_loadOn (wsV RX1 66 RX1 yX1_loadOfSet wsX1_loadOfSet) := goodIn_app (goodIn_of _ (by decide +kernel)) ggX1_loadOn_X1_loadOfSet
theorem dX1_loadOn_0 : decode cX1_loadOn 0 = .ok (.aload_n 0, 1) := by decide +kernel
theorem dX1_loadOn_1 : decode cX1_loadOn 1 = .ok (.iload_n 1, 1) := by decide +kernel
theorem dX1_loadOn_2 : decode cX1_loadOn 2 = .ok (.aload_n 0, 1) := by decide +kernel
theorem dX1_loadOn_3 : decode cX1_loadOn 3 = .ok (.iload_n 1, 1) := by decide +kernel
theorem dX1_loadOn_4 : decode cX1_loadOn 4 = .ok (.invokevirtual 53, 3) := by decide +kernel
theorem dX1_loadOn_7 : decode cX1_loadOn 7 = .ok (.iload_n 2, 1) := by decide +kernel
theorem dX1_loadOn_8 : decode cX1_loadOn 8 = .ok (.invokevirtual 66, 3) := by decide +kernel
theorem dX1_loadOn_11 : decode cX1_loadOn 11 = .ok (.ireturn, 1) := by decide +kernel
set_option maxRecDepth 20000 in
theorem ggX1_isBent_X1_loadOn : GoodIn wsX1_isBent wsX1_loadOn := goodIn_r _ [7, 8, 9, 10, 6, 11, 12, 13, 14, 15, 16, 17, 18, 19, 20, 21, 22, 23, 24, 25, 26, 27, 28, 29, 30, 31, 32, 33, 34, 35, 36, 37, 38, 39, 40, 41, 42, 43, 44, 45] (by decide +kernel) (by decide +kernel)
set_option maxRecDepth 20000 in
theorem gX1_isBent_X1_loadOn : GoodIn wsX1_isBent (wsV RX1 70 RX1 yX1_loadOn wsX1_loadOn) := goodIn_app (goodIn_of _ (by decide +kernel)) ggX1_isBent_X1_loadOn
theorem dX1_isBent_0 : decode cX1_isBent 0 = .ok (.aload_n 0, 1) := by decide +kernel
theorem dX1_isBent_1 : decode cX1_isBent 1 = .ok (.iload_n 1, 1) := by decide +kernel
theorem dX1_isBent_2 : decode cX1_isBent 2 = .ok (.aload_n 0, 1) := by decide +kernel
theorem dX1_isBent_3 : decode cX1_isBent 3 = .ok (.getfield 37, 3) := by decide +kernel
theorem dX1_isBent_6 : decode cX1_isBent 6 = .ok (.invokevirtual 70, 3) := by decide +kernel
theorem dX1_isBent_9 : decode cX1_isBent 9 = .ok (.aload_n 0, 1) := by decide +kernel
theorem dX1_isBent_10 : decode cX1_isBent 10 = .ok (.getfield 19, 3) := by decide +kernel
theorem dX1_isBent_13 : decode cX1_isBent 13 = .ok (.iload_n 1, 1) := by decide +kernel
theorem dX1_isBent_14 : decode cX1_isBent 14 = .ok (.iaload, 1) := by decide +kernel
theorem dX1_isBent_15 : decode cX1_isBent 15 = .ok (.if_icmp .le 7, 3) := by decide +kernel
theorem dX1_isBent_18 : decode cX1_isBent 18 = .ok (.iconst 1, 1) := by decide +kernel
theorem dX1_isBent_19 : decode cX1_isBent 19 = .ok (.goto 4, 3) := by decide +kernel
theorem dX1_isBent_22 : decode cX1_isBent 22 = .ok (.iconst 0, 1) := by decide +kernel
theorem dX1_isBent_23 : decode cX1_isBent 23 = .ok (.ireturn, 1) := by decide +kernel
theorem dX1_allStrength_0 : decode cX1_allStrength 0 = .ok (.iconst 0, 1) := by decide +kernel
theorem dX1_allStrength_1 : decode cX1_allStrength 1 = .ok (.istore_n 1, 1) := by decide +kernel
theorem dX1_allStrength_2 : decode cX1_allStrength 2 = .ok (.iconst 0, 1) := by decide +kernel
theorem dX1_allStrength_3 : decode cX1_allStrength 3 = .ok (.istore_n 2, 1) := by decide +kernel
theorem dX1_allStrength_4 : decode cX1_allStrength 4 = .ok (.iload_n 2, 1) := by decide +kernel
theorem dX1_allStrength_5 : decode cX1_allStrength 5 = .ok (.aload_n 0, 1) := by decide +kernel
theorem dX1_allStrength_6 : decode cX1_allStrength 6 = .ok (.getfield 9, 3) := by decide +kernel
theorem dX1_allStrength_9 : decode cX1_allStrength 9 = .ok (.if_icmp .ge 18, 3) := by decide +kernel
theorem dX1_allStrength_12 : decode cX1_allStrength 12 = .ok (.iload_n 1, 1) := by decide +kernel
theorem dX1_allStrength_13 : decode cX1_allStrength 13 = .ok (.aload_n 0, 1) := by decide +kernel
theorem dX1_allStrength_14 : decode cX1_allStrength 14 = .ok (.getfield 19, 3) := by decide +kernel
theorem dX1_allStrength_17 : decode cX1_allStrength 17 = .ok (.iload_n 2, 1) := by decide +kernel
theorem dX1_allStrength_18 : decode cX1_allStrength 18 = .ok (.iaload, 1) := by decide +kernel
theorem dX1_allStrength_19 : decode cX1_allStrength 19 = .ok (.iadd, 1) := by decide +kernel
theorem dX1_allStrength_20 : decode cX1_allStrength 20 = .ok (.istore_n 1, 1) := by decide +kernel
theorem dX1_allStrength_21 : decode cX1_allStrength 21 = .ok (.iinc 2 1, 3) := by decide +kernel
theorem dX1_allStrength_24 : decode cX1_allStrength 24 = .ok (.goto (-20), 3) := by decide +kernel
theorem dX1_allStrength_27 : decode cX1_allStrength 27 = .ok (.iload_n 1, 1) := by decide +kernel
theorem dX1_allStrength_28 : decode cX1_allStrength 28 = .ok (.ireturn, 1) := by decide +kernel
set_option maxRecDepth 20000 in
theorem ggX1_allLoads_X1_loadOn : GoodIn wsX1_allLoads wsX1_loadOn := goodIn_r _ [7, 8, 9, 10, 6, 11, 12, 13, 14, 15, 16, 17, 18, 19, 20, 21, 22, 23, 24, 25, 26, 27, 28, 29, 30, 31, 32, 33, 34, 35, 36, 37, 38, 39, 40, 41, 42, 43, 44, 45] (by decide +kernel) (by decide +kernel)
set_option maxRecDepth 20000 in
theorem gX1_allLoads_X1_loadOn : GoodIn wsX1_allLoads (wsV RX1 70 RX1 yX1_loadOn wsX1_loadOn) := goodIn_app (goodIn_of _ (by decide +kernel)) ggX1_allLoads_X1_loadOn
theorem dX1_allLoads_0 : decode cX1_allLoads 0 = .ok (.iconst 0, 1) := by decide +kernel
theorem dX1_allLoads_1 : decode cX1_allLoads 1 = .ok (.istore_n 1, 1) := by decide +kernel
theorem dX1_allLoads_2 : decode cX1_allLoads 2 = .ok (.iconst 0, 1) := by decide +kernel
theorem dX1_allLoads_3 : decode cX1_allLoads 3 = .ok (.istore_n 2, 1) := by decide +kernel
theorem dX1_allLoads_4 : decode cX1_allLoads 4 = .ok (.iload_n 2, 1) := by decide +kernel
theorem dX1_allLoads_5 : decode cX1_allLoads 5 = .ok (.aload_n 0, 1) := by decide +kernel
theorem dX1_allLoads_6 : decode cX1_allLoads 6 = .ok (.getfield 9, 3) := by decide +kernel
theorem dX1_allLoads_9 : decode cX1_allLoads 9 = .ok (.if_icmp .ge 21, 3) := by decide +kernel
theorem dX1_allLoads_12 : decode cX1_allLoads 12 = .ok (.iload_n 1, 1) := by decide +kernel
theorem dX1_allLoads_13 : decode cX1_allLoads 13 = .ok (.aload_n 0, 1) := by decide +kernel
theorem dX1_allLoads_14 : decode cX1_allLoads 14 = .ok (.iload_n 2, 1) := by decide +kernel
theorem dX1_allLoads_15 : decode cX1_allLoads 15 = .ok (.aload_n 0, 1) := by decide +kernel
theorem dX1_allLoads_16 : decode cX1_allLoads 16 = .ok (.getfield 37, 3) := by decide +kernel
theorem dX1_allLoads_19 : decode cX1_allLoads 19 = .ok (.invokevirtual 70, 3) := by decide +kernel
theorem dX1_allLoads_22 : decode cX1_allLoads 22 = .ok (.iadd, 1) := by decide +kernel
theorem dX1_allLoads_23 : decode cX1_allLoads 23 = .ok (.istore_n 1, 1) := by decide +kernel
theorem dX1_allLoads_24 : decode cX1_allLoads 24 = .ok (.iinc 2 1, 3) := by decide +kernel
theorem dX1_allLoads_27 : decode cX1_allLoads 27 = .ok (.goto (-23), 3) := by decide +kernel
theorem dX1_allLoads_30 : decode cX1_allLoads 30 = .ok (.iload_n 1, 1) := by decide +kernel
theorem dX1_allLoads_31 : decode cX1_allLoads 31 = .ok (.ireturn, 1) := by decide +kernel
set_option maxRecDepth 20000 in
theorem ggX1_strengthAfter_X1_loadOn : GoodIn wsX1_strengthAfter wsX1_loadOn := goodIn_r _ [6, 7, 8, 9, 5, 10, 11, 12, 13, 14, 15, 16, 17, 18, 19, 20, 21, 22, 23, 24, 25, 26, 27, 28, 29, 30, 31, 32, 33, 34, 45, 46, 47, 48, 49, 50, 51, 52, 53, 54] (by decide +kernel) (by decide +kernel)
set_option maxRecDepth 20000 in
theorem gX1_strengthAfter_X1_loadOn : GoodIn wsX1_strengthAfter (wsV RX1 70 RX1 yX1_loadOn wsX1_loadOn) := goodIn_app (goodIn_of _ (by decide +kernel)) ggX1_strengthAfter_X1_loadOn
set_option maxRecDepth 20000 in
theorem ggX1_strengthAfter_X5_strengthNext : GoodIn wsX1_strengthAfter wsX5_strengthNext := goodIn_r _ [37, 38, 39, 40, 41, 42, 43, 44] (by decide +kernel) (by decide +kernel)
set_option maxRecDepth 20000 in
theorem gX1_strengthAfter_X5_strengthNext_n74 : GoodIn wsX1_strengthAfter (wsX5_strengthNext) := ggX1_strengthAfter_X5_strengthNext
theorem dX1_strengthAfter_0 : decode cX1_strengthAfter 0 = .ok (.iload_n 2, 1) := by decide +kernel
theorem dX1_strengthAfter_1 : decode cX1_strengthAfter 1 = .ok (.aload_n 0, 1) := by decide +kernel
theorem dX1_strengthAfter_2 : decode cX1_strengthAfter 2 = .ok (.getfield 15, 3) := by decide +kernel
theorem dX1_strengthAfter_5 : decode cX1_strengthAfter 5 = .ok (.iload_n 1, 1) := by decide +kernel
theorem dX1_strengthAfter_6 : decode cX1_strengthAfter 6 = .ok (.iaload, 1) := by decide +kernel
theorem dX1_strengthAfter_7 : decode cX1_strengthAfter 7 = .ok (.aload_n 0, 1) := by decide +kernel
theorem dX1_strengthAfter_8 : decode cX1_strengthAfter 8 = .ok (.iload_n 1, 1) := by decide +kernel
theorem dX1_strengthAfter_9 : decode cX1_strengthAfter 9 = .ok (.iload_n 3, 1) := by decide +kernel
theorem dX1_strengthAfter_10 : decode cX1_strengthAfter 10 = .ok (.invokevirtual 70, 3) := by decide +kernel
theorem dX1_strengthAfter_13 : decode cX1_strengthAfter 13 = .ok (.invokestatic 74, 3) := by decide +kernel
theorem dX1_strengthAfter_16 : decode cX1_strengthAfter 16 = .ok (.ireturn, 1) := by decide +kernel
set_option maxRecDepth 20000 in
theorem ggX1_strengthBehind_X1_strengthAfter : GoodIn wsX1_strengthBehind wsX1_strengthAfter := goodIn_r _ [7, 8, 9, 10, 11, 6, 12, 13, 14, 15, 16, 17, 18, 19, 20, 21, 22, 23, 24, 25, 26, 27, 28, 29, 30, 31, 32, 33, 34, 35, 36, 37, 38, 39, 40, 41, 42, 43, 44, 45, 46, 47, 48, 49, 50, 51, 52, 53, 54, 55, 56, 57, 58, 59, 60] (by decide +kernel) (by decide +kernel)
set_option maxRecDepth 20000 in
theorem gX1_strengthBehind_X1_strengthAfter : GoodIn wsX1_strengthBehind (wsV RX1 77 RX1 yX1_strengthAfter wsX1_strengthAfter) := goodIn_app (goodIn_of _ (by decide +kernel)) ggX1_strengthBehind_X1_strengthAfter
theorem dX1_strengthBehind_0 : decode cX1_strengthBehind 0 = .ok (.aload_n 0, 1) := by decide +kernel
theorem dX1_strengthBehind_1 : decode cX1_strengthBehind 1 = .ok (.getfield 19, 3) := by decide +kernel
theorem dX1_strengthBehind_4 : decode cX1_strengthBehind 4 = .ok (.iload_n 1, 1) := by decide +kernel
theorem dX1_strengthBehind_5 : decode cX1_strengthBehind 5 = .ok (.iaload, 1) := by decide +kernel
theorem dX1_strengthBehind_6 : decode cX1_strengthBehind 6 = .ok (.istore_n 3, 1) := by decide +kernel
theorem dX1_strengthBehind_7 : decode cX1_strengthBehind 7 = .ok (.iconst 0, 1) := by decide +kernel
theorem dX1_strengthBehind_8 : decode cX1_strengthBehind 8 = .ok (.istore 4, 2) := by decide +kernel
theorem dX1_strengthBehind_10 : decode cX1_strengthBehind 10 = .ok (.iload 4, 2) := by decide +kernel
theorem dX1_strengthBehind_12 : decode cX1_strengthBehind 12 = .ok (.iload_n 2, 1) := by decide +kernel
theorem dX1_strengthBehind_13 : decode cX1_strengthBehind 13 = .ok (.if_icmp .ge 23, 3) := by decide +kernel
theorem dX1_strengthBehind_16 : decode cX1_strengthBehind 16 = .ok (.aload_n 0, 1) := by decide +kernel
theorem dX1_strengthBehind_17 : decode cX1_strengthBehind 17 = .ok (.iload_n 1, 1) := by decide +kernel
theorem dX1_strengthBehind_18 : decode cX1_strengthBehind 18 = .ok (.iload_n 3, 1) := by decide +kernel
theorem dX1_strengthBehind_19 : decode cX1_strengthBehind 19 = .ok (.aload_n 0, 1) := by decide +kernel
theorem dX1_strengthBehind_20 : decode cX1_strengthBehind 20 = .ok (.getfield 37, 3) := by decide +kernel
theorem dX1_strengthBehind_23 : decode cX1_strengthBehind 23 = .ok (.iload 4, 2) := by decide +kernel
theorem dX1_strengthBehind_25 : decode cX1_strengthBehind 25 = .ok (.iadd, 1) := by decide +kernel
theorem dX1_strengthBehind_26 : decode cX1_strengthBehind 26 = .ok (.invokevirtual 77, 3) := by decide +kernel
theorem dX1_strengthBehind_29 : decode cX1_strengthBehind 29 = .ok (.istore_n 3, 1) := by decide +kernel
theorem dX1_strengthBehind_30 : decode cX1_strengthBehind 30 = .ok (.iinc 4 1, 3) := by decide +kernel
theorem dX1_strengthBehind_33 : decode cX1_strengthBehind 33 = .ok (.goto (-23), 3) := by decide +kernel
theorem dX1_strengthBehind_36 : decode cX1_strengthBehind 36 = .ok (.iload_n 3, 1) := by decide +kernel
theorem dX1_strengthBehind_37 : decode cX1_strengthBehind 37 = .ok (.ireturn, 1) := by decide +kernel
set_option maxRecDepth 20000 in
theorem ggX1_allBent_X1_isBent : GoodIn wsX1_allBent wsX1_isBent := goodIn_r _ [6, 7, 8, 9, 10, 11, 5, 12, 13, 14, 15, 16, 17, 18, 19, 20, 21, 22, 23, 24, 25, 26, 27, 28, 29, 30, 31, 32, 33, 34, 35, 36, 37, 38, 39, 40, 41, 42, 43, 44, 45, 46, 47, 48, 49, 50] (by decide +kernel) (by decide +kernel)
set_option maxRecDepth 20000 in
theorem gX1_allBent_X1_isBent : GoodIn wsX1_allBent (wsV RX1 80 RX1 yX1_isBent wsX1_isBent) := goodIn_app (goodIn_of _ (by decide +kernel)) ggX1_allBent_X1_isBent
theorem dX1_allBent_0 : decode cX1_allBent 0 = .ok (.iconst 0, 1) := by decide +kernel
theorem dX1_allBent_1 : decode cX1_allBent 1 = .ok (.istore_n 1, 1) := by decide +kernel
theorem dX1_allBent_2 : decode cX1_allBent 2 = .ok (.iconst 0, 1) := by decide +kernel
theorem dX1_allBent_3 : decode cX1_allBent 3 = .ok (.istore_n 2, 1) := by decide +kernel
theorem dX1_allBent_4 : decode cX1_allBent 4 = .ok (.iload_n 2, 1) := by decide +kernel
theorem dX1_allBent_5 : decode cX1_allBent 5 = .ok (.aload_n 0, 1) := by decide +kernel
theorem dX1_allBent_6 : decode cX1_allBent 6 = .ok (.getfield 9, 3) := by decide +kernel
theorem dX1_allBent_9 : decode cX1_allBent 9 = .ok (.if_icmp .ge 23, 3) := by decide +kernel
theorem dX1_allBent_12 : decode cX1_allBent 12 = .ok (.aload_n 0, 1) := by decide +kernel
theorem dX1_allBent_13 : decode cX1_allBent 13 = .ok (.iload_n 2, 1) := by decide +kernel
theorem dX1_allBent_14 : decode cX1_allBent 14 = .ok (.invokevirtual 80, 3) := by decide +kernel
theorem dX1_allBent_17 : decode cX1_allBent 17 = .ok (.ifCond .eq 9, 3) := by decide +kernel
theorem dX1_allBent_20 : decode cX1_allBent 20 = .ok (.iload_n 1, 1) := by decide +kernel
theorem dX1_allBent_21 : decode cX1_allBent 21 = .ok (.iconst 1, 1) := by decide +kernel
theorem dX1_allBent_22 : decode cX1_allBent 22 = .ok (.iload_n 2, 1) := by decide +kernel
theorem dX1_allBent_23 : decode cX1_allBent 23 = .ok (.ishl, 1) := by decide +kernel
theorem dX1_allBent_24 : decode cX1_allBent 24 = .ok (.ior, 1) := by decide +kernel
theorem dX1_allBent_25 : decode cX1_allBent 25 = .ok (.istore_n 1, 1) := by decide +kernel
theorem dX1_allBent_26 : decode cX1_allBent 26 = .ok (.iinc 2 1, 3) := by decide +kernel
theorem dX1_allBent_29 : decode cX1_allBent 29 = .ok (.goto (-25), 3) := by decide +kernel
theorem dX1_allBent_32 : decode cX1_allBent 32 = .ok (.iload_n 1, 1) := by decide +kernel
theorem dX1_allBent_33 : decode cX1_allBent 33 = .ok (.ireturn, 1) := by decide +kernel
set_option maxRecDepth 20000 in
theorem ggX1_bentBehind_X1_loadOn : GoodIn wsX1_bentBehind wsX1_loadOn := goodIn_r _ [7, 8, 9, 10, 6, 11, 12, 13, 14, 15, 16, 17, 18, 19, 20, 21, 22, 23, 24, 25, 26, 27, 28, 29, 30, 31, 32, 33, 34, 35, 56, 57, 58, 59, 60, 61, 62, 63, 64, 65] (by decide +kernel) (by decide +kernel)
set_option maxRecDepth 20000 in
theorem gX1_bentBehind_X1_loadOn : GoodIn wsX1_bentBehind (wsV RX1 70 RX1 yX1_loadOn wsX1_loadOn) := goodIn_app (goodIn_of _ (by decide +kernel)) ggX1_bentBehind_X1_loadOn
set_option maxRecDepth 20000 in
theorem ggX1_bentBehind_X1_strengthBehind : GoodIn wsX1_bentBehind wsX1_strengthBehind := goodIn_r _ [39, 40, 2, 41, 42, 43, 6, 44, 45, 3, 4, 5, 7, 8, 9, 10, 11, 12, 13, 14, 15, 16, 17, 18, 19, 20, 21, 22, 23, 24, 25, 26, 27, 28, 29, 30, 31, 32, 33, 34, 35, 46, 47, 48, 49, 50, 51, 52, 53, 54, 55, 56, 57, 58, 59, 60, 61, 62, 63, 64, 65] (by decide +kernel) (by decide +kernel)
set_option maxRecDepth 20000 in
theorem gX1_bentBehind_X1_strengthBehind : GoodIn wsX1_bentBehind (wsV RX1 84 RX1 yX1_strengthBehind wsX1_strengthBehind) := goodIn_app (goodIn_of _ (by decide +kernel)) ggX1_bentBehind_X1_strengthBehind
theorem dX1_bentBehind_0 : decode cX1_bentBehind 0 = .ok (.iconst 0, 1) := by decide +kernel
theorem dX1_bentBehind_1 : decode cX1_bentBehind 1 = .ok (.istore_n 2, 1) := by decide +kernel
theorem dX1_bentBehind_2 : decode cX1_bentBehind 2 = .ok (.iconst 0, 1) := by decide +kernel
theorem dX1_bentBehind_3 : decode cX1_bentBehind 3 = .ok (.istore_n 3, 1) := by decide +kernel
theorem dX1_bentBehind_4 : decode cX1_bentBehind 4 = .ok (.iload_n 3, 1) := by decide +kernel
theorem dX1_bentBehind_5 : decode cX1_bentBehind 5 = .ok (.aload_n 0, 1) := by decide +kernel
theorem dX1_bentBehind_6 : decode cX1_bentBehind 6 = .ok (.getfield 9, 3) := by decide +kernel
theorem dX1_bentBehind_9 : decode cX1_bentBehind 9 = .ok (.if_icmp .ge 35, 3) := by decide +kernel
theorem dX1_bentBehind_12 : decode cX1_bentBehind 12 = .ok (.aload_n 0, 1) := by decide +kernel
theorem dX1_bentBehind_13 : decode cX1_bentBehind 13 = .ok (.iload_n 3, 1) := by decide +kernel
theorem dX1_bentBehind_14 : decode cX1_bentBehind 14 = .ok (.aload_n 0, 1) := by decide +kernel
theorem dX1_bentBehind_15 : decode cX1_bentBehind 15 = .ok (.getfield 37, 3) := by decide +kernel
theorem dX1_bentBehind_18 : decode cX1_bentBehind 18 = .ok (.iload_n 1, 1) := by decide +kernel
theorem dX1_bentBehind_19 : decode cX1_bentBehind 19 = .ok (.iadd, 1) := by decide +kernel
theorem dX1_bentBehind_20 : decode cX1_bentBehind 20 = .ok (.invokevirtual 70, 3) := by decide +kernel
theorem dX1_bentBehind_23 : decode cX1_bentBehind 23 = .ok (.aload_n 0, 1) := by decide +kernel
theorem dX1_bentBehind_24 : decode cX1_bentBehind 24 = .ok (.iload_n 3, 1) := by decide +kernel
theorem dX1_bentBehind_25 : decode cX1_bentBehind 25 = .ok (.iload_n 1, 1) := by decide +kernel
theorem dX1_bentBehind_26 : decode cX1_bentBehind 26 = .ok (.invokevirtual 84, 3) := by decide +kernel
theorem dX1_bentBehind_29 : decode cX1_bentBehind 29 = .ok (.if_icmp .le 9, 3) := by decide +kernel
theorem dX1_bentBehind_32 : decode cX1_bentBehind 32 = .ok (.iload_n 2, 1) := by decide +kernel
theorem dX1_bentBehind_33 : decode cX1_bentBehind 33 = .ok (.iconst 1, 1) := by decide +kernel
theorem dX1_bentBehind_34 : decode cX1_bentBehind 34 = .ok (.iload_n 3, 1) := by decide +kernel
theorem dX1_bentBehind_35 : decode cX1_bentBehind 35 = .ok (.ishl, 1) := by decide +kernel
theorem dX1_bentBehind_36 : decode cX1_bentBehind 36 = .ok (.ior, 1) := by decide +kernel
theorem dX1_bentBehind_37 : decode cX1_bentBehind 37 = .ok (.istore_n 2, 1) := by decide +kernel
theorem dX1_bentBehind_38 : decode cX1_bentBehind 38 = .ok (.iinc 3 1, 3) := by decide +kernel
theorem dX1_bentBehind_41 : decode cX1_bentBehind 41 = .ok (.goto (-37), 3) := by decide +kernel
theorem dX1_bentBehind_44 : decode cX1_bentBehind 44 = .ok (.iload_n 2, 1) := by decide +kernel
theorem dX1_bentBehind_45 : decode cX1_bentBehind 45 = .ok (.ireturn, 1) := by decide +kernel
set_option maxRecDepth 20000 in
theorem ggX1_isBentWithin_X1_loadOn : GoodIn wsX1_isBentWithin wsX1_loadOn := goodIn_r _ [7, 8, 9, 10, 6, 11, 12, 13, 14, 15, 16, 17, 18, 19, 20, 21, 22, 23, 24, 25, 26, 27, 28, 29, 30, 31, 32, 33, 34, 35, 51, 52, 53, 54, 55, 56, 57, 58, 59, 60] (by decide +kernel) (by decide +kernel)
set_option maxRecDepth 20000 in
theorem gX1_isBentWithin_X1_loadOn : GoodIn wsX1_isBentWithin (wsV RX1 70 RX1 yX1_loadOn wsX1_loadOn) := goodIn_app (goodIn_of _ (by decide +kernel)) ggX1_isBentWithin_X1_loadOn
set_option maxRecDepth 20000 in
theorem ggX1_isBentWithin_X1_strengthAfter : GoodIn wsX1_isBentWithin wsX1_strengthAfter := goodIn_r _ [39, 40, 3, 4, 5, 6, 7, 8, 9, 10, 11, 12, 13, 14, 15, 16, 17, 18, 19, 20, 21, 22, 23, 24, 25, 26, 27, 28, 29, 30, 31, 32, 33, 34, 35, 41, 42, 43, 44, 45, 46, 47, 48, 49, 50, 51, 52, 53, 54, 55, 56, 57, 58, 59, 60] (by decide +kernel) (by decide +kernel)
set_option maxRecDepth 20000 in
theorem gX1_isBentWithin_X1_strengthAfter : GoodIn wsX1_isBentWithin (wsV RX1 77 RX1 yX1_strengthAfter wsX1_strengthAfter) := goodIn_app (goodIn_of _ (by decide +kernel)) ggX1_isBentWithin_X1_strengthAfter
theorem dX1_isBentWithin_0 : decode cX1_isBentWithin 0 = .ok (.aload_n 0, 1) := by decide +kernel
theorem dX1_isBentWithin_1 : decode cX1_isBentWithin 1 = .ok (.getfield 19, 3) := by decide +kernel
theorem dX1_isBentWithin_4 : decode cX1_isBentWithin 4 = .ok (.iload_n 1, 1) := by decide +kernel
theorem dX1_isBentWithin_5 : decode cX1_isBentWithin 5 = .ok (.iaload, 1) := by decide +kernel
theorem dX1_isBentWithin_6 : decode cX1_isBentWithin 6 = .ok (.istore_n 3, 1) := by decide +kernel
theorem dX1_isBentWithin_7 : decode cX1_isBentWithin 7 = .ok (.iconst 0, 1) := by decide +kernel
theorem dX1_isBentWithin_8 : decode cX1_isBentWithin 8 = .ok (.istore 4, 2) := by decide +kernel
theorem dX1_isBentWithin_10 : decode cX1_isBentWithin 10 = .ok (.iload 4, 2) := by decide +kernel
theorem dX1_isBentWithin_12 : decode cX1_isBentWithin 12 = .ok (.iload_n 2, 1) := by decide +kernel
theorem dX1_isBentWithin_13 : decode cX1_isBentWithin 13 = .ok (.if_icmp .gt 41, 3) := by decide +kernel
theorem dX1_isBentWithin_16 : decode cX1_isBentWithin 16 = .ok (.aload_n 0, 1) := by decide +kernel
theorem dX1_isBentWithin_17 : decode cX1_isBentWithin 17 = .ok (.iload_n 1, 1) := by decide +kernel
theorem dX1_isBentWithin_18 : decode cX1_isBentWithin 18 = .ok (.aload_n 0, 1) := by decide +kernel
theorem dX1_isBentWithin_19 : decode cX1_isBentWithin 19 = .ok (.getfield 37, 3) := by decide +kernel
theorem dX1_isBentWithin_22 : decode cX1_isBentWithin 22 = .ok (.iload 4, 2) := by decide +kernel
theorem dX1_isBentWithin_24 : decode cX1_isBentWithin 24 = .ok (.iadd, 1) := by decide +kernel
theorem dX1_isBentWithin_25 : decode cX1_isBentWithin 25 = .ok (.invokevirtual 70, 3) := by decide +kernel
theorem dX1_isBentWithin_28 : decode cX1_isBentWithin 28 = .ok (.iload_n 3, 1) := by decide +kernel
theorem dX1_isBentWithin_29 : decode cX1_isBentWithin 29 = .ok (.if_icmp .le 5, 3) := by decide +kernel
theorem dX1_isBentWithin_32 : decode cX1_isBentWithin 32 = .ok (.iconst 1, 1) := by decide +kernel
theorem dX1_isBentWithin_33 : decode cX1_isBentWithin 33 = .ok (.ireturn, 1) := by decide +kernel
theorem dX1_isBentWithin_34 : decode cX1_isBentWithin 34 = .ok (.aload_n 0, 1) := by decide +kernel
theorem dX1_isBentWithin_35 : decode cX1_isBentWithin 35 = .ok (.iload_n 1, 1) := by decide +kernel
theorem dX1_isBentWithin_36 : decode cX1_isBentWithin 36 = .ok (.iload_n 3, 1) := by decide +kernel
theorem dX1_isBentWithin_37 : decode cX1_isBentWithin 37 = .ok (.aload_n 0, 1) := by decide +kernel
theorem dX1_isBentWithin_38 : decode cX1_isBentWithin 38 = .ok (.getfield 37, 3) := by decide +kernel
theorem dX1_isBentWithin_41 : decode cX1_isBentWithin 41 = .ok (.iload 4, 2) := by decide +kernel
theorem dX1_isBentWithin_43 : decode cX1_isBentWithin 43 = .ok (.iadd, 1) := by decide +kernel
theorem dX1_isBentWithin_44 : decode cX1_isBentWithin 44 = .ok (.invokevirtual 77, 3) := by decide +kernel
theorem dX1_isBentWithin_47 : decode cX1_isBentWithin 47 = .ok (.istore_n 3, 1) := by decide +kernel
theorem dX1_isBentWithin_48 : decode cX1_isBentWithin 48 = .ok (.iinc 4 1, 3) := by decide +kernel
theorem dX1_isBentWithin_51 : decode cX1_isBentWithin 51 = .ok (.goto (-41), 3) := by decide +kernel
theorem dX1_isBentWithin_54 : decode cX1_isBentWithin 54 = .ok (.iconst 0, 1) := by decide +kernel
theorem dX1_isBentWithin_55 : decode cX1_isBentWithin 55 = .ok (.ireturn, 1) := by decide +kernel
theorem dX1_wornByTwo_0 : decode cX1_wornByTwo 0 = .ok (.aload_n 0, 1) := by decide +kernel
theorem dX1_wornByTwo_1 : decode cX1_wornByTwo 1 = .ok (.getfield 34, 3) := by decide +kernel
theorem dX1_wornByTwo_4 : decode cX1_wornByTwo 4 = .ok (.iload_n 1, 1) := by decide +kernel
theorem dX1_wornByTwo_5 : decode cX1_wornByTwo 5 = .ok (.iaload, 1) := by decide +kernel
theorem dX1_wornByTwo_6 : decode cX1_wornByTwo 6 = .ok (.bipush (-4), 2) := by decide +kernel
theorem dX1_wornByTwo_8 : decode cX1_wornByTwo 8 = .ok (.if_icmp .eq 33, 3) := by decide +kernel
theorem dX1_wornByTwo_11 : decode cX1_wornByTwo 11 = .ok (.aload_n 0, 1) := by decide +kernel
theorem dX1_wornByTwo_12 : decode cX1_wornByTwo 12 = .ok (.getfield 34, 3) := by decide +kernel
theorem dX1_wornByTwo_15 : decode cX1_wornByTwo 15 = .ok (.iload_n 2, 1) := by decide +kernel
theorem dX1_wornByTwo_16 : decode cX1_wornByTwo 16 = .ok (.iaload, 1) := by decide +kernel
theorem dX1_wornByTwo_17 : decode cX1_wornByTwo 17 = .ok (.bipush (-4), 2) := by decide +kernel
theorem dX1_wornByTwo_19 : decode cX1_wornByTwo 19 = .ok (.if_icmp .eq 22, 3) := by decide +kernel
theorem dX1_wornByTwo_22 : decode cX1_wornByTwo 22 = .ok (.aload_n 0, 1) := by decide +kernel
theorem dX1_wornByTwo_23 : decode cX1_wornByTwo 23 = .ok (.getfield 34, 3) := by decide +kernel
theorem dX1_wornByTwo_26 : decode cX1_wornByTwo 26 = .ok (.iload_n 1, 1) := by decide +kernel
theorem dX1_wornByTwo_27 : decode cX1_wornByTwo 27 = .ok (.iaload, 1) := by decide +kernel
theorem dX1_wornByTwo_28 : decode cX1_wornByTwo 28 = .ok (.aload_n 0, 1) := by decide +kernel
theorem dX1_wornByTwo_29 : decode cX1_wornByTwo 29 = .ok (.getfield 34, 3) := by decide +kernel
theorem dX1_wornByTwo_32 : decode cX1_wornByTwo 32 = .ok (.iload_n 2, 1) := by decide +kernel
theorem dX1_wornByTwo_33 : decode cX1_wornByTwo 33 = .ok (.iaload, 1) := by decide +kernel
theorem dX1_wornByTwo_34 : decode cX1_wornByTwo 34 = .ok (.if_icmp .eq 7, 3) := by decide +kernel
theorem dX1_wornByTwo_37 : decode cX1_wornByTwo 37 = .ok (.iconst 1, 1) := by decide +kernel
theorem dX1_wornByTwo_38 : decode cX1_wornByTwo 38 = .ok (.goto 4, 3) := by decide +kernel
theorem dX1_wornByTwo_41 : decode cX1_wornByTwo 41 = .ok (.iconst 0, 1) := by decide +kernel
theorem dX1_wornByTwo_42 : decode cX1_wornByTwo 42 = .ok (.ireturn, 1) := by decide +kernel
set_option maxRecDepth 20000 in
theorem ggX1_loadsIfChanged_X1_wornBy : GoodIn wsX1_loadsIfChanged wsX1_wornBy := goodIn_r _ [7, 1, 8, 9, 10, 6, 11, 12, 31, 32, 33, 34, 35, 36, 37, 38, 39, 40] (by decide +kernel) (by decide +kernel)
set_option maxRecDepth 20000 in
theorem gX1_loadsIfChanged_X1_wornBy : GoodIn wsX1_loadsIfChanged (wsV RX1 53 RX1 yX1_wornBy wsX1_wornBy) := goodIn_app (goodIn_of _ (by decide +kernel)) ggX1_loadsIfChanged_X1_wornBy
set_option maxRecDepth 20000 in
theorem ggX1_loadsIfChanged_X1_loadOfSet : GoodIn wsX1_loadsIfChanged wsX1_loadOfSet := goodIn_r _ [16, 12, 17, 18, 19, 20, 21, 22, 23, 24, 25, 26, 6, 27, 28, 29, 30, 31, 32, 33, 34, 35, 36, 37, 38, 39, 40] (by decide +kernel) (by decide +kernel)
set_option maxRecDepth 20000 in
theorem gX1_loadsIfChanged_X1_loadOfSet : GoodIn wsX1_loadsIfChanged (wsV RX1 66 RX1 yX1_loadOfSet wsX1_loadOfSet) := goodIn_app (goodIn_of _ (by decide +kernel)) ggX1_loadsIfChanged_X1_loadOfSet
theorem dX1_loadsIfChanged_0 : decode cX1_loadsIfChanged 0 = .ok (.iconst 1, 1) := by decide +kernel
theorem dX1_loadsIfChanged_1 : decode cX1_loadsIfChanged 1 = .ok (.iload_n 1, 1) := by decide +kernel
theorem dX1_loadsIfChanged_2 : decode cX1_loadsIfChanged 2 = .ok (.ishl, 1) := by decide +kernel
theorem dX1_loadsIfChanged_3 : decode cX1_loadsIfChanged 3 = .ok (.iconst 1, 1) := by decide +kernel
theorem dX1_loadsIfChanged_4 : decode cX1_loadsIfChanged 4 = .ok (.iload_n 2, 1) := by decide +kernel
theorem dX1_loadsIfChanged_5 : decode cX1_loadsIfChanged 5 = .ok (.ishl, 1) := by decide +kernel
theorem dX1_loadsIfChanged_6 : decode cX1_loadsIfChanged 6 = .ok (.ior, 1) := by decide +kernel
theorem dX1_loadsIfChanged_7 : decode cX1_loadsIfChanged 7 = .ok (.istore_n 3, 1) := by decide +kernel
theorem dX1_loadsIfChanged_8 : decode cX1_loadsIfChanged 8 = .ok (.aload_n 0, 1) := by decide +kernel
theorem dX1_loadsIfChanged_9 : decode cX1_loadsIfChanged 9 = .ok (.getfield 34, 3) := by decide +kernel
theorem dX1_loadsIfChanged_12 : decode cX1_loadsIfChanged 12 = .ok (.iload_n 1, 1) := by decide +kernel
theorem dX1_loadsIfChanged_13 : decode cX1_loadsIfChanged 13 = .ok (.iaload, 1) := by decide +kernel
theorem dX1_loadsIfChanged_14 : decode cX1_loadsIfChanged 14 = .ok (.istore 4, 2) := by decide +kernel
theorem dX1_loadsIfChanged_16 : decode cX1_loadsIfChanged 16 = .ok (.aload_n 0, 1) := by decide +kernel
theorem dX1_loadsIfChanged_17 : decode cX1_loadsIfChanged 17 = .ok (.getfield 34, 3) := by decide +kernel
theorem dX1_loadsIfChanged_20 : decode cX1_loadsIfChanged 20 = .ok (.iload_n 2, 1) := by decide +kernel
theorem dX1_loadsIfChanged_21 : decode cX1_loadsIfChanged 21 = .ok (.iaload, 1) := by decide +kernel
theorem dX1_loadsIfChanged_22 : decode cX1_loadsIfChanged 22 = .ok (.istore 5, 2) := by decide +kernel
theorem dX1_loadsIfChanged_24 : decode cX1_loadsIfChanged 24 = .ok (.aload_n 0, 1) := by decide +kernel
theorem dX1_loadsIfChanged_25 : decode cX1_loadsIfChanged 25 = .ok (.iload 4, 2) := by decide +kernel
theorem dX1_loadsIfChanged_27 : decode cX1_loadsIfChanged 27 = .ok (.aload_n 0, 1) := by decide +kernel
theorem dX1_loadsIfChanged_28 : decode cX1_loadsIfChanged 28 = .ok (.iload 4, 2) := by decide +kernel
theorem dX1_loadsIfChanged_30 : decode cX1_loadsIfChanged 30 = .ok (.invokevirtual 53, 3) := by decide +kernel
theorem dX1_loadsIfChanged_33 : decode cX1_loadsIfChanged 33 = .ok (.iload_n 3, 1) := by decide +kernel
theorem dX1_loadsIfChanged_34 : decode cX1_loadsIfChanged 34 = .ok (.ixor, 1) := by decide +kernel
theorem dX1_loadsIfChanged_35 : decode cX1_loadsIfChanged 35 = .ok (.aload_n 0, 1) := by decide +kernel
theorem dX1_loadsIfChanged_36 : decode cX1_loadsIfChanged 36 = .ok (.getfield 37, 3) := by decide +kernel
theorem dX1_loadsIfChanged_39 : decode cX1_loadsIfChanged 39 = .ok (.invokevirtual 66, 3) := by decide +kernel
theorem dX1_loadsIfChanged_42 : decode cX1_loadsIfChanged 42 = .ok (.aload_n 0, 1) := by decide +kernel
theorem dX1_loadsIfChanged_43 : decode cX1_loadsIfChanged 43 = .ok (.iload 5, 2) := by decide +kernel
theorem dX1_loadsIfChanged_45 : decode cX1_loadsIfChanged 45 = .ok (.aload_n 0, 1) := by decide +kernel
theorem dX1_loadsIfChanged_46 : decode cX1_loadsIfChanged 46 = .ok (.iload 5, 2) := by decide +kernel
theorem dX1_loadsIfChanged_48 : decode cX1_loadsIfChanged 48 = .ok (.invokevirtual 53, 3) := by decide +kernel
theorem dX1_loadsIfChanged_51 : decode cX1_loadsIfChanged 51 = .ok (.iload_n 3, 1) := by decide +kernel
theorem dX1_loadsIfChanged_52 : decode cX1_loadsIfChanged 52 = .ok (.ixor, 1) := by decide +kernel
theorem dX1_loadsIfChanged_53 : decode cX1_loadsIfChanged 53 = .ok (.aload_n 0, 1) := by decide +kernel
theorem dX1_loadsIfChanged_54 : decode cX1_loadsIfChanged 54 = .ok (.getfield 37, 3) := by decide +kernel
theorem dX1_loadsIfChanged_57 : decode cX1_loadsIfChanged 57 = .ok (.invokevirtual 66, 3) := by decide +kernel
theorem dX1_loadsIfChanged_60 : decode cX1_loadsIfChanged 60 = .ok (.iadd, 1) := by decide +kernel
theorem dX1_loadsIfChanged_61 : decode cX1_loadsIfChanged 61 = .ok (.ireturn, 1) := by decide +kernel
set_option maxRecDepth 20000 in
theorem ggX1_passDay_X1_strengthAfter : GoodIn wsX1_passDay wsX1_strengthAfter := goodIn_r _ [8, 9, 10, 11, 12, 7, 13, 14, 15, 16, 17, 18, 19, 20, 21, 22, 23, 24, 25, 26, 27, 28, 29, 30, 31, 32, 33, 34, 35, 36, 37, 38, 39, 40, 41, 42, 43, 44, 45, 46, 47, 48, 49, 50, 51, 52, 53, 54, 55, 56, 57, 58, 59, 60, 61] (by decide +kernel) (by decide +kernel)
set_option maxRecDepth 20000 in
theorem gX1_passDay_X1_strengthAfter : GoodIn wsX1_passDay (wsV RX1 77 RX1 yX1_strengthAfter wsX1_strengthAfter) := goodIn_app (goodIn_of _ (by decide +kernel)) ggX1_passDay_X1_strengthAfter
theorem dX1_passDay_0 : decode cX1_passDay 0 = .ok (.iconst 0, 1) := by decide +kernel
theorem dX1_passDay_1 : decode cX1_passDay 1 = .ok (.istore_n 1, 1) := by decide +kernel
theorem dX1_passDay_2 : decode cX1_passDay 2 = .ok (.iload_n 1, 1) := by decide +kernel
theorem dX1_passDay_3 : decode cX1_passDay 3 = .ok (.aload_n 0, 1) := by decide +kernel
theorem dX1_passDay_4 : decode cX1_passDay 4 = .ok (.getfield 9, 3) := by decide +kernel
theorem dX1_passDay_7 : decode cX1_passDay 7 = .ok (.if_icmp .ge 30, 3) := by decide +kernel
theorem dX1_passDay_10 : decode cX1_passDay 10 = .ok (.aload_n 0, 1) := by decide +kernel
theorem dX1_passDay_11 : decode cX1_passDay 11 = .ok (.getfield 19, 3) := by decide +kernel
theorem dX1_passDay_14 : decode cX1_passDay 14 = .ok (.iload_n 1, 1) := by decide +kernel
theorem dX1_passDay_15 : decode cX1_passDay 15 = .ok (.aload_n 0, 1) := by decide +kernel
theorem dX1_passDay_16 : decode cX1_passDay 16 = .ok (.iload_n 1, 1) := by decide +kernel
theorem dX1_passDay_17 : decode cX1_passDay 17 = .ok (.aload_n 0, 1) := by decide +kernel
theorem dX1_passDay_18 : decode cX1_passDay 18 = .ok (.getfield 19, 3) := by decide +kernel
theorem dX1_passDay_21 : decode cX1_passDay 21 = .ok (.iload_n 1, 1) := by decide +kernel
theorem dX1_passDay_22 : decode cX1_passDay 22 = .ok (.iaload, 1) := by decide +kernel
theorem dX1_passDay_23 : decode cX1_passDay 23 = .ok (.aload_n 0, 1) := by decide +kernel
theorem dX1_passDay_24 : decode cX1_passDay 24 = .ok (.getfield 37, 3) := by decide +kernel
theorem dX1_passDay_27 : decode cX1_passDay 27 = .ok (.invokevirtual 77, 3) := by decide +kernel
theorem dX1_passDay_30 : decode cX1_passDay 30 = .ok (.iastore, 1) := by decide +kernel
theorem dX1_passDay_31 : decode cX1_passDay 31 = .ok (.iinc 1 1, 3) := by decide +kernel
theorem dX1_passDay_34 : decode cX1_passDay 34 = .ok (.goto (-32), 3) := by decide +kernel
theorem dX1_passDay_37 : decode cX1_passDay 37 = .ok (.aload_n 0, 1) := by decide +kernel
theorem dX1_passDay_38 : decode cX1_passDay 38 = .ok (.dup, 1) := by decide +kernel
theorem dX1_passDay_39 : decode cX1_passDay 39 = .ok (.getfield 37, 3) := by decide +kernel
theorem dX1_passDay_42 : decode cX1_passDay 42 = .ok (.iconst 1, 1) := by decide +kernel
theorem dX1_passDay_43 : decode cX1_passDay 43 = .ok (.iadd, 1) := by decide +kernel
theorem dX1_passDay_44 : decode cX1_passDay 44 = .ok (.putfield 37, 3) := by decide +kernel
theorem dX1_passDay_47 : decode cX1_passDay 47 = .ok (.return_, 1) := by decide +kernel
theorem dX1_drawAndHang_0 : decode cX1_drawAndHang 0 = .ok (.aload_n 0, 1) := by decide +kernel
theorem dX1_drawAndHang_1 : decode cX1_drawAndHang 1 = .ok (.aload_n 0, 1) := by decide +kernel
theorem dX1_drawAndHang_2 : decode cX1_drawAndHang 2 = .ok (.getfield 40, 3) := by decide +kernel
theorem dX1_drawAndHang_5 : decode cX1_drawAndHang 5 = .ok (.i2l, 1) := by decide +kernel
theorem dX1_drawAndHang_6 : decode cX1_drawAndHang 6 = .ok (.ldc2_w 87, 3) := by decide +kernel
theorem dX1_drawAndHang_9 : decode cX1_drawAndHang 9 = .ok (.lmul, 1) := by decide +kernel
theorem dX1_drawAndHang_10 : decode cX1_drawAndHang 10 = .ok (.ldc2_w 89, 3) := by decide +kernel
theorem dX1_drawAndHang_13 : decode cX1_drawAndHang 13 = .ok (.ladd, 1) := by decide +kernel
theorem dX1_drawAndHang_14 : decode cX1_drawAndHang 14 = .ok (.ldc2_w 91, 3) := by decide +kernel
theorem dX1_drawAndHang_17 : decode cX1_drawAndHang 17 = .ok (.land, 1) := by decide +kernel
theorem dX1_drawAndHang_18 : decode cX1_drawAndHang 18 = .ok (.l2i, 1) := by decide +kernel
theorem dX1_drawAndHang_19 : decode cX1_drawAndHang 19 = .ok (.putfield 40, 3) := by decide +kernel
theorem dX1_drawAndHang_22 : decode cX1_drawAndHang 22 = .ok (.aload_n 0, 1) := by decide +kernel
theorem dX1_drawAndHang_23 : decode cX1_drawAndHang 23 = .ok (.getfield 22, 3) := by decide +kernel
theorem dX1_drawAndHang_26 : decode cX1_drawAndHang 26 = .ok (.ifCond .le 40, 3) := by decide +kernel
theorem dX1_drawAndHang_29 : decode cX1_drawAndHang 29 = .ok (.aload_n 0, 1) := by decide +kernel
theorem dX1_drawAndHang_30 : decode cX1_drawAndHang 30 = .ok (.getfield 9, 3) := by decide +kernel
theorem dX1_drawAndHang_33 : decode cX1_drawAndHang 33 = .ok (.ifCond .le 33, 3) := by decide +kernel
theorem dX1_drawAndHang_36 : decode cX1_drawAndHang 36 = .ok (.aload_n 0, 1) := by decide +kernel
theorem dX1_drawAndHang_37 : decode cX1_drawAndHang 37 = .ok (.getfield 34, 3) := by decide +kernel
theorem dX1_drawAndHang_40 : decode cX1_drawAndHang 40 = .ok (.aload_n 0, 1) := by decide +kernel
theorem dX1_drawAndHang_41 : decode cX1_drawAndHang 41 = .ok (.getfield 40, 3) := by decide +kernel
theorem dX1_drawAndHang_44 : decode cX1_drawAndHang 44 = .ok (.ldc 93, 2) := by decide +kernel
theorem dX1_drawAndHang_46 : decode cX1_drawAndHang 46 = .ok (.idiv, 1) := by decide +kernel
theorem dX1_drawAndHang_47 : decode cX1_drawAndHang 47 = .ok (.aload_n 0, 1) := by decide +kernel
theorem dX1_drawAndHang_48 : decode cX1_drawAndHang 48 = .ok (.getfield 22, 3) := by decide +kernel
theorem dX1_drawAndHang_51 : decode cX1_drawAndHang 51 = .ok (.irem, 1) := by decide +kernel
theorem dX1_drawAndHang_52 : decode cX1_drawAndHang 52 = .ok (.aload_n 0, 1) := by decide +kernel
theorem dX1_drawAndHang_53 : decode cX1_drawAndHang 53 = .ok (.getfield 40, 3) := by decide +kernel
theorem dX1_drawAndHang_56 : decode cX1_drawAndHang 56 = .ok (.sipush 128, 3) := by decide +kernel
theorem dX1_drawAndHang_59 : decode cX1_drawAndHang 59 = .ok (.idiv, 1) := by decide +kernel
theorem dX1_drawAndHang_60 : decode cX1_drawAndHang 60 = .ok (.aload_n 0, 1) := by decide +kernel
theorem dX1_drawAndHang_61 : decode cX1_drawAndHang 61 = .ok (.getfield 9, 3) := by decide +kernel
theorem dX1_drawAndHang_64 : decode cX1_drawAndHang 64 = .ok (.irem, 1) := by decide +kernel
theorem dX1_drawAndHang_65 : decode cX1_drawAndHang 65 = .ok (.iastore, 1) := by decide +kernel
theorem dX1_drawAndHang_66 : decode cX1_drawAndHang 66 = .ok (.return_, 1) := by decide +kernel
theorem dX5_strengthNext_0 : decode cX5_strengthNext 0 = .ok (.iload_n 2, 1) := by decide +kernel
theorem dX5_strengthNext_1 : decode cX5_strengthNext 1 = .ok (.iload_n 0, 1) := by decide +kernel
theorem dX5_strengthNext_2 : decode cX5_strengthNext 2 = .ok (.if_icmp .le 13, 3) := by decide +kernel
theorem dX5_strengthNext_5 : decode cX5_strengthNext 5 = .ok (.iconst 0, 1) := by decide +kernel
theorem dX5_strengthNext_6 : decode cX5_strengthNext 6 = .ok (.iload_n 0, 1) := by decide +kernel
theorem dX5_strengthNext_7 : decode cX5_strengthNext 7 = .ok (.iconst 1, 1) := by decide +kernel
theorem dX5_strengthNext_8 : decode cX5_strengthNext 8 = .ok (.isub, 1) := by decide +kernel
theorem dX5_strengthNext_9 : decode cX5_strengthNext 9 = .ok (.invokestatic 204, 3) := by decide +kernel
theorem dX5_strengthNext_12 : decode cX5_strengthNext 12 = .ok (.goto 10, 3) := by decide +kernel
theorem dX5_strengthNext_15 : decode cX5_strengthNext 15 = .ok (.iload_n 1, 1) := by decide +kernel
theorem dX5_strengthNext_16 : decode cX5_strengthNext 16 = .ok (.iload_n 0, 1) := by decide +kernel
theorem dX5_strengthNext_17 : decode cX5_strengthNext 17 = .ok (.iconst 1, 1) := by decide +kernel
theorem dX5_strengthNext_18 : decode cX5_strengthNext 18 = .ok (.iadd, 1) := by decide +kernel
theorem dX5_strengthNext_19 : decode cX5_strengthNext 19 = .ok (.invokestatic 165, 3) := by decide +kernel
theorem dX5_strengthNext_22 : decode cX5_strengthNext 22 = .ok (.ireturn, 1) := by decide +kernel
theorem dJ6_bitCount_0f7a4_0 : decode cJ6_bitCount_0f7a4 0 = .ok (.iload_n 0, 1) := by decide +kernel
theorem dJ6_bitCount_0f7a4_1 : decode cJ6_bitCount_0f7a4 1 = .ok (.iload_n 0, 1) := by decide +kernel
theorem dJ6_bitCount_0f7a4_2 : decode cJ6_bitCount_0f7a4 2 = .ok (.iconst 1, 1) := by decide +kernel
theorem dJ6_bitCount_0f7a4_3 : decode cJ6_bitCount_0f7a4 3 = .ok (.iushr, 1) := by decide +kernel
theorem dJ6_bitCount_0f7a4_4 : decode cJ6_bitCount_0f7a4 4 = .ok (.ldc_w 265, 3) := by decide +kernel
theorem dJ6_bitCount_0f7a4_7 : decode cJ6_bitCount_0f7a4 7 = .ok (.iand, 1) := by decide +kernel
theorem dJ6_bitCount_0f7a4_8 : decode cJ6_bitCount_0f7a4 8 = .ok (.isub, 1) := by decide +kernel
theorem dJ6_bitCount_0f7a4_9 : decode cJ6_bitCount_0f7a4 9 = .ok (.istore_n 0, 1) := by decide +kernel
theorem dJ6_bitCount_0f7a4_10 : decode cJ6_bitCount_0f7a4 10 = .ok (.iload_n 0, 1) := by decide +kernel
theorem dJ6_bitCount_0f7a4_11 : decode cJ6_bitCount_0f7a4 11 = .ok (.ldc_w 266, 3) := by decide +kernel
theorem dJ6_bitCount_0f7a4_14 : decode cJ6_bitCount_0f7a4 14 = .ok (.iand, 1) := by decide +kernel
theorem dJ6_bitCount_0f7a4_15 : decode cJ6_bitCount_0f7a4 15 = .ok (.iload_n 0, 1) := by decide +kernel
theorem dJ6_bitCount_0f7a4_16 : decode cJ6_bitCount_0f7a4 16 = .ok (.iconst 2, 1) := by decide +kernel
theorem dJ6_bitCount_0f7a4_17 : decode cJ6_bitCount_0f7a4 17 = .ok (.iushr, 1) := by decide +kernel
theorem dJ6_bitCount_0f7a4_18 : decode cJ6_bitCount_0f7a4 18 = .ok (.ldc_w 266, 3) := by decide +kernel
theorem dJ6_bitCount_0f7a4_21 : decode cJ6_bitCount_0f7a4 21 = .ok (.iand, 1) := by decide +kernel
theorem dJ6_bitCount_0f7a4_22 : decode cJ6_bitCount_0f7a4 22 = .ok (.iadd, 1) := by decide +kernel
theorem dJ6_bitCount_0f7a4_23 : decode cJ6_bitCount_0f7a4 23 = .ok (.istore_n 0, 1) := by decide +kernel
theorem dJ6_bitCount_0f7a4_24 : decode cJ6_bitCount_0f7a4 24 = .ok (.iload_n 0, 1) := by decide +kernel
theorem dJ6_bitCount_0f7a4_25 : decode cJ6_bitCount_0f7a4 25 = .ok (.iload_n 0, 1) := by decide +kernel
theorem dJ6_bitCount_0f7a4_26 : decode cJ6_bitCount_0f7a4 26 = .ok (.iconst 4, 1) := by decide +kernel
theorem dJ6_bitCount_0f7a4_27 : decode cJ6_bitCount_0f7a4 27 = .ok (.iushr, 1) := by decide +kernel
theorem dJ6_bitCount_0f7a4_28 : decode cJ6_bitCount_0f7a4 28 = .ok (.iadd, 1) := by decide +kernel
theorem dJ6_bitCount_0f7a4_29 : decode cJ6_bitCount_0f7a4 29 = .ok (.ldc_w 267, 3) := by decide +kernel
theorem dJ6_bitCount_0f7a4_32 : decode cJ6_bitCount_0f7a4 32 = .ok (.iand, 1) := by decide +kernel
theorem dJ6_bitCount_0f7a4_33 : decode cJ6_bitCount_0f7a4 33 = .ok (.istore_n 0, 1) := by decide +kernel
theorem dJ6_bitCount_0f7a4_34 : decode cJ6_bitCount_0f7a4 34 = .ok (.iload_n 0, 1) := by decide +kernel
theorem dJ6_bitCount_0f7a4_35 : decode cJ6_bitCount_0f7a4 35 = .ok (.iload_n 0, 1) := by decide +kernel
theorem dJ6_bitCount_0f7a4_36 : decode cJ6_bitCount_0f7a4 36 = .ok (.bipush 8, 2) := by decide +kernel
theorem dJ6_bitCount_0f7a4_38 : decode cJ6_bitCount_0f7a4 38 = .ok (.iushr, 1) := by decide +kernel
theorem dJ6_bitCount_0f7a4_39 : decode cJ6_bitCount_0f7a4 39 = .ok (.iadd, 1) := by decide +kernel
theorem dJ6_bitCount_0f7a4_40 : decode cJ6_bitCount_0f7a4 40 = .ok (.istore_n 0, 1) := by decide +kernel
theorem dJ6_bitCount_0f7a4_41 : decode cJ6_bitCount_0f7a4 41 = .ok (.iload_n 0, 1) := by decide +kernel
theorem dJ6_bitCount_0f7a4_42 : decode cJ6_bitCount_0f7a4 42 = .ok (.iload_n 0, 1) := by decide +kernel
theorem dJ6_bitCount_0f7a4_43 : decode cJ6_bitCount_0f7a4 43 = .ok (.bipush 16, 2) := by decide +kernel
theorem dJ6_bitCount_0f7a4_45 : decode cJ6_bitCount_0f7a4 45 = .ok (.iushr, 1) := by decide +kernel
theorem dJ6_bitCount_0f7a4_46 : decode cJ6_bitCount_0f7a4 46 = .ok (.iadd, 1) := by decide +kernel
theorem dJ6_bitCount_0f7a4_47 : decode cJ6_bitCount_0f7a4 47 = .ok (.istore_n 0, 1) := by decide +kernel
theorem dJ6_bitCount_0f7a4_48 : decode cJ6_bitCount_0f7a4 48 = .ok (.iload_n 0, 1) := by decide +kernel
theorem dJ6_bitCount_0f7a4_49 : decode cJ6_bitCount_0f7a4 49 = .ok (.bipush 63, 2) := by decide +kernel
theorem dJ6_bitCount_0f7a4_51 : decode cJ6_bitCount_0f7a4 51 = .ok (.iand, 1) := by decide +kernel
theorem dJ6_bitCount_0f7a4_52 : decode cJ6_bitCount_0f7a4 52 = .ok (.ireturn, 1) := by decide +kernel
def bX1_medalsWith_wr_5 (md_n : Int32) (wr_n : Nat → Int32) (p2 : Int32) (K1 : ((Int32 × Int32)) → Option Int32) : ((Int32 × Int32)) → Option Int32
  | (v3_1, v4_1) => if md_n ≤ v4_1 then (some v3_1) else (gin v4_1 6 (if (wr_n (Int32.toNatClampNeg v4_1)) = p2 then (nm (v3_1 ||| (1 <<< (v4_1 &&& 31))) (fun x6 => nm (v4_1 + 1) (fun x7 => K1 (x6, x7)))) else (nm (v4_1 + 1) (fun x5 => K1 (v3_1, x5)))))
def fX1_medalsWith_wr (p2 : Int32) (md_n : Int32) (wr_n : Nat → Int32) : Option Int32 := lp (bX1_medalsWith_wr_5 md_n wr_n p2) FU (0, 0)
theorem in_X1_medalsWith_X1 : ∀ w ∈ wsX10, w ∈ wsX1_medalsWith := by decide +kernel
set_option maxHeartbeats 4000000 in
set_option maxRecDepth 100000 in
theorem ct_X1_medalsWith_wr {l : Launch} {D : va_G} {g : Nat → ClassId} {qa : Nat → Nat} {E0 : Nat → va_E} {b : Nat} {p2 : Int32} {men_n : Int32} {md_n : Int32} {day_n : Int32} {drw_n : Int32} {bu_n : Nat → Int32} {st_n : Nat → Int32} {ki_n : Nat → Int32} {we_n : Nat → Int32} {wo_n : Nat → Int32} {wr_n : Nat → Int32} (hb_n : b + 7 ≤ 74) (hG_n : Mu g qa E0 b men_n md_n day_n drw_n bu_n st_n ki_n we_n wo_n wr_n) {R : Int32} (hf : fX1_medalsWith_wr p2 md_n wr_n = some R) : MI l yX1_medalsWith wsX1_medalsWith 0 D g qa E0 [.ref (qa b), .ref (qa (b + 6)), .int p2] R (fun E => E = E0) := by
  refine MI.mk (by decide) rfl (Nat.le_of_ble_eq_true rfl) ?_
  intro p e s m args below meth c ls Q X hret hP hS hl
  have hl : lv_has ls 5 [(0, .ref (qa b)), (1, .ref (qa (b + 6))), (2, .int p2)] := hl
  rw [fX1_medalsWith_wr] at hf
  refine lv_iconst (v := 0) X.1 X.2.1 dX1_medalsWith_0 (by decide) ?_
  refine lv_istore_n (lv' := [(3, .int 0), (0, .ref (qa b)), (1, .ref (qa (b + 6))), (2, .int p2)]) X.1 X.2.1 dX1_medalsWith_1 rfl hl (by decide) rfl (fun ls hl => ?_)
  refine lv_iconst (v := 0) X.1 X.2.1 dX1_medalsWith_2 (by decide) ?_
  refine lv_istore (lv' := [(4, .int 0), (3, .int 0), (0, .ref (qa b)), (1, .ref (qa (b + 6))), (2, .int p2)]) X.1 X.2.1 dX1_medalsWith_3 hl (by decide) rfl (fun ls hl => ?_)
  have lp1 : ∀ (n1 : Nat) (v3_1 : Int32) (v4_1 : Int32) (H : Heap) (locs : List Loc) (ls : Array Slot), lp (bX1_medalsWith_wr_5 md_n wr_n p2) n1 (v3_1, v4_1) = some R → va_P D vwCl (WD qa E0) H → va_S (gA qa s.heap.size) s.heap H locs → lv_has ls 5 [(0, .ref (qa b)), (1, .ref (qa (b + 6))), (2, .int p2), (3, .int v3_1), (4, .int v4_1)] → W p l e (rmf 0) s m args below meth c H locs 0 0 Q (F0 m 5 ls []) := by
    intro n1
    induction n1 with
    | zero =>
      intro v3_1 v4_1 H locs ls hf
      exact absurd hf (by intro h; cases h)
    | succ n1 ih1 =>
      intro v3_1 v4_1 H locs ls hf hP hS hl
      have hf : bX1_medalsWith_wr_5 md_n wr_n p2 (lp (bX1_medalsWith_wr_5 md_n wr_n p2) n1) (v3_1, v4_1) = some R := hf
      rw [bX1_medalsWith_wr_5] at hf
      refine lv_iload X.1 X.2.1 dX1_medalsWith_5 (lv_at hl 4 rfl) ?_
      refine lv_aload_n X.1 X.2.1 dX1_medalsWith_7 rfl (lv_at hl 0 rfl) ?_
      refine x_get X hP hG_n.1 (by omega) rfl in_X1_medalsWith_X1 3 (by decide) (by decide +kernel) rfl rfl dX1_medalsWith_8 ?_
      refine lv_icmp_ge (tgt := 35) X.1 X.2.1 dX1_medalsWith_11 (by decide) (fun c2 => ?_) (fun c2 => ?_)
      · have hf := ifp hf c2
        refine lv_iload_n X.1 X.2.1 dX1_medalsWith_35 rfl (lv_at hl 3 rfl) ?_
        obtain rfl := Option.some.inj hf
        exact hret _ _ _ _ _ _ dX1_medalsWith_36 rfl rfl (rfl) hP hS
      · have hf := ifn hf c2
        refine lv_aload_n X.1 X.2.1 dX1_medalsWith_14 rfl (lv_at hl 1 rfl) ?_
        refine lv_iload X.1 X.2.1 dX1_medalsWith_15 (lv_at hl 4 rfl) ?_
        obtain ⟨hi3, hf⟩ := gin_of hf
        refine x_iald X hP hG_n.2.2.2.2.2.2 (by omega) hi3 dX1_medalsWith_17 ?_
        refine lv_iload_n X.1 X.2.1 dX1_medalsWith_18 rfl (lv_at hl 2 rfl) ?_
        refine lv_icmp_ne (tgt := 29) X.1 X.2.1 dX1_medalsWith_19 (by decide) (fun c4 => ?_) (fun c4 => ?_)
        · have hf := ifn hf c4
          obtain ⟨x5, ex5, hf⟩ := nm_of hf
          refine lv_iinc (v := x5) (lv' := [(4, .int x5), (0, .ref (qa b)), (1, .ref (qa (b + 6))), (2, .int p2), (3, .int v3_1)]) X.1 X.2.1 dX1_medalsWith_29 hl (k := 4) rfl (by rw [ex5]; rfl) (by decide) rfl (fun ls hl => ?_)
          refine lv_goto (tgt := 5) X.1 X.2.1 dX1_medalsWith_32 (by decide) ?_
          exact ih1 v3_1 x5 _ _ _ hf hP hS (lv_sub hl [1, 2, 3, 4, 0] rfl)
        · have hf := ifp hf c4
          refine lv_iload_n X.1 X.2.1 dX1_medalsWith_22 rfl (lv_at hl 3 rfl) ?_
          refine lv_iconst (v := 1) X.1 X.2.1 dX1_medalsWith_23 (by decide) ?_
          refine lv_iload X.1 X.2.1 dX1_medalsWith_24 (lv_at hl 4 rfl) ?_
          refine lv_ishl X.1 X.2.1 dX1_medalsWith_26 ?_
          refine lv_ior X.1 X.2.1 dX1_medalsWith_27 ?_
          obtain ⟨x6, ex6, hf⟩ := nm_of hf
          refine lv_top_as ex6 ?_
          refine lv_istore_n (lv' := [(3, .int x6), (0, .ref (qa b)), (1, .ref (qa (b + 6))), (2, .int p2), (4, .int v4_1)]) X.1 X.2.1 dX1_medalsWith_28 rfl hl (by decide) rfl (fun ls hl => ?_)
          obtain ⟨x7, ex7, hf⟩ := nm_of hf
          refine lv_iinc (v := x7) (lv' := [(4, .int x7), (3, .int x6), (0, .ref (qa b)), (1, .ref (qa (b + 6))), (2, .int p2)]) X.1 X.2.1 dX1_medalsWith_29 hl (k := 4) rfl (by rw [ex7]; rfl) (by decide) rfl (fun ls hl => ?_)
          refine lv_goto (tgt := 5) X.1 X.2.1 dX1_medalsWith_32 (by decide) ?_
          exact ih1 x6 x7 _ _ _ hf hP hS (lv_sub hl [2, 3, 4, 1, 0] rfl)
  exact lp1 FU 0 0 _ _ _ hf hP hS (lv_sub hl [2, 3, 4, 1, 0] rfl)
def fX1_wornBy (p1 : Int32) (md_n : Int32) (wr_n : Nat → Int32) : Option Int32 := (fX1_medalsWith_wr p1 md_n wr_n).bind (fun r1 => some r1)
theorem in_X1_wornBy_X1 : ∀ w ∈ wsX10, w ∈ wsX1_wornBy := by decide +kernel
set_option maxHeartbeats 4000000 in
set_option maxRecDepth 100000 in
theorem ct_X1_wornBy {l : Launch} {D : va_G} {g : Nat → ClassId} {qa : Nat → Nat} {E0 : Nat → va_E} {b : Nat} {p1 : Int32} {men_n : Int32} {md_n : Int32} {day_n : Int32} {drw_n : Int32} {bu_n : Nat → Int32} {st_n : Nat → Int32} {ki_n : Nat → Int32} {we_n : Nat → Int32} {wo_n : Nat → Int32} {wr_n : Nat → Int32} (hb_n : b + 7 ≤ 74) (hG_n : Mu g qa E0 b men_n md_n day_n drw_n bu_n st_n ki_n we_n wo_n wr_n) {R : Int32} (hf : fX1_wornBy p1 md_n wr_n = some R) : MI l yX1_wornBy wsX1_wornBy 1 D g qa E0 [.ref (qa b), .int p1] R (fun E => E = E0) := by
  refine MI.mk (by decide) rfl (Nat.le_of_ble_eq_true rfl) ?_
  intro p e s m args below meth c ls Q X hret hP hS hl
  have hl : lv_has ls 2 [(0, .ref (qa b)), (1, .int p1)] := hl
  rw [fX1_wornBy] at hf
  refine lv_aload_n X.1 X.2.1 dX1_wornBy_0 rfl (lv_at hl 0 rfl) ?_
  refine lv_aload_n X.1 X.2.1 dX1_wornBy_1 rfl (lv_at hl 0 rfl) ?_
  refine x_get X hP hG_n.1 (by omega) rfl in_X1_wornBy_X1 7 (by decide) (by decide +kernel) rfl rfl dX1_wornBy_2 ?_
  refine lv_iload_n X.1 X.2.1 dX1_wornBy_5 rfl (lv_at hl 1 rfl) ?_
  obtain ⟨r1, hr1, hf⟩ := bd_of hf
  refine x_rdVi X hP hS hG_n.1 (by omega) rfl (n := 2) (As := [.ref (qa (b + 6)), .int p1]) (ct_X1_medalsWith_wr (by omega) hG_n hr1) gX1_wornBy_X1_medalsWith rfl (by decide +kernel) ⟨by decide, by decide⟩ rfl hl.1 rfl (Nat.le_of_ble_eq_true rfl) dX1_wornBy_6 (fun H locs hP hS => ?_)
  obtain rfl := Option.some.inj hf
  exact hret _ _ _ _ _ _ dX1_wornBy_9 rfl rfl (rfl) hP hS
def fX1_allWorn  (md_n : Int32) (wr_n : Nat → Int32) : Option Int32 := (fX1_wornBy (-4) md_n wr_n).bind (fun r1 => some (((1 <<< (md_n &&& 31)) - 1) &&& (r1 ^^^ (-1))))
theorem in_X1_allWorn_X1 : ∀ w ∈ wsX10, w ∈ wsX1_allWorn := by decide +kernel
set_option maxHeartbeats 4000000 in
set_option maxRecDepth 100000 in
theorem ct_X1_allWorn {l : Launch} {D : va_G} {g : Nat → ClassId} {qa : Nat → Nat} {E0 : Nat → va_E} {b : Nat} {men_n : Int32} {md_n : Int32} {day_n : Int32} {drw_n : Int32} {bu_n : Nat → Int32} {st_n : Nat → Int32} {ki_n : Nat → Int32} {we_n : Nat → Int32} {wo_n : Nat → Int32} {wr_n : Nat → Int32} (hb_n : b + 7 ≤ 74) (hG_n : Mu g qa E0 b men_n md_n day_n drw_n bu_n st_n ki_n we_n wo_n wr_n) {R : Int32} (hf : fX1_allWorn md_n wr_n = some R) : MI l yX1_allWorn wsX1_allWorn 2 D g qa E0 [.ref (qa b)] R (fun E => E = E0) := by
  refine MI.mk (by decide) rfl (Nat.le_of_ble_eq_true rfl) ?_
  intro p e s m args below meth c ls Q X hret hP hS hl
  have hl : lv_has ls 1 [(0, .ref (qa b))] := hl
  rw [fX1_allWorn] at hf
  refine lv_iconst (v := 1) X.1 X.2.1 dX1_allWorn_0 (by decide) ?_
  refine lv_aload_n X.1 X.2.1 dX1_allWorn_1 rfl (lv_at hl 0 rfl) ?_
  refine x_get X hP hG_n.1 (by omega) rfl in_X1_allWorn_X1 3 (by decide) (by decide +kernel) rfl rfl dX1_allWorn_2 ?_
  refine lv_ishl X.1 X.2.1 dX1_allWorn_5 ?_
  refine lv_iconst (v := 1) X.1 X.2.1 dX1_allWorn_6 (by decide) ?_
  refine lv_isub X.1 X.2.1 dX1_allWorn_7 ?_
  refine lv_aload_n X.1 X.2.1 dX1_allWorn_8 rfl (lv_at hl 0 rfl) ?_
  refine lv_bipush (v := (-4)) X.1 X.2.1 dX1_allWorn_9 (by decide) ?_
  obtain ⟨r1, hr1, hf⟩ := bd_of hf
  refine x_rdVi X hP hS hG_n.1 (by omega) rfl (n := 1) (As := [.int (-4)]) (ct_X1_wornBy (by omega) hG_n hr1) gX1_allWorn_X1_wornBy rfl (by decide +kernel) ⟨by decide, by decide⟩ rfl hl.1 rfl (Nat.le_of_ble_eq_true rfl) dX1_allWorn_11 (fun H locs hP hS => ?_)
  refine lv_iconst (v := (-1)) X.1 X.2.1 dX1_allWorn_14 (by decide) ?_
  refine lv_ixor X.1 X.2.1 dX1_allWorn_15 ?_
  refine lv_iand X.1 X.2.1 dX1_allWorn_16 ?_
  obtain rfl := Option.some.inj hf
  exact hret _ _ _ _ _ _ dX1_allWorn_17 rfl rfl (rfl) hP hS
def fJ6_bitCount_0f7a4 (p1 : Int32)  : Option Int32 := nm (p1 - (((Int32.toUInt32 p1 >>> (Int32.toUInt32 1 &&& Int32.toUInt32 31)).toInt32) &&& 1431655765)) (fun x1 => nm ((x1 &&& 858993459) + (((Int32.toUInt32 x1 >>> (Int32.toUInt32 2 &&& Int32.toUInt32 31)).toInt32) &&& 858993459)) (fun x2 => nm ((x2 + ((Int32.toUInt32 x2 >>> (Int32.toUInt32 4 &&& Int32.toUInt32 31)).toInt32)) &&& 252645135) (fun x3 => nm (x3 + ((Int32.toUInt32 x3 >>> (Int32.toUInt32 8 &&& Int32.toUInt32 31)).toInt32)) (fun x4 => nm (x4 + ((Int32.toUInt32 x4 >>> (Int32.toUInt32 16 &&& Int32.toUInt32 31)).toInt32)) (fun x5 => some (x5 &&& 63))))))
set_option maxHeartbeats 4000000 in
set_option maxRecDepth 100000 in
theorem ct_J6_bitCount_0f7a4 {l : Launch} {D : va_G} {g : Nat → ClassId} {qa : Nat → Nat} {E0 : Nat → va_E} {p1 : Int32} {R : Int32} (hf : fJ6_bitCount_0f7a4 p1 = some R) : MI l yJ6_bitCount_0f7a4 wsJ6_bitCount_0f7a4 0 D g qa E0 [.int p1] R (fun E => E = E0) := by
  refine MI.mk (by decide) rfl (Nat.le_of_ble_eq_true rfl) ?_
  intro p e s m args below meth c ls Q X hret hP hS hl
  have hl : lv_has ls 1 [(0, .int p1)] := hl
  rw [fJ6_bitCount_0f7a4] at hf
  refine lv_iload_n X.1 X.2.1 dJ6_bitCount_0f7a4_0 rfl (lv_at hl 0 rfl) ?_
  refine lv_iload_n X.1 X.2.1 dJ6_bitCount_0f7a4_1 rfl (lv_at hl 0 rfl) ?_
  refine lv_iconst (v := 1) X.1 X.2.1 dJ6_bitCount_0f7a4_2 (by decide) ?_
  refine lv_iushr X.1 X.2.1 dJ6_bitCount_0f7a4_3 rfl ?_
  refine lv_ldcw (v := 1431655765) X.1 X.2.1 X.2.2.2.1 (X.2.2.2.2.1 (.constant RJ6 265 (1431655765)) (by decide +kernel)) dJ6_bitCount_0f7a4_4 ?_
  refine lv_iand X.1 X.2.1 dJ6_bitCount_0f7a4_7 ?_
  refine lv_isub X.1 X.2.1 dJ6_bitCount_0f7a4_8 ?_
  obtain ⟨x1, ex1, hf⟩ := nm_of hf
  refine lv_top_as ex1 ?_
  refine lv_istore_n (lv' := [(0, .int x1)]) X.1 X.2.1 dJ6_bitCount_0f7a4_9 rfl hl (by decide) rfl (fun ls hl => ?_)
  refine lv_iload_n X.1 X.2.1 dJ6_bitCount_0f7a4_10 rfl (lv_at hl 0 rfl) ?_
  refine lv_ldcw (v := 858993459) X.1 X.2.1 X.2.2.2.1 (X.2.2.2.2.1 (.constant RJ6 266 (858993459)) (by decide +kernel)) dJ6_bitCount_0f7a4_11 ?_
  refine lv_iand X.1 X.2.1 dJ6_bitCount_0f7a4_14 ?_
  refine lv_iload_n X.1 X.2.1 dJ6_bitCount_0f7a4_15 rfl (lv_at hl 0 rfl) ?_
  refine lv_iconst (v := 2) X.1 X.2.1 dJ6_bitCount_0f7a4_16 (by decide) ?_
  refine lv_iushr X.1 X.2.1 dJ6_bitCount_0f7a4_17 rfl ?_
  refine lv_ldcw (v := 858993459) X.1 X.2.1 X.2.2.2.1 (X.2.2.2.2.1 (.constant RJ6 266 (858993459)) (by decide +kernel)) dJ6_bitCount_0f7a4_18 ?_
  refine lv_iand X.1 X.2.1 dJ6_bitCount_0f7a4_21 ?_
  refine lv_iadd X.1 X.2.1 dJ6_bitCount_0f7a4_22 ?_
  obtain ⟨x2, ex2, hf⟩ := nm_of hf
  refine lv_top_as ex2 ?_
  refine lv_istore_n (lv' := [(0, .int x2)]) X.1 X.2.1 dJ6_bitCount_0f7a4_23 rfl hl (by decide) rfl (fun ls hl => ?_)
  refine lv_iload_n X.1 X.2.1 dJ6_bitCount_0f7a4_24 rfl (lv_at hl 0 rfl) ?_
  refine lv_iload_n X.1 X.2.1 dJ6_bitCount_0f7a4_25 rfl (lv_at hl 0 rfl) ?_
  refine lv_iconst (v := 4) X.1 X.2.1 dJ6_bitCount_0f7a4_26 (by decide) ?_
  refine lv_iushr X.1 X.2.1 dJ6_bitCount_0f7a4_27 rfl ?_
  refine lv_iadd X.1 X.2.1 dJ6_bitCount_0f7a4_28 ?_
  refine lv_ldcw (v := 252645135) X.1 X.2.1 X.2.2.2.1 (X.2.2.2.2.1 (.constant RJ6 267 (252645135)) (by decide +kernel)) dJ6_bitCount_0f7a4_29 ?_
  refine lv_iand X.1 X.2.1 dJ6_bitCount_0f7a4_32 ?_
  obtain ⟨x3, ex3, hf⟩ := nm_of hf
  refine lv_top_as ex3 ?_
  refine lv_istore_n (lv' := [(0, .int x3)]) X.1 X.2.1 dJ6_bitCount_0f7a4_33 rfl hl (by decide) rfl (fun ls hl => ?_)
  refine lv_iload_n X.1 X.2.1 dJ6_bitCount_0f7a4_34 rfl (lv_at hl 0 rfl) ?_
  refine lv_iload_n X.1 X.2.1 dJ6_bitCount_0f7a4_35 rfl (lv_at hl 0 rfl) ?_
  refine lv_bipush (v := 8) X.1 X.2.1 dJ6_bitCount_0f7a4_36 (by decide) ?_
  refine lv_iushr X.1 X.2.1 dJ6_bitCount_0f7a4_38 rfl ?_
  refine lv_iadd X.1 X.2.1 dJ6_bitCount_0f7a4_39 ?_
  obtain ⟨x4, ex4, hf⟩ := nm_of hf
  refine lv_top_as ex4 ?_
  refine lv_istore_n (lv' := [(0, .int x4)]) X.1 X.2.1 dJ6_bitCount_0f7a4_40 rfl hl (by decide) rfl (fun ls hl => ?_)
  refine lv_iload_n X.1 X.2.1 dJ6_bitCount_0f7a4_41 rfl (lv_at hl 0 rfl) ?_
  refine lv_iload_n X.1 X.2.1 dJ6_bitCount_0f7a4_42 rfl (lv_at hl 0 rfl) ?_
  refine lv_bipush (v := 16) X.1 X.2.1 dJ6_bitCount_0f7a4_43 (by decide) ?_
  refine lv_iushr X.1 X.2.1 dJ6_bitCount_0f7a4_45 rfl ?_
  refine lv_iadd X.1 X.2.1 dJ6_bitCount_0f7a4_46 ?_
  obtain ⟨x5, ex5, hf⟩ := nm_of hf
  refine lv_top_as ex5 ?_
  refine lv_istore_n (lv' := [(0, .int x5)]) X.1 X.2.1 dJ6_bitCount_0f7a4_47 rfl hl (by decide) rfl (fun ls hl => ?_)
  refine lv_iload_n X.1 X.2.1 dJ6_bitCount_0f7a4_48 rfl (lv_at hl 0 rfl) ?_
  refine lv_bipush (v := 63) X.1 X.2.1 dJ6_bitCount_0f7a4_49 (by decide) ?_
  refine lv_iand X.1 X.2.1 dJ6_bitCount_0f7a4_51 ?_
  obtain rfl := Option.some.inj hf
  exact hret _ _ _ _ _ _ dJ6_bitCount_0f7a4_52 rfl rfl (rfl) hP hS
def fX1_bears (p1 : Int32) (p2 : Int32) (p3 : Int32) (p4 : Int32) (ki_n : Nat → Int32) (we_n : Nat → Int32) (wo_n : Nat → Int32) : Option Int32 := gin p1 6 (nm (we_n (Int32.toNatClampNeg p1)) (fun x2 => nm (2 * x2) (fun x3 => if (p4 - p4 / 2 * 2) = 0 then (gin p1 6 (if (ki_n (Int32.toNatClampNeg p1)) = 1 then (gin p1 6 (if (wo_n (Int32.toNatClampNeg p1)) = p2 then (some (x3 / 2)) else (some x3))) else (if (ki_n (Int32.toNatClampNeg p1)) = 2 then (gin p1 6 (if (wo_n (Int32.toNatClampNeg p1)) = p2 then (some (x2 / 2)) else (some x2))) else (if (ki_n (Int32.toNatClampNeg p1)) = 3 then (nm (x3 + p3) (fun x31 => gin p1 6 (if (wo_n (Int32.toNatClampNeg p1)) = p2 then (some (x31 / 2)) else (some x31)))) else (if (ki_n (Int32.toNatClampNeg p1)) = 4 then (nm (x2 / 2) (fun x35 => gin p1 6 (if (wo_n (Int32.toNatClampNeg p1)) = p2 then (some (x35 / 2)) else (some x35)))) else (gin p1 6 (if (wo_n (Int32.toNatClampNeg p1)) = p2 then (some (x2 / 2)) else (some x2)))))))) else (nm (x2 + 3) (fun x5 => gin p1 6 (if (ki_n (Int32.toNatClampNeg p1)) = 1 then (gin p1 6 (if (wo_n (Int32.toNatClampNeg p1)) = p2 then (some (x3 / 2)) else (some x3))) else (if (ki_n (Int32.toNatClampNeg p1)) = 2 then (gin p1 6 (if (wo_n (Int32.toNatClampNeg p1)) = p2 then (some (x5 / 2)) else (some x5))) else (if (ki_n (Int32.toNatClampNeg p1)) = 3 then (nm (x3 + p3) (fun x14 => gin p1 6 (if (wo_n (Int32.toNatClampNeg p1)) = p2 then (some (x14 / 2)) else (some x14)))) else (if (ki_n (Int32.toNatClampNeg p1)) = 4 then (nm (x5 / 2) (fun x18 => gin p1 6 (if (wo_n (Int32.toNatClampNeg p1)) = p2 then (some (x18 / 2)) else (some x18)))) else (gin p1 6 (if (wo_n (Int32.toNatClampNeg p1)) = p2 then (some (x2 / 2)) else (some x2))))))))))))
theorem in_X1_bears_X1 : ∀ w ∈ wsX10, w ∈ wsX1_bears := by decide +kernel
set_option maxHeartbeats 4000000 in
set_option maxRecDepth 100000 in
theorem ct_X1_bears {l : Launch} {D : va_G} {g : Nat → ClassId} {qa : Nat → Nat} {E0 : Nat → va_E} {b : Nat} {p1 : Int32} {p2 : Int32} {p3 : Int32} {p4 : Int32} {men_n : Int32} {md_n : Int32} {day_n : Int32} {drw_n : Int32} {bu_n : Nat → Int32} {st_n : Nat → Int32} {ki_n : Nat → Int32} {we_n : Nat → Int32} {wo_n : Nat → Int32} {wr_n : Nat → Int32} (hb_n : b + 7 ≤ 74) (hG_n : Mu g qa E0 b men_n md_n day_n drw_n bu_n st_n ki_n we_n wo_n wr_n) {R : Int32} (hf : fX1_bears p1 p2 p3 p4 ki_n we_n wo_n = some R) : MI l yX1_bears wsX1_bears 0 D g qa E0 [.ref (qa b), .int p1, .int p2, .int p3, .int p4] R (fun E => E = E0) := by
  refine MI.mk (by decide) rfl (Nat.le_of_ble_eq_true rfl) ?_
  intro p e s m args below meth c ls Q X hret hP hS hl
  have hl : lv_has ls 9 [(0, .ref (qa b)), (1, .int p1), (2, .int p2), (3, .int p3), (4, .int p4)] := hl
  rw [fX1_bears] at hf
  refine lv_aload_n X.1 X.2.1 dX1_bears_0 rfl (lv_at hl 0 rfl) ?_
  refine x_get X hP hG_n.1 (by omega) rfl in_X1_bears_X1 5 (by decide) (by decide +kernel) rfl rfl dX1_bears_1 ?_
  refine lv_iload_n X.1 X.2.1 dX1_bears_4 rfl (lv_at hl 1 rfl) ?_
  obtain ⟨hi1, hf⟩ := gin_of hf
  refine x_iald X hP hG_n.2.2.2.2.1 (by omega) hi1 dX1_bears_5 ?_
  obtain ⟨x2, ex2, hf⟩ := nm_of hf
  refine lv_top_as ex2 ?_
  refine lv_istore (lv' := [(5, .int x2), (0, .ref (qa b)), (1, .int p1), (2, .int p2), (3, .int p3), (4, .int p4)]) X.1 X.2.1 dX1_bears_6 hl (by decide) rfl (fun ls hl => ?_)
  refine lv_iconst (v := 2) X.1 X.2.1 dX1_bears_8 (by decide) ?_
  refine lv_iload X.1 X.2.1 dX1_bears_9 (lv_at hl 0 rfl) ?_
  refine lv_imul X.1 X.2.1 dX1_bears_11 ?_
  obtain ⟨x3, ex3, hf⟩ := nm_of hf
  refine lv_top_as ex3 ?_
  refine lv_istore (lv' := [(6, .int x3), (5, .int x2), (0, .ref (qa b)), (1, .int p1), (2, .int p2), (3, .int p3), (4, .int p4)]) X.1 X.2.1 dX1_bears_12 hl (by decide) rfl (fun ls hl => ?_)
  refine lv_iload X.1 X.2.1 dX1_bears_14 (lv_at hl 6 rfl) ?_
  refine lv_iconst (v := 2) X.1 X.2.1 dX1_bears_16 (by decide) ?_
  refine lv_irem X.1 X.2.1 dX1_bears_17 (by decide) ?_
  refine lv_if_ne (tgt := 26) X.1 X.2.1 dX1_bears_18 (by decide) (fun c4 => ?_) (fun c4 => ?_)
  · have hf := ifn hf c4
    refine lv_iload X.1 X.2.1 dX1_bears_26 (lv_at hl 1 rfl) ?_
    refine lv_iconst (v := 3) X.1 X.2.1 dX1_bears_28 (by decide) ?_
    refine lv_iadd X.1 X.2.1 dX1_bears_29 ?_
    obtain ⟨x5, ex5, hf⟩ := nm_of hf
    refine lv_top_as ex5 ?_
    refine lv_istore (lv' := [(7, .int x5), (6, .int x3), (5, .int x2), (0, .ref (qa b)), (1, .int p1), (2, .int p2), (3, .int p3), (4, .int p4)]) X.1 X.2.1 dX1_bears_30 hl (by decide) rfl (fun ls hl => ?_)
    refine lv_aload_n X.1 X.2.1 dX1_bears_32 rfl (lv_at hl 3 rfl) ?_
    refine x_get X hP hG_n.1 (by omega) rfl in_X1_bears_X1 4 (by decide) (by decide +kernel) rfl rfl dX1_bears_33 ?_
    refine lv_iload_n X.1 X.2.1 dX1_bears_36 rfl (lv_at hl 4 rfl) ?_
    obtain ⟨hi6, hf⟩ := gin_of hf
    refine x_iald X hP hG_n.2.2.2.1 (by omega) hi6 dX1_bears_37 ?_
    by_cases w7 : (ki_n (Int32.toNatClampNeg p1)) = 1
    · have hf := ifp hf w7
      refine lv_tableIn (tgt := 68) X.1 X.2.1 dX1_bears_38 (by rw [w7]; decide) (by rw [w7]; decide) (off := 30) (by rw [w7]; decide) (by decide) ?_
      refine lv_iload X.1 X.2.1 dX1_bears_68 (lv_at hl 1 rfl) ?_
      refine lv_istore (lv' := [(8, .int x3), (7, .int x5), (6, .int x3), (5, .int x2), (0, .ref (qa b)), (1, .int p1), (2, .int p2), (3, .int p3), (4, .int p4)]) X.1 X.2.1 dX1_bears_70 hl (by decide) rfl (fun ls hl => ?_)
      refine lv_goto (tgt := 104) X.1 X.2.1 dX1_bears_72 (by decide) ?_
      refine lv_aload_n X.1 X.2.1 dX1_bears_104 rfl (lv_at hl 4 rfl) ?_
      refine x_get X hP hG_n.1 (by omega) rfl in_X1_bears_X1 6 (by decide) (by decide +kernel) rfl rfl dX1_bears_105 ?_
      refine lv_iload_n X.1 X.2.1 dX1_bears_108 rfl (lv_at hl 5 rfl) ?_
      obtain ⟨hi8, hf⟩ := gin_of hf
      refine x_iald X hP hG_n.2.2.2.2.2.1 (by omega) hi8 dX1_bears_109 ?_
      refine lv_iload_n X.1 X.2.1 dX1_bears_110 rfl (lv_at hl 6 rfl) ?_
      refine lv_icmp_ne (tgt := 121) X.1 X.2.1 dX1_bears_111 (by decide) (fun c9 => ?_) (fun c9 => ?_)
      · have hf := ifn hf c9
        refine lv_iload X.1 X.2.1 dX1_bears_121 (lv_at hl 0 rfl) ?_
        obtain rfl := Option.some.inj hf
        exact hret _ _ _ _ _ _ dX1_bears_123 rfl rfl (rfl) hP hS
      · have hf := ifp hf c9
        refine lv_iload X.1 X.2.1 dX1_bears_114 (lv_at hl 0 rfl) ?_
        refine lv_iconst (v := 2) X.1 X.2.1 dX1_bears_116 (by decide) ?_
        refine lv_idiv X.1 X.2.1 dX1_bears_117 (by decide) ?_
        refine lv_goto (tgt := 123) X.1 X.2.1 dX1_bears_118 (by decide) ?_
        obtain rfl := Option.some.inj hf
        exact hret _ _ _ _ _ _ dX1_bears_123 rfl rfl (rfl) hP hS
    have hf := ifn hf w7
    by_cases w10 : (ki_n (Int32.toNatClampNeg p1)) = 2
    · have hf := ifp hf w10
      refine lv_tableIn (tgt := 75) X.1 X.2.1 dX1_bears_38 (by rw [w10]; decide) (by rw [w10]; decide) (off := 37) (by rw [w10]; decide) (by decide) ?_
      refine lv_iload X.1 X.2.1 dX1_bears_75 (lv_at hl 0 rfl) ?_
      refine lv_istore (lv' := [(8, .int x5), (7, .int x5), (6, .int x3), (5, .int x2), (0, .ref (qa b)), (1, .int p1), (2, .int p2), (3, .int p3), (4, .int p4)]) X.1 X.2.1 dX1_bears_77 hl (by decide) rfl (fun ls hl => ?_)
      refine lv_goto (tgt := 104) X.1 X.2.1 dX1_bears_79 (by decide) ?_
      refine lv_aload_n X.1 X.2.1 dX1_bears_104 rfl (lv_at hl 4 rfl) ?_
      refine x_get X hP hG_n.1 (by omega) rfl in_X1_bears_X1 6 (by decide) (by decide +kernel) rfl rfl dX1_bears_105 ?_
      refine lv_iload_n X.1 X.2.1 dX1_bears_108 rfl (lv_at hl 5 rfl) ?_
      obtain ⟨hi11, hf⟩ := gin_of hf
      refine x_iald X hP hG_n.2.2.2.2.2.1 (by omega) hi11 dX1_bears_109 ?_
      refine lv_iload_n X.1 X.2.1 dX1_bears_110 rfl (lv_at hl 6 rfl) ?_
      refine lv_icmp_ne (tgt := 121) X.1 X.2.1 dX1_bears_111 (by decide) (fun c12 => ?_) (fun c12 => ?_)
      · have hf := ifn hf c12
        refine lv_iload X.1 X.2.1 dX1_bears_121 (lv_at hl 0 rfl) ?_
        obtain rfl := Option.some.inj hf
        exact hret _ _ _ _ _ _ dX1_bears_123 rfl rfl (rfl) hP hS
      · have hf := ifp hf c12
        refine lv_iload X.1 X.2.1 dX1_bears_114 (lv_at hl 0 rfl) ?_
        refine lv_iconst (v := 2) X.1 X.2.1 dX1_bears_116 (by decide) ?_
        refine lv_idiv X.1 X.2.1 dX1_bears_117 (by decide) ?_
        refine lv_goto (tgt := 123) X.1 X.2.1 dX1_bears_118 (by decide) ?_
        obtain rfl := Option.some.inj hf
        exact hret _ _ _ _ _ _ dX1_bears_123 rfl rfl (rfl) hP hS
    have hf := ifn hf w10
    by_cases w13 : (ki_n (Int32.toNatClampNeg p1)) = 3
    · have hf := ifp hf w13
      refine lv_tableIn (tgt := 82) X.1 X.2.1 dX1_bears_38 (by rw [w13]; decide) (by rw [w13]; decide) (off := 44) (by rw [w13]; decide) (by decide) ?_
      refine lv_iload X.1 X.2.1 dX1_bears_82 (lv_at hl 1 rfl) ?_
      refine lv_iload_n X.1 X.2.1 dX1_bears_84 rfl (lv_at hl 6 rfl) ?_
      refine lv_iadd X.1 X.2.1 dX1_bears_85 ?_
      obtain ⟨x14, ex14, hf⟩ := nm_of hf
      refine lv_top_as ex14 ?_
      refine lv_istore (lv' := [(8, .int x14), (7, .int x5), (6, .int x3), (5, .int x2), (0, .ref (qa b)), (1, .int p1), (2, .int p2), (3, .int p3), (4, .int p4)]) X.1 X.2.1 dX1_bears_86 hl (by decide) rfl (fun ls hl => ?_)
      refine lv_goto (tgt := 104) X.1 X.2.1 dX1_bears_88 (by decide) ?_
      refine lv_aload_n X.1 X.2.1 dX1_bears_104 rfl (lv_at hl 4 rfl) ?_
      refine x_get X hP hG_n.1 (by omega) rfl in_X1_bears_X1 6 (by decide) (by decide +kernel) rfl rfl dX1_bears_105 ?_
      refine lv_iload_n X.1 X.2.1 dX1_bears_108 rfl (lv_at hl 5 rfl) ?_
      obtain ⟨hi15, hf⟩ := gin_of hf
      refine x_iald X hP hG_n.2.2.2.2.2.1 (by omega) hi15 dX1_bears_109 ?_
      refine lv_iload_n X.1 X.2.1 dX1_bears_110 rfl (lv_at hl 6 rfl) ?_
      refine lv_icmp_ne (tgt := 121) X.1 X.2.1 dX1_bears_111 (by decide) (fun c16 => ?_) (fun c16 => ?_)
      · have hf := ifn hf c16
        refine lv_iload X.1 X.2.1 dX1_bears_121 (lv_at hl 0 rfl) ?_
        obtain rfl := Option.some.inj hf
        exact hret _ _ _ _ _ _ dX1_bears_123 rfl rfl (rfl) hP hS
      · have hf := ifp hf c16
        refine lv_iload X.1 X.2.1 dX1_bears_114 (lv_at hl 0 rfl) ?_
        refine lv_iconst (v := 2) X.1 X.2.1 dX1_bears_116 (by decide) ?_
        refine lv_idiv X.1 X.2.1 dX1_bears_117 (by decide) ?_
        refine lv_goto (tgt := 123) X.1 X.2.1 dX1_bears_118 (by decide) ?_
        obtain rfl := Option.some.inj hf
        exact hret _ _ _ _ _ _ dX1_bears_123 rfl rfl (rfl) hP hS
    have hf := ifn hf w13
    by_cases w17 : (ki_n (Int32.toNatClampNeg p1)) = 4
    · have hf := ifp hf w17
      refine lv_tableIn (tgt := 91) X.1 X.2.1 dX1_bears_38 (by rw [w17]; decide) (by rw [w17]; decide) (off := 53) (by rw [w17]; decide) (by decide) ?_
      refine lv_iload X.1 X.2.1 dX1_bears_91 (lv_at hl 0 rfl) ?_
      refine lv_iconst (v := 2) X.1 X.2.1 dX1_bears_93 (by decide) ?_
      refine lv_idiv X.1 X.2.1 dX1_bears_94 (by decide) ?_
      obtain ⟨x18, ex18, hf⟩ := nm_of hf
      refine lv_top_as ex18 ?_
      refine lv_istore (lv' := [(8, .int x18), (7, .int x5), (6, .int x3), (5, .int x2), (0, .ref (qa b)), (1, .int p1), (2, .int p2), (3, .int p3), (4, .int p4)]) X.1 X.2.1 dX1_bears_95 hl (by decide) rfl (fun ls hl => ?_)
      refine lv_goto (tgt := 104) X.1 X.2.1 dX1_bears_97 (by decide) ?_
      refine lv_aload_n X.1 X.2.1 dX1_bears_104 rfl (lv_at hl 4 rfl) ?_
      refine x_get X hP hG_n.1 (by omega) rfl in_X1_bears_X1 6 (by decide) (by decide +kernel) rfl rfl dX1_bears_105 ?_
      refine lv_iload_n X.1 X.2.1 dX1_bears_108 rfl (lv_at hl 5 rfl) ?_
      obtain ⟨hi19, hf⟩ := gin_of hf
      refine x_iald X hP hG_n.2.2.2.2.2.1 (by omega) hi19 dX1_bears_109 ?_
      refine lv_iload_n X.1 X.2.1 dX1_bears_110 rfl (lv_at hl 6 rfl) ?_
      refine lv_icmp_ne (tgt := 121) X.1 X.2.1 dX1_bears_111 (by decide) (fun c20 => ?_) (fun c20 => ?_)
      · have hf := ifn hf c20
        refine lv_iload X.1 X.2.1 dX1_bears_121 (lv_at hl 0 rfl) ?_
        obtain rfl := Option.some.inj hf
        exact hret _ _ _ _ _ _ dX1_bears_123 rfl rfl (rfl) hP hS
      · have hf := ifp hf c20
        refine lv_iload X.1 X.2.1 dX1_bears_114 (lv_at hl 0 rfl) ?_
        refine lv_iconst (v := 2) X.1 X.2.1 dX1_bears_116 (by decide) ?_
        refine lv_idiv X.1 X.2.1 dX1_bears_117 (by decide) ?_
        refine lv_goto (tgt := 123) X.1 X.2.1 dX1_bears_118 (by decide) ?_
        obtain rfl := Option.some.inj hf
        exact hret _ _ _ _ _ _ dX1_bears_123 rfl rfl (rfl) hP hS
    have hf := ifn hf w17
    refine lv_tableOut (tgt := 100) X.1 X.2.1 dX1_bears_38 (by have := i_ne 1 (1) (by decide) w7; have := i_ne 2 (2) (by decide) w10; have := i_ne 3 (3) (by decide) w13; have := i_ne 4 (4) (by decide) w17; omega) (by decide) ?_
    refine lv_iload X.1 X.2.1 dX1_bears_100 (lv_at hl 2 rfl) ?_
    refine lv_istore (lv' := [(8, .int x2), (7, .int x5), (6, .int x3), (5, .int x2), (0, .ref (qa b)), (1, .int p1), (2, .int p2), (3, .int p3), (4, .int p4)]) X.1 X.2.1 dX1_bears_102 hl (by decide) rfl (fun ls hl => ?_)
    refine lv_aload_n X.1 X.2.1 dX1_bears_104 rfl (lv_at hl 4 rfl) ?_
    refine x_get X hP hG_n.1 (by omega) rfl in_X1_bears_X1 6 (by decide) (by decide +kernel) rfl rfl dX1_bears_105 ?_
    refine lv_iload_n X.1 X.2.1 dX1_bears_108 rfl (lv_at hl 5 rfl) ?_
    obtain ⟨hi21, hf⟩ := gin_of hf
    refine x_iald X hP hG_n.2.2.2.2.2.1 (by omega) hi21 dX1_bears_109 ?_
    refine lv_iload_n X.1 X.2.1 dX1_bears_110 rfl (lv_at hl 6 rfl) ?_
    refine lv_icmp_ne (tgt := 121) X.1 X.2.1 dX1_bears_111 (by decide) (fun c22 => ?_) (fun c22 => ?_)
    · have hf := ifn hf c22
      refine lv_iload X.1 X.2.1 dX1_bears_121 (lv_at hl 0 rfl) ?_
      obtain rfl := Option.some.inj hf
      exact hret _ _ _ _ _ _ dX1_bears_123 rfl rfl (rfl) hP hS
    · have hf := ifp hf c22
      refine lv_iload X.1 X.2.1 dX1_bears_114 (lv_at hl 0 rfl) ?_
      refine lv_iconst (v := 2) X.1 X.2.1 dX1_bears_116 (by decide) ?_
      refine lv_idiv X.1 X.2.1 dX1_bears_117 (by decide) ?_
      refine lv_goto (tgt := 123) X.1 X.2.1 dX1_bears_118 (by decide) ?_
      obtain rfl := Option.some.inj hf
      exact hret _ _ _ _ _ _ dX1_bears_123 rfl rfl (rfl) hP hS
  · have hf := ifp hf c4
    refine lv_iload X.1 X.2.1 dX1_bears_21 (lv_at hl 1 rfl) ?_
    refine lv_goto (tgt := 30) X.1 X.2.1 dX1_bears_23 (by decide) ?_
    refine lv_istore (lv' := [(7, .int x2), (6, .int x3), (5, .int x2), (0, .ref (qa b)), (1, .int p1), (2, .int p2), (3, .int p3), (4, .int p4)]) X.1 X.2.1 dX1_bears_30 hl (by decide) rfl (fun ls hl => ?_)
    refine lv_aload_n X.1 X.2.1 dX1_bears_32 rfl (lv_at hl 3 rfl) ?_
    refine x_get X hP hG_n.1 (by omega) rfl in_X1_bears_X1 4 (by decide) (by decide +kernel) rfl rfl dX1_bears_33 ?_
    refine lv_iload_n X.1 X.2.1 dX1_bears_36 rfl (lv_at hl 4 rfl) ?_
    obtain ⟨hi23, hf⟩ := gin_of hf
    refine x_iald X hP hG_n.2.2.2.1 (by omega) hi23 dX1_bears_37 ?_
    by_cases w24 : (ki_n (Int32.toNatClampNeg p1)) = 1
    · have hf := ifp hf w24
      refine lv_tableIn (tgt := 68) X.1 X.2.1 dX1_bears_38 (by rw [w24]; decide) (by rw [w24]; decide) (off := 30) (by rw [w24]; decide) (by decide) ?_
      refine lv_iload X.1 X.2.1 dX1_bears_68 (lv_at hl 1 rfl) ?_
      refine lv_istore (lv' := [(8, .int x3), (7, .int x2), (6, .int x3), (5, .int x2), (0, .ref (qa b)), (1, .int p1), (2, .int p2), (3, .int p3), (4, .int p4)]) X.1 X.2.1 dX1_bears_70 hl (by decide) rfl (fun ls hl => ?_)
      refine lv_goto (tgt := 104) X.1 X.2.1 dX1_bears_72 (by decide) ?_
      refine lv_aload_n X.1 X.2.1 dX1_bears_104 rfl (lv_at hl 4 rfl) ?_
      refine x_get X hP hG_n.1 (by omega) rfl in_X1_bears_X1 6 (by decide) (by decide +kernel) rfl rfl dX1_bears_105 ?_
      refine lv_iload_n X.1 X.2.1 dX1_bears_108 rfl (lv_at hl 5 rfl) ?_
      obtain ⟨hi25, hf⟩ := gin_of hf
      refine x_iald X hP hG_n.2.2.2.2.2.1 (by omega) hi25 dX1_bears_109 ?_
      refine lv_iload_n X.1 X.2.1 dX1_bears_110 rfl (lv_at hl 6 rfl) ?_
      refine lv_icmp_ne (tgt := 121) X.1 X.2.1 dX1_bears_111 (by decide) (fun c26 => ?_) (fun c26 => ?_)
      · have hf := ifn hf c26
        refine lv_iload X.1 X.2.1 dX1_bears_121 (lv_at hl 0 rfl) ?_
        obtain rfl := Option.some.inj hf
        exact hret _ _ _ _ _ _ dX1_bears_123 rfl rfl (rfl) hP hS
      · have hf := ifp hf c26
        refine lv_iload X.1 X.2.1 dX1_bears_114 (lv_at hl 0 rfl) ?_
        refine lv_iconst (v := 2) X.1 X.2.1 dX1_bears_116 (by decide) ?_
        refine lv_idiv X.1 X.2.1 dX1_bears_117 (by decide) ?_
        refine lv_goto (tgt := 123) X.1 X.2.1 dX1_bears_118 (by decide) ?_
        obtain rfl := Option.some.inj hf
        exact hret _ _ _ _ _ _ dX1_bears_123 rfl rfl (rfl) hP hS
    have hf := ifn hf w24
    by_cases w27 : (ki_n (Int32.toNatClampNeg p1)) = 2
    · have hf := ifp hf w27
      refine lv_tableIn (tgt := 75) X.1 X.2.1 dX1_bears_38 (by rw [w27]; decide) (by rw [w27]; decide) (off := 37) (by rw [w27]; decide) (by decide) ?_
      refine lv_iload X.1 X.2.1 dX1_bears_75 (lv_at hl 0 rfl) ?_
      refine lv_istore (lv' := [(8, .int x2), (7, .int x2), (6, .int x3), (5, .int x2), (0, .ref (qa b)), (1, .int p1), (2, .int p2), (3, .int p3), (4, .int p4)]) X.1 X.2.1 dX1_bears_77 hl (by decide) rfl (fun ls hl => ?_)
      refine lv_goto (tgt := 104) X.1 X.2.1 dX1_bears_79 (by decide) ?_
      refine lv_aload_n X.1 X.2.1 dX1_bears_104 rfl (lv_at hl 4 rfl) ?_
      refine x_get X hP hG_n.1 (by omega) rfl in_X1_bears_X1 6 (by decide) (by decide +kernel) rfl rfl dX1_bears_105 ?_
      refine lv_iload_n X.1 X.2.1 dX1_bears_108 rfl (lv_at hl 5 rfl) ?_
      obtain ⟨hi28, hf⟩ := gin_of hf
      refine x_iald X hP hG_n.2.2.2.2.2.1 (by omega) hi28 dX1_bears_109 ?_
      refine lv_iload_n X.1 X.2.1 dX1_bears_110 rfl (lv_at hl 6 rfl) ?_
      refine lv_icmp_ne (tgt := 121) X.1 X.2.1 dX1_bears_111 (by decide) (fun c29 => ?_) (fun c29 => ?_)
      · have hf := ifn hf c29
        refine lv_iload X.1 X.2.1 dX1_bears_121 (lv_at hl 0 rfl) ?_
        obtain rfl := Option.some.inj hf
        exact hret _ _ _ _ _ _ dX1_bears_123 rfl rfl (rfl) hP hS
      · have hf := ifp hf c29
        refine lv_iload X.1 X.2.1 dX1_bears_114 (lv_at hl 0 rfl) ?_
        refine lv_iconst (v := 2) X.1 X.2.1 dX1_bears_116 (by decide) ?_
        refine lv_idiv X.1 X.2.1 dX1_bears_117 (by decide) ?_
        refine lv_goto (tgt := 123) X.1 X.2.1 dX1_bears_118 (by decide) ?_
        obtain rfl := Option.some.inj hf
        exact hret _ _ _ _ _ _ dX1_bears_123 rfl rfl (rfl) hP hS
    have hf := ifn hf w27
    by_cases w30 : (ki_n (Int32.toNatClampNeg p1)) = 3
    · have hf := ifp hf w30
      refine lv_tableIn (tgt := 82) X.1 X.2.1 dX1_bears_38 (by rw [w30]; decide) (by rw [w30]; decide) (off := 44) (by rw [w30]; decide) (by decide) ?_
      refine lv_iload X.1 X.2.1 dX1_bears_82 (lv_at hl 1 rfl) ?_
      refine lv_iload_n X.1 X.2.1 dX1_bears_84 rfl (lv_at hl 6 rfl) ?_
      refine lv_iadd X.1 X.2.1 dX1_bears_85 ?_
      obtain ⟨x31, ex31, hf⟩ := nm_of hf
      refine lv_top_as ex31 ?_
      refine lv_istore (lv' := [(8, .int x31), (7, .int x2), (6, .int x3), (5, .int x2), (0, .ref (qa b)), (1, .int p1), (2, .int p2), (3, .int p3), (4, .int p4)]) X.1 X.2.1 dX1_bears_86 hl (by decide) rfl (fun ls hl => ?_)
      refine lv_goto (tgt := 104) X.1 X.2.1 dX1_bears_88 (by decide) ?_
      refine lv_aload_n X.1 X.2.1 dX1_bears_104 rfl (lv_at hl 4 rfl) ?_
      refine x_get X hP hG_n.1 (by omega) rfl in_X1_bears_X1 6 (by decide) (by decide +kernel) rfl rfl dX1_bears_105 ?_
      refine lv_iload_n X.1 X.2.1 dX1_bears_108 rfl (lv_at hl 5 rfl) ?_
      obtain ⟨hi32, hf⟩ := gin_of hf
      refine x_iald X hP hG_n.2.2.2.2.2.1 (by omega) hi32 dX1_bears_109 ?_
      refine lv_iload_n X.1 X.2.1 dX1_bears_110 rfl (lv_at hl 6 rfl) ?_
      refine lv_icmp_ne (tgt := 121) X.1 X.2.1 dX1_bears_111 (by decide) (fun c33 => ?_) (fun c33 => ?_)
      · have hf := ifn hf c33
        refine lv_iload X.1 X.2.1 dX1_bears_121 (lv_at hl 0 rfl) ?_
        obtain rfl := Option.some.inj hf
        exact hret _ _ _ _ _ _ dX1_bears_123 rfl rfl (rfl) hP hS
      · have hf := ifp hf c33
        refine lv_iload X.1 X.2.1 dX1_bears_114 (lv_at hl 0 rfl) ?_
        refine lv_iconst (v := 2) X.1 X.2.1 dX1_bears_116 (by decide) ?_
        refine lv_idiv X.1 X.2.1 dX1_bears_117 (by decide) ?_
        refine lv_goto (tgt := 123) X.1 X.2.1 dX1_bears_118 (by decide) ?_
        obtain rfl := Option.some.inj hf
        exact hret _ _ _ _ _ _ dX1_bears_123 rfl rfl (rfl) hP hS
    have hf := ifn hf w30
    by_cases w34 : (ki_n (Int32.toNatClampNeg p1)) = 4
    · have hf := ifp hf w34
      refine lv_tableIn (tgt := 91) X.1 X.2.1 dX1_bears_38 (by rw [w34]; decide) (by rw [w34]; decide) (off := 53) (by rw [w34]; decide) (by decide) ?_
      refine lv_iload X.1 X.2.1 dX1_bears_91 (lv_at hl 0 rfl) ?_
      refine lv_iconst (v := 2) X.1 X.2.1 dX1_bears_93 (by decide) ?_
      refine lv_idiv X.1 X.2.1 dX1_bears_94 (by decide) ?_
      obtain ⟨x35, ex35, hf⟩ := nm_of hf
      refine lv_top_as ex35 ?_
      refine lv_istore (lv' := [(8, .int x35), (7, .int x2), (6, .int x3), (5, .int x2), (0, .ref (qa b)), (1, .int p1), (2, .int p2), (3, .int p3), (4, .int p4)]) X.1 X.2.1 dX1_bears_95 hl (by decide) rfl (fun ls hl => ?_)
      refine lv_goto (tgt := 104) X.1 X.2.1 dX1_bears_97 (by decide) ?_
      refine lv_aload_n X.1 X.2.1 dX1_bears_104 rfl (lv_at hl 4 rfl) ?_
      refine x_get X hP hG_n.1 (by omega) rfl in_X1_bears_X1 6 (by decide) (by decide +kernel) rfl rfl dX1_bears_105 ?_
      refine lv_iload_n X.1 X.2.1 dX1_bears_108 rfl (lv_at hl 5 rfl) ?_
      obtain ⟨hi36, hf⟩ := gin_of hf
      refine x_iald X hP hG_n.2.2.2.2.2.1 (by omega) hi36 dX1_bears_109 ?_
      refine lv_iload_n X.1 X.2.1 dX1_bears_110 rfl (lv_at hl 6 rfl) ?_
      refine lv_icmp_ne (tgt := 121) X.1 X.2.1 dX1_bears_111 (by decide) (fun c37 => ?_) (fun c37 => ?_)
      · have hf := ifn hf c37
        refine lv_iload X.1 X.2.1 dX1_bears_121 (lv_at hl 0 rfl) ?_
        obtain rfl := Option.some.inj hf
        exact hret _ _ _ _ _ _ dX1_bears_123 rfl rfl (rfl) hP hS
      · have hf := ifp hf c37
        refine lv_iload X.1 X.2.1 dX1_bears_114 (lv_at hl 0 rfl) ?_
        refine lv_iconst (v := 2) X.1 X.2.1 dX1_bears_116 (by decide) ?_
        refine lv_idiv X.1 X.2.1 dX1_bears_117 (by decide) ?_
        refine lv_goto (tgt := 123) X.1 X.2.1 dX1_bears_118 (by decide) ?_
        obtain rfl := Option.some.inj hf
        exact hret _ _ _ _ _ _ dX1_bears_123 rfl rfl (rfl) hP hS
    have hf := ifn hf w34
    refine lv_tableOut (tgt := 100) X.1 X.2.1 dX1_bears_38 (by have := i_ne 1 (1) (by decide) w24; have := i_ne 2 (2) (by decide) w27; have := i_ne 3 (3) (by decide) w30; have := i_ne 4 (4) (by decide) w34; omega) (by decide) ?_
    refine lv_iload X.1 X.2.1 dX1_bears_100 (lv_at hl 2 rfl) ?_
    refine lv_istore (lv' := [(8, .int x2), (7, .int x2), (6, .int x3), (5, .int x2), (0, .ref (qa b)), (1, .int p1), (2, .int p2), (3, .int p3), (4, .int p4)]) X.1 X.2.1 dX1_bears_102 hl (by decide) rfl (fun ls hl => ?_)
    refine lv_aload_n X.1 X.2.1 dX1_bears_104 rfl (lv_at hl 4 rfl) ?_
    refine x_get X hP hG_n.1 (by omega) rfl in_X1_bears_X1 6 (by decide) (by decide +kernel) rfl rfl dX1_bears_105 ?_
    refine lv_iload_n X.1 X.2.1 dX1_bears_108 rfl (lv_at hl 5 rfl) ?_
    obtain ⟨hi38, hf⟩ := gin_of hf
    refine x_iald X hP hG_n.2.2.2.2.2.1 (by omega) hi38 dX1_bears_109 ?_
    refine lv_iload_n X.1 X.2.1 dX1_bears_110 rfl (lv_at hl 6 rfl) ?_
    refine lv_icmp_ne (tgt := 121) X.1 X.2.1 dX1_bears_111 (by decide) (fun c39 => ?_) (fun c39 => ?_)
    · have hf := ifn hf c39
      refine lv_iload X.1 X.2.1 dX1_bears_121 (lv_at hl 0 rfl) ?_
      obtain rfl := Option.some.inj hf
      exact hret _ _ _ _ _ _ dX1_bears_123 rfl rfl (rfl) hP hS
    · have hf := ifp hf c39
      refine lv_iload X.1 X.2.1 dX1_bears_114 (lv_at hl 0 rfl) ?_
      refine lv_iconst (v := 2) X.1 X.2.1 dX1_bears_116 (by decide) ?_
      refine lv_idiv X.1 X.2.1 dX1_bears_117 (by decide) ?_
      refine lv_goto (tgt := 123) X.1 X.2.1 dX1_bears_118 (by decide) ?_
      obtain rfl := Option.some.inj hf
      exact hret _ _ _ _ _ _ dX1_bears_123 rfl rfl (rfl) hP hS
def bX1_loadOfSet_14 (md_n : Int32) (ki_n : Nat → Int32) (we_n : Nat → Int32) (wo_n : Nat → Int32) (p1 : Int32) (p2 : Int32) (p3 : Int32) (x2 : Int32) (K3 : ((Int32 × Int32)) → Option Int32) : ((Int32 × Int32)) → Option Int32
  | (v5_3, v6_3) => if md_n ≤ v6_3 then (some v5_3) else (if ((p2 >>> (v6_3 &&& 31)) &&& 1) = 1 then ((fX1_bears v6_3 p1 x2 p3 ki_n we_n wo_n).bind (fun r7 => nm (v5_3 + r7) (fun x8 => nm (v6_3 + 1) (fun x9 => K3 (x8, x9))))) else (nm (v6_3 + 1) (fun x6 => K3 (v5_3, x6))))
def fX1_loadOfSet (p1 : Int32) (p2 : Int32) (p3 : Int32) (md_n : Int32) (ki_n : Nat → Int32) (we_n : Nat → Int32) (wo_n : Nat → Int32) : Option Int32 := (fJ6_bitCount_0f7a4 p2).bind (fun r1 => nm (r1 - 1) (fun x2 => lp (bX1_loadOfSet_14 md_n ki_n we_n wo_n p1 p2 p3 x2) FU (0, 0)))
theorem in_X1_loadOfSet_X1 : ∀ w ∈ wsX10, w ∈ wsX1_loadOfSet := by decide +kernel
set_option maxHeartbeats 4000000 in
set_option maxRecDepth 100000 in
theorem ct_X1_loadOfSet {l : Launch} {D : va_G} {g : Nat → ClassId} {qa : Nat → Nat} {E0 : Nat → va_E} {b : Nat} {p1 : Int32} {p2 : Int32} {p3 : Int32} {men_n : Int32} {md_n : Int32} {day_n : Int32} {drw_n : Int32} {bu_n : Nat → Int32} {st_n : Nat → Int32} {ki_n : Nat → Int32} {we_n : Nat → Int32} {wo_n : Nat → Int32} {wr_n : Nat → Int32} (hb_n : b + 7 ≤ 74) (hG_n : Mu g qa E0 b men_n md_n day_n drw_n bu_n st_n ki_n we_n wo_n wr_n) {R : Int32} (hf : fX1_loadOfSet p1 p2 p3 md_n ki_n we_n wo_n = some R) : MI l yX1_loadOfSet wsX1_loadOfSet 1 D g qa E0 [.ref (qa b), .int p1, .int p2, .int p3] R (fun E => E = E0) := by
  refine MI.mk (by decide) rfl (Nat.le_of_ble_eq_true rfl) ?_
  intro p e s m args below meth c ls Q X hret hP hS hl
  have hl : lv_has ls 7 [(0, .ref (qa b)), (1, .int p1), (2, .int p2), (3, .int p3)] := hl
  rw [fX1_loadOfSet] at hf
  refine lv_iload_n X.1 X.2.1 dX1_loadOfSet_0 rfl (lv_at hl 2 rfl) ?_
  obtain ⟨r1, hr1, hf⟩ := bd_of hf
  refine x_rdSi X hP hS (index := 57) (n := 1) (As := [.int p2]) (ct_J6_bitCount_0f7a4  hr1) ggX1_loadOfSet_J6_bitCount_0f7a4 (by decide +kernel) (by decide +kernel) (by decide +kernel) rfl (by decide +kernel) ⟨by decide, by decide⟩ rfl hl.1 rfl (Nat.le_of_ble_eq_true rfl) dX1_loadOfSet_1 (fun H locs hP hS => ?_)
  refine lv_iconst (v := 1) X.1 X.2.1 dX1_loadOfSet_4 (by decide) ?_
  refine lv_isub X.1 X.2.1 dX1_loadOfSet_5 ?_
  obtain ⟨x2, ex2, hf⟩ := nm_of hf
  refine lv_top_as ex2 ?_
  refine lv_istore (lv' := [(4, .int x2), (0, .ref (qa b)), (1, .int p1), (2, .int p2), (3, .int p3)]) X.1 X.2.1 dX1_loadOfSet_6 hl (by decide) rfl (fun ls hl => ?_)
  refine lv_iconst (v := 0) X.1 X.2.1 dX1_loadOfSet_8 (by decide) ?_
  refine lv_istore (lv' := [(5, .int 0), (4, .int x2), (0, .ref (qa b)), (1, .int p1), (2, .int p2), (3, .int p3)]) X.1 X.2.1 dX1_loadOfSet_9 hl (by decide) rfl (fun ls hl => ?_)
  refine lv_iconst (v := 0) X.1 X.2.1 dX1_loadOfSet_11 (by decide) ?_
  refine lv_istore (lv' := [(6, .int 0), (5, .int 0), (4, .int x2), (0, .ref (qa b)), (1, .int p1), (2, .int p2), (3, .int p3)]) X.1 X.2.1 dX1_loadOfSet_12 hl (by decide) rfl (fun ls hl => ?_)
  have lp3 : ∀ (n3 : Nat) (v5_3 : Int32) (v6_3 : Int32) (H : Heap) (locs : List Loc) (ls : Array Slot), lp (bX1_loadOfSet_14 md_n ki_n we_n wo_n p1 p2 p3 x2) n3 (v5_3, v6_3) = some R → va_P D vwCl (WD qa E0) H → va_S (gA qa s.heap.size) s.heap H locs → lv_has ls 7 [(0, .ref (qa b)), (1, .int p1), (2, .int p2), (3, .int p3), (4, .int x2), (5, .int v5_3), (6, .int v6_3)] → W p l e (rmf 1) s m args below meth c H locs 0 0 Q (F0 m 14 ls []) := by
    intro n3
    induction n3 with
    | zero =>
      intro v5_3 v6_3 H locs ls hf
      exact absurd hf (by intro h; cases h)
    | succ n3 ih3 =>
      intro v5_3 v6_3 H locs ls hf hP hS hl
      have hf : bX1_loadOfSet_14 md_n ki_n we_n wo_n p1 p2 p3 x2 (lp (bX1_loadOfSet_14 md_n ki_n we_n wo_n p1 p2 p3 x2) n3) (v5_3, v6_3) = some R := hf
      rw [bX1_loadOfSet_14] at hf
      refine lv_iload X.1 X.2.1 dX1_loadOfSet_14 (lv_at hl 6 rfl) ?_
      refine lv_aload_n X.1 X.2.1 dX1_loadOfSet_16 rfl (lv_at hl 0 rfl) ?_
      refine x_get X hP hG_n.1 (by omega) rfl in_X1_loadOfSet_X1 3 (by decide) (by decide +kernel) rfl rfl dX1_loadOfSet_17 ?_
      refine lv_icmp_ge (tgt := 54) X.1 X.2.1 dX1_loadOfSet_20 (by decide) (fun c4 => ?_) (fun c4 => ?_)
      · have hf := ifp hf c4
        refine lv_iload X.1 X.2.1 dX1_loadOfSet_54 (lv_at hl 5 rfl) ?_
        obtain rfl := Option.some.inj hf
        exact hret _ _ _ _ _ _ dX1_loadOfSet_56 rfl rfl (rfl) hP hS
      · have hf := ifn hf c4
        refine lv_iload_n X.1 X.2.1 dX1_loadOfSet_23 rfl (lv_at hl 2 rfl) ?_
        refine lv_iload X.1 X.2.1 dX1_loadOfSet_24 (lv_at hl 6 rfl) ?_
        refine lv_ishr X.1 X.2.1 dX1_loadOfSet_26 ?_
        refine lv_iconst (v := 1) X.1 X.2.1 dX1_loadOfSet_27 (by decide) ?_
        refine lv_iand X.1 X.2.1 dX1_loadOfSet_28 ?_
        refine lv_iconst (v := 1) X.1 X.2.1 dX1_loadOfSet_29 (by decide) ?_
        refine lv_icmp_ne (tgt := 48) X.1 X.2.1 dX1_loadOfSet_30 (by decide) (fun c5 => ?_) (fun c5 => ?_)
        · have hf := ifn hf c5
          obtain ⟨x6, ex6, hf⟩ := nm_of hf
          refine lv_iinc (v := x6) (lv' := [(6, .int x6), (0, .ref (qa b)), (1, .int p1), (2, .int p2), (3, .int p3), (4, .int x2), (5, .int v5_3)]) X.1 X.2.1 dX1_loadOfSet_48 hl (k := 6) rfl (by rw [ex6]; rfl) (by decide) rfl (fun ls hl => ?_)
          refine lv_goto (tgt := 14) X.1 X.2.1 dX1_loadOfSet_51 (by decide) ?_
          exact ih3 v5_3 x6 _ _ _ hf hP hS (lv_sub hl [1, 2, 3, 4, 5, 6, 0] rfl)
        · have hf := ifp hf c5
          refine lv_iload X.1 X.2.1 dX1_loadOfSet_33 (lv_at hl 5 rfl) ?_
          refine lv_aload_n X.1 X.2.1 dX1_loadOfSet_35 rfl (lv_at hl 0 rfl) ?_
          refine lv_iload X.1 X.2.1 dX1_loadOfSet_36 (lv_at hl 6 rfl) ?_
          refine lv_iload_n X.1 X.2.1 dX1_loadOfSet_38 rfl (lv_at hl 1 rfl) ?_
          refine lv_iload X.1 X.2.1 dX1_loadOfSet_39 (lv_at hl 4 rfl) ?_
          refine lv_iload_n X.1 X.2.1 dX1_loadOfSet_41 rfl (lv_at hl 3 rfl) ?_
          obtain ⟨r7, hr7, hf⟩ := bd_of hf
          refine x_rdVi X hP hS hG_n.1 (by omega) rfl (n := 4) (As := [.int v6_3, .int p1, .int x2, .int p3]) (ct_X1_bears (by omega) hG_n hr7) gX1_loadOfSet_X1_bears rfl (by decide +kernel) ⟨by decide, by decide⟩ rfl hl.1 rfl (Nat.le_of_ble_eq_true rfl) dX1_loadOfSet_42 (fun H locs hP hS => ?_)
          refine lv_iadd X.1 X.2.1 dX1_loadOfSet_45 ?_
          obtain ⟨x8, ex8, hf⟩ := nm_of hf
          refine lv_top_as ex8 ?_
          refine lv_istore (lv' := [(5, .int x8), (0, .ref (qa b)), (1, .int p1), (2, .int p2), (3, .int p3), (4, .int x2), (6, .int v6_3)]) X.1 X.2.1 dX1_loadOfSet_46 hl (by decide) rfl (fun ls hl => ?_)
          obtain ⟨x9, ex9, hf⟩ := nm_of hf
          refine lv_iinc (v := x9) (lv' := [(6, .int x9), (5, .int x8), (0, .ref (qa b)), (1, .int p1), (2, .int p2), (3, .int p3), (4, .int x2)]) X.1 X.2.1 dX1_loadOfSet_48 hl (k := 6) rfl (by rw [ex9]; rfl) (by decide) rfl (fun ls hl => ?_)
          refine lv_goto (tgt := 14) X.1 X.2.1 dX1_loadOfSet_51 (by decide) ?_
          exact ih3 x8 x9 _ _ _ hf hP hS (lv_sub hl [2, 3, 4, 5, 6, 1, 0] rfl)
  exact lp3 FU 0 0 _ _ _ hf hP hS (lv_sub hl [3, 4, 5, 6, 2, 1, 0] rfl)
def fX1_addMan (p1 : Int32) (p2 : Int32) (men_n : Int32) (bu_n : Nat → Int32) (st_n : Nat → Int32) : Option (Int32 × Int32 × (Nat → Int32) × (Nat → Int32)) := if men_n < 5 then (gin men_n 5 (gin men_n 5 (some ((men_n + 1) - 1, men_n + 1, upd bu_n (Int32.toNatClampNeg men_n) p1, upd st_n (Int32.toNatClampNeg men_n) p2)))) else (some ((-3), men_n, bu_n, st_n))
theorem in_X1_addMan_X1 : ∀ w ∈ wsX10, w ∈ wsX1_addMan := by decide +kernel
set_option maxHeartbeats 4000000 in
set_option maxRecDepth 100000 in
theorem ct_X1_addMan {l : Launch} {D : va_G} {g : Nat → ClassId} {qa : Nat → Nat} {E0 : Nat → va_E} {b : Nat} {p1 : Int32} {p2 : Int32} {men_n : Int32} {md_n : Int32} {day_n : Int32} {drw_n : Int32} {bu_n : Nat → Int32} {st_n : Nat → Int32} {ki_n : Nat → Int32} {we_n : Nat → Int32} {wo_n : Nat → Int32} {wr_n : Nat → Int32} (hb_n : b + 7 ≤ 74) (hG_n : Mu g qa E0 b men_n md_n day_n drw_n bu_n st_n ki_n we_n wo_n wr_n) {R : (Int32 × Int32 × (Nat → Int32) × (Nat → Int32))} (hf : fX1_addMan p1 p2 men_n bu_n st_n = some R) : MI l yX1_addMan wsX1_addMan 0 D g qa E0 [.ref (qa b), .int p1, .int p2] R.1 (fun E => Mu g qa E b R.2.1 md_n day_n drw_n R.2.2.1 R.2.2.2 ki_n we_n wo_n wr_n ∧ ∀ j, (j < b ∨ b + 7 ≤ j) → E j = E0 j) := by
  refine MI.mk (by decide) rfl (Nat.le_of_ble_eq_true rfl) ?_
  intro p e s m args below meth c ls Q X hret hP hS hl
  have hl : lv_has ls 3 [(0, .ref (qa b)), (1, .int p1), (2, .int p2)] := hl
  have hfr : ∀ j, (j < b ∨ b + 7 ≤ j) → E0 j = E0 j := fun _ _ => rfl
  rw [fX1_addMan] at hf
  refine lv_aload_n X.1 X.2.1 dX1_addMan_0 rfl (lv_at hl 0 rfl) ?_
  refine x_get X hP hG_n.1 (by omega) rfl in_X1_addMan_X1 0 (by decide) (by decide +kernel) rfl rfl dX1_addMan_1 ?_
  refine lv_iconst (v := 5) X.1 X.2.1 dX1_addMan_4 (by decide) ?_
  refine lv_icmp_lt (tgt := 11) X.1 X.2.1 dX1_addMan_5 (by decide) (fun c1 => ?_) (fun c1 => ?_)
  · have hf := ifp hf c1
    refine lv_aload_n X.1 X.2.1 dX1_addMan_11 rfl (lv_at hl 0 rfl) ?_
    refine x_get X hP hG_n.1 (by omega) rfl in_X1_addMan_X1 1 (by decide) (by decide +kernel) rfl rfl dX1_addMan_12 ?_
    refine lv_aload_n X.1 X.2.1 dX1_addMan_15 rfl (lv_at hl 0 rfl) ?_
    refine x_get X hP hG_n.1 (by omega) rfl in_X1_addMan_X1 0 (by decide) (by decide +kernel) rfl rfl dX1_addMan_16 ?_
    refine lv_iload_n X.1 X.2.1 dX1_addMan_19 rfl (lv_at hl 1 rfl) ?_
    obtain ⟨hi2, hf⟩ := gin_of hf
    refine x_iast X hP hS hG_n.2.1 (by omega) hi2 dX1_addMan_20 (fun E H locs h1 hk hP hS => ?_)
    have hG_n := Mu_set_1 hG_n h1 hk
    have hfr : ∀ j, (j < b ∨ b + 7 ≤ j) → E j = E0 j := fun j o0 => (hk j (by omega)).trans (hfr j o0)
    refine lv_aload_n X.1 X.2.1 dX1_addMan_21 rfl (lv_at hl 0 rfl) ?_
    refine x_get X hP hG_n.1 (by omega) rfl in_X1_addMan_X1 2 (by decide) (by decide +kernel) rfl rfl dX1_addMan_22 ?_
    refine lv_aload_n X.1 X.2.1 dX1_addMan_25 rfl (lv_at hl 0 rfl) ?_
    refine x_get X hP hG_n.1 (by omega) rfl in_X1_addMan_X1 0 (by decide) (by decide +kernel) rfl rfl dX1_addMan_26 ?_
    refine lv_iload_n X.1 X.2.1 dX1_addMan_29 rfl (lv_at hl 2 rfl) ?_
    obtain ⟨hi3, hf⟩ := gin_of hf
    refine x_iast X hP hS hG_n.2.2.1 (by omega) hi3 dX1_addMan_30 (fun E H locs h1 hk hP hS => ?_)
    have hG_n := Mu_set_2 hG_n h1 hk
    have hfr : ∀ j, (j < b ∨ b + 7 ≤ j) → E j = E0 j := fun j o0 => (hk j (by omega)).trans (hfr j o0)
    refine lv_aload_n X.1 X.2.1 dX1_addMan_31 rfl (lv_at hl 0 rfl) ?_
    refine lv_dup X.1 X.2.1 dX1_addMan_32 rfl ?_
    refine x_get X hP hG_n.1 (by omega) rfl in_X1_addMan_X1 0 (by decide) (by decide +kernel) rfl rfl dX1_addMan_33 ?_
    refine lv_iconst (v := 1) X.1 X.2.1 dX1_addMan_36 (by decide) ?_
    refine lv_iadd X.1 X.2.1 dX1_addMan_37 ?_
    refine x_put (ty := .int) X hP hS hG_n.1 (by omega) rfl in_X1_addMan_X1 tyX1 tyX1_ok nmX1 0 (by decide) (by decide +kernel) rfl rfl (by decide +kernel) rfl rfl (Nat.le_of_ble_eq_true rfl) dX1_addMan_38 (fun E H locs h1 hk hP hS => ?_)
    have hG_n := Mu_set_0 hG_n h1 hk
    have hfr : ∀ j, (j < b ∨ b + 7 ≤ j) → E j = E0 j := fun j o0 => (hk j (by omega)).trans (hfr j o0)
    refine lv_aload_n X.1 X.2.1 dX1_addMan_41 rfl (lv_at hl 0 rfl) ?_
    refine x_get X hP hG_n.1 (by omega) rfl in_X1_addMan_X1 0 (by decide) (by decide +kernel) rfl rfl dX1_addMan_42 ?_
    refine lv_iconst (v := 1) X.1 X.2.1 dX1_addMan_45 (by decide) ?_
    refine lv_isub X.1 X.2.1 dX1_addMan_46 ?_
    obtain rfl := Option.some.inj hf
    exact hret _ _ _ _ _ _ dX1_addMan_47 rfl rfl (⟨hG_n, hfr⟩) hP hS
  · have hf := ifn hf c1
    refine lv_bipush (v := (-3)) X.1 X.2.1 dX1_addMan_8 (by decide) ?_
    obtain rfl := Option.some.inj hf
    exact hret _ _ _ _ _ _ dX1_addMan_10 rfl rfl (⟨hG_n, hfr⟩) hP hS
def fX1_addMedal (p1 : Int32) (p2 : Int32) (p3 : Int32) (p4 : Int32) (md_n : Int32) (ki_n : Nat → Int32) (we_n : Nat → Int32) (wo_n : Nat → Int32) (wr_n : Nat → Int32) : Option (Int32 × Int32 × (Nat → Int32) × (Nat → Int32) × (Nat → Int32) × (Nat → Int32)) := if md_n < 6 then (gin md_n 6 (gin md_n 6 (gin md_n 6 (gin md_n 6 (some ((md_n + 1) - 1, md_n + 1, upd ki_n (Int32.toNatClampNeg md_n) p1, upd we_n (Int32.toNatClampNeg md_n) p2, upd wo_n (Int32.toNatClampNeg md_n) p3, upd wr_n (Int32.toNatClampNeg md_n) p4)))))) else (some ((-3), md_n, ki_n, we_n, wo_n, wr_n))
theorem in_X1_addMedal_X1 : ∀ w ∈ wsX10, w ∈ wsX1_addMedal := by decide +kernel
set_option maxHeartbeats 4000000 in
set_option maxRecDepth 100000 in
theorem ct_X1_addMedal {l : Launch} {D : va_G} {g : Nat → ClassId} {qa : Nat → Nat} {E0 : Nat → va_E} {b : Nat} {p1 : Int32} {p2 : Int32} {p3 : Int32} {p4 : Int32} {men_n : Int32} {md_n : Int32} {day_n : Int32} {drw_n : Int32} {bu_n : Nat → Int32} {st_n : Nat → Int32} {ki_n : Nat → Int32} {we_n : Nat → Int32} {wo_n : Nat → Int32} {wr_n : Nat → Int32} (hb_n : b + 7 ≤ 74) (hG_n : Mu g qa E0 b men_n md_n day_n drw_n bu_n st_n ki_n we_n wo_n wr_n) {R : (Int32 × Int32 × (Nat → Int32) × (Nat → Int32) × (Nat → Int32) × (Nat → Int32))} (hf : fX1_addMedal p1 p2 p3 p4 md_n ki_n we_n wo_n wr_n = some R) : MI l yX1_addMedal wsX1_addMedal 0 D g qa E0 [.ref (qa b), .int p1, .int p2, .int p3, .int p4] R.1 (fun E => Mu g qa E b men_n R.2.1 day_n drw_n bu_n st_n R.2.2.1 R.2.2.2.1 R.2.2.2.2.1 R.2.2.2.2.2 ∧ ∀ j, (j < b ∨ b + 7 ≤ j) → E j = E0 j) := by
  refine MI.mk (by decide) rfl (Nat.le_of_ble_eq_true rfl) ?_
  intro p e s m args below meth c ls Q X hret hP hS hl
  have hl : lv_has ls 5 [(0, .ref (qa b)), (1, .int p1), (2, .int p2), (3, .int p3), (4, .int p4)] := hl
  have hfr : ∀ j, (j < b ∨ b + 7 ≤ j) → E0 j = E0 j := fun _ _ => rfl
  rw [fX1_addMedal] at hf
  refine lv_aload_n X.1 X.2.1 dX1_addMedal_0 rfl (lv_at hl 0 rfl) ?_
  refine x_get X hP hG_n.1 (by omega) rfl in_X1_addMedal_X1 3 (by decide) (by decide +kernel) rfl rfl dX1_addMedal_1 ?_
  refine lv_bipush (v := 6) X.1 X.2.1 dX1_addMedal_4 (by decide) ?_
  refine lv_icmp_lt (tgt := 12) X.1 X.2.1 dX1_addMedal_6 (by decide) (fun c1 => ?_) (fun c1 => ?_)
  · have hf := ifp hf c1
    refine lv_aload_n X.1 X.2.1 dX1_addMedal_12 rfl (lv_at hl 0 rfl) ?_
    refine x_get X hP hG_n.1 (by omega) rfl in_X1_addMedal_X1 4 (by decide) (by decide +kernel) rfl rfl dX1_addMedal_13 ?_
    refine lv_aload_n X.1 X.2.1 dX1_addMedal_16 rfl (lv_at hl 0 rfl) ?_
    refine x_get X hP hG_n.1 (by omega) rfl in_X1_addMedal_X1 3 (by decide) (by decide +kernel) rfl rfl dX1_addMedal_17 ?_
    refine lv_iload_n X.1 X.2.1 dX1_addMedal_20 rfl (lv_at hl 1 rfl) ?_
    obtain ⟨hi2, hf⟩ := gin_of hf
    refine x_iast X hP hS hG_n.2.2.2.1 (by omega) hi2 dX1_addMedal_21 (fun E H locs h1 hk hP hS => ?_)
    have hG_n := Mu_set_3 hG_n h1 hk
    have hfr : ∀ j, (j < b ∨ b + 7 ≤ j) → E j = E0 j := fun j o0 => (hk j (by omega)).trans (hfr j o0)
    refine lv_aload_n X.1 X.2.1 dX1_addMedal_22 rfl (lv_at hl 0 rfl) ?_
    refine x_get X hP hG_n.1 (by omega) rfl in_X1_addMedal_X1 5 (by decide) (by decide +kernel) rfl rfl dX1_addMedal_23 ?_
    refine lv_aload_n X.1 X.2.1 dX1_addMedal_26 rfl (lv_at hl 0 rfl) ?_
    refine x_get X hP hG_n.1 (by omega) rfl in_X1_addMedal_X1 3 (by decide) (by decide +kernel) rfl rfl dX1_addMedal_27 ?_
    refine lv_iload_n X.1 X.2.1 dX1_addMedal_30 rfl (lv_at hl 2 rfl) ?_
    obtain ⟨hi3, hf⟩ := gin_of hf
    refine x_iast X hP hS hG_n.2.2.2.2.1 (by omega) hi3 dX1_addMedal_31 (fun E H locs h1 hk hP hS => ?_)
    have hG_n := Mu_set_4 hG_n h1 hk
    have hfr : ∀ j, (j < b ∨ b + 7 ≤ j) → E j = E0 j := fun j o0 => (hk j (by omega)).trans (hfr j o0)
    refine lv_aload_n X.1 X.2.1 dX1_addMedal_32 rfl (lv_at hl 0 rfl) ?_
    refine x_get X hP hG_n.1 (by omega) rfl in_X1_addMedal_X1 6 (by decide) (by decide +kernel) rfl rfl dX1_addMedal_33 ?_
    refine lv_aload_n X.1 X.2.1 dX1_addMedal_36 rfl (lv_at hl 0 rfl) ?_
    refine x_get X hP hG_n.1 (by omega) rfl in_X1_addMedal_X1 3 (by decide) (by decide +kernel) rfl rfl dX1_addMedal_37 ?_
    refine lv_iload_n X.1 X.2.1 dX1_addMedal_40 rfl (lv_at hl 3 rfl) ?_
    obtain ⟨hi4, hf⟩ := gin_of hf
    refine x_iast X hP hS hG_n.2.2.2.2.2.1 (by omega) hi4 dX1_addMedal_41 (fun E H locs h1 hk hP hS => ?_)
    have hG_n := Mu_set_5 hG_n h1 hk
    have hfr : ∀ j, (j < b ∨ b + 7 ≤ j) → E j = E0 j := fun j o0 => (hk j (by omega)).trans (hfr j o0)
    refine lv_aload_n X.1 X.2.1 dX1_addMedal_42 rfl (lv_at hl 0 rfl) ?_
    refine x_get X hP hG_n.1 (by omega) rfl in_X1_addMedal_X1 7 (by decide) (by decide +kernel) rfl rfl dX1_addMedal_43 ?_
    refine lv_aload_n X.1 X.2.1 dX1_addMedal_46 rfl (lv_at hl 0 rfl) ?_
    refine x_get X hP hG_n.1 (by omega) rfl in_X1_addMedal_X1 3 (by decide) (by decide +kernel) rfl rfl dX1_addMedal_47 ?_
    refine lv_iload X.1 X.2.1 dX1_addMedal_50 (lv_at hl 4 rfl) ?_
    obtain ⟨hi5, hf⟩ := gin_of hf
    refine x_iast X hP hS hG_n.2.2.2.2.2.2 (by omega) hi5 dX1_addMedal_52 (fun E H locs h1 hk hP hS => ?_)
    have hG_n := Mu_set_6 hG_n h1 hk
    have hfr : ∀ j, (j < b ∨ b + 7 ≤ j) → E j = E0 j := fun j o0 => (hk j (by omega)).trans (hfr j o0)
    refine lv_aload_n X.1 X.2.1 dX1_addMedal_53 rfl (lv_at hl 0 rfl) ?_
    refine lv_dup X.1 X.2.1 dX1_addMedal_54 rfl ?_
    refine x_get X hP hG_n.1 (by omega) rfl in_X1_addMedal_X1 3 (by decide) (by decide +kernel) rfl rfl dX1_addMedal_55 ?_
    refine lv_iconst (v := 1) X.1 X.2.1 dX1_addMedal_58 (by decide) ?_
    refine lv_iadd X.1 X.2.1 dX1_addMedal_59 ?_
    refine x_put (ty := .int) X hP hS hG_n.1 (by omega) rfl in_X1_addMedal_X1 tyX1 tyX1_ok nmX1 3 (by decide) (by decide +kernel) rfl rfl (by decide +kernel) rfl rfl (Nat.le_of_ble_eq_true rfl) dX1_addMedal_60 (fun E H locs h1 hk hP hS => ?_)
    have hG_n := Mu_set_0 hG_n h1 hk
    have hfr : ∀ j, (j < b ∨ b + 7 ≤ j) → E j = E0 j := fun j o0 => (hk j (by omega)).trans (hfr j o0)
    refine lv_aload_n X.1 X.2.1 dX1_addMedal_63 rfl (lv_at hl 0 rfl) ?_
    refine x_get X hP hG_n.1 (by omega) rfl in_X1_addMedal_X1 3 (by decide) (by decide +kernel) rfl rfl dX1_addMedal_64 ?_
    refine lv_iconst (v := 1) X.1 X.2.1 dX1_addMedal_67 (by decide) ?_
    refine lv_isub X.1 X.2.1 dX1_addMedal_68 ?_
    obtain rfl := Option.some.inj hf
    exact hret _ _ _ _ _ _ dX1_addMedal_69 rfl rfl (⟨hG_n, hfr⟩) hP hS
  · have hf := ifn hf c1
    refine lv_bipush (v := (-3)) X.1 X.2.1 dX1_addMedal_9 (by decide) ?_
    obtain rfl := Option.some.inj hf
    exact hret _ _ _ _ _ _ dX1_addMedal_11 rfl rfl (⟨hG_n, hfr⟩) hP hS
def fX1_loadOn (p1 : Int32) (p2 : Int32) (md_n : Int32) (ki_n : Nat → Int32) (we_n : Nat → Int32) (wo_n : Nat → Int32) (wr_n : Nat → Int32) : Option Int32 := (fX1_wornBy p1 md_n wr_n).bind (fun r1 => (fX1_loadOfSet p1 r1 p2 md_n ki_n we_n wo_n).bind (fun r2 => some r2))
theorem in_X1_loadOn_X1 : ∀ w ∈ wsX10, w ∈ wsX1_loadOn := by decide +kernel
set_option maxHeartbeats 4000000 in
set_option maxRecDepth 100000 in
theorem ct_X1_loadOn {l : Launch} {D : va_G} {g : Nat → ClassId} {qa : Nat → Nat} {E0 : Nat → va_E} {b : Nat} {p1 : Int32} {p2 : Int32} {men_n : Int32} {md_n : Int32} {day_n : Int32} {drw_n : Int32} {bu_n : Nat → Int32} {st_n : Nat → Int32} {ki_n : Nat → Int32} {we_n : Nat → Int32} {wo_n : Nat → Int32} {wr_n : Nat → Int32} (hb_n : b + 7 ≤ 74) (hG_n : Mu g qa E0 b men_n md_n day_n drw_n bu_n st_n ki_n we_n wo_n wr_n) {R : Int32} (hf : fX1_loadOn p1 p2 md_n ki_n we_n wo_n wr_n = some R) : MI l yX1_loadOn wsX1_loadOn 2 D g qa E0 [.ref (qa b), .int p1, .int p2] R (fun E => E = E0) := by
  refine MI.mk (by decide) rfl (Nat.le_of_ble_eq_true rfl) ?_
  intro p e s m args below meth c ls Q X hret hP hS hl
  have hl : lv_has ls 3 [(0, .ref (qa b)), (1, .int p1), (2, .int p2)] := hl
  rw [fX1_loadOn] at hf
  refine lv_aload_n X.1 X.2.1 dX1_loadOn_0 rfl (lv_at hl 0 rfl) ?_
  refine lv_iload_n X.1 X.2.1 dX1_loadOn_1 rfl (lv_at hl 1 rfl) ?_
  refine lv_aload_n X.1 X.2.1 dX1_loadOn_2 rfl (lv_at hl 0 rfl) ?_
  refine lv_iload_n X.1 X.2.1 dX1_loadOn_3 rfl (lv_at hl 1 rfl) ?_
  obtain ⟨r1, hr1, hf⟩ := bd_of hf
  refine x_rdVi X hP hS hG_n.1 (by omega) rfl (n := 1) (As := [.int p1]) (ct_X1_wornBy (by omega) hG_n hr1) gX1_loadOn_X1_wornBy rfl (by decide +kernel) ⟨by decide, by decide⟩ rfl hl.1 rfl (Nat.le_of_ble_eq_true rfl) dX1_loadOn_4 (fun H locs hP hS => ?_)
  refine lv_iload_n X.1 X.2.1 dX1_loadOn_7 rfl (lv_at hl 2 rfl) ?_
  obtain ⟨r2, hr2, hf⟩ := bd_of hf
  refine x_rdVi X hP hS hG_n.1 (by omega) rfl (n := 3) (As := [.int p1, .int r1, .int p2]) (ct_X1_loadOfSet (by omega) hG_n hr2) gX1_loadOn_X1_loadOfSet rfl (by decide +kernel) ⟨by decide, by decide⟩ rfl hl.1 rfl (Nat.le_of_ble_eq_true rfl) dX1_loadOn_8 (fun H locs hP hS => ?_)
  obtain rfl := Option.some.inj hf
  exact hret _ _ _ _ _ _ dX1_loadOn_11 rfl rfl (rfl) hP hS
def fX1_isBent (p1 : Int32) (md_n : Int32) (day_n : Int32) (st_n : Nat → Int32) (ki_n : Nat → Int32) (we_n : Nat → Int32) (wo_n : Nat → Int32) (wr_n : Nat → Int32) : Option Int32 := (fX1_loadOn p1 day_n md_n ki_n we_n wo_n wr_n).bind (fun r1 => gin p1 5 (if r1 ≤ (st_n (Int32.toNatClampNeg p1)) then (some 0) else (some 1)))
theorem in_X1_isBent_X1 : ∀ w ∈ wsX10, w ∈ wsX1_isBent := by decide +kernel
set_option maxHeartbeats 4000000 in
set_option maxRecDepth 100000 in
theorem ct_X1_isBent {l : Launch} {D : va_G} {g : Nat → ClassId} {qa : Nat → Nat} {E0 : Nat → va_E} {b : Nat} {p1 : Int32} {men_n : Int32} {md_n : Int32} {day_n : Int32} {drw_n : Int32} {bu_n : Nat → Int32} {st_n : Nat → Int32} {ki_n : Nat → Int32} {we_n : Nat → Int32} {wo_n : Nat → Int32} {wr_n : Nat → Int32} (hb_n : b + 7 ≤ 74) (hG_n : Mu g qa E0 b men_n md_n day_n drw_n bu_n st_n ki_n we_n wo_n wr_n) {R : Int32} (hf : fX1_isBent p1 md_n day_n st_n ki_n we_n wo_n wr_n = some R) : MI l yX1_isBent wsX1_isBent 3 D g qa E0 [.ref (qa b), .int p1] R (fun E => E = E0) := by
  refine MI.mk (by decide) rfl (Nat.le_of_ble_eq_true rfl) ?_
  intro p e s m args below meth c ls Q X hret hP hS hl
  have hl : lv_has ls 2 [(0, .ref (qa b)), (1, .int p1)] := hl
  rw [fX1_isBent] at hf
  refine lv_aload_n X.1 X.2.1 dX1_isBent_0 rfl (lv_at hl 0 rfl) ?_
  refine lv_iload_n X.1 X.2.1 dX1_isBent_1 rfl (lv_at hl 1 rfl) ?_
  refine lv_aload_n X.1 X.2.1 dX1_isBent_2 rfl (lv_at hl 0 rfl) ?_
  refine x_get X hP hG_n.1 (by omega) rfl in_X1_isBent_X1 8 (by decide) (by decide +kernel) rfl rfl dX1_isBent_3 ?_
  obtain ⟨r1, hr1, hf⟩ := bd_of hf
  refine x_rdVi X hP hS hG_n.1 (by omega) rfl (n := 2) (As := [.int p1, .int day_n]) (ct_X1_loadOn (by omega) hG_n hr1) gX1_isBent_X1_loadOn rfl (by decide +kernel) ⟨by decide, by decide⟩ rfl hl.1 rfl (Nat.le_of_ble_eq_true rfl) dX1_isBent_6 (fun H locs hP hS => ?_)
  refine lv_aload_n X.1 X.2.1 dX1_isBent_9 rfl (lv_at hl 0 rfl) ?_
  refine x_get X hP hG_n.1 (by omega) rfl in_X1_isBent_X1 2 (by decide) (by decide +kernel) rfl rfl dX1_isBent_10 ?_
  refine lv_iload_n X.1 X.2.1 dX1_isBent_13 rfl (lv_at hl 1 rfl) ?_
  obtain ⟨hi2, hf⟩ := gin_of hf
  refine x_iald X hP hG_n.2.2.1 (by omega) hi2 dX1_isBent_14 ?_
  refine lv_icmp_le (tgt := 22) X.1 X.2.1 dX1_isBent_15 (by decide) (fun c3 => ?_) (fun c3 => ?_)
  · have hf := ifp hf c3
    refine lv_iconst (v := 0) X.1 X.2.1 dX1_isBent_22 (by decide) ?_
    obtain rfl := Option.some.inj hf
    exact hret _ _ _ _ _ _ dX1_isBent_23 rfl rfl (rfl) hP hS
  · have hf := ifn hf c3
    refine lv_iconst (v := 1) X.1 X.2.1 dX1_isBent_18 (by decide) ?_
    refine lv_goto (tgt := 23) X.1 X.2.1 dX1_isBent_19 (by decide) ?_
    obtain rfl := Option.some.inj hf
    exact hret _ _ _ _ _ _ dX1_isBent_23 rfl rfl (rfl) hP hS
def bX1_allBent_4 (men_n : Int32) (md_n : Int32) (day_n : Int32) (st_n : Nat → Int32) (ki_n : Nat → Int32) (we_n : Nat → Int32) (wo_n : Nat → Int32) (wr_n : Nat → Int32) (K1 : ((Int32 × Int32)) → Option Int32) : ((Int32 × Int32)) → Option Int32
  | (v1_1, v2_1) => if men_n ≤ v2_1 then (some v1_1) else ((fX1_isBent v2_1 md_n day_n st_n ki_n we_n wo_n wr_n).bind (fun r3 => if r3 = 0 then (nm (v2_1 + 1) (fun x5 => K1 (v1_1, x5))) else (nm (v1_1 ||| (1 <<< (v2_1 &&& 31))) (fun x6 => nm (v2_1 + 1) (fun x7 => K1 (x6, x7))))))
def fX1_allBent  (men_n : Int32) (md_n : Int32) (day_n : Int32) (st_n : Nat → Int32) (ki_n : Nat → Int32) (we_n : Nat → Int32) (wo_n : Nat → Int32) (wr_n : Nat → Int32) : Option Int32 := lp (bX1_allBent_4 men_n md_n day_n st_n ki_n we_n wo_n wr_n) FU (0, 0)
theorem in_X1_allBent_X1 : ∀ w ∈ wsX10, w ∈ wsX1_allBent := by decide +kernel
set_option maxHeartbeats 4000000 in
set_option maxRecDepth 100000 in
theorem ct_X1_allBent {l : Launch} {D : va_G} {g : Nat → ClassId} {qa : Nat → Nat} {E0 : Nat → va_E} {b : Nat} {men_n : Int32} {md_n : Int32} {day_n : Int32} {drw_n : Int32} {bu_n : Nat → Int32} {st_n : Nat → Int32} {ki_n : Nat → Int32} {we_n : Nat → Int32} {wo_n : Nat → Int32} {wr_n : Nat → Int32} (hb_n : b + 7 ≤ 74) (hG_n : Mu g qa E0 b men_n md_n day_n drw_n bu_n st_n ki_n we_n wo_n wr_n) {R : Int32} (hf : fX1_allBent men_n md_n day_n st_n ki_n we_n wo_n wr_n = some R) : MI l yX1_allBent wsX1_allBent 4 D g qa E0 [.ref (qa b)] R (fun E => E = E0) := by
  refine MI.mk (by decide) rfl (Nat.le_of_ble_eq_true rfl) ?_
  intro p e s m args below meth c ls Q X hret hP hS hl
  have hl : lv_has ls 3 [(0, .ref (qa b))] := hl
  rw [fX1_allBent] at hf
  refine lv_iconst (v := 0) X.1 X.2.1 dX1_allBent_0 (by decide) ?_
  refine lv_istore_n (lv' := [(1, .int 0), (0, .ref (qa b))]) X.1 X.2.1 dX1_allBent_1 rfl hl (by decide) rfl (fun ls hl => ?_)
  refine lv_iconst (v := 0) X.1 X.2.1 dX1_allBent_2 (by decide) ?_
  refine lv_istore_n (lv' := [(2, .int 0), (1, .int 0), (0, .ref (qa b))]) X.1 X.2.1 dX1_allBent_3 rfl hl (by decide) rfl (fun ls hl => ?_)
  have lp1 : ∀ (n1 : Nat) (v1_1 : Int32) (v2_1 : Int32) (H : Heap) (locs : List Loc) (ls : Array Slot), lp (bX1_allBent_4 men_n md_n day_n st_n ki_n we_n wo_n wr_n) n1 (v1_1, v2_1) = some R → va_P D vwCl (WD qa E0) H → va_S (gA qa s.heap.size) s.heap H locs → lv_has ls 3 [(0, .ref (qa b)), (1, .int v1_1), (2, .int v2_1)] → W p l e (rmf 4) s m args below meth c H locs 0 0 Q (F0 m 4 ls []) := by
    intro n1
    induction n1 with
    | zero =>
      intro v1_1 v2_1 H locs ls hf
      exact absurd hf (by intro h; cases h)
    | succ n1 ih1 =>
      intro v1_1 v2_1 H locs ls hf hP hS hl
      have hf : bX1_allBent_4 men_n md_n day_n st_n ki_n we_n wo_n wr_n (lp (bX1_allBent_4 men_n md_n day_n st_n ki_n we_n wo_n wr_n) n1) (v1_1, v2_1) = some R := hf
      rw [bX1_allBent_4] at hf
      refine lv_iload_n X.1 X.2.1 dX1_allBent_4 rfl (lv_at hl 2 rfl) ?_
      refine lv_aload_n X.1 X.2.1 dX1_allBent_5 rfl (lv_at hl 0 rfl) ?_
      refine x_get X hP hG_n.1 (by omega) rfl in_X1_allBent_X1 0 (by decide) (by decide +kernel) rfl rfl dX1_allBent_6 ?_
      refine lv_icmp_ge (tgt := 32) X.1 X.2.1 dX1_allBent_9 (by decide) (fun c2 => ?_) (fun c2 => ?_)
      · have hf := ifp hf c2
        refine lv_iload_n X.1 X.2.1 dX1_allBent_32 rfl (lv_at hl 1 rfl) ?_
        obtain rfl := Option.some.inj hf
        exact hret _ _ _ _ _ _ dX1_allBent_33 rfl rfl (rfl) hP hS
      · have hf := ifn hf c2
        refine lv_aload_n X.1 X.2.1 dX1_allBent_12 rfl (lv_at hl 0 rfl) ?_
        refine lv_iload_n X.1 X.2.1 dX1_allBent_13 rfl (lv_at hl 2 rfl) ?_
        obtain ⟨r3, hr3, hf⟩ := bd_of hf
        refine x_rdVi X hP hS hG_n.1 (by omega) rfl (n := 1) (As := [.int v2_1]) (ct_X1_isBent (by omega) hG_n hr3) gX1_allBent_X1_isBent rfl (by decide +kernel) ⟨by decide, by decide⟩ rfl hl.1 rfl (Nat.le_of_ble_eq_true rfl) dX1_allBent_14 (fun H locs hP hS => ?_)
        refine lv_if_eq (tgt := 26) X.1 X.2.1 dX1_allBent_17 (by decide) (fun c4 => ?_) (fun c4 => ?_)
        · have hf := ifp hf c4
          obtain ⟨x5, ex5, hf⟩ := nm_of hf
          refine lv_iinc (v := x5) (lv' := [(2, .int x5), (0, .ref (qa b)), (1, .int v1_1)]) X.1 X.2.1 dX1_allBent_26 hl (k := 2) rfl (by rw [ex5]; rfl) (by decide) rfl (fun ls hl => ?_)
          refine lv_goto (tgt := 4) X.1 X.2.1 dX1_allBent_29 (by decide) ?_
          exact ih1 v1_1 x5 _ _ _ hf hP hS (lv_sub hl [1, 2, 0] rfl)
        · have hf := ifn hf c4
          refine lv_iload_n X.1 X.2.1 dX1_allBent_20 rfl (lv_at hl 1 rfl) ?_
          refine lv_iconst (v := 1) X.1 X.2.1 dX1_allBent_21 (by decide) ?_
          refine lv_iload_n X.1 X.2.1 dX1_allBent_22 rfl (lv_at hl 2 rfl) ?_
          refine lv_ishl X.1 X.2.1 dX1_allBent_23 ?_
          refine lv_ior X.1 X.2.1 dX1_allBent_24 ?_
          obtain ⟨x6, ex6, hf⟩ := nm_of hf
          refine lv_top_as ex6 ?_
          refine lv_istore_n (lv' := [(1, .int x6), (0, .ref (qa b)), (2, .int v2_1)]) X.1 X.2.1 dX1_allBent_25 rfl hl (by decide) rfl (fun ls hl => ?_)
          obtain ⟨x7, ex7, hf⟩ := nm_of hf
          refine lv_iinc (v := x7) (lv' := [(2, .int x7), (1, .int x6), (0, .ref (qa b))]) X.1 X.2.1 dX1_allBent_26 hl (k := 2) rfl (by rw [ex7]; rfl) (by decide) rfl (fun ls hl => ?_)
          refine lv_goto (tgt := 4) X.1 X.2.1 dX1_allBent_29 (by decide) ?_
          exact ih1 x6 x7 _ _ _ hf hP hS (lv_sub hl [2, 1, 0] rfl)
  exact lp1 FU 0 0 _ _ _ hf hP hS (lv_sub hl [2, 1, 0] rfl)
def bX1_allLoads_4 (men_n : Int32) (md_n : Int32) (day_n : Int32) (ki_n : Nat → Int32) (we_n : Nat → Int32) (wo_n : Nat → Int32) (wr_n : Nat → Int32) (K1 : ((Int32 × Int32)) → Option Int32) : ((Int32 × Int32)) → Option Int32
  | (v1_1, v2_1) => if men_n ≤ v2_1 then (some v1_1) else ((fX1_loadOn v2_1 day_n md_n ki_n we_n wo_n wr_n).bind (fun r3 => nm (v1_1 + r3) (fun x4 => nm (v2_1 + 1) (fun x5 => K1 (x4, x5)))))
def fX1_allLoads  (men_n : Int32) (md_n : Int32) (day_n : Int32) (ki_n : Nat → Int32) (we_n : Nat → Int32) (wo_n : Nat → Int32) (wr_n : Nat → Int32) : Option Int32 := lp (bX1_allLoads_4 men_n md_n day_n ki_n we_n wo_n wr_n) FU (0, 0)
theorem in_X1_allLoads_X1 : ∀ w ∈ wsX10, w ∈ wsX1_allLoads := by decide +kernel
set_option maxHeartbeats 4000000 in
set_option maxRecDepth 100000 in
theorem ct_X1_allLoads {l : Launch} {D : va_G} {g : Nat → ClassId} {qa : Nat → Nat} {E0 : Nat → va_E} {b : Nat} {men_n : Int32} {md_n : Int32} {day_n : Int32} {drw_n : Int32} {bu_n : Nat → Int32} {st_n : Nat → Int32} {ki_n : Nat → Int32} {we_n : Nat → Int32} {wo_n : Nat → Int32} {wr_n : Nat → Int32} (hb_n : b + 7 ≤ 74) (hG_n : Mu g qa E0 b men_n md_n day_n drw_n bu_n st_n ki_n we_n wo_n wr_n) {R : Int32} (hf : fX1_allLoads men_n md_n day_n ki_n we_n wo_n wr_n = some R) : MI l yX1_allLoads wsX1_allLoads 3 D g qa E0 [.ref (qa b)] R (fun E => E = E0) := by
  refine MI.mk (by decide) rfl (Nat.le_of_ble_eq_true rfl) ?_
  intro p e s m args below meth c ls Q X hret hP hS hl
  have hl : lv_has ls 3 [(0, .ref (qa b))] := hl
  rw [fX1_allLoads] at hf
  refine lv_iconst (v := 0) X.1 X.2.1 dX1_allLoads_0 (by decide) ?_
  refine lv_istore_n (lv' := [(1, .int 0), (0, .ref (qa b))]) X.1 X.2.1 dX1_allLoads_1 rfl hl (by decide) rfl (fun ls hl => ?_)
  refine lv_iconst (v := 0) X.1 X.2.1 dX1_allLoads_2 (by decide) ?_
  refine lv_istore_n (lv' := [(2, .int 0), (1, .int 0), (0, .ref (qa b))]) X.1 X.2.1 dX1_allLoads_3 rfl hl (by decide) rfl (fun ls hl => ?_)
  have lp1 : ∀ (n1 : Nat) (v1_1 : Int32) (v2_1 : Int32) (H : Heap) (locs : List Loc) (ls : Array Slot), lp (bX1_allLoads_4 men_n md_n day_n ki_n we_n wo_n wr_n) n1 (v1_1, v2_1) = some R → va_P D vwCl (WD qa E0) H → va_S (gA qa s.heap.size) s.heap H locs → lv_has ls 3 [(0, .ref (qa b)), (1, .int v1_1), (2, .int v2_1)] → W p l e (rmf 3) s m args below meth c H locs 0 0 Q (F0 m 4 ls []) := by
    intro n1
    induction n1 with
    | zero =>
      intro v1_1 v2_1 H locs ls hf
      exact absurd hf (by intro h; cases h)
    | succ n1 ih1 =>
      intro v1_1 v2_1 H locs ls hf hP hS hl
      have hf : bX1_allLoads_4 men_n md_n day_n ki_n we_n wo_n wr_n (lp (bX1_allLoads_4 men_n md_n day_n ki_n we_n wo_n wr_n) n1) (v1_1, v2_1) = some R := hf
      rw [bX1_allLoads_4] at hf
      refine lv_iload_n X.1 X.2.1 dX1_allLoads_4 rfl (lv_at hl 2 rfl) ?_
      refine lv_aload_n X.1 X.2.1 dX1_allLoads_5 rfl (lv_at hl 0 rfl) ?_
      refine x_get X hP hG_n.1 (by omega) rfl in_X1_allLoads_X1 0 (by decide) (by decide +kernel) rfl rfl dX1_allLoads_6 ?_
      refine lv_icmp_ge (tgt := 30) X.1 X.2.1 dX1_allLoads_9 (by decide) (fun c2 => ?_) (fun c2 => ?_)
      · have hf := ifp hf c2
        refine lv_iload_n X.1 X.2.1 dX1_allLoads_30 rfl (lv_at hl 1 rfl) ?_
        obtain rfl := Option.some.inj hf
        exact hret _ _ _ _ _ _ dX1_allLoads_31 rfl rfl (rfl) hP hS
      · have hf := ifn hf c2
        refine lv_iload_n X.1 X.2.1 dX1_allLoads_12 rfl (lv_at hl 1 rfl) ?_
        refine lv_aload_n X.1 X.2.1 dX1_allLoads_13 rfl (lv_at hl 0 rfl) ?_
        refine lv_iload_n X.1 X.2.1 dX1_allLoads_14 rfl (lv_at hl 2 rfl) ?_
        refine lv_aload_n X.1 X.2.1 dX1_allLoads_15 rfl (lv_at hl 0 rfl) ?_
        refine x_get X hP hG_n.1 (by omega) rfl in_X1_allLoads_X1 8 (by decide) (by decide +kernel) rfl rfl dX1_allLoads_16 ?_
        obtain ⟨r3, hr3, hf⟩ := bd_of hf
        refine x_rdVi X hP hS hG_n.1 (by omega) rfl (n := 2) (As := [.int v2_1, .int day_n]) (ct_X1_loadOn (by omega) hG_n hr3) gX1_allLoads_X1_loadOn rfl (by decide +kernel) ⟨by decide, by decide⟩ rfl hl.1 rfl (Nat.le_of_ble_eq_true rfl) dX1_allLoads_19 (fun H locs hP hS => ?_)
        refine lv_iadd X.1 X.2.1 dX1_allLoads_22 ?_
        obtain ⟨x4, ex4, hf⟩ := nm_of hf
        refine lv_top_as ex4 ?_
        refine lv_istore_n (lv' := [(1, .int x4), (0, .ref (qa b)), (2, .int v2_1)]) X.1 X.2.1 dX1_allLoads_23 rfl hl (by decide) rfl (fun ls hl => ?_)
        obtain ⟨x5, ex5, hf⟩ := nm_of hf
        refine lv_iinc (v := x5) (lv' := [(2, .int x5), (1, .int x4), (0, .ref (qa b))]) X.1 X.2.1 dX1_allLoads_24 hl (k := 2) rfl (by rw [ex5]; rfl) (by decide) rfl (fun ls hl => ?_)
        refine lv_goto (tgt := 4) X.1 X.2.1 dX1_allLoads_27 (by decide) ?_
        exact ih1 x4 x5 _ _ _ hf hP hS (lv_sub hl [2, 1, 0] rfl)
  exact lp1 FU 0 0 _ _ _ hf hP hS (lv_sub hl [2, 1, 0] rfl)
def bX1_allStrength_4 (men_n : Int32) (st_n : Nat → Int32) (K1 : ((Int32 × Int32)) → Option Int32) : ((Int32 × Int32)) → Option Int32
  | (v1_1, v2_1) => if men_n ≤ v2_1 then (some v1_1) else (gin v2_1 5 (nm (v1_1 + (st_n (Int32.toNatClampNeg v2_1))) (fun x4 => nm (v2_1 + 1) (fun x5 => K1 (x4, x5)))))
def fX1_allStrength  (men_n : Int32) (st_n : Nat → Int32) : Option Int32 := lp (bX1_allStrength_4 men_n st_n) FU (0, 0)
theorem in_X1_allStrength_X1 : ∀ w ∈ wsX10, w ∈ wsX1_allStrength := by decide +kernel
set_option maxHeartbeats 4000000 in
set_option maxRecDepth 100000 in
theorem ct_X1_allStrength {l : Launch} {D : va_G} {g : Nat → ClassId} {qa : Nat → Nat} {E0 : Nat → va_E} {b : Nat} {men_n : Int32} {md_n : Int32} {day_n : Int32} {drw_n : Int32} {bu_n : Nat → Int32} {st_n : Nat → Int32} {ki_n : Nat → Int32} {we_n : Nat → Int32} {wo_n : Nat → Int32} {wr_n : Nat → Int32} (hb_n : b + 7 ≤ 74) (hG_n : Mu g qa E0 b men_n md_n day_n drw_n bu_n st_n ki_n we_n wo_n wr_n) {R : Int32} (hf : fX1_allStrength men_n st_n = some R) : MI l yX1_allStrength wsX1_allStrength 0 D g qa E0 [.ref (qa b)] R (fun E => E = E0) := by
  refine MI.mk (by decide) rfl (Nat.le_of_ble_eq_true rfl) ?_
  intro p e s m args below meth c ls Q X hret hP hS hl
  have hl : lv_has ls 3 [(0, .ref (qa b))] := hl
  rw [fX1_allStrength] at hf
  refine lv_iconst (v := 0) X.1 X.2.1 dX1_allStrength_0 (by decide) ?_
  refine lv_istore_n (lv' := [(1, .int 0), (0, .ref (qa b))]) X.1 X.2.1 dX1_allStrength_1 rfl hl (by decide) rfl (fun ls hl => ?_)
  refine lv_iconst (v := 0) X.1 X.2.1 dX1_allStrength_2 (by decide) ?_
  refine lv_istore_n (lv' := [(2, .int 0), (1, .int 0), (0, .ref (qa b))]) X.1 X.2.1 dX1_allStrength_3 rfl hl (by decide) rfl (fun ls hl => ?_)
  have lp1 : ∀ (n1 : Nat) (v1_1 : Int32) (v2_1 : Int32) (H : Heap) (locs : List Loc) (ls : Array Slot), lp (bX1_allStrength_4 men_n st_n) n1 (v1_1, v2_1) = some R → va_P D vwCl (WD qa E0) H → va_S (gA qa s.heap.size) s.heap H locs → lv_has ls 3 [(0, .ref (qa b)), (1, .int v1_1), (2, .int v2_1)] → W p l e (rmf 0) s m args below meth c H locs 0 0 Q (F0 m 4 ls []) := by
    intro n1
    induction n1 with
    | zero =>
      intro v1_1 v2_1 H locs ls hf
      exact absurd hf (by intro h; cases h)
    | succ n1 ih1 =>
      intro v1_1 v2_1 H locs ls hf hP hS hl
      have hf : bX1_allStrength_4 men_n st_n (lp (bX1_allStrength_4 men_n st_n) n1) (v1_1, v2_1) = some R := hf
      rw [bX1_allStrength_4] at hf
      refine lv_iload_n X.1 X.2.1 dX1_allStrength_4 rfl (lv_at hl 2 rfl) ?_
      refine lv_aload_n X.1 X.2.1 dX1_allStrength_5 rfl (lv_at hl 0 rfl) ?_
      refine x_get X hP hG_n.1 (by omega) rfl in_X1_allStrength_X1 0 (by decide) (by decide +kernel) rfl rfl dX1_allStrength_6 ?_
      refine lv_icmp_ge (tgt := 27) X.1 X.2.1 dX1_allStrength_9 (by decide) (fun c2 => ?_) (fun c2 => ?_)
      · have hf := ifp hf c2
        refine lv_iload_n X.1 X.2.1 dX1_allStrength_27 rfl (lv_at hl 1 rfl) ?_
        obtain rfl := Option.some.inj hf
        exact hret _ _ _ _ _ _ dX1_allStrength_28 rfl rfl (rfl) hP hS
      · have hf := ifn hf c2
        refine lv_iload_n X.1 X.2.1 dX1_allStrength_12 rfl (lv_at hl 1 rfl) ?_
        refine lv_aload_n X.1 X.2.1 dX1_allStrength_13 rfl (lv_at hl 0 rfl) ?_
        refine x_get X hP hG_n.1 (by omega) rfl in_X1_allStrength_X1 2 (by decide) (by decide +kernel) rfl rfl dX1_allStrength_14 ?_
        refine lv_iload_n X.1 X.2.1 dX1_allStrength_17 rfl (lv_at hl 2 rfl) ?_
        obtain ⟨hi3, hf⟩ := gin_of hf
        refine x_iald X hP hG_n.2.2.1 (by omega) hi3 dX1_allStrength_18 ?_
        refine lv_iadd X.1 X.2.1 dX1_allStrength_19 ?_
        obtain ⟨x4, ex4, hf⟩ := nm_of hf
        refine lv_top_as ex4 ?_
        refine lv_istore_n (lv' := [(1, .int x4), (0, .ref (qa b)), (2, .int v2_1)]) X.1 X.2.1 dX1_allStrength_20 rfl hl (by decide) rfl (fun ls hl => ?_)
        obtain ⟨x5, ex5, hf⟩ := nm_of hf
        refine lv_iinc (v := x5) (lv' := [(2, .int x5), (1, .int x4), (0, .ref (qa b))]) X.1 X.2.1 dX1_allStrength_21 hl (k := 2) rfl (by rw [ex5]; rfl) (by decide) rfl (fun ls hl => ?_)
        refine lv_goto (tgt := 4) X.1 X.2.1 dX1_allStrength_24 (by decide) ?_
        exact ih1 x4 x5 _ _ _ hf hP hS (lv_sub hl [2, 1, 0] rfl)
  exact lp1 FU 0 0 _ _ _ hf hP hS (lv_sub hl [2, 1, 0] rfl)
def fX1_bearsNow (p1 : Int32) (md_n : Int32) (day_n : Int32) (ki_n : Nat → Int32) (we_n : Nat → Int32) (wo_n : Nat → Int32) (wr_n : Nat → Int32) : Option Int32 := gin p1 6 (nm (wr_n (Int32.toNatClampNeg p1)) (fun x2 => if x2 = (-4) then (some 0) else ((fX1_wornBy x2 md_n wr_n).bind (fun r4 => (fJ6_bitCount_0f7a4 r4).bind (fun r5 => (fX1_bears p1 x2 (r5 - 1) day_n ki_n we_n wo_n).bind (fun r6 => some r6))))))
theorem in_X1_bearsNow_X1 : ∀ w ∈ wsX10, w ∈ wsX1_bearsNow := by decide +kernel
set_option maxHeartbeats 4000000 in
set_option maxRecDepth 100000 in
theorem ct_X1_bearsNow {l : Launch} {D : va_G} {g : Nat → ClassId} {qa : Nat → Nat} {E0 : Nat → va_E} {b : Nat} {p1 : Int32} {men_n : Int32} {md_n : Int32} {day_n : Int32} {drw_n : Int32} {bu_n : Nat → Int32} {st_n : Nat → Int32} {ki_n : Nat → Int32} {we_n : Nat → Int32} {wo_n : Nat → Int32} {wr_n : Nat → Int32} (hb_n : b + 7 ≤ 74) (hG_n : Mu g qa E0 b men_n md_n day_n drw_n bu_n st_n ki_n we_n wo_n wr_n) {R : Int32} (hf : fX1_bearsNow p1 md_n day_n ki_n we_n wo_n wr_n = some R) : MI l yX1_bearsNow wsX1_bearsNow 2 D g qa E0 [.ref (qa b), .int p1] R (fun E => E = E0) := by
  refine MI.mk (by decide) rfl (Nat.le_of_ble_eq_true rfl) ?_
  intro p e s m args below meth c ls Q X hret hP hS hl
  have hl : lv_has ls 3 [(0, .ref (qa b)), (1, .int p1)] := hl
  rw [fX1_bearsNow] at hf
  refine lv_aload_n X.1 X.2.1 dX1_bearsNow_0 rfl (lv_at hl 0 rfl) ?_
  refine x_get X hP hG_n.1 (by omega) rfl in_X1_bearsNow_X1 7 (by decide) (by decide +kernel) rfl rfl dX1_bearsNow_1 ?_
  refine lv_iload_n X.1 X.2.1 dX1_bearsNow_4 rfl (lv_at hl 1 rfl) ?_
  obtain ⟨hi1, hf⟩ := gin_of hf
  refine x_iald X hP hG_n.2.2.2.2.2.2 (by omega) hi1 dX1_bearsNow_5 ?_
  obtain ⟨x2, ex2, hf⟩ := nm_of hf
  refine lv_top_as ex2 ?_
  refine lv_istore_n (lv' := [(2, .int x2), (0, .ref (qa b)), (1, .int p1)]) X.1 X.2.1 dX1_bearsNow_6 rfl hl (by decide) rfl (fun ls hl => ?_)
  refine lv_iload_n X.1 X.2.1 dX1_bearsNow_7 rfl (lv_at hl 0 rfl) ?_
  refine lv_bipush (v := (-4)) X.1 X.2.1 dX1_bearsNow_8 (by decide) ?_
  refine lv_icmp_ne (tgt := 15) X.1 X.2.1 dX1_bearsNow_10 (by decide) (fun c3 => ?_) (fun c3 => ?_)
  · have hf := ifn hf c3
    refine lv_aload_n X.1 X.2.1 dX1_bearsNow_15 rfl (lv_at hl 1 rfl) ?_
    refine lv_iload_n X.1 X.2.1 dX1_bearsNow_16 rfl (lv_at hl 2 rfl) ?_
    refine lv_iload_n X.1 X.2.1 dX1_bearsNow_17 rfl (lv_at hl 0 rfl) ?_
    refine lv_aload_n X.1 X.2.1 dX1_bearsNow_18 rfl (lv_at hl 1 rfl) ?_
    refine lv_iload_n X.1 X.2.1 dX1_bearsNow_19 rfl (lv_at hl 0 rfl) ?_
    obtain ⟨r4, hr4, hf⟩ := bd_of hf
    refine x_rdVi X hP hS hG_n.1 (by omega) rfl (n := 1) (As := [.int x2]) (ct_X1_wornBy (by omega) hG_n hr4) gX1_bearsNow_X1_wornBy rfl (by decide +kernel) ⟨by decide, by decide⟩ rfl hl.1 rfl (Nat.le_of_ble_eq_true rfl) dX1_bearsNow_20 (fun H locs hP hS => ?_)
    obtain ⟨r5, hr5, hf⟩ := bd_of hf
    refine x_rdSi X hP hS (index := 57) (n := 1) (As := [.int r4]) (ct_J6_bitCount_0f7a4  hr5) ggX1_bearsNow_J6_bitCount_0f7a4 (by decide +kernel) (by decide +kernel) (by decide +kernel) rfl (by decide +kernel) ⟨by decide, by decide⟩ rfl hl.1 rfl (Nat.le_of_ble_eq_true rfl) dX1_bearsNow_23 (fun H locs hP hS => ?_)
    refine lv_iconst (v := 1) X.1 X.2.1 dX1_bearsNow_26 (by decide) ?_
    refine lv_isub X.1 X.2.1 dX1_bearsNow_27 ?_
    refine lv_aload_n X.1 X.2.1 dX1_bearsNow_28 rfl (lv_at hl 1 rfl) ?_
    refine x_get X hP hG_n.1 (by omega) rfl in_X1_bearsNow_X1 8 (by decide) (by decide +kernel) rfl rfl dX1_bearsNow_29 ?_
    obtain ⟨r6, hr6, hf⟩ := bd_of hf
    refine x_rdVi X hP hS hG_n.1 (by omega) rfl (n := 4) (As := [.int p1, .int x2, .int (r5 - 1), .int day_n]) (ct_X1_bears (by omega) hG_n hr6) gX1_bearsNow_X1_bears rfl (by decide +kernel) ⟨by decide, by decide⟩ rfl hl.1 rfl (Nat.le_of_ble_eq_true rfl) dX1_bearsNow_32 (fun H locs hP hS => ?_)
    obtain rfl := Option.some.inj hf
    exact hret _ _ _ _ _ _ dX1_bearsNow_35 rfl rfl (rfl) hP hS
  · have hf := ifp hf c3
    refine lv_iconst (v := 0) X.1 X.2.1 dX1_bearsNow_13 (by decide) ?_
    obtain rfl := Option.some.inj hf
    exact hret _ _ _ _ _ _ dX1_bearsNow_14 rfl rfl (rfl) hP hS
def fX5_strengthNext (p1 : Int32) (p2 : Int32) (p3 : Int32)  : Option Int32 := if p3 ≤ p1 then (some (if (p1 + 1) < p2 then p1 + 1 else p2)) else (some (if 0 < (p1 - 1) then p1 - 1 else 0))
set_option maxHeartbeats 4000000 in
set_option maxRecDepth 100000 in
theorem ct_X5_strengthNext {l : Launch} {D : va_G} {g : Nat → ClassId} {qa : Nat → Nat} {E0 : Nat → va_E} {p1 : Int32} {p2 : Int32} {p3 : Int32} {R : Int32} (hf : fX5_strengthNext p1 p2 p3 = some R) : MI l yX5_strengthNext wsX5_strengthNext 1 D g qa E0 [.int p1, .int p2, .int p3] R (fun E => E = E0) := by
  refine MI.mk (by decide) rfl (Nat.le_of_ble_eq_true rfl) ?_
  intro p e s m args below meth c ls Q X hret hP hS hl
  have hl : lv_has ls 3 [(0, .int p1), (1, .int p2), (2, .int p3)] := hl
  rw [fX5_strengthNext] at hf
  refine lv_iload_n X.1 X.2.1 dX5_strengthNext_0 rfl (lv_at hl 2 rfl) ?_
  refine lv_iload_n X.1 X.2.1 dX5_strengthNext_1 rfl (lv_at hl 0 rfl) ?_
  refine lv_icmp_le (tgt := 15) X.1 X.2.1 dX5_strengthNext_2 (by decide) (fun c1 => ?_) (fun c1 => ?_)
  · have hf := ifp hf c1
    refine lv_iload_n X.1 X.2.1 dX5_strengthNext_15 rfl (lv_at hl 1 rfl) ?_
    refine lv_iload_n X.1 X.2.1 dX5_strengthNext_16 rfl (lv_at hl 0 rfl) ?_
    refine lv_iconst (v := 1) X.1 X.2.1 dX5_strengthNext_17 (by decide) ?_
    refine lv_iadd X.1 X.2.1 dX5_strengthNext_18 ?_
    refine x_min X (index := 165) (by decide +kernel) (by decide +kernel) (by decide +kernel) (by decide +kernel) hl.1 (by decide) (Nat.le_of_ble_eq_true rfl) dX5_strengthNext_19 ?_
    obtain rfl := Option.some.inj hf
    exact hret _ _ _ _ _ _ dX5_strengthNext_22 rfl rfl (rfl) hP hS
  · have hf := ifn hf c1
    refine lv_iconst (v := 0) X.1 X.2.1 dX5_strengthNext_5 (by decide) ?_
    refine lv_iload_n X.1 X.2.1 dX5_strengthNext_6 rfl (lv_at hl 0 rfl) ?_
    refine lv_iconst (v := 1) X.1 X.2.1 dX5_strengthNext_7 (by decide) ?_
    refine lv_isub X.1 X.2.1 dX5_strengthNext_8 ?_
    refine x_max X (index := 204) (by decide +kernel) (by decide +kernel) (by decide +kernel) (by decide +kernel) hl.1 (by decide) (Nat.le_of_ble_eq_true rfl) dX5_strengthNext_9 ?_
    refine lv_goto (tgt := 22) X.1 X.2.1 dX5_strengthNext_12 (by decide) ?_
    obtain rfl := Option.some.inj hf
    exact hret _ _ _ _ _ _ dX5_strengthNext_22 rfl rfl (rfl) hP hS
def fX1_strengthAfter (p1 : Int32) (p2 : Int32) (p3 : Int32) (md_n : Int32) (bu_n : Nat → Int32) (ki_n : Nat → Int32) (we_n : Nat → Int32) (wo_n : Nat → Int32) (wr_n : Nat → Int32) : Option Int32 := gin p1 5 ((fX1_loadOn p1 p3 md_n ki_n we_n wo_n wr_n).bind (fun r2 => (fX5_strengthNext p2 (bu_n (Int32.toNatClampNeg p1)) r2).bind (fun r3 => some r3)))
theorem in_X1_strengthAfter_X1 : ∀ w ∈ wsX10, w ∈ wsX1_strengthAfter := by decide +kernel
set_option maxHeartbeats 4000000 in
set_option maxRecDepth 100000 in
theorem ct_X1_strengthAfter {l : Launch} {D : va_G} {g : Nat → ClassId} {qa : Nat → Nat} {E0 : Nat → va_E} {b : Nat} {p1 : Int32} {p2 : Int32} {p3 : Int32} {men_n : Int32} {md_n : Int32} {day_n : Int32} {drw_n : Int32} {bu_n : Nat → Int32} {st_n : Nat → Int32} {ki_n : Nat → Int32} {we_n : Nat → Int32} {wo_n : Nat → Int32} {wr_n : Nat → Int32} (hb_n : b + 7 ≤ 74) (hG_n : Mu g qa E0 b men_n md_n day_n drw_n bu_n st_n ki_n we_n wo_n wr_n) {R : Int32} (hf : fX1_strengthAfter p1 p2 p3 md_n bu_n ki_n we_n wo_n wr_n = some R) : MI l yX1_strengthAfter wsX1_strengthAfter 3 D g qa E0 [.ref (qa b), .int p1, .int p2, .int p3] R (fun E => E = E0) := by
  refine MI.mk (by decide) rfl (Nat.le_of_ble_eq_true rfl) ?_
  intro p e s m args below meth c ls Q X hret hP hS hl
  have hl : lv_has ls 4 [(0, .ref (qa b)), (1, .int p1), (2, .int p2), (3, .int p3)] := hl
  rw [fX1_strengthAfter] at hf
  refine lv_iload_n X.1 X.2.1 dX1_strengthAfter_0 rfl (lv_at hl 2 rfl) ?_
  refine lv_aload_n X.1 X.2.1 dX1_strengthAfter_1 rfl (lv_at hl 0 rfl) ?_
  refine x_get X hP hG_n.1 (by omega) rfl in_X1_strengthAfter_X1 1 (by decide) (by decide +kernel) rfl rfl dX1_strengthAfter_2 ?_
  refine lv_iload_n X.1 X.2.1 dX1_strengthAfter_5 rfl (lv_at hl 1 rfl) ?_
  obtain ⟨hi1, hf⟩ := gin_of hf
  refine x_iald X hP hG_n.2.1 (by omega) hi1 dX1_strengthAfter_6 ?_
  refine lv_aload_n X.1 X.2.1 dX1_strengthAfter_7 rfl (lv_at hl 0 rfl) ?_
  refine lv_iload_n X.1 X.2.1 dX1_strengthAfter_8 rfl (lv_at hl 1 rfl) ?_
  refine lv_iload_n X.1 X.2.1 dX1_strengthAfter_9 rfl (lv_at hl 3 rfl) ?_
  obtain ⟨r2, hr2, hf⟩ := bd_of hf
  refine x_rdVi X hP hS hG_n.1 (by omega) rfl (n := 2) (As := [.int p1, .int p3]) (ct_X1_loadOn (by omega) hG_n hr2) gX1_strengthAfter_X1_loadOn rfl (by decide +kernel) ⟨by decide, by decide⟩ rfl hl.1 rfl (Nat.le_of_ble_eq_true rfl) dX1_strengthAfter_10 (fun H locs hP hS => ?_)
  obtain ⟨r3, hr3, hf⟩ := bd_of hf
  refine x_rdNi X hP hS (As := [.int p2, .int (bu_n (Int32.toNatClampNeg p1)), .int r2]) (ct_X5_strengthNext  hr3) ggX1_strengthAfter_X5_strengthNext (by decide +kernel) (by decide +kernel) rfl (by decide +kernel) ⟨by decide, by decide⟩ rfl hl.1 rfl (Nat.le_of_ble_eq_true rfl) dX1_strengthAfter_13 (fun H locs hP hS => ?_)
  obtain rfl := Option.some.inj hf
  exact hret _ _ _ _ _ _ dX1_strengthAfter_16 rfl rfl (rfl) hP hS
def bX1_strengthBehind_10 (md_n : Int32) (day_n : Int32) (bu_n : Nat → Int32) (ki_n : Nat → Int32) (we_n : Nat → Int32) (wo_n : Nat → Int32) (wr_n : Nat → Int32) (p1 : Int32) (p2 : Int32) (K3 : ((Int32 × Int32)) → Option Int32) : ((Int32 × Int32)) → Option Int32
  | (v3_3, v4_3) => if p2 ≤ v4_3 then (some v3_3) else ((fX1_strengthAfter p1 v3_3 (day_n + v4_3) md_n bu_n ki_n we_n wo_n wr_n).bind (fun r5 => nm (v4_3 + 1) (fun x6 => K3 (r5, x6))))
def fX1_strengthBehind (p1 : Int32) (p2 : Int32) (md_n : Int32) (day_n : Int32) (bu_n : Nat → Int32) (st_n : Nat → Int32) (ki_n : Nat → Int32) (we_n : Nat → Int32) (wo_n : Nat → Int32) (wr_n : Nat → Int32) : Option Int32 := gin p1 5 (nm (st_n (Int32.toNatClampNeg p1)) (fun x2 => lp (bX1_strengthBehind_10 md_n day_n bu_n ki_n we_n wo_n wr_n p1 p2) FU (x2, 0)))
theorem in_X1_strengthBehind_X1 : ∀ w ∈ wsX10, w ∈ wsX1_strengthBehind := by decide +kernel
set_option maxHeartbeats 4000000 in
set_option maxRecDepth 100000 in
theorem ct_X1_strengthBehind {l : Launch} {D : va_G} {g : Nat → ClassId} {qa : Nat → Nat} {E0 : Nat → va_E} {b : Nat} {p1 : Int32} {p2 : Int32} {men_n : Int32} {md_n : Int32} {day_n : Int32} {drw_n : Int32} {bu_n : Nat → Int32} {st_n : Nat → Int32} {ki_n : Nat → Int32} {we_n : Nat → Int32} {wo_n : Nat → Int32} {wr_n : Nat → Int32} (hb_n : b + 7 ≤ 74) (hG_n : Mu g qa E0 b men_n md_n day_n drw_n bu_n st_n ki_n we_n wo_n wr_n) {R : Int32} (hf : fX1_strengthBehind p1 p2 md_n day_n bu_n st_n ki_n we_n wo_n wr_n = some R) : MI l yX1_strengthBehind wsX1_strengthBehind 4 D g qa E0 [.ref (qa b), .int p1, .int p2] R (fun E => E = E0) := by
  refine MI.mk (by decide) rfl (Nat.le_of_ble_eq_true rfl) ?_
  intro p e s m args below meth c ls Q X hret hP hS hl
  have hl : lv_has ls 5 [(0, .ref (qa b)), (1, .int p1), (2, .int p2)] := hl
  rw [fX1_strengthBehind] at hf
  refine lv_aload_n X.1 X.2.1 dX1_strengthBehind_0 rfl (lv_at hl 0 rfl) ?_
  refine x_get X hP hG_n.1 (by omega) rfl in_X1_strengthBehind_X1 2 (by decide) (by decide +kernel) rfl rfl dX1_strengthBehind_1 ?_
  refine lv_iload_n X.1 X.2.1 dX1_strengthBehind_4 rfl (lv_at hl 1 rfl) ?_
  obtain ⟨hi1, hf⟩ := gin_of hf
  refine x_iald X hP hG_n.2.2.1 (by omega) hi1 dX1_strengthBehind_5 ?_
  obtain ⟨x2, ex2, hf⟩ := nm_of hf
  refine lv_top_as ex2 ?_
  refine lv_istore_n (lv' := [(3, .int x2), (0, .ref (qa b)), (1, .int p1), (2, .int p2)]) X.1 X.2.1 dX1_strengthBehind_6 rfl hl (by decide) rfl (fun ls hl => ?_)
  refine lv_iconst (v := 0) X.1 X.2.1 dX1_strengthBehind_7 (by decide) ?_
  refine lv_istore (lv' := [(4, .int 0), (3, .int x2), (0, .ref (qa b)), (1, .int p1), (2, .int p2)]) X.1 X.2.1 dX1_strengthBehind_8 hl (by decide) rfl (fun ls hl => ?_)
  have lp3 : ∀ (n3 : Nat) (v3_3 : Int32) (v4_3 : Int32) (H : Heap) (locs : List Loc) (ls : Array Slot), lp (bX1_strengthBehind_10 md_n day_n bu_n ki_n we_n wo_n wr_n p1 p2) n3 (v3_3, v4_3) = some R → va_P D vwCl (WD qa E0) H → va_S (gA qa s.heap.size) s.heap H locs → lv_has ls 5 [(0, .ref (qa b)), (1, .int p1), (2, .int p2), (3, .int v3_3), (4, .int v4_3)] → W p l e (rmf 4) s m args below meth c H locs 0 0 Q (F0 m 10 ls []) := by
    intro n3
    induction n3 with
    | zero =>
      intro v3_3 v4_3 H locs ls hf
      exact absurd hf (by intro h; cases h)
    | succ n3 ih3 =>
      intro v3_3 v4_3 H locs ls hf hP hS hl
      have hf : bX1_strengthBehind_10 md_n day_n bu_n ki_n we_n wo_n wr_n p1 p2 (lp (bX1_strengthBehind_10 md_n day_n bu_n ki_n we_n wo_n wr_n p1 p2) n3) (v3_3, v4_3) = some R := hf
      rw [bX1_strengthBehind_10] at hf
      refine lv_iload X.1 X.2.1 dX1_strengthBehind_10 (lv_at hl 4 rfl) ?_
      refine lv_iload_n X.1 X.2.1 dX1_strengthBehind_12 rfl (lv_at hl 2 rfl) ?_
      refine lv_icmp_ge (tgt := 36) X.1 X.2.1 dX1_strengthBehind_13 (by decide) (fun c4 => ?_) (fun c4 => ?_)
      · have hf := ifp hf c4
        refine lv_iload_n X.1 X.2.1 dX1_strengthBehind_36 rfl (lv_at hl 3 rfl) ?_
        obtain rfl := Option.some.inj hf
        exact hret _ _ _ _ _ _ dX1_strengthBehind_37 rfl rfl (rfl) hP hS
      · have hf := ifn hf c4
        refine lv_aload_n X.1 X.2.1 dX1_strengthBehind_16 rfl (lv_at hl 0 rfl) ?_
        refine lv_iload_n X.1 X.2.1 dX1_strengthBehind_17 rfl (lv_at hl 1 rfl) ?_
        refine lv_iload_n X.1 X.2.1 dX1_strengthBehind_18 rfl (lv_at hl 3 rfl) ?_
        refine lv_aload_n X.1 X.2.1 dX1_strengthBehind_19 rfl (lv_at hl 0 rfl) ?_
        refine x_get X hP hG_n.1 (by omega) rfl in_X1_strengthBehind_X1 8 (by decide) (by decide +kernel) rfl rfl dX1_strengthBehind_20 ?_
        refine lv_iload X.1 X.2.1 dX1_strengthBehind_23 (lv_at hl 4 rfl) ?_
        refine lv_iadd X.1 X.2.1 dX1_strengthBehind_25 ?_
        obtain ⟨r5, hr5, hf⟩ := bd_of hf
        refine x_rdVi X hP hS hG_n.1 (by omega) rfl (n := 3) (As := [.int p1, .int v3_3, .int (day_n + v4_3)]) (ct_X1_strengthAfter (by omega) hG_n hr5) gX1_strengthBehind_X1_strengthAfter rfl (by decide +kernel) ⟨by decide, by decide⟩ rfl hl.1 rfl (Nat.le_of_ble_eq_true rfl) dX1_strengthBehind_26 (fun H locs hP hS => ?_)
        refine lv_istore_n (lv' := [(3, .int r5), (0, .ref (qa b)), (1, .int p1), (2, .int p2), (4, .int v4_3)]) X.1 X.2.1 dX1_strengthBehind_29 rfl hl (by decide) rfl (fun ls hl => ?_)
        obtain ⟨x6, ex6, hf⟩ := nm_of hf
        refine lv_iinc (v := x6) (lv' := [(4, .int x6), (3, .int r5), (0, .ref (qa b)), (1, .int p1), (2, .int p2)]) X.1 X.2.1 dX1_strengthBehind_30 hl (k := 4) rfl (by rw [ex6]; rfl) (by decide) rfl (fun ls hl => ?_)
        refine lv_goto (tgt := 10) X.1 X.2.1 dX1_strengthBehind_33 (by decide) ?_
        exact ih3 r5 x6 _ _ _ hf hP hS (lv_sub hl [2, 3, 4, 1, 0] rfl)
  exact lp3 FU x2 0 _ _ _ hf hP hS (lv_sub hl [2, 3, 4, 1, 0] rfl)
def bX1_bentBehind_4 (men_n : Int32) (md_n : Int32) (day_n : Int32) (bu_n : Nat → Int32) (st_n : Nat → Int32) (ki_n : Nat → Int32) (we_n : Nat → Int32) (wo_n : Nat → Int32) (wr_n : Nat → Int32) (p1 : Int32) (K1 : ((Int32 × Int32)) → Option Int32) : ((Int32 × Int32)) → Option Int32
  | (v2_1, v3_1) => if men_n ≤ v3_1 then (some v2_1) else ((fX1_loadOn v3_1 (day_n + p1) md_n ki_n we_n wo_n wr_n).bind (fun r3 => (fX1_strengthBehind v3_1 p1 md_n day_n bu_n st_n ki_n we_n wo_n wr_n).bind (fun r4 => if r3 ≤ r4 then (nm (v3_1 + 1) (fun x6 => K1 (v2_1, x6))) else (nm (v2_1 ||| (1 <<< (v3_1 &&& 31))) (fun x7 => nm (v3_1 + 1) (fun x8 => K1 (x7, x8)))))))
def fX1_bentBehind (p1 : Int32) (men_n : Int32) (md_n : Int32) (day_n : Int32) (bu_n : Nat → Int32) (st_n : Nat → Int32) (ki_n : Nat → Int32) (we_n : Nat → Int32) (wo_n : Nat → Int32) (wr_n : Nat → Int32) : Option Int32 := lp (bX1_bentBehind_4 men_n md_n day_n bu_n st_n ki_n we_n wo_n wr_n p1) FU (0, 0)
theorem in_X1_bentBehind_X1 : ∀ w ∈ wsX10, w ∈ wsX1_bentBehind := by decide +kernel
set_option maxHeartbeats 4000000 in
set_option maxRecDepth 100000 in
theorem ct_X1_bentBehind {l : Launch} {D : va_G} {g : Nat → ClassId} {qa : Nat → Nat} {E0 : Nat → va_E} {b : Nat} {p1 : Int32} {men_n : Int32} {md_n : Int32} {day_n : Int32} {drw_n : Int32} {bu_n : Nat → Int32} {st_n : Nat → Int32} {ki_n : Nat → Int32} {we_n : Nat → Int32} {wo_n : Nat → Int32} {wr_n : Nat → Int32} (hb_n : b + 7 ≤ 74) (hG_n : Mu g qa E0 b men_n md_n day_n drw_n bu_n st_n ki_n we_n wo_n wr_n) {R : Int32} (hf : fX1_bentBehind p1 men_n md_n day_n bu_n st_n ki_n we_n wo_n wr_n = some R) : MI l yX1_bentBehind wsX1_bentBehind 5 D g qa E0 [.ref (qa b), .int p1] R (fun E => E = E0) := by
  refine MI.mk (by decide) rfl (Nat.le_of_ble_eq_true rfl) ?_
  intro p e s m args below meth c ls Q X hret hP hS hl
  have hl : lv_has ls 4 [(0, .ref (qa b)), (1, .int p1)] := hl
  rw [fX1_bentBehind] at hf
  refine lv_iconst (v := 0) X.1 X.2.1 dX1_bentBehind_0 (by decide) ?_
  refine lv_istore_n (lv' := [(2, .int 0), (0, .ref (qa b)), (1, .int p1)]) X.1 X.2.1 dX1_bentBehind_1 rfl hl (by decide) rfl (fun ls hl => ?_)
  refine lv_iconst (v := 0) X.1 X.2.1 dX1_bentBehind_2 (by decide) ?_
  refine lv_istore_n (lv' := [(3, .int 0), (2, .int 0), (0, .ref (qa b)), (1, .int p1)]) X.1 X.2.1 dX1_bentBehind_3 rfl hl (by decide) rfl (fun ls hl => ?_)
  have lp1 : ∀ (n1 : Nat) (v2_1 : Int32) (v3_1 : Int32) (H : Heap) (locs : List Loc) (ls : Array Slot), lp (bX1_bentBehind_4 men_n md_n day_n bu_n st_n ki_n we_n wo_n wr_n p1) n1 (v2_1, v3_1) = some R → va_P D vwCl (WD qa E0) H → va_S (gA qa s.heap.size) s.heap H locs → lv_has ls 4 [(0, .ref (qa b)), (1, .int p1), (2, .int v2_1), (3, .int v3_1)] → W p l e (rmf 5) s m args below meth c H locs 0 0 Q (F0 m 4 ls []) := by
    intro n1
    induction n1 with
    | zero =>
      intro v2_1 v3_1 H locs ls hf
      exact absurd hf (by intro h; cases h)
    | succ n1 ih1 =>
      intro v2_1 v3_1 H locs ls hf hP hS hl
      have hf : bX1_bentBehind_4 men_n md_n day_n bu_n st_n ki_n we_n wo_n wr_n p1 (lp (bX1_bentBehind_4 men_n md_n day_n bu_n st_n ki_n we_n wo_n wr_n p1) n1) (v2_1, v3_1) = some R := hf
      rw [bX1_bentBehind_4] at hf
      refine lv_iload_n X.1 X.2.1 dX1_bentBehind_4 rfl (lv_at hl 3 rfl) ?_
      refine lv_aload_n X.1 X.2.1 dX1_bentBehind_5 rfl (lv_at hl 0 rfl) ?_
      refine x_get X hP hG_n.1 (by omega) rfl in_X1_bentBehind_X1 0 (by decide) (by decide +kernel) rfl rfl dX1_bentBehind_6 ?_
      refine lv_icmp_ge (tgt := 44) X.1 X.2.1 dX1_bentBehind_9 (by decide) (fun c2 => ?_) (fun c2 => ?_)
      · have hf := ifp hf c2
        refine lv_iload_n X.1 X.2.1 dX1_bentBehind_44 rfl (lv_at hl 2 rfl) ?_
        obtain rfl := Option.some.inj hf
        exact hret _ _ _ _ _ _ dX1_bentBehind_45 rfl rfl (rfl) hP hS
      · have hf := ifn hf c2
        refine lv_aload_n X.1 X.2.1 dX1_bentBehind_12 rfl (lv_at hl 0 rfl) ?_
        refine lv_iload_n X.1 X.2.1 dX1_bentBehind_13 rfl (lv_at hl 3 rfl) ?_
        refine lv_aload_n X.1 X.2.1 dX1_bentBehind_14 rfl (lv_at hl 0 rfl) ?_
        refine x_get X hP hG_n.1 (by omega) rfl in_X1_bentBehind_X1 8 (by decide) (by decide +kernel) rfl rfl dX1_bentBehind_15 ?_
        refine lv_iload_n X.1 X.2.1 dX1_bentBehind_18 rfl (lv_at hl 1 rfl) ?_
        refine lv_iadd X.1 X.2.1 dX1_bentBehind_19 ?_
        obtain ⟨r3, hr3, hf⟩ := bd_of hf
        refine x_rdVi X hP hS hG_n.1 (by omega) rfl (n := 2) (As := [.int v3_1, .int (day_n + p1)]) (ct_X1_loadOn (by omega) hG_n hr3) gX1_bentBehind_X1_loadOn rfl (by decide +kernel) ⟨by decide, by decide⟩ rfl hl.1 rfl (Nat.le_of_ble_eq_true rfl) dX1_bentBehind_20 (fun H locs hP hS => ?_)
        refine lv_aload_n X.1 X.2.1 dX1_bentBehind_23 rfl (lv_at hl 0 rfl) ?_
        refine lv_iload_n X.1 X.2.1 dX1_bentBehind_24 rfl (lv_at hl 3 rfl) ?_
        refine lv_iload_n X.1 X.2.1 dX1_bentBehind_25 rfl (lv_at hl 1 rfl) ?_
        obtain ⟨r4, hr4, hf⟩ := bd_of hf
        refine x_rdVi X hP hS hG_n.1 (by omega) rfl (n := 2) (As := [.int v3_1, .int p1]) (ct_X1_strengthBehind (by omega) hG_n hr4) gX1_bentBehind_X1_strengthBehind rfl (by decide +kernel) ⟨by decide, by decide⟩ rfl hl.1 rfl (Nat.le_of_ble_eq_true rfl) dX1_bentBehind_26 (fun H locs hP hS => ?_)
        refine lv_icmp_le (tgt := 38) X.1 X.2.1 dX1_bentBehind_29 (by decide) (fun c5 => ?_) (fun c5 => ?_)
        · have hf := ifp hf c5
          obtain ⟨x6, ex6, hf⟩ := nm_of hf
          refine lv_iinc (v := x6) (lv' := [(3, .int x6), (0, .ref (qa b)), (1, .int p1), (2, .int v2_1)]) X.1 X.2.1 dX1_bentBehind_38 hl (k := 3) rfl (by rw [ex6]; rfl) (by decide) rfl (fun ls hl => ?_)
          refine lv_goto (tgt := 4) X.1 X.2.1 dX1_bentBehind_41 (by decide) ?_
          exact ih1 v2_1 x6 _ _ _ hf hP hS (lv_sub hl [1, 2, 3, 0] rfl)
        · have hf := ifn hf c5
          refine lv_iload_n X.1 X.2.1 dX1_bentBehind_32 rfl (lv_at hl 2 rfl) ?_
          refine lv_iconst (v := 1) X.1 X.2.1 dX1_bentBehind_33 (by decide) ?_
          refine lv_iload_n X.1 X.2.1 dX1_bentBehind_34 rfl (lv_at hl 3 rfl) ?_
          refine lv_ishl X.1 X.2.1 dX1_bentBehind_35 ?_
          refine lv_ior X.1 X.2.1 dX1_bentBehind_36 ?_
          obtain ⟨x7, ex7, hf⟩ := nm_of hf
          refine lv_top_as ex7 ?_
          refine lv_istore_n (lv' := [(2, .int x7), (0, .ref (qa b)), (1, .int p1), (3, .int v3_1)]) X.1 X.2.1 dX1_bentBehind_37 rfl hl (by decide) rfl (fun ls hl => ?_)
          obtain ⟨x8, ex8, hf⟩ := nm_of hf
          refine lv_iinc (v := x8) (lv' := [(3, .int x8), (2, .int x7), (0, .ref (qa b)), (1, .int p1)]) X.1 X.2.1 dX1_bentBehind_38 hl (k := 3) rfl (by rw [ex8]; rfl) (by decide) rfl (fun ls hl => ?_)
          refine lv_goto (tgt := 4) X.1 X.2.1 dX1_bentBehind_41 (by decide) ?_
          exact ih1 x7 x8 _ _ _ hf hP hS (lv_sub hl [2, 3, 1, 0] rfl)
  exact lp1 FU 0 0 _ _ _ hf hP hS (lv_sub hl [2, 3, 1, 0] rfl)
def fX1_clear   : Option (Int32 × Int32 × Int32) := some (0, 0, 0)
theorem in_X1_clear_X1 : ∀ w ∈ wsX10, w ∈ wsX1_clear := by decide +kernel
set_option maxHeartbeats 4000000 in
set_option maxRecDepth 100000 in
theorem ct_X1_clear {l : Launch} {D : va_G} {g : Nat → ClassId} {qa : Nat → Nat} {E0 : Nat → va_E} {b : Nat} {men_n : Int32} {md_n : Int32} {day_n : Int32} {drw_n : Int32} {bu_n : Nat → Int32} {st_n : Nat → Int32} {ki_n : Nat → Int32} {we_n : Nat → Int32} {wo_n : Nat → Int32} {wr_n : Nat → Int32} (hb_n : b + 7 ≤ 74) (hG_n : Mu g qa E0 b men_n md_n day_n drw_n bu_n st_n ki_n we_n wo_n wr_n) {R : (Int32 × Int32 × Int32)} (hf : fX1_clear = some R) : MV l yX1_clear wsX1_clear 0 D g qa E0 [.ref (qa b)] (fun E => Mu g qa E b R.1 R.2.1 R.2.2 drw_n bu_n st_n ki_n we_n wo_n wr_n ∧ ∀ j, (j < b ∨ b + 7 ≤ j) → E j = E0 j) := by
  refine MV.mk (by decide) rfl (Nat.le_of_ble_eq_true rfl) ?_
  intro p e s m args below meth c ls Q X hret hP hS hl
  have hl : lv_has ls 1 [(0, .ref (qa b))] := hl
  have hfr : ∀ j, (j < b ∨ b + 7 ≤ j) → E0 j = E0 j := fun _ _ => rfl
  rw [fX1_clear] at hf
  refine lv_aload_n X.1 X.2.1 dX1_clear_0 rfl (lv_at hl 0 rfl) ?_
  refine lv_iconst (v := 0) X.1 X.2.1 dX1_clear_1 (by decide) ?_
  refine x_put (ty := .int) X hP hS hG_n.1 (by omega) rfl in_X1_clear_X1 tyX1 tyX1_ok nmX1 0 (by decide) (by decide +kernel) rfl rfl (by decide +kernel) rfl rfl (Nat.le_of_ble_eq_true rfl) dX1_clear_2 (fun E H locs h1 hk hP hS => ?_)
  have hG_n := Mu_set_0 hG_n h1 hk
  have hfr : ∀ j, (j < b ∨ b + 7 ≤ j) → E j = E0 j := fun j o0 => (hk j (by omega)).trans (hfr j o0)
  refine lv_aload_n X.1 X.2.1 dX1_clear_5 rfl (lv_at hl 0 rfl) ?_
  refine lv_iconst (v := 0) X.1 X.2.1 dX1_clear_6 (by decide) ?_
  refine x_put (ty := .int) X hP hS hG_n.1 (by omega) rfl in_X1_clear_X1 tyX1 tyX1_ok nmX1 3 (by decide) (by decide +kernel) rfl rfl (by decide +kernel) rfl rfl (Nat.le_of_ble_eq_true rfl) dX1_clear_7 (fun E H locs h1 hk hP hS => ?_)
  have hG_n := Mu_set_0 hG_n h1 hk
  have hfr : ∀ j, (j < b ∨ b + 7 ≤ j) → E j = E0 j := fun j o0 => (hk j (by omega)).trans (hfr j o0)
  refine lv_aload_n X.1 X.2.1 dX1_clear_10 rfl (lv_at hl 0 rfl) ?_
  refine lv_iconst (v := 0) X.1 X.2.1 dX1_clear_11 (by decide) ?_
  refine x_put (ty := .int) X hP hS hG_n.1 (by omega) rfl in_X1_clear_X1 tyX1 tyX1_ok nmX1 8 (by decide) (by decide +kernel) rfl rfl (by decide +kernel) rfl rfl (Nat.le_of_ble_eq_true rfl) dX1_clear_12 (fun E H locs h1 hk hP hS => ?_)
  have hG_n := Mu_set_0 hG_n h1 hk
  have hfr : ∀ j, (j < b ∨ b + 7 ≤ j) → E j = E0 j := fun j o0 => (hk j (by omega)).trans (hfr j o0)
  obtain rfl := Option.some.inj hf
  exact hret _ _ _ _ _ dX1_clear_15 (⟨hG_n, hfr⟩) hP hS
def fX1_drawAndHang  (men_n : Int32) (md_n : Int32) (drw_n : Int32) (wr_n : Nat → Int32) : Option (Int32 × (Nat → Int32)) := if md_n ≤ 0 then (some (Int64.toInt32 ((((Int32.toInt64 drw_n) * 1103515245) + 12345) &&& 2147483647), wr_n)) else (if men_n ≤ 0 then (some (Int64.toInt32 ((((Int32.toInt64 drw_n) * 1103515245) + 12345) &&& 2147483647), wr_n)) else (gnz md_n (gnz men_n (gin (((Int64.toInt32 ((((Int32.toInt64 drw_n) * 1103515245) + 12345) &&& 2147483647)) / 65536) - ((Int64.toInt32 ((((Int32.toInt64 drw_n) * 1103515245) + 12345) &&& 2147483647)) / 65536) / md_n * md_n) 6 (some (Int64.toInt32 ((((Int32.toInt64 drw_n) * 1103515245) + 12345) &&& 2147483647), upd wr_n (Int32.toNatClampNeg (((Int64.toInt32 ((((Int32.toInt64 drw_n) * 1103515245) + 12345) &&& 2147483647)) / 65536) - ((Int64.toInt32 ((((Int32.toInt64 drw_n) * 1103515245) + 12345) &&& 2147483647)) / 65536) / md_n * md_n)) (((Int64.toInt32 ((((Int32.toInt64 drw_n) * 1103515245) + 12345) &&& 2147483647)) / 128) - ((Int64.toInt32 ((((Int32.toInt64 drw_n) * 1103515245) + 12345) &&& 2147483647)) / 128) / men_n * men_n)))))))
theorem in_X1_drawAndHang_X1 : ∀ w ∈ wsX10, w ∈ wsX1_drawAndHang := by decide +kernel
set_option maxHeartbeats 4000000 in
set_option maxRecDepth 100000 in
theorem ct_X1_drawAndHang {l : Launch} {D : va_G} {g : Nat → ClassId} {qa : Nat → Nat} {E0 : Nat → va_E} {b : Nat} {men_n : Int32} {md_n : Int32} {day_n : Int32} {drw_n : Int32} {bu_n : Nat → Int32} {st_n : Nat → Int32} {ki_n : Nat → Int32} {we_n : Nat → Int32} {wo_n : Nat → Int32} {wr_n : Nat → Int32} (hb_n : b + 7 ≤ 74) (hG_n : Mu g qa E0 b men_n md_n day_n drw_n bu_n st_n ki_n we_n wo_n wr_n) {R : (Int32 × (Nat → Int32))} (hf : fX1_drawAndHang men_n md_n drw_n wr_n = some R) : MV l yX1_drawAndHang wsX1_drawAndHang 0 D g qa E0 [.ref (qa b)] (fun E => Mu g qa E b men_n md_n day_n R.1 bu_n st_n ki_n we_n wo_n R.2 ∧ ∀ j, (j < b ∨ b + 7 ≤ j) → E j = E0 j) := by
  refine MV.mk (by decide) rfl (Nat.le_of_ble_eq_true rfl) ?_
  intro p e s m args below meth c ls Q X hret hP hS hl
  have hl : lv_has ls 1 [(0, .ref (qa b))] := hl
  have hfr : ∀ j, (j < b ∨ b + 7 ≤ j) → E0 j = E0 j := fun _ _ => rfl
  rw [fX1_drawAndHang] at hf
  refine lv_aload_n X.1 X.2.1 dX1_drawAndHang_0 rfl (lv_at hl 0 rfl) ?_
  refine lv_aload_n X.1 X.2.1 dX1_drawAndHang_1 rfl (lv_at hl 0 rfl) ?_
  refine x_get X hP hG_n.1 (by omega) rfl in_X1_drawAndHang_X1 9 (by decide) (by decide +kernel) rfl rfl dX1_drawAndHang_2 ?_
  refine lv_i2l X.1 X.2.1 dX1_drawAndHang_5 rfl ?_
  refine lv_ldc2 (v := 1103515245) X.1 X.2.1 X.2.2.2.1 (X.2.2.2.2.1 (.constantLong RX1 87 (1103515245)) (by decide +kernel)) dX1_drawAndHang_6 ?_
  refine lv_lmul X.1 X.2.1 dX1_drawAndHang_9 ?_
  refine lv_ldc2 (v := 12345) X.1 X.2.1 X.2.2.2.1 (X.2.2.2.2.1 (.constantLong RX1 89 (12345)) (by decide +kernel)) dX1_drawAndHang_10 ?_
  refine lv_ladd X.1 X.2.1 dX1_drawAndHang_13 ?_
  refine lv_ldc2 (v := 2147483647) X.1 X.2.1 X.2.2.2.1 (X.2.2.2.2.1 (.constantLong RX1 91 (2147483647)) (by decide +kernel)) dX1_drawAndHang_14 ?_
  refine lv_land X.1 X.2.1 dX1_drawAndHang_17 ?_
  refine lv_l2i X.1 X.2.1 dX1_drawAndHang_18 rfl ?_
  refine x_put (ty := .int) X hP hS hG_n.1 (by omega) rfl in_X1_drawAndHang_X1 tyX1 tyX1_ok nmX1 9 (by decide) (by decide +kernel) rfl rfl (by decide +kernel) rfl rfl (Nat.le_of_ble_eq_true rfl) dX1_drawAndHang_19 (fun E H locs h1 hk hP hS => ?_)
  have hG_n := Mu_set_0 hG_n h1 hk
  have hfr : ∀ j, (j < b ∨ b + 7 ≤ j) → E j = E0 j := fun j o0 => (hk j (by omega)).trans (hfr j o0)
  refine lv_aload_n X.1 X.2.1 dX1_drawAndHang_22 rfl (lv_at hl 0 rfl) ?_
  refine x_get X hP hG_n.1 (by omega) rfl in_X1_drawAndHang_X1 3 (by decide) (by decide +kernel) rfl rfl dX1_drawAndHang_23 ?_
  refine lv_if_le (tgt := 66) X.1 X.2.1 dX1_drawAndHang_26 (by decide) (fun c1 => ?_) (fun c1 => ?_)
  · have hf := ifp hf c1
    obtain rfl := Option.some.inj hf
    exact hret _ _ _ _ _ dX1_drawAndHang_66 (⟨hG_n, hfr⟩) hP hS
  · have hf := ifn hf c1
    refine lv_aload_n X.1 X.2.1 dX1_drawAndHang_29 rfl (lv_at hl 0 rfl) ?_
    refine x_get X hP hG_n.1 (by omega) rfl in_X1_drawAndHang_X1 0 (by decide) (by decide +kernel) rfl rfl dX1_drawAndHang_30 ?_
    refine lv_if_le (tgt := 66) X.1 X.2.1 dX1_drawAndHang_33 (by decide) (fun c2 => ?_) (fun c2 => ?_)
    · have hf := ifp hf c2
      obtain rfl := Option.some.inj hf
      exact hret _ _ _ _ _ dX1_drawAndHang_66 (⟨hG_n, hfr⟩) hP hS
    · have hf := ifn hf c2
      refine lv_aload_n X.1 X.2.1 dX1_drawAndHang_36 rfl (lv_at hl 0 rfl) ?_
      refine x_get X hP hG_n.1 (by omega) rfl in_X1_drawAndHang_X1 7 (by decide) (by decide +kernel) rfl rfl dX1_drawAndHang_37 ?_
      refine lv_aload_n X.1 X.2.1 dX1_drawAndHang_40 rfl (lv_at hl 0 rfl) ?_
      refine x_get X hP hG_n.1 (by omega) rfl in_X1_drawAndHang_X1 9 (by decide) (by decide +kernel) rfl rfl dX1_drawAndHang_41 ?_
      refine lv_ldc (v := 65536) X.1 X.2.1 X.2.2.2.1 (X.2.2.2.2.1 (.constant RX1 93 (65536)) (by decide +kernel)) dX1_drawAndHang_44 ?_
      refine lv_idiv X.1 X.2.1 dX1_drawAndHang_46 (by decide) ?_
      refine lv_aload_n X.1 X.2.1 dX1_drawAndHang_47 rfl (lv_at hl 0 rfl) ?_
      refine x_get X hP hG_n.1 (by omega) rfl in_X1_drawAndHang_X1 3 (by decide) (by decide +kernel) rfl rfl dX1_drawAndHang_48 ?_
      obtain ⟨hz3, hf⟩ := gnz_of hf
      refine lv_irem X.1 X.2.1 dX1_drawAndHang_51 hz3 ?_
      refine lv_aload_n X.1 X.2.1 dX1_drawAndHang_52 rfl (lv_at hl 0 rfl) ?_
      refine x_get X hP hG_n.1 (by omega) rfl in_X1_drawAndHang_X1 9 (by decide) (by decide +kernel) rfl rfl dX1_drawAndHang_53 ?_
      refine lv_sipush (v := 128) X.1 X.2.1 dX1_drawAndHang_56 (by decide) ?_
      refine lv_idiv X.1 X.2.1 dX1_drawAndHang_59 (by decide) ?_
      refine lv_aload_n X.1 X.2.1 dX1_drawAndHang_60 rfl (lv_at hl 0 rfl) ?_
      refine x_get X hP hG_n.1 (by omega) rfl in_X1_drawAndHang_X1 0 (by decide) (by decide +kernel) rfl rfl dX1_drawAndHang_61 ?_
      obtain ⟨hz4, hf⟩ := gnz_of hf
      refine lv_irem X.1 X.2.1 dX1_drawAndHang_64 hz4 ?_
      obtain ⟨hi5, hf⟩ := gin_of hf
      refine x_iast X hP hS hG_n.2.2.2.2.2.2 (by omega) hi5 dX1_drawAndHang_65 (fun E H locs h1 hk hP hS => ?_)
      have hG_n := Mu_set_6 hG_n h1 hk
      have hfr : ∀ j, (j < b ∨ b + 7 ≤ j) → E j = E0 j := fun j o0 => (hk j (by omega)).trans (hfr j o0)
      obtain rfl := Option.some.inj hf
      exact hret _ _ _ _ _ dX1_drawAndHang_66 (⟨hG_n, hfr⟩) hP hS
def fX1_hasMan (p1 : Int32) (men_n : Int32) : Option Int32 := if p1 < 0 then (some 0) else (if men_n ≤ p1 then (some 0) else (some 1))
theorem in_X1_hasMan_X1 : ∀ w ∈ wsX10, w ∈ wsX1_hasMan := by decide +kernel
set_option maxHeartbeats 4000000 in
set_option maxRecDepth 100000 in
theorem ct_X1_hasMan {l : Launch} {D : va_G} {g : Nat → ClassId} {qa : Nat → Nat} {E0 : Nat → va_E} {b : Nat} {p1 : Int32} {men_n : Int32} {md_n : Int32} {day_n : Int32} {drw_n : Int32} {bu_n : Nat → Int32} {st_n : Nat → Int32} {ki_n : Nat → Int32} {we_n : Nat → Int32} {wo_n : Nat → Int32} {wr_n : Nat → Int32} (hb_n : b + 7 ≤ 74) (hG_n : Mu g qa E0 b men_n md_n day_n drw_n bu_n st_n ki_n we_n wo_n wr_n) {R : Int32} (hf : fX1_hasMan p1 men_n = some R) : MI l yX1_hasMan wsX1_hasMan 0 D g qa E0 [.ref (qa b), .int p1] R (fun E => E = E0) := by
  refine MI.mk (by decide) rfl (Nat.le_of_ble_eq_true rfl) ?_
  intro p e s m args below meth c ls Q X hret hP hS hl
  have hl : lv_has ls 2 [(0, .ref (qa b)), (1, .int p1)] := hl
  rw [fX1_hasMan] at hf
  refine lv_iload_n X.1 X.2.1 dX1_hasMan_0 rfl (lv_at hl 1 rfl) ?_
  refine lv_if_lt (tgt := 16) X.1 X.2.1 dX1_hasMan_1 (by decide) (fun c1 => ?_) (fun c1 => ?_)
  · have hf := ifp hf c1
    refine lv_iconst (v := 0) X.1 X.2.1 dX1_hasMan_16 (by decide) ?_
    obtain rfl := Option.some.inj hf
    exact hret _ _ _ _ _ _ dX1_hasMan_17 rfl rfl (rfl) hP hS
  · have hf := ifn hf c1
    refine lv_iload_n X.1 X.2.1 dX1_hasMan_4 rfl (lv_at hl 1 rfl) ?_
    refine lv_aload_n X.1 X.2.1 dX1_hasMan_5 rfl (lv_at hl 0 rfl) ?_
    refine x_get X hP hG_n.1 (by omega) rfl in_X1_hasMan_X1 0 (by decide) (by decide +kernel) rfl rfl dX1_hasMan_6 ?_
    refine lv_icmp_ge (tgt := 16) X.1 X.2.1 dX1_hasMan_9 (by decide) (fun c2 => ?_) (fun c2 => ?_)
    · have hf := ifp hf c2
      refine lv_iconst (v := 0) X.1 X.2.1 dX1_hasMan_16 (by decide) ?_
      obtain rfl := Option.some.inj hf
      exact hret _ _ _ _ _ _ dX1_hasMan_17 rfl rfl (rfl) hP hS
    · have hf := ifn hf c2
      refine lv_iconst (v := 1) X.1 X.2.1 dX1_hasMan_12 (by decide) ?_
      refine lv_goto (tgt := 17) X.1 X.2.1 dX1_hasMan_13 (by decide) ?_
      obtain rfl := Option.some.inj hf
      exact hret _ _ _ _ _ _ dX1_hasMan_17 rfl rfl (rfl) hP hS
def fX1_hasMedal (p1 : Int32) (md_n : Int32) : Option Int32 := if p1 < 0 then (some 0) else (if md_n ≤ p1 then (some 0) else (some 1))
theorem in_X1_hasMedal_X1 : ∀ w ∈ wsX10, w ∈ wsX1_hasMedal := by decide +kernel
set_option maxHeartbeats 4000000 in
set_option maxRecDepth 100000 in
theorem ct_X1_hasMedal {l : Launch} {D : va_G} {g : Nat → ClassId} {qa : Nat → Nat} {E0 : Nat → va_E} {b : Nat} {p1 : Int32} {men_n : Int32} {md_n : Int32} {day_n : Int32} {drw_n : Int32} {bu_n : Nat → Int32} {st_n : Nat → Int32} {ki_n : Nat → Int32} {we_n : Nat → Int32} {wo_n : Nat → Int32} {wr_n : Nat → Int32} (hb_n : b + 7 ≤ 74) (hG_n : Mu g qa E0 b men_n md_n day_n drw_n bu_n st_n ki_n we_n wo_n wr_n) {R : Int32} (hf : fX1_hasMedal p1 md_n = some R) : MI l yX1_hasMedal wsX1_hasMedal 0 D g qa E0 [.ref (qa b), .int p1] R (fun E => E = E0) := by
  refine MI.mk (by decide) rfl (Nat.le_of_ble_eq_true rfl) ?_
  intro p e s m args below meth c ls Q X hret hP hS hl
  have hl : lv_has ls 2 [(0, .ref (qa b)), (1, .int p1)] := hl
  rw [fX1_hasMedal] at hf
  refine lv_iload_n X.1 X.2.1 dX1_hasMedal_0 rfl (lv_at hl 1 rfl) ?_
  refine lv_if_lt (tgt := 16) X.1 X.2.1 dX1_hasMedal_1 (by decide) (fun c1 => ?_) (fun c1 => ?_)
  · have hf := ifp hf c1
    refine lv_iconst (v := 0) X.1 X.2.1 dX1_hasMedal_16 (by decide) ?_
    obtain rfl := Option.some.inj hf
    exact hret _ _ _ _ _ _ dX1_hasMedal_17 rfl rfl (rfl) hP hS
  · have hf := ifn hf c1
    refine lv_iload_n X.1 X.2.1 dX1_hasMedal_4 rfl (lv_at hl 1 rfl) ?_
    refine lv_aload_n X.1 X.2.1 dX1_hasMedal_5 rfl (lv_at hl 0 rfl) ?_
    refine x_get X hP hG_n.1 (by omega) rfl in_X1_hasMedal_X1 3 (by decide) (by decide +kernel) rfl rfl dX1_hasMedal_6 ?_
    refine lv_icmp_ge (tgt := 16) X.1 X.2.1 dX1_hasMedal_9 (by decide) (fun c2 => ?_) (fun c2 => ?_)
    · have hf := ifp hf c2
      refine lv_iconst (v := 0) X.1 X.2.1 dX1_hasMedal_16 (by decide) ?_
      obtain rfl := Option.some.inj hf
      exact hret _ _ _ _ _ _ dX1_hasMedal_17 rfl rfl (rfl) hP hS
    · have hf := ifn hf c2
      refine lv_iconst (v := 1) X.1 X.2.1 dX1_hasMedal_12 (by decide) ?_
      refine lv_goto (tgt := 17) X.1 X.2.1 dX1_hasMedal_13 (by decide) ?_
      obtain rfl := Option.some.inj hf
      exact hret _ _ _ _ _ _ dX1_hasMedal_17 rfl rfl (rfl) hP hS
def bX1_isBentWithin_10 (md_n : Int32) (day_n : Int32) (bu_n : Nat → Int32) (ki_n : Nat → Int32) (we_n : Nat → Int32) (wo_n : Nat → Int32) (wr_n : Nat → Int32) (p1 : Int32) (p2 : Int32) (K3 : ((Int32 × Int32)) → Option Int32) : ((Int32 × Int32)) → Option Int32
  | (v3_3, v4_3) => if p2 < v4_3 then (some 0) else ((fX1_loadOn p1 (day_n + v4_3) md_n ki_n we_n wo_n wr_n).bind (fun r5 => if r5 ≤ v3_3 then ((fX1_strengthAfter p1 v3_3 (day_n + v4_3) md_n bu_n ki_n we_n wo_n wr_n).bind (fun r7 => nm (v4_3 + 1) (fun x8 => K3 (r7, x8)))) else (some 1)))
def fX1_isBentWithin (p1 : Int32) (p2 : Int32) (md_n : Int32) (day_n : Int32) (bu_n : Nat → Int32) (st_n : Nat → Int32) (ki_n : Nat → Int32) (we_n : Nat → Int32) (wo_n : Nat → Int32) (wr_n : Nat → Int32) : Option Int32 := gin p1 5 (nm (st_n (Int32.toNatClampNeg p1)) (fun x2 => lp (bX1_isBentWithin_10 md_n day_n bu_n ki_n we_n wo_n wr_n p1 p2) FU (x2, 0)))
theorem in_X1_isBentWithin_X1 : ∀ w ∈ wsX10, w ∈ wsX1_isBentWithin := by decide +kernel
set_option maxHeartbeats 4000000 in
set_option maxRecDepth 100000 in
theorem ct_X1_isBentWithin {l : Launch} {D : va_G} {g : Nat → ClassId} {qa : Nat → Nat} {E0 : Nat → va_E} {b : Nat} {p1 : Int32} {p2 : Int32} {men_n : Int32} {md_n : Int32} {day_n : Int32} {drw_n : Int32} {bu_n : Nat → Int32} {st_n : Nat → Int32} {ki_n : Nat → Int32} {we_n : Nat → Int32} {wo_n : Nat → Int32} {wr_n : Nat → Int32} (hb_n : b + 7 ≤ 74) (hG_n : Mu g qa E0 b men_n md_n day_n drw_n bu_n st_n ki_n we_n wo_n wr_n) {R : Int32} (hf : fX1_isBentWithin p1 p2 md_n day_n bu_n st_n ki_n we_n wo_n wr_n = some R) : MI l yX1_isBentWithin wsX1_isBentWithin 4 D g qa E0 [.ref (qa b), .int p1, .int p2] R (fun E => E = E0) := by
  refine MI.mk (by decide) rfl (Nat.le_of_ble_eq_true rfl) ?_
  intro p e s m args below meth c ls Q X hret hP hS hl
  have hl : lv_has ls 5 [(0, .ref (qa b)), (1, .int p1), (2, .int p2)] := hl
  rw [fX1_isBentWithin] at hf
  refine lv_aload_n X.1 X.2.1 dX1_isBentWithin_0 rfl (lv_at hl 0 rfl) ?_
  refine x_get X hP hG_n.1 (by omega) rfl in_X1_isBentWithin_X1 2 (by decide) (by decide +kernel) rfl rfl dX1_isBentWithin_1 ?_
  refine lv_iload_n X.1 X.2.1 dX1_isBentWithin_4 rfl (lv_at hl 1 rfl) ?_
  obtain ⟨hi1, hf⟩ := gin_of hf
  refine x_iald X hP hG_n.2.2.1 (by omega) hi1 dX1_isBentWithin_5 ?_
  obtain ⟨x2, ex2, hf⟩ := nm_of hf
  refine lv_top_as ex2 ?_
  refine lv_istore_n (lv' := [(3, .int x2), (0, .ref (qa b)), (1, .int p1), (2, .int p2)]) X.1 X.2.1 dX1_isBentWithin_6 rfl hl (by decide) rfl (fun ls hl => ?_)
  refine lv_iconst (v := 0) X.1 X.2.1 dX1_isBentWithin_7 (by decide) ?_
  refine lv_istore (lv' := [(4, .int 0), (3, .int x2), (0, .ref (qa b)), (1, .int p1), (2, .int p2)]) X.1 X.2.1 dX1_isBentWithin_8 hl (by decide) rfl (fun ls hl => ?_)
  have lp3 : ∀ (n3 : Nat) (v3_3 : Int32) (v4_3 : Int32) (H : Heap) (locs : List Loc) (ls : Array Slot), lp (bX1_isBentWithin_10 md_n day_n bu_n ki_n we_n wo_n wr_n p1 p2) n3 (v3_3, v4_3) = some R → va_P D vwCl (WD qa E0) H → va_S (gA qa s.heap.size) s.heap H locs → lv_has ls 5 [(0, .ref (qa b)), (1, .int p1), (2, .int p2), (3, .int v3_3), (4, .int v4_3)] → W p l e (rmf 4) s m args below meth c H locs 0 0 Q (F0 m 10 ls []) := by
    intro n3
    induction n3 with
    | zero =>
      intro v3_3 v4_3 H locs ls hf
      exact absurd hf (by intro h; cases h)
    | succ n3 ih3 =>
      intro v3_3 v4_3 H locs ls hf hP hS hl
      have hf : bX1_isBentWithin_10 md_n day_n bu_n ki_n we_n wo_n wr_n p1 p2 (lp (bX1_isBentWithin_10 md_n day_n bu_n ki_n we_n wo_n wr_n p1 p2) n3) (v3_3, v4_3) = some R := hf
      rw [bX1_isBentWithin_10] at hf
      refine lv_iload X.1 X.2.1 dX1_isBentWithin_10 (lv_at hl 4 rfl) ?_
      refine lv_iload_n X.1 X.2.1 dX1_isBentWithin_12 rfl (lv_at hl 2 rfl) ?_
      refine lv_icmp_gt (tgt := 54) X.1 X.2.1 dX1_isBentWithin_13 (by decide) (fun c4 => ?_) (fun c4 => ?_)
      · have hf := ifp hf c4
        refine lv_iconst (v := 0) X.1 X.2.1 dX1_isBentWithin_54 (by decide) ?_
        obtain rfl := Option.some.inj hf
        exact hret _ _ _ _ _ _ dX1_isBentWithin_55 rfl rfl (rfl) hP hS
      · have hf := ifn hf c4
        refine lv_aload_n X.1 X.2.1 dX1_isBentWithin_16 rfl (lv_at hl 0 rfl) ?_
        refine lv_iload_n X.1 X.2.1 dX1_isBentWithin_17 rfl (lv_at hl 1 rfl) ?_
        refine lv_aload_n X.1 X.2.1 dX1_isBentWithin_18 rfl (lv_at hl 0 rfl) ?_
        refine x_get X hP hG_n.1 (by omega) rfl in_X1_isBentWithin_X1 8 (by decide) (by decide +kernel) rfl rfl dX1_isBentWithin_19 ?_
        refine lv_iload X.1 X.2.1 dX1_isBentWithin_22 (lv_at hl 4 rfl) ?_
        refine lv_iadd X.1 X.2.1 dX1_isBentWithin_24 ?_
        obtain ⟨r5, hr5, hf⟩ := bd_of hf
        refine x_rdVi X hP hS hG_n.1 (by omega) rfl (n := 2) (As := [.int p1, .int (day_n + v4_3)]) (ct_X1_loadOn (by omega) hG_n hr5) gX1_isBentWithin_X1_loadOn rfl (by decide +kernel) ⟨by decide, by decide⟩ rfl hl.1 rfl (Nat.le_of_ble_eq_true rfl) dX1_isBentWithin_25 (fun H locs hP hS => ?_)
        refine lv_iload_n X.1 X.2.1 dX1_isBentWithin_28 rfl (lv_at hl 3 rfl) ?_
        refine lv_icmp_le (tgt := 34) X.1 X.2.1 dX1_isBentWithin_29 (by decide) (fun c6 => ?_) (fun c6 => ?_)
        · have hf := ifp hf c6
          refine lv_aload_n X.1 X.2.1 dX1_isBentWithin_34 rfl (lv_at hl 0 rfl) ?_
          refine lv_iload_n X.1 X.2.1 dX1_isBentWithin_35 rfl (lv_at hl 1 rfl) ?_
          refine lv_iload_n X.1 X.2.1 dX1_isBentWithin_36 rfl (lv_at hl 3 rfl) ?_
          refine lv_aload_n X.1 X.2.1 dX1_isBentWithin_37 rfl (lv_at hl 0 rfl) ?_
          refine x_get X hP hG_n.1 (by omega) rfl in_X1_isBentWithin_X1 8 (by decide) (by decide +kernel) rfl rfl dX1_isBentWithin_38 ?_
          refine lv_iload X.1 X.2.1 dX1_isBentWithin_41 (lv_at hl 4 rfl) ?_
          refine lv_iadd X.1 X.2.1 dX1_isBentWithin_43 ?_
          obtain ⟨r7, hr7, hf⟩ := bd_of hf
          refine x_rdVi X hP hS hG_n.1 (by omega) rfl (n := 3) (As := [.int p1, .int v3_3, .int (day_n + v4_3)]) (ct_X1_strengthAfter (by omega) hG_n hr7) gX1_isBentWithin_X1_strengthAfter rfl (by decide +kernel) ⟨by decide, by decide⟩ rfl hl.1 rfl (Nat.le_of_ble_eq_true rfl) dX1_isBentWithin_44 (fun H locs hP hS => ?_)
          refine lv_istore_n (lv' := [(3, .int r7), (0, .ref (qa b)), (1, .int p1), (2, .int p2), (4, .int v4_3)]) X.1 X.2.1 dX1_isBentWithin_47 rfl hl (by decide) rfl (fun ls hl => ?_)
          obtain ⟨x8, ex8, hf⟩ := nm_of hf
          refine lv_iinc (v := x8) (lv' := [(4, .int x8), (3, .int r7), (0, .ref (qa b)), (1, .int p1), (2, .int p2)]) X.1 X.2.1 dX1_isBentWithin_48 hl (k := 4) rfl (by rw [ex8]; rfl) (by decide) rfl (fun ls hl => ?_)
          refine lv_goto (tgt := 10) X.1 X.2.1 dX1_isBentWithin_51 (by decide) ?_
          exact ih3 r7 x8 _ _ _ hf hP hS (lv_sub hl [2, 3, 4, 1, 0] rfl)
        · have hf := ifn hf c6
          refine lv_iconst (v := 1) X.1 X.2.1 dX1_isBentWithin_32 (by decide) ?_
          obtain rfl := Option.some.inj hf
          exact hret _ _ _ _ _ _ dX1_isBentWithin_33 rfl rfl (rfl) hP hS
  exact lp3 FU x2 0 _ _ _ hf hP hS (lv_sub hl [2, 3, 4, 1, 0] rfl)
def fX1_loadsIfChanged (p1 : Int32) (p2 : Int32) (md_n : Int32) (day_n : Int32) (ki_n : Nat → Int32) (we_n : Nat → Int32) (wo_n : Nat → Int32) (wr_n : Nat → Int32) : Option Int32 := nm ((1 <<< (p1 &&& 31)) ||| (1 <<< (p2 &&& 31))) (fun x1 => gin p1 6 (nm (wr_n (Int32.toNatClampNeg p1)) (fun x3 => gin p2 6 (nm (wr_n (Int32.toNatClampNeg p2)) (fun x5 => (fX1_wornBy x3 md_n wr_n).bind (fun r6 => (fX1_loadOfSet x3 (r6 ^^^ x1) day_n md_n ki_n we_n wo_n).bind (fun r7 => (fX1_wornBy x5 md_n wr_n).bind (fun r8 => (fX1_loadOfSet x5 (r8 ^^^ x1) day_n md_n ki_n we_n wo_n).bind (fun r9 => some (r7 + r9))))))))))
theorem in_X1_loadsIfChanged_X1 : ∀ w ∈ wsX10, w ∈ wsX1_loadsIfChanged := by decide +kernel
set_option maxHeartbeats 4000000 in
set_option maxRecDepth 100000 in
theorem ct_X1_loadsIfChanged {l : Launch} {D : va_G} {g : Nat → ClassId} {qa : Nat → Nat} {E0 : Nat → va_E} {b : Nat} {p1 : Int32} {p2 : Int32} {men_n : Int32} {md_n : Int32} {day_n : Int32} {drw_n : Int32} {bu_n : Nat → Int32} {st_n : Nat → Int32} {ki_n : Nat → Int32} {we_n : Nat → Int32} {wo_n : Nat → Int32} {wr_n : Nat → Int32} (hb_n : b + 7 ≤ 74) (hG_n : Mu g qa E0 b men_n md_n day_n drw_n bu_n st_n ki_n we_n wo_n wr_n) {R : Int32} (hf : fX1_loadsIfChanged p1 p2 md_n day_n ki_n we_n wo_n wr_n = some R) : MI l yX1_loadsIfChanged wsX1_loadsIfChanged 2 D g qa E0 [.ref (qa b), .int p1, .int p2] R (fun E => E = E0) := by
  refine MI.mk (by decide) rfl (Nat.le_of_ble_eq_true rfl) ?_
  intro p e s m args below meth c ls Q X hret hP hS hl
  have hl : lv_has ls 6 [(0, .ref (qa b)), (1, .int p1), (2, .int p2)] := hl
  rw [fX1_loadsIfChanged] at hf
  refine lv_iconst (v := 1) X.1 X.2.1 dX1_loadsIfChanged_0 (by decide) ?_
  refine lv_iload_n X.1 X.2.1 dX1_loadsIfChanged_1 rfl (lv_at hl 1 rfl) ?_
  refine lv_ishl X.1 X.2.1 dX1_loadsIfChanged_2 ?_
  refine lv_iconst (v := 1) X.1 X.2.1 dX1_loadsIfChanged_3 (by decide) ?_
  refine lv_iload_n X.1 X.2.1 dX1_loadsIfChanged_4 rfl (lv_at hl 2 rfl) ?_
  refine lv_ishl X.1 X.2.1 dX1_loadsIfChanged_5 ?_
  refine lv_ior X.1 X.2.1 dX1_loadsIfChanged_6 ?_
  obtain ⟨x1, ex1, hf⟩ := nm_of hf
  refine lv_top_as ex1 ?_
  refine lv_istore_n (lv' := [(3, .int x1), (0, .ref (qa b)), (1, .int p1), (2, .int p2)]) X.1 X.2.1 dX1_loadsIfChanged_7 rfl hl (by decide) rfl (fun ls hl => ?_)
  refine lv_aload_n X.1 X.2.1 dX1_loadsIfChanged_8 rfl (lv_at hl 1 rfl) ?_
  refine x_get X hP hG_n.1 (by omega) rfl in_X1_loadsIfChanged_X1 7 (by decide) (by decide +kernel) rfl rfl dX1_loadsIfChanged_9 ?_
  refine lv_iload_n X.1 X.2.1 dX1_loadsIfChanged_12 rfl (lv_at hl 2 rfl) ?_
  obtain ⟨hi2, hf⟩ := gin_of hf
  refine x_iald X hP hG_n.2.2.2.2.2.2 (by omega) hi2 dX1_loadsIfChanged_13 ?_
  obtain ⟨x3, ex3, hf⟩ := nm_of hf
  refine lv_top_as ex3 ?_
  refine lv_istore (lv' := [(4, .int x3), (3, .int x1), (0, .ref (qa b)), (1, .int p1), (2, .int p2)]) X.1 X.2.1 dX1_loadsIfChanged_14 hl (by decide) rfl (fun ls hl => ?_)
  refine lv_aload_n X.1 X.2.1 dX1_loadsIfChanged_16 rfl (lv_at hl 2 rfl) ?_
  refine x_get X hP hG_n.1 (by omega) rfl in_X1_loadsIfChanged_X1 7 (by decide) (by decide +kernel) rfl rfl dX1_loadsIfChanged_17 ?_
  refine lv_iload_n X.1 X.2.1 dX1_loadsIfChanged_20 rfl (lv_at hl 4 rfl) ?_
  obtain ⟨hi4, hf⟩ := gin_of hf
  refine x_iald X hP hG_n.2.2.2.2.2.2 (by omega) hi4 dX1_loadsIfChanged_21 ?_
  obtain ⟨x5, ex5, hf⟩ := nm_of hf
  refine lv_top_as ex5 ?_
  refine lv_istore (lv' := [(5, .int x5), (4, .int x3), (3, .int x1), (0, .ref (qa b)), (1, .int p1), (2, .int p2)]) X.1 X.2.1 dX1_loadsIfChanged_22 hl (by decide) rfl (fun ls hl => ?_)
  refine lv_aload_n X.1 X.2.1 dX1_loadsIfChanged_24 rfl (lv_at hl 3 rfl) ?_
  refine lv_iload X.1 X.2.1 dX1_loadsIfChanged_25 (lv_at hl 1 rfl) ?_
  refine lv_aload_n X.1 X.2.1 dX1_loadsIfChanged_27 rfl (lv_at hl 3 rfl) ?_
  refine lv_iload X.1 X.2.1 dX1_loadsIfChanged_28 (lv_at hl 1 rfl) ?_
  obtain ⟨r6, hr6, hf⟩ := bd_of hf
  refine x_rdVi X hP hS hG_n.1 (by omega) rfl (n := 1) (As := [.int x3]) (ct_X1_wornBy (by omega) hG_n hr6) gX1_loadsIfChanged_X1_wornBy rfl (by decide +kernel) ⟨by decide, by decide⟩ rfl hl.1 rfl (Nat.le_of_ble_eq_true rfl) dX1_loadsIfChanged_30 (fun H locs hP hS => ?_)
  refine lv_iload_n X.1 X.2.1 dX1_loadsIfChanged_33 rfl (lv_at hl 2 rfl) ?_
  refine lv_ixor X.1 X.2.1 dX1_loadsIfChanged_34 ?_
  refine lv_aload_n X.1 X.2.1 dX1_loadsIfChanged_35 rfl (lv_at hl 3 rfl) ?_
  refine x_get X hP hG_n.1 (by omega) rfl in_X1_loadsIfChanged_X1 8 (by decide) (by decide +kernel) rfl rfl dX1_loadsIfChanged_36 ?_
  obtain ⟨r7, hr7, hf⟩ := bd_of hf
  refine x_rdVi X hP hS hG_n.1 (by omega) rfl (n := 3) (As := [.int x3, .int (r6 ^^^ x1), .int day_n]) (ct_X1_loadOfSet (by omega) hG_n hr7) gX1_loadsIfChanged_X1_loadOfSet rfl (by decide +kernel) ⟨by decide, by decide⟩ rfl hl.1 rfl (Nat.le_of_ble_eq_true rfl) dX1_loadsIfChanged_39 (fun H locs hP hS => ?_)
  refine lv_aload_n X.1 X.2.1 dX1_loadsIfChanged_42 rfl (lv_at hl 3 rfl) ?_
  refine lv_iload X.1 X.2.1 dX1_loadsIfChanged_43 (lv_at hl 0 rfl) ?_
  refine lv_aload_n X.1 X.2.1 dX1_loadsIfChanged_45 rfl (lv_at hl 3 rfl) ?_
  refine lv_iload X.1 X.2.1 dX1_loadsIfChanged_46 (lv_at hl 0 rfl) ?_
  obtain ⟨r8, hr8, hf⟩ := bd_of hf
  refine x_rdVi X hP hS hG_n.1 (by omega) rfl (n := 1) (As := [.int x5]) (ct_X1_wornBy (by omega) hG_n hr8) gX1_loadsIfChanged_X1_wornBy rfl (by decide +kernel) ⟨by decide, by decide⟩ rfl hl.1 rfl (Nat.le_of_ble_eq_true rfl) dX1_loadsIfChanged_48 (fun H locs hP hS => ?_)
  refine lv_iload_n X.1 X.2.1 dX1_loadsIfChanged_51 rfl (lv_at hl 2 rfl) ?_
  refine lv_ixor X.1 X.2.1 dX1_loadsIfChanged_52 ?_
  refine lv_aload_n X.1 X.2.1 dX1_loadsIfChanged_53 rfl (lv_at hl 3 rfl) ?_
  refine x_get X hP hG_n.1 (by omega) rfl in_X1_loadsIfChanged_X1 8 (by decide) (by decide +kernel) rfl rfl dX1_loadsIfChanged_54 ?_
  obtain ⟨r9, hr9, hf⟩ := bd_of hf
  refine x_rdVi X hP hS hG_n.1 (by omega) rfl (n := 3) (As := [.int x5, .int (r8 ^^^ x1), .int day_n]) (ct_X1_loadOfSet (by omega) hG_n hr9) gX1_loadsIfChanged_X1_loadOfSet rfl (by decide +kernel) ⟨by decide, by decide⟩ rfl hl.1 rfl (Nat.le_of_ble_eq_true rfl) dX1_loadsIfChanged_57 (fun H locs hP hS => ?_)
  refine lv_iadd X.1 X.2.1 dX1_loadsIfChanged_60 ?_
  obtain rfl := Option.some.inj hf
  exact hret _ _ _ _ _ _ dX1_loadsIfChanged_61 rfl rfl (rfl) hP hS
def bX1_passDay_2 (men_n : Int32) (md_n : Int32) (day_n : Int32) (bu_n : Nat → Int32) (ki_n : Nat → Int32) (we_n : Nat → Int32) (wo_n : Nat → Int32) (wr_n : Nat → Int32) (K1 : ((Int32 × (Nat → Int32))) → Option (Int32 × (Nat → Int32))) : ((Int32 × (Nat → Int32))) → Option (Int32 × (Nat → Int32))
  | (v1_1, st_n_1) => if men_n ≤ v1_1 then (some (day_n + 1, st_n_1)) else (gin v1_1 5 ((fX1_strengthAfter v1_1 (st_n_1 (Int32.toNatClampNeg v1_1)) day_n md_n bu_n ki_n we_n wo_n wr_n).bind (fun r4 => gin v1_1 5 (nm (v1_1 + 1) (fun x6 => K1 (x6, upd st_n_1 (Int32.toNatClampNeg v1_1) r4))))))
def fX1_passDay  (men_n : Int32) (md_n : Int32) (day_n : Int32) (bu_n : Nat → Int32) (st_n : Nat → Int32) (ki_n : Nat → Int32) (we_n : Nat → Int32) (wo_n : Nat → Int32) (wr_n : Nat → Int32) : Option (Int32 × (Nat → Int32)) := lp (bX1_passDay_2 men_n md_n day_n bu_n ki_n we_n wo_n wr_n) FU (0, st_n)
theorem in_X1_passDay_X1 : ∀ w ∈ wsX10, w ∈ wsX1_passDay := by decide +kernel
set_option maxHeartbeats 4000000 in
set_option maxRecDepth 100000 in
theorem ct_X1_passDay {l : Launch} {D : va_G} {g : Nat → ClassId} {qa : Nat → Nat} {E0 : Nat → va_E} {b : Nat} {men_n : Int32} {md_n : Int32} {day_n : Int32} {drw_n : Int32} {bu_n : Nat → Int32} {st_n : Nat → Int32} {ki_n : Nat → Int32} {we_n : Nat → Int32} {wo_n : Nat → Int32} {wr_n : Nat → Int32} (hb_n : b + 7 ≤ 74) (hG_n : Mu g qa E0 b men_n md_n day_n drw_n bu_n st_n ki_n we_n wo_n wr_n) {R : (Int32 × (Nat → Int32))} (hf : fX1_passDay men_n md_n day_n bu_n st_n ki_n we_n wo_n wr_n = some R) : MV l yX1_passDay wsX1_passDay 4 D g qa E0 [.ref (qa b)] (fun E => Mu g qa E b men_n md_n R.1 drw_n bu_n R.2 ki_n we_n wo_n wr_n ∧ ∀ j, (j < b ∨ b + 7 ≤ j) → E j = E0 j) := by
  refine MV.mk (by decide) rfl (Nat.le_of_ble_eq_true rfl) ?_
  intro p e s m args below meth c ls Q X hret hP hS hl
  have hl : lv_has ls 2 [(0, .ref (qa b))] := hl
  have hfr : ∀ j, (j < b ∨ b + 7 ≤ j) → E0 j = E0 j := fun _ _ => rfl
  rw [fX1_passDay] at hf
  refine lv_iconst (v := 0) X.1 X.2.1 dX1_passDay_0 (by decide) ?_
  refine lv_istore_n (lv' := [(1, .int 0), (0, .ref (qa b))]) X.1 X.2.1 dX1_passDay_1 rfl hl (by decide) rfl (fun ls hl => ?_)
  have lp1 : ∀ (n1 : Nat) (v1_1 : Int32) (st_n_1 : Nat → Int32) (E : Nat → va_E) (H : Heap) (locs : List Loc) (ls : Array Slot), lp (bX1_passDay_2 men_n md_n day_n bu_n ki_n we_n wo_n wr_n) n1 (v1_1, st_n_1) = some R → va_P D vwCl (WD qa E) H → va_S (gA qa s.heap.size) s.heap H locs → Mu g qa E b men_n md_n day_n drw_n bu_n st_n_1 ki_n we_n wo_n wr_n → (∀ j, (j < b ∨ b + 7 ≤ j) → E j = E0 j) → lv_has ls 2 [(0, .ref (qa b)), (1, .int v1_1)] → W p l e (rmf 4) s m args below meth c H locs 0 0 Q (F0 m 2 ls []) := by
    intro n1
    induction n1 with
    | zero =>
      intro v1_1 st_n_1 E H locs ls hf
      exact absurd hf (by intro h; cases h)
    | succ n1 ih1 =>
      intro v1_1 st_n_1 E H locs ls hf hP hS hG_n hfr hl
      have hf : bX1_passDay_2 men_n md_n day_n bu_n ki_n we_n wo_n wr_n (lp (bX1_passDay_2 men_n md_n day_n bu_n ki_n we_n wo_n wr_n) n1) (v1_1, st_n_1) = some R := hf
      rw [bX1_passDay_2] at hf
      refine lv_iload_n X.1 X.2.1 dX1_passDay_2 rfl (lv_at hl 1 rfl) ?_
      refine lv_aload_n X.1 X.2.1 dX1_passDay_3 rfl (lv_at hl 0 rfl) ?_
      refine x_get X hP hG_n.1 (by omega) rfl in_X1_passDay_X1 0 (by decide) (by decide +kernel) rfl rfl dX1_passDay_4 ?_
      refine lv_icmp_ge (tgt := 37) X.1 X.2.1 dX1_passDay_7 (by decide) (fun c2 => ?_) (fun c2 => ?_)
      · have hf := ifp hf c2
        refine lv_aload_n X.1 X.2.1 dX1_passDay_37 rfl (lv_at hl 0 rfl) ?_
        refine lv_dup X.1 X.2.1 dX1_passDay_38 rfl ?_
        refine x_get X hP hG_n.1 (by omega) rfl in_X1_passDay_X1 8 (by decide) (by decide +kernel) rfl rfl dX1_passDay_39 ?_
        refine lv_iconst (v := 1) X.1 X.2.1 dX1_passDay_42 (by decide) ?_
        refine lv_iadd X.1 X.2.1 dX1_passDay_43 ?_
        refine x_put (ty := .int) X hP hS hG_n.1 (by omega) rfl in_X1_passDay_X1 tyX1 tyX1_ok nmX1 8 (by decide) (by decide +kernel) rfl rfl (by decide +kernel) rfl rfl (Nat.le_of_ble_eq_true rfl) dX1_passDay_44 (fun E H locs h1 hk hP hS => ?_)
        have hG_n := Mu_set_0 hG_n h1 hk
        have hfr : ∀ j, (j < b ∨ b + 7 ≤ j) → E j = E0 j := fun j o0 => (hk j (by omega)).trans (hfr j o0)
        obtain rfl := Option.some.inj hf
        exact hret _ _ _ _ _ dX1_passDay_47 (⟨hG_n, hfr⟩) hP hS
      · have hf := ifn hf c2
        refine lv_aload_n X.1 X.2.1 dX1_passDay_10 rfl (lv_at hl 0 rfl) ?_
        refine x_get X hP hG_n.1 (by omega) rfl in_X1_passDay_X1 2 (by decide) (by decide +kernel) rfl rfl dX1_passDay_11 ?_
        refine lv_iload_n X.1 X.2.1 dX1_passDay_14 rfl (lv_at hl 1 rfl) ?_
        refine lv_aload_n X.1 X.2.1 dX1_passDay_15 rfl (lv_at hl 0 rfl) ?_
        refine lv_iload_n X.1 X.2.1 dX1_passDay_16 rfl (lv_at hl 1 rfl) ?_
        refine lv_aload_n X.1 X.2.1 dX1_passDay_17 rfl (lv_at hl 0 rfl) ?_
        refine x_get X hP hG_n.1 (by omega) rfl in_X1_passDay_X1 2 (by decide) (by decide +kernel) rfl rfl dX1_passDay_18 ?_
        refine lv_iload_n X.1 X.2.1 dX1_passDay_21 rfl (lv_at hl 1 rfl) ?_
        obtain ⟨hi3, hf⟩ := gin_of hf
        refine x_iald X hP hG_n.2.2.1 (by omega) hi3 dX1_passDay_22 ?_
        refine lv_aload_n X.1 X.2.1 dX1_passDay_23 rfl (lv_at hl 0 rfl) ?_
        refine x_get X hP hG_n.1 (by omega) rfl in_X1_passDay_X1 8 (by decide) (by decide +kernel) rfl rfl dX1_passDay_24 ?_
        obtain ⟨r4, hr4, hf⟩ := bd_of hf
        refine x_rdVi X hP hS hG_n.1 (by omega) rfl (n := 3) (As := [.int v1_1, .int (st_n_1 (Int32.toNatClampNeg v1_1)), .int day_n]) (ct_X1_strengthAfter (by omega) hG_n hr4) gX1_passDay_X1_strengthAfter rfl (by decide +kernel) ⟨by decide, by decide⟩ rfl hl.1 rfl (Nat.le_of_ble_eq_true rfl) dX1_passDay_27 (fun H locs hP hS => ?_)
        obtain ⟨hi5, hf⟩ := gin_of hf
        refine x_iast X hP hS hG_n.2.2.1 (by omega) hi5 dX1_passDay_30 (fun E H locs h1 hk hP hS => ?_)
        have hG_n := Mu_set_2 hG_n h1 hk
        have hfr : ∀ j, (j < b ∨ b + 7 ≤ j) → E j = E0 j := fun j o0 => (hk j (by omega)).trans (hfr j o0)
        obtain ⟨x6, ex6, hf⟩ := nm_of hf
        refine lv_iinc (v := x6) (lv' := [(1, .int x6), (0, .ref (qa b))]) X.1 X.2.1 dX1_passDay_31 hl (k := 1) rfl (by rw [ex6]; rfl) (by decide) rfl (fun ls hl => ?_)
        refine lv_goto (tgt := 2) X.1 X.2.1 dX1_passDay_34 (by decide) ?_
        exact ih1 x6 (upd st_n_1 (Int32.toNatClampNeg v1_1) r4) _ _ _ _ hf hP hS hG_n hfr (lv_sub hl [1, 0] rfl)
  exact lp1 FU 0 st_n _ _ _ _ hf hP hS hG_n hfr (lv_sub hl [1, 0] rfl)
def fX1_wornByTwo (p1 : Int32) (p2 : Int32) (wr_n : Nat → Int32) : Option Int32 := gin p1 6 (if (wr_n (Int32.toNatClampNeg p1)) = (-4) then (some 0) else (gin p2 6 (if (wr_n (Int32.toNatClampNeg p2)) = (-4) then (some 0) else (gin p1 6 (gin p2 6 (if (wr_n (Int32.toNatClampNeg p1)) = (wr_n (Int32.toNatClampNeg p2)) then (some 0) else (some 1)))))))
theorem in_X1_wornByTwo_X1 : ∀ w ∈ wsX10, w ∈ wsX1_wornByTwo := by decide +kernel
set_option maxHeartbeats 4000000 in
set_option maxRecDepth 100000 in
theorem ct_X1_wornByTwo {l : Launch} {D : va_G} {g : Nat → ClassId} {qa : Nat → Nat} {E0 : Nat → va_E} {b : Nat} {p1 : Int32} {p2 : Int32} {men_n : Int32} {md_n : Int32} {day_n : Int32} {drw_n : Int32} {bu_n : Nat → Int32} {st_n : Nat → Int32} {ki_n : Nat → Int32} {we_n : Nat → Int32} {wo_n : Nat → Int32} {wr_n : Nat → Int32} (hb_n : b + 7 ≤ 74) (hG_n : Mu g qa E0 b men_n md_n day_n drw_n bu_n st_n ki_n we_n wo_n wr_n) {R : Int32} (hf : fX1_wornByTwo p1 p2 wr_n = some R) : MI l yX1_wornByTwo wsX1_wornByTwo 0 D g qa E0 [.ref (qa b), .int p1, .int p2] R (fun E => E = E0) := by
  refine MI.mk (by decide) rfl (Nat.le_of_ble_eq_true rfl) ?_
  intro p e s m args below meth c ls Q X hret hP hS hl
  have hl : lv_has ls 3 [(0, .ref (qa b)), (1, .int p1), (2, .int p2)] := hl
  rw [fX1_wornByTwo] at hf
  refine lv_aload_n X.1 X.2.1 dX1_wornByTwo_0 rfl (lv_at hl 0 rfl) ?_
  refine x_get X hP hG_n.1 (by omega) rfl in_X1_wornByTwo_X1 7 (by decide) (by decide +kernel) rfl rfl dX1_wornByTwo_1 ?_
  refine lv_iload_n X.1 X.2.1 dX1_wornByTwo_4 rfl (lv_at hl 1 rfl) ?_
  obtain ⟨hi1, hf⟩ := gin_of hf
  refine x_iald X hP hG_n.2.2.2.2.2.2 (by omega) hi1 dX1_wornByTwo_5 ?_
  refine lv_bipush (v := (-4)) X.1 X.2.1 dX1_wornByTwo_6 (by decide) ?_
  refine lv_icmp_eq (tgt := 41) X.1 X.2.1 dX1_wornByTwo_8 (by decide) (fun c2 => ?_) (fun c2 => ?_)
  · have hf := ifp hf c2
    refine lv_iconst (v := 0) X.1 X.2.1 dX1_wornByTwo_41 (by decide) ?_
    obtain rfl := Option.some.inj hf
    exact hret _ _ _ _ _ _ dX1_wornByTwo_42 rfl rfl (rfl) hP hS
  · have hf := ifn hf c2
    refine lv_aload_n X.1 X.2.1 dX1_wornByTwo_11 rfl (lv_at hl 0 rfl) ?_
    refine x_get X hP hG_n.1 (by omega) rfl in_X1_wornByTwo_X1 7 (by decide) (by decide +kernel) rfl rfl dX1_wornByTwo_12 ?_
    refine lv_iload_n X.1 X.2.1 dX1_wornByTwo_15 rfl (lv_at hl 2 rfl) ?_
    obtain ⟨hi3, hf⟩ := gin_of hf
    refine x_iald X hP hG_n.2.2.2.2.2.2 (by omega) hi3 dX1_wornByTwo_16 ?_
    refine lv_bipush (v := (-4)) X.1 X.2.1 dX1_wornByTwo_17 (by decide) ?_
    refine lv_icmp_eq (tgt := 41) X.1 X.2.1 dX1_wornByTwo_19 (by decide) (fun c4 => ?_) (fun c4 => ?_)
    · have hf := ifp hf c4
      refine lv_iconst (v := 0) X.1 X.2.1 dX1_wornByTwo_41 (by decide) ?_
      obtain rfl := Option.some.inj hf
      exact hret _ _ _ _ _ _ dX1_wornByTwo_42 rfl rfl (rfl) hP hS
    · have hf := ifn hf c4
      refine lv_aload_n X.1 X.2.1 dX1_wornByTwo_22 rfl (lv_at hl 0 rfl) ?_
      refine x_get X hP hG_n.1 (by omega) rfl in_X1_wornByTwo_X1 7 (by decide) (by decide +kernel) rfl rfl dX1_wornByTwo_23 ?_
      refine lv_iload_n X.1 X.2.1 dX1_wornByTwo_26 rfl (lv_at hl 1 rfl) ?_
      obtain ⟨hi5, hf⟩ := gin_of hf
      refine x_iald X hP hG_n.2.2.2.2.2.2 (by omega) hi5 dX1_wornByTwo_27 ?_
      refine lv_aload_n X.1 X.2.1 dX1_wornByTwo_28 rfl (lv_at hl 0 rfl) ?_
      refine x_get X hP hG_n.1 (by omega) rfl in_X1_wornByTwo_X1 7 (by decide) (by decide +kernel) rfl rfl dX1_wornByTwo_29 ?_
      refine lv_iload_n X.1 X.2.1 dX1_wornByTwo_32 rfl (lv_at hl 2 rfl) ?_
      obtain ⟨hi6, hf⟩ := gin_of hf
      refine x_iald X hP hG_n.2.2.2.2.2.2 (by omega) hi6 dX1_wornByTwo_33 ?_
      refine lv_icmp_eq (tgt := 41) X.1 X.2.1 dX1_wornByTwo_34 (by decide) (fun c7 => ?_) (fun c7 => ?_)
      · have hf := ifp hf c7
        refine lv_iconst (v := 0) X.1 X.2.1 dX1_wornByTwo_41 (by decide) ?_
        obtain rfl := Option.some.inj hf
        exact hret _ _ _ _ _ _ dX1_wornByTwo_42 rfl rfl (rfl) hP hS
      · have hf := ifn hf c7
        refine lv_iconst (v := 1) X.1 X.2.1 dX1_wornByTwo_37 (by decide) ?_
        refine lv_goto (tgt := 42) X.1 X.2.1 dX1_wornByTwo_38 (by decide) ?_
        obtain rfl := Option.some.inj hf
        exact hret _ _ _ _ _ _ dX1_wornByTwo_42 rfl rfl (rfl) hP hS
def bX1_medalsWith_wo_5 (md_n : Int32) (wo_n : Nat → Int32) (p2 : Int32) (K1 : ((Int32 × Int32)) → Option Int32) : ((Int32 × Int32)) → Option Int32
  | (v3_1, v4_1) => if md_n ≤ v4_1 then (some v3_1) else (gin v4_1 6 (if (wo_n (Int32.toNatClampNeg v4_1)) = p2 then (nm (v3_1 ||| (1 <<< (v4_1 &&& 31))) (fun x6 => nm (v4_1 + 1) (fun x7 => K1 (x6, x7)))) else (nm (v4_1 + 1) (fun x5 => K1 (v3_1, x5)))))
def fX1_medalsWith_wo (p2 : Int32) (md_n : Int32) (wo_n : Nat → Int32) : Option Int32 := lp (bX1_medalsWith_wo_5 md_n wo_n p2) FU (0, 0)
set_option maxHeartbeats 4000000 in
set_option maxRecDepth 100000 in
theorem ct_X1_medalsWith_wo {l : Launch} {D : va_G} {g : Nat → ClassId} {qa : Nat → Nat} {E0 : Nat → va_E} {b : Nat} {p2 : Int32} {men_n : Int32} {md_n : Int32} {day_n : Int32} {drw_n : Int32} {bu_n : Nat → Int32} {st_n : Nat → Int32} {ki_n : Nat → Int32} {we_n : Nat → Int32} {wo_n : Nat → Int32} {wr_n : Nat → Int32} (hb_n : b + 7 ≤ 74) (hG_n : Mu g qa E0 b men_n md_n day_n drw_n bu_n st_n ki_n we_n wo_n wr_n) {R : Int32} (hf : fX1_medalsWith_wo p2 md_n wo_n = some R) : MI l yX1_medalsWith wsX1_medalsWith 0 D g qa E0 [.ref (qa b), .ref (qa (b + 5)), .int p2] R (fun E => E = E0) := by
  refine MI.mk (by decide) rfl (Nat.le_of_ble_eq_true rfl) ?_
  intro p e s m args below meth c ls Q X hret hP hS hl
  have hl : lv_has ls 5 [(0, .ref (qa b)), (1, .ref (qa (b + 5))), (2, .int p2)] := hl
  rw [fX1_medalsWith_wo] at hf
  refine lv_iconst (v := 0) X.1 X.2.1 dX1_medalsWith_0 (by decide) ?_
  refine lv_istore_n (lv' := [(3, .int 0), (0, .ref (qa b)), (1, .ref (qa (b + 5))), (2, .int p2)]) X.1 X.2.1 dX1_medalsWith_1 rfl hl (by decide) rfl (fun ls hl => ?_)
  refine lv_iconst (v := 0) X.1 X.2.1 dX1_medalsWith_2 (by decide) ?_
  refine lv_istore (lv' := [(4, .int 0), (3, .int 0), (0, .ref (qa b)), (1, .ref (qa (b + 5))), (2, .int p2)]) X.1 X.2.1 dX1_medalsWith_3 hl (by decide) rfl (fun ls hl => ?_)
  have lp1 : ∀ (n1 : Nat) (v3_1 : Int32) (v4_1 : Int32) (H : Heap) (locs : List Loc) (ls : Array Slot), lp (bX1_medalsWith_wo_5 md_n wo_n p2) n1 (v3_1, v4_1) = some R → va_P D vwCl (WD qa E0) H → va_S (gA qa s.heap.size) s.heap H locs → lv_has ls 5 [(0, .ref (qa b)), (1, .ref (qa (b + 5))), (2, .int p2), (3, .int v3_1), (4, .int v4_1)] → W p l e (rmf 0) s m args below meth c H locs 0 0 Q (F0 m 5 ls []) := by
    intro n1
    induction n1 with
    | zero =>
      intro v3_1 v4_1 H locs ls hf
      exact absurd hf (by intro h; cases h)
    | succ n1 ih1 =>
      intro v3_1 v4_1 H locs ls hf hP hS hl
      have hf : bX1_medalsWith_wo_5 md_n wo_n p2 (lp (bX1_medalsWith_wo_5 md_n wo_n p2) n1) (v3_1, v4_1) = some R := hf
      rw [bX1_medalsWith_wo_5] at hf
      refine lv_iload X.1 X.2.1 dX1_medalsWith_5 (lv_at hl 4 rfl) ?_
      refine lv_aload_n X.1 X.2.1 dX1_medalsWith_7 rfl (lv_at hl 0 rfl) ?_
      refine x_get X hP hG_n.1 (by omega) rfl in_X1_medalsWith_X1 3 (by decide) (by decide +kernel) rfl rfl dX1_medalsWith_8 ?_
      refine lv_icmp_ge (tgt := 35) X.1 X.2.1 dX1_medalsWith_11 (by decide) (fun c2 => ?_) (fun c2 => ?_)
      · have hf := ifp hf c2
        refine lv_iload_n X.1 X.2.1 dX1_medalsWith_35 rfl (lv_at hl 3 rfl) ?_
        obtain rfl := Option.some.inj hf
        exact hret _ _ _ _ _ _ dX1_medalsWith_36 rfl rfl (rfl) hP hS
      · have hf := ifn hf c2
        refine lv_aload_n X.1 X.2.1 dX1_medalsWith_14 rfl (lv_at hl 1 rfl) ?_
        refine lv_iload X.1 X.2.1 dX1_medalsWith_15 (lv_at hl 4 rfl) ?_
        obtain ⟨hi3, hf⟩ := gin_of hf
        refine x_iald X hP hG_n.2.2.2.2.2.1 (by omega) hi3 dX1_medalsWith_17 ?_
        refine lv_iload_n X.1 X.2.1 dX1_medalsWith_18 rfl (lv_at hl 2 rfl) ?_
        refine lv_icmp_ne (tgt := 29) X.1 X.2.1 dX1_medalsWith_19 (by decide) (fun c4 => ?_) (fun c4 => ?_)
        · have hf := ifn hf c4
          obtain ⟨x5, ex5, hf⟩ := nm_of hf
          refine lv_iinc (v := x5) (lv' := [(4, .int x5), (0, .ref (qa b)), (1, .ref (qa (b + 5))), (2, .int p2), (3, .int v3_1)]) X.1 X.2.1 dX1_medalsWith_29 hl (k := 4) rfl (by rw [ex5]; rfl) (by decide) rfl (fun ls hl => ?_)
          refine lv_goto (tgt := 5) X.1 X.2.1 dX1_medalsWith_32 (by decide) ?_
          exact ih1 v3_1 x5 _ _ _ hf hP hS (lv_sub hl [1, 2, 3, 4, 0] rfl)
        · have hf := ifp hf c4
          refine lv_iload_n X.1 X.2.1 dX1_medalsWith_22 rfl (lv_at hl 3 rfl) ?_
          refine lv_iconst (v := 1) X.1 X.2.1 dX1_medalsWith_23 (by decide) ?_
          refine lv_iload X.1 X.2.1 dX1_medalsWith_24 (lv_at hl 4 rfl) ?_
          refine lv_ishl X.1 X.2.1 dX1_medalsWith_26 ?_
          refine lv_ior X.1 X.2.1 dX1_medalsWith_27 ?_
          obtain ⟨x6, ex6, hf⟩ := nm_of hf
          refine lv_top_as ex6 ?_
          refine lv_istore_n (lv' := [(3, .int x6), (0, .ref (qa b)), (1, .ref (qa (b + 5))), (2, .int p2), (4, .int v4_1)]) X.1 X.2.1 dX1_medalsWith_28 rfl hl (by decide) rfl (fun ls hl => ?_)
          obtain ⟨x7, ex7, hf⟩ := nm_of hf
          refine lv_iinc (v := x7) (lv' := [(4, .int x7), (3, .int x6), (0, .ref (qa b)), (1, .ref (qa (b + 5))), (2, .int p2)]) X.1 X.2.1 dX1_medalsWith_29 hl (k := 4) rfl (by rw [ex7]; rfl) (by decide) rfl (fun ls hl => ?_)
          refine lv_goto (tgt := 5) X.1 X.2.1 dX1_medalsWith_32 (by decide) ?_
          exact ih1 x6 x7 _ _ _ hf hP hS (lv_sub hl [2, 3, 4, 1, 0] rfl)
  exact lp1 FU 0 0 _ _ _ hf hP hS (lv_sub hl [2, 3, 4, 1, 0] rfl)
def fX1_woundsOf (p1 : Int32) (md_n : Int32) (wo_n : Nat → Int32) : Option Int32 := (fX1_medalsWith_wo p1 md_n wo_n).bind (fun r1 => some r1)
theorem in_X1_woundsOf_X1 : ∀ w ∈ wsX10, w ∈ wsX1_woundsOf := by decide +kernel
set_option maxHeartbeats 4000000 in
set_option maxRecDepth 100000 in
theorem ct_X1_woundsOf {l : Launch} {D : va_G} {g : Nat → ClassId} {qa : Nat → Nat} {E0 : Nat → va_E} {b : Nat} {p1 : Int32} {men_n : Int32} {md_n : Int32} {day_n : Int32} {drw_n : Int32} {bu_n : Nat → Int32} {st_n : Nat → Int32} {ki_n : Nat → Int32} {we_n : Nat → Int32} {wo_n : Nat → Int32} {wr_n : Nat → Int32} (hb_n : b + 7 ≤ 74) (hG_n : Mu g qa E0 b men_n md_n day_n drw_n bu_n st_n ki_n we_n wo_n wr_n) {R : Int32} (hf : fX1_woundsOf p1 md_n wo_n = some R) : MI l yX1_woundsOf wsX1_woundsOf 1 D g qa E0 [.ref (qa b), .int p1] R (fun E => E = E0) := by
  refine MI.mk (by decide) rfl (Nat.le_of_ble_eq_true rfl) ?_
  intro p e s m args below meth c ls Q X hret hP hS hl
  have hl : lv_has ls 2 [(0, .ref (qa b)), (1, .int p1)] := hl
  rw [fX1_woundsOf] at hf
  refine lv_aload_n X.1 X.2.1 dX1_woundsOf_0 rfl (lv_at hl 0 rfl) ?_
  refine lv_aload_n X.1 X.2.1 dX1_woundsOf_1 rfl (lv_at hl 0 rfl) ?_
  refine x_get X hP hG_n.1 (by omega) rfl in_X1_woundsOf_X1 6 (by decide) (by decide +kernel) rfl rfl dX1_woundsOf_2 ?_
  refine lv_iload_n X.1 X.2.1 dX1_woundsOf_5 rfl (lv_at hl 1 rfl) ?_
  obtain ⟨r1, hr1, hf⟩ := bd_of hf
  refine x_rdVi X hP hS hG_n.1 (by omega) rfl (n := 2) (As := [.ref (qa (b + 5)), .int p1]) (ct_X1_medalsWith_wo (by omega) hG_n hr1) gX1_woundsOf_X1_medalsWith rfl (by decide +kernel) ⟨by decide, by decide⟩ rfl hl.1 rfl (Nat.le_of_ble_eq_true rfl) dX1_woundsOf_6 (fun H locs hP hS => ?_)
  obtain rfl := Option.some.inj hf
  exact hret _ _ _ _ _ _ dX1_woundsOf_9 rfl rfl (rfl) hP hS
def fX1_take  (bu_n : Nat → Int32) (st_n : Nat → Int32) (ki_n : Nat → Int32) (we_n : Nat → Int32) (wo_n : Nat → Int32) (wr_n : Nat → Int32) (men_o : Int32) (md_o : Int32) (day_o : Int32) (drw_o : Int32) (bu_o : Nat → Int32) (st_o : Nat → Int32) (ki_o : Nat → Int32) (we_o : Nat → Int32) (wo_o : Nat → Int32) (wr_o : Nat → Int32) : Option (Int32 × Int32 × Int32 × Int32 × (Nat → Int32) × (Nat → Int32) × (Nat → Int32) × (Nat → Int32) × (Nat → Int32) × (Nat → Int32)) := gcp 0 0 5 5 5 (gcp 0 0 5 5 5 (gcp 0 0 6 6 6 (gcp 0 0 6 6 6 (gcp 0 0 6 6 6 (gcp 0 0 6 6 6 (some (men_o, md_o, day_o, drw_o, va_cpy bu_o bu_n (Int32.toNatClampNeg 0) (Int32.toNatClampNeg 0) (Int32.toNatClampNeg 5), va_cpy st_o st_n (Int32.toNatClampNeg 0) (Int32.toNatClampNeg 0) (Int32.toNatClampNeg 5), va_cpy ki_o ki_n (Int32.toNatClampNeg 0) (Int32.toNatClampNeg 0) (Int32.toNatClampNeg 6), va_cpy we_o we_n (Int32.toNatClampNeg 0) (Int32.toNatClampNeg 0) (Int32.toNatClampNeg 6), va_cpy wo_o wo_n (Int32.toNatClampNeg 0) (Int32.toNatClampNeg 0) (Int32.toNatClampNeg 6), va_cpy wr_o wr_n (Int32.toNatClampNeg 0) (Int32.toNatClampNeg 0) (Int32.toNatClampNeg 6))))))))
theorem in_X1_take_X1 : ∀ w ∈ wsX10, w ∈ wsX1_take := by decide +kernel
set_option maxHeartbeats 4000000 in
set_option maxRecDepth 100000 in
theorem ct_X1_take {l : Launch} {D : va_G} {g : Nat → ClassId} {qa : Nat → Nat} {E0 : Nat → va_E} {b : Nat} {b2 : Nat} {men_n : Int32} {md_n : Int32} {day_n : Int32} {drw_n : Int32} {bu_n : Nat → Int32} {st_n : Nat → Int32} {ki_n : Nat → Int32} {we_n : Nat → Int32} {wo_n : Nat → Int32} {wr_n : Nat → Int32} {men_o : Int32} {md_o : Int32} {day_o : Int32} {drw_o : Int32} {bu_o : Nat → Int32} {st_o : Nat → Int32} {ki_o : Nat → Int32} {we_o : Nat → Int32} {wo_o : Nat → Int32} {wr_o : Nat → Int32} (hb_n : b + 7 ≤ 74) (hG_n : Mu g qa E0 b men_n md_n day_n drw_n bu_n st_n ki_n we_n wo_n wr_n) (hb_o : b2 + 7 ≤ 74) (hG_o : Mu g qa E0 b2 men_o md_o day_o drw_o bu_o st_o ki_o we_o wo_o wr_o) (hx0 : b + 7 ≤ b2 ∨ b2 + 7 ≤ b) {R : (Int32 × Int32 × Int32 × Int32 × (Nat → Int32) × (Nat → Int32) × (Nat → Int32) × (Nat → Int32) × (Nat → Int32) × (Nat → Int32))} (hf : fX1_take bu_n st_n ki_n we_n wo_n wr_n men_o md_o day_o drw_o bu_o st_o ki_o we_o wo_o wr_o = some R) : MV l yX1_take wsX1_take 1 D g qa E0 [.ref (qa b), .ref (qa b2)] (fun E => Mu g qa E b R.1 R.2.1 R.2.2.1 R.2.2.2.1 R.2.2.2.2.1 R.2.2.2.2.2.1 R.2.2.2.2.2.2.1 R.2.2.2.2.2.2.2.1 R.2.2.2.2.2.2.2.2.1 R.2.2.2.2.2.2.2.2.2 ∧ ∀ j, (j < b ∨ b + 7 ≤ j) → E j = E0 j) := by
  refine MV.mk (by decide) rfl (Nat.le_of_ble_eq_true rfl) ?_
  intro p e s m args below meth c ls Q X hret hP hS hl
  have hl : lv_has ls 2 [(0, .ref (qa b)), (1, .ref (qa b2))] := hl
  have hfr : ∀ j, (j < b ∨ b + 7 ≤ j) → E0 j = E0 j := fun _ _ => rfl
  rw [fX1_take] at hf
  refine lv_aload_n X.1 X.2.1 dX1_take_0 rfl (lv_at hl 0 rfl) ?_
  refine lv_aload_n X.1 X.2.1 dX1_take_1 rfl (lv_at hl 1 rfl) ?_
  refine x_get X hP hG_o.1 (by omega) rfl in_X1_take_X1 0 (by decide) (by decide +kernel) rfl rfl dX1_take_2 ?_
  refine x_put (ty := .int) X hP hS hG_n.1 (by omega) rfl in_X1_take_X1 tyX1 tyX1_ok nmX1 0 (by decide) (by decide +kernel) rfl rfl (by decide +kernel) rfl rfl (Nat.le_of_ble_eq_true rfl) dX1_take_5 (fun E H locs h1 hk hP hS => ?_)
  have hG_n := Mu_set_0 hG_n h1 hk
  have hG_o := Mu_kept hG_o (fun j h8 h9 => hk j (by omega))
  have hfr : ∀ j, (j < b ∨ b + 7 ≤ j) → E j = E0 j := fun j o0 => (hk j (by omega)).trans (hfr j o0)
  refine lv_aload_n X.1 X.2.1 dX1_take_8 rfl (lv_at hl 1 rfl) ?_
  refine x_get X hP hG_o.1 (by omega) rfl in_X1_take_X1 1 (by decide) (by decide +kernel) rfl rfl dX1_take_9 ?_
  refine lv_iconst (v := 0) X.1 X.2.1 dX1_take_12 (by decide) ?_
  refine lv_aload_n X.1 X.2.1 dX1_take_13 rfl (lv_at hl 0 rfl) ?_
  refine x_get X hP hG_n.1 (by omega) rfl in_X1_take_X1 1 (by decide) (by decide +kernel) rfl rfl dX1_take_14 ?_
  refine lv_iconst (v := 0) X.1 X.2.1 dX1_take_17 (by decide) ?_
  refine lv_iconst (v := 5) X.1 X.2.1 dX1_take_18 (by decide) ?_
  obtain ⟨hy1, hf⟩ := gcp_of hf
  refine x_copyi X hP hS hG_o.2.1 (by omega) hG_n.2.1 (by omega) (index := 43) (by decide +kernel) (by decide +kernel) (by decide +kernel) (by decide +kernel) hl.1 hy1.1 hy1.2.1 hy1.2.2.1 hy1.2.2.2.1 hy1.2.2.2.2 (by decide) (Nat.le_of_ble_eq_true rfl) dX1_take_19 (fun E H locs h1 hk hP hS => ?_)
  have hG_n := Mu_set_1 hG_n h1 hk
  have hG_o := Mu_kept hG_o (fun j h8 h9 => hk j (by omega))
  have hfr : ∀ j, (j < b ∨ b + 7 ≤ j) → E j = E0 j := fun j o0 => (hk j (by omega)).trans (hfr j o0)
  refine lv_aload_n X.1 X.2.1 dX1_take_22 rfl (lv_at hl 1 rfl) ?_
  refine x_get X hP hG_o.1 (by omega) rfl in_X1_take_X1 2 (by decide) (by decide +kernel) rfl rfl dX1_take_23 ?_
  refine lv_iconst (v := 0) X.1 X.2.1 dX1_take_26 (by decide) ?_
  refine lv_aload_n X.1 X.2.1 dX1_take_27 rfl (lv_at hl 0 rfl) ?_
  refine x_get X hP hG_n.1 (by omega) rfl in_X1_take_X1 2 (by decide) (by decide +kernel) rfl rfl dX1_take_28 ?_
  refine lv_iconst (v := 0) X.1 X.2.1 dX1_take_31 (by decide) ?_
  refine lv_iconst (v := 5) X.1 X.2.1 dX1_take_32 (by decide) ?_
  obtain ⟨hy2, hf⟩ := gcp_of hf
  refine x_copyi X hP hS hG_o.2.2.1 (by omega) hG_n.2.2.1 (by omega) (index := 43) (by decide +kernel) (by decide +kernel) (by decide +kernel) (by decide +kernel) hl.1 hy2.1 hy2.2.1 hy2.2.2.1 hy2.2.2.2.1 hy2.2.2.2.2 (by decide) (Nat.le_of_ble_eq_true rfl) dX1_take_33 (fun E H locs h1 hk hP hS => ?_)
  have hG_n := Mu_set_2 hG_n h1 hk
  have hG_o := Mu_kept hG_o (fun j h8 h9 => hk j (by omega))
  have hfr : ∀ j, (j < b ∨ b + 7 ≤ j) → E j = E0 j := fun j o0 => (hk j (by omega)).trans (hfr j o0)
  refine lv_aload_n X.1 X.2.1 dX1_take_36 rfl (lv_at hl 0 rfl) ?_
  refine lv_aload_n X.1 X.2.1 dX1_take_37 rfl (lv_at hl 1 rfl) ?_
  refine x_get X hP hG_o.1 (by omega) rfl in_X1_take_X1 3 (by decide) (by decide +kernel) rfl rfl dX1_take_38 ?_
  refine x_put (ty := .int) X hP hS hG_n.1 (by omega) rfl in_X1_take_X1 tyX1 tyX1_ok nmX1 3 (by decide) (by decide +kernel) rfl rfl (by decide +kernel) rfl rfl (Nat.le_of_ble_eq_true rfl) dX1_take_41 (fun E H locs h1 hk hP hS => ?_)
  have hG_n := Mu_set_0 hG_n h1 hk
  have hG_o := Mu_kept hG_o (fun j h8 h9 => hk j (by omega))
  have hfr : ∀ j, (j < b ∨ b + 7 ≤ j) → E j = E0 j := fun j o0 => (hk j (by omega)).trans (hfr j o0)
  refine lv_aload_n X.1 X.2.1 dX1_take_44 rfl (lv_at hl 1 rfl) ?_
  refine x_get X hP hG_o.1 (by omega) rfl in_X1_take_X1 4 (by decide) (by decide +kernel) rfl rfl dX1_take_45 ?_
  refine lv_iconst (v := 0) X.1 X.2.1 dX1_take_48 (by decide) ?_
  refine lv_aload_n X.1 X.2.1 dX1_take_49 rfl (lv_at hl 0 rfl) ?_
  refine x_get X hP hG_n.1 (by omega) rfl in_X1_take_X1 4 (by decide) (by decide +kernel) rfl rfl dX1_take_50 ?_
  refine lv_iconst (v := 0) X.1 X.2.1 dX1_take_53 (by decide) ?_
  refine lv_bipush (v := 6) X.1 X.2.1 dX1_take_54 (by decide) ?_
  obtain ⟨hy3, hf⟩ := gcp_of hf
  refine x_copyi X hP hS hG_o.2.2.2.1 (by omega) hG_n.2.2.2.1 (by omega) (index := 43) (by decide +kernel) (by decide +kernel) (by decide +kernel) (by decide +kernel) hl.1 hy3.1 hy3.2.1 hy3.2.2.1 hy3.2.2.2.1 hy3.2.2.2.2 (by decide) (Nat.le_of_ble_eq_true rfl) dX1_take_56 (fun E H locs h1 hk hP hS => ?_)
  have hG_n := Mu_set_3 hG_n h1 hk
  have hG_o := Mu_kept hG_o (fun j h8 h9 => hk j (by omega))
  have hfr : ∀ j, (j < b ∨ b + 7 ≤ j) → E j = E0 j := fun j o0 => (hk j (by omega)).trans (hfr j o0)
  refine lv_aload_n X.1 X.2.1 dX1_take_59 rfl (lv_at hl 1 rfl) ?_
  refine x_get X hP hG_o.1 (by omega) rfl in_X1_take_X1 5 (by decide) (by decide +kernel) rfl rfl dX1_take_60 ?_
  refine lv_iconst (v := 0) X.1 X.2.1 dX1_take_63 (by decide) ?_
  refine lv_aload_n X.1 X.2.1 dX1_take_64 rfl (lv_at hl 0 rfl) ?_
  refine x_get X hP hG_n.1 (by omega) rfl in_X1_take_X1 5 (by decide) (by decide +kernel) rfl rfl dX1_take_65 ?_
  refine lv_iconst (v := 0) X.1 X.2.1 dX1_take_68 (by decide) ?_
  refine lv_bipush (v := 6) X.1 X.2.1 dX1_take_69 (by decide) ?_
  obtain ⟨hy4, hf⟩ := gcp_of hf
  refine x_copyi X hP hS hG_o.2.2.2.2.1 (by omega) hG_n.2.2.2.2.1 (by omega) (index := 43) (by decide +kernel) (by decide +kernel) (by decide +kernel) (by decide +kernel) hl.1 hy4.1 hy4.2.1 hy4.2.2.1 hy4.2.2.2.1 hy4.2.2.2.2 (by decide) (Nat.le_of_ble_eq_true rfl) dX1_take_71 (fun E H locs h1 hk hP hS => ?_)
  have hG_n := Mu_set_4 hG_n h1 hk
  have hG_o := Mu_kept hG_o (fun j h8 h9 => hk j (by omega))
  have hfr : ∀ j, (j < b ∨ b + 7 ≤ j) → E j = E0 j := fun j o0 => (hk j (by omega)).trans (hfr j o0)
  refine lv_aload_n X.1 X.2.1 dX1_take_74 rfl (lv_at hl 1 rfl) ?_
  refine x_get X hP hG_o.1 (by omega) rfl in_X1_take_X1 6 (by decide) (by decide +kernel) rfl rfl dX1_take_75 ?_
  refine lv_iconst (v := 0) X.1 X.2.1 dX1_take_78 (by decide) ?_
  refine lv_aload_n X.1 X.2.1 dX1_take_79 rfl (lv_at hl 0 rfl) ?_
  refine x_get X hP hG_n.1 (by omega) rfl in_X1_take_X1 6 (by decide) (by decide +kernel) rfl rfl dX1_take_80 ?_
  refine lv_iconst (v := 0) X.1 X.2.1 dX1_take_83 (by decide) ?_
  refine lv_bipush (v := 6) X.1 X.2.1 dX1_take_84 (by decide) ?_
  obtain ⟨hy5, hf⟩ := gcp_of hf
  refine x_copyi X hP hS hG_o.2.2.2.2.2.1 (by omega) hG_n.2.2.2.2.2.1 (by omega) (index := 43) (by decide +kernel) (by decide +kernel) (by decide +kernel) (by decide +kernel) hl.1 hy5.1 hy5.2.1 hy5.2.2.1 hy5.2.2.2.1 hy5.2.2.2.2 (by decide) (Nat.le_of_ble_eq_true rfl) dX1_take_86 (fun E H locs h1 hk hP hS => ?_)
  have hG_n := Mu_set_5 hG_n h1 hk
  have hG_o := Mu_kept hG_o (fun j h8 h9 => hk j (by omega))
  have hfr : ∀ j, (j < b ∨ b + 7 ≤ j) → E j = E0 j := fun j o0 => (hk j (by omega)).trans (hfr j o0)
  refine lv_aload_n X.1 X.2.1 dX1_take_89 rfl (lv_at hl 1 rfl) ?_
  refine x_get X hP hG_o.1 (by omega) rfl in_X1_take_X1 7 (by decide) (by decide +kernel) rfl rfl dX1_take_90 ?_
  refine lv_iconst (v := 0) X.1 X.2.1 dX1_take_93 (by decide) ?_
  refine lv_aload_n X.1 X.2.1 dX1_take_94 rfl (lv_at hl 0 rfl) ?_
  refine x_get X hP hG_n.1 (by omega) rfl in_X1_take_X1 7 (by decide) (by decide +kernel) rfl rfl dX1_take_95 ?_
  refine lv_iconst (v := 0) X.1 X.2.1 dX1_take_98 (by decide) ?_
  refine lv_bipush (v := 6) X.1 X.2.1 dX1_take_99 (by decide) ?_
  obtain ⟨hy6, hf⟩ := gcp_of hf
  refine x_copyi X hP hS hG_o.2.2.2.2.2.2 (by omega) hG_n.2.2.2.2.2.2 (by omega) (index := 43) (by decide +kernel) (by decide +kernel) (by decide +kernel) (by decide +kernel) hl.1 hy6.1 hy6.2.1 hy6.2.2.1 hy6.2.2.2.1 hy6.2.2.2.2 (by decide) (Nat.le_of_ble_eq_true rfl) dX1_take_101 (fun E H locs h1 hk hP hS => ?_)
  have hG_n := Mu_set_6 hG_n h1 hk
  have hG_o := Mu_kept hG_o (fun j h8 h9 => hk j (by omega))
  have hfr : ∀ j, (j < b ∨ b + 7 ≤ j) → E j = E0 j := fun j o0 => (hk j (by omega)).trans (hfr j o0)
  refine lv_aload_n X.1 X.2.1 dX1_take_104 rfl (lv_at hl 0 rfl) ?_
  refine lv_aload_n X.1 X.2.1 dX1_take_105 rfl (lv_at hl 1 rfl) ?_
  refine x_get X hP hG_o.1 (by omega) rfl in_X1_take_X1 8 (by decide) (by decide +kernel) rfl rfl dX1_take_106 ?_
  refine x_put (ty := .int) X hP hS hG_n.1 (by omega) rfl in_X1_take_X1 tyX1 tyX1_ok nmX1 8 (by decide) (by decide +kernel) rfl rfl (by decide +kernel) rfl rfl (Nat.le_of_ble_eq_true rfl) dX1_take_109 (fun E H locs h1 hk hP hS => ?_)
  have hG_n := Mu_set_0 hG_n h1 hk
  have hG_o := Mu_kept hG_o (fun j h8 h9 => hk j (by omega))
  have hfr : ∀ j, (j < b ∨ b + 7 ≤ j) → E j = E0 j := fun j o0 => (hk j (by omega)).trans (hfr j o0)
  refine lv_aload_n X.1 X.2.1 dX1_take_112 rfl (lv_at hl 0 rfl) ?_
  refine lv_aload_n X.1 X.2.1 dX1_take_113 rfl (lv_at hl 1 rfl) ?_
  refine x_get X hP hG_o.1 (by omega) rfl in_X1_take_X1 9 (by decide) (by decide +kernel) rfl rfl dX1_take_114 ?_
  refine x_put (ty := .int) X hP hS hG_n.1 (by omega) rfl in_X1_take_X1 tyX1 tyX1_ok nmX1 9 (by decide) (by decide +kernel) rfl rfl (by decide +kernel) rfl rfl (Nat.le_of_ble_eq_true rfl) dX1_take_117 (fun E H locs h1 hk hP hS => ?_)
  have hG_n := Mu_set_0 hG_n h1 hk
  have hG_o := Mu_kept hG_o (fun j h8 h9 => hk j (by omega))
  have hfr : ∀ j, (j < b ∨ b + 7 ≤ j) → E j = E0 j := fun j o0 => (hk j (by omega)).trans (hfr j o0)
  obtain rfl := Option.some.inj hf
  exact hret _ _ _ _ _ dX1_take_120 (⟨hG_n, hfr⟩) hP hS
end
section
theorem dX2_forget_0 : decode cX2_forget 0 = .ok (.aload_n 0, 1) := by decide +kernel
theorem dX2_forget_1 : decode cX2_forget 1 = .ok (.iconst 0, 1) := by decide +kernel
theorem dX2_forget_2 : decode cX2_forget 2 = .ok (.putfield 16, 3) := by decide +kernel
theorem dX2_forget_5 : decode cX2_forget 5 = .ok (.return_, 1) := by decide +kernel
theorem dX2_keep_0 : decode cX2_keep 0 = .ok (.aload_n 0, 1) := by decide +kernel
theorem dX2_keep_1 : decode cX2_keep 1 = .ok (.getfield 13, 3) := by decide +kernel
theorem dX2_keep_4 : decode cX2_keep 4 = .ok (.aload_n 0, 1) := by decide +kernel
theorem dX2_keep_5 : decode cX2_keep 5 = .ok (.getfield 20, 3) := by decide +kernel
theorem dX2_keep_8 : decode cX2_keep 8 = .ok (.aaload, 1) := by decide +kernel
theorem dX2_keep_9 : decode cX2_keep 9 = .ok (.astore_n 2, 1) := by decide +kernel
theorem dX2_keep_10 : decode cX2_keep 10 = .ok (.aload_n 1, 1) := by decide +kernel
theorem dX2_keep_11 : decode cX2_keep 11 = .ok (.getfield 23, 3) := by decide +kernel
theorem dX2_keep_14 : decode cX2_keep 14 = .ok (.iconst 0, 1) := by decide +kernel
theorem dX2_keep_15 : decode cX2_keep 15 = .ok (.aload_n 2, 1) := by decide +kernel
theorem dX2_keep_16 : decode cX2_keep 16 = .ok (.iconst 0, 1) := by decide +kernel
theorem dX2_keep_17 : decode cX2_keep 17 = .ok (.iconst 5, 1) := by decide +kernel
theorem dX2_keep_18 : decode cX2_keep 18 = .ok (.invokestatic 29, 3) := by decide +kernel
theorem dX2_keep_21 : decode cX2_keep 21 = .ok (.aload_n 1, 1) := by decide +kernel
theorem dX2_keep_22 : decode cX2_keep 22 = .ok (.getfield 35, 3) := by decide +kernel
theorem dX2_keep_25 : decode cX2_keep 25 = .ok (.iconst 0, 1) := by decide +kernel
theorem dX2_keep_26 : decode cX2_keep 26 = .ok (.aload_n 2, 1) := by decide +kernel
theorem dX2_keep_27 : decode cX2_keep 27 = .ok (.iconst 5, 1) := by decide +kernel
theorem dX2_keep_28 : decode cX2_keep 28 = .ok (.bipush 6, 2) := by decide +kernel
theorem dX2_keep_30 : decode cX2_keep 30 = .ok (.invokestatic 29, 3) := by decide +kernel
theorem dX2_keep_33 : decode cX2_keep 33 = .ok (.aload_n 1, 1) := by decide +kernel
theorem dX2_keep_34 : decode cX2_keep 34 = .ok (.getfield 38, 3) := by decide +kernel
theorem dX2_keep_37 : decode cX2_keep 37 = .ok (.iconst 0, 1) := by decide +kernel
theorem dX2_keep_38 : decode cX2_keep 38 = .ok (.aload_n 2, 1) := by decide +kernel
theorem dX2_keep_39 : decode cX2_keep 39 = .ok (.bipush 11, 2) := by decide +kernel
theorem dX2_keep_41 : decode cX2_keep 41 = .ok (.bipush 6, 2) := by decide +kernel
theorem dX2_keep_43 : decode cX2_keep 43 = .ok (.invokestatic 29, 3) := by decide +kernel
theorem dX2_keep_46 : decode cX2_keep 46 = .ok (.aload_n 2, 1) := by decide +kernel
theorem dX2_keep_47 : decode cX2_keep 47 = .ok (.bipush 17, 2) := by decide +kernel
theorem dX2_keep_49 : decode cX2_keep 49 = .ok (.aload_n 1, 1) := by decide +kernel
theorem dX2_keep_50 : decode cX2_keep 50 = .ok (.getfield 41, 3) := by decide +kernel
theorem dX2_keep_53 : decode cX2_keep 53 = .ok (.iastore, 1) := by decide +kernel
theorem dX2_keep_54 : decode cX2_keep 54 = .ok (.aload_n 2, 1) := by decide +kernel
theorem dX2_keep_55 : decode cX2_keep 55 = .ok (.bipush 18, 2) := by decide +kernel
theorem dX2_keep_57 : decode cX2_keep 57 = .ok (.aload_n 1, 1) := by decide +kernel
theorem dX2_keep_58 : decode cX2_keep 58 = .ok (.getfield 44, 3) := by decide +kernel
theorem dX2_keep_61 : decode cX2_keep 61 = .ok (.iastore, 1) := by decide +kernel
theorem dX2_keep_62 : decode cX2_keep 62 = .ok (.aload_n 0, 1) := by decide +kernel
theorem dX2_keep_63 : decode cX2_keep 63 = .ok (.aload_n 0, 1) := by decide +kernel
theorem dX2_keep_64 : decode cX2_keep 64 = .ok (.getfield 20, 3) := by decide +kernel
theorem dX2_keep_67 : decode cX2_keep 67 = .ok (.iconst 1, 1) := by decide +kernel
theorem dX2_keep_68 : decode cX2_keep 68 = .ok (.iadd, 1) := by decide +kernel
theorem dX2_keep_69 : decode cX2_keep 69 = .ok (.bipush 8, 2) := by decide +kernel
theorem dX2_keep_71 : decode cX2_keep 71 = .ok (.irem, 1) := by decide +kernel
theorem dX2_keep_72 : decode cX2_keep 72 = .ok (.putfield 20, 3) := by decide +kernel
theorem dX2_keep_75 : decode cX2_keep 75 = .ok (.aload_n 0, 1) := by decide +kernel
theorem dX2_keep_76 : decode cX2_keep 76 = .ok (.bipush 8, 2) := by decide +kernel
theorem dX2_keep_78 : decode cX2_keep 78 = .ok (.aload_n 0, 1) := by decide +kernel
theorem dX2_keep_79 : decode cX2_keep 79 = .ok (.getfield 16, 3) := by decide +kernel
theorem dX2_keep_82 : decode cX2_keep 82 = .ok (.iconst 1, 1) := by decide +kernel
theorem dX2_keep_83 : decode cX2_keep 83 = .ok (.iadd, 1) := by decide +kernel
theorem dX2_keep_84 : decode cX2_keep 84 = .ok (.invokestatic 47, 3) := by decide +kernel
theorem dX2_keep_87 : decode cX2_keep 87 = .ok (.putfield 16, 3) := by decide +kernel
theorem dX2_keep_90 : decode cX2_keep 90 = .ok (.return_, 1) := by decide +kernel
theorem dX2_giveBack_0 : decode cX2_giveBack 0 = .ok (.aload_n 0, 1) := by decide +kernel
theorem dX2_giveBack_1 : decode cX2_giveBack 1 = .ok (.getfield 16, 3) := by decide +kernel
theorem dX2_giveBack_4 : decode cX2_giveBack 4 = .ok (.ifCond .ne 5, 3) := by decide +kernel
theorem dX2_giveBack_7 : decode cX2_giveBack 7 = .ok (.iconst 0, 1) := by decide +kernel
theorem dX2_giveBack_8 : decode cX2_giveBack 8 = .ok (.ireturn, 1) := by decide +kernel
theorem dX2_giveBack_9 : decode cX2_giveBack 9 = .ok (.aload_n 0, 1) := by decide +kernel
theorem dX2_giveBack_10 : decode cX2_giveBack 10 = .ok (.dup, 1) := by decide +kernel
theorem dX2_giveBack_11 : decode cX2_giveBack 11 = .ok (.getfield 16, 3) := by decide +kernel
theorem dX2_giveBack_14 : decode cX2_giveBack 14 = .ok (.iconst 1, 1) := by decide +kernel
theorem dX2_giveBack_15 : decode cX2_giveBack 15 = .ok (.isub, 1) := by decide +kernel
theorem dX2_giveBack_16 : decode cX2_giveBack 16 = .ok (.putfield 16, 3) := by decide +kernel
theorem dX2_giveBack_19 : decode cX2_giveBack 19 = .ok (.aload_n 0, 1) := by decide +kernel
theorem dX2_giveBack_20 : decode cX2_giveBack 20 = .ok (.aload_n 0, 1) := by decide +kernel
theorem dX2_giveBack_21 : decode cX2_giveBack 21 = .ok (.getfield 20, 3) := by decide +kernel
theorem dX2_giveBack_24 : decode cX2_giveBack 24 = .ok (.bipush 8, 2) := by decide +kernel
theorem dX2_giveBack_26 : decode cX2_giveBack 26 = .ok (.iadd, 1) := by decide +kernel
theorem dX2_giveBack_27 : decode cX2_giveBack 27 = .ok (.iconst 1, 1) := by decide +kernel
theorem dX2_giveBack_28 : decode cX2_giveBack 28 = .ok (.isub, 1) := by decide +kernel
theorem dX2_giveBack_29 : decode cX2_giveBack 29 = .ok (.bipush 8, 2) := by decide +kernel
theorem dX2_giveBack_31 : decode cX2_giveBack 31 = .ok (.irem, 1) := by decide +kernel
theorem dX2_giveBack_32 : decode cX2_giveBack 32 = .ok (.putfield 20, 3) := by decide +kernel
theorem dX2_giveBack_35 : decode cX2_giveBack 35 = .ok (.aload_n 0, 1) := by decide +kernel
theorem dX2_giveBack_36 : decode cX2_giveBack 36 = .ok (.getfield 13, 3) := by decide +kernel
theorem dX2_giveBack_39 : decode cX2_giveBack 39 = .ok (.aload_n 0, 1) := by decide +kernel
theorem dX2_giveBack_40 : decode cX2_giveBack 40 = .ok (.getfield 20, 3) := by decide +kernel
theorem dX2_giveBack_43 : decode cX2_giveBack 43 = .ok (.aaload, 1) := by decide +kernel
theorem dX2_giveBack_44 : decode cX2_giveBack 44 = .ok (.astore_n 2, 1) := by decide +kernel
theorem dX2_giveBack_45 : decode cX2_giveBack 45 = .ok (.aload_n 2, 1) := by decide +kernel
theorem dX2_giveBack_46 : decode cX2_giveBack 46 = .ok (.iconst 0, 1) := by decide +kernel
theorem dX2_giveBack_47 : decode cX2_giveBack 47 = .ok (.aload_n 1, 1) := by decide +kernel
theorem dX2_giveBack_48 : decode cX2_giveBack 48 = .ok (.getfield 23, 3) := by decide +kernel
theorem dX2_giveBack_51 : decode cX2_giveBack 51 = .ok (.iconst 0, 1) := by decide +kernel
theorem dX2_giveBack_52 : decode cX2_giveBack 52 = .ok (.iconst 5, 1) := by decide +kernel
theorem dX2_giveBack_53 : decode cX2_giveBack 53 = .ok (.invokestatic 29, 3) := by decide +kernel
theorem dX2_giveBack_56 : decode cX2_giveBack 56 = .ok (.aload_n 2, 1) := by decide +kernel
theorem dX2_giveBack_57 : decode cX2_giveBack 57 = .ok (.iconst 5, 1) := by decide +kernel
theorem dX2_giveBack_58 : decode cX2_giveBack 58 = .ok (.aload_n 1, 1) := by decide +kernel
theorem dX2_giveBack_59 : decode cX2_giveBack 59 = .ok (.getfield 35, 3) := by decide +kernel
theorem dX2_giveBack_62 : decode cX2_giveBack 62 = .ok (.iconst 0, 1) := by decide +kernel
theorem dX2_giveBack_63 : decode cX2_giveBack 63 = .ok (.bipush 6, 2) := by decide +kernel
theorem dX2_giveBack_65 : decode cX2_giveBack 65 = .ok (.invokestatic 29, 3) := by decide +kernel
theorem dX2_giveBack_68 : decode cX2_giveBack 68 = .ok (.aload_n 2, 1) := by decide +kernel
theorem dX2_giveBack_69 : decode cX2_giveBack 69 = .ok (.bipush 11, 2) := by decide +kernel
theorem dX2_giveBack_71 : decode cX2_giveBack 71 = .ok (.aload_n 1, 1) := by decide +kernel
theorem dX2_giveBack_72 : decode cX2_giveBack 72 = .ok (.getfield 38, 3) := by decide +kernel
theorem dX2_giveBack_75 : decode cX2_giveBack 75 = .ok (.iconst 0, 1) := by decide +kernel
theorem dX2_giveBack_76 : decode cX2_giveBack 76 = .ok (.bipush 6, 2) := by decide +kernel
theorem dX2_giveBack_78 : decode cX2_giveBack 78 = .ok (.invokestatic 29, 3) := by decide +kernel
theorem dX2_giveBack_81 : decode cX2_giveBack 81 = .ok (.aload_n 1, 1) := by decide +kernel
theorem dX2_giveBack_82 : decode cX2_giveBack 82 = .ok (.aload_n 2, 1) := by decide +kernel
theorem dX2_giveBack_83 : decode cX2_giveBack 83 = .ok (.bipush 17, 2) := by decide +kernel
theorem dX2_giveBack_85 : decode cX2_giveBack 85 = .ok (.iaload, 1) := by decide +kernel
theorem dX2_giveBack_86 : decode cX2_giveBack 86 = .ok (.putfield 41, 3) := by decide +kernel
theorem dX2_giveBack_89 : decode cX2_giveBack 89 = .ok (.aload_n 1, 1) := by decide +kernel
theorem dX2_giveBack_90 : decode cX2_giveBack 90 = .ok (.aload_n 2, 1) := by decide +kernel
theorem dX2_giveBack_91 : decode cX2_giveBack 91 = .ok (.bipush 18, 2) := by decide +kernel
theorem dX2_giveBack_93 : decode cX2_giveBack 93 = .ok (.iaload, 1) := by decide +kernel
theorem dX2_giveBack_94 : decode cX2_giveBack 94 = .ok (.putfield 44, 3) := by decide +kernel
theorem dX2_giveBack_97 : decode cX2_giveBack 97 = .ok (.iconst 1, 1) := by decide +kernel
theorem dX2_giveBack_98 : decode cX2_giveBack 98 = .ok (.ireturn, 1) := by decide +kernel
theorem dX2_take_0 : decode cX2_take 0 = .ok (.iconst 0, 1) := by decide +kernel
theorem dX2_take_1 : decode cX2_take 1 = .ok (.istore_n 2, 1) := by decide +kernel
theorem dX2_take_2 : decode cX2_take 2 = .ok (.iload_n 2, 1) := by decide +kernel
theorem dX2_take_3 : decode cX2_take 3 = .ok (.bipush 8, 2) := by decide +kernel
theorem dX2_take_5 : decode cX2_take 5 = .ok (.if_icmp .ge 28, 3) := by decide +kernel
theorem dX2_take_8 : decode cX2_take 8 = .ok (.aload_n 1, 1) := by decide +kernel
theorem dX2_take_9 : decode cX2_take 9 = .ok (.getfield 13, 3) := by decide +kernel
theorem dX2_take_12 : decode cX2_take 12 = .ok (.iload_n 2, 1) := by decide +kernel
theorem dX2_take_13 : decode cX2_take 13 = .ok (.aaload, 1) := by decide +kernel
theorem dX2_take_14 : decode cX2_take 14 = .ok (.iconst 0, 1) := by decide +kernel
theorem dX2_take_15 : decode cX2_take 15 = .ok (.aload_n 0, 1) := by decide +kernel
theorem dX2_take_16 : decode cX2_take 16 = .ok (.getfield 13, 3) := by decide +kernel
theorem dX2_take_19 : decode cX2_take 19 = .ok (.iload_n 2, 1) := by decide +kernel
theorem dX2_take_20 : decode cX2_take 20 = .ok (.aaload, 1) := by decide +kernel
theorem dX2_take_21 : decode cX2_take 21 = .ok (.iconst 0, 1) := by decide +kernel
theorem dX2_take_22 : decode cX2_take 22 = .ok (.bipush 19, 2) := by decide +kernel
theorem dX2_take_24 : decode cX2_take 24 = .ok (.invokestatic 29, 3) := by decide +kernel
theorem dX2_take_27 : decode cX2_take 27 = .ok (.iinc 2 1, 3) := by decide +kernel
theorem dX2_take_30 : decode cX2_take 30 = .ok (.goto (-28), 3) := by decide +kernel
theorem dX2_take_33 : decode cX2_take 33 = .ok (.aload_n 0, 1) := by decide +kernel
theorem dX2_take_34 : decode cX2_take 34 = .ok (.aload_n 1, 1) := by decide +kernel
theorem dX2_take_35 : decode cX2_take 35 = .ok (.getfield 16, 3) := by decide +kernel
theorem dX2_take_38 : decode cX2_take 38 = .ok (.putfield 16, 3) := by decide +kernel
theorem dX2_take_41 : decode cX2_take 41 = .ok (.aload_n 0, 1) := by decide +kernel
theorem dX2_take_42 : decode cX2_take 42 = .ok (.aload_n 1, 1) := by decide +kernel
theorem dX2_take_43 : decode cX2_take 43 = .ok (.getfield 20, 3) := by decide +kernel
theorem dX2_take_46 : decode cX2_take 46 = .ok (.putfield 20, 3) := by decide +kernel
theorem dX2_take_49 : decode cX2_take 49 = .ok (.return_, 1) := by decide +kernel
theorem dX3_begin_0 : decode cX3_begin 0 = .ok (.aload_n 0, 1) := by decide +kernel
theorem dX3_begin_1 : decode cX3_begin 1 = .ok (.iconst 1, 1) := by decide +kernel
theorem dX3_begin_2 : decode cX3_begin 2 = .ok (.putfield 9, 3) := by decide +kernel
theorem dX3_begin_5 : decode cX3_begin 5 = .ok (.aload_n 0, 1) := by decide +kernel
theorem dX3_begin_6 : decode cX3_begin 6 = .ok (.iload_n 1, 1) := by decide +kernel
theorem dX3_begin_7 : decode cX3_begin 7 = .ok (.putfield 15, 3) := by decide +kernel
theorem dX3_begin_10 : decode cX3_begin 10 = .ok (.aload_n 0, 1) := by decide +kernel
theorem dX3_begin_11 : decode cX3_begin 11 = .ok (.iload_n 2, 1) := by decide +kernel
theorem dX3_begin_12 : decode cX3_begin 12 = .ok (.putfield 19, 3) := by decide +kernel
theorem dX3_begin_15 : decode cX3_begin 15 = .ok (.iconst 0, 1) := by decide +kernel
theorem dX3_begin_16 : decode cX3_begin 16 = .ok (.istore_n 3, 1) := by decide +kernel
theorem dX3_begin_17 : decode cX3_begin 17 = .ok (.iload_n 3, 1) := by decide +kernel
theorem dX3_begin_18 : decode cX3_begin 18 = .ok (.bipush 24, 2) := by decide +kernel
theorem dX3_begin_20 : decode cX3_begin 20 = .ok (.if_icmp .ge 16, 3) := by decide +kernel
theorem dX3_begin_23 : decode cX3_begin 23 = .ok (.aload_n 0, 1) := by decide +kernel
theorem dX3_begin_24 : decode cX3_begin 24 = .ok (.getfield 22, 3) := by decide +kernel
theorem dX3_begin_27 : decode cX3_begin 27 = .ok (.iload_n 3, 1) := by decide +kernel
theorem dX3_begin_28 : decode cX3_begin 28 = .ok (.lconst 0, 1) := by decide +kernel
theorem dX3_begin_29 : decode cX3_begin 29 = .ok (.lastore, 1) := by decide +kernel
theorem dX3_begin_30 : decode cX3_begin 30 = .ok (.iinc 3 1, 3) := by decide +kernel
theorem dX3_begin_33 : decode cX3_begin 33 = .ok (.goto (-16), 3) := by decide +kernel
theorem dX3_begin_36 : decode cX3_begin 36 = .ok (.return_, 1) := by decide +kernel
set_option maxRecDepth 20000 in
theorem ggX3_refuses_X3_reaches : GoodIn wsX3_refuses wsX3_reaches := goodIn_r _ [7, 8, 9, 10, 11, 12] (by decide +kernel) (by decide +kernel)
set_option maxRecDepth 20000 in
theorem gX3_refuses_X3_reaches : GoodIn wsX3_refuses (wsV RX3 26 RX3 yX3_reaches wsX3_reaches) := goodIn_app (goodIn_of _ (by decide +kernel)) ggX3_refuses_X3_reaches
theorem dX3_refuses_0 : decode cX3_refuses 0 = .ok (.aload_n 0, 1) := by decide +kernel
theorem dX3_refuses_1 : decode cX3_refuses 1 = .ok (.getfield 9, 3) := by decide +kernel
theorem dX3_refuses_4 : decode cX3_refuses 4 = .ok (.ifCond .ne 6, 3) := by decide +kernel
theorem dX3_refuses_7 : decode cX3_refuses 7 = .ok (.bipush (-11), 2) := by decide +kernel
theorem dX3_refuses_9 : decode cX3_refuses 9 = .ok (.ireturn, 1) := by decide +kernel
theorem dX3_refuses_10 : decode cX3_refuses 10 = .ok (.aload_n 0, 1) := by decide +kernel
theorem dX3_refuses_11 : decode cX3_refuses 11 = .ok (.getfield 15, 3) := by decide +kernel
theorem dX3_refuses_14 : decode cX3_refuses 14 = .ok (.iload_n 1, 1) := by decide +kernel
theorem dX3_refuses_15 : decode cX3_refuses 15 = .ok (.if_icmp .eq 6, 3) := by decide +kernel
theorem dX3_refuses_18 : decode cX3_refuses 18 = .ok (.bipush (-12), 2) := by decide +kernel
theorem dX3_refuses_20 : decode cX3_refuses 20 = .ok (.ireturn, 1) := by decide +kernel
theorem dX3_refuses_21 : decode cX3_refuses 21 = .ok (.aload_n 0, 1) := by decide +kernel
theorem dX3_refuses_22 : decode cX3_refuses 22 = .ok (.iload_n 2, 1) := by decide +kernel
theorem dX3_refuses_23 : decode cX3_refuses 23 = .ok (.iload_n 3, 1) := by decide +kernel
theorem dX3_refuses_24 : decode cX3_refuses 24 = .ok (.invokevirtual 26, 3) := by decide +kernel
theorem dX3_refuses_27 : decode cX3_refuses 27 = .ok (.ifCond .eq 7, 3) := by decide +kernel
theorem dX3_refuses_30 : decode cX3_refuses 30 = .ok (.iconst 0, 1) := by decide +kernel
theorem dX3_refuses_31 : decode cX3_refuses 31 = .ok (.goto 5, 3) := by decide +kernel
theorem dX3_refuses_34 : decode cX3_refuses 34 = .ok (.bipush (-13), 2) := by decide +kernel
theorem dX3_refuses_36 : decode cX3_refuses 36 = .ok (.ireturn, 1) := by decide +kernel
theorem dX3_reaches_0 : decode cX3_reaches 0 = .ok (.iload_n 1, 1) := by decide +kernel
theorem dX3_reaches_1 : decode cX3_reaches 1 = .ok (.ifCond .lt 21, 3) := by decide +kernel
theorem dX3_reaches_4 : decode cX3_reaches 4 = .ok (.iload_n 2, 1) := by decide +kernel
theorem dX3_reaches_5 : decode cX3_reaches 5 = .ok (.ifCond .lt 17, 3) := by decide +kernel
theorem dX3_reaches_8 : decode cX3_reaches 8 = .ok (.iload_n 2, 1) := by decide +kernel
theorem dX3_reaches_9 : decode cX3_reaches 9 = .ok (.aload_n 0, 1) := by decide +kernel
theorem dX3_reaches_10 : decode cX3_reaches 10 = .ok (.getfield 19, 3) := by decide +kernel
theorem dX3_reaches_13 : decode cX3_reaches 13 = .ok (.iload_n 1, 1) := by decide +kernel
theorem dX3_reaches_14 : decode cX3_reaches 14 = .ok (.isub, 1) := by decide +kernel
theorem dX3_reaches_15 : decode cX3_reaches 15 = .ok (.if_icmp .gt 7, 3) := by decide +kernel
theorem dX3_reaches_18 : decode cX3_reaches 18 = .ok (.iconst 1, 1) := by decide +kernel
theorem dX3_reaches_19 : decode cX3_reaches 19 = .ok (.goto 4, 3) := by decide +kernel
theorem dX3_reaches_22 : decode cX3_reaches 22 = .ok (.iconst 0, 1) := by decide +kernel
theorem dX3_reaches_23 : decode cX3_reaches 23 = .ok (.ireturn, 1) := by decide +kernel
theorem dX3_put_0 : decode cX3_put 0 = .ok (.aload_n 0, 1) := by decide +kernel
theorem dX3_put_1 : decode cX3_put 1 = .ok (.getfield 15, 3) := by decide +kernel
theorem dX3_put_4 : decode cX3_put 4 = .ok (.tableswitch 66 0 2 #[28, 41, 54], 28) := by decide +kernel
theorem dX3_put_32 : decode cX3_put 32 = .ok (.aload_n 0, 1) := by decide +kernel
theorem dX3_put_33 : decode cX3_put 33 = .ok (.getfield 22, 3) := by decide +kernel
theorem dX3_put_36 : decode cX3_put 36 = .ok (.iload_n 1, 1) := by decide +kernel
theorem dX3_put_37 : decode cX3_put 37 = .ok (.lload_n 2, 1) := by decide +kernel
theorem dX3_put_38 : decode cX3_put 38 = .ok (.l2i, 1) := by decide +kernel
theorem dX3_put_39 : decode cX3_put 39 = .ok (.i2b, 1) := by decide +kernel
theorem dX3_put_40 : decode cX3_put 40 = .ok (.i2l, 1) := by decide +kernel
theorem dX3_put_41 : decode cX3_put 41 = .ok (.lastore, 1) := by decide +kernel
theorem dX3_put_42 : decode cX3_put 42 = .ok (.goto 35, 3) := by decide +kernel
theorem dX3_put_45 : decode cX3_put 45 = .ok (.aload_n 0, 1) := by decide +kernel
theorem dX3_put_46 : decode cX3_put 46 = .ok (.getfield 22, 3) := by decide +kernel
theorem dX3_put_49 : decode cX3_put 49 = .ok (.iload_n 1, 1) := by decide +kernel
theorem dX3_put_50 : decode cX3_put 50 = .ok (.lload_n 2, 1) := by decide +kernel
theorem dX3_put_51 : decode cX3_put 51 = .ok (.l2i, 1) := by decide +kernel
theorem dX3_put_52 : decode cX3_put 52 = .ok (.i2s, 1) := by decide +kernel
theorem dX3_put_53 : decode cX3_put 53 = .ok (.i2l, 1) := by decide +kernel
theorem dX3_put_54 : decode cX3_put 54 = .ok (.lastore, 1) := by decide +kernel
theorem dX3_put_55 : decode cX3_put 55 = .ok (.goto 22, 3) := by decide +kernel
theorem dX3_put_58 : decode cX3_put 58 = .ok (.aload_n 0, 1) := by decide +kernel
theorem dX3_put_59 : decode cX3_put 59 = .ok (.getfield 22, 3) := by decide +kernel
theorem dX3_put_62 : decode cX3_put 62 = .ok (.iload_n 1, 1) := by decide +kernel
theorem dX3_put_63 : decode cX3_put 63 = .ok (.lload_n 2, 1) := by decide +kernel
theorem dX3_put_64 : decode cX3_put 64 = .ok (.l2i, 1) := by decide +kernel
theorem dX3_put_65 : decode cX3_put 65 = .ok (.i2l, 1) := by decide +kernel
theorem dX3_put_66 : decode cX3_put 66 = .ok (.lastore, 1) := by decide +kernel
theorem dX3_put_67 : decode cX3_put 67 = .ok (.goto 10, 3) := by decide +kernel
theorem dX3_put_70 : decode cX3_put 70 = .ok (.aload_n 0, 1) := by decide +kernel
theorem dX3_put_71 : decode cX3_put 71 = .ok (.getfield 22, 3) := by decide +kernel
theorem dX3_put_74 : decode cX3_put 74 = .ok (.iload_n 1, 1) := by decide +kernel
theorem dX3_put_75 : decode cX3_put 75 = .ok (.lload_n 2, 1) := by decide +kernel
theorem dX3_put_76 : decode cX3_put 76 = .ok (.lastore, 1) := by decide +kernel
theorem dX3_put_77 : decode cX3_put 77 = .ok (.return_, 1) := by decide +kernel
theorem dX4_add_0 : decode cX4_add 0 = .ok (.aload_n 0, 1) := by decide +kernel
theorem dX4_add_1 : decode cX4_add 1 = .ok (.getfield 15, 3) := by decide +kernel
theorem dX4_add_4 : decode cX4_add 4 = .ok (.bipush 90, 2) := by decide +kernel
theorem dX4_add_6 : decode cX4_add 6 = .ok (.if_icmp .lt 5, 3) := by decide +kernel
theorem dX4_add_9 : decode cX4_add 9 = .ok (.iconst 0, 1) := by decide +kernel
theorem dX4_add_10 : decode cX4_add 10 = .ok (.ireturn, 1) := by decide +kernel
theorem dX4_add_11 : decode cX4_add 11 = .ok (.aload_n 0, 1) := by decide +kernel
theorem dX4_add_12 : decode cX4_add 12 = .ok (.getfield 9, 3) := by decide +kernel
theorem dX4_add_15 : decode cX4_add 15 = .ok (.aload_n 0, 1) := by decide +kernel
theorem dX4_add_16 : decode cX4_add 16 = .ok (.getfield 15, 3) := by decide +kernel
theorem dX4_add_19 : decode cX4_add 19 = .ok (.iload_n 1, 1) := by decide +kernel
theorem dX4_add_20 : decode cX4_add 20 = .ok (.castore, 1) := by decide +kernel
theorem dX4_add_21 : decode cX4_add 21 = .ok (.aload_n 0, 1) := by decide +kernel
theorem dX4_add_22 : decode cX4_add 22 = .ok (.dup, 1) := by decide +kernel
theorem dX4_add_23 : decode cX4_add 23 = .ok (.getfield 15, 3) := by decide +kernel
theorem dX4_add_26 : decode cX4_add 26 = .ok (.iconst 1, 1) := by decide +kernel
theorem dX4_add_27 : decode cX4_add 27 = .ok (.iadd, 1) := by decide +kernel
theorem dX4_add_28 : decode cX4_add 28 = .ok (.putfield 15, 3) := by decide +kernel
theorem dX4_add_31 : decode cX4_add 31 = .ok (.iconst 1, 1) := by decide +kernel
theorem dX4_add_32 : decode cX4_add 32 = .ok (.ireturn, 1) := by decide +kernel
set_option maxRecDepth 20000 in
theorem ggX4_readState_X4_readMen : GoodIn wsX4_readState wsX4_readMen := goodIn_r _ [6, 7, 8, 9, 5, 10, 11, 12, 13, 14, 1, 15, 16, 17, 18, 19, 20, 21, 22, 23, 24, 25, 26, 27, 28, 29, 30, 31, 32, 33, 34, 35, 36, 37, 38, 39, 68, 69, 70, 71, 72, 73, 74, 75, 76, 77, 78, 79, 80] (by decide +kernel) (by decide +kernel)
set_option maxRecDepth 20000 in
theorem gX4_readState_X4_readMen : GoodIn wsX4_readState (wsV RX4 22 RX4 yX4_readMen wsX4_readMen) := goodIn_app (goodIn_of _ (by decide +kernel)) ggX4_readState_X4_readMen
set_option maxRecDepth 20000 in
theorem ggX4_readState_X4_takes : GoodIn wsX4_readState wsX4_takes := goodIn_r _ [31, 1, 15, 16, 17, 5, 18, 19, 20, 21, 22, 23, 24, 68, 69, 70] (by decide +kernel) (by decide +kernel)
set_option maxRecDepth 20000 in
theorem gX4_readState_X4_takes : GoodIn wsX4_readState (wsV RX4 26 RX4 yX4_takes wsX4_takes) := goodIn_app (goodIn_of _ (by decide +kernel)) ggX4_readState_X4_takes
set_option maxRecDepth 20000 in
theorem ggX4_readState_X4_readMedals : GoodIn wsX4_readState wsX4_readMedals := goodIn_r _ [43, 44, 45, 46, 5, 47, 1, 15, 16, 17, 18, 19, 20, 21, 22, 23, 24, 48, 49, 50, 11, 12, 13, 14, 25, 26, 27, 28, 29, 30, 31, 51, 52, 53, 54, 55, 56, 57, 35, 58, 37, 59, 60, 61, 62, 63, 64, 65, 66, 67, 68, 69, 70, 71, 72, 73, 74, 75, 76, 77, 78, 79, 80] (by decide +kernel) (by decide +kernel)
set_option maxRecDepth 20000 in
theorem gX4_readState_X4_readMedals : GoodIn wsX4_readState (wsV RX4 30 RX4 yX4_readMedals wsX4_readMedals) := goodIn_app (goodIn_of _ (by decide +kernel)) ggX4_readState_X4_readMedals
set_option maxRecDepth 20000 in
theorem ggX4_readState_X4_nextLetter : GoodIn wsX4_readState wsX4_nextLetter := goodIn_r _ [18, 1, 19, 20, 21, 22, 23, 5, 24, 68, 69, 70] (by decide +kernel) (by decide +kernel)
set_option maxRecDepth 20000 in
theorem gX4_readState_X4_nextLetter : GoodIn wsX4_readState (wsV RX4 33 RX4 yX4_nextLetter wsX4_nextLetter) := goodIn_app (goodIn_of _ (by decide +kernel)) ggX4_readState_X4_nextLetter
theorem dX4_readState_0 : decode cX4_readState 0 = .ok (.aload_n 0, 1) := by decide +kernel
theorem dX4_readState_1 : decode cX4_readState 1 = .ok (.iconst 0, 1) := by decide +kernel
theorem dX4_readState_2 : decode cX4_readState 2 = .ok (.putfield 19, 3) := by decide +kernel
theorem dX4_readState_5 : decode cX4_readState 5 = .ok (.aload_n 0, 1) := by decide +kernel
theorem dX4_readState_6 : decode cX4_readState 6 = .ok (.aload_n 1, 1) := by decide +kernel
theorem dX4_readState_7 : decode cX4_readState 7 = .ok (.invokevirtual 22, 3) := by decide +kernel
theorem dX4_readState_10 : decode cX4_readState 10 = .ok (.ifCond .ne 5, 3) := by decide +kernel
theorem dX4_readState_13 : decode cX4_readState 13 = .ok (.iconst 0, 1) := by decide +kernel
theorem dX4_readState_14 : decode cX4_readState 14 = .ok (.ireturn, 1) := by decide +kernel
theorem dX4_readState_15 : decode cX4_readState 15 = .ok (.aload_n 0, 1) := by decide +kernel
theorem dX4_readState_16 : decode cX4_readState 16 = .ok (.bipush 59, 2) := by decide +kernel
theorem dX4_readState_18 : decode cX4_readState 18 = .ok (.invokevirtual 26, 3) := by decide +kernel
theorem dX4_readState_21 : decode cX4_readState 21 = .ok (.ifCond .eq 13, 3) := by decide +kernel
theorem dX4_readState_24 : decode cX4_readState 24 = .ok (.aload_n 0, 1) := by decide +kernel
theorem dX4_readState_25 : decode cX4_readState 25 = .ok (.aload_n 1, 1) := by decide +kernel
theorem dX4_readState_26 : decode cX4_readState 26 = .ok (.invokevirtual 30, 3) := by decide +kernel
theorem dX4_readState_29 : decode cX4_readState 29 = .ok (.ifCond .ne 5, 3) := by decide +kernel
theorem dX4_readState_32 : decode cX4_readState 32 = .ok (.iconst 0, 1) := by decide +kernel
theorem dX4_readState_33 : decode cX4_readState 33 = .ok (.ireturn, 1) := by decide +kernel
theorem dX4_readState_34 : decode cX4_readState 34 = .ok (.aload_n 0, 1) := by decide +kernel
theorem dX4_readState_35 : decode cX4_readState 35 = .ok (.invokevirtual 33, 3) := by decide +kernel
theorem dX4_readState_38 : decode cX4_readState 38 = .ok (.ifCond .ne 7, 3) := by decide +kernel
theorem dX4_readState_41 : decode cX4_readState 41 = .ok (.iconst 1, 1) := by decide +kernel
theorem dX4_readState_42 : decode cX4_readState 42 = .ok (.goto 4, 3) := by decide +kernel
theorem dX4_readState_45 : decode cX4_readState 45 = .ok (.iconst 0, 1) := by decide +kernel
theorem dX4_readState_46 : decode cX4_readState 46 = .ok (.ireturn, 1) := by decide +kernel
set_option maxRecDepth 20000 in
theorem ggX4_readMen_X4_readMan : GoodIn wsX4_readMen wsX4_readMan := goodIn_r _ [5, 6, 7, 8, 4, 9, 10, 11, 12, 13, 14, 15, 16, 17, 18, 19, 20, 21, 22, 23, 24, 25, 26, 27, 28, 29, 30, 31, 32, 33, 34, 35, 36, 37, 38, 39, 40, 41, 42, 43, 44, 45, 46, 47, 48] (by decide +kernel) (by decide +kernel)
set_option maxRecDepth 20000 in
theorem gX4_readMen_X4_readMan : GoodIn wsX4_readMen (wsV RX4 37 RX4 yX4_readMan wsX4_readMan) := goodIn_app (goodIn_of _ (by decide +kernel)) ggX4_readMen_X4_readMan
set_option maxRecDepth 20000 in
theorem ggX4_readMen_X4_takes : GoodIn wsX4_readMen wsX4_takes := goodIn_r _ [27, 10, 11, 12, 13, 4, 14, 15, 16, 17, 18, 19, 20, 36, 37, 38] (by decide +kernel) (by decide +kernel)
set_option maxRecDepth 20000 in
theorem gX4_readMen_X4_takes : GoodIn wsX4_readMen (wsV RX4 26 RX4 yX4_takes wsX4_takes) := goodIn_app (goodIn_of _ (by decide +kernel)) ggX4_readMen_X4_takes
theorem dX4_readMen_0 : decode cX4_readMen 0 = .ok (.iconst 0, 1) := by decide +kernel
theorem dX4_readMen_1 : decode cX4_readMen 1 = .ok (.istore_n 2, 1) := by decide +kernel
theorem dX4_readMen_2 : decode cX4_readMen 2 = .ok (.iload_n 2, 1) := by decide +kernel
theorem dX4_readMen_3 : decode cX4_readMen 3 = .ok (.iconst 5, 1) := by decide +kernel
theorem dX4_readMen_4 : decode cX4_readMen 4 = .ok (.if_icmp .ge 35, 3) := by decide +kernel
theorem dX4_readMen_7 : decode cX4_readMen 7 = .ok (.aload_n 0, 1) := by decide +kernel
theorem dX4_readMen_8 : decode cX4_readMen 8 = .ok (.aload_n 1, 1) := by decide +kernel
theorem dX4_readMen_9 : decode cX4_readMen 9 = .ok (.invokevirtual 37, 3) := by decide +kernel
theorem dX4_readMen_12 : decode cX4_readMen 12 = .ok (.ifCond .ne 5, 3) := by decide +kernel
theorem dX4_readMen_15 : decode cX4_readMen 15 = .ok (.iconst 0, 1) := by decide +kernel
theorem dX4_readMen_16 : decode cX4_readMen 16 = .ok (.ireturn, 1) := by decide +kernel
theorem dX4_readMen_17 : decode cX4_readMen 17 = .ok (.iload_n 2, 1) := by decide +kernel
theorem dX4_readMen_18 : decode cX4_readMen 18 = .ok (.iconst 4, 1) := by decide +kernel
theorem dX4_readMen_19 : decode cX4_readMen 19 = .ok (.if_icmp .eq 12, 3) := by decide +kernel
theorem dX4_readMen_22 : decode cX4_readMen 22 = .ok (.aload_n 0, 1) := by decide +kernel
theorem dX4_readMen_23 : decode cX4_readMen 23 = .ok (.bipush 44, 2) := by decide +kernel
theorem dX4_readMen_25 : decode cX4_readMen 25 = .ok (.invokevirtual 26, 3) := by decide +kernel
theorem dX4_readMen_28 : decode cX4_readMen 28 = .ok (.ifCond .ne 5, 3) := by decide +kernel
theorem dX4_readMen_31 : decode cX4_readMen 31 = .ok (.iconst 1, 1) := by decide +kernel
theorem dX4_readMen_32 : decode cX4_readMen 32 = .ok (.ireturn, 1) := by decide +kernel
theorem dX4_readMen_33 : decode cX4_readMen 33 = .ok (.iinc 2 1, 3) := by decide +kernel
theorem dX4_readMen_36 : decode cX4_readMen 36 = .ok (.goto (-34), 3) := by decide +kernel
theorem dX4_readMen_39 : decode cX4_readMen 39 = .ok (.iconst 1, 1) := by decide +kernel
theorem dX4_readMen_40 : decode cX4_readMen 40 = .ok (.ireturn, 1) := by decide +kernel
set_option maxRecDepth 20000 in
theorem ggX4_readMan_X4_readNumber : GoodIn wsX4_readMan wsX4_readNumber := goodIn_r _ [5, 6, 7, 8, 9, 4, 10, 11, 12, 13, 14, 15, 16, 17, 18, 19, 32, 33, 34] (by decide +kernel) (by decide +kernel)
set_option maxRecDepth 20000 in
theorem gX4_readMan_X4_readNumber : GoodIn wsX4_readMan (wsV RX4 40 RX4 yX4_readNumber wsX4_readNumber) := goodIn_app (goodIn_of _ (by decide +kernel)) ggX4_readMan_X4_readNumber
set_option maxRecDepth 20000 in
theorem ggX4_readMan_X4_takes : GoodIn wsX4_readMan wsX4_takes := goodIn_r _ [23, 6, 7, 8, 9, 4, 10, 11, 12, 13, 14, 15, 16, 32, 33, 34] (by decide +kernel) (by decide +kernel)
set_option maxRecDepth 20000 in
theorem gX4_readMan_X4_takes : GoodIn wsX4_readMan (wsV RX4 26 RX4 yX4_takes wsX4_takes) := goodIn_app (goodIn_of _ (by decide +kernel)) ggX4_readMan_X4_takes
set_option maxRecDepth 20000 in
theorem ggX4_readMan_X1_addMan : GoodIn wsX4_readMan wsX1_addMan := goodIn_r _ [28, 29, 30, 31, 35, 36, 37, 38, 39, 40, 41, 42, 43, 44] (by decide +kernel) (by decide +kernel)
set_option maxRecDepth 20000 in
theorem gX4_readMan_X1_addMan : GoodIn wsX4_readMan (wsV RX4 44 RX1 yX1_addMan wsX1_addMan) := goodIn_app (goodIn_of _ (by decide +kernel)) ggX4_readMan_X1_addMan
theorem dX4_readMan_0 : decode cX4_readMan 0 = .ok (.aload_n 0, 1) := by decide +kernel
theorem dX4_readMan_1 : decode cX4_readMan 1 = .ok (.iconst 1, 1) := by decide +kernel
theorem dX4_readMan_2 : decode cX4_readMan 2 = .ok (.bipush 60, 2) := by decide +kernel
theorem dX4_readMan_4 : decode cX4_readMan 4 = .ok (.invokevirtual 40, 3) := by decide +kernel
theorem dX4_readMan_7 : decode cX4_readMan 7 = .ok (.istore_n 2, 1) := by decide +kernel
theorem dX4_readMan_8 : decode cX4_readMan 8 = .ok (.iload_n 2, 1) := by decide +kernel
theorem dX4_readMan_9 : decode cX4_readMan 9 = .ok (.ifCond .ge 5, 3) := by decide +kernel
theorem dX4_readMan_12 : decode cX4_readMan 12 = .ok (.iconst 0, 1) := by decide +kernel
theorem dX4_readMan_13 : decode cX4_readMan 13 = .ok (.ireturn, 1) := by decide +kernel
theorem dX4_readMan_14 : decode cX4_readMan 14 = .ok (.aload_n 0, 1) := by decide +kernel
theorem dX4_readMan_15 : decode cX4_readMan 15 = .ok (.bipush 45, 2) := by decide +kernel
theorem dX4_readMan_17 : decode cX4_readMan 17 = .ok (.invokevirtual 26, 3) := by decide +kernel
theorem dX4_readMan_20 : decode cX4_readMan 20 = .ok (.ifCond .eq 12, 3) := by decide +kernel
theorem dX4_readMan_23 : decode cX4_readMan 23 = .ok (.aload_n 0, 1) := by decide +kernel
theorem dX4_readMan_24 : decode cX4_readMan 24 = .ok (.iconst 0, 1) := by decide +kernel
theorem dX4_readMan_25 : decode cX4_readMan 25 = .ok (.iload_n 2, 1) := by decide +kernel
theorem dX4_readMan_26 : decode cX4_readMan 26 = .ok (.invokevirtual 40, 3) := by decide +kernel
theorem dX4_readMan_29 : decode cX4_readMan 29 = .ok (.goto 4, 3) := by decide +kernel
theorem dX4_readMan_32 : decode cX4_readMan 32 = .ok (.iconst 0, 1) := by decide +kernel
theorem dX4_readMan_33 : decode cX4_readMan 33 = .ok (.istore_n 3, 1) := by decide +kernel
theorem dX4_readMan_34 : decode cX4_readMan 34 = .ok (.iload_n 3, 1) := by decide +kernel
theorem dX4_readMan_35 : decode cX4_readMan 35 = .ok (.ifCond .ge 5, 3) := by decide +kernel
theorem dX4_readMan_38 : decode cX4_readMan 38 = .ok (.iconst 0, 1) := by decide +kernel
theorem dX4_readMan_39 : decode cX4_readMan 39 = .ok (.ireturn, 1) := by decide +kernel
theorem dX4_readMan_40 : decode cX4_readMan 40 = .ok (.aload_n 1, 1) := by decide +kernel
theorem dX4_readMan_41 : decode cX4_readMan 41 = .ok (.iload_n 2, 1) := by decide +kernel
theorem dX4_readMan_42 : decode cX4_readMan 42 = .ok (.iload_n 2, 1) := by decide +kernel
theorem dX4_readMan_43 : decode cX4_readMan 43 = .ok (.iload_n 3, 1) := by decide +kernel
theorem dX4_readMan_44 : decode cX4_readMan 44 = .ok (.isub, 1) := by decide +kernel
theorem dX4_readMan_45 : decode cX4_readMan 45 = .ok (.invokevirtual 44, 3) := by decide +kernel
theorem dX4_readMan_48 : decode cX4_readMan 48 = .ok (.pop, 1) := by decide +kernel
theorem dX4_readMan_49 : decode cX4_readMan 49 = .ok (.iconst 1, 1) := by decide +kernel
theorem dX4_readMan_50 : decode cX4_readMan 50 = .ok (.ireturn, 1) := by decide +kernel
set_option maxRecDepth 20000 in
theorem ggX4_readMedals_X4_readMedal : GoodIn wsX4_readMedals wsX4_readMedal := goodIn_r _ [5, 6, 7, 8, 9, 4, 10, 11, 12, 13, 14, 15, 16, 17, 18, 19, 20, 21, 22, 23, 24, 25, 26, 27, 28, 29, 30, 31, 32, 33, 34, 35, 36, 37, 38, 39, 40, 41, 42, 43, 44, 45, 46, 47, 48, 49, 50, 51, 52, 53, 54, 55, 56, 57, 58, 59, 60, 61, 62] (by decide +kernel) (by decide +kernel)
set_option maxRecDepth 20000 in
theorem gX4_readMedals_X4_readMedal : GoodIn wsX4_readMedals (wsV RX4 49 RX4 yX4_readMedal wsX4_readMedal) := goodIn_app (goodIn_of _ (by decide +kernel)) ggX4_readMedals_X4_readMedal
set_option maxRecDepth 20000 in
theorem ggX4_readMedals_X4_takes : GoodIn wsX4_readMedals wsX4_takes := goodIn_r _ [30, 6, 7, 8, 9, 4, 10, 11, 12, 13, 14, 15, 16, 50, 51, 52] (by decide +kernel) (by decide +kernel)
set_option maxRecDepth 20000 in
theorem gX4_readMedals_X4_takes : GoodIn wsX4_readMedals (wsV RX4 26 RX4 yX4_takes wsX4_takes) := goodIn_app (goodIn_of _ (by decide +kernel)) ggX4_readMedals_X4_takes
theorem dX4_readMedals_0 : decode cX4_readMedals 0 = .ok (.iconst 0, 1) := by decide +kernel
theorem dX4_readMedals_1 : decode cX4_readMedals 1 = .ok (.istore_n 2, 1) := by decide +kernel
theorem dX4_readMedals_2 : decode cX4_readMedals 2 = .ok (.iload_n 2, 1) := by decide +kernel
theorem dX4_readMedals_3 : decode cX4_readMedals 3 = .ok (.bipush 6, 2) := by decide +kernel
theorem dX4_readMedals_5 : decode cX4_readMedals 5 = .ok (.if_icmp .ge 35, 3) := by decide +kernel
theorem dX4_readMedals_8 : decode cX4_readMedals 8 = .ok (.aload_n 0, 1) := by decide +kernel
theorem dX4_readMedals_9 : decode cX4_readMedals 9 = .ok (.aload_n 1, 1) := by decide +kernel
theorem dX4_readMedals_10 : decode cX4_readMedals 10 = .ok (.invokevirtual 49, 3) := by decide +kernel
theorem dX4_readMedals_13 : decode cX4_readMedals 13 = .ok (.ifCond .ne 5, 3) := by decide +kernel
theorem dX4_readMedals_16 : decode cX4_readMedals 16 = .ok (.iconst 0, 1) := by decide +kernel
theorem dX4_readMedals_17 : decode cX4_readMedals 17 = .ok (.ireturn, 1) := by decide +kernel
theorem dX4_readMedals_18 : decode cX4_readMedals 18 = .ok (.iload_n 2, 1) := by decide +kernel
theorem dX4_readMedals_19 : decode cX4_readMedals 19 = .ok (.iconst 5, 1) := by decide +kernel
theorem dX4_readMedals_20 : decode cX4_readMedals 20 = .ok (.if_icmp .eq 12, 3) := by decide +kernel
theorem dX4_readMedals_23 : decode cX4_readMedals 23 = .ok (.aload_n 0, 1) := by decide +kernel
theorem dX4_readMedals_24 : decode cX4_readMedals 24 = .ok (.bipush 44, 2) := by decide +kernel
theorem dX4_readMedals_26 : decode cX4_readMedals 26 = .ok (.invokevirtual 26, 3) := by decide +kernel
theorem dX4_readMedals_29 : decode cX4_readMedals 29 = .ok (.ifCond .ne 5, 3) := by decide +kernel
theorem dX4_readMedals_32 : decode cX4_readMedals 32 = .ok (.iconst 1, 1) := by decide +kernel
theorem dX4_readMedals_33 : decode cX4_readMedals 33 = .ok (.ireturn, 1) := by decide +kernel
theorem dX4_readMedals_34 : decode cX4_readMedals 34 = .ok (.iinc 2 1, 3) := by decide +kernel
theorem dX4_readMedals_37 : decode cX4_readMedals 37 = .ok (.goto (-35), 3) := by decide +kernel
theorem dX4_readMedals_40 : decode cX4_readMedals 40 = .ok (.iconst 1, 1) := by decide +kernel
theorem dX4_readMedals_41 : decode cX4_readMedals 41 = .ok (.ireturn, 1) := by decide +kernel
set_option maxRecDepth 20000 in
theorem ggX4_readMedal_X4_nextLetter : GoodIn wsX4_readMedal wsX4_nextLetter := goodIn_r _ [6, 1, 7, 8, 9, 10, 11, 5, 12, 46, 47, 48] (by decide +kernel) (by decide +kernel)
set_option maxRecDepth 20000 in
theorem gX4_readMedal_X4_nextLetter : GoodIn wsX4_readMedal (wsV RX4 33 RX4 yX4_nextLetter wsX4_nextLetter) := goodIn_app (goodIn_of _ (by decide +kernel)) ggX4_readMedal_X4_nextLetter
set_option maxRecDepth 20000 in
theorem ggX4_readMedal_X4_kindOf : GoodIn wsX4_readMedal wsX4_kindOf := goodIn_r _ [15] (by decide +kernel) (by decide +kernel)
set_option maxRecDepth 20000 in
theorem gX4_readMedal_X4_kindOf : GoodIn wsX4_readMedal (va_wsS RX4 52 yX4_kindOf wsX4_kindOf) := goodIn_app (goodIn_of _ (by decide +kernel)) ggX4_readMedal_X4_kindOf
set_option maxRecDepth 20000 in
theorem ggX4_readMedal_X4_readNumber : GoodIn wsX4_readMedal wsX4_readNumber := goodIn_r _ [19, 1, 2, 3, 4, 5, 6, 7, 8, 9, 10, 11, 12, 20, 21, 22, 46, 47, 48] (by decide +kernel) (by decide +kernel)
set_option maxRecDepth 20000 in
theorem gX4_readMedal_X4_readNumber : GoodIn wsX4_readMedal (wsV RX4 40 RX4 yX4_readNumber wsX4_readNumber) := goodIn_app (goodIn_of _ (by decide +kernel)) ggX4_readMedal_X4_readNumber
set_option maxRecDepth 20000 in
theorem ggX4_readMedal_X4_takes : GoodIn wsX4_readMedal wsX4_takes := goodIn_r _ [26, 1, 2, 3, 4, 5, 6, 7, 8, 9, 10, 11, 12, 46, 47, 48] (by decide +kernel) (by decide +kernel)
set_option maxRecDepth 20000 in
theorem gX4_readMedal_X4_takes : GoodIn wsX4_readMedal (wsV RX4 26 RX4 yX4_takes wsX4_takes) := goodIn_app (goodIn_of _ (by decide +kernel)) ggX4_readMedal_X4_takes
set_option maxRecDepth 20000 in
theorem ggX4_readMedal_X4_readManOf : GoodIn wsX4_readMedal wsX4_readManOf := goodIn_r _ [30, 1, 2, 3, 4, 5, 6, 7, 8, 9, 10, 11, 12, 20, 21, 22, 31, 32, 33, 34, 35, 36, 46, 47, 48, 49, 50, 51, 52, 53, 54, 55, 56, 57, 58] (by decide +kernel) (by decide +kernel)
set_option maxRecDepth 20000 in
theorem gX4_readMedal_X4_readManOf : GoodIn wsX4_readMedal (wsV RX4 56 RX4 yX4_readManOf wsX4_readManOf) := goodIn_app (goodIn_of _ (by decide +kernel)) ggX4_readMedal_X4_readManOf
set_option maxRecDepth 20000 in
theorem ggX4_readMedal_X1_addMedal : GoodIn wsX4_readMedal wsX1_addMedal := goodIn_r _ [40, 41, 42, 43, 44, 45, 49, 50, 51, 52, 53, 54, 55, 56, 57, 58] (by decide +kernel) (by decide +kernel)
set_option maxRecDepth 20000 in
theorem gX4_readMedal_X1_addMedal : GoodIn wsX4_readMedal (wsV RX4 60 RX1 yX1_addMedal wsX1_addMedal) := goodIn_app (goodIn_of _ (by decide +kernel)) ggX4_readMedal_X1_addMedal
theorem dX4_readMedal_0 : decode cX4_readMedal 0 = .ok (.aload_n 0, 1) := by decide +kernel
theorem dX4_readMedal_1 : decode cX4_readMedal 1 = .ok (.invokevirtual 33, 3) := by decide +kernel
theorem dX4_readMedal_4 : decode cX4_readMedal 4 = .ok (.invokestatic 52, 3) := by decide +kernel
theorem dX4_readMedal_7 : decode cX4_readMedal 7 = .ok (.istore_n 2, 1) := by decide +kernel
theorem dX4_readMedal_8 : decode cX4_readMedal 8 = .ok (.iload_n 2, 1) := by decide +kernel
theorem dX4_readMedal_9 : decode cX4_readMedal 9 = .ok (.ifCond .ge 5, 3) := by decide +kernel
theorem dX4_readMedal_12 : decode cX4_readMedal 12 = .ok (.iconst 0, 1) := by decide +kernel
theorem dX4_readMedal_13 : decode cX4_readMedal 13 = .ok (.ireturn, 1) := by decide +kernel
theorem dX4_readMedal_14 : decode cX4_readMedal 14 = .ok (.aload_n 0, 1) := by decide +kernel
theorem dX4_readMedal_15 : decode cX4_readMedal 15 = .ok (.dup, 1) := by decide +kernel
theorem dX4_readMedal_16 : decode cX4_readMedal 16 = .ok (.getfield 19, 3) := by decide +kernel
theorem dX4_readMedal_19 : decode cX4_readMedal 19 = .ok (.iconst 1, 1) := by decide +kernel
theorem dX4_readMedal_20 : decode cX4_readMedal 20 = .ok (.iadd, 1) := by decide +kernel
theorem dX4_readMedal_21 : decode cX4_readMedal 21 = .ok (.putfield 19, 3) := by decide +kernel
theorem dX4_readMedal_24 : decode cX4_readMedal 24 = .ok (.aload_n 0, 1) := by decide +kernel
theorem dX4_readMedal_25 : decode cX4_readMedal 25 = .ok (.iconst 1, 1) := by decide +kernel
theorem dX4_readMedal_26 : decode cX4_readMedal 26 = .ok (.bipush 20, 2) := by decide +kernel
theorem dX4_readMedal_28 : decode cX4_readMedal 28 = .ok (.invokevirtual 40, 3) := by decide +kernel
theorem dX4_readMedal_31 : decode cX4_readMedal 31 = .ok (.istore_n 3, 1) := by decide +kernel
theorem dX4_readMedal_32 : decode cX4_readMedal 32 = .ok (.iload_n 3, 1) := by decide +kernel
theorem dX4_readMedal_33 : decode cX4_readMedal 33 = .ok (.ifCond .lt 12, 3) := by decide +kernel
theorem dX4_readMedal_36 : decode cX4_readMedal 36 = .ok (.aload_n 0, 1) := by decide +kernel
theorem dX4_readMedal_37 : decode cX4_readMedal 37 = .ok (.bipush 58, 2) := by decide +kernel
theorem dX4_readMedal_39 : decode cX4_readMedal 39 = .ok (.invokevirtual 26, 3) := by decide +kernel
theorem dX4_readMedal_42 : decode cX4_readMedal 42 = .ok (.ifCond .ne 5, 3) := by decide +kernel
theorem dX4_readMedal_45 : decode cX4_readMedal 45 = .ok (.iconst 0, 1) := by decide +kernel
theorem dX4_readMedal_46 : decode cX4_readMedal 46 = .ok (.ireturn, 1) := by decide +kernel
theorem dX4_readMedal_47 : decode cX4_readMedal 47 = .ok (.aload_n 0, 1) := by decide +kernel
theorem dX4_readMedal_48 : decode cX4_readMedal 48 = .ok (.aload_n 1, 1) := by decide +kernel
theorem dX4_readMedal_49 : decode cX4_readMedal 49 = .ok (.invokevirtual 56, 3) := by decide +kernel
theorem dX4_readMedal_52 : decode cX4_readMedal 52 = .ok (.istore 4, 2) := by decide +kernel
theorem dX4_readMedal_54 : decode cX4_readMedal 54 = .ok (.iload 4, 2) := by decide +kernel
theorem dX4_readMedal_56 : decode cX4_readMedal 56 = .ok (.ifCond .ge 5, 3) := by decide +kernel
theorem dX4_readMedal_59 : decode cX4_readMedal 59 = .ok (.iconst 0, 1) := by decide +kernel
theorem dX4_readMedal_60 : decode cX4_readMedal 60 = .ok (.ireturn, 1) := by decide +kernel
theorem dX4_readMedal_61 : decode cX4_readMedal 61 = .ok (.bipush (-4), 2) := by decide +kernel
theorem dX4_readMedal_63 : decode cX4_readMedal 63 = .ok (.istore 5, 2) := by decide +kernel
theorem dX4_readMedal_65 : decode cX4_readMedal 65 = .ok (.aload_n 0, 1) := by decide +kernel
theorem dX4_readMedal_66 : decode cX4_readMedal 66 = .ok (.bipush 64, 2) := by decide +kernel
theorem dX4_readMedal_68 : decode cX4_readMedal 68 = .ok (.invokevirtual 26, 3) := by decide +kernel
theorem dX4_readMedal_71 : decode cX4_readMedal 71 = .ok (.ifCond .eq 17, 3) := by decide +kernel
theorem dX4_readMedal_74 : decode cX4_readMedal 74 = .ok (.aload_n 0, 1) := by decide +kernel
theorem dX4_readMedal_75 : decode cX4_readMedal 75 = .ok (.aload_n 1, 1) := by decide +kernel
theorem dX4_readMedal_76 : decode cX4_readMedal 76 = .ok (.invokevirtual 56, 3) := by decide +kernel
theorem dX4_readMedal_79 : decode cX4_readMedal 79 = .ok (.istore 5, 2) := by decide +kernel
theorem dX4_readMedal_81 : decode cX4_readMedal 81 = .ok (.iload 5, 2) := by decide +kernel
theorem dX4_readMedal_83 : decode cX4_readMedal 83 = .ok (.ifCond .ge 5, 3) := by decide +kernel
theorem dX4_readMedal_86 : decode cX4_readMedal 86 = .ok (.iconst 0, 1) := by decide +kernel
theorem dX4_readMedal_87 : decode cX4_readMedal 87 = .ok (.ireturn, 1) := by decide +kernel
theorem dX4_readMedal_88 : decode cX4_readMedal 88 = .ok (.aload_n 1, 1) := by decide +kernel
theorem dX4_readMedal_89 : decode cX4_readMedal 89 = .ok (.iload_n 2, 1) := by decide +kernel
theorem dX4_readMedal_90 : decode cX4_readMedal 90 = .ok (.iload_n 3, 1) := by decide +kernel
theorem dX4_readMedal_91 : decode cX4_readMedal 91 = .ok (.iload 4, 2) := by decide +kernel
theorem dX4_readMedal_93 : decode cX4_readMedal 93 = .ok (.iload 5, 2) := by decide +kernel
theorem dX4_readMedal_95 : decode cX4_readMedal 95 = .ok (.invokevirtual 60, 3) := by decide +kernel
theorem dX4_readMedal_98 : decode cX4_readMedal 98 = .ok (.pop, 1) := by decide +kernel
theorem dX4_readMedal_99 : decode cX4_readMedal 99 = .ok (.iconst 1, 1) := by decide +kernel
theorem dX4_readMedal_100 : decode cX4_readMedal 100 = .ok (.ireturn, 1) := by decide +kernel
theorem dX4_kindOf_0 : decode cX4_kindOf 0 = .ok (.iload_n 0, 1) := by decide +kernel
theorem dX4_kindOf_1 : decode cX4_kindOf 1 = .ok (.lookupswitch 61 #[(98, 51), (102, 55), (109, 59), (112, 57), (114, 53)], 51) := by decide +kernel
theorem dX4_kindOf_52 : decode cX4_kindOf 52 = .ok (.iconst 0, 1) := by decide +kernel
theorem dX4_kindOf_53 : decode cX4_kindOf 53 = .ok (.ireturn, 1) := by decide +kernel
theorem dX4_kindOf_54 : decode cX4_kindOf 54 = .ok (.iconst 1, 1) := by decide +kernel
theorem dX4_kindOf_55 : decode cX4_kindOf 55 = .ok (.ireturn, 1) := by decide +kernel
theorem dX4_kindOf_56 : decode cX4_kindOf 56 = .ok (.iconst 2, 1) := by decide +kernel
theorem dX4_kindOf_57 : decode cX4_kindOf 57 = .ok (.ireturn, 1) := by decide +kernel
theorem dX4_kindOf_58 : decode cX4_kindOf 58 = .ok (.iconst 3, 1) := by decide +kernel
theorem dX4_kindOf_59 : decode cX4_kindOf 59 = .ok (.ireturn, 1) := by decide +kernel
theorem dX4_kindOf_60 : decode cX4_kindOf 60 = .ok (.iconst 4, 1) := by decide +kernel
theorem dX4_kindOf_61 : decode cX4_kindOf 61 = .ok (.ireturn, 1) := by decide +kernel
theorem dX4_kindOf_62 : decode cX4_kindOf 62 = .ok (.iconst (-1), 1) := by decide +kernel
theorem dX4_kindOf_63 : decode cX4_kindOf 63 = .ok (.ireturn, 1) := by decide +kernel
set_option maxRecDepth 20000 in
theorem ggX4_nextLetter_X4_letterHere : GoodIn wsX4_nextLetter wsX4_letterHere := goodIn_r _ [8, 1, 2, 3, 9, 10, 11] (by decide +kernel) (by decide +kernel)
set_option maxRecDepth 20000 in
theorem gX4_nextLetter_X4_letterHere : GoodIn wsX4_nextLetter (wsV RX4 64 RX4 yX4_letterHere wsX4_letterHere) := goodIn_app (goodIn_of _ (by decide +kernel)) ggX4_nextLetter_X4_letterHere
theorem dX4_nextLetter_0 : decode cX4_nextLetter 0 = .ok (.aload_n 0, 1) := by decide +kernel
theorem dX4_nextLetter_1 : decode cX4_nextLetter 1 = .ok (.getfield 19, 3) := by decide +kernel
theorem dX4_nextLetter_4 : decode cX4_nextLetter 4 = .ok (.aload_n 0, 1) := by decide +kernel
theorem dX4_nextLetter_5 : decode cX4_nextLetter 5 = .ok (.getfield 15, 3) := by decide +kernel
theorem dX4_nextLetter_8 : decode cX4_nextLetter 8 = .ok (.if_icmp .ge 30, 3) := by decide +kernel
theorem dX4_nextLetter_11 : decode cX4_nextLetter 11 = .ok (.aload_n 0, 1) := by decide +kernel
theorem dX4_nextLetter_12 : decode cX4_nextLetter 12 = .ok (.getfield 9, 3) := by decide +kernel
theorem dX4_nextLetter_15 : decode cX4_nextLetter 15 = .ok (.aload_n 0, 1) := by decide +kernel
theorem dX4_nextLetter_16 : decode cX4_nextLetter 16 = .ok (.getfield 19, 3) := by decide +kernel
theorem dX4_nextLetter_19 : decode cX4_nextLetter 19 = .ok (.caload, 1) := by decide +kernel
theorem dX4_nextLetter_20 : decode cX4_nextLetter 20 = .ok (.bipush 32, 2) := by decide +kernel
theorem dX4_nextLetter_22 : decode cX4_nextLetter 22 = .ok (.if_icmp .ne 16, 3) := by decide +kernel
theorem dX4_nextLetter_25 : decode cX4_nextLetter 25 = .ok (.aload_n 0, 1) := by decide +kernel
theorem dX4_nextLetter_26 : decode cX4_nextLetter 26 = .ok (.dup, 1) := by decide +kernel
theorem dX4_nextLetter_27 : decode cX4_nextLetter 27 = .ok (.getfield 19, 3) := by decide +kernel
theorem dX4_nextLetter_30 : decode cX4_nextLetter 30 = .ok (.iconst 1, 1) := by decide +kernel
theorem dX4_nextLetter_31 : decode cX4_nextLetter 31 = .ok (.iadd, 1) := by decide +kernel
theorem dX4_nextLetter_32 : decode cX4_nextLetter 32 = .ok (.putfield 19, 3) := by decide +kernel
theorem dX4_nextLetter_35 : decode cX4_nextLetter 35 = .ok (.goto (-35), 3) := by decide +kernel
theorem dX4_nextLetter_38 : decode cX4_nextLetter 38 = .ok (.aload_n 0, 1) := by decide +kernel
theorem dX4_nextLetter_39 : decode cX4_nextLetter 39 = .ok (.invokevirtual 64, 3) := by decide +kernel
theorem dX4_nextLetter_42 : decode cX4_nextLetter 42 = .ok (.ireturn, 1) := by decide +kernel
theorem dX4_letterHere_0 : decode cX4_letterHere 0 = .ok (.aload_n 0, 1) := by decide +kernel
theorem dX4_letterHere_1 : decode cX4_letterHere 1 = .ok (.getfield 19, 3) := by decide +kernel
theorem dX4_letterHere_4 : decode cX4_letterHere 4 = .ok (.aload_n 0, 1) := by decide +kernel
theorem dX4_letterHere_5 : decode cX4_letterHere 5 = .ok (.getfield 15, 3) := by decide +kernel
theorem dX4_letterHere_8 : decode cX4_letterHere 8 = .ok (.if_icmp .ge 15, 3) := by decide +kernel
theorem dX4_letterHere_11 : decode cX4_letterHere 11 = .ok (.aload_n 0, 1) := by decide +kernel
theorem dX4_letterHere_12 : decode cX4_letterHere 12 = .ok (.getfield 9, 3) := by decide +kernel
theorem dX4_letterHere_15 : decode cX4_letterHere 15 = .ok (.aload_n 0, 1) := by decide +kernel
theorem dX4_letterHere_16 : decode cX4_letterHere 16 = .ok (.getfield 19, 3) := by decide +kernel
theorem dX4_letterHere_19 : decode cX4_letterHere 19 = .ok (.caload, 1) := by decide +kernel
theorem dX4_letterHere_20 : decode cX4_letterHere 20 = .ok (.goto 4, 3) := by decide +kernel
theorem dX4_letterHere_23 : decode cX4_letterHere 23 = .ok (.iconst 0, 1) := by decide +kernel
theorem dX4_letterHere_24 : decode cX4_letterHere 24 = .ok (.ireturn, 1) := by decide +kernel
set_option maxRecDepth 20000 in
theorem ggX4_takes_X4_nextLetter : GoodIn wsX4_takes wsX4_nextLetter := goodIn_r _ [6, 1, 7, 8, 9, 10, 11, 5, 12, 13, 14, 15] (by decide +kernel) (by decide +kernel)
set_option maxRecDepth 20000 in
theorem gX4_takes_X4_nextLetter : GoodIn wsX4_takes (wsV RX4 33 RX4 yX4_nextLetter wsX4_nextLetter) := goodIn_app (goodIn_of _ (by decide +kernel)) ggX4_takes_X4_nextLetter
theorem dX4_takes_0 : decode cX4_takes 0 = .ok (.aload_n 0, 1) := by decide +kernel
theorem dX4_takes_1 : decode cX4_takes 1 = .ok (.invokevirtual 33, 3) := by decide +kernel
theorem dX4_takes_4 : decode cX4_takes 4 = .ok (.iload_n 1, 1) := by decide +kernel
theorem dX4_takes_5 : decode cX4_takes 5 = .ok (.if_icmp .eq 5, 3) := by decide +kernel
theorem dX4_takes_8 : decode cX4_takes 8 = .ok (.iconst 0, 1) := by decide +kernel
theorem dX4_takes_9 : decode cX4_takes 9 = .ok (.ireturn, 1) := by decide +kernel
theorem dX4_takes_10 : decode cX4_takes 10 = .ok (.aload_n 0, 1) := by decide +kernel
theorem dX4_takes_11 : decode cX4_takes 11 = .ok (.dup, 1) := by decide +kernel
theorem dX4_takes_12 : decode cX4_takes 12 = .ok (.getfield 19, 3) := by decide +kernel
theorem dX4_takes_15 : decode cX4_takes 15 = .ok (.iconst 1, 1) := by decide +kernel
theorem dX4_takes_16 : decode cX4_takes 16 = .ok (.iadd, 1) := by decide +kernel
theorem dX4_takes_17 : decode cX4_takes 17 = .ok (.putfield 19, 3) := by decide +kernel
theorem dX4_takes_20 : decode cX4_takes 20 = .ok (.iconst 1, 1) := by decide +kernel
theorem dX4_takes_21 : decode cX4_takes 21 = .ok (.ireturn, 1) := by decide +kernel
set_option maxRecDepth 20000 in
theorem ggX4_readNumber_X4_nextLetter : GoodIn wsX4_readNumber wsX4_nextLetter := goodIn_r _ [6, 1, 7, 8, 9, 10, 11, 5, 12, 16, 17, 18] (by decide +kernel) (by decide +kernel)
set_option maxRecDepth 20000 in
theorem gX4_readNumber_X4_nextLetter : GoodIn wsX4_readNumber (wsV RX4 33 RX4 yX4_nextLetter wsX4_nextLetter) := goodIn_app (goodIn_of _ (by decide +kernel)) ggX4_readNumber_X4_nextLetter
set_option maxRecDepth 20000 in
theorem ggX4_readNumber_X4_isDigit : GoodIn wsX4_readNumber wsX4_isDigit := goodIn_r _ [15] (by decide +kernel) (by decide +kernel)
set_option maxRecDepth 20000 in
theorem gX4_readNumber_X4_isDigit : GoodIn wsX4_readNumber (va_wsS RX4 67 yX4_isDigit wsX4_isDigit) := goodIn_app (goodIn_of _ (by decide +kernel)) ggX4_readNumber_X4_isDigit
set_option maxRecDepth 20000 in
theorem ggX4_readNumber_X4_letterHere : GoodIn wsX4_readNumber wsX4_letterHere := goodIn_r _ [12, 1, 7, 8, 16, 17, 18] (by decide +kernel) (by decide +kernel)
set_option maxRecDepth 20000 in
theorem gX4_readNumber_X4_letterHere : GoodIn wsX4_readNumber (wsV RX4 64 RX4 yX4_letterHere wsX4_letterHere) := goodIn_app (goodIn_of _ (by decide +kernel)) ggX4_readNumber_X4_letterHere
theorem dX4_readNumber_0 : decode cX4_readNumber 0 = .ok (.aload_n 0, 1) := by decide +kernel
theorem dX4_readNumber_1 : decode cX4_readNumber 1 = .ok (.invokevirtual 33, 3) := by decide +kernel
theorem dX4_readNumber_4 : decode cX4_readNumber 4 = .ok (.invokestatic 67, 3) := by decide +kernel
theorem dX4_readNumber_7 : decode cX4_readNumber 7 = .ok (.ifCond .ne 5, 3) := by decide +kernel
theorem dX4_readNumber_10 : decode cX4_readNumber 10 = .ok (.iconst (-1), 1) := by decide +kernel
theorem dX4_readNumber_11 : decode cX4_readNumber 11 = .ok (.ireturn, 1) := by decide +kernel
theorem dX4_readNumber_12 : decode cX4_readNumber 12 = .ok (.aload_n 0, 1) := by decide +kernel
theorem dX4_readNumber_13 : decode cX4_readNumber 13 = .ok (.getfield 19, 3) := by decide +kernel
theorem dX4_readNumber_16 : decode cX4_readNumber 16 = .ok (.istore_n 3, 1) := by decide +kernel
theorem dX4_readNumber_17 : decode cX4_readNumber 17 = .ok (.iconst 0, 1) := by decide +kernel
theorem dX4_readNumber_18 : decode cX4_readNumber 18 = .ok (.istore 4, 2) := by decide +kernel
theorem dX4_readNumber_20 : decode cX4_readNumber 20 = .ok (.iconst 0, 1) := by decide +kernel
theorem dX4_readNumber_21 : decode cX4_readNumber 21 = .ok (.istore 5, 2) := by decide +kernel
theorem dX4_readNumber_23 : decode cX4_readNumber 23 = .ok (.iload 5, 2) := by decide +kernel
theorem dX4_readNumber_25 : decode cX4_readNumber 25 = .ok (.iconst 2, 1) := by decide +kernel
theorem dX4_readNumber_26 : decode cX4_readNumber 26 = .ok (.if_icmp .ge 44, 3) := by decide +kernel
theorem dX4_readNumber_29 : decode cX4_readNumber 29 = .ok (.aload_n 0, 1) := by decide +kernel
theorem dX4_readNumber_30 : decode cX4_readNumber 30 = .ok (.invokevirtual 64, 3) := by decide +kernel
theorem dX4_readNumber_33 : decode cX4_readNumber 33 = .ok (.invokestatic 67, 3) := by decide +kernel
theorem dX4_readNumber_36 : decode cX4_readNumber 36 = .ok (.ifCond .eq 34, 3) := by decide +kernel
theorem dX4_readNumber_39 : decode cX4_readNumber 39 = .ok (.bipush 10, 2) := by decide +kernel
theorem dX4_readNumber_41 : decode cX4_readNumber 41 = .ok (.iload 4, 2) := by decide +kernel
theorem dX4_readNumber_43 : decode cX4_readNumber 43 = .ok (.imul, 1) := by decide +kernel
theorem dX4_readNumber_44 : decode cX4_readNumber 44 = .ok (.aload_n 0, 1) := by decide +kernel
theorem dX4_readNumber_45 : decode cX4_readNumber 45 = .ok (.invokevirtual 64, 3) := by decide +kernel
theorem dX4_readNumber_48 : decode cX4_readNumber 48 = .ok (.bipush 48, 2) := by decide +kernel
theorem dX4_readNumber_50 : decode cX4_readNumber 50 = .ok (.isub, 1) := by decide +kernel
theorem dX4_readNumber_51 : decode cX4_readNumber 51 = .ok (.iadd, 1) := by decide +kernel
theorem dX4_readNumber_52 : decode cX4_readNumber 52 = .ok (.istore 4, 2) := by decide +kernel
theorem dX4_readNumber_54 : decode cX4_readNumber 54 = .ok (.aload_n 0, 1) := by decide +kernel
theorem dX4_readNumber_55 : decode cX4_readNumber 55 = .ok (.dup, 1) := by decide +kernel
theorem dX4_readNumber_56 : decode cX4_readNumber 56 = .ok (.getfield 19, 3) := by decide +kernel
theorem dX4_readNumber_59 : decode cX4_readNumber 59 = .ok (.iconst 1, 1) := by decide +kernel
theorem dX4_readNumber_60 : decode cX4_readNumber 60 = .ok (.iadd, 1) := by decide +kernel
theorem dX4_readNumber_61 : decode cX4_readNumber 61 = .ok (.putfield 19, 3) := by decide +kernel
theorem dX4_readNumber_64 : decode cX4_readNumber 64 = .ok (.iinc 5 1, 3) := by decide +kernel
theorem dX4_readNumber_67 : decode cX4_readNumber 67 = .ok (.goto (-44), 3) := by decide +kernel
theorem dX4_readNumber_70 : decode cX4_readNumber 70 = .ok (.iload 4, 2) := by decide +kernel
theorem dX4_readNumber_72 : decode cX4_readNumber 72 = .ok (.iload_n 1, 1) := by decide +kernel
theorem dX4_readNumber_73 : decode cX4_readNumber 73 = .ok (.if_icmp .lt 9, 3) := by decide +kernel
theorem dX4_readNumber_76 : decode cX4_readNumber 76 = .ok (.iload 4, 2) := by decide +kernel
theorem dX4_readNumber_78 : decode cX4_readNumber 78 = .ok (.iload_n 2, 1) := by decide +kernel
theorem dX4_readNumber_79 : decode cX4_readNumber 79 = .ok (.if_icmp .le 10, 3) := by decide +kernel
theorem dX4_readNumber_82 : decode cX4_readNumber 82 = .ok (.aload_n 0, 1) := by decide +kernel
theorem dX4_readNumber_83 : decode cX4_readNumber 83 = .ok (.iload_n 3, 1) := by decide +kernel
theorem dX4_readNumber_84 : decode cX4_readNumber 84 = .ok (.putfield 19, 3) := by decide +kernel
theorem dX4_readNumber_87 : decode cX4_readNumber 87 = .ok (.iconst (-1), 1) := by decide +kernel
theorem dX4_readNumber_88 : decode cX4_readNumber 88 = .ok (.ireturn, 1) := by decide +kernel
theorem dX4_readNumber_89 : decode cX4_readNumber 89 = .ok (.iload 4, 2) := by decide +kernel
theorem dX4_readNumber_91 : decode cX4_readNumber 91 = .ok (.ireturn, 1) := by decide +kernel
set_option maxRecDepth 20000 in
theorem ggX4_readManOf_X4_nextLetter : GoodIn wsX4_readManOf wsX4_nextLetter := goodIn_r _ [6, 1, 7, 8, 9, 10, 11, 5, 12, 22, 23, 24] (by decide +kernel) (by decide +kernel)
set_option maxRecDepth 20000 in
theorem gX4_readManOf_X4_nextLetter : GoodIn wsX4_readManOf (wsV RX4 33 RX4 yX4_nextLetter wsX4_nextLetter) := goodIn_app (goodIn_of _ (by decide +kernel)) ggX4_readManOf_X4_nextLetter
set_option maxRecDepth 20000 in
theorem ggX4_readManOf_X4_isDigit : GoodIn wsX4_readManOf wsX4_isDigit := goodIn_r _ [15] (by decide +kernel) (by decide +kernel)
set_option maxRecDepth 20000 in
theorem gX4_readManOf_X4_isDigit : GoodIn wsX4_readManOf (va_wsS RX4 67 yX4_isDigit wsX4_isDigit) := goodIn_app (goodIn_of _ (by decide +kernel)) ggX4_readManOf_X4_isDigit
set_option maxRecDepth 20000 in
theorem ggX4_readManOf_X1_hasMan : GoodIn wsX4_readManOf wsX1_hasMan := goodIn_r _ [20, 21, 25, 26, 27, 28, 29, 30, 31, 32, 33, 34] (by decide +kernel) (by decide +kernel)
set_option maxRecDepth 20000 in
theorem gX4_readManOf_X1_hasMan : GoodIn wsX4_readManOf (wsV RX4 70 RX1 yX1_hasMan wsX1_hasMan) := goodIn_app (goodIn_of _ (by decide +kernel)) ggX4_readManOf_X1_hasMan
theorem dX4_readManOf_0 : decode cX4_readManOf 0 = .ok (.aload_n 0, 1) := by decide +kernel
theorem dX4_readManOf_1 : decode cX4_readManOf 1 = .ok (.invokevirtual 33, 3) := by decide +kernel
theorem dX4_readManOf_4 : decode cX4_readManOf 4 = .ok (.istore_n 2, 1) := by decide +kernel
theorem dX4_readManOf_5 : decode cX4_readManOf 5 = .ok (.iload_n 2, 1) := by decide +kernel
theorem dX4_readManOf_6 : decode cX4_readManOf 6 = .ok (.invokestatic 67, 3) := by decide +kernel
theorem dX4_readManOf_9 : decode cX4_readManOf 9 = .ok (.ifCond .eq 14, 3) := by decide +kernel
theorem dX4_readManOf_12 : decode cX4_readManOf 12 = .ok (.aload_n 1, 1) := by decide +kernel
theorem dX4_readManOf_13 : decode cX4_readManOf 13 = .ok (.iload_n 2, 1) := by decide +kernel
theorem dX4_readManOf_14 : decode cX4_readManOf 14 = .ok (.bipush 48, 2) := by decide +kernel
theorem dX4_readManOf_16 : decode cX4_readManOf 16 = .ok (.isub, 1) := by decide +kernel
theorem dX4_readManOf_17 : decode cX4_readManOf 17 = .ok (.invokevirtual 70, 3) := by decide +kernel
theorem dX4_readManOf_20 : decode cX4_readManOf 20 = .ok (.ifCond .ne 5, 3) := by decide +kernel
theorem dX4_readManOf_23 : decode cX4_readManOf 23 = .ok (.iconst (-1), 1) := by decide +kernel
theorem dX4_readManOf_24 : decode cX4_readManOf 24 = .ok (.ireturn, 1) := by decide +kernel
theorem dX4_readManOf_25 : decode cX4_readManOf 25 = .ok (.aload_n 0, 1) := by decide +kernel
theorem dX4_readManOf_26 : decode cX4_readManOf 26 = .ok (.dup, 1) := by decide +kernel
theorem dX4_readManOf_27 : decode cX4_readManOf 27 = .ok (.getfield 19, 3) := by decide +kernel
theorem dX4_readManOf_30 : decode cX4_readManOf 30 = .ok (.iconst 1, 1) := by decide +kernel
theorem dX4_readManOf_31 : decode cX4_readManOf 31 = .ok (.iadd, 1) := by decide +kernel
theorem dX4_readManOf_32 : decode cX4_readManOf 32 = .ok (.putfield 19, 3) := by decide +kernel
theorem dX4_readManOf_35 : decode cX4_readManOf 35 = .ok (.iload_n 2, 1) := by decide +kernel
theorem dX4_readManOf_36 : decode cX4_readManOf 36 = .ok (.bipush 48, 2) := by decide +kernel
theorem dX4_readManOf_38 : decode cX4_readManOf 38 = .ok (.isub, 1) := by decide +kernel
theorem dX4_readManOf_39 : decode cX4_readManOf 39 = .ok (.ireturn, 1) := by decide +kernel
theorem dX4_isDigit_0 : decode cX4_isDigit 0 = .ok (.iload_n 0, 1) := by decide +kernel
theorem dX4_isDigit_1 : decode cX4_isDigit 1 = .ok (.bipush 48, 2) := by decide +kernel
theorem dX4_isDigit_3 : decode cX4_isDigit 3 = .ok (.if_icmp .lt 13, 3) := by decide +kernel
theorem dX4_isDigit_6 : decode cX4_isDigit 6 = .ok (.iload_n 0, 1) := by decide +kernel
theorem dX4_isDigit_7 : decode cX4_isDigit 7 = .ok (.bipush 57, 2) := by decide +kernel
theorem dX4_isDigit_9 : decode cX4_isDigit 9 = .ok (.if_icmp .gt 7, 3) := by decide +kernel
theorem dX4_isDigit_12 : decode cX4_isDigit 12 = .ok (.iconst 1, 1) := by decide +kernel
theorem dX4_isDigit_13 : decode cX4_isDigit 13 = .ok (.goto 4, 3) := by decide +kernel
theorem dX4_isDigit_16 : decode cX4_isDigit 16 = .ok (.iconst 0, 1) := by decide +kernel
theorem dX4_isDigit_17 : decode cX4_isDigit 17 = .ok (.ireturn, 1) := by decide +kernel
def fX2_forget   : Option Int32 := some 0
theorem in_X2_forget_X2 : ∀ w ∈ wsX20, w ∈ wsX2_forget := by decide +kernel
set_option maxHeartbeats 4000000 in
set_option maxRecDepth 100000 in
theorem ct_X2_forget {l : Launch} {D : va_G} {g : Nat → ClassId} {qa : Nat → Nat} {E0 : Nat → va_E} {b : Nat} {kn_p : Int32} {nx_p : Int32} {ke_p : Nat → Nat → Int32} (hb_p : b + 10 ≤ 74) (hG_p : Pa g qa E0 b kn_p nx_p ke_p) {R : Int32} (hf : fX2_forget = some R) : MV l yX2_forget wsX2_forget 0 D g qa E0 [.ref (qa b)] (fun E => Pa g qa E b R nx_p ke_p ∧ ∀ j, (j < b ∨ b + 10 ≤ j) → E j = E0 j) := by
  refine MV.mk (by decide) rfl (Nat.le_of_ble_eq_true rfl) ?_
  intro p e s m args below meth c ls Q X hret hP hS hl
  have hl : lv_has ls 1 [(0, .ref (qa b))] := hl
  have hfr : ∀ j, (j < b ∨ b + 10 ≤ j) → E0 j = E0 j := fun _ _ => rfl
  rw [fX2_forget] at hf
  refine lv_aload_n X.1 X.2.1 dX2_forget_0 rfl (lv_at hl 0 rfl) ?_
  refine lv_iconst (v := 0) X.1 X.2.1 dX2_forget_1 (by decide) ?_
  refine x_put (ty := .int) X hP hS hG_p.1 (by omega) rfl in_X2_forget_X2 tyX2 tyX2_ok nmX2 1 (by decide) (by decide +kernel) rfl rfl (by decide +kernel) rfl rfl (Nat.le_of_ble_eq_true rfl) dX2_forget_2 (fun E H locs h1 hk hP hS => ?_)
  have hG_p := Pa_set_0 hG_p h1 hk
  have hfr : ∀ j, (j < b ∨ b + 10 ≤ j) → E j = E0 j := fun j o0 => (hk j (by omega)).trans (hfr j o0)
  obtain rfl := Option.some.inj hf
  exact hret _ _ _ _ _ dX2_forget_5 (⟨hG_p, hfr⟩) hP hS
def fX2_giveBack  (kn_p : Int32) (nx_p : Int32) (ke_p : Nat → Nat → Int32) (day_n : Int32) (drw_n : Int32) (st_n : Nat → Int32) (we_n : Nat → Int32) (wr_n : Nat → Int32) : Option (Int32 × Int32 × Int32 × Int32 × Int32 × (Nat → Int32) × (Nat → Int32) × (Nat → Int32)) := if kn_p = 0 then (some (0, kn_p, nx_p, day_n, drw_n, st_n, we_n, wr_n)) else (gin (((nx_p + 8) - 1) - ((nx_p + 8) - 1) / 8 * 8) 8 (gcp 0 0 5 19 5 (gcp 5 0 6 19 6 (gcp 11 0 6 19 6 (gin 17 19 (gin 18 19 (some (1, kn_p - 1, ((nx_p + 8) - 1) - ((nx_p + 8) - 1) / 8 * 8, ke_p (Int32.toNatClampNeg (((nx_p + 8) - 1) - ((nx_p + 8) - 1) / 8 * 8)) (Int32.toNatClampNeg 17), ke_p (Int32.toNatClampNeg (((nx_p + 8) - 1) - ((nx_p + 8) - 1) / 8 * 8)) (Int32.toNatClampNeg 18), va_cpy (ke_p (Int32.toNatClampNeg (((nx_p + 8) - 1) - ((nx_p + 8) - 1) / 8 * 8))) st_n (Int32.toNatClampNeg 0) (Int32.toNatClampNeg 0) (Int32.toNatClampNeg 5), va_cpy (ke_p (Int32.toNatClampNeg (((nx_p + 8) - 1) - ((nx_p + 8) - 1) / 8 * 8))) we_n (Int32.toNatClampNeg 5) (Int32.toNatClampNeg 0) (Int32.toNatClampNeg 6), va_cpy (ke_p (Int32.toNatClampNeg (((nx_p + 8) - 1) - ((nx_p + 8) - 1) / 8 * 8))) wr_n (Int32.toNatClampNeg 11) (Int32.toNatClampNeg 0) (Int32.toNatClampNeg 6)))))))))
theorem in_X2_giveBack_X1 : ∀ w ∈ wsX10, w ∈ wsX2_giveBack := by decide +kernel
theorem in_X2_giveBack_X2 : ∀ w ∈ wsX20, w ∈ wsX2_giveBack := by decide +kernel
set_option maxHeartbeats 4000000 in
set_option maxRecDepth 100000 in
theorem ct_X2_giveBack {l : Launch} {D : va_G} {g : Nat → ClassId} {qa : Nat → Nat} {E0 : Nat → va_E} {kn_p : Int32} {nx_p : Int32} {ke_p : Nat → Nat → Int32} {men_n : Int32} {md_n : Int32} {day_n : Int32} {drw_n : Int32} {bu_n : Nat → Int32} {st_n : Nat → Int32} {ki_n : Nat → Int32} {we_n : Nat → Int32} {wo_n : Nat → Int32} {wr_n : Nat → Int32} (hG_p : Pa g qa E0 8 kn_p nx_p ke_p) (hG_n : Mu g qa E0 1 men_n md_n day_n drw_n bu_n st_n ki_n we_n wo_n wr_n) {R : (Int32 × Int32 × Int32 × Int32 × Int32 × (Nat → Int32) × (Nat → Int32) × (Nat → Int32))} (hf : fX2_giveBack kn_p nx_p ke_p day_n drw_n st_n we_n wr_n = some R) : MI l yX2_giveBack wsX2_giveBack 1 D g qa E0 [.ref (qa 8), .ref (qa 1)] R.1 (fun E => Pa g qa E 8 R.2.1 R.2.2.1 ke_p ∧ Mu g qa E 1 men_n md_n R.2.2.2.1 R.2.2.2.2.1 bu_n R.2.2.2.2.2.1 ki_n R.2.2.2.2.2.2.1 wo_n R.2.2.2.2.2.2.2 ∧ ∀ j, (j < 8 ∨ 18 ≤ j) → (j < 1 ∨ 8 ≤ j) → E j = E0 j) := by
  refine MI.mk (by decide) rfl (Nat.le_of_ble_eq_true rfl) ?_
  intro p e s m args below meth c ls Q X hret hP hS hl
  have hl : lv_has ls 3 [(0, .ref (qa 8)), (1, .ref (qa 1))] := hl
  have hfr : ∀ j, (j < 8 ∨ 18 ≤ j) → (j < 1 ∨ 8 ≤ j) → E0 j = E0 j := fun _ _ _ => rfl
  rw [fX2_giveBack] at hf
  refine lv_aload_n X.1 X.2.1 dX2_giveBack_0 rfl (lv_at hl 0 rfl) ?_
  refine x_get X hP hG_p.1 (by omega) rfl in_X2_giveBack_X2 1 (by decide) (by decide +kernel) rfl rfl dX2_giveBack_1 ?_
  refine lv_if_ne (tgt := 9) X.1 X.2.1 dX2_giveBack_4 (by decide) (fun c1 => ?_) (fun c1 => ?_)
  · have hf := ifn hf c1
    refine lv_aload_n X.1 X.2.1 dX2_giveBack_9 rfl (lv_at hl 0 rfl) ?_
    refine lv_dup X.1 X.2.1 dX2_giveBack_10 rfl ?_
    refine x_get X hP hG_p.1 (by omega) rfl in_X2_giveBack_X2 1 (by decide) (by decide +kernel) rfl rfl dX2_giveBack_11 ?_
    refine lv_iconst (v := 1) X.1 X.2.1 dX2_giveBack_14 (by decide) ?_
    refine lv_isub X.1 X.2.1 dX2_giveBack_15 ?_
    refine x_put (ty := .int) X hP hS hG_p.1 (by omega) rfl in_X2_giveBack_X2 tyX2 tyX2_ok nmX2 1 (by decide) (by decide +kernel) rfl rfl (by decide +kernel) rfl rfl (Nat.le_of_ble_eq_true rfl) dX2_giveBack_16 (fun E H locs h1 hk hP hS => ?_)
    have hG_p := Pa_set_0 hG_p h1 hk
    have hG_n := Mu_kept hG_n (fun j h8 h9 => hk j (by omega))
    have hfr : ∀ j, (j < 8 ∨ 18 ≤ j) → (j < 1 ∨ 8 ≤ j) → E j = E0 j := fun j o0 o1 => (hk j (by omega)).trans (hfr j o0 o1)
    refine lv_aload_n X.1 X.2.1 dX2_giveBack_19 rfl (lv_at hl 0 rfl) ?_
    refine lv_aload_n X.1 X.2.1 dX2_giveBack_20 rfl (lv_at hl 0 rfl) ?_
    refine x_get X hP hG_p.1 (by omega) rfl in_X2_giveBack_X2 2 (by decide) (by decide +kernel) rfl rfl dX2_giveBack_21 ?_
    refine lv_bipush (v := 8) X.1 X.2.1 dX2_giveBack_24 (by decide) ?_
    refine lv_iadd X.1 X.2.1 dX2_giveBack_26 ?_
    refine lv_iconst (v := 1) X.1 X.2.1 dX2_giveBack_27 (by decide) ?_
    refine lv_isub X.1 X.2.1 dX2_giveBack_28 ?_
    refine lv_bipush (v := 8) X.1 X.2.1 dX2_giveBack_29 (by decide) ?_
    refine lv_irem X.1 X.2.1 dX2_giveBack_31 (by decide) ?_
    refine x_put (ty := .int) X hP hS hG_p.1 (by omega) rfl in_X2_giveBack_X2 tyX2 tyX2_ok nmX2 2 (by decide) (by decide +kernel) rfl rfl (by decide +kernel) rfl rfl (Nat.le_of_ble_eq_true rfl) dX2_giveBack_32 (fun E H locs h1 hk hP hS => ?_)
    have hG_p := Pa_set_0 hG_p h1 hk
    have hG_n := Mu_kept hG_n (fun j h8 h9 => hk j (by omega))
    have hfr : ∀ j, (j < 8 ∨ 18 ≤ j) → (j < 1 ∨ 8 ≤ j) → E j = E0 j := fun j o0 o1 => (hk j (by omega)).trans (hfr j o0 o1)
    refine lv_aload_n X.1 X.2.1 dX2_giveBack_35 rfl (lv_at hl 0 rfl) ?_
    refine x_get X hP hG_p.1 (by omega) rfl in_X2_giveBack_X2 0 (by decide) (by decide +kernel) rfl rfl dX2_giveBack_36 ?_
    refine lv_aload_n X.1 X.2.1 dX2_giveBack_39 rfl (lv_at hl 0 rfl) ?_
    refine x_get X hP hG_p.1 (by omega) rfl in_X2_giveBack_X2 2 (by decide) (by decide +kernel) rfl rfl dX2_giveBack_40 ?_
    obtain ⟨hi2, hf⟩ := gin_of hf
    have hj3 := in_lt hi2
    refine x_aald X hP 3 rfl rfl hG_p.2.1 (by omega) hi2 dX2_giveBack_43 ?_
    refine lv_astore_n (lv' := [(2, .ref (qa (8 + 2 + (Int32.toNatClampNeg (((nx_p + 8) - 1) - ((nx_p + 8) - 1) / 8 * 8))))), (0, .ref (qa 8)), (1, .ref (qa 1))]) X.1 X.2.1 dX2_giveBack_44 rfl hl (by decide) rfl (fun ls hl => ?_)
    refine lv_aload_n X.1 X.2.1 dX2_giveBack_45 rfl (lv_at hl 0 rfl) ?_
    refine lv_iconst (v := 0) X.1 X.2.1 dX2_giveBack_46 (by decide) ?_
    refine lv_aload_n X.1 X.2.1 dX2_giveBack_47 rfl (lv_at hl 2 rfl) ?_
    refine x_get X hP hG_n.1 (by omega) rfl in_X2_giveBack_X1 2 (by decide) (by decide +kernel) rfl rfl dX2_giveBack_48 ?_
    refine lv_iconst (v := 0) X.1 X.2.1 dX2_giveBack_51 (by decide) ?_
    refine lv_iconst (v := 5) X.1 X.2.1 dX2_giveBack_52 (by decide) ?_
    obtain ⟨hy4, hf⟩ := gcp_of hf
    refine x_copyi X hP hS (hG_p.2.2 _ hj3) (by omega) hG_n.2.2.1 (by omega) (index := 29) (by decide +kernel) (by decide +kernel) (by decide +kernel) (by decide +kernel) hl.1 hy4.1 hy4.2.1 hy4.2.2.1 hy4.2.2.2.1 hy4.2.2.2.2 (by decide) (Nat.le_of_ble_eq_true rfl) dX2_giveBack_53 (fun E H locs h1 hk hP hS => ?_)
    have hG_n := Mu_set_2 hG_n h1 hk
    have hG_p := Pa_kept hG_p (fun j h8 h9 => hk j (by omega))
    have hfr : ∀ j, (j < 8 ∨ 18 ≤ j) → (j < 1 ∨ 8 ≤ j) → E j = E0 j := fun j o0 o1 => (hk j (by omega)).trans (hfr j o0 o1)
    refine lv_aload_n X.1 X.2.1 dX2_giveBack_56 rfl (lv_at hl 0 rfl) ?_
    refine lv_iconst (v := 5) X.1 X.2.1 dX2_giveBack_57 (by decide) ?_
    refine lv_aload_n X.1 X.2.1 dX2_giveBack_58 rfl (lv_at hl 2 rfl) ?_
    refine x_get X hP hG_n.1 (by omega) rfl in_X2_giveBack_X1 5 (by decide) (by decide +kernel) rfl rfl dX2_giveBack_59 ?_
    refine lv_iconst (v := 0) X.1 X.2.1 dX2_giveBack_62 (by decide) ?_
    refine lv_bipush (v := 6) X.1 X.2.1 dX2_giveBack_63 (by decide) ?_
    obtain ⟨hy5, hf⟩ := gcp_of hf
    refine x_copyi X hP hS (hG_p.2.2 _ hj3) (by omega) hG_n.2.2.2.2.1 (by omega) (index := 29) (by decide +kernel) (by decide +kernel) (by decide +kernel) (by decide +kernel) hl.1 hy5.1 hy5.2.1 hy5.2.2.1 hy5.2.2.2.1 hy5.2.2.2.2 (by decide) (Nat.le_of_ble_eq_true rfl) dX2_giveBack_65 (fun E H locs h1 hk hP hS => ?_)
    have hG_n := Mu_set_4 hG_n h1 hk
    have hG_p := Pa_kept hG_p (fun j h8 h9 => hk j (by omega))
    have hfr : ∀ j, (j < 8 ∨ 18 ≤ j) → (j < 1 ∨ 8 ≤ j) → E j = E0 j := fun j o0 o1 => (hk j (by omega)).trans (hfr j o0 o1)
    refine lv_aload_n X.1 X.2.1 dX2_giveBack_68 rfl (lv_at hl 0 rfl) ?_
    refine lv_bipush (v := 11) X.1 X.2.1 dX2_giveBack_69 (by decide) ?_
    refine lv_aload_n X.1 X.2.1 dX2_giveBack_71 rfl (lv_at hl 2 rfl) ?_
    refine x_get X hP hG_n.1 (by omega) rfl in_X2_giveBack_X1 7 (by decide) (by decide +kernel) rfl rfl dX2_giveBack_72 ?_
    refine lv_iconst (v := 0) X.1 X.2.1 dX2_giveBack_75 (by decide) ?_
    refine lv_bipush (v := 6) X.1 X.2.1 dX2_giveBack_76 (by decide) ?_
    obtain ⟨hy6, hf⟩ := gcp_of hf
    refine x_copyi X hP hS (hG_p.2.2 _ hj3) (by omega) hG_n.2.2.2.2.2.2 (by omega) (index := 29) (by decide +kernel) (by decide +kernel) (by decide +kernel) (by decide +kernel) hl.1 hy6.1 hy6.2.1 hy6.2.2.1 hy6.2.2.2.1 hy6.2.2.2.2 (by decide) (Nat.le_of_ble_eq_true rfl) dX2_giveBack_78 (fun E H locs h1 hk hP hS => ?_)
    have hG_n := Mu_set_6 hG_n h1 hk
    have hG_p := Pa_kept hG_p (fun j h8 h9 => hk j (by omega))
    have hfr : ∀ j, (j < 8 ∨ 18 ≤ j) → (j < 1 ∨ 8 ≤ j) → E j = E0 j := fun j o0 o1 => (hk j (by omega)).trans (hfr j o0 o1)
    refine lv_aload_n X.1 X.2.1 dX2_giveBack_81 rfl (lv_at hl 2 rfl) ?_
    refine lv_aload_n X.1 X.2.1 dX2_giveBack_82 rfl (lv_at hl 0 rfl) ?_
    refine lv_bipush (v := 17) X.1 X.2.1 dX2_giveBack_83 (by decide) ?_
    obtain ⟨hi7, hf⟩ := gin_of hf
    refine x_iald X hP (hG_p.2.2 _ hj3) (by omega) hi7 dX2_giveBack_85 ?_
    refine x_put (ty := .int) X hP hS hG_n.1 (by omega) rfl in_X2_giveBack_X1 tyX1 tyX1_ok nmX1 8 (by decide) (by decide +kernel) rfl rfl (by decide +kernel) rfl rfl (Nat.le_of_ble_eq_true rfl) dX2_giveBack_86 (fun E H locs h1 hk hP hS => ?_)
    have hG_n := Mu_set_0 hG_n h1 hk
    have hG_p := Pa_kept hG_p (fun j h8 h9 => hk j (by omega))
    have hfr : ∀ j, (j < 8 ∨ 18 ≤ j) → (j < 1 ∨ 8 ≤ j) → E j = E0 j := fun j o0 o1 => (hk j (by omega)).trans (hfr j o0 o1)
    refine lv_aload_n X.1 X.2.1 dX2_giveBack_89 rfl (lv_at hl 2 rfl) ?_
    refine lv_aload_n X.1 X.2.1 dX2_giveBack_90 rfl (lv_at hl 0 rfl) ?_
    refine lv_bipush (v := 18) X.1 X.2.1 dX2_giveBack_91 (by decide) ?_
    obtain ⟨hi8, hf⟩ := gin_of hf
    refine x_iald X hP (hG_p.2.2 _ hj3) (by omega) hi8 dX2_giveBack_93 ?_
    refine x_put (ty := .int) X hP hS hG_n.1 (by omega) rfl in_X2_giveBack_X1 tyX1 tyX1_ok nmX1 9 (by decide) (by decide +kernel) rfl rfl (by decide +kernel) rfl rfl (Nat.le_of_ble_eq_true rfl) dX2_giveBack_94 (fun E H locs h1 hk hP hS => ?_)
    have hG_n := Mu_set_0 hG_n h1 hk
    have hG_p := Pa_kept hG_p (fun j h8 h9 => hk j (by omega))
    have hfr : ∀ j, (j < 8 ∨ 18 ≤ j) → (j < 1 ∨ 8 ≤ j) → E j = E0 j := fun j o0 o1 => (hk j (by omega)).trans (hfr j o0 o1)
    refine lv_iconst (v := 1) X.1 X.2.1 dX2_giveBack_97 (by decide) ?_
    obtain rfl := Option.some.inj hf
    exact hret _ _ _ _ _ _ dX2_giveBack_98 rfl rfl (⟨hG_p, hG_n, hfr⟩) hP hS
  · have hf := ifp hf c1
    refine lv_iconst (v := 0) X.1 X.2.1 dX2_giveBack_7 (by decide) ?_
    obtain rfl := Option.some.inj hf
    exact hret _ _ _ _ _ _ dX2_giveBack_8 rfl rfl (⟨hG_p, hG_n, hfr⟩) hP hS
def fX2_keep  (kn_p : Int32) (nx_p : Int32) (ke_p : Nat → Nat → Int32) (day_n : Int32) (drw_n : Int32) (st_n : Nat → Int32) (we_n : Nat → Int32) (wr_n : Nat → Int32) : Option (Int32 × Int32 × (Nat → Nat → Int32)) := gin nx_p 8 (gcp 0 0 5 5 19 (gcp 0 5 6 6 19 (gcp 0 11 6 6 19 (gin 17 19 (gin 18 19 (some ((if (kn_p + 1) < 8 then kn_p + 1 else 8), (nx_p + 1) - (nx_p + 1) / 8 * 8, va_up (va_up (va_up (va_up (va_up ke_p (Int32.toNatClampNeg nx_p) (va_cpy st_n (ke_p (Int32.toNatClampNeg nx_p)) (Int32.toNatClampNeg 0) (Int32.toNatClampNeg 0) (Int32.toNatClampNeg 5))) (Int32.toNatClampNeg nx_p) (va_cpy we_n ((va_up ke_p (Int32.toNatClampNeg nx_p) (va_cpy st_n (ke_p (Int32.toNatClampNeg nx_p)) (Int32.toNatClampNeg 0) (Int32.toNatClampNeg 0) (Int32.toNatClampNeg 5))) (Int32.toNatClampNeg nx_p)) (Int32.toNatClampNeg 0) (Int32.toNatClampNeg 5) (Int32.toNatClampNeg 6))) (Int32.toNatClampNeg nx_p) (va_cpy wr_n ((va_up (va_up ke_p (Int32.toNatClampNeg nx_p) (va_cpy st_n (ke_p (Int32.toNatClampNeg nx_p)) (Int32.toNatClampNeg 0) (Int32.toNatClampNeg 0) (Int32.toNatClampNeg 5))) (Int32.toNatClampNeg nx_p) (va_cpy we_n ((va_up ke_p (Int32.toNatClampNeg nx_p) (va_cpy st_n (ke_p (Int32.toNatClampNeg nx_p)) (Int32.toNatClampNeg 0) (Int32.toNatClampNeg 0) (Int32.toNatClampNeg 5))) (Int32.toNatClampNeg nx_p)) (Int32.toNatClampNeg 0) (Int32.toNatClampNeg 5) (Int32.toNatClampNeg 6))) (Int32.toNatClampNeg nx_p)) (Int32.toNatClampNeg 0) (Int32.toNatClampNeg 11) (Int32.toNatClampNeg 6))) (Int32.toNatClampNeg nx_p) (upd ((va_up (va_up (va_up ke_p (Int32.toNatClampNeg nx_p) (va_cpy st_n (ke_p (Int32.toNatClampNeg nx_p)) (Int32.toNatClampNeg 0) (Int32.toNatClampNeg 0) (Int32.toNatClampNeg 5))) (Int32.toNatClampNeg nx_p) (va_cpy we_n ((va_up ke_p (Int32.toNatClampNeg nx_p) (va_cpy st_n (ke_p (Int32.toNatClampNeg nx_p)) (Int32.toNatClampNeg 0) (Int32.toNatClampNeg 0) (Int32.toNatClampNeg 5))) (Int32.toNatClampNeg nx_p)) (Int32.toNatClampNeg 0) (Int32.toNatClampNeg 5) (Int32.toNatClampNeg 6))) (Int32.toNatClampNeg nx_p) (va_cpy wr_n ((va_up (va_up ke_p (Int32.toNatClampNeg nx_p) (va_cpy st_n (ke_p (Int32.toNatClampNeg nx_p)) (Int32.toNatClampNeg 0) (Int32.toNatClampNeg 0) (Int32.toNatClampNeg 5))) (Int32.toNatClampNeg nx_p) (va_cpy we_n ((va_up ke_p (Int32.toNatClampNeg nx_p) (va_cpy st_n (ke_p (Int32.toNatClampNeg nx_p)) (Int32.toNatClampNeg 0) (Int32.toNatClampNeg 0) (Int32.toNatClampNeg 5))) (Int32.toNatClampNeg nx_p)) (Int32.toNatClampNeg 0) (Int32.toNatClampNeg 5) (Int32.toNatClampNeg 6))) (Int32.toNatClampNeg nx_p)) (Int32.toNatClampNeg 0) (Int32.toNatClampNeg 11) (Int32.toNatClampNeg 6))) (Int32.toNatClampNeg nx_p)) (Int32.toNatClampNeg 17) day_n)) (Int32.toNatClampNeg nx_p) (upd ((va_up (va_up (va_up (va_up ke_p (Int32.toNatClampNeg nx_p) (va_cpy st_n (ke_p (Int32.toNatClampNeg nx_p)) (Int32.toNatClampNeg 0) (Int32.toNatClampNeg 0) (Int32.toNatClampNeg 5))) (Int32.toNatClampNeg nx_p) (va_cpy we_n ((va_up ke_p (Int32.toNatClampNeg nx_p) (va_cpy st_n (ke_p (Int32.toNatClampNeg nx_p)) (Int32.toNatClampNeg 0) (Int32.toNatClampNeg 0) (Int32.toNatClampNeg 5))) (Int32.toNatClampNeg nx_p)) (Int32.toNatClampNeg 0) (Int32.toNatClampNeg 5) (Int32.toNatClampNeg 6))) (Int32.toNatClampNeg nx_p) (va_cpy wr_n ((va_up (va_up ke_p (Int32.toNatClampNeg nx_p) (va_cpy st_n (ke_p (Int32.toNatClampNeg nx_p)) (Int32.toNatClampNeg 0) (Int32.toNatClampNeg 0) (Int32.toNatClampNeg 5))) (Int32.toNatClampNeg nx_p) (va_cpy we_n ((va_up ke_p (Int32.toNatClampNeg nx_p) (va_cpy st_n (ke_p (Int32.toNatClampNeg nx_p)) (Int32.toNatClampNeg 0) (Int32.toNatClampNeg 0) (Int32.toNatClampNeg 5))) (Int32.toNatClampNeg nx_p)) (Int32.toNatClampNeg 0) (Int32.toNatClampNeg 5) (Int32.toNatClampNeg 6))) (Int32.toNatClampNeg nx_p)) (Int32.toNatClampNeg 0) (Int32.toNatClampNeg 11) (Int32.toNatClampNeg 6))) (Int32.toNatClampNeg nx_p) (upd ((va_up (va_up (va_up ke_p (Int32.toNatClampNeg nx_p) (va_cpy st_n (ke_p (Int32.toNatClampNeg nx_p)) (Int32.toNatClampNeg 0) (Int32.toNatClampNeg 0) (Int32.toNatClampNeg 5))) (Int32.toNatClampNeg nx_p) (va_cpy we_n ((va_up ke_p (Int32.toNatClampNeg nx_p) (va_cpy st_n (ke_p (Int32.toNatClampNeg nx_p)) (Int32.toNatClampNeg 0) (Int32.toNatClampNeg 0) (Int32.toNatClampNeg 5))) (Int32.toNatClampNeg nx_p)) (Int32.toNatClampNeg 0) (Int32.toNatClampNeg 5) (Int32.toNatClampNeg 6))) (Int32.toNatClampNeg nx_p) (va_cpy wr_n ((va_up (va_up ke_p (Int32.toNatClampNeg nx_p) (va_cpy st_n (ke_p (Int32.toNatClampNeg nx_p)) (Int32.toNatClampNeg 0) (Int32.toNatClampNeg 0) (Int32.toNatClampNeg 5))) (Int32.toNatClampNeg nx_p) (va_cpy we_n ((va_up ke_p (Int32.toNatClampNeg nx_p) (va_cpy st_n (ke_p (Int32.toNatClampNeg nx_p)) (Int32.toNatClampNeg 0) (Int32.toNatClampNeg 0) (Int32.toNatClampNeg 5))) (Int32.toNatClampNeg nx_p)) (Int32.toNatClampNeg 0) (Int32.toNatClampNeg 5) (Int32.toNatClampNeg 6))) (Int32.toNatClampNeg nx_p)) (Int32.toNatClampNeg 0) (Int32.toNatClampNeg 11) (Int32.toNatClampNeg 6))) (Int32.toNatClampNeg nx_p)) (Int32.toNatClampNeg 17) day_n)) (Int32.toNatClampNeg nx_p)) (Int32.toNatClampNeg 18) drw_n))))))))
theorem in_X2_keep_X1 : ∀ w ∈ wsX10, w ∈ wsX2_keep := by decide +kernel
theorem in_X2_keep_X2 : ∀ w ∈ wsX20, w ∈ wsX2_keep := by decide +kernel
set_option maxHeartbeats 4000000 in
set_option maxRecDepth 100000 in
theorem ct_X2_keep {l : Launch} {D : va_G} {g : Nat → ClassId} {qa : Nat → Nat} {E0 : Nat → va_E} {kn_p : Int32} {nx_p : Int32} {ke_p : Nat → Nat → Int32} {men_n : Int32} {md_n : Int32} {day_n : Int32} {drw_n : Int32} {bu_n : Nat → Int32} {st_n : Nat → Int32} {ki_n : Nat → Int32} {we_n : Nat → Int32} {wo_n : Nat → Int32} {wr_n : Nat → Int32} (hG_p : Pa g qa E0 8 kn_p nx_p ke_p) (hG_n : Mu g qa E0 1 men_n md_n day_n drw_n bu_n st_n ki_n we_n wo_n wr_n) {R : (Int32 × Int32 × (Nat → Nat → Int32))} (hf : fX2_keep kn_p nx_p ke_p day_n drw_n st_n we_n wr_n = some R) : MV l yX2_keep wsX2_keep 1 D g qa E0 [.ref (qa 8), .ref (qa 1)] (fun E => Pa g qa E 8 R.1 R.2.1 R.2.2 ∧ ∀ j, (j < 8 ∨ 18 ≤ j) → E j = E0 j) := by
  refine MV.mk (by decide) rfl (Nat.le_of_ble_eq_true rfl) ?_
  intro p e s m args below meth c ls Q X hret hP hS hl
  have hl : lv_has ls 3 [(0, .ref (qa 8)), (1, .ref (qa 1))] := hl
  have hfr : ∀ j, (j < 8 ∨ 18 ≤ j) → E0 j = E0 j := fun _ _ => rfl
  rw [fX2_keep] at hf
  refine lv_aload_n X.1 X.2.1 dX2_keep_0 rfl (lv_at hl 0 rfl) ?_
  refine x_get X hP hG_p.1 (by omega) rfl in_X2_keep_X2 0 (by decide) (by decide +kernel) rfl rfl dX2_keep_1 ?_
  refine lv_aload_n X.1 X.2.1 dX2_keep_4 rfl (lv_at hl 0 rfl) ?_
  refine x_get X hP hG_p.1 (by omega) rfl in_X2_keep_X2 2 (by decide) (by decide +kernel) rfl rfl dX2_keep_5 ?_
  obtain ⟨hi1, hf⟩ := gin_of hf
  have hj2 := in_lt hi1
  refine x_aald X hP 3 rfl rfl hG_p.2.1 (by omega) hi1 dX2_keep_8 ?_
  refine lv_astore_n (lv' := [(2, .ref (qa (8 + 2 + (Int32.toNatClampNeg nx_p)))), (0, .ref (qa 8)), (1, .ref (qa 1))]) X.1 X.2.1 dX2_keep_9 rfl hl (by decide) rfl (fun ls hl => ?_)
  refine lv_aload_n X.1 X.2.1 dX2_keep_10 rfl (lv_at hl 2 rfl) ?_
  refine x_get X hP hG_n.1 (by omega) rfl in_X2_keep_X1 2 (by decide) (by decide +kernel) rfl rfl dX2_keep_11 ?_
  refine lv_iconst (v := 0) X.1 X.2.1 dX2_keep_14 (by decide) ?_
  refine lv_aload_n X.1 X.2.1 dX2_keep_15 rfl (lv_at hl 0 rfl) ?_
  refine lv_iconst (v := 0) X.1 X.2.1 dX2_keep_16 (by decide) ?_
  refine lv_iconst (v := 5) X.1 X.2.1 dX2_keep_17 (by decide) ?_
  obtain ⟨hy3, hf⟩ := gcp_of hf
  refine x_copyi X hP hS hG_n.2.2.1 (by omega) (hG_p.2.2 _ hj2) (by omega) (index := 29) (by decide +kernel) (by decide +kernel) (by decide +kernel) (by decide +kernel) hl.1 hy3.1 hy3.2.1 hy3.2.2.1 hy3.2.2.2.1 hy3.2.2.2.2 (by decide) (Nat.le_of_ble_eq_true rfl) dX2_keep_18 (fun E H locs h1 hk hP hS => ?_)
  have hG_p := Pa_set_2 hG_p hj2 h1 hk
  have hG_n := Mu_kept hG_n (fun j h8 h9 => hk j (by omega))
  have hfr : ∀ j, (j < 8 ∨ 18 ≤ j) → E j = E0 j := fun j o0 => (hk j (by omega)).trans (hfr j o0)
  refine lv_aload_n X.1 X.2.1 dX2_keep_21 rfl (lv_at hl 2 rfl) ?_
  refine x_get X hP hG_n.1 (by omega) rfl in_X2_keep_X1 5 (by decide) (by decide +kernel) rfl rfl dX2_keep_22 ?_
  refine lv_iconst (v := 0) X.1 X.2.1 dX2_keep_25 (by decide) ?_
  refine lv_aload_n X.1 X.2.1 dX2_keep_26 rfl (lv_at hl 0 rfl) ?_
  refine lv_iconst (v := 5) X.1 X.2.1 dX2_keep_27 (by decide) ?_
  refine lv_bipush (v := 6) X.1 X.2.1 dX2_keep_28 (by decide) ?_
  obtain ⟨hy4, hf⟩ := gcp_of hf
  refine x_copyi X hP hS hG_n.2.2.2.2.1 (by omega) (hG_p.2.2 _ hj2) (by omega) (index := 29) (by decide +kernel) (by decide +kernel) (by decide +kernel) (by decide +kernel) hl.1 hy4.1 hy4.2.1 hy4.2.2.1 hy4.2.2.2.1 hy4.2.2.2.2 (by decide) (Nat.le_of_ble_eq_true rfl) dX2_keep_30 (fun E H locs h1 hk hP hS => ?_)
  have hG_p := Pa_set_2 hG_p hj2 h1 hk
  have hG_n := Mu_kept hG_n (fun j h8 h9 => hk j (by omega))
  have hfr : ∀ j, (j < 8 ∨ 18 ≤ j) → E j = E0 j := fun j o0 => (hk j (by omega)).trans (hfr j o0)
  refine lv_aload_n X.1 X.2.1 dX2_keep_33 rfl (lv_at hl 2 rfl) ?_
  refine x_get X hP hG_n.1 (by omega) rfl in_X2_keep_X1 7 (by decide) (by decide +kernel) rfl rfl dX2_keep_34 ?_
  refine lv_iconst (v := 0) X.1 X.2.1 dX2_keep_37 (by decide) ?_
  refine lv_aload_n X.1 X.2.1 dX2_keep_38 rfl (lv_at hl 0 rfl) ?_
  refine lv_bipush (v := 11) X.1 X.2.1 dX2_keep_39 (by decide) ?_
  refine lv_bipush (v := 6) X.1 X.2.1 dX2_keep_41 (by decide) ?_
  obtain ⟨hy5, hf⟩ := gcp_of hf
  refine x_copyi X hP hS hG_n.2.2.2.2.2.2 (by omega) (hG_p.2.2 _ hj2) (by omega) (index := 29) (by decide +kernel) (by decide +kernel) (by decide +kernel) (by decide +kernel) hl.1 hy5.1 hy5.2.1 hy5.2.2.1 hy5.2.2.2.1 hy5.2.2.2.2 (by decide) (Nat.le_of_ble_eq_true rfl) dX2_keep_43 (fun E H locs h1 hk hP hS => ?_)
  have hG_p := Pa_set_2 hG_p hj2 h1 hk
  have hG_n := Mu_kept hG_n (fun j h8 h9 => hk j (by omega))
  have hfr : ∀ j, (j < 8 ∨ 18 ≤ j) → E j = E0 j := fun j o0 => (hk j (by omega)).trans (hfr j o0)
  refine lv_aload_n X.1 X.2.1 dX2_keep_46 rfl (lv_at hl 0 rfl) ?_
  refine lv_bipush (v := 17) X.1 X.2.1 dX2_keep_47 (by decide) ?_
  refine lv_aload_n X.1 X.2.1 dX2_keep_49 rfl (lv_at hl 2 rfl) ?_
  refine x_get X hP hG_n.1 (by omega) rfl in_X2_keep_X1 8 (by decide) (by decide +kernel) rfl rfl dX2_keep_50 ?_
  obtain ⟨hi6, hf⟩ := gin_of hf
  refine x_iast X hP hS (hG_p.2.2 _ hj2) (by omega) hi6 dX2_keep_53 (fun E H locs h1 hk hP hS => ?_)
  have hG_p := Pa_set_2 hG_p hj2 h1 hk
  have hG_n := Mu_kept hG_n (fun j h8 h9 => hk j (by omega))
  have hfr : ∀ j, (j < 8 ∨ 18 ≤ j) → E j = E0 j := fun j o0 => (hk j (by omega)).trans (hfr j o0)
  refine lv_aload_n X.1 X.2.1 dX2_keep_54 rfl (lv_at hl 0 rfl) ?_
  refine lv_bipush (v := 18) X.1 X.2.1 dX2_keep_55 (by decide) ?_
  refine lv_aload_n X.1 X.2.1 dX2_keep_57 rfl (lv_at hl 2 rfl) ?_
  refine x_get X hP hG_n.1 (by omega) rfl in_X2_keep_X1 9 (by decide) (by decide +kernel) rfl rfl dX2_keep_58 ?_
  obtain ⟨hi7, hf⟩ := gin_of hf
  refine x_iast X hP hS (hG_p.2.2 _ hj2) (by omega) hi7 dX2_keep_61 (fun E H locs h1 hk hP hS => ?_)
  have hG_p := Pa_set_2 hG_p hj2 h1 hk
  have hG_n := Mu_kept hG_n (fun j h8 h9 => hk j (by omega))
  have hfr : ∀ j, (j < 8 ∨ 18 ≤ j) → E j = E0 j := fun j o0 => (hk j (by omega)).trans (hfr j o0)
  refine lv_aload_n X.1 X.2.1 dX2_keep_62 rfl (lv_at hl 1 rfl) ?_
  refine lv_aload_n X.1 X.2.1 dX2_keep_63 rfl (lv_at hl 1 rfl) ?_
  refine x_get X hP hG_p.1 (by omega) rfl in_X2_keep_X2 2 (by decide) (by decide +kernel) rfl rfl dX2_keep_64 ?_
  refine lv_iconst (v := 1) X.1 X.2.1 dX2_keep_67 (by decide) ?_
  refine lv_iadd X.1 X.2.1 dX2_keep_68 ?_
  refine lv_bipush (v := 8) X.1 X.2.1 dX2_keep_69 (by decide) ?_
  refine lv_irem X.1 X.2.1 dX2_keep_71 (by decide) ?_
  refine x_put (ty := .int) X hP hS hG_p.1 (by omega) rfl in_X2_keep_X2 tyX2 tyX2_ok nmX2 2 (by decide) (by decide +kernel) rfl rfl (by decide +kernel) rfl rfl (Nat.le_of_ble_eq_true rfl) dX2_keep_72 (fun E H locs h1 hk hP hS => ?_)
  have hG_p := Pa_set_0 hG_p h1 hk
  have hG_n := Mu_kept hG_n (fun j h8 h9 => hk j (by omega))
  have hfr : ∀ j, (j < 8 ∨ 18 ≤ j) → E j = E0 j := fun j o0 => (hk j (by omega)).trans (hfr j o0)
  refine lv_aload_n X.1 X.2.1 dX2_keep_75 rfl (lv_at hl 1 rfl) ?_
  refine lv_bipush (v := 8) X.1 X.2.1 dX2_keep_76 (by decide) ?_
  refine lv_aload_n X.1 X.2.1 dX2_keep_78 rfl (lv_at hl 1 rfl) ?_
  refine x_get X hP hG_p.1 (by omega) rfl in_X2_keep_X2 1 (by decide) (by decide +kernel) rfl rfl dX2_keep_79 ?_
  refine lv_iconst (v := 1) X.1 X.2.1 dX2_keep_82 (by decide) ?_
  refine lv_iadd X.1 X.2.1 dX2_keep_83 ?_
  refine x_min X (index := 47) (by decide +kernel) (by decide +kernel) (by decide +kernel) (by decide +kernel) hl.1 (by decide) (Nat.le_of_ble_eq_true rfl) dX2_keep_84 ?_
  refine x_put (ty := .int) X hP hS hG_p.1 (by omega) rfl in_X2_keep_X2 tyX2 tyX2_ok nmX2 1 (by decide) (by decide +kernel) rfl rfl (by decide +kernel) rfl rfl (Nat.le_of_ble_eq_true rfl) dX2_keep_87 (fun E H locs h1 hk hP hS => ?_)
  have hG_p := Pa_set_0 hG_p h1 hk
  have hG_n := Mu_kept hG_n (fun j h8 h9 => hk j (by omega))
  have hfr : ∀ j, (j < 8 ∨ 18 ≤ j) → E j = E0 j := fun j o0 => (hk j (by omega)).trans (hfr j o0)
  obtain rfl := Option.some.inj hf
  exact hret _ _ _ _ _ dX2_keep_90 (⟨hG_p, hfr⟩) hP hS
def bX3_begin_17 (p1 : Int32) (p2 : Int32) (K1 : ((Int32 × (Nat → Int64))) → Option (Int32 × Int32 × Int32 × (Nat → Int64))) : ((Int32 × (Nat → Int64))) → Option (Int32 × Int32 × Int32 × (Nat → Int64))
  | (v3_1, itm_r_1) => if 24 ≤ v3_1 then (some (1, p1, p2, itm_r_1)) else (gin v3_1 24 (nm (v3_1 + 1) (fun x4 => K1 (x4, vp_updL itm_r_1 (Int32.toNatClampNeg v3_1) 0))))
def fX3_begin (p1 : Int32) (p2 : Int32) (itm_r : Nat → Int64) : Option (Int32 × Int32 × Int32 × (Nat → Int64)) := lp (bX3_begin_17 p1 p2) FU (0, itm_r)
theorem in_X3_begin_X3 : ∀ w ∈ wsX30, w ∈ wsX3_begin := by decide +kernel
set_option maxHeartbeats 4000000 in
set_option maxRecDepth 100000 in
theorem ct_X3_begin {l : Launch} {D : va_G} {g : Nat → ClassId} {qa : Nat → Nat} {E0 : Nat → va_E} {j0 : Nat} {p1 : Int32} {p2 : Int32} {th_r : Int32} {lan_r : Int32} {siz_r : Int32} {itm_r : Nat → Int64} (hb_r : j0 < 4) (hG_r : Ro g qa E0 j0 th_r lan_r siz_r itm_r) {R : (Int32 × Int32 × Int32 × (Nat → Int64))} (hf : fX3_begin p1 p2 itm_r = some R) : MV l yX3_begin wsX3_begin 0 D g qa E0 [.ref (qa (56 + j0)), .int p1, .int p2] (fun E => Ro g qa E j0 R.1 R.2.1 R.2.2.1 R.2.2.2 ∧ ∀ j, (j ≠ 56 + j0 ∧ j ≠ 60 + j0) → E j = E0 j) := by
  refine MV.mk (by decide) rfl (Nat.le_of_ble_eq_true rfl) ?_
  intro p e s m args below meth c ls Q X hret hP hS hl
  have hl : lv_has ls 4 [(0, .ref (qa (56 + j0))), (1, .int p1), (2, .int p2)] := hl
  have hfr : ∀ j, (j ≠ 56 + j0 ∧ j ≠ 60 + j0) → E0 j = E0 j := fun _ _ => rfl
  rw [fX3_begin] at hf
  refine lv_aload_n X.1 X.2.1 dX3_begin_0 rfl (lv_at hl 0 rfl) ?_
  refine lv_iconst (v := 1) X.1 X.2.1 dX3_begin_1 (by decide) ?_
  refine x_put (ty := .boolean) X hP hS hG_r.1 (by omega) rfl in_X3_begin_X3 tyX3 tyX3_ok nmX3 0 (by decide) (by decide +kernel) rfl rfl (by decide +kernel) rfl rfl (Nat.le_of_ble_eq_true rfl) dX3_begin_2 (fun E H locs h1 hk hP hS => ?_)
  have hG_r := Ro_set_0 hG_r h1 hk
  have hfr : ∀ j, (j ≠ 56 + j0 ∧ j ≠ 60 + j0) → E j = E0 j := fun j o0 => (hk j (by omega)).trans (hfr j o0)
  refine lv_aload_n X.1 X.2.1 dX3_begin_5 rfl (lv_at hl 0 rfl) ?_
  refine lv_iload_n X.1 X.2.1 dX3_begin_6 rfl (lv_at hl 1 rfl) ?_
  refine x_put (ty := .int) X hP hS hG_r.1 (by omega) rfl in_X3_begin_X3 tyX3 tyX3_ok nmX3 1 (by decide) (by decide +kernel) rfl rfl (by decide +kernel) rfl rfl (Nat.le_of_ble_eq_true rfl) dX3_begin_7 (fun E H locs h1 hk hP hS => ?_)
  have hG_r := Ro_set_0 hG_r h1 hk
  have hfr : ∀ j, (j ≠ 56 + j0 ∧ j ≠ 60 + j0) → E j = E0 j := fun j o0 => (hk j (by omega)).trans (hfr j o0)
  refine lv_aload_n X.1 X.2.1 dX3_begin_10 rfl (lv_at hl 0 rfl) ?_
  refine lv_iload_n X.1 X.2.1 dX3_begin_11 rfl (lv_at hl 2 rfl) ?_
  refine x_put (ty := .int) X hP hS hG_r.1 (by omega) rfl in_X3_begin_X3 tyX3 tyX3_ok nmX3 2 (by decide) (by decide +kernel) rfl rfl (by decide +kernel) rfl rfl (Nat.le_of_ble_eq_true rfl) dX3_begin_12 (fun E H locs h1 hk hP hS => ?_)
  have hG_r := Ro_set_0 hG_r h1 hk
  have hfr : ∀ j, (j ≠ 56 + j0 ∧ j ≠ 60 + j0) → E j = E0 j := fun j o0 => (hk j (by omega)).trans (hfr j o0)
  refine lv_iconst (v := 0) X.1 X.2.1 dX3_begin_15 (by decide) ?_
  refine lv_istore_n (lv' := [(3, .int 0), (0, .ref (qa (56 + j0))), (1, .int p1), (2, .int p2)]) X.1 X.2.1 dX3_begin_16 rfl hl (by decide) rfl (fun ls hl => ?_)
  have lp1 : ∀ (n1 : Nat) (v3_1 : Int32) (itm_r_1 : Nat → Int64) (E : Nat → va_E) (H : Heap) (locs : List Loc) (ls : Array Slot), lp (bX3_begin_17 p1 p2) n1 (v3_1, itm_r_1) = some R → va_P D vwCl (WD qa E) H → va_S (gA qa s.heap.size) s.heap H locs → Ro g qa E j0 1 p1 p2 itm_r_1 → (∀ j, (j ≠ 56 + j0 ∧ j ≠ 60 + j0) → E j = E0 j) → lv_has ls 4 [(0, .ref (qa (56 + j0))), (1, .int p1), (2, .int p2), (3, .int v3_1)] → W p l e (rmf 0) s m args below meth c H locs 0 0 Q (F0 m 17 ls []) := by
    intro n1
    induction n1 with
    | zero =>
      intro v3_1 itm_r_1 E H locs ls hf
      exact absurd hf (by intro h; cases h)
    | succ n1 ih1 =>
      intro v3_1 itm_r_1 E H locs ls hf hP hS hG_r hfr hl
      have hf : bX3_begin_17 p1 p2 (lp (bX3_begin_17 p1 p2) n1) (v3_1, itm_r_1) = some R := hf
      rw [bX3_begin_17] at hf
      refine lv_iload_n X.1 X.2.1 dX3_begin_17 rfl (lv_at hl 3 rfl) ?_
      refine lv_bipush (v := 24) X.1 X.2.1 dX3_begin_18 (by decide) ?_
      refine lv_icmp_ge (tgt := 36) X.1 X.2.1 dX3_begin_20 (by decide) (fun c2 => ?_) (fun c2 => ?_)
      · have hf := ifp hf c2
        obtain rfl := Option.some.inj hf
        exact hret _ _ _ _ _ dX3_begin_36 (⟨hG_r, hfr⟩) hP hS
      · have hf := ifn hf c2
        refine lv_aload_n X.1 X.2.1 dX3_begin_23 rfl (lv_at hl 0 rfl) ?_
        refine x_get X hP hG_r.1 (by omega) rfl in_X3_begin_X3 3 (by decide) (by decide +kernel) rfl rfl dX3_begin_24 ?_
        refine lv_iload_n X.1 X.2.1 dX3_begin_27 rfl (lv_at hl 3 rfl) ?_
        refine lv_lconst (v := 0) X.1 X.2.1 dX3_begin_28 (by decide) ?_
        obtain ⟨hi3, hf⟩ := gin_of hf
        refine x_last X hP hS hG_r.2 (by omega) hi3 dX3_begin_29 (fun E H locs h1 hk hP hS => ?_)
        have hG_r := Ro_set_1 hG_r h1 hk
        have hfr : ∀ j, (j ≠ 56 + j0 ∧ j ≠ 60 + j0) → E j = E0 j := fun j o0 => (hk j (by omega)).trans (hfr j o0)
        obtain ⟨x4, ex4, hf⟩ := nm_of hf
        refine lv_iinc (v := x4) (lv' := [(3, .int x4), (0, .ref (qa (56 + j0))), (1, .int p1), (2, .int p2)]) X.1 X.2.1 dX3_begin_30 hl (k := 3) rfl (by rw [ex4]; rfl) (by decide) rfl (fun ls hl => ?_)
        refine lv_goto (tgt := 17) X.1 X.2.1 dX3_begin_33 (by decide) ?_
        exact ih1 x4 (vp_updL itm_r_1 (Int32.toNatClampNeg v3_1) 0) _ _ _ _ hf hP hS hG_r hfr (lv_sub hl [1, 2, 3, 0] rfl)
  exact lp1 FU 0 itm_r _ _ _ _ hf hP hS hG_r hfr (lv_sub hl [1, 2, 3, 0] rfl)
def fX3_put (p1 : Int32) (p2 : Int64) (lan_r : Int32) (itm_r : Nat → Int64) : Option ((Nat → Int64)) := if lan_r = 0 then (gin p1 24 (some (vp_updL itm_r (Int32.toNatClampNeg p1) (Int32.toInt64 ((Int32.toInt8 (Int64.toInt32 p2)).toInt32))))) else (if lan_r = 1 then (gin p1 24 (some (vp_updL itm_r (Int32.toNatClampNeg p1) (Int32.toInt64 ((Int32.toInt16 (Int64.toInt32 p2)).toInt32))))) else (if lan_r = 2 then (gin p1 24 (some (vp_updL itm_r (Int32.toNatClampNeg p1) (Int32.toInt64 (Int64.toInt32 p2))))) else (gin p1 24 (some (vp_updL itm_r (Int32.toNatClampNeg p1) p2)))))
theorem in_X3_put_X3 : ∀ w ∈ wsX30, w ∈ wsX3_put := by decide +kernel
set_option maxHeartbeats 4000000 in
set_option maxRecDepth 100000 in
theorem ct_X3_put {l : Launch} {D : va_G} {g : Nat → ClassId} {qa : Nat → Nat} {E0 : Nat → va_E} {j0 : Nat} {p1 : Int32} {p2 : Int64} {th_r : Int32} {lan_r : Int32} {siz_r : Int32} {itm_r : Nat → Int64} (hb_r : j0 < 4) (hG_r : Ro g qa E0 j0 th_r lan_r siz_r itm_r) {R : ((Nat → Int64))} (hf : fX3_put p1 p2 lan_r itm_r = some R) : MV l yX3_put wsX3_put 0 D g qa E0 [.ref (qa (56 + j0)), .int p1, .long p2] (fun E => Ro g qa E j0 th_r lan_r siz_r R ∧ ∀ j, (j ≠ 56 + j0 ∧ j ≠ 60 + j0) → E j = E0 j) := by
  refine MV.mk (by decide) rfl (Nat.le_of_ble_eq_true rfl) ?_
  intro p e s m args below meth c ls Q X hret hP hS hl
  have hl : lv_has ls 4 [(0, .ref (qa (56 + j0))), (1, .int p1), (2, .long p2)] := hl
  have hfr : ∀ j, (j ≠ 56 + j0 ∧ j ≠ 60 + j0) → E0 j = E0 j := fun _ _ => rfl
  rw [fX3_put] at hf
  refine lv_aload_n X.1 X.2.1 dX3_put_0 rfl (lv_at hl 0 rfl) ?_
  refine x_get X hP hG_r.1 (by omega) rfl in_X3_put_X3 1 (by decide) (by decide +kernel) rfl rfl dX3_put_1 ?_
  by_cases w1 : lan_r = 0
  · have hf := ifp hf w1
    refine lv_tableIn (tgt := 32) X.1 X.2.1 dX3_put_4 (by rw [w1]; decide) (by rw [w1]; decide) (off := 28) (by rw [w1]; decide) (by decide) ?_
    refine lv_aload_n X.1 X.2.1 dX3_put_32 rfl (lv_at hl 0 rfl) ?_
    refine x_get X hP hG_r.1 (by omega) rfl in_X3_put_X3 3 (by decide) (by decide +kernel) rfl rfl dX3_put_33 ?_
    refine lv_iload_n X.1 X.2.1 dX3_put_36 rfl (lv_at hl 1 rfl) ?_
    refine lv_lload_n X.1 X.2.1 dX3_put_37 rfl (lv_at hl 2 rfl) ?_
    refine lv_l2i X.1 X.2.1 dX3_put_38 rfl ?_
    refine lv_i2b X.1 X.2.1 dX3_put_39 rfl ?_
    refine lv_i2l X.1 X.2.1 dX3_put_40 rfl ?_
    obtain ⟨hi2, hf⟩ := gin_of hf
    refine x_last X hP hS hG_r.2 (by omega) hi2 dX3_put_41 (fun E H locs h1 hk hP hS => ?_)
    have hG_r := Ro_set_1 hG_r h1 hk
    have hfr : ∀ j, (j ≠ 56 + j0 ∧ j ≠ 60 + j0) → E j = E0 j := fun j o0 => (hk j (by omega)).trans (hfr j o0)
    refine lv_goto (tgt := 77) X.1 X.2.1 dX3_put_42 (by decide) ?_
    obtain rfl := Option.some.inj hf
    exact hret _ _ _ _ _ dX3_put_77 (⟨hG_r, hfr⟩) hP hS
  have hf := ifn hf w1
  by_cases w3 : lan_r = 1
  · have hf := ifp hf w3
    refine lv_tableIn (tgt := 45) X.1 X.2.1 dX3_put_4 (by rw [w3]; decide) (by rw [w3]; decide) (off := 41) (by rw [w3]; decide) (by decide) ?_
    refine lv_aload_n X.1 X.2.1 dX3_put_45 rfl (lv_at hl 0 rfl) ?_
    refine x_get X hP hG_r.1 (by omega) rfl in_X3_put_X3 3 (by decide) (by decide +kernel) rfl rfl dX3_put_46 ?_
    refine lv_iload_n X.1 X.2.1 dX3_put_49 rfl (lv_at hl 1 rfl) ?_
    refine lv_lload_n X.1 X.2.1 dX3_put_50 rfl (lv_at hl 2 rfl) ?_
    refine lv_l2i X.1 X.2.1 dX3_put_51 rfl ?_
    refine lv_i2s X.1 X.2.1 dX3_put_52 rfl ?_
    refine lv_i2l X.1 X.2.1 dX3_put_53 rfl ?_
    obtain ⟨hi4, hf⟩ := gin_of hf
    refine x_last X hP hS hG_r.2 (by omega) hi4 dX3_put_54 (fun E H locs h1 hk hP hS => ?_)
    have hG_r := Ro_set_1 hG_r h1 hk
    have hfr : ∀ j, (j ≠ 56 + j0 ∧ j ≠ 60 + j0) → E j = E0 j := fun j o0 => (hk j (by omega)).trans (hfr j o0)
    refine lv_goto (tgt := 77) X.1 X.2.1 dX3_put_55 (by decide) ?_
    obtain rfl := Option.some.inj hf
    exact hret _ _ _ _ _ dX3_put_77 (⟨hG_r, hfr⟩) hP hS
  have hf := ifn hf w3
  by_cases w5 : lan_r = 2
  · have hf := ifp hf w5
    refine lv_tableIn (tgt := 58) X.1 X.2.1 dX3_put_4 (by rw [w5]; decide) (by rw [w5]; decide) (off := 54) (by rw [w5]; decide) (by decide) ?_
    refine lv_aload_n X.1 X.2.1 dX3_put_58 rfl (lv_at hl 0 rfl) ?_
    refine x_get X hP hG_r.1 (by omega) rfl in_X3_put_X3 3 (by decide) (by decide +kernel) rfl rfl dX3_put_59 ?_
    refine lv_iload_n X.1 X.2.1 dX3_put_62 rfl (lv_at hl 1 rfl) ?_
    refine lv_lload_n X.1 X.2.1 dX3_put_63 rfl (lv_at hl 2 rfl) ?_
    refine lv_l2i X.1 X.2.1 dX3_put_64 rfl ?_
    refine lv_i2l X.1 X.2.1 dX3_put_65 rfl ?_
    obtain ⟨hi6, hf⟩ := gin_of hf
    refine x_last X hP hS hG_r.2 (by omega) hi6 dX3_put_66 (fun E H locs h1 hk hP hS => ?_)
    have hG_r := Ro_set_1 hG_r h1 hk
    have hfr : ∀ j, (j ≠ 56 + j0 ∧ j ≠ 60 + j0) → E j = E0 j := fun j o0 => (hk j (by omega)).trans (hfr j o0)
    refine lv_goto (tgt := 77) X.1 X.2.1 dX3_put_67 (by decide) ?_
    obtain rfl := Option.some.inj hf
    exact hret _ _ _ _ _ dX3_put_77 (⟨hG_r, hfr⟩) hP hS
  have hf := ifn hf w5
  refine lv_tableOut (tgt := 70) X.1 X.2.1 dX3_put_4 (by have := i_ne 0 (0) (by decide) w1; have := i_ne 1 (1) (by decide) w3; have := i_ne 2 (2) (by decide) w5; omega) (by decide) ?_
  refine lv_aload_n X.1 X.2.1 dX3_put_70 rfl (lv_at hl 0 rfl) ?_
  refine x_get X hP hG_r.1 (by omega) rfl in_X3_put_X3 3 (by decide) (by decide +kernel) rfl rfl dX3_put_71 ?_
  refine lv_iload_n X.1 X.2.1 dX3_put_74 rfl (lv_at hl 1 rfl) ?_
  refine lv_lload_n X.1 X.2.1 dX3_put_75 rfl (lv_at hl 2 rfl) ?_
  obtain ⟨hi7, hf⟩ := gin_of hf
  refine x_last X hP hS hG_r.2 (by omega) hi7 dX3_put_76 (fun E H locs h1 hk hP hS => ?_)
  have hG_r := Ro_set_1 hG_r h1 hk
  have hfr : ∀ j, (j ≠ 56 + j0 ∧ j ≠ 60 + j0) → E j = E0 j := fun j o0 => (hk j (by omega)).trans (hfr j o0)
  obtain rfl := Option.some.inj hf
  exact hret _ _ _ _ _ dX3_put_77 (⟨hG_r, hfr⟩) hP hS
def fX3_reaches (p1 : Int32) (p2 : Int32) (siz_r : Int32) : Option Int32 := if p1 < 0 then (some 0) else (if p2 < 0 then (some 0) else (if (siz_r - p1) < p2 then (some 0) else (some 1)))
theorem in_X3_reaches_X3 : ∀ w ∈ wsX30, w ∈ wsX3_reaches := by decide +kernel
set_option maxHeartbeats 4000000 in
set_option maxRecDepth 100000 in
theorem ct_X3_reaches {l : Launch} {D : va_G} {g : Nat → ClassId} {qa : Nat → Nat} {E0 : Nat → va_E} {j0 : Nat} {p1 : Int32} {p2 : Int32} {th_r : Int32} {lan_r : Int32} {siz_r : Int32} {itm_r : Nat → Int64} (hb_r : j0 < 4) (hG_r : Ro g qa E0 j0 th_r lan_r siz_r itm_r) {R : Int32} (hf : fX3_reaches p1 p2 siz_r = some R) : MI l yX3_reaches wsX3_reaches 0 D g qa E0 [.ref (qa (56 + j0)), .int p1, .int p2] R (fun E => E = E0) := by
  refine MI.mk (by decide) rfl (Nat.le_of_ble_eq_true rfl) ?_
  intro p e s m args below meth c ls Q X hret hP hS hl
  have hl : lv_has ls 3 [(0, .ref (qa (56 + j0))), (1, .int p1), (2, .int p2)] := hl
  rw [fX3_reaches] at hf
  refine lv_iload_n X.1 X.2.1 dX3_reaches_0 rfl (lv_at hl 1 rfl) ?_
  refine lv_if_lt (tgt := 22) X.1 X.2.1 dX3_reaches_1 (by decide) (fun c1 => ?_) (fun c1 => ?_)
  · have hf := ifp hf c1
    refine lv_iconst (v := 0) X.1 X.2.1 dX3_reaches_22 (by decide) ?_
    obtain rfl := Option.some.inj hf
    exact hret _ _ _ _ _ _ dX3_reaches_23 rfl rfl (rfl) hP hS
  · have hf := ifn hf c1
    refine lv_iload_n X.1 X.2.1 dX3_reaches_4 rfl (lv_at hl 2 rfl) ?_
    refine lv_if_lt (tgt := 22) X.1 X.2.1 dX3_reaches_5 (by decide) (fun c2 => ?_) (fun c2 => ?_)
    · have hf := ifp hf c2
      refine lv_iconst (v := 0) X.1 X.2.1 dX3_reaches_22 (by decide) ?_
      obtain rfl := Option.some.inj hf
      exact hret _ _ _ _ _ _ dX3_reaches_23 rfl rfl (rfl) hP hS
    · have hf := ifn hf c2
      refine lv_iload_n X.1 X.2.1 dX3_reaches_8 rfl (lv_at hl 2 rfl) ?_
      refine lv_aload_n X.1 X.2.1 dX3_reaches_9 rfl (lv_at hl 0 rfl) ?_
      refine x_get X hP hG_r.1 (by omega) rfl in_X3_reaches_X3 2 (by decide) (by decide +kernel) rfl rfl dX3_reaches_10 ?_
      refine lv_iload_n X.1 X.2.1 dX3_reaches_13 rfl (lv_at hl 1 rfl) ?_
      refine lv_isub X.1 X.2.1 dX3_reaches_14 ?_
      refine lv_icmp_gt (tgt := 22) X.1 X.2.1 dX3_reaches_15 (by decide) (fun c3 => ?_) (fun c3 => ?_)
      · have hf := ifp hf c3
        refine lv_iconst (v := 0) X.1 X.2.1 dX3_reaches_22 (by decide) ?_
        obtain rfl := Option.some.inj hf
        exact hret _ _ _ _ _ _ dX3_reaches_23 rfl rfl (rfl) hP hS
      · have hf := ifn hf c3
        refine lv_iconst (v := 1) X.1 X.2.1 dX3_reaches_18 (by decide) ?_
        refine lv_goto (tgt := 23) X.1 X.2.1 dX3_reaches_19 (by decide) ?_
        obtain rfl := Option.some.inj hf
        exact hret _ _ _ _ _ _ dX3_reaches_23 rfl rfl (rfl) hP hS
def fX3_refuses (p1 : Int32) (p2 : Int32) (p3 : Int32) (th_r : Int32) (lan_r : Int32) (siz_r : Int32) : Option Int32 := if th_r = 0 then (some (-11)) else (if lan_r = p1 then ((fX3_reaches p2 p3 siz_r).bind (fun r3 => if r3 = 0 then (some (-13)) else (some 0))) else (some (-12)))
theorem in_X3_refuses_X3 : ∀ w ∈ wsX30, w ∈ wsX3_refuses := by decide +kernel
set_option maxHeartbeats 4000000 in
set_option maxRecDepth 100000 in
theorem ct_X3_refuses {l : Launch} {D : va_G} {g : Nat → ClassId} {qa : Nat → Nat} {E0 : Nat → va_E} {j0 : Nat} {p1 : Int32} {p2 : Int32} {p3 : Int32} {th_r : Int32} {lan_r : Int32} {siz_r : Int32} {itm_r : Nat → Int64} (hb_r : j0 < 4) (hG_r : Ro g qa E0 j0 th_r lan_r siz_r itm_r) {R : Int32} (hf : fX3_refuses p1 p2 p3 th_r lan_r siz_r = some R) : MI l yX3_refuses wsX3_refuses 1 D g qa E0 [.ref (qa (56 + j0)), .int p1, .int p2, .int p3] R (fun E => E = E0) := by
  refine MI.mk (by decide) rfl (Nat.le_of_ble_eq_true rfl) ?_
  intro p e s m args below meth c ls Q X hret hP hS hl
  have hl : lv_has ls 4 [(0, .ref (qa (56 + j0))), (1, .int p1), (2, .int p2), (3, .int p3)] := hl
  rw [fX3_refuses] at hf
  refine lv_aload_n X.1 X.2.1 dX3_refuses_0 rfl (lv_at hl 0 rfl) ?_
  refine x_get X hP hG_r.1 (by omega) rfl in_X3_refuses_X3 0 (by decide) (by decide +kernel) rfl rfl dX3_refuses_1 ?_
  refine lv_if_ne (tgt := 10) X.1 X.2.1 dX3_refuses_4 (by decide) (fun c1 => ?_) (fun c1 => ?_)
  · have hf := ifn hf c1
    refine lv_aload_n X.1 X.2.1 dX3_refuses_10 rfl (lv_at hl 0 rfl) ?_
    refine x_get X hP hG_r.1 (by omega) rfl in_X3_refuses_X3 1 (by decide) (by decide +kernel) rfl rfl dX3_refuses_11 ?_
    refine lv_iload_n X.1 X.2.1 dX3_refuses_14 rfl (lv_at hl 1 rfl) ?_
    refine lv_icmp_eq (tgt := 21) X.1 X.2.1 dX3_refuses_15 (by decide) (fun c2 => ?_) (fun c2 => ?_)
    · have hf := ifp hf c2
      refine lv_aload_n X.1 X.2.1 dX3_refuses_21 rfl (lv_at hl 0 rfl) ?_
      refine lv_iload_n X.1 X.2.1 dX3_refuses_22 rfl (lv_at hl 2 rfl) ?_
      refine lv_iload_n X.1 X.2.1 dX3_refuses_23 rfl (lv_at hl 3 rfl) ?_
      obtain ⟨r3, hr3, hf⟩ := bd_of hf
      refine x_rdVi X hP hS hG_r.1 (by omega) rfl (n := 2) (As := [.int p2, .int p3]) (ct_X3_reaches (by omega) hG_r hr3) gX3_refuses_X3_reaches rfl (by decide +kernel) ⟨by decide, by decide⟩ rfl hl.1 rfl (Nat.le_of_ble_eq_true rfl) dX3_refuses_24 (fun H locs hP hS => ?_)
      refine lv_if_eq (tgt := 34) X.1 X.2.1 dX3_refuses_27 (by decide) (fun c4 => ?_) (fun c4 => ?_)
      · have hf := ifp hf c4
        refine lv_bipush (v := (-13)) X.1 X.2.1 dX3_refuses_34 (by decide) ?_
        obtain rfl := Option.some.inj hf
        exact hret _ _ _ _ _ _ dX3_refuses_36 rfl rfl (rfl) hP hS
      · have hf := ifn hf c4
        refine lv_iconst (v := 0) X.1 X.2.1 dX3_refuses_30 (by decide) ?_
        refine lv_goto (tgt := 36) X.1 X.2.1 dX3_refuses_31 (by decide) ?_
        obtain rfl := Option.some.inj hf
        exact hret _ _ _ _ _ _ dX3_refuses_36 rfl rfl (rfl) hP hS
    · have hf := ifn hf c2
      refine lv_bipush (v := (-12)) X.1 X.2.1 dX3_refuses_18 (by decide) ?_
      obtain rfl := Option.some.inj hf
      exact hret _ _ _ _ _ _ dX3_refuses_20 rfl rfl (rfl) hP hS
  · have hf := ifp hf c1
    refine lv_bipush (v := (-11)) X.1 X.2.1 dX3_refuses_7 (by decide) ?_
    obtain rfl := Option.some.inj hf
    exact hret _ _ _ _ _ _ dX3_refuses_9 rfl rfl (rfl) hP hS
def fX4_add (p1 : Int32) (ln_T : Int32) (ltr_T : Nat → Int32) : Option (Int32 × Int32 × (Nat → Int32)) := if ln_T < 90 then (gin ln_T 90 (some (1, ln_T + 1, upd ltr_T (Int32.toNatClampNeg ln_T) (vp_nar .char p1)))) else (some (0, ln_T, ltr_T))
theorem in_X4_add_X4 : ∀ w ∈ wsX40, w ∈ wsX4_add := by decide +kernel
set_option maxHeartbeats 4000000 in
set_option maxRecDepth 100000 in
theorem ct_X4_add {l : Launch} {D : va_G} {g : Nat → ClassId} {qa : Nat → Nat} {E0 : Nat → va_E} {p1 : Int32} {ln_T : Int32} {plc_T : Int32} {ltr_T : Nat → Int32} (hG_T : Ta g qa E0 42 ln_T plc_T ltr_T) {R : (Int32 × Int32 × (Nat → Int32))} (hf : fX4_add p1 ln_T ltr_T = some R) : MI l yX4_add wsX4_add 0 D g qa E0 [.ref (qa 42), .int p1] R.1 (fun E => Ta g qa E 42 R.2.1 plc_T R.2.2 ∧ ∀ j, (j < 42 ∨ 44 ≤ j) → E j = E0 j) := by
  refine MI.mk (by decide) rfl (Nat.le_of_ble_eq_true rfl) ?_
  intro p e s m args below meth c ls Q X hret hP hS hl
  have hl : lv_has ls 2 [(0, .ref (qa 42)), (1, .int p1)] := hl
  have hfr : ∀ j, (j < 42 ∨ 44 ≤ j) → E0 j = E0 j := fun _ _ => rfl
  rw [fX4_add] at hf
  refine lv_aload_n X.1 X.2.1 dX4_add_0 rfl (lv_at hl 0 rfl) ?_
  refine x_get X hP hG_T.1 (by omega) rfl in_X4_add_X4 1 (by decide) (by decide +kernel) rfl rfl dX4_add_1 ?_
  refine lv_bipush (v := 90) X.1 X.2.1 dX4_add_4 (by decide) ?_
  refine lv_icmp_lt (tgt := 11) X.1 X.2.1 dX4_add_6 (by decide) (fun c1 => ?_) (fun c1 => ?_)
  · have hf := ifp hf c1
    refine lv_aload_n X.1 X.2.1 dX4_add_11 rfl (lv_at hl 0 rfl) ?_
    refine x_get X hP hG_T.1 (by omega) rfl in_X4_add_X4 0 (by decide) (by decide +kernel) rfl rfl dX4_add_12 ?_
    refine lv_aload_n X.1 X.2.1 dX4_add_15 rfl (lv_at hl 0 rfl) ?_
    refine x_get X hP hG_T.1 (by omega) rfl in_X4_add_X4 1 (by decide) (by decide +kernel) rfl rfl dX4_add_16 ?_
    refine lv_iload_n X.1 X.2.1 dX4_add_19 rfl (lv_at hl 1 rfl) ?_
    obtain ⟨hi2, hf⟩ := gin_of hf
    refine x_cast X hP hS hG_T.2 (by omega) hi2 dX4_add_20 (fun E H locs h1 hk hP hS => ?_)
    have hG_T := Ta_set_1 hG_T h1 hk
    have hfr : ∀ j, (j < 42 ∨ 44 ≤ j) → E j = E0 j := fun j o0 => (hk j (by omega)).trans (hfr j o0)
    refine lv_aload_n X.1 X.2.1 dX4_add_21 rfl (lv_at hl 0 rfl) ?_
    refine lv_dup X.1 X.2.1 dX4_add_22 rfl ?_
    refine x_get X hP hG_T.1 (by omega) rfl in_X4_add_X4 1 (by decide) (by decide +kernel) rfl rfl dX4_add_23 ?_
    refine lv_iconst (v := 1) X.1 X.2.1 dX4_add_26 (by decide) ?_
    refine lv_iadd X.1 X.2.1 dX4_add_27 ?_
    refine x_put (ty := .int) X hP hS hG_T.1 (by omega) rfl in_X4_add_X4 tyX4 tyX4_ok nmX4 1 (by decide) (by decide +kernel) rfl rfl (by decide +kernel) rfl rfl (Nat.le_of_ble_eq_true rfl) dX4_add_28 (fun E H locs h1 hk hP hS => ?_)
    have hG_T := Ta_set_0 hG_T h1 hk
    have hfr : ∀ j, (j < 42 ∨ 44 ≤ j) → E j = E0 j := fun j o0 => (hk j (by omega)).trans (hfr j o0)
    refine lv_iconst (v := 1) X.1 X.2.1 dX4_add_31 (by decide) ?_
    obtain rfl := Option.some.inj hf
    exact hret _ _ _ _ _ _ dX4_add_32 rfl rfl (⟨hG_T, hfr⟩) hP hS
  · have hf := ifn hf c1
    refine lv_iconst (v := 0) X.1 X.2.1 dX4_add_9 (by decide) ?_
    obtain rfl := Option.some.inj hf
    exact hret _ _ _ _ _ _ dX4_add_10 rfl rfl (⟨hG_T, hfr⟩) hP hS
def fX4_isDigit (p1 : Int32)  : Option Int32 := if p1 < 48 then (some 0) else (if 57 < p1 then (some 0) else (some 1))
set_option maxHeartbeats 4000000 in
set_option maxRecDepth 100000 in
theorem ct_X4_isDigit {l : Launch} {D : va_G} {g : Nat → ClassId} {qa : Nat → Nat} {E0 : Nat → va_E} {p1 : Int32} {R : Int32} (hf : fX4_isDigit p1 = some R) : MI l yX4_isDigit wsX4_isDigit 0 D g qa E0 [.int p1] R (fun E => E = E0) := by
  refine MI.mk (by decide) rfl (Nat.le_of_ble_eq_true rfl) ?_
  intro p e s m args below meth c ls Q X hret hP hS hl
  have hl : lv_has ls 1 [(0, .int p1)] := hl
  rw [fX4_isDigit] at hf
  refine lv_iload_n X.1 X.2.1 dX4_isDigit_0 rfl (lv_at hl 0 rfl) ?_
  refine lv_bipush (v := 48) X.1 X.2.1 dX4_isDigit_1 (by decide) ?_
  refine lv_icmp_lt (tgt := 16) X.1 X.2.1 dX4_isDigit_3 (by decide) (fun c1 => ?_) (fun c1 => ?_)
  · have hf := ifp hf c1
    refine lv_iconst (v := 0) X.1 X.2.1 dX4_isDigit_16 (by decide) ?_
    obtain rfl := Option.some.inj hf
    exact hret _ _ _ _ _ _ dX4_isDigit_17 rfl rfl (rfl) hP hS
  · have hf := ifn hf c1
    refine lv_iload_n X.1 X.2.1 dX4_isDigit_6 rfl (lv_at hl 0 rfl) ?_
    refine lv_bipush (v := 57) X.1 X.2.1 dX4_isDigit_7 (by decide) ?_
    refine lv_icmp_gt (tgt := 16) X.1 X.2.1 dX4_isDigit_9 (by decide) (fun c2 => ?_) (fun c2 => ?_)
    · have hf := ifp hf c2
      refine lv_iconst (v := 0) X.1 X.2.1 dX4_isDigit_16 (by decide) ?_
      obtain rfl := Option.some.inj hf
      exact hret _ _ _ _ _ _ dX4_isDigit_17 rfl rfl (rfl) hP hS
    · have hf := ifn hf c2
      refine lv_iconst (v := 1) X.1 X.2.1 dX4_isDigit_12 (by decide) ?_
      refine lv_goto (tgt := 17) X.1 X.2.1 dX4_isDigit_13 (by decide) ?_
      obtain rfl := Option.some.inj hf
      exact hret _ _ _ _ _ _ dX4_isDigit_17 rfl rfl (rfl) hP hS
def fX4_kindOf (p1 : Int32)  : Option Int32 := if p1 = 98 then (some 0) else (if p1 = 102 then (some 2) else (if p1 = 109 then (some 4) else (if p1 = 112 then (some 3) else (if p1 = 114 then (some 1) else (some (-1))))))
set_option maxHeartbeats 4000000 in
set_option maxRecDepth 100000 in
theorem ct_X4_kindOf {l : Launch} {D : va_G} {g : Nat → ClassId} {qa : Nat → Nat} {E0 : Nat → va_E} {p1 : Int32} {R : Int32} (hf : fX4_kindOf p1 = some R) : MI l yX4_kindOf wsX4_kindOf 0 D g qa E0 [.int p1] R (fun E => E = E0) := by
  refine MI.mk (by decide) rfl (Nat.le_of_ble_eq_true rfl) ?_
  intro p e s m args below meth c ls Q X hret hP hS hl
  have hl : lv_has ls 1 [(0, .int p1)] := hl
  rw [fX4_kindOf] at hf
  refine lv_iload_n X.1 X.2.1 dX4_kindOf_0 rfl (lv_at hl 0 rfl) ?_
  by_cases w1 : p1 = 98
  · have hf := ifp hf w1
    refine lv_lookup (tgt := 52) X.1 X.2.1 dX4_kindOf_1 (by decide) (off := 51) (by rw [w1]; decide) (by decide) ?_
    refine lv_iconst (v := 0) X.1 X.2.1 dX4_kindOf_52 (by decide) ?_
    obtain rfl := Option.some.inj hf
    exact hret _ _ _ _ _ _ dX4_kindOf_53 rfl rfl (rfl) hP hS
  have hf := ifn hf w1
  by_cases w2 : p1 = 102
  · have hf := ifp hf w2
    refine lv_lookup (tgt := 56) X.1 X.2.1 dX4_kindOf_1 (by decide) (off := 55) (by rw [w2]; decide) (by decide) ?_
    refine lv_iconst (v := 2) X.1 X.2.1 dX4_kindOf_56 (by decide) ?_
    obtain rfl := Option.some.inj hf
    exact hret _ _ _ _ _ _ dX4_kindOf_57 rfl rfl (rfl) hP hS
  have hf := ifn hf w2
  by_cases w3 : p1 = 109
  · have hf := ifp hf w3
    refine lv_lookup (tgt := 60) X.1 X.2.1 dX4_kindOf_1 (by decide) (off := 59) (by rw [w3]; decide) (by decide) ?_
    refine lv_iconst (v := 4) X.1 X.2.1 dX4_kindOf_60 (by decide) ?_
    obtain rfl := Option.some.inj hf
    exact hret _ _ _ _ _ _ dX4_kindOf_61 rfl rfl (rfl) hP hS
  have hf := ifn hf w3
  by_cases w4 : p1 = 112
  · have hf := ifp hf w4
    refine lv_lookup (tgt := 58) X.1 X.2.1 dX4_kindOf_1 (by decide) (off := 57) (by rw [w4]; decide) (by decide) ?_
    refine lv_iconst (v := 3) X.1 X.2.1 dX4_kindOf_58 (by decide) ?_
    obtain rfl := Option.some.inj hf
    exact hret _ _ _ _ _ _ dX4_kindOf_59 rfl rfl (rfl) hP hS
  have hf := ifn hf w4
  by_cases w5 : p1 = 114
  · have hf := ifp hf w5
    refine lv_lookup (tgt := 54) X.1 X.2.1 dX4_kindOf_1 (by decide) (off := 53) (by rw [w5]; decide) (by decide) ?_
    refine lv_iconst (v := 1) X.1 X.2.1 dX4_kindOf_54 (by decide) ?_
    obtain rfl := Option.some.inj hf
    exact hret _ _ _ _ _ _ dX4_kindOf_55 rfl rfl (rfl) hP hS
  have hf := ifn hf w5
  refine lv_lookup (tgt := 62) X.1 X.2.1 dX4_kindOf_1 (by decide) (off := 61) (by have := i_ne 98 (98) (by decide) w1; have := i_ne 102 (102) (by decide) w2; have := i_ne 109 (109) (by decide) w3; have := i_ne 112 (112) (by decide) w4; have := i_ne 114 (114) (by decide) w5; show Op.lookupswitch.offset [(98, 51), (102, 55), (109, 59), (112, 57), (114, 53)] 61 _ = 61; rw [Op.lookupswitch.offset_cons, if_neg (by omega), Op.lookupswitch.offset_cons, if_neg (by omega), Op.lookupswitch.offset_cons, if_neg (by omega), Op.lookupswitch.offset_cons, if_neg (by omega), Op.lookupswitch.offset_cons, if_neg (by omega), Op.lookupswitch.offset_nil]) (by decide) ?_
  refine lv_iconst (v := (-1)) X.1 X.2.1 dX4_kindOf_62 (by decide) ?_
  obtain rfl := Option.some.inj hf
  exact hret _ _ _ _ _ _ dX4_kindOf_63 rfl rfl (rfl) hP hS
def fX4_letterHere  (ln_T : Int32) (plc_T : Int32) (ltr_T : Nat → Int32) : Option Int32 := if ln_T ≤ plc_T then (some 0) else (gin plc_T 90 (gch (ltr_T (Int32.toNatClampNeg plc_T)) (some (ltr_T (Int32.toNatClampNeg plc_T)))))
theorem in_X4_letterHere_X4 : ∀ w ∈ wsX40, w ∈ wsX4_letterHere := by decide +kernel
set_option maxHeartbeats 4000000 in
set_option maxRecDepth 100000 in
theorem ct_X4_letterHere {l : Launch} {D : va_G} {g : Nat → ClassId} {qa : Nat → Nat} {E0 : Nat → va_E} {ln_T : Int32} {plc_T : Int32} {ltr_T : Nat → Int32} (hG_T : Ta g qa E0 42 ln_T plc_T ltr_T) {R : Int32} (hf : fX4_letterHere ln_T plc_T ltr_T = some R) : MI l yX4_letterHere wsX4_letterHere 0 D g qa E0 [.ref (qa 42)] R (fun E => E = E0) := by
  refine MI.mk (by decide) rfl (Nat.le_of_ble_eq_true rfl) ?_
  intro p e s m args below meth c ls Q X hret hP hS hl
  have hl : lv_has ls 1 [(0, .ref (qa 42))] := hl
  rw [fX4_letterHere] at hf
  refine lv_aload_n X.1 X.2.1 dX4_letterHere_0 rfl (lv_at hl 0 rfl) ?_
  refine x_get X hP hG_T.1 (by omega) rfl in_X4_letterHere_X4 2 (by decide) (by decide +kernel) rfl rfl dX4_letterHere_1 ?_
  refine lv_aload_n X.1 X.2.1 dX4_letterHere_4 rfl (lv_at hl 0 rfl) ?_
  refine x_get X hP hG_T.1 (by omega) rfl in_X4_letterHere_X4 1 (by decide) (by decide +kernel) rfl rfl dX4_letterHere_5 ?_
  refine lv_icmp_ge (tgt := 23) X.1 X.2.1 dX4_letterHere_8 (by decide) (fun c1 => ?_) (fun c1 => ?_)
  · have hf := ifp hf c1
    refine lv_iconst (v := 0) X.1 X.2.1 dX4_letterHere_23 (by decide) ?_
    obtain rfl := Option.some.inj hf
    exact hret _ _ _ _ _ _ dX4_letterHere_24 rfl rfl (rfl) hP hS
  · have hf := ifn hf c1
    refine lv_aload_n X.1 X.2.1 dX4_letterHere_11 rfl (lv_at hl 0 rfl) ?_
    refine x_get X hP hG_T.1 (by omega) rfl in_X4_letterHere_X4 0 (by decide) (by decide +kernel) rfl rfl dX4_letterHere_12 ?_
    refine lv_aload_n X.1 X.2.1 dX4_letterHere_15 rfl (lv_at hl 0 rfl) ?_
    refine x_get X hP hG_T.1 (by omega) rfl in_X4_letterHere_X4 2 (by decide) (by decide +kernel) rfl rfl dX4_letterHere_16 ?_
    obtain ⟨hi2, hf⟩ := gin_of hf
    refine x_cald X hP hG_T.2 (by omega) hi2 dX4_letterHere_19 ?_
    refine lv_goto (tgt := 24) X.1 X.2.1 dX4_letterHere_20 (by decide) ?_
    obtain ⟨hb3, hf⟩ := gch_of hf
    obtain rfl := Option.some.inj hf
    exact hret _ _ _ _ _ _ dX4_letterHere_24 (gch_n hb3) rfl (rfl) hP hS
def bX4_nextLetter_0 (ln_T : Int32) (ltr_T : Nat → Int32) (K1 : (Int32) → Option (Int32 × Int32)) : (Int32) → Option (Int32 × Int32)
  | plc_T_1 => if ln_T ≤ plc_T_1 then ((fX4_letterHere ln_T plc_T_1 ltr_T).bind (fun r3 => gch r3 (some (r3, plc_T_1)))) else (gin plc_T_1 90 (if (ltr_T (Int32.toNatClampNeg plc_T_1)) = 32 then (K1 (plc_T_1 + 1)) else ((fX4_letterHere ln_T plc_T_1 ltr_T).bind (fun r7 => gch r7 (some (r7, plc_T_1))))))
def fX4_nextLetter  (ln_T : Int32) (plc_T : Int32) (ltr_T : Nat → Int32) : Option (Int32 × Int32) := lp (bX4_nextLetter_0 ln_T ltr_T) FU plc_T
theorem in_X4_nextLetter_X4 : ∀ w ∈ wsX40, w ∈ wsX4_nextLetter := by decide +kernel
set_option maxHeartbeats 4000000 in
set_option maxRecDepth 100000 in
theorem ct_X4_nextLetter {l : Launch} {D : va_G} {g : Nat → ClassId} {qa : Nat → Nat} {E0 : Nat → va_E} {ln_T : Int32} {plc_T : Int32} {ltr_T : Nat → Int32} (hG_T : Ta g qa E0 42 ln_T plc_T ltr_T) {R : (Int32 × Int32)} (hf : fX4_nextLetter ln_T plc_T ltr_T = some R) : MI l yX4_nextLetter wsX4_nextLetter 1 D g qa E0 [.ref (qa 42)] R.1 (fun E => Ta g qa E 42 ln_T R.2 ltr_T ∧ ∀ j, (j < 42 ∨ 44 ≤ j) → E j = E0 j) := by
  refine MI.mk (by decide) rfl (Nat.le_of_ble_eq_true rfl) ?_
  intro p e s m args below meth c ls Q X hret hP hS hl
  have hl : lv_has ls 1 [(0, .ref (qa 42))] := hl
  have hfr : ∀ j, (j < 42 ∨ 44 ≤ j) → E0 j = E0 j := fun _ _ => rfl
  rw [fX4_nextLetter] at hf
  have lp1 : ∀ (n1 : Nat) (plc_T_1 : Int32) (E : Nat → va_E) (H : Heap) (locs : List Loc) (ls : Array Slot), lp (bX4_nextLetter_0 ln_T ltr_T) n1 plc_T_1 = some R → va_P D vwCl (WD qa E) H → va_S (gA qa s.heap.size) s.heap H locs → Ta g qa E 42 ln_T plc_T_1 ltr_T → (∀ j, (j < 42 ∨ 44 ≤ j) → E j = E0 j) → lv_has ls 1 [(0, .ref (qa 42))] → W p l e (rmf 1) s m args below meth c H locs 0 0 Q (F0 m 0 ls []) := by
    intro n1
    induction n1 with
    | zero =>
      intro plc_T_1 E H locs ls hf
      exact absurd hf (by intro h; cases h)
    | succ n1 ih1 =>
      intro plc_T_1 E H locs ls hf hP hS hG_T hfr hl
      have hf : bX4_nextLetter_0 ln_T ltr_T (lp (bX4_nextLetter_0 ln_T ltr_T) n1) plc_T_1 = some R := hf
      rw [bX4_nextLetter_0] at hf
      refine lv_aload_n X.1 X.2.1 dX4_nextLetter_0 rfl (lv_at hl 0 rfl) ?_
      refine x_get X hP hG_T.1 (by omega) rfl in_X4_nextLetter_X4 2 (by decide) (by decide +kernel) rfl rfl dX4_nextLetter_1 ?_
      refine lv_aload_n X.1 X.2.1 dX4_nextLetter_4 rfl (lv_at hl 0 rfl) ?_
      refine x_get X hP hG_T.1 (by omega) rfl in_X4_nextLetter_X4 1 (by decide) (by decide +kernel) rfl rfl dX4_nextLetter_5 ?_
      refine lv_icmp_ge (tgt := 38) X.1 X.2.1 dX4_nextLetter_8 (by decide) (fun c2 => ?_) (fun c2 => ?_)
      · have hf := ifp hf c2
        refine lv_aload_n X.1 X.2.1 dX4_nextLetter_38 rfl (lv_at hl 0 rfl) ?_
        obtain ⟨r3, hr3, hf⟩ := bd_of hf
        refine x_rdVi X hP hS hG_T.1 (by omega) rfl (n := 0) (As := []) (ct_X4_letterHere hG_T hr3) gX4_nextLetter_X4_letterHere rfl (by decide +kernel) ⟨by decide, by decide⟩ rfl hl.1 rfl (Nat.le_of_ble_eq_true rfl) dX4_nextLetter_39 (fun H locs hP hS => ?_)
        obtain ⟨hb4, hf⟩ := gch_of hf
        obtain rfl := Option.some.inj hf
        exact hret _ _ _ _ _ _ dX4_nextLetter_42 (gch_n hb4) rfl (⟨hG_T, hfr⟩) hP hS
      · have hf := ifn hf c2
        refine lv_aload_n X.1 X.2.1 dX4_nextLetter_11 rfl (lv_at hl 0 rfl) ?_
        refine x_get X hP hG_T.1 (by omega) rfl in_X4_nextLetter_X4 0 (by decide) (by decide +kernel) rfl rfl dX4_nextLetter_12 ?_
        refine lv_aload_n X.1 X.2.1 dX4_nextLetter_15 rfl (lv_at hl 0 rfl) ?_
        refine x_get X hP hG_T.1 (by omega) rfl in_X4_nextLetter_X4 2 (by decide) (by decide +kernel) rfl rfl dX4_nextLetter_16 ?_
        obtain ⟨hi5, hf⟩ := gin_of hf
        refine x_cald X hP hG_T.2 (by omega) hi5 dX4_nextLetter_19 ?_
        refine lv_bipush (v := 32) X.1 X.2.1 dX4_nextLetter_20 (by decide) ?_
        refine lv_icmp_ne (tgt := 38) X.1 X.2.1 dX4_nextLetter_22 (by decide) (fun c6 => ?_) (fun c6 => ?_)
        · have hf := ifn hf c6
          refine lv_aload_n X.1 X.2.1 dX4_nextLetter_38 rfl (lv_at hl 0 rfl) ?_
          obtain ⟨r7, hr7, hf⟩ := bd_of hf
          refine x_rdVi X hP hS hG_T.1 (by omega) rfl (n := 0) (As := []) (ct_X4_letterHere hG_T hr7) gX4_nextLetter_X4_letterHere rfl (by decide +kernel) ⟨by decide, by decide⟩ rfl hl.1 rfl (Nat.le_of_ble_eq_true rfl) dX4_nextLetter_39 (fun H locs hP hS => ?_)
          obtain ⟨hb8, hf⟩ := gch_of hf
          obtain rfl := Option.some.inj hf
          exact hret _ _ _ _ _ _ dX4_nextLetter_42 (gch_n hb8) rfl (⟨hG_T, hfr⟩) hP hS
        · have hf := ifp hf c6
          refine lv_aload_n X.1 X.2.1 dX4_nextLetter_25 rfl (lv_at hl 0 rfl) ?_
          refine lv_dup X.1 X.2.1 dX4_nextLetter_26 rfl ?_
          refine x_get X hP hG_T.1 (by omega) rfl in_X4_nextLetter_X4 2 (by decide) (by decide +kernel) rfl rfl dX4_nextLetter_27 ?_
          refine lv_iconst (v := 1) X.1 X.2.1 dX4_nextLetter_30 (by decide) ?_
          refine lv_iadd X.1 X.2.1 dX4_nextLetter_31 ?_
          refine x_put (ty := .int) X hP hS hG_T.1 (by omega) rfl in_X4_nextLetter_X4 tyX4 tyX4_ok nmX4 2 (by decide) (by decide +kernel) rfl rfl (by decide +kernel) rfl rfl (Nat.le_of_ble_eq_true rfl) dX4_nextLetter_32 (fun E H locs h1 hk hP hS => ?_)
          have hG_T := Ta_set_0 hG_T h1 hk
          have hfr : ∀ j, (j < 42 ∨ 44 ≤ j) → E j = E0 j := fun j o0 => (hk j (by omega)).trans (hfr j o0)
          refine lv_goto (tgt := 0) X.1 X.2.1 dX4_nextLetter_35 (by decide) ?_
          exact ih1 (plc_T_1 + 1) _ _ _ _ hf hP hS hG_T hfr (lv_sub hl [0] rfl)
  exact lp1 FU plc_T _ _ _ _ hf hP hS hG_T hfr (lv_sub hl [0] rfl)
def bX4_readNumber_23 (ln_T : Int32) (ltr_T : Nat → Int32) (p1 : Int32) (p2 : Int32) (x4 : Int32) (K5 : ((Int32 × Int32 × Int32)) → Option (Int32 × Int32)) : ((Int32 × Int32 × Int32)) → Option (Int32 × Int32)
  | (v4_5, v5_5, plc_T_5) => if 2 ≤ v5_5 then (if v4_5 < p1 then (some ((-1), x4)) else (if v4_5 ≤ p2 then (some (v4_5, plc_T_5)) else (some ((-1), x4)))) else ((fX4_letterHere ln_T plc_T_5 ltr_T).bind (fun r9 => (fX4_isDigit r9).bind (fun r10 => if r10 = 0 then (if v4_5 < p1 then (some ((-1), x4)) else (if v4_5 ≤ p2 then (some (v4_5, plc_T_5)) else (some ((-1), x4)))) else ((fX4_letterHere ln_T plc_T_5 ltr_T).bind (fun r14 => nm ((10 * v4_5) + (r14 - 48)) (fun x15 => nm (v5_5 + 1) (fun x16 => K5 (x15, x16, plc_T_5 + 1))))))))
def fX4_readNumber (p1 : Int32) (p2 : Int32) (ln_T : Int32) (plc_T : Int32) (ltr_T : Nat → Int32) : Option (Int32 × Int32) := (fX4_nextLetter ln_T plc_T ltr_T).bind (fun r1 => (fX4_isDigit r1.1).bind (fun r2 => if r2 = 0 then (some ((-1), r1.2)) else (nm (r1.2) (fun x4 => lp (bX4_readNumber_23 ln_T ltr_T p1 p2 x4) FU (0, 0, r1.2)))))
theorem in_X4_readNumber_X4 : ∀ w ∈ wsX40, w ∈ wsX4_readNumber := by decide +kernel
set_option maxHeartbeats 4000000 in
set_option maxRecDepth 100000 in
theorem ct_X4_readNumber {l : Launch} {D : va_G} {g : Nat → ClassId} {qa : Nat → Nat} {E0 : Nat → va_E} {p1 : Int32} {p2 : Int32} {ln_T : Int32} {plc_T : Int32} {ltr_T : Nat → Int32} (hG_T : Ta g qa E0 42 ln_T plc_T ltr_T) {R : (Int32 × Int32)} (hf : fX4_readNumber p1 p2 ln_T plc_T ltr_T = some R) : MI l yX4_readNumber wsX4_readNumber 2 D g qa E0 [.ref (qa 42), .int p1, .int p2] R.1 (fun E => Ta g qa E 42 ln_T R.2 ltr_T ∧ ∀ j, (j < 42 ∨ 44 ≤ j) → E j = E0 j) := by
  refine MI.mk (by decide) rfl (Nat.le_of_ble_eq_true rfl) ?_
  intro p e s m args below meth c ls Q X hret hP hS hl
  have hl : lv_has ls 6 [(0, .ref (qa 42)), (1, .int p1), (2, .int p2)] := hl
  have hfr : ∀ j, (j < 42 ∨ 44 ≤ j) → E0 j = E0 j := fun _ _ => rfl
  rw [fX4_readNumber] at hf
  refine lv_aload_n X.1 X.2.1 dX4_readNumber_0 rfl (lv_at hl 0 rfl) ?_
  obtain ⟨r1, hr1, hf⟩ := bd_of hf
  refine x_callVi X hP hS hG_T.1 (by omega) rfl (n := 0) (As := []) (ct_X4_nextLetter hG_T hr1) gX4_readNumber_X4_nextLetter rfl (by decide +kernel) ⟨by decide, by decide⟩ rfl hl.1 rfl (Nat.le_of_ble_eq_true rfl) dX4_readNumber_1 (fun E H locs hp hP hS => ?_)
  obtain ⟨hW_T, hk⟩ := hp
  have hG_T := hW_T
  have hfr : ∀ j, (j < 42 ∨ 44 ≤ j) → E j = E0 j := fun j o0 => (hk j (by omega)).trans (hfr j o0)
  obtain ⟨r2, hr2, hf⟩ := bd_of hf
  refine x_rdSi X hP hS (index := 67) (n := 1) (As := [.int r1.1]) (ct_X4_isDigit  hr2) ggX4_readNumber_X4_isDigit (by decide +kernel) (by decide +kernel) (by decide +kernel) rfl (by decide +kernel) ⟨by decide, by decide⟩ rfl hl.1 rfl (Nat.le_of_ble_eq_true rfl) dX4_readNumber_4 (fun H locs hP hS => ?_)
  refine lv_if_ne (tgt := 12) X.1 X.2.1 dX4_readNumber_7 (by decide) (fun c3 => ?_) (fun c3 => ?_)
  · have hf := ifn hf c3
    refine lv_aload_n X.1 X.2.1 dX4_readNumber_12 rfl (lv_at hl 0 rfl) ?_
    refine x_get X hP hG_T.1 (by omega) rfl in_X4_readNumber_X4 2 (by decide) (by decide +kernel) rfl rfl dX4_readNumber_13 ?_
    obtain ⟨x4, ex4, hf⟩ := nm_of hf
    refine lv_top_as ex4 ?_
    refine lv_istore_n (lv' := [(3, .int x4), (0, .ref (qa 42)), (1, .int p1), (2, .int p2)]) X.1 X.2.1 dX4_readNumber_16 rfl hl (by decide) rfl (fun ls hl => ?_)
    refine lv_iconst (v := 0) X.1 X.2.1 dX4_readNumber_17 (by decide) ?_
    refine lv_istore (lv' := [(4, .int 0), (3, .int x4), (0, .ref (qa 42)), (1, .int p1), (2, .int p2)]) X.1 X.2.1 dX4_readNumber_18 hl (by decide) rfl (fun ls hl => ?_)
    refine lv_iconst (v := 0) X.1 X.2.1 dX4_readNumber_20 (by decide) ?_
    refine lv_istore (lv' := [(5, .int 0), (4, .int 0), (3, .int x4), (0, .ref (qa 42)), (1, .int p1), (2, .int p2)]) X.1 X.2.1 dX4_readNumber_21 hl (by decide) rfl (fun ls hl => ?_)
    have lp5 : ∀ (n5 : Nat) (v4_5 : Int32) (v5_5 : Int32) (plc_T_5 : Int32) (E : Nat → va_E) (H : Heap) (locs : List Loc) (ls : Array Slot), lp (bX4_readNumber_23 ln_T ltr_T p1 p2 x4) n5 (v4_5, v5_5, plc_T_5) = some R → va_P D vwCl (WD qa E) H → va_S (gA qa s.heap.size) s.heap H locs → Ta g qa E 42 ln_T plc_T_5 ltr_T → (∀ j, (j < 42 ∨ 44 ≤ j) → E j = E0 j) → lv_has ls 6 [(0, .ref (qa 42)), (1, .int p1), (2, .int p2), (3, .int x4), (4, .int v4_5), (5, .int v5_5)] → W p l e (rmf 2) s m args below meth c H locs 0 0 Q (F0 m 23 ls []) := by
      intro n5
      induction n5 with
      | zero =>
        intro v4_5 v5_5 plc_T_5 E H locs ls hf
        exact absurd hf (by intro h; cases h)
      | succ n5 ih5 =>
        intro v4_5 v5_5 plc_T_5 E H locs ls hf hP hS hG_T hfr hl
        have hf : bX4_readNumber_23 ln_T ltr_T p1 p2 x4 (lp (bX4_readNumber_23 ln_T ltr_T p1 p2 x4) n5) (v4_5, v5_5, plc_T_5) = some R := hf
        rw [bX4_readNumber_23] at hf
        refine lv_iload X.1 X.2.1 dX4_readNumber_23 (lv_at hl 5 rfl) ?_
        refine lv_iconst (v := 2) X.1 X.2.1 dX4_readNumber_25 (by decide) ?_
        refine lv_icmp_ge (tgt := 70) X.1 X.2.1 dX4_readNumber_26 (by decide) (fun c6 => ?_) (fun c6 => ?_)
        · have hf := ifp hf c6
          refine lv_iload X.1 X.2.1 dX4_readNumber_70 (lv_at hl 4 rfl) ?_
          refine lv_iload_n X.1 X.2.1 dX4_readNumber_72 rfl (lv_at hl 1 rfl) ?_
          refine lv_icmp_lt (tgt := 82) X.1 X.2.1 dX4_readNumber_73 (by decide) (fun c7 => ?_) (fun c7 => ?_)
          · have hf := ifp hf c7
            refine lv_aload_n X.1 X.2.1 dX4_readNumber_82 rfl (lv_at hl 0 rfl) ?_
            refine lv_iload_n X.1 X.2.1 dX4_readNumber_83 rfl (lv_at hl 3 rfl) ?_
            refine x_put (ty := .int) X hP hS hG_T.1 (by omega) rfl in_X4_readNumber_X4 tyX4 tyX4_ok nmX4 2 (by decide) (by decide +kernel) rfl rfl (by decide +kernel) rfl rfl (Nat.le_of_ble_eq_true rfl) dX4_readNumber_84 (fun E H locs h1 hk hP hS => ?_)
            have hG_T := Ta_set_0 hG_T h1 hk
            have hfr : ∀ j, (j < 42 ∨ 44 ≤ j) → E j = E0 j := fun j o0 => (hk j (by omega)).trans (hfr j o0)
            refine lv_iconst (v := (-1)) X.1 X.2.1 dX4_readNumber_87 (by decide) ?_
            obtain rfl := Option.some.inj hf
            exact hret _ _ _ _ _ _ dX4_readNumber_88 rfl rfl (⟨hG_T, hfr⟩) hP hS
          · have hf := ifn hf c7
            refine lv_iload X.1 X.2.1 dX4_readNumber_76 (lv_at hl 4 rfl) ?_
            refine lv_iload_n X.1 X.2.1 dX4_readNumber_78 rfl (lv_at hl 2 rfl) ?_
            refine lv_icmp_le (tgt := 89) X.1 X.2.1 dX4_readNumber_79 (by decide) (fun c8 => ?_) (fun c8 => ?_)
            · have hf := ifp hf c8
              refine lv_iload X.1 X.2.1 dX4_readNumber_89 (lv_at hl 4 rfl) ?_
              obtain rfl := Option.some.inj hf
              exact hret _ _ _ _ _ _ dX4_readNumber_91 rfl rfl (⟨hG_T, hfr⟩) hP hS
            · have hf := ifn hf c8
              refine lv_aload_n X.1 X.2.1 dX4_readNumber_82 rfl (lv_at hl 0 rfl) ?_
              refine lv_iload_n X.1 X.2.1 dX4_readNumber_83 rfl (lv_at hl 3 rfl) ?_
              refine x_put (ty := .int) X hP hS hG_T.1 (by omega) rfl in_X4_readNumber_X4 tyX4 tyX4_ok nmX4 2 (by decide) (by decide +kernel) rfl rfl (by decide +kernel) rfl rfl (Nat.le_of_ble_eq_true rfl) dX4_readNumber_84 (fun E H locs h1 hk hP hS => ?_)
              have hG_T := Ta_set_0 hG_T h1 hk
              have hfr : ∀ j, (j < 42 ∨ 44 ≤ j) → E j = E0 j := fun j o0 => (hk j (by omega)).trans (hfr j o0)
              refine lv_iconst (v := (-1)) X.1 X.2.1 dX4_readNumber_87 (by decide) ?_
              obtain rfl := Option.some.inj hf
              exact hret _ _ _ _ _ _ dX4_readNumber_88 rfl rfl (⟨hG_T, hfr⟩) hP hS
        · have hf := ifn hf c6
          refine lv_aload_n X.1 X.2.1 dX4_readNumber_29 rfl (lv_at hl 0 rfl) ?_
          obtain ⟨r9, hr9, hf⟩ := bd_of hf
          refine x_rdVi X hP hS hG_T.1 (by omega) rfl (n := 0) (As := []) (ct_X4_letterHere hG_T hr9) gX4_readNumber_X4_letterHere rfl (by decide +kernel) ⟨by decide, by decide⟩ rfl hl.1 rfl (Nat.le_of_ble_eq_true rfl) dX4_readNumber_30 (fun H locs hP hS => ?_)
          obtain ⟨r10, hr10, hf⟩ := bd_of hf
          refine x_rdSi X hP hS (index := 67) (n := 1) (As := [.int r9]) (ct_X4_isDigit  hr10) ggX4_readNumber_X4_isDigit (by decide +kernel) (by decide +kernel) (by decide +kernel) rfl (by decide +kernel) ⟨by decide, by decide⟩ rfl hl.1 rfl (Nat.le_of_ble_eq_true rfl) dX4_readNumber_33 (fun H locs hP hS => ?_)
          refine lv_if_eq (tgt := 70) X.1 X.2.1 dX4_readNumber_36 (by decide) (fun c11 => ?_) (fun c11 => ?_)
          · have hf := ifp hf c11
            refine lv_iload X.1 X.2.1 dX4_readNumber_70 (lv_at hl 4 rfl) ?_
            refine lv_iload_n X.1 X.2.1 dX4_readNumber_72 rfl (lv_at hl 1 rfl) ?_
            refine lv_icmp_lt (tgt := 82) X.1 X.2.1 dX4_readNumber_73 (by decide) (fun c12 => ?_) (fun c12 => ?_)
            · have hf := ifp hf c12
              refine lv_aload_n X.1 X.2.1 dX4_readNumber_82 rfl (lv_at hl 0 rfl) ?_
              refine lv_iload_n X.1 X.2.1 dX4_readNumber_83 rfl (lv_at hl 3 rfl) ?_
              refine x_put (ty := .int) X hP hS hG_T.1 (by omega) rfl in_X4_readNumber_X4 tyX4 tyX4_ok nmX4 2 (by decide) (by decide +kernel) rfl rfl (by decide +kernel) rfl rfl (Nat.le_of_ble_eq_true rfl) dX4_readNumber_84 (fun E H locs h1 hk hP hS => ?_)
              have hG_T := Ta_set_0 hG_T h1 hk
              have hfr : ∀ j, (j < 42 ∨ 44 ≤ j) → E j = E0 j := fun j o0 => (hk j (by omega)).trans (hfr j o0)
              refine lv_iconst (v := (-1)) X.1 X.2.1 dX4_readNumber_87 (by decide) ?_
              obtain rfl := Option.some.inj hf
              exact hret _ _ _ _ _ _ dX4_readNumber_88 rfl rfl (⟨hG_T, hfr⟩) hP hS
            · have hf := ifn hf c12
              refine lv_iload X.1 X.2.1 dX4_readNumber_76 (lv_at hl 4 rfl) ?_
              refine lv_iload_n X.1 X.2.1 dX4_readNumber_78 rfl (lv_at hl 2 rfl) ?_
              refine lv_icmp_le (tgt := 89) X.1 X.2.1 dX4_readNumber_79 (by decide) (fun c13 => ?_) (fun c13 => ?_)
              · have hf := ifp hf c13
                refine lv_iload X.1 X.2.1 dX4_readNumber_89 (lv_at hl 4 rfl) ?_
                obtain rfl := Option.some.inj hf
                exact hret _ _ _ _ _ _ dX4_readNumber_91 rfl rfl (⟨hG_T, hfr⟩) hP hS
              · have hf := ifn hf c13
                refine lv_aload_n X.1 X.2.1 dX4_readNumber_82 rfl (lv_at hl 0 rfl) ?_
                refine lv_iload_n X.1 X.2.1 dX4_readNumber_83 rfl (lv_at hl 3 rfl) ?_
                refine x_put (ty := .int) X hP hS hG_T.1 (by omega) rfl in_X4_readNumber_X4 tyX4 tyX4_ok nmX4 2 (by decide) (by decide +kernel) rfl rfl (by decide +kernel) rfl rfl (Nat.le_of_ble_eq_true rfl) dX4_readNumber_84 (fun E H locs h1 hk hP hS => ?_)
                have hG_T := Ta_set_0 hG_T h1 hk
                have hfr : ∀ j, (j < 42 ∨ 44 ≤ j) → E j = E0 j := fun j o0 => (hk j (by omega)).trans (hfr j o0)
                refine lv_iconst (v := (-1)) X.1 X.2.1 dX4_readNumber_87 (by decide) ?_
                obtain rfl := Option.some.inj hf
                exact hret _ _ _ _ _ _ dX4_readNumber_88 rfl rfl (⟨hG_T, hfr⟩) hP hS
          · have hf := ifn hf c11
            refine lv_bipush (v := 10) X.1 X.2.1 dX4_readNumber_39 (by decide) ?_
            refine lv_iload X.1 X.2.1 dX4_readNumber_41 (lv_at hl 4 rfl) ?_
            refine lv_imul X.1 X.2.1 dX4_readNumber_43 ?_
            refine lv_aload_n X.1 X.2.1 dX4_readNumber_44 rfl (lv_at hl 0 rfl) ?_
            obtain ⟨r14, hr14, hf⟩ := bd_of hf
            refine x_rdVi X hP hS hG_T.1 (by omega) rfl (n := 0) (As := []) (ct_X4_letterHere hG_T hr14) gX4_readNumber_X4_letterHere rfl (by decide +kernel) ⟨by decide, by decide⟩ rfl hl.1 rfl (Nat.le_of_ble_eq_true rfl) dX4_readNumber_45 (fun H locs hP hS => ?_)
            refine lv_bipush (v := 48) X.1 X.2.1 dX4_readNumber_48 (by decide) ?_
            refine lv_isub X.1 X.2.1 dX4_readNumber_50 ?_
            refine lv_iadd X.1 X.2.1 dX4_readNumber_51 ?_
            obtain ⟨x15, ex15, hf⟩ := nm_of hf
            refine lv_top_as ex15 ?_
            refine lv_istore (lv' := [(4, .int x15), (0, .ref (qa 42)), (1, .int p1), (2, .int p2), (3, .int x4), (5, .int v5_5)]) X.1 X.2.1 dX4_readNumber_52 hl (by decide) rfl (fun ls hl => ?_)
            refine lv_aload_n X.1 X.2.1 dX4_readNumber_54 rfl (lv_at hl 1 rfl) ?_
            refine lv_dup X.1 X.2.1 dX4_readNumber_55 rfl ?_
            refine x_get X hP hG_T.1 (by omega) rfl in_X4_readNumber_X4 2 (by decide) (by decide +kernel) rfl rfl dX4_readNumber_56 ?_
            refine lv_iconst (v := 1) X.1 X.2.1 dX4_readNumber_59 (by decide) ?_
            refine lv_iadd X.1 X.2.1 dX4_readNumber_60 ?_
            refine x_put (ty := .int) X hP hS hG_T.1 (by omega) rfl in_X4_readNumber_X4 tyX4 tyX4_ok nmX4 2 (by decide) (by decide +kernel) rfl rfl (by decide +kernel) rfl rfl (Nat.le_of_ble_eq_true rfl) dX4_readNumber_61 (fun E H locs h1 hk hP hS => ?_)
            have hG_T := Ta_set_0 hG_T h1 hk
            have hfr : ∀ j, (j < 42 ∨ 44 ≤ j) → E j = E0 j := fun j o0 => (hk j (by omega)).trans (hfr j o0)
            obtain ⟨x16, ex16, hf⟩ := nm_of hf
            refine lv_iinc (v := x16) (lv' := [(5, .int x16), (4, .int x15), (0, .ref (qa 42)), (1, .int p1), (2, .int p2), (3, .int x4)]) X.1 X.2.1 dX4_readNumber_64 hl (k := 5) rfl (by rw [ex16]; rfl) (by decide) rfl (fun ls hl => ?_)
            refine lv_goto (tgt := 23) X.1 X.2.1 dX4_readNumber_67 (by decide) ?_
            exact ih5 x15 x16 (plc_T_5 + 1) _ _ _ _ hf hP hS hG_T hfr (lv_sub hl [2, 3, 4, 5, 1, 0] rfl)
    exact lp5 FU 0 0 r1.2 _ _ _ _ hf hP hS hG_T hfr (lv_sub hl [3, 4, 5, 2, 1, 0] rfl)
  · have hf := ifp hf c3
    refine lv_iconst (v := (-1)) X.1 X.2.1 dX4_readNumber_10 (by decide) ?_
    obtain rfl := Option.some.inj hf
    exact hret _ _ _ _ _ _ dX4_readNumber_11 rfl rfl (⟨hG_T, hfr⟩) hP hS
def fX4_takes (p1 : Int32) (ln_T : Int32) (plc_T : Int32) (ltr_T : Nat → Int32) : Option (Int32 × Int32) := (fX4_nextLetter ln_T plc_T ltr_T).bind (fun r1 => if r1.1 = p1 then (some (1, r1.2 + 1)) else (some (0, r1.2)))
theorem in_X4_takes_X4 : ∀ w ∈ wsX40, w ∈ wsX4_takes := by decide +kernel
set_option maxHeartbeats 4000000 in
set_option maxRecDepth 100000 in
theorem ct_X4_takes {l : Launch} {D : va_G} {g : Nat → ClassId} {qa : Nat → Nat} {E0 : Nat → va_E} {p1 : Int32} {ln_T : Int32} {plc_T : Int32} {ltr_T : Nat → Int32} (hG_T : Ta g qa E0 42 ln_T plc_T ltr_T) {R : (Int32 × Int32)} (hf : fX4_takes p1 ln_T plc_T ltr_T = some R) : MI l yX4_takes wsX4_takes 2 D g qa E0 [.ref (qa 42), .int p1] R.1 (fun E => Ta g qa E 42 ln_T R.2 ltr_T ∧ ∀ j, (j < 42 ∨ 44 ≤ j) → E j = E0 j) := by
  refine MI.mk (by decide) rfl (Nat.le_of_ble_eq_true rfl) ?_
  intro p e s m args below meth c ls Q X hret hP hS hl
  have hl : lv_has ls 2 [(0, .ref (qa 42)), (1, .int p1)] := hl
  have hfr : ∀ j, (j < 42 ∨ 44 ≤ j) → E0 j = E0 j := fun _ _ => rfl
  rw [fX4_takes] at hf
  refine lv_aload_n X.1 X.2.1 dX4_takes_0 rfl (lv_at hl 0 rfl) ?_
  obtain ⟨r1, hr1, hf⟩ := bd_of hf
  refine x_callVi X hP hS hG_T.1 (by omega) rfl (n := 0) (As := []) (ct_X4_nextLetter hG_T hr1) gX4_takes_X4_nextLetter rfl (by decide +kernel) ⟨by decide, by decide⟩ rfl hl.1 rfl (Nat.le_of_ble_eq_true rfl) dX4_takes_1 (fun E H locs hp hP hS => ?_)
  obtain ⟨hW_T, hk⟩ := hp
  have hG_T := hW_T
  have hfr : ∀ j, (j < 42 ∨ 44 ≤ j) → E j = E0 j := fun j o0 => (hk j (by omega)).trans (hfr j o0)
  refine lv_iload_n X.1 X.2.1 dX4_takes_4 rfl (lv_at hl 1 rfl) ?_
  refine lv_icmp_eq (tgt := 10) X.1 X.2.1 dX4_takes_5 (by decide) (fun c2 => ?_) (fun c2 => ?_)
  · have hf := ifp hf c2
    refine lv_aload_n X.1 X.2.1 dX4_takes_10 rfl (lv_at hl 0 rfl) ?_
    refine lv_dup X.1 X.2.1 dX4_takes_11 rfl ?_
    refine x_get X hP hG_T.1 (by omega) rfl in_X4_takes_X4 2 (by decide) (by decide +kernel) rfl rfl dX4_takes_12 ?_
    refine lv_iconst (v := 1) X.1 X.2.1 dX4_takes_15 (by decide) ?_
    refine lv_iadd X.1 X.2.1 dX4_takes_16 ?_
    refine x_put (ty := .int) X hP hS hG_T.1 (by omega) rfl in_X4_takes_X4 tyX4 tyX4_ok nmX4 2 (by decide) (by decide +kernel) rfl rfl (by decide +kernel) rfl rfl (Nat.le_of_ble_eq_true rfl) dX4_takes_17 (fun E H locs h1 hk hP hS => ?_)
    have hG_T := Ta_set_0 hG_T h1 hk
    have hfr : ∀ j, (j < 42 ∨ 44 ≤ j) → E j = E0 j := fun j o0 => (hk j (by omega)).trans (hfr j o0)
    refine lv_iconst (v := 1) X.1 X.2.1 dX4_takes_20 (by decide) ?_
    obtain rfl := Option.some.inj hf
    exact hret _ _ _ _ _ _ dX4_takes_21 rfl rfl (⟨hG_T, hfr⟩) hP hS
  · have hf := ifn hf c2
    refine lv_iconst (v := 0) X.1 X.2.1 dX4_takes_8 (by decide) ?_
    obtain rfl := Option.some.inj hf
    exact hret _ _ _ _ _ _ dX4_takes_9 rfl rfl (⟨hG_T, hfr⟩) hP hS
def fX4_readMan  (ln_T : Int32) (plc_T : Int32) (ltr_T : Nat → Int32) (men_t : Int32) (bu_t : Nat → Int32) (st_t : Nat → Int32) : Option (Int32 × Int32 × Int32 × (Nat → Int32) × (Nat → Int32)) := (fX4_readNumber 1 60 ln_T plc_T ltr_T).bind (fun r1 => nm (r1.1) (fun x2 => if 0 ≤ x2 then ((fX4_takes 45 ln_T r1.2 ltr_T).bind (fun r4 => if r4.1 = 0 then ((fX1_addMan x2 (x2 - 0) men_t bu_t st_t).bind (fun r6 => some (1, r4.2, r6.2.1, r6.2.2.1, r6.2.2.2))) else ((fX4_readNumber 0 x2 ln_T r4.2 ltr_T).bind (fun r7 => nm (r7.1) (fun x8 => if 0 ≤ x8 then ((fX1_addMan x2 (x2 - x8) men_t bu_t st_t).bind (fun r10 => some (1, r7.2, r10.2.1, r10.2.2.1, r10.2.2.2))) else (some (0, r7.2, men_t, bu_t, st_t))))))) else (some (0, r1.2, men_t, bu_t, st_t))))
theorem in_X4_readMan_X4 : ∀ w ∈ wsX40, w ∈ wsX4_readMan := by decide +kernel
set_option maxHeartbeats 4000000 in
set_option maxRecDepth 100000 in
theorem ct_X4_readMan {l : Launch} {D : va_G} {g : Nat → ClassId} {qa : Nat → Nat} {E0 : Nat → va_E} {ln_T : Int32} {plc_T : Int32} {ltr_T : Nat → Int32} {men_t : Int32} {md_t : Int32} {day_t : Int32} {drw_t : Int32} {bu_t : Nat → Int32} {st_t : Nat → Int32} {ki_t : Nat → Int32} {we_t : Nat → Int32} {wo_t : Nat → Int32} {wr_t : Nat → Int32} (hG_T : Ta g qa E0 42 ln_T plc_T ltr_T) (hG_t : Mu g qa E0 35 men_t md_t day_t drw_t bu_t st_t ki_t we_t wo_t wr_t) {R : (Int32 × Int32 × Int32 × (Nat → Int32) × (Nat → Int32))} (hf : fX4_readMan ln_T plc_T ltr_T men_t bu_t st_t = some R) : MI l yX4_readMan wsX4_readMan 3 D g qa E0 [.ref (qa 42), .ref (qa 35)] R.1 (fun E => Ta g qa E 42 ln_T R.2.1 ltr_T ∧ Mu g qa E 35 R.2.2.1 md_t day_t drw_t R.2.2.2.1 R.2.2.2.2 ki_t we_t wo_t wr_t ∧ ∀ j, (j < 42 ∨ 44 ≤ j) → (j < 35 ∨ 42 ≤ j) → E j = E0 j) := by
  refine MI.mk (by decide) rfl (Nat.le_of_ble_eq_true rfl) ?_
  intro p e s m args below meth c ls Q X hret hP hS hl
  have hl : lv_has ls 4 [(0, .ref (qa 42)), (1, .ref (qa 35))] := hl
  have hfr : ∀ j, (j < 42 ∨ 44 ≤ j) → (j < 35 ∨ 42 ≤ j) → E0 j = E0 j := fun _ _ _ => rfl
  rw [fX4_readMan] at hf
  refine lv_aload_n X.1 X.2.1 dX4_readMan_0 rfl (lv_at hl 0 rfl) ?_
  refine lv_iconst (v := 1) X.1 X.2.1 dX4_readMan_1 (by decide) ?_
  refine lv_bipush (v := 60) X.1 X.2.1 dX4_readMan_2 (by decide) ?_
  obtain ⟨r1, hr1, hf⟩ := bd_of hf
  refine x_callVi X hP hS hG_T.1 (by omega) rfl (n := 2) (As := [.int 1, .int 60]) (ct_X4_readNumber hG_T hr1) gX4_readMan_X4_readNumber rfl (by decide +kernel) ⟨by decide, by decide⟩ rfl hl.1 rfl (Nat.le_of_ble_eq_true rfl) dX4_readMan_4 (fun E H locs hp hP hS => ?_)
  obtain ⟨hW_T, hk⟩ := hp
  have hG_T := hW_T
  have hG_t := Mu_kept hG_t (fun j h8 h9 => hk j (by omega))
  have hfr : ∀ j, (j < 42 ∨ 44 ≤ j) → (j < 35 ∨ 42 ≤ j) → E j = E0 j := fun j o0 o1 => (hk j (by omega)).trans (hfr j o0 o1)
  obtain ⟨x2, ex2, hf⟩ := nm_of hf
  refine lv_top_as ex2 ?_
  refine lv_istore_n (lv' := [(2, .int x2), (0, .ref (qa 42)), (1, .ref (qa 35))]) X.1 X.2.1 dX4_readMan_7 rfl hl (by decide) rfl (fun ls hl => ?_)
  refine lv_iload_n X.1 X.2.1 dX4_readMan_8 rfl (lv_at hl 0 rfl) ?_
  refine lv_if_ge (tgt := 14) X.1 X.2.1 dX4_readMan_9 (by decide) (fun c3 => ?_) (fun c3 => ?_)
  · have hf := ifp hf c3
    refine lv_aload_n X.1 X.2.1 dX4_readMan_14 rfl (lv_at hl 1 rfl) ?_
    refine lv_bipush (v := 45) X.1 X.2.1 dX4_readMan_15 (by decide) ?_
    obtain ⟨r4, hr4, hf⟩ := bd_of hf
    refine x_callVi X hP hS hG_T.1 (by omega) rfl (n := 1) (As := [.int 45]) (ct_X4_takes hG_T hr4) gX4_readMan_X4_takes rfl (by decide +kernel) ⟨by decide, by decide⟩ rfl hl.1 rfl (Nat.le_of_ble_eq_true rfl) dX4_readMan_17 (fun E H locs hp hP hS => ?_)
    obtain ⟨hW_T, hk⟩ := hp
    have hG_T := hW_T
    have hG_t := Mu_kept hG_t (fun j h8 h9 => hk j (by omega))
    have hfr : ∀ j, (j < 42 ∨ 44 ≤ j) → (j < 35 ∨ 42 ≤ j) → E j = E0 j := fun j o0 o1 => (hk j (by omega)).trans (hfr j o0 o1)
    refine lv_if_eq (tgt := 32) X.1 X.2.1 dX4_readMan_20 (by decide) (fun c5 => ?_) (fun c5 => ?_)
    · have hf := ifp hf c5
      refine lv_iconst (v := 0) X.1 X.2.1 dX4_readMan_32 (by decide) ?_
      refine lv_istore_n (lv' := [(3, .int 0), (2, .int x2), (0, .ref (qa 42)), (1, .ref (qa 35))]) X.1 X.2.1 dX4_readMan_33 rfl hl (by decide) rfl (fun ls hl => ?_)
      refine lv_iload_n X.1 X.2.1 dX4_readMan_34 rfl (lv_at hl 0 rfl) ?_
      refine lv_if_ge (tgt := 40) X.1 X.2.1 dX4_readMan_35 (by decide) (fun _ => ?_) (fun q => absurd (by decide) q)
      refine lv_aload_n X.1 X.2.1 dX4_readMan_40 rfl (lv_at hl 3 rfl) ?_
      refine lv_iload_n X.1 X.2.1 dX4_readMan_41 rfl (lv_at hl 1 rfl) ?_
      refine lv_iload_n X.1 X.2.1 dX4_readMan_42 rfl (lv_at hl 1 rfl) ?_
      refine lv_iload_n X.1 X.2.1 dX4_readMan_43 rfl (lv_at hl 0 rfl) ?_
      refine lv_isub X.1 X.2.1 dX4_readMan_44 ?_
      obtain ⟨r6, hr6, hf⟩ := bd_of hf
      refine x_callVi X hP hS hG_t.1 (by omega) rfl (n := 2) (As := [.int x2, .int (x2 - 0)]) (ct_X1_addMan (by omega) hG_t hr6) gX4_readMan_X1_addMan rfl (by decide +kernel) ⟨by decide, by decide⟩ rfl hl.1 rfl (Nat.le_of_ble_eq_true rfl) dX4_readMan_45 (fun E H locs hp hP hS => ?_)
      obtain ⟨hW_n, hk⟩ := hp
      have hG_t := hW_n
      have hG_T := Ta_kept hG_T (fun j h8 h9 => hk j (by omega))
      have hfr : ∀ j, (j < 42 ∨ 44 ≤ j) → (j < 35 ∨ 42 ≤ j) → E j = E0 j := fun j o0 o1 => (hk j (by omega)).trans (hfr j o0 o1)
      refine lv_pop X.1 X.2.1 dX4_readMan_48 rfl ?_
      refine lv_iconst (v := 1) X.1 X.2.1 dX4_readMan_49 (by decide) ?_
      obtain rfl := Option.some.inj hf
      exact hret _ _ _ _ _ _ dX4_readMan_50 rfl rfl (⟨hG_T, hG_t, hfr⟩) hP hS
    · have hf := ifn hf c5
      refine lv_aload_n X.1 X.2.1 dX4_readMan_23 rfl (lv_at hl 1 rfl) ?_
      refine lv_iconst (v := 0) X.1 X.2.1 dX4_readMan_24 (by decide) ?_
      refine lv_iload_n X.1 X.2.1 dX4_readMan_25 rfl (lv_at hl 0 rfl) ?_
      obtain ⟨r7, hr7, hf⟩ := bd_of hf
      refine x_callVi X hP hS hG_T.1 (by omega) rfl (n := 2) (As := [.int 0, .int x2]) (ct_X4_readNumber hG_T hr7) gX4_readMan_X4_readNumber rfl (by decide +kernel) ⟨by decide, by decide⟩ rfl hl.1 rfl (Nat.le_of_ble_eq_true rfl) dX4_readMan_26 (fun E H locs hp hP hS => ?_)
      obtain ⟨hW_T, hk⟩ := hp
      have hG_T := hW_T
      have hG_t := Mu_kept hG_t (fun j h8 h9 => hk j (by omega))
      have hfr : ∀ j, (j < 42 ∨ 44 ≤ j) → (j < 35 ∨ 42 ≤ j) → E j = E0 j := fun j o0 o1 => (hk j (by omega)).trans (hfr j o0 o1)
      refine lv_goto (tgt := 33) X.1 X.2.1 dX4_readMan_29 (by decide) ?_
      obtain ⟨x8, ex8, hf⟩ := nm_of hf
      refine lv_top_as ex8 ?_
      refine lv_istore_n (lv' := [(3, .int x8), (2, .int x2), (0, .ref (qa 42)), (1, .ref (qa 35))]) X.1 X.2.1 dX4_readMan_33 rfl hl (by decide) rfl (fun ls hl => ?_)
      refine lv_iload_n X.1 X.2.1 dX4_readMan_34 rfl (lv_at hl 0 rfl) ?_
      refine lv_if_ge (tgt := 40) X.1 X.2.1 dX4_readMan_35 (by decide) (fun c9 => ?_) (fun c9 => ?_)
      · have hf := ifp hf c9
        refine lv_aload_n X.1 X.2.1 dX4_readMan_40 rfl (lv_at hl 3 rfl) ?_
        refine lv_iload_n X.1 X.2.1 dX4_readMan_41 rfl (lv_at hl 1 rfl) ?_
        refine lv_iload_n X.1 X.2.1 dX4_readMan_42 rfl (lv_at hl 1 rfl) ?_
        refine lv_iload_n X.1 X.2.1 dX4_readMan_43 rfl (lv_at hl 0 rfl) ?_
        refine lv_isub X.1 X.2.1 dX4_readMan_44 ?_
        obtain ⟨r10, hr10, hf⟩ := bd_of hf
        refine x_callVi X hP hS hG_t.1 (by omega) rfl (n := 2) (As := [.int x2, .int (x2 - x8)]) (ct_X1_addMan (by omega) hG_t hr10) gX4_readMan_X1_addMan rfl (by decide +kernel) ⟨by decide, by decide⟩ rfl hl.1 rfl (Nat.le_of_ble_eq_true rfl) dX4_readMan_45 (fun E H locs hp hP hS => ?_)
        obtain ⟨hW_n, hk⟩ := hp
        have hG_t := hW_n
        have hG_T := Ta_kept hG_T (fun j h8 h9 => hk j (by omega))
        have hfr : ∀ j, (j < 42 ∨ 44 ≤ j) → (j < 35 ∨ 42 ≤ j) → E j = E0 j := fun j o0 o1 => (hk j (by omega)).trans (hfr j o0 o1)
        refine lv_pop X.1 X.2.1 dX4_readMan_48 rfl ?_
        refine lv_iconst (v := 1) X.1 X.2.1 dX4_readMan_49 (by decide) ?_
        obtain rfl := Option.some.inj hf
        exact hret _ _ _ _ _ _ dX4_readMan_50 rfl rfl (⟨hG_T, hG_t, hfr⟩) hP hS
      · have hf := ifn hf c9
        refine lv_iconst (v := 0) X.1 X.2.1 dX4_readMan_38 (by decide) ?_
        obtain rfl := Option.some.inj hf
        exact hret _ _ _ _ _ _ dX4_readMan_39 rfl rfl (⟨hG_T, hG_t, hfr⟩) hP hS
  · have hf := ifn hf c3
    refine lv_iconst (v := 0) X.1 X.2.1 dX4_readMan_12 (by decide) ?_
    obtain rfl := Option.some.inj hf
    exact hret _ _ _ _ _ _ dX4_readMan_13 rfl rfl (⟨hG_T, hG_t, hfr⟩) hP hS
def fX4_readManOf  (ln_T : Int32) (plc_T : Int32) (ltr_T : Nat → Int32) (men_t : Int32) : Option (Int32 × Int32) := (fX4_nextLetter ln_T plc_T ltr_T).bind (fun r1 => nm (r1.1) (fun x2 => (fX4_isDigit x2).bind (fun r3 => if r3 = 0 then (some ((-1), r1.2)) else ((fX1_hasMan (x2 - 48) men_t).bind (fun r5 => if r5 = 0 then (some ((-1), r1.2)) else (some (x2 - 48, r1.2 + 1)))))))
theorem in_X4_readManOf_X4 : ∀ w ∈ wsX40, w ∈ wsX4_readManOf := by decide +kernel
set_option maxHeartbeats 4000000 in
set_option maxRecDepth 100000 in
theorem ct_X4_readManOf {l : Launch} {D : va_G} {g : Nat → ClassId} {qa : Nat → Nat} {E0 : Nat → va_E} {ln_T : Int32} {plc_T : Int32} {ltr_T : Nat → Int32} {men_t : Int32} {md_t : Int32} {day_t : Int32} {drw_t : Int32} {bu_t : Nat → Int32} {st_t : Nat → Int32} {ki_t : Nat → Int32} {we_t : Nat → Int32} {wo_t : Nat → Int32} {wr_t : Nat → Int32} (hG_T : Ta g qa E0 42 ln_T plc_T ltr_T) (hG_t : Mu g qa E0 35 men_t md_t day_t drw_t bu_t st_t ki_t we_t wo_t wr_t) {R : (Int32 × Int32)} (hf : fX4_readManOf ln_T plc_T ltr_T men_t = some R) : MI l yX4_readManOf wsX4_readManOf 2 D g qa E0 [.ref (qa 42), .ref (qa 35)] R.1 (fun E => Ta g qa E 42 ln_T R.2 ltr_T ∧ ∀ j, (j < 42 ∨ 44 ≤ j) → E j = E0 j) := by
  refine MI.mk (by decide) rfl (Nat.le_of_ble_eq_true rfl) ?_
  intro p e s m args below meth c ls Q X hret hP hS hl
  have hl : lv_has ls 3 [(0, .ref (qa 42)), (1, .ref (qa 35))] := hl
  have hfr : ∀ j, (j < 42 ∨ 44 ≤ j) → E0 j = E0 j := fun _ _ => rfl
  rw [fX4_readManOf] at hf
  refine lv_aload_n X.1 X.2.1 dX4_readManOf_0 rfl (lv_at hl 0 rfl) ?_
  obtain ⟨r1, hr1, hf⟩ := bd_of hf
  refine x_callVi X hP hS hG_T.1 (by omega) rfl (n := 0) (As := []) (ct_X4_nextLetter hG_T hr1) gX4_readManOf_X4_nextLetter rfl (by decide +kernel) ⟨by decide, by decide⟩ rfl hl.1 rfl (Nat.le_of_ble_eq_true rfl) dX4_readManOf_1 (fun E H locs hp hP hS => ?_)
  obtain ⟨hW_T, hk⟩ := hp
  have hG_T := hW_T
  have hG_t := Mu_kept hG_t (fun j h8 h9 => hk j (by omega))
  have hfr : ∀ j, (j < 42 ∨ 44 ≤ j) → E j = E0 j := fun j o0 => (hk j (by omega)).trans (hfr j o0)
  obtain ⟨x2, ex2, hf⟩ := nm_of hf
  refine lv_top_as ex2 ?_
  refine lv_istore_n (lv' := [(2, .int x2), (0, .ref (qa 42)), (1, .ref (qa 35))]) X.1 X.2.1 dX4_readManOf_4 rfl hl (by decide) rfl (fun ls hl => ?_)
  refine lv_iload_n X.1 X.2.1 dX4_readManOf_5 rfl (lv_at hl 0 rfl) ?_
  obtain ⟨r3, hr3, hf⟩ := bd_of hf
  refine x_rdSi X hP hS (index := 67) (n := 1) (As := [.int x2]) (ct_X4_isDigit  hr3) ggX4_readManOf_X4_isDigit (by decide +kernel) (by decide +kernel) (by decide +kernel) rfl (by decide +kernel) ⟨by decide, by decide⟩ rfl hl.1 rfl (Nat.le_of_ble_eq_true rfl) dX4_readManOf_6 (fun H locs hP hS => ?_)
  refine lv_if_eq (tgt := 23) X.1 X.2.1 dX4_readManOf_9 (by decide) (fun c4 => ?_) (fun c4 => ?_)
  · have hf := ifp hf c4
    refine lv_iconst (v := (-1)) X.1 X.2.1 dX4_readManOf_23 (by decide) ?_
    obtain rfl := Option.some.inj hf
    exact hret _ _ _ _ _ _ dX4_readManOf_24 rfl rfl (⟨hG_T, hfr⟩) hP hS
  · have hf := ifn hf c4
    refine lv_aload_n X.1 X.2.1 dX4_readManOf_12 rfl (lv_at hl 2 rfl) ?_
    refine lv_iload_n X.1 X.2.1 dX4_readManOf_13 rfl (lv_at hl 0 rfl) ?_
    refine lv_bipush (v := 48) X.1 X.2.1 dX4_readManOf_14 (by decide) ?_
    refine lv_isub X.1 X.2.1 dX4_readManOf_16 ?_
    obtain ⟨r5, hr5, hf⟩ := bd_of hf
    refine x_rdVi X hP hS hG_t.1 (by omega) rfl (n := 1) (As := [.int (x2 - 48)]) (ct_X1_hasMan (by omega) hG_t hr5) gX4_readManOf_X1_hasMan rfl (by decide +kernel) ⟨by decide, by decide⟩ rfl hl.1 rfl (Nat.le_of_ble_eq_true rfl) dX4_readManOf_17 (fun H locs hP hS => ?_)
    refine lv_if_ne (tgt := 25) X.1 X.2.1 dX4_readManOf_20 (by decide) (fun c6 => ?_) (fun c6 => ?_)
    · have hf := ifn hf c6
      refine lv_aload_n X.1 X.2.1 dX4_readManOf_25 rfl (lv_at hl 1 rfl) ?_
      refine lv_dup X.1 X.2.1 dX4_readManOf_26 rfl ?_
      refine x_get X hP hG_T.1 (by omega) rfl in_X4_readManOf_X4 2 (by decide) (by decide +kernel) rfl rfl dX4_readManOf_27 ?_
      refine lv_iconst (v := 1) X.1 X.2.1 dX4_readManOf_30 (by decide) ?_
      refine lv_iadd X.1 X.2.1 dX4_readManOf_31 ?_
      refine x_put (ty := .int) X hP hS hG_T.1 (by omega) rfl in_X4_readManOf_X4 tyX4 tyX4_ok nmX4 2 (by decide) (by decide +kernel) rfl rfl (by decide +kernel) rfl rfl (Nat.le_of_ble_eq_true rfl) dX4_readManOf_32 (fun E H locs h1 hk hP hS => ?_)
      have hG_T := Ta_set_0 hG_T h1 hk
      have hG_t := Mu_kept hG_t (fun j h8 h9 => hk j (by omega))
      have hfr : ∀ j, (j < 42 ∨ 44 ≤ j) → E j = E0 j := fun j o0 => (hk j (by omega)).trans (hfr j o0)
      refine lv_iload_n X.1 X.2.1 dX4_readManOf_35 rfl (lv_at hl 0 rfl) ?_
      refine lv_bipush (v := 48) X.1 X.2.1 dX4_readManOf_36 (by decide) ?_
      refine lv_isub X.1 X.2.1 dX4_readManOf_38 ?_
      obtain rfl := Option.some.inj hf
      exact hret _ _ _ _ _ _ dX4_readManOf_39 rfl rfl (⟨hG_T, hfr⟩) hP hS
    · have hf := ifp hf c6
      refine lv_iconst (v := (-1)) X.1 X.2.1 dX4_readManOf_23 (by decide) ?_
      obtain rfl := Option.some.inj hf
      exact hret _ _ _ _ _ _ dX4_readManOf_24 rfl rfl (⟨hG_T, hfr⟩) hP hS
def fX4_readMedal  (ln_T : Int32) (plc_T : Int32) (ltr_T : Nat → Int32) (men_t : Int32) (md_t : Int32) (ki_t : Nat → Int32) (we_t : Nat → Int32) (wo_t : Nat → Int32) (wr_t : Nat → Int32) : Option (Int32 × Int32 × Int32 × (Nat → Int32) × (Nat → Int32) × (Nat → Int32) × (Nat → Int32)) := (fX4_nextLetter ln_T plc_T ltr_T).bind (fun r1 => (fX4_kindOf r1.1).bind (fun r2 => if 0 ≤ r2 then ((fX4_readNumber 1 20 ln_T (r1.2 + 1) ltr_T).bind (fun r4 => nm (r4.1) (fun x5 => if x5 < 0 then (some (0, r4.2, md_t, ki_t, we_t, wo_t, wr_t)) else ((fX4_takes 58 ln_T r4.2 ltr_T).bind (fun r7 => if r7.1 = 0 then (some (0, r7.2, md_t, ki_t, we_t, wo_t, wr_t)) else ((fX4_readManOf ln_T r7.2 ltr_T men_t).bind (fun r9 => nm (r9.1) (fun x10 => if 0 ≤ x10 then ((fX4_takes 64 ln_T r9.2 ltr_T).bind (fun r12 => if r12.1 = 0 then ((fX1_addMedal r2 x5 x10 (-4) md_t ki_t we_t wo_t wr_t).bind (fun r14 => some (1, r12.2, r14.2.1, r14.2.2.1, r14.2.2.2.1, r14.2.2.2.2.1, r14.2.2.2.2.2))) else ((fX4_readManOf ln_T r12.2 ltr_T men_t).bind (fun r15 => nm (r15.1) (fun x16 => if 0 ≤ x16 then ((fX1_addMedal r2 x5 x10 x16 md_t ki_t we_t wo_t wr_t).bind (fun r18 => some (1, r15.2, r18.2.1, r18.2.2.1, r18.2.2.2.1, r18.2.2.2.2.1, r18.2.2.2.2.2))) else (some (0, r15.2, md_t, ki_t, we_t, wo_t, wr_t))))))) else (some (0, r9.2, md_t, ki_t, we_t, wo_t, wr_t)))))))))) else (some (0, r1.2, md_t, ki_t, we_t, wo_t, wr_t))))
theorem in_X4_readMedal_X4 : ∀ w ∈ wsX40, w ∈ wsX4_readMedal := by decide +kernel
set_option maxHeartbeats 4000000 in
set_option maxRecDepth 100000 in
theorem ct_X4_readMedal {l : Launch} {D : va_G} {g : Nat → ClassId} {qa : Nat → Nat} {E0 : Nat → va_E} {ln_T : Int32} {plc_T : Int32} {ltr_T : Nat → Int32} {men_t : Int32} {md_t : Int32} {day_t : Int32} {drw_t : Int32} {bu_t : Nat → Int32} {st_t : Nat → Int32} {ki_t : Nat → Int32} {we_t : Nat → Int32} {wo_t : Nat → Int32} {wr_t : Nat → Int32} (hG_T : Ta g qa E0 42 ln_T plc_T ltr_T) (hG_t : Mu g qa E0 35 men_t md_t day_t drw_t bu_t st_t ki_t we_t wo_t wr_t) {R : (Int32 × Int32 × Int32 × (Nat → Int32) × (Nat → Int32) × (Nat → Int32) × (Nat → Int32))} (hf : fX4_readMedal ln_T plc_T ltr_T men_t md_t ki_t we_t wo_t wr_t = some R) : MI l yX4_readMedal wsX4_readMedal 3 D g qa E0 [.ref (qa 42), .ref (qa 35)] R.1 (fun E => Ta g qa E 42 ln_T R.2.1 ltr_T ∧ Mu g qa E 35 men_t R.2.2.1 day_t drw_t bu_t st_t R.2.2.2.1 R.2.2.2.2.1 R.2.2.2.2.2.1 R.2.2.2.2.2.2 ∧ ∀ j, (j < 42 ∨ 44 ≤ j) → (j < 35 ∨ 42 ≤ j) → E j = E0 j) := by
  refine MI.mk (by decide) rfl (Nat.le_of_ble_eq_true rfl) ?_
  intro p e s m args below meth c ls Q X hret hP hS hl
  have hl : lv_has ls 6 [(0, .ref (qa 42)), (1, .ref (qa 35))] := hl
  have hfr : ∀ j, (j < 42 ∨ 44 ≤ j) → (j < 35 ∨ 42 ≤ j) → E0 j = E0 j := fun _ _ _ => rfl
  rw [fX4_readMedal] at hf
  refine lv_aload_n X.1 X.2.1 dX4_readMedal_0 rfl (lv_at hl 0 rfl) ?_
  obtain ⟨r1, hr1, hf⟩ := bd_of hf
  refine x_callVi X hP hS hG_T.1 (by omega) rfl (n := 0) (As := []) (ct_X4_nextLetter hG_T hr1) gX4_readMedal_X4_nextLetter rfl (by decide +kernel) ⟨by decide, by decide⟩ rfl hl.1 rfl (Nat.le_of_ble_eq_true rfl) dX4_readMedal_1 (fun E H locs hp hP hS => ?_)
  obtain ⟨hW_T, hk⟩ := hp
  have hG_T := hW_T
  have hG_t := Mu_kept hG_t (fun j h8 h9 => hk j (by omega))
  have hfr : ∀ j, (j < 42 ∨ 44 ≤ j) → (j < 35 ∨ 42 ≤ j) → E j = E0 j := fun j o0 o1 => (hk j (by omega)).trans (hfr j o0 o1)
  obtain ⟨r2, hr2, hf⟩ := bd_of hf
  refine x_rdSi X hP hS (index := 52) (n := 1) (As := [.int r1.1]) (ct_X4_kindOf  hr2) ggX4_readMedal_X4_kindOf (by decide +kernel) (by decide +kernel) (by decide +kernel) rfl (by decide +kernel) ⟨by decide, by decide⟩ rfl hl.1 rfl (Nat.le_of_ble_eq_true rfl) dX4_readMedal_4 (fun H locs hP hS => ?_)
  refine lv_istore_n (lv' := [(2, .int r2), (0, .ref (qa 42)), (1, .ref (qa 35))]) X.1 X.2.1 dX4_readMedal_7 rfl hl (by decide) rfl (fun ls hl => ?_)
  refine lv_iload_n X.1 X.2.1 dX4_readMedal_8 rfl (lv_at hl 0 rfl) ?_
  refine lv_if_ge (tgt := 14) X.1 X.2.1 dX4_readMedal_9 (by decide) (fun c3 => ?_) (fun c3 => ?_)
  · have hf := ifp hf c3
    refine lv_aload_n X.1 X.2.1 dX4_readMedal_14 rfl (lv_at hl 1 rfl) ?_
    refine lv_dup X.1 X.2.1 dX4_readMedal_15 rfl ?_
    refine x_get X hP hG_T.1 (by omega) rfl in_X4_readMedal_X4 2 (by decide) (by decide +kernel) rfl rfl dX4_readMedal_16 ?_
    refine lv_iconst (v := 1) X.1 X.2.1 dX4_readMedal_19 (by decide) ?_
    refine lv_iadd X.1 X.2.1 dX4_readMedal_20 ?_
    refine x_put (ty := .int) X hP hS hG_T.1 (by omega) rfl in_X4_readMedal_X4 tyX4 tyX4_ok nmX4 2 (by decide) (by decide +kernel) rfl rfl (by decide +kernel) rfl rfl (Nat.le_of_ble_eq_true rfl) dX4_readMedal_21 (fun E H locs h1 hk hP hS => ?_)
    have hG_T := Ta_set_0 hG_T h1 hk
    have hG_t := Mu_kept hG_t (fun j h8 h9 => hk j (by omega))
    have hfr : ∀ j, (j < 42 ∨ 44 ≤ j) → (j < 35 ∨ 42 ≤ j) → E j = E0 j := fun j o0 o1 => (hk j (by omega)).trans (hfr j o0 o1)
    refine lv_aload_n X.1 X.2.1 dX4_readMedal_24 rfl (lv_at hl 1 rfl) ?_
    refine lv_iconst (v := 1) X.1 X.2.1 dX4_readMedal_25 (by decide) ?_
    refine lv_bipush (v := 20) X.1 X.2.1 dX4_readMedal_26 (by decide) ?_
    obtain ⟨r4, hr4, hf⟩ := bd_of hf
    refine x_callVi X hP hS hG_T.1 (by omega) rfl (n := 2) (As := [.int 1, .int 20]) (ct_X4_readNumber hG_T hr4) gX4_readMedal_X4_readNumber rfl (by decide +kernel) ⟨by decide, by decide⟩ rfl hl.1 rfl (Nat.le_of_ble_eq_true rfl) dX4_readMedal_28 (fun E H locs hp hP hS => ?_)
    obtain ⟨hW_T, hk⟩ := hp
    have hG_T := hW_T
    have hG_t := Mu_kept hG_t (fun j h8 h9 => hk j (by omega))
    have hfr : ∀ j, (j < 42 ∨ 44 ≤ j) → (j < 35 ∨ 42 ≤ j) → E j = E0 j := fun j o0 o1 => (hk j (by omega)).trans (hfr j o0 o1)
    obtain ⟨x5, ex5, hf⟩ := nm_of hf
    refine lv_top_as ex5 ?_
    refine lv_istore_n (lv' := [(3, .int x5), (2, .int r2), (0, .ref (qa 42)), (1, .ref (qa 35))]) X.1 X.2.1 dX4_readMedal_31 rfl hl (by decide) rfl (fun ls hl => ?_)
    refine lv_iload_n X.1 X.2.1 dX4_readMedal_32 rfl (lv_at hl 0 rfl) ?_
    refine lv_if_lt (tgt := 45) X.1 X.2.1 dX4_readMedal_33 (by decide) (fun c6 => ?_) (fun c6 => ?_)
    · have hf := ifp hf c6
      refine lv_iconst (v := 0) X.1 X.2.1 dX4_readMedal_45 (by decide) ?_
      obtain rfl := Option.some.inj hf
      exact hret _ _ _ _ _ _ dX4_readMedal_46 rfl rfl (⟨hG_T, hG_t, hfr⟩) hP hS
    · have hf := ifn hf c6
      refine lv_aload_n X.1 X.2.1 dX4_readMedal_36 rfl (lv_at hl 2 rfl) ?_
      refine lv_bipush (v := 58) X.1 X.2.1 dX4_readMedal_37 (by decide) ?_
      obtain ⟨r7, hr7, hf⟩ := bd_of hf
      refine x_callVi X hP hS hG_T.1 (by omega) rfl (n := 1) (As := [.int 58]) (ct_X4_takes hG_T hr7) gX4_readMedal_X4_takes rfl (by decide +kernel) ⟨by decide, by decide⟩ rfl hl.1 rfl (Nat.le_of_ble_eq_true rfl) dX4_readMedal_39 (fun E H locs hp hP hS => ?_)
      obtain ⟨hW_T, hk⟩ := hp
      have hG_T := hW_T
      have hG_t := Mu_kept hG_t (fun j h8 h9 => hk j (by omega))
      have hfr : ∀ j, (j < 42 ∨ 44 ≤ j) → (j < 35 ∨ 42 ≤ j) → E j = E0 j := fun j o0 o1 => (hk j (by omega)).trans (hfr j o0 o1)
      refine lv_if_ne (tgt := 47) X.1 X.2.1 dX4_readMedal_42 (by decide) (fun c8 => ?_) (fun c8 => ?_)
      · have hf := ifn hf c8
        refine lv_aload_n X.1 X.2.1 dX4_readMedal_47 rfl (lv_at hl 2 rfl) ?_
        refine lv_aload_n X.1 X.2.1 dX4_readMedal_48 rfl (lv_at hl 3 rfl) ?_
        obtain ⟨r9, hr9, hf⟩ := bd_of hf
        refine x_callVi X hP hS hG_T.1 (by omega) rfl (n := 1) (As := [.ref (qa 35)]) (ct_X4_readManOf hG_T hG_t hr9) gX4_readMedal_X4_readManOf rfl (by decide +kernel) ⟨by decide, by decide⟩ rfl hl.1 rfl (Nat.le_of_ble_eq_true rfl) dX4_readMedal_49 (fun E H locs hp hP hS => ?_)
        obtain ⟨hW_T, hk⟩ := hp
        have hG_T := hW_T
        have hG_t := Mu_kept hG_t (fun j h8 h9 => hk j (by omega))
        have hfr : ∀ j, (j < 42 ∨ 44 ≤ j) → (j < 35 ∨ 42 ≤ j) → E j = E0 j := fun j o0 o1 => (hk j (by omega)).trans (hfr j o0 o1)
        obtain ⟨x10, ex10, hf⟩ := nm_of hf
        refine lv_top_as ex10 ?_
        refine lv_istore (lv' := [(4, .int x10), (3, .int x5), (2, .int r2), (0, .ref (qa 42)), (1, .ref (qa 35))]) X.1 X.2.1 dX4_readMedal_52 hl (by decide) rfl (fun ls hl => ?_)
        refine lv_iload X.1 X.2.1 dX4_readMedal_54 (lv_at hl 0 rfl) ?_
        refine lv_if_ge (tgt := 61) X.1 X.2.1 dX4_readMedal_56 (by decide) (fun c11 => ?_) (fun c11 => ?_)
        · have hf := ifp hf c11
          refine lv_bipush (v := (-4)) X.1 X.2.1 dX4_readMedal_61 (by decide) ?_
          refine lv_istore (lv' := [(5, .int (-4)), (4, .int x10), (3, .int x5), (2, .int r2), (0, .ref (qa 42)), (1, .ref (qa 35))]) X.1 X.2.1 dX4_readMedal_63 hl (by decide) rfl (fun ls hl => ?_)
          refine lv_aload_n X.1 X.2.1 dX4_readMedal_65 rfl (lv_at hl 4 rfl) ?_
          refine lv_bipush (v := 64) X.1 X.2.1 dX4_readMedal_66 (by decide) ?_
          obtain ⟨r12, hr12, hf⟩ := bd_of hf
          refine x_callVi X hP hS hG_T.1 (by omega) rfl (n := 1) (As := [.int 64]) (ct_X4_takes hG_T hr12) gX4_readMedal_X4_takes rfl (by decide +kernel) ⟨by decide, by decide⟩ rfl hl.1 rfl (Nat.le_of_ble_eq_true rfl) dX4_readMedal_68 (fun E H locs hp hP hS => ?_)
          obtain ⟨hW_T, hk⟩ := hp
          have hG_T := hW_T
          have hG_t := Mu_kept hG_t (fun j h8 h9 => hk j (by omega))
          have hfr : ∀ j, (j < 42 ∨ 44 ≤ j) → (j < 35 ∨ 42 ≤ j) → E j = E0 j := fun j o0 o1 => (hk j (by omega)).trans (hfr j o0 o1)
          refine lv_if_eq (tgt := 88) X.1 X.2.1 dX4_readMedal_71 (by decide) (fun c13 => ?_) (fun c13 => ?_)
          · have hf := ifp hf c13
            refine lv_aload_n X.1 X.2.1 dX4_readMedal_88 rfl (lv_at hl 5 rfl) ?_
            refine lv_iload_n X.1 X.2.1 dX4_readMedal_89 rfl (lv_at hl 3 rfl) ?_
            refine lv_iload_n X.1 X.2.1 dX4_readMedal_90 rfl (lv_at hl 2 rfl) ?_
            refine lv_iload X.1 X.2.1 dX4_readMedal_91 (lv_at hl 1 rfl) ?_
            refine lv_iload X.1 X.2.1 dX4_readMedal_93 (lv_at hl 0 rfl) ?_
            obtain ⟨r14, hr14, hf⟩ := bd_of hf
            refine x_callVi X hP hS hG_t.1 (by omega) rfl (n := 4) (As := [.int r2, .int x5, .int x10, .int (-4)]) (ct_X1_addMedal (by omega) hG_t hr14) gX4_readMedal_X1_addMedal rfl (by decide +kernel) ⟨by decide, by decide⟩ rfl hl.1 rfl (Nat.le_of_ble_eq_true rfl) dX4_readMedal_95 (fun E H locs hp hP hS => ?_)
            obtain ⟨hW_n, hk⟩ := hp
            have hG_t := hW_n
            have hG_T := Ta_kept hG_T (fun j h8 h9 => hk j (by omega))
            have hfr : ∀ j, (j < 42 ∨ 44 ≤ j) → (j < 35 ∨ 42 ≤ j) → E j = E0 j := fun j o0 o1 => (hk j (by omega)).trans (hfr j o0 o1)
            refine lv_pop X.1 X.2.1 dX4_readMedal_98 rfl ?_
            refine lv_iconst (v := 1) X.1 X.2.1 dX4_readMedal_99 (by decide) ?_
            obtain rfl := Option.some.inj hf
            exact hret _ _ _ _ _ _ dX4_readMedal_100 rfl rfl (⟨hG_T, hG_t, hfr⟩) hP hS
          · have hf := ifn hf c13
            refine lv_aload_n X.1 X.2.1 dX4_readMedal_74 rfl (lv_at hl 4 rfl) ?_
            refine lv_aload_n X.1 X.2.1 dX4_readMedal_75 rfl (lv_at hl 5 rfl) ?_
            obtain ⟨r15, hr15, hf⟩ := bd_of hf
            refine x_callVi X hP hS hG_T.1 (by omega) rfl (n := 1) (As := [.ref (qa 35)]) (ct_X4_readManOf hG_T hG_t hr15) gX4_readMedal_X4_readManOf rfl (by decide +kernel) ⟨by decide, by decide⟩ rfl hl.1 rfl (Nat.le_of_ble_eq_true rfl) dX4_readMedal_76 (fun E H locs hp hP hS => ?_)
            obtain ⟨hW_T, hk⟩ := hp
            have hG_T := hW_T
            have hG_t := Mu_kept hG_t (fun j h8 h9 => hk j (by omega))
            have hfr : ∀ j, (j < 42 ∨ 44 ≤ j) → (j < 35 ∨ 42 ≤ j) → E j = E0 j := fun j o0 o1 => (hk j (by omega)).trans (hfr j o0 o1)
            obtain ⟨x16, ex16, hf⟩ := nm_of hf
            refine lv_top_as ex16 ?_
            refine lv_istore (lv' := [(5, .int x16), (4, .int x10), (3, .int x5), (2, .int r2), (0, .ref (qa 42)), (1, .ref (qa 35))]) X.1 X.2.1 dX4_readMedal_79 hl (by decide) rfl (fun ls hl => ?_)
            refine lv_iload X.1 X.2.1 dX4_readMedal_81 (lv_at hl 0 rfl) ?_
            refine lv_if_ge (tgt := 88) X.1 X.2.1 dX4_readMedal_83 (by decide) (fun c17 => ?_) (fun c17 => ?_)
            · have hf := ifp hf c17
              refine lv_aload_n X.1 X.2.1 dX4_readMedal_88 rfl (lv_at hl 5 rfl) ?_
              refine lv_iload_n X.1 X.2.1 dX4_readMedal_89 rfl (lv_at hl 3 rfl) ?_
              refine lv_iload_n X.1 X.2.1 dX4_readMedal_90 rfl (lv_at hl 2 rfl) ?_
              refine lv_iload X.1 X.2.1 dX4_readMedal_91 (lv_at hl 1 rfl) ?_
              refine lv_iload X.1 X.2.1 dX4_readMedal_93 (lv_at hl 0 rfl) ?_
              obtain ⟨r18, hr18, hf⟩ := bd_of hf
              refine x_callVi X hP hS hG_t.1 (by omega) rfl (n := 4) (As := [.int r2, .int x5, .int x10, .int x16]) (ct_X1_addMedal (by omega) hG_t hr18) gX4_readMedal_X1_addMedal rfl (by decide +kernel) ⟨by decide, by decide⟩ rfl hl.1 rfl (Nat.le_of_ble_eq_true rfl) dX4_readMedal_95 (fun E H locs hp hP hS => ?_)
              obtain ⟨hW_n, hk⟩ := hp
              have hG_t := hW_n
              have hG_T := Ta_kept hG_T (fun j h8 h9 => hk j (by omega))
              have hfr : ∀ j, (j < 42 ∨ 44 ≤ j) → (j < 35 ∨ 42 ≤ j) → E j = E0 j := fun j o0 o1 => (hk j (by omega)).trans (hfr j o0 o1)
              refine lv_pop X.1 X.2.1 dX4_readMedal_98 rfl ?_
              refine lv_iconst (v := 1) X.1 X.2.1 dX4_readMedal_99 (by decide) ?_
              obtain rfl := Option.some.inj hf
              exact hret _ _ _ _ _ _ dX4_readMedal_100 rfl rfl (⟨hG_T, hG_t, hfr⟩) hP hS
            · have hf := ifn hf c17
              refine lv_iconst (v := 0) X.1 X.2.1 dX4_readMedal_86 (by decide) ?_
              obtain rfl := Option.some.inj hf
              exact hret _ _ _ _ _ _ dX4_readMedal_87 rfl rfl (⟨hG_T, hG_t, hfr⟩) hP hS
        · have hf := ifn hf c11
          refine lv_iconst (v := 0) X.1 X.2.1 dX4_readMedal_59 (by decide) ?_
          obtain rfl := Option.some.inj hf
          exact hret _ _ _ _ _ _ dX4_readMedal_60 rfl rfl (⟨hG_T, hG_t, hfr⟩) hP hS
      · have hf := ifp hf c8
        refine lv_iconst (v := 0) X.1 X.2.1 dX4_readMedal_45 (by decide) ?_
        obtain rfl := Option.some.inj hf
        exact hret _ _ _ _ _ _ dX4_readMedal_46 rfl rfl (⟨hG_T, hG_t, hfr⟩) hP hS
  · have hf := ifn hf c3
    refine lv_iconst (v := 0) X.1 X.2.1 dX4_readMedal_12 (by decide) ?_
    obtain rfl := Option.some.inj hf
    exact hret _ _ _ _ _ _ dX4_readMedal_13 rfl rfl (⟨hG_T, hG_t, hfr⟩) hP hS
def bX4_readMedals_2 (ln_T : Int32) (ltr_T : Nat → Int32) (men_t : Int32) (K1 : ((Int32 × Int32 × Int32 × (Nat → Int32) × (Nat → Int32) × (Nat → Int32) × (Nat → Int32))) → Option (Int32 × Int32 × Int32 × (Nat → Int32) × (Nat → Int32) × (Nat → Int32) × (Nat → Int32))) : ((Int32 × Int32 × Int32 × (Nat → Int32) × (Nat → Int32) × (Nat → Int32) × (Nat → Int32))) → Option (Int32 × Int32 × Int32 × (Nat → Int32) × (Nat → Int32) × (Nat → Int32) × (Nat → Int32))
  | (v2_1, plc_T_1, md_t_1, ki_t_1, we_t_1, wo_t_1, wr_t_1) => if 6 ≤ v2_1 then (some (1, plc_T_1, md_t_1, ki_t_1, we_t_1, wo_t_1, wr_t_1)) else ((fX4_readMedal ln_T plc_T_1 ltr_T men_t md_t_1 ki_t_1 we_t_1 wo_t_1 wr_t_1).bind (fun r3 => if r3.1 = 0 then (some (0, r3.2.1, r3.2.2.1, r3.2.2.2.1, r3.2.2.2.2.1, r3.2.2.2.2.2.1, r3.2.2.2.2.2.2)) else (if v2_1 = 5 then (some (1, r3.2.1, r3.2.2.1, r3.2.2.2.1, r3.2.2.2.2.1, r3.2.2.2.2.2.1, r3.2.2.2.2.2.2)) else ((fX4_takes 44 ln_T r3.2.1 ltr_T).bind (fun r6 => if r6.1 = 0 then (some (1, r6.2, r3.2.2.1, r3.2.2.2.1, r3.2.2.2.2.1, r3.2.2.2.2.2.1, r3.2.2.2.2.2.2)) else (nm (v2_1 + 1) (fun x8 => K1 (x8, r6.2, r3.2.2.1, r3.2.2.2.1, r3.2.2.2.2.1, r3.2.2.2.2.2.1, r3.2.2.2.2.2.2))))))))
def fX4_readMedals  (ln_T : Int32) (plc_T : Int32) (ltr_T : Nat → Int32) (men_t : Int32) (md_t : Int32) (ki_t : Nat → Int32) (we_t : Nat → Int32) (wo_t : Nat → Int32) (wr_t : Nat → Int32) : Option (Int32 × Int32 × Int32 × (Nat → Int32) × (Nat → Int32) × (Nat → Int32) × (Nat → Int32)) := lp (bX4_readMedals_2 ln_T ltr_T men_t) FU (0, plc_T, md_t, ki_t, we_t, wo_t, wr_t)
theorem in_X4_readMedals_X4 : ∀ w ∈ wsX40, w ∈ wsX4_readMedals := by decide +kernel
set_option maxHeartbeats 4000000 in
set_option maxRecDepth 100000 in
theorem ct_X4_readMedals {l : Launch} {D : va_G} {g : Nat → ClassId} {qa : Nat → Nat} {E0 : Nat → va_E} {ln_T : Int32} {plc_T : Int32} {ltr_T : Nat → Int32} {men_t : Int32} {md_t : Int32} {day_t : Int32} {drw_t : Int32} {bu_t : Nat → Int32} {st_t : Nat → Int32} {ki_t : Nat → Int32} {we_t : Nat → Int32} {wo_t : Nat → Int32} {wr_t : Nat → Int32} (hG_T : Ta g qa E0 42 ln_T plc_T ltr_T) (hG_t : Mu g qa E0 35 men_t md_t day_t drw_t bu_t st_t ki_t we_t wo_t wr_t) {R : (Int32 × Int32 × Int32 × (Nat → Int32) × (Nat → Int32) × (Nat → Int32) × (Nat → Int32))} (hf : fX4_readMedals ln_T plc_T ltr_T men_t md_t ki_t we_t wo_t wr_t = some R) : MI l yX4_readMedals wsX4_readMedals 4 D g qa E0 [.ref (qa 42), .ref (qa 35)] R.1 (fun E => Ta g qa E 42 ln_T R.2.1 ltr_T ∧ Mu g qa E 35 men_t R.2.2.1 day_t drw_t bu_t st_t R.2.2.2.1 R.2.2.2.2.1 R.2.2.2.2.2.1 R.2.2.2.2.2.2 ∧ ∀ j, (j < 42 ∨ 44 ≤ j) → (j < 35 ∨ 42 ≤ j) → E j = E0 j) := by
  refine MI.mk (by decide) rfl (Nat.le_of_ble_eq_true rfl) ?_
  intro p e s m args below meth c ls Q X hret hP hS hl
  have hl : lv_has ls 3 [(0, .ref (qa 42)), (1, .ref (qa 35))] := hl
  have hfr : ∀ j, (j < 42 ∨ 44 ≤ j) → (j < 35 ∨ 42 ≤ j) → E0 j = E0 j := fun _ _ _ => rfl
  rw [fX4_readMedals] at hf
  refine lv_iconst (v := 0) X.1 X.2.1 dX4_readMedals_0 (by decide) ?_
  refine lv_istore_n (lv' := [(2, .int 0), (0, .ref (qa 42)), (1, .ref (qa 35))]) X.1 X.2.1 dX4_readMedals_1 rfl hl (by decide) rfl (fun ls hl => ?_)
  have lp1 : ∀ (n1 : Nat) (v2_1 : Int32) (plc_T_1 : Int32) (md_t_1 : Int32) (ki_t_1 : Nat → Int32) (we_t_1 : Nat → Int32) (wo_t_1 : Nat → Int32) (wr_t_1 : Nat → Int32) (E : Nat → va_E) (H : Heap) (locs : List Loc) (ls : Array Slot), lp (bX4_readMedals_2 ln_T ltr_T men_t) n1 (v2_1, plc_T_1, md_t_1, ki_t_1, we_t_1, wo_t_1, wr_t_1) = some R → va_P D vwCl (WD qa E) H → va_S (gA qa s.heap.size) s.heap H locs → Ta g qa E 42 ln_T plc_T_1 ltr_T → Mu g qa E 35 men_t md_t_1 day_t drw_t bu_t st_t ki_t_1 we_t_1 wo_t_1 wr_t_1 → (∀ j, (j < 42 ∨ 44 ≤ j) → (j < 35 ∨ 42 ≤ j) → E j = E0 j) → lv_has ls 3 [(0, .ref (qa 42)), (1, .ref (qa 35)), (2, .int v2_1)] → W p l e (rmf 4) s m args below meth c H locs 0 0 Q (F0 m 2 ls []) := by
    intro n1
    induction n1 with
    | zero =>
      intro v2_1 plc_T_1 md_t_1 ki_t_1 we_t_1 wo_t_1 wr_t_1 E H locs ls hf
      exact absurd hf (by intro h; cases h)
    | succ n1 ih1 =>
      intro v2_1 plc_T_1 md_t_1 ki_t_1 we_t_1 wo_t_1 wr_t_1 E H locs ls hf hP hS hG_T hG_t hfr hl
      have hf : bX4_readMedals_2 ln_T ltr_T men_t (lp (bX4_readMedals_2 ln_T ltr_T men_t) n1) (v2_1, plc_T_1, md_t_1, ki_t_1, we_t_1, wo_t_1, wr_t_1) = some R := hf
      rw [bX4_readMedals_2] at hf
      refine lv_iload_n X.1 X.2.1 dX4_readMedals_2 rfl (lv_at hl 2 rfl) ?_
      refine lv_bipush (v := 6) X.1 X.2.1 dX4_readMedals_3 (by decide) ?_
      refine lv_icmp_ge (tgt := 40) X.1 X.2.1 dX4_readMedals_5 (by decide) (fun c2 => ?_) (fun c2 => ?_)
      · have hf := ifp hf c2
        refine lv_iconst (v := 1) X.1 X.2.1 dX4_readMedals_40 (by decide) ?_
        obtain rfl := Option.some.inj hf
        exact hret _ _ _ _ _ _ dX4_readMedals_41 rfl rfl (⟨hG_T, hG_t, hfr⟩) hP hS
      · have hf := ifn hf c2
        refine lv_aload_n X.1 X.2.1 dX4_readMedals_8 rfl (lv_at hl 0 rfl) ?_
        refine lv_aload_n X.1 X.2.1 dX4_readMedals_9 rfl (lv_at hl 1 rfl) ?_
        obtain ⟨r3, hr3, hf⟩ := bd_of hf
        refine x_callVi X hP hS hG_T.1 (by omega) rfl (n := 1) (As := [.ref (qa 35)]) (ct_X4_readMedal hG_T hG_t hr3) gX4_readMedals_X4_readMedal rfl (by decide +kernel) ⟨by decide, by decide⟩ rfl hl.1 rfl (Nat.le_of_ble_eq_true rfl) dX4_readMedals_10 (fun E H locs hp hP hS => ?_)
        obtain ⟨hW_T, hW_t, hk⟩ := hp
        have hG_T := hW_T
        have hG_t := hW_t
        have hfr : ∀ j, (j < 42 ∨ 44 ≤ j) → (j < 35 ∨ 42 ≤ j) → E j = E0 j := fun j o0 o1 => (hk j (by omega) (by omega)).trans (hfr j o0 o1)
        refine lv_if_ne (tgt := 18) X.1 X.2.1 dX4_readMedals_13 (by decide) (fun c4 => ?_) (fun c4 => ?_)
        · have hf := ifn hf c4
          refine lv_iload_n X.1 X.2.1 dX4_readMedals_18 rfl (lv_at hl 2 rfl) ?_
          refine lv_iconst (v := 5) X.1 X.2.1 dX4_readMedals_19 (by decide) ?_
          refine lv_icmp_eq (tgt := 32) X.1 X.2.1 dX4_readMedals_20 (by decide) (fun c5 => ?_) (fun c5 => ?_)
          · have hf := ifp hf c5
            refine lv_iconst (v := 1) X.1 X.2.1 dX4_readMedals_32 (by decide) ?_
            obtain rfl := Option.some.inj hf
            exact hret _ _ _ _ _ _ dX4_readMedals_33 rfl rfl (⟨hG_T, hG_t, hfr⟩) hP hS
          · have hf := ifn hf c5
            refine lv_aload_n X.1 X.2.1 dX4_readMedals_23 rfl (lv_at hl 0 rfl) ?_
            refine lv_bipush (v := 44) X.1 X.2.1 dX4_readMedals_24 (by decide) ?_
            obtain ⟨r6, hr6, hf⟩ := bd_of hf
            refine x_callVi X hP hS hG_T.1 (by omega) rfl (n := 1) (As := [.int 44]) (ct_X4_takes hG_T hr6) gX4_readMedals_X4_takes rfl (by decide +kernel) ⟨by decide, by decide⟩ rfl hl.1 rfl (Nat.le_of_ble_eq_true rfl) dX4_readMedals_26 (fun E H locs hp hP hS => ?_)
            obtain ⟨hW_T, hk⟩ := hp
            have hG_T := hW_T
            have hG_t := Mu_kept hG_t (fun j h8 h9 => hk j (by omega))
            have hfr : ∀ j, (j < 42 ∨ 44 ≤ j) → (j < 35 ∨ 42 ≤ j) → E j = E0 j := fun j o0 o1 => (hk j (by omega)).trans (hfr j o0 o1)
            refine lv_if_ne (tgt := 34) X.1 X.2.1 dX4_readMedals_29 (by decide) (fun c7 => ?_) (fun c7 => ?_)
            · have hf := ifn hf c7
              obtain ⟨x8, ex8, hf⟩ := nm_of hf
              refine lv_iinc (v := x8) (lv' := [(2, .int x8), (0, .ref (qa 42)), (1, .ref (qa 35))]) X.1 X.2.1 dX4_readMedals_34 hl (k := 2) rfl (by rw [ex8]; rfl) (by decide) rfl (fun ls hl => ?_)
              refine lv_goto (tgt := 2) X.1 X.2.1 dX4_readMedals_37 (by decide) ?_
              exact ih1 x8 r6.2 r3.2.2.1 r3.2.2.2.1 r3.2.2.2.2.1 r3.2.2.2.2.2.1 r3.2.2.2.2.2.2 _ _ _ _ hf hP hS hG_T hG_t hfr (lv_sub hl [1, 2, 0] rfl)
            · have hf := ifp hf c7
              refine lv_iconst (v := 1) X.1 X.2.1 dX4_readMedals_32 (by decide) ?_
              obtain rfl := Option.some.inj hf
              exact hret _ _ _ _ _ _ dX4_readMedals_33 rfl rfl (⟨hG_T, hG_t, hfr⟩) hP hS
        · have hf := ifp hf c4
          refine lv_iconst (v := 0) X.1 X.2.1 dX4_readMedals_16 (by decide) ?_
          obtain rfl := Option.some.inj hf
          exact hret _ _ _ _ _ _ dX4_readMedals_17 rfl rfl (⟨hG_T, hG_t, hfr⟩) hP hS
  exact lp1 FU 0 plc_T md_t ki_t we_t wo_t wr_t _ _ _ _ hf hP hS hG_T hG_t hfr (lv_sub hl [1, 2, 0] rfl)
def bX4_readMen_2 (ln_T : Int32) (ltr_T : Nat → Int32) (K1 : ((Int32 × Int32 × Int32 × (Nat → Int32) × (Nat → Int32))) → Option (Int32 × Int32 × Int32 × (Nat → Int32) × (Nat → Int32))) : ((Int32 × Int32 × Int32 × (Nat → Int32) × (Nat → Int32))) → Option (Int32 × Int32 × Int32 × (Nat → Int32) × (Nat → Int32))
  | (v2_1, plc_T_1, men_t_1, bu_t_1, st_t_1) => if 5 ≤ v2_1 then (some (1, plc_T_1, men_t_1, bu_t_1, st_t_1)) else ((fX4_readMan ln_T plc_T_1 ltr_T men_t_1 bu_t_1 st_t_1).bind (fun r3 => if r3.1 = 0 then (some (0, r3.2.1, r3.2.2.1, r3.2.2.2.1, r3.2.2.2.2)) else (if v2_1 = 4 then (some (1, r3.2.1, r3.2.2.1, r3.2.2.2.1, r3.2.2.2.2)) else ((fX4_takes 44 ln_T r3.2.1 ltr_T).bind (fun r6 => if r6.1 = 0 then (some (1, r6.2, r3.2.2.1, r3.2.2.2.1, r3.2.2.2.2)) else (nm (v2_1 + 1) (fun x8 => K1 (x8, r6.2, r3.2.2.1, r3.2.2.2.1, r3.2.2.2.2))))))))
def fX4_readMen  (ln_T : Int32) (plc_T : Int32) (ltr_T : Nat → Int32) (men_t : Int32) (bu_t : Nat → Int32) (st_t : Nat → Int32) : Option (Int32 × Int32 × Int32 × (Nat → Int32) × (Nat → Int32)) := lp (bX4_readMen_2 ln_T ltr_T) FU (0, plc_T, men_t, bu_t, st_t)
theorem in_X4_readMen_X4 : ∀ w ∈ wsX40, w ∈ wsX4_readMen := by decide +kernel
set_option maxHeartbeats 4000000 in
set_option maxRecDepth 100000 in
theorem ct_X4_readMen {l : Launch} {D : va_G} {g : Nat → ClassId} {qa : Nat → Nat} {E0 : Nat → va_E} {ln_T : Int32} {plc_T : Int32} {ltr_T : Nat → Int32} {men_t : Int32} {md_t : Int32} {day_t : Int32} {drw_t : Int32} {bu_t : Nat → Int32} {st_t : Nat → Int32} {ki_t : Nat → Int32} {we_t : Nat → Int32} {wo_t : Nat → Int32} {wr_t : Nat → Int32} (hG_T : Ta g qa E0 42 ln_T plc_T ltr_T) (hG_t : Mu g qa E0 35 men_t md_t day_t drw_t bu_t st_t ki_t we_t wo_t wr_t) {R : (Int32 × Int32 × Int32 × (Nat → Int32) × (Nat → Int32))} (hf : fX4_readMen ln_T plc_T ltr_T men_t bu_t st_t = some R) : MI l yX4_readMen wsX4_readMen 4 D g qa E0 [.ref (qa 42), .ref (qa 35)] R.1 (fun E => Ta g qa E 42 ln_T R.2.1 ltr_T ∧ Mu g qa E 35 R.2.2.1 md_t day_t drw_t R.2.2.2.1 R.2.2.2.2 ki_t we_t wo_t wr_t ∧ ∀ j, (j < 42 ∨ 44 ≤ j) → (j < 35 ∨ 42 ≤ j) → E j = E0 j) := by
  refine MI.mk (by decide) rfl (Nat.le_of_ble_eq_true rfl) ?_
  intro p e s m args below meth c ls Q X hret hP hS hl
  have hl : lv_has ls 3 [(0, .ref (qa 42)), (1, .ref (qa 35))] := hl
  have hfr : ∀ j, (j < 42 ∨ 44 ≤ j) → (j < 35 ∨ 42 ≤ j) → E0 j = E0 j := fun _ _ _ => rfl
  rw [fX4_readMen] at hf
  refine lv_iconst (v := 0) X.1 X.2.1 dX4_readMen_0 (by decide) ?_
  refine lv_istore_n (lv' := [(2, .int 0), (0, .ref (qa 42)), (1, .ref (qa 35))]) X.1 X.2.1 dX4_readMen_1 rfl hl (by decide) rfl (fun ls hl => ?_)
  have lp1 : ∀ (n1 : Nat) (v2_1 : Int32) (plc_T_1 : Int32) (men_t_1 : Int32) (bu_t_1 : Nat → Int32) (st_t_1 : Nat → Int32) (E : Nat → va_E) (H : Heap) (locs : List Loc) (ls : Array Slot), lp (bX4_readMen_2 ln_T ltr_T) n1 (v2_1, plc_T_1, men_t_1, bu_t_1, st_t_1) = some R → va_P D vwCl (WD qa E) H → va_S (gA qa s.heap.size) s.heap H locs → Ta g qa E 42 ln_T plc_T_1 ltr_T → Mu g qa E 35 men_t_1 md_t day_t drw_t bu_t_1 st_t_1 ki_t we_t wo_t wr_t → (∀ j, (j < 42 ∨ 44 ≤ j) → (j < 35 ∨ 42 ≤ j) → E j = E0 j) → lv_has ls 3 [(0, .ref (qa 42)), (1, .ref (qa 35)), (2, .int v2_1)] → W p l e (rmf 4) s m args below meth c H locs 0 0 Q (F0 m 2 ls []) := by
    intro n1
    induction n1 with
    | zero =>
      intro v2_1 plc_T_1 men_t_1 bu_t_1 st_t_1 E H locs ls hf
      exact absurd hf (by intro h; cases h)
    | succ n1 ih1 =>
      intro v2_1 plc_T_1 men_t_1 bu_t_1 st_t_1 E H locs ls hf hP hS hG_T hG_t hfr hl
      have hf : bX4_readMen_2 ln_T ltr_T (lp (bX4_readMen_2 ln_T ltr_T) n1) (v2_1, plc_T_1, men_t_1, bu_t_1, st_t_1) = some R := hf
      rw [bX4_readMen_2] at hf
      refine lv_iload_n X.1 X.2.1 dX4_readMen_2 rfl (lv_at hl 2 rfl) ?_
      refine lv_iconst (v := 5) X.1 X.2.1 dX4_readMen_3 (by decide) ?_
      refine lv_icmp_ge (tgt := 39) X.1 X.2.1 dX4_readMen_4 (by decide) (fun c2 => ?_) (fun c2 => ?_)
      · have hf := ifp hf c2
        refine lv_iconst (v := 1) X.1 X.2.1 dX4_readMen_39 (by decide) ?_
        obtain rfl := Option.some.inj hf
        exact hret _ _ _ _ _ _ dX4_readMen_40 rfl rfl (⟨hG_T, hG_t, hfr⟩) hP hS
      · have hf := ifn hf c2
        refine lv_aload_n X.1 X.2.1 dX4_readMen_7 rfl (lv_at hl 0 rfl) ?_
        refine lv_aload_n X.1 X.2.1 dX4_readMen_8 rfl (lv_at hl 1 rfl) ?_
        obtain ⟨r3, hr3, hf⟩ := bd_of hf
        refine x_callVi X hP hS hG_T.1 (by omega) rfl (n := 1) (As := [.ref (qa 35)]) (ct_X4_readMan hG_T hG_t hr3) gX4_readMen_X4_readMan rfl (by decide +kernel) ⟨by decide, by decide⟩ rfl hl.1 rfl (Nat.le_of_ble_eq_true rfl) dX4_readMen_9 (fun E H locs hp hP hS => ?_)
        obtain ⟨hW_T, hW_t, hk⟩ := hp
        have hG_T := hW_T
        have hG_t := hW_t
        have hfr : ∀ j, (j < 42 ∨ 44 ≤ j) → (j < 35 ∨ 42 ≤ j) → E j = E0 j := fun j o0 o1 => (hk j (by omega) (by omega)).trans (hfr j o0 o1)
        refine lv_if_ne (tgt := 17) X.1 X.2.1 dX4_readMen_12 (by decide) (fun c4 => ?_) (fun c4 => ?_)
        · have hf := ifn hf c4
          refine lv_iload_n X.1 X.2.1 dX4_readMen_17 rfl (lv_at hl 2 rfl) ?_
          refine lv_iconst (v := 4) X.1 X.2.1 dX4_readMen_18 (by decide) ?_
          refine lv_icmp_eq (tgt := 31) X.1 X.2.1 dX4_readMen_19 (by decide) (fun c5 => ?_) (fun c5 => ?_)
          · have hf := ifp hf c5
            refine lv_iconst (v := 1) X.1 X.2.1 dX4_readMen_31 (by decide) ?_
            obtain rfl := Option.some.inj hf
            exact hret _ _ _ _ _ _ dX4_readMen_32 rfl rfl (⟨hG_T, hG_t, hfr⟩) hP hS
          · have hf := ifn hf c5
            refine lv_aload_n X.1 X.2.1 dX4_readMen_22 rfl (lv_at hl 0 rfl) ?_
            refine lv_bipush (v := 44) X.1 X.2.1 dX4_readMen_23 (by decide) ?_
            obtain ⟨r6, hr6, hf⟩ := bd_of hf
            refine x_callVi X hP hS hG_T.1 (by omega) rfl (n := 1) (As := [.int 44]) (ct_X4_takes hG_T hr6) gX4_readMen_X4_takes rfl (by decide +kernel) ⟨by decide, by decide⟩ rfl hl.1 rfl (Nat.le_of_ble_eq_true rfl) dX4_readMen_25 (fun E H locs hp hP hS => ?_)
            obtain ⟨hW_T, hk⟩ := hp
            have hG_T := hW_T
            have hG_t := Mu_kept hG_t (fun j h8 h9 => hk j (by omega))
            have hfr : ∀ j, (j < 42 ∨ 44 ≤ j) → (j < 35 ∨ 42 ≤ j) → E j = E0 j := fun j o0 o1 => (hk j (by omega)).trans (hfr j o0 o1)
            refine lv_if_ne (tgt := 33) X.1 X.2.1 dX4_readMen_28 (by decide) (fun c7 => ?_) (fun c7 => ?_)
            · have hf := ifn hf c7
              obtain ⟨x8, ex8, hf⟩ := nm_of hf
              refine lv_iinc (v := x8) (lv' := [(2, .int x8), (0, .ref (qa 42)), (1, .ref (qa 35))]) X.1 X.2.1 dX4_readMen_33 hl (k := 2) rfl (by rw [ex8]; rfl) (by decide) rfl (fun ls hl => ?_)
              refine lv_goto (tgt := 2) X.1 X.2.1 dX4_readMen_36 (by decide) ?_
              exact ih1 x8 r6.2 r3.2.2.1 r3.2.2.2.1 r3.2.2.2.2 _ _ _ _ hf hP hS hG_T hG_t hfr (lv_sub hl [1, 2, 0] rfl)
            · have hf := ifp hf c7
              refine lv_iconst (v := 1) X.1 X.2.1 dX4_readMen_31 (by decide) ?_
              obtain rfl := Option.some.inj hf
              exact hret _ _ _ _ _ _ dX4_readMen_32 rfl rfl (⟨hG_T, hG_t, hfr⟩) hP hS
        · have hf := ifp hf c4
          refine lv_iconst (v := 0) X.1 X.2.1 dX4_readMen_15 (by decide) ?_
          obtain rfl := Option.some.inj hf
          exact hret _ _ _ _ _ _ dX4_readMen_16 rfl rfl (⟨hG_T, hG_t, hfr⟩) hP hS
  exact lp1 FU 0 plc_T men_t bu_t st_t _ _ _ _ hf hP hS hG_T hG_t hfr (lv_sub hl [1, 2, 0] rfl)
def fX4_readState  (ln_T : Int32) (ltr_T : Nat → Int32) (men_t : Int32) (md_t : Int32) (bu_t : Nat → Int32) (st_t : Nat → Int32) (ki_t : Nat → Int32) (we_t : Nat → Int32) (wo_t : Nat → Int32) (wr_t : Nat → Int32) : Option (Int32 × Int32 × Int32 × Int32 × (Nat → Int32) × (Nat → Int32) × (Nat → Int32) × (Nat → Int32) × (Nat → Int32) × (Nat → Int32)) := (fX4_readMen ln_T 0 ltr_T men_t bu_t st_t).bind (fun r1 => if r1.1 = 0 then (some (0, r1.2.1, r1.2.2.1, md_t, r1.2.2.2.1, r1.2.2.2.2, ki_t, we_t, wo_t, wr_t)) else ((fX4_takes 59 ln_T r1.2.1 ltr_T).bind (fun r3 => if r3.1 = 0 then ((fX4_nextLetter ln_T r3.2 ltr_T).bind (fun r5 => if r5.1 = 0 then (some (1, r5.2, r1.2.2.1, md_t, r1.2.2.2.1, r1.2.2.2.2, ki_t, we_t, wo_t, wr_t)) else (some (0, r5.2, r1.2.2.1, md_t, r1.2.2.2.1, r1.2.2.2.2, ki_t, we_t, wo_t, wr_t)))) else ((fX4_readMedals ln_T r3.2 ltr_T r1.2.2.1 md_t ki_t we_t wo_t wr_t).bind (fun r7 => if r7.1 = 0 then (some (0, r7.2.1, r1.2.2.1, r7.2.2.1, r1.2.2.2.1, r1.2.2.2.2, r7.2.2.2.1, r7.2.2.2.2.1, r7.2.2.2.2.2.1, r7.2.2.2.2.2.2)) else ((fX4_nextLetter ln_T r7.2.1 ltr_T).bind (fun r9 => if r9.1 = 0 then (some (1, r9.2, r1.2.2.1, r7.2.2.1, r1.2.2.2.1, r1.2.2.2.2, r7.2.2.2.1, r7.2.2.2.2.1, r7.2.2.2.2.2.1, r7.2.2.2.2.2.2)) else (some (0, r9.2, r1.2.2.1, r7.2.2.1, r1.2.2.2.1, r1.2.2.2.2, r7.2.2.2.1, r7.2.2.2.2.1, r7.2.2.2.2.2.1, r7.2.2.2.2.2.2)))))))))
theorem in_X4_readState_X4 : ∀ w ∈ wsX40, w ∈ wsX4_readState := by decide +kernel
set_option maxHeartbeats 4000000 in
set_option maxRecDepth 100000 in
theorem ct_X4_readState {l : Launch} {D : va_G} {g : Nat → ClassId} {qa : Nat → Nat} {E0 : Nat → va_E} {ln_T : Int32} {plc_T : Int32} {ltr_T : Nat → Int32} {men_t : Int32} {md_t : Int32} {day_t : Int32} {drw_t : Int32} {bu_t : Nat → Int32} {st_t : Nat → Int32} {ki_t : Nat → Int32} {we_t : Nat → Int32} {wo_t : Nat → Int32} {wr_t : Nat → Int32} (hG_T : Ta g qa E0 42 ln_T plc_T ltr_T) (hG_t : Mu g qa E0 35 men_t md_t day_t drw_t bu_t st_t ki_t we_t wo_t wr_t) {R : (Int32 × Int32 × Int32 × Int32 × (Nat → Int32) × (Nat → Int32) × (Nat → Int32) × (Nat → Int32) × (Nat → Int32) × (Nat → Int32))} (hf : fX4_readState ln_T ltr_T men_t md_t bu_t st_t ki_t we_t wo_t wr_t = some R) : MI l yX4_readState wsX4_readState 5 D g qa E0 [.ref (qa 42), .ref (qa 35)] R.1 (fun E => Ta g qa E 42 ln_T R.2.1 ltr_T ∧ Mu g qa E 35 R.2.2.1 R.2.2.2.1 day_t drw_t R.2.2.2.2.1 R.2.2.2.2.2.1 R.2.2.2.2.2.2.1 R.2.2.2.2.2.2.2.1 R.2.2.2.2.2.2.2.2.1 R.2.2.2.2.2.2.2.2.2 ∧ ∀ j, (j < 42 ∨ 44 ≤ j) → (j < 35 ∨ 42 ≤ j) → E j = E0 j) := by
  refine MI.mk (by decide) rfl (Nat.le_of_ble_eq_true rfl) ?_
  intro p e s m args below meth c ls Q X hret hP hS hl
  have hl : lv_has ls 2 [(0, .ref (qa 42)), (1, .ref (qa 35))] := hl
  have hfr : ∀ j, (j < 42 ∨ 44 ≤ j) → (j < 35 ∨ 42 ≤ j) → E0 j = E0 j := fun _ _ _ => rfl
  rw [fX4_readState] at hf
  refine lv_aload_n X.1 X.2.1 dX4_readState_0 rfl (lv_at hl 0 rfl) ?_
  refine lv_iconst (v := 0) X.1 X.2.1 dX4_readState_1 (by decide) ?_
  refine x_put (ty := .int) X hP hS hG_T.1 (by omega) rfl in_X4_readState_X4 tyX4 tyX4_ok nmX4 2 (by decide) (by decide +kernel) rfl rfl (by decide +kernel) rfl rfl (Nat.le_of_ble_eq_true rfl) dX4_readState_2 (fun E H locs h1 hk hP hS => ?_)
  have hG_T := Ta_set_0 hG_T h1 hk
  have hG_t := Mu_kept hG_t (fun j h8 h9 => hk j (by omega))
  have hfr : ∀ j, (j < 42 ∨ 44 ≤ j) → (j < 35 ∨ 42 ≤ j) → E j = E0 j := fun j o0 o1 => (hk j (by omega)).trans (hfr j o0 o1)
  refine lv_aload_n X.1 X.2.1 dX4_readState_5 rfl (lv_at hl 0 rfl) ?_
  refine lv_aload_n X.1 X.2.1 dX4_readState_6 rfl (lv_at hl 1 rfl) ?_
  obtain ⟨r1, hr1, hf⟩ := bd_of hf
  refine x_callVi X hP hS hG_T.1 (by omega) rfl (n := 1) (As := [.ref (qa 35)]) (ct_X4_readMen hG_T hG_t hr1) gX4_readState_X4_readMen rfl (by decide +kernel) ⟨by decide, by decide⟩ rfl hl.1 rfl (Nat.le_of_ble_eq_true rfl) dX4_readState_7 (fun E H locs hp hP hS => ?_)
  obtain ⟨hW_T, hW_t, hk⟩ := hp
  have hG_T := hW_T
  have hG_t := hW_t
  have hfr : ∀ j, (j < 42 ∨ 44 ≤ j) → (j < 35 ∨ 42 ≤ j) → E j = E0 j := fun j o0 o1 => (hk j (by omega) (by omega)).trans (hfr j o0 o1)
  refine lv_if_ne (tgt := 15) X.1 X.2.1 dX4_readState_10 (by decide) (fun c2 => ?_) (fun c2 => ?_)
  · have hf := ifn hf c2
    refine lv_aload_n X.1 X.2.1 dX4_readState_15 rfl (lv_at hl 0 rfl) ?_
    refine lv_bipush (v := 59) X.1 X.2.1 dX4_readState_16 (by decide) ?_
    obtain ⟨r3, hr3, hf⟩ := bd_of hf
    refine x_callVi X hP hS hG_T.1 (by omega) rfl (n := 1) (As := [.int 59]) (ct_X4_takes hG_T hr3) gX4_readState_X4_takes rfl (by decide +kernel) ⟨by decide, by decide⟩ rfl hl.1 rfl (Nat.le_of_ble_eq_true rfl) dX4_readState_18 (fun E H locs hp hP hS => ?_)
    obtain ⟨hW_T, hk⟩ := hp
    have hG_T := hW_T
    have hG_t := Mu_kept hG_t (fun j h8 h9 => hk j (by omega))
    have hfr : ∀ j, (j < 42 ∨ 44 ≤ j) → (j < 35 ∨ 42 ≤ j) → E j = E0 j := fun j o0 o1 => (hk j (by omega)).trans (hfr j o0 o1)
    refine lv_if_eq (tgt := 34) X.1 X.2.1 dX4_readState_21 (by decide) (fun c4 => ?_) (fun c4 => ?_)
    · have hf := ifp hf c4
      refine lv_aload_n X.1 X.2.1 dX4_readState_34 rfl (lv_at hl 0 rfl) ?_
      obtain ⟨r5, hr5, hf⟩ := bd_of hf
      refine x_callVi X hP hS hG_T.1 (by omega) rfl (n := 0) (As := []) (ct_X4_nextLetter hG_T hr5) gX4_readState_X4_nextLetter rfl (by decide +kernel) ⟨by decide, by decide⟩ rfl hl.1 rfl (Nat.le_of_ble_eq_true rfl) dX4_readState_35 (fun E H locs hp hP hS => ?_)
      obtain ⟨hW_T, hk⟩ := hp
      have hG_T := hW_T
      have hG_t := Mu_kept hG_t (fun j h8 h9 => hk j (by omega))
      have hfr : ∀ j, (j < 42 ∨ 44 ≤ j) → (j < 35 ∨ 42 ≤ j) → E j = E0 j := fun j o0 o1 => (hk j (by omega)).trans (hfr j o0 o1)
      refine lv_if_ne (tgt := 45) X.1 X.2.1 dX4_readState_38 (by decide) (fun c6 => ?_) (fun c6 => ?_)
      · have hf := ifn hf c6
        refine lv_iconst (v := 0) X.1 X.2.1 dX4_readState_45 (by decide) ?_
        obtain rfl := Option.some.inj hf
        exact hret _ _ _ _ _ _ dX4_readState_46 rfl rfl (⟨hG_T, hG_t, hfr⟩) hP hS
      · have hf := ifp hf c6
        refine lv_iconst (v := 1) X.1 X.2.1 dX4_readState_41 (by decide) ?_
        refine lv_goto (tgt := 46) X.1 X.2.1 dX4_readState_42 (by decide) ?_
        obtain rfl := Option.some.inj hf
        exact hret _ _ _ _ _ _ dX4_readState_46 rfl rfl (⟨hG_T, hG_t, hfr⟩) hP hS
    · have hf := ifn hf c4
      refine lv_aload_n X.1 X.2.1 dX4_readState_24 rfl (lv_at hl 0 rfl) ?_
      refine lv_aload_n X.1 X.2.1 dX4_readState_25 rfl (lv_at hl 1 rfl) ?_
      obtain ⟨r7, hr7, hf⟩ := bd_of hf
      refine x_callVi X hP hS hG_T.1 (by omega) rfl (n := 1) (As := [.ref (qa 35)]) (ct_X4_readMedals hG_T hG_t hr7) gX4_readState_X4_readMedals rfl (by decide +kernel) ⟨by decide, by decide⟩ rfl hl.1 rfl (Nat.le_of_ble_eq_true rfl) dX4_readState_26 (fun E H locs hp hP hS => ?_)
      obtain ⟨hW_T, hW_t, hk⟩ := hp
      have hG_T := hW_T
      have hG_t := hW_t
      have hfr : ∀ j, (j < 42 ∨ 44 ≤ j) → (j < 35 ∨ 42 ≤ j) → E j = E0 j := fun j o0 o1 => (hk j (by omega) (by omega)).trans (hfr j o0 o1)
      refine lv_if_ne (tgt := 34) X.1 X.2.1 dX4_readState_29 (by decide) (fun c8 => ?_) (fun c8 => ?_)
      · have hf := ifn hf c8
        refine lv_aload_n X.1 X.2.1 dX4_readState_34 rfl (lv_at hl 0 rfl) ?_
        obtain ⟨r9, hr9, hf⟩ := bd_of hf
        refine x_callVi X hP hS hG_T.1 (by omega) rfl (n := 0) (As := []) (ct_X4_nextLetter hG_T hr9) gX4_readState_X4_nextLetter rfl (by decide +kernel) ⟨by decide, by decide⟩ rfl hl.1 rfl (Nat.le_of_ble_eq_true rfl) dX4_readState_35 (fun E H locs hp hP hS => ?_)
        obtain ⟨hW_T, hk⟩ := hp
        have hG_T := hW_T
        have hG_t := Mu_kept hG_t (fun j h8 h9 => hk j (by omega))
        have hfr : ∀ j, (j < 42 ∨ 44 ≤ j) → (j < 35 ∨ 42 ≤ j) → E j = E0 j := fun j o0 o1 => (hk j (by omega)).trans (hfr j o0 o1)
        refine lv_if_ne (tgt := 45) X.1 X.2.1 dX4_readState_38 (by decide) (fun c10 => ?_) (fun c10 => ?_)
        · have hf := ifn hf c10
          refine lv_iconst (v := 0) X.1 X.2.1 dX4_readState_45 (by decide) ?_
          obtain rfl := Option.some.inj hf
          exact hret _ _ _ _ _ _ dX4_readState_46 rfl rfl (⟨hG_T, hG_t, hfr⟩) hP hS
        · have hf := ifp hf c10
          refine lv_iconst (v := 1) X.1 X.2.1 dX4_readState_41 (by decide) ?_
          refine lv_goto (tgt := 46) X.1 X.2.1 dX4_readState_42 (by decide) ?_
          obtain rfl := Option.some.inj hf
          exact hret _ _ _ _ _ _ dX4_readState_46 rfl rfl (⟨hG_T, hG_t, hfr⟩) hP hS
      · have hf := ifp hf c8
        refine lv_iconst (v := 0) X.1 X.2.1 dX4_readState_32 (by decide) ?_
        obtain rfl := Option.some.inj hf
        exact hret _ _ _ _ _ _ dX4_readState_33 rfl rfl (⟨hG_T, hG_t, hfr⟩) hP hS
  · have hf := ifp hf c2
    refine lv_iconst (v := 0) X.1 X.2.1 dX4_readState_13 (by decide) ?_
    obtain rfl := Option.some.inj hf
    exact hret _ _ _ _ _ _ dX4_readState_14 rfl rfl (⟨hG_T, hG_t, hfr⟩) hP hS
def bX2_take_2 (kn_o : Int32) (nx_o : Int32) (ke_o : Nat → Nat → Int32) (K1 : ((Int32 × (Nat → Nat → Int32))) → Option (Int32 × Int32 × (Nat → Nat → Int32))) : ((Int32 × (Nat → Nat → Int32))) → Option (Int32 × Int32 × (Nat → Nat → Int32))
  | (v2_1, ke_p_1) => if 8 ≤ v2_1 then (some (kn_o, nx_o, ke_p_1)) else (gin v2_1 8 (gin v2_1 8 (gcp 0 0 19 19 19 (nm (v2_1 + 1) (fun x8 => K1 (x8, va_up ke_p_1 (Int32.toNatClampNeg v2_1) (va_cpy (ke_o (Int32.toNatClampNeg v2_1)) (ke_p_1 (Int32.toNatClampNeg v2_1)) (Int32.toNatClampNeg 0) (Int32.toNatClampNeg 0) (Int32.toNatClampNeg 19))))))))
def fX2_take  (ke_p : Nat → Nat → Int32) (kn_o : Int32) (nx_o : Int32) (ke_o : Nat → Nat → Int32) : Option (Int32 × Int32 × (Nat → Nat → Int32)) := lp (bX2_take_2 kn_o nx_o ke_o) FU (0, ke_p)
theorem in_X2_take_X2 : ∀ w ∈ wsX20, w ∈ wsX2_take := by decide +kernel
set_option maxHeartbeats 4000000 in
set_option maxRecDepth 100000 in
theorem ct_X2_take {l : Launch} {D : va_G} {g : Nat → ClassId} {qa : Nat → Nat} {E0 : Nat → va_E} {b : Nat} {b2 : Nat} {kn_p : Int32} {nx_p : Int32} {ke_p : Nat → Nat → Int32} {kn_o : Int32} {nx_o : Int32} {ke_o : Nat → Nat → Int32} (hb_p : b + 10 ≤ 74) (hG_p : Pa g qa E0 b kn_p nx_p ke_p) (hb_o : b2 + 10 ≤ 74) (hG_o : Pa g qa E0 b2 kn_o nx_o ke_o) (hx0 : b + 10 ≤ b2 ∨ b2 + 10 ≤ b) {R : (Int32 × Int32 × (Nat → Nat → Int32))} (hf : fX2_take ke_p kn_o nx_o ke_o = some R) : MV l yX2_take wsX2_take 1 D g qa E0 [.ref (qa b), .ref (qa b2)] (fun E => Pa g qa E b R.1 R.2.1 R.2.2 ∧ ∀ j, (j < b ∨ b + 10 ≤ j) → E j = E0 j) := by
  refine MV.mk (by decide) rfl (Nat.le_of_ble_eq_true rfl) ?_
  intro p e s m args below meth c ls Q X hret hP hS hl
  have hl : lv_has ls 3 [(0, .ref (qa b)), (1, .ref (qa b2))] := hl
  have hfr : ∀ j, (j < b ∨ b + 10 ≤ j) → E0 j = E0 j := fun _ _ => rfl
  rw [fX2_take] at hf
  refine lv_iconst (v := 0) X.1 X.2.1 dX2_take_0 (by decide) ?_
  refine lv_istore_n (lv' := [(2, .int 0), (0, .ref (qa b)), (1, .ref (qa b2))]) X.1 X.2.1 dX2_take_1 rfl hl (by decide) rfl (fun ls hl => ?_)
  have lp1 : ∀ (n1 : Nat) (v2_1 : Int32) (ke_p_1 : Nat → Nat → Int32) (E : Nat → va_E) (H : Heap) (locs : List Loc) (ls : Array Slot), lp (bX2_take_2 kn_o nx_o ke_o) n1 (v2_1, ke_p_1) = some R → va_P D vwCl (WD qa E) H → va_S (gA qa s.heap.size) s.heap H locs → Pa g qa E b kn_p nx_p ke_p_1 → Pa g qa E b2 kn_o nx_o ke_o → (∀ j, (j < b ∨ b + 10 ≤ j) → E j = E0 j) → lv_has ls 3 [(0, .ref (qa b)), (1, .ref (qa b2)), (2, .int v2_1)] → W p l e (rmf 1) s m args below meth c H locs 0 0 Q (F0 m 2 ls []) := by
    intro n1
    induction n1 with
    | zero =>
      intro v2_1 ke_p_1 E H locs ls hf
      exact absurd hf (by intro h; cases h)
    | succ n1 ih1 =>
      intro v2_1 ke_p_1 E H locs ls hf hP hS hG_p hG_o hfr hl
      have hf : bX2_take_2 kn_o nx_o ke_o (lp (bX2_take_2 kn_o nx_o ke_o) n1) (v2_1, ke_p_1) = some R := hf
      rw [bX2_take_2] at hf
      refine lv_iload_n X.1 X.2.1 dX2_take_2 rfl (lv_at hl 2 rfl) ?_
      refine lv_bipush (v := 8) X.1 X.2.1 dX2_take_3 (by decide) ?_
      refine lv_icmp_ge (tgt := 33) X.1 X.2.1 dX2_take_5 (by decide) (fun c2 => ?_) (fun c2 => ?_)
      · have hf := ifp hf c2
        refine lv_aload_n X.1 X.2.1 dX2_take_33 rfl (lv_at hl 0 rfl) ?_
        refine lv_aload_n X.1 X.2.1 dX2_take_34 rfl (lv_at hl 1 rfl) ?_
        refine x_get X hP hG_o.1 (by omega) rfl in_X2_take_X2 1 (by decide) (by decide +kernel) rfl rfl dX2_take_35 ?_
        refine x_put (ty := .int) X hP hS hG_p.1 (by omega) rfl in_X2_take_X2 tyX2 tyX2_ok nmX2 1 (by decide) (by decide +kernel) rfl rfl (by decide +kernel) rfl rfl (Nat.le_of_ble_eq_true rfl) dX2_take_38 (fun E H locs h1 hk hP hS => ?_)
        have hG_p := Pa_set_0 hG_p h1 hk
        have hG_o := Pa_kept hG_o (fun j h8 h9 => hk j (by omega))
        have hfr : ∀ j, (j < b ∨ b + 10 ≤ j) → E j = E0 j := fun j o0 => (hk j (by omega)).trans (hfr j o0)
        refine lv_aload_n X.1 X.2.1 dX2_take_41 rfl (lv_at hl 0 rfl) ?_
        refine lv_aload_n X.1 X.2.1 dX2_take_42 rfl (lv_at hl 1 rfl) ?_
        refine x_get X hP hG_o.1 (by omega) rfl in_X2_take_X2 2 (by decide) (by decide +kernel) rfl rfl dX2_take_43 ?_
        refine x_put (ty := .int) X hP hS hG_p.1 (by omega) rfl in_X2_take_X2 tyX2 tyX2_ok nmX2 2 (by decide) (by decide +kernel) rfl rfl (by decide +kernel) rfl rfl (Nat.le_of_ble_eq_true rfl) dX2_take_46 (fun E H locs h1 hk hP hS => ?_)
        have hG_p := Pa_set_0 hG_p h1 hk
        have hG_o := Pa_kept hG_o (fun j h8 h9 => hk j (by omega))
        have hfr : ∀ j, (j < b ∨ b + 10 ≤ j) → E j = E0 j := fun j o0 => (hk j (by omega)).trans (hfr j o0)
        obtain rfl := Option.some.inj hf
        exact hret _ _ _ _ _ dX2_take_49 (⟨hG_p, hfr⟩) hP hS
      · have hf := ifn hf c2
        refine lv_aload_n X.1 X.2.1 dX2_take_8 rfl (lv_at hl 1 rfl) ?_
        refine x_get X hP hG_o.1 (by omega) rfl in_X2_take_X2 0 (by decide) (by decide +kernel) rfl rfl dX2_take_9 ?_
        refine lv_iload_n X.1 X.2.1 dX2_take_12 rfl (lv_at hl 2 rfl) ?_
        obtain ⟨hi3, hf⟩ := gin_of hf
        have hj4 := in_lt hi3
        refine x_aald X hP 3 rfl rfl hG_o.2.1 (by omega) hi3 dX2_take_13 ?_
        refine lv_iconst (v := 0) X.1 X.2.1 dX2_take_14 (by decide) ?_
        refine lv_aload_n X.1 X.2.1 dX2_take_15 rfl (lv_at hl 0 rfl) ?_
        refine x_get X hP hG_p.1 (by omega) rfl in_X2_take_X2 0 (by decide) (by decide +kernel) rfl rfl dX2_take_16 ?_
        refine lv_iload_n X.1 X.2.1 dX2_take_19 rfl (lv_at hl 2 rfl) ?_
        obtain ⟨hi5, hf⟩ := gin_of hf
        have hj6 := in_lt hi5
        refine x_aald X hP 3 rfl rfl hG_p.2.1 (by omega) hi5 dX2_take_20 ?_
        refine lv_iconst (v := 0) X.1 X.2.1 dX2_take_21 (by decide) ?_
        refine lv_bipush (v := 19) X.1 X.2.1 dX2_take_22 (by decide) ?_
        obtain ⟨hy7, hf⟩ := gcp_of hf
        refine x_copyi X hP hS (hG_o.2.2 _ hj4) (by omega) (hG_p.2.2 _ hj6) (by omega) (index := 29) (by decide +kernel) (by decide +kernel) (by decide +kernel) (by decide +kernel) hl.1 hy7.1 hy7.2.1 hy7.2.2.1 hy7.2.2.2.1 hy7.2.2.2.2 (by decide) (Nat.le_of_ble_eq_true rfl) dX2_take_24 (fun E H locs h1 hk hP hS => ?_)
        have hG_p := Pa_set_2 hG_p hj6 h1 hk
        have hG_o := Pa_kept hG_o (fun j h8 h9 => hk j (by omega))
        have hfr : ∀ j, (j < b ∨ b + 10 ≤ j) → E j = E0 j := fun j o0 => (hk j (by omega)).trans (hfr j o0)
        obtain ⟨x8, ex8, hf⟩ := nm_of hf
        refine lv_iinc (v := x8) (lv' := [(2, .int x8), (0, .ref (qa b)), (1, .ref (qa b2))]) X.1 X.2.1 dX2_take_27 hl (k := 2) rfl (by rw [ex8]; rfl) (by decide) rfl (fun ls hl => ?_)
        refine lv_goto (tgt := 2) X.1 X.2.1 dX2_take_30 (by decide) ?_
        exact ih1 x8 (va_up ke_p_1 (Int32.toNatClampNeg v2_1) (va_cpy (ke_o (Int32.toNatClampNeg v2_1)) (ke_p_1 (Int32.toNatClampNeg v2_1)) (Int32.toNatClampNeg 0) (Int32.toNatClampNeg 0) (Int32.toNatClampNeg 19))) _ _ _ _ hf hP hS hG_p hG_o hfr (lv_sub hl [1, 2, 0] rfl)
  exact lp1 FU 0 ke_p _ _ _ _ hf hP hS hG_p hG_o hfr (lv_sub hl [1, 2, 0] rfl)
end
section
set_option maxRecDepth 20000 in
theorem ggX0_prepare_X1_allWorn : GoodIn wsX0_prepare wsX1_allWorn := goodIn_r _ [10, 11, 12, 13, 14, 9, 15, 16, 17, 18, 19, 20, 48, 49, 50, 51, 52, 53, 54, 55, 56, 57] (by decide +kernel) (by decide +kernel)
set_option maxRecDepth 20000 in
theorem gX0_prepare_X1_allWorn : GoodIn wsX0_prepare (wsV RX0 44 RX1 yX1_allWorn wsX1_allWorn) := goodIn_app (goodIn_of _ (by decide +kernel)) ggX0_prepare_X1_allWorn
set_option maxRecDepth 20000 in
theorem ggX0_prepare_X1_loadOfSet : GoodIn wsX0_prepare wsX1_loadOfSet := goodIn_r _ [24, 11, 25, 26, 27, 28, 29, 30, 31, 32, 33, 34, 9, 35, 36, 37, 38, 48, 49, 50, 51, 52, 53, 54, 55, 56, 57] (by decide +kernel) (by decide +kernel)
set_option maxRecDepth 20000 in
theorem gX0_prepare_X1_loadOfSet : GoodIn wsX0_prepare (wsV RX0 56 RX1 yX1_loadOfSet wsX1_loadOfSet) := goodIn_app (goodIn_of _ (by decide +kernel)) ggX0_prepare_X1_loadOfSet
theorem dX0_prepare_0 : decode cX0_prepare 0 = .ok (.aload_n 0, 1) := by decide +kernel
theorem dX0_prepare_1 : decode cX0_prepare 1 = .ok (.aload_n 0, 1) := by decide +kernel
theorem dX0_prepare_2 : decode cX0_prepare 2 = .ok (.getfield 40, 3) := by decide +kernel
theorem dX0_prepare_5 : decode cX0_prepare 5 = .ok (.invokevirtual 44, 3) := by decide +kernel
theorem dX0_prepare_8 : decode cX0_prepare 8 = .ok (.putfield 16, 3) := by decide +kernel
theorem dX0_prepare_11 : decode cX0_prepare 11 = .ok (.iconst 0, 1) := by decide +kernel
theorem dX0_prepare_12 : decode cX0_prepare 12 = .ok (.istore_n 1, 1) := by decide +kernel
theorem dX0_prepare_13 : decode cX0_prepare 13 = .ok (.iload_n 1, 1) := by decide +kernel
theorem dX0_prepare_14 : decode cX0_prepare 14 = .ok (.aload_n 0, 1) := by decide +kernel
theorem dX0_prepare_15 : decode cX0_prepare 15 = .ok (.getfield 40, 3) := by decide +kernel
theorem dX0_prepare_18 : decode cX0_prepare 18 = .ok (.getfield 50, 3) := by decide +kernel
theorem dX0_prepare_21 : decode cX0_prepare 21 = .ok (.if_icmp .ge 60, 3) := by decide +kernel
theorem dX0_prepare_24 : decode cX0_prepare 24 = .ok (.iconst 0, 1) := by decide +kernel
theorem dX0_prepare_25 : decode cX0_prepare 25 = .ok (.istore_n 2, 1) := by decide +kernel
theorem dX0_prepare_26 : decode cX0_prepare 26 = .ok (.iload_n 2, 1) := by decide +kernel
theorem dX0_prepare_27 : decode cX0_prepare 27 = .ok (.aload_n 0, 1) := by decide +kernel
theorem dX0_prepare_28 : decode cX0_prepare 28 = .ok (.getfield 16, 3) := by decide +kernel
theorem dX0_prepare_31 : decode cX0_prepare 31 = .ok (.if_icmp .gt 44, 3) := by decide +kernel
theorem dX0_prepare_34 : decode cX0_prepare 34 = .ok (.iload_n 2, 1) := by decide +kernel
theorem dX0_prepare_35 : decode cX0_prepare 35 = .ok (.aload_n 0, 1) := by decide +kernel
theorem dX0_prepare_36 : decode cX0_prepare 36 = .ok (.getfield 16, 3) := by decide +kernel
theorem dX0_prepare_39 : decode cX0_prepare 39 = .ok (.iconst (-1), 1) := by decide +kernel
theorem dX0_prepare_40 : decode cX0_prepare 40 = .ok (.ixor, 1) := by decide +kernel
theorem dX0_prepare_41 : decode cX0_prepare 41 = .ok (.iand, 1) := by decide +kernel
theorem dX0_prepare_42 : decode cX0_prepare 42 = .ok (.ifCond .ne 27, 3) := by decide +kernel
theorem dX0_prepare_45 : decode cX0_prepare 45 = .ok (.aload_n 0, 1) := by decide +kernel
theorem dX0_prepare_46 : decode cX0_prepare 46 = .ok (.getfield 11, 3) := by decide +kernel
theorem dX0_prepare_49 : decode cX0_prepare 49 = .ok (.iload_n 1, 1) := by decide +kernel
theorem dX0_prepare_50 : decode cX0_prepare 50 = .ok (.aaload, 1) := by decide +kernel
theorem dX0_prepare_51 : decode cX0_prepare 51 = .ok (.iload_n 2, 1) := by decide +kernel
theorem dX0_prepare_52 : decode cX0_prepare 52 = .ok (.aload_n 0, 1) := by decide +kernel
theorem dX0_prepare_53 : decode cX0_prepare 53 = .ok (.getfield 40, 3) := by decide +kernel
theorem dX0_prepare_56 : decode cX0_prepare 56 = .ok (.iload_n 1, 1) := by decide +kernel
theorem dX0_prepare_57 : decode cX0_prepare 57 = .ok (.iload_n 2, 1) := by decide +kernel
theorem dX0_prepare_58 : decode cX0_prepare 58 = .ok (.aload_n 0, 1) := by decide +kernel
theorem dX0_prepare_59 : decode cX0_prepare 59 = .ok (.getfield 40, 3) := by decide +kernel
theorem dX0_prepare_62 : decode cX0_prepare 62 = .ok (.getfield 53, 3) := by decide +kernel
theorem dX0_prepare_65 : decode cX0_prepare 65 = .ok (.invokevirtual 56, 3) := by decide +kernel
theorem dX0_prepare_68 : decode cX0_prepare 68 = .ok (.iastore, 1) := by decide +kernel
theorem dX0_prepare_69 : decode cX0_prepare 69 = .ok (.iinc 2 1, 3) := by decide +kernel
theorem dX0_prepare_72 : decode cX0_prepare 72 = .ok (.goto (-46), 3) := by decide +kernel
theorem dX0_prepare_75 : decode cX0_prepare 75 = .ok (.iinc 1 1, 3) := by decide +kernel
theorem dX0_prepare_78 : decode cX0_prepare 78 = .ok (.goto (-65), 3) := by decide +kernel
theorem dX0_prepare_81 : decode cX0_prepare 81 = .ok (.return_, 1) := by decide +kernel
set_option maxRecDepth 20000 in
theorem ggX0_findEven_X0_find : GoodIn wsX0_findEven wsX0_find := goodIn_r _ [6, 7, 8, 9, 10, 11, 12, 13, 5, 14, 15, 16, 17, 18, 19, 20, 21, 22, 23, 24, 25, 26, 27, 28, 29, 30, 31, 32, 33, 34, 35, 36, 37, 38, 39, 40, 41, 42, 43, 44, 45, 46, 47, 48, 49, 50, 51, 52, 53, 54, 55, 56, 57, 58, 59, 60, 61, 1, 62, 63, 64, 65, 66, 67, 68, 69, 70, 71, 72, 73, 74, 75, 76, 77, 78, 79, 80, 81, 82, 83, 84, 85, 86, 87, 88, 89, 90, 91, 92, 93, 94, 95, 96, 97, 98] (by decide +kernel) (by decide +kernel)
set_option maxRecDepth 20000 in
theorem gX0_findEven_X0_find : GoodIn wsX0_findEven (wsV RX0 60 RX0 yX0_find wsX0_find) := goodIn_app (goodIn_of _ (by decide +kernel)) ggX0_findEven_X0_find
theorem dX0_findEven_0 : decode cX0_findEven 0 = .ok (.aload_n 0, 1) := by decide +kernel
theorem dX0_findEven_1 : decode cX0_findEven 1 = .ok (.iconst 0, 1) := by decide +kernel
theorem dX0_findEven_2 : decode cX0_findEven 2 = .ok (.putfield 33, 3) := by decide +kernel
theorem dX0_findEven_5 : decode cX0_findEven 5 = .ok (.aload_n 0, 1) := by decide +kernel
theorem dX0_findEven_6 : decode cX0_findEven 6 = .ok (.invokevirtual 60, 3) := by decide +kernel
theorem dX0_findEven_9 : decode cX0_findEven 9 = .ok (.return_, 1) := by decide +kernel
set_option maxRecDepth 20000 in
theorem ggX0_findFew_X0_find : GoodIn wsX0_findFew wsX0_find := goodIn_r _ [6, 7, 8, 9, 10, 11, 12, 13, 5, 14, 15, 16, 17, 18, 19, 20, 21, 22, 23, 24, 25, 26, 27, 28, 29, 30, 31, 32, 33, 34, 35, 36, 37, 38, 39, 40, 41, 42, 43, 44, 45, 46, 47, 48, 49, 50, 51, 52, 53, 54, 55, 56, 57, 58, 59, 60, 61, 1, 62, 63, 64, 65, 66, 67, 68, 69, 70, 71, 72, 73, 74, 75, 76, 77, 78, 79, 80, 81, 82, 83, 84, 85, 86, 87, 88, 89, 90, 91, 92, 93, 94, 95, 96, 97, 98] (by decide +kernel) (by decide +kernel)
set_option maxRecDepth 20000 in
theorem gX0_findFew_X0_find : GoodIn wsX0_findFew (wsV RX0 60 RX0 yX0_find wsX0_find) := goodIn_app (goodIn_of _ (by decide +kernel)) ggX0_findFew_X0_find
theorem dX0_findFew_0 : decode cX0_findFew 0 = .ok (.aload_n 0, 1) := by decide +kernel
theorem dX0_findFew_1 : decode cX0_findFew 1 = .ok (.iconst 1, 1) := by decide +kernel
theorem dX0_findFew_2 : decode cX0_findFew 2 = .ok (.putfield 33, 3) := by decide +kernel
theorem dX0_findFew_5 : decode cX0_findFew 5 = .ok (.aload_n 0, 1) := by decide +kernel
theorem dX0_findFew_6 : decode cX0_findFew 6 = .ok (.invokevirtual 60, 3) := by decide +kernel
theorem dX0_findFew_9 : decode cX0_findFew 9 = .ok (.return_, 1) := by decide +kernel
set_option maxRecDepth 20000 in
theorem ggX0_find_X0_prepare : GoodIn wsX0_find wsX0_prepare := goodIn_r _ [9, 10, 11, 12, 13, 14, 15, 16, 17, 18, 19, 20, 21, 22, 23, 24, 25, 26, 27, 28, 29, 30, 31, 32, 33, 34, 35, 36, 37, 38, 39, 40, 41, 42, 43, 44, 45, 46, 47, 76, 77, 78, 79, 80, 81, 82, 83, 84, 85, 86, 87, 88, 89, 90, 91, 92, 93, 94] (by decide +kernel) (by decide +kernel)
set_option maxRecDepth 20000 in
theorem gX0_find_X0_prepare : GoodIn wsX0_find (wsV RX0 63 RX0 yX0_prepare wsX0_prepare) := goodIn_app (goodIn_of _ (by decide +kernel)) ggX0_find_X0_prepare
set_option maxRecDepth 20000 in
theorem ggX0_find_X0_hangFrom : GoodIn wsX0_find wsX0_hangFrom := goodIn_r _ [51, 4, 2, 52, 53, 54, 55, 56, 11, 10, 12, 1, 57, 48, 49, 50, 8, 58, 59, 60, 61, 62, 63, 64, 65, 66, 13, 67, 68, 69, 70, 71, 72, 73, 74, 75, 76, 77, 78, 79, 80, 81, 82, 83, 84, 85, 86, 87, 88, 89, 90, 91, 92, 93, 94] (by decide +kernel) (by decide +kernel)
set_option maxRecDepth 20000 in
theorem gX0_find_X0_hangFrom : GoodIn wsX0_find (wsV RX0 67 RX0 yX0_hangFrom wsX0_hangFrom) := goodIn_app (goodIn_of _ (by decide +kernel)) ggX0_find_X0_hangFrom
theorem dX0_find_0 : decode cX0_find 0 = .ok (.aload_n 0, 1) := by decide +kernel
theorem dX0_find_1 : decode cX0_find 1 = .ok (.invokevirtual 63, 3) := by decide +kernel
theorem dX0_find_4 : decode cX0_find 4 = .ok (.iconst 0, 1) := by decide +kernel
theorem dX0_find_5 : decode cX0_find 5 = .ok (.istore_n 1, 1) := by decide +kernel
theorem dX0_find_6 : decode cX0_find 6 = .ok (.iload_n 1, 1) := by decide +kernel
theorem dX0_find_7 : decode cX0_find 7 = .ok (.iconst 5, 1) := by decide +kernel
theorem dX0_find_8 : decode cX0_find 8 = .ok (.if_icmp .ge 16, 3) := by decide +kernel
theorem dX0_find_11 : decode cX0_find 11 = .ok (.aload_n 0, 1) := by decide +kernel
theorem dX0_find_12 : decode cX0_find 12 = .ok (.getfield 20, 3) := by decide +kernel
theorem dX0_find_15 : decode cX0_find 15 = .ok (.iload_n 1, 1) := by decide +kernel
theorem dX0_find_16 : decode cX0_find 16 = .ok (.iconst 0, 1) := by decide +kernel
theorem dX0_find_17 : decode cX0_find 17 = .ok (.iastore, 1) := by decide +kernel
theorem dX0_find_18 : decode cX0_find 18 = .ok (.iinc 1 1, 3) := by decide +kernel
theorem dX0_find_21 : decode cX0_find 21 = .ok (.goto (-15), 3) := by decide +kernel
theorem dX0_find_24 : decode cX0_find 24 = .ok (.iconst 0, 1) := by decide +kernel
theorem dX0_find_25 : decode cX0_find 25 = .ok (.istore_n 1, 1) := by decide +kernel
theorem dX0_find_26 : decode cX0_find 26 = .ok (.iload_n 1, 1) := by decide +kernel
theorem dX0_find_27 : decode cX0_find 27 = .ok (.bipush 6, 2) := by decide +kernel
theorem dX0_find_29 : decode cX0_find 29 = .ok (.if_icmp .ge 17, 3) := by decide +kernel
theorem dX0_find_32 : decode cX0_find 32 = .ok (.aload_n 0, 1) := by decide +kernel
theorem dX0_find_33 : decode cX0_find 33 = .ok (.getfield 24, 3) := by decide +kernel
theorem dX0_find_36 : decode cX0_find 36 = .ok (.iload_n 1, 1) := by decide +kernel
theorem dX0_find_37 : decode cX0_find 37 = .ok (.bipush (-4), 2) := by decide +kernel
theorem dX0_find_39 : decode cX0_find 39 = .ok (.iastore, 1) := by decide +kernel
theorem dX0_find_40 : decode cX0_find 40 = .ok (.iinc 1 1, 3) := by decide +kernel
theorem dX0_find_43 : decode cX0_find 43 = .ok (.goto (-17), 3) := by decide +kernel
theorem dX0_find_46 : decode cX0_find 46 = .ok (.aload_n 0, 1) := by decide +kernel
theorem dX0_find_47 : decode cX0_find 47 = .ok (.ldc 66, 2) := by decide +kernel
theorem dX0_find_49 : decode cX0_find 49 = .ok (.putfield 37, 3) := by decide +kernel
theorem dX0_find_52 : decode cX0_find 52 = .ok (.aload_n 0, 1) := by decide +kernel
theorem dX0_find_53 : decode cX0_find 53 = .ok (.iconst 0, 1) := by decide +kernel
theorem dX0_find_54 : decode cX0_find 54 = .ok (.iconst 0, 1) := by decide +kernel
theorem dX0_find_55 : decode cX0_find 55 = .ok (.invokevirtual 67, 3) := by decide +kernel
theorem dX0_find_58 : decode cX0_find 58 = .ok (.return_, 1) := by decide +kernel
set_option maxRecDepth 20000 in
theorem ggX0_hangFrom_X0_hangFrom : GoodIn wsX0_hangFrom wsX0_hangFrom := goodIn_r _ [0, 1, 2, 3, 4, 5, 6, 7, 8, 9, 10, 11, 12, 13, 14, 15, 16, 17, 18, 19, 20, 21, 22, 23, 24, 25, 26, 27, 28, 29, 30, 31, 32, 33, 34, 35, 36, 37, 38, 39, 40, 41, 42, 43, 44, 45, 46, 47, 48, 49, 50, 51, 52, 53, 54] (by decide +kernel) (by decide +kernel)
set_option maxRecDepth 20000 in
theorem gX0_hangFrom_X0_hangFrom : GoodIn wsX0_hangFrom (wsV RX0 67 RX0 yX0_hangFrom wsX0_hangFrom) := goodIn_app (goodIn_of _ (by decide +kernel)) ggX0_hangFrom_X0_hangFrom
set_option maxRecDepth 20000 in
theorem ggX0_hangFrom_X0_costOfFew : GoodIn wsX0_hangFrom wsX0_costOfFew := goodIn_r _ [20, 9, 21, 11, 22, 23, 24, 16, 25, 26, 27, 36, 37, 38, 39, 40, 41, 42, 43, 44, 45, 46, 47, 48, 49, 50, 51, 52, 53, 54] (by decide +kernel) (by decide +kernel)
set_option maxRecDepth 20000 in
theorem gX0_hangFrom_X0_costOfFew : GoodIn wsX0_hangFrom (wsV RX0 77 RX0 yX0_costOfFew wsX0_costOfFew) := goodIn_app (goodIn_of _ (by decide +kernel)) ggX0_hangFrom_X0_costOfFew
set_option maxRecDepth 20000 in
theorem ggX0_hangFrom_X0_costOfEven : GoodIn wsX0_hangFrom wsX0_costOfEven := goodIn_r _ [31, 26, 11, 32, 33, 34, 35, 36, 37, 38, 39, 40, 41, 42, 43, 44] (by decide +kernel) (by decide +kernel)
set_option maxRecDepth 20000 in
theorem gX0_hangFrom_X0_costOfEven : GoodIn wsX0_hangFrom (wsV RX0 81 RX0 yX0_costOfEven wsX0_costOfEven) := goodIn_app (goodIn_of _ (by decide +kernel)) ggX0_hangFrom_X0_costOfEven
theorem dX0_hangFrom_0 : decode cX0_hangFrom 0 = .ok (.iload_n 2, 1) := by decide +kernel
theorem dX0_hangFrom_1 : decode cX0_hangFrom 1 = .ok (.aload_n 0, 1) := by decide +kernel
theorem dX0_hangFrom_2 : decode cX0_hangFrom 2 = .ok (.getfield 37, 3) := by decide +kernel
theorem dX0_hangFrom_5 : decode cX0_hangFrom 5 = .ok (.if_icmp .lt 4, 3) := by decide +kernel
theorem dX0_hangFrom_8 : decode cX0_hangFrom 8 = .ok (.return_, 1) := by decide +kernel
theorem dX0_hangFrom_9 : decode cX0_hangFrom 9 = .ok (.iload_n 1, 1) := by decide +kernel
theorem dX0_hangFrom_10 : decode cX0_hangFrom 10 = .ok (.bipush 6, 2) := by decide +kernel
theorem dX0_hangFrom_12 : decode cX0_hangFrom 12 = .ok (.if_icmp .lt 24, 3) := by decide +kernel
theorem dX0_hangFrom_15 : decode cX0_hangFrom 15 = .ok (.aload_n 0, 1) := by decide +kernel
theorem dX0_hangFrom_16 : decode cX0_hangFrom 16 = .ok (.iload_n 2, 1) := by decide +kernel
theorem dX0_hangFrom_17 : decode cX0_hangFrom 17 = .ok (.putfield 37, 3) := by decide +kernel
theorem dX0_hangFrom_20 : decode cX0_hangFrom 20 = .ok (.aload_n 0, 1) := by decide +kernel
theorem dX0_hangFrom_21 : decode cX0_hangFrom 21 = .ok (.getfield 24, 3) := by decide +kernel
theorem dX0_hangFrom_24 : decode cX0_hangFrom 24 = .ok (.iconst 0, 1) := by decide +kernel
theorem dX0_hangFrom_25 : decode cX0_hangFrom 25 = .ok (.aload_n 0, 1) := by decide +kernel
theorem dX0_hangFrom_26 : decode cX0_hangFrom 26 = .ok (.getfield 27, 3) := by decide +kernel
theorem dX0_hangFrom_29 : decode cX0_hangFrom 29 = .ok (.iconst 0, 1) := by decide +kernel
theorem dX0_hangFrom_30 : decode cX0_hangFrom 30 = .ok (.bipush 6, 2) := by decide +kernel
theorem dX0_hangFrom_32 : decode cX0_hangFrom 32 = .ok (.invokestatic 71, 3) := by decide +kernel
theorem dX0_hangFrom_35 : decode cX0_hangFrom 35 = .ok (.return_, 1) := by decide +kernel
theorem dX0_hangFrom_36 : decode cX0_hangFrom 36 = .ok (.aload_n 0, 1) := by decide +kernel
theorem dX0_hangFrom_37 : decode cX0_hangFrom 37 = .ok (.getfield 16, 3) := by decide +kernel
theorem dX0_hangFrom_40 : decode cX0_hangFrom 40 = .ok (.iload_n 1, 1) := by decide +kernel
theorem dX0_hangFrom_41 : decode cX0_hangFrom 41 = .ok (.ishr, 1) := by decide +kernel
theorem dX0_hangFrom_42 : decode cX0_hangFrom 42 = .ok (.iconst 1, 1) := by decide +kernel
theorem dX0_hangFrom_43 : decode cX0_hangFrom 43 = .ok (.iand, 1) := by decide +kernel
theorem dX0_hangFrom_44 : decode cX0_hangFrom 44 = .ok (.ifCond .ne 12, 3) := by decide +kernel
theorem dX0_hangFrom_47 : decode cX0_hangFrom 47 = .ok (.aload_n 0, 1) := by decide +kernel
theorem dX0_hangFrom_48 : decode cX0_hangFrom 48 = .ok (.iload_n 1, 1) := by decide +kernel
theorem dX0_hangFrom_49 : decode cX0_hangFrom 49 = .ok (.iconst 1, 1) := by decide +kernel
theorem dX0_hangFrom_50 : decode cX0_hangFrom 50 = .ok (.iadd, 1) := by decide +kernel
theorem dX0_hangFrom_51 : decode cX0_hangFrom 51 = .ok (.iload_n 2, 1) := by decide +kernel
theorem dX0_hangFrom_52 : decode cX0_hangFrom 52 = .ok (.invokevirtual 67, 3) := by decide +kernel
theorem dX0_hangFrom_55 : decode cX0_hangFrom 55 = .ok (.return_, 1) := by decide +kernel
theorem dX0_hangFrom_56 : decode cX0_hangFrom 56 = .ok (.iconst 0, 1) := by decide +kernel
theorem dX0_hangFrom_57 : decode cX0_hangFrom 57 = .ok (.istore_n 3, 1) := by decide +kernel
theorem dX0_hangFrom_58 : decode cX0_hangFrom 58 = .ok (.iload_n 3, 1) := by decide +kernel
theorem dX0_hangFrom_59 : decode cX0_hangFrom 59 = .ok (.aload_n 0, 1) := by decide +kernel
theorem dX0_hangFrom_60 : decode cX0_hangFrom 60 = .ok (.getfield 40, 3) := by decide +kernel
theorem dX0_hangFrom_63 : decode cX0_hangFrom 63 = .ok (.getfield 50, 3) := by decide +kernel
theorem dX0_hangFrom_66 : decode cX0_hangFrom 66 = .ok (.if_icmp .ge 76, 3) := by decide +kernel
theorem dX0_hangFrom_69 : decode cX0_hangFrom 69 = .ok (.aload_n 0, 1) := by decide +kernel
theorem dX0_hangFrom_70 : decode cX0_hangFrom 70 = .ok (.getfield 20, 3) := by decide +kernel
theorem dX0_hangFrom_73 : decode cX0_hangFrom 73 = .ok (.iload_n 3, 1) := by decide +kernel
theorem dX0_hangFrom_74 : decode cX0_hangFrom 74 = .ok (.iaload, 1) := by decide +kernel
theorem dX0_hangFrom_75 : decode cX0_hangFrom 75 = .ok (.istore 4, 2) := by decide +kernel
theorem dX0_hangFrom_77 : decode cX0_hangFrom 77 = .ok (.aload_n 0, 1) := by decide +kernel
theorem dX0_hangFrom_78 : decode cX0_hangFrom 78 = .ok (.getfield 20, 3) := by decide +kernel
theorem dX0_hangFrom_81 : decode cX0_hangFrom 81 = .ok (.iload_n 3, 1) := by decide +kernel
theorem dX0_hangFrom_82 : decode cX0_hangFrom 82 = .ok (.iload 4, 2) := by decide +kernel
theorem dX0_hangFrom_84 : decode cX0_hangFrom 84 = .ok (.iconst 1, 1) := by decide +kernel
theorem dX0_hangFrom_85 : decode cX0_hangFrom 85 = .ok (.iload_n 1, 1) := by decide +kernel
theorem dX0_hangFrom_86 : decode cX0_hangFrom 86 = .ok (.ishl, 1) := by decide +kernel
theorem dX0_hangFrom_87 : decode cX0_hangFrom 87 = .ok (.ior, 1) := by decide +kernel
theorem dX0_hangFrom_88 : decode cX0_hangFrom 88 = .ok (.iastore, 1) := by decide +kernel
theorem dX0_hangFrom_89 : decode cX0_hangFrom 89 = .ok (.aload_n 0, 1) := by decide +kernel
theorem dX0_hangFrom_90 : decode cX0_hangFrom 90 = .ok (.getfield 24, 3) := by decide +kernel
theorem dX0_hangFrom_93 : decode cX0_hangFrom 93 = .ok (.iload_n 1, 1) := by decide +kernel
theorem dX0_hangFrom_94 : decode cX0_hangFrom 94 = .ok (.iload_n 3, 1) := by decide +kernel
theorem dX0_hangFrom_95 : decode cX0_hangFrom 95 = .ok (.iastore, 1) := by decide +kernel
theorem dX0_hangFrom_96 : decode cX0_hangFrom 96 = .ok (.aload_n 0, 1) := by decide +kernel
theorem dX0_hangFrom_97 : decode cX0_hangFrom 97 = .ok (.iload_n 1, 1) := by decide +kernel
theorem dX0_hangFrom_98 : decode cX0_hangFrom 98 = .ok (.iconst 1, 1) := by decide +kernel
theorem dX0_hangFrom_99 : decode cX0_hangFrom 99 = .ok (.iadd, 1) := by decide +kernel
theorem dX0_hangFrom_100 : decode cX0_hangFrom 100 = .ok (.aload_n 0, 1) := by decide +kernel
theorem dX0_hangFrom_101 : decode cX0_hangFrom 101 = .ok (.getfield 33, 3) := by decide +kernel
theorem dX0_hangFrom_104 : decode cX0_hangFrom 104 = .ok (.ifCond .eq 15, 3) := by decide +kernel
theorem dX0_hangFrom_107 : decode cX0_hangFrom 107 = .ok (.aload_n 0, 1) := by decide +kernel
theorem dX0_hangFrom_108 : decode cX0_hangFrom 108 = .ok (.iload_n 2, 1) := by decide +kernel
theorem dX0_hangFrom_109 : decode cX0_hangFrom 109 = .ok (.iload_n 3, 1) := by decide +kernel
theorem dX0_hangFrom_110 : decode cX0_hangFrom 110 = .ok (.iload 4, 2) := by decide +kernel
theorem dX0_hangFrom_112 : decode cX0_hangFrom 112 = .ok (.iload_n 1, 1) := by decide +kernel
theorem dX0_hangFrom_113 : decode cX0_hangFrom 113 = .ok (.invokevirtual 77, 3) := by decide +kernel
theorem dX0_hangFrom_116 : decode cX0_hangFrom 116 = .ok (.goto 9, 3) := by decide +kernel
theorem dX0_hangFrom_119 : decode cX0_hangFrom 119 = .ok (.aload_n 0, 1) := by decide +kernel
theorem dX0_hangFrom_120 : decode cX0_hangFrom 120 = .ok (.iload_n 2, 1) := by decide +kernel
theorem dX0_hangFrom_121 : decode cX0_hangFrom 121 = .ok (.iload_n 3, 1) := by decide +kernel
theorem dX0_hangFrom_122 : decode cX0_hangFrom 122 = .ok (.invokevirtual 81, 3) := by decide +kernel
theorem dX0_hangFrom_125 : decode cX0_hangFrom 125 = .ok (.invokevirtual 67, 3) := by decide +kernel
theorem dX0_hangFrom_128 : decode cX0_hangFrom 128 = .ok (.aload_n 0, 1) := by decide +kernel
theorem dX0_hangFrom_129 : decode cX0_hangFrom 129 = .ok (.getfield 20, 3) := by decide +kernel
theorem dX0_hangFrom_132 : decode cX0_hangFrom 132 = .ok (.iload_n 3, 1) := by decide +kernel
theorem dX0_hangFrom_133 : decode cX0_hangFrom 133 = .ok (.iload 4, 2) := by decide +kernel
theorem dX0_hangFrom_135 : decode cX0_hangFrom 135 = .ok (.iastore, 1) := by decide +kernel
theorem dX0_hangFrom_136 : decode cX0_hangFrom 136 = .ok (.iinc 3 1, 3) := by decide +kernel
theorem dX0_hangFrom_139 : decode cX0_hangFrom 139 = .ok (.goto (-81), 3) := by decide +kernel
theorem dX0_hangFrom_142 : decode cX0_hangFrom 142 = .ok (.return_, 1) := by decide +kernel
theorem dX0_costOfEven_0 : decode cX0_costOfEven 0 = .ok (.iload_n 1, 1) := by decide +kernel
theorem dX0_costOfEven_1 : decode cX0_costOfEven 1 = .ok (.aload_n 0, 1) := by decide +kernel
theorem dX0_costOfEven_2 : decode cX0_costOfEven 2 = .ok (.getfield 11, 3) := by decide +kernel
theorem dX0_costOfEven_5 : decode cX0_costOfEven 5 = .ok (.iload_n 2, 1) := by decide +kernel
theorem dX0_costOfEven_6 : decode cX0_costOfEven 6 = .ok (.aaload, 1) := by decide +kernel
theorem dX0_costOfEven_7 : decode cX0_costOfEven 7 = .ok (.aload_n 0, 1) := by decide +kernel
theorem dX0_costOfEven_8 : decode cX0_costOfEven 8 = .ok (.getfield 20, 3) := by decide +kernel
theorem dX0_costOfEven_11 : decode cX0_costOfEven 11 = .ok (.iload_n 2, 1) := by decide +kernel
theorem dX0_costOfEven_12 : decode cX0_costOfEven 12 = .ok (.iaload, 1) := by decide +kernel
theorem dX0_costOfEven_13 : decode cX0_costOfEven 13 = .ok (.iaload, 1) := by decide +kernel
theorem dX0_costOfEven_14 : decode cX0_costOfEven 14 = .ok (.invokestatic 85, 3) := by decide +kernel
theorem dX0_costOfEven_17 : decode cX0_costOfEven 17 = .ok (.ireturn, 1) := by decide +kernel
set_option maxRecDepth 20000 in
theorem ggX0_costOfFew_X0_bends : GoodIn wsX0_costOfFew wsX0_bends := goodIn_r _ [8, 9, 1, 10, 11, 12, 13, 14, 15, 16, 17, 18, 19, 20, 21, 22, 23, 24, 25, 26, 27, 28, 29] (by decide +kernel) (by decide +kernel)
set_option maxRecDepth 20000 in
theorem gX0_costOfFew_X0_bends : GoodIn wsX0_costOfFew (wsV RX0 93 RX0 yX0_bends wsX0_bends) := goodIn_app (goodIn_of _ (by decide +kernel)) ggX0_costOfFew_X0_bends
theorem dX0_costOfFew_0 : decode cX0_costOfFew 0 = .ok (.aload_n 0, 1) := by decide +kernel
theorem dX0_costOfFew_1 : decode cX0_costOfFew 1 = .ok (.getfield 40, 3) := by decide +kernel
theorem dX0_costOfFew_4 : decode cX0_costOfFew 4 = .ok (.getfield 90, 3) := by decide +kernel
theorem dX0_costOfFew_7 : decode cX0_costOfFew 7 = .ok (.iload 4, 2) := by decide +kernel
theorem dX0_costOfFew_9 : decode cX0_costOfFew 9 = .ok (.iaload, 1) := by decide +kernel
theorem dX0_costOfFew_10 : decode cX0_costOfFew 10 = .ok (.iload_n 2, 1) := by decide +kernel
theorem dX0_costOfFew_11 : decode cX0_costOfFew 11 = .ok (.if_icmp .ne 7, 3) := by decide +kernel
theorem dX0_costOfFew_14 : decode cX0_costOfFew 14 = .ok (.iconst 0, 1) := by decide +kernel
theorem dX0_costOfFew_15 : decode cX0_costOfFew 15 = .ok (.goto 4, 3) := by decide +kernel
theorem dX0_costOfFew_18 : decode cX0_costOfFew 18 = .ok (.iconst 1, 1) := by decide +kernel
theorem dX0_costOfFew_19 : decode cX0_costOfFew 19 = .ok (.istore 5, 2) := by decide +kernel
theorem dX0_costOfFew_21 : decode cX0_costOfFew 21 = .ok (.aload_n 0, 1) := by decide +kernel
theorem dX0_costOfFew_22 : decode cX0_costOfFew 22 = .ok (.iload_n 2, 1) := by decide +kernel
theorem dX0_costOfFew_23 : decode cX0_costOfFew 23 = .ok (.iload_n 3, 1) := by decide +kernel
theorem dX0_costOfFew_24 : decode cX0_costOfFew 24 = .ok (.invokevirtual 93, 3) := by decide +kernel
theorem dX0_costOfFew_27 : decode cX0_costOfFew 27 = .ok (.ifCond .ne 20, 3) := by decide +kernel
theorem dX0_costOfFew_30 : decode cX0_costOfFew 30 = .ok (.aload_n 0, 1) := by decide +kernel
theorem dX0_costOfFew_31 : decode cX0_costOfFew 31 = .ok (.iload_n 2, 1) := by decide +kernel
theorem dX0_costOfFew_32 : decode cX0_costOfFew 32 = .ok (.aload_n 0, 1) := by decide +kernel
theorem dX0_costOfFew_33 : decode cX0_costOfFew 33 = .ok (.getfield 20, 3) := by decide +kernel
theorem dX0_costOfFew_36 : decode cX0_costOfFew 36 = .ok (.iload_n 2, 1) := by decide +kernel
theorem dX0_costOfFew_37 : decode cX0_costOfFew 37 = .ok (.iaload, 1) := by decide +kernel
theorem dX0_costOfFew_38 : decode cX0_costOfFew 38 = .ok (.invokevirtual 93, 3) := by decide +kernel
theorem dX0_costOfFew_41 : decode cX0_costOfFew 41 = .ok (.ifCond .eq 6, 3) := by decide +kernel
theorem dX0_costOfFew_44 : decode cX0_costOfFew 44 = .ok (.iinc 5 16, 3) := by decide +kernel
theorem dX0_costOfFew_47 : decode cX0_costOfFew 47 = .ok (.iload_n 1, 1) := by decide +kernel
theorem dX0_costOfFew_48 : decode cX0_costOfFew 48 = .ok (.iload 5, 2) := by decide +kernel
theorem dX0_costOfFew_50 : decode cX0_costOfFew 50 = .ok (.iadd, 1) := by decide +kernel
theorem dX0_costOfFew_51 : decode cX0_costOfFew 51 = .ok (.ireturn, 1) := by decide +kernel
theorem dX0_bends_0 : decode cX0_bends 0 = .ok (.aload_n 0, 1) := by decide +kernel
theorem dX0_bends_1 : decode cX0_bends 1 = .ok (.getfield 11, 3) := by decide +kernel
theorem dX0_bends_4 : decode cX0_bends 4 = .ok (.iload_n 1, 1) := by decide +kernel
theorem dX0_bends_5 : decode cX0_bends 5 = .ok (.aaload, 1) := by decide +kernel
theorem dX0_bends_6 : decode cX0_bends 6 = .ok (.iload_n 2, 1) := by decide +kernel
theorem dX0_bends_7 : decode cX0_bends 7 = .ok (.iaload, 1) := by decide +kernel
theorem dX0_bends_8 : decode cX0_bends 8 = .ok (.aload_n 0, 1) := by decide +kernel
theorem dX0_bends_9 : decode cX0_bends 9 = .ok (.getfield 40, 3) := by decide +kernel
theorem dX0_bends_12 : decode cX0_bends 12 = .ok (.getfield 97, 3) := by decide +kernel
theorem dX0_bends_15 : decode cX0_bends 15 = .ok (.iload_n 1, 1) := by decide +kernel
theorem dX0_bends_16 : decode cX0_bends 16 = .ok (.iaload, 1) := by decide +kernel
theorem dX0_bends_17 : decode cX0_bends 17 = .ok (.if_icmp .le 7, 3) := by decide +kernel
theorem dX0_bends_20 : decode cX0_bends 20 = .ok (.iconst 1, 1) := by decide +kernel
theorem dX0_bends_21 : decode cX0_bends 21 = .ok (.goto 4, 3) := by decide +kernel
theorem dX0_bends_24 : decode cX0_bends 24 = .ok (.iconst 0, 1) := by decide +kernel
theorem dX0_bends_25 : decode cX0_bends 25 = .ok (.ireturn, 1) := by decide +kernel
theorem dX0_wouldWear_0 : decode cX0_wouldWear 0 = .ok (.iload_n 1, 1) := by decide +kernel
theorem dX0_wouldWear_1 : decode cX0_wouldWear 1 = .ok (.ifCond .lt 18, 3) := by decide +kernel
theorem dX0_wouldWear_4 : decode cX0_wouldWear 4 = .ok (.iload_n 1, 1) := by decide +kernel
theorem dX0_wouldWear_5 : decode cX0_wouldWear 5 = .ok (.bipush 6, 2) := by decide +kernel
theorem dX0_wouldWear_7 : decode cX0_wouldWear 7 = .ok (.if_icmp .ge 12, 3) := by decide +kernel
theorem dX0_wouldWear_10 : decode cX0_wouldWear 10 = .ok (.aload_n 0, 1) := by decide +kernel
theorem dX0_wouldWear_11 : decode cX0_wouldWear 11 = .ok (.getfield 27, 3) := by decide +kernel
theorem dX0_wouldWear_14 : decode cX0_wouldWear 14 = .ok (.iload_n 1, 1) := by decide +kernel
theorem dX0_wouldWear_15 : decode cX0_wouldWear 15 = .ok (.iaload, 1) := by decide +kernel
theorem dX0_wouldWear_16 : decode cX0_wouldWear 16 = .ok (.goto 5, 3) := by decide +kernel
theorem dX0_wouldWear_19 : decode cX0_wouldWear 19 = .ok (.bipush (-4), 2) := by decide +kernel
theorem dX0_wouldWear_21 : decode cX0_wouldWear 21 = .ok (.ireturn, 1) := by decide +kernel
set_option maxRecDepth 20000 in
theorem ggX0_ways_J6_bitCount_0f7a4 : GoodIn wsX0_ways wsJ6_bitCount_0f7a4 := goodIn_r _ [7, 8, 9, 10] (by decide +kernel) (by decide +kernel)
set_option maxRecDepth 20000 in
theorem gX0_ways_J6_bitCount_0f7a4 : GoodIn wsX0_ways (va_wsS RX0 100 yJ6_bitCount_0f7a4 wsJ6_bitCount_0f7a4) := goodIn_app (goodIn_of _ (by decide +kernel)) ggX0_ways_J6_bitCount_0f7a4
set_option maxRecDepth 20000 in
theorem ggX0_ways_X0_power : GoodIn wsX0_ways wsX0_power := goodIn_r _ [14] (by decide +kernel) (by decide +kernel)
set_option maxRecDepth 20000 in
theorem gX0_ways_X0_power : GoodIn wsX0_ways (va_wsS RX0 106 yX0_power wsX0_power) := goodIn_app (goodIn_of _ (by decide +kernel)) ggX0_ways_X0_power
theorem dX0_ways_0 : decode cX0_ways 0 = .ok (.aload_n 0, 1) := by decide +kernel
theorem dX0_ways_1 : decode cX0_ways 1 = .ok (.getfield 40, 3) := by decide +kernel
theorem dX0_ways_4 : decode cX0_ways 4 = .ok (.getfield 50, 3) := by decide +kernel
theorem dX0_ways_7 : decode cX0_ways 7 = .ok (.aload_n 0, 1) := by decide +kernel
theorem dX0_ways_8 : decode cX0_ways 8 = .ok (.getfield 16, 3) := by decide +kernel
theorem dX0_ways_11 : decode cX0_ways 11 = .ok (.invokestatic 100, 3) := by decide +kernel
theorem dX0_ways_14 : decode cX0_ways 14 = .ok (.invokestatic 106, 3) := by decide +kernel
theorem dX0_ways_17 : decode cX0_ways 17 = .ok (.ireturn, 1) := by decide +kernel
set_option maxRecDepth 20000 in
theorem ggX0_waysWithBent_X0_bends : GoodIn wsX0_waysWithBent wsX0_bends := goodIn_r _ [8, 9, 2, 10, 21, 22, 23, 24, 25, 26, 27, 28, 29, 30, 31, 32, 33, 34, 35, 36, 37, 38, 39] (by decide +kernel) (by decide +kernel)
set_option maxRecDepth 20000 in
theorem gX0_waysWithBent_X0_bends : GoodIn wsX0_waysWithBent (wsV RX0 93 RX0 yX0_bends wsX0_bends) := goodIn_app (goodIn_of _ (by decide +kernel)) ggX0_waysWithBent_X0_bends
set_option maxRecDepth 20000 in
theorem ggX0_waysWithBent_J6_bitCount_0f7a4 : GoodIn wsX0_waysWithBent wsJ6_bitCount_0f7a4 := goodIn_r _ [14, 15, 16, 17] (by decide +kernel) (by decide +kernel)
set_option maxRecDepth 20000 in
theorem gX0_waysWithBent_J6_bitCount_0f7a4 : GoodIn wsX0_waysWithBent (va_wsS RX0 100 yJ6_bitCount_0f7a4 wsJ6_bitCount_0f7a4) := goodIn_app (goodIn_of _ (by decide +kernel)) ggX0_waysWithBent_J6_bitCount_0f7a4
set_option maxRecDepth 20000 in
theorem ggX0_waysWithBent_X0_power : GoodIn wsX0_waysWithBent wsX0_power := goodIn_r _ [20] (by decide +kernel) (by decide +kernel)
set_option maxRecDepth 20000 in
theorem gX0_waysWithBent_X0_power : GoodIn wsX0_waysWithBent (va_wsS RX0 106 yX0_power wsX0_power) := goodIn_app (goodIn_of _ (by decide +kernel)) ggX0_waysWithBent_X0_power
theorem dX0_waysWithBent_0 : decode cX0_waysWithBent 0 = .ok (.iconst 0, 1) := by decide +kernel
theorem dX0_waysWithBent_1 : decode cX0_waysWithBent 1 = .ok (.istore_n 2, 1) := by decide +kernel
theorem dX0_waysWithBent_2 : decode cX0_waysWithBent 2 = .ok (.iconst 0, 1) := by decide +kernel
theorem dX0_waysWithBent_3 : decode cX0_waysWithBent 3 = .ok (.istore_n 3, 1) := by decide +kernel
theorem dX0_waysWithBent_4 : decode cX0_waysWithBent 4 = .ok (.iload_n 3, 1) := by decide +kernel
theorem dX0_waysWithBent_5 : decode cX0_waysWithBent 5 = .ok (.aload_n 0, 1) := by decide +kernel
theorem dX0_waysWithBent_6 : decode cX0_waysWithBent 6 = .ok (.getfield 16, 3) := by decide +kernel
theorem dX0_waysWithBent_9 : decode cX0_waysWithBent 9 = .ok (.if_icmp .gt 55, 3) := by decide +kernel
theorem dX0_waysWithBent_12 : decode cX0_waysWithBent 12 = .ok (.iload_n 3, 1) := by decide +kernel
theorem dX0_waysWithBent_13 : decode cX0_waysWithBent 13 = .ok (.aload_n 0, 1) := by decide +kernel
theorem dX0_waysWithBent_14 : decode cX0_waysWithBent 14 = .ok (.getfield 16, 3) := by decide +kernel
theorem dX0_waysWithBent_17 : decode cX0_waysWithBent 17 = .ok (.iconst (-1), 1) := by decide +kernel
theorem dX0_waysWithBent_18 : decode cX0_waysWithBent 18 = .ok (.ixor, 1) := by decide +kernel
theorem dX0_waysWithBent_19 : decode cX0_waysWithBent 19 = .ok (.iand, 1) := by decide +kernel
theorem dX0_waysWithBent_20 : decode cX0_waysWithBent 20 = .ok (.ifCond .ne 38, 3) := by decide +kernel
theorem dX0_waysWithBent_23 : decode cX0_waysWithBent 23 = .ok (.aload_n 0, 1) := by decide +kernel
theorem dX0_waysWithBent_24 : decode cX0_waysWithBent 24 = .ok (.iload_n 1, 1) := by decide +kernel
theorem dX0_waysWithBent_25 : decode cX0_waysWithBent 25 = .ok (.iload_n 3, 1) := by decide +kernel
theorem dX0_waysWithBent_26 : decode cX0_waysWithBent 26 = .ok (.invokevirtual 93, 3) := by decide +kernel
theorem dX0_waysWithBent_29 : decode cX0_waysWithBent 29 = .ok (.ifCond .eq 29, 3) := by decide +kernel
theorem dX0_waysWithBent_32 : decode cX0_waysWithBent 32 = .ok (.iload_n 2, 1) := by decide +kernel
theorem dX0_waysWithBent_33 : decode cX0_waysWithBent 33 = .ok (.aload_n 0, 1) := by decide +kernel
theorem dX0_waysWithBent_34 : decode cX0_waysWithBent 34 = .ok (.getfield 40, 3) := by decide +kernel
theorem dX0_waysWithBent_37 : decode cX0_waysWithBent 37 = .ok (.getfield 50, 3) := by decide +kernel
theorem dX0_waysWithBent_40 : decode cX0_waysWithBent 40 = .ok (.iconst 1, 1) := by decide +kernel
theorem dX0_waysWithBent_41 : decode cX0_waysWithBent 41 = .ok (.isub, 1) := by decide +kernel
theorem dX0_waysWithBent_42 : decode cX0_waysWithBent 42 = .ok (.aload_n 0, 1) := by decide +kernel
theorem dX0_waysWithBent_43 : decode cX0_waysWithBent 43 = .ok (.getfield 16, 3) := by decide +kernel
theorem dX0_waysWithBent_46 : decode cX0_waysWithBent 46 = .ok (.iload_n 3, 1) := by decide +kernel
theorem dX0_waysWithBent_47 : decode cX0_waysWithBent 47 = .ok (.iconst (-1), 1) := by decide +kernel
theorem dX0_waysWithBent_48 : decode cX0_waysWithBent 48 = .ok (.ixor, 1) := by decide +kernel
theorem dX0_waysWithBent_49 : decode cX0_waysWithBent 49 = .ok (.iand, 1) := by decide +kernel
theorem dX0_waysWithBent_50 : decode cX0_waysWithBent 50 = .ok (.invokestatic 100, 3) := by decide +kernel
theorem dX0_waysWithBent_53 : decode cX0_waysWithBent 53 = .ok (.invokestatic 106, 3) := by decide +kernel
theorem dX0_waysWithBent_56 : decode cX0_waysWithBent 56 = .ok (.iadd, 1) := by decide +kernel
theorem dX0_waysWithBent_57 : decode cX0_waysWithBent 57 = .ok (.istore_n 2, 1) := by decide +kernel
theorem dX0_waysWithBent_58 : decode cX0_waysWithBent 58 = .ok (.iinc 3 1, 3) := by decide +kernel
theorem dX0_waysWithBent_61 : decode cX0_waysWithBent 61 = .ok (.goto (-57), 3) := by decide +kernel
theorem dX0_waysWithBent_64 : decode cX0_waysWithBent 64 = .ok (.iload_n 2, 1) := by decide +kernel
theorem dX0_waysWithBent_65 : decode cX0_waysWithBent 65 = .ok (.ireturn, 1) := by decide +kernel
set_option maxRecDepth 20000 in
theorem ggX0_waysWithNobodyBent_X0_waysWith : GoodIn wsX0_waysWithNobodyBent wsX0_waysWith := goodIn_r _ [9, 1, 10, 11, 12, 8, 13, 14, 2, 15, 16, 17, 18, 19, 20, 21, 22, 23, 24, 25, 26, 27, 28, 29, 30, 31, 32, 33, 34] (by decide +kernel) (by decide +kernel)
set_option maxRecDepth 20000 in
theorem gX0_waysWithNobodyBent_X0_waysWith : GoodIn wsX0_waysWithNobodyBent (wsV RX0 109 RX0 yX0_waysWith wsX0_waysWith) := goodIn_app (goodIn_of _ (by decide +kernel)) ggX0_waysWithNobodyBent_X0_waysWith
theorem dX0_waysWithNobodyBent_0 : decode cX0_waysWithNobodyBent 0 = .ok (.iconst 0, 1) := by decide +kernel
theorem dX0_waysWithNobodyBent_1 : decode cX0_waysWithNobodyBent 1 = .ok (.istore_n 1, 1) := by decide +kernel
theorem dX0_waysWithNobodyBent_2 : decode cX0_waysWithNobodyBent 2 = .ok (.iload_n 1, 1) := by decide +kernel
theorem dX0_waysWithNobodyBent_3 : decode cX0_waysWithNobodyBent 3 = .ok (.bipush 64, 2) := by decide +kernel
theorem dX0_waysWithNobodyBent_5 : decode cX0_waysWithNobodyBent 5 = .ok (.if_icmp .ge 24, 3) := by decide +kernel
theorem dX0_waysWithNobodyBent_8 : decode cX0_waysWithNobodyBent 8 = .ok (.aload_n 0, 1) := by decide +kernel
theorem dX0_waysWithNobodyBent_9 : decode cX0_waysWithNobodyBent 9 = .ok (.getfield 30, 3) := by decide +kernel
theorem dX0_waysWithNobodyBent_12 : decode cX0_waysWithNobodyBent 12 = .ok (.iload_n 1, 1) := by decide +kernel
theorem dX0_waysWithNobodyBent_13 : decode cX0_waysWithNobodyBent 13 = .ok (.iload_n 1, 1) := by decide +kernel
theorem dX0_waysWithNobodyBent_14 : decode cX0_waysWithNobodyBent 14 = .ok (.ifCond .ne 7, 3) := by decide +kernel
theorem dX0_waysWithNobodyBent_17 : decode cX0_waysWithNobodyBent 17 = .ok (.iconst 1, 1) := by decide +kernel
theorem dX0_waysWithNobodyBent_18 : decode cX0_waysWithNobodyBent 18 = .ok (.goto 4, 3) := by decide +kernel
theorem dX0_waysWithNobodyBent_21 : decode cX0_waysWithNobodyBent 21 = .ok (.iconst 0, 1) := by decide +kernel
theorem dX0_waysWithNobodyBent_22 : decode cX0_waysWithNobodyBent 22 = .ok (.iastore, 1) := by decide +kernel
theorem dX0_waysWithNobodyBent_23 : decode cX0_waysWithNobodyBent 23 = .ok (.iinc 1 1, 3) := by decide +kernel
theorem dX0_waysWithNobodyBent_26 : decode cX0_waysWithNobodyBent 26 = .ok (.goto (-24), 3) := by decide +kernel
theorem dX0_waysWithNobodyBent_29 : decode cX0_waysWithNobodyBent 29 = .ok (.iconst 0, 1) := by decide +kernel
theorem dX0_waysWithNobodyBent_30 : decode cX0_waysWithNobodyBent 30 = .ok (.istore_n 1, 1) := by decide +kernel
theorem dX0_waysWithNobodyBent_31 : decode cX0_waysWithNobodyBent 31 = .ok (.iload_n 1, 1) := by decide +kernel
theorem dX0_waysWithNobodyBent_32 : decode cX0_waysWithNobodyBent 32 = .ok (.aload_n 0, 1) := by decide +kernel
theorem dX0_waysWithNobodyBent_33 : decode cX0_waysWithNobodyBent 33 = .ok (.getfield 40, 3) := by decide +kernel
theorem dX0_waysWithNobodyBent_36 : decode cX0_waysWithNobodyBent 36 = .ok (.getfield 50, 3) := by decide +kernel
theorem dX0_waysWithNobodyBent_39 : decode cX0_waysWithNobodyBent 39 = .ok (.if_icmp .ge 47, 3) := by decide +kernel
theorem dX0_waysWithNobodyBent_42 : decode cX0_waysWithNobodyBent 42 = .ok (.aload_n 0, 1) := by decide +kernel
theorem dX0_waysWithNobodyBent_43 : decode cX0_waysWithNobodyBent 43 = .ok (.getfield 16, 3) := by decide +kernel
theorem dX0_waysWithNobodyBent_46 : decode cX0_waysWithNobodyBent 46 = .ok (.istore_n 2, 1) := by decide +kernel
theorem dX0_waysWithNobodyBent_47 : decode cX0_waysWithNobodyBent 47 = .ok (.iload_n 2, 1) := by decide +kernel
theorem dX0_waysWithNobodyBent_48 : decode cX0_waysWithNobodyBent 48 = .ok (.ifCond .lt 32, 3) := by decide +kernel
theorem dX0_waysWithNobodyBent_51 : decode cX0_waysWithNobodyBent 51 = .ok (.iload_n 2, 1) := by decide +kernel
theorem dX0_waysWithNobodyBent_52 : decode cX0_waysWithNobodyBent 52 = .ok (.aload_n 0, 1) := by decide +kernel
theorem dX0_waysWithNobodyBent_53 : decode cX0_waysWithNobodyBent 53 = .ok (.getfield 16, 3) := by decide +kernel
theorem dX0_waysWithNobodyBent_56 : decode cX0_waysWithNobodyBent 56 = .ok (.iconst (-1), 1) := by decide +kernel
theorem dX0_waysWithNobodyBent_57 : decode cX0_waysWithNobodyBent 57 = .ok (.ixor, 1) := by decide +kernel
theorem dX0_waysWithNobodyBent_58 : decode cX0_waysWithNobodyBent 58 = .ok (.iand, 1) := by decide +kernel
theorem dX0_waysWithNobodyBent_59 : decode cX0_waysWithNobodyBent 59 = .ok (.ifCond .ne 15, 3) := by decide +kernel
theorem dX0_waysWithNobodyBent_62 : decode cX0_waysWithNobodyBent 62 = .ok (.aload_n 0, 1) := by decide +kernel
theorem dX0_waysWithNobodyBent_63 : decode cX0_waysWithNobodyBent 63 = .ok (.getfield 30, 3) := by decide +kernel
theorem dX0_waysWithNobodyBent_66 : decode cX0_waysWithNobodyBent 66 = .ok (.iload_n 2, 1) := by decide +kernel
theorem dX0_waysWithNobodyBent_67 : decode cX0_waysWithNobodyBent 67 = .ok (.aload_n 0, 1) := by decide +kernel
theorem dX0_waysWithNobodyBent_68 : decode cX0_waysWithNobodyBent 68 = .ok (.iload_n 1, 1) := by decide +kernel
theorem dX0_waysWithNobodyBent_69 : decode cX0_waysWithNobodyBent 69 = .ok (.iload_n 2, 1) := by decide +kernel
theorem dX0_waysWithNobodyBent_70 : decode cX0_waysWithNobodyBent 70 = .ok (.invokevirtual 109, 3) := by decide +kernel
theorem dX0_waysWithNobodyBent_73 : decode cX0_waysWithNobodyBent 73 = .ok (.iastore, 1) := by decide +kernel
theorem dX0_waysWithNobodyBent_74 : decode cX0_waysWithNobodyBent 74 = .ok (.iinc 2 (-1), 3) := by decide +kernel
theorem dX0_waysWithNobodyBent_77 : decode cX0_waysWithNobodyBent 77 = .ok (.goto (-30), 3) := by decide +kernel
theorem dX0_waysWithNobodyBent_80 : decode cX0_waysWithNobodyBent 80 = .ok (.iinc 1 1, 3) := by decide +kernel
theorem dX0_waysWithNobodyBent_83 : decode cX0_waysWithNobodyBent 83 = .ok (.goto (-52), 3) := by decide +kernel
theorem dX0_waysWithNobodyBent_86 : decode cX0_waysWithNobodyBent 86 = .ok (.aload_n 0, 1) := by decide +kernel
theorem dX0_waysWithNobodyBent_87 : decode cX0_waysWithNobodyBent 87 = .ok (.getfield 30, 3) := by decide +kernel
theorem dX0_waysWithNobodyBent_90 : decode cX0_waysWithNobodyBent 90 = .ok (.aload_n 0, 1) := by decide +kernel
theorem dX0_waysWithNobodyBent_91 : decode cX0_waysWithNobodyBent 91 = .ok (.getfield 16, 3) := by decide +kernel
theorem dX0_waysWithNobodyBent_94 : decode cX0_waysWithNobodyBent 94 = .ok (.iaload, 1) := by decide +kernel
theorem dX0_waysWithNobodyBent_95 : decode cX0_waysWithNobodyBent 95 = .ok (.ireturn, 1) := by decide +kernel
set_option maxRecDepth 20000 in
theorem ggX0_waysWith_X0_bends : GoodIn wsX0_waysWith wsX0_bends := goodIn_r _ [6, 7, 8, 9, 10, 11, 12, 13, 14, 15, 16, 17, 18, 19, 20, 21, 22, 23, 24, 25, 26, 27, 28] (by decide +kernel) (by decide +kernel)
set_option maxRecDepth 20000 in
theorem gX0_waysWith_X0_bends : GoodIn wsX0_waysWith (wsV RX0 93 RX0 yX0_bends wsX0_bends) := goodIn_app (goodIn_of _ (by decide +kernel)) ggX0_waysWith_X0_bends
theorem dX0_waysWith_0 : decode cX0_waysWith 0 = .ok (.iconst 0, 1) := by decide +kernel
theorem dX0_waysWith_1 : decode cX0_waysWith 1 = .ok (.istore_n 3, 1) := by decide +kernel
theorem dX0_waysWith_2 : decode cX0_waysWith 2 = .ok (.iconst 0, 1) := by decide +kernel
theorem dX0_waysWith_3 : decode cX0_waysWith 3 = .ok (.istore 4, 2) := by decide +kernel
theorem dX0_waysWith_5 : decode cX0_waysWith 5 = .ok (.iload 4, 2) := by decide +kernel
theorem dX0_waysWith_7 : decode cX0_waysWith 7 = .ok (.iload_n 2, 1) := by decide +kernel
theorem dX0_waysWith_8 : decode cX0_waysWith 8 = .ok (.if_icmp .gt 42, 3) := by decide +kernel
theorem dX0_waysWith_11 : decode cX0_waysWith 11 = .ok (.iload 4, 2) := by decide +kernel
theorem dX0_waysWith_13 : decode cX0_waysWith 13 = .ok (.iload_n 2, 1) := by decide +kernel
theorem dX0_waysWith_14 : decode cX0_waysWith 14 = .ok (.iconst (-1), 1) := by decide +kernel
theorem dX0_waysWith_15 : decode cX0_waysWith 15 = .ok (.ixor, 1) := by decide +kernel
theorem dX0_waysWith_16 : decode cX0_waysWith 16 = .ok (.iand, 1) := by decide +kernel
theorem dX0_waysWith_17 : decode cX0_waysWith 17 = .ok (.ifCond .ne 27, 3) := by decide +kernel
theorem dX0_waysWith_20 : decode cX0_waysWith 20 = .ok (.aload_n 0, 1) := by decide +kernel
theorem dX0_waysWith_21 : decode cX0_waysWith 21 = .ok (.iload_n 1, 1) := by decide +kernel
theorem dX0_waysWith_22 : decode cX0_waysWith 22 = .ok (.iload 4, 2) := by decide +kernel
theorem dX0_waysWith_24 : decode cX0_waysWith 24 = .ok (.invokevirtual 93, 3) := by decide +kernel
theorem dX0_waysWith_27 : decode cX0_waysWith 27 = .ok (.ifCond .ne 17, 3) := by decide +kernel
theorem dX0_waysWith_30 : decode cX0_waysWith 30 = .ok (.iload_n 3, 1) := by decide +kernel
theorem dX0_waysWith_31 : decode cX0_waysWith 31 = .ok (.aload_n 0, 1) := by decide +kernel
theorem dX0_waysWith_32 : decode cX0_waysWith 32 = .ok (.getfield 30, 3) := by decide +kernel
theorem dX0_waysWith_35 : decode cX0_waysWith 35 = .ok (.iload_n 2, 1) := by decide +kernel
theorem dX0_waysWith_36 : decode cX0_waysWith 36 = .ok (.iload 4, 2) := by decide +kernel
theorem dX0_waysWith_38 : decode cX0_waysWith 38 = .ok (.iconst (-1), 1) := by decide +kernel
theorem dX0_waysWith_39 : decode cX0_waysWith 39 = .ok (.ixor, 1) := by decide +kernel
theorem dX0_waysWith_40 : decode cX0_waysWith 40 = .ok (.iand, 1) := by decide +kernel
theorem dX0_waysWith_41 : decode cX0_waysWith 41 = .ok (.iaload, 1) := by decide +kernel
theorem dX0_waysWith_42 : decode cX0_waysWith 42 = .ok (.iadd, 1) := by decide +kernel
theorem dX0_waysWith_43 : decode cX0_waysWith 43 = .ok (.istore_n 3, 1) := by decide +kernel
theorem dX0_waysWith_44 : decode cX0_waysWith 44 = .ok (.iinc 4 1, 3) := by decide +kernel
theorem dX0_waysWith_47 : decode cX0_waysWith 47 = .ok (.goto (-42), 3) := by decide +kernel
theorem dX0_waysWith_50 : decode cX0_waysWith 50 = .ok (.iload_n 3, 1) := by decide +kernel
theorem dX0_waysWith_51 : decode cX0_waysWith 51 = .ok (.ireturn, 1) := by decide +kernel
theorem dX0_power_0 : decode cX0_power 0 = .ok (.iconst 1, 1) := by decide +kernel
theorem dX0_power_1 : decode cX0_power 1 = .ok (.istore_n 2, 1) := by decide +kernel
theorem dX0_power_2 : decode cX0_power 2 = .ok (.iconst 0, 1) := by decide +kernel
theorem dX0_power_3 : decode cX0_power 3 = .ok (.istore_n 3, 1) := by decide +kernel
theorem dX0_power_4 : decode cX0_power 4 = .ok (.iload_n 3, 1) := by decide +kernel
theorem dX0_power_5 : decode cX0_power 5 = .ok (.iload_n 1, 1) := by decide +kernel
theorem dX0_power_6 : decode cX0_power 6 = .ok (.if_icmp .ge 13, 3) := by decide +kernel
theorem dX0_power_9 : decode cX0_power 9 = .ok (.iload_n 2, 1) := by decide +kernel
theorem dX0_power_10 : decode cX0_power 10 = .ok (.iload_n 0, 1) := by decide +kernel
theorem dX0_power_11 : decode cX0_power 11 = .ok (.imul, 1) := by decide +kernel
theorem dX0_power_12 : decode cX0_power 12 = .ok (.istore_n 2, 1) := by decide +kernel
theorem dX0_power_13 : decode cX0_power 13 = .ok (.iinc 3 1, 3) := by decide +kernel
theorem dX0_power_16 : decode cX0_power 16 = .ok (.goto (-12), 3) := by decide +kernel
theorem dX0_power_19 : decode cX0_power 19 = .ok (.iload_n 2, 1) := by decide +kernel
theorem dX0_power_20 : decode cX0_power 20 = .ok (.ireturn, 1) := by decide +kernel
def fX0_bends (p1 : Int32) (p2 : Int32) (ld_h : Nat → Nat → Int32) (st_n : Nat → Int32) : Option Int32 := gin p1 5 (gin p2 64 (gin p1 5 (if (ld_h (Int32.toNatClampNeg p1) (Int32.toNatClampNeg p2)) ≤ (st_n (Int32.toNatClampNeg p1)) then (some 0) else (some 1))))
theorem in_X0_bends_X0 : ∀ w ∈ wsX00, w ∈ wsX0_bends := by decide +kernel
theorem in_X0_bends_X1 : ∀ w ∈ wsX10, w ∈ wsX0_bends := by decide +kernel
set_option maxHeartbeats 4000000 in
set_option maxRecDepth 100000 in
theorem ct_X0_bends {l : Launch} {D : va_G} {g : Nat → ClassId} {qa : Nat → Nat} {E0 : Nat → va_E} {p1 : Int32} {p2 : Int32} {worn_h : Int32} {few_h : Int32} {bc_h : Int32} {ld_h : Nat → Nat → Int32} {so_h : Nat → Int32} {tr_h : Nat → Int32} {be_h : Nat → Int32} {wy_h : Nat → Int32} {men_n : Int32} {md_n : Int32} {day_n : Int32} {drw_n : Int32} {bu_n : Nat → Int32} {st_n : Nat → Int32} {ki_n : Nat → Int32} {we_n : Nat → Int32} {wo_n : Nat → Int32} {wr_n : Nat → Int32} (hG_h : Ha g qa E0 44 worn_h few_h bc_h ld_h so_h tr_h be_h wy_h) (hG_n : Mu g qa E0 1 men_n md_n day_n drw_n bu_n st_n ki_n we_n wo_n wr_n) {R : Int32} (hf : fX0_bends p1 p2 ld_h st_n = some R) : MI l yX0_bends wsX0_bends 0 D g qa E0 [.ref (qa 44), .int p1, .int p2] R (fun E => E = E0) := by
  refine MI.mk (by decide) rfl (Nat.le_of_ble_eq_true rfl) ?_
  intro p e s m args below meth c ls Q X hret hP hS hl
  have hl : lv_has ls 3 [(0, .ref (qa 44)), (1, .int p1), (2, .int p2)] := hl
  rw [fX0_bends] at hf
  refine lv_aload_n X.1 X.2.1 dX0_bends_0 rfl (lv_at hl 0 rfl) ?_
  refine x_get X hP hG_h.1 (by omega) rfl in_X0_bends_X0 1 (by decide) (by decide +kernel) rfl rfl dX0_bends_1 ?_
  refine lv_iload_n X.1 X.2.1 dX0_bends_4 rfl (lv_at hl 1 rfl) ?_
  obtain ⟨hi1, hf⟩ := gin_of hf
  have hj2 := in_lt hi1
  refine x_aald X hP 3 rfl rfl hG_h.2.1 (by omega) hi1 dX0_bends_5 ?_
  refine lv_iload_n X.1 X.2.1 dX0_bends_6 rfl (lv_at hl 2 rfl) ?_
  obtain ⟨hi3, hf⟩ := gin_of hf
  refine x_iald X hP (hG_h.2.2.1 _ hj2) (by omega) hi3 dX0_bends_7 ?_
  refine lv_aload_n X.1 X.2.1 dX0_bends_8 rfl (lv_at hl 0 rfl) ?_
  refine x_get X hP hG_h.1 (by omega) rfl in_X0_bends_X0 0 (by decide) (by decide +kernel) rfl rfl dX0_bends_9 ?_
  refine x_get X hP hG_n.1 (by omega) rfl in_X0_bends_X1 2 (by decide) (by decide +kernel) rfl rfl dX0_bends_12 ?_
  refine lv_iload_n X.1 X.2.1 dX0_bends_15 rfl (lv_at hl 1 rfl) ?_
  obtain ⟨hi4, hf⟩ := gin_of hf
  refine x_iald X hP hG_n.2.2.1 (by omega) hi4 dX0_bends_16 ?_
  refine lv_icmp_le (tgt := 24) X.1 X.2.1 dX0_bends_17 (by decide) (fun c5 => ?_) (fun c5 => ?_)
  · have hf := ifp hf c5
    refine lv_iconst (v := 0) X.1 X.2.1 dX0_bends_24 (by decide) ?_
    obtain rfl := Option.some.inj hf
    exact hret _ _ _ _ _ _ dX0_bends_25 rfl rfl (rfl) hP hS
  · have hf := ifn hf c5
    refine lv_iconst (v := 1) X.1 X.2.1 dX0_bends_20 (by decide) ?_
    refine lv_goto (tgt := 25) X.1 X.2.1 dX0_bends_21 (by decide) ?_
    obtain rfl := Option.some.inj hf
    exact hret _ _ _ _ _ _ dX0_bends_25 rfl rfl (rfl) hP hS
def fX0_costOfEven (p1 : Int32) (p2 : Int32) (ld_h : Nat → Nat → Int32) (so_h : Nat → Int32) : Option Int32 := gin p2 5 (gin p2 5 (gin (so_h (Int32.toNatClampNeg p2)) 64 (some (if p1 < (ld_h (Int32.toNatClampNeg p2) (Int32.toNatClampNeg (so_h (Int32.toNatClampNeg p2)))) then ld_h (Int32.toNatClampNeg p2) (Int32.toNatClampNeg (so_h (Int32.toNatClampNeg p2))) else p1))))
theorem in_X0_costOfEven_X0 : ∀ w ∈ wsX00, w ∈ wsX0_costOfEven := by decide +kernel
set_option maxHeartbeats 4000000 in
set_option maxRecDepth 100000 in
theorem ct_X0_costOfEven {l : Launch} {D : va_G} {g : Nat → ClassId} {qa : Nat → Nat} {E0 : Nat → va_E} {p1 : Int32} {p2 : Int32} {worn_h : Int32} {few_h : Int32} {bc_h : Int32} {ld_h : Nat → Nat → Int32} {so_h : Nat → Int32} {tr_h : Nat → Int32} {be_h : Nat → Int32} {wy_h : Nat → Int32} (hG_h : Ha g qa E0 44 worn_h few_h bc_h ld_h so_h tr_h be_h wy_h) {R : Int32} (hf : fX0_costOfEven p1 p2 ld_h so_h = some R) : MI l yX0_costOfEven wsX0_costOfEven 1 D g qa E0 [.ref (qa 44), .int p1, .int p2] R (fun E => E = E0) := by
  refine MI.mk (by decide) rfl (Nat.le_of_ble_eq_true rfl) ?_
  intro p e s m args below meth c ls Q X hret hP hS hl
  have hl : lv_has ls 3 [(0, .ref (qa 44)), (1, .int p1), (2, .int p2)] := hl
  rw [fX0_costOfEven] at hf
  refine lv_iload_n X.1 X.2.1 dX0_costOfEven_0 rfl (lv_at hl 1 rfl) ?_
  refine lv_aload_n X.1 X.2.1 dX0_costOfEven_1 rfl (lv_at hl 0 rfl) ?_
  refine x_get X hP hG_h.1 (by omega) rfl in_X0_costOfEven_X0 1 (by decide) (by decide +kernel) rfl rfl dX0_costOfEven_2 ?_
  refine lv_iload_n X.1 X.2.1 dX0_costOfEven_5 rfl (lv_at hl 2 rfl) ?_
  obtain ⟨hi1, hf⟩ := gin_of hf
  have hj2 := in_lt hi1
  refine x_aald X hP 3 rfl rfl hG_h.2.1 (by omega) hi1 dX0_costOfEven_6 ?_
  refine lv_aload_n X.1 X.2.1 dX0_costOfEven_7 rfl (lv_at hl 0 rfl) ?_
  refine x_get X hP hG_h.1 (by omega) rfl in_X0_costOfEven_X0 3 (by decide) (by decide +kernel) rfl rfl dX0_costOfEven_8 ?_
  refine lv_iload_n X.1 X.2.1 dX0_costOfEven_11 rfl (lv_at hl 2 rfl) ?_
  obtain ⟨hi3, hf⟩ := gin_of hf
  refine x_iald X hP hG_h.2.2.2.1 (by omega) hi3 dX0_costOfEven_12 ?_
  obtain ⟨hi4, hf⟩ := gin_of hf
  refine x_iald X hP (hG_h.2.2.1 _ hj2) (by omega) hi4 dX0_costOfEven_13 ?_
  refine x_max X (index := 85) (by decide +kernel) (by decide +kernel) (by decide +kernel) (by decide +kernel) hl.1 (by decide) (Nat.le_of_ble_eq_true rfl) dX0_costOfEven_14 ?_
  obtain rfl := Option.some.inj hf
  exact hret _ _ _ _ _ _ dX0_costOfEven_17 rfl rfl (rfl) hP hS
def fX0_costOfFew (p1 : Int32) (p2 : Int32) (p3 : Int32) (p4 : Int32) (ld_h : Nat → Nat → Int32) (so_h : Nat → Int32) (st_n : Nat → Int32) (wr_n : Nat → Int32) : Option Int32 := gin p4 6 (if (wr_n (Int32.toNatClampNeg p4)) = p2 then ((fX0_bends p2 p3 ld_h st_n).bind (fun r9 => if r9 = 0 then (gin p2 5 ((fX0_bends p2 (so_h (Int32.toNatClampNeg p2)) ld_h st_n).bind (fun r12 => if r12 = 0 then (some (p1 + 0)) else (nm (0 + 16) (fun x14 => some (p1 + x14)))))) else (some (p1 + 0)))) else ((fX0_bends p2 p3 ld_h st_n).bind (fun r3 => if r3 = 0 then (gin p2 5 ((fX0_bends p2 (so_h (Int32.toNatClampNeg p2)) ld_h st_n).bind (fun r6 => if r6 = 0 then (some (p1 + 1)) else (nm (1 + 16) (fun x8 => some (p1 + x8)))))) else (some (p1 + 1)))))
theorem in_X0_costOfFew_X0 : ∀ w ∈ wsX00, w ∈ wsX0_costOfFew := by decide +kernel
theorem in_X0_costOfFew_X1 : ∀ w ∈ wsX10, w ∈ wsX0_costOfFew := by decide +kernel
set_option maxHeartbeats 4000000 in
set_option maxRecDepth 100000 in
theorem ct_X0_costOfFew {l : Launch} {D : va_G} {g : Nat → ClassId} {qa : Nat → Nat} {E0 : Nat → va_E} {p1 : Int32} {p2 : Int32} {p3 : Int32} {p4 : Int32} {worn_h : Int32} {few_h : Int32} {bc_h : Int32} {ld_h : Nat → Nat → Int32} {so_h : Nat → Int32} {tr_h : Nat → Int32} {be_h : Nat → Int32} {wy_h : Nat → Int32} {men_n : Int32} {md_n : Int32} {day_n : Int32} {drw_n : Int32} {bu_n : Nat → Int32} {st_n : Nat → Int32} {ki_n : Nat → Int32} {we_n : Nat → Int32} {wo_n : Nat → Int32} {wr_n : Nat → Int32} (hG_h : Ha g qa E0 44 worn_h few_h bc_h ld_h so_h tr_h be_h wy_h) (hG_n : Mu g qa E0 1 men_n md_n day_n drw_n bu_n st_n ki_n we_n wo_n wr_n) {R : Int32} (hf : fX0_costOfFew p1 p2 p3 p4 ld_h so_h st_n wr_n = some R) : MI l yX0_costOfFew wsX0_costOfFew 1 D g qa E0 [.ref (qa 44), .int p1, .int p2, .int p3, .int p4] R (fun E => E = E0) := by
  refine MI.mk (by decide) rfl (Nat.le_of_ble_eq_true rfl) ?_
  intro p e s m args below meth c ls Q X hret hP hS hl
  have hl : lv_has ls 6 [(0, .ref (qa 44)), (1, .int p1), (2, .int p2), (3, .int p3), (4, .int p4)] := hl
  rw [fX0_costOfFew] at hf
  refine lv_aload_n X.1 X.2.1 dX0_costOfFew_0 rfl (lv_at hl 0 rfl) ?_
  refine x_get X hP hG_h.1 (by omega) rfl in_X0_costOfFew_X0 0 (by decide) (by decide +kernel) rfl rfl dX0_costOfFew_1 ?_
  refine x_get X hP hG_n.1 (by omega) rfl in_X0_costOfFew_X1 7 (by decide) (by decide +kernel) rfl rfl dX0_costOfFew_4 ?_
  refine lv_iload X.1 X.2.1 dX0_costOfFew_7 (lv_at hl 4 rfl) ?_
  obtain ⟨hi1, hf⟩ := gin_of hf
  refine x_iald X hP hG_n.2.2.2.2.2.2 (by omega) hi1 dX0_costOfFew_9 ?_
  refine lv_iload_n X.1 X.2.1 dX0_costOfFew_10 rfl (lv_at hl 2 rfl) ?_
  refine lv_icmp_ne (tgt := 18) X.1 X.2.1 dX0_costOfFew_11 (by decide) (fun c2 => ?_) (fun c2 => ?_)
  · have hf := ifn hf c2
    refine lv_iconst (v := 1) X.1 X.2.1 dX0_costOfFew_18 (by decide) ?_
    refine lv_istore (lv' := [(5, .int 1), (0, .ref (qa 44)), (1, .int p1), (2, .int p2), (3, .int p3), (4, .int p4)]) X.1 X.2.1 dX0_costOfFew_19 hl (by decide) rfl (fun ls hl => ?_)
    refine lv_aload_n X.1 X.2.1 dX0_costOfFew_21 rfl (lv_at hl 1 rfl) ?_
    refine lv_iload_n X.1 X.2.1 dX0_costOfFew_22 rfl (lv_at hl 3 rfl) ?_
    refine lv_iload_n X.1 X.2.1 dX0_costOfFew_23 rfl (lv_at hl 4 rfl) ?_
    obtain ⟨r3, hr3, hf⟩ := bd_of hf
    refine x_rdVi X hP hS hG_h.1 (by omega) rfl (n := 2) (As := [.int p2, .int p3]) (ct_X0_bends hG_h hG_n hr3) gX0_costOfFew_X0_bends rfl (by decide +kernel) ⟨by decide, by decide⟩ rfl hl.1 rfl (Nat.le_of_ble_eq_true rfl) dX0_costOfFew_24 (fun H locs hP hS => ?_)
    refine lv_if_ne (tgt := 47) X.1 X.2.1 dX0_costOfFew_27 (by decide) (fun c4 => ?_) (fun c4 => ?_)
    · have hf := ifn hf c4
      refine lv_iload_n X.1 X.2.1 dX0_costOfFew_47 rfl (lv_at hl 2 rfl) ?_
      refine lv_iload X.1 X.2.1 dX0_costOfFew_48 (lv_at hl 0 rfl) ?_
      refine lv_iadd X.1 X.2.1 dX0_costOfFew_50 ?_
      obtain rfl := Option.some.inj hf
      exact hret _ _ _ _ _ _ dX0_costOfFew_51 rfl rfl (rfl) hP hS
    · have hf := ifp hf c4
      refine lv_aload_n X.1 X.2.1 dX0_costOfFew_30 rfl (lv_at hl 1 rfl) ?_
      refine lv_iload_n X.1 X.2.1 dX0_costOfFew_31 rfl (lv_at hl 3 rfl) ?_
      refine lv_aload_n X.1 X.2.1 dX0_costOfFew_32 rfl (lv_at hl 1 rfl) ?_
      refine x_get X hP hG_h.1 (by omega) rfl in_X0_costOfFew_X0 3 (by decide) (by decide +kernel) rfl rfl dX0_costOfFew_33 ?_
      refine lv_iload_n X.1 X.2.1 dX0_costOfFew_36 rfl (lv_at hl 3 rfl) ?_
      obtain ⟨hi5, hf⟩ := gin_of hf
      refine x_iald X hP hG_h.2.2.2.1 (by omega) hi5 dX0_costOfFew_37 ?_
      obtain ⟨r6, hr6, hf⟩ := bd_of hf
      refine x_rdVi X hP hS hG_h.1 (by omega) rfl (n := 2) (As := [.int p2, .int (so_h (Int32.toNatClampNeg p2))]) (ct_X0_bends hG_h hG_n hr6) gX0_costOfFew_X0_bends rfl (by decide +kernel) ⟨by decide, by decide⟩ rfl hl.1 rfl (Nat.le_of_ble_eq_true rfl) dX0_costOfFew_38 (fun H locs hP hS => ?_)
      refine lv_if_eq (tgt := 47) X.1 X.2.1 dX0_costOfFew_41 (by decide) (fun c7 => ?_) (fun c7 => ?_)
      · have hf := ifp hf c7
        refine lv_iload_n X.1 X.2.1 dX0_costOfFew_47 rfl (lv_at hl 2 rfl) ?_
        refine lv_iload X.1 X.2.1 dX0_costOfFew_48 (lv_at hl 0 rfl) ?_
        refine lv_iadd X.1 X.2.1 dX0_costOfFew_50 ?_
        obtain rfl := Option.some.inj hf
        exact hret _ _ _ _ _ _ dX0_costOfFew_51 rfl rfl (rfl) hP hS
      · have hf := ifn hf c7
        obtain ⟨x8, ex8, hf⟩ := nm_of hf
        refine lv_iinc (v := x8) (lv' := [(5, .int x8), (0, .ref (qa 44)), (1, .int p1), (2, .int p2), (3, .int p3), (4, .int p4)]) X.1 X.2.1 dX0_costOfFew_44 hl (k := 0) rfl (by rw [ex8]; rfl) (by decide) rfl (fun ls hl => ?_)
        refine lv_iload_n X.1 X.2.1 dX0_costOfFew_47 rfl (lv_at hl 2 rfl) ?_
        refine lv_iload X.1 X.2.1 dX0_costOfFew_48 (lv_at hl 0 rfl) ?_
        refine lv_iadd X.1 X.2.1 dX0_costOfFew_50 ?_
        obtain rfl := Option.some.inj hf
        exact hret _ _ _ _ _ _ dX0_costOfFew_51 rfl rfl (rfl) hP hS
  · have hf := ifp hf c2
    refine lv_iconst (v := 0) X.1 X.2.1 dX0_costOfFew_14 (by decide) ?_
    refine lv_goto (tgt := 19) X.1 X.2.1 dX0_costOfFew_15 (by decide) ?_
    refine lv_istore (lv' := [(5, .int 0), (0, .ref (qa 44)), (1, .int p1), (2, .int p2), (3, .int p3), (4, .int p4)]) X.1 X.2.1 dX0_costOfFew_19 hl (by decide) rfl (fun ls hl => ?_)
    refine lv_aload_n X.1 X.2.1 dX0_costOfFew_21 rfl (lv_at hl 1 rfl) ?_
    refine lv_iload_n X.1 X.2.1 dX0_costOfFew_22 rfl (lv_at hl 3 rfl) ?_
    refine lv_iload_n X.1 X.2.1 dX0_costOfFew_23 rfl (lv_at hl 4 rfl) ?_
    obtain ⟨r9, hr9, hf⟩ := bd_of hf
    refine x_rdVi X hP hS hG_h.1 (by omega) rfl (n := 2) (As := [.int p2, .int p3]) (ct_X0_bends hG_h hG_n hr9) gX0_costOfFew_X0_bends rfl (by decide +kernel) ⟨by decide, by decide⟩ rfl hl.1 rfl (Nat.le_of_ble_eq_true rfl) dX0_costOfFew_24 (fun H locs hP hS => ?_)
    refine lv_if_ne (tgt := 47) X.1 X.2.1 dX0_costOfFew_27 (by decide) (fun c10 => ?_) (fun c10 => ?_)
    · have hf := ifn hf c10
      refine lv_iload_n X.1 X.2.1 dX0_costOfFew_47 rfl (lv_at hl 2 rfl) ?_
      refine lv_iload X.1 X.2.1 dX0_costOfFew_48 (lv_at hl 0 rfl) ?_
      refine lv_iadd X.1 X.2.1 dX0_costOfFew_50 ?_
      obtain rfl := Option.some.inj hf
      exact hret _ _ _ _ _ _ dX0_costOfFew_51 rfl rfl (rfl) hP hS
    · have hf := ifp hf c10
      refine lv_aload_n X.1 X.2.1 dX0_costOfFew_30 rfl (lv_at hl 1 rfl) ?_
      refine lv_iload_n X.1 X.2.1 dX0_costOfFew_31 rfl (lv_at hl 3 rfl) ?_
      refine lv_aload_n X.1 X.2.1 dX0_costOfFew_32 rfl (lv_at hl 1 rfl) ?_
      refine x_get X hP hG_h.1 (by omega) rfl in_X0_costOfFew_X0 3 (by decide) (by decide +kernel) rfl rfl dX0_costOfFew_33 ?_
      refine lv_iload_n X.1 X.2.1 dX0_costOfFew_36 rfl (lv_at hl 3 rfl) ?_
      obtain ⟨hi11, hf⟩ := gin_of hf
      refine x_iald X hP hG_h.2.2.2.1 (by omega) hi11 dX0_costOfFew_37 ?_
      obtain ⟨r12, hr12, hf⟩ := bd_of hf
      refine x_rdVi X hP hS hG_h.1 (by omega) rfl (n := 2) (As := [.int p2, .int (so_h (Int32.toNatClampNeg p2))]) (ct_X0_bends hG_h hG_n hr12) gX0_costOfFew_X0_bends rfl (by decide +kernel) ⟨by decide, by decide⟩ rfl hl.1 rfl (Nat.le_of_ble_eq_true rfl) dX0_costOfFew_38 (fun H locs hP hS => ?_)
      refine lv_if_eq (tgt := 47) X.1 X.2.1 dX0_costOfFew_41 (by decide) (fun c13 => ?_) (fun c13 => ?_)
      · have hf := ifp hf c13
        refine lv_iload_n X.1 X.2.1 dX0_costOfFew_47 rfl (lv_at hl 2 rfl) ?_
        refine lv_iload X.1 X.2.1 dX0_costOfFew_48 (lv_at hl 0 rfl) ?_
        refine lv_iadd X.1 X.2.1 dX0_costOfFew_50 ?_
        obtain rfl := Option.some.inj hf
        exact hret _ _ _ _ _ _ dX0_costOfFew_51 rfl rfl (rfl) hP hS
      · have hf := ifn hf c13
        obtain ⟨x14, ex14, hf⟩ := nm_of hf
        refine lv_iinc (v := x14) (lv' := [(5, .int x14), (0, .ref (qa 44)), (1, .int p1), (2, .int p2), (3, .int p3), (4, .int p4)]) X.1 X.2.1 dX0_costOfFew_44 hl (k := 0) rfl (by rw [ex14]; rfl) (by decide) rfl (fun ls hl => ?_)
        refine lv_iload_n X.1 X.2.1 dX0_costOfFew_47 rfl (lv_at hl 2 rfl) ?_
        refine lv_iload X.1 X.2.1 dX0_costOfFew_48 (lv_at hl 0 rfl) ?_
        refine lv_iadd X.1 X.2.1 dX0_costOfFew_50 ?_
        obtain rfl := Option.some.inj hf
        exact hret _ _ _ _ _ _ dX0_costOfFew_51 rfl rfl (rfl) hP hS
def bX0_prepare_26 (md_n : Int32) (day_n : Int32) (ki_n : Nat → Int32) (we_n : Nat → Int32) (wo_n : Nat → Int32) (r1 : Int32) (v1_2 : Int32) (K2 : ((Int32 × (Nat → Nat → Int32))) → Option (Int32 × (Nat → Nat → Int32))) (K4 : ((Int32 × (Nat → Nat → Int32))) → Option (Int32 × (Nat → Nat → Int32))) : ((Int32 × (Nat → Nat → Int32))) → Option (Int32 × (Nat → Nat → Int32))
  | (v2_4, ld_h_4) => if r1 < v2_4 then (nm (v1_2 + 1) (fun x6 => K2 (x6, ld_h_4))) else (if (v2_4 &&& (r1 ^^^ (-1))) = 0 then (gin v1_2 5 ((fX1_loadOfSet v1_2 v2_4 day_n md_n ki_n we_n wo_n).bind (fun r11 => gin v2_4 64 (nm (v2_4 + 1) (fun x13 => K4 (x13, va_up ld_h_4 (Int32.toNatClampNeg v1_2) (upd (ld_h_4 (Int32.toNatClampNeg v1_2)) (Int32.toNatClampNeg v2_4) r11))))))) else (nm (v2_4 + 1) (fun x8 => K4 (x8, ld_h_4))))
def bX0_prepare_13 (men_n : Int32) (md_n : Int32) (day_n : Int32) (ki_n : Nat → Int32) (we_n : Nat → Int32) (wo_n : Nat → Int32) (r1 : Int32) (K2 : ((Int32 × (Nat → Nat → Int32))) → Option (Int32 × (Nat → Nat → Int32))) : ((Int32 × (Nat → Nat → Int32))) → Option (Int32 × (Nat → Nat → Int32))
  | (v1_2, ld_h_2) => if men_n ≤ v1_2 then (some (r1, ld_h_2)) else (lp (bX0_prepare_26 md_n day_n ki_n we_n wo_n r1 v1_2 K2) FU (0, ld_h_2))
def fX0_prepare  (ld_h : Nat → Nat → Int32) (men_n : Int32) (md_n : Int32) (day_n : Int32) (ki_n : Nat → Int32) (we_n : Nat → Int32) (wo_n : Nat → Int32) (wr_n : Nat → Int32) : Option (Int32 × (Nat → Nat → Int32)) := (fX1_allWorn md_n wr_n).bind (fun r1 => lp (bX0_prepare_13 men_n md_n day_n ki_n we_n wo_n r1) FU (0, ld_h))
theorem in_X0_prepare_X0 : ∀ w ∈ wsX00, w ∈ wsX0_prepare := by decide +kernel
theorem in_X0_prepare_X1 : ∀ w ∈ wsX10, w ∈ wsX0_prepare := by decide +kernel
set_option maxHeartbeats 4000000 in
set_option maxRecDepth 100000 in
theorem ct_X0_prepare {l : Launch} {D : va_G} {g : Nat → ClassId} {qa : Nat → Nat} {E0 : Nat → va_E} {worn_h : Int32} {few_h : Int32} {bc_h : Int32} {ld_h : Nat → Nat → Int32} {so_h : Nat → Int32} {tr_h : Nat → Int32} {be_h : Nat → Int32} {wy_h : Nat → Int32} {men_n : Int32} {md_n : Int32} {day_n : Int32} {drw_n : Int32} {bu_n : Nat → Int32} {st_n : Nat → Int32} {ki_n : Nat → Int32} {we_n : Nat → Int32} {wo_n : Nat → Int32} {wr_n : Nat → Int32} (hG_h : Ha g qa E0 44 worn_h few_h bc_h ld_h so_h tr_h be_h wy_h) (hG_n : Mu g qa E0 1 men_n md_n day_n drw_n bu_n st_n ki_n we_n wo_n wr_n) {R : (Int32 × (Nat → Nat → Int32))} (hf : fX0_prepare ld_h men_n md_n day_n ki_n we_n wo_n wr_n = some R) : MV l yX0_prepare wsX0_prepare 3 D g qa E0 [.ref (qa 44)] (fun E => Ha g qa E 44 R.1 few_h bc_h R.2 so_h tr_h be_h wy_h ∧ ∀ j, (j < 44 ∨ 55 ≤ j) → E j = E0 j) := by
  refine MV.mk (by decide) rfl (Nat.le_of_ble_eq_true rfl) ?_
  intro p e s m args below meth c ls Q X hret hP hS hl
  have hl : lv_has ls 3 [(0, .ref (qa 44))] := hl
  have hfr : ∀ j, (j < 44 ∨ 55 ≤ j) → E0 j = E0 j := fun _ _ => rfl
  rw [fX0_prepare] at hf
  refine lv_aload_n X.1 X.2.1 dX0_prepare_0 rfl (lv_at hl 0 rfl) ?_
  refine lv_aload_n X.1 X.2.1 dX0_prepare_1 rfl (lv_at hl 0 rfl) ?_
  refine x_get X hP hG_h.1 (by omega) rfl in_X0_prepare_X0 0 (by decide) (by decide +kernel) rfl rfl dX0_prepare_2 ?_
  obtain ⟨r1, hr1, hf⟩ := bd_of hf
  refine x_rdVi X hP hS hG_n.1 (by omega) rfl (n := 0) (As := []) (ct_X1_allWorn (by omega) hG_n hr1) gX0_prepare_X1_allWorn rfl (by decide +kernel) ⟨by decide, by decide⟩ rfl hl.1 rfl (Nat.le_of_ble_eq_true rfl) dX0_prepare_5 (fun H locs hP hS => ?_)
  refine x_put (ty := .int) X hP hS hG_h.1 (by omega) rfl in_X0_prepare_X0 tyX0 tyX0_ok nmX0 2 (by decide) (by decide +kernel) rfl rfl (by decide +kernel) rfl rfl (Nat.le_of_ble_eq_true rfl) dX0_prepare_8 (fun E H locs h1 hk hP hS => ?_)
  have hG_h := Ha_set_0 hG_h h1 hk
  have hG_n := Mu_kept hG_n (fun j h8 h9 => hk j (by omega))
  have hfr : ∀ j, (j < 44 ∨ 55 ≤ j) → E j = E0 j := fun j o0 => (hk j (by omega)).trans (hfr j o0)
  refine lv_iconst (v := 0) X.1 X.2.1 dX0_prepare_11 (by decide) ?_
  refine lv_istore_n (lv' := [(1, .int 0), (0, .ref (qa 44))]) X.1 X.2.1 dX0_prepare_12 rfl hl (by decide) rfl (fun ls hl => ?_)
  have lp2 : ∀ (n2 : Nat) (v1_2 : Int32) (ld_h_2 : Nat → Nat → Int32) (E : Nat → va_E) (H : Heap) (locs : List Loc) (ls : Array Slot), lp (bX0_prepare_13 men_n md_n day_n ki_n we_n wo_n r1) n2 (v1_2, ld_h_2) = some R → va_P D vwCl (WD qa E) H → va_S (gA qa s.heap.size) s.heap H locs → Ha g qa E 44 r1 few_h bc_h ld_h_2 so_h tr_h be_h wy_h → Mu g qa E 1 men_n md_n day_n drw_n bu_n st_n ki_n we_n wo_n wr_n → (∀ j, (j < 44 ∨ 55 ≤ j) → E j = E0 j) → lv_has ls 3 [(0, .ref (qa 44)), (1, .int v1_2)] → W p l e (rmf 3) s m args below meth c H locs 0 0 Q (F0 m 13 ls []) := by
    intro n2
    induction n2 with
    | zero =>
      intro v1_2 ld_h_2 E H locs ls hf
      exact absurd hf (by intro h; cases h)
    | succ n2 ih2 =>
      intro v1_2 ld_h_2 E H locs ls hf hP hS hG_h hG_n hfr hl
      have hf : bX0_prepare_13 men_n md_n day_n ki_n we_n wo_n r1 (lp (bX0_prepare_13 men_n md_n day_n ki_n we_n wo_n r1) n2) (v1_2, ld_h_2) = some R := hf
      rw [bX0_prepare_13] at hf
      refine lv_iload_n X.1 X.2.1 dX0_prepare_13 rfl (lv_at hl 1 rfl) ?_
      refine lv_aload_n X.1 X.2.1 dX0_prepare_14 rfl (lv_at hl 0 rfl) ?_
      refine x_get X hP hG_h.1 (by omega) rfl in_X0_prepare_X0 0 (by decide) (by decide +kernel) rfl rfl dX0_prepare_15 ?_
      refine x_get X hP hG_n.1 (by omega) rfl in_X0_prepare_X1 0 (by decide) (by decide +kernel) rfl rfl dX0_prepare_18 ?_
      refine lv_icmp_ge (tgt := 81) X.1 X.2.1 dX0_prepare_21 (by decide) (fun c3 => ?_) (fun c3 => ?_)
      · have hf := ifp hf c3
        obtain rfl := Option.some.inj hf
        exact hret _ _ _ _ _ dX0_prepare_81 (⟨hG_h, hfr⟩) hP hS
      · have hf := ifn hf c3
        refine lv_iconst (v := 0) X.1 X.2.1 dX0_prepare_24 (by decide) ?_
        refine lv_istore_n (lv' := [(2, .int 0), (0, .ref (qa 44)), (1, .int v1_2)]) X.1 X.2.1 dX0_prepare_25 rfl hl (by decide) rfl (fun ls hl => ?_)
        have lp4 : ∀ (n4 : Nat) (v2_4 : Int32) (ld_h_4 : Nat → Nat → Int32) (E : Nat → va_E) (H : Heap) (locs : List Loc) (ls : Array Slot), lp (bX0_prepare_26 md_n day_n ki_n we_n wo_n r1 v1_2 (lp (bX0_prepare_13 men_n md_n day_n ki_n we_n wo_n r1) n2)) n4 (v2_4, ld_h_4) = some R → va_P D vwCl (WD qa E) H → va_S (gA qa s.heap.size) s.heap H locs → Ha g qa E 44 r1 few_h bc_h ld_h_4 so_h tr_h be_h wy_h → Mu g qa E 1 men_n md_n day_n drw_n bu_n st_n ki_n we_n wo_n wr_n → (∀ j, (j < 44 ∨ 55 ≤ j) → E j = E0 j) → lv_has ls 3 [(0, .ref (qa 44)), (1, .int v1_2), (2, .int v2_4)] → W p l e (rmf 3) s m args below meth c H locs 0 0 Q (F0 m 26 ls []) := by
          intro n4
          induction n4 with
          | zero =>
            intro v2_4 ld_h_4 E H locs ls hf
            exact absurd hf (by intro h; cases h)
          | succ n4 ih4 =>
            intro v2_4 ld_h_4 E H locs ls hf hP hS hG_h hG_n hfr hl
            have hf : bX0_prepare_26 md_n day_n ki_n we_n wo_n r1 v1_2 (lp (bX0_prepare_13 men_n md_n day_n ki_n we_n wo_n r1) n2) (lp (bX0_prepare_26 md_n day_n ki_n we_n wo_n r1 v1_2 (lp (bX0_prepare_13 men_n md_n day_n ki_n we_n wo_n r1) n2)) n4) (v2_4, ld_h_4) = some R := hf
            rw [bX0_prepare_26] at hf
            refine lv_iload_n X.1 X.2.1 dX0_prepare_26 rfl (lv_at hl 2 rfl) ?_
            refine lv_aload_n X.1 X.2.1 dX0_prepare_27 rfl (lv_at hl 0 rfl) ?_
            refine x_get X hP hG_h.1 (by omega) rfl in_X0_prepare_X0 2 (by decide) (by decide +kernel) rfl rfl dX0_prepare_28 ?_
            refine lv_icmp_gt (tgt := 75) X.1 X.2.1 dX0_prepare_31 (by decide) (fun c5 => ?_) (fun c5 => ?_)
            · have hf := ifp hf c5
              obtain ⟨x6, ex6, hf⟩ := nm_of hf
              refine lv_iinc (v := x6) (lv' := [(1, .int x6), (0, .ref (qa 44)), (2, .int v2_4)]) X.1 X.2.1 dX0_prepare_75 hl (k := 1) rfl (by rw [ex6]; rfl) (by decide) rfl (fun ls hl => ?_)
              refine lv_goto (tgt := 13) X.1 X.2.1 dX0_prepare_78 (by decide) ?_
              exact ih2 x6 ld_h_4 _ _ _ _ hf hP hS hG_h hG_n hfr (lv_sub hl [1, 0] rfl)
            · have hf := ifn hf c5
              refine lv_iload_n X.1 X.2.1 dX0_prepare_34 rfl (lv_at hl 2 rfl) ?_
              refine lv_aload_n X.1 X.2.1 dX0_prepare_35 rfl (lv_at hl 0 rfl) ?_
              refine x_get X hP hG_h.1 (by omega) rfl in_X0_prepare_X0 2 (by decide) (by decide +kernel) rfl rfl dX0_prepare_36 ?_
              refine lv_iconst (v := (-1)) X.1 X.2.1 dX0_prepare_39 (by decide) ?_
              refine lv_ixor X.1 X.2.1 dX0_prepare_40 ?_
              refine lv_iand X.1 X.2.1 dX0_prepare_41 ?_
              refine lv_if_ne (tgt := 69) X.1 X.2.1 dX0_prepare_42 (by decide) (fun c7 => ?_) (fun c7 => ?_)
              · have hf := ifn hf c7
                obtain ⟨x8, ex8, hf⟩ := nm_of hf
                refine lv_iinc (v := x8) (lv' := [(2, .int x8), (0, .ref (qa 44)), (1, .int v1_2)]) X.1 X.2.1 dX0_prepare_69 hl (k := 2) rfl (by rw [ex8]; rfl) (by decide) rfl (fun ls hl => ?_)
                refine lv_goto (tgt := 26) X.1 X.2.1 dX0_prepare_72 (by decide) ?_
                exact ih4 x8 ld_h_4 _ _ _ _ hf hP hS hG_h hG_n hfr (lv_sub hl [1, 2, 0] rfl)
              · have hf := ifp hf c7
                refine lv_aload_n X.1 X.2.1 dX0_prepare_45 rfl (lv_at hl 0 rfl) ?_
                refine x_get X hP hG_h.1 (by omega) rfl in_X0_prepare_X0 1 (by decide) (by decide +kernel) rfl rfl dX0_prepare_46 ?_
                refine lv_iload_n X.1 X.2.1 dX0_prepare_49 rfl (lv_at hl 1 rfl) ?_
                obtain ⟨hi9, hf⟩ := gin_of hf
                have hj10 := in_lt hi9
                refine x_aald X hP 3 rfl rfl hG_h.2.1 (by omega) hi9 dX0_prepare_50 ?_
                refine lv_iload_n X.1 X.2.1 dX0_prepare_51 rfl (lv_at hl 2 rfl) ?_
                refine lv_aload_n X.1 X.2.1 dX0_prepare_52 rfl (lv_at hl 0 rfl) ?_
                refine x_get X hP hG_h.1 (by omega) rfl in_X0_prepare_X0 0 (by decide) (by decide +kernel) rfl rfl dX0_prepare_53 ?_
                refine lv_iload_n X.1 X.2.1 dX0_prepare_56 rfl (lv_at hl 1 rfl) ?_
                refine lv_iload_n X.1 X.2.1 dX0_prepare_57 rfl (lv_at hl 2 rfl) ?_
                refine lv_aload_n X.1 X.2.1 dX0_prepare_58 rfl (lv_at hl 0 rfl) ?_
                refine x_get X hP hG_h.1 (by omega) rfl in_X0_prepare_X0 0 (by decide) (by decide +kernel) rfl rfl dX0_prepare_59 ?_
                refine x_get X hP hG_n.1 (by omega) rfl in_X0_prepare_X1 8 (by decide) (by decide +kernel) rfl rfl dX0_prepare_62 ?_
                obtain ⟨r11, hr11, hf⟩ := bd_of hf
                refine x_rdVi X hP hS hG_n.1 (by omega) rfl (n := 3) (As := [.int v1_2, .int v2_4, .int day_n]) (ct_X1_loadOfSet (by omega) hG_n hr11) gX0_prepare_X1_loadOfSet rfl (by decide +kernel) ⟨by decide, by decide⟩ rfl hl.1 rfl (Nat.le_of_ble_eq_true rfl) dX0_prepare_65 (fun H locs hP hS => ?_)
                obtain ⟨hi12, hf⟩ := gin_of hf
                refine x_iast X hP hS (hG_h.2.2.1 _ hj10) (by omega) hi12 dX0_prepare_68 (fun E H locs h1 hk hP hS => ?_)
                have hG_h := Ha_set_2 hG_h hj10 h1 hk
                have hG_n := Mu_kept hG_n (fun j h8 h9 => hk j (by omega))
                have hfr : ∀ j, (j < 44 ∨ 55 ≤ j) → E j = E0 j := fun j o0 => (hk j (by omega)).trans (hfr j o0)
                obtain ⟨x13, ex13, hf⟩ := nm_of hf
                refine lv_iinc (v := x13) (lv' := [(2, .int x13), (0, .ref (qa 44)), (1, .int v1_2)]) X.1 X.2.1 dX0_prepare_69 hl (k := 2) rfl (by rw [ex13]; rfl) (by decide) rfl (fun ls hl => ?_)
                refine lv_goto (tgt := 26) X.1 X.2.1 dX0_prepare_72 (by decide) ?_
                exact ih4 x13 (va_up ld_h_4 (Int32.toNatClampNeg v1_2) (upd (ld_h_4 (Int32.toNatClampNeg v1_2)) (Int32.toNatClampNeg v2_4) r11)) _ _ _ _ hf hP hS hG_h hG_n hfr (lv_sub hl [1, 2, 0] rfl)
        exact lp4 FU 0 ld_h_2 _ _ _ _ hf hP hS hG_h hG_n hfr (lv_sub hl [1, 2, 0] rfl)
  exact lp2 FU 0 ld_h _ _ _ _ hf hP hS hG_h hG_n hfr (lv_sub hl [1, 0] rfl)
def bX0_hangFrom_58 (KR : ((Int32 × Int32 × Int32 × (Nat → Int32) × (Nat → Int32) × (Nat → Int32))) → Option (Int32 × (Nat → Int32) × (Nat → Int32) × (Nat → Int32))) (few_h : Int32) (ld_h : Nat → Nat → Int32) (men_n : Int32) (st_n : Nat → Int32) (wr_n : Nat → Int32) (p1 : Int32) (p2 : Int32) (K4 : ((Int32 × Int32 × (Nat → Int32) × (Nat → Int32) × (Nat → Int32))) → Option (Int32 × (Nat → Int32) × (Nat → Int32) × (Nat → Int32))) : ((Int32 × Int32 × (Nat → Int32) × (Nat → Int32) × (Nat → Int32))) → Option (Int32 × (Nat → Int32) × (Nat → Int32) × (Nat → Int32))
  | (v3_4, bc_h_4, so_h_4, tr_h_4, be_h_4) => if men_n ≤ v3_4 then (some (bc_h_4, so_h_4, tr_h_4, be_h_4)) else (gin v3_4 5 (nm (so_h_4 (Int32.toNatClampNeg v3_4)) (fun x7 => gin v3_4 5 (gin p1 6 (if few_h = 0 then ((fX0_costOfEven p2 v3_4 ld_h (upd so_h_4 (Int32.toNatClampNeg v3_4) (x7 ||| (1 <<< (p1 &&& 31))))).bind (fun r11 => (KR (p1 + 1, r11, bc_h_4, upd so_h_4 (Int32.toNatClampNeg v3_4) (x7 ||| (1 <<< (p1 &&& 31))), upd tr_h_4 (Int32.toNatClampNeg p1) v3_4, be_h_4)).bind (fun r12 => gin v3_4 5 (nm (v3_4 + 1) (fun x14 => K4 (x14, r12.1, upd r12.2.1 (Int32.toNatClampNeg v3_4) x7, r12.2.2.1, r12.2.2.2)))))) else ((fX0_costOfFew p2 v3_4 x7 p1 ld_h (upd so_h_4 (Int32.toNatClampNeg v3_4) (x7 ||| (1 <<< (p1 &&& 31)))) st_n wr_n).bind (fun r15 => (KR (p1 + 1, r15, bc_h_4, upd so_h_4 (Int32.toNatClampNeg v3_4) (x7 ||| (1 <<< (p1 &&& 31))), upd tr_h_4 (Int32.toNatClampNeg p1) v3_4, be_h_4)).bind (fun r16 => gin v3_4 5 (nm (v3_4 + 1) (fun x18 => K4 (x18, r16.1, upd r16.2.1 (Int32.toNatClampNeg v3_4) x7, r16.2.2.1, r16.2.2.2)))))))))))
def rX0_hangFrom (worn_h : Int32) (few_h : Int32) (ld_h : Nat → Nat → Int32) (men_n : Int32) (st_n : Nat → Int32) (wr_n : Nat → Int32) (KR : ((Int32 × Int32 × Int32 × (Nat → Int32) × (Nat → Int32) × (Nat → Int32))) → Option (Int32 × (Nat → Int32) × (Nat → Int32) × (Nat → Int32))) : ((Int32 × Int32 × Int32 × (Nat → Int32) × (Nat → Int32) × (Nat → Int32))) → Option (Int32 × (Nat → Int32) × (Nat → Int32) × (Nat → Int32))
  | (p1, p2, bc_h, so_h, tr_h, be_h) => if p2 < bc_h then (if p1 < 6 then (if ((worn_h >>> (p1 &&& 31)) &&& 1) = 0 then ((KR (p1 + 1, p2, bc_h, so_h, tr_h, be_h)).bind (fun r19 => some (r19.1, r19.2.1, r19.2.2.1, r19.2.2.2))) else (lp (bX0_hangFrom_58 KR few_h ld_h men_n st_n wr_n p1 p2) FU (0, bc_h, so_h, tr_h, be_h))) else (gcp 0 0 6 6 6 (some (p2, so_h, tr_h, va_cpy tr_h be_h (Int32.toNatClampNeg 0) (Int32.toNatClampNeg 0) (Int32.toNatClampNeg 6))))) else (some (bc_h, so_h, tr_h, be_h))
theorem in_X0_hangFrom_X0 : ∀ w ∈ wsX00, w ∈ wsX0_hangFrom := by decide +kernel
theorem in_X0_hangFrom_X1 : ∀ w ∈ wsX10, w ∈ wsX0_hangFrom := by decide +kernel
set_option maxHeartbeats 4000000 in
set_option maxRecDepth 100000 in
theorem ct_X0_hangFrom {l : Launch} {D : va_G} {g : Nat → ClassId} {qa : Nat → Nat} : ∀ (nd : Nat) {E0 : Nat → va_E} {p1 : Int32} {p2 : Int32} {worn_h : Int32} {few_h : Int32} {bc_h : Int32} {ld_h : Nat → Nat → Int32} {so_h : Nat → Int32} {tr_h : Nat → Int32} {be_h : Nat → Int32} {wy_h : Nat → Int32} {men_n : Int32} {md_n : Int32} {day_n : Int32} {drw_n : Int32} {bu_n : Nat → Int32} {st_n : Nat → Int32} {ki_n : Nat → Int32} {we_n : Nat → Int32} {wo_n : Nat → Int32} {wr_n : Nat → Int32} (hG_h : Ha g qa E0 44 worn_h few_h bc_h ld_h so_h tr_h be_h wy_h) (hG_n : Mu g qa E0 1 men_n md_n day_n drw_n bu_n st_n ki_n we_n wo_n wr_n) {R : (Int32 × (Nat → Int32) × (Nat → Int32) × (Nat → Int32))} (_ : lp (rX0_hangFrom worn_h few_h ld_h men_n st_n wr_n) nd (p1, p2, bc_h, so_h, tr_h, be_h) = some R), MV l yX0_hangFrom wsX0_hangFrom (nd + 3) D g qa E0 [.ref (qa 44), .int p1, .int p2] (fun E => Ha g qa E 44 worn_h few_h R.1 ld_h R.2.1 R.2.2.1 R.2.2.2 wy_h ∧ ∀ j, (j < 44 ∨ 55 ≤ j) → E j = E0 j) := by
  intro nd
  induction nd with
  | zero =>
    intro E0 p1 p2 worn_h few_h bc_h ld_h so_h tr_h be_h wy_h men_n md_n day_n drw_n bu_n st_n ki_n we_n wo_n wr_n hG_h hG_n R hf
    exact absurd hf (by intro h; cases h)
  | succ nd ihd =>
    intro E0 p1 p2 worn_h few_h bc_h ld_h so_h tr_h be_h wy_h men_n md_n day_n drw_n bu_n st_n ki_n we_n wo_n wr_n hG_h hG_n R hf
    have hf : rX0_hangFrom worn_h few_h ld_h men_n st_n wr_n (lp (rX0_hangFrom worn_h few_h ld_h men_n st_n wr_n) nd) (p1, p2, bc_h, so_h, tr_h, be_h) = some R := hf
    rw [rX0_hangFrom] at hf
    refine MV.mk (by decide) rfl (Nat.le_of_ble_eq_true rfl) ?_
    intro p e s m args below meth c ls Q X hret hP hS hl
    have hl : lv_has ls 5 [(0, .ref (qa 44)), (1, .int p1), (2, .int p2)] := hl
    have hfr : ∀ j, (j < 44 ∨ 55 ≤ j) → E0 j = E0 j := fun _ _ => rfl
    refine lv_iload_n X.1 X.2.1 dX0_hangFrom_0 rfl (lv_at hl 2 rfl) ?_
    refine lv_aload_n X.1 X.2.1 dX0_hangFrom_1 rfl (lv_at hl 0 rfl) ?_
    refine x_get X hP hG_h.1 (by omega) rfl in_X0_hangFrom_X0 8 (by decide) (by decide +kernel) rfl rfl dX0_hangFrom_2 ?_
    refine lv_icmp_lt (tgt := 9) X.1 X.2.1 dX0_hangFrom_5 (by decide) (fun c1 => ?_) (fun c1 => ?_)
    · have hf := ifp hf c1
      refine lv_iload_n X.1 X.2.1 dX0_hangFrom_9 rfl (lv_at hl 1 rfl) ?_
      refine lv_bipush (v := 6) X.1 X.2.1 dX0_hangFrom_10 (by decide) ?_
      refine lv_icmp_lt (tgt := 36) X.1 X.2.1 dX0_hangFrom_12 (by decide) (fun c2 => ?_) (fun c2 => ?_)
      · have hf := ifp hf c2
        refine lv_aload_n X.1 X.2.1 dX0_hangFrom_36 rfl (lv_at hl 0 rfl) ?_
        refine x_get X hP hG_h.1 (by omega) rfl in_X0_hangFrom_X0 2 (by decide) (by decide +kernel) rfl rfl dX0_hangFrom_37 ?_
        refine lv_iload_n X.1 X.2.1 dX0_hangFrom_40 rfl (lv_at hl 1 rfl) ?_
        refine lv_ishr X.1 X.2.1 dX0_hangFrom_41 ?_
        refine lv_iconst (v := 1) X.1 X.2.1 dX0_hangFrom_42 (by decide) ?_
        refine lv_iand X.1 X.2.1 dX0_hangFrom_43 ?_
        refine lv_if_ne (tgt := 56) X.1 X.2.1 dX0_hangFrom_44 (by decide) (fun c3 => ?_) (fun c3 => ?_)
        · have hf := ifn hf c3
          refine lv_iconst (v := 0) X.1 X.2.1 dX0_hangFrom_56 (by decide) ?_
          refine lv_istore_n (lv' := [(3, .int 0), (0, .ref (qa 44)), (1, .int p1), (2, .int p2)]) X.1 X.2.1 dX0_hangFrom_57 rfl hl (by decide) rfl (fun ls hl => ?_)
          have lp4 : ∀ (n4 : Nat) (v3_4 : Int32) (bc_h_4 : Int32) (so_h_4 : Nat → Int32) (tr_h_4 : Nat → Int32) (be_h_4 : Nat → Int32) (E : Nat → va_E) (H : Heap) (locs : List Loc) (ls : Array Slot), lp (bX0_hangFrom_58 (lp (rX0_hangFrom worn_h few_h ld_h men_n st_n wr_n) nd) few_h ld_h men_n st_n wr_n p1 p2) n4 (v3_4, bc_h_4, so_h_4, tr_h_4, be_h_4) = some R → va_P D vwCl (WD qa E) H → va_S (gA qa s.heap.size) s.heap H locs → Ha g qa E 44 worn_h few_h bc_h_4 ld_h so_h_4 tr_h_4 be_h_4 wy_h → Mu g qa E 1 men_n md_n day_n drw_n bu_n st_n ki_n we_n wo_n wr_n → (∀ j, (j < 44 ∨ 55 ≤ j) → E j = E0 j) → lv_has ls 5 [(0, .ref (qa 44)), (1, .int p1), (2, .int p2), (3, .int v3_4)] → W p l e (rmf (nd + 1 + 3)) s m args below meth c H locs 0 0 Q (F0 m 58 ls []) := by
            intro n4
            induction n4 with
            | zero =>
              intro v3_4 bc_h_4 so_h_4 tr_h_4 be_h_4 E H locs ls hf
              exact absurd hf (by intro h; cases h)
            | succ n4 ih4 =>
              intro v3_4 bc_h_4 so_h_4 tr_h_4 be_h_4 E H locs ls hf hP hS hG_h hG_n hfr hl
              have hf : bX0_hangFrom_58 (lp (rX0_hangFrom worn_h few_h ld_h men_n st_n wr_n) nd) few_h ld_h men_n st_n wr_n p1 p2 (lp (bX0_hangFrom_58 (lp (rX0_hangFrom worn_h few_h ld_h men_n st_n wr_n) nd) few_h ld_h men_n st_n wr_n p1 p2) n4) (v3_4, bc_h_4, so_h_4, tr_h_4, be_h_4) = some R := hf
              rw [bX0_hangFrom_58] at hf
              refine lv_iload_n X.1 X.2.1 dX0_hangFrom_58 rfl (lv_at hl 3 rfl) ?_
              refine lv_aload_n X.1 X.2.1 dX0_hangFrom_59 rfl (lv_at hl 0 rfl) ?_
              refine x_get X hP hG_h.1 (by omega) rfl in_X0_hangFrom_X0 0 (by decide) (by decide +kernel) rfl rfl dX0_hangFrom_60 ?_
              refine x_get X hP hG_n.1 (by omega) rfl in_X0_hangFrom_X1 0 (by decide) (by decide +kernel) rfl rfl dX0_hangFrom_63 ?_
              refine lv_icmp_ge (tgt := 142) X.1 X.2.1 dX0_hangFrom_66 (by decide) (fun c5 => ?_) (fun c5 => ?_)
              · have hf := ifp hf c5
                obtain rfl := Option.some.inj hf
                exact hret _ _ _ _ _ dX0_hangFrom_142 (⟨hG_h, hfr⟩) hP hS
              · have hf := ifn hf c5
                refine lv_aload_n X.1 X.2.1 dX0_hangFrom_69 rfl (lv_at hl 0 rfl) ?_
                refine x_get X hP hG_h.1 (by omega) rfl in_X0_hangFrom_X0 3 (by decide) (by decide +kernel) rfl rfl dX0_hangFrom_70 ?_
                refine lv_iload_n X.1 X.2.1 dX0_hangFrom_73 rfl (lv_at hl 3 rfl) ?_
                obtain ⟨hi6, hf⟩ := gin_of hf
                refine x_iald X hP hG_h.2.2.2.1 (by omega) hi6 dX0_hangFrom_74 ?_
                obtain ⟨x7, ex7, hf⟩ := nm_of hf
                refine lv_top_as ex7 ?_
                refine lv_istore (lv' := [(4, .int x7), (0, .ref (qa 44)), (1, .int p1), (2, .int p2), (3, .int v3_4)]) X.1 X.2.1 dX0_hangFrom_75 hl (by decide) rfl (fun ls hl => ?_)
                refine lv_aload_n X.1 X.2.1 dX0_hangFrom_77 rfl (lv_at hl 1 rfl) ?_
                refine x_get X hP hG_h.1 (by omega) rfl in_X0_hangFrom_X0 3 (by decide) (by decide +kernel) rfl rfl dX0_hangFrom_78 ?_
                refine lv_iload_n X.1 X.2.1 dX0_hangFrom_81 rfl (lv_at hl 4 rfl) ?_
                refine lv_iload X.1 X.2.1 dX0_hangFrom_82 (lv_at hl 0 rfl) ?_
                refine lv_iconst (v := 1) X.1 X.2.1 dX0_hangFrom_84 (by decide) ?_
                refine lv_iload_n X.1 X.2.1 dX0_hangFrom_85 rfl (lv_at hl 2 rfl) ?_
                refine lv_ishl X.1 X.2.1 dX0_hangFrom_86 ?_
                refine lv_ior X.1 X.2.1 dX0_hangFrom_87 ?_
                obtain ⟨hi8, hf⟩ := gin_of hf
                refine x_iast X hP hS hG_h.2.2.2.1 (by omega) hi8 dX0_hangFrom_88 (fun E H locs h1 hk hP hS => ?_)
                have hG_h := Ha_set_3 hG_h h1 hk
                have hG_n := Mu_kept hG_n (fun j h8 h9 => hk j (by omega))
                have hfr : ∀ j, (j < 44 ∨ 55 ≤ j) → E j = E0 j := fun j o0 => (hk j (by omega)).trans (hfr j o0)
                refine lv_aload_n X.1 X.2.1 dX0_hangFrom_89 rfl (lv_at hl 1 rfl) ?_
                refine x_get X hP hG_h.1 (by omega) rfl in_X0_hangFrom_X0 4 (by decide) (by decide +kernel) rfl rfl dX0_hangFrom_90 ?_
                refine lv_iload_n X.1 X.2.1 dX0_hangFrom_93 rfl (lv_at hl 2 rfl) ?_
                refine lv_iload_n X.1 X.2.1 dX0_hangFrom_94 rfl (lv_at hl 4 rfl) ?_
                obtain ⟨hi9, hf⟩ := gin_of hf
                refine x_iast X hP hS hG_h.2.2.2.2.1 (by omega) hi9 dX0_hangFrom_95 (fun E H locs h1 hk hP hS => ?_)
                have hG_h := Ha_set_4 hG_h h1 hk
                have hG_n := Mu_kept hG_n (fun j h8 h9 => hk j (by omega))
                have hfr : ∀ j, (j < 44 ∨ 55 ≤ j) → E j = E0 j := fun j o0 => (hk j (by omega)).trans (hfr j o0)
                refine lv_aload_n X.1 X.2.1 dX0_hangFrom_96 rfl (lv_at hl 1 rfl) ?_
                refine lv_iload_n X.1 X.2.1 dX0_hangFrom_97 rfl (lv_at hl 2 rfl) ?_
                refine lv_iconst (v := 1) X.1 X.2.1 dX0_hangFrom_98 (by decide) ?_
                refine lv_iadd X.1 X.2.1 dX0_hangFrom_99 ?_
                refine lv_aload_n X.1 X.2.1 dX0_hangFrom_100 rfl (lv_at hl 1 rfl) ?_
                refine x_get X hP hG_h.1 (by omega) rfl in_X0_hangFrom_X0 7 (by decide) (by decide +kernel) rfl rfl dX0_hangFrom_101 ?_
                refine lv_if_eq (tgt := 119) X.1 X.2.1 dX0_hangFrom_104 (by decide) (fun c10 => ?_) (fun c10 => ?_)
                · have hf := ifp hf c10
                  refine lv_aload_n X.1 X.2.1 dX0_hangFrom_119 rfl (lv_at hl 1 rfl) ?_
                  refine lv_iload_n X.1 X.2.1 dX0_hangFrom_120 rfl (lv_at hl 3 rfl) ?_
                  refine lv_iload_n X.1 X.2.1 dX0_hangFrom_121 rfl (lv_at hl 4 rfl) ?_
                  obtain ⟨r11, hr11, hf⟩ := bd_of hf
                  refine x_rdVi X hP hS hG_h.1 (by omega) rfl (n := 2) (As := [.int p2, .int v3_4]) (ct_X0_costOfEven hG_h hr11) gX0_hangFrom_X0_costOfEven rfl (by decide +kernel) ⟨by simp only [rmf]; omega, by simp only [rmf]; omega⟩ rfl hl.1 rfl (Nat.le_of_ble_eq_true rfl) dX0_hangFrom_122 (fun H locs hP hS => ?_)
                  obtain ⟨r12, hr12, hf⟩ := bd_of hf
                  refine x_callVv X hP hS hG_h.1 (by omega) rfl (n := 2) (As := [.int (p1 + 1), .int r11]) (ihd hG_h hG_n hr12) gX0_hangFrom_X0_hangFrom rfl (by decide +kernel) ⟨by simp only [rmf]; omega, by simp only [rmf]; omega⟩ rfl hl.1 rfl (Nat.le_of_ble_eq_true rfl) dX0_hangFrom_125 (fun E H locs hp hP hS => ?_)
                  obtain ⟨hG_h, hk⟩ := hp
                  have hG_n := Mu_kept hG_n (fun j h8 h9 => hk j (by omega))
                  have hfr : ∀ j, (j < 44 ∨ 55 ≤ j) → E j = E0 j := fun j o0 => (hk j (by omega)).trans (hfr j o0)
                  refine lv_aload_n X.1 X.2.1 dX0_hangFrom_128 rfl (lv_at hl 1 rfl) ?_
                  refine x_get X hP hG_h.1 (by omega) rfl in_X0_hangFrom_X0 3 (by decide) (by decide +kernel) rfl rfl dX0_hangFrom_129 ?_
                  refine lv_iload_n X.1 X.2.1 dX0_hangFrom_132 rfl (lv_at hl 4 rfl) ?_
                  refine lv_iload X.1 X.2.1 dX0_hangFrom_133 (lv_at hl 0 rfl) ?_
                  obtain ⟨hi13, hf⟩ := gin_of hf
                  refine x_iast X hP hS hG_h.2.2.2.1 (by omega) hi13 dX0_hangFrom_135 (fun E H locs h1 hk hP hS => ?_)
                  have hG_h := Ha_set_3 hG_h h1 hk
                  have hG_n := Mu_kept hG_n (fun j h8 h9 => hk j (by omega))
                  have hfr : ∀ j, (j < 44 ∨ 55 ≤ j) → E j = E0 j := fun j o0 => (hk j (by omega)).trans (hfr j o0)
                  obtain ⟨x14, ex14, hf⟩ := nm_of hf
                  refine lv_iinc (v := x14) (lv' := [(3, .int x14), (4, .int x7), (0, .ref (qa 44)), (1, .int p1), (2, .int p2)]) X.1 X.2.1 dX0_hangFrom_136 hl (k := 4) rfl (by rw [ex14]; rfl) (by decide) rfl (fun ls hl => ?_)
                  refine lv_goto (tgt := 58) X.1 X.2.1 dX0_hangFrom_139 (by decide) ?_
                  exact ih4 x14 r12.1 (upd r12.2.1 (Int32.toNatClampNeg v3_4) x7) r12.2.2.1 r12.2.2.2 _ _ _ _ hf hP hS hG_h hG_n hfr (lv_sub hl [2, 3, 4, 0] rfl)
                · have hf := ifn hf c10
                  refine lv_aload_n X.1 X.2.1 dX0_hangFrom_107 rfl (lv_at hl 1 rfl) ?_
                  refine lv_iload_n X.1 X.2.1 dX0_hangFrom_108 rfl (lv_at hl 3 rfl) ?_
                  refine lv_iload_n X.1 X.2.1 dX0_hangFrom_109 rfl (lv_at hl 4 rfl) ?_
                  refine lv_iload X.1 X.2.1 dX0_hangFrom_110 (lv_at hl 0 rfl) ?_
                  refine lv_iload_n X.1 X.2.1 dX0_hangFrom_112 rfl (lv_at hl 2 rfl) ?_
                  obtain ⟨r15, hr15, hf⟩ := bd_of hf
                  refine x_rdVi X hP hS hG_h.1 (by omega) rfl (n := 4) (As := [.int p2, .int v3_4, .int x7, .int p1]) (ct_X0_costOfFew hG_h hG_n hr15) gX0_hangFrom_X0_costOfFew rfl (by decide +kernel) ⟨by simp only [rmf]; omega, by simp only [rmf]; omega⟩ rfl hl.1 rfl (Nat.le_of_ble_eq_true rfl) dX0_hangFrom_113 (fun H locs hP hS => ?_)
                  refine lv_goto (tgt := 125) X.1 X.2.1 dX0_hangFrom_116 (by decide) ?_
                  obtain ⟨r16, hr16, hf⟩ := bd_of hf
                  refine x_callVv X hP hS hG_h.1 (by omega) rfl (n := 2) (As := [.int (p1 + 1), .int r15]) (ihd hG_h hG_n hr16) gX0_hangFrom_X0_hangFrom rfl (by decide +kernel) ⟨by simp only [rmf]; omega, by simp only [rmf]; omega⟩ rfl hl.1 rfl (Nat.le_of_ble_eq_true rfl) dX0_hangFrom_125 (fun E H locs hp hP hS => ?_)
                  obtain ⟨hG_h, hk⟩ := hp
                  have hG_n := Mu_kept hG_n (fun j h8 h9 => hk j (by omega))
                  have hfr : ∀ j, (j < 44 ∨ 55 ≤ j) → E j = E0 j := fun j o0 => (hk j (by omega)).trans (hfr j o0)
                  refine lv_aload_n X.1 X.2.1 dX0_hangFrom_128 rfl (lv_at hl 1 rfl) ?_
                  refine x_get X hP hG_h.1 (by omega) rfl in_X0_hangFrom_X0 3 (by decide) (by decide +kernel) rfl rfl dX0_hangFrom_129 ?_
                  refine lv_iload_n X.1 X.2.1 dX0_hangFrom_132 rfl (lv_at hl 4 rfl) ?_
                  refine lv_iload X.1 X.2.1 dX0_hangFrom_133 (lv_at hl 0 rfl) ?_
                  obtain ⟨hi17, hf⟩ := gin_of hf
                  refine x_iast X hP hS hG_h.2.2.2.1 (by omega) hi17 dX0_hangFrom_135 (fun E H locs h1 hk hP hS => ?_)
                  have hG_h := Ha_set_3 hG_h h1 hk
                  have hG_n := Mu_kept hG_n (fun j h8 h9 => hk j (by omega))
                  have hfr : ∀ j, (j < 44 ∨ 55 ≤ j) → E j = E0 j := fun j o0 => (hk j (by omega)).trans (hfr j o0)
                  obtain ⟨x18, ex18, hf⟩ := nm_of hf
                  refine lv_iinc (v := x18) (lv' := [(3, .int x18), (4, .int x7), (0, .ref (qa 44)), (1, .int p1), (2, .int p2)]) X.1 X.2.1 dX0_hangFrom_136 hl (k := 4) rfl (by rw [ex18]; rfl) (by decide) rfl (fun ls hl => ?_)
                  refine lv_goto (tgt := 58) X.1 X.2.1 dX0_hangFrom_139 (by decide) ?_
                  exact ih4 x18 r16.1 (upd r16.2.1 (Int32.toNatClampNeg v3_4) x7) r16.2.2.1 r16.2.2.2 _ _ _ _ hf hP hS hG_h hG_n hfr (lv_sub hl [2, 3, 4, 0] rfl)
          exact lp4 FU 0 bc_h so_h tr_h be_h _ _ _ _ hf hP hS hG_h hG_n hfr (lv_sub hl [1, 2, 3, 0] rfl)
        · have hf := ifp hf c3
          refine lv_aload_n X.1 X.2.1 dX0_hangFrom_47 rfl (lv_at hl 0 rfl) ?_
          refine lv_iload_n X.1 X.2.1 dX0_hangFrom_48 rfl (lv_at hl 1 rfl) ?_
          refine lv_iconst (v := 1) X.1 X.2.1 dX0_hangFrom_49 (by decide) ?_
          refine lv_iadd X.1 X.2.1 dX0_hangFrom_50 ?_
          refine lv_iload_n X.1 X.2.1 dX0_hangFrom_51 rfl (lv_at hl 2 rfl) ?_
          obtain ⟨r19, hr19, hf⟩ := bd_of hf
          refine x_callVv X hP hS hG_h.1 (by omega) rfl (n := 2) (As := [.int (p1 + 1), .int p2]) (ihd hG_h hG_n hr19) gX0_hangFrom_X0_hangFrom rfl (by decide +kernel) ⟨by simp only [rmf]; omega, by simp only [rmf]; omega⟩ rfl hl.1 rfl (Nat.le_of_ble_eq_true rfl) dX0_hangFrom_52 (fun E H locs hp hP hS => ?_)
          obtain ⟨hG_h, hk⟩ := hp
          have hG_n := Mu_kept hG_n (fun j h8 h9 => hk j (by omega))
          have hfr : ∀ j, (j < 44 ∨ 55 ≤ j) → E j = E0 j := fun j o0 => (hk j (by omega)).trans (hfr j o0)
          obtain rfl := Option.some.inj hf
          exact hret _ _ _ _ _ dX0_hangFrom_55 (⟨hG_h, hfr⟩) hP hS
      · have hf := ifn hf c2
        refine lv_aload_n X.1 X.2.1 dX0_hangFrom_15 rfl (lv_at hl 0 rfl) ?_
        refine lv_iload_n X.1 X.2.1 dX0_hangFrom_16 rfl (lv_at hl 2 rfl) ?_
        refine x_put (ty := .int) X hP hS hG_h.1 (by omega) rfl in_X0_hangFrom_X0 tyX0 tyX0_ok nmX0 8 (by decide) (by decide +kernel) rfl rfl (by decide +kernel) rfl rfl (Nat.le_of_ble_eq_true rfl) dX0_hangFrom_17 (fun E H locs h1 hk hP hS => ?_)
        have hG_h := Ha_set_0 hG_h h1 hk
        have hG_n := Mu_kept hG_n (fun j h8 h9 => hk j (by omega))
        have hfr : ∀ j, (j < 44 ∨ 55 ≤ j) → E j = E0 j := fun j o0 => (hk j (by omega)).trans (hfr j o0)
        refine lv_aload_n X.1 X.2.1 dX0_hangFrom_20 rfl (lv_at hl 0 rfl) ?_
        refine x_get X hP hG_h.1 (by omega) rfl in_X0_hangFrom_X0 4 (by decide) (by decide +kernel) rfl rfl dX0_hangFrom_21 ?_
        refine lv_iconst (v := 0) X.1 X.2.1 dX0_hangFrom_24 (by decide) ?_
        refine lv_aload_n X.1 X.2.1 dX0_hangFrom_25 rfl (lv_at hl 0 rfl) ?_
        refine x_get X hP hG_h.1 (by omega) rfl in_X0_hangFrom_X0 5 (by decide) (by decide +kernel) rfl rfl dX0_hangFrom_26 ?_
        refine lv_iconst (v := 0) X.1 X.2.1 dX0_hangFrom_29 (by decide) ?_
        refine lv_bipush (v := 6) X.1 X.2.1 dX0_hangFrom_30 (by decide) ?_
        obtain ⟨hy20, hf⟩ := gcp_of hf
        refine x_copyi X hP hS hG_h.2.2.2.2.1 (by omega) hG_h.2.2.2.2.2.1 (by omega) (index := 71) (by decide +kernel) (by decide +kernel) (by decide +kernel) (by decide +kernel) hl.1 hy20.1 hy20.2.1 hy20.2.2.1 hy20.2.2.2.1 hy20.2.2.2.2 (by simp only [rmf]; omega) (Nat.le_trans (m := 300) (Nat.le_of_ble_eq_true rfl) (by simp only [rmf]; omega)) dX0_hangFrom_32 (fun E H locs h1 hk hP hS => ?_)
        have hG_h := Ha_set_5 hG_h h1 hk
        have hG_n := Mu_kept hG_n (fun j h8 h9 => hk j (by omega))
        have hfr : ∀ j, (j < 44 ∨ 55 ≤ j) → E j = E0 j := fun j o0 => (hk j (by omega)).trans (hfr j o0)
        obtain rfl := Option.some.inj hf
        exact hret _ _ _ _ _ dX0_hangFrom_35 (⟨hG_h, hfr⟩) hP hS
    · have hf := ifn hf c1
      obtain rfl := Option.some.inj hf
      exact hret _ _ _ _ _ dX0_hangFrom_8 (⟨hG_h, hfr⟩) hP hS
def bX0_find_26 (few_h : Int32) (be_h : Nat → Int32) (men_n : Int32) (st_n : Nat → Int32) (wr_n : Nat → Int32) (r1 : (Int32 × (Nat → Nat → Int32))) (so_h_2 : Nat → Int32) (K4 : ((Int32 × (Nat → Int32))) → Option (Int32 × Int32 × (Nat → Nat → Int32) × (Nat → Int32) × (Nat → Int32) × (Nat → Int32))) : ((Int32 × (Nat → Int32))) → Option (Int32 × Int32 × (Nat → Nat → Int32) × (Nat → Int32) × (Nat → Int32) × (Nat → Int32))
  | (v1_4, tr_h_4) => if 6 ≤ v1_4 then ((lp (rX0_hangFrom r1.1 few_h r1.2 men_n st_n wr_n) 8 (0, 0, 1000000, so_h_2, tr_h_4, be_h)).bind (fun r6 => some (r1.1, r6.1, r1.2, r6.2.1, r6.2.2.1, r6.2.2.2))) else (gin v1_4 6 (nm (v1_4 + 1) (fun x8 => K4 (x8, upd tr_h_4 (Int32.toNatClampNeg v1_4) (-4)))))
def bX0_find_6 (few_h : Int32) (tr_h : Nat → Int32) (be_h : Nat → Int32) (men_n : Int32) (st_n : Nat → Int32) (wr_n : Nat → Int32) (r1 : (Int32 × (Nat → Nat → Int32))) (K2 : ((Int32 × (Nat → Int32))) → Option (Int32 × Int32 × (Nat → Nat → Int32) × (Nat → Int32) × (Nat → Int32) × (Nat → Int32))) : ((Int32 × (Nat → Int32))) → Option (Int32 × Int32 × (Nat → Nat → Int32) × (Nat → Int32) × (Nat → Int32) × (Nat → Int32))
  | (v1_2, so_h_2) => if 5 ≤ v1_2 then (lp (bX0_find_26 few_h be_h men_n st_n wr_n r1 so_h_2) FU (0, tr_h)) else (gin v1_2 5 (nm (v1_2 + 1) (fun x10 => K2 (x10, upd so_h_2 (Int32.toNatClampNeg v1_2) 0))))
def fX0_find  (few_h : Int32) (ld_h : Nat → Nat → Int32) (so_h : Nat → Int32) (tr_h : Nat → Int32) (be_h : Nat → Int32) (men_n : Int32) (md_n : Int32) (day_n : Int32) (st_n : Nat → Int32) (ki_n : Nat → Int32) (we_n : Nat → Int32) (wo_n : Nat → Int32) (wr_n : Nat → Int32) : Option (Int32 × Int32 × (Nat → Nat → Int32) × (Nat → Int32) × (Nat → Int32) × (Nat → Int32)) := (fX0_prepare ld_h men_n md_n day_n ki_n we_n wo_n wr_n).bind (fun r1 => lp (bX0_find_6 few_h tr_h be_h men_n st_n wr_n r1) FU (0, so_h))
theorem in_X0_find_X0 : ∀ w ∈ wsX00, w ∈ wsX0_find := by decide +kernel
theorem in_X0_find_X1 : ∀ w ∈ wsX10, w ∈ wsX0_find := by decide +kernel
set_option maxHeartbeats 4000000 in
set_option maxRecDepth 100000 in
theorem ct_X0_find {l : Launch} {D : va_G} {g : Nat → ClassId} {qa : Nat → Nat} {E0 : Nat → va_E} {worn_h : Int32} {few_h : Int32} {bc_h : Int32} {ld_h : Nat → Nat → Int32} {so_h : Nat → Int32} {tr_h : Nat → Int32} {be_h : Nat → Int32} {wy_h : Nat → Int32} {men_n : Int32} {md_n : Int32} {day_n : Int32} {drw_n : Int32} {bu_n : Nat → Int32} {st_n : Nat → Int32} {ki_n : Nat → Int32} {we_n : Nat → Int32} {wo_n : Nat → Int32} {wr_n : Nat → Int32} (hG_h : Ha g qa E0 44 worn_h few_h bc_h ld_h so_h tr_h be_h wy_h) (hG_n : Mu g qa E0 1 men_n md_n day_n drw_n bu_n st_n ki_n we_n wo_n wr_n) {R : (Int32 × Int32 × (Nat → Nat → Int32) × (Nat → Int32) × (Nat → Int32) × (Nat → Int32))} (hf : fX0_find few_h ld_h so_h tr_h be_h men_n md_n day_n st_n ki_n we_n wo_n wr_n = some R) : MV l yX0_find wsX0_find 12 D g qa E0 [.ref (qa 44)] (fun E => Ha g qa E 44 R.1 few_h R.2.1 R.2.2.1 R.2.2.2.1 R.2.2.2.2.1 R.2.2.2.2.2 wy_h ∧ ∀ j, (j < 44 ∨ 55 ≤ j) → E j = E0 j) := by
  refine MV.mk (by decide) rfl (Nat.le_of_ble_eq_true rfl) ?_
  intro p e s m args below meth c ls Q X hret hP hS hl
  have hl : lv_has ls 2 [(0, .ref (qa 44))] := hl
  have hfr : ∀ j, (j < 44 ∨ 55 ≤ j) → E0 j = E0 j := fun _ _ => rfl
  rw [fX0_find] at hf
  refine lv_aload_n X.1 X.2.1 dX0_find_0 rfl (lv_at hl 0 rfl) ?_
  obtain ⟨r1, hr1, hf⟩ := bd_of hf
  refine x_callVv X hP hS hG_h.1 (by omega) rfl (n := 0) (As := []) (ct_X0_prepare hG_h hG_n hr1) gX0_find_X0_prepare rfl (by decide +kernel) ⟨by decide, by decide⟩ rfl hl.1 rfl (Nat.le_of_ble_eq_true rfl) dX0_find_1 (fun E H locs hp hP hS => ?_)
  obtain ⟨hW_h, hk⟩ := hp
  have hG_h := hW_h
  have hG_n := Mu_kept hG_n (fun j h8 h9 => hk j (by omega))
  have hfr : ∀ j, (j < 44 ∨ 55 ≤ j) → E j = E0 j := fun j o0 => (hk j (by omega)).trans (hfr j o0)
  refine lv_iconst (v := 0) X.1 X.2.1 dX0_find_4 (by decide) ?_
  refine lv_istore_n (lv' := [(1, .int 0), (0, .ref (qa 44))]) X.1 X.2.1 dX0_find_5 rfl hl (by decide) rfl (fun ls hl => ?_)
  have lp2 : ∀ (n2 : Nat) (v1_2 : Int32) (so_h_2 : Nat → Int32) (E : Nat → va_E) (H : Heap) (locs : List Loc) (ls : Array Slot), lp (bX0_find_6 few_h tr_h be_h men_n st_n wr_n r1) n2 (v1_2, so_h_2) = some R → va_P D vwCl (WD qa E) H → va_S (gA qa s.heap.size) s.heap H locs → Ha g qa E 44 r1.1 few_h bc_h r1.2 so_h_2 tr_h be_h wy_h → Mu g qa E 1 men_n md_n day_n drw_n bu_n st_n ki_n we_n wo_n wr_n → (∀ j, (j < 44 ∨ 55 ≤ j) → E j = E0 j) → lv_has ls 2 [(0, .ref (qa 44)), (1, .int v1_2)] → W p l e (rmf 12) s m args below meth c H locs 0 0 Q (F0 m 6 ls []) := by
    intro n2
    induction n2 with
    | zero =>
      intro v1_2 so_h_2 E H locs ls hf
      exact absurd hf (by intro h; cases h)
    | succ n2 ih2 =>
      intro v1_2 so_h_2 E H locs ls hf hP hS hG_h hG_n hfr hl
      have hf : bX0_find_6 few_h tr_h be_h men_n st_n wr_n r1 (lp (bX0_find_6 few_h tr_h be_h men_n st_n wr_n r1) n2) (v1_2, so_h_2) = some R := hf
      rw [bX0_find_6] at hf
      refine lv_iload_n X.1 X.2.1 dX0_find_6 rfl (lv_at hl 1 rfl) ?_
      refine lv_iconst (v := 5) X.1 X.2.1 dX0_find_7 (by decide) ?_
      refine lv_icmp_ge (tgt := 24) X.1 X.2.1 dX0_find_8 (by decide) (fun c3 => ?_) (fun c3 => ?_)
      · have hf := ifp hf c3
        refine lv_iconst (v := 0) X.1 X.2.1 dX0_find_24 (by decide) ?_
        refine lv_istore_n (lv' := [(1, .int 0), (0, .ref (qa 44))]) X.1 X.2.1 dX0_find_25 rfl hl (by decide) rfl (fun ls hl => ?_)
        have lp4 : ∀ (n4 : Nat) (v1_4 : Int32) (tr_h_4 : Nat → Int32) (E : Nat → va_E) (H : Heap) (locs : List Loc) (ls : Array Slot), lp (bX0_find_26 few_h be_h men_n st_n wr_n r1 so_h_2) n4 (v1_4, tr_h_4) = some R → va_P D vwCl (WD qa E) H → va_S (gA qa s.heap.size) s.heap H locs → Ha g qa E 44 r1.1 few_h bc_h r1.2 so_h_2 tr_h_4 be_h wy_h → Mu g qa E 1 men_n md_n day_n drw_n bu_n st_n ki_n we_n wo_n wr_n → (∀ j, (j < 44 ∨ 55 ≤ j) → E j = E0 j) → lv_has ls 2 [(0, .ref (qa 44)), (1, .int v1_4)] → W p l e (rmf 12) s m args below meth c H locs 0 0 Q (F0 m 26 ls []) := by
          intro n4
          induction n4 with
          | zero =>
            intro v1_4 tr_h_4 E H locs ls hf
            exact absurd hf (by intro h; cases h)
          | succ n4 ih4 =>
            intro v1_4 tr_h_4 E H locs ls hf hP hS hG_h hG_n hfr hl
            have hf : bX0_find_26 few_h be_h men_n st_n wr_n r1 so_h_2 (lp (bX0_find_26 few_h be_h men_n st_n wr_n r1 so_h_2) n4) (v1_4, tr_h_4) = some R := hf
            rw [bX0_find_26] at hf
            refine lv_iload_n X.1 X.2.1 dX0_find_26 rfl (lv_at hl 1 rfl) ?_
            refine lv_bipush (v := 6) X.1 X.2.1 dX0_find_27 (by decide) ?_
            refine lv_icmp_ge (tgt := 46) X.1 X.2.1 dX0_find_29 (by decide) (fun c5 => ?_) (fun c5 => ?_)
            · have hf := ifp hf c5
              refine lv_aload_n X.1 X.2.1 dX0_find_46 rfl (lv_at hl 0 rfl) ?_
              refine lv_ldc (v := 1000000) X.1 X.2.1 X.2.2.2.1 (X.2.2.2.2.1 (.constant RX0 66 (1000000)) (by decide +kernel)) dX0_find_47 ?_
              refine x_put (ty := .int) X hP hS hG_h.1 (by omega) rfl in_X0_find_X0 tyX0 tyX0_ok nmX0 8 (by decide) (by decide +kernel) rfl rfl (by decide +kernel) rfl rfl (Nat.le_of_ble_eq_true rfl) dX0_find_49 (fun E H locs h1 hk hP hS => ?_)
              have hG_h := Ha_set_0 hG_h h1 hk
              have hG_n := Mu_kept hG_n (fun j h8 h9 => hk j (by omega))
              have hfr : ∀ j, (j < 44 ∨ 55 ≤ j) → E j = E0 j := fun j o0 => (hk j (by omega)).trans (hfr j o0)
              refine lv_aload_n X.1 X.2.1 dX0_find_52 rfl (lv_at hl 0 rfl) ?_
              refine lv_iconst (v := 0) X.1 X.2.1 dX0_find_53 (by decide) ?_
              refine lv_iconst (v := 0) X.1 X.2.1 dX0_find_54 (by decide) ?_
              obtain ⟨r6, hr6, hf⟩ := bd_of hf
              refine x_callVv X hP hS hG_h.1 (by omega) rfl (n := 2) (As := [.int 0, .int 0]) (ct_X0_hangFrom 8 hG_h hG_n hr6) gX0_find_X0_hangFrom rfl (by decide +kernel) ⟨by decide, by decide⟩ rfl hl.1 rfl (Nat.le_of_ble_eq_true rfl) dX0_find_55 (fun E H locs hp hP hS => ?_)
              obtain ⟨hW_h, hk⟩ := hp
              have hG_h := hW_h
              have hG_n := Mu_kept hG_n (fun j h8 h9 => hk j (by omega))
              have hfr : ∀ j, (j < 44 ∨ 55 ≤ j) → E j = E0 j := fun j o0 => (hk j (by omega)).trans (hfr j o0)
              obtain rfl := Option.some.inj hf
              exact hret _ _ _ _ _ dX0_find_58 (⟨hG_h, hfr⟩) hP hS
            · have hf := ifn hf c5
              refine lv_aload_n X.1 X.2.1 dX0_find_32 rfl (lv_at hl 0 rfl) ?_
              refine x_get X hP hG_h.1 (by omega) rfl in_X0_find_X0 4 (by decide) (by decide +kernel) rfl rfl dX0_find_33 ?_
              refine lv_iload_n X.1 X.2.1 dX0_find_36 rfl (lv_at hl 1 rfl) ?_
              refine lv_bipush (v := (-4)) X.1 X.2.1 dX0_find_37 (by decide) ?_
              obtain ⟨hi7, hf⟩ := gin_of hf
              refine x_iast X hP hS hG_h.2.2.2.2.1 (by omega) hi7 dX0_find_39 (fun E H locs h1 hk hP hS => ?_)
              have hG_h := Ha_set_4 hG_h h1 hk
              have hG_n := Mu_kept hG_n (fun j h8 h9 => hk j (by omega))
              have hfr : ∀ j, (j < 44 ∨ 55 ≤ j) → E j = E0 j := fun j o0 => (hk j (by omega)).trans (hfr j o0)
              obtain ⟨x8, ex8, hf⟩ := nm_of hf
              refine lv_iinc (v := x8) (lv' := [(1, .int x8), (0, .ref (qa 44))]) X.1 X.2.1 dX0_find_40 hl (k := 1) rfl (by rw [ex8]; rfl) (by decide) rfl (fun ls hl => ?_)
              refine lv_goto (tgt := 26) X.1 X.2.1 dX0_find_43 (by decide) ?_
              exact ih4 x8 (upd tr_h_4 (Int32.toNatClampNeg v1_4) (-4)) _ _ _ _ hf hP hS hG_h hG_n hfr (lv_sub hl [1, 0] rfl)
        exact lp4 FU 0 tr_h _ _ _ _ hf hP hS hG_h hG_n hfr (lv_sub hl [1, 0] rfl)
      · have hf := ifn hf c3
        refine lv_aload_n X.1 X.2.1 dX0_find_11 rfl (lv_at hl 0 rfl) ?_
        refine x_get X hP hG_h.1 (by omega) rfl in_X0_find_X0 3 (by decide) (by decide +kernel) rfl rfl dX0_find_12 ?_
        refine lv_iload_n X.1 X.2.1 dX0_find_15 rfl (lv_at hl 1 rfl) ?_
        refine lv_iconst (v := 0) X.1 X.2.1 dX0_find_16 (by decide) ?_
        obtain ⟨hi9, hf⟩ := gin_of hf
        refine x_iast X hP hS hG_h.2.2.2.1 (by omega) hi9 dX0_find_17 (fun E H locs h1 hk hP hS => ?_)
        have hG_h := Ha_set_3 hG_h h1 hk
        have hG_n := Mu_kept hG_n (fun j h8 h9 => hk j (by omega))
        have hfr : ∀ j, (j < 44 ∨ 55 ≤ j) → E j = E0 j := fun j o0 => (hk j (by omega)).trans (hfr j o0)
        obtain ⟨x10, ex10, hf⟩ := nm_of hf
        refine lv_iinc (v := x10) (lv' := [(1, .int x10), (0, .ref (qa 44))]) X.1 X.2.1 dX0_find_18 hl (k := 1) rfl (by rw [ex10]; rfl) (by decide) rfl (fun ls hl => ?_)
        refine lv_goto (tgt := 6) X.1 X.2.1 dX0_find_21 (by decide) ?_
        exact ih2 x10 (upd so_h_2 (Int32.toNatClampNeg v1_2) 0) _ _ _ _ hf hP hS hG_h hG_n hfr (lv_sub hl [1, 0] rfl)
  exact lp2 FU 0 so_h _ _ _ _ hf hP hS hG_h hG_n hfr (lv_sub hl [1, 0] rfl)
def fX0_findEven  (ld_h : Nat → Nat → Int32) (so_h : Nat → Int32) (tr_h : Nat → Int32) (be_h : Nat → Int32) (men_n : Int32) (md_n : Int32) (day_n : Int32) (st_n : Nat → Int32) (ki_n : Nat → Int32) (we_n : Nat → Int32) (wo_n : Nat → Int32) (wr_n : Nat → Int32) : Option (Int32 × Int32 × Int32 × (Nat → Nat → Int32) × (Nat → Int32) × (Nat → Int32) × (Nat → Int32)) := (fX0_find 0 ld_h so_h tr_h be_h men_n md_n day_n st_n ki_n we_n wo_n wr_n).bind (fun r1 => some (r1.1, 0, r1.2.1, r1.2.2.1, r1.2.2.2.1, r1.2.2.2.2.1, r1.2.2.2.2.2))
theorem in_X0_findEven_X0 : ∀ w ∈ wsX00, w ∈ wsX0_findEven := by decide +kernel
theorem in_X0_findEven_X1 : ∀ w ∈ wsX10, w ∈ wsX0_findEven := by decide +kernel
set_option maxHeartbeats 4000000 in
set_option maxRecDepth 100000 in
theorem ct_X0_findEven {l : Launch} {D : va_G} {g : Nat → ClassId} {qa : Nat → Nat} {E0 : Nat → va_E} {worn_h : Int32} {few_h : Int32} {bc_h : Int32} {ld_h : Nat → Nat → Int32} {so_h : Nat → Int32} {tr_h : Nat → Int32} {be_h : Nat → Int32} {wy_h : Nat → Int32} {men_n : Int32} {md_n : Int32} {day_n : Int32} {drw_n : Int32} {bu_n : Nat → Int32} {st_n : Nat → Int32} {ki_n : Nat → Int32} {we_n : Nat → Int32} {wo_n : Nat → Int32} {wr_n : Nat → Int32} (hG_h : Ha g qa E0 44 worn_h few_h bc_h ld_h so_h tr_h be_h wy_h) (hG_n : Mu g qa E0 1 men_n md_n day_n drw_n bu_n st_n ki_n we_n wo_n wr_n) {R : (Int32 × Int32 × Int32 × (Nat → Nat → Int32) × (Nat → Int32) × (Nat → Int32) × (Nat → Int32))} (hf : fX0_findEven ld_h so_h tr_h be_h men_n md_n day_n st_n ki_n we_n wo_n wr_n = some R) : MV l yX0_findEven wsX0_findEven 13 D g qa E0 [.ref (qa 44)] (fun E => Ha g qa E 44 R.1 R.2.1 R.2.2.1 R.2.2.2.1 R.2.2.2.2.1 R.2.2.2.2.2.1 R.2.2.2.2.2.2 wy_h ∧ ∀ j, (j < 44 ∨ 55 ≤ j) → E j = E0 j) := by
  refine MV.mk (by decide) rfl (Nat.le_of_ble_eq_true rfl) ?_
  intro p e s m args below meth c ls Q X hret hP hS hl
  have hl : lv_has ls 1 [(0, .ref (qa 44))] := hl
  have hfr : ∀ j, (j < 44 ∨ 55 ≤ j) → E0 j = E0 j := fun _ _ => rfl
  rw [fX0_findEven] at hf
  refine lv_aload_n X.1 X.2.1 dX0_findEven_0 rfl (lv_at hl 0 rfl) ?_
  refine lv_iconst (v := 0) X.1 X.2.1 dX0_findEven_1 (by decide) ?_
  refine x_put (ty := .boolean) X hP hS hG_h.1 (by omega) rfl in_X0_findEven_X0 tyX0 tyX0_ok nmX0 7 (by decide) (by decide +kernel) rfl rfl (by decide +kernel) rfl rfl (Nat.le_of_ble_eq_true rfl) dX0_findEven_2 (fun E H locs h1 hk hP hS => ?_)
  have hG_h := Ha_set_0 hG_h h1 hk
  have hG_n := Mu_kept hG_n (fun j h8 h9 => hk j (by omega))
  have hfr : ∀ j, (j < 44 ∨ 55 ≤ j) → E j = E0 j := fun j o0 => (hk j (by omega)).trans (hfr j o0)
  refine lv_aload_n X.1 X.2.1 dX0_findEven_5 rfl (lv_at hl 0 rfl) ?_
  obtain ⟨r1, hr1, hf⟩ := bd_of hf
  refine x_callVv X hP hS hG_h.1 (by omega) rfl (n := 0) (As := []) (ct_X0_find hG_h hG_n hr1) gX0_findEven_X0_find rfl (by decide +kernel) ⟨by decide, by decide⟩ rfl hl.1 rfl (Nat.le_of_ble_eq_true rfl) dX0_findEven_6 (fun E H locs hp hP hS => ?_)
  obtain ⟨hW_h, hk⟩ := hp
  have hG_h := hW_h
  have hG_n := Mu_kept hG_n (fun j h8 h9 => hk j (by omega))
  have hfr : ∀ j, (j < 44 ∨ 55 ≤ j) → E j = E0 j := fun j o0 => (hk j (by omega)).trans (hfr j o0)
  obtain rfl := Option.some.inj hf
  exact hret _ _ _ _ _ dX0_findEven_9 (⟨hG_h, hfr⟩) hP hS
def fX0_findFew  (ld_h : Nat → Nat → Int32) (so_h : Nat → Int32) (tr_h : Nat → Int32) (be_h : Nat → Int32) (men_n : Int32) (md_n : Int32) (day_n : Int32) (st_n : Nat → Int32) (ki_n : Nat → Int32) (we_n : Nat → Int32) (wo_n : Nat → Int32) (wr_n : Nat → Int32) : Option (Int32 × Int32 × Int32 × (Nat → Nat → Int32) × (Nat → Int32) × (Nat → Int32) × (Nat → Int32)) := (fX0_find 1 ld_h so_h tr_h be_h men_n md_n day_n st_n ki_n we_n wo_n wr_n).bind (fun r1 => some (r1.1, 1, r1.2.1, r1.2.2.1, r1.2.2.2.1, r1.2.2.2.2.1, r1.2.2.2.2.2))
theorem in_X0_findFew_X0 : ∀ w ∈ wsX00, w ∈ wsX0_findFew := by decide +kernel
theorem in_X0_findFew_X1 : ∀ w ∈ wsX10, w ∈ wsX0_findFew := by decide +kernel
set_option maxHeartbeats 4000000 in
set_option maxRecDepth 100000 in
theorem ct_X0_findFew {l : Launch} {D : va_G} {g : Nat → ClassId} {qa : Nat → Nat} {E0 : Nat → va_E} {worn_h : Int32} {few_h : Int32} {bc_h : Int32} {ld_h : Nat → Nat → Int32} {so_h : Nat → Int32} {tr_h : Nat → Int32} {be_h : Nat → Int32} {wy_h : Nat → Int32} {men_n : Int32} {md_n : Int32} {day_n : Int32} {drw_n : Int32} {bu_n : Nat → Int32} {st_n : Nat → Int32} {ki_n : Nat → Int32} {we_n : Nat → Int32} {wo_n : Nat → Int32} {wr_n : Nat → Int32} (hG_h : Ha g qa E0 44 worn_h few_h bc_h ld_h so_h tr_h be_h wy_h) (hG_n : Mu g qa E0 1 men_n md_n day_n drw_n bu_n st_n ki_n we_n wo_n wr_n) {R : (Int32 × Int32 × Int32 × (Nat → Nat → Int32) × (Nat → Int32) × (Nat → Int32) × (Nat → Int32))} (hf : fX0_findFew ld_h so_h tr_h be_h men_n md_n day_n st_n ki_n we_n wo_n wr_n = some R) : MV l yX0_findFew wsX0_findFew 13 D g qa E0 [.ref (qa 44)] (fun E => Ha g qa E 44 R.1 R.2.1 R.2.2.1 R.2.2.2.1 R.2.2.2.2.1 R.2.2.2.2.2.1 R.2.2.2.2.2.2 wy_h ∧ ∀ j, (j < 44 ∨ 55 ≤ j) → E j = E0 j) := by
  refine MV.mk (by decide) rfl (Nat.le_of_ble_eq_true rfl) ?_
  intro p e s m args below meth c ls Q X hret hP hS hl
  have hl : lv_has ls 1 [(0, .ref (qa 44))] := hl
  have hfr : ∀ j, (j < 44 ∨ 55 ≤ j) → E0 j = E0 j := fun _ _ => rfl
  rw [fX0_findFew] at hf
  refine lv_aload_n X.1 X.2.1 dX0_findFew_0 rfl (lv_at hl 0 rfl) ?_
  refine lv_iconst (v := 1) X.1 X.2.1 dX0_findFew_1 (by decide) ?_
  refine x_put (ty := .boolean) X hP hS hG_h.1 (by omega) rfl in_X0_findFew_X0 tyX0 tyX0_ok nmX0 7 (by decide) (by decide +kernel) rfl rfl (by decide +kernel) rfl rfl (Nat.le_of_ble_eq_true rfl) dX0_findFew_2 (fun E H locs h1 hk hP hS => ?_)
  have hG_h := Ha_set_0 hG_h h1 hk
  have hG_n := Mu_kept hG_n (fun j h8 h9 => hk j (by omega))
  have hfr : ∀ j, (j < 44 ∨ 55 ≤ j) → E j = E0 j := fun j o0 => (hk j (by omega)).trans (hfr j o0)
  refine lv_aload_n X.1 X.2.1 dX0_findFew_5 rfl (lv_at hl 0 rfl) ?_
  obtain ⟨r1, hr1, hf⟩ := bd_of hf
  refine x_callVv X hP hS hG_h.1 (by omega) rfl (n := 0) (As := []) (ct_X0_find hG_h hG_n hr1) gX0_findFew_X0_find rfl (by decide +kernel) ⟨by decide, by decide⟩ rfl hl.1 rfl (Nat.le_of_ble_eq_true rfl) dX0_findFew_6 (fun E H locs hp hP hS => ?_)
  obtain ⟨hW_h, hk⟩ := hp
  have hG_h := hW_h
  have hG_n := Mu_kept hG_n (fun j h8 h9 => hk j (by omega))
  have hfr : ∀ j, (j < 44 ∨ 55 ≤ j) → E j = E0 j := fun j o0 => (hk j (by omega)).trans (hfr j o0)
  obtain rfl := Option.some.inj hf
  exact hret _ _ _ _ _ dX0_findFew_9 (⟨hG_h, hfr⟩) hP hS
def bX0_power_4 (p1 : Int32) (p2 : Int32) (K1 : ((Int32 × Int32)) → Option Int32) : ((Int32 × Int32)) → Option Int32
  | (v2_1, v3_1) => if p2 ≤ v3_1 then (some v2_1) else (nm (v2_1 * p1) (fun x3 => nm (v3_1 + 1) (fun x4 => K1 (x3, x4))))
def fX0_power (p1 : Int32) (p2 : Int32)  : Option Int32 := lp (bX0_power_4 p1 p2) FU (1, 0)
set_option maxHeartbeats 4000000 in
set_option maxRecDepth 100000 in
theorem ct_X0_power {l : Launch} {D : va_G} {g : Nat → ClassId} {qa : Nat → Nat} {E0 : Nat → va_E} {p1 : Int32} {p2 : Int32} {R : Int32} (hf : fX0_power p1 p2 = some R) : MI l yX0_power wsX0_power 0 D g qa E0 [.int p1, .int p2] R (fun E => E = E0) := by
  refine MI.mk (by decide) rfl (Nat.le_of_ble_eq_true rfl) ?_
  intro p e s m args below meth c ls Q X hret hP hS hl
  have hl : lv_has ls 4 [(0, .int p1), (1, .int p2)] := hl
  rw [fX0_power] at hf
  refine lv_iconst (v := 1) X.1 X.2.1 dX0_power_0 (by decide) ?_
  refine lv_istore_n (lv' := [(2, .int 1), (0, .int p1), (1, .int p2)]) X.1 X.2.1 dX0_power_1 rfl hl (by decide) rfl (fun ls hl => ?_)
  refine lv_iconst (v := 0) X.1 X.2.1 dX0_power_2 (by decide) ?_
  refine lv_istore_n (lv' := [(3, .int 0), (2, .int 1), (0, .int p1), (1, .int p2)]) X.1 X.2.1 dX0_power_3 rfl hl (by decide) rfl (fun ls hl => ?_)
  have lp1 : ∀ (n1 : Nat) (v2_1 : Int32) (v3_1 : Int32) (H : Heap) (locs : List Loc) (ls : Array Slot), lp (bX0_power_4 p1 p2) n1 (v2_1, v3_1) = some R → va_P D vwCl (WD qa E0) H → va_S (gA qa s.heap.size) s.heap H locs → lv_has ls 4 [(0, .int p1), (1, .int p2), (2, .int v2_1), (3, .int v3_1)] → W p l e (rmf 0) s m args below meth c H locs 0 0 Q (F0 m 4 ls []) := by
    intro n1
    induction n1 with
    | zero =>
      intro v2_1 v3_1 H locs ls hf
      exact absurd hf (by intro h; cases h)
    | succ n1 ih1 =>
      intro v2_1 v3_1 H locs ls hf hP hS hl
      have hf : bX0_power_4 p1 p2 (lp (bX0_power_4 p1 p2) n1) (v2_1, v3_1) = some R := hf
      rw [bX0_power_4] at hf
      refine lv_iload_n X.1 X.2.1 dX0_power_4 rfl (lv_at hl 3 rfl) ?_
      refine lv_iload_n X.1 X.2.1 dX0_power_5 rfl (lv_at hl 1 rfl) ?_
      refine lv_icmp_ge (tgt := 19) X.1 X.2.1 dX0_power_6 (by decide) (fun c2 => ?_) (fun c2 => ?_)
      · have hf := ifp hf c2
        refine lv_iload_n X.1 X.2.1 dX0_power_19 rfl (lv_at hl 2 rfl) ?_
        obtain rfl := Option.some.inj hf
        exact hret _ _ _ _ _ _ dX0_power_20 rfl rfl (rfl) hP hS
      · have hf := ifn hf c2
        refine lv_iload_n X.1 X.2.1 dX0_power_9 rfl (lv_at hl 2 rfl) ?_
        refine lv_iload_n X.1 X.2.1 dX0_power_10 rfl (lv_at hl 0 rfl) ?_
        refine lv_imul X.1 X.2.1 dX0_power_11 ?_
        obtain ⟨x3, ex3, hf⟩ := nm_of hf
        refine lv_top_as ex3 ?_
        refine lv_istore_n (lv' := [(2, .int x3), (0, .int p1), (1, .int p2), (3, .int v3_1)]) X.1 X.2.1 dX0_power_12 rfl hl (by decide) rfl (fun ls hl => ?_)
        obtain ⟨x4, ex4, hf⟩ := nm_of hf
        refine lv_iinc (v := x4) (lv' := [(3, .int x4), (2, .int x3), (0, .int p1), (1, .int p2)]) X.1 X.2.1 dX0_power_13 hl (k := 3) rfl (by rw [ex4]; rfl) (by decide) rfl (fun ls hl => ?_)
        refine lv_goto (tgt := 4) X.1 X.2.1 dX0_power_16 (by decide) ?_
        exact ih1 x3 x4 _ _ _ hf hP hS (lv_sub hl [2, 3, 1, 0] rfl)
  exact lp1 FU 1 0 _ _ _ hf hP hS (lv_sub hl [2, 3, 1, 0] rfl)
def fX0_ways  (worn_h : Int32) (men_n : Int32) : Option Int32 := (fJ6_bitCount_0f7a4 worn_h).bind (fun r1 => (fX0_power men_n r1).bind (fun r2 => some r2))
theorem in_X0_ways_X0 : ∀ w ∈ wsX00, w ∈ wsX0_ways := by decide +kernel
theorem in_X0_ways_X1 : ∀ w ∈ wsX10, w ∈ wsX0_ways := by decide +kernel
set_option maxHeartbeats 4000000 in
set_option maxRecDepth 100000 in
theorem ct_X0_ways {l : Launch} {D : va_G} {g : Nat → ClassId} {qa : Nat → Nat} {E0 : Nat → va_E} {worn_h : Int32} {few_h : Int32} {bc_h : Int32} {ld_h : Nat → Nat → Int32} {so_h : Nat → Int32} {tr_h : Nat → Int32} {be_h : Nat → Int32} {wy_h : Nat → Int32} {men_n : Int32} {md_n : Int32} {day_n : Int32} {drw_n : Int32} {bu_n : Nat → Int32} {st_n : Nat → Int32} {ki_n : Nat → Int32} {we_n : Nat → Int32} {wo_n : Nat → Int32} {wr_n : Nat → Int32} (hG_h : Ha g qa E0 44 worn_h few_h bc_h ld_h so_h tr_h be_h wy_h) (hG_n : Mu g qa E0 1 men_n md_n day_n drw_n bu_n st_n ki_n we_n wo_n wr_n) {R : Int32} (hf : fX0_ways worn_h men_n = some R) : MI l yX0_ways wsX0_ways 1 D g qa E0 [.ref (qa 44)] R (fun E => E = E0) := by
  refine MI.mk (by decide) rfl (Nat.le_of_ble_eq_true rfl) ?_
  intro p e s m args below meth c ls Q X hret hP hS hl
  have hl : lv_has ls 1 [(0, .ref (qa 44))] := hl
  rw [fX0_ways] at hf
  refine lv_aload_n X.1 X.2.1 dX0_ways_0 rfl (lv_at hl 0 rfl) ?_
  refine x_get X hP hG_h.1 (by omega) rfl in_X0_ways_X0 0 (by decide) (by decide +kernel) rfl rfl dX0_ways_1 ?_
  refine x_get X hP hG_n.1 (by omega) rfl in_X0_ways_X1 0 (by decide) (by decide +kernel) rfl rfl dX0_ways_4 ?_
  refine lv_aload_n X.1 X.2.1 dX0_ways_7 rfl (lv_at hl 0 rfl) ?_
  refine x_get X hP hG_h.1 (by omega) rfl in_X0_ways_X0 2 (by decide) (by decide +kernel) rfl rfl dX0_ways_8 ?_
  obtain ⟨r1, hr1, hf⟩ := bd_of hf
  refine x_rdSi X hP hS (index := 100) (n := 1) (As := [.int worn_h]) (ct_J6_bitCount_0f7a4  hr1) ggX0_ways_J6_bitCount_0f7a4 (by decide +kernel) (by decide +kernel) (by decide +kernel) rfl (by decide +kernel) ⟨by decide, by decide⟩ rfl hl.1 rfl (Nat.le_of_ble_eq_true rfl) dX0_ways_11 (fun H locs hP hS => ?_)
  obtain ⟨r2, hr2, hf⟩ := bd_of hf
  refine x_rdSi X hP hS (index := 106) (n := 2) (As := [.int men_n, .int r1]) (ct_X0_power  hr2) ggX0_ways_X0_power (by decide +kernel) (by decide +kernel) (by decide +kernel) rfl (by decide +kernel) ⟨by decide, by decide⟩ rfl hl.1 rfl (Nat.le_of_ble_eq_true rfl) dX0_ways_14 (fun H locs hP hS => ?_)
  obtain rfl := Option.some.inj hf
  exact hret _ _ _ _ _ _ dX0_ways_17 rfl rfl (rfl) hP hS
def bX0_waysWith_5 (ld_h : Nat → Nat → Int32) (wy_h : Nat → Int32) (st_n : Nat → Int32) (p1 : Int32) (p2 : Int32) (K1 : ((Int32 × Int32)) → Option Int32) : ((Int32 × Int32)) → Option Int32
  | (v3_1, v4_1) => if p2 < v4_1 then (some v3_1) else (if (v4_1 &&& (p2 ^^^ (-1))) = 0 then ((fX0_bends p1 v4_1 ld_h st_n).bind (fun r5 => if r5 = 0 then (gin (p2 &&& (v4_1 ^^^ (-1))) 64 (nm (v3_1 + (wy_h (Int32.toNatClampNeg (p2 &&& (v4_1 ^^^ (-1)))))) (fun x9 => nm (v4_1 + 1) (fun x10 => K1 (x9, x10))))) else (nm (v4_1 + 1) (fun x7 => K1 (v3_1, x7))))) else (nm (v4_1 + 1) (fun x4 => K1 (v3_1, x4))))
def fX0_waysWith (p1 : Int32) (p2 : Int32) (ld_h : Nat → Nat → Int32) (wy_h : Nat → Int32) (st_n : Nat → Int32) : Option Int32 := lp (bX0_waysWith_5 ld_h wy_h st_n p1 p2) FU (0, 0)
theorem in_X0_waysWith_X0 : ∀ w ∈ wsX00, w ∈ wsX0_waysWith := by decide +kernel
theorem in_X0_waysWith_X1 : ∀ w ∈ wsX10, w ∈ wsX0_waysWith := by decide +kernel
set_option maxHeartbeats 4000000 in
set_option maxRecDepth 100000 in
theorem ct_X0_waysWith {l : Launch} {D : va_G} {g : Nat → ClassId} {qa : Nat → Nat} {E0 : Nat → va_E} {p1 : Int32} {p2 : Int32} {worn_h : Int32} {few_h : Int32} {bc_h : Int32} {ld_h : Nat → Nat → Int32} {so_h : Nat → Int32} {tr_h : Nat → Int32} {be_h : Nat → Int32} {wy_h : Nat → Int32} {men_n : Int32} {md_n : Int32} {day_n : Int32} {drw_n : Int32} {bu_n : Nat → Int32} {st_n : Nat → Int32} {ki_n : Nat → Int32} {we_n : Nat → Int32} {wo_n : Nat → Int32} {wr_n : Nat → Int32} (hG_h : Ha g qa E0 44 worn_h few_h bc_h ld_h so_h tr_h be_h wy_h) (hG_n : Mu g qa E0 1 men_n md_n day_n drw_n bu_n st_n ki_n we_n wo_n wr_n) {R : Int32} (hf : fX0_waysWith p1 p2 ld_h wy_h st_n = some R) : MI l yX0_waysWith wsX0_waysWith 1 D g qa E0 [.ref (qa 44), .int p1, .int p2] R (fun E => E = E0) := by
  refine MI.mk (by decide) rfl (Nat.le_of_ble_eq_true rfl) ?_
  intro p e s m args below meth c ls Q X hret hP hS hl
  have hl : lv_has ls 5 [(0, .ref (qa 44)), (1, .int p1), (2, .int p2)] := hl
  rw [fX0_waysWith] at hf
  refine lv_iconst (v := 0) X.1 X.2.1 dX0_waysWith_0 (by decide) ?_
  refine lv_istore_n (lv' := [(3, .int 0), (0, .ref (qa 44)), (1, .int p1), (2, .int p2)]) X.1 X.2.1 dX0_waysWith_1 rfl hl (by decide) rfl (fun ls hl => ?_)
  refine lv_iconst (v := 0) X.1 X.2.1 dX0_waysWith_2 (by decide) ?_
  refine lv_istore (lv' := [(4, .int 0), (3, .int 0), (0, .ref (qa 44)), (1, .int p1), (2, .int p2)]) X.1 X.2.1 dX0_waysWith_3 hl (by decide) rfl (fun ls hl => ?_)
  have lp1 : ∀ (n1 : Nat) (v3_1 : Int32) (v4_1 : Int32) (H : Heap) (locs : List Loc) (ls : Array Slot), lp (bX0_waysWith_5 ld_h wy_h st_n p1 p2) n1 (v3_1, v4_1) = some R → va_P D vwCl (WD qa E0) H → va_S (gA qa s.heap.size) s.heap H locs → lv_has ls 5 [(0, .ref (qa 44)), (1, .int p1), (2, .int p2), (3, .int v3_1), (4, .int v4_1)] → W p l e (rmf 1) s m args below meth c H locs 0 0 Q (F0 m 5 ls []) := by
    intro n1
    induction n1 with
    | zero =>
      intro v3_1 v4_1 H locs ls hf
      exact absurd hf (by intro h; cases h)
    | succ n1 ih1 =>
      intro v3_1 v4_1 H locs ls hf hP hS hl
      have hf : bX0_waysWith_5 ld_h wy_h st_n p1 p2 (lp (bX0_waysWith_5 ld_h wy_h st_n p1 p2) n1) (v3_1, v4_1) = some R := hf
      rw [bX0_waysWith_5] at hf
      refine lv_iload X.1 X.2.1 dX0_waysWith_5 (lv_at hl 4 rfl) ?_
      refine lv_iload_n X.1 X.2.1 dX0_waysWith_7 rfl (lv_at hl 2 rfl) ?_
      refine lv_icmp_gt (tgt := 50) X.1 X.2.1 dX0_waysWith_8 (by decide) (fun c2 => ?_) (fun c2 => ?_)
      · have hf := ifp hf c2
        refine lv_iload_n X.1 X.2.1 dX0_waysWith_50 rfl (lv_at hl 3 rfl) ?_
        obtain rfl := Option.some.inj hf
        exact hret _ _ _ _ _ _ dX0_waysWith_51 rfl rfl (rfl) hP hS
      · have hf := ifn hf c2
        refine lv_iload X.1 X.2.1 dX0_waysWith_11 (lv_at hl 4 rfl) ?_
        refine lv_iload_n X.1 X.2.1 dX0_waysWith_13 rfl (lv_at hl 2 rfl) ?_
        refine lv_iconst (v := (-1)) X.1 X.2.1 dX0_waysWith_14 (by decide) ?_
        refine lv_ixor X.1 X.2.1 dX0_waysWith_15 ?_
        refine lv_iand X.1 X.2.1 dX0_waysWith_16 ?_
        refine lv_if_ne (tgt := 44) X.1 X.2.1 dX0_waysWith_17 (by decide) (fun c3 => ?_) (fun c3 => ?_)
        · have hf := ifn hf c3
          obtain ⟨x4, ex4, hf⟩ := nm_of hf
          refine lv_iinc (v := x4) (lv' := [(4, .int x4), (0, .ref (qa 44)), (1, .int p1), (2, .int p2), (3, .int v3_1)]) X.1 X.2.1 dX0_waysWith_44 hl (k := 4) rfl (by rw [ex4]; rfl) (by decide) rfl (fun ls hl => ?_)
          refine lv_goto (tgt := 5) X.1 X.2.1 dX0_waysWith_47 (by decide) ?_
          exact ih1 v3_1 x4 _ _ _ hf hP hS (lv_sub hl [1, 2, 3, 4, 0] rfl)
        · have hf := ifp hf c3
          refine lv_aload_n X.1 X.2.1 dX0_waysWith_20 rfl (lv_at hl 0 rfl) ?_
          refine lv_iload_n X.1 X.2.1 dX0_waysWith_21 rfl (lv_at hl 1 rfl) ?_
          refine lv_iload X.1 X.2.1 dX0_waysWith_22 (lv_at hl 4 rfl) ?_
          obtain ⟨r5, hr5, hf⟩ := bd_of hf
          refine x_rdVi X hP hS hG_h.1 (by omega) rfl (n := 2) (As := [.int p1, .int v4_1]) (ct_X0_bends hG_h hG_n hr5) gX0_waysWith_X0_bends rfl (by decide +kernel) ⟨by decide, by decide⟩ rfl hl.1 rfl (Nat.le_of_ble_eq_true rfl) dX0_waysWith_24 (fun H locs hP hS => ?_)
          refine lv_if_ne (tgt := 44) X.1 X.2.1 dX0_waysWith_27 (by decide) (fun c6 => ?_) (fun c6 => ?_)
          · have hf := ifn hf c6
            obtain ⟨x7, ex7, hf⟩ := nm_of hf
            refine lv_iinc (v := x7) (lv' := [(4, .int x7), (0, .ref (qa 44)), (1, .int p1), (2, .int p2), (3, .int v3_1)]) X.1 X.2.1 dX0_waysWith_44 hl (k := 4) rfl (by rw [ex7]; rfl) (by decide) rfl (fun ls hl => ?_)
            refine lv_goto (tgt := 5) X.1 X.2.1 dX0_waysWith_47 (by decide) ?_
            exact ih1 v3_1 x7 _ _ _ hf hP hS (lv_sub hl [1, 2, 3, 4, 0] rfl)
          · have hf := ifp hf c6
            refine lv_iload_n X.1 X.2.1 dX0_waysWith_30 rfl (lv_at hl 3 rfl) ?_
            refine lv_aload_n X.1 X.2.1 dX0_waysWith_31 rfl (lv_at hl 0 rfl) ?_
            refine x_get X hP hG_h.1 (by omega) rfl in_X0_waysWith_X0 6 (by decide) (by decide +kernel) rfl rfl dX0_waysWith_32 ?_
            refine lv_iload_n X.1 X.2.1 dX0_waysWith_35 rfl (lv_at hl 2 rfl) ?_
            refine lv_iload X.1 X.2.1 dX0_waysWith_36 (lv_at hl 4 rfl) ?_
            refine lv_iconst (v := (-1)) X.1 X.2.1 dX0_waysWith_38 (by decide) ?_
            refine lv_ixor X.1 X.2.1 dX0_waysWith_39 ?_
            refine lv_iand X.1 X.2.1 dX0_waysWith_40 ?_
            obtain ⟨hi8, hf⟩ := gin_of hf
            refine x_iald X hP hG_h.2.2.2.2.2.2 (by omega) hi8 dX0_waysWith_41 ?_
            refine lv_iadd X.1 X.2.1 dX0_waysWith_42 ?_
            obtain ⟨x9, ex9, hf⟩ := nm_of hf
            refine lv_top_as ex9 ?_
            refine lv_istore_n (lv' := [(3, .int x9), (0, .ref (qa 44)), (1, .int p1), (2, .int p2), (4, .int v4_1)]) X.1 X.2.1 dX0_waysWith_43 rfl hl (by decide) rfl (fun ls hl => ?_)
            obtain ⟨x10, ex10, hf⟩ := nm_of hf
            refine lv_iinc (v := x10) (lv' := [(4, .int x10), (3, .int x9), (0, .ref (qa 44)), (1, .int p1), (2, .int p2)]) X.1 X.2.1 dX0_waysWith_44 hl (k := 4) rfl (by rw [ex10]; rfl) (by decide) rfl (fun ls hl => ?_)
            refine lv_goto (tgt := 5) X.1 X.2.1 dX0_waysWith_47 (by decide) ?_
            exact ih1 x9 x10 _ _ _ hf hP hS (lv_sub hl [2, 3, 4, 1, 0] rfl)
  exact lp1 FU 0 0 _ _ _ hf hP hS (lv_sub hl [2, 3, 4, 1, 0] rfl)
def bX0_waysWithBent_4 (worn_h : Int32) (ld_h : Nat → Nat → Int32) (men_n : Int32) (st_n : Nat → Int32) (p1 : Int32) (K1 : ((Int32 × Int32)) → Option Int32) : ((Int32 × Int32)) → Option Int32
  | (v2_1, v3_1) => if worn_h < v3_1 then (some v2_1) else (if (v3_1 &&& (worn_h ^^^ (-1))) = 0 then ((fX0_bends p1 v3_1 ld_h st_n).bind (fun r5 => if r5 = 0 then (nm (v3_1 + 1) (fun x7 => K1 (v2_1, x7))) else ((fJ6_bitCount_0f7a4 (worn_h &&& (v3_1 ^^^ (-1)))).bind (fun r8 => (fX0_power (men_n - 1) r8).bind (fun r9 => nm (v2_1 + r9) (fun x10 => nm (v3_1 + 1) (fun x11 => K1 (x10, x11)))))))) else (nm (v3_1 + 1) (fun x4 => K1 (v2_1, x4))))
def fX0_waysWithBent (p1 : Int32) (worn_h : Int32) (ld_h : Nat → Nat → Int32) (men_n : Int32) (st_n : Nat → Int32) : Option Int32 := lp (bX0_waysWithBent_4 worn_h ld_h men_n st_n p1) FU (0, 0)
theorem in_X0_waysWithBent_X0 : ∀ w ∈ wsX00, w ∈ wsX0_waysWithBent := by decide +kernel
theorem in_X0_waysWithBent_X1 : ∀ w ∈ wsX10, w ∈ wsX0_waysWithBent := by decide +kernel
set_option maxHeartbeats 4000000 in
set_option maxRecDepth 100000 in
theorem ct_X0_waysWithBent {l : Launch} {D : va_G} {g : Nat → ClassId} {qa : Nat → Nat} {E0 : Nat → va_E} {p1 : Int32} {worn_h : Int32} {few_h : Int32} {bc_h : Int32} {ld_h : Nat → Nat → Int32} {so_h : Nat → Int32} {tr_h : Nat → Int32} {be_h : Nat → Int32} {wy_h : Nat → Int32} {men_n : Int32} {md_n : Int32} {day_n : Int32} {drw_n : Int32} {bu_n : Nat → Int32} {st_n : Nat → Int32} {ki_n : Nat → Int32} {we_n : Nat → Int32} {wo_n : Nat → Int32} {wr_n : Nat → Int32} (hG_h : Ha g qa E0 44 worn_h few_h bc_h ld_h so_h tr_h be_h wy_h) (hG_n : Mu g qa E0 1 men_n md_n day_n drw_n bu_n st_n ki_n we_n wo_n wr_n) {R : Int32} (hf : fX0_waysWithBent p1 worn_h ld_h men_n st_n = some R) : MI l yX0_waysWithBent wsX0_waysWithBent 1 D g qa E0 [.ref (qa 44), .int p1] R (fun E => E = E0) := by
  refine MI.mk (by decide) rfl (Nat.le_of_ble_eq_true rfl) ?_
  intro p e s m args below meth c ls Q X hret hP hS hl
  have hl : lv_has ls 4 [(0, .ref (qa 44)), (1, .int p1)] := hl
  rw [fX0_waysWithBent] at hf
  refine lv_iconst (v := 0) X.1 X.2.1 dX0_waysWithBent_0 (by decide) ?_
  refine lv_istore_n (lv' := [(2, .int 0), (0, .ref (qa 44)), (1, .int p1)]) X.1 X.2.1 dX0_waysWithBent_1 rfl hl (by decide) rfl (fun ls hl => ?_)
  refine lv_iconst (v := 0) X.1 X.2.1 dX0_waysWithBent_2 (by decide) ?_
  refine lv_istore_n (lv' := [(3, .int 0), (2, .int 0), (0, .ref (qa 44)), (1, .int p1)]) X.1 X.2.1 dX0_waysWithBent_3 rfl hl (by decide) rfl (fun ls hl => ?_)
  have lp1 : ∀ (n1 : Nat) (v2_1 : Int32) (v3_1 : Int32) (H : Heap) (locs : List Loc) (ls : Array Slot), lp (bX0_waysWithBent_4 worn_h ld_h men_n st_n p1) n1 (v2_1, v3_1) = some R → va_P D vwCl (WD qa E0) H → va_S (gA qa s.heap.size) s.heap H locs → lv_has ls 4 [(0, .ref (qa 44)), (1, .int p1), (2, .int v2_1), (3, .int v3_1)] → W p l e (rmf 1) s m args below meth c H locs 0 0 Q (F0 m 4 ls []) := by
    intro n1
    induction n1 with
    | zero =>
      intro v2_1 v3_1 H locs ls hf
      exact absurd hf (by intro h; cases h)
    | succ n1 ih1 =>
      intro v2_1 v3_1 H locs ls hf hP hS hl
      have hf : bX0_waysWithBent_4 worn_h ld_h men_n st_n p1 (lp (bX0_waysWithBent_4 worn_h ld_h men_n st_n p1) n1) (v2_1, v3_1) = some R := hf
      rw [bX0_waysWithBent_4] at hf
      refine lv_iload_n X.1 X.2.1 dX0_waysWithBent_4 rfl (lv_at hl 3 rfl) ?_
      refine lv_aload_n X.1 X.2.1 dX0_waysWithBent_5 rfl (lv_at hl 0 rfl) ?_
      refine x_get X hP hG_h.1 (by omega) rfl in_X0_waysWithBent_X0 2 (by decide) (by decide +kernel) rfl rfl dX0_waysWithBent_6 ?_
      refine lv_icmp_gt (tgt := 64) X.1 X.2.1 dX0_waysWithBent_9 (by decide) (fun c2 => ?_) (fun c2 => ?_)
      · have hf := ifp hf c2
        refine lv_iload_n X.1 X.2.1 dX0_waysWithBent_64 rfl (lv_at hl 2 rfl) ?_
        obtain rfl := Option.some.inj hf
        exact hret _ _ _ _ _ _ dX0_waysWithBent_65 rfl rfl (rfl) hP hS
      · have hf := ifn hf c2
        refine lv_iload_n X.1 X.2.1 dX0_waysWithBent_12 rfl (lv_at hl 3 rfl) ?_
        refine lv_aload_n X.1 X.2.1 dX0_waysWithBent_13 rfl (lv_at hl 0 rfl) ?_
        refine x_get X hP hG_h.1 (by omega) rfl in_X0_waysWithBent_X0 2 (by decide) (by decide +kernel) rfl rfl dX0_waysWithBent_14 ?_
        refine lv_iconst (v := (-1)) X.1 X.2.1 dX0_waysWithBent_17 (by decide) ?_
        refine lv_ixor X.1 X.2.1 dX0_waysWithBent_18 ?_
        refine lv_iand X.1 X.2.1 dX0_waysWithBent_19 ?_
        refine lv_if_ne (tgt := 58) X.1 X.2.1 dX0_waysWithBent_20 (by decide) (fun c3 => ?_) (fun c3 => ?_)
        · have hf := ifn hf c3
          obtain ⟨x4, ex4, hf⟩ := nm_of hf
          refine lv_iinc (v := x4) (lv' := [(3, .int x4), (0, .ref (qa 44)), (1, .int p1), (2, .int v2_1)]) X.1 X.2.1 dX0_waysWithBent_58 hl (k := 3) rfl (by rw [ex4]; rfl) (by decide) rfl (fun ls hl => ?_)
          refine lv_goto (tgt := 4) X.1 X.2.1 dX0_waysWithBent_61 (by decide) ?_
          exact ih1 v2_1 x4 _ _ _ hf hP hS (lv_sub hl [1, 2, 3, 0] rfl)
        · have hf := ifp hf c3
          refine lv_aload_n X.1 X.2.1 dX0_waysWithBent_23 rfl (lv_at hl 0 rfl) ?_
          refine lv_iload_n X.1 X.2.1 dX0_waysWithBent_24 rfl (lv_at hl 1 rfl) ?_
          refine lv_iload_n X.1 X.2.1 dX0_waysWithBent_25 rfl (lv_at hl 3 rfl) ?_
          obtain ⟨r5, hr5, hf⟩ := bd_of hf
          refine x_rdVi X hP hS hG_h.1 (by omega) rfl (n := 2) (As := [.int p1, .int v3_1]) (ct_X0_bends hG_h hG_n hr5) gX0_waysWithBent_X0_bends rfl (by decide +kernel) ⟨by decide, by decide⟩ rfl hl.1 rfl (Nat.le_of_ble_eq_true rfl) dX0_waysWithBent_26 (fun H locs hP hS => ?_)
          refine lv_if_eq (tgt := 58) X.1 X.2.1 dX0_waysWithBent_29 (by decide) (fun c6 => ?_) (fun c6 => ?_)
          · have hf := ifp hf c6
            obtain ⟨x7, ex7, hf⟩ := nm_of hf
            refine lv_iinc (v := x7) (lv' := [(3, .int x7), (0, .ref (qa 44)), (1, .int p1), (2, .int v2_1)]) X.1 X.2.1 dX0_waysWithBent_58 hl (k := 3) rfl (by rw [ex7]; rfl) (by decide) rfl (fun ls hl => ?_)
            refine lv_goto (tgt := 4) X.1 X.2.1 dX0_waysWithBent_61 (by decide) ?_
            exact ih1 v2_1 x7 _ _ _ hf hP hS (lv_sub hl [1, 2, 3, 0] rfl)
          · have hf := ifn hf c6
            refine lv_iload_n X.1 X.2.1 dX0_waysWithBent_32 rfl (lv_at hl 2 rfl) ?_
            refine lv_aload_n X.1 X.2.1 dX0_waysWithBent_33 rfl (lv_at hl 0 rfl) ?_
            refine x_get X hP hG_h.1 (by omega) rfl in_X0_waysWithBent_X0 0 (by decide) (by decide +kernel) rfl rfl dX0_waysWithBent_34 ?_
            refine x_get X hP hG_n.1 (by omega) rfl in_X0_waysWithBent_X1 0 (by decide) (by decide +kernel) rfl rfl dX0_waysWithBent_37 ?_
            refine lv_iconst (v := 1) X.1 X.2.1 dX0_waysWithBent_40 (by decide) ?_
            refine lv_isub X.1 X.2.1 dX0_waysWithBent_41 ?_
            refine lv_aload_n X.1 X.2.1 dX0_waysWithBent_42 rfl (lv_at hl 0 rfl) ?_
            refine x_get X hP hG_h.1 (by omega) rfl in_X0_waysWithBent_X0 2 (by decide) (by decide +kernel) rfl rfl dX0_waysWithBent_43 ?_
            refine lv_iload_n X.1 X.2.1 dX0_waysWithBent_46 rfl (lv_at hl 3 rfl) ?_
            refine lv_iconst (v := (-1)) X.1 X.2.1 dX0_waysWithBent_47 (by decide) ?_
            refine lv_ixor X.1 X.2.1 dX0_waysWithBent_48 ?_
            refine lv_iand X.1 X.2.1 dX0_waysWithBent_49 ?_
            obtain ⟨r8, hr8, hf⟩ := bd_of hf
            refine x_rdSi X hP hS (index := 100) (n := 1) (As := [.int (worn_h &&& (v3_1 ^^^ (-1)))]) (ct_J6_bitCount_0f7a4  hr8) ggX0_waysWithBent_J6_bitCount_0f7a4 (by decide +kernel) (by decide +kernel) (by decide +kernel) rfl (by decide +kernel) ⟨by decide, by decide⟩ rfl hl.1 rfl (Nat.le_of_ble_eq_true rfl) dX0_waysWithBent_50 (fun H locs hP hS => ?_)
            obtain ⟨r9, hr9, hf⟩ := bd_of hf
            refine x_rdSi X hP hS (index := 106) (n := 2) (As := [.int (men_n - 1), .int r8]) (ct_X0_power  hr9) ggX0_waysWithBent_X0_power (by decide +kernel) (by decide +kernel) (by decide +kernel) rfl (by decide +kernel) ⟨by decide, by decide⟩ rfl hl.1 rfl (Nat.le_of_ble_eq_true rfl) dX0_waysWithBent_53 (fun H locs hP hS => ?_)
            refine lv_iadd X.1 X.2.1 dX0_waysWithBent_56 ?_
            obtain ⟨x10, ex10, hf⟩ := nm_of hf
            refine lv_top_as ex10 ?_
            refine lv_istore_n (lv' := [(2, .int x10), (0, .ref (qa 44)), (1, .int p1), (3, .int v3_1)]) X.1 X.2.1 dX0_waysWithBent_57 rfl hl (by decide) rfl (fun ls hl => ?_)
            obtain ⟨x11, ex11, hf⟩ := nm_of hf
            refine lv_iinc (v := x11) (lv' := [(3, .int x11), (2, .int x10), (0, .ref (qa 44)), (1, .int p1)]) X.1 X.2.1 dX0_waysWithBent_58 hl (k := 3) rfl (by rw [ex11]; rfl) (by decide) rfl (fun ls hl => ?_)
            refine lv_goto (tgt := 4) X.1 X.2.1 dX0_waysWithBent_61 (by decide) ?_
            exact ih1 x10 x11 _ _ _ hf hP hS (lv_sub hl [2, 3, 1, 0] rfl)
  exact lp1 FU 0 0 _ _ _ hf hP hS (lv_sub hl [2, 3, 1, 0] rfl)
def bX0_waysWithNobodyBent_47 (worn_h : Int32) (ld_h : Nat → Nat → Int32) (st_n : Nat → Int32) (v1_3 : Int32) (K3 : ((Int32 × (Nat → Int32))) → Option (Int32 × (Nat → Int32))) (K6 : ((Int32 × (Nat → Int32))) → Option (Int32 × (Nat → Int32))) : ((Int32 × (Nat → Int32))) → Option (Int32 × (Nat → Int32))
  | (v2_6, wy_h_6) => if v2_6 < 0 then (nm (v1_3 + 1) (fun x8 => K3 (x8, wy_h_6))) else (if (v2_6 &&& (worn_h ^^^ (-1))) = 0 then ((fX0_waysWith v1_3 v2_6 ld_h wy_h_6 st_n).bind (fun r11 => gin v2_6 64 (nm (v2_6 + (-1)) (fun x13 => K6 (x13, upd wy_h_6 (Int32.toNatClampNeg v2_6) r11))))) else (nm (v2_6 + (-1)) (fun x10 => K6 (x10, wy_h_6))))
def bX0_waysWithNobodyBent_31 (worn_h : Int32) (ld_h : Nat → Nat → Int32) (men_n : Int32) (st_n : Nat → Int32) (K3 : ((Int32 × (Nat → Int32))) → Option (Int32 × (Nat → Int32))) : ((Int32 × (Nat → Int32))) → Option (Int32 × (Nat → Int32))
  | (v1_3, wy_h_3) => if men_n ≤ v1_3 then (gin worn_h 64 (some (wy_h_3 (Int32.toNatClampNeg worn_h), wy_h_3))) else (lp (bX0_waysWithNobodyBent_47 worn_h ld_h st_n v1_3 K3) FU (worn_h, wy_h_3))
def bX0_waysWithNobodyBent_2 (worn_h : Int32) (ld_h : Nat → Nat → Int32) (men_n : Int32) (st_n : Nat → Int32) (K1 : ((Int32 × (Nat → Int32))) → Option (Int32 × (Nat → Int32))) : ((Int32 × (Nat → Int32))) → Option (Int32 × (Nat → Int32))
  | (v1_1, wy_h_1) => if 64 ≤ v1_1 then (lp (bX0_waysWithNobodyBent_31 worn_h ld_h men_n st_n) FU (0, wy_h_1)) else (if v1_1 = 0 then (gin v1_1 64 (nm (v1_1 + 1) (fun x18 => K1 (x18, upd wy_h_1 (Int32.toNatClampNeg v1_1) 1)))) else (gin v1_1 64 (nm (v1_1 + 1) (fun x16 => K1 (x16, upd wy_h_1 (Int32.toNatClampNeg v1_1) 0)))))
def fX0_waysWithNobodyBent  (worn_h : Int32) (ld_h : Nat → Nat → Int32) (wy_h : Nat → Int32) (men_n : Int32) (st_n : Nat → Int32) : Option (Int32 × (Nat → Int32)) := lp (bX0_waysWithNobodyBent_2 worn_h ld_h men_n st_n) FU (0, wy_h)
theorem in_X0_waysWithNobodyBent_X0 : ∀ w ∈ wsX00, w ∈ wsX0_waysWithNobodyBent := by decide +kernel
theorem in_X0_waysWithNobodyBent_X1 : ∀ w ∈ wsX10, w ∈ wsX0_waysWithNobodyBent := by decide +kernel
set_option maxHeartbeats 4000000 in
set_option maxRecDepth 100000 in
theorem ct_X0_waysWithNobodyBent {l : Launch} {D : va_G} {g : Nat → ClassId} {qa : Nat → Nat} {E0 : Nat → va_E} {worn_h : Int32} {few_h : Int32} {bc_h : Int32} {ld_h : Nat → Nat → Int32} {so_h : Nat → Int32} {tr_h : Nat → Int32} {be_h : Nat → Int32} {wy_h : Nat → Int32} {men_n : Int32} {md_n : Int32} {day_n : Int32} {drw_n : Int32} {bu_n : Nat → Int32} {st_n : Nat → Int32} {ki_n : Nat → Int32} {we_n : Nat → Int32} {wo_n : Nat → Int32} {wr_n : Nat → Int32} (hG_h : Ha g qa E0 44 worn_h few_h bc_h ld_h so_h tr_h be_h wy_h) (hG_n : Mu g qa E0 1 men_n md_n day_n drw_n bu_n st_n ki_n we_n wo_n wr_n) {R : (Int32 × (Nat → Int32))} (hf : fX0_waysWithNobodyBent worn_h ld_h wy_h men_n st_n = some R) : MI l yX0_waysWithNobodyBent wsX0_waysWithNobodyBent 2 D g qa E0 [.ref (qa 44)] R.1 (fun E => Ha g qa E 44 worn_h few_h bc_h ld_h so_h tr_h be_h R.2 ∧ ∀ j, (j < 44 ∨ 55 ≤ j) → E j = E0 j) := by
  refine MI.mk (by decide) rfl (Nat.le_of_ble_eq_true rfl) ?_
  intro p e s m args below meth c ls Q X hret hP hS hl
  have hl : lv_has ls 3 [(0, .ref (qa 44))] := hl
  have hfr : ∀ j, (j < 44 ∨ 55 ≤ j) → E0 j = E0 j := fun _ _ => rfl
  rw [fX0_waysWithNobodyBent] at hf
  refine lv_iconst (v := 0) X.1 X.2.1 dX0_waysWithNobodyBent_0 (by decide) ?_
  refine lv_istore_n (lv' := [(1, .int 0), (0, .ref (qa 44))]) X.1 X.2.1 dX0_waysWithNobodyBent_1 rfl hl (by decide) rfl (fun ls hl => ?_)
  have lp1 : ∀ (n1 : Nat) (v1_1 : Int32) (wy_h_1 : Nat → Int32) (E : Nat → va_E) (H : Heap) (locs : List Loc) (ls : Array Slot), lp (bX0_waysWithNobodyBent_2 worn_h ld_h men_n st_n) n1 (v1_1, wy_h_1) = some R → va_P D vwCl (WD qa E) H → va_S (gA qa s.heap.size) s.heap H locs → Ha g qa E 44 worn_h few_h bc_h ld_h so_h tr_h be_h wy_h_1 → Mu g qa E 1 men_n md_n day_n drw_n bu_n st_n ki_n we_n wo_n wr_n → (∀ j, (j < 44 ∨ 55 ≤ j) → E j = E0 j) → lv_has ls 3 [(0, .ref (qa 44)), (1, .int v1_1)] → W p l e (rmf 2) s m args below meth c H locs 0 0 Q (F0 m 2 ls []) := by
    intro n1
    induction n1 with
    | zero =>
      intro v1_1 wy_h_1 E H locs ls hf
      exact absurd hf (by intro h; cases h)
    | succ n1 ih1 =>
      intro v1_1 wy_h_1 E H locs ls hf hP hS hG_h hG_n hfr hl
      have hf : bX0_waysWithNobodyBent_2 worn_h ld_h men_n st_n (lp (bX0_waysWithNobodyBent_2 worn_h ld_h men_n st_n) n1) (v1_1, wy_h_1) = some R := hf
      rw [bX0_waysWithNobodyBent_2] at hf
      refine lv_iload_n X.1 X.2.1 dX0_waysWithNobodyBent_2 rfl (lv_at hl 1 rfl) ?_
      refine lv_bipush (v := 64) X.1 X.2.1 dX0_waysWithNobodyBent_3 (by decide) ?_
      refine lv_icmp_ge (tgt := 29) X.1 X.2.1 dX0_waysWithNobodyBent_5 (by decide) (fun c2 => ?_) (fun c2 => ?_)
      · have hf := ifp hf c2
        refine lv_iconst (v := 0) X.1 X.2.1 dX0_waysWithNobodyBent_29 (by decide) ?_
        refine lv_istore_n (lv' := [(1, .int 0), (0, .ref (qa 44))]) X.1 X.2.1 dX0_waysWithNobodyBent_30 rfl hl (by decide) rfl (fun ls hl => ?_)
        have lp3 : ∀ (n3 : Nat) (v1_3 : Int32) (wy_h_3 : Nat → Int32) (E : Nat → va_E) (H : Heap) (locs : List Loc) (ls : Array Slot), lp (bX0_waysWithNobodyBent_31 worn_h ld_h men_n st_n) n3 (v1_3, wy_h_3) = some R → va_P D vwCl (WD qa E) H → va_S (gA qa s.heap.size) s.heap H locs → Ha g qa E 44 worn_h few_h bc_h ld_h so_h tr_h be_h wy_h_3 → Mu g qa E 1 men_n md_n day_n drw_n bu_n st_n ki_n we_n wo_n wr_n → (∀ j, (j < 44 ∨ 55 ≤ j) → E j = E0 j) → lv_has ls 3 [(0, .ref (qa 44)), (1, .int v1_3)] → W p l e (rmf 2) s m args below meth c H locs 0 0 Q (F0 m 31 ls []) := by
          intro n3
          induction n3 with
          | zero =>
            intro v1_3 wy_h_3 E H locs ls hf
            exact absurd hf (by intro h; cases h)
          | succ n3 ih3 =>
            intro v1_3 wy_h_3 E H locs ls hf hP hS hG_h hG_n hfr hl
            have hf : bX0_waysWithNobodyBent_31 worn_h ld_h men_n st_n (lp (bX0_waysWithNobodyBent_31 worn_h ld_h men_n st_n) n3) (v1_3, wy_h_3) = some R := hf
            rw [bX0_waysWithNobodyBent_31] at hf
            refine lv_iload_n X.1 X.2.1 dX0_waysWithNobodyBent_31 rfl (lv_at hl 1 rfl) ?_
            refine lv_aload_n X.1 X.2.1 dX0_waysWithNobodyBent_32 rfl (lv_at hl 0 rfl) ?_
            refine x_get X hP hG_h.1 (by omega) rfl in_X0_waysWithNobodyBent_X0 0 (by decide) (by decide +kernel) rfl rfl dX0_waysWithNobodyBent_33 ?_
            refine x_get X hP hG_n.1 (by omega) rfl in_X0_waysWithNobodyBent_X1 0 (by decide) (by decide +kernel) rfl rfl dX0_waysWithNobodyBent_36 ?_
            refine lv_icmp_ge (tgt := 86) X.1 X.2.1 dX0_waysWithNobodyBent_39 (by decide) (fun c4 => ?_) (fun c4 => ?_)
            · have hf := ifp hf c4
              refine lv_aload_n X.1 X.2.1 dX0_waysWithNobodyBent_86 rfl (lv_at hl 0 rfl) ?_
              refine x_get X hP hG_h.1 (by omega) rfl in_X0_waysWithNobodyBent_X0 6 (by decide) (by decide +kernel) rfl rfl dX0_waysWithNobodyBent_87 ?_
              refine lv_aload_n X.1 X.2.1 dX0_waysWithNobodyBent_90 rfl (lv_at hl 0 rfl) ?_
              refine x_get X hP hG_h.1 (by omega) rfl in_X0_waysWithNobodyBent_X0 2 (by decide) (by decide +kernel) rfl rfl dX0_waysWithNobodyBent_91 ?_
              obtain ⟨hi5, hf⟩ := gin_of hf
              refine x_iald X hP hG_h.2.2.2.2.2.2 (by omega) hi5 dX0_waysWithNobodyBent_94 ?_
              obtain rfl := Option.some.inj hf
              exact hret _ _ _ _ _ _ dX0_waysWithNobodyBent_95 rfl rfl (⟨hG_h, hfr⟩) hP hS
            · have hf := ifn hf c4
              refine lv_aload_n X.1 X.2.1 dX0_waysWithNobodyBent_42 rfl (lv_at hl 0 rfl) ?_
              refine x_get X hP hG_h.1 (by omega) rfl in_X0_waysWithNobodyBent_X0 2 (by decide) (by decide +kernel) rfl rfl dX0_waysWithNobodyBent_43 ?_
              refine lv_istore_n (lv' := [(2, .int worn_h), (0, .ref (qa 44)), (1, .int v1_3)]) X.1 X.2.1 dX0_waysWithNobodyBent_46 rfl hl (by decide) rfl (fun ls hl => ?_)
              have lp6 : ∀ (n6 : Nat) (v2_6 : Int32) (wy_h_6 : Nat → Int32) (E : Nat → va_E) (H : Heap) (locs : List Loc) (ls : Array Slot), lp (bX0_waysWithNobodyBent_47 worn_h ld_h st_n v1_3 (lp (bX0_waysWithNobodyBent_31 worn_h ld_h men_n st_n) n3)) n6 (v2_6, wy_h_6) = some R → va_P D vwCl (WD qa E) H → va_S (gA qa s.heap.size) s.heap H locs → Ha g qa E 44 worn_h few_h bc_h ld_h so_h tr_h be_h wy_h_6 → Mu g qa E 1 men_n md_n day_n drw_n bu_n st_n ki_n we_n wo_n wr_n → (∀ j, (j < 44 ∨ 55 ≤ j) → E j = E0 j) → lv_has ls 3 [(0, .ref (qa 44)), (1, .int v1_3), (2, .int v2_6)] → W p l e (rmf 2) s m args below meth c H locs 0 0 Q (F0 m 47 ls []) := by
                intro n6
                induction n6 with
                | zero =>
                  intro v2_6 wy_h_6 E H locs ls hf
                  exact absurd hf (by intro h; cases h)
                | succ n6 ih6 =>
                  intro v2_6 wy_h_6 E H locs ls hf hP hS hG_h hG_n hfr hl
                  have hf : bX0_waysWithNobodyBent_47 worn_h ld_h st_n v1_3 (lp (bX0_waysWithNobodyBent_31 worn_h ld_h men_n st_n) n3) (lp (bX0_waysWithNobodyBent_47 worn_h ld_h st_n v1_3 (lp (bX0_waysWithNobodyBent_31 worn_h ld_h men_n st_n) n3)) n6) (v2_6, wy_h_6) = some R := hf
                  rw [bX0_waysWithNobodyBent_47] at hf
                  refine lv_iload_n X.1 X.2.1 dX0_waysWithNobodyBent_47 rfl (lv_at hl 2 rfl) ?_
                  refine lv_if_lt (tgt := 80) X.1 X.2.1 dX0_waysWithNobodyBent_48 (by decide) (fun c7 => ?_) (fun c7 => ?_)
                  · have hf := ifp hf c7
                    obtain ⟨x8, ex8, hf⟩ := nm_of hf
                    refine lv_iinc (v := x8) (lv' := [(1, .int x8), (0, .ref (qa 44)), (2, .int v2_6)]) X.1 X.2.1 dX0_waysWithNobodyBent_80 hl (k := 1) rfl (by rw [ex8]; rfl) (by decide) rfl (fun ls hl => ?_)
                    refine lv_goto (tgt := 31) X.1 X.2.1 dX0_waysWithNobodyBent_83 (by decide) ?_
                    exact ih3 x8 wy_h_6 _ _ _ _ hf hP hS hG_h hG_n hfr (lv_sub hl [1, 0] rfl)
                  · have hf := ifn hf c7
                    refine lv_iload_n X.1 X.2.1 dX0_waysWithNobodyBent_51 rfl (lv_at hl 2 rfl) ?_
                    refine lv_aload_n X.1 X.2.1 dX0_waysWithNobodyBent_52 rfl (lv_at hl 0 rfl) ?_
                    refine x_get X hP hG_h.1 (by omega) rfl in_X0_waysWithNobodyBent_X0 2 (by decide) (by decide +kernel) rfl rfl dX0_waysWithNobodyBent_53 ?_
                    refine lv_iconst (v := (-1)) X.1 X.2.1 dX0_waysWithNobodyBent_56 (by decide) ?_
                    refine lv_ixor X.1 X.2.1 dX0_waysWithNobodyBent_57 ?_
                    refine lv_iand X.1 X.2.1 dX0_waysWithNobodyBent_58 ?_
                    refine lv_if_ne (tgt := 74) X.1 X.2.1 dX0_waysWithNobodyBent_59 (by decide) (fun c9 => ?_) (fun c9 => ?_)
                    · have hf := ifn hf c9
                      obtain ⟨x10, ex10, hf⟩ := nm_of hf
                      refine lv_iinc (v := x10) (lv' := [(2, .int x10), (0, .ref (qa 44)), (1, .int v1_3)]) X.1 X.2.1 dX0_waysWithNobodyBent_74 hl (k := 2) rfl (by rw [ex10]; rfl) (by decide) rfl (fun ls hl => ?_)
                      refine lv_goto (tgt := 47) X.1 X.2.1 dX0_waysWithNobodyBent_77 (by decide) ?_
                      exact ih6 x10 wy_h_6 _ _ _ _ hf hP hS hG_h hG_n hfr (lv_sub hl [1, 2, 0] rfl)
                    · have hf := ifp hf c9
                      refine lv_aload_n X.1 X.2.1 dX0_waysWithNobodyBent_62 rfl (lv_at hl 0 rfl) ?_
                      refine x_get X hP hG_h.1 (by omega) rfl in_X0_waysWithNobodyBent_X0 6 (by decide) (by decide +kernel) rfl rfl dX0_waysWithNobodyBent_63 ?_
                      refine lv_iload_n X.1 X.2.1 dX0_waysWithNobodyBent_66 rfl (lv_at hl 2 rfl) ?_
                      refine lv_aload_n X.1 X.2.1 dX0_waysWithNobodyBent_67 rfl (lv_at hl 0 rfl) ?_
                      refine lv_iload_n X.1 X.2.1 dX0_waysWithNobodyBent_68 rfl (lv_at hl 1 rfl) ?_
                      refine lv_iload_n X.1 X.2.1 dX0_waysWithNobodyBent_69 rfl (lv_at hl 2 rfl) ?_
                      obtain ⟨r11, hr11, hf⟩ := bd_of hf
                      refine x_rdVi X hP hS hG_h.1 (by omega) rfl (n := 2) (As := [.int v1_3, .int v2_6]) (ct_X0_waysWith hG_h hG_n hr11) gX0_waysWithNobodyBent_X0_waysWith rfl (by decide +kernel) ⟨by decide, by decide⟩ rfl hl.1 rfl (Nat.le_of_ble_eq_true rfl) dX0_waysWithNobodyBent_70 (fun H locs hP hS => ?_)
                      obtain ⟨hi12, hf⟩ := gin_of hf
                      refine x_iast X hP hS hG_h.2.2.2.2.2.2 (by omega) hi12 dX0_waysWithNobodyBent_73 (fun E H locs h1 hk hP hS => ?_)
                      have hG_h := Ha_set_6 hG_h h1 hk
                      have hG_n := Mu_kept hG_n (fun j h8 h9 => hk j (by omega))
                      have hfr : ∀ j, (j < 44 ∨ 55 ≤ j) → E j = E0 j := fun j o0 => (hk j (by omega)).trans (hfr j o0)
                      obtain ⟨x13, ex13, hf⟩ := nm_of hf
                      refine lv_iinc (v := x13) (lv' := [(2, .int x13), (0, .ref (qa 44)), (1, .int v1_3)]) X.1 X.2.1 dX0_waysWithNobodyBent_74 hl (k := 2) rfl (by rw [ex13]; rfl) (by decide) rfl (fun ls hl => ?_)
                      refine lv_goto (tgt := 47) X.1 X.2.1 dX0_waysWithNobodyBent_77 (by decide) ?_
                      exact ih6 x13 (upd wy_h_6 (Int32.toNatClampNeg v2_6) r11) _ _ _ _ hf hP hS hG_h hG_n hfr (lv_sub hl [1, 2, 0] rfl)
              exact lp6 FU worn_h wy_h_3 _ _ _ _ hf hP hS hG_h hG_n hfr (lv_sub hl [1, 2, 0] rfl)
        exact lp3 FU 0 wy_h_1 _ _ _ _ hf hP hS hG_h hG_n hfr (lv_sub hl [1, 0] rfl)
      · have hf := ifn hf c2
        refine lv_aload_n X.1 X.2.1 dX0_waysWithNobodyBent_8 rfl (lv_at hl 0 rfl) ?_
        refine x_get X hP hG_h.1 (by omega) rfl in_X0_waysWithNobodyBent_X0 6 (by decide) (by decide +kernel) rfl rfl dX0_waysWithNobodyBent_9 ?_
        refine lv_iload_n X.1 X.2.1 dX0_waysWithNobodyBent_12 rfl (lv_at hl 1 rfl) ?_
        refine lv_iload_n X.1 X.2.1 dX0_waysWithNobodyBent_13 rfl (lv_at hl 1 rfl) ?_
        refine lv_if_ne (tgt := 21) X.1 X.2.1 dX0_waysWithNobodyBent_14 (by decide) (fun c14 => ?_) (fun c14 => ?_)
        · have hf := ifn hf c14
          refine lv_iconst (v := 0) X.1 X.2.1 dX0_waysWithNobodyBent_21 (by decide) ?_
          obtain ⟨hi15, hf⟩ := gin_of hf
          refine x_iast X hP hS hG_h.2.2.2.2.2.2 (by omega) hi15 dX0_waysWithNobodyBent_22 (fun E H locs h1 hk hP hS => ?_)
          have hG_h := Ha_set_6 hG_h h1 hk
          have hG_n := Mu_kept hG_n (fun j h8 h9 => hk j (by omega))
          have hfr : ∀ j, (j < 44 ∨ 55 ≤ j) → E j = E0 j := fun j o0 => (hk j (by omega)).trans (hfr j o0)
          obtain ⟨x16, ex16, hf⟩ := nm_of hf
          refine lv_iinc (v := x16) (lv' := [(1, .int x16), (0, .ref (qa 44))]) X.1 X.2.1 dX0_waysWithNobodyBent_23 hl (k := 1) rfl (by rw [ex16]; rfl) (by decide) rfl (fun ls hl => ?_)
          refine lv_goto (tgt := 2) X.1 X.2.1 dX0_waysWithNobodyBent_26 (by decide) ?_
          exact ih1 x16 (upd wy_h_1 (Int32.toNatClampNeg v1_1) 0) _ _ _ _ hf hP hS hG_h hG_n hfr (lv_sub hl [1, 0] rfl)
        · have hf := ifp hf c14
          refine lv_iconst (v := 1) X.1 X.2.1 dX0_waysWithNobodyBent_17 (by decide) ?_
          refine lv_goto (tgt := 22) X.1 X.2.1 dX0_waysWithNobodyBent_18 (by decide) ?_
          obtain ⟨hi17, hf⟩ := gin_of hf
          refine x_iast X hP hS hG_h.2.2.2.2.2.2 (by omega) hi17 dX0_waysWithNobodyBent_22 (fun E H locs h1 hk hP hS => ?_)
          have hG_h := Ha_set_6 hG_h h1 hk
          have hG_n := Mu_kept hG_n (fun j h8 h9 => hk j (by omega))
          have hfr : ∀ j, (j < 44 ∨ 55 ≤ j) → E j = E0 j := fun j o0 => (hk j (by omega)).trans (hfr j o0)
          obtain ⟨x18, ex18, hf⟩ := nm_of hf
          refine lv_iinc (v := x18) (lv' := [(1, .int x18), (0, .ref (qa 44))]) X.1 X.2.1 dX0_waysWithNobodyBent_23 hl (k := 1) rfl (by rw [ex18]; rfl) (by decide) rfl (fun ls hl => ?_)
          refine lv_goto (tgt := 2) X.1 X.2.1 dX0_waysWithNobodyBent_26 (by decide) ?_
          exact ih1 x18 (upd wy_h_1 (Int32.toNatClampNeg v1_1) 1) _ _ _ _ hf hP hS hG_h hG_n hfr (lv_sub hl [1, 0] rfl)
  exact lp1 FU 0 wy_h _ _ _ _ hf hP hS hG_h hG_n hfr (lv_sub hl [1, 0] rfl)
def fX0_wouldWear (p1 : Int32) (be_h : Nat → Int32) : Option Int32 := if p1 < 0 then (some (-4)) else (if 6 ≤ p1 then (some (-4)) else (gin p1 6 (some (be_h (Int32.toNatClampNeg p1)))))
theorem in_X0_wouldWear_X0 : ∀ w ∈ wsX00, w ∈ wsX0_wouldWear := by decide +kernel
set_option maxHeartbeats 4000000 in
set_option maxRecDepth 100000 in
theorem ct_X0_wouldWear {l : Launch} {D : va_G} {g : Nat → ClassId} {qa : Nat → Nat} {E0 : Nat → va_E} {p1 : Int32} {worn_h : Int32} {few_h : Int32} {bc_h : Int32} {ld_h : Nat → Nat → Int32} {so_h : Nat → Int32} {tr_h : Nat → Int32} {be_h : Nat → Int32} {wy_h : Nat → Int32} (hG_h : Ha g qa E0 44 worn_h few_h bc_h ld_h so_h tr_h be_h wy_h) {R : Int32} (hf : fX0_wouldWear p1 be_h = some R) : MI l yX0_wouldWear wsX0_wouldWear 0 D g qa E0 [.ref (qa 44), .int p1] R (fun E => E = E0) := by
  refine MI.mk (by decide) rfl (Nat.le_of_ble_eq_true rfl) ?_
  intro p e s m args below meth c ls Q X hret hP hS hl
  have hl : lv_has ls 2 [(0, .ref (qa 44)), (1, .int p1)] := hl
  rw [fX0_wouldWear] at hf
  refine lv_iload_n X.1 X.2.1 dX0_wouldWear_0 rfl (lv_at hl 1 rfl) ?_
  refine lv_if_lt (tgt := 19) X.1 X.2.1 dX0_wouldWear_1 (by decide) (fun c1 => ?_) (fun c1 => ?_)
  · have hf := ifp hf c1
    refine lv_bipush (v := (-4)) X.1 X.2.1 dX0_wouldWear_19 (by decide) ?_
    obtain rfl := Option.some.inj hf
    exact hret _ _ _ _ _ _ dX0_wouldWear_21 rfl rfl (rfl) hP hS
  · have hf := ifn hf c1
    refine lv_iload_n X.1 X.2.1 dX0_wouldWear_4 rfl (lv_at hl 1 rfl) ?_
    refine lv_bipush (v := 6) X.1 X.2.1 dX0_wouldWear_5 (by decide) ?_
    refine lv_icmp_ge (tgt := 19) X.1 X.2.1 dX0_wouldWear_7 (by decide) (fun c2 => ?_) (fun c2 => ?_)
    · have hf := ifp hf c2
      refine lv_bipush (v := (-4)) X.1 X.2.1 dX0_wouldWear_19 (by decide) ?_
      obtain rfl := Option.some.inj hf
      exact hret _ _ _ _ _ _ dX0_wouldWear_21 rfl rfl (rfl) hP hS
    · have hf := ifn hf c2
      refine lv_aload_n X.1 X.2.1 dX0_wouldWear_10 rfl (lv_at hl 0 rfl) ?_
      refine x_get X hP hG_h.1 (by omega) rfl in_X0_wouldWear_X0 5 (by decide) (by decide +kernel) rfl rfl dX0_wouldWear_11 ?_
      refine lv_iload_n X.1 X.2.1 dX0_wouldWear_14 rfl (lv_at hl 1 rfl) ?_
      obtain ⟨hi3, hf⟩ := gin_of hf
      refine x_iald X hP hG_h.2.2.2.2.2.1 (by omega) hi3 dX0_wouldWear_15 ?_
      refine lv_goto (tgt := 21) X.1 X.2.1 dX0_wouldWear_16 (by decide) ?_
      obtain rfl := Option.some.inj hf
      exact hret _ _ _ _ _ _ dX0_wouldWear_21 rfl rfl (rfl) hP hS
end
