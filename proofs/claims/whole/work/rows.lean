section
-- ===== PART A: goes FIRST, ahead of the names: the tables' words, and 'selects' of the private methods out of them =====
/-- a private method of a class that the tables say can be made, by its rows of tables_1 -/
def lw_okq (q : MethodName × Nat) : Prop := (q.1.cls ≠ "java/lang/invoke/MethodHandle" ∧ q.1.cls ≠ "java/lang/invoke/VarHandle") ∧ Cond.instantiable q.1.cls q.2 ∈ tables_1 ∧ Cond.privateMethod q.1 ∈ tables_1 ∧ Cond.instanceMethod q.1 ∈ tables_1
theorem lw_p0 : lw_okq (⟨"AskewLetters", "refuse", "(I)I"⟩, 10) := ⟨⟨by decide +kernel, by decide +kernel⟩, List.mem_of_getElem? (i := 14) (by decide +kernel), List.mem_of_getElem? (i := 294) (by decide +kernel), List.mem_of_getElem? (i := 295) (by decide +kernel)⟩
theorem lw_p1 : lw_okq (⟨"AskewLetters$Book", "isRead", "()Z"⟩, 10) := ⟨⟨by decide +kernel, by decide +kernel⟩, List.mem_of_getElem? (i := 177) (by decide +kernel), List.mem_of_getElem? (i := 310) (by decide +kernel), List.mem_of_getElem? (i := 311) (by decide +kernel)⟩
theorem lw_p2 : lw_okq (⟨"AskewLetters$Book", "isStatement", "(I)Z"⟩, 10) := ⟨⟨by decide +kernel, by decide +kernel⟩, List.mem_of_getElem? (i := 177) (by decide +kernel), List.mem_of_getElem? (i := 314) (by decide +kernel), List.mem_of_getElem? (i := 315) (by decide +kernel)⟩
theorem lw_p3 : lw_okq (⟨"AskewLetters$Book", "here", "()I"⟩, 10) := ⟨⟨by decide +kernel, by decide +kernel⟩, List.mem_of_getElem? (i := 177) (by decide +kernel), List.mem_of_getElem? (i := 318) (by decide +kernel), List.mem_of_getElem? (i := 319) (by decide +kernel)⟩
theorem lw_p4 : lw_okq (⟨"AskewLetters$Book", "isNumber", "(I)Z"⟩, 10) := ⟨⟨by decide +kernel, by decide +kernel⟩, List.mem_of_getElem? (i := 177) (by decide +kernel), List.mem_of_getElem? (i := 322) (by decide +kernel), List.mem_of_getElem? (i := 323) (by decide +kernel)⟩
theorem lw_p5 : lw_okq (⟨"AskewLetters$Book", "isSignAt", "(I)Z"⟩, 10) := ⟨⟨by decide +kernel, by decide +kernel⟩, List.mem_of_getElem? (i := 177) (by decide +kernel), List.mem_of_getElem? (i := 326) (by decide +kernel), List.mem_of_getElem? (i := 327) (by decide +kernel)⟩
theorem lw_p6 : lw_okq (⟨"AskewLetters$Book", "isLeanAt", "(I)Z"⟩, 10) := ⟨⟨by decide +kernel, by decide +kernel⟩, List.mem_of_getElem? (i := 177) (by decide +kernel), List.mem_of_getElem? (i := 330) (by decide +kernel), List.mem_of_getElem? (i := 331) (by decide +kernel)⟩
theorem lw_p7 : lw_okq (⟨"AskewLetters$Book", "isByte", "(I)Z"⟩, 10) := ⟨⟨by decide +kernel, by decide +kernel⟩, List.mem_of_getElem? (i := 177) (by decide +kernel), List.mem_of_getElem? (i := 334) (by decide +kernel), List.mem_of_getElem? (i := 335) (by decide +kernel)⟩
theorem lw_p8 : lw_okq (⟨"AskewLetters$Book", "isBarAt", "(I)Z"⟩, 10) := ⟨⟨by decide +kernel, by decide +kernel⟩, List.mem_of_getElem? (i := 177) (by decide +kernel), List.mem_of_getElem? (i := 338) (by decide +kernel), List.mem_of_getElem? (i := 339) (by decide +kernel)⟩
theorem lw_p9 : lw_okq (⟨"AskewLetters$Book", "isMachineAt", "(I)Z"⟩, 10) := ⟨⟨by decide +kernel, by decide +kernel⟩, List.mem_of_getElem? (i := 177) (by decide +kernel), List.mem_of_getElem? (i := 342) (by decide +kernel), List.mem_of_getElem? (i := 343) (by decide +kernel)⟩
theorem lw_p10 : lw_okq (⟨"AskewLetters$Book", "isDigitAt", "(I)Z"⟩, 10) := ⟨⟨by decide +kernel, by decide +kernel⟩, List.mem_of_getElem? (i := 177) (by decide +kernel), List.mem_of_getElem? (i := 346) (by decide +kernel), List.mem_of_getElem? (i := 347) (by decide +kernel)⟩
theorem lw_p11 : lw_okq (⟨"AskewLetters$Book", "firstWrong", "(II)I"⟩, 10) := ⟨⟨by decide +kernel, by decide +kernel⟩, List.mem_of_getElem? (i := 177) (by decide +kernel), List.mem_of_getElem? (i := 350) (by decide +kernel), List.mem_of_getElem? (i := 351) (by decide +kernel)⟩
theorem lw_p12 : lw_okq (⟨"AskewLetters$Book", "isInRange", "(II)Z"⟩, 10) := ⟨⟨by decide +kernel, by decide +kernel⟩, List.mem_of_getElem? (i := 177) (by decide +kernel), List.mem_of_getElem? (i := 357) (by decide +kernel), List.mem_of_getElem? (i := 358) (by decide +kernel)⟩
theorem lw_p13 : lw_okq (⟨"AskewLetters$Shop", "moveUp", "(I)V"⟩, 11) := ⟨⟨by decide +kernel, by decide +kernel⟩, List.mem_of_getElem? (i := 28) (by decide +kernel), List.mem_of_getElem? (i := 373) (by decide +kernel), List.mem_of_getElem? (i := 374) (by decide +kernel)⟩
theorem lw_p14 : lw_okq (⟨"AskewLetters", "barFault", "(III)I"⟩, 10) := ⟨⟨by decide +kernel, by decide +kernel⟩, List.mem_of_getElem? (i := 14) (by decide +kernel), List.mem_of_getElem? (i := 381) (by decide +kernel), List.mem_of_getElem? (i := 382) (by decide +kernel)⟩
theorem lw_p15 : lw_okq (⟨"AskewLetters", "machineDayFault", "(II)I"⟩, 10) := ⟨⟨by decide +kernel, by decide +kernel⟩, List.mem_of_getElem? (i := 14) (by decide +kernel), List.mem_of_getElem? (i := 388) (by decide +kernel), List.mem_of_getElem? (i := 389) (by decide +kernel)⟩
def lw_privs_1 : List (MethodName × Nat) := [(⟨"AskewLetters", "refuse", "(I)I"⟩, 10), (⟨"AskewLetters$Book", "isRead", "()Z"⟩, 10), (⟨"AskewLetters$Book", "isStatement", "(I)Z"⟩, 10), (⟨"AskewLetters$Book", "here", "()I"⟩, 10), (⟨"AskewLetters$Book", "isNumber", "(I)Z"⟩, 10), (⟨"AskewLetters$Book", "isSignAt", "(I)Z"⟩, 10), (⟨"AskewLetters$Book", "isLeanAt", "(I)Z"⟩, 10), (⟨"AskewLetters$Book", "isByte", "(I)Z"⟩, 10), (⟨"AskewLetters$Book", "isBarAt", "(I)Z"⟩, 10), (⟨"AskewLetters$Book", "isMachineAt", "(I)Z"⟩, 10), (⟨"AskewLetters$Book", "isDigitAt", "(I)Z"⟩, 10), (⟨"AskewLetters$Book", "firstWrong", "(II)I"⟩, 10), (⟨"AskewLetters$Book", "isInRange", "(II)Z"⟩, 10), (⟨"AskewLetters$Shop", "moveUp", "(I)V"⟩, 11), (⟨"AskewLetters", "barFault", "(III)I"⟩, 10), (⟨"AskewLetters", "machineDayFault", "(II)I"⟩, 10)]
theorem lw_r1 : ∀ q ∈ lw_privs_1, lw_okq q := List.forall_mem_cons.mpr ⟨lw_p0, List.forall_mem_cons.mpr ⟨lw_p1, List.forall_mem_cons.mpr ⟨lw_p2, List.forall_mem_cons.mpr ⟨lw_p3, List.forall_mem_cons.mpr ⟨lw_p4, List.forall_mem_cons.mpr ⟨lw_p5, List.forall_mem_cons.mpr ⟨lw_p6, List.forall_mem_cons.mpr ⟨lw_p7, List.forall_mem_cons.mpr ⟨lw_p8, List.forall_mem_cons.mpr ⟨lw_p9, List.forall_mem_cons.mpr ⟨lw_p10, List.forall_mem_cons.mpr ⟨lw_p11, List.forall_mem_cons.mpr ⟨lw_p12, List.forall_mem_cons.mpr ⟨lw_p13, List.forall_mem_cons.mpr ⟨lw_p14, List.forall_mem_cons.mpr ⟨lw_p15, fun _ h => absurd h List.not_mem_nil⟩⟩⟩⟩⟩⟩⟩⟩⟩⟩⟩⟩⟩⟩⟩⟩
theorem lw_p16 : lw_okq (⟨"AskewLetters", "isMachine", "(I)Z"⟩, 10) := ⟨⟨by decide +kernel, by decide +kernel⟩, List.mem_of_getElem? (i := 14) (by decide +kernel), List.mem_of_getElem? (i := 392) (by decide +kernel), List.mem_of_getElem? (i := 393) (by decide +kernel)⟩
theorem lw_p17 : lw_okq (⟨"AskewLetters", "isStroke", "(I)Z"⟩, 10) := ⟨⟨by decide +kernel, by decide +kernel⟩, List.mem_of_getElem? (i := 14) (by decide +kernel), List.mem_of_getElem? (i := 450) (by decide +kernel), List.mem_of_getElem? (i := 451) (by decide +kernel)⟩
theorem lw_p18 : lw_okq (⟨"AskewLetters$Desk", "standing", "(II)I"⟩, 6) := ⟨⟨by decide +kernel, by decide +kernel⟩, List.mem_of_getElem? (i := 22) (by decide +kernel), List.mem_of_getElem? (i := 475) (by decide +kernel), List.mem_of_getElem? (i := 476) (by decide +kernel)⟩
theorem lw_p19 : lw_okq (⟨"AskewLetters$Desk", "fits", "(II)Z"⟩, 6) := ⟨⟨by decide +kernel, by decide +kernel⟩, List.mem_of_getElem? (i := 22) (by decide +kernel), List.mem_of_getElem? (i := 552) (by decide +kernel), List.mem_of_getElem? (i := 553) (by decide +kernel)⟩
theorem lw_p20 : lw_okq (⟨"AskewLetters", "sittingsFault", "(I)I"⟩, 10) := ⟨⟨by decide +kernel, by decide +kernel⟩, List.mem_of_getElem? (i := 14) (by decide +kernel), List.mem_of_getElem? (i := 592) (by decide +kernel), List.mem_of_getElem? (i := 593) (by decide +kernel)⟩
theorem lw_p21 : lw_okq (⟨"AskewLetters$Sittings", "fill", "(LAskewLetters$Desk;I)V"⟩, 3) := ⟨⟨by decide +kernel, by decide +kernel⟩, List.mem_of_getElem? (i := 242) (by decide +kernel), List.mem_of_getElem? (i := 600) (by decide +kernel), List.mem_of_getElem? (i := 601) (by decide +kernel)⟩
theorem lw_p22 : lw_okq (⟨"AskewLetters$Sittings", "greatestLike", "(LAskewLetters$Page;II)J"⟩, 3) := ⟨⟨by decide +kernel, by decide +kernel⟩, List.mem_of_getElem? (i := 242) (by decide +kernel), List.mem_of_getElem? (i := 605) (by decide +kernel), List.mem_of_getElem? (i := 606) (by decide +kernel)⟩
theorem lw_p23 : lw_okq (⟨"AskewLetters$Odds", "hasHundredths", "(II)Z"⟩, 2) := ⟨⟨by decide +kernel, by decide +kernel⟩, List.mem_of_getElem? (i := 215) (by decide +kernel), List.mem_of_getElem? (i := 642) (by decide +kernel), List.mem_of_getElem? (i := 643) (by decide +kernel)⟩
theorem lw_p24 : lw_okq (⟨"AskewLetters", "isHand", "(I)Z"⟩, 10) := ⟨⟨by decide +kernel, by decide +kernel⟩, List.mem_of_getElem? (i := 14) (by decide +kernel), List.mem_of_getElem? (i := 662) (by decide +kernel), List.mem_of_getElem? (i := 663) (by decide +kernel)⟩
theorem lw_p25 : lw_okq (⟨"AskewLetters", "isPlace", "(I)Z"⟩, 10) := ⟨⟨by decide +kernel, by decide +kernel⟩, List.mem_of_getElem? (i := 14) (by decide +kernel), List.mem_of_getElem? (i := 717) (by decide +kernel), List.mem_of_getElem? (i := 718) (by decide +kernel)⟩
theorem lw_p26 : lw_okq (⟨"AskewLettersModel", "no", "(I)I"⟩, 46) := ⟨⟨by decide +kernel, by decide +kernel⟩, List.mem_of_getElem? (i := 800) (by decide +kernel), List.mem_of_getElem? (i := 952) (by decide +kernel), List.mem_of_getElem? (i := 953) (by decide +kernel)⟩
theorem lw_p27 : lw_okq (⟨"AskewLettersModel", "statement", "()Z"⟩, 46) := ⟨⟨by decide +kernel, by decide +kernel⟩, List.mem_of_getElem? (i := 800) (by decide +kernel), List.mem_of_getElem? (i := 961) (by decide +kernel), List.mem_of_getElem? (i := 962) (by decide +kernel)⟩
theorem lw_p28 : lw_okq (⟨"AskewLettersModel", "sign", "()I"⟩, 46) := ⟨⟨by decide +kernel, by decide +kernel⟩, List.mem_of_getElem? (i := 800) (by decide +kernel), List.mem_of_getElem? (i := 965) (by decide +kernel), List.mem_of_getElem? (i := 966) (by decide +kernel)⟩
theorem lw_p29 : lw_okq (⟨"AskewLettersModel", "number", "(I)I"⟩, 46) := ⟨⟨by decide +kernel, by decide +kernel⟩, List.mem_of_getElem? (i := 800) (by decide +kernel), List.mem_of_getElem? (i := 969) (by decide +kernel), List.mem_of_getElem? (i := 970) (by decide +kernel)⟩
theorem lw_p30 : lw_okq (⟨"AskewLettersModel", "takes", "(I)Z"⟩, 46) := ⟨⟨by decide +kernel, by decide +kernel⟩, List.mem_of_getElem? (i := 800) (by decide +kernel), List.mem_of_getElem? (i := 976) (by decide +kernel), List.mem_of_getElem? (i := 977) (by decide +kernel)⟩
theorem lw_p31 : lw_okq (⟨"AskewLettersModel", "leans", "()Z"⟩, 46) := ⟨⟨by decide +kernel, by decide +kernel⟩, List.mem_of_getElem? (i := 800) (by decide +kernel), List.mem_of_getElem? (i := 980) (by decide +kernel), List.mem_of_getElem? (i := 981) (by decide +kernel)⟩
def lw_privs_2 : List (MethodName × Nat) := [(⟨"AskewLetters", "isMachine", "(I)Z"⟩, 10), (⟨"AskewLetters", "isStroke", "(I)Z"⟩, 10), (⟨"AskewLetters$Desk", "standing", "(II)I"⟩, 6), (⟨"AskewLetters$Desk", "fits", "(II)Z"⟩, 6), (⟨"AskewLetters", "sittingsFault", "(I)I"⟩, 10), (⟨"AskewLetters$Sittings", "fill", "(LAskewLetters$Desk;I)V"⟩, 3), (⟨"AskewLetters$Sittings", "greatestLike", "(LAskewLetters$Page;II)J"⟩, 3), (⟨"AskewLetters$Odds", "hasHundredths", "(II)Z"⟩, 2), (⟨"AskewLetters", "isHand", "(I)Z"⟩, 10), (⟨"AskewLetters", "isPlace", "(I)Z"⟩, 10), (⟨"AskewLettersModel", "no", "(I)I"⟩, 46), (⟨"AskewLettersModel", "statement", "()Z"⟩, 46), (⟨"AskewLettersModel", "sign", "()I"⟩, 46), (⟨"AskewLettersModel", "number", "(I)I"⟩, 46), (⟨"AskewLettersModel", "takes", "(I)Z"⟩, 46), (⟨"AskewLettersModel", "leans", "()Z"⟩, 46)]
theorem lw_r2 : ∀ q ∈ lw_privs_2, lw_okq q := List.forall_mem_cons.mpr ⟨lw_p16, List.forall_mem_cons.mpr ⟨lw_p17, List.forall_mem_cons.mpr ⟨lw_p18, List.forall_mem_cons.mpr ⟨lw_p19, List.forall_mem_cons.mpr ⟨lw_p20, List.forall_mem_cons.mpr ⟨lw_p21, List.forall_mem_cons.mpr ⟨lw_p22, List.forall_mem_cons.mpr ⟨lw_p23, List.forall_mem_cons.mpr ⟨lw_p24, List.forall_mem_cons.mpr ⟨lw_p25, List.forall_mem_cons.mpr ⟨lw_p26, List.forall_mem_cons.mpr ⟨lw_p27, List.forall_mem_cons.mpr ⟨lw_p28, List.forall_mem_cons.mpr ⟨lw_p29, List.forall_mem_cons.mpr ⟨lw_p30, List.forall_mem_cons.mpr ⟨lw_p31, fun _ h => absurd h List.not_mem_nil⟩⟩⟩⟩⟩⟩⟩⟩⟩⟩⟩⟩⟩⟩⟩⟩
theorem lw_p32 : lw_okq (⟨"AskewLettersModel", "comes", "(I)Z"⟩, 46) := ⟨⟨by decide +kernel, by decide +kernel⟩, List.mem_of_getElem? (i := 800) (by decide +kernel), List.mem_of_getElem? (i := 984) (by decide +kernel), List.mem_of_getElem? (i := 985) (by decide +kernel)⟩
theorem lw_p33 : lw_okq (⟨"AskewLettersModel", "comesEvent", "(I)Z"⟩, 46) := ⟨⟨by decide +kernel, by decide +kernel⟩, List.mem_of_getElem? (i := 800) (by decide +kernel), List.mem_of_getElem? (i := 988) (by decide +kernel), List.mem_of_getElem? (i := 989) (by decide +kernel)⟩
theorem lw_p34 : lw_okq (⟨"AskewLettersModel", "notSign", "(III)I"⟩, 46) := ⟨⟨by decide +kernel, by decide +kernel⟩, List.mem_of_getElem? (i := 800) (by decide +kernel), List.mem_of_getElem? (i := 996) (by decide +kernel), List.mem_of_getElem? (i := 997) (by decide +kernel)⟩
theorem lw_p35 : lw_okq (⟨"AskewLettersModel", "isMachine", "(I)Z"⟩, 46) := ⟨⟨by decide +kernel, by decide +kernel⟩, List.mem_of_getElem? (i := 800) (by decide +kernel), List.mem_of_getElem? (i := 1000) (by decide +kernel), List.mem_of_getElem? (i := 1001) (by decide +kernel)⟩
theorem lw_p36 : lw_okq (⟨"AskewLettersModel", "lower", "(I)I"⟩, 46) := ⟨⟨by decide +kernel, by decide +kernel⟩, List.mem_of_getElem? (i := 800) (by decide +kernel), List.mem_of_getElem? (i := 1007) (by decide +kernel), List.mem_of_getElem? (i := 1008) (by decide +kernel)⟩
theorem lw_p37 : lw_okq (⟨"AskewLettersModel", "leanOf", "(III)I"⟩, 46) := ⟨⟨by decide +kernel, by decide +kernel⟩, List.mem_of_getElem? (i := 800) (by decide +kernel), List.mem_of_getElem? (i := 1012) (by decide +kernel), List.mem_of_getElem? (i := 1013) (by decide +kernel)⟩
theorem lw_p38 : lw_okq (⟨"AskewLettersModel", "isOf", "(IIII)Z"⟩, 46) := ⟨⟨by decide +kernel, by decide +kernel⟩, List.mem_of_getElem? (i := 800) (by decide +kernel), List.mem_of_getElem? (i := 1016) (by decide +kernel), List.mem_of_getElem? (i := 1017) (by decide +kernel)⟩
theorem lw_p39 : lw_okq (⟨"AskewLettersModel", "isAhead", "(II)Z"⟩, 46) := ⟨⟨by decide +kernel, by decide +kernel⟩, List.mem_of_getElem? (i := 800) (by decide +kernel), List.mem_of_getElem? (i := 1020) (by decide +kernel), List.mem_of_getElem? (i := 1021) (by decide +kernel)⟩
theorem lw_p40 : lw_okq (⟨"AskewLettersModel", "nicksOf", "(III)I"⟩, 46) := ⟨⟨by decide +kernel, by decide +kernel⟩, List.mem_of_getElem? (i := 800) (by decide +kernel), List.mem_of_getElem? (i := 1028) (by decide +kernel), List.mem_of_getElem? (i := 1029) (by decide +kernel)⟩
theorem lw_p41 : lw_okq (⟨"AskewLettersModel", "dirtOf", "(III)I"⟩, 46) := ⟨⟨by decide +kernel, by decide +kernel⟩, List.mem_of_getElem? (i := 800) (by decide +kernel), List.mem_of_getElem? (i := 1036) (by decide +kernel), List.mem_of_getElem? (i := 1037) (by decide +kernel)⟩
theorem lw_p42 : lw_okq (⟨"AskewLettersModel", "strikes", "(IIIII)V"⟩, 46) := ⟨⟨by decide +kernel, by decide +kernel⟩, List.mem_of_getElem? (i := 800) (by decide +kernel), List.mem_of_getElem? (i := 1052) (by decide +kernel), List.mem_of_getElem? (i := 1053) (by decide +kernel)⟩
theorem lw_p43 : lw_okq (⟨"AskewLettersModel", "counts", "(II)Z"⟩, 46) := ⟨⟨by decide +kernel, by decide +kernel⟩, List.mem_of_getElem? (i := 800) (by decide +kernel), List.mem_of_getElem? (i := 1060) (by decide +kernel), List.mem_of_getElem? (i := 1061) (by decide +kernel)⟩
theorem lw_p44 : lw_okq (⟨"AskewLettersModel", "factorOf", "(IIII)I"⟩, 46) := ⟨⟨by decide +kernel, by decide +kernel⟩, List.mem_of_getElem? (i := 800) (by decide +kernel), List.mem_of_getElem? (i := 1072) (by decide +kernel), List.mem_of_getElem? (i := 1073) (by decide +kernel)⟩
theorem lw_p45 : lw_okq (⟨"AskewLettersModel", "notDay", "(II)I"⟩, 46) := ⟨⟨by decide +kernel, by decide +kernel⟩, List.mem_of_getElem? (i := 800) (by decide +kernel), List.mem_of_getElem? (i := 1086) (by decide +kernel), List.mem_of_getElem? (i := 1087) (by decide +kernel)⟩
theorem lw_p46 : lw_okq (⟨"AskewLettersModel", "noLong", "(I)J"⟩, 46) := ⟨⟨by decide +kernel, by decide +kernel⟩, List.mem_of_getElem? (i := 800) (by decide +kernel), List.mem_of_getElem? (i := 1090) (by decide +kernel), List.mem_of_getElem? (i := 1091) (by decide +kernel)⟩
theorem lw_p47 : lw_okq (⟨"AskewLettersModel", "pageLike", "(II)J"⟩, 46) := ⟨⟨by decide +kernel, by decide +kernel⟩, List.mem_of_getElem? (i := 800) (by decide +kernel), List.mem_of_getElem? (i := 1095) (by decide +kernel), List.mem_of_getElem? (i := 1096) (by decide +kernel)⟩
def lw_privs_3 : List (MethodName × Nat) := [(⟨"AskewLettersModel", "comes", "(I)Z"⟩, 46), (⟨"AskewLettersModel", "comesEvent", "(I)Z"⟩, 46), (⟨"AskewLettersModel", "notSign", "(III)I"⟩, 46), (⟨"AskewLettersModel", "isMachine", "(I)Z"⟩, 46), (⟨"AskewLettersModel", "lower", "(I)I"⟩, 46), (⟨"AskewLettersModel", "leanOf", "(III)I"⟩, 46), (⟨"AskewLettersModel", "isOf", "(IIII)Z"⟩, 46), (⟨"AskewLettersModel", "isAhead", "(II)Z"⟩, 46), (⟨"AskewLettersModel", "nicksOf", "(III)I"⟩, 46), (⟨"AskewLettersModel", "dirtOf", "(III)I"⟩, 46), (⟨"AskewLettersModel", "strikes", "(IIIII)V"⟩, 46), (⟨"AskewLettersModel", "counts", "(II)Z"⟩, 46), (⟨"AskewLettersModel", "factorOf", "(IIII)I"⟩, 46), (⟨"AskewLettersModel", "notDay", "(II)I"⟩, 46), (⟨"AskewLettersModel", "noLong", "(I)J"⟩, 46), (⟨"AskewLettersModel", "pageLike", "(II)J"⟩, 46)]
theorem lw_r3 : ∀ q ∈ lw_privs_3, lw_okq q := List.forall_mem_cons.mpr ⟨lw_p32, List.forall_mem_cons.mpr ⟨lw_p33, List.forall_mem_cons.mpr ⟨lw_p34, List.forall_mem_cons.mpr ⟨lw_p35, List.forall_mem_cons.mpr ⟨lw_p36, List.forall_mem_cons.mpr ⟨lw_p37, List.forall_mem_cons.mpr ⟨lw_p38, List.forall_mem_cons.mpr ⟨lw_p39, List.forall_mem_cons.mpr ⟨lw_p40, List.forall_mem_cons.mpr ⟨lw_p41, List.forall_mem_cons.mpr ⟨lw_p42, List.forall_mem_cons.mpr ⟨lw_p43, List.forall_mem_cons.mpr ⟨lw_p44, List.forall_mem_cons.mpr ⟨lw_p45, List.forall_mem_cons.mpr ⟨lw_p46, List.forall_mem_cons.mpr ⟨lw_p47, fun _ h => absurd h List.not_mem_nil⟩⟩⟩⟩⟩⟩⟩⟩⟩⟩⟩⟩⟩⟩⟩⟩
theorem lw_p48 : lw_okq (⟨"AskewLettersModel", "likeOf", "(IIIII)J"⟩, 46) := ⟨⟨by decide +kernel, by decide +kernel⟩, List.mem_of_getElem? (i := 800) (by decide +kernel), List.mem_of_getElem? (i := 1099) (by decide +kernel), List.mem_of_getElem? (i := 1100) (by decide +kernel)⟩
theorem lw_p49 : lw_okq (⟨"AskewLettersModel", "product", "(IIII)I"⟩, 46) := ⟨⟨by decide +kernel, by decide +kernel⟩, List.mem_of_getElem? (i := 800) (by decide +kernel), List.mem_of_getElem? (i := 1103) (by decide +kernel), List.mem_of_getElem? (i := 1104) (by decide +kernel)⟩
theorem lw_p50 : lw_okq (⟨"AskewLettersModel", "allWeighed", "(II)J"⟩, 46) := ⟨⟨by decide +kernel, by decide +kernel⟩, List.mem_of_getElem? (i := 800) (by decide +kernel), List.mem_of_getElem? (i := 1115) (by decide +kernel), List.mem_of_getElem? (i := 1116) (by decide +kernel)⟩
theorem lw_p51 : lw_okq (⟨"AskewLettersModel", "weighed", "(III)J"⟩, 46) := ⟨⟨by decide +kernel, by decide +kernel⟩, List.mem_of_getElem? (i := 800) (by decide +kernel), List.mem_of_getElem? (i := 1119) (by decide +kernel), List.mem_of_getElem? (i := 1120) (by decide +kernel)⟩
theorem lw_p52 : lw_okq (⟨"AskewLettersModel", "countOf", "(I)I"⟩, 46) := ⟨⟨by decide +kernel, by decide +kernel⟩, List.mem_of_getElem? (i := 800) (by decide +kernel), List.mem_of_getElem? (i := 1123) (by decide +kernel), List.mem_of_getElem? (i := 1124) (by decide +kernel)⟩
theorem lw_p53 : lw_okq (⟨"AskewLettersModel", "isFit", "(II)Z"⟩, 46) := ⟨⟨by decide +kernel, by decide +kernel⟩, List.mem_of_getElem? (i := 800) (by decide +kernel), List.mem_of_getElem? (i := 1141) (by decide +kernel), List.mem_of_getElem? (i := 1142) (by decide +kernel)⟩
theorem lw_p54 : lw_okq (⟨"AskewLettersModel", "greatest", "(IIII)J"⟩, 46) := ⟨⟨by decide +kernel, by decide +kernel⟩, List.mem_of_getElem? (i := 800) (by decide +kernel), List.mem_of_getElem? (i := 1153) (by decide +kernel), List.mem_of_getElem? (i := 1154) (by decide +kernel)⟩
theorem lw_p55 : lw_okq (⟨"AskewLettersModel", "notParted", "(I)I"⟩, 46) := ⟨⟨by decide +kernel, by decide +kernel⟩, List.mem_of_getElem? (i := 800) (by decide +kernel), List.mem_of_getElem? (i := 1162) (by decide +kernel), List.mem_of_getElem? (i := 1163) (by decide +kernel)⟩
theorem lw_p56 : lw_okq (⟨"AskewLettersModel", "parted", "(I)I"⟩, 46) := ⟨⟨by decide +kernel, by decide +kernel⟩, List.mem_of_getElem? (i := 800) (by decide +kernel), List.mem_of_getElem? (i := 1166) (by decide +kernel), List.mem_of_getElem? (i := 1167) (by decide +kernel)⟩
theorem lw_p57 : lw_okq (⟨"AskewLettersModel", "handLikeOf", "(I)I"⟩, 46) := ⟨⟨by decide +kernel, by decide +kernel⟩, List.mem_of_getElem? (i := 800) (by decide +kernel), List.mem_of_getElem? (i := 1196) (by decide +kernel), List.mem_of_getElem? (i := 1197) (by decide +kernel)⟩
theorem lw_p58 : lw_okq (⟨"AskewLettersModel", "placeOf", "(I)I"⟩, 46) := ⟨⟨by decide +kernel, by decide +kernel⟩, List.mem_of_getElem? (i := 800) (by decide +kernel), List.mem_of_getElem? (i := 1219) (by decide +kernel), List.mem_of_getElem? (i := 1220) (by decide +kernel)⟩
theorem lw_p59 : lw_okq (⟨"AskewLettersModel", "passesAll", "()V"⟩, 46) := ⟨⟨by decide +kernel, by decide +kernel⟩, List.mem_of_getElem? (i := 800) (by decide +kernel), List.mem_of_getElem? (i := 1251) (by decide +kernel), List.mem_of_getElem? (i := 1252) (by decide +kernel)⟩
theorem lw_p60 : lw_okq (⟨"AskewLettersModel", "passes", "([I)V"⟩, 46) := ⟨⟨by decide +kernel, by decide +kernel⟩, List.mem_of_getElem? (i := 800) (by decide +kernel), List.mem_of_getElem? (i := 1255) (by decide +kernel), List.mem_of_getElem? (i := 1256) (by decide +kernel)⟩
theorem lw_p61 : lw_okq (⟨"AskewLettersModel", "passOne", "(I)I"⟩, 46) := ⟨⟨by decide +kernel, by decide +kernel⟩, List.mem_of_getElem? (i := 800) (by decide +kernel), List.mem_of_getElem? (i := 1259) (by decide +kernel), List.mem_of_getElem? (i := 1260) (by decide +kernel)⟩
def lw_privs_4 : List (MethodName × Nat) := [(⟨"AskewLettersModel", "likeOf", "(IIIII)J"⟩, 46), (⟨"AskewLettersModel", "product", "(IIII)I"⟩, 46), (⟨"AskewLettersModel", "allWeighed", "(II)J"⟩, 46), (⟨"AskewLettersModel", "weighed", "(III)J"⟩, 46), (⟨"AskewLettersModel", "countOf", "(I)I"⟩, 46), (⟨"AskewLettersModel", "isFit", "(II)Z"⟩, 46), (⟨"AskewLettersModel", "greatest", "(IIII)J"⟩, 46), (⟨"AskewLettersModel", "notParted", "(I)I"⟩, 46), (⟨"AskewLettersModel", "parted", "(I)I"⟩, 46), (⟨"AskewLettersModel", "handLikeOf", "(I)I"⟩, 46), (⟨"AskewLettersModel", "placeOf", "(I)I"⟩, 46), (⟨"AskewLettersModel", "passesAll", "()V"⟩, 46), (⟨"AskewLettersModel", "passes", "([I)V"⟩, 46), (⟨"AskewLettersModel", "passOne", "(I)I"⟩, 46)]
theorem lw_r4 : ∀ q ∈ lw_privs_4, lw_okq q := List.forall_mem_cons.mpr ⟨lw_p48, List.forall_mem_cons.mpr ⟨lw_p49, List.forall_mem_cons.mpr ⟨lw_p50, List.forall_mem_cons.mpr ⟨lw_p51, List.forall_mem_cons.mpr ⟨lw_p52, List.forall_mem_cons.mpr ⟨lw_p53, List.forall_mem_cons.mpr ⟨lw_p54, List.forall_mem_cons.mpr ⟨lw_p55, List.forall_mem_cons.mpr ⟨lw_p56, List.forall_mem_cons.mpr ⟨lw_p57, List.forall_mem_cons.mpr ⟨lw_p58, List.forall_mem_cons.mpr ⟨lw_p59, List.forall_mem_cons.mpr ⟨lw_p60, List.forall_mem_cons.mpr ⟨lw_p61, fun _ h => absurd h List.not_mem_nil⟩⟩⟩⟩⟩⟩⟩⟩⟩⟩⟩⟩⟩⟩
def lw_privs : List (MethodName × Nat) := lw_privs_1 ++ (lw_privs_2 ++ (lw_privs_3 ++ (lw_privs_4)))
def lw_tbl : List Cond := k2_sels lw_privs ++ tables_1
theorem lw_privs_ok : ∀ q ∈ lw_privs, lw_okq q := by
  show ∀ q ∈ lw_privs_1 ++ (lw_privs_2 ++ (lw_privs_3 ++ (lw_privs_4))), lw_okq q
  exact List.forall_mem_append.mpr ⟨lw_r1, List.forall_mem_append.mpr ⟨lw_r2, List.forall_mem_append.mpr ⟨lw_r3, lw_r4⟩⟩⟩
end
section
/-! Names and fixed tables of the program, written by a program of ours (wip/whole/gen02.py) out of the printed names and the tables. -/
def ax_wd (c i : Nat) : Option Cond := match c with
  | 0 => (k2_sels lw_privs)[i]?
  | 1 => tables_1_1[i]?
  | 2 => tables_1_2[i]?
  | 3 => tables_1_3[i]?
  | 4 => tables_1_4[i]?
  | 5 => tables_1_5[i]?
  | 6 => tables_1_6[i]?
  | _ => none
def ax_T : List Cond := lw_tbl.filter goodWord
theorem ax_inL {w : Cond} (c i : Nat) (h : ax_wd c i = some w) : w ∈ lw_tbl := by
  unfold ax_wd at h
  unfold lw_tbl tables_1
  split at h
  · exact List.mem_append_left _ (List.mem_of_getElem? h)
  · exact List.mem_append_right _ (List.mem_append_left _ (List.mem_of_getElem? h))
  · exact List.mem_append_right _ (List.mem_append_right _ (List.mem_append_left _ (List.mem_of_getElem? h)))
  · exact List.mem_append_right _ (List.mem_append_right _ (List.mem_append_right _ (List.mem_append_left _ (List.mem_of_getElem? h))))
  · exact List.mem_append_right _ (List.mem_append_right _ (List.mem_append_right _ (List.mem_append_right _ (List.mem_append_left _ (List.mem_of_getElem? h)))))
  · exact List.mem_append_right _ (List.mem_append_right _ (List.mem_append_right _ (List.mem_append_right _ (List.mem_append_right _ (List.mem_append_left _ (List.mem_of_getElem? h))))))
  · exact List.mem_append_right _ (List.mem_append_right _ (List.mem_append_right _ (List.mem_append_right _ (List.mem_append_right _ (List.mem_append_right _ (List.mem_of_getElem? h))))))
  · cases h
theorem ax_in {w : Cond} (c i : Nat) (h : ax_wd c i = some w) (hg : goodWord w = true) : w ∈ ax_T := List.mem_filter.mpr ⟨ax_inL c i h, hg⟩
theorem ax_T_good {w : Cond} (h : w ∈ ax_T) : w ∈ lw_tbl ∧ ((w.onTables && w.keeps) = true ∨ ∃ ty, w = .arrayClass ty) := ⟨(List.mem_filter.mp h).1, good_of_word (List.mem_filter.mp h).2⟩
def ax_cnl : List String := ["AskewLetters$Book", "AskewLetters$Days", "AskewLetters$Desk", "AskewLetters$Hands", "AskewLetters$Odds", "AskewLetters$Page", "AskewLetters$Shop", "AskewLetters$Sittings", "AskewLetters", "AskewLettersModel"]
def ax_fl : List (List (String × String × String × Bool)) := [
  [("AskewLetters$Book", "text", "[I", true), ("AskewLetters$Book", "size", "I", false), ("AskewLetters$Book", "at", "I", false), ("AskewLetters$Book", "number", "I", false), ("AskewLetters$Book", "statements", "I", false), ("AskewLetters$Book", "place", "[I", true), ("AskewLetters$Book", "machine", "[I", true), ("AskewLetters$Book", "sign", "[I", true), ("AskewLetters$Book", "day", "[I", true), ("AskewLetters$Book", "value", "[I", true)],
  [("AskewLetters$Days", "like", "[J", true)],
  [("AskewLetters$Desk", "shop", "LAskewLetters$Shop;", true), ("AskewLetters$Desk", "page", "LAskewLetters$Page;", true), ("AskewLetters$Desk", "hands", "LAskewLetters$Hands;", true), ("AskewLetters$Desk", "setting", "[I", true), ("AskewLetters$Desk", "known", "I", false), ("AskewLetters$Desk", "knownSum", "I", false)],
  [("AskewLetters$Hands", "size", "I", false), ("AskewLetters$Hands", "force", "[I", true)],
  [("AskewLetters$Odds", "share", "[J", true), ("AskewLetters$Odds", "total", "J", false)],
  [("AskewLetters$Page", "size", "I", false), ("AskewLetters$Page", "sign", "[I", true), ("AskewLetters$Page", "lean", "[I", true), ("AskewLetters$Page", "nicks", "[I", true), ("AskewLetters$Page", "dirt", "[I", true), ("AskewLetters$Page", "force", "[I", true), ("AskewLetters$Page", "picks", "I", false), ("AskewLetters$Page", "picked", "[I", true)],
  [("AskewLetters$Shop", "machines", "I", false), ("AskewLetters$Shop", "weight", "[I", true), ("AskewLetters$Shop", "cleaned", "[I", true), ("AskewLetters$Shop", "make", "[I", true), ("AskewLetters$Shop", "rate", "[I", true), ("AskewLetters$Shop", "events", "I", false), ("AskewLetters$Shop", "letter", "[I", true), ("AskewLetters$Shop", "machine", "[I", true), ("AskewLetters$Shop", "sign", "[I", true), ("AskewLetters$Shop", "day", "[I", true), ("AskewLetters$Shop", "value", "[I", true)],
  [("AskewLetters$Sittings", "product", "[I", true), ("AskewLetters$Sittings", "place", "I", false), ("AskewLetters$Sittings", "greatest", "J", false)],
  [("AskewLetters", "desk", "LAskewLetters$Desk;", true), ("AskewLetters", "kept", "LAskewLetters$Desk;", true), ("AskewLetters", "imaged", "Z", false), ("AskewLetters", "tape", "LAskewLetters$Book;", true), ("AskewLetters", "rowSigns", "[I", true), ("AskewLetters", "rowSize", "I", false), ("AskewLetters", "refusals", "[I", true), ("AskewLetters", "chances", "LAskewLetters$Odds;", true), ("AskewLetters", "days", "LAskewLetters$Days;", true), ("AskewLetters", "split", "LAskewLetters$Sittings;", true)],
  [("AskewLettersModel", "refused", "[I", true), ("AskewLettersModel", "tape", "[I", true), ("AskewLettersModel", "told", "[I", true), ("AskewLettersModel", "told1", "[I", true), ("AskewLettersModel", "told2", "[I", true), ("AskewLettersModel", "told3", "[I", true), ("AskewLettersModel", "told4", "[I", true), ("AskewLettersModel", "toldAt", "[I", true), ("AskewLettersModel", "weight", "[I", true), ("AskewLettersModel", "cleaned", "[I", true), ("AskewLettersModel", "make", "[I", true), ("AskewLettersModel", "rate", "[I", true), ("AskewLettersModel", "event", "[I", true), ("AskewLettersModel", "eventOf", "[I", true), ("AskewLettersModel", "eventSign", "[I", true), ("AskewLettersModel", "eventDay", "[I", true), ("AskewLettersModel", "eventBy", "[I", true), ("AskewLettersModel", "set", "[I", true), ("AskewLettersModel", "least", "[I", true), ("AskewLettersModel", "top", "[I", true), ("AskewLettersModel", "taped", "I", false), ("AskewLettersModel", "at", "I", false), ("AskewLettersModel", "machines", "I", false), ("AskewLettersModel", "events", "I", false), ("AskewLettersModel", "statements", "I", false), ("AskewLettersModel", "oldMake", "[I", true), ("AskewLettersModel", "oldCleaned", "[I", true), ("AskewLettersModel", "signOf", "[I", true), ("AskewLettersModel", "leanIs", "[I", true), ("AskewLettersModel", "nicksIs", "[I", true), ("AskewLettersModel", "dirtIs", "[I", true), ("AskewLettersModel", "forceIs", "[I", true), ("AskewLettersModel", "strokes", "I", false), ("AskewLettersModel", "best", "J", false), ("AskewLettersModel", "force", "[I", true), ("AskewLettersModel", "hands", "I", false), ("AskewLettersModel", "digit", "[I", true), ("AskewLettersModel", "readTold", "[I", true), ("AskewLettersModel", "readReal", "[I", true), ("AskewLettersModel", "row", "[I", true), ("AskewLettersModel", "reads", "I", false), ("AskewLettersModel", "rowMany", "I", false), ("AskewLettersModel", "kept", "[I", true), ("AskewLettersModel", "hasImage", "Z", false), ("AskewLettersModel", "isKeeping", "Z", false), ("AskewLettersModel", "cursor", "I", false)]]
def ax_tyl : List (List FieldType) := [
  [.array .int, .int, .int, .int, .int, .array .int, .array .int, .array .int, .array .int, .array .int],
  [.array .long],
  [.object "AskewLetters$Shop", .object "AskewLetters$Page", .object "AskewLetters$Hands", .array .int, .int, .int],
  [.int, .array .int],
  [.array .long, .long],
  [.int, .array .int, .array .int, .array .int, .array .int, .array .int, .int, .array .int],
  [.int, .array .int, .array .int, .array .int, .array .int, .int, .array .int, .array .int, .array .int, .array .int, .array .int],
  [.array .int, .int, .long],
  [.object "AskewLetters$Desk", .object "AskewLetters$Desk", .boolean, .object "AskewLetters$Book", .array .int, .int, .array .int, .object "AskewLetters$Odds", .object "AskewLetters$Days", .object "AskewLetters$Sittings"],
  [.array .int, .array .int, .array .int, .array .int, .array .int, .array .int, .array .int, .array .int, .array .int, .array .int, .array .int, .array .int, .array .int, .array .int, .array .int, .array .int, .array .int, .array .int, .array .int, .array .int, .int, .int, .int, .int, .int, .array .int, .array .int, .array .int, .array .int, .array .int, .array .int, .array .int, .int, .long, .array .int, .int, .array .int, .array .int, .array .int, .array .int, .int, .int, .array .int, .boolean, .boolean, .int]]
def ax_lpl : List (List (Nat × Nat)) := [
  [(1, 193), (1, 195), (1, 197), (1, 199), (1, 201), (1, 203), (1, 205), (1, 207), (1, 209), (1, 211)],
  [(1, 238)],
  [(1, 163), (1, 165), (1, 167), (1, 169), (1, 171), (1, 173)],
  [(1, 140), (1, 142)],
  [(1, 224), (1, 226)],
  [(1, 114), (1, 116), (1, 118), (1, 120), (1, 122), (1, 124), (1, 126), (1, 128)],
  [(1, 55), (1, 57), (1, 59), (1, 61), (1, 63), (1, 65), (1, 67), (1, 69), (1, 71), (1, 73), (1, 75)],
  [(2, 11), (2, 13), (2, 15)],
  [(2, 28), (2, 30), (2, 32), (2, 34), (2, 36), (2, 38), (2, 40), (2, 42), (2, 44), (2, 46)],
  [(4, 131), (4, 133), (4, 135), (4, 137), (4, 139), (4, 141), (4, 143), (4, 145), (4, 147), (4, 149), (4, 151), (4, 153), (4, 155), (4, 157), (4, 159), (4, 161), (4, 163), (4, 165), (4, 167), (4, 169), (4, 171), (4, 173), (4, 175), (4, 177), (4, 179), (4, 181), (4, 183), (4, 185), (4, 187), (4, 189), (4, 191), (4, 193), (4, 195), (4, 197), (4, 199), (4, 201), (4, 203), (4, 205), (4, 207), (4, 209), (4, 211), (4, 213), (4, 215), (4, 217), (4, 219), (4, 221)]]
def ax_cn (ci : Nat) : String := ax_cnl.getD ci ""
def ax_Tb (ci : Nat) : u_T := fun k => (ax_fl.getD ci []).getD k ("", "", "", false)
def ax_N (ci : Nat) : Nat := (ax_fl.getD ci []).length
def ax_ty (ci : Nat) : Nat → FieldType := fun k => (ax_tyl.getD ci []).getD k .int
def ax_lp (ci k : Nat) : Nat × Nat := (ax_lpl.getD ci []).getD k (9, 0)
def ax_fk (ci k : Nat) : Nat := match ax_ty ci k with
  | .int => 0
  | .long => 1
  | .boolean => 3
  | _ => 2
def ax_cls : List vw_C := [(ax_cn 0, ax_Tb 0, ax_N 0), (ax_cn 1, ax_Tb 1, ax_N 1), (ax_cn 2, ax_Tb 2, ax_N 2), (ax_cn 3, ax_Tb 3, ax_N 3), (ax_cn 4, ax_Tb 4, ax_N 4), (ax_cn 5, ax_Tb 5, ax_N 5), (ax_cn 6, ax_Tb 6, ax_N 6), (ax_cn 7, ax_Tb 7, ax_N 7), (ax_cn 8, ax_Tb 8, ax_N 8), (ax_cn 9, ax_Tb 9, ax_N 9)]
theorem ax_cls_at {ci : Nat} (h : ci < 10) : ax_cls[ci]? = some (ax_cn ci, ax_Tb ci, ax_N ci) := by
  match ci, h with
  | 0, _ => rfl
  | 1, _ => rfl
  | 2, _ => rfl
  | 3, _ => rfl
  | 4, _ => rfl
  | 5, _ => rfl
  | 6, _ => rfl
  | 7, _ => rfl
  | 8, _ => rfl
  | 9, _ => rfl
  | n + 10, h => exact absurd h (by omega)
theorem ax_lay_c : ((List.range 10).all fun ci => (List.range (ax_N ci)).all fun k => decide (ax_wd (ax_lp ci k).1 (ax_lp ci k).2 = some (u_lay (ax_cn ci) (ax_Tb ci) k)) && goodWord (u_lay (ax_cn ci) (ax_Tb ci) k)) = true := by decide +kernel
theorem ax_lay {ci : Nat} (h : ci < 10) : ∀ w ∈ u_ws (ax_cn ci) (ax_Tb ci) (ax_N ci), w ∈ ax_T := by
  intro w hw
  obtain ⟨k, hk, rfl⟩ := List.mem_map.mp hw
  have h1 := List.all_eq_true.mp (List.all_eq_true.mp ax_lay_c ci (List.mem_range.mpr h)) k hk
  simp only [Bool.and_eq_true, decide_eq_true_eq] at h1
  exact ax_in _ _ h1.1 h1.2
theorem ax_ty_c : ((List.range 10).all fun ci => (List.range (ax_N ci)).all fun k => decide (parseFieldDescriptor (ax_Tb ci k).2.2.1 = some (ax_ty ci k))) = true := by decide +kernel
theorem ax_ty_ok {ci : Nat} (h : ci < 10) : ∀ k, k < ax_N ci → parseFieldDescriptor (ax_Tb ci k).2.2.1 = some (ax_ty ci k) := by
  intro k hk
  have h1 := List.all_eq_true.mp (List.all_eq_true.mp ax_ty_c ci (List.mem_range.mpr h)) k (List.mem_range.mpr hk)
  simpa using h1
theorem ax_nm_c : ((List.range 10).all fun ci => (List.range (ax_N ci)).all fun a => (List.range (ax_N ci)).all fun b => decide (a ≠ b → (ax_Tb ci a).2.1 ≠ (ax_Tb ci b).2.1)) = true := by decide +kernel
theorem ax_nm_ok {ci : Nat} (h : ci < 10) : ∀ a, a < ax_N ci → ∀ b, b < ax_N ci → a ≠ b → (ax_Tb ci a).2.1 ≠ (ax_Tb ci b).2.1 := by
  intro a ha b hb
  have h1 := List.all_eq_true.mp (List.all_eq_true.mp (List.all_eq_true.mp ax_nm_c ci (List.mem_range.mpr h)) a (List.mem_range.mpr ha)) b (List.mem_range.mpr hb)
  exact of_decide_eq_true h1
def ax_kdl : List (Nat × Nat) := [(8, 10), (2, 6), (6, 11), (10, 6), (10, 6), (10, 10), (10, 10), (10, 20), (10, 20), (10, 20), (10, 20), (10, 20), (5, 8), (10, 30), (10, 30), (10, 30), (10, 30), (10, 30), (10, 5), (3, 2), (10, 40), (10, 5), (2, 6), (6, 11), (10, 6), (10, 6), (10, 10), (10, 10), (10, 20), (10, 20), (10, 20), (10, 20), (10, 20), (5, 8), (10, 30), (10, 30), (10, 30), (10, 30), (10, 30), (10, 5), (3, 2), (10, 40), (10, 5), (0, 10), (10, 64), (10, 22), (10, 22), (10, 22), (10, 22), (10, 22), (10, 30), (10, 7), (4, 2), (11, 7), (1, 1), (11, 37), (7, 3), (10, 1110), (9, 46), (10, 7), (10, 64), (10, 32), (10, 32), (10, 32), (10, 32), (10, 32), (10, 32), (10, 6), (10, 6), (10, 10), (10, 10), (10, 20), (10, 20), (10, 20), (10, 20), (10, 20), (10, 5), (10, 5), (10, 5), (10, 10), (10, 6), (10, 30), (10, 30), (10, 30), (10, 30), (10, 30), (10, 40), (10, 10), (10, 20), (10, 20), (10, 30), (10, 500)]
def ax_kd (k : Nat) : Nat × Nat := ax_kdl.getD k (99, 0)
theorem ax_kd_c : ((List.range 92).all fun k => decide ((ax_kd k).1 < 12) && (decide (10 ≤ (ax_kd k).1) || decide ((ax_kd k).2 = ax_N (ax_kd k).1))) = true := by decide +kernel
theorem ax_kd_N {k : Nat} (h : k < 92) (hc : (ax_kd k).1 < 10) : (ax_kd k).2 = ax_N (ax_kd k).1 := by
  have h1 := List.all_eq_true.mp ax_kd_c k (List.mem_range.mpr h)
  simp only [Bool.and_eq_true, Bool.or_eq_true, decide_eq_true_eq] at h1
  rcases h1.2 with h2 | h2
  · omega
  · exact h2
def ax_Sl : Nat → Nat
  | 0 => 0
  | k + 1 => ax_Sl k + (ax_kd k).2
def ax_mc (y : Nat) : Nat := match y with
  | 0 => 6
  | 17 => 1
  | 23 => 20
  | 37 => 1
  | 43 => 1
  | 48 => 6
  | 59 => 9
  | 67 => 1
  | 72 => 57
  | 124 => 33
  | _ => 0
abbrev ax_MT : Type := MethodName × ByteArray × Nat × Option FieldType × Nat × Nat × Nat × Nat
def ax_mok (q : ax_MT) : Prop := plainName q.1.cls = true ∧ Cond.code q.1 q.2.1 q.2.2.1 q.2.2.2.1 ∈ ax_T ∧ Cond.initialized q.1.cls ∈ ax_T ∧ (q.1.cls ≠ "java/lang/invoke/MethodHandle" ∧ q.1.cls ≠ "java/lang/invoke/VarHandle") ∧ (parseMethodDescriptor q.1.desc).map (fun d => d.parameters.length) = some q.2.2.2.2.2.2.2 ∧
  (q.2.2.2.2.2.2.1 = 0 → Cond.instanceMethod q.1 ∈ ax_T ∧ Cond.selects q.1.cls q.1 q.1 ∈ ax_T) ∧ (q.2.2.2.2.2.2.1 = 1 → Cond.static q.1 ∈ ax_T) ∧ (q.2.2.2.2.2.2.1 = 2 → Cond.instanceMethod q.1 ∈ ax_T ∧ q.1.name = "<init>" ∧ q.2.2.2.1 = none)
def ax_m0 : ax_MT := (⟨"AskewLetters$Book", "<init>", "()V"⟩, prog_2_method_1_code, 1, none, 1, 30, 2, 0)
theorem ax_mo0 : ax_mok ax_m0 := ⟨(by decide +kernel), (ax_in 1 180 rfl (by decide +kernel)), (ax_in 1 6 (by decide +kernel) (by decide +kernel)), ⟨(by decide +kernel), (by decide +kernel)⟩, (by decide +kernel), fun h => absurd h (by decide), fun h => absurd h (by decide), fun _ => ⟨ax_in 1 179 (by decide +kernel) (by decide +kernel), rfl, rfl⟩⟩
def ax_m1 : ax_MT := (⟨"AskewLetters$Book", "add", "(I)V"⟩, prog_2_method_2_code, 2, none, 0, 0, 0, 1)
theorem ax_mo1 : ax_mok ax_m1 := ⟨(by decide +kernel), (ax_in 2 60 rfl (by decide +kernel)), (ax_in 1 6 (by decide +kernel) (by decide +kernel)), ⟨(by decide +kernel), (by decide +kernel)⟩, (by decide +kernel), fun _ => ⟨ax_in 2 58 (by decide +kernel) (by decide +kernel), ax_in 2 59 (by decide +kernel) (by decide +kernel)⟩, fun h => absurd h (by decide), fun h => absurd h (by decide)⟩
def ax_m2 : ax_MT := (⟨"AskewLetters$Book", "faultFor", "(LAskewLetters$Shop;)I"⟩, prog_2_method_3_code, 3, some .int, 6, 129, 0, 1)
theorem ax_mo2 : ax_mok ax_m2 := ⟨(by decide +kernel), (ax_in 2 68 rfl (by decide +kernel)), (ax_in 1 6 (by decide +kernel) (by decide +kernel)), ⟨(by decide +kernel), (by decide +kernel)⟩, (by decide +kernel), fun _ => ⟨ax_in 2 66 (by decide +kernel) (by decide +kernel), ax_in 2 67 (by decide +kernel) (by decide +kernel)⟩, fun h => absurd h (by decide), fun h => absurd h (by decide)⟩
def ax_m3 : ax_MT := (⟨"AskewLetters$Book", "isRead", "()Z"⟩, prog_2_method_4_code, 1, some .boolean, 5, 109, 0, 0)
theorem ax_mo3 : ax_mok ax_m3 := ⟨(by decide +kernel), (ax_in 2 72 rfl (by decide +kernel)), (ax_in 1 6 (by decide +kernel) (by decide +kernel)), ⟨(by decide +kernel), (by decide +kernel)⟩, (by decide +kernel), fun _ => ⟨ax_in 2 71 (by decide +kernel) (by decide +kernel), ax_in 0 1 (by decide +kernel) (by decide +kernel)⟩, fun h => absurd h (by decide), fun h => absurd h (by decide)⟩
def ax_m4 : ax_MT := (⟨"AskewLetters$Book", "here", "()I"⟩, prog_2_method_5_code, 1, some .int, 0, 0, 0, 0)
theorem ax_mo4 : ax_mok ax_m4 := ⟨(by decide +kernel), (ax_in 2 80 rfl (by decide +kernel)), (ax_in 1 6 (by decide +kernel) (by decide +kernel)), ⟨(by decide +kernel), (by decide +kernel)⟩, (by decide +kernel), fun _ => ⟨ax_in 2 79 (by decide +kernel) (by decide +kernel), ax_in 0 3 (by decide +kernel) (by decide +kernel)⟩, fun h => absurd h (by decide), fun h => absurd h (by decide)⟩
def ax_m5 : ax_MT := (⟨"AskewLetters$Book", "isStatement", "(I)Z"⟩, prog_2_method_6_code, 4, some .boolean, 4, 86, 0, 1)
theorem ax_mo5 : ax_mok ax_m5 := ⟨(by decide +kernel), (ax_in 2 76 rfl (by decide +kernel)), (ax_in 1 6 (by decide +kernel) (by decide +kernel)), ⟨(by decide +kernel), (by decide +kernel)⟩, (by decide +kernel), fun _ => ⟨ax_in 2 75 (by decide +kernel) (by decide +kernel), ax_in 0 2 (by decide +kernel) (by decide +kernel)⟩, fun h => absurd h (by decide), fun h => absurd h (by decide)⟩
def ax_m6 : ax_MT := (⟨"AskewLetters$Book", "isByte", "(I)Z"⟩, prog_2_method_7_code, 2, some .boolean, 1, 20, 0, 1)
theorem ax_mo6 : ax_mok ax_m6 := ⟨(by decide +kernel), (ax_in 2 96 rfl (by decide +kernel)), (ax_in 1 6 (by decide +kernel) (by decide +kernel)), ⟨(by decide +kernel), (by decide +kernel)⟩, (by decide +kernel), fun _ => ⟨ax_in 2 95 (by decide +kernel) (by decide +kernel), ax_in 0 7 (by decide +kernel) (by decide +kernel)⟩, fun h => absurd h (by decide), fun h => absurd h (by decide)⟩
def ax_m7 : ax_MT := (⟨"AskewLetters$Book", "isNumber", "(I)Z"⟩, prog_2_method_8_code, 3, some .boolean, 1, 20, 0, 1)
theorem ax_mo7 : ax_mok ax_m7 := ⟨(by decide +kernel), (ax_in 2 84 rfl (by decide +kernel)), (ax_in 1 6 (by decide +kernel) (by decide +kernel)), ⟨(by decide +kernel), (by decide +kernel)⟩, (by decide +kernel), fun _ => ⟨ax_in 2 83 (by decide +kernel) (by decide +kernel), ax_in 0 4 (by decide +kernel) (by decide +kernel)⟩, fun h => absurd h (by decide), fun h => absurd h (by decide)⟩
def ax_m8 : ax_MT := (⟨"AskewLetters$Book", "isMachineAt", "(I)Z"⟩, prog_2_method_9_code, 3, some .boolean, 2, 42, 0, 1)
theorem ax_mo8 : ax_mok ax_m8 := ⟨(by decide +kernel), (ax_in 2 104 rfl (by decide +kernel)), (ax_in 1 6 (by decide +kernel) (by decide +kernel)), ⟨(by decide +kernel), (by decide +kernel)⟩, (by decide +kernel), fun _ => ⟨ax_in 2 103 (by decide +kernel) (by decide +kernel), ax_in 0 9 (by decide +kernel) (by decide +kernel)⟩, fun h => absurd h (by decide), fun h => absurd h (by decide)⟩
def ax_m9 : ax_MT := (⟨"AskewLetters$Book", "isSignAt", "(I)Z"⟩, prog_2_method_10_code, 3, some .boolean, 2, 42, 0, 1)
theorem ax_mo9 : ax_mok ax_m9 := ⟨(by decide +kernel), (ax_in 2 88 rfl (by decide +kernel)), (ax_in 1 6 (by decide +kernel) (by decide +kernel)), ⟨(by decide +kernel), (by decide +kernel)⟩, (by decide +kernel), fun _ => ⟨ax_in 2 87 (by decide +kernel) (by decide +kernel), ax_in 0 5 (by decide +kernel) (by decide +kernel)⟩, fun h => absurd h (by decide), fun h => absurd h (by decide)⟩
def ax_m10 : ax_MT := (⟨"AskewLetters$Book", "isDigitAt", "(I)Z"⟩, prog_2_method_11_code, 3, some .boolean, 2, 42, 0, 1)
theorem ax_mo10 : ax_mok ax_m10 := ⟨(by decide +kernel), (ax_in 2 108 rfl (by decide +kernel)), (ax_in 1 6 (by decide +kernel) (by decide +kernel)), ⟨(by decide +kernel), (by decide +kernel)⟩, (by decide +kernel), fun _ => ⟨ax_in 2 107 (by decide +kernel) (by decide +kernel), ax_in 0 10 (by decide +kernel) (by decide +kernel)⟩, fun h => absurd h (by decide), fun h => absurd h (by decide)⟩
def ax_m11 : ax_MT := (⟨"AskewLetters$Book", "isBarAt", "(I)Z"⟩, prog_2_method_12_code, 3, some .boolean, 3, 64, 0, 1)
theorem ax_mo11 : ax_mok ax_m11 := ⟨(by decide +kernel), (ax_in 2 100 rfl (by decide +kernel)), (ax_in 1 6 (by decide +kernel) (by decide +kernel)), ⟨(by decide +kernel), (by decide +kernel)⟩, (by decide +kernel), fun _ => ⟨ax_in 2 99 (by decide +kernel) (by decide +kernel), ax_in 0 8 (by decide +kernel) (by decide +kernel)⟩, fun h => absurd h (by decide), fun h => absurd h (by decide)⟩
def ax_m12 : ax_MT := (⟨"AskewLetters$Book", "isLeanAt", "(I)Z"⟩, prog_2_method_13_code, 4, some .boolean, 2, 42, 0, 1)
theorem ax_mo12 : ax_mok ax_m12 := ⟨(by decide +kernel), (ax_in 2 92 rfl (by decide +kernel)), (ax_in 1 6 (by decide +kernel) (by decide +kernel)), ⟨(by decide +kernel), (by decide +kernel)⟩, (by decide +kernel), fun _ => ⟨ax_in 2 91 (by decide +kernel) (by decide +kernel), ax_in 0 6 (by decide +kernel) (by decide +kernel)⟩, fun h => absurd h (by decide), fun h => absurd h (by decide)⟩
def ax_m13 : ax_MT := (⟨"AskewLetters$Book", "firstWrong", "(II)I"⟩, prog_2_method_14_code, 7, some .int, 2, 42, 0, 2)
theorem ax_mo13 : ax_mok ax_m13 := ⟨(by decide +kernel), (ax_in 2 112 rfl (by decide +kernel)), (ax_in 1 6 (by decide +kernel) (by decide +kernel)), ⟨(by decide +kernel), (by decide +kernel)⟩, (by decide +kernel), fun _ => ⟨ax_in 2 111 (by decide +kernel) (by decide +kernel), ax_in 0 11 (by decide +kernel) (by decide +kernel)⟩, fun h => absurd h (by decide), fun h => absurd h (by decide)⟩
def ax_m14 : ax_MT := (⟨"AskewLetters$Book", "isEvent", "(I)Z"⟩, prog_2_method_15_code, 1, some .boolean, 0, 0, 1, 1)
theorem ax_mo14 : ax_mok ax_m14 := ⟨(by decide +kernel), (ax_in 2 115 rfl (by decide +kernel)), (ax_in 1 6 (by decide +kernel) (by decide +kernel)), ⟨(by decide +kernel), (by decide +kernel)⟩, (by decide +kernel), fun h => absurd h (by decide), fun _ => ax_in 2 114 (by decide +kernel) (by decide +kernel), fun h => absurd h (by decide)⟩
def ax_m15 : ax_MT := (⟨"AskewLetters$Book", "isInRange", "(II)Z"⟩, prog_2_method_16_code, 3, some .boolean, 1, 20, 0, 2)
theorem ax_mo15 : ax_mok ax_m15 := ⟨(by decide +kernel), (ax_in 2 119 rfl (by decide +kernel)), (ax_in 1 6 (by decide +kernel) (by decide +kernel)), ⟨(by decide +kernel), (by decide +kernel)⟩, (by decide +kernel), fun _ => ⟨ax_in 2 118 (by decide +kernel) (by decide +kernel), ax_in 0 12 (by decide +kernel) (by decide +kernel)⟩, fun h => absurd h (by decide), fun h => absurd h (by decide)⟩
def ax_m16 : ax_MT := (⟨"AskewLetters$Book", "bringTo", "(LAskewLetters$Shop;)I"⟩, prog_2_method_17_code, 3, some .int, 2, 47, 0, 1)
theorem ax_mo16 : ax_mok ax_m16 := ⟨(by decide +kernel), (ax_in 2 123 rfl (by decide +kernel)), (ax_in 1 6 (by decide +kernel) (by decide +kernel)), ⟨(by decide +kernel), (by decide +kernel)⟩, (by decide +kernel), fun _ => ⟨ax_in 2 121 (by decide +kernel) (by decide +kernel), ax_in 2 122 (by decide +kernel) (by decide +kernel)⟩, fun h => absurd h (by decide), fun h => absurd h (by decide)⟩
def ax_m17 : ax_MT := (⟨"AskewLetters$Days", "<init>", "()V"⟩, prog_3_method_1_code, 1, none, 1, 30, 2, 0)
theorem ax_mo17 : ax_mok ax_m17 := ⟨(by decide +kernel), (ax_in 1 234 rfl (by decide +kernel)), (ax_in 1 8 (by decide +kernel) (by decide +kernel)), ⟨(by decide +kernel), (by decide +kernel)⟩, (by decide +kernel), fun h => absurd h (by decide), fun h => absurd h (by decide), fun _ => ⟨ax_in 1 233 (by decide +kernel) (by decide +kernel), rfl, rfl⟩⟩
def ax_m18 : ax_MT := (⟨"AskewLetters$Days", "weigh", "(LAskewLetters$Desk;I)V"⟩, prog_3_method_2_code, 4, none, 5, 133, 0, 2)
theorem ax_mo18 : ax_mok ax_m18 := ⟨(by decide +kernel), (ax_in 3 82 rfl (by decide +kernel)), (ax_in 1 8 (by decide +kernel) (by decide +kernel)), ⟨(by decide +kernel), (by decide +kernel)⟩, (by decide +kernel), fun _ => ⟨ax_in 3 80 (by decide +kernel) (by decide +kernel), ax_in 3 81 (by decide +kernel) (by decide +kernel)⟩, fun h => absurd h (by decide), fun h => absurd h (by decide)⟩
def ax_m19 : ax_MT := (⟨"AskewLetters$Days", "total", "()J"⟩, prog_3_method_3_code, 4, some .long, 0, 0, 0, 0)
theorem ax_mo19 : ax_mok ax_m19 := ⟨(by decide +kernel), (ax_in 3 88 rfl (by decide +kernel)), (ax_in 1 8 (by decide +kernel) (by decide +kernel)), ⟨(by decide +kernel), (by decide +kernel)⟩, (by decide +kernel), fun _ => ⟨ax_in 3 86 (by decide +kernel) (by decide +kernel), ax_in 3 87 (by decide +kernel) (by decide +kernel)⟩, fun h => absurd h (by decide), fun h => absurd h (by decide)⟩
def ax_m20 : ax_MT := (⟨"AskewLetters$Days", "best", "()I"⟩, prog_3_method_4_code, 3, some .int, 0, 0, 0, 0)
theorem ax_mo20 : ax_mok ax_m20 := ⟨(by decide +kernel), (ax_in 3 96 rfl (by decide +kernel)), (ax_in 1 8 (by decide +kernel) (by decide +kernel)), ⟨(by decide +kernel), (by decide +kernel)⟩, (by decide +kernel), fun _ => ⟨ax_in 3 94 (by decide +kernel) (by decide +kernel), ax_in 3 95 (by decide +kernel) (by decide +kernel)⟩, fun h => absurd h (by decide), fun h => absurd h (by decide)⟩
def ax_m21 : ax_MT := (⟨"AskewLetters$Days", "firstNear", "()I"⟩, prog_3_method_5_code, 3, some .int, 1, 22, 0, 0)
theorem ax_mo21 : ax_mok ax_m21 := ⟨(by decide +kernel), (ax_in 3 100 rfl (by decide +kernel)), (ax_in 1 8 (by decide +kernel) (by decide +kernel)), ⟨(by decide +kernel), (by decide +kernel)⟩, (by decide +kernel), fun _ => ⟨ax_in 3 98 (by decide +kernel) (by decide +kernel), ax_in 3 99 (by decide +kernel) (by decide +kernel)⟩, fun h => absurd h (by decide), fun h => absurd h (by decide)⟩
def ax_m22 : ax_MT := (⟨"AskewLetters$Days", "lastNear", "()I"⟩, prog_3_method_6_code, 3, some .int, 1, 22, 0, 0)
theorem ax_mo22 : ax_mok ax_m22 := ⟨(by decide +kernel), (ax_in 3 106 rfl (by decide +kernel)), (ax_in 1 8 (by decide +kernel) (by decide +kernel)), ⟨(by decide +kernel), (by decide +kernel)⟩, (by decide +kernel), fun _ => ⟨ax_in 3 104 (by decide +kernel) (by decide +kernel), ax_in 3 105 (by decide +kernel) (by decide +kernel)⟩, fun h => absurd h (by decide), fun h => absurd h (by decide)⟩
def ax_m23 : ax_MT := (⟨"AskewLetters$Desk", "<init>", "()V"⟩, prog_4_method_1_code, 1, none, 2, 50, 2, 0)
theorem ax_mo23 : ax_mok ax_m23 := ⟨(by decide +kernel), (ax_in 1 25 rfl (by decide +kernel)), (ax_in 1 2 (by decide +kernel) (by decide +kernel)), ⟨(by decide +kernel), (by decide +kernel)⟩, (by decide +kernel), fun h => absurd h (by decide), fun h => absurd h (by decide), fun _ => ⟨ax_in 1 24 (by decide +kernel) (by decide +kernel), rfl, rfl⟩⟩
def ax_m24 : ax_MT := (⟨"AskewLetters$Desk", "takeFrom", "(LAskewLetters$Desk;)V"⟩, prog_4_method_2_code, 2, none, 2, 51, 0, 1)
theorem ax_mo24 : ax_mok ax_m24 := ⟨(by decide +kernel), (ax_in 4 51 rfl (by decide +kernel)), (ax_in 1 2 (by decide +kernel) (by decide +kernel)), ⟨(by decide +kernel), (by decide +kernel)⟩, (by decide +kernel), fun _ => ⟨ax_in 4 49 (by decide +kernel) (by decide +kernel), ax_in 4 50 (by decide +kernel) (by decide +kernel)⟩, fun h => absurd h (by decide), fun h => absurd h (by decide)⟩
def ax_m25 : ax_MT := (⟨"AskewLetters$Desk", "factorOf", "(IIII)I"⟩, prog_4_method_3_code, 7, some .int, 2, 55, 0, 4)
theorem ax_mo25 : ax_mok ax_m25 := ⟨(by decide +kernel), (ax_in 2 232 rfl (by decide +kernel)), (ax_in 1 2 (by decide +kernel) (by decide +kernel)), ⟨(by decide +kernel), (by decide +kernel)⟩, (by decide +kernel), fun _ => ⟨ax_in 2 230 (by decide +kernel) (by decide +kernel), ax_in 2 231 (by decide +kernel) (by decide +kernel)⟩, fun h => absurd h (by decide), fun h => absurd h (by decide)⟩
def ax_m26 : ax_MT := (⟨"AskewLetters$Desk", "standing", "(II)I"⟩, prog_4_method_4_code, 3, some .int, 1, 30, 0, 2)
theorem ax_mo26 : ax_mok ax_m26 := ⟨(by decide +kernel), (ax_in 2 237 rfl (by decide +kernel)), (ax_in 1 2 (by decide +kernel) (by decide +kernel)), ⟨(by decide +kernel), (by decide +kernel)⟩, (by decide +kernel), fun _ => ⟨ax_in 2 236 (by decide +kernel) (by decide +kernel), ax_in 0 18 (by decide +kernel) (by decide +kernel)⟩, fun h => absurd h (by decide), fun h => absurd h (by decide)⟩
def ax_m27 : ax_MT := (⟨"AskewLetters$Desk", "nicked", "(II)I"⟩, prog_4_method_5_code, 2, some .int, 1, 21, 1, 2)
theorem ax_mo27 : ax_mok ax_m27 := ⟨(by decide +kernel), (ax_in 3 5 rfl (by decide +kernel)), (ax_in 1 2 (by decide +kernel) (by decide +kernel)), ⟨(by decide +kernel), (by decide +kernel)⟩, (by decide +kernel), fun h => absurd h (by decide), fun _ => ax_in 3 4 (by decide +kernel) (by decide +kernel), fun h => absurd h (by decide)⟩
def ax_m28 : ax_MT := (⟨"AskewLetters$Desk", "isWithin", "(II)Z"⟩, prog_4_method_6_code, 2, some .boolean, 0, 0, 1, 2)
theorem ax_mo28 : ax_mok ax_m28 := ⟨(by decide +kernel), (ax_in 3 8 rfl (by decide +kernel)), (ax_in 1 2 (by decide +kernel) (by decide +kernel)), ⟨(by decide +kernel), (by decide +kernel)⟩, (by decide +kernel), fun h => absurd h (by decide), fun _ => ax_in 3 7 (by decide +kernel) (by decide +kernel), fun h => absurd h (by decide)⟩
def ax_m29 : ax_MT := (⟨"AskewLetters$Desk", "productOf", "(IIII)I"⟩, prog_4_method_7_code, 7, some .int, 3, 81, 0, 4)
theorem ax_mo29 : ax_mok ax_m29 := ⟨(by decide +kernel), (ax_in 3 27 rfl (by decide +kernel)), (ax_in 1 2 (by decide +kernel) (by decide +kernel)), ⟨(by decide +kernel), (by decide +kernel)⟩, (by decide +kernel), fun _ => ⟨ax_in 3 25 (by decide +kernel) (by decide +kernel), ax_in 3 26 (by decide +kernel) (by decide +kernel)⟩, fun h => absurd h (by decide), fun h => absurd h (by decide)⟩
def ax_m30 : ax_MT := (⟨"AskewLetters$Desk", "likeOf", "(III)J"⟩, prog_4_method_8_code, 4, some .long, 5, 133, 0, 3)
theorem ax_mo30 : ax_mok ax_m30 := ⟨(by decide +kernel), (ax_in 3 18 rfl (by decide +kernel)), (ax_in 1 2 (by decide +kernel) (by decide +kernel)), ⟨(by decide +kernel), (by decide +kernel)⟩, (by decide +kernel), fun _ => ⟨ax_in 3 16 (by decide +kernel) (by decide +kernel), ax_in 3 17 (by decide +kernel) (by decide +kernel)⟩, fun h => absurd h (by decide), fun h => absurd h (by decide)⟩
def ax_m31 : ax_MT := (⟨"AskewLetters$Desk", "likeOfPicked", "(III)J"⟩, prog_4_method_9_code, 7, some .long, 4, 107, 0, 3)
theorem ax_mo31 : ax_mok ax_m31 := ⟨(by decide +kernel), (ax_in 3 23 rfl (by decide +kernel)), (ax_in 1 2 (by decide +kernel) (by decide +kernel)), ⟨(by decide +kernel), (by decide +kernel)⟩, (by decide +kernel), fun _ => ⟨ax_in 3 21 (by decide +kernel) (by decide +kernel), ax_in 3 22 (by decide +kernel) (by decide +kernel)⟩, fun h => absurd h (by decide), fun h => absurd h (by decide)⟩
def ax_m32 : ax_MT := (⟨"AskewLetters$Desk", "leastStroke", "(II)I"⟩, prog_4_method_10_code, 7, some .int, 4, 107, 0, 2)
theorem ax_mo32 : ax_mok ax_m32 := ⟨(by decide +kernel), (ax_in 3 151 rfl (by decide +kernel)), (ax_in 1 2 (by decide +kernel) (by decide +kernel)), ⟨(by decide +kernel), (by decide +kernel)⟩, (by decide +kernel), fun _ => ⟨ax_in 3 149 (by decide +kernel) (by decide +kernel), ax_in 3 150 (by decide +kernel) (by decide +kernel)⟩, fun h => absurd h (by decide), fun h => absurd h (by decide)⟩
def ax_m33 : ax_MT := (⟨"AskewLetters$Desk", "fitting", "(I)I"⟩, prog_4_method_11_code, 4, some .int, 3, 80, 0, 1)
theorem ax_mo33 : ax_mok ax_m33 := ⟨(by decide +kernel), (ax_in 3 70 rfl (by decide +kernel)), (ax_in 1 2 (by decide +kernel) (by decide +kernel)), ⟨(by decide +kernel), (by decide +kernel)⟩, (by decide +kernel), fun _ => ⟨ax_in 3 68 (by decide +kernel) (by decide +kernel), ax_in 3 69 (by decide +kernel) (by decide +kernel)⟩, fun h => absurd h (by decide), fun h => absurd h (by decide)⟩
def ax_m34 : ax_MT := (⟨"AskewLetters$Desk", "fits", "(II)Z"⟩, prog_4_method_12_code, 6, some .boolean, 2, 55, 0, 2)
theorem ax_mo34 : ax_mok ax_m34 := ⟨(by decide +kernel), (ax_in 3 74 rfl (by decide +kernel)), (ax_in 1 2 (by decide +kernel) (by decide +kernel)), ⟨(by decide +kernel), (by decide +kernel)⟩, (by decide +kernel), fun _ => ⟨ax_in 3 73 (by decide +kernel) (by decide +kernel), ax_in 0 19 (by decide +kernel) (by decide +kernel)⟩, fun h => absurd h (by decide), fun h => absurd h (by decide)⟩
def ax_m35 : ax_MT := (⟨"AskewLetters$Desk", "strike", "(IIIII)V"⟩, prog_4_method_13_code, 12, none, 2, 55, 0, 5)
theorem ax_mo35 : ax_mok ax_m35 := ⟨(by decide +kernel), (ax_in 3 222 rfl (by decide +kernel)), (ax_in 1 2 (by decide +kernel) (by decide +kernel)), ⟨(by decide +kernel), (by decide +kernel)⟩, (by decide +kernel), fun _ => ⟨ax_in 3 220 (by decide +kernel) (by decide +kernel), ax_in 3 221 (by decide +kernel) (by decide +kernel)⟩, fun h => absurd h (by decide), fun h => absurd h (by decide)⟩
def ax_m36 : ax_MT := (⟨"AskewLetters$Desk", "drawn", "(II)I"⟩, prog_4_method_14_code, 2, some .int, 0, 0, 1, 2)
theorem ax_mo36 : ax_mok ax_m36 := ⟨(by decide +kernel), (ax_in 3 227 rfl (by decide +kernel)), (ax_in 1 2 (by decide +kernel) (by decide +kernel)), ⟨(by decide +kernel), (by decide +kernel)⟩, (by decide +kernel), fun h => absurd h (by decide), fun _ => ax_in 3 226 (by decide +kernel) (by decide +kernel), fun h => absurd h (by decide)⟩
def ax_m37 : ax_MT := (⟨"AskewLetters$Hands", "<init>", "()V"⟩, prog_5_method_1_code, 1, none, 1, 30, 2, 0)
theorem ax_mo37 : ax_mok ax_m37 := ⟨(by decide +kernel), (ax_in 1 135 rfl (by decide +kernel)), (ax_in 1 5 (by decide +kernel) (by decide +kernel)), ⟨(by decide +kernel), (by decide +kernel)⟩, (by decide +kernel), fun h => absurd h (by decide), fun h => absurd h (by decide), fun _ => ⟨ax_in 1 134 (by decide +kernel) (by decide +kernel), rfl, rfl⟩⟩
def ax_m38 : ax_MT := (⟨"AskewLetters$Hands", "takeFrom", "(LAskewLetters$Hands;)V"⟩, prog_5_method_2_code, 2, none, 1, 30, 0, 1)
theorem ax_mo38 : ax_mok ax_m38 := ⟨(by decide +kernel), (ax_in 4 67 rfl (by decide +kernel)), (ax_in 1 5 (by decide +kernel) (by decide +kernel)), ⟨(by decide +kernel), (by decide +kernel)⟩, (by decide +kernel), fun _ => ⟨ax_in 4 65 (by decide +kernel) (by decide +kernel), ax_in 4 66 (by decide +kernel) (by decide +kernel)⟩, fun h => absurd h (by decide), fun h => absurd h (by decide)⟩
def ax_m39 : ax_MT := (⟨"AskewLetters$Hands", "add", "(J)I"⟩, prog_5_method_3_code, 6, some .int, 0, 0, 0, 1)
theorem ax_mo39 : ax_mok ax_m39 := ⟨(by decide +kernel), (ax_in 3 175 rfl (by decide +kernel)), (ax_in 1 5 (by decide +kernel) (by decide +kernel)), ⟨(by decide +kernel), (by decide +kernel)⟩, (by decide +kernel), fun _ => ⟨ax_in 3 173 (by decide +kernel) (by decide +kernel), ax_in 3 174 (by decide +kernel) (by decide +kernel)⟩, fun h => absurd h (by decide), fun h => absurd h (by decide)⟩
def ax_m40 : ax_MT := (⟨"AskewLetters$Hands", "forceOf", "(II)I"⟩, prog_5_method_4_code, 3, some .int, 0, 0, 0, 2)
theorem ax_mo40 : ax_mok ax_m40 := ⟨(by decide +kernel), (ax_in 3 192 rfl (by decide +kernel)), (ax_in 1 5 (by decide +kernel) (by decide +kernel)), ⟨(by decide +kernel), (by decide +kernel)⟩, (by decide +kernel), fun _ => ⟨ax_in 3 190 (by decide +kernel) (by decide +kernel), ax_in 3 191 (by decide +kernel) (by decide +kernel)⟩, fun h => absurd h (by decide), fun h => absurd h (by decide)⟩
def ax_m41 : ax_MT := (⟨"AskewLetters$Hands", "likeOf", "(ILAskewLetters$Page;)I"⟩, prog_5_method_5_code, 5, some .int, 1, 30, 0, 2)
theorem ax_mo41 : ax_mok ax_m41 := ⟨(by decide +kernel), (ax_in 3 188 rfl (by decide +kernel)), (ax_in 1 5 (by decide +kernel) (by decide +kernel)), ⟨(by decide +kernel), (by decide +kernel)⟩, (by decide +kernel), fun _ => ⟨ax_in 3 186 (by decide +kernel) (by decide +kernel), ax_in 3 187 (by decide +kernel) (by decide +kernel)⟩, fun h => absurd h (by decide), fun h => absurd h (by decide)⟩
def ax_m42 : ax_MT := (⟨"AskewLetters$Hands", "likest", "(LAskewLetters$Page;)I"⟩, prog_5_method_6_code, 6, some .int, 2, 54, 0, 1)
theorem ax_mo42 : ax_mok ax_m42 := ⟨(by decide +kernel), (ax_in 3 202 rfl (by decide +kernel)), (ax_in 1 5 (by decide +kernel) (by decide +kernel)), ⟨(by decide +kernel), (by decide +kernel)⟩, (by decide +kernel), fun _ => ⟨ax_in 3 200 (by decide +kernel) (by decide +kernel), ax_in 3 201 (by decide +kernel) (by decide +kernel)⟩, fun h => absurd h (by decide), fun h => absurd h (by decide)⟩
def ax_m43 : ax_MT := (⟨"AskewLetters$Odds", "<init>", "()V"⟩, prog_6_method_1_code, 1, none, 1, 30, 2, 0)
theorem ax_mo43 : ax_mok ax_m43 := ⟨(by decide +kernel), (ax_in 1 218 rfl (by decide +kernel)), (ax_in 1 7 (by decide +kernel) (by decide +kernel)), ⟨(by decide +kernel), (by decide +kernel)⟩, (by decide +kernel), fun h => absurd h (by decide), fun h => absurd h (by decide), fun _ => ⟨ax_in 1 217 (by decide +kernel) (by decide +kernel), rfl, rfl⟩⟩
def ax_m44 : ax_MT := (⟨"AskewLetters$Odds", "weigh", "(LAskewLetters$Desk;II)J"⟩, prog_6_method_2_code, 6, some .long, 5, 133, 0, 3)
theorem ax_mo44 : ax_mok ax_m44 := ⟨(by decide +kernel), (ax_in 3 43 rfl (by decide +kernel)), (ax_in 1 7 (by decide +kernel) (by decide +kernel)), ⟨(by decide +kernel), (by decide +kernel)⟩, (by decide +kernel), fun _ => ⟨ax_in 3 41 (by decide +kernel) (by decide +kernel), ax_in 3 42 (by decide +kernel) (by decide +kernel)⟩, fun h => absurd h (by decide), fun h => absurd h (by decide)⟩
def ax_m45 : ax_MT := (⟨"AskewLetters$Odds", "greatest", "()I"⟩, prog_6_method_3_code, 3, some .int, 0, 0, 0, 0)
theorem ax_mo45 : ax_mok ax_m45 := ⟨(by decide +kernel), (ax_in 3 62 rfl (by decide +kernel)), (ax_in 1 7 (by decide +kernel) (by decide +kernel)), ⟨(by decide +kernel), (by decide +kernel)⟩, (by decide +kernel), fun _ => ⟨ax_in 3 60 (by decide +kernel) (by decide +kernel), ax_in 3 61 (by decide +kernel) (by decide +kernel)⟩, fun h => absurd h (by decide), fun h => absurd h (by decide)⟩
def ax_m46 : ax_MT := (⟨"AskewLetters$Odds", "strokesFor", "(LAskewLetters$Desk;III)I"⟩, prog_6_method_4_code, 8, some .int, 6, 158, 0, 4)
theorem ax_mo46 : ax_mok ax_m46 := ⟨(by decide +kernel), (ax_in 3 159 rfl (by decide +kernel)), (ax_in 1 7 (by decide +kernel) (by decide +kernel)), ⟨(by decide +kernel), (by decide +kernel)⟩, (by decide +kernel), fun _ => ⟨ax_in 3 157 (by decide +kernel) (by decide +kernel), ax_in 3 158 (by decide +kernel) (by decide +kernel)⟩, fun h => absurd h (by decide), fun h => absurd h (by decide)⟩
def ax_m47 : ax_MT := (⟨"AskewLetters$Odds", "hasHundredths", "(II)Z"⟩, prog_6_method_5_code, 7, some .boolean, 0, 0, 0, 2)
theorem ax_mo47 : ax_mok ax_m47 := ⟨(by decide +kernel), (ax_in 3 164 rfl (by decide +kernel)), (ax_in 1 7 (by decide +kernel) (by decide +kernel)), ⟨(by decide +kernel), (by decide +kernel)⟩, (by decide +kernel), fun _ => ⟨ax_in 3 163 (by decide +kernel) (by decide +kernel), ax_in 0 23 (by decide +kernel) (by decide +kernel)⟩, fun h => absurd h (by decide), fun h => absurd h (by decide)⟩
def ax_m48 : ax_MT := (⟨"AskewLetters$Page", "<init>", "()V"⟩, prog_7_method_1_code, 1, none, 1, 30, 2, 0)
theorem ax_mo48 : ax_mok ax_m48 := ⟨(by decide +kernel), (ax_in 1 83 rfl (by decide +kernel)), (ax_in 1 4 (by decide +kernel) (by decide +kernel)), ⟨(by decide +kernel), (by decide +kernel)⟩, (by decide +kernel), fun h => absurd h (by decide), fun h => absurd h (by decide), fun _ => ⟨ax_in 1 82 (by decide +kernel) (by decide +kernel), rfl, rfl⟩⟩
def ax_m49 : ax_MT := (⟨"AskewLetters$Page", "takeFrom", "(LAskewLetters$Page;)V"⟩, prog_7_method_2_code, 2, none, 1, 30, 0, 1)
theorem ax_mo49 : ax_mok ax_m49 := ⟨(by decide +kernel), (ax_in 4 62 rfl (by decide +kernel)), (ax_in 1 4 (by decide +kernel) (by decide +kernel)), ⟨(by decide +kernel), (by decide +kernel)⟩, (by decide +kernel), fun _ => ⟨ax_in 4 60 (by decide +kernel) (by decide +kernel), ax_in 4 61 (by decide +kernel) (by decide +kernel)⟩, fun h => absurd h (by decide), fun h => absurd h (by decide)⟩
def ax_m50 : ax_MT := (⟨"AskewLetters$Page", "add", "(IIIII)I"⟩, prog_7_method_3_code, 6, some .int, 0, 0, 0, 5)
theorem ax_mo50 : ax_mok ax_m50 := ⟨(by decide +kernel), (ax_in 2 204 rfl (by decide +kernel)), (ax_in 1 4 (by decide +kernel) (by decide +kernel)), ⟨(by decide +kernel), (by decide +kernel)⟩, (by decide +kernel), fun _ => ⟨ax_in 2 202 (by decide +kernel) (by decide +kernel), ax_in 2 203 (by decide +kernel) (by decide +kernel)⟩, fun h => absurd h (by decide), fun h => absurd h (by decide)⟩
def ax_m51 : ax_MT := (⟨"AskewLetters$Page", "pick", "(II)I"⟩, prog_7_method_4_code, 5, some .int, 0, 0, 0, 2)
theorem ax_mo51 : ax_mok ax_m51 := ⟨(by decide +kernel), (ax_in 2 220 rfl (by decide +kernel)), (ax_in 1 4 (by decide +kernel) (by decide +kernel)), ⟨(by decide +kernel), (by decide +kernel)⟩, (by decide +kernel), fun _ => ⟨ax_in 2 218 (by decide +kernel) (by decide +kernel), ax_in 2 219 (by decide +kernel) (by decide +kernel)⟩, fun h => absurd h (by decide), fun h => absurd h (by decide)⟩
def ax_m52 : ax_MT := (⟨"AskewLetters$Page", "isCounted", "(I)Z"⟩, prog_7_method_5_code, 3, some .boolean, 1, 24, 0, 1)
theorem ax_mo52 : ax_mok ax_m52 := ⟨(by decide +kernel), (ax_in 2 216 rfl (by decide +kernel)), (ax_in 1 4 (by decide +kernel) (by decide +kernel)), ⟨(by decide +kernel), (by decide +kernel)⟩, (by decide +kernel), fun _ => ⟨ax_in 2 214 (by decide +kernel) (by decide +kernel), ax_in 2 215 (by decide +kernel) (by decide +kernel)⟩, fun h => absurd h (by decide), fun h => absurd h (by decide)⟩
def ax_m53 : ax_MT := (⟨"AskewLetters$Page", "palest", "()I"⟩, prog_7_method_6_code, 8, some .int, 0, 0, 0, 0)
theorem ax_mo53 : ax_mok ax_m53 := ⟨(by decide +kernel), (ax_in 3 211 rfl (by decide +kernel)), (ax_in 1 4 (by decide +kernel) (by decide +kernel)), ⟨(by decide +kernel), (by decide +kernel)⟩, (by decide +kernel), fun _ => ⟨ax_in 3 209 (by decide +kernel) (by decide +kernel), ax_in 3 210 (by decide +kernel) (by decide +kernel)⟩, fun h => absurd h (by decide), fun h => absurd h (by decide)⟩
def ax_m54 : ax_MT := (⟨"AskewLetters$Page", "placeOf", "(II)I"⟩, prog_7_method_7_code, 3, some .int, 0, 0, 1, 2)
theorem ax_mo54 : ax_mok ax_m54 := ⟨(by decide +kernel), (ax_in 4 6 rfl (by decide +kernel)), (ax_in 1 4 (by decide +kernel) (by decide +kernel)), ⟨(by decide +kernel), (by decide +kernel)⟩, (by decide +kernel), fun h => absurd h (by decide), fun _ => ax_in 4 5 (by decide +kernel) (by decide +kernel), fun h => absurd h (by decide)⟩
def ax_m55 : ax_MT := (⟨"AskewLetters$Page", "strokesAt", "(II)I"⟩, prog_7_method_8_code, 5, some .int, 1, 22, 0, 2)
theorem ax_mo55 : ax_mok ax_m55 := ⟨(by decide +kernel), (ax_in 4 3 rfl (by decide +kernel)), (ax_in 1 4 (by decide +kernel) (by decide +kernel)), ⟨(by decide +kernel), (by decide +kernel)⟩, (by decide +kernel), fun _ => ⟨ax_in 4 1 (by decide +kernel) (by decide +kernel), ax_in 4 2 (by decide +kernel) (by decide +kernel)⟩, fun h => absurd h (by decide), fun h => absurd h (by decide)⟩
def ax_m56 : ax_MT := (⟨"AskewLetters$Page", "latestAt", "(II)I"⟩, prog_7_method_9_code, 4, some .int, 1, 22, 0, 2)
theorem ax_mo56 : ax_mok ax_m56 := ⟨(by decide +kernel), (ax_in 4 14 rfl (by decide +kernel)), (ax_in 1 4 (by decide +kernel) (by decide +kernel)), ⟨(by decide +kernel), (by decide +kernel)⟩, (by decide +kernel), fun _ => ⟨ax_in 4 12 (by decide +kernel) (by decide +kernel), ax_in 4 13 (by decide +kernel) (by decide +kernel)⟩, fun h => absurd h (by decide), fun h => absurd h (by decide)⟩
def ax_m57 : ax_MT := (⟨"AskewLetters$Page", "firstLaidOver", "(I)I"⟩, prog_7_method_10_code, 4, some .int, 1, 22, 0, 1)
theorem ax_mo57 : ax_mok ax_m57 := ⟨(by decide +kernel), (ax_in 4 22 rfl (by decide +kernel)), (ax_in 1 4 (by decide +kernel) (by decide +kernel)), ⟨(by decide +kernel), (by decide +kernel)⟩, (by decide +kernel), fun _ => ⟨ax_in 4 20 (by decide +kernel) (by decide +kernel), ax_in 4 21 (by decide +kernel) (by decide +kernel)⟩, fun h => absurd h (by decide), fun h => absurd h (by decide)⟩
def ax_m58 : ax_MT := (⟨"AskewLetters$Page", "firstUnlike", "([II)I"⟩, prog_7_method_11_code, 5, some .int, 1, 30, 0, 2)
theorem ax_mo58 : ax_mok ax_m58 := ⟨(by decide +kernel), (ax_in 4 42 rfl (by decide +kernel)), (ax_in 1 4 (by decide +kernel) (by decide +kernel)), ⟨(by decide +kernel), (by decide +kernel)⟩, (by decide +kernel), fun _ => ⟨ax_in 4 40 (by decide +kernel) (by decide +kernel), ax_in 4 41 (by decide +kernel) (by decide +kernel)⟩, fun h => absurd h (by decide), fun h => absurd h (by decide)⟩
def ax_m59 : ax_MT := (⟨"AskewLetters$Shop", "<init>", "()V"⟩, prog_8_method_1_code, 1, none, 1, 30, 2, 0)
theorem ax_mo59 : ax_mok ax_m59 := ⟨(by decide +kernel), (ax_in 1 31 rfl (by decide +kernel)), (ax_in 1 3 (by decide +kernel) (by decide +kernel)), ⟨(by decide +kernel), (by decide +kernel)⟩, (by decide +kernel), fun h => absurd h (by decide), fun h => absurd h (by decide), fun _ => ⟨ax_in 1 30 (by decide +kernel) (by decide +kernel), rfl, rfl⟩⟩
def ax_m60 : ax_MT := (⟨"AskewLetters$Shop", "takeFrom", "(LAskewLetters$Shop;)V"⟩, prog_8_method_2_code, 2, none, 1, 30, 0, 1)
theorem ax_mo60 : ax_mok ax_m60 := ⟨(by decide +kernel), (ax_in 4 55 rfl (by decide +kernel)), (ax_in 1 3 (by decide +kernel) (by decide +kernel)), ⟨(by decide +kernel), (by decide +kernel)⟩, (by decide +kernel), fun _ => ⟨ax_in 4 53 (by decide +kernel) (by decide +kernel), ax_in 4 54 (by decide +kernel) (by decide +kernel)⟩, fun h => absurd h (by decide), fun h => absurd h (by decide)⟩
def ax_m61 : ax_MT := (⟨"AskewLetters$Shop", "addMachine", "(I)V"⟩, prog_8_method_3_code, 2, none, 0, 0, 0, 1)
theorem ax_mo61 : ax_mok ax_m61 := ⟨(by decide +kernel), (ax_in 2 127 rfl (by decide +kernel)), (ax_in 1 3 (by decide +kernel) (by decide +kernel)), ⟨(by decide +kernel), (by decide +kernel)⟩, (by decide +kernel), fun _ => ⟨ax_in 2 125 (by decide +kernel) (by decide +kernel), ax_in 2 126 (by decide +kernel) (by decide +kernel)⟩, fun h => absurd h (by decide), fun h => absurd h (by decide)⟩
def ax_m62 : ax_MT := (⟨"AskewLetters$Shop", "addEvent", "(IIIII)V"⟩, prog_8_method_4_code, 7, none, 1, 21, 0, 5)
theorem ax_mo62 : ax_mok ax_m62 := ⟨(by decide +kernel), (ax_in 2 131 rfl (by decide +kernel)), (ax_in 1 3 (by decide +kernel) (by decide +kernel)), ⟨(by decide +kernel), (by decide +kernel)⟩, (by decide +kernel), fun _ => ⟨ax_in 2 129 (by decide +kernel) (by decide +kernel), ax_in 2 130 (by decide +kernel) (by decide +kernel)⟩, fun h => absurd h (by decide), fun h => absurd h (by decide)⟩
def ax_m63 : ax_MT := (⟨"AskewLetters$Shop", "moveUp", "(I)V"⟩, prog_8_method_5_code, 2, none, 0, 0, 0, 1)
theorem ax_mo63 : ax_mok ax_m63 := ⟨(by decide +kernel), (ax_in 2 135 rfl (by decide +kernel)), (ax_in 1 3 (by decide +kernel) (by decide +kernel)), ⟨(by decide +kernel), (by decide +kernel)⟩, (by decide +kernel), fun _ => ⟨ax_in 2 134 (by decide +kernel) (by decide +kernel), ax_in 0 13 (by decide +kernel) (by decide +kernel)⟩, fun h => absurd h (by decide), fun h => absurd h (by decide)⟩
def ax_m64 : ax_MT := (⟨"AskewLetters$Shop", "leanOn", "(III)I"⟩, prog_8_method_6_code, 6, some .int, 1, 30, 0, 3)
theorem ax_mo64 : ax_mok ax_m64 := ⟨(by decide +kernel), (ax_in 2 162 rfl (by decide +kernel)), (ax_in 1 3 (by decide +kernel) (by decide +kernel)), ⟨(by decide +kernel), (by decide +kernel)⟩, (by decide +kernel), fun _ => ⟨ax_in 2 160 (by decide +kernel) (by decide +kernel), ax_in 2 161 (by decide +kernel) (by decide +kernel)⟩, fun h => absurd h (by decide), fun h => absurd h (by decide)⟩
def ax_m65 : ax_MT := (⟨"AskewLetters$Shop", "nicksOn", "(III)I"⟩, prog_8_method_7_code, 6, some .int, 0, 0, 0, 3)
theorem ax_mo65 : ax_mok ax_m65 := ⟨(by decide +kernel), (ax_in 2 176 rfl (by decide +kernel)), (ax_in 1 3 (by decide +kernel) (by decide +kernel)), ⟨(by decide +kernel), (by decide +kernel)⟩, (by decide +kernel), fun _ => ⟨ax_in 2 174 (by decide +kernel) (by decide +kernel), ax_in 2 175 (by decide +kernel) (by decide +kernel)⟩, fun h => absurd h (by decide), fun h => absurd h (by decide)⟩
def ax_m66 : ax_MT := (⟨"AskewLetters$Shop", "dirtOn", "(III)I"⟩, prog_8_method_8_code, 5, some .int, 0, 0, 0, 3)
theorem ax_mo66 : ax_mok ax_m66 := ⟨(by decide +kernel), (ax_in 2 184 rfl (by decide +kernel)), (ax_in 1 3 (by decide +kernel) (by decide +kernel)), ⟨(by decide +kernel), (by decide +kernel)⟩, (by decide +kernel), fun _ => ⟨ax_in 2 182 (by decide +kernel) (by decide +kernel), ax_in 2 183 (by decide +kernel) (by decide +kernel)⟩, fun h => absurd h (by decide), fun h => absurd h (by decide)⟩
def ax_m67 : ax_MT := (⟨"AskewLetters$Sittings", "<init>", "()V"⟩, prog_9_method_1_code, 1, none, 1, 30, 2, 0)
theorem ax_mo67 : ax_mok ax_m67 := ⟨(by decide +kernel), (ax_in 2 5 rfl (by decide +kernel)), (ax_in 1 9 (by decide +kernel) (by decide +kernel)), ⟨(by decide +kernel), (by decide +kernel)⟩, (by decide +kernel), fun h => absurd h (by decide), fun h => absurd h (by decide), fun _ => ⟨ax_in 2 4 (by decide +kernel) (by decide +kernel), rfl, rfl⟩⟩
def ax_m68 : ax_MT := (⟨"AskewLetters$Sittings", "find", "(LAskewLetters$Desk;I)V"⟩, prog_9_method_2_code, 7, none, 5, 131, 0, 2)
theorem ax_mo68 : ax_mok ax_m68 := ⟨(by decide +kernel), (ax_in 3 118 rfl (by decide +kernel)), (ax_in 1 9 (by decide +kernel) (by decide +kernel)), ⟨(by decide +kernel), (by decide +kernel)⟩, (by decide +kernel), fun _ => ⟨ax_in 3 116 (by decide +kernel) (by decide +kernel), ax_in 3 117 (by decide +kernel) (by decide +kernel)⟩, fun h => absurd h (by decide), fun h => absurd h (by decide)⟩
def ax_m69 : ax_MT := (⟨"AskewLetters$Sittings", "gained", "(LAskewLetters$Page;)I"⟩, prog_9_method_3_code, 4, some .int, 2, 59, 0, 1)
theorem ax_mo69 : ax_mok ax_m69 := ⟨(by decide +kernel), (ax_in 3 139 rfl (by decide +kernel)), (ax_in 1 9 (by decide +kernel) (by decide +kernel)), ⟨(by decide +kernel), (by decide +kernel)⟩, (by decide +kernel), fun _ => ⟨ax_in 3 137 (by decide +kernel) (by decide +kernel), ax_in 3 138 (by decide +kernel) (by decide +kernel)⟩, fun h => absurd h (by decide), fun h => absurd h (by decide)⟩
def ax_m70 : ax_MT := (⟨"AskewLetters$Sittings", "fill", "(LAskewLetters$Desk;I)V"⟩, prog_9_method_4_code, 5, none, 4, 107, 0, 2)
theorem ax_mo70 : ax_mok ax_m70 := ⟨(by decide +kernel), (ax_in 3 122 rfl (by decide +kernel)), (ax_in 1 9 (by decide +kernel) (by decide +kernel)), ⟨(by decide +kernel), (by decide +kernel)⟩, (by decide +kernel), fun _ => ⟨ax_in 3 121 (by decide +kernel) (by decide +kernel), ax_in 0 21 (by decide +kernel) (by decide +kernel)⟩, fun h => absurd h (by decide), fun h => absurd h (by decide)⟩
def ax_m71 : ax_MT := (⟨"AskewLetters$Sittings", "greatestLike", "(LAskewLetters$Page;II)J"⟩, prog_9_method_5_code, 10, some .long, 1, 30, 0, 3)
theorem ax_mo71 : ax_mok ax_m71 := ⟨(by decide +kernel), (ax_in 3 127 rfl (by decide +kernel)), (ax_in 1 9 (by decide +kernel) (by decide +kernel)), ⟨(by decide +kernel), (by decide +kernel)⟩, (by decide +kernel), fun _ => ⟨ax_in 3 126 (by decide +kernel) (by decide +kernel), ax_in 0 22 (by decide +kernel) (by decide +kernel)⟩, fun h => absurd h (by decide), fun h => absurd h (by decide)⟩
def ax_m72 : ax_MT := (⟨"AskewLetters", "<init>", "()V"⟩, prog_1_method_1_code, 1, none, 3, 70, 2, 0)
theorem ax_mo72 : ax_mok ax_m72 := ⟨(by decide +kernel), (ax_in 1 17 rfl (by decide +kernel)), (ax_in 1 1 (by decide +kernel) (by decide +kernel)), ⟨(by decide +kernel), (by decide +kernel)⟩, (by decide +kernel), fun h => absurd h (by decide), fun h => absurd h (by decide), fun _ => ⟨ax_in 1 16 (by decide +kernel) (by decide +kernel), rfl, rfl⟩⟩
def ax_m73 : ax_MT := (⟨"AskewLetters", "feed", "(IJ)I"⟩, prog_1_method_2_code, 5, some .int, 1, 22, 0, 2)
theorem ax_mo73 : ax_mok ax_m73 := ⟨(by decide +kernel), (ax_in 2 52 rfl (by decide +kernel)), (ax_in 1 1 (by decide +kernel) (by decide +kernel)), ⟨(by decide +kernel), (by decide +kernel)⟩, (by decide +kernel), fun _ => ⟨ax_in 2 50 (by decide +kernel) (by decide +kernel), ax_in 2 51 (by decide +kernel) (by decide +kernel)⟩, fun h => absurd h (by decide), fun h => absurd h (by decide)⟩
def ax_m74 : ax_MT := (⟨"AskewLetters", "book", "()I"⟩, prog_1_method_3_code, 2, some .int, 7, 151, 0, 0)
theorem ax_mo74 : ax_mok ax_m74 := ⟨(by decide +kernel), (ax_in 2 64 rfl (by decide +kernel)), (ax_in 1 1 (by decide +kernel) (by decide +kernel)), ⟨(by decide +kernel), (by decide +kernel)⟩, (by decide +kernel), fun _ => ⟨ax_in 2 62 (by decide +kernel) (by decide +kernel), ax_in 2 63 (by decide +kernel) (by decide +kernel)⟩, fun h => absurd h (by decide), fun h => absurd h (by decide)⟩
def ax_m75 : ax_MT := (⟨"AskewLetters", "lean", "(III)I"⟩, prog_1_method_4_code, 5, some .int, 3, 67, 0, 3)
theorem ax_mo75 : ax_mok ax_m75 := ⟨(by decide +kernel), (ax_in 2 139 rfl (by decide +kernel)), (ax_in 1 1 (by decide +kernel) (by decide +kernel)), ⟨(by decide +kernel), (by decide +kernel)⟩, (by decide +kernel), fun _ => ⟨ax_in 2 137 (by decide +kernel) (by decide +kernel), ax_in 2 138 (by decide +kernel) (by decide +kernel)⟩, fun h => absurd h (by decide), fun h => absurd h (by decide)⟩
def ax_m76 : ax_MT := (⟨"AskewLetters", "nicks", "(III)I"⟩, prog_1_method_5_code, 5, some .int, 3, 67, 0, 3)
theorem ax_mo76 : ax_mok ax_m76 := ⟨(by decide +kernel), (ax_in 2 172 rfl (by decide +kernel)), (ax_in 1 1 (by decide +kernel) (by decide +kernel)), ⟨(by decide +kernel), (by decide +kernel)⟩, (by decide +kernel), fun _ => ⟨ax_in 2 170 (by decide +kernel) (by decide +kernel), ax_in 2 171 (by decide +kernel) (by decide +kernel)⟩, fun h => absurd h (by decide), fun h => absurd h (by decide)⟩
def ax_m77 : ax_MT := (⟨"AskewLetters", "dirt", "(III)I"⟩, prog_1_method_6_code, 5, some .int, 3, 67, 0, 3)
theorem ax_mo77 : ax_mok ax_m77 := ⟨(by decide +kernel), (ax_in 2 180 rfl (by decide +kernel)), (ax_in 1 1 (by decide +kernel) (by decide +kernel)), ⟨(by decide +kernel), (by decide +kernel)⟩, (by decide +kernel), fun _ => ⟨ax_in 2 178 (by decide +kernel) (by decide +kernel), ax_in 2 179 (by decide +kernel) (by decide +kernel)⟩, fun h => absurd h (by decide), fun h => absurd h (by decide)⟩
def ax_m78 : ax_MT := (⟨"AskewLetters", "rate", "(II)I"⟩, prog_1_method_7_code, 5, some .int, 1, 22, 0, 2)
theorem ax_mo78 : ax_mok ax_m78 := ⟨(by decide +kernel), (ax_in 2 188 rfl (by decide +kernel)), (ax_in 1 1 (by decide +kernel) (by decide +kernel)), ⟨(by decide +kernel), (by decide +kernel)⟩, (by decide +kernel), fun _ => ⟨ax_in 2 186 (by decide +kernel) (by decide +kernel), ax_in 2 187 (by decide +kernel) (by decide +kernel)⟩, fun h => absurd h (by decide), fun h => absurd h (by decide)⟩
def ax_m79 : ax_MT := (⟨"AskewLetters", "set", "(II)I"⟩, prog_1_method_8_code, 5, some .int, 1, 22, 0, 2)
theorem ax_mo79 : ax_mok ax_m79 := ⟨(by decide +kernel), (ax_in 2 192 rfl (by decide +kernel)), (ax_in 1 1 (by decide +kernel) (by decide +kernel)), ⟨(by decide +kernel), (by decide +kernel)⟩, (by decide +kernel), fun _ => ⟨ax_in 2 190 (by decide +kernel) (by decide +kernel), ax_in 2 191 (by decide +kernel) (by decide +kernel)⟩, fun h => absurd h (by decide), fun h => absurd h (by decide)⟩
def ax_m80 : ax_MT := (⟨"AskewLetters", "stroke", "(IIIII)I"⟩, prog_1_method_9_code, 6, some .int, 1, 25, 0, 5)
theorem ax_mo80 : ax_mok ax_m80 := ⟨(by decide +kernel), (ax_in 2 200 rfl (by decide +kernel)), (ax_in 1 1 (by decide +kernel) (by decide +kernel)), ⟨(by decide +kernel), (by decide +kernel)⟩, (by decide +kernel), fun _ => ⟨ax_in 2 198 (by decide +kernel) (by decide +kernel), ax_in 2 199 (by decide +kernel) (by decide +kernel)⟩, fun h => absurd h (by decide), fun h => absurd h (by decide)⟩
def ax_m81 : ax_MT := (⟨"AskewLetters", "strokeOf", "(II)I"⟩, prog_1_method_10_code, 3, some .int, 2, 46, 0, 2)
theorem ax_mo81 : ax_mok ax_m81 := ⟨(by decide +kernel), (ax_in 2 208 rfl (by decide +kernel)), (ax_in 1 1 (by decide +kernel) (by decide +kernel)), ⟨(by decide +kernel), (by decide +kernel)⟩, (by decide +kernel), fun _ => ⟨ax_in 2 206 (by decide +kernel) (by decide +kernel), ax_in 2 207 (by decide +kernel) (by decide +kernel)⟩, fun h => absurd h (by decide), fun h => absurd h (by decide)⟩
def ax_m82 : ax_MT := (⟨"AskewLetters", "clear", "()I"⟩, prog_1_method_11_code, 2, some .int, 0, 0, 0, 0)
theorem ax_mo82 : ax_mok ax_m82 := ⟨(by decide +kernel), (ax_in 2 224 rfl (by decide +kernel)), (ax_in 1 1 (by decide +kernel) (by decide +kernel)), ⟨(by decide +kernel), (by decide +kernel)⟩, (by decide +kernel), fun _ => ⟨ax_in 2 222 (by decide +kernel) (by decide +kernel), ax_in 2 223 (by decide +kernel) (by decide +kernel)⟩, fun h => absurd h (by decide), fun h => absurd h (by decide)⟩
def ax_m83 : ax_MT := (⟨"AskewLetters", "factor", "(IIII)I"⟩, prog_1_method_12_code, 6, some .int, 3, 81, 0, 4)
theorem ax_mo83 : ax_mok ax_m83 := ⟨(by decide +kernel), (ax_in 2 228 rfl (by decide +kernel)), (ax_in 1 1 (by decide +kernel) (by decide +kernel)), ⟨(by decide +kernel), (by decide +kernel)⟩, (by decide +kernel), fun _ => ⟨ax_in 2 226 (by decide +kernel) (by decide +kernel), ax_in 2 227 (by decide +kernel) (by decide +kernel)⟩, fun h => absurd h (by decide), fun h => absurd h (by decide)⟩
def ax_m84 : ax_MT := (⟨"AskewLetters", "like", "(II)J"⟩, prog_1_method_13_code, 4, some .long, 6, 156, 0, 2)
theorem ax_mo84 : ax_mok ax_m84 := ⟨(by decide +kernel), (ax_in 3 13 rfl (by decide +kernel)), (ax_in 1 1 (by decide +kernel) (by decide +kernel)), ⟨(by decide +kernel), (by decide +kernel)⟩, (by decide +kernel), fun _ => ⟨ax_in 3 11 (by decide +kernel) (by decide +kernel), ax_in 3 12 (by decide +kernel) (by decide +kernel)⟩, fun h => absurd h (by decide), fun h => absurd h (by decide)⟩
def ax_m85 : ax_MT := (⟨"AskewLetters", "copy", "(II)J"⟩, prog_1_method_14_code, 4, some .long, 6, 156, 0, 2)
theorem ax_mo85 : ax_mok ax_m85 := ⟨(by decide +kernel), (ax_in 3 32 rfl (by decide +kernel)), (ax_in 1 1 (by decide +kernel) (by decide +kernel)), ⟨(by decide +kernel), (by decide +kernel)⟩, (by decide +kernel), fun _ => ⟨ax_in 3 30 (by decide +kernel) (by decide +kernel), ax_in 3 31 (by decide +kernel) (by decide +kernel)⟩, fun h => absurd h (by decide), fun h => absurd h (by decide)⟩
def ax_m86 : ax_MT := (⟨"AskewLetters", "odds", "(III)J"⟩, prog_1_method_15_code, 5, some .long, 6, 158, 0, 3)
theorem ax_mo86 : ax_mok ax_m86 := ⟨(by decide +kernel), (ax_in 3 36 rfl (by decide +kernel)), (ax_in 1 1 (by decide +kernel) (by decide +kernel)), ⟨(by decide +kernel), (by decide +kernel)⟩, (by decide +kernel), fun _ => ⟨ax_in 3 34 (by decide +kernel) (by decide +kernel), ax_in 3 35 (by decide +kernel) (by decide +kernel)⟩, fun h => absurd h (by decide), fun h => absurd h (by decide)⟩
def ax_m87 : ax_MT := (⟨"AskewLetters", "which", "(I)I"⟩, prog_1_method_16_code, 3, some .int, 6, 158, 0, 1)
theorem ax_mo87 : ax_mok ax_m87 := ⟨(by decide +kernel), (ax_in 3 58 rfl (by decide +kernel)), (ax_in 1 1 (by decide +kernel) (by decide +kernel)), ⟨(by decide +kernel), (by decide +kernel)⟩, (by decide +kernel), fun _ => ⟨ax_in 3 56 (by decide +kernel) (by decide +kernel), ax_in 3 57 (by decide +kernel) (by decide +kernel)⟩, fun h => absurd h (by decide), fun h => absurd h (by decide)⟩
def ax_m88 : ax_MT := (⟨"AskewLetters", "many", "(I)I"⟩, prog_1_method_17_code, 3, some .int, 4, 103, 0, 1)
theorem ax_mo88 : ax_mok ax_m88 := ⟨(by decide +kernel), (ax_in 3 66 rfl (by decide +kernel)), (ax_in 1 1 (by decide +kernel) (by decide +kernel)), ⟨(by decide +kernel), (by decide +kernel)⟩, (by decide +kernel), fun _ => ⟨ax_in 3 64 (by decide +kernel) (by decide +kernel), ax_in 3 65 (by decide +kernel) (by decide +kernel)⟩, fun h => absurd h (by decide), fun h => absurd h (by decide)⟩
def ax_m89 : ax_MT := (⟨"AskewLetters", "when", "(III)J"⟩, prog_1_method_18_code, 5, some .long, 6, 156, 0, 3)
theorem ax_mo89 : ax_mok ax_m89 := ⟨(by decide +kernel), (ax_in 3 78 rfl (by decide +kernel)), (ax_in 1 1 (by decide +kernel) (by decide +kernel)), ⟨(by decide +kernel), (by decide +kernel)⟩, (by decide +kernel), fun _ => ⟨ax_in 3 76 (by decide +kernel) (by decide +kernel), ax_in 3 77 (by decide +kernel) (by decide +kernel)⟩, fun h => absurd h (by decide), fun h => absurd h (by decide)⟩
def ax_m90 : ax_MT := (⟨"AskewLetters", "most", "(II)I"⟩, prog_1_method_19_code, 4, some .int, 6, 156, 0, 2)
theorem ax_mo90 : ax_mok ax_m90 := ⟨(by decide +kernel), (ax_in 3 92 rfl (by decide +kernel)), (ax_in 1 1 (by decide +kernel) (by decide +kernel)), ⟨(by decide +kernel), (by decide +kernel)⟩, (by decide +kernel), fun _ => ⟨ax_in 3 90 (by decide +kernel) (by decide +kernel), ax_in 3 91 (by decide +kernel) (by decide +kernel)⟩, fun h => absurd h (by decide), fun h => absurd h (by decide)⟩
def ax_m91 : ax_MT := (⟨"AskewLetters", "sittings", "(I)I"⟩, prog_1_method_20_code, 3, some .int, 6, 157, 0, 1)
theorem ax_mo91 : ax_mok ax_m91 := ⟨(by decide +kernel), (ax_in 3 110 rfl (by decide +kernel)), (ax_in 1 1 (by decide +kernel) (by decide +kernel)), ⟨(by decide +kernel), (by decide +kernel)⟩, (by decide +kernel), fun _ => ⟨ax_in 3 108 (by decide +kernel) (by decide +kernel), ax_in 3 109 (by decide +kernel) (by decide +kernel)⟩, fun h => absurd h (by decide), fun h => absurd h (by decide)⟩
def ax_m92 : ax_MT := (⟨"AskewLetters", "gain", "(I)I"⟩, prog_1_method_21_code, 3, some .int, 6, 157, 0, 1)
theorem ax_mo92 : ax_mok ax_m92 := ⟨(by decide +kernel), (ax_in 3 135 rfl (by decide +kernel)), (ax_in 1 1 (by decide +kernel) (by decide +kernel)), ⟨(by decide +kernel), (by decide +kernel)⟩, (by decide +kernel), fun _ => ⟨ax_in 3 133 (by decide +kernel) (by decide +kernel), ax_in 3 134 (by decide +kernel) (by decide +kernel)⟩, fun h => absurd h (by decide), fun h => absurd h (by decide)⟩
def ax_m93 : ax_MT := (⟨"AskewLetters", "against", "(II)I"⟩, prog_1_method_22_code, 4, some .int, 5, 133, 0, 2)
theorem ax_mo93 : ax_mok ax_m93 := ⟨(by decide +kernel), (ax_in 3 147 rfl (by decide +kernel)), (ax_in 1 1 (by decide +kernel) (by decide +kernel)), ⟨(by decide +kernel), (by decide +kernel)⟩, (by decide +kernel), fun _ => ⟨ax_in 3 145 (by decide +kernel) (by decide +kernel), ax_in 3 146 (by decide +kernel) (by decide +kernel)⟩, fun h => absurd h (by decide), fun h => absurd h (by decide)⟩
def ax_m94 : ax_MT := (⟨"AskewLetters", "need", "(III)I"⟩, prog_1_method_23_code, 4, some .int, 7, 185, 0, 3)
theorem ax_mo94 : ax_mok ax_m94 := ⟨(by decide +kernel), (ax_in 3 155 rfl (by decide +kernel)), (ax_in 1 1 (by decide +kernel) (by decide +kernel)), ⟨(by decide +kernel), (by decide +kernel)⟩, (by decide +kernel), fun _ => ⟨ax_in 3 153 (by decide +kernel) (by decide +kernel), ax_in 3 154 (by decide +kernel) (by decide +kernel)⟩, fun h => absurd h (by decide), fun h => absurd h (by decide)⟩
def ax_m95 : ax_MT := (⟨"AskewLetters", "hand", "(J)I"⟩, prog_1_method_24_code, 3, some .int, 1, 25, 0, 1)
theorem ax_mo95 : ax_mok ax_m95 := ⟨(by decide +kernel), (ax_in 3 170 rfl (by decide +kernel)), (ax_in 1 1 (by decide +kernel) (by decide +kernel)), ⟨(by decide +kernel), (by decide +kernel)⟩, (by decide +kernel), fun _ => ⟨ax_in 3 168 (by decide +kernel) (by decide +kernel), ax_in 3 169 (by decide +kernel) (by decide +kernel)⟩, fun h => absurd h (by decide), fun h => absurd h (by decide)⟩
def ax_m96 : ax_MT := (⟨"AskewLetters", "handLike", "(I)I"⟩, prog_1_method_25_code, 2, some .int, 2, 54, 0, 1)
theorem ax_mo96 : ax_mok ax_m96 := ⟨(by decide +kernel), (ax_in 3 180 rfl (by decide +kernel)), (ax_in 1 1 (by decide +kernel) (by decide +kernel)), ⟨(by decide +kernel), (by decide +kernel)⟩, (by decide +kernel), fun _ => ⟨ax_in 3 178 (by decide +kernel) (by decide +kernel), ax_in 3 179 (by decide +kernel) (by decide +kernel)⟩, fun h => absurd h (by decide), fun h => absurd h (by decide)⟩
def ax_m97 : ax_MT := (⟨"AskewLetters", "whose", "()I"⟩, prog_1_method_26_code, 1, some .int, 3, 79, 0, 0)
theorem ax_mo97 : ax_mok ax_m97 := ⟨(by decide +kernel), (ax_in 3 198 rfl (by decide +kernel)), (ax_in 1 1 (by decide +kernel) (by decide +kernel)), ⟨(by decide +kernel), (by decide +kernel)⟩, (by decide +kernel), fun _ => ⟨ax_in 3 196 (by decide +kernel) (by decide +kernel), ax_in 3 197 (by decide +kernel) (by decide +kernel)⟩, fun h => absurd h (by decide), fun h => absurd h (by decide)⟩
def ax_m98 : ax_MT := (⟨"AskewLetters", "pale", "()I"⟩, prog_1_method_27_code, 1, some .int, 1, 27, 0, 0)
theorem ax_mo98 : ax_mok ax_m98 := ⟨(by decide +kernel), (ax_in 3 207 rfl (by decide +kernel)), (ax_in 1 1 (by decide +kernel) (by decide +kernel)), ⟨(by decide +kernel), (by decide +kernel)⟩, (by decide +kernel), fun _ => ⟨ax_in 3 205 (by decide +kernel) (by decide +kernel), ax_in 3 206 (by decide +kernel) (by decide +kernel)⟩, fun h => absurd h (by decide), fun h => absurd h (by decide)⟩
def ax_m99 : ax_MT := (⟨"AskewLetters", "type", "(IIIII)I"⟩, prog_1_method_28_code, 6, some .int, 3, 86, 0, 5)
theorem ax_mo99 : ax_mok ax_m99 := ⟨(by decide +kernel), (ax_in 3 215 rfl (by decide +kernel)), (ax_in 1 1 (by decide +kernel) (by decide +kernel)), ⟨(by decide +kernel), (by decide +kernel)⟩, (by decide +kernel), fun _ => ⟨ax_in 3 213 (by decide +kernel) (by decide +kernel), ax_in 3 214 (by decide +kernel) (by decide +kernel)⟩, fun h => absurd h (by decide), fun h => absurd h (by decide)⟩
def ax_m100 : ax_MT := (⟨"AskewLetters", "over", "(I)I"⟩, prog_1_method_29_code, 2, some .int, 2, 46, 0, 1)
theorem ax_mo100 : ax_mok ax_m100 := ⟨(by decide +kernel), (ax_in 3 235 rfl (by decide +kernel)), (ax_in 1 1 (by decide +kernel) (by decide +kernel)), ⟨(by decide +kernel), (by decide +kernel)⟩, (by decide +kernel), fun _ => ⟨ax_in 3 233 (by decide +kernel) (by decide +kernel), ax_in 3 234 (by decide +kernel) (by decide +kernel)⟩, fun h => absurd h (by decide), fun h => absurd h (by decide)⟩
def ax_m101 : ax_MT := (⟨"AskewLetters", "readBack", "(I)I"⟩, prog_1_method_30_code, 2, some .int, 2, 45, 0, 1)
theorem ax_mo101 : ax_mok ax_m101 := ⟨(by decide +kernel), (ax_in 4 10 rfl (by decide +kernel)), (ax_in 1 1 (by decide +kernel) (by decide +kernel)), ⟨(by decide +kernel), (by decide +kernel)⟩, (by decide +kernel), fun _ => ⟨ax_in 4 8 (by decide +kernel) (by decide +kernel), ax_in 4 9 (by decide +kernel) (by decide +kernel)⟩, fun h => absurd h (by decide), fun h => absurd h (by decide)⟩
def ax_m102 : ax_MT := (⟨"AskewLetters", "laid", "()I"⟩, prog_1_method_31_code, 1, some .int, 2, 45, 0, 0)
theorem ax_mo102 : ax_mok ax_m102 := ⟨(by decide +kernel), (ax_in 4 18 rfl (by decide +kernel)), (ax_in 1 1 (by decide +kernel) (by decide +kernel)), ⟨(by decide +kernel), (by decide +kernel)⟩, (by decide +kernel), fun _ => ⟨ax_in 4 16 (by decide +kernel) (by decide +kernel), ax_in 4 17 (by decide +kernel) (by decide +kernel)⟩, fun h => absurd h (by decide), fun h => absurd h (by decide)⟩
def ax_m103 : ax_MT := (⟨"AskewLetters", "known", "(II)I"⟩, prog_1_method_32_code, 3, some .int, 1, 22, 0, 2)
theorem ax_mo103 : ax_mok ax_m103 := ⟨(by decide +kernel), (ax_in 4 26 rfl (by decide +kernel)), (ax_in 1 1 (by decide +kernel) (by decide +kernel)), ⟨(by decide +kernel), (by decide +kernel)⟩, (by decide +kernel), fun _ => ⟨ax_in 4 24 (by decide +kernel) (by decide +kernel), ax_in 4 25 (by decide +kernel) (by decide +kernel)⟩, fun h => absurd h (by decide), fun h => absurd h (by decide)⟩
def ax_m104 : ax_MT := (⟨"AskewLetters", "reader", "(I)I"⟩, prog_1_method_33_code, 3, some .int, 2, 56, 0, 1)
theorem ax_mo104 : ax_mok ax_m104 := ⟨(by decide +kernel), (ax_in 4 30 rfl (by decide +kernel)), (ax_in 1 1 (by decide +kernel) (by decide +kernel)), ⟨(by decide +kernel), (by decide +kernel)⟩, (by decide +kernel), fun _ => ⟨ax_in 4 28 (by decide +kernel) (by decide +kernel), ax_in 4 29 (by decide +kernel) (by decide +kernel)⟩, fun h => absurd h (by decide), fun h => absurd h (by decide)⟩
def ax_m105 : ax_MT := (⟨"AskewLetters", "row", "(I)I"⟩, prog_1_method_34_code, 2, some .int, 1, 22, 0, 1)
theorem ax_mo105 : ax_mok ax_m105 := ⟨(by decide +kernel), (ax_in 4 34 rfl (by decide +kernel)), (ax_in 1 1 (by decide +kernel) (by decide +kernel)), ⟨(by decide +kernel), (by decide +kernel)⟩, (by decide +kernel), fun _ => ⟨ax_in 4 32 (by decide +kernel) (by decide +kernel), ax_in 4 33 (by decide +kernel) (by decide +kernel)⟩, fun h => absurd h (by decide), fun h => absurd h (by decide)⟩
def ax_m106 : ax_MT := (⟨"AskewLetters", "judge", "()I"⟩, prog_1_method_35_code, 2, some .int, 2, 54, 0, 0)
theorem ax_mo106 : ax_mok ax_m106 := ⟨(by decide +kernel), (ax_in 4 38 rfl (by decide +kernel)), (ax_in 1 1 (by decide +kernel) (by decide +kernel)), ⟨(by decide +kernel), (by decide +kernel)⟩, (by decide +kernel), fun _ => ⟨ax_in 4 36 (by decide +kernel) (by decide +kernel), ax_in 4 37 (by decide +kernel) (by decide +kernel)⟩, fun h => absurd h (by decide), fun h => absurd h (by decide)⟩
def ax_m107 : ax_MT := (⟨"AskewLetters", "image", "()I"⟩, prog_1_method_36_code, 1, some .int, 3, 72, 0, 0)
theorem ax_mo107 : ax_mok ax_m107 := ⟨(by decide +kernel), (ax_in 4 47 rfl (by decide +kernel)), (ax_in 1 1 (by decide +kernel) (by decide +kernel)), ⟨(by decide +kernel), (by decide +kernel)⟩, (by decide +kernel), fun _ => ⟨ax_in 4 45 (by decide +kernel) (by decide +kernel), ax_in 4 46 (by decide +kernel) (by decide +kernel)⟩, fun h => absurd h (by decide), fun h => absurd h (by decide)⟩
def ax_m108 : ax_MT := (⟨"AskewLetters", "on", "()I"⟩, prog_1_method_37_code, 1, some .int, 3, 72, 0, 0)
theorem ax_mo108 : ax_mok ax_m108 := ⟨(by decide +kernel), (ax_in 4 73 rfl (by decide +kernel)), (ax_in 1 1 (by decide +kernel) (by decide +kernel)), ⟨(by decide +kernel), (by decide +kernel)⟩, (by decide +kernel), fun _ => ⟨ax_in 4 71 (by decide +kernel) (by decide +kernel), ax_in 4 72 (by decide +kernel) (by decide +kernel)⟩, fun h => absurd h (by decide), fun h => absurd h (by decide)⟩
def ax_m109 : ax_MT := (⟨"AskewLetters", "count", "(I)I"⟩, prog_1_method_38_code, 2, some .int, 1, 24, 0, 1)
theorem ax_mo109 : ax_mok ax_m109 := ⟨(by decide +kernel), (ax_in 4 77 rfl (by decide +kernel)), (ax_in 1 1 (by decide +kernel) (by decide +kernel)), ⟨(by decide +kernel), (by decide +kernel)⟩, (by decide +kernel), fun _ => ⟨ax_in 4 75 (by decide +kernel) (by decide +kernel), ax_in 4 76 (by decide +kernel) (by decide +kernel)⟩, fun h => absurd h (by decide), fun h => absurd h (by decide)⟩
def ax_m110 : ax_MT := (⟨"AskewLetters", "refuse", "(I)I"⟩, prog_1_method_39_code, 3, some .int, 0, 0, 0, 1)
theorem ax_mo110 : ax_mok ax_m110 := ⟨(by decide +kernel), (ax_in 2 56 rfl (by decide +kernel)), (ax_in 1 1 (by decide +kernel) (by decide +kernel)), ⟨(by decide +kernel), (by decide +kernel)⟩, (by decide +kernel), fun _ => ⟨ax_in 2 55 (by decide +kernel) (by decide +kernel), ax_in 0 0 (by decide +kernel) (by decide +kernel)⟩, fun h => absurd h (by decide), fun h => absurd h (by decide)⟩
def ax_m111 : ax_MT := (⟨"AskewLetters", "isMachine", "(I)Z"⟩, prog_1_method_40_code, 2, some .boolean, 0, 0, 0, 1)
theorem ax_mo111 : ax_mok ax_m111 := ⟨(by decide +kernel), (ax_in 2 154 rfl (by decide +kernel)), (ax_in 1 1 (by decide +kernel) (by decide +kernel)), ⟨(by decide +kernel), (by decide +kernel)⟩, (by decide +kernel), fun _ => ⟨ax_in 2 153 (by decide +kernel) (by decide +kernel), ax_in 0 16 (by decide +kernel) (by decide +kernel)⟩, fun h => absurd h (by decide), fun h => absurd h (by decide)⟩
def ax_m112 : ax_MT := (⟨"AskewLetters", "isSign", "(I)Z"⟩, prog_1_method_41_code, 1, some .boolean, 0, 0, 1, 1)
theorem ax_mo112 : ax_mok ax_m112 := ⟨(by decide +kernel), (ax_in 2 146 rfl (by decide +kernel)), (ax_in 1 1 (by decide +kernel) (by decide +kernel)), ⟨(by decide +kernel), (by decide +kernel)⟩, (by decide +kernel), fun h => absurd h (by decide), fun _ => ax_in 2 145 (by decide +kernel) (by decide +kernel), fun h => absurd h (by decide)⟩
def ax_m113 : ax_MT := (⟨"AskewLetters", "isStroke", "(I)Z"⟩, prog_1_method_42_code, 2, some .boolean, 0, 0, 0, 1)
theorem ax_mo113 : ax_mok ax_m113 := ⟨(by decide +kernel), (ax_in 2 212 rfl (by decide +kernel)), (ax_in 1 1 (by decide +kernel) (by decide +kernel)), ⟨(by decide +kernel), (by decide +kernel)⟩, (by decide +kernel), fun _ => ⟨ax_in 2 211 (by decide +kernel) (by decide +kernel), ax_in 0 17 (by decide +kernel) (by decide +kernel)⟩, fun h => absurd h (by decide), fun h => absurd h (by decide)⟩
def ax_m114 : ax_MT := (⟨"AskewLetters", "isHand", "(I)Z"⟩, prog_1_method_43_code, 2, some .boolean, 0, 0, 0, 1)
theorem ax_mo114 : ax_mok ax_m114 := ⟨(by decide +kernel), (ax_in 3 184 rfl (by decide +kernel)), (ax_in 1 1 (by decide +kernel) (by decide +kernel)), ⟨(by decide +kernel), (by decide +kernel)⟩, (by decide +kernel), fun _ => ⟨ax_in 3 183 (by decide +kernel) (by decide +kernel), ax_in 0 24 (by decide +kernel) (by decide +kernel)⟩, fun h => absurd h (by decide), fun h => absurd h (by decide)⟩
def ax_m115 : ax_MT := (⟨"AskewLetters", "isPlace", "(I)Z"⟩, prog_1_method_44_code, 2, some .boolean, 0, 0, 0, 1)
theorem ax_mo115 : ax_mok ax_m115 := ⟨(by decide +kernel), (ax_in 3 239 rfl (by decide +kernel)), (ax_in 1 1 (by decide +kernel) (by decide +kernel)), ⟨(by decide +kernel), (by decide +kernel)⟩, (by decide +kernel), fun _ => ⟨ax_in 3 238 (by decide +kernel) (by decide +kernel), ax_in 0 25 (by decide +kernel) (by decide +kernel)⟩, fun h => absurd h (by decide), fun h => absurd h (by decide)⟩
def ax_m116 : ax_MT := (⟨"AskewLetters", "isPart", "(I)Z"⟩, prog_1_method_45_code, 1, some .boolean, 0, 0, 1, 1)
theorem ax_mo116 : ax_mok ax_m116 := ⟨(by decide +kernel), (ax_in 3 39 rfl (by decide +kernel)), (ax_in 1 1 (by decide +kernel) (by decide +kernel)), ⟨(by decide +kernel), (by decide +kernel)⟩, (by decide +kernel), fun h => absurd h (by decide), fun _ => ax_in 3 38 (by decide +kernel) (by decide +kernel), fun h => absurd h (by decide)⟩
def ax_m117 : ax_MT := (⟨"AskewLetters", "rangeFault", "(III)I"⟩, prog_1_method_46_code, 3, some .int, 0, 0, 1, 3)
theorem ax_mo117 : ax_mok ax_m117 := ⟨(by decide +kernel), (ax_in 2 157 rfl (by decide +kernel)), (ax_in 1 1 (by decide +kernel) (by decide +kernel)), ⟨(by decide +kernel), (by decide +kernel)⟩, (by decide +kernel), fun h => absurd h (by decide), fun _ => ax_in 2 156 (by decide +kernel) (by decide +kernel), fun h => absurd h (by decide)⟩
def ax_m118 : ax_MT := (⟨"AskewLetters", "machineDayFault", "(II)I"⟩, prog_1_method_47_code, 3, some .int, 1, 22, 0, 2)
theorem ax_mo118 : ax_mok ax_m118 := ⟨(by decide +kernel), (ax_in 2 150 rfl (by decide +kernel)), (ax_in 1 1 (by decide +kernel) (by decide +kernel)), ⟨(by decide +kernel), (by decide +kernel)⟩, (by decide +kernel), fun _ => ⟨ax_in 2 149 (by decide +kernel) (by decide +kernel), ax_in 0 15 (by decide +kernel) (by decide +kernel)⟩, fun h => absurd h (by decide), fun h => absurd h (by decide)⟩
def ax_m119 : ax_MT := (⟨"AskewLetters", "barFault", "(III)I"⟩, prog_1_method_48_code, 4, some .int, 2, 44, 0, 3)
theorem ax_mo119 : ax_mok ax_m119 := ⟨(by decide +kernel), (ax_in 2 143 rfl (by decide +kernel)), (ax_in 1 1 (by decide +kernel) (by decide +kernel)), ⟨(by decide +kernel), (by decide +kernel)⟩, (by decide +kernel), fun _ => ⟨ax_in 2 142 (by decide +kernel) (by decide +kernel), ax_in 0 14 (by decide +kernel) (by decide +kernel)⟩, fun h => absurd h (by decide), fun h => absurd h (by decide)⟩
def ax_m120 : ax_MT := (⟨"AskewLetters", "sittingsFault", "(I)I"⟩, prog_1_method_49_code, 2, some .int, 1, 21, 0, 1)
theorem ax_mo120 : ax_mok ax_m120 := ⟨(by decide +kernel), (ax_in 3 114 rfl (by decide +kernel)), (ax_in 1 1 (by decide +kernel) (by decide +kernel)), ⟨(by decide +kernel), (by decide +kernel)⟩, (by decide +kernel), fun _ => ⟨ax_in 3 113 (by decide +kernel) (by decide +kernel), ax_in 0 20 (by decide +kernel) (by decide +kernel)⟩, fun h => absurd h (by decide), fun h => absurd h (by decide)⟩
def ax_m121 : ax_MT := (⟨"AskewLetters", "digitsOf", "(I)I"⟩, prog_1_method_50_code, 3, some .int, 0, 0, 1, 1)
theorem ax_mo121 : ax_mok ax_m121 := ⟨(by decide +kernel), (ax_in 3 218 rfl (by decide +kernel)), (ax_in 1 1 (by decide +kernel) (by decide +kernel)), ⟨(by decide +kernel), (by decide +kernel)⟩, (by decide +kernel), fun h => absurd h (by decide), fun _ => ax_in 3 217 (by decide +kernel) (by decide +kernel), fun h => absurd h (by decide)⟩
def ax_m122 : ax_MT := (⟨"AskewLetters", "leastTerms", "(JJI)J"⟩, prog_1_method_51_code, 7, some .long, 1, 30, 1, 3)
theorem ax_mo122 : ax_mok ax_m122 := ⟨(by decide +kernel), (ax_in 3 48 rfl (by decide +kernel)), (ax_in 1 1 (by decide +kernel) (by decide +kernel)), ⟨(by decide +kernel), (by decide +kernel)⟩, (by decide +kernel), fun h => absurd h (by decide), fun _ => ax_in 3 47 (by decide +kernel) (by decide +kernel), fun h => absurd h (by decide)⟩
def ax_m123 : ax_MT := (⟨"AskewLetters", "commonDivisor", "(JJ)J"⟩, prog_1_method_52_code, 11, some .long, 0, 0, 1, 2)
theorem ax_mo123 : ax_mok ax_m123 := ⟨(by decide +kernel), (ax_in 3 54 rfl (by decide +kernel)), (ax_in 1 1 (by decide +kernel) (by decide +kernel)), ⟨(by decide +kernel), (by decide +kernel)⟩, (by decide +kernel), fun h => absurd h (by decide), fun _ => ax_in 3 53 (by decide +kernel) (by decide +kernel), fun h => absurd h (by decide)⟩
def ax_m124 : ax_MT := (⟨"AskewLettersModel", "<init>", "()V"⟩, prog_11_method_1_code, 2, none, 1, 30, 2, 0)
theorem ax_mo124 : ax_mok ax_m124 := ⟨(by decide +kernel), (ax_in 4 83 rfl (by decide +kernel)), (ax_in 1 10 (by decide +kernel) (by decide +kernel)), ⟨(by decide +kernel), (by decide +kernel)⟩, (by decide +kernel), fun h => absurd h (by decide), fun h => absurd h (by decide), fun _ => ⟨ax_in 4 82 (by decide +kernel) (by decide +kernel), rfl, rfl⟩⟩
def ax_m125 : ax_MT := (⟨"AskewLettersModel", "no", "(I)I"⟩, prog_11_method_2_code, 2, some .int, 0, 0, 0, 1)
theorem ax_mo125 : ax_mok ax_m125 := ⟨(by decide +kernel), (ax_in 4 234 rfl (by decide +kernel)), (ax_in 1 10 (by decide +kernel) (by decide +kernel)), ⟨(by decide +kernel), (by decide +kernel)⟩, (by decide +kernel), fun _ => ⟨ax_in 4 233 (by decide +kernel) (by decide +kernel), ax_in 0 26 (by decide +kernel) (by decide +kernel)⟩, fun h => absurd h (by decide), fun h => absurd h (by decide)⟩
def ax_m126 : ax_MT := (⟨"AskewLettersModel", "lower", "(I)I"⟩, prog_11_method_3_code, 2, some .int, 0, 0, 0, 1)
theorem ax_mo126 : ax_mok ax_m126 := ⟨(by decide +kernel), (ax_in 5 49 rfl (by decide +kernel)), (ax_in 1 10 (by decide +kernel) (by decide +kernel)), ⟨(by decide +kernel), (by decide +kernel)⟩, (by decide +kernel), fun _ => ⟨ax_in 5 48 (by decide +kernel) (by decide +kernel), ax_in 0 36 (by decide +kernel) (by decide +kernel)⟩, fun h => absurd h (by decide), fun h => absurd h (by decide)⟩
def ax_m127 : ax_MT := (⟨"AskewLettersModel", "noLong", "(I)J"⟩, prog_11_method_4_code, 2, some .long, 0, 0, 0, 1)
theorem ax_mo127 : ax_mok ax_m127 := ⟨(by decide +kernel), (ax_in 5 132 rfl (by decide +kernel)), (ax_in 1 10 (by decide +kernel) (by decide +kernel)), ⟨(by decide +kernel), (by decide +kernel)⟩, (by decide +kernel), fun _ => ⟨ax_in 5 131 (by decide +kernel) (by decide +kernel), ax_in 0 46 (by decide +kernel) (by decide +kernel)⟩, fun h => absurd h (by decide), fun h => absurd h (by decide)⟩
def ax_m128 : ax_MT := (⟨"AskewLettersModel", "isIn", "(III)Z"⟩, prog_11_method_5_code, 3, some .boolean, 0, 0, 1, 3)
theorem ax_mo128 : ax_mok ax_m128 := ⟨(by decide +kernel), (ax_in 5 14 rfl (by decide +kernel)), (ax_in 1 10 (by decide +kernel) (by decide +kernel)), ⟨(by decide +kernel), (by decide +kernel)⟩, (by decide +kernel), fun h => absurd h (by decide), fun _ => ax_in 5 13 (by decide +kernel) (by decide +kernel), fun h => absurd h (by decide)⟩
def ax_m129 : ax_MT := (⟨"AskewLettersModel", "bound", "(III)I"⟩, prog_11_method_6_code, 3, some .int, 0, 0, 1, 3)
theorem ax_mo129 : ax_mok ax_m129 := ⟨(by decide +kernel), (ax_in 4 230 rfl (by decide +kernel)), (ax_in 1 10 (by decide +kernel) (by decide +kernel)), ⟨(by decide +kernel), (by decide +kernel)⟩, (by decide +kernel), fun h => absurd h (by decide), fun _ => ax_in 4 229 (by decide +kernel) (by decide +kernel), fun h => absurd h (by decide)⟩
def ax_m130 : ax_MT := (⟨"AskewLettersModel", "feed", "(IJ)I"⟩, prog_11_method_7_code, 6, some .int, 1, 22, 0, 2)
theorem ax_mo130 : ax_mok ax_m130 := ⟨(by decide +kernel), (ax_in 4 227 rfl (by decide +kernel)), (ax_in 1 10 (by decide +kernel) (by decide +kernel)), ⟨(by decide +kernel), (by decide +kernel)⟩, (by decide +kernel), fun _ => ⟨ax_in 4 225 (by decide +kernel) (by decide +kernel), ax_in 4 226 (by decide +kernel) (by decide +kernel)⟩, fun h => absurd h (by decide), fun h => absurd h (by decide)⟩
def ax_m131 : ax_MT := (⟨"AskewLettersModel", "sign", "()I"⟩, prog_11_method_8_code, 1, some .int, 0, 0, 0, 0)
theorem ax_mo131 : ax_mok ax_m131 := ⟨(by decide +kernel), (ax_in 5 7 rfl (by decide +kernel)), (ax_in 1 10 (by decide +kernel) (by decide +kernel)), ⟨(by decide +kernel), (by decide +kernel)⟩, (by decide +kernel), fun _ => ⟨ax_in 5 6 (by decide +kernel) (by decide +kernel), ax_in 0 28 (by decide +kernel) (by decide +kernel)⟩, fun h => absurd h (by decide), fun h => absurd h (by decide)⟩
def ax_m132 : ax_MT := (⟨"AskewLettersModel", "number", "(I)I"⟩, prog_11_method_9_code, 4, some .int, 1, 22, 0, 1)
theorem ax_mo132 : ax_mok ax_m132 := ⟨(by decide +kernel), (ax_in 5 11 rfl (by decide +kernel)), (ax_in 1 10 (by decide +kernel) (by decide +kernel)), ⟨(by decide +kernel), (by decide +kernel)⟩, (by decide +kernel), fun _ => ⟨ax_in 5 10 (by decide +kernel) (by decide +kernel), ax_in 0 29 (by decide +kernel) (by decide +kernel)⟩, fun h => absurd h (by decide), fun h => absurd h (by decide)⟩
def ax_m133 : ax_MT := (⟨"AskewLettersModel", "takes", "(I)Z"⟩, prog_11_method_10_code, 2, some .boolean, 1, 20, 0, 1)
theorem ax_mo133 : ax_mok ax_m133 := ⟨(by decide +kernel), (ax_in 5 18 rfl (by decide +kernel)), (ax_in 1 10 (by decide +kernel) (by decide +kernel)), ⟨(by decide +kernel), (by decide +kernel)⟩, (by decide +kernel), fun _ => ⟨ax_in 5 17 (by decide +kernel) (by decide +kernel), ax_in 0 30 (by decide +kernel) (by decide +kernel)⟩, fun h => absurd h (by decide), fun h => absurd h (by decide)⟩
def ax_m134 : ax_MT := (⟨"AskewLettersModel", "leans", "()Z"⟩, prog_11_method_11_code, 3, some .boolean, 2, 45, 0, 0)
theorem ax_mo134 : ax_mok ax_m134 := ⟨(by decide +kernel), (ax_in 5 22 rfl (by decide +kernel)), (ax_in 1 10 (by decide +kernel) (by decide +kernel)), ⟨(by decide +kernel), (by decide +kernel)⟩, (by decide +kernel), fun _ => ⟨ax_in 5 21 (by decide +kernel) (by decide +kernel), ax_in 0 31 (by decide +kernel) (by decide +kernel)⟩, fun h => absurd h (by decide), fun h => absurd h (by decide)⟩
def ax_m135 : ax_MT := (⟨"AskewLettersModel", "statement", "()Z"⟩, prog_11_method_12_code, 3, some .boolean, 3, 67, 0, 0)
theorem ax_mo135 : ax_mok ax_m135 := ⟨(by decide +kernel), (ax_in 5 3 rfl (by decide +kernel)), (ax_in 1 10 (by decide +kernel) (by decide +kernel)), ⟨(by decide +kernel), (by decide +kernel)⟩, (by decide +kernel), fun _ => ⟨ax_in 5 2 (by decide +kernel) (by decide +kernel), ax_in 0 27 (by decide +kernel) (by decide +kernel)⟩, fun h => absurd h (by decide), fun h => absurd h (by decide)⟩
def ax_m136 : ax_MT := (⟨"AskewLettersModel", "comesEvent", "(I)Z"⟩, prog_11_method_13_code, 2, some .boolean, 0, 0, 0, 1)
theorem ax_mo136 : ax_mok ax_m136 := ⟨(by decide +kernel), (ax_in 5 30 rfl (by decide +kernel)), (ax_in 1 10 (by decide +kernel) (by decide +kernel)), ⟨(by decide +kernel), (by decide +kernel)⟩, (by decide +kernel), fun _ => ⟨ax_in 5 29 (by decide +kernel) (by decide +kernel), ax_in 0 33 (by decide +kernel) (by decide +kernel)⟩, fun h => absurd h (by decide), fun h => absurd h (by decide)⟩
def ax_m137 : ax_MT := (⟨"AskewLettersModel", "comes", "(I)Z"⟩, prog_11_method_14_code, 2, some .boolean, 1, 21, 0, 1)
theorem ax_mo137 : ax_mok ax_m137 := ⟨(by decide +kernel), (ax_in 5 26 rfl (by decide +kernel)), (ax_in 1 10 (by decide +kernel) (by decide +kernel)), ⟨(by decide +kernel), (by decide +kernel)⟩, (by decide +kernel), fun _ => ⟨ax_in 5 25 (by decide +kernel) (by decide +kernel), ax_in 0 32 (by decide +kernel) (by decide +kernel)⟩, fun h => absurd h (by decide), fun h => absurd h (by decide)⟩
def ax_m138 : ax_MT := (⟨"AskewLettersModel", "book", "()I"⟩, prog_11_method_15_code, 6, some .int, 4, 89, 0, 0)
theorem ax_mo138 : ax_mok ax_m138 := ⟨(by decide +kernel), (ax_in 4 239 rfl (by decide +kernel)), (ax_in 1 10 (by decide +kernel) (by decide +kernel)), ⟨(by decide +kernel), (by decide +kernel)⟩, (by decide +kernel), fun _ => ⟨ax_in 4 237 (by decide +kernel) (by decide +kernel), ax_in 4 238 (by decide +kernel) (by decide +kernel)⟩, fun h => absurd h (by decide), fun h => absurd h (by decide)⟩
def ax_m139 : ax_MT := (⟨"AskewLettersModel", "isOf", "(IIII)Z"⟩, prog_11_method_16_code, 5, some .boolean, 0, 0, 0, 4)
theorem ax_mo139 : ax_mok ax_m139 := ⟨(by decide +kernel), (ax_in 5 58 rfl (by decide +kernel)), (ax_in 1 10 (by decide +kernel) (by decide +kernel)), ⟨(by decide +kernel), (by decide +kernel)⟩, (by decide +kernel), fun _ => ⟨ax_in 5 57 (by decide +kernel) (by decide +kernel), ax_in 0 38 (by decide +kernel) (by decide +kernel)⟩, fun h => absurd h (by decide), fun h => absurd h (by decide)⟩
def ax_m140 : ax_MT := (⟨"AskewLettersModel", "isAhead", "(II)Z"⟩, prog_11_method_17_code, 3, some .boolean, 0, 0, 0, 2)
theorem ax_mo140 : ax_mok ax_m140 := ⟨(by decide +kernel), (ax_in 5 62 rfl (by decide +kernel)), (ax_in 1 10 (by decide +kernel) (by decide +kernel)), ⟨(by decide +kernel), (by decide +kernel)⟩, (by decide +kernel), fun _ => ⟨ax_in 5 61 (by decide +kernel) (by decide +kernel), ax_in 0 39 (by decide +kernel) (by decide +kernel)⟩, fun h => absurd h (by decide), fun h => absurd h (by decide)⟩
def ax_m141 : ax_MT := (⟨"AskewLettersModel", "leanOf", "(III)I"⟩, prog_11_method_18_code, 7, some .int, 1, 24, 0, 3)
theorem ax_mo141 : ax_mok ax_m141 := ⟨(by decide +kernel), (ax_in 5 54 rfl (by decide +kernel)), (ax_in 1 10 (by decide +kernel) (by decide +kernel)), ⟨(by decide +kernel), (by decide +kernel)⟩, (by decide +kernel), fun _ => ⟨ax_in 5 53 (by decide +kernel) (by decide +kernel), ax_in 0 37 (by decide +kernel) (by decide +kernel)⟩, fun h => absurd h (by decide), fun h => absurd h (by decide)⟩
def ax_m142 : ax_MT := (⟨"AskewLettersModel", "nicksOf", "(III)I"⟩, prog_11_method_19_code, 6, some .int, 1, 24, 0, 3)
theorem ax_mo142 : ax_mok ax_m142 := ⟨(by decide +kernel), (ax_in 5 70 rfl (by decide +kernel)), (ax_in 1 10 (by decide +kernel) (by decide +kernel)), ⟨(by decide +kernel), (by decide +kernel)⟩, (by decide +kernel), fun _ => ⟨ax_in 5 69 (by decide +kernel) (by decide +kernel), ax_in 0 40 (by decide +kernel) (by decide +kernel)⟩, fun h => absurd h (by decide), fun h => absurd h (by decide)⟩
def ax_m143 : ax_MT := (⟨"AskewLettersModel", "dirtOf", "(III)I"⟩, prog_11_method_20_code, 4, some .int, 0, 0, 0, 3)
theorem ax_mo143 : ax_mok ax_m143 := ⟨(by decide +kernel), (ax_in 5 78 rfl (by decide +kernel)), (ax_in 1 10 (by decide +kernel) (by decide +kernel)), ⟨(by decide +kernel), (by decide +kernel)⟩, (by decide +kernel), fun _ => ⟨ax_in 5 77 (by decide +kernel) (by decide +kernel), ax_in 0 41 (by decide +kernel) (by decide +kernel)⟩, fun h => absurd h (by decide), fun h => absurd h (by decide)⟩
def ax_m144 : ax_MT := (⟨"AskewLettersModel", "isMachine", "(I)Z"⟩, prog_11_method_21_code, 2, some .boolean, 0, 0, 0, 1)
theorem ax_mo144 : ax_mok ax_m144 := ⟨(by decide +kernel), (ax_in 5 42 rfl (by decide +kernel)), (ax_in 1 10 (by decide +kernel) (by decide +kernel)), ⟨(by decide +kernel), (by decide +kernel)⟩, (by decide +kernel), fun _ => ⟨ax_in 5 41 (by decide +kernel) (by decide +kernel), ax_in 0 35 (by decide +kernel) (by decide +kernel)⟩, fun h => absurd h (by decide), fun h => absurd h (by decide)⟩
def ax_m145 : ax_MT := (⟨"AskewLettersModel", "isSign", "(I)Z"⟩, prog_11_method_22_code, 1, some .boolean, 0, 0, 1, 1)
theorem ax_mo145 : ax_mok ax_m145 := ⟨(by decide +kernel), (ax_in 5 45 rfl (by decide +kernel)), (ax_in 1 10 (by decide +kernel) (by decide +kernel)), ⟨(by decide +kernel), (by decide +kernel)⟩, (by decide +kernel), fun h => absurd h (by decide), fun _ => ax_in 5 44 (by decide +kernel) (by decide +kernel), fun h => absurd h (by decide)⟩
def ax_m146 : ax_MT := (⟨"AskewLettersModel", "notSign", "(III)I"⟩, prog_11_method_23_code, 4, some .int, 1, 22, 0, 3)
theorem ax_mo146 : ax_mok ax_m146 := ⟨(by decide +kernel), (ax_in 5 38 rfl (by decide +kernel)), (ax_in 1 10 (by decide +kernel) (by decide +kernel)), ⟨(by decide +kernel), (by decide +kernel)⟩, (by decide +kernel), fun _ => ⟨ax_in 5 37 (by decide +kernel) (by decide +kernel), ax_in 0 34 (by decide +kernel) (by decide +kernel)⟩, fun h => absurd h (by decide), fun h => absurd h (by decide)⟩
def ax_m147 : ax_MT := (⟨"AskewLettersModel", "lean", "(III)I"⟩, prog_11_method_24_code, 5, some .int, 2, 50, 0, 3)
theorem ax_mo147 : ax_mok ax_m147 := ⟨(by decide +kernel), (ax_in 5 34 rfl (by decide +kernel)), (ax_in 1 10 (by decide +kernel) (by decide +kernel)), ⟨(by decide +kernel), (by decide +kernel)⟩, (by decide +kernel), fun _ => ⟨ax_in 5 32 (by decide +kernel) (by decide +kernel), ax_in 5 33 (by decide +kernel) (by decide +kernel)⟩, fun h => absurd h (by decide), fun h => absurd h (by decide)⟩
def ax_m148 : ax_MT := (⟨"AskewLettersModel", "nicks", "(III)I"⟩, prog_11_method_25_code, 5, some .int, 2, 49, 0, 3)
theorem ax_mo148 : ax_mok ax_m148 := ⟨(by decide +kernel), (ax_in 5 66 rfl (by decide +kernel)), (ax_in 1 10 (by decide +kernel) (by decide +kernel)), ⟨(by decide +kernel), (by decide +kernel)⟩, (by decide +kernel), fun _ => ⟨ax_in 5 64 (by decide +kernel) (by decide +kernel), ax_in 5 65 (by decide +kernel) (by decide +kernel)⟩, fun h => absurd h (by decide), fun h => absurd h (by decide)⟩
def ax_m149 : ax_MT := (⟨"AskewLettersModel", "dirt", "(III)I"⟩, prog_11_method_26_code, 5, some .int, 2, 45, 0, 3)
theorem ax_mo149 : ax_mok ax_m149 := ⟨(by decide +kernel), (ax_in 5 74 rfl (by decide +kernel)), (ax_in 1 10 (by decide +kernel) (by decide +kernel)), ⟨(by decide +kernel), (by decide +kernel)⟩, (by decide +kernel), fun _ => ⟨ax_in 5 72 (by decide +kernel) (by decide +kernel), ax_in 5 73 (by decide +kernel) (by decide +kernel)⟩, fun h => absurd h (by decide), fun h => absurd h (by decide)⟩
def ax_m150 : ax_MT := (⟨"AskewLettersModel", "rate", "(II)I"⟩, prog_11_method_27_code, 5, some .int, 1, 22, 0, 2)
theorem ax_mo150 : ax_mok ax_m150 := ⟨(by decide +kernel), (ax_in 5 82 rfl (by decide +kernel)), (ax_in 1 10 (by decide +kernel) (by decide +kernel)), ⟨(by decide +kernel), (by decide +kernel)⟩, (by decide +kernel), fun _ => ⟨ax_in 5 80 (by decide +kernel) (by decide +kernel), ax_in 5 81 (by decide +kernel) (by decide +kernel)⟩, fun h => absurd h (by decide), fun h => absurd h (by decide)⟩
def ax_m151 : ax_MT := (⟨"AskewLettersModel", "set", "(II)I"⟩, prog_11_method_28_code, 5, some .int, 1, 22, 0, 2)
theorem ax_mo151 : ax_mok ax_m151 := ⟨(by decide +kernel), (ax_in 5 86 rfl (by decide +kernel)), (ax_in 1 10 (by decide +kernel) (by decide +kernel)), ⟨(by decide +kernel), (by decide +kernel)⟩, (by decide +kernel), fun _ => ⟨ax_in 5 84 (by decide +kernel) (by decide +kernel), ax_in 5 85 (by decide +kernel) (by decide +kernel)⟩, fun h => absurd h (by decide), fun h => absurd h (by decide)⟩
def ax_m152 : ax_MT := (⟨"AskewLettersModel", "strikes", "(IIIII)V"⟩, prog_11_method_29_code, 6, none, 0, 0, 0, 5)
theorem ax_mo152 : ax_mok ax_m152 := ⟨(by decide +kernel), (ax_in 5 94 rfl (by decide +kernel)), (ax_in 1 10 (by decide +kernel) (by decide +kernel)), ⟨(by decide +kernel), (by decide +kernel)⟩, (by decide +kernel), fun _ => ⟨ax_in 5 93 (by decide +kernel) (by decide +kernel), ax_in 0 42 (by decide +kernel) (by decide +kernel)⟩, fun h => absurd h (by decide), fun h => absurd h (by decide)⟩
def ax_m153 : ax_MT := (⟨"AskewLettersModel", "stroke", "(IIIII)I"⟩, prog_11_method_30_code, 6, some .int, 1, 25, 0, 5)
theorem ax_mo153 : ax_mok ax_m153 := ⟨(by decide +kernel), (ax_in 5 90 rfl (by decide +kernel)), (ax_in 1 10 (by decide +kernel) (by decide +kernel)), ⟨(by decide +kernel), (by decide +kernel)⟩, (by decide +kernel), fun _ => ⟨ax_in 5 88 (by decide +kernel) (by decide +kernel), ax_in 5 89 (by decide +kernel) (by decide +kernel)⟩, fun h => absurd h (by decide), fun h => absurd h (by decide)⟩
def ax_m154 : ax_MT := (⟨"AskewLettersModel", "counts", "(II)Z"⟩, prog_11_method_31_code, 6, some .boolean, 0, 0, 0, 2)
theorem ax_mo154 : ax_mok ax_m154 := ⟨(by decide +kernel), (ax_in 5 102 rfl (by decide +kernel)), (ax_in 1 10 (by decide +kernel) (by decide +kernel)), ⟨(by decide +kernel), (by decide +kernel)⟩, (by decide +kernel), fun _ => ⟨ax_in 5 101 (by decide +kernel) (by decide +kernel), ax_in 0 43 (by decide +kernel) (by decide +kernel)⟩, fun h => absurd h (by decide), fun h => absurd h (by decide)⟩
def ax_m155 : ax_MT := (⟨"AskewLettersModel", "strokeOf", "(II)I"⟩, prog_11_method_32_code, 3, some .int, 1, 25, 0, 2)
theorem ax_mo155 : ax_mok ax_m155 := ⟨(by decide +kernel), (ax_in 5 98 rfl (by decide +kernel)), (ax_in 1 10 (by decide +kernel) (by decide +kernel)), ⟨(by decide +kernel), (by decide +kernel)⟩, (by decide +kernel), fun _ => ⟨ax_in 5 96 (by decide +kernel) (by decide +kernel), ax_in 5 97 (by decide +kernel) (by decide +kernel)⟩, fun h => absurd h (by decide), fun h => absurd h (by decide)⟩
def ax_m156 : ax_MT := (⟨"AskewLettersModel", "clear", "()I"⟩, prog_11_method_33_code, 2, some .int, 0, 0, 0, 0)
theorem ax_mo156 : ax_mok ax_m156 := ⟨(by decide +kernel), (ax_in 5 106 rfl (by decide +kernel)), (ax_in 1 10 (by decide +kernel) (by decide +kernel)), ⟨(by decide +kernel), (by decide +kernel)⟩, (by decide +kernel), fun _ => ⟨ax_in 5 104 (by decide +kernel) (by decide +kernel), ax_in 5 105 (by decide +kernel) (by decide +kernel)⟩, fun h => absurd h (by decide), fun h => absurd h (by decide)⟩
def ax_m157 : ax_MT := (⟨"AskewLettersModel", "apart", "(II)I"⟩, prog_11_method_34_code, 2, some .int, 0, 0, 1, 2)
theorem ax_mo157 : ax_mok ax_m157 := ⟨(by decide +kernel), (ax_in 5 117 rfl (by decide +kernel)), (ax_in 1 10 (by decide +kernel) (by decide +kernel)), ⟨(by decide +kernel), (by decide +kernel)⟩, (by decide +kernel), fun h => absurd h (by decide), fun _ => ax_in 5 116 (by decide +kernel) (by decide +kernel), fun h => absurd h (by decide)⟩
def ax_m158 : ax_MT := (⟨"AskewLettersModel", "atLeastOne", "(I)I"⟩, prog_11_method_35_code, 1, some .int, 0, 0, 1, 1)
theorem ax_mo158 : ax_mok ax_m158 := ⟨(by decide +kernel), (ax_in 5 120 rfl (by decide +kernel)), (ax_in 1 10 (by decide +kernel) (by decide +kernel)), ⟨(by decide +kernel), (by decide +kernel)⟩, (by decide +kernel), fun h => absurd h (by decide), fun _ => ax_in 5 119 (by decide +kernel) (by decide +kernel), fun h => absurd h (by decide)⟩
def ax_m159 : ax_MT := (⟨"AskewLettersModel", "factorOf", "(IIII)I"⟩, prog_11_method_36_code, 7, some .int, 2, 50, 0, 4)
theorem ax_mo159 : ax_mok ax_m159 := ⟨(by decide +kernel), (ax_in 5 114 rfl (by decide +kernel)), (ax_in 1 10 (by decide +kernel) (by decide +kernel)), ⟨(by decide +kernel), (by decide +kernel)⟩, (by decide +kernel), fun _ => ⟨ax_in 5 113 (by decide +kernel) (by decide +kernel), ax_in 0 44 (by decide +kernel) (by decide +kernel)⟩, fun h => absurd h (by decide), fun h => absurd h (by decide)⟩
def ax_m160 : ax_MT := (⟨"AskewLettersModel", "factor", "(IIII)I"⟩, prog_11_method_37_code, 6, some .int, 3, 76, 0, 4)
theorem ax_mo160 : ax_mok ax_m160 := ⟨(by decide +kernel), (ax_in 5 110 rfl (by decide +kernel)), (ax_in 1 10 (by decide +kernel) (by decide +kernel)), ⟨(by decide +kernel), (by decide +kernel)⟩, (by decide +kernel), fun _ => ⟨ax_in 5 108 (by decide +kernel) (by decide +kernel), ax_in 5 109 (by decide +kernel) (by decide +kernel)⟩, fun h => absurd h (by decide), fun h => absurd h (by decide)⟩
def ax_m161 : ax_MT := (⟨"AskewLettersModel", "product", "(IIII)I"⟩, prog_11_method_38_code, 7, some .int, 3, 76, 0, 4)
theorem ax_mo161 : ax_mok ax_m161 := ⟨(by decide +kernel), (ax_in 5 145 rfl (by decide +kernel)), (ax_in 1 10 (by decide +kernel) (by decide +kernel)), ⟨(by decide +kernel), (by decide +kernel)⟩, (by decide +kernel), fun _ => ⟨ax_in 5 144 (by decide +kernel) (by decide +kernel), ax_in 0 49 (by decide +kernel) (by decide +kernel)⟩, fun h => absurd h (by decide), fun h => absurd h (by decide)⟩
def ax_m162 : ax_MT := (⟨"AskewLettersModel", "likeOf", "(IIIII)J"⟩, prog_11_method_39_code, 9, some .long, 4, 102, 0, 5)
theorem ax_mo162 : ax_mok ax_m162 := ⟨(by decide +kernel), (ax_in 5 141 rfl (by decide +kernel)), (ax_in 1 10 (by decide +kernel) (by decide +kernel)), ⟨(by decide +kernel), (by decide +kernel)⟩, (by decide +kernel), fun _ => ⟨ax_in 5 140 (by decide +kernel) (by decide +kernel), ax_in 0 48 (by decide +kernel) (by decide +kernel)⟩, fun h => absurd h (by decide), fun h => absurd h (by decide)⟩
def ax_m163 : ax_MT := (⟨"AskewLettersModel", "pageLike", "(II)J"⟩, prog_11_method_40_code, 3, some .long, 5, 130, 0, 2)
theorem ax_mo163 : ax_mok ax_m163 := ⟨(by decide +kernel), (ax_in 5 137 rfl (by decide +kernel)), (ax_in 1 10 (by decide +kernel) (by decide +kernel)), ⟨(by decide +kernel), (by decide +kernel)⟩, (by decide +kernel), fun _ => ⟨ax_in 5 136 (by decide +kernel) (by decide +kernel), ax_in 0 47 (by decide +kernel) (by decide +kernel)⟩, fun h => absurd h (by decide), fun h => absurd h (by decide)⟩
def ax_m164 : ax_MT := (⟨"AskewLettersModel", "notDay", "(II)I"⟩, prog_11_method_41_code, 3, some .int, 1, 22, 0, 2)
theorem ax_mo164 : ax_mok ax_m164 := ⟨(by decide +kernel), (ax_in 5 128 rfl (by decide +kernel)), (ax_in 1 10 (by decide +kernel) (by decide +kernel)), ⟨(by decide +kernel), (by decide +kernel)⟩, (by decide +kernel), fun _ => ⟨ax_in 5 127 (by decide +kernel) (by decide +kernel), ax_in 0 45 (by decide +kernel) (by decide +kernel)⟩, fun h => absurd h (by decide), fun h => absurd h (by decide)⟩
def ax_m165 : ax_MT := (⟨"AskewLettersModel", "like", "(II)J"⟩, prog_11_method_42_code, 4, some .long, 6, 152, 0, 2)
theorem ax_mo165 : ax_mok ax_m165 := ⟨(by decide +kernel), (ax_in 5 124 rfl (by decide +kernel)), (ax_in 1 10 (by decide +kernel) (by decide +kernel)), ⟨(by decide +kernel), (by decide +kernel)⟩, (by decide +kernel), fun _ => ⟨ax_in 5 122 (by decide +kernel) (by decide +kernel), ax_in 5 123 (by decide +kernel) (by decide +kernel)⟩, fun h => absurd h (by decide), fun h => absurd h (by decide)⟩
def ax_m166 : ax_MT := (⟨"AskewLettersModel", "copy", "(II)J"⟩, prog_11_method_43_code, 4, some .long, 5, 130, 0, 2)
theorem ax_mo166 : ax_mok ax_m166 := ⟨(by decide +kernel), (ax_in 5 149 rfl (by decide +kernel)), (ax_in 1 10 (by decide +kernel) (by decide +kernel)), ⟨(by decide +kernel), (by decide +kernel)⟩, (by decide +kernel), fun _ => ⟨ax_in 5 147 (by decide +kernel) (by decide +kernel), ax_in 5 148 (by decide +kernel) (by decide +kernel)⟩, fun h => absurd h (by decide), fun h => absurd h (by decide)⟩
def ax_m167 : ax_MT := (⟨"AskewLettersModel", "countOf", "(I)I"⟩, prog_11_method_44_code, 4, some .int, 1, 25, 0, 1)
theorem ax_mo167 : ax_mok ax_m167 := ⟨(by decide +kernel), (ax_in 5 165 rfl (by decide +kernel)), (ax_in 1 10 (by decide +kernel) (by decide +kernel)), ⟨(by decide +kernel), (by decide +kernel)⟩, (by decide +kernel), fun _ => ⟨ax_in 5 164 (by decide +kernel) (by decide +kernel), ax_in 0 52 (by decide +kernel) (by decide +kernel)⟩, fun h => absurd h (by decide), fun h => absurd h (by decide)⟩
def ax_m168 : ax_MT := (⟨"AskewLettersModel", "weighed", "(III)J"⟩, prog_11_method_45_code, 4, some .long, 5, 130, 0, 3)
theorem ax_mo168 : ax_mok ax_m168 := ⟨(by decide +kernel), (ax_in 5 161 rfl (by decide +kernel)), (ax_in 1 10 (by decide +kernel) (by decide +kernel)), ⟨(by decide +kernel), (by decide +kernel)⟩, (by decide +kernel), fun _ => ⟨ax_in 5 160 (by decide +kernel) (by decide +kernel), ax_in 0 51 (by decide +kernel) (by decide +kernel)⟩, fun h => absurd h (by decide), fun h => absurd h (by decide)⟩
def ax_m169 : ax_MT := (⟨"AskewLettersModel", "allWeighed", "(II)J"⟩, prog_11_method_46_code, 6, some .long, 6, 153, 0, 2)
theorem ax_mo169 : ax_mok ax_m169 := ⟨(by decide +kernel), (ax_in 5 157 rfl (by decide +kernel)), (ax_in 1 10 (by decide +kernel) (by decide +kernel)), ⟨(by decide +kernel), (by decide +kernel)⟩, (by decide +kernel), fun _ => ⟨ax_in 5 156 (by decide +kernel) (by decide +kernel), ax_in 0 50 (by decide +kernel) (by decide +kernel)⟩, fun h => absurd h (by decide), fun h => absurd h (by decide)⟩
def ax_m170 : ax_MT := (⟨"AskewLettersModel", "divisor", "(JJ)J"⟩, prog_11_method_47_code, 10, some .long, 0, 0, 1, 2)
theorem ax_mo170 : ax_mok ax_m170 := ⟨(by decide +kernel), (ax_in 5 171 rfl (by decide +kernel)), (ax_in 1 10 (by decide +kernel) (by decide +kernel)), ⟨(by decide +kernel), (by decide +kernel)⟩, (by decide +kernel), fun h => absurd h (by decide), fun _ => ax_in 5 170 (by decide +kernel) (by decide +kernel), fun h => absurd h (by decide)⟩
def ax_m171 : ax_MT := (⟨"AskewLettersModel", "inLeast", "(JJI)J"⟩, prog_11_method_48_code, 5, some .long, 1, 29, 1, 3)
theorem ax_mo171 : ax_mok ax_m171 := ⟨(by decide +kernel), (ax_in 5 168 rfl (by decide +kernel)), (ax_in 1 10 (by decide +kernel) (by decide +kernel)), ⟨(by decide +kernel), (by decide +kernel)⟩, (by decide +kernel), fun h => absurd h (by decide), fun _ => ax_in 5 167 (by decide +kernel) (by decide +kernel), fun h => absurd h (by decide)⟩
def ax_m172 : ax_MT := (⟨"AskewLettersModel", "odds", "(III)J"⟩, prog_11_method_49_code, 7, some .long, 7, 178, 0, 3)
theorem ax_mo172 : ax_mok ax_m172 := ⟨(by decide +kernel), (ax_in 5 153 rfl (by decide +kernel)), (ax_in 1 10 (by decide +kernel) (by decide +kernel)), ⟨(by decide +kernel), (by decide +kernel)⟩, (by decide +kernel), fun _ => ⟨ax_in 5 151 (by decide +kernel) (by decide +kernel), ax_in 5 152 (by decide +kernel) (by decide +kernel)⟩, fun h => absurd h (by decide), fun h => absurd h (by decide)⟩
def ax_m173 : ax_MT := (⟨"AskewLettersModel", "which", "(I)I"⟩, prog_11_method_50_code, 9, some .int, 7, 178, 0, 1)
theorem ax_mo173 : ax_mok ax_m173 := ⟨(by decide +kernel), (ax_in 5 175 rfl (by decide +kernel)), (ax_in 1 10 (by decide +kernel) (by decide +kernel)), ⟨(by decide +kernel), (by decide +kernel)⟩, (by decide +kernel), fun _ => ⟨ax_in 5 173 (by decide +kernel) (by decide +kernel), ax_in 5 174 (by decide +kernel) (by decide +kernel)⟩, fun h => absurd h (by decide), fun h => absurd h (by decide)⟩
def ax_m174 : ax_MT := (⟨"AskewLettersModel", "isFit", "(II)Z"⟩, prog_11_method_51_code, 4, some .boolean, 2, 50, 0, 2)
theorem ax_mo174 : ax_mok ax_m174 := ⟨(by decide +kernel), (ax_in 5 183 rfl (by decide +kernel)), (ax_in 1 10 (by decide +kernel) (by decide +kernel)), ⟨(by decide +kernel), (by decide +kernel)⟩, (by decide +kernel), fun _ => ⟨ax_in 5 182 (by decide +kernel) (by decide +kernel), ax_in 0 53 (by decide +kernel) (by decide +kernel)⟩, fun h => absurd h (by decide), fun h => absurd h (by decide)⟩
def ax_m175 : ax_MT := (⟨"AskewLettersModel", "many", "(I)I"⟩, prog_11_method_52_code, 5, some .int, 3, 73, 0, 1)
theorem ax_mo175 : ax_mok ax_m175 := ⟨(by decide +kernel), (ax_in 5 179 rfl (by decide +kernel)), (ax_in 1 10 (by decide +kernel) (by decide +kernel)), ⟨(by decide +kernel), (by decide +kernel)⟩, (by decide +kernel), fun _ => ⟨ax_in 5 177 (by decide +kernel) (by decide +kernel), ax_in 5 178 (by decide +kernel) (by decide +kernel)⟩, fun h => absurd h (by decide), fun h => absurd h (by decide)⟩
def ax_m176 : ax_MT := (⟨"AskewLettersModel", "when", "(III)J"⟩, prog_11_method_53_code, 8, some .long, 6, 152, 0, 3)
theorem ax_mo176 : ax_mok ax_m176 := ⟨(by decide +kernel), (ax_in 5 187 rfl (by decide +kernel)), (ax_in 1 10 (by decide +kernel) (by decide +kernel)), ⟨(by decide +kernel), (by decide +kernel)⟩, (by decide +kernel), fun _ => ⟨ax_in 5 185 (by decide +kernel) (by decide +kernel), ax_in 5 186 (by decide +kernel) (by decide +kernel)⟩, fun h => absurd h (by decide), fun h => absurd h (by decide)⟩
def ax_m177 : ax_MT := (⟨"AskewLettersModel", "greatest", "(IIII)J"⟩, prog_11_method_54_code, 10, some .long, 5, 130, 0, 4)
theorem ax_mo177 : ax_mok ax_m177 := ⟨(by decide +kernel), (ax_in 5 195 rfl (by decide +kernel)), (ax_in 1 10 (by decide +kernel) (by decide +kernel)), ⟨(by decide +kernel), (by decide +kernel)⟩, (by decide +kernel), fun _ => ⟨ax_in 5 194 (by decide +kernel) (by decide +kernel), ax_in 0 54 (by decide +kernel) (by decide +kernel)⟩, fun h => absurd h (by decide), fun h => absurd h (by decide)⟩
def ax_m178 : ax_MT := (⟨"AskewLettersModel", "most", "(II)I"⟩, prog_11_method_55_code, 10, some .int, 6, 159, 0, 2)
theorem ax_mo178 : ax_mok ax_m178 := ⟨(by decide +kernel), (ax_in 5 191 rfl (by decide +kernel)), (ax_in 1 10 (by decide +kernel) (by decide +kernel)), ⟨(by decide +kernel), (by decide +kernel)⟩, (by decide +kernel), fun _ => ⟨ax_in 5 189 (by decide +kernel) (by decide +kernel), ax_in 5 190 (by decide +kernel) (by decide +kernel)⟩, fun h => absurd h (by decide), fun h => absurd h (by decide)⟩
def ax_m179 : ax_MT := (⟨"AskewLettersModel", "parted", "(I)I"⟩, prog_11_method_56_code, 6, some .int, 6, 159, 0, 1)
theorem ax_mo179 : ax_mok ax_m179 := ⟨(by decide +kernel), (ax_in 5 208 rfl (by decide +kernel)), (ax_in 1 10 (by decide +kernel) (by decide +kernel)), ⟨(by decide +kernel), (by decide +kernel)⟩, (by decide +kernel), fun _ => ⟨ax_in 5 207 (by decide +kernel) (by decide +kernel), ax_in 0 56 (by decide +kernel) (by decide +kernel)⟩, fun h => absurd h (by decide), fun h => absurd h (by decide)⟩
def ax_m180 : ax_MT := (⟨"AskewLettersModel", "notParted", "(I)I"⟩, prog_11_method_57_code, 2, some .int, 1, 21, 0, 1)
theorem ax_mo180 : ax_mok ax_m180 := ⟨(by decide +kernel), (ax_in 5 204 rfl (by decide +kernel)), (ax_in 1 10 (by decide +kernel) (by decide +kernel)), ⟨(by decide +kernel), (by decide +kernel)⟩, (by decide +kernel), fun _ => ⟨ax_in 5 203 (by decide +kernel) (by decide +kernel), ax_in 0 55 (by decide +kernel) (by decide +kernel)⟩, fun h => absurd h (by decide), fun h => absurd h (by decide)⟩
def ax_m181 : ax_MT := (⟨"AskewLettersModel", "sittings", "(I)I"⟩, prog_11_method_58_code, 3, some .int, 7, 184, 0, 1)
theorem ax_mo181 : ax_mok ax_m181 := ⟨(by decide +kernel), (ax_in 5 200 rfl (by decide +kernel)), (ax_in 1 10 (by decide +kernel) (by decide +kernel)), ⟨(by decide +kernel), (by decide +kernel)⟩, (by decide +kernel), fun _ => ⟨ax_in 5 198 (by decide +kernel) (by decide +kernel), ax_in 5 199 (by decide +kernel) (by decide +kernel)⟩, fun h => absurd h (by decide), fun h => absurd h (by decide)⟩
def ax_m182 : ax_MT := (⟨"AskewLettersModel", "gain", "(I)I"⟩, prog_11_method_59_code, 5, some .int, 7, 184, 0, 1)
theorem ax_mo182 : ax_mok ax_m182 := ⟨(by decide +kernel), (ax_in 5 213 rfl (by decide +kernel)), (ax_in 1 10 (by decide +kernel) (by decide +kernel)), ⟨(by decide +kernel), (by decide +kernel)⟩, (by decide +kernel), fun _ => ⟨ax_in 5 211 (by decide +kernel) (by decide +kernel), ax_in 5 212 (by decide +kernel) (by decide +kernel)⟩, fun h => absurd h (by decide), fun h => absurd h (by decide)⟩
def ax_m183 : ax_MT := (⟨"AskewLettersModel", "against", "(II)I"⟩, prog_11_method_60_code, 8, some .int, 4, 102, 0, 2)
theorem ax_mo183 : ax_mok ax_m183 := ⟨(by decide +kernel), (ax_in 5 218 rfl (by decide +kernel)), (ax_in 1 10 (by decide +kernel) (by decide +kernel)), ⟨(by decide +kernel), (by decide +kernel)⟩, (by decide +kernel), fun _ => ⟨ax_in 5 216 (by decide +kernel) (by decide +kernel), ax_in 5 217 (by decide +kernel) (by decide +kernel)⟩, fun h => absurd h (by decide), fun h => absurd h (by decide)⟩
def ax_m184 : ax_MT := (⟨"AskewLettersModel", "need", "(III)I"⟩, prog_11_method_61_code, 8, some .int, 7, 178, 0, 3)
theorem ax_mo184 : ax_mok ax_m184 := ⟨(by decide +kernel), (ax_in 5 222 rfl (by decide +kernel)), (ax_in 1 10 (by decide +kernel) (by decide +kernel)), ⟨(by decide +kernel), (by decide +kernel)⟩, (by decide +kernel), fun _ => ⟨ax_in 5 220 (by decide +kernel) (by decide +kernel), ax_in 5 221 (by decide +kernel) (by decide +kernel)⟩, fun h => absurd h (by decide), fun h => absurd h (by decide)⟩
def ax_m185 : ax_MT := (⟨"AskewLettersModel", "hand", "(J)I"⟩, prog_11_method_62_code, 6, some .int, 1, 21, 0, 1)
theorem ax_mo185 : ax_mok ax_m185 := ⟨(by decide +kernel), (ax_in 5 228 rfl (by decide +kernel)), (ax_in 1 10 (by decide +kernel) (by decide +kernel)), ⟨(by decide +kernel), (by decide +kernel)⟩, (by decide +kernel), fun _ => ⟨ax_in 5 226 (by decide +kernel) (by decide +kernel), ax_in 5 227 (by decide +kernel) (by decide +kernel)⟩, fun h => absurd h (by decide), fun h => absurd h (by decide)⟩
def ax_m186 : ax_MT := (⟨"AskewLettersModel", "handLikeOf", "(I)I"⟩, prog_11_method_63_code, 4, some .int, 1, 21, 0, 1)
theorem ax_mo186 : ax_mok ax_m186 := ⟨(by decide +kernel), (ax_in 5 238 rfl (by decide +kernel)), (ax_in 1 10 (by decide +kernel) (by decide +kernel)), ⟨(by decide +kernel), (by decide +kernel)⟩, (by decide +kernel), fun _ => ⟨ax_in 5 237 (by decide +kernel) (by decide +kernel), ax_in 0 57 (by decide +kernel) (by decide +kernel)⟩, fun h => absurd h (by decide), fun h => absurd h (by decide)⟩
def ax_m187 : ax_MT := (⟨"AskewLettersModel", "handLike", "(I)I"⟩, prog_11_method_64_code, 2, some .int, 2, 44, 0, 1)
theorem ax_mo187 : ax_mok ax_m187 := ⟨(by decide +kernel), (ax_in 5 234 rfl (by decide +kernel)), (ax_in 1 10 (by decide +kernel) (by decide +kernel)), ⟨(by decide +kernel), (by decide +kernel)⟩, (by decide +kernel), fun _ => ⟨ax_in 5 232 (by decide +kernel) (by decide +kernel), ax_in 5 233 (by decide +kernel) (by decide +kernel)⟩, fun h => absurd h (by decide), fun h => absurd h (by decide)⟩
def ax_m188 : ax_MT := (⟨"AskewLettersModel", "whose", "()I"⟩, prog_11_method_65_code, 3, some .int, 2, 44, 0, 0)
theorem ax_mo188 : ax_mok ax_m188 := ⟨(by decide +kernel), (ax_in 6 2 rfl (by decide +kernel)), (ax_in 1 10 (by decide +kernel) (by decide +kernel)), ⟨(by decide +kernel), (by decide +kernel)⟩, (by decide +kernel), fun _ => ⟨ax_in 6 0 (by decide +kernel) (by decide +kernel), ax_in 6 1 (by decide +kernel) (by decide +kernel)⟩, fun h => absurd h (by decide), fun h => absurd h (by decide)⟩
def ax_m189 : ax_MT := (⟨"AskewLettersModel", "pale", "()I"⟩, prog_11_method_66_code, 8, some .int, 0, 0, 0, 0)
theorem ax_mo189 : ax_mok ax_m189 := ⟨(by decide +kernel), (ax_in 6 6 rfl (by decide +kernel)), (ax_in 1 10 (by decide +kernel) (by decide +kernel)), ⟨(by decide +kernel), (by decide +kernel)⟩, (by decide +kernel), fun _ => ⟨ax_in 6 4 (by decide +kernel) (by decide +kernel), ax_in 6 5 (by decide +kernel) (by decide +kernel)⟩, fun h => absurd h (by decide), fun h => absurd h (by decide)⟩
def ax_m190 : ax_MT := (⟨"AskewLettersModel", "type", "(IIIII)I"⟩, prog_11_method_67_code, 12, some .int, 2, 50, 0, 5)
theorem ax_mo190 : ax_mok ax_m190 := ⟨(by decide +kernel), (ax_in 6 10 rfl (by decide +kernel)), (ax_in 1 10 (by decide +kernel) (by decide +kernel)), ⟨(by decide +kernel), (by decide +kernel)⟩, (by decide +kernel), fun _ => ⟨ax_in 6 8 (by decide +kernel) (by decide +kernel), ax_in 6 9 (by decide +kernel) (by decide +kernel)⟩, fun h => absurd h (by decide), fun h => absurd h (by decide)⟩
def ax_m191 : ax_MT := (⟨"AskewLettersModel", "placeOf", "(I)I"⟩, prog_11_method_68_code, 3, some .int, 0, 0, 0, 1)
theorem ax_mo191 : ax_mok ax_m191 := ⟨(by decide +kernel), (ax_in 6 21 rfl (by decide +kernel)), (ax_in 1 10 (by decide +kernel) (by decide +kernel)), ⟨(by decide +kernel), (by decide +kernel)⟩, (by decide +kernel), fun _ => ⟨ax_in 6 20 (by decide +kernel) (by decide +kernel), ax_in 0 58 (by decide +kernel) (by decide +kernel)⟩, fun h => absurd h (by decide), fun h => absurd h (by decide)⟩
def ax_m192 : ax_MT := (⟨"AskewLettersModel", "over", "(I)I"⟩, prog_11_method_69_code, 4, some .int, 1, 22, 0, 1)
theorem ax_mo192 : ax_mok ax_m192 := ⟨(by decide +kernel), (ax_in 6 17 rfl (by decide +kernel)), (ax_in 1 10 (by decide +kernel) (by decide +kernel)), ⟨(by decide +kernel), (by decide +kernel)⟩, (by decide +kernel), fun _ => ⟨ax_in 6 15 (by decide +kernel) (by decide +kernel), ax_in 6 16 (by decide +kernel) (by decide +kernel)⟩, fun h => absurd h (by decide), fun h => absurd h (by decide)⟩
def ax_m193 : ax_MT := (⟨"AskewLettersModel", "readBack", "(I)I"⟩, prog_11_method_70_code, 4, some .int, 1, 22, 0, 1)
theorem ax_mo193 : ax_mok ax_m193 := ⟨(by decide +kernel), (ax_in 6 25 rfl (by decide +kernel)), (ax_in 1 10 (by decide +kernel) (by decide +kernel)), ⟨(by decide +kernel), (by decide +kernel)⟩, (by decide +kernel), fun _ => ⟨ax_in 6 23 (by decide +kernel) (by decide +kernel), ax_in 6 24 (by decide +kernel) (by decide +kernel)⟩, fun h => absurd h (by decide), fun h => absurd h (by decide)⟩
def ax_m194 : ax_MT := (⟨"AskewLettersModel", "laid", "()I"⟩, prog_11_method_71_code, 3, some .int, 1, 22, 0, 0)
theorem ax_mo194 : ax_mok ax_m194 := ⟨(by decide +kernel), (ax_in 6 29 rfl (by decide +kernel)), (ax_in 1 10 (by decide +kernel) (by decide +kernel)), ⟨(by decide +kernel), (by decide +kernel)⟩, (by decide +kernel), fun _ => ⟨ax_in 6 27 (by decide +kernel) (by decide +kernel), ax_in 6 28 (by decide +kernel) (by decide +kernel)⟩, fun h => absurd h (by decide), fun h => absurd h (by decide)⟩
def ax_m195 : ax_MT := (⟨"AskewLettersModel", "known", "(II)I"⟩, prog_11_method_72_code, 4, some .int, 1, 21, 0, 2)
theorem ax_mo195 : ax_mok ax_m195 := ⟨(by decide +kernel), (ax_in 6 33 rfl (by decide +kernel)), (ax_in 1 10 (by decide +kernel) (by decide +kernel)), ⟨(by decide +kernel), (by decide +kernel)⟩, (by decide +kernel), fun _ => ⟨ax_in 6 31 (by decide +kernel) (by decide +kernel), ax_in 6 32 (by decide +kernel) (by decide +kernel)⟩, fun h => absurd h (by decide), fun h => absurd h (by decide)⟩
def ax_m196 : ax_MT := (⟨"AskewLettersModel", "reader", "(I)I"⟩, prog_11_method_73_code, 4, some .int, 1, 29, 0, 1)
theorem ax_mo196 : ax_mok ax_m196 := ⟨(by decide +kernel), (ax_in 6 37 rfl (by decide +kernel)), (ax_in 1 10 (by decide +kernel) (by decide +kernel)), ⟨(by decide +kernel), (by decide +kernel)⟩, (by decide +kernel), fun _ => ⟨ax_in 6 35 (by decide +kernel) (by decide +kernel), ax_in 6 36 (by decide +kernel) (by decide +kernel)⟩, fun h => absurd h (by decide), fun h => absurd h (by decide)⟩
def ax_m197 : ax_MT := (⟨"AskewLettersModel", "row", "(I)I"⟩, prog_11_method_74_code, 3, some .int, 1, 22, 0, 1)
theorem ax_mo197 : ax_mok ax_m197 := ⟨(by decide +kernel), (ax_in 6 41 rfl (by decide +kernel)), (ax_in 1 10 (by decide +kernel) (by decide +kernel)), ⟨(by decide +kernel), (by decide +kernel)⟩, (by decide +kernel), fun _ => ⟨ax_in 6 39 (by decide +kernel) (by decide +kernel), ax_in 6 40 (by decide +kernel) (by decide +kernel)⟩, fun h => absurd h (by decide), fun h => absurd h (by decide)⟩
def ax_m198 : ax_MT := (⟨"AskewLettersModel", "judge", "()I"⟩, prog_11_method_75_code, 3, some .int, 0, 0, 0, 0)
theorem ax_mo198 : ax_mok ax_m198 := ⟨(by decide +kernel), (ax_in 6 45 rfl (by decide +kernel)), (ax_in 1 10 (by decide +kernel) (by decide +kernel)), ⟨(by decide +kernel), (by decide +kernel)⟩, (by decide +kernel), fun _ => ⟨ax_in 6 43 (by decide +kernel) (by decide +kernel), ax_in 6 44 (by decide +kernel) (by decide +kernel)⟩, fun h => absurd h (by decide), fun h => absurd h (by decide)⟩
def ax_m199 : ax_MT := (⟨"AskewLettersModel", "passes", "([I)V"⟩, prog_11_method_76_code, 3, none, 0, 0, 0, 1)
theorem ax_mo199 : ax_mok ax_m199 := ⟨(by decide +kernel), (ax_in 6 57 rfl (by decide +kernel)), (ax_in 1 10 (by decide +kernel) (by decide +kernel)), ⟨(by decide +kernel), (by decide +kernel)⟩, (by decide +kernel), fun _ => ⟨ax_in 6 56 (by decide +kernel) (by decide +kernel), ax_in 0 60 (by decide +kernel) (by decide +kernel)⟩, fun h => absurd h (by decide), fun h => absurd h (by decide)⟩
def ax_m200 : ax_MT := (⟨"AskewLettersModel", "passOne", "(I)I"⟩, prog_11_method_77_code, 3, some .int, 0, 0, 0, 1)
theorem ax_mo200 : ax_mok ax_m200 := ⟨(by decide +kernel), (ax_in 6 61 rfl (by decide +kernel)), (ax_in 1 10 (by decide +kernel) (by decide +kernel)), ⟨(by decide +kernel), (by decide +kernel)⟩, (by decide +kernel), fun _ => ⟨ax_in 6 60 (by decide +kernel) (by decide +kernel), ax_in 0 61 (by decide +kernel) (by decide +kernel)⟩, fun h => absurd h (by decide), fun h => absurd h (by decide)⟩
def ax_m201 : ax_MT := (⟨"AskewLettersModel", "passesAll", "()V"⟩, prog_11_method_78_code, 1, none, 1, 22, 0, 0)
theorem ax_mo201 : ax_mok ax_m201 := ⟨(by decide +kernel), (ax_in 6 53 rfl (by decide +kernel)), (ax_in 1 10 (by decide +kernel) (by decide +kernel)), ⟨(by decide +kernel), (by decide +kernel)⟩, (by decide +kernel), fun _ => ⟨ax_in 6 52 (by decide +kernel) (by decide +kernel), ax_in 0 59 (by decide +kernel) (by decide +kernel)⟩, fun h => absurd h (by decide), fun h => absurd h (by decide)⟩
def ax_m202 : ax_MT := (⟨"AskewLettersModel", "image", "()I"⟩, prog_11_method_79_code, 1, some .int, 2, 42, 0, 0)
theorem ax_mo202 : ax_mok ax_m202 := ⟨(by decide +kernel), (ax_in 6 49 rfl (by decide +kernel)), (ax_in 1 10 (by decide +kernel) (by decide +kernel)), ⟨(by decide +kernel), (by decide +kernel)⟩, (by decide +kernel), fun _ => ⟨ax_in 6 47 (by decide +kernel) (by decide +kernel), ax_in 6 48 (by decide +kernel) (by decide +kernel)⟩, fun h => absurd h (by decide), fun h => absurd h (by decide)⟩
def ax_m203 : ax_MT := (⟨"AskewLettersModel", "on", "()I"⟩, prog_11_method_80_code, 1, some .int, 2, 42, 0, 0)
theorem ax_mo203 : ax_mok ax_m203 := ⟨(by decide +kernel), (ax_in 6 65 rfl (by decide +kernel)), (ax_in 1 10 (by decide +kernel) (by decide +kernel)), ⟨(by decide +kernel), (by decide +kernel)⟩, (by decide +kernel), fun _ => ⟨ax_in 6 63 (by decide +kernel) (by decide +kernel), ax_in 6 64 (by decide +kernel) (by decide +kernel)⟩, fun h => absurd h (by decide), fun h => absurd h (by decide)⟩
def ax_m204 : ax_MT := (⟨"AskewLettersModel", "count", "(I)I"⟩, prog_11_method_81_code, 2, some .int, 2, 48, 0, 1)
theorem ax_mo204 : ax_mok ax_m204 := ⟨(by decide +kernel), (ax_in 6 69 rfl (by decide +kernel)), (ax_in 1 10 (by decide +kernel) (by decide +kernel)), ⟨(by decide +kernel), (by decide +kernel)⟩, (by decide +kernel), fun _ => ⟨ax_in 6 67 (by decide +kernel) (by decide +kernel), ax_in 6 68 (by decide +kernel) (by decide +kernel)⟩, fun h => absurd h (by decide), fun h => absurd h (by decide)⟩
def ax_mt : List ax_MT := [ax_m0, ax_m1, ax_m2, ax_m3, ax_m4, ax_m5, ax_m6, ax_m7, ax_m8, ax_m9, ax_m10, ax_m11, ax_m12, ax_m13, ax_m14, ax_m15, ax_m16, ax_m17, ax_m18, ax_m19, ax_m20, ax_m21, ax_m22, ax_m23, ax_m24, ax_m25, ax_m26, ax_m27, ax_m28, ax_m29, ax_m30, ax_m31, ax_m32, ax_m33, ax_m34, ax_m35, ax_m36, ax_m37, ax_m38, ax_m39, ax_m40, ax_m41, ax_m42, ax_m43, ax_m44, ax_m45, ax_m46, ax_m47, ax_m48, ax_m49, ax_m50, ax_m51, ax_m52, ax_m53, ax_m54, ax_m55, ax_m56, ax_m57, ax_m58, ax_m59, ax_m60, ax_m61, ax_m62, ax_m63, ax_m64, ax_m65, ax_m66, ax_m67, ax_m68, ax_m69, ax_m70, ax_m71, ax_m72, ax_m73, ax_m74, ax_m75, ax_m76, ax_m77, ax_m78, ax_m79, ax_m80, ax_m81, ax_m82, ax_m83, ax_m84, ax_m85, ax_m86, ax_m87, ax_m88, ax_m89, ax_m90, ax_m91, ax_m92, ax_m93, ax_m94, ax_m95, ax_m96, ax_m97, ax_m98, ax_m99, ax_m100, ax_m101, ax_m102, ax_m103, ax_m104, ax_m105, ax_m106, ax_m107, ax_m108, ax_m109, ax_m110, ax_m111, ax_m112, ax_m113, ax_m114, ax_m115, ax_m116, ax_m117, ax_m118, ax_m119, ax_m120, ax_m121, ax_m122, ax_m123, ax_m124, ax_m125, ax_m126, ax_m127, ax_m128, ax_m129, ax_m130, ax_m131, ax_m132, ax_m133, ax_m134, ax_m135, ax_m136, ax_m137, ax_m138, ax_m139, ax_m140, ax_m141, ax_m142, ax_m143, ax_m144, ax_m145, ax_m146, ax_m147, ax_m148, ax_m149, ax_m150, ax_m151, ax_m152, ax_m153, ax_m154, ax_m155, ax_m156, ax_m157, ax_m158, ax_m159, ax_m160, ax_m161, ax_m162, ax_m163, ax_m164, ax_m165, ax_m166, ax_m167, ax_m168, ax_m169, ax_m170, ax_m171, ax_m172, ax_m173, ax_m174, ax_m175, ax_m176, ax_m177, ax_m178, ax_m179, ax_m180, ax_m181, ax_m182, ax_m183, ax_m184, ax_m185, ax_m186, ax_m187, ax_m188, ax_m189, ax_m190, ax_m191, ax_m192, ax_m193, ax_m194, ax_m195, ax_m196, ax_m197, ax_m198, ax_m199, ax_m200, ax_m201, ax_m202, ax_m203, ax_m204]
set_option maxRecDepth 100000 in
theorem ax_mt_ok : ∀ q ∈ ax_mt, ax_mok q := List.forall_mem_cons.mpr ⟨ax_mo0, List.forall_mem_cons.mpr ⟨ax_mo1, List.forall_mem_cons.mpr ⟨ax_mo2, List.forall_mem_cons.mpr ⟨ax_mo3, List.forall_mem_cons.mpr ⟨ax_mo4, List.forall_mem_cons.mpr ⟨ax_mo5, List.forall_mem_cons.mpr ⟨ax_mo6, List.forall_mem_cons.mpr ⟨ax_mo7, List.forall_mem_cons.mpr ⟨ax_mo8, List.forall_mem_cons.mpr ⟨ax_mo9, List.forall_mem_cons.mpr ⟨ax_mo10, List.forall_mem_cons.mpr ⟨ax_mo11, List.forall_mem_cons.mpr ⟨ax_mo12, List.forall_mem_cons.mpr ⟨ax_mo13, List.forall_mem_cons.mpr ⟨ax_mo14, List.forall_mem_cons.mpr ⟨ax_mo15, List.forall_mem_cons.mpr ⟨ax_mo16, List.forall_mem_cons.mpr ⟨ax_mo17, List.forall_mem_cons.mpr ⟨ax_mo18, List.forall_mem_cons.mpr ⟨ax_mo19, List.forall_mem_cons.mpr ⟨ax_mo20, List.forall_mem_cons.mpr ⟨ax_mo21, List.forall_mem_cons.mpr ⟨ax_mo22, List.forall_mem_cons.mpr ⟨ax_mo23, List.forall_mem_cons.mpr ⟨ax_mo24, List.forall_mem_cons.mpr ⟨ax_mo25, List.forall_mem_cons.mpr ⟨ax_mo26, List.forall_mem_cons.mpr ⟨ax_mo27, List.forall_mem_cons.mpr ⟨ax_mo28, List.forall_mem_cons.mpr ⟨ax_mo29, List.forall_mem_cons.mpr ⟨ax_mo30, List.forall_mem_cons.mpr ⟨ax_mo31, List.forall_mem_cons.mpr ⟨ax_mo32, List.forall_mem_cons.mpr ⟨ax_mo33, List.forall_mem_cons.mpr ⟨ax_mo34, List.forall_mem_cons.mpr ⟨ax_mo35, List.forall_mem_cons.mpr ⟨ax_mo36, List.forall_mem_cons.mpr ⟨ax_mo37, List.forall_mem_cons.mpr ⟨ax_mo38, List.forall_mem_cons.mpr ⟨ax_mo39, List.forall_mem_cons.mpr ⟨ax_mo40, List.forall_mem_cons.mpr ⟨ax_mo41, List.forall_mem_cons.mpr ⟨ax_mo42, List.forall_mem_cons.mpr ⟨ax_mo43, List.forall_mem_cons.mpr ⟨ax_mo44, List.forall_mem_cons.mpr ⟨ax_mo45, List.forall_mem_cons.mpr ⟨ax_mo46, List.forall_mem_cons.mpr ⟨ax_mo47, List.forall_mem_cons.mpr ⟨ax_mo48, List.forall_mem_cons.mpr ⟨ax_mo49, List.forall_mem_cons.mpr ⟨ax_mo50, List.forall_mem_cons.mpr ⟨ax_mo51, List.forall_mem_cons.mpr ⟨ax_mo52, List.forall_mem_cons.mpr ⟨ax_mo53, List.forall_mem_cons.mpr ⟨ax_mo54, List.forall_mem_cons.mpr ⟨ax_mo55, List.forall_mem_cons.mpr ⟨ax_mo56, List.forall_mem_cons.mpr ⟨ax_mo57, List.forall_mem_cons.mpr ⟨ax_mo58, List.forall_mem_cons.mpr ⟨ax_mo59, List.forall_mem_cons.mpr ⟨ax_mo60, List.forall_mem_cons.mpr ⟨ax_mo61, List.forall_mem_cons.mpr ⟨ax_mo62, List.forall_mem_cons.mpr ⟨ax_mo63, List.forall_mem_cons.mpr ⟨ax_mo64, List.forall_mem_cons.mpr ⟨ax_mo65, List.forall_mem_cons.mpr ⟨ax_mo66, List.forall_mem_cons.mpr ⟨ax_mo67, List.forall_mem_cons.mpr ⟨ax_mo68, List.forall_mem_cons.mpr ⟨ax_mo69, List.forall_mem_cons.mpr ⟨ax_mo70, List.forall_mem_cons.mpr ⟨ax_mo71, List.forall_mem_cons.mpr ⟨ax_mo72, List.forall_mem_cons.mpr ⟨ax_mo73, List.forall_mem_cons.mpr ⟨ax_mo74, List.forall_mem_cons.mpr ⟨ax_mo75, List.forall_mem_cons.mpr ⟨ax_mo76, List.forall_mem_cons.mpr ⟨ax_mo77, List.forall_mem_cons.mpr ⟨ax_mo78, List.forall_mem_cons.mpr ⟨ax_mo79, List.forall_mem_cons.mpr ⟨ax_mo80, List.forall_mem_cons.mpr ⟨ax_mo81, List.forall_mem_cons.mpr ⟨ax_mo82, List.forall_mem_cons.mpr ⟨ax_mo83, List.forall_mem_cons.mpr ⟨ax_mo84, List.forall_mem_cons.mpr ⟨ax_mo85, List.forall_mem_cons.mpr ⟨ax_mo86, List.forall_mem_cons.mpr ⟨ax_mo87, List.forall_mem_cons.mpr ⟨ax_mo88, List.forall_mem_cons.mpr ⟨ax_mo89, List.forall_mem_cons.mpr ⟨ax_mo90, List.forall_mem_cons.mpr ⟨ax_mo91, List.forall_mem_cons.mpr ⟨ax_mo92, List.forall_mem_cons.mpr ⟨ax_mo93, List.forall_mem_cons.mpr ⟨ax_mo94, List.forall_mem_cons.mpr ⟨ax_mo95, List.forall_mem_cons.mpr ⟨ax_mo96, List.forall_mem_cons.mpr ⟨ax_mo97, List.forall_mem_cons.mpr ⟨ax_mo98, List.forall_mem_cons.mpr ⟨ax_mo99, List.forall_mem_cons.mpr ⟨ax_mo100, List.forall_mem_cons.mpr ⟨ax_mo101, List.forall_mem_cons.mpr ⟨ax_mo102, List.forall_mem_cons.mpr ⟨ax_mo103, List.forall_mem_cons.mpr ⟨ax_mo104, List.forall_mem_cons.mpr ⟨ax_mo105, List.forall_mem_cons.mpr ⟨ax_mo106, List.forall_mem_cons.mpr ⟨ax_mo107, List.forall_mem_cons.mpr ⟨ax_mo108, List.forall_mem_cons.mpr ⟨ax_mo109, List.forall_mem_cons.mpr ⟨ax_mo110, List.forall_mem_cons.mpr ⟨ax_mo111, List.forall_mem_cons.mpr ⟨ax_mo112, List.forall_mem_cons.mpr ⟨ax_mo113, List.forall_mem_cons.mpr ⟨ax_mo114, List.forall_mem_cons.mpr ⟨ax_mo115, List.forall_mem_cons.mpr ⟨ax_mo116, List.forall_mem_cons.mpr ⟨ax_mo117, List.forall_mem_cons.mpr ⟨ax_mo118, List.forall_mem_cons.mpr ⟨ax_mo119, List.forall_mem_cons.mpr ⟨ax_mo120, List.forall_mem_cons.mpr ⟨ax_mo121, List.forall_mem_cons.mpr ⟨ax_mo122, List.forall_mem_cons.mpr ⟨ax_mo123, List.forall_mem_cons.mpr ⟨ax_mo124, List.forall_mem_cons.mpr ⟨ax_mo125, List.forall_mem_cons.mpr ⟨ax_mo126, List.forall_mem_cons.mpr ⟨ax_mo127, List.forall_mem_cons.mpr ⟨ax_mo128, List.forall_mem_cons.mpr ⟨ax_mo129, List.forall_mem_cons.mpr ⟨ax_mo130, List.forall_mem_cons.mpr ⟨ax_mo131, List.forall_mem_cons.mpr ⟨ax_mo132, List.forall_mem_cons.mpr ⟨ax_mo133, List.forall_mem_cons.mpr ⟨ax_mo134, List.forall_mem_cons.mpr ⟨ax_mo135, List.forall_mem_cons.mpr ⟨ax_mo136, List.forall_mem_cons.mpr ⟨ax_mo137, List.forall_mem_cons.mpr ⟨ax_mo138, List.forall_mem_cons.mpr ⟨ax_mo139, List.forall_mem_cons.mpr ⟨ax_mo140, List.forall_mem_cons.mpr ⟨ax_mo141, List.forall_mem_cons.mpr ⟨ax_mo142, List.forall_mem_cons.mpr ⟨ax_mo143, List.forall_mem_cons.mpr ⟨ax_mo144, List.forall_mem_cons.mpr ⟨ax_mo145, List.forall_mem_cons.mpr ⟨ax_mo146, List.forall_mem_cons.mpr ⟨ax_mo147, List.forall_mem_cons.mpr ⟨ax_mo148, List.forall_mem_cons.mpr ⟨ax_mo149, List.forall_mem_cons.mpr ⟨ax_mo150, List.forall_mem_cons.mpr ⟨ax_mo151, List.forall_mem_cons.mpr ⟨ax_mo152, List.forall_mem_cons.mpr ⟨ax_mo153, List.forall_mem_cons.mpr ⟨ax_mo154, List.forall_mem_cons.mpr ⟨ax_mo155, List.forall_mem_cons.mpr ⟨ax_mo156, List.forall_mem_cons.mpr ⟨ax_mo157, List.forall_mem_cons.mpr ⟨ax_mo158, List.forall_mem_cons.mpr ⟨ax_mo159, List.forall_mem_cons.mpr ⟨ax_mo160, List.forall_mem_cons.mpr ⟨ax_mo161, List.forall_mem_cons.mpr ⟨ax_mo162, List.forall_mem_cons.mpr ⟨ax_mo163, List.forall_mem_cons.mpr ⟨ax_mo164, List.forall_mem_cons.mpr ⟨ax_mo165, List.forall_mem_cons.mpr ⟨ax_mo166, List.forall_mem_cons.mpr ⟨ax_mo167, List.forall_mem_cons.mpr ⟨ax_mo168, List.forall_mem_cons.mpr ⟨ax_mo169, List.forall_mem_cons.mpr ⟨ax_mo170, List.forall_mem_cons.mpr ⟨ax_mo171, List.forall_mem_cons.mpr ⟨ax_mo172, List.forall_mem_cons.mpr ⟨ax_mo173, List.forall_mem_cons.mpr ⟨ax_mo174, List.forall_mem_cons.mpr ⟨ax_mo175, List.forall_mem_cons.mpr ⟨ax_mo176, List.forall_mem_cons.mpr ⟨ax_mo177, List.forall_mem_cons.mpr ⟨ax_mo178, List.forall_mem_cons.mpr ⟨ax_mo179, List.forall_mem_cons.mpr ⟨ax_mo180, List.forall_mem_cons.mpr ⟨ax_mo181, List.forall_mem_cons.mpr ⟨ax_mo182, List.forall_mem_cons.mpr ⟨ax_mo183, List.forall_mem_cons.mpr ⟨ax_mo184, List.forall_mem_cons.mpr ⟨ax_mo185, List.forall_mem_cons.mpr ⟨ax_mo186, List.forall_mem_cons.mpr ⟨ax_mo187, List.forall_mem_cons.mpr ⟨ax_mo188, List.forall_mem_cons.mpr ⟨ax_mo189, List.forall_mem_cons.mpr ⟨ax_mo190, List.forall_mem_cons.mpr ⟨ax_mo191, List.forall_mem_cons.mpr ⟨ax_mo192, List.forall_mem_cons.mpr ⟨ax_mo193, List.forall_mem_cons.mpr ⟨ax_mo194, List.forall_mem_cons.mpr ⟨ax_mo195, List.forall_mem_cons.mpr ⟨ax_mo196, List.forall_mem_cons.mpr ⟨ax_mo197, List.forall_mem_cons.mpr ⟨ax_mo198, List.forall_mem_cons.mpr ⟨ax_mo199, List.forall_mem_cons.mpr ⟨ax_mo200, List.forall_mem_cons.mpr ⟨ax_mo201, List.forall_mem_cons.mpr ⟨ax_mo202, List.forall_mem_cons.mpr ⟨ax_mo203, List.forall_mem_cons.mpr ⟨ax_mo204, fun _ h => absurd h List.not_mem_nil⟩⟩⟩⟩⟩⟩⟩⟩⟩⟩⟩⟩⟩⟩⟩⟩⟩⟩⟩⟩⟩⟩⟩⟩⟩⟩⟩⟩⟩⟩⟩⟩⟩⟩⟩⟩⟩⟩⟩⟩⟩⟩⟩⟩⟩⟩⟩⟩⟩⟩⟩⟩⟩⟩⟩⟩⟩⟩⟩⟩⟩⟩⟩⟩⟩⟩⟩⟩⟩⟩⟩⟩⟩⟩⟩⟩⟩⟩⟩⟩⟩⟩⟩⟩⟩⟩⟩⟩⟩⟩⟩⟩⟩⟩⟩⟩⟩⟩⟩⟩⟩⟩⟩⟩⟩⟩⟩⟩⟩⟩⟩⟩⟩⟩⟩⟩⟩⟩⟩⟩⟩⟩⟩⟩⟩⟩⟩⟩⟩⟩⟩⟩⟩⟩⟩⟩⟩⟩⟩⟩⟩⟩⟩⟩⟩⟩⟩⟩⟩⟩⟩⟩⟩⟩⟩⟩⟩⟩⟩⟩⟩⟩⟩⟩⟩⟩⟩⟩⟩⟩⟩⟩⟩⟩⟩⟩⟩⟩⟩⟩⟩⟩⟩⟩⟩⟩⟩⟩⟩⟩⟩⟩⟩⟩⟩⟩⟩⟩⟩⟩⟩⟩⟩⟩⟩
def ax_M (y : Nat) : ax_MT := ax_mt.getD y (⟨"", "", ""⟩, ⟨#[]⟩, 0, none, 0, 0, 9, 0)
theorem ax_M_ok {y : Nat} (h : y < 205) : ax_mok (ax_M y) := by
  apply ax_mt_ok
  unfold ax_M
  rw [List.getD_eq_getElem?_getD, List.getElem?_eq_getElem (show y < ax_mt.length from h)]
  exact List.getElem_mem _
end
section
/-! The machine of our own: states, one instruction as a predicate transformer, its least fixpoint. -/
abbrev ax_Lo : Type := List (Option Value)
abbrev ax_Sk : Type := List Value
abbrev ax_Dn : Type := Nat → Nat → Int32
abbrev ax_En : Type := Nat → Nat → Int64
abbrev ax_Rn : Type := Nat → Nat → Option Nat
/-- cells made, ints, longs, references -/
abbrev ax_St : Type := Nat × ax_Dn × ax_En × ax_Rn
/-- pc, op, three numbers, more of them, a constant -/
abbrev ax_Row : Type := Nat × Nat × Nat × Nat × Nat × List Nat × Value
abbrev ax_Po : Type := Option Value → ax_St → Prop
abbrev ax_Xs : Type := ax_Lo → ax_Sk → ax_St → Prop
abbrev ax_Cl : Type := Nat → List Value → ax_St → ax_Po → Prop
def ax_pI (st : ax_Sk) (f : Int32 → ax_Sk → Prop) : Prop := match st with
  | .int x :: r => f x r
  | _ => False
def ax_pL (st : ax_Sk) (f : Int64 → ax_Sk → Prop) : Prop := match st with
  | .long x :: r => f x r
  | _ => False
def ax_pR (st : ax_Sk) (f : Nat → ax_Sk → Prop) : Prop := match st with
  | .ref x :: r => f x r
  | _ => False
def ax_p1 (st : ax_Sk) (f : Value → ax_Sk → Prop) : Prop := match st with
  | .int x :: r => f (.int x) r
  | .ref x :: r => f (.ref x) r
  | _ => False
def ax_lI (L : ax_Lo) (i : Nat) (f : Int32 → Prop) : Prop := match L[i]? with
  | some (some (.int x)) => f x
  | _ => False
def ax_lL (L : ax_Lo) (i : Nat) (f : Int64 → Prop) : Prop := match L[i]? with
  | some (some (.long x)) => f x
  | _ => False
def ax_lR (L : ax_Lo) (i : Nat) (f : Nat → Prop) : Prop := match L[i]? with
  | some (some (.ref x)) => f x
  | _ => False
/-- the place ahead no longer holds a long -/
def ax_cb (v : Option Value) : Option Value := match v with
  | some (.long _) => none
  | some (.double _) => none
  | w => w
/-- a store of one slot, of two -/
def ax_s1 : ax_Lo → Nat → Value → ax_Lo
  | [], _, _ => []
  | _ :: l, 0, v => some v :: l
  | a :: l, 1, v => ax_cb a :: ax_s1 l 0 v
  | a :: l, n + 2, v => a :: ax_s1 l (n + 1) v
def ax_s2 : ax_Lo → Nat → Value → ax_Lo
  | [], _, _ => []
  | _ :: [], 0, _ => none :: []
  | _ :: _ :: l, 0, v => some v :: none :: l
  | a :: l, 1, v => ax_cb a :: ax_s2 l 0 v
  | a :: l, n + 2, v => a :: ax_s2 l (n + 1) v
/-- the words of the values on a stack -/
def ax_cs : ax_Sk → Nat
  | [] => 0
  | .long _ :: r => ax_cs r + 2
  | .double _ :: r => ax_cs r + 2
  | _ :: r => ax_cs r + 1
/-- so many arguments off the stack, the first of them first -/
def ax_tk : Nat → ax_Sk → List Value → (List Value → ax_Sk → Prop) → Prop
  | 0, st, acc, f => f acc st
  | _ + 1, [], _, _ => False
  | n + 1, v :: st, acc, f => ax_tk n st (v :: acc) f
def ax_up {α : Type} (f : Nat → α) (k : Nat) (v : α) : Nat → α := fun j => if j = k then v else f j
def ax_rv (r : Option Nat) : Value := match r with
  | none => .null
  | some a => .ref a
def ax_gv (s : ax_St) (k j : Nat) : Nat → Value
  | 1 => .long (s.2.2.1 k j)
  | 2 => ax_rv (s.2.2.2 k j)
  | _ => .int (s.2.1 k j)
def ax_d1 (s : ax_St) (k j : Nat) (v : Int32) : ax_St := (s.1, ax_up s.2.1 k (ax_up (s.2.1 k) j v), s.2.2)
def ax_e1 (s : ax_St) (k j : Nat) (v : Int64) : ax_St := (s.1, s.2.1, ax_up s.2.2.1 k (ax_up (s.2.2.1 k) j v), s.2.2.2)
def ax_r1 (s : ax_St) (k j : Nat) (v : Option Nat) : ax_St := (s.1, s.2.1, s.2.2.1, ax_up s.2.2.2 k (ax_up (s.2.2.2 k) j v))
def ax_dr (s : ax_St) (k : Nat) (f : Nat → Int32) : ax_St := (s.1, ax_up s.2.1 k f, s.2.2)
/-- a new cell -/
def ax_nw (s : ax_St) : ax_St := (s.1 + 1, ax_up s.2.1 s.1 (fun _ => 0), ax_up s.2.2.1 s.1 (fun _ => 0), ax_up s.2.2.2 s.1 (fun _ => none))
/-- an array of ints: of the world's own, or one from outside -/
def ax_ia (s : ax_St) (xt : Nat → Nat × (Nat → Int32)) (k : Nat) (F : Nat → (Nat → Int32) → Prop) : Prop :=
  if k < 1000 then k < s.1 ∧ (ax_kd k).1 = 10 ∧ F (ax_kd k).2 (s.2.1 k) else k < 1003 ∧ F (xt k).1 (xt k).2
def ax_sw (x : Int32) (d : Nat) (jmp : Nat → Prop) : List (Nat × Nat) → Prop
  | [] => jmp d
  | (k, t) :: ps => (x = Int32.ofNat k → jmp t) ∧ (¬ x = Int32.ofNat k → ax_sw x d jmp ps)
def ax_prs : List Nat → List (Nat × Nat)
  | k :: t :: l => (k, t) :: ax_prs l
  | _ => []
/-- one instruction -/
def ax_step (op a b c : Nat) (ws : List Nat) (cv : Value) (nxt : ax_Xs) (jmp : Nat → ax_Xs) (call : ax_Cl) (ret : ax_Po) (xt : Nat → Nat × (Nat → Int32)) (top : Nat) (L : ax_Lo) (st : ax_Sk) (s : ax_St) : Prop :=
  match op with
  | 0 => nxt L (cv :: st) s
  | 1 => nxt L (cv :: st) s
  | 2 => nxt L (cv :: st) s
  | 3 => nxt L (cv :: st) s
  | 4 => nxt L (cv :: st) s
  | 5 => nxt L (cv :: st) s
  | 6 => nxt L (cv :: st) s
  | 7 => ax_lI L a fun x => nxt L (.int x :: st) s
  | 8 => ax_lI L a fun x => nxt L (.int x :: st) s
  | 9 => ax_lL L a fun x => nxt L (.long x :: st) s
  | 10 => ax_lL L a fun x => nxt L (.long x :: st) s
  | 11 => ax_lR L a fun x => nxt L (.ref x :: st) s
  | 12 => ax_lI L a fun x => ax_pI [cv] fun y _ => nxt (ax_s1 L a (.int (x + y))) st s
  | 13 => ax_pI st fun x r => nxt (ax_s1 L a (.int x)) r s
  | 14 => ax_pI st fun x r => nxt (ax_s1 L a (.int x)) r s
  | 15 => ax_pL st fun x r => nxt (ax_s2 L a (.long x)) r s
  | 16 => ax_pL st fun x r => nxt (ax_s2 L a (.long x)) r s
  | 17 => ax_pR st fun x r => nxt (ax_s1 L a (.ref x)) r s
  | 18 => ax_pI st fun y r => ax_pI r fun x r => nxt L (.int (x + y) :: r) s
  | 19 => ax_pI st fun y r => ax_pI r fun x r => nxt L (.int (x - y) :: r) s
  | 20 => ax_pI st fun y r => ax_pI r fun x r => nxt L (.int (x * y) :: r) s
  | 21 => ax_pI st fun y r => ax_pI r fun x r => ¬ y = 0 ∧ nxt L (.int (x / y) :: r) s
  | 22 => ax_pI st fun y r => ax_pI r fun x r => ¬ y = 0 ∧ nxt L (.int (x - x / y * y) :: r) s
  | 23 => ax_pI st fun x r => nxt L (.int (-x) :: r) s
  | 24 => ax_pI st fun y r => ax_pI r fun x r => nxt L (.int (x &&& y) :: r) s
  | 25 => ax_pI st fun y r => ax_pI r fun x r => nxt L (.int (x ||| y) :: r) s
  | 26 => ax_pI st fun y r => ax_pI r fun x r => nxt L (.int (x ^^^ y) :: r) s
  | 27 => ax_pI st fun y r => ax_pI r fun x r => nxt L (.int (x <<< (y &&& 31)) :: r) s
  | 28 => ax_pI st fun y r => ax_pI r fun x r => nxt L (.int (x >>> (y &&& 31)) :: r) s
  | 29 => ax_pL st fun y r => ax_pL r fun x r => nxt L (.long (x + y) :: r) s
  | 30 => ax_pL st fun y r => ax_pL r fun x r => nxt L (.long (x - y) :: r) s
  | 31 => ax_pL st fun y r => ax_pL r fun x r => nxt L (.long (x * y) :: r) s
  | 32 => ax_pL st fun y r => ax_pL r fun x r => ¬ y = 0 ∧ nxt L (.long (x / y) :: r) s
  | 33 => ax_pL st fun y r => ax_pL r fun x r => ¬ y = 0 ∧ nxt L (.long (x - x / y * y) :: r) s
  | 34 => ax_pL st fun y r => ax_pL r fun x r => nxt L (.long (x &&& y) :: r) s
  | 35 => ax_pL st fun y r => ax_pL r fun x r => nxt L (.long (x ||| y) :: r) s
  | 36 => ax_pI st fun y r => ax_pL r fun x r => nxt L (.long (x <<< (y.toInt64 &&& 63)) :: r) s
  | 37 => ax_pI st fun y r => ax_pL r fun x r => nxt L (.long (x >>> (y.toInt64 &&& 63)) :: r) s
  | 38 => ax_pI st fun y r => ax_pL r fun x r => nxt L (.long (x.toUInt64 >>> (y.toInt64.toUInt64 &&& Int64.toUInt64 63)).toInt64 :: r) s
  | 39 => ax_pL st fun y r => ax_pL r fun x r => nxt L (.int (lg_cmp x y) :: r) s
  | 40 => ax_pI st fun x r => nxt L (.long x.toInt64 :: r) s
  | 41 => ax_pL st fun x r => nxt L (.int x.toInt32 :: r) s
  | 42 => ax_p1 st fun v r => nxt L (v :: v :: r) s
  | 44 => ax_p1 st fun _ r => nxt L r s
  | 45 => ax_pI st fun y r => ax_pR r fun x r => nxt L (.int y :: .ref x :: .int y :: .ref x :: r) s
  | 46 => ax_pL st fun _ r => nxt L r s
  | 47 => ax_pI st fun x r => (x = 0 → jmp a L r s) ∧ (¬ x = 0 → nxt L r s)
  | 48 => ax_pI st fun x r => (¬ x = 0 → jmp a L r s) ∧ (x = 0 → nxt L r s)
  | 49 => ax_pI st fun x r => (x < 0 → jmp a L r s) ∧ (¬ x < 0 → nxt L r s)
  | 50 => ax_pI st fun x r => (0 ≤ x → jmp a L r s) ∧ (¬ 0 ≤ x → nxt L r s)
  | 51 => ax_pI st fun x r => (0 < x → jmp a L r s) ∧ (¬ 0 < x → nxt L r s)
  | 52 => ax_pI st fun x r => (x ≤ 0 → jmp a L r s) ∧ (¬ x ≤ 0 → nxt L r s)
  | 53 => ax_pI st fun y r => ax_pI r fun x r => (x = y → jmp a L r s) ∧ (¬ x = y → nxt L r s)
  | 54 => ax_pI st fun y r => ax_pI r fun x r => (¬ x = y → jmp a L r s) ∧ (x = y → nxt L r s)
  | 55 => ax_pI st fun y r => ax_pI r fun x r => (x < y → jmp a L r s) ∧ (¬ x < y → nxt L r s)
  | 56 => ax_pI st fun y r => ax_pI r fun x r => (y ≤ x → jmp a L r s) ∧ (¬ y ≤ x → nxt L r s)
  | 57 => ax_pI st fun y r => ax_pI r fun x r => (y < x → jmp a L r s) ∧ (¬ y < x → nxt L r s)
  | 58 => ax_pI st fun y r => ax_pI r fun x r => (x ≤ y → jmp a L r s) ∧ (¬ x ≤ y → nxt L r s)
  | 59 => jmp a L st s
  | 60 => ax_pI st fun x r => ax_sw x a (fun t => jmp t L r s) (ax_prs ws)
  | 61 => ax_pI st fun x r => ax_sw x a (fun t => jmp t L r s) (ax_prs ws)
  | 62 => ax_pR st fun k r => k < s.1 ∧ (ax_kd k).1 = a ∧ nxt L (ax_gv s k b c :: r) s
  | 63 => ax_pI st fun v r => ax_pR r fun k r => k < s.1 ∧ (ax_kd k).1 = a ∧ nxt L r (ax_d1 s k b v)
  | 64 => ax_pI st fun v r => ax_pR r fun k r => k < s.1 ∧ (ax_kd k).1 = a ∧ (v = 0 ∨ v = 1) ∧ nxt L r (ax_d1 s k b v)
  | 65 => ax_pL st fun v r => ax_pR r fun k r => k < s.1 ∧ (ax_kd k).1 = a ∧ nxt L r (ax_e1 s k b v)
  | 66 => ax_pR st fun v r => ax_pR r fun k r => k < s.1 ∧ (ax_kd k).1 = a ∧ nxt L r (ax_r1 s k b (some v))
  | 67 => ax_pI st fun i r => ax_pR r fun k r => ax_ia s xt k fun n f => vp_in i n ∧ nxt L (.int (f i.toNatClampNeg) :: r) s
  | 68 => ax_pI st fun v r => ax_pI r fun i r => ax_pR r fun k r => k < s.1 ∧ (ax_kd k).1 = 10 ∧ vp_in i (ax_kd k).2 ∧ nxt L r (ax_d1 s k i.toNatClampNeg v)
  | 69 => ax_pI st fun i r => ax_pR r fun k r => k < s.1 ∧ (ax_kd k).1 = 11 ∧ vp_in i (ax_kd k).2 ∧ nxt L (.long (s.2.2.1 k i.toNatClampNeg) :: r) s
  | 70 => ax_pL st fun v r => ax_pI r fun i r => ax_pR r fun k r => k < s.1 ∧ (ax_kd k).1 = 11 ∧ vp_in i (ax_kd k).2 ∧ nxt L r (ax_e1 s k i.toNatClampNeg v)
  | 71 => ax_pR st fun k r => if k < 1000 then k < s.1 ∧ ((ax_kd k).1 = 10 ∨ (ax_kd k).1 = 11) ∧ nxt L (.int (Int32.ofNat (ax_kd k).2) :: r) s else k < 1003 ∧ nxt L (.int (Int32.ofNat (xt k).1) :: r) s
  | 72 => nxt L (.ref a :: st) s
  | 73 => ax_tk b st [] fun as r => ax_pR r fun k r => k < s.1 ∧ (ax_kd k).1 = c ∧ ax_cs r ≤ 8 ∧ s.1 + ax_mc a ≤ top ∧ call a (.ref k :: as) s (fun v s' => nxt L (v.toList ++ r) s')
  | 74 => ax_tk b st [] fun as r => ax_cs r ≤ 8 ∧ s.1 + ax_mc a ≤ top ∧ call a as s (fun v s' => nxt L (v.toList ++ r) s')
  | 75 => ax_pR st fun k r => ax_cs r ≤ 8 ∧ s.1 + ax_mc a ≤ top ∧ call a [.ref k] s (fun v s' => nxt L (v.toList ++ r) s')
  | 76 => ax_pR st fun k r => ax_cs r ≤ 8 ∧ s.1 + ax_mc a ≤ top ∧ call a [.ref k] s (fun v s' => nxt L (v.toList ++ r) s')
  | 77 => ax_pR st fun _ r => ax_cs r ≤ 8 ∧ nxt L r s
  | 78 => ax_pI st fun n r => ax_pI r fun dp r => ax_pR r fun k1 r => ax_pI r fun sp r => ax_pR r fun k0 r => k0 < s.1 ∧ k1 < s.1 ∧ (ax_kd k0).1 = 10 ∧ (ax_kd k1).1 = 10 ∧ ¬ sp < 0 ∧ ¬ dp < 0 ∧ ¬ n < 0 ∧ sp.toNatClampNeg + n.toNatClampNeg ≤ (ax_kd k0).2 ∧ dp.toNatClampNeg + n.toNatClampNeg ≤ (ax_kd k1).2 ∧ ax_cs r ≤ 8 ∧ nxt L r (ax_dr s k1 (va_cpy (s.2.1 k0) (s.2.1 k1) sp.toNatClampNeg dp.toNatClampNeg n.toNatClampNeg))
  | 79 => s.1 + 1 ≤ top ∧ s.1 < 92 ∧ ax_kd s.1 = (a, b) ∧ nxt L (.ref s.1 :: st) (ax_nw s)
  | 80 => ax_pI st fun n r => s.1 + 1 ≤ top ∧ s.1 < 92 ∧ ¬ n < 0 ∧ ax_kd s.1 = (10, n.toNatClampNeg) ∧ nxt L (.ref s.1 :: r) (ax_nw s)
  | 81 => ax_pI st fun n r => s.1 + 1 ≤ top ∧ s.1 < 92 ∧ ¬ n < 0 ∧ ax_kd s.1 = (11, n.toNatClampNeg) ∧ nxt L (.ref s.1 :: r) (ax_nw s)
  | 82 => ax_pI st fun v r => r = [] ∧ s.1 = top ∧ ret (some (.int v)) s
  | 83 => ax_pI st fun v r => r = [] ∧ s.1 = top ∧ (v = 0 ∨ v = 1) ∧ ret (some (.int v)) s
  | 84 => ax_pL st fun v r => r = [] ∧ s.1 = top ∧ ret (some (.long v)) s
  | 85 => st = [] ∧ s.1 = top ∧ ret none s
  | 86 => ax_pI st fun y r => ax_pI r fun x r => ax_cs r ≤ 8 ∧ s.1 ≤ top ∧ nxt L (.int (if x < y then y else x) :: r) s
  | 87 => ax_pI st fun y r => ax_pI r fun x r => ax_cs r ≤ 8 ∧ s.1 ≤ top ∧ nxt L (.int (if y < x then y else x) :: r) s
  | 88 => ax_pI st fun x r => ax_cs r ≤ 8 ∧ s.1 ≤ top ∧ nxt L (.int (if 0 ≤ x then x else 0 - x) :: r) s
  | 89 => ax_pL st fun y r => ax_pL r fun x r => ax_cs r ≤ 8 ∧ s.1 ≤ top ∧ nxt L (.long (if y < x then x else y) :: r) s
  | 90 => ax_pL st fun y r => ax_pL r fun x r => ax_cs r ≤ 8 ∧ s.1 ≤ top ∧ nxt L (.long (if y < x then y else x) :: r) s
  | 91 => ax_pL st fun x r => ax_cs r ≤ 8 ∧ s.1 ≤ top ∧ nxt L (.long (if 0 < x then x else -x) :: r) s
  | _ => False
/-- what the bytes must be -/
def ax_ins (pc op a b c : Nat) (ws : List Nat) (cv : Value) : Instr × Nat :=
  let iv : Int := (match cv with | .int v => v.toInt | _ => 0)
  let lv : Nat := (match cv with | .long v => v.toNatClampNeg | _ => 0)
  let of : Int := (a : Int) - (pc : Int)
  match op with
  | 0 => (.iconst iv, 1)
  | 1 => (.bipush iv, 2)
  | 2 => (.sipush iv, 3)
  | 3 => (.ldc a, 2)
  | 4 => (.ldc_w a, 3)
  | 5 => (.lconst (Fin.ofNat 2 lv), 1)
  | 6 => (.ldc2_w a, 3)
  | 7 => (.iload_n (Fin.ofNat 4 a), 1)
  | 8 => (.iload a, 2)
  | 9 => (.lload_n (Fin.ofNat 4 a), 1)
  | 10 => (.lload a, 2)
  | 11 => (.aload_n (Fin.ofNat 4 a), 1)
  | 12 => (.iinc a iv, 3)
  | 13 => (.istore_n (Fin.ofNat 4 a), 1)
  | 14 => (.istore a, 2)
  | 15 => (.lstore_n (Fin.ofNat 4 a), 1)
  | 16 => (.lstore a, 2)
  | 17 => (.astore_n (Fin.ofNat 4 a), 1)
  | 18 => (.iadd, 1)
  | 19 => (.isub, 1)
  | 20 => (.imul, 1)
  | 21 => (.idiv, 1)
  | 22 => (.irem, 1)
  | 23 => (.ineg, 1)
  | 24 => (.iand, 1)
  | 25 => (.ior, 1)
  | 26 => (.ixor, 1)
  | 27 => (.ishl, 1)
  | 28 => (.ishr, 1)
  | 29 => (.ladd, 1)
  | 30 => (.lsub, 1)
  | 31 => (.lmul, 1)
  | 32 => (.ldiv, 1)
  | 33 => (.lrem, 1)
  | 34 => (.land, 1)
  | 35 => (.lor, 1)
  | 36 => (.lshl, 1)
  | 37 => (.lshr, 1)
  | 38 => (.lushr, 1)
  | 39 => (.lcmp, 1)
  | 40 => (.i2l, 1)
  | 41 => (.l2i, 1)
  | 42 => (.dup, 1)
  | 44 => (.pop, 1)
  | 45 => (.dup2, 1)
  | 46 => (.pop2, 1)
  | 47 => (.ifCond .eq of, 3)
  | 48 => (.ifCond .ne of, 3)
  | 49 => (.ifCond .lt of, 3)
  | 50 => (.ifCond .ge of, 3)
  | 51 => (.ifCond .gt of, 3)
  | 52 => (.ifCond .le of, 3)
  | 53 => (.if_icmp .eq of, 3)
  | 54 => (.if_icmp .ne of, 3)
  | 55 => (.if_icmp .lt of, 3)
  | 56 => (.if_icmp .ge of, 3)
  | 57 => (.if_icmp .gt of, 3)
  | 58 => (.if_icmp .le of, 3)
  | 59 => (.goto of, 3)
  | 60 => (.tableswitch of (b : Int) ((b : Int) + ((ax_prs ws).length : Int) - 1) ((ax_prs ws).map fun q => (q.2 : Int) - (pc : Int)).toArray, c)
  | 61 => (.lookupswitch of ((ax_prs ws).map fun q => ((q.1 : Int), (q.2 : Int) - (pc : Int))).toArray, c)
  | 62 => (.getfield (ws.getD 0 0), 3)
  | 63 => (.putfield (ws.getD 0 0), 3)
  | 64 => (.putfield (ws.getD 0 0), 3)
  | 65 => (.putfield (ws.getD 0 0), 3)
  | 66 => (.putfield (ws.getD 0 0), 3)
  | 67 => (.iaload, 1)
  | 68 => (.iastore, 1)
  | 69 => (.laload, 1)
  | 70 => (.lastore, 1)
  | 71 => (.arraylength, 1)
  | 72 => (.getstatic (ws.getD 0 0), 3)
  | 73 => (.invokevirtual (ws.getD 0 0), 3)
  | 74 => (.invokestatic (ws.getD 0 0), 3)
  | 75 => (.invokespecial (ws.getD 0 0), 3)
  | 76 => (.invokespecial (ws.getD 0 0), 3)
  | 77 => (.invokespecial (ws.getD 0 0), 3)
  | 78 => (.invokestatic (ws.getD 0 0), 3)
  | 79 => (.new (ws.getD 0 0), 3)
  | 80 => (.newarray .int, 2)
  | 81 => (.newarray .long, 2)
  | 82 => (.ireturn, 1)
  | 83 => (.ireturn, 1)
  | 84 => (.lreturn, 1)
  | 85 => (.return_, 1)
  | _ => (.invokestatic (ws.getD 0 0), 3)

def ax_nest : List (String × Nat × Nat) := [("AskewLetters", 9, 23), ("AskewLetters$Desk", 11, 59), ("AskewLetters$Desk", 20, 48), ("AskewLetters$Desk", 27, 37), ("AskewLetters", 25, 0), ("AskewLetters", 43, 43), ("AskewLetters", 50, 17), ("AskewLetters", 57, 67)]
/-- what else must hold of a row, by the fixed tables: the class that it stands in, its room, its answer's type -/
def ax_chk (own : String) (fr lo : Nat) (rt : Option FieldType) (nL op a b c : Nat) (ws : List Nat) (cv : Value) : Bool :=
  let wd : Option Cond := ax_wd (ws.getD 1 9) (ws.getD 2 0)
  match op with
  | 0 => (match cv with | .int _ => true | _ => false)
  | 1 => (match cv with | .int v => decide ((Int8.ofInt v.toInt).toInt32 = v) | _ => false)
  | 2 => (match cv with | .int v => decide ((Int16.ofInt v.toInt).toInt32 = v) | _ => false)
  | 3 => (match cv with | .int v => decide (ax_wd (ws.getD 0 9) (ws.getD 1 0) = some (.constant own a v)) && goodWord (.constant own a v) | _ => false)
  | 4 => (match cv with | .int v => decide (ax_wd (ws.getD 0 9) (ws.getD 1 0) = some (.constant own a v)) && goodWord (.constant own a v) | _ => false)
  | 5 => (match cv with | .long v => decide (v = 0 ∨ v = 1) | _ => false)
  | 6 => (match cv with | .long v => decide (ax_wd (ws.getD 0 9) (ws.getD 1 0) = some (.constantLong own a v)) && goodWord (.constantLong own a v) | _ => false)
  | 7 => decide (a < 4)
  | 9 => decide (a < 4)
  | 11 => decide (a < 4)
  | 12 => decide (a < nL)
  | 13 => decide (a < 4 ∧ a < nL)
  | 14 => decide (a < nL)
  | 15 => decide (a < 4 ∧ a + 1 < nL)
  | 16 => decide (a + 1 < nL)
  | 17 => decide (a < 4 ∧ a < nL)
  | 60 => decide ((ax_prs ws).map (fun q => q.1) = (List.range (ax_prs ws).length).map (fun k => b + k)) && (ax_prs ws).all (fun q => decide (q.1 < 1000))
  | 61 => (ax_prs ws).all (fun q => decide (q.1 < 1000)) && (((ax_prs ws).map fun q => ((q.1 : Int), (q.2 : Int))).zip (((ax_prs ws).map fun q => ((q.1 : Int), (q.2 : Int))).drop 1)).all (fun (x, y) => decide (x.1 < y.1))
  | 62 => decide (a < 10 ∧ b < ax_N a ∧ ax_fk a b = c ∧ wd = some (.fieldLink own (ws.getD 0 0) (ax_Tb a b).1 (ax_Tb a b).2.1 (ax_Tb a b).2.2.1)) && goodWord (.fieldLink own (ws.getD 0 0) (ax_Tb a b).1 (ax_Tb a b).2.1 (ax_Tb a b).2.2.1)
  | 63 => decide (a < 10 ∧ b < ax_N a ∧ ax_ty a b = .int ∧ (ax_Tb a b).2.2.2 = false ∧ wd = some (.fieldLink own (ws.getD 0 0) (ax_Tb a b).1 (ax_Tb a b).2.1 (ax_Tb a b).2.2.1)) && goodWord (.fieldLink own (ws.getD 0 0) (ax_Tb a b).1 (ax_Tb a b).2.1 (ax_Tb a b).2.2.1)
  | 64 => decide (a < 10 ∧ b < ax_N a ∧ ax_ty a b = .boolean ∧ (ax_Tb a b).2.2.2 = false ∧ wd = some (.fieldLink own (ws.getD 0 0) (ax_Tb a b).1 (ax_Tb a b).2.1 (ax_Tb a b).2.2.1)) && goodWord (.fieldLink own (ws.getD 0 0) (ax_Tb a b).1 (ax_Tb a b).2.1 (ax_Tb a b).2.2.1)
  | 65 => decide (a < 10 ∧ b < ax_N a ∧ ax_ty a b = .long ∧ (ax_Tb a b).2.2.2 = false ∧ wd = some (.fieldLink own (ws.getD 0 0) (ax_Tb a b).1 (ax_Tb a b).2.1 (ax_Tb a b).2.2.1)) && goodWord (.fieldLink own (ws.getD 0 0) (ax_Tb a b).1 (ax_Tb a b).2.1 (ax_Tb a b).2.2.1)
  | 66 => decide (a < 10 ∧ b < ax_N a ∧ ax_fk a b = 2 ∧ (ax_Tb a b).2.2.2 = true ∧ (ax_Tb a b).1 = own ∧ wd = some (.fieldLink own (ws.getD 0 0) (ax_Tb a b).1 (ax_Tb a b).2.1 (ax_Tb a b).2.2.1)) && goodWord (.fieldLink own (ws.getD 0 0) (ax_Tb a b).1 (ax_Tb a b).2.1 (ax_Tb a b).2.2.1) && (match ax_ty a b with | .object _ => true | .array _ => true | _ => false)
  | 72 => (decide (a = 1001 ∧ wd = some (.fieldLink own (ws.getD 0 0) "AskewLetters" "LEAST_SETTING" "[I")) && goodWord (.fieldLink own (ws.getD 0 0) "AskewLetters" "LEAST_SETTING" "[I")) || (decide (a = 1002 ∧ wd = some (.fieldLink own (ws.getD 0 0) "AskewLetters" "GREATEST_SETTING" "[I")) && goodWord (.fieldLink own (ws.getD 0 0) "AskewLetters" "GREATEST_SETTING" "[I"))
  | 73 => decide (a < 205 ∧ (ax_M a).2.2.2.2.2.2.1 = 0 ∧ (ax_M a).2.2.2.2.2.2.2 = b ∧ c < 10 ∧ ax_cn c = (ax_M a).1.cls ∧ (ax_M a).2.2.2.2.1 + 1 ≤ fr ∧ 8 + ((ax_M a).2.2.1 + 11) + (ax_M a).2.2.2.2.2.1 ≤ lo ∧ wd = some (.methodLink own (ws.getD 0 0) (ax_M a).1)) && goodWord (.methodLink own (ws.getD 0 0) (ax_M a).1)
  | 74 => decide (a < 205 ∧ (ax_M a).2.2.2.2.2.2.1 = 1 ∧ (ax_M a).2.2.2.2.2.2.2 = b ∧ (ax_M a).2.2.2.2.1 + 1 ≤ fr ∧ 8 + ((ax_M a).2.2.1 + 11) + (ax_M a).2.2.2.2.2.1 ≤ lo ∧ wd = some (.methodLink own (ws.getD 0 0) (ax_M a).1)) && goodWord (.methodLink own (ws.getD 0 0) (ax_M a).1)
  | 75 => decide (a < 205 ∧ (ax_M a).2.2.2.2.2.2.1 = 2 ∧ (ax_M a).2.2.2.2.2.2.2 = 0 ∧ (ax_M a).2.2.2.2.1 + 1 ≤ fr ∧ 8 + ((ax_M a).2.2.1 + 11) + (ax_M a).2.2.2.2.2.1 ≤ lo ∧ wd = some (.methodLink own (ws.getD 0 0) (ax_M a).1)) && goodWord (.methodLink own (ws.getD 0 0) (ax_M a).1)
  | 76 => decide (a < 205 ∧ (ax_M a).2.2.2.2.2.2.1 = 2 ∧ (ax_M a).2.2.2.2.2.2.2 = 0 ∧ (ax_M a).2.2.2.2.1 + 1 ≤ fr ∧ 8 + ((ax_M a).2.2.1 + 11) + (ax_M a).2.2.2.2.2.1 ≤ lo ∧ (own, ws.getD 0 0, a) ∈ ax_nest)
  | 77 => decide (1 ≤ fr ∧ 20 ≤ lo ∧ wd = some (.methodLink own (ws.getD 0 0) objectInit)) && goodWord (.methodLink own (ws.getD 0 0) objectInit)
  | 78 => decide (1 ≤ fr ∧ 30 ≤ lo ∧ wd = some (.methodLink own (ws.getD 0 0) arraycopyName)) && goodWord (.methodLink own (ws.getD 0 0) arraycopyName)
  | 79 => decide (a < 10 ∧ b = ax_N a ∧ wd = some (.classLink own (ws.getD 0 0) (ax_cn a)) ∧ ax_wd (ws.getD 3 9) (ws.getD 4 0) = some (.instantiable (ax_cn a) (ax_N a)) ∧ ax_wd (ws.getD 5 9) (ws.getD 6 0) = some (.initialized (ax_cn a))) && goodWord (.classLink own (ws.getD 0 0) (ax_cn a)) && goodWord (.instantiable (ax_cn a) (ax_N a)) && goodWord (.initialized (ax_cn a))
  | 82 => decide (rt = some .int)
  | 83 => decide (rt = some .boolean)
  | 84 => decide (rt = some .long)
  | 85 => decide (rt = none)
  | 86 => decide (1 ≤ fr ∧ 30 ≤ lo ∧ wd = some (.methodLink own (ws.getD 0 0) Lib.Math.max.name)) && goodWord (.methodLink own (ws.getD 0 0) Lib.Math.max.name)
  | 87 => decide (1 ≤ fr ∧ 30 ≤ lo ∧ wd = some (.methodLink own (ws.getD 0 0) Lib.Math.min.name)) && goodWord (.methodLink own (ws.getD 0 0) Lib.Math.min.name)
  | 88 => decide (1 ≤ fr ∧ 30 ≤ lo ∧ wd = some (.methodLink own (ws.getD 0 0) Lib.Math.abs.name)) && goodWord (.methodLink own (ws.getD 0 0) Lib.Math.abs.name)
  | 89 => decide (1 ≤ fr ∧ 30 ≤ lo ∧ wd = some (.methodLink own (ws.getD 0 0) Lib.MathLoose.max_long.x)) && goodWord (.methodLink own (ws.getD 0 0) Lib.MathLoose.max_long.x)
  | 90 => decide (1 ≤ fr ∧ 30 ≤ lo ∧ wd = some (.methodLink own (ws.getD 0 0) Lib.MathLoose.min_long.x)) && goodWord (.methodLink own (ws.getD 0 0) Lib.MathLoose.min_long.x)
  | 91 => decide (1 ≤ fr ∧ 30 ≤ lo ∧ wd = some (.methodLink own (ws.getD 0 0) Lib.MathLoose.abs_long.x)) && goodWord (.methodLink own (ws.getD 0 0) Lib.MathLoose.abs_long.x)
  | _ => true
/-- a row stands in the bytes -/
def ax_okr (own : String) (fr lo : Nat) (rt : Option FieldType) (nL : Nat) (bytes : ByteArray) (r : ax_Row) : Bool :=
  decide (decode bytes r.1 = .ok (ax_ins r.1 r.2.1 r.2.2.1 r.2.2.2.1 r.2.2.2.2.1 r.2.2.2.2.2.1 r.2.2.2.2.2.2)) && ax_chk own fr lo rt nL r.2.1 r.2.2.1 r.2.2.2.1 r.2.2.2.2.1 r.2.2.2.2.2.1 r.2.2.2.2.2.2
end
section
/-! The machine of our own is sound: what it says of a row, the JVM does. -/
abbrev ax_G : Type := Launch × Nat × va_G × ClassId × ClassId × (Nat → Nat × Nat × (Nat → Int32))
def ax_ad (g : ax_G) (k : Nat) : Nat := if k < 1000 then g.2.1 + k else (g.2.2.2.2.2 k).1
def ax_cv (g : ax_G) (v : Value) : Value := match v with
  | .ref k => .ref (ax_ad g k)
  | w => w
def ax_A (g : ax_G) : Nat → Prop := fun q => g.2.1 ≤ q
def ax_xt (g : ax_G) (k : Nat) : Nat × (Nat → Int32) := ((g.2.2.2.2.2 k).2.1, (g.2.2.2.2.2 k).2.2)
def ax_ce (g : ax_G) (s : ax_St) (k : Nat) : va_E :=
  if (ax_kd k).1 = 10 then .inl (g.2.2.2.1, (ax_kd k).2, .inl (s.2.1 k))
  else if (ax_kd k).1 = 11 then .inl (g.2.2.2.2.1, (ax_kd k).2, .inr (.inl (s.2.2.1 k)))
  else .inr ((ax_kd k).1, (List.range (ax_kd k).2).map fun j => ax_cv g (ax_gv s k j (ax_fk (ax_kd k).1 j)))
def ax_ws (g : ax_G) (s : ax_St) : va_W := (List.range s.1).map fun k => (g.2.1 + k, ax_ce g s k)
def ax_Rep (g : ax_G) (s : ax_St) (H : Heap) : Prop := va_P g.2.2.1 ax_cls (ax_ws g s) H ∧ va_D (ax_A g) (ax_ws g s) ∧ s.1 ≤ 92
theorem ax_cat (g : ax_G) (v : Value) : (ax_cv g v).category = v.category := by cases v <;> rfl
theorem ax_ad_lt (g : ax_G) {k : Nat} (h : k < 1000) : ax_ad g k = g.2.1 + k := by simp [ax_ad, h]
theorem ax_ws_at {g : ax_G} {s : ax_St} {k : Nat} (h : k < s.1) : (ax_ws g s)[k]? = some (g.2.1 + k, ax_ce g s k) := by
  simp [ax_ws, List.getElem?_map, List.getElem?_range h]
theorem ax_ws_len (g : ax_G) (s : ax_St) : (ax_ws g s).length = s.1 := by simp [ax_ws]
theorem ax_ws_set {g : ax_G} {s s' : ax_St} {k : Nat} {e : va_E} (h : k < s.1) (h1 : s'.1 = s.1) (he : ax_ce g s' k = e) (ho : ∀ j, j ≠ k → ax_ce g s' j = ax_ce g s j) : (ax_ws g s).set k (g.2.1 + k, e) = ax_ws g s' := by
  apply List.ext_getElem?
  intro j
  rw [List.getElem?_set, ax_ws_len]
  by_cases hj : k = j
  · subst hj
    rw [if_pos rfl, if_pos h, ax_ws_at (by rw [h1]; exact h), he]
  · rw [if_neg hj]
    by_cases hl : j < s.1
    · rw [ax_ws_at hl, ax_ws_at (by rw [h1]; exact hl), ho j (Ne.symm hj)]
    · rw [List.getElem?_eq_none (by rw [ax_ws_len]; omega), List.getElem?_eq_none (by rw [ax_ws_len]; omega)]
theorem ax_up_s {α : Type} (f : Nat → α) (k : Nat) (v : α) : ax_up f k v k = v := by simp [ax_up]
theorem ax_up_n {α : Type} (f : Nat → α) {k j : Nat} (v : α) (h : j ≠ k) : ax_up f k v j = f j := by simp [ax_up, h]
def ax_asc (g : ax_G) : Nat → ax_Lo → List (Nat × Value)
  | _, [] => []
  | i, some v :: l => (i, ax_cv g v) :: ax_asc g (i + 1) l
  | i, none :: l => ax_asc g (i + 1) l
theorem ax_asc_mem {g : ax_G} {L : ax_Lo} : ∀ {i : Nat} {q : Nat × Value}, q ∈ ax_asc g i L ↔ ∃ (j : Nat) (v : Value), L[j]? = some (some v) ∧ q = (i + j, ax_cv g v) := by
  induction L with
  | nil => intro i q; simp [ax_asc]
  | cons a l ih =>
    intro i q
    cases a with
    | none =>
      simp only [ax_asc]
      rw [ih]
      constructor
      · rintro ⟨j, v, h1, h2⟩
        exact ⟨j + 1, v, by simpa using h1, by rw [h2, show i + 1 + j = i + (j + 1) by omega]⟩
      · rintro ⟨j, v, h1, h2⟩
        cases j with
        | zero => simp at h1
        | succ j => exact ⟨j, v, by simpa using h1, by rw [h2, show i + 1 + j = i + (j + 1) by omega]⟩
    | some w =>
      simp only [ax_asc, List.mem_cons]
      rw [ih]
      constructor
      · rintro (h | ⟨j, v, h1, h2⟩)
        · exact ⟨0, w, by simp, by simpa using h⟩
        · exact ⟨j + 1, v, by simpa using h1, by rw [h2, show i + 1 + j = i + (j + 1) by omega]⟩
      · rintro ⟨j, v, h1, h2⟩
        cases j with
        | zero =>
          simp at h1
          subst h1
          exact Or.inl (by simpa using h2)
        | succ j => exact Or.inr ⟨j, v, by simpa using h1, by rw [h2, show i + 1 + j = i + (j + 1) by omega]⟩
theorem ax_s1_at : ∀ {L : ax_Lo} {i : Nat} {v w : Value} {j : Nat}, (ax_s1 L i v)[j]? = some (some w) → (j = i ∧ w = v) ∨ (j ≠ i ∧ L[j]? = some (some w) ∧ ¬ (j + 1 = i ∧ w.category = 2)) := by
  intro L
  induction L with
  | nil => intro i v w j h; simp [ax_s1] at h
  | cons a l ih =>
    intro i v w j h
    match i with
    | 0 =>
      cases j with
      | zero => simp [ax_s1] at h; exact Or.inl ⟨rfl, h.symm⟩
      | succ j => simp [ax_s1] at h; exact Or.inr ⟨by omega, by simpa using h, by omega⟩
    | 1 =>
      cases j with
      | zero =>
        simp [ax_s1] at h
        refine Or.inr ⟨by omega, ?_, ?_⟩
        · rcases a with _ | (_ | _ | _ | _ | _ | _ | _) <;> simp_all [ax_cb]
        · rcases a with _ | (_ | _ | _ | _ | _ | _ | _) <;> simp_all [ax_cb] <;> (first | (subst h; simp [Value.category]) | skip)
      | succ j =>
        simp [ax_s1] at h
        rcases ih h with ⟨h1, h2⟩ | ⟨h1, h2, h3⟩
        · exact Or.inl ⟨by omega, h2⟩
        · exact Or.inr ⟨by omega, by simpa using h2, by omega⟩
    | n + 2 =>
      cases j with
      | zero => simp [ax_s1] at h; exact Or.inr ⟨by omega, by simpa using h, by omega⟩
      | succ j =>
        simp [ax_s1] at h
        rcases ih h with ⟨h1, h2⟩ | ⟨h1, h2, h3⟩
        · exact Or.inl ⟨by omega, h2⟩
        · exact Or.inr ⟨by omega, by simpa using h2, fun q => h3 ⟨by omega, q.2⟩⟩
theorem ax_s2_at : ∀ {L : ax_Lo} {i : Nat} {v w : Value} {j : Nat}, (ax_s2 L i v)[j]? = some (some w) → (j = i ∧ w = v) ∨ (j ≠ i ∧ j ≠ i + 1 ∧ L[j]? = some (some w) ∧ ¬ (j + 1 = i ∧ w.category = 2)) := by
  intro L
  induction L with
  | nil => intro i v w j h; simp [ax_s2] at h
  | cons a l ih =>
    intro i v w j h
    match i with
    | 0 =>
      cases l with
      | nil =>
        cases j with
        | zero => simp [ax_s2] at h
        | succ j => simp [ax_s2] at h
      | cons b l =>
        match j with
        | 0 => simp [ax_s2] at h; exact Or.inl ⟨rfl, h.symm⟩
        | 1 => simp [ax_s2] at h
        | j + 2 => simp [ax_s2] at h; exact Or.inr ⟨by omega, by omega, by simpa using h, by omega⟩
    | 1 =>
      cases j with
      | zero =>
        simp [ax_s2] at h
        refine Or.inr ⟨by omega, by omega, ?_, ?_⟩
        · rcases a with _ | (_ | _ | _ | _ | _ | _ | _) <;> simp_all [ax_cb]
        · rcases a with _ | (_ | _ | _ | _ | _ | _ | _) <;> simp_all [ax_cb] <;> (first | (subst h; simp [Value.category]) | skip)
      | succ j =>
        simp [ax_s2] at h
        rcases ih h with ⟨h1, h2⟩ | ⟨h1, h2, h3, h4⟩
        · exact Or.inl ⟨by omega, h2⟩
        · exact Or.inr ⟨by omega, by omega, by simpa using h3, by omega⟩
    | n + 2 =>
      cases j with
      | zero => simp [ax_s2] at h; exact Or.inr ⟨by omega, by omega, by simpa using h, by omega⟩
      | succ j =>
        simp [ax_s2] at h
        rcases ih h with ⟨h1, h2⟩ | ⟨h1, h2, h3, h4⟩
        · exact Or.inl ⟨by omega, h2⟩
        · exact Or.inr ⟨by omega, by omega, by simpa using h3, fun q => h4 ⟨by omega, q.2⟩⟩
theorem ax_has1 {g : ax_G} {ls : Array Slot} {nL i : Nat} {L : ax_Lo} {v : Value} (h : lv_has ls nL ((i, ax_cv g v) :: (ax_asc g 0 L).filter (fun q => !(q.1 == i) && !(q.1 + 1 == i && q.2.category == 2)))) : lv_has ls nL (ax_asc g 0 (ax_s1 L i v)) := by
  refine ⟨h.1, h.2.1, fun q hq => h.2.2 q ?_⟩
  obtain ⟨j, w, h1, rfl⟩ := ax_asc_mem.mp hq
  rcases ax_s1_at h1 with ⟨rfl, rfl⟩ | ⟨e1, e2, e3⟩
  · simp
  · refine List.mem_cons_of_mem _ (List.mem_filter.mpr ⟨ax_asc_mem.mpr ⟨j, w, e2, rfl⟩, ?_⟩)
    simp only [Nat.zero_add, ax_cat]
    simp
    exact ⟨e1, by omega⟩
theorem ax_has2 {g : ax_G} {ls : Array Slot} {nL i : Nat} {L : ax_Lo} {v : Value} (h : lv_has ls nL ((i, ax_cv g v) :: (ax_asc g 0 L).filter (fun q => !(q.1 == i) && (!(q.1 == i + 1) && !(q.1 + 1 == i && q.2.category == 2))))) : lv_has ls nL (ax_asc g 0 (ax_s2 L i v)) := by
  refine ⟨h.1, h.2.1, fun q hq => h.2.2 q ?_⟩
  obtain ⟨j, w, h1, rfl⟩ := ax_asc_mem.mp hq
  rcases ax_s2_at h1 with ⟨rfl, rfl⟩ | ⟨e1, e2, e3, e4⟩
  · simp
  · refine List.mem_cons_of_mem _ (List.mem_filter.mpr ⟨ax_asc_mem.mpr ⟨j, w, e3, rfl⟩, ?_⟩)
    simp only [Nat.zero_add, ax_cat]
    simp
    exact ⟨e1, e2, by omega⟩
theorem ax_has_at {g : ax_G} {ls : Array Slot} {nL i : Nat} {L : ax_Lo} {v : Value} (h : lv_has ls nL (ax_asc g 0 L)) (hv : L[i]? = some (some v)) : ls[i]? = some (.val (ax_cv g v)) := by
  have := h.2.2 (i, ax_cv g v) (ax_asc_mem.mpr ⟨i, v, hv, by simp⟩)
  exact this
theorem ax_pI_e {st : ax_Sk} {f : Int32 → ax_Sk → Prop} (h : ax_pI st f) : ∃ x r, st = .int x :: r ∧ f x r := by
  unfold ax_pI at h
  split at h
  · exact ⟨_, _, rfl, h⟩
  · cases h
theorem ax_pL_e {st : ax_Sk} {f : Int64 → ax_Sk → Prop} (h : ax_pL st f) : ∃ x r, st = .long x :: r ∧ f x r := by
  unfold ax_pL at h
  split at h
  · exact ⟨_, _, rfl, h⟩
  · cases h
theorem ax_pR_e {st : ax_Sk} {f : Nat → ax_Sk → Prop} (h : ax_pR st f) : ∃ x r, st = .ref x :: r ∧ f x r := by
  unfold ax_pR at h
  split at h
  · exact ⟨_, _, rfl, h⟩
  · cases h
theorem ax_p1_e {st : ax_Sk} {f : Value → ax_Sk → Prop} (h : ax_p1 st f) : ∃ x r, st = x :: r ∧ x.category = 1 ∧ f x r := by
  unfold ax_p1 at h
  split at h
  · exact ⟨_, _, rfl, rfl, h⟩
  · exact ⟨_, _, rfl, rfl, h⟩
  · cases h
theorem ax_lI_e {L : ax_Lo} {i : Nat} {f : Int32 → Prop} (h : ax_lI L i f) : ∃ x, L[i]? = some (some (.int x)) ∧ f x := by
  unfold ax_lI at h
  split at h
  · rename_i x e; exact ⟨_, e, h⟩
  · cases h
theorem ax_lL_e {L : ax_Lo} {i : Nat} {f : Int64 → Prop} (h : ax_lL L i f) : ∃ x, L[i]? = some (some (.long x)) ∧ f x := by
  unfold ax_lL at h
  split at h
  · rename_i x e; exact ⟨_, e, h⟩
  · cases h
theorem ax_lR_e {L : ax_Lo} {i : Nat} {f : Nat → Prop} (h : ax_lR L i f) : ∃ x, L[i]? = some (some (.ref x)) ∧ f x := by
  unfold ax_lR at h
  split at h
  · rename_i x e; exact ⟨_, e, h⟩
  · cases h
theorem ax_tk_e : ∀ {n : Nat} {st : ax_Sk} {acc : List Value} {f : List Value → ax_Sk → Prop}, ax_tk n st acc f → ∃ as r, st = as ++ r ∧ as.length = n ∧ f (as.reverse ++ acc) r := by
  intro n
  induction n with
  | zero => intro st acc f h; exact ⟨[], st, rfl, rfl, h⟩
  | succ n ih =>
    intro st acc f h
    cases st with
    | nil => cases h
    | cons v st =>
      obtain ⟨as, r, h1, h2, h3⟩ := ih h
      exact ⟨v :: as, r, by rw [h1]; rfl, by simp [h2], by simpa using h3⟩
theorem ax_cs_eq (g : ax_G) : ∀ (st : ax_Sk), ((st.map (ax_cv g)).map fun v => v.category).sum = ax_cs st := by
  intro st
  induction st with
  | nil => rfl
  | cons v st ih =>
    simp only [List.map_cons, List.sum_cons, ax_cat, ih]
    cases v <;> simp [ax_cs, Value.category, Nat.add_comm]
end
section
/-! The world at a state, a method's contract in our words, a point of a method; one row of the kit for each of our ops. -/
/-- what holds of a state all along: the classes, the links to nest mates, the arrays from outside -/
def ax_Wld (g : ax_G) (U : State) : Prop :=
  va_K g.2.2.1 ax_cls [(g.2.2.2.1, .int), (g.2.2.2.2.1, .long)] U ∧
  (∀ q ∈ ax_nest, va_Nw (.methodLinkNest q.1 q.2.1 (ax_M q.2.2).1 "AskewLetters") U) ∧
  (∀ k, 1000 ≤ k → k < 1003 → va_T .int (g.2.2.2.2.2 k).1 (g.2.2.2.2.2 k).2.1 (fun j => .int ((g.2.2.2.2.2 k).2.2 j)) (ax_A g) U U.heap) ∧
  va_Z "AskewLetters" "LEAST_SETTING" "[I" (.ref (g.2.2.2.2.2 1001).1) (ax_A g) U U.heap ∧
  va_Z "AskewLetters" "GREATEST_SETTING" "[I" (.ref (g.2.2.2.2.2 1002).1) (ax_A g) U U.heap
theorem ax_Wld_go {g : ax_G} {s U : State} {H : Heap} {locs : List Loc} (hW : ax_Wld g s) (hS : va_S (ax_A g) s.heap H locs) (hU : U.heap = H) (hw : s.WarmedH U.vm) : ax_Wld g U := by
  obtain ⟨h1, h2, h3, h4, h5⟩ := hW
  have hq : ∀ a : Nat, a < s.heap.size → ¬ ax_A g a → U.heap[a]? = s.heap[a]? := fun a ha hn => by rw [hU]; exact hS.2.1 a ha hn
  exact ⟨va_K.moved hw.alike h1, fun q hq => va_Nw.warmM hw (h2 q hq), fun k k1 k2 => va_T.moved hw.alike (va_T.kept (h3 k k1 k2) hq), va_Z.moved hw.alike (va_Z.kept h4 hq), va_Z.moved hw.alike (va_Z.kept h5 hq)⟩
def ax_Pc (g : ax_G) (as : List Value) (s : ax_St) : Array Value → State → Prop := fun v U => v = (as.map (ax_cv g)).toArray ∧ ax_Rep g s U.heap ∧ U.heap.size = g.2.1 + s.1 ∧ ax_Wld g U
def ax_Qc (g : ax_G) (K : ax_Po) (top : Nat) : Array Value → State → Outcome → State → Prop := fun _ st o t => (∃ (r : Option Value) (s' : ax_St), o = .returned (r.map (ax_cv g)) ∧ K r s' ∧ s'.1 = top ∧ ax_Rep g s' t.heap) ∧ va_F (ax_A g) st t
def ax_wsy (y : Nat) : List Cond := .code (ax_M y).1 (ax_M y).2.1 (ax_M y).2.2.1 (ax_M y).2.2.2.1 :: ax_T
def ax_rm (y n : Nat) : Room := { frames := (ax_M y).2.2.2.2.1, cells := ax_mc y, slots := ax_Sl (n + ax_mc y) - ax_Sl n, locals := (ax_M y).2.2.2.2.2.1 }
/-- THE CONTRACT of method y: from these arguments and this state it ends, and K holds of its answer and the state then -/
def ax_MM (g : ax_G) (y : Nat) (as : List Value) (s : ax_St) (K : ax_Po) : Prop := Met g.1 (ax_M y).1 (ax_wsy y) (ax_rm y s.1) (ax_Pc g as s) (ax_Qc g K (s.1 + ax_mc y)) (ax_mc y) (ax_Sl (s.1 + ax_mc y) - ax_Sl s.1) (ax_A g)
theorem ax_blind (g : ax_G) (as : List Value) (s : ax_St) : FrameBlind (ax_Pc g as s) := by
  intro a U f mk h
  obtain ⟨h1, h2, h3, h4, h5, h6, h7, h8⟩ := h
  exact ⟨h1, h2, h3, va_K.moved (u := U) (U := U.calling f mk a) (Vm.Alike.refl U.vm) h4, fun q hq => va_Nw.same rfl (show U.vm = (U.calling f mk a).vm from rfl) (h5 q hq), fun k k1 k2 => va_T.moved (u := U) (U := U.calling f mk a) (Vm.Alike.refl U.vm) (h6 k k1 k2), va_Z.moved (u := U) (U := U.calling f mk a) (Vm.Alike.refl U.vm) h7, va_Z.moved (u := U) (U := U.calling f mk a) (Vm.Alike.refl U.vm) h8⟩
theorem ax_Sl_mono {a b : Nat} (h : a ≤ b) : ax_Sl a ≤ ax_Sl b := by
  induction h with
  | refl => exact Nat.le_refl _
  | step _ ih => exact Nat.le_trans ih (Nat.le_add_right _ _)
/-- a point of a method's body -/
def ax_GG (g : ax_G) (p : Program) (e : Env) (R : Room) (s : State) (m : MethodId) (args : Array Value) (below : List Frame) (meth : Method) (c : Code) (Q : State → Prop) (nL n0 : Nat) (pc : Nat) (L : ax_Lo) (st : ax_Sk) (z : ax_St) : Prop :=
  n0 ≤ z.1 → ∀ (ls : Array Slot) (H : Heap) (locs : List Loc), lv_has ls nL (ax_asc g 0 L) → ax_Rep g z H → va_S (ax_A g) s.heap H locs → W p g.1 e R s m args below meth c H locs (z.1 - n0) (ax_Sl z.1 - ax_Sl n0) Q (F0 m pc ls (st.map (ax_cv g)))
/-- what holds in a method's body all along -/
def ax_BC (g : ax_G) (p : Program) (R : Room) (s : State) (m : MethodId) (args : Array Value) (meth : Method) (c : Code) (cc : ByteArray) (own : String) (fr lo : Nat) (rt : Option FieldType) (nL n0 top : Nat) : Prop :=
  p.tables.exec = Jvm.exec ∧ c.code = cc ∧ c.maxLocals = nL ∧ s.vm.findClass own = some m.cls ∧ (∀ w ∈ ax_T, w.before args s = true) ∧ meth.sig.returnType = rt ∧ meth.locks = false ∧ ax_Wld g s ∧ s.heap.size = g.2.1 + n0 ∧ fr ≤ R.frames ∧ lo ≤ R.locals ∧ top - n0 ≤ R.cells ∧ ax_Sl top - ax_Sl n0 ≤ R.slots ∧ n0 ≤ top
section AX
variable {g : ax_G} {p : Program} {e : Env} {R : Room} {s : State} {m : MethodId} {args : Array Value} {below : List Frame} {meth : Method} {c : Code} {Q : State → Prop} {cc : ByteArray} {own : String} {fr lo : Nat} {rt : Option FieldType} {nL n0 top : Nat} {pc : Nat} {L : ax_Lo} {st : ax_Sk} {z : ax_St}
theorem ax_hd {α β : Type} {x : Except α β} {a b : β} (h : x = .ok a) (e : a = b) : x = .ok b := e ▸ h
theorem ax_obj {g : ax_G} {z : ax_St} {k ci : Nat} (h10 : ci < 10) (hc : (ax_kd k).1 = ci) (hk : k < z.1) : (ax_ws g z)[k]? = some (g.2.1 + k, .inr (ci, (List.range (ax_kd k).2).map fun j => ax_cv g (ax_gv z k j (ax_fk ci j)))) := by
  rw [ax_ws_at hk]
  unfold ax_ce
  rw [hc, if_neg (by omega), if_neg (by omega)]
theorem ax_arI {g : ax_G} {z : ax_St} {k : Nat} (hc : (ax_kd k).1 = 10) (hk : k < z.1) : (ax_ws g z)[k]? = some (g.2.1 + k, .inl (g.2.2.2.1, (ax_kd k).2, .inl (z.2.1 k))) := by
  rw [ax_ws_at hk]
  unfold ax_ce
  rw [if_pos hc]
theorem ax_arJ {g : ax_G} {z : ax_St} {k : Nat} (hc : (ax_kd k).1 = 11) (hk : k < z.1) : (ax_ws g z)[k]? = some (g.2.1 + k, .inl (g.2.2.2.2.1, (ax_kd k).2, .inr (.inl (z.2.2.1 k)))) := by
  rw [ax_ws_at hk]
  unfold ax_ce
  rw [if_neg (by omega), if_pos hc]
theorem ax_get (B : ax_BC g p R s m args meth c cc own fr lo rt nL n0 top) {k ci j kd ix : Nat} (h10 : ci < 10) (hj : j < ax_N ci) (hf : ax_fk ci j = kd) (hw : Cond.fieldLink own ix (ax_Tb ci j).1 (ax_Tb ci j).2.1 (ax_Tb ci j).2.2.1 ∈ ax_T) (hd : decode cc pc = .ok (.getfield ix, 3)) (hk : k < z.1) (hc : (ax_kd k).1 = ci)
    (kk : ax_GG g p e R s m args below meth c Q nL n0 (pc + 3) L (ax_gv z k j kd :: st) z) : ax_GG g p e R s m args below meth c Q nL n0 pc L (.ref k :: st) z := by
  obtain ⟨hx, hb, hml, hown, hts, -, -, hW, -⟩ := B
  intro h0 ls H locs hl hR hS
  have h92 : k < 92 := Nat.lt_of_lt_of_le hk hR.2.2
  have hN : (ax_kd k).2 = ax_N ci := by rw [← hc]; exact ax_kd_N h92 (by omega)
  have he := ax_obj (g := g) h10 hc hk
  show W _ _ _ _ _ _ _ _ _ _ _ _ _ _ _ (F0 m pc ls (.ref (ax_ad g k) :: st.map (ax_cv g)))
  rw [ax_ad_lt g (show k < 1000 by omega)]
  refine va_get hx hb hts (ax_lay h10) hown hW.1 hR.1 k he (ax_cls_at h10) j hj (hts _ hw) (fun _ h9 => h9) (v := ax_cv g (ax_gv z k j kd)) ?_ hd (kk h0 ls H locs hl hR hS)
  rw [List.getElem?_map, List.getElem?_range (by rw [hN]; exact hj)]
  simp [hf]
theorem ax_ce_obj {g : ax_G} {z : ax_St} {k ci : Nat} (h10 : ci < 10) (hc : (ax_kd k).1 = ci) : ax_ce g z k = .inr (ci, (List.range (ax_kd k).2).map fun j => ax_cv g (ax_gv z k j (ax_fk ci j))) := by
  unfold ax_ce
  rw [hc, if_neg (by omega), if_neg (by omega)]
/-- a field's store, in general -/
theorem ax_put (B : ax_BC g p R s m args meth c cc own fr lo rt nL n0 top) {k ci j ix : Nat} {v : Value} {z' : ax_St} {ty : FieldType} (h10 : ci < 10) (hj : j < ax_N ci) (hty : ax_ty ci j = ty) (hfin : (ax_Tb ci j).2.2.2 = false) (hw : Cond.fieldLink own ix (ax_Tb ci j).1 (ax_Tb ci j).2.1 (ax_Tb ci j).2.2.1 ∈ ax_T) (hd : decode cc pc = .ok (.putfield ix, 3)) (hk : k < z.1) (hc : (ax_kd k).1 = ci)
    (hn : narrow ty (ax_cv g v) = ax_cv g v) (hfit : fits ty (ax_cv g v) = true) (hz : z'.1 = z.1) (hzk : ∀ i, ax_gv z' k i (ax_fk ci i) = if i = j then v else ax_gv z k i (ax_fk ci i)) (hzo : ∀ i, i ≠ k → ax_ce g z' i = ax_ce g z i)
    (kk : ax_GG g p e R s m args below meth c Q nL n0 (pc + 3) L st z') : ax_GG g p e R s m args below meth c Q nL n0 pc L (v :: .ref k :: st) z := by
  obtain ⟨hx, hb, hml, hown, hts, -, -, hW, -⟩ := B
  intro h0 ls H locs hl hR hS
  have h92 : k < 92 := Nat.lt_of_lt_of_le hk hR.2.2
  have hN : (ax_kd k).2 = ax_N ci := by rw [← hc]; exact ax_kd_N h92 (by omega)
  have he := ax_obj (g := g) h10 hc hk
  show W _ _ _ _ _ _ _ _ _ _ _ _ _ _ _ (F0 m pc ls (ax_cv g v :: .ref (ax_ad g k) :: st.map (ax_cv g)))
  rw [ax_ad_lt g (show k < 1000 by omega)]
  refine va_put hx hb hts (ax_lay h10) (ax_ty ci) (ax_ty_ok h10) (ax_nm_ok h10) hown hW.1 hR.1 hR.2.1 hS k he (ax_cls_at h10) j hj (hts _ hw) (fun _ h9 => h9) hfin (by rw [ax_ty_ok h10 j hj, hty]) hn hfit (by rw [List.length_map, List.length_range, hN]; exact hj) hd (fun H1 locs1 hP hD hS1 => ?_)
  have hws : (ax_ws g z).set k (g.2.1 + k, Sum.inr (ci, ((List.range (ax_kd k).2).map fun j => ax_cv g (ax_gv z k j (ax_fk ci j))).set j (ax_cv g v))) = ax_ws g z' := by
    refine ax_ws_set hk hz ?_ hzo
    rw [ax_ce_obj h10 hc]
    congr 2
    apply List.ext_getElem?
    intro i
    rw [List.getElem?_set, List.getElem?_map]
    by_cases hi : i < (ax_kd k).2
    · rw [List.getElem?_range hi]
      by_cases hij : j = i
      · subst hij
        simp [hzk, hi]
      · rw [if_neg hij, List.getElem?_map, List.getElem?_range hi]
        simp [hzk, Ne.symm hij]
    · rw [List.getElem?_eq_none (by simp; omega)]
      by_cases hij : j = i
      · subst hij
        exact absurd (by rw [hN]; exact hj) hi
      · rw [if_neg hij, List.getElem?_eq_none (by simp; omega)]
        rfl
  rw [hws] at hP hD
  have := kk (by rw [hz]; exact h0) ls H1 locs1 hl ⟨hP, hD, by rw [hz]; exact hR.2.2⟩ hS1
  rw [hz] at this
  exact this
theorem ax_putF (B : ax_BC g p R s m args meth c cc own fr lo rt nL n0 top) (hinit : meth.name = "<init>") {k ci j ix : Nat} {v : Value} {z' : ax_St} {ty : FieldType} (h10 : ci < 10) (hj : j < ax_N ci) (hty : ax_ty ci j = ty) (hfin : (ax_Tb ci j).2.2.2 = true) (hdecl : (ax_Tb ci j).1 = own) (hw : Cond.fieldLink own ix (ax_Tb ci j).1 (ax_Tb ci j).2.1 (ax_Tb ci j).2.2.1 ∈ ax_T) (hd : decode cc pc = .ok (.putfield ix, 3)) (hk : k < z.1) (hc : (ax_kd k).1 = ci)
    (hn : narrow ty (ax_cv g v) = ax_cv g v) (hfit : fits ty (ax_cv g v) = true) (hz : z'.1 = z.1) (hzk : ∀ i, ax_gv z' k i (ax_fk ci i) = if i = j then v else ax_gv z k i (ax_fk ci i)) (hzo : ∀ i, i ≠ k → ax_ce g z' i = ax_ce g z i)
    (kk : ax_GG g p e R s m args below meth c Q nL n0 (pc + 3) L st z') : ax_GG g p e R s m args below meth c Q nL n0 pc L (v :: .ref k :: st) z := by
  obtain ⟨hx, hb, hml, hown, hts, -, -, hW, -⟩ := B
  intro h0 ls H locs hl hR hS
  have h92 : k < 92 := Nat.lt_of_lt_of_le hk hR.2.2
  have hN : (ax_kd k).2 = ax_N ci := by rw [← hc]; exact ax_kd_N h92 (by omega)
  have he := ax_obj (g := g) h10 hc hk
  show W _ _ _ _ _ _ _ _ _ _ _ _ _ _ _ (F0 m pc ls (ax_cv g v :: .ref (ax_ad g k) :: st.map (ax_cv g)))
  rw [ax_ad_lt g (show k < 1000 by omega)]
  refine va_putF hx hb hts (ax_lay h10) (ax_ty ci) (ax_ty_ok h10) (ax_nm_ok h10) hown hW.1 hR.1 hR.2.1 hS k he (ax_cls_at h10) j hj (hts _ hw) (fun _ h9 => h9) hfin hinit hdecl (by rw [ax_ty_ok h10 j hj, hty]) hn hfit (by rw [List.length_map, List.length_range, hN]; exact hj) hd (fun H1 locs1 hP hD hS1 => ?_)
  have hws : (ax_ws g z).set k (g.2.1 + k, Sum.inr (ci, ((List.range (ax_kd k).2).map fun j => ax_cv g (ax_gv z k j (ax_fk ci j))).set j (ax_cv g v))) = ax_ws g z' := by
    refine ax_ws_set hk hz ?_ hzo
    rw [ax_ce_obj h10 hc]
    congr 2
    apply List.ext_getElem?
    intro i
    rw [List.getElem?_set, List.getElem?_map]
    by_cases hi : i < (ax_kd k).2
    · rw [List.getElem?_range hi]
      by_cases hij : j = i
      · subst hij
        simp [hzk, hi]
      · rw [if_neg hij, List.getElem?_map, List.getElem?_range hi]
        simp [hzk, Ne.symm hij]
    · rw [List.getElem?_eq_none (by simp; omega)]
      by_cases hij : j = i
      · subst hij
        exact absurd (by rw [hN]; exact hj) hi
      · rw [if_neg hij, List.getElem?_eq_none (by simp; omega)]
        rfl
  rw [hws] at hP hD
  have := kk (by rw [hz]; exact h0) ls H1 locs1 hl ⟨hP, hD, by rw [hz]; exact hR.2.2⟩ hS1
  rw [hz] at this
  exact this
theorem ax_iald (B : ax_BC g p R s m args meth c cc own fr lo rt nL n0 top) {k : Nat} {i : Int32} (hd : decode cc pc = .ok (.iaload, 1)) (h : ax_ia z (ax_xt g) k fun n f => vp_in i n ∧ ax_GG g p e R s m args below meth c Q nL n0 (pc + 1) L (.int (f i.toNatClampNeg) :: st) z) : ax_GG g p e R s m args below meth c Q nL n0 pc L (.int i :: .ref k :: st) z := by
  obtain ⟨hx, hb, hml, hown, hts, -, -, hW, -⟩ := B
  intro h0 ls H locs hl hR hS
  unfold ax_ia at h
  show W _ _ _ _ _ _ _ _ _ _ _ _ _ _ _ (F0 m pc ls (.int i :: .ref (ax_ad g k) :: st.map (ax_cv g)))
  by_cases hk : k < 1000
  · rw [if_pos hk] at h
    obtain ⟨h1, h2, h3, h4⟩ := h
    rw [ax_ad_lt g hk]
    exact va_iald hx hb hW.1 hR.1 k 0 (ax_arI h2 h1) rfl h3 hd (h4 h0 ls H locs hl hR hS)
  · rw [if_neg hk] at h
    obtain ⟨h1, h3, h4⟩ := h
    have e1 : ax_ad g k = (g.2.2.2.2.2 k).1 := by simp [ax_ad, hk]
    rw [e1]
    exact va_ti hx hb (hW.2.2.1 k (by omega) h1) hS (N := (g.2.2.2.2.2 k).2.1) h3 rfl hd (h4 h0 ls H locs hl hR hS)
theorem ax_ce_n {g : ax_G} {z : ax_St} {k i : Nat} (h : i ≠ k) (f : Nat → Int32) : ax_ce g (ax_dr z k f) i = ax_ce g z i := by
  unfold ax_ce ax_dr
  have e : ∀ j t, ax_gv (z.1, ax_up z.2.1 k f, z.2.2) i j t = ax_gv z i j t := by
    intro j t
    unfold ax_gv
    split <;> simp [ax_up, h]
  simp only [e, ax_up_n _ _ h]
theorem ax_ce_e {g : ax_G} {z : ax_St} {k i j : Nat} (h : i ≠ k) (v : Int64) : ax_ce g (ax_e1 z k j v) i = ax_ce g z i := by
  unfold ax_ce ax_e1
  have e : ∀ j' t, ax_gv (z.1, z.2.1, ax_up z.2.2.1 k (ax_up (z.2.2.1 k) j v), z.2.2.2) i j' t = ax_gv z i j' t := by
    intro j' t
    unfold ax_gv
    split <;> simp [ax_up, h]
  simp only [e, ax_up_n _ _ h]
theorem ax_ce_r {g : ax_G} {z : ax_St} {k i j : Nat} (h : i ≠ k) (v : Option Nat) : ax_ce g (ax_r1 z k j v) i = ax_ce g z i := by
  unfold ax_ce ax_r1
  have e : ∀ j' t, ax_gv (z.1, z.2.1, z.2.2.1, ax_up z.2.2.2 k (ax_up (z.2.2.2 k) j v)) i j' t = ax_gv z i j' t := by
    intro j' t
    unfold ax_gv
    split <;> simp [ax_up, h]
  simp only [e]
theorem ax_iast (B : ax_BC g p R s m args meth c cc own fr lo rt nL n0 top) {k : Nat} {i v : Int32} (hd : decode cc pc = .ok (.iastore, 1)) (hk : k < z.1) (hc : (ax_kd k).1 = 10) (hi : vp_in i (ax_kd k).2)
    (kk : ax_GG g p e R s m args below meth c Q nL n0 (pc + 1) L st (ax_d1 z k i.toNatClampNeg v)) : ax_GG g p e R s m args below meth c Q nL n0 pc L (.int v :: .int i :: .ref k :: st) z := by
  obtain ⟨hx, hb, hml, hown, hts, -, -, hW, -⟩ := B
  intro h0 ls H locs hl hR hS
  show W _ _ _ _ _ _ _ _ _ _ _ _ _ _ _ (F0 m pc ls (.int v :: .int i :: .ref (ax_ad g k) :: st.map (ax_cv g)))
  rw [ax_ad_lt g (show k < 1000 by have := hR.2.2; omega)]
  refine va_iast hx hb hW.1 hR.1 hR.2.1 hS k 0 (ax_arI hc hk) rfl hi hd (fun H1 locs1 hP hD hS1 => ?_)
  have hws : (ax_ws g z).set k (g.2.1 + k, Sum.inl (g.2.2.2.1, (ax_kd k).2, Sum.inl (upd (z.2.1 k) i.toNatClampNeg v))) = ax_ws g (ax_d1 z k i.toNatClampNeg v) := by
    refine ax_ws_set hk rfl ?_ (fun j hj => ax_ce_n hj _)
    unfold ax_ce ax_d1
    rw [if_pos hc]
    simp only [ax_up_s]
    rfl
  rw [hws] at hP hD
  exact kk h0 ls H1 locs1 hl ⟨hP, hD, hR.2.2⟩ hS1
theorem ax_lald (B : ax_BC g p R s m args meth c cc own fr lo rt nL n0 top) {k : Nat} {i : Int32} (hd : decode cc pc = .ok (.laload, 1)) (hk : k < z.1) (hc : (ax_kd k).1 = 11) (hi : vp_in i (ax_kd k).2)
    (kk : ax_GG g p e R s m args below meth c Q nL n0 (pc + 1) L (.long (z.2.2.1 k i.toNatClampNeg) :: st) z) : ax_GG g p e R s m args below meth c Q nL n0 pc L (.int i :: .ref k :: st) z := by
  obtain ⟨hx, hb, hml, hown, hts, -, -, hW, -⟩ := B
  intro h0 ls H locs hl hR hS
  show W _ _ _ _ _ _ _ _ _ _ _ _ _ _ _ (F0 m pc ls (.int i :: .ref (ax_ad g k) :: st.map (ax_cv g)))
  rw [ax_ad_lt g (show k < 1000 by have := hR.2.2; omega)]
  exact va_lald hx hb hW.1 hR.1 k 1 (ax_arJ hc hk) rfl hi hd (kk h0 ls H locs hl hR hS)
theorem ax_last (B : ax_BC g p R s m args meth c cc own fr lo rt nL n0 top) {k : Nat} {i : Int32} {v : Int64} (hd : decode cc pc = .ok (.lastore, 1)) (hk : k < z.1) (hc : (ax_kd k).1 = 11) (hi : vp_in i (ax_kd k).2)
    (kk : ax_GG g p e R s m args below meth c Q nL n0 (pc + 1) L st (ax_e1 z k i.toNatClampNeg v)) : ax_GG g p e R s m args below meth c Q nL n0 pc L (.long v :: .int i :: .ref k :: st) z := by
  obtain ⟨hx, hb, hml, hown, hts, -, -, hW, -⟩ := B
  intro h0 ls H locs hl hR hS
  show W _ _ _ _ _ _ _ _ _ _ _ _ _ _ _ (F0 m pc ls (.long v :: .int i :: .ref (ax_ad g k) :: st.map (ax_cv g)))
  rw [ax_ad_lt g (show k < 1000 by have := hR.2.2; omega)]
  refine va_last hx hb hW.1 hR.1 hR.2.1 hS k 1 (ax_arJ hc hk) rfl hi hd (fun H1 locs1 hP hD hS1 => ?_)
  have hws : (ax_ws g z).set k (g.2.1 + k, Sum.inl (g.2.2.2.2.1, (ax_kd k).2, Sum.inr (Sum.inl (vp_updL (z.2.2.1 k) i.toNatClampNeg v)))) = ax_ws g (ax_e1 z k i.toNatClampNeg v) := by
    refine ax_ws_set hk rfl ?_ (fun j hj => ax_ce_e hj _)
    unfold ax_ce ax_e1
    rw [if_neg (by omega), if_pos hc]
    simp only [ax_up_s]
    rfl
  rw [hws] at hP hD
  exact kk h0 ls H1 locs1 hl ⟨hP, hD, hR.2.2⟩ hS1
theorem ax_alen (B : ax_BC g p R s m args meth c cc own fr lo rt nL n0 top) {k : Nat} (hd : decode cc pc = .ok (.arraylength, 1))
    (h : if k < 1000 then k < z.1 ∧ ((ax_kd k).1 = 10 ∨ (ax_kd k).1 = 11) ∧ ax_GG g p e R s m args below meth c Q nL n0 (pc + 1) L (.int (Int32.ofNat (ax_kd k).2) :: st) z else k < 1003 ∧ ax_GG g p e R s m args below meth c Q nL n0 (pc + 1) L (.int (Int32.ofNat (ax_xt g k).1) :: st) z) : ax_GG g p e R s m args below meth c Q nL n0 pc L (.ref k :: st) z := by
  obtain ⟨hx, hb, hml, hown, hts, -, -, hW, -⟩ := B
  intro h0 ls H locs hl hR hS
  show W _ _ _ _ _ _ _ _ _ _ _ _ _ _ _ (F0 m pc ls (.ref (ax_ad g k) :: st.map (ax_cv g)))
  by_cases hk : k < 1000
  · rw [if_pos hk] at h
    obtain ⟨h1, h2, h3⟩ := h
    rw [ax_ad_lt g hk]
    rcases h2 with h2 | h2
    · exact va_alen hx hb hW.1 hR.1 k 0 (ax_arI h2 h1) rfl rfl hd (h3 h0 ls H locs hl hR hS)
    · exact va_alen hx hb hW.1 hR.1 k 1 (ax_arJ h2 h1) rfl rfl hd (h3 h0 ls H locs hl hR hS)
  · rw [if_neg hk] at h
    obtain ⟨h1, h3⟩ := h
    have e1 : ax_ad g k = (g.2.2.2.2.2 k).1 := by simp [ax_ad, hk]
    rw [e1]
    obtain ⟨cell, t1, t2, t3, t4, t5, t6, t7⟩ := hW.2.2.1 k (by omega) h1
    exact W.alen hx hb (by rw [hS.2.1 _ (Array.getElem?_eq_some_iff.mp t1).1 t7]; exact t1) t2 t5 rfl rfl hd (h3 h0 ls H locs hl hR hS)
theorem ax_copy (B : ax_BC g p R s m args meth c cc own fr lo rt nL n0 top) {k0 k1 ix : Nat} {n dp sp : Int32} (hfr : 1 ≤ fr) (hlo : 30 ≤ lo) (hw : Cond.methodLink own ix arraycopyName ∈ ax_T) (hd : decode cc pc = .ok (.invokestatic ix, 3))
    (hk0 : k0 < z.1) (hk1 : k1 < z.1) (hc0 : (ax_kd k0).1 = 10) (hc1 : (ax_kd k1).1 = 10) (h1 : ¬ sp < 0) (h2 : ¬ dp < 0) (h3 : ¬ n < 0) (h4 : sp.toNatClampNeg + n.toNatClampNeg ≤ (ax_kd k0).2) (h5 : dp.toNatClampNeg + n.toNatClampNeg ≤ (ax_kd k1).2) (h8 : ax_cs st ≤ 8)
    (kk : ax_GG g p e R s m args below meth c Q nL n0 (pc + 3) L st (ax_dr z k1 (va_cpy (z.2.1 k0) (z.2.1 k1) sp.toNatClampNeg dp.toNatClampNeg n.toNatClampNeg))) : ax_GG g p e R s m args below meth c Q nL n0 pc L (.int n :: .int dp :: .ref k1 :: .int sp :: .ref k0 :: st) z := by
  obtain ⟨hx, hb, hml, hown, hts, -, -, hW, -, hRf, hRl, -⟩ := B
  intro h0 ls H locs hl hR hS
  show W _ _ _ _ _ _ _ _ _ _ _ _ _ _ _ (F0 m pc ls (.int n :: .int dp :: .ref (ax_ad g k1) :: .int sp :: .ref (ax_ad g k0) :: st.map (ax_cv g)))
  rw [ax_ad_lt g (show k1 < 1000 by have := hR.2.2; omega), ax_ad_lt g (show k0 < 1000 by have := hR.2.2; omega)]
  refine va_copyi hx hb (by rw [hml]; exact hl.1.symm) hown (hts _ hw) (hts _ (ax_in 4 58 (by decide +kernel) (by decide +kernel))) (hts _ (ax_in 4 57 (by decide +kernel) (by decide +kernel))) (hts _ (ax_in 1 12 (by decide +kernel) (by decide +kernel))) hW.1 hR.1 hR.2.1 hS k0 k1 0 0 (ax_arI hc0 hk0) (ax_arI hc1 hk1) rfl rfl rfl h1 h2 h3 h4 h5 (fun i hi => rfl) (by omega) ?_ hd (fun H1 locs1 hP hD hS1 => ?_)
  · rw [ax_cs_eq, show nativeFrameWords "java/lang/System" "arraycopy" 5 = 7 by decide +kernel]
    omega
  have hws : (ax_ws g z).set k1 (g.2.1 + k1, Sum.inl (g.2.2.2.1, (ax_kd k1).2, Sum.inl (va_cpy (z.2.1 k0) (z.2.1 k1) sp.toNatClampNeg dp.toNatClampNeg n.toNatClampNeg))) = ax_ws g (ax_dr z k1 (va_cpy (z.2.1 k0) (z.2.1 k1) sp.toNatClampNeg dp.toNatClampNeg n.toNatClampNeg)) := by
    refine ax_ws_set hk1 rfl ?_ (fun j hj => ax_ce_n hj _)
    unfold ax_ce ax_dr
    rw [if_pos hc1]
    simp only [ax_up_s]
  rw [hws] at hP hD
  exact kk h0 ls H1 locs1 hl ⟨hP, hD, hR.2.2⟩ hS1
end AX
end
section
/-! New cells, calls. -/
def ax_simple (t : FieldType) : Bool := match t with
  | .int => true
  | .long => true
  | .boolean => true
  | .object _ => true
  | .array _ => true
  | _ => false
theorem ax_tys_c : ((List.range 10).all fun ci => (List.range (ax_N ci)).all fun k => ax_simple (ax_ty ci k)) = true := by decide +kernel
theorem ax_tys {ci : Nat} (h : ci < 10) {k : Nat} (hk : k < ax_N ci) : ax_simple (ax_ty ci k) = true := List.all_eq_true.mp (List.all_eq_true.mp ax_tys_c ci (List.mem_range.mpr h)) k (List.mem_range.mpr hk)
section AX2
variable {g : ax_G} {p : Program} {e : Env} {R : Room} {s : State} {m : MethodId} {args : Array Value} {below : List Frame} {meth : Method} {c : Code} {Q : State → Prop} {cc : ByteArray} {own : String} {fr lo : Nat} {rt : Option FieldType} {nL n0 top : Nat} {pc : Nat} {L : ax_Lo} {st : ax_Sk} {z : ax_St}
theorem ax_szW {l : Launch} {H : Heap} {locs : List Loc} {cells slots : Nat} {f : JFrame} (k : H.size ≤ s.heap.size + cells → W p l e R s m args below meth c H locs cells slots Q f) : W p l e R s m args below meth c H locs cells slots Q f := fun T hT X => k (by rw [← hT]; exact X.heapSize) T hT X
theorem ax_size {H : Heap} (hR : ax_Rep g z H) (h0 : n0 ≤ z.1) (hs : s.heap.size = g.2.1 + n0) (h : H.size ≤ s.heap.size + (z.1 - n0)) (hb : g.2.1 + n0 ≤ H.size) : H.size = g.2.1 + z.1 := by
  rcases Nat.eq_zero_or_pos z.1 with hz | hz
  · omega
  · have hlt := (hR.1 (z.1 - 1) _ (ax_ws_at (by omega))).lt
    have hlt : g.2.1 + (z.1 - 1) < H.size := hlt
    omega
theorem ax_ce_nw {g : ax_G} {z : ax_St} {i : Nat} (h : i ≠ z.1) : ax_ce g (ax_nw z) i = ax_ce g z i := by
  unfold ax_ce ax_nw
  have e : ∀ j t, ax_gv (z.1 + 1, ax_up z.2.1 z.1 (fun _ => 0), ax_up z.2.2.1 z.1 (fun _ => 0), ax_up z.2.2.2 z.1 (fun _ => none)) i j t = ax_gv z i j t := by
    intro j t
    unfold ax_gv
    split <;> simp [ax_up, h]
  simp only [e, ax_up_n _ _ h]
theorem ax_ws_nw {g : ax_G} {z : ax_St} : ax_ws g (ax_nw z) = ax_ws g z ++ [(g.2.1 + z.1, ax_ce g (ax_nw z) z.1)] := by
  have h1 : (ax_nw z).1 = z.1 + 1 := rfl
  unfold ax_ws
  rw [h1, List.range_succ, List.map_append]
  congr 1
  apply List.map_congr_left
  intro k hk
  rw [ax_ce_nw (by have := List.mem_range.mp hk; omega)]
theorem ax_Sl_add {n0 n top : Nat} (h0 : n0 ≤ n) (h1 : n + 1 ≤ top) : ax_Sl n - ax_Sl n0 + (ax_kd n).2 ≤ ax_Sl top - ax_Sl n0 ∧ ax_Sl n - ax_Sl n0 + (ax_kd n).2 = ax_Sl (n + 1) - ax_Sl n0 := by
  have a := ax_Sl_mono h0
  have b := ax_Sl_mono h1
  have d : ax_Sl (n + 1) = ax_Sl n + (ax_kd n).2 := rfl
  omega
theorem ax_newo (B : ax_BC g p R s m args meth c cc own fr lo rt nL n0 top) {ci ix : Nat} (h10 : ci < 10) (hw : Cond.classLink own ix (ax_cn ci) ∈ ax_T) (hi : Cond.instantiable (ax_cn ci) (ax_N ci) ∈ ax_T) (hin : Cond.initialized (ax_cn ci) ∈ ax_T) (hd : decode cc pc = .ok (.new ix, 3)) (ht : z.1 + 1 ≤ top) (h92 : z.1 < 92) (hkd : ax_kd z.1 = (ci, ax_N ci))
    (kk : ax_GG g p e R s m args below meth c Q nL n0 (pc + 3) L (.ref z.1 :: st) (ax_nw z)) : ax_GG g p e R s m args below meth c Q nL n0 pc L st z := by
  obtain ⟨hx, hb, hml, hown, hts, -, -, hW, hsz, -, -, hRc, hRs, h0t⟩ := B
  intro h0 ls H locs hl hR hS
  refine ax_szW fun hle => ?_
  have hH : H.size = g.2.1 + z.1 := ax_size hR h0 hsz hle (by rw [← hsz]; exact hS.1)
  obtain ⟨q1, q2⟩ := ax_Sl_add h0 ht
  rw [hkd] at q1 q2
  have hKn := hW.1.1 ci _ (ax_cls_at h10)
  refine W.newcK hx hb hown (hts _ hw) (hts _ hi) (hts _ hin) rfl hd (by omega) (Nat.le_trans q1 hRs) hKn.2.1 hH fun H1 kC hkC e1 z1 o1 => ?_
  have hk : ∀ (k : Nat) (x : Nat × va_E), (ax_ws g z)[k]? = some x → H1[x.1]? = H[x.1]? := fun k x hx => o1 x.1 (by rw [← hH]; exact (hR.1 k x hx).lt)
  have hA : ax_A g (g.2.1 + z.1) := Nat.le_add_right _ _
  have hce : ax_ce g (ax_nw z) z.1 = .inr (ci, (List.range (ax_N ci)).map fun j => ax_cv g (ax_gv (ax_nw z) z.1 j (ax_fk ci j))) := by
    rw [ax_ce_obj h10 (by rw [hkd]), hkd]
  have hP1 : va_P g.2.2.1 ax_cls (ax_ws g (ax_nw z)) H1 := by
    rw [ax_ws_nw]
    refine (hR.1.kept hk).app (fun k x hx => ?_)
    have hz : k < 1 := (List.getElem?_eq_some_iff.mp hx).1
    rw [show k = 0 by omega] at hx
    cases hx
    rw [hce]
    refine ⟨_, ax_cls_at h10, (u_born (ax_ty ci) hts (ax_lay h10) hKn hkC e1 (ax_ty_ok h10)).to (fun j hj => ?_)⟩
    unfold vp_V
    rw [List.getD_eq_getElem?_getD, List.getElem?_map, List.getElem?_range hj]
    simp only [Option.map_some, Option.getD_some]
    unfold ax_fk ax_gv ax_nw
    have hpar := ax_tys h10 hj
    cases hty : ax_ty ci j <;> rw [hty] at hpar <;> first | (simp [ax_simple] at hpar; done) | simp [defaultValue, ax_up, ax_rv, ax_cv]
  have hD1 : va_D (ax_A g) (ax_ws g (ax_nw z)) := by
    rw [ax_ws_nw]
    exact hR.2.1.push hR.1 hH.symm hA
  have hS1 : va_S (ax_A g) s.heap H1 locs := ⟨Nat.le_trans hS.1 (by omega), fun x h1 h2 => (o1 x (by rw [← hH]; exact Nat.lt_of_lt_of_le h1 hS.1)).trans (hS.2.1 x h1 h2), hS.2.2⟩
  have := kk (Nat.le_succ_of_le h0) ls H1 locs hl ⟨hP1, hD1, h92⟩ hS1
  have e3 : (ax_nw z).1 - n0 = z.1 - n0 + 1 := by show z.1 + 1 - n0 = _; omega
  have e4 : ax_Sl (ax_nw z).1 - ax_Sl n0 = ax_Sl z.1 - ax_Sl n0 + ax_N ci := q2.symm
  rw [e3, e4] at this
  have e5 : ((Value.ref z.1 :: st).map (ax_cv g)) = .ref (g.2.1 + z.1) :: st.map (ax_cv g) := by
    show Value.ref (ax_ad g z.1) :: _ = _
    rw [ax_ad_lt g (by omega)]
  rw [e5] at this
  exact this
theorem ax_kd_2k : ((List.range 92).all fun k => decide ((ax_kd k).2 ≤ 2000)) = true := by decide +kernel
theorem ax_newaI (B : ax_BC g p R s m args meth c cc own fr lo rt nL n0 top) {n : Int32} (hd : decode cc pc = .ok (.newarray .int, 2)) (ht : z.1 + 1 ≤ top) (h92 : z.1 < 92) (hn : ¬ n < 0) (hkd : ax_kd z.1 = (10, n.toNatClampNeg))
    (kk : ax_GG g p e R s m args below meth c Q nL n0 (pc + 2) L (.ref z.1 :: st) (ax_nw z)) : ax_GG g p e R s m args below meth c Q nL n0 pc L (.int n :: st) z := by
  obtain ⟨hx, hb, hml, hown, hts, -, -, hW, hsz, -, -, hRc, hRs, h0t⟩ := B
  intro h0 ls H locs hl hR hS
  refine ax_szW fun hle => ?_
  have hH : H.size = g.2.1 + z.1 := ax_size hR h0 hsz hle (by rw [← hsz]; exact hS.1)
  obtain ⟨q1, q2⟩ := ax_Sl_add h0 ht
  rw [hkd] at q1 q2
  have hsm : n.toNatClampNeg ≤ 2000 := by
    have h1 := List.all_eq_true.mp ax_kd_2k z.1 (List.mem_range.mpr h92)
    rw [hkd] at h1
    exact of_decide_eq_true h1
  refine va_newaK hx hb (hts _ (ax_in 1 78 (by decide +kernel) (by decide +kernel))) rfl hd rfl hn rfl (by show _ * 4 ≤ _; omega) (by omega) (Nat.le_trans q1 hRs) hH fun H1 cA e1 z1 o1 hAr hNm => ?_
  have hcA : cA = g.2.2.2.1 := Option.some.inj (hNm.symm.trans (hW.1.2 0 _ rfl).2)
  have hk : ∀ (k : Nat) (x : Nat × va_E), (ax_ws g z)[k]? = some x → H1[x.1]? = H[x.1]? := fun k x hx => o1 x.1 (by rw [← hH]; exact (hR.1 k x hx).lt)
  have hA : ax_A g (g.2.1 + z.1) := Nat.le_add_right _ _
  have hP1 : va_P g.2.2.1 ax_cls (ax_ws g (ax_nw z)) H1 := by
    rw [ax_ws_nw]
    refine (hR.1.kept hk).app (fun k x hx => ?_)
    have hz : k < 1 := (List.getElem?_eq_some_iff.mp hx).1
    rw [show k = 0 by omega] at hx
    cases hx
    unfold ax_ce
    rw [hkd]
    show H1[g.2.1 + z.1]? = some (vp_cell g.2.2.2.1 (n.toNatClampNeg, .inl ((ax_nw z).2.1 z.1)))
    rw [e1, hcA]
    unfold vp_cell ax_nw
    simp only [ax_up_s]
    rfl
  have hD1 : va_D (ax_A g) (ax_ws g (ax_nw z)) := by
    rw [ax_ws_nw]
    exact hR.2.1.push hR.1 hH.symm hA
  have hS1 : va_S (ax_A g) s.heap H1 locs := ⟨Nat.le_trans hS.1 (by omega), fun x h1 h2 => (o1 x (by rw [← hH]; exact Nat.lt_of_lt_of_le h1 hS.1)).trans (hS.2.1 x h1 h2), hS.2.2⟩
  have := kk (Nat.le_succ_of_le h0) ls H1 locs hl ⟨hP1, hD1, h92⟩ hS1
  have e3 : (ax_nw z).1 - n0 = z.1 - n0 + 1 := by show z.1 + 1 - n0 = _; omega
  have e4 : ax_Sl (ax_nw z).1 - ax_Sl n0 = ax_Sl z.1 - ax_Sl n0 + n.toNatClampNeg := q2.symm
  rw [e3, e4] at this
  have e5 : ((Value.ref z.1 :: st).map (ax_cv g)) = .ref (g.2.1 + z.1) :: st.map (ax_cv g) := by
    show Value.ref (ax_ad g z.1) :: _ = _
    rw [ax_ad_lt g (by omega)]
  rw [e5] at this
  exact this
theorem ax_newaJ (B : ax_BC g p R s m args meth c cc own fr lo rt nL n0 top) {n : Int32} (hd : decode cc pc = .ok (.newarray .long, 2)) (ht : z.1 + 1 ≤ top) (h92 : z.1 < 92) (hn : ¬ n < 0) (hkd : ax_kd z.1 = (11, n.toNatClampNeg))
    (kk : ax_GG g p e R s m args below meth c Q nL n0 (pc + 2) L (.ref z.1 :: st) (ax_nw z)) : ax_GG g p e R s m args below meth c Q nL n0 pc L (.int n :: st) z := by
  obtain ⟨hx, hb, hml, hown, hts, -, -, hW, hsz, -, -, hRc, hRs, h0t⟩ := B
  intro h0 ls H locs hl hR hS
  refine ax_szW fun hle => ?_
  have hH : H.size = g.2.1 + z.1 := ax_size hR h0 hsz hle (by rw [← hsz]; exact hS.1)
  obtain ⟨q1, q2⟩ := ax_Sl_add h0 ht
  rw [hkd] at q1 q2
  have hsm : n.toNatClampNeg ≤ 2000 := by
    have h1 := List.all_eq_true.mp ax_kd_2k z.1 (List.mem_range.mpr h92)
    rw [hkd] at h1
    exact of_decide_eq_true h1
  refine va_newaK hx hb (hts _ (ax_in 1 229 (by decide +kernel) (by decide +kernel))) rfl hd rfl hn rfl (by show _ * 8 ≤ _; omega) (by omega) (Nat.le_trans q1 hRs) hH fun H1 cA e1 z1 o1 hAr hNm => ?_
  have hcA : cA = g.2.2.2.2.1 := Option.some.inj (hNm.symm.trans (hW.1.2 1 _ rfl).2)
  have hk : ∀ (k : Nat) (x : Nat × va_E), (ax_ws g z)[k]? = some x → H1[x.1]? = H[x.1]? := fun k x hx => o1 x.1 (by rw [← hH]; exact (hR.1 k x hx).lt)
  have hA : ax_A g (g.2.1 + z.1) := Nat.le_add_right _ _
  have hP1 : va_P g.2.2.1 ax_cls (ax_ws g (ax_nw z)) H1 := by
    rw [ax_ws_nw]
    refine (hR.1.kept hk).app (fun k x hx => ?_)
    have hz : k < 1 := (List.getElem?_eq_some_iff.mp hx).1
    rw [show k = 0 by omega] at hx
    cases hx
    unfold ax_ce
    rw [hkd]
    show H1[g.2.1 + z.1]? = some (vp_cell g.2.2.2.2.1 (n.toNatClampNeg, .inr (.inl ((ax_nw z).2.2.1 z.1))))
    rw [e1, hcA]
    unfold vp_cell ax_nw
    simp only [ax_up_s]
    rfl
  have hD1 : va_D (ax_A g) (ax_ws g (ax_nw z)) := by
    rw [ax_ws_nw]
    exact hR.2.1.push hR.1 hH.symm hA
  have hS1 : va_S (ax_A g) s.heap H1 locs := ⟨Nat.le_trans hS.1 (by omega), fun x h1 h2 => (o1 x (by rw [← hH]; exact Nat.lt_of_lt_of_le h1 hS.1)).trans (hS.2.1 x h1 h2), hS.2.2⟩
  have := kk (Nat.le_succ_of_le h0) ls H1 locs hl ⟨hP1, hD1, h92⟩ hS1
  have e3 : (ax_nw z).1 - n0 = z.1 - n0 + 1 := by show z.1 + 1 - n0 = _; omega
  have e4 : ax_Sl (ax_nw z).1 - ax_Sl n0 = ax_Sl z.1 - ax_Sl n0 + n.toNatClampNeg := q2.symm
  rw [e3, e4] at this
  have e5 : ((Value.ref z.1 :: st).map (ax_cv g)) = .ref (g.2.1 + z.1) :: st.map (ax_cv g) := by
    show Value.ref (ax_ad g z.1) :: _ = _
    rw [ax_ad_lt g (by omega)]
  rw [e5] at this
  exact this
/-- behind a call -/
theorem ax_callg {l : Launch} {H : Heap} {locs : List Loc} {cells slots mc ms t1 : Nat} {f : JFrame} {rest : List Value} {av : Array Value} {K : ax_Po} (hr : va_Run p l e R s m args below meth c H locs cells slots mc ms f rest (ax_Qc g K t1 av) (ax_A g)) (hS : va_S (ax_A g) s.heap H locs)
    (kk : ∀ (r : Option Value) (z' : ax_St) (H1 : Heap) (locs1 : List Loc), K r z' → z'.1 = t1 → ax_Rep g z' H1 → va_S (ax_A g) s.heap H1 locs1 → W p l e R s m args below meth c H1 locs1 (cells + mc) (slots + ms) Q { f with pc := f.pc + 3, stack := (r.map (ax_cv g)).toList ++ rest }) : W p l e R s m args below meth c H locs cells slots Q f := by
  intro T hT X
  obtain ⟨v, st₀, t, T', L1, h0, X', hL, e1, e2, ⟨⟨r, z', hv, hK, hz, hP⟩, hF⟩, hg⟩ := hr T hT X
  cases hv
  have hS1 : va_S (ax_A g) s.heap T'.heap (locs ++ L1) := by
    refine ⟨?_, fun q h1 h2 => ?_, fun q hq => ?_⟩
    · rw [e1]; exact Nat.le_trans hS.1 (by rw [← h0]; exact hF.1)
    · rw [e1, hF.2 q (by rw [h0]; exact Nat.lt_of_lt_of_le h1 hS.1) h2, h0]
      exact hS.2.1 q h1 h2
    · rcases List.mem_append.mp hq with h | h
      · exact hS.2.2 q h
      · exact hL q h
  obtain ⟨t2, a1, b1⟩ := kk r z' T'.heap (locs ++ L1) hK hz (by rw [e1]; exact hP) hS1 T' rfl X'
  exact ⟨t2, hg t2 a1, b1⟩
theorem ax_good {y : Nat} (hy : y < 205) : GoodIn ax_T (ax_wsy y) := by
  intro w hw
  rcases List.mem_cons.mp hw with rfl | h
  · have := (ax_M_ok hy).2.1
    exact ⟨this, (ax_T_good this).2⟩
  · exact ⟨h, (ax_T_good h).2⟩
theorem ax_tog (r : Option Value) (st : ax_Sk) : (r.map (ax_cv g)).toList ++ st.map (ax_cv g) = (r.toList ++ st).map (ax_cv g) := by cases r <;> rfl
theorem ax_callV (B : ax_BC g p R s m args meth c cc own fr lo rt nL n0 top) {y np ci ix k : Nat} {as : List Value} {K : ax_Po} (hy : y < 205) (hkn : (ax_M y).2.2.2.2.2.2.1 = 0) (hnp : (ax_M y).2.2.2.2.2.2.2 = np) (h10 : ci < 10) (hcn : ax_cn ci = (ax_M y).1.cls) (hfr : (ax_M y).2.2.2.2.1 + 1 ≤ fr) (hlo : 8 + ((ax_M y).2.2.1 + 11) + (ax_M y).2.2.2.2.2.1 ≤ lo) (hw : Cond.methodLink own ix (ax_M y).1 ∈ ax_T) (hd : decode cc pc = .ok (.invokevirtual ix, 3))
    (hal : as.length = np) (hk : k < z.1) (hc : (ax_kd k).1 = ci) (h8 : ax_cs st ≤ 8) (ht : z.1 + ax_mc y ≤ top) (hM : ax_MM g y (.ref k :: as) z K) (kk : ∀ r z', K r z' → ax_GG g p e R s m args below meth c Q nL n0 (pc + 3) L (r.toList ++ st) z') : ax_GG g p e R s m args below meth c Q nL n0 pc L (as.reverse ++ .ref k :: st) z := by
  obtain ⟨hx, hb, hml, hown, hts, -, -, hW, hsz, hRf, hRl, hRc, hRs, h0t⟩ := B
  obtain ⟨o1, o2, o3, o4, o5, o6, o7, o8⟩ := ax_M_ok hy
  obtain ⟨oi, os⟩ := o6 hkn
  intro h0 ls H locs hl hR hS
  refine ax_szW fun hle => ?_
  have hH : H.size = g.2.1 + z.1 := ax_size hR h0 hsz hle (by rw [← hsz]; exact hS.1)
  have a1 := ax_Sl_mono h0
  have a2 := ax_Sl_mono ht
  have a3 := ax_Sl_mono (Nat.le_add_right z.1 (ax_mc y))
  have he := ax_obj (g := g) h10 hc hk
  have hT : GoodIn ax_T (wsV own ix (ax_M y).1.cls (ax_M y).1 (ax_wsy y)) := by
    intro w hw'
    unfold wsV at hw'
    rcases List.mem_append.mp hw' with h | h
    · simp only [List.mem_cons, List.not_mem_nil, or_false] at h
      rcases h with rfl | rfl | rfl | rfl
      · exact ⟨hw, (ax_T_good hw).2⟩
      · exact ⟨oi, (ax_T_good oi).2⟩
      · exact ⟨os, (ax_T_good os).2⟩
      · exact ⟨o3, (ax_T_good o3).2⟩
    · exact ax_good hy w h
  have hcw := cwV (R := R) (rm := ax_rm y z.1) (mc := ax_mc y) (ms := ax_Sl (z.1 + ax_mc y) - ax_Sl z.1) (ws := ax_wsy y) np hts hT rfl rfl rfl ⟨rfl, o4.1, o4.2, by rw [o5, hnp]⟩ ⟨by show (ax_M y).2.2.2.2.1 + 1 ≤ _; omega, by show _ + (ax_M y).2.2.2.2.2.1 ≤ _; omega⟩
  have hrecv := va_recv hW.1 hR.1 (ax_cls_at h10) he
  have hstk : ((as.reverse ++ .ref k :: st).map (ax_cv g)) = (as.map (ax_cv g)).reverse ++ .ref (g.2.1 + k) :: st.map (ax_cv g) := by
    rw [List.map_append, List.map_reverse]
    show _ ++ Value.ref (ax_ad g k) :: _ = _
    rw [ax_ad_lt g (by have := hR.2.2; omega)]
  have hargs : ((Value.ref k :: as).map (ax_cv g)) = .ref (g.2.1 + k) :: as.map (ax_cv g) := by
    show Value.ref (ax_ad g k) :: _ = _
    rw [ax_ad_lt g (by have := hR.2.2; omega)]
  have hrun := va_runV (e := e) (below := below) (meth := meth) (H := H) (locs := locs) (cells := z.1 - n0) (slots := ax_Sl z.1 - ax_Sl n0) (b := g.2.1 + k) (As := as.map (ax_cv g)) (rest := st.map (ax_cv g)) (g := F0 m pc ls ((as.reverse ++ .ref k :: st).map (ax_cv g))) ⟨hx, hb, hml, hown, hts⟩ hM hcw ⟨ax_blind _ _ _, by rw [← hcn]; exact hrecv, fun U hU hw => ⟨by rw [hargs], by rw [hU]; exact hR, by rw [hU]; exact hH, ax_Wld_go hW hS hU hw⟩⟩ rfl (by rw [List.length_map]; exact hal) hl.1 hstk (by rw [ax_cs_eq]; show 2 * 0 + _ ≤ 8; omega) hd ⟨by omega, by omega⟩
  refine ax_callg hrun hS (fun r z' H1 locs1 hK hz hR1 hS1 => ?_)
  have := kk r z' hK (by omega) ls H1 locs1 hl hR1 hS1
  rw [hz, show z.1 + ax_mc y - n0 = z.1 - n0 + ax_mc y by omega, show ax_Sl (z.1 + ax_mc y) - ax_Sl n0 = ax_Sl z.1 - ax_Sl n0 + (ax_Sl (z.1 + ax_mc y) - ax_Sl z.1) by omega, ← ax_tog] at this
  exact this
theorem ax_callS (B : ax_BC g p R s m args meth c cc own fr lo rt nL n0 top) {y np ix : Nat} {as : List Value} {K : ax_Po} (hy : y < 205) (hkn : (ax_M y).2.2.2.2.2.2.1 = 1) (hnp : (ax_M y).2.2.2.2.2.2.2 = np) (hfr : (ax_M y).2.2.2.2.1 + 1 ≤ fr) (hlo : 8 + ((ax_M y).2.2.1 + 11) + (ax_M y).2.2.2.2.2.1 ≤ lo) (hw : Cond.methodLink own ix (ax_M y).1 ∈ ax_T) (hd : decode cc pc = .ok (.invokestatic ix, 3))
    (hal : as.length = np) (h8 : ax_cs st ≤ 8) (ht : z.1 + ax_mc y ≤ top) (hM : ax_MM g y as z K) (kk : ∀ r z', K r z' → ax_GG g p e R s m args below meth c Q nL n0 (pc + 3) L (r.toList ++ st) z') : ax_GG g p e R s m args below meth c Q nL n0 pc L (as.reverse ++ st) z := by
  obtain ⟨hx, hb, hml, hown, hts, -, -, hW, hsz, hRf, hRl, hRc, hRs, h0t⟩ := B
  obtain ⟨o1, o2, o3, o4, o5, o6, o7, o8⟩ := ax_M_ok hy
  have os := o7 hkn
  intro h0 ls H locs hl hR hS
  refine ax_szW fun hle => ?_
  have hH : H.size = g.2.1 + z.1 := ax_size hR h0 hsz hle (by rw [← hsz]; exact hS.1)
  have a1 := ax_Sl_mono h0
  have a2 := ax_Sl_mono ht
  have a3 := ax_Sl_mono (Nat.le_add_right z.1 (ax_mc y))
  have hT : GoodIn ax_T (va_wsS own ix (ax_M y).1 (ax_wsy y)) := by
    intro w hw'
    unfold va_wsS at hw'
    rcases List.mem_append.mp hw' with h | h
    · simp only [List.mem_cons, List.not_mem_nil, or_false] at h
      rcases h with rfl | rfl | rfl
      · exact ⟨hw, (ax_T_good hw).2⟩
      · exact ⟨os, (ax_T_good os).2⟩
      · exact ⟨o3, (ax_T_good o3).2⟩
    · exact ax_good hy w h
  have hcw := va_cwS (R := R) (rm := ax_rm y z.1) (mc := ax_mc y) (ms := ax_Sl (z.1 + ax_mc y) - ax_Sl z.1) (ws := ax_wsy y) np hts hT rfl rfl rfl ⟨o4.1, o4.2, by rw [o5, hnp]⟩ ⟨by show (ax_M y).2.2.2.2.1 + 1 ≤ _; omega, by show _ + (ax_M y).2.2.2.2.2.1 ≤ _; omega⟩
  have hstk : ((as.reverse ++ st).map (ax_cv g)) = (as.map (ax_cv g)).reverse ++ st.map (ax_cv g) := by
    rw [List.map_append, List.map_reverse]
  have hrun := va_runS (e := e) (below := below) (meth := meth) (H := H) (locs := locs) (cells := z.1 - n0) (slots := ax_Sl z.1 - ax_Sl n0) (As := as.map (ax_cv g)) (rest := st.map (ax_cv g)) (g := F0 m pc ls ((as.reverse ++ st).map (ax_cv g))) ⟨hx, hb, hml, hown, hts⟩ hM hcw ⟨ax_blind _ _ _, fun U hU hw => ⟨rfl, by rw [hU]; exact hR, by rw [hU]; exact hH, ax_Wld_go hW hS hU hw⟩⟩ rfl (by rw [List.length_map]; exact hal) hl.1 hstk (by rw [ax_cs_eq]; show 2 * 0 + _ ≤ 8; omega) hd ⟨by omega, by omega⟩
  refine ax_callg hrun hS (fun r z' H1 locs1 hK hz hR1 hS1 => ?_)
  have := kk r z' hK (by omega) ls H1 locs1 hl hR1 hS1
  rw [hz, show z.1 + ax_mc y - n0 = z.1 - n0 + ax_mc y by omega, show ax_Sl (z.1 + ax_mc y) - ax_Sl n0 = ax_Sl z.1 - ax_Sl n0 + (ax_Sl (z.1 + ax_mc y) - ax_Sl z.1) by omega, ← ax_tog] at this
  exact this
theorem ax_callI (B : ax_BC g p R s m args meth c cc own fr lo rt nL n0 top) {y ix k : Nat} {K : ax_Po} (hy : y < 205) (hkn : (ax_M y).2.2.2.2.2.2.1 = 2) (hnp : (ax_M y).2.2.2.2.2.2.2 = 0) (hfr : (ax_M y).2.2.2.2.1 + 1 ≤ fr) (hlo : 8 + ((ax_M y).2.2.1 + 11) + (ax_M y).2.2.2.2.2.1 ≤ lo) (hw : Cond.methodLink own ix (ax_M y).1 ∈ ax_T ∨ (own, ix, y) ∈ ax_nest) (hd : decode cc pc = .ok (.invokespecial ix, 3))
    (h8 : ax_cs st ≤ 8) (ht : z.1 + ax_mc y ≤ top) (hM : ax_MM g y [.ref k] z K) (kk : ∀ r z', K r z' → ax_GG g p e R s m args below meth c Q nL n0 (pc + 3) L (r.toList ++ st) z') : ax_GG g p e R s m args below meth c Q nL n0 pc L (.ref k :: st) z := by
  obtain ⟨hx, hb, hml, hown, hts, -, -, hW, hsz, hRf, hRl, hRc, hRs, h0t⟩ := B
  obtain ⟨o1, o2, o3, o4, o5, o6, o7, o8⟩ := ax_M_ok hy
  obtain ⟨oi, on, or⟩ := o8 hkn
  intro h0 ls H locs hl hR hS
  refine ax_szW fun hle => ?_
  have hH : H.size = g.2.1 + z.1 := ax_size hR h0 hsz hle (by rw [← hsz]; exact hS.1)
  have a1 := ax_Sl_mono h0
  have a2 := ax_Sl_mono ht
  have a3 := ax_Sl_mono (Nat.le_add_right z.1 (ax_mc y))
  have hwsy : ax_wsy y = .code (ax_M y).1 (ax_M y).2.1 (ax_M y).2.2.1 none :: ax_T := by unfold ax_wsy; rw [or]
  have hrun : va_Run p g.1 e R s m args below meth c H locs (z.1 - n0) (ax_Sl z.1 - ax_Sl n0) (ax_mc y) (ax_Sl (z.1 + ax_mc y) - ax_Sl z.1) (F0 m pc ls ((Value.ref k :: st).map (ax_cv g))) (st.map (ax_cv g)) (ax_Qc g K (z.1 + ax_mc y) (Value.ref (ax_ad g k) :: []).toArray) (ax_A g) := by
    have hpre : PreS s H (ax_Pc g [.ref k] z) (.ref (ax_ad g k) :: []) := ⟨ax_blind _ _ _, fun U hU hw => ⟨rfl, by rw [hU]; exact hR, by rw [hU]; exact hH, ax_Wld_go hW hS hU hw⟩⟩
    rcases hw with hw | hw
    · have hcw := cwI (R := R) (rm := ax_rm y z.1) (mc := ax_mc y) (ms := ax_Sl (z.1 + ax_mc y) - ax_Sl z.1) (ws := ax_wsy y) 0 hts (ax_good hy) hwsy rfl rfl (hts _ o3) (hts _ hw) (hts _ oi) on ⟨o4.1, o4.2, by rw [o5, hnp]⟩ ⟨by show (ax_M y).2.2.2.2.1 + 1 ≤ _; omega, by show _ + (ax_M y).2.2.2.2.2.1 ≤ _; omega⟩
      exact va_runI (As := []) ⟨hx, hb, hml, hown, hts⟩ hM hcw hpre rfl rfl hl.1 rfl (by rw [ax_cs_eq]; show 2 * 0 + _ ≤ 8; omega) hd ⟨by omega, by omega⟩
    · have hcw := va_cnB (R := R) (rm := ax_rm y z.1) (mc := ax_mc y) (ms := ax_Sl (z.1 + ax_mc y) - ax_Sl z.1) (ws := ax_wsy y) 0 hts (ax_good hy) hwsy rfl rfl (hW.2.1 _ hw) (hts _ o3) ⟨o4.1, o4.2, by rw [o5, hnp]⟩ ⟨by show (ax_M y).2.2.2.2.1 + 1 ≤ _; omega, by show _ + (ax_M y).2.2.2.2.2.1 ≤ _; omega⟩
      exact va_runIN (As := []) ⟨hx, hb, hml, hown, hts⟩ hM ⟨hcw, on, hts _ oi⟩ hpre rfl rfl hl.1 rfl (by rw [ax_cs_eq]; show 2 * 0 + _ ≤ 8; omega) hd ⟨by omega, by omega⟩
  refine ax_callg hrun hS (fun r z' H1 locs1 hK hz hR1 hS1 => ?_)
  have := kk r z' hK (by omega) ls H1 locs1 hl hR1 hS1
  rw [hz, show z.1 + ax_mc y - n0 = z.1 - n0 + ax_mc y by omega, show ax_Sl (z.1 + ax_mc y) - ax_Sl n0 = ax_Sl z.1 - ax_Sl n0 + (ax_Sl (z.1 + ax_mc y) - ax_Sl z.1) by omega, ← ax_tog] at this
  exact this
end AX2
end
section
/-! One row of ours is sound, op by op. -/
section AX3
variable {g : ax_G} {p : Program} {e : Env} {R : Room} {s : State} {m : MethodId} {args : Array Value} {below : List Frame} {meth : Method} {c : Code} {Q : State → Prop} {cc : ByteArray} {own : String} {fr lo : Nat} {rt : Option FieldType} {nL n0 top : Nat} {pc : Nat} {L : ax_Lo} {st : ax_Sk} {z : ax_St}
/-- what an op must give -/
def ax_Snd (g : ax_G) (p : Program) (e : Env) (R : Room) (s : State) (m : MethodId) (args : Array Value) (below : List Frame) (meth : Method) (c : Code) (Q : State → Prop) (cc : ByteArray) (own : String) (fr lo : Nat) (rt : Option FieldType) (nL n0 top : Nat) (ret : ax_Po) (op : Nat) : Prop :=
  ∀ (pc a b d : Nat) (ws : List Nat) (cv : Value) (nxt : ax_Xs) (jmp : Nat → ax_Xs) (L : ax_Lo) (st : ax_Sk) (z : ax_St), decode cc pc = .ok (ax_ins pc op a b d ws cv) → ax_chk own fr lo rt nL op a b d ws cv = true → (op = 66 → meth.name = "<init>") →
    (∀ L st z, nxt L st z → ax_GG g p e R s m args below meth c Q nL n0 (pc + (ax_ins pc op a b d ws cv).2) L st z) → (∀ t L st z, jmp t L st z → ax_GG g p e R s m args below meth c Q nL n0 t L st z) →
    ax_step op a b d ws cv nxt jmp (ax_MM g) ret (ax_xt g) top L st z → ax_GG g p e R s m args below meth c Q nL n0 pc L st z
variable {ret : ax_Po}
theorem ax_fin4 {a : Nat} (h : a < 4) : ((Fin.ofNat 4 a : Fin 4) : Nat) = a := by simp [Fin.ofNat, Nat.mod_eq_of_lt h]
theorem ax_o0 (B : ax_BC g p R s m args meth c cc own fr lo rt nL n0 top) : ax_Snd g p e R s m args below meth c Q cc own fr lo rt nL n0 top ret 0 := by
  intro pc a b d ws cv nxt jmp L st z hd hk h66 hN hJ hs
  match cv, hd, hk, hs, hN with
  | .int v, hd, hk, hs, hN =>
    obtain ⟨hx, hb, hml, hown, hts, -, -, hW, hsz, hRf, hRl, hRc, hRs, h0t⟩ := B
    intro h0 ls H locs hl hR hS
    exact lv_iconst hx hb hd (by simp) (hN _ _ _ hs h0 ls H locs hl hR hS)
theorem ax_o1 (B : ax_BC g p R s m args meth c cc own fr lo rt nL n0 top) : ax_Snd g p e R s m args below meth c Q cc own fr lo rt nL n0 top ret 1 := by
  intro pc a b d ws cv nxt jmp L st z hd hk h66 hN hJ hs
  match cv, hd, hk, hs, hN with
  | .int v, hd, hk, hs, hN =>
    obtain ⟨hx, hb, hml, hown, hts, -, -, hW, hsz, hRf, hRl, hRc, hRs, h0t⟩ := B
    intro h0 ls H locs hl hR hS
    exact lv_bipush hx hb hd (of_decide_eq_true hk) (hN _ _ _ hs h0 ls H locs hl hR hS)
theorem ax_o2 (B : ax_BC g p R s m args meth c cc own fr lo rt nL n0 top) : ax_Snd g p e R s m args below meth c Q cc own fr lo rt nL n0 top ret 2 := by
  intro pc a b d ws cv nxt jmp L st z hd hk h66 hN hJ hs
  match cv, hd, hk, hs, hN with
  | .int v, hd, hk, hs, hN =>
    obtain ⟨hx, hb, hml, hown, hts, -, -, hW, hsz, hRf, hRl, hRc, hRs, h0t⟩ := B
    intro h0 ls H locs hl hR hS
    exact lv_sipush hx hb hd (of_decide_eq_true hk) (hN _ _ _ hs h0 ls H locs hl hR hS)
theorem ax_o3 (B : ax_BC g p R s m args meth c cc own fr lo rt nL n0 top) : ax_Snd g p e R s m args below meth c Q cc own fr lo rt nL n0 top ret 3 := by
  intro pc a b d ws cv nxt jmp L st z hd hk h66 hN hJ hs
  match cv, hd, hk, hs, hN with
  | .int v, hd, hk, hs, hN =>
    obtain ⟨hx, hb, hml, hown, hts, -, -, hW, hsz, hRf, hRl, hRc, hRs, h0t⟩ := B
    have hk : (decide (ax_wd (ws.getD 0 9) (ws.getD 1 0) = some (.constant own a v)) && goodWord (.constant own a v)) = true := hk
    rw [Bool.and_eq_true, decide_eq_true_eq] at hk
    intro h0 ls H locs hl hR hS
    exact lv_ldc hx hb hown (hts _ (ax_in _ _ hk.1 hk.2)) hd (hN _ _ _ hs h0 ls H locs hl hR hS)
theorem ax_o4 (B : ax_BC g p R s m args meth c cc own fr lo rt nL n0 top) : ax_Snd g p e R s m args below meth c Q cc own fr lo rt nL n0 top ret 4 := by
  intro pc a b d ws cv nxt jmp L st z hd hk h66 hN hJ hs
  match cv, hd, hk, hs, hN with
  | .int v, hd, hk, hs, hN =>
    obtain ⟨hx, hb, hml, hown, hts, -, -, hW, hsz, hRf, hRl, hRc, hRs, h0t⟩ := B
    have hk : (decide (ax_wd (ws.getD 0 9) (ws.getD 1 0) = some (.constant own a v)) && goodWord (.constant own a v)) = true := hk
    rw [Bool.and_eq_true, decide_eq_true_eq] at hk
    intro h0 ls H locs hl hR hS
    exact lv_ldcw hx hb hown (hts _ (ax_in _ _ hk.1 hk.2)) hd (hN _ _ _ hs h0 ls H locs hl hR hS)
theorem ax_o5 (B : ax_BC g p R s m args meth c cc own fr lo rt nL n0 top) : ax_Snd g p e R s m args below meth c Q cc own fr lo rt nL n0 top ret 5 := by
  intro pc a b d ws cv nxt jmp L st z hd hk h66 hN hJ hs
  match cv, hd, hk, hs, hN with
  | .long v, hd, hk, hs, hN =>
    obtain ⟨hx, hb, hml, hown, hts, -, -, hW, hsz, hRf, hRl, hRc, hRs, h0t⟩ := B
    have hk : decide (v = 0 ∨ v = 1) = true := hk
    rw [decide_eq_true_eq] at hk
    intro h0 ls H locs hl hR hS
    refine lv_lconst hx hb hd ?_ (hN _ _ _ hs h0 ls H locs hl hR hS)
    rcases hk with rfl | rfl <;> decide +kernel
theorem ax_o6 (B : ax_BC g p R s m args meth c cc own fr lo rt nL n0 top) : ax_Snd g p e R s m args below meth c Q cc own fr lo rt nL n0 top ret 6 := by
  intro pc a b d ws cv nxt jmp L st z hd hk h66 hN hJ hs
  match cv, hd, hk, hs, hN with
  | .long v, hd, hk, hs, hN =>
    obtain ⟨hx, hb, hml, hown, hts, -, -, hW, hsz, hRf, hRl, hRc, hRs, h0t⟩ := B
    have hk : (decide (ax_wd (ws.getD 0 9) (ws.getD 1 0) = some (.constantLong own a v)) && goodWord (.constantLong own a v)) = true := hk
    rw [Bool.and_eq_true, decide_eq_true_eq] at hk
    intro h0 ls H locs hl hR hS
    exact lv_ldc2 hx hb hown (hts _ (ax_in _ _ hk.1 hk.2)) hd (hN _ _ _ hs h0 ls H locs hl hR hS)
theorem ax_o7 (B : ax_BC g p R s m args meth c cc own fr lo rt nL n0 top) : ax_Snd g p e R s m args below meth c Q cc own fr lo rt nL n0 top ret 7 := by
  intro pc a b d ws cv nxt jmp L st z hd hk h66 hN hJ hs
  obtain ⟨x, hv, hs⟩ := ax_lI_e hs
  obtain ⟨hx, hb, hml, hown, hts, -, -, hW, hsz, hRf, hRl, hRc, hRs, h0t⟩ := B
  intro h0 ls H locs hl hR hS
  exact lv_iload_n hx hb hd (ax_fin4 (of_decide_eq_true hk)) (ax_has_at hl hv) (hN _ _ _ hs h0 ls H locs hl hR hS)
theorem ax_o9 (B : ax_BC g p R s m args meth c cc own fr lo rt nL n0 top) : ax_Snd g p e R s m args below meth c Q cc own fr lo rt nL n0 top ret 9 := by
  intro pc a b d ws cv nxt jmp L st z hd hk h66 hN hJ hs
  obtain ⟨x, hv, hs⟩ := ax_lL_e hs
  obtain ⟨hx, hb, hml, hown, hts, -, -, hW, hsz, hRf, hRl, hRc, hRs, h0t⟩ := B
  intro h0 ls H locs hl hR hS
  exact lv_lload_n hx hb hd (ax_fin4 (of_decide_eq_true hk)) (ax_has_at hl hv) (hN _ _ _ hs h0 ls H locs hl hR hS)
theorem ax_o11 (B : ax_BC g p R s m args meth c cc own fr lo rt nL n0 top) : ax_Snd g p e R s m args below meth c Q cc own fr lo rt nL n0 top ret 11 := by
  intro pc a b d ws cv nxt jmp L st z hd hk h66 hN hJ hs
  obtain ⟨x, hv, hs⟩ := ax_lR_e hs
  obtain ⟨hx, hb, hml, hown, hts, -, -, hW, hsz, hRf, hRl, hRc, hRs, h0t⟩ := B
  intro h0 ls H locs hl hR hS
  exact lv_aload_n hx hb hd (ax_fin4 (of_decide_eq_true hk)) (ax_has_at hl hv) (hN _ _ _ hs h0 ls H locs hl hR hS)
theorem ax_o8 (B : ax_BC g p R s m args meth c cc own fr lo rt nL n0 top) : ax_Snd g p e R s m args below meth c Q cc own fr lo rt nL n0 top ret 8 := by
  intro pc a b d ws cv nxt jmp L st z hd hk h66 hN hJ hs
  obtain ⟨x, hv, hs⟩ := ax_lI_e hs
  obtain ⟨hx, hb, hml, hown, hts, -, -, hW, hsz, hRf, hRl, hRc, hRs, h0t⟩ := B
  intro h0 ls H locs hl hR hS
  exact lv_iload hx hb hd (ax_has_at hl hv) (hN _ _ _ hs h0 ls H locs hl hR hS)
theorem ax_o10 (B : ax_BC g p R s m args meth c cc own fr lo rt nL n0 top) : ax_Snd g p e R s m args below meth c Q cc own fr lo rt nL n0 top ret 10 := by
  intro pc a b d ws cv nxt jmp L st z hd hk h66 hN hJ hs
  obtain ⟨x, hv, hs⟩ := ax_lL_e hs
  obtain ⟨hx, hb, hml, hown, hts, -, -, hW, hsz, hRf, hRl, hRc, hRs, h0t⟩ := B
  intro h0 ls H locs hl hR hS
  exact lv_lload hx hb hd (ax_has_at hl hv) (hN _ _ _ hs h0 ls H locs hl hR hS)
theorem ax_o12 (B : ax_BC g p R s m args meth c cc own fr lo rt nL n0 top) : ax_Snd g p e R s m args below meth c Q cc own fr lo rt nL n0 top ret 12 := by
  intro pc a b d ws cv nxt jmp L st z hd hk h66 hN hJ hs
  obtain ⟨x, hv, hs⟩ := ax_lI_e hs
  obtain ⟨y, r, hcv, hs⟩ := ax_pI_e hs
  cases hcv
  obtain ⟨hx, hb, hml, hown, hts, -, -, hW, hsz, hRf, hRl, hRc, hRs, h0t⟩ := B
  intro h0 ls H locs hl hR hS
  obtain ⟨k, hk2⟩ := List.getElem?_of_mem (ax_asc_mem (g := g).mpr ⟨a, _, hv, rfl⟩)
  rw [Nat.zero_add] at hk2
  refine lv_iinc (v := x + y) hx hb hd hl hk2 (by simp) (of_decide_eq_true hk) rfl (fun ls' hl' => ?_)
  exact hN _ _ _ hs h0 ls' H locs (ax_has1 (v := .int (x + y)) hl') hR hS
theorem ax_o13 (B : ax_BC g p R s m args meth c cc own fr lo rt nL n0 top) : ax_Snd g p e R s m args below meth c Q cc own fr lo rt nL n0 top ret 13 := by
  intro pc a b d ws cv nxt jmp L st z hd hk h66 hN hJ hs
  obtain ⟨x, r, rfl, hs⟩ := ax_pI_e hs
  have hk := of_decide_eq_true hk
  obtain ⟨hx, hb, hml, hown, hts, -, -, hW, hsz, hRf, hRl, hRc, hRs, h0t⟩ := B
  intro h0 ls H locs hl hR hS
  refine lv_istore_n hx hb hd (ax_fin4 hk.1) hl hk.2 rfl (fun ls' hl' => ?_)
  exact hN _ _ _ hs h0 ls' H locs (ax_has1 (v := .int x) hl') hR hS
theorem ax_o17 (B : ax_BC g p R s m args meth c cc own fr lo rt nL n0 top) : ax_Snd g p e R s m args below meth c Q cc own fr lo rt nL n0 top ret 17 := by
  intro pc a b d ws cv nxt jmp L st z hd hk h66 hN hJ hs
  obtain ⟨x, r, rfl, hs⟩ := ax_pR_e hs
  have hk := of_decide_eq_true hk
  obtain ⟨hx, hb, hml, hown, hts, -, -, hW, hsz, hRf, hRl, hRc, hRs, h0t⟩ := B
  intro h0 ls H locs hl hR hS
  refine lv_astore_n hx hb hd (ax_fin4 hk.1) hl hk.2 rfl (fun ls' hl' => ?_)
  exact hN _ _ _ hs h0 ls' H locs (ax_has1 (v := .ref x) hl') hR hS
theorem ax_o15 (B : ax_BC g p R s m args meth c cc own fr lo rt nL n0 top) : ax_Snd g p e R s m args below meth c Q cc own fr lo rt nL n0 top ret 15 := by
  intro pc a b d ws cv nxt jmp L st z hd hk h66 hN hJ hs
  obtain ⟨x, r, rfl, hs⟩ := ax_pL_e hs
  have hk := of_decide_eq_true hk
  obtain ⟨hx, hb, hml, hown, hts, -, -, hW, hsz, hRf, hRl, hRc, hRs, h0t⟩ := B
  intro h0 ls H locs hl hR hS
  refine lv_lstore_n hx hb hd (ax_fin4 hk.1) hl hk.2 rfl (fun ls' hl' => ?_)
  exact hN _ _ _ hs h0 ls' H locs (ax_has2 (v := .long x) hl') hR hS
theorem ax_o14 (B : ax_BC g p R s m args meth c cc own fr lo rt nL n0 top) : ax_Snd g p e R s m args below meth c Q cc own fr lo rt nL n0 top ret 14 := by
  intro pc a b d ws cv nxt jmp L st z hd hk h66 hN hJ hs
  obtain ⟨x, r, rfl, hs⟩ := ax_pI_e hs
  have hk := of_decide_eq_true hk
  obtain ⟨hx, hb, hml, hown, hts, -, -, hW, hsz, hRf, hRl, hRc, hRs, h0t⟩ := B
  intro h0 ls H locs hl hR hS
  refine lv_istore hx hb hd hl hk rfl (fun ls' hl' => ?_)
  exact hN _ _ _ hs h0 ls' H locs (ax_has1 (v := .int x) hl') hR hS
theorem ax_o16 (B : ax_BC g p R s m args meth c cc own fr lo rt nL n0 top) : ax_Snd g p e R s m args below meth c Q cc own fr lo rt nL n0 top ret 16 := by
  intro pc a b d ws cv nxt jmp L st z hd hk h66 hN hJ hs
  obtain ⟨x, r, rfl, hs⟩ := ax_pL_e hs
  have hk := of_decide_eq_true hk
  obtain ⟨hx, hb, hml, hown, hts, -, -, hW, hsz, hRf, hRl, hRc, hRs, h0t⟩ := B
  intro h0 ls H locs hl hR hS
  refine lv_lstore hx hb hd hl hk rfl (fun ls' hl' => ?_)
  exact hN _ _ _ hs h0 ls' H locs (ax_has2 (v := .long x) hl') hR hS
theorem ax_o18 (B : ax_BC g p R s m args meth c cc own fr lo rt nL n0 top) : ax_Snd g p e R s m args below meth c Q cc own fr lo rt nL n0 top ret 18 := by
  intro pc a b d ws cv nxt jmp L st z hd hk h66 hN hJ hs
  obtain ⟨y, r, rfl, hs⟩ := ax_pI_e hs
  obtain ⟨x, r, rfl, hs⟩ := ax_pI_e hs
  obtain ⟨hx, hb, hml, hown, hts, -, -, hW, hsz, hRf, hRl, hRc, hRs, h0t⟩ := B
  intro h0 ls H locs hl hR hS
  exact lv_iadd hx hb hd (hN _ _ _ hs h0 ls H locs hl hR hS)
theorem ax_o19 (B : ax_BC g p R s m args meth c cc own fr lo rt nL n0 top) : ax_Snd g p e R s m args below meth c Q cc own fr lo rt nL n0 top ret 19 := by
  intro pc a b d ws cv nxt jmp L st z hd hk h66 hN hJ hs
  obtain ⟨y, r, rfl, hs⟩ := ax_pI_e hs
  obtain ⟨x, r, rfl, hs⟩ := ax_pI_e hs
  obtain ⟨hx, hb, hml, hown, hts, -, -, hW, hsz, hRf, hRl, hRc, hRs, h0t⟩ := B
  intro h0 ls H locs hl hR hS
  exact lv_isub hx hb hd (hN _ _ _ hs h0 ls H locs hl hR hS)
theorem ax_o20 (B : ax_BC g p R s m args meth c cc own fr lo rt nL n0 top) : ax_Snd g p e R s m args below meth c Q cc own fr lo rt nL n0 top ret 20 := by
  intro pc a b d ws cv nxt jmp L st z hd hk h66 hN hJ hs
  obtain ⟨y, r, rfl, hs⟩ := ax_pI_e hs
  obtain ⟨x, r, rfl, hs⟩ := ax_pI_e hs
  obtain ⟨hx, hb, hml, hown, hts, -, -, hW, hsz, hRf, hRl, hRc, hRs, h0t⟩ := B
  intro h0 ls H locs hl hR hS
  exact lv_imul hx hb hd (hN _ _ _ hs h0 ls H locs hl hR hS)
theorem ax_o21 (B : ax_BC g p R s m args meth c cc own fr lo rt nL n0 top) : ax_Snd g p e R s m args below meth c Q cc own fr lo rt nL n0 top ret 21 := by
  intro pc a b d ws cv nxt jmp L st z hd hk h66 hN hJ hs
  obtain ⟨y, r, rfl, hs⟩ := ax_pI_e hs
  obtain ⟨x, r, rfl, hs⟩ := ax_pI_e hs
  obtain ⟨hx, hb, hml, hown, hts, -, -, hW, hsz, hRf, hRl, hRc, hRs, h0t⟩ := B
  intro h0 ls H locs hl hR hS
  exact lv_idiv hx hb hd hs.1 (hN _ _ _ hs.2 h0 ls H locs hl hR hS)
theorem ax_o22 (B : ax_BC g p R s m args meth c cc own fr lo rt nL n0 top) : ax_Snd g p e R s m args below meth c Q cc own fr lo rt nL n0 top ret 22 := by
  intro pc a b d ws cv nxt jmp L st z hd hk h66 hN hJ hs
  obtain ⟨y, r, rfl, hs⟩ := ax_pI_e hs
  obtain ⟨x, r, rfl, hs⟩ := ax_pI_e hs
  obtain ⟨hx, hb, hml, hown, hts, -, -, hW, hsz, hRf, hRl, hRc, hRs, h0t⟩ := B
  intro h0 ls H locs hl hR hS
  exact lv_irem hx hb hd hs.1 (hN _ _ _ hs.2 h0 ls H locs hl hR hS)
theorem ax_o24 (B : ax_BC g p R s m args meth c cc own fr lo rt nL n0 top) : ax_Snd g p e R s m args below meth c Q cc own fr lo rt nL n0 top ret 24 := by
  intro pc a b d ws cv nxt jmp L st z hd hk h66 hN hJ hs
  obtain ⟨y, r, rfl, hs⟩ := ax_pI_e hs
  obtain ⟨x, r, rfl, hs⟩ := ax_pI_e hs
  obtain ⟨hx, hb, hml, hown, hts, -, -, hW, hsz, hRf, hRl, hRc, hRs, h0t⟩ := B
  intro h0 ls H locs hl hR hS
  exact lv_iand hx hb hd (hN _ _ _ hs h0 ls H locs hl hR hS)
theorem ax_o25 (B : ax_BC g p R s m args meth c cc own fr lo rt nL n0 top) : ax_Snd g p e R s m args below meth c Q cc own fr lo rt nL n0 top ret 25 := by
  intro pc a b d ws cv nxt jmp L st z hd hk h66 hN hJ hs
  obtain ⟨y, r, rfl, hs⟩ := ax_pI_e hs
  obtain ⟨x, r, rfl, hs⟩ := ax_pI_e hs
  obtain ⟨hx, hb, hml, hown, hts, -, -, hW, hsz, hRf, hRl, hRc, hRs, h0t⟩ := B
  intro h0 ls H locs hl hR hS
  exact lv_ior hx hb hd (hN _ _ _ hs h0 ls H locs hl hR hS)
theorem ax_o26 (B : ax_BC g p R s m args meth c cc own fr lo rt nL n0 top) : ax_Snd g p e R s m args below meth c Q cc own fr lo rt nL n0 top ret 26 := by
  intro pc a b d ws cv nxt jmp L st z hd hk h66 hN hJ hs
  obtain ⟨y, r, rfl, hs⟩ := ax_pI_e hs
  obtain ⟨x, r, rfl, hs⟩ := ax_pI_e hs
  obtain ⟨hx, hb, hml, hown, hts, -, -, hW, hsz, hRf, hRl, hRc, hRs, h0t⟩ := B
  intro h0 ls H locs hl hR hS
  exact lv_ixor hx hb hd (hN _ _ _ hs h0 ls H locs hl hR hS)
theorem ax_o27 (B : ax_BC g p R s m args meth c cc own fr lo rt nL n0 top) : ax_Snd g p e R s m args below meth c Q cc own fr lo rt nL n0 top ret 27 := by
  intro pc a b d ws cv nxt jmp L st z hd hk h66 hN hJ hs
  obtain ⟨y, r, rfl, hs⟩ := ax_pI_e hs
  obtain ⟨x, r, rfl, hs⟩ := ax_pI_e hs
  obtain ⟨hx, hb, hml, hown, hts, -, -, hW, hsz, hRf, hRl, hRc, hRs, h0t⟩ := B
  intro h0 ls H locs hl hR hS
  exact lv_ishl hx hb hd (hN _ _ _ hs h0 ls H locs hl hR hS)
theorem ax_o28 (B : ax_BC g p R s m args meth c cc own fr lo rt nL n0 top) : ax_Snd g p e R s m args below meth c Q cc own fr lo rt nL n0 top ret 28 := by
  intro pc a b d ws cv nxt jmp L st z hd hk h66 hN hJ hs
  obtain ⟨y, r, rfl, hs⟩ := ax_pI_e hs
  obtain ⟨x, r, rfl, hs⟩ := ax_pI_e hs
  obtain ⟨hx, hb, hml, hown, hts, -, -, hW, hsz, hRf, hRl, hRc, hRs, h0t⟩ := B
  intro h0 ls H locs hl hR hS
  exact lv_ishr hx hb hd (hN _ _ _ hs h0 ls H locs hl hR hS)
theorem ax_o29 (B : ax_BC g p R s m args meth c cc own fr lo rt nL n0 top) : ax_Snd g p e R s m args below meth c Q cc own fr lo rt nL n0 top ret 29 := by
  intro pc a b d ws cv nxt jmp L st z hd hk h66 hN hJ hs
  obtain ⟨y, r, rfl, hs⟩ := ax_pL_e hs
  obtain ⟨x, r, rfl, hs⟩ := ax_pL_e hs
  obtain ⟨hx, hb, hml, hown, hts, -, -, hW, hsz, hRf, hRl, hRc, hRs, h0t⟩ := B
  intro h0 ls H locs hl hR hS
  exact lv_ladd hx hb hd (hN _ _ _ hs h0 ls H locs hl hR hS)
theorem ax_o30 (B : ax_BC g p R s m args meth c cc own fr lo rt nL n0 top) : ax_Snd g p e R s m args below meth c Q cc own fr lo rt nL n0 top ret 30 := by
  intro pc a b d ws cv nxt jmp L st z hd hk h66 hN hJ hs
  obtain ⟨y, r, rfl, hs⟩ := ax_pL_e hs
  obtain ⟨x, r, rfl, hs⟩ := ax_pL_e hs
  obtain ⟨hx, hb, hml, hown, hts, -, -, hW, hsz, hRf, hRl, hRc, hRs, h0t⟩ := B
  intro h0 ls H locs hl hR hS
  exact lv_lsub hx hb hd (hN _ _ _ hs h0 ls H locs hl hR hS)
theorem ax_o31 (B : ax_BC g p R s m args meth c cc own fr lo rt nL n0 top) : ax_Snd g p e R s m args below meth c Q cc own fr lo rt nL n0 top ret 31 := by
  intro pc a b d ws cv nxt jmp L st z hd hk h66 hN hJ hs
  obtain ⟨y, r, rfl, hs⟩ := ax_pL_e hs
  obtain ⟨x, r, rfl, hs⟩ := ax_pL_e hs
  obtain ⟨hx, hb, hml, hown, hts, -, -, hW, hsz, hRf, hRl, hRc, hRs, h0t⟩ := B
  intro h0 ls H locs hl hR hS
  exact lv_lmul hx hb hd (hN _ _ _ hs h0 ls H locs hl hR hS)
theorem ax_o32 (B : ax_BC g p R s m args meth c cc own fr lo rt nL n0 top) : ax_Snd g p e R s m args below meth c Q cc own fr lo rt nL n0 top ret 32 := by
  intro pc a b d ws cv nxt jmp L st z hd hk h66 hN hJ hs
  obtain ⟨y, r, rfl, hs⟩ := ax_pL_e hs
  obtain ⟨x, r, rfl, hs⟩ := ax_pL_e hs
  obtain ⟨hx, hb, hml, hown, hts, -, -, hW, hsz, hRf, hRl, hRc, hRs, h0t⟩ := B
  intro h0 ls H locs hl hR hS
  exact lv_ldiv hx hb hd hs.1 (hN _ _ _ hs.2 h0 ls H locs hl hR hS)
theorem ax_o33 (B : ax_BC g p R s m args meth c cc own fr lo rt nL n0 top) : ax_Snd g p e R s m args below meth c Q cc own fr lo rt nL n0 top ret 33 := by
  intro pc a b d ws cv nxt jmp L st z hd hk h66 hN hJ hs
  obtain ⟨y, r, rfl, hs⟩ := ax_pL_e hs
  obtain ⟨x, r, rfl, hs⟩ := ax_pL_e hs
  obtain ⟨hx, hb, hml, hown, hts, -, -, hW, hsz, hRf, hRl, hRc, hRs, h0t⟩ := B
  intro h0 ls H locs hl hR hS
  exact lv_lrem hx hb hd hs.1 (hN _ _ _ hs.2 h0 ls H locs hl hR hS)
theorem ax_o34 (B : ax_BC g p R s m args meth c cc own fr lo rt nL n0 top) : ax_Snd g p e R s m args below meth c Q cc own fr lo rt nL n0 top ret 34 := by
  intro pc a b d ws cv nxt jmp L st z hd hk h66 hN hJ hs
  obtain ⟨y, r, rfl, hs⟩ := ax_pL_e hs
  obtain ⟨x, r, rfl, hs⟩ := ax_pL_e hs
  obtain ⟨hx, hb, hml, hown, hts, -, -, hW, hsz, hRf, hRl, hRc, hRs, h0t⟩ := B
  intro h0 ls H locs hl hR hS
  exact lv_land hx hb hd (hN _ _ _ hs h0 ls H locs hl hR hS)
theorem ax_o35 (B : ax_BC g p R s m args meth c cc own fr lo rt nL n0 top) : ax_Snd g p e R s m args below meth c Q cc own fr lo rt nL n0 top ret 35 := by
  intro pc a b d ws cv nxt jmp L st z hd hk h66 hN hJ hs
  obtain ⟨y, r, rfl, hs⟩ := ax_pL_e hs
  obtain ⟨x, r, rfl, hs⟩ := ax_pL_e hs
  obtain ⟨hx, hb, hml, hown, hts, -, -, hW, hsz, hRf, hRl, hRc, hRs, h0t⟩ := B
  intro h0 ls H locs hl hR hS
  exact lv_lor hx hb hd (hN _ _ _ hs h0 ls H locs hl hR hS)
theorem ax_o39 (B : ax_BC g p R s m args meth c cc own fr lo rt nL n0 top) : ax_Snd g p e R s m args below meth c Q cc own fr lo rt nL n0 top ret 39 := by
  intro pc a b d ws cv nxt jmp L st z hd hk h66 hN hJ hs
  obtain ⟨y, r, rfl, hs⟩ := ax_pL_e hs
  obtain ⟨x, r, rfl, hs⟩ := ax_pL_e hs
  obtain ⟨hx, hb, hml, hown, hts, -, -, hW, hsz, hRf, hRl, hRc, hRs, h0t⟩ := B
  intro h0 ls H locs hl hR hS
  exact W.lcmp hx hb hd (hN _ _ _ hs h0 ls H locs hl hR hS)
theorem ax_o36 (B : ax_BC g p R s m args meth c cc own fr lo rt nL n0 top) : ax_Snd g p e R s m args below meth c Q cc own fr lo rt nL n0 top ret 36 := by
  intro pc a b d ws cv nxt jmp L st z hd hk h66 hN hJ hs
  obtain ⟨y, r, rfl, hs⟩ := ax_pI_e hs
  obtain ⟨x, r, rfl, hs⟩ := ax_pL_e hs
  obtain ⟨hx, hb, hml, hown, hts, -, -, hW, hsz, hRf, hRl, hRc, hRs, h0t⟩ := B
  intro h0 ls H locs hl hR hS
  exact lv_lshl hx hb hd rfl (hN _ _ _ hs h0 ls H locs hl hR hS)
theorem ax_o37 (B : ax_BC g p R s m args meth c cc own fr lo rt nL n0 top) : ax_Snd g p e R s m args below meth c Q cc own fr lo rt nL n0 top ret 37 := by
  intro pc a b d ws cv nxt jmp L st z hd hk h66 hN hJ hs
  obtain ⟨y, r, rfl, hs⟩ := ax_pI_e hs
  obtain ⟨x, r, rfl, hs⟩ := ax_pL_e hs
  obtain ⟨hx, hb, hml, hown, hts, -, -, hW, hsz, hRf, hRl, hRc, hRs, h0t⟩ := B
  intro h0 ls H locs hl hR hS
  exact lv_lshr hx hb hd rfl (hN _ _ _ hs h0 ls H locs hl hR hS)
theorem ax_o38 (B : ax_BC g p R s m args meth c cc own fr lo rt nL n0 top) : ax_Snd g p e R s m args below meth c Q cc own fr lo rt nL n0 top ret 38 := by
  intro pc a b d ws cv nxt jmp L st z hd hk h66 hN hJ hs
  obtain ⟨y, r, rfl, hs⟩ := ax_pI_e hs
  obtain ⟨x, r, rfl, hs⟩ := ax_pL_e hs
  obtain ⟨hx, hb, hml, hown, hts, -, -, hW, hsz, hRf, hRl, hRc, hRs, h0t⟩ := B
  intro h0 ls H locs hl hR hS
  exact lv_lushr hx hb hd rfl (hN _ _ _ hs h0 ls H locs hl hR hS)
theorem ax_o23 (B : ax_BC g p R s m args meth c cc own fr lo rt nL n0 top) : ax_Snd g p e R s m args below meth c Q cc own fr lo rt nL n0 top ret 23 := by
  intro pc a b d ws cv nxt jmp L st z hd hk h66 hN hJ hs
  obtain ⟨x, r, rfl, hs⟩ := ax_pI_e hs
  obtain ⟨hx, hb, hml, hown, hts, -, -, hW, hsz, hRf, hRl, hRc, hRs, h0t⟩ := B
  intro h0 ls H locs hl hR hS
  exact lv_ineg hx hb hd (hN _ _ _ hs h0 ls H locs hl hR hS)
theorem ax_o40 (B : ax_BC g p R s m args meth c cc own fr lo rt nL n0 top) : ax_Snd g p e R s m args below meth c Q cc own fr lo rt nL n0 top ret 40 := by
  intro pc a b d ws cv nxt jmp L st z hd hk h66 hN hJ hs
  obtain ⟨x, r, rfl, hs⟩ := ax_pI_e hs
  obtain ⟨hx, hb, hml, hown, hts, -, -, hW, hsz, hRf, hRl, hRc, hRs, h0t⟩ := B
  intro h0 ls H locs hl hR hS
  exact lv_i2l hx hb hd rfl (hN _ _ _ hs h0 ls H locs hl hR hS)
theorem ax_o41 (B : ax_BC g p R s m args meth c cc own fr lo rt nL n0 top) : ax_Snd g p e R s m args below meth c Q cc own fr lo rt nL n0 top ret 41 := by
  intro pc a b d ws cv nxt jmp L st z hd hk h66 hN hJ hs
  obtain ⟨x, r, rfl, hs⟩ := ax_pL_e hs
  obtain ⟨hx, hb, hml, hown, hts, -, -, hW, hsz, hRf, hRl, hRc, hRs, h0t⟩ := B
  intro h0 ls H locs hl hR hS
  exact lv_l2i hx hb hd rfl (hN _ _ _ hs h0 ls H locs hl hR hS)
theorem ax_o42 (B : ax_BC g p R s m args meth c cc own fr lo rt nL n0 top) : ax_Snd g p e R s m args below meth c Q cc own fr lo rt nL n0 top ret 42 := by
  intro pc a b d ws cv nxt jmp L st z hd hk h66 hN hJ hs
  have hs : ax_p1 st (fun v r => nxt L (v :: v :: r) z) := hs
  obtain ⟨x, r, rfl, hc, hs⟩ := ax_p1_e hs
  obtain ⟨hx, hb, hml, hown, hts, -, -, hW, hsz, hRf, hRl, hRc, hRs, h0t⟩ := B
  intro h0 ls H locs hl hR hS
  exact lv_dup hx hb hd (by rw [ax_cat]; exact hc) (hN _ _ _ hs h0 ls H locs hl hR hS)
theorem ax_o44 (B : ax_BC g p R s m args meth c cc own fr lo rt nL n0 top) : ax_Snd g p e R s m args below meth c Q cc own fr lo rt nL n0 top ret 44 := by
  intro pc a b d ws cv nxt jmp L st z hd hk h66 hN hJ hs
  have hs : ax_p1 st (fun _ r => nxt L r z) := hs
  obtain ⟨x, r, rfl, hc, hs⟩ := ax_p1_e hs
  obtain ⟨hx, hb, hml, hown, hts, -, -, hW, hsz, hRf, hRl, hRc, hRs, h0t⟩ := B
  intro h0 ls H locs hl hR hS
  exact lv_pop hx hb hd (va := ax_cv g x) (by rw [ax_cat]; exact hc) (hN _ _ _ hs h0 ls H locs hl hR hS)
theorem ax_o45 (B : ax_BC g p R s m args meth c cc own fr lo rt nL n0 top) : ax_Snd g p e R s m args below meth c Q cc own fr lo rt nL n0 top ret 45 := by
  intro pc a b d ws cv nxt jmp L st z hd hk h66 hN hJ hs
  obtain ⟨y, r, rfl, hs⟩ := ax_pI_e hs
  obtain ⟨x, r, rfl, hs⟩ := ax_pR_e hs
  obtain ⟨hx, hb, hml, hown, hts, -, -, hW, hsz, hRf, hRl, hRc, hRs, h0t⟩ := B
  intro h0 ls H locs hl hR hS
  exact lv_dup2_11 hx hb hd rfl rfl (hN _ _ _ hs h0 ls H locs hl hR hS)
theorem ax_o46 (B : ax_BC g p R s m args meth c cc own fr lo rt nL n0 top) : ax_Snd g p e R s m args below meth c Q cc own fr lo rt nL n0 top ret 46 := by
  intro pc a b d ws cv nxt jmp L st z hd hk h66 hN hJ hs
  obtain ⟨y, r, rfl, hs⟩ := ax_pL_e hs
  obtain ⟨hx, hb, hml, hown, hts, -, -, hW, hsz, hRf, hRl, hRc, hRs, h0t⟩ := B
  intro h0 ls H locs hl hR hS
  exact lv_pop2_2 hx hb hd (va := .long y) rfl (hN _ _ _ hs h0 ls H locs hl hR hS)
theorem ax_o47 (B : ax_BC g p R s m args meth c cc own fr lo rt nL n0 top) : ax_Snd g p e R s m args below meth c Q cc own fr lo rt nL n0 top ret 47 := by
  intro pc a b d ws cv nxt jmp L st z hd hk h66 hN hJ hs
  obtain ⟨x, r, rfl, hs⟩ := ax_pI_e hs
  obtain ⟨hx, hb, hml, hown, hts, -, -, hW, hsz, hRf, hRl, hRc, hRs, h0t⟩ := B
  intro h0 ls H locs hl hR hS
  exact lv_if_eq (tgt := a) hx hb hd (by omega) (fun q => hJ _ _ _ _ (hs.1 q) h0 ls H locs hl hR hS) (fun q => hN _ _ _ (hs.2 q) h0 ls H locs hl hR hS)
theorem ax_o53 (B : ax_BC g p R s m args meth c cc own fr lo rt nL n0 top) : ax_Snd g p e R s m args below meth c Q cc own fr lo rt nL n0 top ret 53 := by
  intro pc a b d ws cv nxt jmp L st z hd hk h66 hN hJ hs
  obtain ⟨y, r, rfl, hs⟩ := ax_pI_e hs
  obtain ⟨x, r, rfl, hs⟩ := ax_pI_e hs
  obtain ⟨hx, hb, hml, hown, hts, -, -, hW, hsz, hRf, hRl, hRc, hRs, h0t⟩ := B
  intro h0 ls H locs hl hR hS
  exact lv_icmp_eq (tgt := a) hx hb hd (by omega) (fun q => hJ _ _ _ _ (hs.1 q) h0 ls H locs hl hR hS) (fun q => hN _ _ _ (hs.2 q) h0 ls H locs hl hR hS)
theorem ax_o48 (B : ax_BC g p R s m args meth c cc own fr lo rt nL n0 top) : ax_Snd g p e R s m args below meth c Q cc own fr lo rt nL n0 top ret 48 := by
  intro pc a b d ws cv nxt jmp L st z hd hk h66 hN hJ hs
  obtain ⟨x, r, rfl, hs⟩ := ax_pI_e hs
  obtain ⟨hx, hb, hml, hown, hts, -, -, hW, hsz, hRf, hRl, hRc, hRs, h0t⟩ := B
  intro h0 ls H locs hl hR hS
  exact lv_if_ne (tgt := a) hx hb hd (by omega) (fun q => hJ _ _ _ _ (hs.1 q) h0 ls H locs hl hR hS) (fun q => hN _ _ _ (hs.2 q) h0 ls H locs hl hR hS)
theorem ax_o54 (B : ax_BC g p R s m args meth c cc own fr lo rt nL n0 top) : ax_Snd g p e R s m args below meth c Q cc own fr lo rt nL n0 top ret 54 := by
  intro pc a b d ws cv nxt jmp L st z hd hk h66 hN hJ hs
  obtain ⟨y, r, rfl, hs⟩ := ax_pI_e hs
  obtain ⟨x, r, rfl, hs⟩ := ax_pI_e hs
  obtain ⟨hx, hb, hml, hown, hts, -, -, hW, hsz, hRf, hRl, hRc, hRs, h0t⟩ := B
  intro h0 ls H locs hl hR hS
  exact lv_icmp_ne (tgt := a) hx hb hd (by omega) (fun q => hJ _ _ _ _ (hs.1 q) h0 ls H locs hl hR hS) (fun q => hN _ _ _ (hs.2 q) h0 ls H locs hl hR hS)
theorem ax_o49 (B : ax_BC g p R s m args meth c cc own fr lo rt nL n0 top) : ax_Snd g p e R s m args below meth c Q cc own fr lo rt nL n0 top ret 49 := by
  intro pc a b d ws cv nxt jmp L st z hd hk h66 hN hJ hs
  obtain ⟨x, r, rfl, hs⟩ := ax_pI_e hs
  obtain ⟨hx, hb, hml, hown, hts, -, -, hW, hsz, hRf, hRl, hRc, hRs, h0t⟩ := B
  intro h0 ls H locs hl hR hS
  exact lv_if_lt (tgt := a) hx hb hd (by omega) (fun q => hJ _ _ _ _ (hs.1 q) h0 ls H locs hl hR hS) (fun q => hN _ _ _ (hs.2 q) h0 ls H locs hl hR hS)
theorem ax_o55 (B : ax_BC g p R s m args meth c cc own fr lo rt nL n0 top) : ax_Snd g p e R s m args below meth c Q cc own fr lo rt nL n0 top ret 55 := by
  intro pc a b d ws cv nxt jmp L st z hd hk h66 hN hJ hs
  obtain ⟨y, r, rfl, hs⟩ := ax_pI_e hs
  obtain ⟨x, r, rfl, hs⟩ := ax_pI_e hs
  obtain ⟨hx, hb, hml, hown, hts, -, -, hW, hsz, hRf, hRl, hRc, hRs, h0t⟩ := B
  intro h0 ls H locs hl hR hS
  exact lv_icmp_lt (tgt := a) hx hb hd (by omega) (fun q => hJ _ _ _ _ (hs.1 q) h0 ls H locs hl hR hS) (fun q => hN _ _ _ (hs.2 q) h0 ls H locs hl hR hS)
theorem ax_o50 (B : ax_BC g p R s m args meth c cc own fr lo rt nL n0 top) : ax_Snd g p e R s m args below meth c Q cc own fr lo rt nL n0 top ret 50 := by
  intro pc a b d ws cv nxt jmp L st z hd hk h66 hN hJ hs
  obtain ⟨x, r, rfl, hs⟩ := ax_pI_e hs
  obtain ⟨hx, hb, hml, hown, hts, -, -, hW, hsz, hRf, hRl, hRc, hRs, h0t⟩ := B
  intro h0 ls H locs hl hR hS
  exact lv_if_ge (tgt := a) hx hb hd (by omega) (fun q => hJ _ _ _ _ (hs.1 q) h0 ls H locs hl hR hS) (fun q => hN _ _ _ (hs.2 q) h0 ls H locs hl hR hS)
theorem ax_o56 (B : ax_BC g p R s m args meth c cc own fr lo rt nL n0 top) : ax_Snd g p e R s m args below meth c Q cc own fr lo rt nL n0 top ret 56 := by
  intro pc a b d ws cv nxt jmp L st z hd hk h66 hN hJ hs
  obtain ⟨y, r, rfl, hs⟩ := ax_pI_e hs
  obtain ⟨x, r, rfl, hs⟩ := ax_pI_e hs
  obtain ⟨hx, hb, hml, hown, hts, -, -, hW, hsz, hRf, hRl, hRc, hRs, h0t⟩ := B
  intro h0 ls H locs hl hR hS
  exact lv_icmp_ge (tgt := a) hx hb hd (by omega) (fun q => hJ _ _ _ _ (hs.1 q) h0 ls H locs hl hR hS) (fun q => hN _ _ _ (hs.2 q) h0 ls H locs hl hR hS)
theorem ax_o51 (B : ax_BC g p R s m args meth c cc own fr lo rt nL n0 top) : ax_Snd g p e R s m args below meth c Q cc own fr lo rt nL n0 top ret 51 := by
  intro pc a b d ws cv nxt jmp L st z hd hk h66 hN hJ hs
  obtain ⟨x, r, rfl, hs⟩ := ax_pI_e hs
  obtain ⟨hx, hb, hml, hown, hts, -, -, hW, hsz, hRf, hRl, hRc, hRs, h0t⟩ := B
  intro h0 ls H locs hl hR hS
  exact lv_if_gt (tgt := a) hx hb hd (by omega) (fun q => hJ _ _ _ _ (hs.1 q) h0 ls H locs hl hR hS) (fun q => hN _ _ _ (hs.2 q) h0 ls H locs hl hR hS)
theorem ax_o57 (B : ax_BC g p R s m args meth c cc own fr lo rt nL n0 top) : ax_Snd g p e R s m args below meth c Q cc own fr lo rt nL n0 top ret 57 := by
  intro pc a b d ws cv nxt jmp L st z hd hk h66 hN hJ hs
  obtain ⟨y, r, rfl, hs⟩ := ax_pI_e hs
  obtain ⟨x, r, rfl, hs⟩ := ax_pI_e hs
  obtain ⟨hx, hb, hml, hown, hts, -, -, hW, hsz, hRf, hRl, hRc, hRs, h0t⟩ := B
  intro h0 ls H locs hl hR hS
  exact lv_icmp_gt (tgt := a) hx hb hd (by omega) (fun q => hJ _ _ _ _ (hs.1 q) h0 ls H locs hl hR hS) (fun q => hN _ _ _ (hs.2 q) h0 ls H locs hl hR hS)
theorem ax_o52 (B : ax_BC g p R s m args meth c cc own fr lo rt nL n0 top) : ax_Snd g p e R s m args below meth c Q cc own fr lo rt nL n0 top ret 52 := by
  intro pc a b d ws cv nxt jmp L st z hd hk h66 hN hJ hs
  obtain ⟨x, r, rfl, hs⟩ := ax_pI_e hs
  obtain ⟨hx, hb, hml, hown, hts, -, -, hW, hsz, hRf, hRl, hRc, hRs, h0t⟩ := B
  intro h0 ls H locs hl hR hS
  exact lv_if_le (tgt := a) hx hb hd (by omega) (fun q => hJ _ _ _ _ (hs.1 q) h0 ls H locs hl hR hS) (fun q => hN _ _ _ (hs.2 q) h0 ls H locs hl hR hS)
theorem ax_o58 (B : ax_BC g p R s m args meth c cc own fr lo rt nL n0 top) : ax_Snd g p e R s m args below meth c Q cc own fr lo rt nL n0 top ret 58 := by
  intro pc a b d ws cv nxt jmp L st z hd hk h66 hN hJ hs
  obtain ⟨y, r, rfl, hs⟩ := ax_pI_e hs
  obtain ⟨x, r, rfl, hs⟩ := ax_pI_e hs
  obtain ⟨hx, hb, hml, hown, hts, -, -, hW, hsz, hRf, hRl, hRc, hRs, h0t⟩ := B
  intro h0 ls H locs hl hR hS
  exact lv_icmp_le (tgt := a) hx hb hd (by omega) (fun q => hJ _ _ _ _ (hs.1 q) h0 ls H locs hl hR hS) (fun q => hN _ _ _ (hs.2 q) h0 ls H locs hl hR hS)
theorem ax_o59 (B : ax_BC g p R s m args meth c cc own fr lo rt nL n0 top) : ax_Snd g p e R s m args below meth c Q cc own fr lo rt nL n0 top ret 59 := by
  intro pc a b d ws cv nxt jmp L st z hd hk h66 hN hJ hs
  obtain ⟨hx, hb, hml, hown, hts, -, -, hW, hsz, hRf, hRl, hRc, hRs, h0t⟩ := B
  intro h0 ls H locs hl hR hS
  exact lv_goto (tgt := a) hx hb hd (by omega) (hJ _ _ _ _ hs h0 ls H locs hl hR hS)
theorem ax_ofNat_toInt {k : Nat} (h : k < 1000) : (Int32.ofNat k).toInt = (k : Int) := nI_toInt (by omega)
theorem ax_sw_e {x : Int32} {d : Nat} {jmp : Nat → Prop} : ∀ {ps : List (Nat × Nat)}, (∀ q ∈ ps, q.1 < 1000) → ax_sw x d jmp ps → (∃ (j : Nat) (q : Nat × Nat), ps[j]? = some q ∧ x.toInt = (q.1 : Int) ∧ (∀ i : Nat, i < j → ∀ q' : Nat × Nat, ps[i]? = some q' → x.toInt ≠ (q'.1 : Int)) ∧ jmp q.2) ∨ ((∀ q ∈ ps, x.toInt ≠ (q.1 : Int)) ∧ jmp d) := by
  intro ps
  induction ps with
  | nil => intro _ h; exact Or.inr ⟨fun q hq => by simp at hq, h⟩
  | cons q ps ih =>
    intro hq h
    by_cases hx : x = Int32.ofNat q.1
    · left
      refine ⟨0, q, rfl, ?_, fun i hi => absurd hi (by omega), h.1 hx⟩
      rw [hx, ax_ofNat_toInt (hq q List.mem_cons_self)]
    · have hne : x.toInt ≠ (q.1 : Int) := by
        intro h2
        apply hx
        apply Int32.toInt_inj.mp
        rw [h2, ax_ofNat_toInt (hq q List.mem_cons_self)]
      rcases ih (fun q' h' => hq q' (List.mem_cons_of_mem _ h')) (h.2 hx) with ⟨j, q', h1, h2, h3, h4⟩ | ⟨h1, h2⟩
      · left
        refine ⟨j + 1, q', by simpa using h1, h2, fun i hi q'' h'' => ?_, h4⟩
        cases i with
        | zero => simp at h''; rw [← h'']; exact hne
        | succ i => exact h3 i (by omega) q'' (by simpa using h'')
      · right
        refine ⟨fun q' h' => ?_, h2⟩
        rcases List.mem_cons.mp h' with rfl | h'
        · exact hne
        · exact h1 q' h' 
theorem ax_o60 (B : ax_BC g p R s m args meth c cc own fr lo rt nL n0 top) : ax_Snd g p e R s m args below meth c Q cc own fr lo rt nL n0 top ret 60 := by
  intro pc a b d ws cv nxt jmp L st z hd hk h66 hN hJ hs
  obtain ⟨x, r, rfl, hs⟩ := ax_pI_e hs
  have hk : (decide ((ax_prs ws).map (fun q => q.1) = (List.range (ax_prs ws).length).map (fun k => b + k)) && (ax_prs ws).all (fun q => decide (q.1 < 1000))) = true := hk
  rw [Bool.and_eq_true, decide_eq_true_eq] at hk
  have hsm : ∀ q ∈ ax_prs ws, q.1 < 1000 := fun q hq => of_decide_eq_true (List.all_eq_true.mp hk.2 q hq)
  have hkey : ∀ j q, (ax_prs ws)[j]? = some q → q.1 = b + j := by
    intro j q hj
    have h1 := congrArg (fun l => l[j]?) hk.1
    have hl2 : j < (ax_prs ws).length := (List.getElem?_eq_some_iff.mp hj).1
    simp only [List.getElem?_map, hj, List.getElem?_range hl2] at h1
    simpa using h1
  obtain ⟨hx, hb, hml, hown, hts, -, -, hW, hsz, hRf, hRl, hRc, hRs, h0t⟩ := B
  intro h0 ls H locs hl hR hS
  rcases ax_sw_e hsm hs with ⟨j, q, h1, h2, h3, h4⟩ | ⟨h1, h2⟩
  · have hj := hkey j q h1
    have hl2 : j < (ax_prs ws).length := (List.getElem?_eq_some_iff.mp h1).1
    refine lv_tableIn (tgt := q.2) hx hb hd (by omega) (by omega) (off := (q.2 : Int) - (pc : Int)) ?_ (by omega) (hJ _ _ _ _ h4 h0 ls H locs hl hR hS)
    rw [show (x.toInt - (b : Int)).toNat = j by omega]
    simp [h1]
  · refine lv_tableOut (tgt := a) hx hb hd ?_ (by omega) (hJ _ _ _ _ h2 h0 ls H locs hl hR hS)
    by_cases hc : x.toInt < (b : Int)
    · exact Or.inl hc
    · right
      by_cases hd2 : (x.toInt - b).toNat < (ax_prs ws).length
      · have h5 := List.getElem?_eq_getElem hd2
        have h6 := hkey _ _ h5
        have h7 := h1 _ (List.getElem_mem hd2)
        omega
      · omega
theorem ax_o61 (B : ax_BC g p R s m args meth c cc own fr lo rt nL n0 top) : ax_Snd g p e R s m args below meth c Q cc own fr lo rt nL n0 top ret 61 := by
  intro pc a b d ws cv nxt jmp L st z hd hk h66 hN hJ hs
  obtain ⟨x, r, rfl, hs⟩ := ax_pI_e hs
  have hk : ((ax_prs ws).all (fun q => decide (q.1 < 1000)) && (((ax_prs ws).map fun q => ((q.1 : Int), (q.2 : Int))).zip (((ax_prs ws).map fun q => ((q.1 : Int), (q.2 : Int))).drop 1)).all (fun (x, y) => decide (x.1 < y.1))) = true := hk
  rw [Bool.and_eq_true] at hk
  have hsm : ∀ q ∈ ax_prs ws, q.1 < 1000 := fun q hq => of_decide_eq_true (List.all_eq_true.mp hk.1 q hq)
  obtain ⟨hx, hb, hml, hown, hts, -, -, hW, hsz, hRf, hRl, hRc, hRs, h0t⟩ := B
  intro h0 ls H locs hl hR hS
  have hoff : ∀ (ps : List (Nat × Nat)) (jmp : Nat → Prop), (∀ q ∈ ps, q.1 < 1000) → ax_sw x a jmp ps → ∃ t : Nat, Op.lookupswitch.offset (ps.map fun q => ((q.1 : Int), (q.2 : Int) - (pc : Int))) ((a : Int) - (pc : Int)) x.toInt = (t : Int) - (pc : Int) ∧ jmp t := by
    intro ps
    induction ps with
    | nil => intro jmp _ h; exact ⟨a, rfl, h⟩
    | cons q ps ih =>
      intro jmp hq h
      rw [List.map_cons, Op.lookupswitch.offset_cons]
      by_cases hx2 : x = Int32.ofNat q.1
      · rw [if_pos (by rw [hx2, ax_ofNat_toInt (hq q List.mem_cons_self)])]
        exact ⟨q.2, rfl, h.1 hx2⟩
      · rw [if_neg ?_]
        · exact ih jmp (fun q' h' => hq q' (List.mem_cons_of_mem _ h')) (h.2 hx2)
        · intro h2
          apply hx2
          apply Int32.toInt_inj.mp
          rw [ax_ofNat_toInt (hq q List.mem_cons_self)]
          exact h2.symm
  obtain ⟨t, h1, h2⟩ := hoff _ _ hsm hs
  refine lv_lookup (tgt := t) hx hb hd ?_ (off := (t : Int) - (pc : Int)) ?_ (by omega) (hJ _ _ _ _ h2 h0 ls H locs hl hR hS)
  · have h3 := hk.2
    rw [List.all_eq_true] at h3 ⊢
    intro y hy
    simp only [List.toList_toArray] at hy
    rw [List.drop_one, ← List.map_tail, List.zip_map] at hy
    rw [List.drop_one, ← List.map_tail, List.zip_map] at h3
    obtain ⟨w, hw1, hw2⟩ := List.mem_map.mp hy
    have h4 := h3 _ (List.mem_map.mpr ⟨w, hw1, rfl⟩)
    rw [← hw2]
    simpa using h4
  · simp only [List.toList_toArray]
    exact h1
theorem ax_o62 (B : ax_BC g p R s m args meth c cc own fr lo rt nL n0 top) : ax_Snd g p e R s m args below meth c Q cc own fr lo rt nL n0 top ret 62 := by
  intro pc a b d ws cv nxt jmp L st z hd hk h66 hN hJ hs
  obtain ⟨k, r, rfl, h1, h2, hs⟩ := ax_pR_e hs
  have hk : (decide (a < 10 ∧ b < ax_N a ∧ ax_fk a b = d ∧ ax_wd (ws.getD 1 9) (ws.getD 2 0) = some (.fieldLink own (ws.getD 0 0) (ax_Tb a b).1 (ax_Tb a b).2.1 (ax_Tb a b).2.2.1)) && goodWord (.fieldLink own (ws.getD 0 0) (ax_Tb a b).1 (ax_Tb a b).2.1 (ax_Tb a b).2.2.1)) = true := hk
  rw [Bool.and_eq_true, decide_eq_true_eq] at hk
  obtain ⟨⟨k1, k2, k3, k4⟩, k5⟩ := hk
  exact ax_get B k1 k2 k3 (ax_in _ _ k4 k5) hd h1 h2 (hN _ _ _ hs)
theorem ax_gv_d1 {z : ax_St} {k j i t : Nat} {v : Int32} (hij : i = j → t ≠ 1 ∧ t ≠ 2) : ax_gv (ax_d1 z k j v) k i t = if i = j then .int v else ax_gv z k i t := by
  unfold ax_d1
  by_cases h : i = j
  · subst h
    rw [if_pos rfl]
    obtain ⟨h1, h2⟩ := hij rfl
    unfold ax_gv
    split
    · exact absurd rfl h1
    · exact absurd rfl h2
    · simp [ax_up]
  · rw [if_neg h]
    unfold ax_gv
    split <;> simp [ax_up, h]
theorem ax_gv_e1 {z : ax_St} {k j i t : Nat} {v : Int64} (hij : i = j → t = 1) : ax_gv (ax_e1 z k j v) k i t = if i = j then .long v else ax_gv z k i t := by
  unfold ax_e1
  by_cases h : i = j
  · subst h
    rw [if_pos rfl, hij rfl]
    simp [ax_gv, ax_up]
  · rw [if_neg h]
    unfold ax_gv
    split <;> simp [ax_up, h]
theorem ax_gv_r1 {z : ax_St} {k j i t v : Nat} (hij : i = j → t = 2) : ax_gv (ax_r1 z k j (some v)) k i t = if i = j then .ref v else ax_gv z k i t := by
  unfold ax_r1
  by_cases h : i = j
  · subst h
    rw [if_pos rfl, hij rfl]
    simp [ax_gv, ax_up, ax_rv]
  · rw [if_neg h]
    unfold ax_gv
    split <;> simp [ax_up, h]
theorem ax_o63 (B : ax_BC g p R s m args meth c cc own fr lo rt nL n0 top) : ax_Snd g p e R s m args below meth c Q cc own fr lo rt nL n0 top ret 63 := by
  intro pc a b d ws cv nxt jmp L st z hd hk h66 hN hJ hs
  obtain ⟨v, r, rfl, hs⟩ := ax_pI_e hs
  obtain ⟨k, r, rfl, h1, h2, hs⟩ := ax_pR_e hs
  have hk : (decide (a < 10 ∧ b < ax_N a ∧ ax_ty a b = .int ∧ (ax_Tb a b).2.2.2 = false ∧ ax_wd (ws.getD 1 9) (ws.getD 2 0) = some (.fieldLink own (ws.getD 0 0) (ax_Tb a b).1 (ax_Tb a b).2.1 (ax_Tb a b).2.2.1)) && goodWord (.fieldLink own (ws.getD 0 0) (ax_Tb a b).1 (ax_Tb a b).2.1 (ax_Tb a b).2.2.1)) = true := hk
  rw [Bool.and_eq_true, decide_eq_true_eq] at hk
  obtain ⟨⟨k1, k2, k3, k4, k5⟩, k6⟩ := hk
  refine ax_put B k1 k2 k3 k4 (ax_in _ _ k5 k6) hd h1 h2 (v := .int v) (z' := ax_d1 z k b v) rfl rfl rfl (fun i => ?_) (fun i hi => ax_ce_n hi _) (hN _ _ _ hs)
  have hf : ax_fk a b ≠ 1 ∧ ax_fk a b ≠ 2 := by unfold ax_fk; rw [k3]; decide
  by_cases hi : i = b
  · subst hi
    exact ax_gv_d1 (fun _ => hf)
  · exact ax_gv_d1 (fun q => absurd q hi)
theorem ax_o64 (B : ax_BC g p R s m args meth c cc own fr lo rt nL n0 top) : ax_Snd g p e R s m args below meth c Q cc own fr lo rt nL n0 top ret 64 := by
  intro pc a b d ws cv nxt jmp L st z hd hk h66 hN hJ hs
  obtain ⟨v, r, rfl, hs⟩ := ax_pI_e hs
  obtain ⟨k, r, rfl, h1, h2, h3, hs⟩ := ax_pR_e hs
  have hk : (decide (a < 10 ∧ b < ax_N a ∧ ax_ty a b = .boolean ∧ (ax_Tb a b).2.2.2 = false ∧ ax_wd (ws.getD 1 9) (ws.getD 2 0) = some (.fieldLink own (ws.getD 0 0) (ax_Tb a b).1 (ax_Tb a b).2.1 (ax_Tb a b).2.2.1)) && goodWord (.fieldLink own (ws.getD 0 0) (ax_Tb a b).1 (ax_Tb a b).2.1 (ax_Tb a b).2.2.1)) = true := hk
  rw [Bool.and_eq_true, decide_eq_true_eq] at hk
  obtain ⟨⟨k1, k2, k3, k4, k5⟩, k6⟩ := hk
  refine ax_put B k1 k2 k3 k4 (ax_in _ _ k5 k6) hd h1 h2 (v := .int v) (z' := ax_d1 z k b v) (by rcases h3 with rfl | rfl <;> rfl) (by rcases h3 with rfl | rfl <;> rfl) rfl (fun i => ?_) (fun i hi => ax_ce_n hi _) (hN _ _ _ hs)
  have hf : ax_fk a b ≠ 1 ∧ ax_fk a b ≠ 2 := by unfold ax_fk; rw [k3]; decide
  by_cases hi : i = b
  · subst hi
    exact ax_gv_d1 (fun _ => hf)
  · exact ax_gv_d1 (fun q => absurd q hi)
theorem ax_o65 (B : ax_BC g p R s m args meth c cc own fr lo rt nL n0 top) : ax_Snd g p e R s m args below meth c Q cc own fr lo rt nL n0 top ret 65 := by
  intro pc a b d ws cv nxt jmp L st z hd hk h66 hN hJ hs
  obtain ⟨v, r, rfl, hs⟩ := ax_pL_e hs
  obtain ⟨k, r, rfl, h1, h2, hs⟩ := ax_pR_e hs
  have hk : (decide (a < 10 ∧ b < ax_N a ∧ ax_ty a b = .long ∧ (ax_Tb a b).2.2.2 = false ∧ ax_wd (ws.getD 1 9) (ws.getD 2 0) = some (.fieldLink own (ws.getD 0 0) (ax_Tb a b).1 (ax_Tb a b).2.1 (ax_Tb a b).2.2.1)) && goodWord (.fieldLink own (ws.getD 0 0) (ax_Tb a b).1 (ax_Tb a b).2.1 (ax_Tb a b).2.2.1)) = true := hk
  rw [Bool.and_eq_true, decide_eq_true_eq] at hk
  obtain ⟨⟨k1, k2, k3, k4, k5⟩, k6⟩ := hk
  refine ax_put B k1 k2 k3 k4 (ax_in _ _ k5 k6) hd h1 h2 (v := .long v) (z' := ax_e1 z k b v) rfl rfl rfl (fun i => ?_) (fun i hi => ax_ce_e hi _) (hN _ _ _ hs)
  refine ax_gv_e1 (fun q => ?_)
  subst q
  unfold ax_fk
  rw [k3]
theorem ax_o66 (B : ax_BC g p R s m args meth c cc own fr lo rt nL n0 top) : ax_Snd g p e R s m args below meth c Q cc own fr lo rt nL n0 top ret 66 := by
  intro pc a b d ws cv nxt jmp L st z hd hk h66 hN hJ hs
  obtain ⟨v, r, rfl, hs⟩ := ax_pR_e hs
  obtain ⟨k, r, rfl, h1, h2, hs⟩ := ax_pR_e hs
  have hk : ((decide (a < 10 ∧ b < ax_N a ∧ ax_fk a b = 2 ∧ (ax_Tb a b).2.2.2 = true ∧ (ax_Tb a b).1 = own ∧ ax_wd (ws.getD 1 9) (ws.getD 2 0) = some (.fieldLink own (ws.getD 0 0) (ax_Tb a b).1 (ax_Tb a b).2.1 (ax_Tb a b).2.2.1)) && goodWord (.fieldLink own (ws.getD 0 0) (ax_Tb a b).1 (ax_Tb a b).2.1 (ax_Tb a b).2.2.1)) && (match ax_ty a b with | .object _ => true | .array _ => true | _ => false)) = true := hk
  rw [Bool.and_eq_true, Bool.and_eq_true, decide_eq_true_eq] at hk
  obtain ⟨⟨⟨k1, k2, k3, k4, k5, k6⟩, k7⟩, k8⟩ := hk
  have hnf : narrow (ax_ty a b) (ax_cv g (.ref v)) = ax_cv g (.ref v) ∧ fits (ax_ty a b) (ax_cv g (.ref v)) = true := by
    cases hty : ax_ty a b <;> rw [hty] at k8 <;> first | (simp at k8; done) | exact ⟨rfl, rfl⟩
  refine ax_putF B (h66 rfl) k1 k2 rfl k4 k5 (ax_in _ _ k6 k7) hd h1 h2 (v := .ref v) (z' := ax_r1 z k b (some v)) hnf.1 hnf.2 rfl (fun i => ?_) (fun i hi => ax_ce_r hi _) (hN _ _ _ hs)
  refine ax_gv_r1 (fun q => ?_)
  subst q
  exact k3
theorem ax_o67 (B : ax_BC g p R s m args meth c cc own fr lo rt nL n0 top) : ax_Snd g p e R s m args below meth c Q cc own fr lo rt nL n0 top ret 67 := by
  intro pc a b d ws cv nxt jmp L st z hd hk h66 hN hJ hs
  obtain ⟨i, r, rfl, h1⟩ := ax_pI_e (f := fun i r => ax_pR r fun k r => ax_ia z (ax_xt g) k fun n f => vp_in i n ∧ nxt L (.int (f i.toNatClampNeg) :: r) z) hs
  obtain ⟨k, r, rfl, h2⟩ := ax_pR_e (f := fun k r => ax_ia z (ax_xt g) k fun n f => vp_in i n ∧ nxt L (.int (f i.toNatClampNeg) :: r) z) h1
  refine ax_iald B hd ?_
  unfold ax_ia at h2 ⊢
  split
  · rename_i hc; rw [if_pos hc] at h2; exact ⟨h2.1, h2.2.1, h2.2.2.1, hN _ _ _ h2.2.2.2⟩
  · rename_i hc; rw [if_neg hc] at h2; exact ⟨h2.1, h2.2.1, hN _ _ _ h2.2.2⟩
theorem ax_o68 (B : ax_BC g p R s m args meth c cc own fr lo rt nL n0 top) : ax_Snd g p e R s m args below meth c Q cc own fr lo rt nL n0 top ret 68 := by
  intro pc a b d ws cv nxt jmp L st z hd hk h66 hN hJ hs
  obtain ⟨v, r, rfl, hs⟩ := ax_pI_e hs
  obtain ⟨i, r, rfl, hs⟩ := ax_pI_e hs
  obtain ⟨k, r, rfl, h1, h2, h3, hs⟩ := ax_pR_e hs
  exact ax_iast B hd h1 h2 h3 (hN _ _ _ hs)
theorem ax_o69 (B : ax_BC g p R s m args meth c cc own fr lo rt nL n0 top) : ax_Snd g p e R s m args below meth c Q cc own fr lo rt nL n0 top ret 69 := by
  intro pc a b d ws cv nxt jmp L st z hd hk h66 hN hJ hs
  obtain ⟨i, r, rfl, hs⟩ := ax_pI_e hs
  obtain ⟨k, r, rfl, h1, h2, h3, hs⟩ := ax_pR_e hs
  exact ax_lald B hd h1 h2 h3 (hN _ _ _ hs)
theorem ax_o70 (B : ax_BC g p R s m args meth c cc own fr lo rt nL n0 top) : ax_Snd g p e R s m args below meth c Q cc own fr lo rt nL n0 top ret 70 := by
  intro pc a b d ws cv nxt jmp L st z hd hk h66 hN hJ hs
  obtain ⟨v, r, rfl, hs⟩ := ax_pL_e hs
  obtain ⟨i, r, rfl, hs⟩ := ax_pI_e hs
  obtain ⟨k, r, rfl, h1, h2, h3, hs⟩ := ax_pR_e hs
  exact ax_last B hd h1 h2 h3 (hN _ _ _ hs)
theorem ax_o71 (B : ax_BC g p R s m args meth c cc own fr lo rt nL n0 top) : ax_Snd g p e R s m args below meth c Q cc own fr lo rt nL n0 top ret 71 := by
  intro pc a b d ws cv nxt jmp L st z hd hk h66 hN hJ hs
  obtain ⟨k, r, rfl, h2⟩ := ax_pR_e (f := fun k r => if k < 1000 then k < z.1 ∧ ((ax_kd k).1 = 10 ∨ (ax_kd k).1 = 11) ∧ nxt L (.int (Int32.ofNat (ax_kd k).2) :: r) z else k < 1003 ∧ nxt L (.int (Int32.ofNat (ax_xt g k).1) :: r) z) hs
  refine ax_alen B hd ?_
  split
  · rename_i hc; rw [if_pos hc] at h2; exact ⟨h2.1, h2.2.1, hN _ _ _ h2.2.2⟩
  · rename_i hc; rw [if_neg hc] at h2; exact ⟨h2.1, hN _ _ _ h2.2⟩
theorem ax_o72 (B : ax_BC g p R s m args meth c cc own fr lo rt nL n0 top) : ax_Snd g p e R s m args below meth c Q cc own fr lo rt nL n0 top ret 72 := by
  intro pc a b d ws cv nxt jmp L st z hd hk h66 hN hJ hs
  have hk : ((decide (a = 1001 ∧ ax_wd (ws.getD 1 9) (ws.getD 2 0) = some (.fieldLink own (ws.getD 0 0) "AskewLetters" "LEAST_SETTING" "[I")) && goodWord (.fieldLink own (ws.getD 0 0) "AskewLetters" "LEAST_SETTING" "[I")) || (decide (a = 1002 ∧ ax_wd (ws.getD 1 9) (ws.getD 2 0) = some (.fieldLink own (ws.getD 0 0) "AskewLetters" "GREATEST_SETTING" "[I")) && goodWord (.fieldLink own (ws.getD 0 0) "AskewLetters" "GREATEST_SETTING" "[I"))) = true := hk
  simp only [Bool.or_eq_true, Bool.and_eq_true, decide_eq_true_eq] at hk
  obtain ⟨hx, hb, hml, hown, hts, -, -, hW, hsz, hRf, hRl, hRc, hRs, h0t⟩ := B
  intro h0 ls H locs hl hR hS
  rcases hk with ⟨⟨rfl, k2⟩, k3⟩ | ⟨⟨rfl, k2⟩, k3⟩
  · exact va_gets hx hb hW.2.2.2.1 hS hown (hts _ (ax_in _ _ k2 k3)) (fun _ h9 => h9) hd (hN _ _ _ hs h0 ls H locs hl hR hS)
  · exact va_gets hx hb hW.2.2.2.2 hS hown (hts _ (ax_in _ _ k2 k3)) (fun _ h9 => h9) hd (hN _ _ _ hs h0 ls H locs hl hR hS)
theorem ax_o73 (B : ax_BC g p R s m args meth c cc own fr lo rt nL n0 top) : ax_Snd g p e R s m args below meth c Q cc own fr lo rt nL n0 top ret 73 := by
  intro pc a b d ws cv nxt jmp L st z hd hk h66 hN hJ hs
  obtain ⟨as, r, rfl, hlen, hs⟩ := ax_tk_e hs
  obtain ⟨k, r, rfl, h1, h2, h3, h4, hs⟩ := ax_pR_e hs
  have hk : (decide (a < 205 ∧ (ax_M a).2.2.2.2.2.2.1 = 0 ∧ (ax_M a).2.2.2.2.2.2.2 = b ∧ d < 10 ∧ ax_cn d = (ax_M a).1.cls ∧ (ax_M a).2.2.2.2.1 + 1 ≤ fr ∧ 8 + ((ax_M a).2.2.1 + 11) + (ax_M a).2.2.2.2.2.1 ≤ lo ∧ ax_wd (ws.getD 1 9) (ws.getD 2 0) = some (.methodLink own (ws.getD 0 0) (ax_M a).1)) && goodWord (.methodLink own (ws.getD 0 0) (ax_M a).1)) = true := hk
  rw [Bool.and_eq_true, decide_eq_true_eq] at hk
  obtain ⟨⟨k1, k2, k3, k4, k5, k6, k7, k8⟩, k9⟩ := hk
  have := ax_callV B (st := r) (L := L) k1 k2 k3 k4 k5 k6 k7 (ax_in _ _ k8 k9) hd (as := as.reverse ++ []) (by simp [hlen]) h1 h2 h3 h4 hs (fun v z' h => hN _ _ _ h)
  simpa using this
theorem ax_o74 (B : ax_BC g p R s m args meth c cc own fr lo rt nL n0 top) : ax_Snd g p e R s m args below meth c Q cc own fr lo rt nL n0 top ret 74 := by
  intro pc a b d ws cv nxt jmp L st z hd hk h66 hN hJ hs
  obtain ⟨as, r, rfl, hlen, h3, h4, hs⟩ := ax_tk_e hs
  have hk : (decide (a < 205 ∧ (ax_M a).2.2.2.2.2.2.1 = 1 ∧ (ax_M a).2.2.2.2.2.2.2 = b ∧ (ax_M a).2.2.2.2.1 + 1 ≤ fr ∧ 8 + ((ax_M a).2.2.1 + 11) + (ax_M a).2.2.2.2.2.1 ≤ lo ∧ ax_wd (ws.getD 1 9) (ws.getD 2 0) = some (.methodLink own (ws.getD 0 0) (ax_M a).1)) && goodWord (.methodLink own (ws.getD 0 0) (ax_M a).1)) = true := hk
  rw [Bool.and_eq_true, decide_eq_true_eq] at hk
  obtain ⟨⟨k1, k2, k3, k6, k7, k8⟩, k9⟩ := hk
  have := ax_callS B (st := r) (L := L) k1 k2 k3 k6 k7 (ax_in _ _ k8 k9) hd (as := as.reverse ++ []) (by simp [hlen]) h3 h4 hs (fun v z' h => hN _ _ _ h)
  simpa using this
theorem ax_o75 (B : ax_BC g p R s m args meth c cc own fr lo rt nL n0 top) : ax_Snd g p e R s m args below meth c Q cc own fr lo rt nL n0 top ret 75 := by
  intro pc a b d ws cv nxt jmp L st z hd hk h66 hN hJ hs
  obtain ⟨k, r, rfl, h3, h4, hs⟩ := ax_pR_e hs
  have hk : (decide (a < 205 ∧ (ax_M a).2.2.2.2.2.2.1 = 2 ∧ (ax_M a).2.2.2.2.2.2.2 = 0 ∧ (ax_M a).2.2.2.2.1 + 1 ≤ fr ∧ 8 + ((ax_M a).2.2.1 + 11) + (ax_M a).2.2.2.2.2.1 ≤ lo ∧ ax_wd (ws.getD 1 9) (ws.getD 2 0) = some (.methodLink own (ws.getD 0 0) (ax_M a).1)) && goodWord (.methodLink own (ws.getD 0 0) (ax_M a).1)) = true := hk
  rw [Bool.and_eq_true, decide_eq_true_eq] at hk
  obtain ⟨⟨k1, k2, k3, k6, k7, k8⟩, k9⟩ := hk
  exact ax_callI B k1 k2 k3 k6 k7 (Or.inl (ax_in _ _ k8 k9)) hd h3 h4 hs (fun v z' h => hN _ _ _ h)
theorem ax_o76 (B : ax_BC g p R s m args meth c cc own fr lo rt nL n0 top) : ax_Snd g p e R s m args below meth c Q cc own fr lo rt nL n0 top ret 76 := by
  intro pc a b d ws cv nxt jmp L st z hd hk h66 hN hJ hs
  obtain ⟨k, r, rfl, h3, h4, hs⟩ := ax_pR_e hs
  have hk : (decide (a < 205 ∧ (ax_M a).2.2.2.2.2.2.1 = 2 ∧ (ax_M a).2.2.2.2.2.2.2 = 0 ∧ (ax_M a).2.2.2.2.1 + 1 ≤ fr ∧ 8 + ((ax_M a).2.2.1 + 11) + (ax_M a).2.2.2.2.2.1 ≤ lo ∧ (own, ws.getD 0 0, a) ∈ ax_nest)) = true := hk
  rw [decide_eq_true_eq] at hk
  obtain ⟨k1, k2, k3, k6, k7, k8⟩ := hk
  exact ax_callI B k1 k2 k3 k6 k7 (Or.inr k8) hd h3 h4 hs (fun v z' h => hN _ _ _ h)
theorem ax_o77 (B : ax_BC g p R s m args meth c cc own fr lo rt nL n0 top) : ax_Snd g p e R s m args below meth c Q cc own fr lo rt nL n0 top ret 77 := by
  intro pc a b d ws cv nxt jmp L st z hd hk h66 hN hJ hs
  obtain ⟨k, r, rfl, h3, hs⟩ := ax_pR_e hs
  have hk : (decide (1 ≤ fr ∧ 20 ≤ lo ∧ ax_wd (ws.getD 1 9) (ws.getD 2 0) = some (.methodLink own (ws.getD 0 0) objectInit)) && goodWord (.methodLink own (ws.getD 0 0) objectInit)) = true := hk
  rw [Bool.and_eq_true, decide_eq_true_eq] at hk
  obtain ⟨⟨k1, k2, k8⟩, k9⟩ := hk
  obtain ⟨hx, hb, hml, hown, hts, -, -, hW, hsz, hRf, hRl, hRc, hRs, h0t⟩ := B
  intro h0 ls H locs hl hR hS
  refine W.objInit hx hb hown (hts _ (ax_in _ _ k8 k9)) (hts _ (ax_in 1 19 (by decide +kernel) (by decide +kernel))) (hts _ (ax_in 1 20 rfl (by decide +kernel))) rfl (by rw [hml]; exact hl.1) rfl hd (by omega) ?_ (hN _ _ _ hs h0 ls H locs hl hR hS)
  rw [ax_cs_eq]
  show 2 * 0 + _ + 12 ≤ _
  omega
theorem ax_o78 (B : ax_BC g p R s m args meth c cc own fr lo rt nL n0 top) : ax_Snd g p e R s m args below meth c Q cc own fr lo rt nL n0 top ret 78 := by
  intro pc a b d ws cv nxt jmp L st z hd hk h66 hN hJ hs
  obtain ⟨n, r, rfl, hs⟩ := ax_pI_e hs
  obtain ⟨dp, r, rfl, hs⟩ := ax_pI_e hs
  obtain ⟨k1, r, rfl, hs⟩ := ax_pR_e hs
  obtain ⟨sp, r, rfl, hs⟩ := ax_pI_e hs
  obtain ⟨k0, r, rfl, q1, q2, q3, q4, q5, q6, q7, q8, q9, q10, hs⟩ := ax_pR_e hs
  have hk : (decide (1 ≤ fr ∧ 30 ≤ lo ∧ ax_wd (ws.getD 1 9) (ws.getD 2 0) = some (.methodLink own (ws.getD 0 0) arraycopyName)) && goodWord (.methodLink own (ws.getD 0 0) arraycopyName)) = true := hk
  rw [Bool.and_eq_true, decide_eq_true_eq] at hk
  obtain ⟨⟨j1, j2, j8⟩, j9⟩ := hk
  exact ax_copy B j1 j2 (ax_in _ _ j8 j9) hd q1 q2 q3 q4 q5 q6 q7 q8 q9 q10 (hN _ _ _ hs)
theorem ax_o79 (B : ax_BC g p R s m args meth c cc own fr lo rt nL n0 top) : ax_Snd g p e R s m args below meth c Q cc own fr lo rt nL n0 top ret 79 := by
  intro pc a b d ws cv nxt jmp L st z hd hk h66 hN hJ hs
  obtain ⟨h1, h2, h3, hs⟩ := hs
  have hk : (((decide (a < 10 ∧ b = ax_N a ∧ ax_wd (ws.getD 1 9) (ws.getD 2 0) = some (.classLink own (ws.getD 0 0) (ax_cn a)) ∧ ax_wd (ws.getD 3 9) (ws.getD 4 0) = some (.instantiable (ax_cn a) (ax_N a)) ∧ ax_wd (ws.getD 5 9) (ws.getD 6 0) = some (.initialized (ax_cn a))) && goodWord (.classLink own (ws.getD 0 0) (ax_cn a))) && goodWord (.instantiable (ax_cn a) (ax_N a))) && goodWord (.initialized (ax_cn a))) = true := hk
  rw [Bool.and_eq_true, Bool.and_eq_true, Bool.and_eq_true, decide_eq_true_eq] at hk
  obtain ⟨⟨⟨⟨k1, rfl, k3, k4, k5⟩, k6⟩, k7⟩, k8⟩ := hk
  exact ax_newo B k1 (ax_in _ _ k3 k6) (ax_in _ _ k4 k7) (ax_in _ _ k5 k8) hd h1 h2 h3 (hN _ _ _ hs)
theorem ax_o80 (B : ax_BC g p R s m args meth c cc own fr lo rt nL n0 top) : ax_Snd g p e R s m args below meth c Q cc own fr lo rt nL n0 top ret 80 := by
  intro pc a b d ws cv nxt jmp L st z hd hk h66 hN hJ hs
  obtain ⟨n, r, rfl, h1, h2, h3, h4, hs⟩ := ax_pI_e hs
  exact ax_newaI B hd h1 h2 h3 h4 (hN _ _ _ hs)
theorem ax_o81 (B : ax_BC g p R s m args meth c cc own fr lo rt nL n0 top) : ax_Snd g p e R s m args below meth c Q cc own fr lo rt nL n0 top ret 81 := by
  intro pc a b d ws cv nxt jmp L st z hd hk h66 hN hJ hs
  obtain ⟨n, r, rfl, h1, h2, h3, h4, hs⟩ := ax_pI_e hs
  exact ax_newaJ B hd h1 h2 h3 h4 (hN _ _ _ hs)
theorem ax_o86 (B : ax_BC g p R s m args meth c cc own fr lo rt nL n0 top) : ax_Snd g p e R s m args below meth c Q cc own fr lo rt nL n0 top ret 86 := by
  intro pc a b d ws cv nxt jmp L st z hd hk h66 hN hJ hs
  obtain ⟨y, r, rfl, hs⟩ := ax_pI_e hs
  obtain ⟨x, r, rfl, h1, h2, hs⟩ := ax_pI_e hs
  have hk : (decide (1 ≤ fr ∧ 30 ≤ lo ∧ ax_wd (ws.getD 1 9) (ws.getD 2 0) = some (.methodLink own (ws.getD 0 0) Lib.Math.max.name)) && goodWord (.methodLink own (ws.getD 0 0) Lib.Math.max.name)) = true := hk
  rw [Bool.and_eq_true, decide_eq_true_eq] at hk
  obtain ⟨⟨k1, k2, k8⟩, k9⟩ := hk
  obtain ⟨hx, hb, hml, hown, hts, -, -, hW, hsz, hRf, hRl, hRc, hRs, h0t⟩ := B
  intro h0 ls H locs hl hR hS
  have m1 := ax_Sl_mono h2
  refine va_mmax hx hb (by rw [hml]; exact hl.1.symm) hown (hts _ (ax_in _ _ k8 k9)) (hts _ (ax_in 2 167 (by decide +kernel) (by decide +kernel))) (hts _ (ax_in 1 11 (by decide +kernel) (by decide +kernel))) (hts _ (ax_in 2 168 (by decide +kernel) (by decide +kernel))) (by omega) (by rw [ax_cs_eq]; omega) (by omega) (by omega) hd (hN _ _ _ hs h0 ls H locs hl hR hS)
theorem ax_o87 (B : ax_BC g p R s m args meth c cc own fr lo rt nL n0 top) : ax_Snd g p e R s m args below meth c Q cc own fr lo rt nL n0 top ret 87 := by
  intro pc a b d ws cv nxt jmp L st z hd hk h66 hN hJ hs
  obtain ⟨y, r, rfl, hs⟩ := ax_pI_e hs
  obtain ⟨x, r, rfl, h1, h2, hs⟩ := ax_pI_e hs
  have hk : (decide (1 ≤ fr ∧ 30 ≤ lo ∧ ax_wd (ws.getD 1 9) (ws.getD 2 0) = some (.methodLink own (ws.getD 0 0) Lib.Math.min.name)) && goodWord (.methodLink own (ws.getD 0 0) Lib.Math.min.name)) = true := hk
  rw [Bool.and_eq_true, decide_eq_true_eq] at hk
  obtain ⟨⟨k1, k2, k8⟩, k9⟩ := hk
  obtain ⟨hx, hb, hml, hown, hts, -, -, hW, hsz, hRf, hRl, hRc, hRs, h0t⟩ := B
  intro h0 ls H locs hl hR hS
  have m1 := ax_Sl_mono h2
  refine va_mmin hx hb (by rw [hml]; exact hl.1.symm) hown (hts _ (ax_in _ _ k8 k9)) (hts _ (ax_in 2 164 (by decide +kernel) (by decide +kernel))) (hts _ (ax_in 1 11 (by decide +kernel) (by decide +kernel))) (hts _ (ax_in 2 165 (by decide +kernel) (by decide +kernel))) (by omega) (by rw [ax_cs_eq]; omega) (by omega) (by omega) hd (hN _ _ _ hs h0 ls H locs hl hR hS)
theorem ax_o88 (B : ax_BC g p R s m args meth c cc own fr lo rt nL n0 top) : ax_Snd g p e R s m args below meth c Q cc own fr lo rt nL n0 top ret 88 := by
  intro pc a b d ws cv nxt jmp L st z hd hk h66 hN hJ hs
  obtain ⟨x, r, rfl, h1, h2, hs⟩ := ax_pI_e hs
  have hk : (decide (1 ≤ fr ∧ 30 ≤ lo ∧ ax_wd (ws.getD 1 9) (ws.getD 2 0) = some (.methodLink own (ws.getD 0 0) Lib.Math.abs.name)) && goodWord (.methodLink own (ws.getD 0 0) Lib.Math.abs.name)) = true := hk
  rw [Bool.and_eq_true, decide_eq_true_eq] at hk
  obtain ⟨⟨k1, k2, k8⟩, k9⟩ := hk
  obtain ⟨hx, hb, hml, hown, hts, -, -, hW, hsz, hRf, hRl, hRc, hRs, h0t⟩ := B
  intro h0 ls H locs hl hR hS
  have m1 := ax_Sl_mono h2
  refine va_mabs hx hb (by rw [hml]; exact hl.1.symm) hown (hts _ (ax_in _ _ k8 k9)) (hts _ (ax_in 2 239 (by decide +kernel) (by decide +kernel))) (hts _ (ax_in 1 11 (by decide +kernel) (by decide +kernel))) (hts _ (ax_in 3 0 (by decide +kernel) (by decide +kernel))) (by omega) (by rw [ax_cs_eq]; omega) (by omega) (by omega) hd (hN _ _ _ hs h0 ls H locs hl hR hS)
theorem ax_o89 (B : ax_BC g p R s m args meth c cc own fr lo rt nL n0 top) : ax_Snd g p e R s m args below meth c Q cc own fr lo rt nL n0 top ret 89 := by
  intro pc a b d ws cv nxt jmp L st z hd hk h66 hN hJ hs
  obtain ⟨y, r, rfl, hs⟩ := ax_pL_e hs
  obtain ⟨x, r, rfl, h1, h2, hs⟩ := ax_pL_e hs
  have hk : (decide (1 ≤ fr ∧ 30 ≤ lo ∧ ax_wd (ws.getD 1 9) (ws.getD 2 0) = some (.methodLink own (ws.getD 0 0) Lib.MathLoose.max_long.x)) && goodWord (.methodLink own (ws.getD 0 0) Lib.MathLoose.max_long.x)) = true := hk
  rw [Bool.and_eq_true, decide_eq_true_eq] at hk
  obtain ⟨⟨k1, k2, k8⟩, k9⟩ := hk
  obtain ⟨hx, hb, hml, hown, hts, -, -, hW, hsz, hRf, hRl, hRc, hRs, h0t⟩ := B
  intro h0 ls H locs hl hR hS
  have m1 := ax_Sl_mono h2
  refine va_mmax_long hx hb (by rw [hml]; exact hl.1.symm) hown (hts _ (ax_in _ _ k8 k9)) (hts _ (ax_in 3 130 (by decide +kernel) (by decide +kernel))) (hts _ (ax_in 1 11 (by decide +kernel) (by decide +kernel))) (hts _ (ax_in 3 131 (by decide +kernel) (by decide +kernel))) (by omega) (by rw [ax_cs_eq]; omega) (by omega) (by omega) hd (hN _ _ _ hs h0 ls H locs hl hR hS)
theorem ax_o90 (B : ax_BC g p R s m args meth c cc own fr lo rt nL n0 top) : ax_Snd g p e R s m args below meth c Q cc own fr lo rt nL n0 top ret 90 := by
  intro pc a b d ws cv nxt jmp L st z hd hk h66 hN hJ hs
  obtain ⟨y, r, rfl, hs⟩ := ax_pL_e hs
  obtain ⟨x, r, rfl, h1, h2, hs⟩ := ax_pL_e hs
  have hk : (decide (1 ≤ fr ∧ 30 ≤ lo ∧ ax_wd (ws.getD 1 9) (ws.getD 2 0) = some (.methodLink own (ws.getD 0 0) Lib.MathLoose.min_long.x)) && goodWord (.methodLink own (ws.getD 0 0) Lib.MathLoose.min_long.x)) = true := hk
  rw [Bool.and_eq_true, decide_eq_true_eq] at hk
  obtain ⟨⟨k1, k2, k8⟩, k9⟩ := hk
  obtain ⟨hx, hb, hml, hown, hts, -, -, hW, hsz, hRf, hRl, hRc, hRs, h0t⟩ := B
  intro h0 ls H locs hl hR hS
  have m1 := ax_Sl_mono h2
  refine va_mmin_long hx hb (by rw [hml]; exact hl.1.symm) hown (hts _ (ax_in _ _ k8 k9)) (hts _ (ax_in 3 142 (by decide +kernel) (by decide +kernel))) (hts _ (ax_in 1 11 (by decide +kernel) (by decide +kernel))) (hts _ (ax_in 3 143 (by decide +kernel) (by decide +kernel))) (by omega) (by rw [ax_cs_eq]; omega) (by omega) (by omega) hd (hN _ _ _ hs h0 ls H locs hl hR hS)
theorem ax_o91 (B : ax_BC g p R s m args meth c cc own fr lo rt nL n0 top) : ax_Snd g p e R s m args below meth c Q cc own fr lo rt nL n0 top ret 91 := by
  intro pc a b d ws cv nxt jmp L st z hd hk h66 hN hJ hs
  obtain ⟨x, r, rfl, h1, h2, hs⟩ := ax_pL_e hs
  have hk : (decide (1 ≤ fr ∧ 30 ≤ lo ∧ ax_wd (ws.getD 1 9) (ws.getD 2 0) = some (.methodLink own (ws.getD 0 0) Lib.MathLoose.abs_long.x)) && goodWord (.methodLink own (ws.getD 0 0) Lib.MathLoose.abs_long.x)) = true := hk
  rw [Bool.and_eq_true, decide_eq_true_eq] at hk
  obtain ⟨⟨k1, k2, k8⟩, k9⟩ := hk
  obtain ⟨hx, hb, hml, hown, hts, -, -, hW, hsz, hRf, hRl, hRc, hRs, h0t⟩ := B
  intro h0 ls H locs hl hR hS
  have m1 := ax_Sl_mono h2
  refine va_mabs_long hx hb (by rw [hml]; exact hl.1.symm) hown (hts _ (ax_in _ _ k8 k9)) (hts _ (ax_in 3 50 (by decide +kernel) (by decide +kernel))) (hts _ (ax_in 1 11 (by decide +kernel) (by decide +kernel))) (hts _ (ax_in 3 51 (by decide +kernel) (by decide +kernel))) (by omega) (by rw [ax_cs_eq]; omega) (by omega) (by omega) hd (hN _ _ _ hs h0 ls H locs hl hR hS)
end AX3
end
section
/-! A point of a method, by what its rows say; runs of rows. -/
abbrev ax_H : Type := ByteArray × String × Nat × Nat × Option FieldType × Nat × String
def ax_hy (y : Nat) : ax_H := ((ax_M y).2.1, (ax_M y).1.cls, (ax_M y).2.2.2.2.1, (ax_M y).2.2.2.2.2.1, (ax_M y).2.2.2.1, (ax_M y).2.2.1, (ax_M y).1.name)
/-- how the method ends -/
def ax_RT (g : ax_G) (p : Program) (e : Env) (R : Room) (s : State) (m : MethodId) (args : Array Value) (below : List Frame) (meth : Method) (c : Code) (Q : State → Prop) (h : ax_H) (ret : ax_Po) (n0 top : Nat) : Prop :=
  (∀ pc L v z, decode h.1 pc = .ok (.ireturn, 1) → h.2.2.2.2.1 = some .int → z.1 = top → ret (some (.int v)) z → ax_GG g p e R s m args below meth c Q h.2.2.2.2.2.1 n0 pc L [.int v] z) ∧
  (∀ pc L v z, decode h.1 pc = .ok (.ireturn, 1) → h.2.2.2.2.1 = some .boolean → z.1 = top → (v = 0 ∨ v = 1) → ret (some (.int v)) z → ax_GG g p e R s m args below meth c Q h.2.2.2.2.2.1 n0 pc L [.int v] z) ∧
  (∀ pc L v z, decode h.1 pc = .ok (.lreturn, 1) → h.2.2.2.2.1 = some .long → z.1 = top → ret (some (.long v)) z → ax_GG g p e R s m args below meth c Q h.2.2.2.2.2.1 n0 pc L [.long v] z) ∧
  (∀ pc L z, decode h.1 pc = .ok (.return_, 1) → h.2.2.2.2.1 = none → z.1 = top → ret none z → ax_GG g p e R s m args below meth c Q h.2.2.2.2.2.1 n0 pc L [] z)
def ax_WP (g : ax_G) (h : ax_H) (ret : ax_Po) (n0 top pc : Nat) (L : ax_Lo) (st : ax_Sk) (z : ax_St) : Prop :=
  ∀ (p : Program) (e : Env) (R : Room) (s : State) (m : MethodId) (args : Array Value) (below : List Frame) (meth : Method) (c : Code) (Q : State → Prop), ax_BC g p R s m args meth c h.1 h.2.1 h.2.2.1 h.2.2.2.1 h.2.2.2.2.1 h.2.2.2.2.2.1 n0 top → meth.name = h.2.2.2.2.2.2 → ax_RT g p e R s m args below meth c Q h ret n0 top → ax_GG g p e R s m args below meth c Q h.2.2.2.2.2.1 n0 pc L st z
def ax_okh (h : ax_H) (r : ax_Row) : Bool := ax_okr h.2.1 h.2.2.1 h.2.2.2.1 h.2.2.2.2.1 h.2.2.2.2.2.1 h.1 r && (r.2.1 != 66 || h.2.2.2.2.2.2 == "<init>")
def ax_len (r : ax_Row) : Nat := (ax_ins r.1 r.2.1 r.2.2.1 r.2.2.2.1 r.2.2.2.2.1 r.2.2.2.2.2.1 r.2.2.2.2.2.2).2
def ax_stp (g : ax_G) (ret : ax_Po) (top : Nat) (r : ax_Row) (nxt : ax_Xs) (jmp : Nat → ax_Xs) (L : ax_Lo) (st : ax_Sk) (z : ax_St) : Prop := ax_step r.2.1 r.2.2.1 r.2.2.2.1 r.2.2.2.2.1 r.2.2.2.2.2.1 r.2.2.2.2.2.2 nxt jmp (ax_MM g) ret (ax_xt g) top L st z
theorem ax_WP_at {g : ax_G} {h : ax_H} {ret : ax_Po} {n0 top : Nat} {r : ax_Row} {nxt : ax_Xs} {jmp : Nat → ax_Xs} {L : ax_Lo} {st : ax_Sk} {z : ax_St} (hok : ax_okh h r = true) (hn : ∀ L st z, nxt L st z → ax_WP g h ret n0 top (r.1 + ax_len r) L st z) (hj : ∀ t L st z, jmp t L st z → ax_WP g h ret n0 top t L st z)
    (hs : ax_stp g ret top r nxt jmp L st z) : ax_WP g h ret n0 top r.1 L st z := by
  intro p e R s m args below meth c Q B hnm hRT
  obtain ⟨pc, op, a, b, d, ws, cv⟩ := r
  unfold ax_okh ax_okr at hok
  rw [Bool.and_eq_true, Bool.and_eq_true, decide_eq_true_eq] at hok
  obtain ⟨⟨hd, hk⟩, h66⟩ := hok
  have h66' : op = 66 → meth.name = "<init>" := by
    intro q
    rw [hnm]
    rw [Bool.or_eq_true] at h66
    rcases h66 with h66 | h66
    · have : op ≠ 66 := by simpa using h66
      exact absurd q this
    · simpa using h66
  have hN : ∀ L st z, nxt L st z → ax_GG g p e R s m args below meth c Q h.2.2.2.2.2.1 n0 (pc + (ax_ins pc op a b d ws cv).2) L st z := fun L st z q => hn L st z q p e R s m args below meth c Q B hnm hRT
  have hJ : ∀ t L st z, jmp t L st z → ax_GG g p e R s m args below meth c Q h.2.2.2.2.2.1 n0 t L st z := fun t L st z q => hj t L st z q p e R s m args below meth c Q B hnm hRT
  have hd : decode h.1 pc = .ok (ax_ins pc op a b d ws cv) := hd
  have hk : ax_chk h.2.1 h.2.2.1 h.2.2.2.1 h.2.2.2.2.1 h.2.2.2.2.2.1 op a b d ws cv = true := hk
  have hs : ax_step op a b d ws cv nxt jmp (ax_MM g) ret (ax_xt g) top L st z := hs
  match op, hd, hk, h66', hN, hs with
  | 0, hd, hk, h66, hN, hs => exact ax_o0 (ret := ret) B pc a b d ws cv nxt jmp L st z hd hk h66 hN hJ hs
  | 1, hd, hk, h66, hN, hs => exact ax_o1 (ret := ret) B pc a b d ws cv nxt jmp L st z hd hk h66 hN hJ hs
  | 2, hd, hk, h66, hN, hs => exact ax_o2 (ret := ret) B pc a b d ws cv nxt jmp L st z hd hk h66 hN hJ hs
  | 3, hd, hk, h66, hN, hs => exact ax_o3 (ret := ret) B pc a b d ws cv nxt jmp L st z hd hk h66 hN hJ hs
  | 4, hd, hk, h66, hN, hs => exact ax_o4 (ret := ret) B pc a b d ws cv nxt jmp L st z hd hk h66 hN hJ hs
  | 5, hd, hk, h66, hN, hs => exact ax_o5 (ret := ret) B pc a b d ws cv nxt jmp L st z hd hk h66 hN hJ hs
  | 6, hd, hk, h66, hN, hs => exact ax_o6 (ret := ret) B pc a b d ws cv nxt jmp L st z hd hk h66 hN hJ hs
  | 7, hd, hk, h66, hN, hs => exact ax_o7 (ret := ret) B pc a b d ws cv nxt jmp L st z hd hk h66 hN hJ hs
  | 8, hd, hk, h66, hN, hs => exact ax_o8 (ret := ret) B pc a b d ws cv nxt jmp L st z hd hk h66 hN hJ hs
  | 9, hd, hk, h66, hN, hs => exact ax_o9 (ret := ret) B pc a b d ws cv nxt jmp L st z hd hk h66 hN hJ hs
  | 10, hd, hk, h66, hN, hs => exact ax_o10 (ret := ret) B pc a b d ws cv nxt jmp L st z hd hk h66 hN hJ hs
  | 11, hd, hk, h66, hN, hs => exact ax_o11 (ret := ret) B pc a b d ws cv nxt jmp L st z hd hk h66 hN hJ hs
  | 12, hd, hk, h66, hN, hs => exact ax_o12 (ret := ret) B pc a b d ws cv nxt jmp L st z hd hk h66 hN hJ hs
  | 13, hd, hk, h66, hN, hs => exact ax_o13 (ret := ret) B pc a b d ws cv nxt jmp L st z hd hk h66 hN hJ hs
  | 14, hd, hk, h66, hN, hs => exact ax_o14 (ret := ret) B pc a b d ws cv nxt jmp L st z hd hk h66 hN hJ hs
  | 15, hd, hk, h66, hN, hs => exact ax_o15 (ret := ret) B pc a b d ws cv nxt jmp L st z hd hk h66 hN hJ hs
  | 16, hd, hk, h66, hN, hs => exact ax_o16 (ret := ret) B pc a b d ws cv nxt jmp L st z hd hk h66 hN hJ hs
  | 17, hd, hk, h66, hN, hs => exact ax_o17 (ret := ret) B pc a b d ws cv nxt jmp L st z hd hk h66 hN hJ hs
  | 18, hd, hk, h66, hN, hs => exact ax_o18 (ret := ret) B pc a b d ws cv nxt jmp L st z hd hk h66 hN hJ hs
  | 19, hd, hk, h66, hN, hs => exact ax_o19 (ret := ret) B pc a b d ws cv nxt jmp L st z hd hk h66 hN hJ hs
  | 20, hd, hk, h66, hN, hs => exact ax_o20 (ret := ret) B pc a b d ws cv nxt jmp L st z hd hk h66 hN hJ hs
  | 21, hd, hk, h66, hN, hs => exact ax_o21 (ret := ret) B pc a b d ws cv nxt jmp L st z hd hk h66 hN hJ hs
  | 22, hd, hk, h66, hN, hs => exact ax_o22 (ret := ret) B pc a b d ws cv nxt jmp L st z hd hk h66 hN hJ hs
  | 23, hd, hk, h66, hN, hs => exact ax_o23 (ret := ret) B pc a b d ws cv nxt jmp L st z hd hk h66 hN hJ hs
  | 24, hd, hk, h66, hN, hs => exact ax_o24 (ret := ret) B pc a b d ws cv nxt jmp L st z hd hk h66 hN hJ hs
  | 25, hd, hk, h66, hN, hs => exact ax_o25 (ret := ret) B pc a b d ws cv nxt jmp L st z hd hk h66 hN hJ hs
  | 26, hd, hk, h66, hN, hs => exact ax_o26 (ret := ret) B pc a b d ws cv nxt jmp L st z hd hk h66 hN hJ hs
  | 27, hd, hk, h66, hN, hs => exact ax_o27 (ret := ret) B pc a b d ws cv nxt jmp L st z hd hk h66 hN hJ hs
  | 28, hd, hk, h66, hN, hs => exact ax_o28 (ret := ret) B pc a b d ws cv nxt jmp L st z hd hk h66 hN hJ hs
  | 29, hd, hk, h66, hN, hs => exact ax_o29 (ret := ret) B pc a b d ws cv nxt jmp L st z hd hk h66 hN hJ hs
  | 30, hd, hk, h66, hN, hs => exact ax_o30 (ret := ret) B pc a b d ws cv nxt jmp L st z hd hk h66 hN hJ hs
  | 31, hd, hk, h66, hN, hs => exact ax_o31 (ret := ret) B pc a b d ws cv nxt jmp L st z hd hk h66 hN hJ hs
  | 32, hd, hk, h66, hN, hs => exact ax_o32 (ret := ret) B pc a b d ws cv nxt jmp L st z hd hk h66 hN hJ hs
  | 33, hd, hk, h66, hN, hs => exact ax_o33 (ret := ret) B pc a b d ws cv nxt jmp L st z hd hk h66 hN hJ hs
  | 34, hd, hk, h66, hN, hs => exact ax_o34 (ret := ret) B pc a b d ws cv nxt jmp L st z hd hk h66 hN hJ hs
  | 35, hd, hk, h66, hN, hs => exact ax_o35 (ret := ret) B pc a b d ws cv nxt jmp L st z hd hk h66 hN hJ hs
  | 36, hd, hk, h66, hN, hs => exact ax_o36 (ret := ret) B pc a b d ws cv nxt jmp L st z hd hk h66 hN hJ hs
  | 37, hd, hk, h66, hN, hs => exact ax_o37 (ret := ret) B pc a b d ws cv nxt jmp L st z hd hk h66 hN hJ hs
  | 38, hd, hk, h66, hN, hs => exact ax_o38 (ret := ret) B pc a b d ws cv nxt jmp L st z hd hk h66 hN hJ hs
  | 39, hd, hk, h66, hN, hs => exact ax_o39 (ret := ret) B pc a b d ws cv nxt jmp L st z hd hk h66 hN hJ hs
  | 40, hd, hk, h66, hN, hs => exact ax_o40 (ret := ret) B pc a b d ws cv nxt jmp L st z hd hk h66 hN hJ hs
  | 41, hd, hk, h66, hN, hs => exact ax_o41 (ret := ret) B pc a b d ws cv nxt jmp L st z hd hk h66 hN hJ hs
  | 42, hd, hk, h66, hN, hs => exact ax_o42 (ret := ret) B pc a b d ws cv nxt jmp L st z hd hk h66 hN hJ hs
  | 44, hd, hk, h66, hN, hs => exact ax_o44 (ret := ret) B pc a b d ws cv nxt jmp L st z hd hk h66 hN hJ hs
  | 45, hd, hk, h66, hN, hs => exact ax_o45 (ret := ret) B pc a b d ws cv nxt jmp L st z hd hk h66 hN hJ hs
  | 46, hd, hk, h66, hN, hs => exact ax_o46 (ret := ret) B pc a b d ws cv nxt jmp L st z hd hk h66 hN hJ hs
  | 47, hd, hk, h66, hN, hs => exact ax_o47 (ret := ret) B pc a b d ws cv nxt jmp L st z hd hk h66 hN hJ hs
  | 48, hd, hk, h66, hN, hs => exact ax_o48 (ret := ret) B pc a b d ws cv nxt jmp L st z hd hk h66 hN hJ hs
  | 49, hd, hk, h66, hN, hs => exact ax_o49 (ret := ret) B pc a b d ws cv nxt jmp L st z hd hk h66 hN hJ hs
  | 50, hd, hk, h66, hN, hs => exact ax_o50 (ret := ret) B pc a b d ws cv nxt jmp L st z hd hk h66 hN hJ hs
  | 51, hd, hk, h66, hN, hs => exact ax_o51 (ret := ret) B pc a b d ws cv nxt jmp L st z hd hk h66 hN hJ hs
  | 52, hd, hk, h66, hN, hs => exact ax_o52 (ret := ret) B pc a b d ws cv nxt jmp L st z hd hk h66 hN hJ hs
  | 53, hd, hk, h66, hN, hs => exact ax_o53 (ret := ret) B pc a b d ws cv nxt jmp L st z hd hk h66 hN hJ hs
  | 54, hd, hk, h66, hN, hs => exact ax_o54 (ret := ret) B pc a b d ws cv nxt jmp L st z hd hk h66 hN hJ hs
  | 55, hd, hk, h66, hN, hs => exact ax_o55 (ret := ret) B pc a b d ws cv nxt jmp L st z hd hk h66 hN hJ hs
  | 56, hd, hk, h66, hN, hs => exact ax_o56 (ret := ret) B pc a b d ws cv nxt jmp L st z hd hk h66 hN hJ hs
  | 57, hd, hk, h66, hN, hs => exact ax_o57 (ret := ret) B pc a b d ws cv nxt jmp L st z hd hk h66 hN hJ hs
  | 58, hd, hk, h66, hN, hs => exact ax_o58 (ret := ret) B pc a b d ws cv nxt jmp L st z hd hk h66 hN hJ hs
  | 59, hd, hk, h66, hN, hs => exact ax_o59 (ret := ret) B pc a b d ws cv nxt jmp L st z hd hk h66 hN hJ hs
  | 60, hd, hk, h66, hN, hs => exact ax_o60 (ret := ret) B pc a b d ws cv nxt jmp L st z hd hk h66 hN hJ hs
  | 61, hd, hk, h66, hN, hs => exact ax_o61 (ret := ret) B pc a b d ws cv nxt jmp L st z hd hk h66 hN hJ hs
  | 62, hd, hk, h66, hN, hs => exact ax_o62 (ret := ret) B pc a b d ws cv nxt jmp L st z hd hk h66 hN hJ hs
  | 63, hd, hk, h66, hN, hs => exact ax_o63 (ret := ret) B pc a b d ws cv nxt jmp L st z hd hk h66 hN hJ hs
  | 64, hd, hk, h66, hN, hs => exact ax_o64 (ret := ret) B pc a b d ws cv nxt jmp L st z hd hk h66 hN hJ hs
  | 65, hd, hk, h66, hN, hs => exact ax_o65 (ret := ret) B pc a b d ws cv nxt jmp L st z hd hk h66 hN hJ hs
  | 66, hd, hk, h66, hN, hs => exact ax_o66 (ret := ret) B pc a b d ws cv nxt jmp L st z hd hk h66 hN hJ hs
  | 67, hd, hk, h66, hN, hs => exact ax_o67 (ret := ret) B pc a b d ws cv nxt jmp L st z hd hk h66 hN hJ hs
  | 68, hd, hk, h66, hN, hs => exact ax_o68 (ret := ret) B pc a b d ws cv nxt jmp L st z hd hk h66 hN hJ hs
  | 69, hd, hk, h66, hN, hs => exact ax_o69 (ret := ret) B pc a b d ws cv nxt jmp L st z hd hk h66 hN hJ hs
  | 70, hd, hk, h66, hN, hs => exact ax_o70 (ret := ret) B pc a b d ws cv nxt jmp L st z hd hk h66 hN hJ hs
  | 71, hd, hk, h66, hN, hs => exact ax_o71 (ret := ret) B pc a b d ws cv nxt jmp L st z hd hk h66 hN hJ hs
  | 72, hd, hk, h66, hN, hs => exact ax_o72 (ret := ret) B pc a b d ws cv nxt jmp L st z hd hk h66 hN hJ hs
  | 73, hd, hk, h66, hN, hs => exact ax_o73 (ret := ret) B pc a b d ws cv nxt jmp L st z hd hk h66 hN hJ hs
  | 74, hd, hk, h66, hN, hs => exact ax_o74 (ret := ret) B pc a b d ws cv nxt jmp L st z hd hk h66 hN hJ hs
  | 75, hd, hk, h66, hN, hs => exact ax_o75 (ret := ret) B pc a b d ws cv nxt jmp L st z hd hk h66 hN hJ hs
  | 76, hd, hk, h66, hN, hs => exact ax_o76 (ret := ret) B pc a b d ws cv nxt jmp L st z hd hk h66 hN hJ hs
  | 77, hd, hk, h66, hN, hs => exact ax_o77 (ret := ret) B pc a b d ws cv nxt jmp L st z hd hk h66 hN hJ hs
  | 78, hd, hk, h66, hN, hs => exact ax_o78 (ret := ret) B pc a b d ws cv nxt jmp L st z hd hk h66 hN hJ hs
  | 79, hd, hk, h66, hN, hs => exact ax_o79 (ret := ret) B pc a b d ws cv nxt jmp L st z hd hk h66 hN hJ hs
  | 80, hd, hk, h66, hN, hs => exact ax_o80 (ret := ret) B pc a b d ws cv nxt jmp L st z hd hk h66 hN hJ hs
  | 81, hd, hk, h66, hN, hs => exact ax_o81 (ret := ret) B pc a b d ws cv nxt jmp L st z hd hk h66 hN hJ hs
  | 86, hd, hk, h66, hN, hs => exact ax_o86 (ret := ret) B pc a b d ws cv nxt jmp L st z hd hk h66 hN hJ hs
  | 87, hd, hk, h66, hN, hs => exact ax_o87 (ret := ret) B pc a b d ws cv nxt jmp L st z hd hk h66 hN hJ hs
  | 88, hd, hk, h66, hN, hs => exact ax_o88 (ret := ret) B pc a b d ws cv nxt jmp L st z hd hk h66 hN hJ hs
  | 89, hd, hk, h66, hN, hs => exact ax_o89 (ret := ret) B pc a b d ws cv nxt jmp L st z hd hk h66 hN hJ hs
  | 90, hd, hk, h66, hN, hs => exact ax_o90 (ret := ret) B pc a b d ws cv nxt jmp L st z hd hk h66 hN hJ hs
  | 91, hd, hk, h66, hN, hs => exact ax_o91 (ret := ret) B pc a b d ws cv nxt jmp L st z hd hk h66 hN hJ hs
  | 82, hd, hk, h66, hN, hs =>
    obtain ⟨v, r, rfl, hr, ht, h9⟩ := ax_pI_e hs
    subst hr
    exact hRT.1 pc L v z hd (of_decide_eq_true hk) ht h9
  | 83, hd, hk, h66, hN, hs =>
    obtain ⟨v, r, rfl, hr, ht, hv, h9⟩ := ax_pI_e hs
    subst hr
    exact hRT.2.1 pc L v z hd (of_decide_eq_true hk) ht hv h9
  | 84, hd, hk, h66, hN, hs =>
    obtain ⟨v, r, rfl, hr, ht, h9⟩ := ax_pL_e hs
    subst hr
    exact hRT.2.2.1 pc L v z hd (of_decide_eq_true hk) ht h9
  | 85, hd, hk, h66, hN, hs =>
    obtain ⟨hr, ht, h9⟩ := hs
    subst hr
    exact hRT.2.2.2 pc L z hd (of_decide_eq_true hk) ht h9
  | 43, hd, hk, h66, hN, hs => exact False.elim hs
  | n + 92, hd, hk, h66, hN, hs => exact False.elim hs
/-- the method's contract out of its first point -/
def ax_ent (n : Nat) : List Value → ax_Lo
  | [] => List.replicate n none
  | .long x :: l => some (.long x) :: none :: ax_ent (n - 2) l
  | v :: l => some v :: ax_ent (n - 1) l
theorem ax_ent_mem {g : ax_G} : ∀ {as : List Value} {n i : Nat} {q : Nat × Value}, (∀ v ∈ as, ∀ x, v ≠ .double x) → q ∈ ax_asc g i (ax_ent n as) → q ∈ lv_args i (as.map (ax_cv g)) := by
  intro as
  induction as with
  | nil =>
    intro n i q _ h
    obtain ⟨j, v, h1, -⟩ := ax_asc_mem.mp h
    unfold ax_ent at h1
    rw [List.getElem?_replicate] at h1
    split at h1 <;> simp at h1
  | cons v as ih =>
    intro n i q hd h
    have hd' : ∀ v ∈ as, ∀ x, v ≠ .double x := fun w hw => hd w (List.mem_cons_of_mem _ hw)
    cases v with
    | long x =>
      simp only [ax_ent, ax_asc, List.mem_cons] at h
      simp only [List.map_cons, lv_args, List.mem_cons]
      rcases h with h | h
      · exact Or.inl h
      · exact Or.inr (ih hd' h)
    | double x => exact absurd rfl (hd _ List.mem_cons_self x)
    | _ =>
      simp only [ax_ent, ax_asc, List.mem_cons] at h
      simp only [List.map_cons, lv_args, List.mem_cons]
      rcases h with h | h
      · exact Or.inl h
      · exact Or.inr (ih hd' h)
theorem ax_sl_len (g : ax_G) (as : List Value) : (lg_sl (as.map (ax_cv g))).length = ax_cs as := by
  induction as with
  | nil => rfl
  | cons v as ih =>
    simp only [List.map_cons, lg_sl, List.flatMap_cons, List.length_append]
    rw [show (List.flatMap (fun v => if v.category = 2 then [Slot.val v, Slot.second] else [Slot.val v]) (as.map (ax_cv g))).length = ax_cs as from ih]
    cases v <;> simp [ax_cs, ax_cv, Value.category, Nat.add_comm]
theorem ax_MM_of {g : ax_G} {y : Nat} {as : List Value} {z : ax_St} {K : ax_Po} (hy : y < 205) (hcs : ax_cs as ≤ (ax_M y).2.2.1) (hdb : ∀ v ∈ as, ∀ x, v ≠ .double x) (h : ax_WP g (ax_hy y) K z.1 (z.1 + ax_mc y) 0 (ax_ent (ax_M y).2.2.1 as) [] z) : ax_MM g y as z K := by
  obtain ⟨o1, o2, o3, o4, o5, o6, o7, o8⟩ := ax_M_ok hy
  refine Met.ofW (cc := (ax_M y).2.1) (maxL := (ax_M y).2.2.1) (ret := (ax_M y).2.2.2.1) o1 rfl ?_
  intro p e s m args below meth c s₁ B hml hv
  obtain ⟨rfl, hR, hsz, hW⟩ := hv
  have hts0 := atoms_spec (ws := ax_wsy y) B.pre
  have hts : ∀ w ∈ ax_T, w.before ((as.map (ax_cv g)).toArray) s = true := fun w hw => hts0 w (List.mem_cons_of_mem _ hw)
  have hown : s.vm.findClass (ax_M y).1.cls = some m.cls := findClass_of_methodNamed B.named
  have hin : meth.name = (ax_M y).1.name := (name_of_methodNamed B.named B.method).1
  have hS : va_S (ax_A g) s.heap s.heap [] := va_S.rf
  have BC : ax_BC g p (headSpec (ax_wsy y) (ax_rm y z.1)).room s m ((as.map (ax_cv g)).toArray) meth c (ax_hy y).1 (ax_hy y).2.1 (ax_hy y).2.2.1 (ax_hy y).2.2.2.1 (ax_hy y).2.2.2.2.1 (ax_hy y).2.2.2.2.2.1 z.1 (z.1 + ax_mc y) := by
    refine ⟨B.exec, B.bytes, hml, hown, hts, B.returns, B.notSynchronized, hW, hsz, Nat.le_refl _, Nat.le_refl _, ?_, Nat.le_refl _, Nat.le_add_right _ _⟩
    show z.1 + ax_mc y - z.1 ≤ ax_mc y
    omega
  have hl := lv_entry (as.map (ax_cv g)) (n := (ax_M y).2.2.1) (by rw [ax_sl_len]; exact hcs)
  rw [lg_entry_eq]
  have hl2 : lv_has ((lg_sl (as.map (ax_cv g)) ++ List.replicate ((ax_M y).2.2.1 - (lg_sl (as.map (ax_cv g))).length) Slot.unset).toArray) (ax_M y).2.2.1 (ax_asc g 0 (ax_ent (ax_M y).2.2.1 as)) := ⟨hl.1, hl.2.1, fun q hq => hl.2.2 q (ax_ent_mem hdb hq)⟩
  have key : ∀ (r : Option Value) (z' : ax_St) (H : Heap) (t : State), K r z' → z'.1 = z.1 + ax_mc y → ax_Rep g z' H → ∀ locs, va_S (ax_A g) s.heap H locs → t.heap = H → ax_Qc g K (z.1 + ax_mc y) ((as.map (ax_cv g)).toArray) s (.returned (r.map (ax_cv g))) t := by
    intro r z' H t hK hz hR' locs hS' ht
    exact ⟨⟨r, z', rfl, hK, hz, by rw [ht]; exact hR'⟩, hS'.F ht⟩
  have e1 : z.1 + ax_mc y - z.1 = ax_mc y := by omega
  have RT : ax_RT g p e (headSpec (ax_wsy y) (ax_rm y z.1)).room s m ((as.map (ax_cv g)).toArray) below meth c (MQ below (ax_Qc g K (z.1 + ax_mc y)) ((as.map (ax_cv g)).toArray) s (ax_mc y) (ax_Sl (z.1 + ax_mc y) - ax_Sl z.1) (ax_A g)) (ax_hy y) K z.1 (z.1 + ax_mc y) := by
    refine ⟨fun pc L v z' hd hrt hz hK => ?_, fun pc L v z' hd hrt hz hv hK => ?_, fun pc L v z' hd hrt hz hK => ?_, fun pc L z' hd hrt hz hK => ?_⟩
    · intro h0 ls H locs hl hR' hS'
      rw [hz, e1]
      exact W.iret B.exec B.bytes (B.returns.trans hrt) (fun t ht hw => key (some (.int v)) z' H t hK hz hR' locs hS' ht) hS'.2.2 hd B.notSynchronized
    · intro h0 ls H locs hl hR' hS'
      rw [hz, e1]
      exact W.zret B.exec B.bytes (B.returns.trans hrt) (by rcases hv with rfl | rfl <;> rfl) (fun t ht hw => key (some (.int v)) z' H t hK hz hR' locs hS' ht) hS'.2.2 hd B.notSynchronized
    · intro h0 ls H locs hl hR' hS'
      rw [hz, e1]
      exact W.lret B.exec B.bytes (B.returns.trans hrt) (fun t ht hw => key (some (.long v)) z' H t hK hz hR' locs hS' ht) hS'.2.2 hd B.notSynchronized
    · intro h0 ls H locs hl hR' hS'
      rw [hz, e1]
      exact W.vret B.exec B.bytes (B.returns.trans hrt) (fun t ht hw => key none z' H t hK hz hR' locs hS' ht) hS'.2.2 hd B.notSynchronized
  have := h p e _ s m _ below meth c _ BC hin RT (Nat.le_refl _) _ s.heap [] hl2 hR hS
  rw [Nat.sub_self, Nat.sub_self] at this
  exact this
/-! Runs: rows in order; a jump goes to the rows that lk gives, a cut stops. -/
def ax_run (g : ax_G) (ret : ax_Po) (top : Nat) (X : Nat → ax_Xs) (lk : Nat → List ax_Row) (ct : Nat → Bool) : Nat → List ax_Row → ax_Xs
  | 0, _ => fun _ _ _ => False
  | _ + 1, [] => fun _ _ _ => False
  | n + 1, r :: rest => fun L st z => ax_stp g ret top r (fun L st z => bif ct (r.1 + ax_len r) then X (r.1 + ax_len r) L st z else ax_run g ret top X lk ct n rest L st z) (fun t L st z => bif ct t then X t L st z else ax_run g ret top X lk ct n (lk t) L st z) L st z
/-- rows as they stand in the bytes: each one is right, and each begins where the one ahead ends -/
def ax_adj (r : ax_Row) (rest : List ax_Row) : Bool := match rest with
  | [] => true
  | r2 :: _ => r2.1 == r.1 + ax_len r
def ax_okl (h : ax_H) : List ax_Row → Bool
  | [] => true
  | r :: rest => ax_okh h r && ax_adj r rest && ax_okl h rest
theorem ax_WP_run {g : ax_G} {h : ax_H} {ret : ax_Po} {n0 top : Nat} {lk : Nat → List ax_Row} {ct : Nat → Bool} (hlk : ∀ t, ax_okl h (lk t) = true) (hlp : ∀ t r rest, lk t = r :: rest → r.1 = t) :
    ∀ (n : Nat) (r : ax_Row) (rest : List ax_Row) (L : ax_Lo) (st : ax_Sk) (z : ax_St), ax_okl h (r :: rest) = true → ax_run g ret top (ax_WP g h ret n0 top) lk ct n (r :: rest) L st z → ax_WP g h ret n0 top r.1 L st z := by
  intro n
  induction n with
  | zero => intro r rest L st z _ hr; exact False.elim hr
  | succ n ih =>
    intro r rest L st z hok hr
    have hok2 : (ax_okh h r && ax_adj r rest && ax_okl h rest) = true := hok
    rw [Bool.and_eq_true, Bool.and_eq_true] at hok2
    obtain ⟨⟨h1, h2⟩, h3⟩ := hok2
    refine ax_WP_at (r := r) h1 (fun L st z q => ?_) (fun t L st z q => ?_) hr
    · cases hc : ct (r.1 + ax_len r) with
      | true => rw [hc] at q; exact q
      | false =>
        rw [hc] at q
        have q : ax_run g ret top (ax_WP g h ret n0 top) lk ct n rest L st z := q
        cases rest with
        | nil => cases n <;> exact False.elim q
        | cons r2 rest2 =>
          have h2 : (r2.1 == r.1 + ax_len r) = true := h2
          rw [beq_iff_eq] at h2
          rw [← h2]
          exact ih r2 rest2 L st z h3 q
    · cases hc : ct t with
      | true => rw [hc] at q; exact q
      | false =>
        rw [hc] at q
        have q : ax_run g ret top (ax_WP g h ret n0 top) lk ct n (lk t) L st z := q
        cases hl : lk t with
        | nil => rw [hl] at q; cases n <;> exact False.elim q
        | cons r2 rest2 =>
          rw [hl] at q
          have := ih r2 rest2 L st z (by rw [← hl]; exact hlk t) q
          rw [hlp t r2 rest2 hl] at this
          exact this
end
section
theorem zz_test : (1 : Int32) + 1 = 2 := by decide
theorem zz_test2 (x y : Int32) (h : x < y) : ¬ y ≤ x := by
  intro h2
  rw [Int32.lt_iff_toInt_lt] at h
  rw [Int32.le_iff_toInt_le] at h2
  omega
example (x : Int32) (h : x < 5) : x < 7 := by
  simp only [Int32.lt_iff_toInt_lt] at *
  simp at *
  omega
example : ((-1 : Int32) < 5) = True := by simp
example : ((3 : Int32) = 5) = False := by simp
example : ((3 : Int32) + 4 = 7) = True := by simp
end
