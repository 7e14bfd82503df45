section
-- ===== PART A: goes FIRST, ahead of the names: the tables' words, and 'selects' of the private methods out of them =====
/-- a private method of a class that the tables say can be made, by its rows of tables_1 -/
def lw_okq (q : MethodName × Nat) : Prop := (q.1.cls ≠ "java/lang/invoke/MethodHandle" ∧ q.1.cls ≠ "java/lang/invoke/VarHandle") ∧ Cond.instantiable q.1.cls q.2 ∈ tables_1 ∧ Cond.privateMethod q.1 ∈ tables_1 ∧ Cond.instanceMethod q.1 ∈ tables_1
theorem lw_p0 : lw_okq (⟨"AsleepCots", "found", "(I)I"⟩, 10) := ⟨⟨by decide +kernel, by decide +kernel⟩, List.mem_of_getElem? (i := 13) (by decide +kernel), List.mem_of_getElem? (i := 270) (by decide +kernel), List.mem_of_getElem? (i := 271) (by decide +kernel)⟩
theorem lw_p1 : lw_okq (⟨"AsleepCots", "foundNothing", "(I)I"⟩, 10) := ⟨⟨by decide +kernel, by decide +kernel⟩, List.mem_of_getElem? (i := 13) (by decide +kernel), List.mem_of_getElem? (i := 279) (by decide +kernel), List.mem_of_getElem? (i := 280) (by decide +kernel)⟩
theorem lw_p2 : lw_okq (⟨"AsleepCots$Tape", "widthAt", "(I)I"⟩, 3) := ⟨⟨by decide +kernel, by decide +kernel⟩, List.mem_of_getElem? (i := 23) (by decide +kernel), List.mem_of_getElem? (i := 328) (by decide +kernel), List.mem_of_getElem? (i := 329) (by decide +kernel)⟩
theorem lw_p3 : lw_okq (⟨"AsleepCots$Tape", "faultAt", "(IIII)I"⟩, 3) := ⟨⟨by decide +kernel, by decide +kernel⟩, List.mem_of_getElem? (i := 23) (by decide +kernel), List.mem_of_getElem? (i := 335) (by decide +kernel), List.mem_of_getElem? (i := 336) (by decide +kernel)⟩
theorem lw_p4 : lw_okq (⟨"AsleepCots$Tape", "valueAt", "(II)I"⟩, 3) := ⟨⟨by decide +kernel, by decide +kernel⟩, List.mem_of_getElem? (i := 23) (by decide +kernel), List.mem_of_getElem? (i := 347) (by decide +kernel), List.mem_of_getElem? (i := 348) (by decide +kernel)⟩
theorem lw_p5 : lw_okq (⟨"AsleepCots", "noRoom", "()Z"⟩, 10) := ⟨⟨by decide +kernel, by decide +kernel⟩, List.mem_of_getElem? (i := 13) (by decide +kernel), List.mem_of_getElem? (i := 398) (by decide +kernel), List.mem_of_getElem? (i := 399) (by decide +kernel)⟩
theorem lw_p6 : lw_okq (⟨"AsleepCots$Room", "calmDown", "(I)V"⟩, 14) := ⟨⟨by decide +kernel, by decide +kernel⟩, List.mem_of_getElem? (i := 43) (by decide +kernel), List.mem_of_getElem? (i := 421) (by decide +kernel), List.mem_of_getElem? (i := 422) (by decide +kernel)⟩
theorem lw_p7 : lw_okq (⟨"AsleepCots$Room", "listen", "(IZ)Z"⟩, 14) := ⟨⟨by decide +kernel, by decide +kernel⟩, List.mem_of_getElem? (i := 43) (by decide +kernel), List.mem_of_getElem? (i := 444) (by decide +kernel), List.mem_of_getElem? (i := 445) (by decide +kernel)⟩
theorem lw_p8 : lw_okq (⟨"AsleepCots$Room", "calmGained", "(I)I"⟩, 14) := ⟨⟨by decide +kernel, by decide +kernel⟩, List.mem_of_getElem? (i := 43) (by decide +kernel), List.mem_of_getElem? (i := 456) (by decide +kernel), List.mem_of_getElem? (i := 457) (by decide +kernel)⟩
theorem lw_p9 : lw_okq (⟨"AsleepCots", "noChild", "(I)Z"⟩, 10) := ⟨⟨by decide +kernel, by decide +kernel⟩, List.mem_of_getElem? (i := 13) (by decide +kernel), List.mem_of_getElem? (i := 465) (by decide +kernel), List.mem_of_getElem? (i := 466) (by decide +kernel)⟩
theorem lw_p10 : lw_okq (⟨"AsleepCots$Foresight", "weighHands", "(II)V"⟩, 8) := ⟨⟨by decide +kernel, by decide +kernel⟩, List.mem_of_getElem? (i := 141) (by decide +kernel), List.mem_of_getElem? (i := 570) (by decide +kernel), List.mem_of_getElem? (i := 571) (by decide +kernel)⟩
theorem lw_p11 : lw_okq (⟨"AsleepCots$Foresight", "goesAsTold", "()Z"⟩, 8) := ⟨⟨by decide +kernel, by decide +kernel⟩, List.mem_of_getElem? (i := 141) (by decide +kernel), List.mem_of_getElem? (i := 636) (by decide +kernel), List.mem_of_getElem? (i := 637) (by decide +kernel)⟩
theorem lw_p12 : lw_okq (⟨"AsleepCots$Foresight", "casesAsleep", "(IIII)J"⟩, 8) := ⟨⟨by decide +kernel, by decide +kernel⟩, List.mem_of_getElem? (i := 141) (by decide +kernel), List.mem_of_getElem? (i := 658) (by decide +kernel), List.mem_of_getElem? (i := 659) (by decide +kernel)⟩
theorem lw_p13 : lw_okq (⟨"AsleepCots$Foresight", "cancel", "(I)V"⟩, 8) := ⟨⟨by decide +kernel, by decide +kernel⟩, List.mem_of_getElem? (i := 141) (by decide +kernel), List.mem_of_getElem? (i := 664) (by decide +kernel), List.mem_of_getElem? (i := 665) (by decide +kernel)⟩
theorem lw_p14 : lw_okq (⟨"AsleepCots$Foresight", "cancelBy", "(I)V"⟩, 8) := ⟨⟨by decide +kernel, by decide +kernel⟩, List.mem_of_getElem? (i := 141) (by decide +kernel), List.mem_of_getElem? (i := 668) (by decide +kernel), List.mem_of_getElem? (i := 669) (by decide +kernel)⟩
theorem lw_p15 : lw_okq (⟨"AsleepCots$Asks", "give", "(II)I"⟩, 7) := ⟨⟨by decide +kernel, by decide +kernel⟩, List.mem_of_getElem? (i := 179) (by decide +kernel), List.mem_of_getElem? (i := 725) (by decide +kernel), List.mem_of_getElem? (i := 726) (by decide +kernel)⟩
def lw_privs_1 : List (MethodName × Nat) := [(⟨"AsleepCots", "found", "(I)I"⟩, 10), (⟨"AsleepCots", "foundNothing", "(I)I"⟩, 10), (⟨"AsleepCots$Tape", "widthAt", "(I)I"⟩, 3), (⟨"AsleepCots$Tape", "faultAt", "(IIII)I"⟩, 3), (⟨"AsleepCots$Tape", "valueAt", "(II)I"⟩, 3), (⟨"AsleepCots", "noRoom", "()Z"⟩, 10), (⟨"AsleepCots$Room", "calmDown", "(I)V"⟩, 14), (⟨"AsleepCots$Room", "listen", "(IZ)Z"⟩, 14), (⟨"AsleepCots$Room", "calmGained", "(I)I"⟩, 14), (⟨"AsleepCots", "noChild", "(I)Z"⟩, 10), (⟨"AsleepCots$Foresight", "weighHands", "(II)V"⟩, 8), (⟨"AsleepCots$Foresight", "goesAsTold", "()Z"⟩, 8), (⟨"AsleepCots$Foresight", "casesAsleep", "(IIII)J"⟩, 8), (⟨"AsleepCots$Foresight", "cancel", "(I)V"⟩, 8), (⟨"AsleepCots$Foresight", "cancelBy", "(I)V"⟩, 8), (⟨"AsleepCots$Asks", "give", "(II)I"⟩, 7)]
theorem lw_r1 : ∀ q ∈ lw_privs_1, lw_okq q := List.forall_mem_cons.mpr ⟨lw_p0, List.forall_mem_cons.mpr ⟨lw_p1, List.forall_mem_cons.mpr ⟨lw_p2, List.forall_mem_cons.mpr ⟨lw_p3, List.forall_mem_cons.mpr ⟨lw_p4, List.forall_mem_cons.mpr ⟨lw_p5, List.forall_mem_cons.mpr ⟨lw_p6, List.forall_mem_cons.mpr ⟨lw_p7, List.forall_mem_cons.mpr ⟨lw_p8, List.forall_mem_cons.mpr ⟨lw_p9, List.forall_mem_cons.mpr ⟨lw_p10, List.forall_mem_cons.mpr ⟨lw_p11, List.forall_mem_cons.mpr ⟨lw_p12, List.forall_mem_cons.mpr ⟨lw_p13, List.forall_mem_cons.mpr ⟨lw_p14, List.forall_mem_cons.mpr ⟨lw_p15, fun _ h => absurd h List.not_mem_nil⟩⟩⟩⟩⟩⟩⟩⟩⟩⟩⟩⟩⟩⟩⟩⟩
theorem lw_p16 : lw_okq (⟨"AsleepCots$Asks", "leave", "(I)V"⟩, 7) := ⟨⟨by decide +kernel, by decide +kernel⟩, List.mem_of_getElem? (i := 179) (by decide +kernel), List.mem_of_getElem? (i := 729) (by decide +kernel), List.mem_of_getElem? (i := 730) (by decide +kernel)⟩
theorem lw_p17 : lw_okq (⟨"AsleepCots", "presentRows", "()I"⟩, 10) := ⟨⟨by decide +kernel, by decide +kernel⟩, List.mem_of_getElem? (i := 13) (by decide +kernel), List.mem_of_getElem? (i := 741) (by decide +kernel), List.mem_of_getElem? (i := 742) (by decide +kernel)⟩
theorem lw_p18 : lw_okq (⟨"AsleepCotsModel", "found", "(I)I"⟩, 18) := ⟨⟨by decide +kernel, by decide +kernel⟩, List.mem_of_getElem? (i := 749) (by decide +kernel), List.mem_of_getElem? (i := 824) (by decide +kernel), List.mem_of_getElem? (i := 825) (by decide +kernel)⟩
theorem lw_p19 : lw_okq (⟨"AsleepCotsModel", "good", "(I)I"⟩, 18) := ⟨⟨by decide +kernel, by decide +kernel⟩, List.mem_of_getElem? (i := 749) (by decide +kernel), List.mem_of_getElem? (i := 829) (by decide +kernel), List.mem_of_getElem? (i := 830) (by decide +kernel)⟩
theorem lw_p20 : lw_okq (⟨"AsleepCotsModel", "takesLaw", "()Z"⟩, 18) := ⟨⟨by decide +kernel, by decide +kernel⟩, List.mem_of_getElem? (i := 749) (by decide +kernel), List.mem_of_getElem? (i := 858) (by decide +kernel), List.mem_of_getElem? (i := 859) (by decide +kernel)⟩
theorem lw_p21 : lw_okq (⟨"AsleepCotsModel", "takes", "(I)Z"⟩, 18) := ⟨⟨by decide +kernel, by decide +kernel⟩, List.mem_of_getElem? (i := 749) (by decide +kernel), List.mem_of_getElem? (i := 862) (by decide +kernel), List.mem_of_getElem? (i := 863) (by decide +kernel)⟩
theorem lw_p22 : lw_okq (⟨"AsleepCotsModel", "byteAt", "(I)I"⟩, 18) := ⟨⟨by decide +kernel, by decide +kernel⟩, List.mem_of_getElem? (i := 749) (by decide +kernel), List.mem_of_getElem? (i := 866) (by decide +kernel), List.mem_of_getElem? (i := 867) (by decide +kernel)⟩
theorem lw_p23 : lw_okq (⟨"AsleepCotsModel", "fails", "(II)Z"⟩, 18) := ⟨⟨by decide +kernel, by decide +kernel⟩, List.mem_of_getElem? (i := 749) (by decide +kernel), List.mem_of_getElem? (i := 870) (by decide +kernel), List.mem_of_getElem? (i := 871) (by decide +kernel)⟩
theorem lw_p24 : lw_okq (⟨"AsleepCotsModel", "takesNumber", "(III)Z"⟩, 18) := ⟨⟨by decide +kernel, by decide +kernel⟩, List.mem_of_getElem? (i := 749) (by decide +kernel), List.mem_of_getElem? (i := 874) (by decide +kernel), List.mem_of_getElem? (i := 875) (by decide +kernel)⟩
theorem lw_p25 : lw_okq (⟨"AsleepCotsModel", "takesChild", "()Z"⟩, 18) := ⟨⟨by decide +kernel, by decide +kernel⟩, List.mem_of_getElem? (i := 749) (by decide +kernel), List.mem_of_getElem? (i := 880) (by decide +kernel), List.mem_of_getElem? (i := 881) (by decide +kernel)⟩
theorem lw_p26 : lw_okq (⟨"AsleepCotsModel", "copyAll", "(II)V"⟩, 18) := ⟨⟨by decide +kernel, by decide +kernel⟩, List.mem_of_getElem? (i := 749) (by decide +kernel), List.mem_of_getElem? (i := 888) (by decide +kernel), List.mem_of_getElem? (i := 889) (by decide +kernel)⟩
theorem lw_p27 : lw_okq (⟨"AsleepCotsModel", "isRoom", "()Z"⟩, 18) := ⟨⟨by decide +kernel, by decide +kernel⟩, List.mem_of_getElem? (i := 749) (by decide +kernel), List.mem_of_getElem? (i := 905) (by decide +kernel), List.mem_of_getElem? (i := 906) (by decide +kernel)⟩
theorem lw_p28 : lw_okq (⟨"AsleepCotsModel", "minds", "()V"⟩, 18) := ⟨⟨by decide +kernel, by decide +kernel⟩, List.mem_of_getElem? (i := 749) (by decide +kernel), List.mem_of_getElem? (i := 910) (by decide +kernel), List.mem_of_getElem? (i := 911) (by decide +kernel)⟩
theorem lw_p29 : lw_okq (⟨"AsleepCotsModel", "passes", "(I)V"⟩, 18) := ⟨⟨by decide +kernel, by decide +kernel⟩, List.mem_of_getElem? (i := 749) (by decide +kernel), List.mem_of_getElem? (i := 914) (by decide +kernel), List.mem_of_getElem? (i := 915) (by decide +kernel)⟩
theorem lw_p30 : lw_okq (⟨"AsleepCotsModel", "noiseAt", "(II)I"⟩, 18) := ⟨⟨by decide +kernel, by decide +kernel⟩, List.mem_of_getElem? (i := 749) (by decide +kernel), List.mem_of_getElem? (i := 918) (by decide +kernel), List.mem_of_getElem? (i := 919) (by decide +kernel)⟩
theorem lw_p31 : lw_okq (⟨"AsleepCotsModel", "isOut", "(II)Z"⟩, 18) := ⟨⟨by decide +kernel, by decide +kernel⟩, List.mem_of_getElem? (i := 749) (by decide +kernel), List.mem_of_getElem? (i := 922) (by decide +kernel), List.mem_of_getElem? (i := 923) (by decide +kernel)⟩
def lw_privs_2 : List (MethodName × Nat) := [(⟨"AsleepCots$Asks", "leave", "(I)V"⟩, 7), (⟨"AsleepCots", "presentRows", "()I"⟩, 10), (⟨"AsleepCotsModel", "found", "(I)I"⟩, 18), (⟨"AsleepCotsModel", "good", "(I)I"⟩, 18), (⟨"AsleepCotsModel", "takesLaw", "()Z"⟩, 18), (⟨"AsleepCotsModel", "takes", "(I)Z"⟩, 18), (⟨"AsleepCotsModel", "byteAt", "(I)I"⟩, 18), (⟨"AsleepCotsModel", "fails", "(II)Z"⟩, 18), (⟨"AsleepCotsModel", "takesNumber", "(III)Z"⟩, 18), (⟨"AsleepCotsModel", "takesChild", "()Z"⟩, 18), (⟨"AsleepCotsModel", "copyAll", "(II)V"⟩, 18), (⟨"AsleepCotsModel", "isRoom", "()Z"⟩, 18), (⟨"AsleepCotsModel", "minds", "()V"⟩, 18), (⟨"AsleepCotsModel", "passes", "(I)V"⟩, 18), (⟨"AsleepCotsModel", "noiseAt", "(II)I"⟩, 18), (⟨"AsleepCotsModel", "isOut", "(II)Z"⟩, 18)]
theorem lw_r2 : ∀ q ∈ lw_privs_2, lw_okq q := List.forall_mem_cons.mpr ⟨lw_p16, List.forall_mem_cons.mpr ⟨lw_p17, List.forall_mem_cons.mpr ⟨lw_p18, List.forall_mem_cons.mpr ⟨lw_p19, List.forall_mem_cons.mpr ⟨lw_p20, List.forall_mem_cons.mpr ⟨lw_p21, List.forall_mem_cons.mpr ⟨lw_p22, List.forall_mem_cons.mpr ⟨lw_p23, List.forall_mem_cons.mpr ⟨lw_p24, List.forall_mem_cons.mpr ⟨lw_p25, List.forall_mem_cons.mpr ⟨lw_p26, List.forall_mem_cons.mpr ⟨lw_p27, List.forall_mem_cons.mpr ⟨lw_p28, List.forall_mem_cons.mpr ⟨lw_p29, List.forall_mem_cons.mpr ⟨lw_p30, List.forall_mem_cons.mpr ⟨lw_p31, fun _ h => absurd h List.not_mem_nil⟩⟩⟩⟩⟩⟩⟩⟩⟩⟩⟩⟩⟩⟩⟩⟩
theorem lw_p32 : lw_okq (⟨"AsleepCotsModel", "bears", "(II)I"⟩, 18) := ⟨⟨by decide +kernel, by decide +kernel⟩, List.mem_of_getElem? (i := 749) (by decide +kernel), List.mem_of_getElem? (i := 932) (by decide +kernel), List.mem_of_getElem? (i := 933) (by decide +kernel)⟩
theorem lw_p33 : lw_okq (⟨"AsleepCotsModel", "weepsOn", "(III)V"⟩, 18) := ⟨⟨by decide +kernel, by decide +kernel⟩, List.mem_of_getElem? (i := 749) (by decide +kernel), List.mem_of_getElem? (i := 936) (by decide +kernel), List.mem_of_getElem? (i := 937) (by decide +kernel)⟩
theorem lw_p34 : lw_okq (⟨"AsleepCotsModel", "liesOn", "(IIZ)V"⟩, 18) := ⟨⟨by decide +kernel, by decide +kernel⟩, List.mem_of_getElem? (i := 749) (by decide +kernel), List.mem_of_getElem? (i := 940) (by decide +kernel), List.mem_of_getElem? (i := 941) (by decide +kernel)⟩
theorem lw_p35 : lw_okq (⟨"AsleepCotsModel", "wakesUp", "(II)V"⟩, 18) := ⟨⟨by decide +kernel, by decide +kernel⟩, List.mem_of_getElem? (i := 749) (by decide +kernel), List.mem_of_getElem? (i := 944) (by decide +kernel), List.mem_of_getElem? (i := 945) (by decide +kernel)⟩
theorem lw_p36 : lw_okq (⟨"AsleepCotsModel", "thoseWho", "(II)I"⟩, 18) := ⟨⟨by decide +kernel, by decide +kernel⟩, List.mem_of_getElem? (i := 749) (by decide +kernel), List.mem_of_getElem? (i := 948) (by decide +kernel), List.mem_of_getElem? (i := 949) (by decide +kernel)⟩
theorem lw_p37 : lw_okq (⟨"AsleepCotsModel", "isChild", "(I)Z"⟩, 18) := ⟨⟨by decide +kernel, by decide +kernel⟩, List.mem_of_getElem? (i := 749) (by decide +kernel), List.mem_of_getElem? (i := 956) (by decide +kernel), List.mem_of_getElem? (i := 957) (by decide +kernel)⟩
theorem lw_p38 : lw_okq (⟨"AsleepCotsModel", "swaps", "(III)V"⟩, 18) := ⟨⟨by decide +kernel, by decide +kernel⟩, List.mem_of_getElem? (i := 749) (by decide +kernel), List.mem_of_getElem? (i := 971) (by decide +kernel), List.mem_of_getElem? (i := 972) (by decide +kernel)⟩
theorem lw_p39 : lw_okq (⟨"AsleepCotsModel", "rolls", "(II)I"⟩, 18) := ⟨⟨by decide +kernel, by decide +kernel⟩, List.mem_of_getElem? (i := 749) (by decide +kernel), List.mem_of_getElem? (i := 980) (by decide +kernel), List.mem_of_getElem? (i := 981) (by decide +kernel)⟩
theorem lw_p40 : lw_okq (⟨"AsleepCotsModel", "tries", "()V"⟩, 18) := ⟨⟨by decide +kernel, by decide +kernel⟩, List.mem_of_getElem? (i := 749) (by decide +kernel), List.mem_of_getElem? (i := 1005) (by decide +kernel), List.mem_of_getElem? (i := 1006) (by decide +kernel)⟩
theorem lw_p41 : lw_okq (⟨"AsleepCotsModel", "goesOn", "(I)V"⟩, 18) := ⟨⟨by decide +kernel, by decide +kernel⟩, List.mem_of_getElem? (i := 749) (by decide +kernel), List.mem_of_getElem? (i := 1009) (by decide +kernel), List.mem_of_getElem? (i := 1010) (by decide +kernel)⟩
theorem lw_p42 : lw_okq (⟨"AsleepCotsModel", "allSleep", "(I)Z"⟩, 18) := ⟨⟨by decide +kernel, by decide +kernel⟩, List.mem_of_getElem? (i := 749) (by decide +kernel), List.mem_of_getElem? (i := 1026) (by decide +kernel), List.mem_of_getElem? (i := 1027) (by decide +kernel)⟩
theorem lw_p43 : lw_okq (⟨"AsleepCotsModel", "isLook", "(II)Z"⟩, 18) := ⟨⟨by decide +kernel, by decide +kernel⟩, List.mem_of_getElem? (i := 749) (by decide +kernel), List.mem_of_getElem? (i := 1038) (by decide +kernel), List.mem_of_getElem? (i := 1039) (by decide +kernel)⟩
theorem lw_p44 : lw_okq (⟨"AsleepCotsModel", "against", "(III)I"⟩, 18) := ⟨⟨by decide +kernel, by decide +kernel⟩, List.mem_of_getElem? (i := 749) (by decide +kernel), List.mem_of_getElem? (i := 1069) (by decide +kernel), List.mem_of_getElem? (i := 1070) (by decide +kernel)⟩
theorem lw_p45 : lw_okq (⟨"AsleepCotsModel", "isSo", "(II)Z"⟩, 18) := ⟨⟨by decide +kernel, by decide +kernel⟩, List.mem_of_getElem? (i := 749) (by decide +kernel), List.mem_of_getElem? (i := 1073) (by decide +kernel), List.mem_of_getElem? (i := 1074) (by decide +kernel)⟩
theorem lw_p46 : lw_okq (⟨"AsleepCotsModel", "size", "(I)I"⟩, 18) := ⟨⟨by decide +kernel, by decide +kernel⟩, List.mem_of_getElem? (i := 749) (by decide +kernel), List.mem_of_getElem? (i := 1119) (by decide +kernel), List.mem_of_getElem? (i := 1120) (by decide +kernel)⟩
theorem lw_p47 : lw_okq (⟨"AsleepCotsModel", "begins", "(I)V"⟩, 18) := ⟨⟨by decide +kernel, by decide +kernel⟩, List.mem_of_getElem? (i := 749) (by decide +kernel), List.mem_of_getElem? (i := 1123) (by decide +kernel), List.mem_of_getElem? (i := 1124) (by decide +kernel)⟩
def lw_privs_3 : List (MethodName × Nat) := [(⟨"AsleepCotsModel", "bears", "(II)I"⟩, 18), (⟨"AsleepCotsModel", "weepsOn", "(III)V"⟩, 18), (⟨"AsleepCotsModel", "liesOn", "(IIZ)V"⟩, 18), (⟨"AsleepCotsModel", "wakesUp", "(II)V"⟩, 18), (⟨"AsleepCotsModel", "thoseWho", "(II)I"⟩, 18), (⟨"AsleepCotsModel", "isChild", "(I)Z"⟩, 18), (⟨"AsleepCotsModel", "swaps", "(III)V"⟩, 18), (⟨"AsleepCotsModel", "rolls", "(II)I"⟩, 18), (⟨"AsleepCotsModel", "tries", "()V"⟩, 18), (⟨"AsleepCotsModel", "goesOn", "(I)V"⟩, 18), (⟨"AsleepCotsModel", "allSleep", "(I)Z"⟩, 18), (⟨"AsleepCotsModel", "isLook", "(II)Z"⟩, 18), (⟨"AsleepCotsModel", "against", "(III)I"⟩, 18), (⟨"AsleepCotsModel", "isSo", "(II)Z"⟩, 18), (⟨"AsleepCotsModel", "size", "(I)I"⟩, 18), (⟨"AsleepCotsModel", "begins", "(I)V"⟩, 18)]
theorem lw_r3 : ∀ q ∈ lw_privs_3, lw_okq q := List.forall_mem_cons.mpr ⟨lw_p32, List.forall_mem_cons.mpr ⟨lw_p33, List.forall_mem_cons.mpr ⟨lw_p34, List.forall_mem_cons.mpr ⟨lw_p35, List.forall_mem_cons.mpr ⟨lw_p36, List.forall_mem_cons.mpr ⟨lw_p37, List.forall_mem_cons.mpr ⟨lw_p38, List.forall_mem_cons.mpr ⟨lw_p39, List.forall_mem_cons.mpr ⟨lw_p40, List.forall_mem_cons.mpr ⟨lw_p41, List.forall_mem_cons.mpr ⟨lw_p42, List.forall_mem_cons.mpr ⟨lw_p43, List.forall_mem_cons.mpr ⟨lw_p44, List.forall_mem_cons.mpr ⟨lw_p45, List.forall_mem_cons.mpr ⟨lw_p46, List.forall_mem_cons.mpr ⟨lw_p47, fun _ h => absurd h List.not_mem_nil⟩⟩⟩⟩⟩⟩⟩⟩⟩⟩⟩⟩⟩⟩⟩⟩
theorem lw_p48 : lw_okq (⟨"AsleepCotsModel", "sizePlain", "(I)I"⟩, 18) := ⟨⟨by decide +kernel, by decide +kernel⟩, List.mem_of_getElem? (i := 749) (by decide +kernel), List.mem_of_getElem? (i := 1127) (by decide +kernel), List.mem_of_getElem? (i := 1128) (by decide +kernel)⟩
theorem lw_p49 : lw_okq (⟨"AsleepCotsModel", "mark", "(I)I"⟩, 18) := ⟨⟨by decide +kernel, by decide +kernel⟩, List.mem_of_getElem? (i := 749) (by decide +kernel), List.mem_of_getElem? (i := 1131) (by decide +kernel), List.mem_of_getElem? (i := 1132) (by decide +kernel)⟩
theorem lw_p50 : lw_okq (⟨"AsleepCotsModel", "markPlain", "(I)I"⟩, 18) := ⟨⟨by decide +kernel, by decide +kernel⟩, List.mem_of_getElem? (i := 749) (by decide +kernel), List.mem_of_getElem? (i := 1135) (by decide +kernel), List.mem_of_getElem? (i := 1136) (by decide +kernel)⟩
theorem lw_p51 : lw_okq (⟨"AsleepCotsModel", "markLent", "(I)I"⟩, 18) := ⟨⟨by decide +kernel, by decide +kernel⟩, List.mem_of_getElem? (i := 749) (by decide +kernel), List.mem_of_getElem? (i := 1139) (by decide +kernel), List.mem_of_getElem? (i := 1140) (by decide +kernel)⟩
theorem lw_p52 : lw_okq (⟨"AsleepCotsModel", "sizeDeep", "(IZ)I"⟩, 18) := ⟨⟨by decide +kernel, by decide +kernel⟩, List.mem_of_getElem? (i := 749) (by decide +kernel), List.mem_of_getElem? (i := 1143) (by decide +kernel), List.mem_of_getElem? (i := 1144) (by decide +kernel)⟩
def lw_privs_4 : List (MethodName × Nat) := [(⟨"AsleepCotsModel", "sizePlain", "(I)I"⟩, 18), (⟨"AsleepCotsModel", "mark", "(I)I"⟩, 18), (⟨"AsleepCotsModel", "markPlain", "(I)I"⟩, 18), (⟨"AsleepCotsModel", "markLent", "(I)I"⟩, 18), (⟨"AsleepCotsModel", "sizeDeep", "(IZ)I"⟩, 18)]
theorem lw_r4 : ∀ q ∈ lw_privs_4, lw_okq q := List.forall_mem_cons.mpr ⟨lw_p48, List.forall_mem_cons.mpr ⟨lw_p49, List.forall_mem_cons.mpr ⟨lw_p50, List.forall_mem_cons.mpr ⟨lw_p51, List.forall_mem_cons.mpr ⟨lw_p52, fun _ h => absurd h List.not_mem_nil⟩⟩⟩⟩⟩
def lw_privs : List (MethodName × Nat) := lw_privs_1 ++ (lw_privs_2 ++ (lw_privs_3 ++ (lw_privs_4)))
def lw_tbl : List Cond := k2_sels lw_privs ++ tables_1
theorem lw_privs_ok : ∀ q ∈ lw_privs, lw_okq q := by
  show ∀ q ∈ lw_privs_1 ++ (lw_privs_2 ++ (lw_privs_3 ++ (lw_privs_4))), lw_okq q
  exact List.forall_mem_append.mpr ⟨lw_r1, List.forall_mem_append.mpr ⟨lw_r2, List.forall_mem_append.mpr ⟨lw_r3, lw_r4⟩⟩⟩
end
section
/-! names, printed from the claim's own names -/
def RX0 : String := "AsleepCots$Asks"
def TX0 : u_T := fun k => match k with
  | 0 => ("AsleepCots$Asks", "numbers", "[I", true)
  | 1 => ("AsleepCots$Asks", "traced", "I", false)
  | 2 => ("AsleepCots$Asks", "number", "I", false)
  | 3 => ("AsleepCots$Asks", "need", "I", false)
  | 4 => ("AsleepCots$Asks", "noise", "I", false)
  | 5 => ("AsleepCots$Asks", "sizeBody", "I", false)
  | _ => ("AsleepCots$Asks", "markBody", "I", false)
def tyX0 : Nat → FieldType := fun k => match k with
  | 0 => .array .int
  | 1 => .int
  | 2 => .int
  | 3 => .int
  | 4 => .int
  | 5 => .int
  | _ => .int
theorem nmX0 : ∀ a, a < 7 → ∀ b, b < 7 → a ≠ b → (TX0 a).2.1 ≠ (TX0 b).2.1 := by decide +kernel
theorem tyX0_ok : ∀ k, k < 7 → parseFieldDescriptor (TX0 k).2.2.1 = some (tyX0 k) := by decide +kernel
abbrev cX0_init : ByteArray := prog_2_method_1_code
def yX0_init : MethodName := ⟨RX0, "<init>", "()V"⟩
abbrev cX0_answer : ByteArray := prog_2_method_2_code
def yX0_answer : MethodName := ⟨RX0, "answer", "(LAsleepCots$Room;II)I"⟩
abbrev cX0_nearest : ByteArray := prog_2_method_3_code
def yX0_nearest : MethodName := ⟨RX0, "nearest", "([II)I"⟩
abbrev cX0_give : ByteArray := prog_2_method_4_code
def yX0_give : MethodName := ⟨RX0, "give", "(II)I"⟩
abbrev cX0_leave : ByteArray := prog_2_method_5_code
def yX0_leave : MethodName := ⟨RX0, "leave", "(I)V"⟩
def RX1 : String := "AsleepCots$Foresight"
def TX1 : u_T := fun k => match k with
  | 0 => ("AsleepCots$Foresight", "trial", "LAsleepCots$Room;", true)
  | 1 => ("AsleepCots$Foresight", "branches", "[LAsleepCots$Room;", true)
  | 2 => ("AsleepCots$Foresight", "told", "[I", true)
  | 3 => ("AsleepCots$Foresight", "toldMinutes", "I", false)
  | 4 => ("AsleepCots$Foresight", "planned", "I", false)
  | 5 => ("AsleepCots$Foresight", "plannedSleepers", "I", false)
  | 6 => ("AsleepCots$Foresight", "casesAbove", "J", false)
  | _ => ("AsleepCots$Foresight", "casesBelow", "J", false)
def tyX1 : Nat → FieldType := fun k => match k with
  | 0 => .object "AsleepCots$Room"
  | 1 => .array (.object "AsleepCots$Room")
  | 2 => .array .int
  | 3 => .int
  | 4 => .int
  | 5 => .int
  | 6 => .long
  | _ => .long
theorem nmX1 : ∀ a, a < 8 → ∀ b, b < 8 → a ≠ b → (TX1 a).2.1 ≠ (TX1 b).2.1 := by decide +kernel
theorem tyX1_ok : ∀ k, k < 8 → parseFieldDescriptor (TX1 k).2.2.1 = some (tyX1 k) := by decide +kernel
abbrev cX1_init : ByteArray := prog_3_method_1_code
def yX1_init : MethodName := ⟨RX1, "<init>", "()V"⟩
abbrev cX1_after : ByteArray := prog_3_method_2_code
def yX1_after : MethodName := ⟨RX1, "after", "(LAsleepCots$Room;I)LAsleepCots$Room;"⟩
abbrev cX1_firstAsleep : ByteArray := prog_3_method_3_code
def yX1_firstAsleep : MethodName := ⟨RX1, "firstAsleep", "(LAsleepCots$Room;I)I"⟩
abbrev cX1_longestDinner : ByteArray := prog_3_method_4_code
def yX1_longestDinner : MethodName := ⟨RX1, "longestDinner", "(LAsleepCots$Room;I)I"⟩
abbrev cX1_planHands : ByteArray := prog_3_method_5_code
def yX1_planHands : MethodName := ⟨RX1, "planHands", "(LAsleepCots$Room;I)V"⟩
abbrev cX1_weighHands : ByteArray := prog_3_method_6_code
def yX1_weighHands : MethodName := ⟨RX1, "weighHands", "(II)V"⟩
abbrev cX1_fewestOut : ByteArray := prog_3_method_7_code
def yX1_fewestOut : MethodName := ⟨RX1, "fewestOut", "(LAsleepCots$Room;I)I"⟩
abbrev cX1_planChange : ByteArray := prog_3_method_8_code
def yX1_planChange : MethodName := ⟨RX1, "planChange", "(LAsleepCots$Room;I)V"⟩
abbrev cX1_wokenBy : ByteArray := prog_3_method_9_code
def yX1_wokenBy : MethodName := ⟨RX1, "wokenBy", "(LAsleepCots$Room;I)I"⟩
abbrev cX1_tell : ByteArray := prog_3_method_10_code
def yX1_tell : MethodName := ⟨RX1, "tell", "(LAsleepCots$Row;II)V"⟩
abbrev cX1_goesAsTold : ByteArray := prog_3_method_11_code
def yX1_goesAsTold : MethodName := ⟨RX1, "goesAsTold", "()Z"⟩
abbrev cX1_fittingTraits : ByteArray := prog_3_method_12_code
def yX1_fittingTraits : MethodName := ⟨RX1, "fittingTraits", "(LAsleepCots$Room;II)I"⟩
abbrev cX1_traitsOf : ByteArray := prog_3_method_13_code
def yX1_traitsOf : MethodName := ⟨RX1, "traitsOf", "(LAsleepCots$Room;I)[I"⟩
abbrev cX1_fittingHands : ByteArray := prog_3_method_14_code
def yX1_fittingHands : MethodName := ⟨RX1, "fittingHands", "(LAsleepCots$Room;)I"⟩
abbrev cX1_countCases : ByteArray := prog_3_method_15_code
def yX1_countCases : MethodName := ⟨RX1, "countCases", "(LAsleepCots$Room;III)V"⟩
abbrev cX1_casesAsleep : ByteArray := prog_3_method_16_code
def yX1_casesAsleep : MethodName := ⟨RX1, "casesAsleep", "(IIII)J"⟩
abbrev cX1_cancel : ByteArray := prog_3_method_17_code
def yX1_cancel : MethodName := ⟨RX1, "cancel", "(I)V"⟩
abbrev cX1_cancelBy : ByteArray := prog_3_method_18_code
def yX1_cancelBy : MethodName := ⟨RX1, "cancelBy", "(I)V"⟩
abbrev cX1_drawDay : ByteArray := prog_3_method_19_code
def yX1_drawDay : MethodName := ⟨RX1, "drawDay", "(LAsleepCots$Room;II)I"⟩
def RX2 : String := "AsleepCots$Past"
def TX2 : u_T := fun k => match k with
  | 0 => ("AsleepCots$Past", "kept", "[LAsleepCots$Room;", true)
  | 1 => ("AsleepCots$Past", "next", "I", false)
  | _ => ("AsleepCots$Past", "size", "I", false)
def tyX2 : Nat → FieldType := fun k => match k with
  | 0 => .array (.object "AsleepCots$Room")
  | 1 => .int
  | _ => .int
theorem nmX2 : ∀ a, a < 3 → ∀ b, b < 3 → a ≠ b → (TX2 a).2.1 ≠ (TX2 b).2.1 := by decide +kernel
theorem tyX2_ok : ∀ k, k < 3 → parseFieldDescriptor (TX2 k).2.2.1 = some (tyX2 k) := by decide +kernel
abbrev cX2_init : ByteArray := prog_4_method_1_code
def yX2_init : MethodName := ⟨RX2, "<init>", "()V"⟩
abbrev cX2_keep : ByteArray := prog_4_method_2_code
def yX2_keep : MethodName := ⟨RX2, "keep", "(LAsleepCots$Room;)V"⟩
abbrev cX2_bringBack : ByteArray := prog_4_method_3_code
def yX2_bringBack : MethodName := ⟨RX2, "bringBack", "(LAsleepCots$Room;)V"⟩
abbrev cX2_forget : ByteArray := prog_4_method_4_code
def yX2_forget : MethodName := ⟨RX2, "forget", "()V"⟩
def RX3 : String := "AsleepCots$Room"
def TX3 : u_T := fun k => match k with
  | 0 => ("AsleepCots$Room", "children", "I", false)
  | 1 => ("AsleepCots$Room", "women", "I", false)
  | 2 => ("AsleepCots$Room", "cryingTime", "I", false)
  | 3 => ("AsleepCots$Room", "minute", "I", false)
  | 4 => ("AsleepCots$Room", "held", "I", false)
  | 5 => ("AsleepCots$Room", "away", "I", false)
  | 6 => ("AsleepCots$Room", "kinds", "[I", true)
  | 7 => ("AsleepCots$Room", "needs", "[I", true)
  | 8 => ("AsleepCots$Room", "holds", "[I", true)
  | 9 => ("AsleepCots$Room", "voices", "[I", true)
  | 10 => ("AsleepCots$Room", "cots", "[I", true)
  | 11 => ("AsleepCots$Room", "states", "[I", true)
  | 12 => ("AsleepCots$Room", "criesFor", "[I", true)
  | _ => ("AsleepCots$Room", "calms", "[I", true)
def tyX3 : Nat → FieldType := fun k => match k with
  | 0 => .int
  | 1 => .int
  | 2 => .int
  | 3 => .int
  | 4 => .int
  | 5 => .int
  | 6 => .array .int
  | 7 => .array .int
  | 8 => .array .int
  | 9 => .array .int
  | 10 => .array .int
  | 11 => .array .int
  | 12 => .array .int
  | _ => .array .int
theorem nmX3 : ∀ a, a < 14 → ∀ b, b < 14 → a ≠ b → (TX3 a).2.1 ≠ (TX3 b).2.1 := by decide +kernel
theorem tyX3_ok : ∀ k, k < 14 → parseFieldDescriptor (TX3 k).2.2.1 = some (tyX3 k) := by decide +kernel
abbrev cX3_init : ByteArray := prog_5_method_1_code
def yX3_init : MethodName := ⟨RX3, "<init>", "()V"⟩
abbrev cX3_clear : ByteArray := prog_5_method_2_code
def yX3_clear : MethodName := ⟨RX3, "clear", "()V"⟩
abbrev cX3_addChild : ByteArray := prog_5_method_3_code
def yX3_addChild : MethodName := ⟨RX3, "addChild", "(I)V"⟩
abbrev cX3_become : ByteArray := prog_5_method_4_code
def yX3_become : MethodName := ⟨RX3, "become", "(LAsleepCots$Room;)V"⟩
abbrev cX3_everybody : ByteArray := prog_5_method_5_code
def yX3_everybody : MethodName := ⟨RX3, "everybody", "()I"⟩
abbrev cX3_thoseWho : ByteArray := prog_5_method_6_code
def yX3_thoseWho : MethodName := ⟨RX3, "thoseWho", "(I)I"⟩
abbrev cX3_sleepAll : ByteArray := prog_5_method_7_code
def yX3_sleepAll : MethodName := ⟨RX3, "sleepAll", "(I)Z"⟩
abbrev cX3_heardCriers : ByteArray := prog_5_method_8_code
def yX3_heardCriers : MethodName := ⟨RX3, "heardCriers", "()I"⟩
abbrev cX3_noiseAt : ByteArray := prog_5_method_9_code
def yX3_noiseAt : MethodName := ⟨RX3, "noiseAt", "(II)I"⟩
abbrev cX3_callsOf : ByteArray := prog_5_method_10_code
def yX3_callsOf : MethodName := ⟨RX3, "callsOf", "(I)I"⟩
abbrev cX3_bearsOf : ByteArray := prog_5_method_11_code
def yX3_bearsOf : MethodName := ⟨RX3, "bearsOf", "(I)I"⟩
abbrev cX3_whereLoudest : ByteArray := prog_5_method_12_code
def yX3_whereLoudest : MethodName := ⟨RX3, "whereLoudest", "()I"⟩
abbrev cX3_loudestUnheeded : ByteArray := prog_5_method_13_code
def yX3_loudestUnheeded : MethodName := ⟨RX3, "loudestUnheeded", "()I"⟩
abbrev cX3_lieDown : ByteArray := prog_5_method_14_code
def yX3_lieDown : MethodName := ⟨RX3, "lieDown", "(I)V"⟩
abbrev cX3_cry : ByteArray := prog_5_method_15_code
def yX3_cry : MethodName := ⟨RX3, "cry", "(I)V"⟩
abbrev cX3_wake : ByteArray := prog_5_method_16_code
def yX3_wake : MethodName := ⟨RX3, "wake", "(I)V"⟩
abbrev cX3_swapCots : ByteArray := prog_5_method_17_code
def yX3_swapCots : MethodName := ⟨RX3, "swapCots", "(II)V"⟩
abbrev cX3_passLorry : ByteArray := prog_5_method_18_code
def yX3_passLorry : MethodName := ⟨RX3, "passLorry", "(I)I"⟩
abbrev cX3_passMinutes : ByteArray := prog_5_method_19_code
def yX3_passMinutes : MethodName := ⟨RX3, "passMinutes", "(I)V"⟩
abbrev cX3_passMinute : ByteArray := prog_5_method_20_code
def yX3_passMinute : MethodName := ⟨RX3, "passMinute", "()Z"⟩
abbrev cX3_calmDown : ByteArray := prog_5_method_21_code
def yX3_calmDown : MethodName := ⟨RX3, "calmDown", "(I)V"⟩
abbrev cX3_listen : ByteArray := prog_5_method_22_code
def yX3_listen : MethodName := ⟨RX3, "listen", "(IZ)Z"⟩
abbrev cX3_calmGained : ByteArray := prog_5_method_23_code
def yX3_calmGained : MethodName := ⟨RX3, "calmGained", "(I)I"⟩
def RX4 : String := "AsleepCots$Row"
def TX4 : u_T := fun k => match k with
  | 0 => ("AsleepCots$Row", "items", "[I", true)
  | 1 => ("AsleepCots$Row", "lane", "I", false)
  | _ => ("AsleepCots$Row", "size", "I", false)
def tyX4 : Nat → FieldType := fun k => match k with
  | 0 => .array .int
  | 1 => .int
  | _ => .int
theorem nmX4 : ∀ a, a < 3 → ∀ b, b < 3 → a ≠ b → (TX4 a).2.1 ≠ (TX4 b).2.1 := by decide +kernel
theorem tyX4_ok : ∀ k, k < 3 → parseFieldDescriptor (TX4 k).2.2.1 = some (tyX4 k) := by decide +kernel
abbrev cX4_init : ByteArray := prog_6_method_1_code
def yX4_init : MethodName := ⟨RX4, "<init>", "()V"⟩
abbrev cX4_begin : ByteArray := prog_6_method_2_code
def yX4_begin : MethodName := ⟨RX4, "begin", "(II)V"⟩
abbrev cX4_narrowed : ByteArray := prog_6_method_3_code
def yX4_narrowed : MethodName := ⟨RX4, "narrowed", "(I)I"⟩
abbrev cX4_lacks : ByteArray := prog_6_method_4_code
def yX4_lacks : MethodName := ⟨RX4, "lacks", "(II)Z"⟩
abbrev cX4_findingFor : ByteArray := prog_6_method_5_code
def yX4_findingFor : MethodName := ⟨RX4, "findingFor", "(II)I"⟩
def RX5 : String := "AsleepCots$Tape"
def TX5 : u_T := fun k => match k with
  | 0 => ("AsleepCots$Tape", "bytes", "[I", true)
  | 1 => ("AsleepCots$Tape", "length", "I", false)
  | _ => ("AsleepCots$Tape", "faultRead", "I", false)
def tyX5 : Nat → FieldType := fun k => match k with
  | 0 => .array .int
  | 1 => .int
  | _ => .int
theorem nmX5 : ∀ a, a < 3 → ∀ b, b < 3 → a ≠ b → (TX5 a).2.1 ≠ (TX5 b).2.1 := by decide +kernel
theorem tyX5_ok : ∀ k, k < 3 → parseFieldDescriptor (TX5 k).2.2.1 = some (tyX5 k) := by decide +kernel
abbrev cX5_init : ByteArray := prog_7_method_1_code
def yX5_init : MethodName := ⟨RX5, "<init>", "()V"⟩
abbrev cX5_readInto : ByteArray := prog_7_method_2_code
def yX5_readInto : MethodName := ⟨RX5, "readInto", "(LAsleepCots$Room;)I"⟩
abbrev cX5_widthAt : ByteArray := prog_7_method_3_code
def yX5_widthAt : MethodName := ⟨RX5, "widthAt", "(I)I"⟩
abbrev cX5_faultAt : ByteArray := prog_7_method_4_code
def yX5_faultAt : MethodName := ⟨RX5, "faultAt", "(IIII)I"⟩
abbrev cX5_canStand : ByteArray := prog_7_method_5_code
def yX5_canStand : MethodName := ⟨RX5, "canStand", "(II)Z"⟩
abbrev cX5_valueAt : ByteArray := prog_7_method_6_code
def yX5_valueAt : MethodName := ⟨RX5, "valueAt", "(II)I"⟩
abbrev cX5_put : ByteArray := prog_7_method_7_code
def yX5_put : MethodName := ⟨RX5, "put", "(LAsleepCots$Room;II)V"⟩
abbrev cX5_isFigure : ByteArray := prog_7_method_8_code
def yX5_isFigure : MethodName := ⟨RX5, "isFigure", "(I)Z"⟩
abbrev cX5_kindOf : ByteArray := prog_7_method_9_code
def yX5_kindOf : MethodName := ⟨RX5, "kindOf", "(I)I"⟩
def RX6 : String := "AsleepCots"
def TX6 : u_T := fun k => match k with
  | 0 => ("AsleepCots", "rows", "[LAsleepCots$Row;", true)
  | 1 => ("AsleepCots", "tape", "LAsleepCots$Tape;", true)
  | 2 => ("AsleepCots", "now", "LAsleepCots$Room;", true)
  | 3 => ("AsleepCots", "draft", "LAsleepCots$Room;", true)
  | 4 => ("AsleepCots", "images", "[LAsleepCots$Room;", true)
  | 5 => ("AsleepCots", "past", "LAsleepCots$Past;", true)
  | 6 => ("AsleepCots", "foresight", "LAsleepCots$Foresight;", true)
  | 7 => ("AsleepCots", "asks", "LAsleepCots$Asks;", true)
  | 8 => ("AsleepCots", "latestFault", "I", false)
  | _ => ("AsleepCots", "latestFinding", "I", false)
def tyX6 : Nat → FieldType := fun k => match k with
  | 0 => .array (.object "AsleepCots$Row")
  | 1 => .object "AsleepCots$Tape"
  | 2 => .object "AsleepCots$Room"
  | 3 => .object "AsleepCots$Room"
  | 4 => .array (.object "AsleepCots$Room")
  | 5 => .object "AsleepCots$Past"
  | 6 => .object "AsleepCots$Foresight"
  | 7 => .object "AsleepCots$Asks"
  | 8 => .int
  | _ => .int
theorem nmX6 : ∀ a, a < 10 → ∀ b, b < 10 → a ≠ b → (TX6 a).2.1 ≠ (TX6 b).2.1 := by decide +kernel
theorem tyX6_ok : ∀ k, k < 10 → parseFieldDescriptor (TX6 k).2.2.1 = some (tyX6 k) := by decide +kernel
abbrev cX6_init : ByteArray := prog_1_method_1_code
def yX6_init : MethodName := ⟨RX6, "<init>", "()V"⟩
abbrev cX6_row : ByteArray := prog_1_method_2_code
def yX6_row : MethodName := ⟨RX6, "row", "(III)I"⟩
abbrev cX6_set : ByteArray := prog_1_method_3_code
def yX6_set : MethodName := ⟨RX6, "set", "(III)I"⟩
abbrev cX6_copy : ByteArray := prog_1_method_4_code
def yX6_copy : MethodName := ⟨RX6, "copy", "(IIIII)I"⟩
abbrev cX6_drop : ByteArray := prog_1_method_5_code
def yX6_drop : MethodName := ⟨RX6, "drop", "(I)I"⟩
abbrev cX6_feed : ByteArray := prog_1_method_6_code
def yX6_feed : MethodName := ⟨RX6, "feed", "(I)I"⟩
abbrev cX6_room : ByteArray := prog_1_method_7_code
def yX6_room : MethodName := ⟨RX6, "room", "()I"⟩
abbrev cX6_fault : ByteArray := prog_1_method_8_code
def yX6_fault : MethodName := ⟨RX6, "fault", "()I"⟩
abbrev cX6_undo : ByteArray := prog_1_method_9_code
def yX6_undo : MethodName := ⟨RX6, "undo", "()I"⟩
abbrev cX6_minutes : ByteArray := prog_1_method_10_code
def yX6_minutes : MethodName := ⟨RX6, "minutes", "(I)I"⟩
abbrev cX6_hand : ByteArray := prog_1_method_11_code
def yX6_hand : MethodName := ⟨RX6, "hand", "(II)I"⟩
abbrev cX6_carry : ByteArray := prog_1_method_12_code
def yX6_carry : MethodName := ⟨RX6, "carry", "(II)I"⟩
abbrev cX6_change : ByteArray := prog_1_method_13_code
def yX6_change : MethodName := ⟨RX6, "change", "(II)I"⟩
abbrev cX6_lorry : ByteArray := prog_1_method_14_code
def yX6_lorry : MethodName := ⟨RX6, "lorry", "(I)I"⟩
abbrev cX6_need : ByteArray := prog_1_method_15_code
def yX6_need : MethodName := ⟨RX6, "need", "(II)I"⟩
abbrev cX6_child : ByteArray := prog_1_method_16_code
def yX6_child : MethodName := ⟨RX6, "child", "(II)I"⟩
abbrev cX6_stand : ByteArray := prog_1_method_17_code
def yX6_stand : MethodName := ⟨RX6, "stand", "(I)I"⟩
abbrev cX6_ahead : ByteArray := prog_1_method_18_code
def yX6_ahead : MethodName := ⟨RX6, "ahead", "(II)I"⟩
abbrev cX6_noise : ByteArray := prog_1_method_19_code
def yX6_noise : MethodName := ⟨RX6, "noise", "(II)I"⟩
abbrev cX6_asleep : ByteArray := prog_1_method_20_code
def yX6_asleep : MethodName := ⟨RX6, "asleep", "(I)I"⟩
abbrev cX6_allAsleep : ByteArray := prog_1_method_21_code
def yX6_allAsleep : MethodName := ⟨RX6, "allAsleep", "()I"⟩
abbrev cX6_dinner : ByteArray := prog_1_method_22_code
def yX6_dinner : MethodName := ⟨RX6, "dinner", "(I)I"⟩
abbrev cX6_hands : ByteArray := prog_1_method_23_code
def yX6_hands : MethodName := ⟨RX6, "hands", "(II)I"⟩
abbrev cX6_outs : ByteArray := prog_1_method_24_code
def yX6_outs : MethodName := ⟨RX6, "outs", "(II)I"⟩
abbrev cX6_best : ByteArray := prog_1_method_25_code
def yX6_best : MethodName := ⟨RX6, "best", "(II)I"⟩
abbrev cX6_silence : ByteArray := prog_1_method_26_code
def yX6_silence : MethodName := ⟨RX6, "silence", "()I"⟩
abbrev cX6_wakes : ByteArray := prog_1_method_27_code
def yX6_wakes : MethodName := ⟨RX6, "wakes", "(I)I"⟩
abbrev cX6_loudest : ByteArray := prog_1_method_28_code
def yX6_loudest : MethodName := ⟨RX6, "loudest", "()I"⟩
abbrev cX6_who : ByteArray := prog_1_method_29_code
def yX6_who : MethodName := ⟨RX6, "who", "(IIIII)I"⟩
abbrev cX6_held : ByteArray := prog_1_method_30_code
def yX6_held : MethodName := ⟨RX6, "held", "(III)I"⟩
abbrev cX6_lorries : ByteArray := prog_1_method_31_code
def yX6_lorries : MethodName := ⟨RX6, "lorries", "(IIII)J"⟩
abbrev cX6_drawn : ByteArray := prog_1_method_32_code
def yX6_drawn : MethodName := ⟨RX6, "drawn", "(III)I"⟩
abbrev cX6_image : ByteArray := prog_1_method_33_code
def yX6_image : MethodName := ⟨RX6, "image", "(I)I"⟩
abbrev cX6_restore : ByteArray := prog_1_method_34_code
def yX6_restore : MethodName := ⟨RX6, "restore", "(I)I"⟩
abbrev cX6_kind : ByteArray := prog_1_method_35_code
def yX6_kind : MethodName := ⟨RX6, "kind", "(I)I"⟩
abbrev cX6_as : ByteArray := prog_1_method_36_code
def yX6_as : MethodName := ⟨RX6, "as", "(II)I"⟩
abbrev cX6_ask : ByteArray := prog_1_method_37_code
def yX6_ask : MethodName := ⟨RX6, "ask", "(II)I"⟩
abbrev cX6_trace : ByteArray := prog_1_method_38_code
def yX6_trace : MethodName := ⟨RX6, "trace", "(I)I"⟩
abbrev cX6_count : ByteArray := prog_1_method_39_code
def yX6_count : MethodName := ⟨RX6, "count", "(I)I"⟩
abbrev cX6_status : ByteArray := prog_1_method_40_code
def yX6_status : MethodName := ⟨RX6, "status", "()I"⟩
abbrev cX6_found : ByteArray := prog_1_method_41_code
def yX6_found : MethodName := ⟨RX6, "found", "(I)I"⟩
abbrev cX6_foundNothing : ByteArray := prog_1_method_42_code
def yX6_foundNothing : MethodName := ⟨RX6, "foundNothing", "(I)I"⟩
abbrev cX6_noRoom : ByteArray := prog_1_method_43_code
def yX6_noRoom : MethodName := ⟨RX6, "noRoom", "()Z"⟩
abbrev cX6_noChild : ByteArray := prog_1_method_44_code
def yX6_noChild : MethodName := ⟨RX6, "noChild", "(I)Z"⟩
abbrev cX6_presentRows : ByteArray := prog_1_method_45_code
def yX6_presentRows : MethodName := ⟨RX6, "presentRows", "()I"⟩
abbrev cX6_noRow : ByteArray := prog_1_method_46_code
def yX6_noRow : MethodName := ⟨RX6, "noRow", "(I)Z"⟩
abbrev cX6_beyond : ByteArray := prog_1_method_47_code
def yX6_beyond : MethodName := ⟨RX6, "beyond", "(III)Z"⟩
abbrev cX6_has : ByteArray := prog_1_method_48_code
def yX6_has : MethodName := ⟨RX6, "has", "(II)Z"⟩
abbrev cX6_isOne : ByteArray := prog_1_method_49_code
def yX6_isOne : MethodName := ⟨RX6, "isOne", "(II)Z"⟩
def RX7 : String := "AsleepCotsModel"
def TX7 : u_T := fun k => match k with
  | 0 => ("AsleepCotsModel", "w", "[I", true)
  | 1 => ("AsleepCotsModel", "isKept", "[Z", true)
  | 2 => ("AsleepCotsModel", "acts", "[I", true)
  | 3 => ("AsleepCotsModel", "acted", "I", false)
  | 4 => ("AsleepCotsModel", "rows", "[I", true)
  | 5 => ("AsleepCotsModel", "rowSize", "[I", true)
  | 6 => ("AsleepCotsModel", "rowLane", "[I", true)
  | 7 => ("AsleepCotsModel", "status", "I", false)
  | 8 => ("AsleepCotsModel", "tape", "[I", true)
  | 9 => ("AsleepCotsModel", "taped", "I", false)
  | 10 => ("AsleepCotsModel", "faulty", "I", false)
  | 11 => ("AsleepCotsModel", "trace", "[I", true)
  | 12 => ("AsleepCotsModel", "traced", "I", false)
  | 13 => ("AsleepCotsModel", "held", "[I", true)
  | 14 => ("AsleepCotsModel", "at", "I", false)
  | 15 => ("AsleepCotsModel", "number", "I", false)
  | 16 => ("AsleepCotsModel", "faultAt", "I", false)
  | _ => ("AsleepCotsModel", "hears", "[Z", true)
def tyX7 : Nat → FieldType := fun k => match k with
  | 0 => .array .int
  | 1 => .array .boolean
  | 2 => .array .int
  | 3 => .int
  | 4 => .array .int
  | 5 => .array .int
  | 6 => .array .int
  | 7 => .int
  | 8 => .array .int
  | 9 => .int
  | 10 => .int
  | 11 => .array .int
  | 12 => .int
  | 13 => .array .int
  | 14 => .int
  | 15 => .int
  | 16 => .int
  | _ => .array .boolean
theorem nmX7 : ∀ a, a < 18 → ∀ b, b < 18 → a ≠ b → (TX7 a).2.1 ≠ (TX7 b).2.1 := by decide +kernel
theorem tyX7_ok : ∀ k, k < 18 → parseFieldDescriptor (TX7 k).2.2.1 = some (tyX7 k) := by decide +kernel
abbrev cX7_init : ByteArray := prog_9_method_1_code
def yX7_init : MethodName := ⟨RX7, "<init>", "()V"⟩
abbrev cX7_in : ByteArray := prog_9_method_3_code
def yX7_in : MethodName := ⟨RX7, "in", "(JJJ)Z"⟩
abbrev cX7_has : ByteArray := prog_9_method_4_code
def yX7_has : MethodName := ⟨RX7, "has", "(II)Z"⟩
abbrev cX7_ones : ByteArray := prog_9_method_5_code
def yX7_ones : MethodName := ⟨RX7, "ones", "(I)I"⟩
abbrev cX7_found : ByteArray := prog_9_method_6_code
def yX7_found : MethodName := ⟨RX7, "found", "(I)I"⟩
abbrev cX7_good : ByteArray := prog_9_method_7_code
def yX7_good : MethodName := ⟨RX7, "good", "(I)I"⟩
abbrev cX7_isRow : ByteArray := prog_9_method_8_code
def yX7_isRow : MethodName := ⟨RX7, "isRow", "(I)Z"⟩
abbrev cX7_row : ByteArray := prog_9_method_9_code
def yX7_row : MethodName := ⟨RX7, "row", "(III)I"⟩
abbrev cX7_set : ByteArray := prog_9_method_10_code
def yX7_set : MethodName := ⟨RX7, "set", "(III)I"⟩
abbrev cX7_fits : ByteArray := prog_9_method_11_code
def yX7_fits : MethodName := ⟨RX7, "fits", "(III)Z"⟩
abbrev cX7_copy : ByteArray := prog_9_method_12_code
def yX7_copy : MethodName := ⟨RX7, "copy", "(IIIII)I"⟩
abbrev cX7_drop : ByteArray := prog_9_method_13_code
def yX7_drop : MethodName := ⟨RX7, "drop", "(I)I"⟩
abbrev cX7_against : ByteArray := prog_9_method_14_code
def yX7_against : MethodName := ⟨RX7, "against", "(III)I"⟩
abbrev cX7_feed : ByteArray := prog_9_method_15_code
def yX7_feed : MethodName := ⟨RX7, "feed", "(I)I"⟩
abbrev cX7_byteAt : ByteArray := prog_9_method_16_code
def yX7_byteAt : MethodName := ⟨RX7, "byteAt", "(I)I"⟩
abbrev cX7_fails : ByteArray := prog_9_method_17_code
def yX7_fails : MethodName := ⟨RX7, "fails", "(II)Z"⟩
abbrev cX7_takes : ByteArray := prog_9_method_18_code
def yX7_takes : MethodName := ⟨RX7, "takes", "(I)Z"⟩
abbrev cX7_takesNumber : ByteArray := prog_9_method_19_code
def yX7_takesNumber : MethodName := ⟨RX7, "takesNumber", "(III)Z"⟩
abbrev cX7_takesLaw : ByteArray := prog_9_method_20_code
def yX7_takesLaw : MethodName := ⟨RX7, "takesLaw", "()Z"⟩
abbrev cX7_kindOf : ByteArray := prog_9_method_21_code
def yX7_kindOf : MethodName := ⟨RX7, "kindOf", "(I)I"⟩
abbrev cX7_takesChild : ByteArray := prog_9_method_22_code
def yX7_takesChild : MethodName := ⟨RX7, "takesChild", "()Z"⟩
abbrev cX7_copyAll : ByteArray := prog_9_method_23_code
def yX7_copyAll : MethodName := ⟨RX7, "copyAll", "(II)V"⟩
abbrev cX7_room : ByteArray := prog_9_method_24_code
def yX7_room : MethodName := ⟨RX7, "room", "()I"⟩
abbrev cX7_fault : ByteArray := prog_9_method_25_code
def yX7_fault : MethodName := ⟨RX7, "fault", "()I"⟩
abbrev cX7_isRoom : ByteArray := prog_9_method_26_code
def yX7_isRoom : MethodName := ⟨RX7, "isRoom", "()Z"⟩
abbrev cX7_isChild : ByteArray := prog_9_method_27_code
def yX7_isChild : MethodName := ⟨RX7, "isChild", "(I)Z"⟩
abbrev cX7_off : ByteArray := prog_9_method_28_code
def yX7_off : MethodName := ⟨RX7, "off", "(II)I"⟩
abbrev cX7_isOut : ByteArray := prog_9_method_29_code
def yX7_isOut : MethodName := ⟨RX7, "isOut", "(II)Z"⟩
abbrev cX7_noiseAt : ByteArray := prog_9_method_30_code
def yX7_noiseAt : MethodName := ⟨RX7, "noiseAt", "(II)I"⟩
abbrev cX7_bears : ByteArray := prog_9_method_31_code
def yX7_bears : MethodName := ⟨RX7, "bears", "(II)I"⟩
abbrev cX7_wakesUp : ByteArray := prog_9_method_32_code
def yX7_wakesUp : MethodName := ⟨RX7, "wakesUp", "(II)V"⟩
abbrev cX7_weepsOn : ByteArray := prog_9_method_33_code
def yX7_weepsOn : MethodName := ⟨RX7, "weepsOn", "(III)V"⟩
abbrev cX7_liesOn : ByteArray := prog_9_method_34_code
def yX7_liesOn : MethodName := ⟨RX7, "liesOn", "(IIZ)V"⟩
abbrev cX7_passes : ByteArray := prog_9_method_35_code
def yX7_passes : MethodName := ⟨RX7, "passes", "(I)V"⟩
abbrev cX7_rolls : ByteArray := prog_9_method_36_code
def yX7_rolls : MethodName := ⟨RX7, "rolls", "(II)I"⟩
abbrev cX7_thoseWho : ByteArray := prog_9_method_37_code
def yX7_thoseWho : MethodName := ⟨RX7, "thoseWho", "(II)I"⟩
abbrev cX7_allSleep : ByteArray := prog_9_method_38_code
def yX7_allSleep : MethodName := ⟨RX7, "allSleep", "(I)Z"⟩
abbrev cX7_minds : ByteArray := prog_9_method_39_code
def yX7_minds : MethodName := ⟨RX7, "minds", "()V"⟩
abbrev cX7_undo : ByteArray := prog_9_method_40_code
def yX7_undo : MethodName := ⟨RX7, "undo", "()I"⟩
abbrev cX7_minutes : ByteArray := prog_9_method_41_code
def yX7_minutes : MethodName := ⟨RX7, "minutes", "(I)I"⟩
abbrev cX7_hand : ByteArray := prog_9_method_42_code
def yX7_hand : MethodName := ⟨RX7, "hand", "(II)I"⟩
abbrev cX7_carry : ByteArray := prog_9_method_43_code
def yX7_carry : MethodName := ⟨RX7, "carry", "(II)I"⟩
abbrev cX7_swaps : ByteArray := prog_9_method_44_code
def yX7_swaps : MethodName := ⟨RX7, "swaps", "(III)V"⟩
abbrev cX7_change : ByteArray := prog_9_method_45_code
def yX7_change : MethodName := ⟨RX7, "change", "(II)I"⟩
abbrev cX7_lorry : ByteArray := prog_9_method_46_code
def yX7_lorry : MethodName := ⟨RX7, "lorry", "(I)I"⟩
abbrev cX7_need : ByteArray := prog_9_method_47_code
def yX7_need : MethodName := ⟨RX7, "need", "(II)I"⟩
abbrev cX7_child : ByteArray := prog_9_method_48_code
def yX7_child : MethodName := ⟨RX7, "child", "(II)I"⟩
abbrev cX7_stand : ByteArray := prog_9_method_49_code
def yX7_stand : MethodName := ⟨RX7, "stand", "(I)I"⟩
abbrev cX7_isSpan : ByteArray := prog_9_method_50_code
def yX7_isSpan : MethodName := ⟨RX7, "isSpan", "(II)Z"⟩
abbrev cX7_tries : ByteArray := prog_9_method_51_code
def yX7_tries : MethodName := ⟨RX7, "tries", "()V"⟩
abbrev cX7_goesOn : ByteArray := prog_9_method_52_code
def yX7_goesOn : MethodName := ⟨RX7, "goesOn", "(I)V"⟩
abbrev cX7_ahead : ByteArray := prog_9_method_53_code
def yX7_ahead : MethodName := ⟨RX7, "ahead", "(II)I"⟩
abbrev cX7_noise : ByteArray := prog_9_method_54_code
def yX7_noise : MethodName := ⟨RX7, "noise", "(II)I"⟩
abbrev cX7_asleep : ByteArray := prog_9_method_55_code
def yX7_asleep : MethodName := ⟨RX7, "asleep", "(I)I"⟩
abbrev cX7_allAsleep : ByteArray := prog_9_method_56_code
def yX7_allAsleep : MethodName := ⟨RX7, "allAsleep", "()I"⟩
abbrev cX7_dinner : ByteArray := prog_9_method_57_code
def yX7_dinner : MethodName := ⟨RX7, "dinner", "(I)I"⟩
abbrev cX7_isLook : ByteArray := prog_9_method_58_code
def yX7_isLook : MethodName := ⟨RX7, "isLook", "(II)Z"⟩
abbrev cX7_hands : ByteArray := prog_9_method_59_code
def yX7_hands : MethodName := ⟨RX7, "hands", "(II)I"⟩
abbrev cX7_outs : ByteArray := prog_9_method_60_code
def yX7_outs : MethodName := ⟨RX7, "outs", "(II)I"⟩
abbrev cX7_best : ByteArray := prog_9_method_61_code
def yX7_best : MethodName := ⟨RX7, "best", "(II)I"⟩
abbrev cX7_silence : ByteArray := prog_9_method_62_code
def yX7_silence : MethodName := ⟨RX7, "silence", "()I"⟩
abbrev cX7_wakes : ByteArray := prog_9_method_63_code
def yX7_wakes : MethodName := ⟨RX7, "wakes", "(I)I"⟩
abbrev cX7_loudest : ByteArray := prog_9_method_64_code
def yX7_loudest : MethodName := ⟨RX7, "loudest", "()I"⟩
abbrev cX7_isSo : ByteArray := prog_9_method_65_code
def yX7_isSo : MethodName := ⟨RX7, "isSo", "(II)Z"⟩
abbrev cX7_who : ByteArray := prog_9_method_66_code
def yX7_who : MethodName := ⟨RX7, "who", "(IIIII)I"⟩
abbrev cX7_held : ByteArray := prog_9_method_67_code
def yX7_held : MethodName := ⟨RX7, "held", "(III)I"⟩
abbrev cX7_lorries : ByteArray := prog_9_method_68_code
def yX7_lorries : MethodName := ⟨RX7, "lorries", "(IIII)J"⟩
abbrev cX7_drawn : ByteArray := prog_9_method_69_code
def yX7_drawn : MethodName := ⟨RX7, "drawn", "(III)I"⟩
abbrev cX7_image : ByteArray := prog_9_method_70_code
def yX7_image : MethodName := ⟨RX7, "image", "(I)I"⟩
abbrev cX7_restore : ByteArray := prog_9_method_71_code
def yX7_restore : MethodName := ⟨RX7, "restore", "(I)I"⟩
abbrev cX7_kind : ByteArray := prog_9_method_72_code
def yX7_kind : MethodName := ⟨RX7, "kind", "(I)I"⟩
abbrev cX7_as : ByteArray := prog_9_method_73_code
def yX7_as : MethodName := ⟨RX7, "as", "(II)I"⟩
abbrev cX7_begins : ByteArray := prog_9_method_74_code
def yX7_begins : MethodName := ⟨RX7, "begins", "(I)V"⟩
abbrev cX7_markLent : ByteArray := prog_9_method_75_code
def yX7_markLent : MethodName := ⟨RX7, "markLent", "(I)I"⟩
abbrev cX7_markPlain : ByteArray := prog_9_method_76_code
def yX7_markPlain : MethodName := ⟨RX7, "markPlain", "(I)I"⟩
abbrev cX7_sizeDeep : ByteArray := prog_9_method_77_code
def yX7_sizeDeep : MethodName := ⟨RX7, "sizeDeep", "(IZ)I"⟩
abbrev cX7_mark : ByteArray := prog_9_method_78_code
def yX7_mark : MethodName := ⟨RX7, "mark", "(I)I"⟩
abbrev cX7_sizePlain : ByteArray := prog_9_method_79_code
def yX7_sizePlain : MethodName := ⟨RX7, "sizePlain", "(I)I"⟩
abbrev cX7_size : ByteArray := prog_9_method_80_code
def yX7_size : MethodName := ⟨RX7, "size", "(I)I"⟩
abbrev cX7_ask : ByteArray := prog_9_method_81_code
def yX7_ask : MethodName := ⟨RX7, "ask", "(II)I"⟩
abbrev cX7_trace : ByteArray := prog_9_method_82_code
def yX7_trace : MethodName := ⟨RX7, "trace", "(I)I"⟩
abbrev cX7_count : ByteArray := prog_9_method_83_code
def yX7_count : MethodName := ⟨RX7, "count", "(I)I"⟩
abbrev cX7_status : ByteArray := prog_9_method_84_code
def yX7_status : MethodName := ⟨RX7, "status", "()I"⟩
def RJ6 : String := "java/lang/Integer"
abbrev cJ6_bitCount_0f7a4 : ByteArray := prog_10_method_49_code
def yJ6_bitCount_0f7a4 : MethodName := ⟨RJ6, "bitCount", "(I)I"⟩
def RJ9 : String := "java/lang/Math"
abbrev cJ9_abs_0f7a4 : ByteArray := prog_11_method_59_code
def yJ9_abs_0f7a4 : MethodName := ⟨RJ9, "abs", "(I)I"⟩
abbrev cJ9_max_7cf53 : ByteArray := prog_11_method_65_code
def yJ9_max_7cf53 : MethodName := ⟨RJ9, "max", "(II)I"⟩
abbrev cJ9_min_7cf53 : ByteArray := prog_11_method_69_code
def yJ9_min_7cf53 : MethodName := ⟨RJ9, "min", "(II)I"⟩
def RJ10 : String := "java/lang/System"
def RL : String := "AsleepCotsLaw"
abbrev cL_law : ByteArray := code
def yL_law : MethodName := ⟨RL, "law", "([I)Z"⟩
abbrev vwCl : List vw_C := [(RX0, TX0, 7), (RX1, TX1, 8), (RX2, TX2, 3), (RX3, TX3, 14), (RX4, TX4, 3), (RX5, TX5, 3), (RX6, TX6, 10), (RX7, TX7, 18)]
end
section
/-! the tables' words that travel with every method, and each of them by its place -/
def tg : List Cond := lw_tbl.filter goodWord
theorem tg_in {w : Cond} (h : w ∈ tables_1) (g : goodWord w = true) : w ∈ tg := List.mem_filter.mpr ⟨List.mem_append_right _ h, g⟩
theorem tg_1 {w : Cond} {i : Nat} (h : tables_1_1[i]? = some w) (g : goodWord w = true) : w ∈ tg := tg_in (List.mem_append_left _ (List.mem_of_getElem? h)) g
theorem tg_2 {w : Cond} {i : Nat} (h : tables_1_2[i]? = some w) (g : goodWord w = true) : w ∈ tg := tg_in (List.mem_append_right _ (List.mem_append_left _ (List.mem_of_getElem? h))) g
theorem tg_3 {w : Cond} {i : Nat} (h : tables_1_3[i]? = some w) (g : goodWord w = true) : w ∈ tg := tg_in (List.mem_append_right _ (List.mem_append_right _ (List.mem_append_left _ (List.mem_of_getElem? h)))) g
theorem tg_4 {w : Cond} {i : Nat} (h : tables_1_4[i]? = some w) (g : goodWord w = true) : w ∈ tg := tg_in (List.mem_append_right _ (List.mem_append_right _ (List.mem_append_right _ (List.mem_append_left _ (List.mem_of_getElem? h))))) g
theorem tg_5 {w : Cond} {i : Nat} (h : tables_1_5[i]? = some w) (g : goodWord w = true) : w ∈ tg := tg_in (List.mem_append_right _ (List.mem_append_right _ (List.mem_append_right _ (List.mem_append_right _ (List.mem_of_getElem? h))))) g
theorem tg_sel {q : MethodName × Nat} {i : Nat} (h : lw_privs[i]? = some q) (g : goodWord (Cond.selects q.1.cls q.1 q.1) = true) : Cond.selects q.1.cls q.1 q.1 ∈ tg := List.mem_filter.mpr ⟨List.mem_append_left _ (List.mem_map.mpr ⟨q, List.mem_of_getElem? h, rfl⟩), g⟩
theorem tg_good {w : Cond} (h : w ∈ tg) : goodWord w = true := (List.mem_filter.mp h).2
theorem tg_goodIn {y : MethodName} {b : ByteArray} {n : Nat} {r : Option FieldType} (h : Cond.code y b n r ∈ tg) : GoodIn tg (Cond.code y b n r :: tg) := by
  intro w hw
  rcases List.mem_cons.mp hw with e | e
  · subst e; exact ⟨h, good_of_word (tg_good h)⟩
  · exact ⟨e, good_of_word (tg_good e)⟩
theorem tw0 : (Cond.initialized "AsleepCotsLaw") ∈ tg := tg_1 (i := 0) rfl rfl
theorem tw1 : (Cond.initialized "AsleepCots") ∈ tg := tg_1 (i := 1) rfl rfl
theorem tw2 : (Cond.initialized "AsleepCots$Tape") ∈ tg := tg_1 (i := 2) rfl rfl
theorem tw3 : (Cond.initialized "AsleepCots$Room") ∈ tg := tg_1 (i := 3) rfl rfl
theorem tw4 : (Cond.initialized "AsleepCots$Past") ∈ tg := tg_1 (i := 4) rfl rfl
theorem tw5 : (Cond.initialized "AsleepCots$Foresight") ∈ tg := tg_1 (i := 5) rfl rfl
theorem tw6 : (Cond.initialized "AsleepCots$Asks") ∈ tg := tg_1 (i := 6) rfl rfl
theorem tw7 : (Cond.initialized "AsleepCots$Row") ∈ tg := tg_1 (i := 7) rfl rfl
theorem tw8 : (Cond.initialized "AsleepCotsModel") ∈ tg := tg_1 (i := 8) rfl rfl
theorem tw9 : (Cond.initialized "java/lang/System") ∈ tg := tg_1 (i := 9) rfl rfl
theorem tw10 : (Cond.initialized "java/lang/Math") ∈ tg := tg_1 (i := 10) rfl rfl
theorem tw11 : (Cond.initialized "java/lang/Integer") ∈ tg := tg_1 (i := 11) rfl rfl
theorem tw12 : (Cond.classLink "AsleepCotsLaw" (7) "AsleepCots") ∈ tg := tg_1 (i := 12) rfl rfl
theorem tw13 : (Cond.instantiable "AsleepCots" (10)) ∈ tg := tg_1 (i := 13) rfl rfl
theorem tw14 : (Cond.methodLink "AsleepCotsLaw" (9) yX6_init) ∈ tg := tg_1 (i := 14) rfl rfl
theorem tw15 : (Cond.instanceMethod yX6_init) ∈ tg := tg_1 (i := 15) rfl rfl
theorem tw16 : (Cond.code yX6_init prog_1_method_1_code (2) (none : Option FieldType)) ∈ tg := tg_1 (i := 16) rfl rfl
theorem tw17 : (Cond.methodLink "AsleepCots" (1) ⟨"java/lang/Object", "<init>", "()V"⟩) ∈ tg := tg_1 (i := 17) rfl rfl
theorem tw18 : (Cond.instanceMethod ⟨"java/lang/Object", "<init>", "()V"⟩) ∈ tg := tg_1 (i := 18) rfl rfl
theorem tw19 : (Cond.code ⟨"java/lang/Object", "<init>", "()V"⟩ object_method_1_code (1) (none : Option FieldType)) ∈ tg := tg_1 (i := 19) rfl rfl
theorem tw20 : (Cond.classLink "AsleepCots" (9) "AsleepCots$Row") ∈ tg := tg_1 (i := 20) rfl rfl
theorem tw22 : (Cond.classLink "AsleepCots" (15) "AsleepCots$Tape") ∈ tg := tg_1 (i := 22) rfl rfl
theorem tw23 : (Cond.instantiable "AsleepCots$Tape" (3)) ∈ tg := tg_1 (i := 23) rfl rfl
theorem tw25 : (Cond.instanceMethod yX5_init) ∈ tg := tg_1 (i := 25) rfl rfl
theorem tw26 : (Cond.code yX5_init prog_7_method_1_code (1) (none : Option FieldType)) ∈ tg := tg_1 (i := 26) rfl rfl
theorem tw27 : (Cond.methodLink "AsleepCots$Tape" (3) ⟨"java/lang/Object", "<init>", "()V"⟩) ∈ tg := tg_1 (i := 27) rfl rfl
theorem tw28 : (Cond.fieldLink "AsleepCots$Tape" (9) "AsleepCots$Tape" "bytes" "[I") ∈ tg := tg_1 (i := 28) rfl rfl
theorem tw29 : (Cond.fieldLink "AsleepCots" (110) "AsleepCots$Tape" "bytes" "[I") ∈ tg := tg_1 (i := 29) rfl rfl
theorem tw30 : (Cond.fieldLink "AsleepCots$Tape" (20) "AsleepCots$Tape" "length" "I") ∈ tg := tg_1 (i := 30) rfl rfl
theorem tw31 : (Cond.fieldLink "AsleepCots" (106) "AsleepCots$Tape" "length" "I") ∈ tg := tg_1 (i := 31) rfl rfl
theorem tw32 : (Cond.fieldLink "AsleepCots$Tape" (35) "AsleepCots$Tape" "faultRead" "I") ∈ tg := tg_1 (i := 32) rfl rfl
theorem tw33 : (Cond.fieldLink "AsleepCots" (117) "AsleepCots$Tape" "faultRead" "I") ∈ tg := tg_1 (i := 33) rfl rfl
theorem tw34 : (Cond.laysFinal "AsleepCots$Tape" "AsleepCots$Tape" "bytes" "[I") ∈ tg := tg_1 (i := 34) rfl rfl
theorem tw36 : (Cond.lays "AsleepCots$Tape" "AsleepCots$Tape" "length" "I") ∈ tg := tg_1 (i := 36) rfl rfl
theorem tw38 : (Cond.lays "AsleepCots$Tape" "AsleepCots$Tape" "faultRead" "I") ∈ tg := tg_1 (i := 38) rfl rfl
theorem tw41 : (Cond.arrayClass FieldType.int) ∈ tg := tg_1 (i := 41) rfl rfl
theorem tw42 : (Cond.classLink "AsleepCots" (22) "AsleepCots$Room") ∈ tg := tg_1 (i := 42) rfl rfl
theorem tw43 : (Cond.instantiable "AsleepCots$Room" (14)) ∈ tg := tg_1 (i := 43) rfl rfl
theorem tw45 : (Cond.instanceMethod yX3_init) ∈ tg := tg_1 (i := 45) rfl rfl
theorem tw46 : (Cond.code yX3_init prog_5_method_1_code (1) (none : Option FieldType)) ∈ tg := tg_1 (i := 46) rfl rfl
theorem tw47 : (Cond.methodLink "AsleepCots$Room" (3) ⟨"java/lang/Object", "<init>", "()V"⟩) ∈ tg := tg_1 (i := 47) rfl rfl
theorem tw48 : (Cond.fieldLink "AsleepCots$Room" (36) "AsleepCots$Room" "children" "I") ∈ tg := tg_1 (i := 48) rfl rfl
theorem tw49 : (Cond.fieldLink "AsleepCots$Tape" (28) "AsleepCots$Room" "children" "I") ∈ tg := tg_1 (i := 49) rfl rfl
theorem tw50 : (Cond.fieldLink "AsleepCots" (131) "AsleepCots$Room" "children" "I") ∈ tg := tg_1 (i := 50) rfl rfl
theorem tw51 : (Cond.fieldLink "AsleepCots$Foresight" (82) "AsleepCots$Room" "children" "I") ∈ tg := tg_1 (i := 51) rfl rfl
theorem tw52 : (Cond.fieldLink "AsleepCots$Room" (40) "AsleepCots$Room" "women" "I") ∈ tg := tg_1 (i := 52) rfl rfl
theorem tw53 : (Cond.fieldLink "AsleepCots$Foresight" (66) "AsleepCots$Room" "women" "I") ∈ tg := tg_1 (i := 53) rfl rfl
theorem tw54 : (Cond.fieldLink "AsleepCots$Tape" (75) "AsleepCots$Room" "women" "I") ∈ tg := tg_1 (i := 54) rfl rfl
theorem tw55 : (Cond.fieldLink "AsleepCots" (169) "AsleepCots$Room" "women" "I") ∈ tg := tg_1 (i := 55) rfl rfl
theorem tw56 : (Cond.fieldLink "AsleepCots$Room" (43) "AsleepCots$Room" "cryingTime" "I") ∈ tg := tg_1 (i := 56) rfl rfl
theorem tw57 : (Cond.fieldLink "AsleepCots$Tape" (78) "AsleepCots$Room" "cryingTime" "I") ∈ tg := tg_1 (i := 57) rfl rfl
theorem tw58 : (Cond.fieldLink "AsleepCots$Room" (46) "AsleepCots$Room" "minute" "I") ∈ tg := tg_1 (i := 58) rfl rfl
theorem tw59 : (Cond.fieldLink "AsleepCots" (143) "AsleepCots$Room" "minute" "I") ∈ tg := tg_1 (i := 59) rfl rfl
theorem tw60 : (Cond.fieldLink "AsleepCots$Room" (49) "AsleepCots$Room" "held" "I") ∈ tg := tg_1 (i := 60) rfl rfl
theorem tw61 : (Cond.fieldLink "AsleepCots$Foresight" (69) "AsleepCots$Room" "held" "I") ∈ tg := tg_1 (i := 61) rfl rfl
theorem tw62 : (Cond.fieldLink "AsleepCots" (158) "AsleepCots$Room" "held" "I") ∈ tg := tg_1 (i := 62) rfl rfl
theorem tw63 : (Cond.fieldLink "AsleepCots$Room" (52) "AsleepCots$Room" "away" "I") ∈ tg := tg_1 (i := 63) rfl rfl
theorem tw64 : (Cond.fieldLink "AsleepCots$Foresight" (47) "AsleepCots$Room" "away" "I") ∈ tg := tg_1 (i := 64) rfl rfl
theorem tw65 : (Cond.fieldLink "AsleepCots" (172) "AsleepCots$Room" "away" "I") ∈ tg := tg_1 (i := 65) rfl rfl
theorem tw66 : (Cond.fieldLink "AsleepCots$Room" (9) "AsleepCots$Room" "kinds" "[I") ∈ tg := tg_1 (i := 66) rfl rfl
theorem tw67 : (Cond.fieldLink "AsleepCots$Asks" (44) "AsleepCots$Room" "kinds" "[I") ∈ tg := tg_1 (i := 67) rfl rfl
theorem tw68 : (Cond.fieldLink "AsleepCots$Foresight" (120) "AsleepCots$Room" "kinds" "[I") ∈ tg := tg_1 (i := 68) rfl rfl
theorem tw69 : (Cond.fieldLink "AsleepCots" (282) "AsleepCots$Room" "kinds" "[I") ∈ tg := tg_1 (i := 69) rfl rfl
theorem tw70 : (Cond.fieldLink "AsleepCots$Room" (15) "AsleepCots$Room" "needs" "[I") ∈ tg := tg_1 (i := 70) rfl rfl
theorem tw71 : (Cond.fieldLink "AsleepCots$Asks" (22) "AsleepCots$Room" "needs" "[I") ∈ tg := tg_1 (i := 71) rfl rfl
theorem tw72 : (Cond.fieldLink "AsleepCots$Tape" (85) "AsleepCots$Room" "needs" "[I") ∈ tg := tg_1 (i := 72) rfl rfl
theorem tw73 : (Cond.fieldLink "AsleepCots$Foresight" (123) "AsleepCots$Room" "needs" "[I") ∈ tg := tg_1 (i := 73) rfl rfl
theorem tw74 : (Cond.fieldLink "AsleepCots" (184) "AsleepCots$Room" "needs" "[I") ∈ tg := tg_1 (i := 74) rfl rfl
theorem tw75 : (Cond.fieldLink "AsleepCots$Room" (18) "AsleepCots$Room" "holds" "[I") ∈ tg := tg_1 (i := 75) rfl rfl
theorem tw76 : (Cond.fieldLink "AsleepCots$Tape" (88) "AsleepCots$Room" "holds" "[I") ∈ tg := tg_1 (i := 76) rfl rfl
theorem tw77 : (Cond.fieldLink "AsleepCots$Foresight" (126) "AsleepCots$Room" "holds" "[I") ∈ tg := tg_1 (i := 77) rfl rfl
theorem tw78 : (Cond.fieldLink "AsleepCots" (187) "AsleepCots$Room" "holds" "[I") ∈ tg := tg_1 (i := 78) rfl rfl
theorem tw79 : (Cond.fieldLink "AsleepCots$Room" (21) "AsleepCots$Room" "voices" "[I") ∈ tg := tg_1 (i := 79) rfl rfl
theorem tw80 : (Cond.fieldLink "AsleepCots$Tape" (91) "AsleepCots$Room" "voices" "[I") ∈ tg := tg_1 (i := 80) rfl rfl
theorem tw81 : (Cond.fieldLink "AsleepCots$Foresight" (129) "AsleepCots$Room" "voices" "[I") ∈ tg := tg_1 (i := 81) rfl rfl
theorem tw82 : (Cond.fieldLink "AsleepCots" (190) "AsleepCots$Room" "voices" "[I") ∈ tg := tg_1 (i := 82) rfl rfl
theorem tw83 : (Cond.fieldLink "AsleepCots$Room" (24) "AsleepCots$Room" "cots" "[I") ∈ tg := tg_1 (i := 83) rfl rfl
theorem tw84 : (Cond.fieldLink "AsleepCots" (178) "AsleepCots$Room" "cots" "[I") ∈ tg := tg_1 (i := 84) rfl rfl
theorem tw85 : (Cond.fieldLink "AsleepCots$Room" (27) "AsleepCots$Room" "states" "[I") ∈ tg := tg_1 (i := 85) rfl rfl
theorem tw86 : (Cond.fieldLink "AsleepCots" (193) "AsleepCots$Room" "states" "[I") ∈ tg := tg_1 (i := 86) rfl rfl
theorem tw87 : (Cond.fieldLink "AsleepCots$Room" (30) "AsleepCots$Room" "criesFor" "[I") ∈ tg := tg_1 (i := 87) rfl rfl
theorem tw88 : (Cond.fieldLink "AsleepCots" (196) "AsleepCots$Room" "criesFor" "[I") ∈ tg := tg_1 (i := 88) rfl rfl
theorem tw89 : (Cond.fieldLink "AsleepCots$Room" (33) "AsleepCots$Room" "calms" "[I") ∈ tg := tg_1 (i := 89) rfl rfl
theorem tw90 : (Cond.fieldLink "AsleepCots" (199) "AsleepCots$Room" "calms" "[I") ∈ tg := tg_1 (i := 90) rfl rfl
theorem tw91 : (Cond.lays "AsleepCots$Room" "AsleepCots$Room" "children" "I") ∈ tg := tg_1 (i := 91) rfl rfl
theorem tw93 : (Cond.lays "AsleepCots$Room" "AsleepCots$Room" "women" "I") ∈ tg := tg_1 (i := 93) rfl rfl
theorem tw95 : (Cond.lays "AsleepCots$Room" "AsleepCots$Room" "cryingTime" "I") ∈ tg := tg_1 (i := 95) rfl rfl
theorem tw97 : (Cond.lays "AsleepCots$Room" "AsleepCots$Room" "minute" "I") ∈ tg := tg_1 (i := 97) rfl rfl
theorem tw99 : (Cond.lays "AsleepCots$Room" "AsleepCots$Room" "held" "I") ∈ tg := tg_1 (i := 99) rfl rfl
theorem tw101 : (Cond.lays "AsleepCots$Room" "AsleepCots$Room" "away" "I") ∈ tg := tg_1 (i := 101) rfl rfl
theorem tw103 : (Cond.laysFinal "AsleepCots$Room" "AsleepCots$Room" "kinds" "[I") ∈ tg := tg_1 (i := 103) rfl rfl
theorem tw105 : (Cond.laysFinal "AsleepCots$Room" "AsleepCots$Room" "needs" "[I") ∈ tg := tg_1 (i := 105) rfl rfl
theorem tw107 : (Cond.laysFinal "AsleepCots$Room" "AsleepCots$Room" "holds" "[I") ∈ tg := tg_1 (i := 107) rfl rfl
theorem tw109 : (Cond.laysFinal "AsleepCots$Room" "AsleepCots$Room" "voices" "[I") ∈ tg := tg_1 (i := 109) rfl rfl
theorem tw111 : (Cond.laysFinal "AsleepCots$Room" "AsleepCots$Room" "cots" "[I") ∈ tg := tg_1 (i := 111) rfl rfl
theorem tw113 : (Cond.laysFinal "AsleepCots$Room" "AsleepCots$Room" "states" "[I") ∈ tg := tg_1 (i := 113) rfl rfl
theorem tw115 : (Cond.laysFinal "AsleepCots$Room" "AsleepCots$Room" "criesFor" "[I") ∈ tg := tg_1 (i := 115) rfl rfl
theorem tw117 : (Cond.laysFinal "AsleepCots$Room" "AsleepCots$Room" "calms" "[I") ∈ tg := tg_1 (i := 117) rfl rfl
theorem tw121 : (Cond.classLink "AsleepCots" (36) "AsleepCots$Past") ∈ tg := tg_1 (i := 121) rfl rfl
theorem tw122 : (Cond.instantiable "AsleepCots$Past" (3)) ∈ tg := tg_1 (i := 122) rfl rfl
theorem tw123 : (Cond.methodLink "AsleepCots" (38) yX2_init) ∈ tg := tg_1 (i := 123) rfl rfl
theorem tw124 : (Cond.instanceMethod yX2_init) ∈ tg := tg_1 (i := 124) rfl rfl
theorem tw125 : (Cond.code yX2_init prog_4_method_1_code (2) (none : Option FieldType)) ∈ tg := tg_1 (i := 125) rfl rfl
theorem tw126 : (Cond.methodLink "AsleepCots$Past" (3) ⟨"java/lang/Object", "<init>", "()V"⟩) ∈ tg := tg_1 (i := 126) rfl rfl
theorem tw127 : (Cond.classLink "AsleepCots$Past" (9) "AsleepCots$Room") ∈ tg := tg_1 (i := 127) rfl rfl
theorem tw129 : (Cond.fieldLink "AsleepCots$Past" (11) "AsleepCots$Past" "kept" "[LAsleepCots$Room;") ∈ tg := tg_1 (i := 129) rfl rfl
theorem tw130 : (Cond.fieldLink "AsleepCots$Past" (18) "AsleepCots$Past" "next" "I") ∈ tg := tg_1 (i := 130) rfl rfl
theorem tw131 : (Cond.fieldLink "AsleepCots$Past" (26) "AsleepCots$Past" "size" "I") ∈ tg := tg_1 (i := 131) rfl rfl
theorem tw132 : (Cond.fieldLink "AsleepCots" (134) "AsleepCots$Past" "size" "I") ∈ tg := tg_1 (i := 132) rfl rfl
theorem tw133 : (Cond.laysFinal "AsleepCots$Past" "AsleepCots$Past" "kept" "[LAsleepCots$Room;") ∈ tg := tg_1 (i := 133) rfl rfl
theorem tw135 : (Cond.lays "AsleepCots$Past" "AsleepCots$Past" "next" "I") ∈ tg := tg_1 (i := 135) rfl rfl
theorem tw137 : (Cond.lays "AsleepCots$Past" "AsleepCots$Past" "size" "I") ∈ tg := tg_1 (i := 137) rfl rfl
theorem tw140 : (Cond.classLink "AsleepCots" (43) "AsleepCots$Foresight") ∈ tg := tg_1 (i := 140) rfl rfl
theorem tw141 : (Cond.instantiable "AsleepCots$Foresight" (8)) ∈ tg := tg_1 (i := 141) rfl rfl
theorem tw142 : (Cond.methodLink "AsleepCots" (45) yX1_init) ∈ tg := tg_1 (i := 142) rfl rfl
theorem tw143 : (Cond.instanceMethod yX1_init) ∈ tg := tg_1 (i := 143) rfl rfl
theorem tw144 : (Cond.code yX1_init prog_3_method_1_code (2) (none : Option FieldType)) ∈ tg := tg_1 (i := 144) rfl rfl
theorem tw145 : (Cond.methodLink "AsleepCots$Foresight" (3) ⟨"java/lang/Object", "<init>", "()V"⟩) ∈ tg := tg_1 (i := 145) rfl rfl
theorem tw146 : (Cond.classLink "AsleepCots$Foresight" (9) "AsleepCots$Room") ∈ tg := tg_1 (i := 146) rfl rfl
theorem tw148 : (Cond.fieldLink "AsleepCots$Foresight" (12) "AsleepCots$Foresight" "trial" "LAsleepCots$Room;") ∈ tg := tg_1 (i := 148) rfl rfl
theorem tw149 : (Cond.fieldLink "AsleepCots" (279) "AsleepCots$Foresight" "trial" "LAsleepCots$Room;") ∈ tg := tg_1 (i := 149) rfl rfl
theorem tw150 : (Cond.fieldLink "AsleepCots$Foresight" (18) "AsleepCots$Foresight" "branches" "[LAsleepCots$Room;") ∈ tg := tg_1 (i := 150) rfl rfl
theorem tw151 : (Cond.fieldLink "AsleepCots$Foresight" (22) "AsleepCots$Foresight" "told" "[I") ∈ tg := tg_1 (i := 151) rfl rfl
theorem tw152 : (Cond.fieldLink "AsleepCots$Foresight" (95) "AsleepCots$Foresight" "toldMinutes" "I") ∈ tg := tg_1 (i := 152) rfl rfl
theorem tw153 : (Cond.fieldLink "AsleepCots$Foresight" (79) "AsleepCots$Foresight" "planned" "I") ∈ tg := tg_1 (i := 153) rfl rfl
theorem tw154 : (Cond.fieldLink "AsleepCots" (230) "AsleepCots$Foresight" "planned" "I") ∈ tg := tg_1 (i := 154) rfl rfl
theorem tw155 : (Cond.fieldLink "AsleepCots$Foresight" (57) "AsleepCots$Foresight" "plannedSleepers" "I") ∈ tg := tg_1 (i := 155) rfl rfl
theorem tw156 : (Cond.fieldLink "AsleepCots" (227) "AsleepCots$Foresight" "plannedSleepers" "I") ∈ tg := tg_1 (i := 156) rfl rfl
theorem tw157 : (Cond.fieldLink "AsleepCots$Foresight" (136) "AsleepCots$Foresight" "casesAbove" "J") ∈ tg := tg_1 (i := 157) rfl rfl
theorem tw158 : (Cond.fieldLink "AsleepCots" (268) "AsleepCots$Foresight" "casesAbove" "J") ∈ tg := tg_1 (i := 158) rfl rfl
theorem tw159 : (Cond.fieldLink "AsleepCots$Foresight" (140) "AsleepCots$Foresight" "casesBelow" "J") ∈ tg := tg_1 (i := 159) rfl rfl
theorem tw160 : (Cond.fieldLink "AsleepCots" (272) "AsleepCots$Foresight" "casesBelow" "J") ∈ tg := tg_1 (i := 160) rfl rfl
theorem tw161 : (Cond.laysFinal "AsleepCots$Foresight" "AsleepCots$Foresight" "trial" "LAsleepCots$Room;") ∈ tg := tg_1 (i := 161) rfl rfl
theorem tw163 : (Cond.laysFinal "AsleepCots$Foresight" "AsleepCots$Foresight" "branches" "[LAsleepCots$Room;") ∈ tg := tg_1 (i := 163) rfl rfl
theorem tw165 : (Cond.laysFinal "AsleepCots$Foresight" "AsleepCots$Foresight" "told" "[I") ∈ tg := tg_1 (i := 165) rfl rfl
theorem tw167 : (Cond.lays "AsleepCots$Foresight" "AsleepCots$Foresight" "toldMinutes" "I") ∈ tg := tg_1 (i := 167) rfl rfl
theorem tw169 : (Cond.lays "AsleepCots$Foresight" "AsleepCots$Foresight" "planned" "I") ∈ tg := tg_1 (i := 169) rfl rfl
theorem tw171 : (Cond.lays "AsleepCots$Foresight" "AsleepCots$Foresight" "plannedSleepers" "I") ∈ tg := tg_1 (i := 171) rfl rfl
theorem tw173 : (Cond.lays "AsleepCots$Foresight" "AsleepCots$Foresight" "casesAbove" "J") ∈ tg := tg_1 (i := 173) rfl rfl
theorem tw175 : (Cond.lays "AsleepCots$Foresight" "AsleepCots$Foresight" "casesBelow" "J") ∈ tg := tg_1 (i := 175) rfl rfl
theorem tw178 : (Cond.classLink "AsleepCots" (50) "AsleepCots$Asks") ∈ tg := tg_1 (i := 178) rfl rfl
theorem tw179 : (Cond.instantiable "AsleepCots$Asks" (7)) ∈ tg := tg_1 (i := 179) rfl rfl
theorem tw181 : (Cond.instanceMethod yX0_init) ∈ tg := tg_1 (i := 181) rfl rfl
theorem tw182 : (Cond.code yX0_init prog_2_method_1_code (1) (none : Option FieldType)) ∈ tg := tg_1 (i := 182) rfl rfl
theorem tw183 : (Cond.methodLink "AsleepCots$Asks" (3) ⟨"java/lang/Object", "<init>", "()V"⟩) ∈ tg := tg_1 (i := 183) rfl rfl
theorem tw184 : (Cond.fieldLink "AsleepCots$Asks" (9) "AsleepCots$Asks" "numbers" "[I") ∈ tg := tg_1 (i := 184) rfl rfl
theorem tw185 : (Cond.fieldLink "AsleepCots" (294) "AsleepCots$Asks" "numbers" "[I") ∈ tg := tg_1 (i := 185) rfl rfl
theorem tw186 : (Cond.fieldLink "AsleepCots$Asks" (15) "AsleepCots$Asks" "traced" "I") ∈ tg := tg_1 (i := 186) rfl rfl
theorem tw187 : (Cond.fieldLink "AsleepCots" (291) "AsleepCots$Asks" "traced" "I") ∈ tg := tg_1 (i := 187) rfl rfl
theorem tw188 : (Cond.fieldLink "AsleepCots$Asks" (19) "AsleepCots$Asks" "number" "I") ∈ tg := tg_1 (i := 188) rfl rfl
theorem tw189 : (Cond.fieldLink "AsleepCots$Asks" (27) "AsleepCots$Asks" "need" "I") ∈ tg := tg_1 (i := 189) rfl rfl
theorem tw190 : (Cond.fieldLink "AsleepCots$Asks" (38) "AsleepCots$Asks" "noise" "I") ∈ tg := tg_1 (i := 190) rfl rfl
theorem tw191 : (Cond.fieldLink "AsleepCots$Asks" (51) "AsleepCots$Asks" "sizeBody" "I") ∈ tg := tg_1 (i := 191) rfl rfl
theorem tw192 : (Cond.fieldLink "AsleepCots$Asks" (57) "AsleepCots$Asks" "markBody" "I") ∈ tg := tg_1 (i := 192) rfl rfl
theorem tw193 : (Cond.laysFinal "AsleepCots$Asks" "AsleepCots$Asks" "numbers" "[I") ∈ tg := tg_1 (i := 193) rfl rfl
theorem tw195 : (Cond.lays "AsleepCots$Asks" "AsleepCots$Asks" "traced" "I") ∈ tg := tg_1 (i := 195) rfl rfl
theorem tw197 : (Cond.lays "AsleepCots$Asks" "AsleepCots$Asks" "number" "I") ∈ tg := tg_1 (i := 197) rfl rfl
theorem tw199 : (Cond.lays "AsleepCots$Asks" "AsleepCots$Asks" "need" "I") ∈ tg := tg_1 (i := 199) rfl rfl
theorem tw201 : (Cond.lays "AsleepCots$Asks" "AsleepCots$Asks" "noise" "I") ∈ tg := tg_1 (i := 201) rfl rfl
theorem tw203 : (Cond.lays "AsleepCots$Asks" "AsleepCots$Asks" "sizeBody" "I") ∈ tg := tg_1 (i := 203) rfl rfl
theorem tw205 : (Cond.lays "AsleepCots$Asks" "AsleepCots$Asks" "markBody" "I") ∈ tg := tg_1 (i := 205) rfl rfl
theorem tw208 : (Cond.instantiable "AsleepCots$Row" (3)) ∈ tg := tg_1 (i := 208) rfl rfl
theorem tw210 : (Cond.instanceMethod yX4_init) ∈ tg := tg_1 (i := 210) rfl rfl
theorem tw211 : (Cond.code yX4_init prog_6_method_1_code (1) (none : Option FieldType)) ∈ tg := tg_1 (i := 211) rfl rfl
theorem tw212 : (Cond.methodLink "AsleepCots$Row" (3) ⟨"java/lang/Object", "<init>", "()V"⟩) ∈ tg := tg_1 (i := 212) rfl rfl
theorem tw213 : (Cond.fieldLink "AsleepCots$Row" (9) "AsleepCots$Row" "items" "[I") ∈ tg := tg_1 (i := 213) rfl rfl
theorem tw214 : (Cond.fieldLink "AsleepCots" (82) "AsleepCots$Row" "items" "[I") ∈ tg := tg_1 (i := 214) rfl rfl
theorem tw215 : (Cond.fieldLink "AsleepCots$Foresight" (104) "AsleepCots$Row" "items" "[I") ∈ tg := tg_1 (i := 215) rfl rfl
theorem tw216 : (Cond.fieldLink "AsleepCots$Row" (15) "AsleepCots$Row" "lane" "I") ∈ tg := tg_1 (i := 216) rfl rfl
theorem tw217 : (Cond.fieldLink "AsleepCots" (89) "AsleepCots$Row" "lane" "I") ∈ tg := tg_1 (i := 217) rfl rfl
theorem tw218 : (Cond.fieldLink "AsleepCots$Row" (19) "AsleepCots$Row" "size" "I") ∈ tg := tg_1 (i := 218) rfl rfl
theorem tw219 : (Cond.fieldLink "AsleepCots" (103) "AsleepCots$Row" "size" "I") ∈ tg := tg_1 (i := 219) rfl rfl
theorem tw220 : (Cond.laysFinal "AsleepCots$Row" "AsleepCots$Row" "items" "[I") ∈ tg := tg_1 (i := 220) rfl rfl
theorem tw222 : (Cond.lays "AsleepCots$Row" "AsleepCots$Row" "lane" "I") ∈ tg := tg_1 (i := 222) rfl rfl
theorem tw224 : (Cond.lays "AsleepCots$Row" "AsleepCots$Row" "size" "I") ∈ tg := tg_1 (i := 224) rfl rfl
theorem tw227 : (Cond.fieldLink "AsleepCots" (11) "AsleepCots" "rows" "[LAsleepCots$Row;") ∈ tg := tg_1 (i := 227) rfl rfl
theorem tw228 : (Cond.fieldLink "AsleepCots" (18) "AsleepCots" "tape" "LAsleepCots$Tape;") ∈ tg := tg_1 (i := 228) rfl rfl
theorem tw229 : (Cond.fieldLink "AsleepCots" (25) "AsleepCots" "now" "LAsleepCots$Room;") ∈ tg := tg_1 (i := 229) rfl rfl
theorem tw230 : (Cond.fieldLink "AsleepCots" (29) "AsleepCots" "draft" "LAsleepCots$Room;") ∈ tg := tg_1 (i := 230) rfl rfl
theorem tw231 : (Cond.fieldLink "AsleepCots" (32) "AsleepCots" "images" "[LAsleepCots$Room;") ∈ tg := tg_1 (i := 231) rfl rfl
theorem tw232 : (Cond.fieldLink "AsleepCots" (39) "AsleepCots" "past" "LAsleepCots$Past;") ∈ tg := tg_1 (i := 232) rfl rfl
theorem tw233 : (Cond.fieldLink "AsleepCots" (46) "AsleepCots" "foresight" "LAsleepCots$Foresight;") ∈ tg := tg_1 (i := 233) rfl rfl
theorem tw234 : (Cond.fieldLink "AsleepCots" (53) "AsleepCots" "asks" "LAsleepCots$Asks;") ∈ tg := tg_1 (i := 234) rfl rfl
theorem tw235 : (Cond.fieldLink "AsleepCots" (120) "AsleepCots" "latestFault" "I") ∈ tg := tg_1 (i := 235) rfl rfl
theorem tw236 : (Cond.fieldLink "AsleepCots" (300) "AsleepCots" "latestFinding" "I") ∈ tg := tg_1 (i := 236) rfl rfl
theorem tw237 : (Cond.laysFinal "AsleepCots" "AsleepCots" "rows" "[LAsleepCots$Row;") ∈ tg := tg_1 (i := 237) rfl rfl
theorem tw239 : (Cond.laysFinal "AsleepCots" "AsleepCots" "tape" "LAsleepCots$Tape;") ∈ tg := tg_1 (i := 239) rfl rfl
theorem tw241 : (Cond.laysFinal "AsleepCots" "AsleepCots" "now" "LAsleepCots$Room;") ∈ tg := tg_2 (i := 1) rfl rfl
theorem tw243 : (Cond.laysFinal "AsleepCots" "AsleepCots" "draft" "LAsleepCots$Room;") ∈ tg := tg_2 (i := 3) rfl rfl
theorem tw245 : (Cond.laysFinal "AsleepCots" "AsleepCots" "images" "[LAsleepCots$Room;") ∈ tg := tg_2 (i := 5) rfl rfl
theorem tw247 : (Cond.laysFinal "AsleepCots" "AsleepCots" "past" "LAsleepCots$Past;") ∈ tg := tg_2 (i := 7) rfl rfl
theorem tw249 : (Cond.laysFinal "AsleepCots" "AsleepCots" "foresight" "LAsleepCots$Foresight;") ∈ tg := tg_2 (i := 9) rfl rfl
theorem tw251 : (Cond.laysFinal "AsleepCots" "AsleepCots" "asks" "LAsleepCots$Asks;") ∈ tg := tg_2 (i := 11) rfl rfl
theorem tw253 : (Cond.lays "AsleepCots" "AsleepCots" "latestFault" "I") ∈ tg := tg_2 (i := 13) rfl rfl
theorem tw255 : (Cond.lays "AsleepCots" "AsleepCots" "latestFinding" "I") ∈ tg := tg_2 (i := 15) rfl rfl
theorem tw258 : (Cond.methodLink "AsleepCotsLaw" (13) yX6_row) ∈ tg := tg_2 (i := 18) rfl rfl
theorem tw259 : (Cond.instanceMethod yX6_row) ∈ tg := tg_2 (i := 19) rfl rfl
theorem tw260 : (Cond.selects "AsleepCots" yX6_row yX6_row) ∈ tg := tg_2 (i := 20) rfl rfl
theorem tw261 : (Cond.code yX6_row prog_1_method_2_code (4) (some FieldType.int)) ∈ tg := tg_2 (i := 21) rfl rfl
theorem tw262 : (Cond.methodLink "AsleepCots" (58) yX6_noRow) ∈ tg := tg_2 (i := 22) rfl rfl
theorem tw263 : (Cond.static yX6_noRow) ∈ tg := tg_2 (i := 23) rfl rfl
theorem tw264 : (Cond.code yX6_noRow prog_1_method_46_code (1) (some FieldType.boolean)) ∈ tg := tg_2 (i := 24) rfl rfl
theorem tw265 : (Cond.methodLink "AsleepCots" (62) yX6_beyond) ∈ tg := tg_2 (i := 25) rfl rfl
theorem tw266 : (Cond.static yX6_beyond) ∈ tg := tg_2 (i := 26) rfl rfl
theorem tw267 : (Cond.code yX6_beyond prog_1_method_47_code (3) (some FieldType.boolean)) ∈ tg := tg_2 (i := 27) rfl rfl
theorem tw268 : (Cond.constant "AsleepCots" (66) (-1000001)) ∈ tg := tg_2 (i := 28) rfl rfl
theorem tw269 : (Cond.methodLink "AsleepCots" (67) yX6_found) ∈ tg := tg_2 (i := 29) rfl rfl
theorem tw271 : (Cond.instanceMethod yX6_found) ∈ tg := tg_2 (i := 31) rfl rfl
theorem tw272 : (Cond.code yX6_found prog_1_method_41_code (2) (some FieldType.int)) ∈ tg := tg_2 (i := 32) rfl rfl
theorem tw273 : (Cond.constant "AsleepCots" (303) (-1000010)) ∈ tg := tg_2 (i := 33) rfl rfl
theorem tw274 : (Cond.methodLink "AsleepCots" (71) yX4_begin) ∈ tg := tg_2 (i := 34) rfl rfl
theorem tw275 : (Cond.instanceMethod yX4_begin) ∈ tg := tg_2 (i := 35) rfl rfl
theorem tw276 : (Cond.selects "AsleepCots$Row" yX4_begin yX4_begin) ∈ tg := tg_2 (i := 36) rfl rfl
theorem tw277 : (Cond.code yX4_begin prog_6_method_2_code (4) (none : Option FieldType)) ∈ tg := tg_2 (i := 37) rfl rfl
theorem tw278 : (Cond.methodLink "AsleepCots" (75) yX6_foundNothing) ∈ tg := tg_2 (i := 38) rfl rfl
theorem tw280 : (Cond.instanceMethod yX6_foundNothing) ∈ tg := tg_2 (i := 40) rfl rfl
theorem tw281 : (Cond.code yX6_foundNothing prog_1_method_42_code (2) (some FieldType.int)) ∈ tg := tg_2 (i := 41) rfl rfl
theorem tw282 : (Cond.methodLink "AsleepCotsLaw" (18) yX6_set) ∈ tg := tg_2 (i := 42) rfl rfl
theorem tw283 : (Cond.instanceMethod yX6_set) ∈ tg := tg_2 (i := 43) rfl rfl
theorem tw284 : (Cond.selects "AsleepCots" yX6_set yX6_set) ∈ tg := tg_2 (i := 44) rfl rfl
theorem tw285 : (Cond.code yX6_set prog_1_method_3_code (5) (some FieldType.int)) ∈ tg := tg_2 (i := 45) rfl rfl
theorem tw286 : (Cond.methodLink "AsleepCots" (78) yX4_findingFor) ∈ tg := tg_2 (i := 46) rfl rfl
theorem tw287 : (Cond.instanceMethod yX4_findingFor) ∈ tg := tg_2 (i := 47) rfl rfl
theorem tw288 : (Cond.selects "AsleepCots$Row" yX4_findingFor yX4_findingFor) ∈ tg := tg_2 (i := 48) rfl rfl
theorem tw289 : (Cond.code yX4_findingFor prog_6_method_5_code (3) (some FieldType.int)) ∈ tg := tg_2 (i := 49) rfl rfl
theorem tw290 : (Cond.methodLink "AsleepCots$Row" (22) yX4_lacks) ∈ tg := tg_2 (i := 50) rfl rfl
theorem tw291 : (Cond.instanceMethod yX4_lacks) ∈ tg := tg_2 (i := 51) rfl rfl
theorem tw292 : (Cond.selects "AsleepCots$Row" yX4_lacks yX4_lacks) ∈ tg := tg_2 (i := 52) rfl rfl
theorem tw293 : (Cond.code yX4_lacks prog_6_method_4_code (3) (some FieldType.boolean)) ∈ tg := tg_2 (i := 53) rfl rfl
theorem tw294 : (Cond.methodLink "AsleepCots" (86) yX4_narrowed) ∈ tg := tg_2 (i := 54) rfl rfl
theorem tw295 : (Cond.instanceMethod yX4_narrowed) ∈ tg := tg_2 (i := 55) rfl rfl
theorem tw296 : (Cond.selects "AsleepCots$Row" yX4_narrowed yX4_narrowed) ∈ tg := tg_2 (i := 56) rfl rfl
theorem tw297 : (Cond.code yX4_narrowed prog_6_method_3_code (2) (some FieldType.int)) ∈ tg := tg_2 (i := 57) rfl rfl
theorem tw298 : (Cond.methodLink "AsleepCotsLaw" (22) yX6_copy) ∈ tg := tg_2 (i := 58) rfl rfl
theorem tw299 : (Cond.instanceMethod yX6_copy) ∈ tg := tg_2 (i := 59) rfl rfl
theorem tw300 : (Cond.selects "AsleepCots" yX6_copy yX6_copy) ∈ tg := tg_2 (i := 60) rfl rfl
theorem tw301 : (Cond.code yX6_copy prog_1_method_4_code (6) (some FieldType.int)) ∈ tg := tg_2 (i := 61) rfl rfl
theorem tw302 : (Cond.methodLink "AsleepCots" (93) yX4_lacks) ∈ tg := tg_2 (i := 62) rfl rfl
theorem tw303 : (Cond.methodLink "AsleepCots" (97) ⟨"java/lang/System", "arraycopy", "(Ljava/lang/Object;ILjava/lang/Object;II)V"⟩) ∈ tg := tg_2 (i := 63) rfl rfl
theorem tw304 : (Cond.static ⟨"java/lang/System", "arraycopy", "(Ljava/lang/Object;ILjava/lang/Object;II)V"⟩) ∈ tg := tg_2 (i := 64) rfl rfl
theorem tw305 : (Cond.native ⟨"java/lang/System", "arraycopy", "(Ljava/lang/Object;ILjava/lang/Object;II)V"⟩) ∈ tg := tg_2 (i := 65) rfl rfl
theorem tw306 : (Cond.methodLink "AsleepCotsLaw" (27) yX6_drop) ∈ tg := tg_2 (i := 66) rfl rfl
theorem tw307 : (Cond.instanceMethod yX6_drop) ∈ tg := tg_2 (i := 67) rfl rfl
theorem tw308 : (Cond.selects "AsleepCots" yX6_drop yX6_drop) ∈ tg := tg_2 (i := 68) rfl rfl
theorem tw309 : (Cond.code yX6_drop prog_1_method_5_code (2) (some FieldType.int)) ∈ tg := tg_2 (i := 69) rfl rfl
theorem tw310 : (Cond.methodLink "AsleepCotsLaw" (32) yX6_feed) ∈ tg := tg_2 (i := 70) rfl rfl
theorem tw311 : (Cond.instanceMethod yX6_feed) ∈ tg := tg_2 (i := 71) rfl rfl
theorem tw312 : (Cond.selects "AsleepCots" yX6_feed yX6_feed) ∈ tg := tg_2 (i := 72) rfl rfl
theorem tw313 : (Cond.code yX6_feed prog_1_method_6_code (2) (some FieldType.int)) ∈ tg := tg_2 (i := 73) rfl rfl
theorem tw314 : (Cond.constant "AsleepCots" (109) (-1000003)) ∈ tg := tg_2 (i := 74) rfl rfl
theorem tw315 : (Cond.methodLink "AsleepCotsLaw" (36) yX6_room) ∈ tg := tg_2 (i := 75) rfl rfl
theorem tw316 : (Cond.instanceMethod yX6_room) ∈ tg := tg_2 (i := 76) rfl rfl
theorem tw317 : (Cond.selects "AsleepCots" yX6_room yX6_room) ∈ tg := tg_2 (i := 77) rfl rfl
theorem tw318 : (Cond.code yX6_room prog_1_method_7_code (2) (some FieldType.int)) ∈ tg := tg_2 (i := 78) rfl rfl
theorem tw319 : (Cond.methodLink "AsleepCots" (113) yX5_readInto) ∈ tg := tg_2 (i := 79) rfl rfl
theorem tw320 : (Cond.instanceMethod yX5_readInto) ∈ tg := tg_2 (i := 80) rfl rfl
theorem tw321 : (Cond.selects "AsleepCots$Tape" yX5_readInto yX5_readInto) ∈ tg := tg_2 (i := 81) rfl rfl
theorem tw322 : (Cond.code yX5_readInto prog_7_method_2_code (5) (some FieldType.int)) ∈ tg := tg_2 (i := 82) rfl rfl
theorem tw323 : (Cond.methodLink "AsleepCots$Tape" (15) yX3_clear) ∈ tg := tg_2 (i := 83) rfl rfl
theorem tw324 : (Cond.instanceMethod yX3_clear) ∈ tg := tg_2 (i := 84) rfl rfl
theorem tw325 : (Cond.selects "AsleepCots$Room" yX3_clear yX3_clear) ∈ tg := tg_2 (i := 85) rfl rfl
theorem tw326 : (Cond.code yX3_clear prog_5_method_2_code (1) (none : Option FieldType)) ∈ tg := tg_2 (i := 86) rfl rfl
theorem tw327 : (Cond.methodLink "AsleepCots$Tape" (24) yX5_widthAt) ∈ tg := tg_2 (i := 87) rfl rfl
theorem tw329 : (Cond.instanceMethod yX5_widthAt) ∈ tg := tg_2 (i := 89) rfl rfl
theorem tw330 : (Cond.code yX5_widthAt prog_7_method_3_code (5) (some FieldType.int)) ∈ tg := tg_2 (i := 90) rfl rfl
theorem tw331 : (Cond.methodLink "AsleepCots$Tape" (51) yX5_isFigure) ∈ tg := tg_2 (i := 91) rfl rfl
theorem tw332 : (Cond.static yX5_isFigure) ∈ tg := tg_2 (i := 92) rfl rfl
theorem tw333 : (Cond.code yX5_isFigure prog_7_method_8_code (1) (some FieldType.boolean)) ∈ tg := tg_2 (i := 93) rfl rfl
theorem tw334 : (Cond.methodLink "AsleepCots$Tape" (31) yX5_faultAt) ∈ tg := tg_2 (i := 94) rfl rfl
theorem tw336 : (Cond.instanceMethod yX5_faultAt) ∈ tg := tg_2 (i := 96) rfl rfl
theorem tw337 : (Cond.code yX5_faultAt prog_7_method_4_code (5) (some FieldType.int)) ∈ tg := tg_2 (i := 97) rfl rfl
theorem tw338 : (Cond.fieldLink "AsleepCots$Tape" (55) "AsleepCots$Tape" "STANDS" "[I") ∈ tg := tg_2 (i := 98) rfl rfl
theorem tw340 : (Cond.methodLink "AsleepCots$Tape" (58) yX5_canStand) ∈ tg := tg_2 (i := 100) rfl rfl
theorem tw341 : (Cond.static yX5_canStand) ∈ tg := tg_2 (i := 101) rfl rfl
theorem tw342 : (Cond.code yX5_canStand prog_7_method_5_code (2) (some FieldType.boolean)) ∈ tg := tg_2 (i := 102) rfl rfl
theorem tw343 : (Cond.methodLink "AsleepCots$Tape" (72) yX5_kindOf) ∈ tg := tg_2 (i := 103) rfl rfl
theorem tw344 : (Cond.static yX5_kindOf) ∈ tg := tg_2 (i := 104) rfl rfl
theorem tw345 : (Cond.code yX5_kindOf prog_7_method_9_code (1) (some FieldType.int)) ∈ tg := tg_2 (i := 105) rfl rfl
theorem tw346 : (Cond.methodLink "AsleepCots$Tape" (38) yX5_valueAt) ∈ tg := tg_2 (i := 106) rfl rfl
theorem tw348 : (Cond.instanceMethod yX5_valueAt) ∈ tg := tg_2 (i := 108) rfl rfl
theorem tw349 : (Cond.code yX5_valueAt prog_7_method_6_code (5) (some FieldType.int)) ∈ tg := tg_2 (i := 109) rfl rfl
theorem tw350 : (Cond.fieldLink "AsleepCots$Tape" (62) "AsleepCots$Tape" "LEAST" "[I") ∈ tg := tg_2 (i := 110) rfl rfl
theorem tw352 : (Cond.fieldLink "AsleepCots$Tape" (65) "AsleepCots$Tape" "MOST" "[I") ∈ tg := tg_2 (i := 112) rfl rfl
theorem tw355 : (Cond.methodLink "AsleepCots$Tape" (42) yX5_put) ∈ tg := tg_2 (i := 115) rfl rfl
theorem tw356 : (Cond.static yX5_put) ∈ tg := tg_2 (i := 116) rfl rfl
theorem tw357 : (Cond.code yX5_put prog_7_method_7_code (4) (none : Option FieldType)) ∈ tg := tg_2 (i := 117) rfl rfl
theorem tw358 : (Cond.methodLink "AsleepCots$Tape" (81) yX3_addChild) ∈ tg := tg_2 (i := 118) rfl rfl
theorem tw359 : (Cond.instanceMethod yX3_addChild) ∈ tg := tg_2 (i := 119) rfl rfl
theorem tw360 : (Cond.selects "AsleepCots$Room" yX3_addChild yX3_addChild) ∈ tg := tg_2 (i := 120) rfl rfl
theorem tw361 : (Cond.code yX3_addChild prog_5_method_3_code (2) (none : Option FieldType)) ∈ tg := tg_2 (i := 121) rfl rfl
theorem tw362 : (Cond.methodLink "AsleepCots$Room" (55) yX3_lieDown) ∈ tg := tg_2 (i := 122) rfl rfl
theorem tw363 : (Cond.instanceMethod yX3_lieDown) ∈ tg := tg_2 (i := 123) rfl rfl
theorem tw364 : (Cond.selects "AsleepCots$Room" yX3_lieDown yX3_lieDown) ∈ tg := tg_2 (i := 124) rfl rfl
theorem tw365 : (Cond.code yX3_lieDown prog_5_method_14_code (2) (none : Option FieldType)) ∈ tg := tg_2 (i := 125) rfl rfl
theorem tw366 : (Cond.methodLink "AsleepCots$Tape" (46) yJ9_max_7cf53) ∈ tg := tg_2 (i := 126) rfl rfl
theorem tw367 : (Cond.static yJ9_max_7cf53) ∈ tg := tg_2 (i := 127) rfl rfl
theorem tw368 : (Cond.code yJ9_max_7cf53 prog_11_method_65_code (2) (some FieldType.int)) ∈ tg := tg_2 (i := 128) rfl rfl
theorem tw369 : (Cond.constant "AsleepCots" (123) (-1000100)) ∈ tg := tg_2 (i := 129) rfl rfl
theorem tw370 : (Cond.methodLink "AsleepCots" (124) yX3_become) ∈ tg := tg_2 (i := 130) rfl rfl
theorem tw371 : (Cond.instanceMethod yX3_become) ∈ tg := tg_2 (i := 131) rfl rfl
theorem tw372 : (Cond.selects "AsleepCots$Room" yX3_become yX3_become) ∈ tg := tg_2 (i := 132) rfl rfl
theorem tw373 : (Cond.code yX3_become prog_5_method_4_code (2) (none : Option FieldType)) ∈ tg := tg_2 (i := 133) rfl rfl
theorem tw374 : (Cond.methodLink "AsleepCots$Room" (59) ⟨"java/lang/System", "arraycopy", "(Ljava/lang/Object;ILjava/lang/Object;II)V"⟩) ∈ tg := tg_2 (i := 134) rfl rfl
theorem tw375 : (Cond.methodLink "AsleepCots" (128) yX2_forget) ∈ tg := tg_2 (i := 135) rfl rfl
theorem tw376 : (Cond.instanceMethod yX2_forget) ∈ tg := tg_2 (i := 136) rfl rfl
theorem tw377 : (Cond.selects "AsleepCots$Past" yX2_forget yX2_forget) ∈ tg := tg_2 (i := 137) rfl rfl
theorem tw378 : (Cond.code yX2_forget prog_4_method_4_code (1) (none : Option FieldType)) ∈ tg := tg_2 (i := 138) rfl rfl
theorem tw379 : (Cond.methodLink "AsleepCotsLaw" (41) yX6_fault) ∈ tg := tg_2 (i := 139) rfl rfl
theorem tw380 : (Cond.instanceMethod yX6_fault) ∈ tg := tg_2 (i := 140) rfl rfl
theorem tw381 : (Cond.selects "AsleepCots" yX6_fault yX6_fault) ∈ tg := tg_2 (i := 141) rfl rfl
theorem tw382 : (Cond.code yX6_fault prog_1_method_8_code (1) (some FieldType.int)) ∈ tg := tg_2 (i := 142) rfl rfl
theorem tw383 : (Cond.methodLink "AsleepCotsLaw" (45) yX6_undo) ∈ tg := tg_2 (i := 143) rfl rfl
theorem tw384 : (Cond.instanceMethod yX6_undo) ∈ tg := tg_2 (i := 144) rfl rfl
theorem tw385 : (Cond.selects "AsleepCots" yX6_undo yX6_undo) ∈ tg := tg_2 (i := 145) rfl rfl
theorem tw386 : (Cond.code yX6_undo prog_1_method_9_code (1) (some FieldType.int)) ∈ tg := tg_2 (i := 146) rfl rfl
theorem tw387 : (Cond.constant "AsleepCots" (135) (-1000002)) ∈ tg := tg_2 (i := 147) rfl rfl
theorem tw388 : (Cond.methodLink "AsleepCots" (136) yX2_bringBack) ∈ tg := tg_2 (i := 148) rfl rfl
theorem tw389 : (Cond.instanceMethod yX2_bringBack) ∈ tg := tg_2 (i := 149) rfl rfl
theorem tw390 : (Cond.selects "AsleepCots$Past" yX2_bringBack yX2_bringBack) ∈ tg := tg_2 (i := 150) rfl rfl
theorem tw391 : (Cond.code yX2_bringBack prog_4_method_3_code (2) (none : Option FieldType)) ∈ tg := tg_2 (i := 151) rfl rfl
theorem tw392 : (Cond.methodLink "AsleepCots$Past" (22) yX3_become) ∈ tg := tg_2 (i := 152) rfl rfl
theorem tw393 : (Cond.methodLink "AsleepCotsLaw" (49) yX6_minutes) ∈ tg := tg_2 (i := 153) rfl rfl
theorem tw394 : (Cond.instanceMethod yX6_minutes) ∈ tg := tg_2 (i := 154) rfl rfl
theorem tw395 : (Cond.selects "AsleepCots" yX6_minutes yX6_minutes) ∈ tg := tg_2 (i := 155) rfl rfl
theorem tw396 : (Cond.code yX6_minutes prog_1_method_10_code (3) (some FieldType.int)) ∈ tg := tg_2 (i := 156) rfl rfl
theorem tw397 : (Cond.methodLink "AsleepCots" (139) yX6_noRoom) ∈ tg := tg_2 (i := 157) rfl rfl
theorem tw399 : (Cond.instanceMethod yX6_noRoom) ∈ tg := tg_2 (i := 159) rfl rfl
theorem tw400 : (Cond.code yX6_noRoom prog_1_method_43_code (1) (some FieldType.boolean)) ∈ tg := tg_2 (i := 160) rfl rfl
theorem tw401 : (Cond.methodLink "AsleepCots" (146) yX2_keep) ∈ tg := tg_2 (i := 161) rfl rfl
theorem tw402 : (Cond.instanceMethod yX2_keep) ∈ tg := tg_2 (i := 162) rfl rfl
theorem tw403 : (Cond.selects "AsleepCots$Past" yX2_keep yX2_keep) ∈ tg := tg_2 (i := 163) rfl rfl
theorem tw404 : (Cond.code yX2_keep prog_4_method_2_code (2) (none : Option FieldType)) ∈ tg := tg_2 (i := 164) rfl rfl
theorem tw405 : (Cond.methodLink "AsleepCots$Past" (29) yJ9_min_7cf53) ∈ tg := tg_2 (i := 165) rfl rfl
theorem tw406 : (Cond.static yJ9_min_7cf53) ∈ tg := tg_2 (i := 166) rfl rfl
theorem tw407 : (Cond.code yJ9_min_7cf53 prog_11_method_69_code (2) (some FieldType.int)) ∈ tg := tg_2 (i := 167) rfl rfl
theorem tw408 : (Cond.methodLink "AsleepCots" (149) yX3_passMinute) ∈ tg := tg_2 (i := 168) rfl rfl
theorem tw409 : (Cond.instanceMethod yX3_passMinute) ∈ tg := tg_2 (i := 169) rfl rfl
theorem tw410 : (Cond.selects "AsleepCots$Room" yX3_passMinute yX3_passMinute) ∈ tg := tg_2 (i := 170) rfl rfl
theorem tw411 : (Cond.code yX3_passMinute prog_5_method_20_code (4) (some FieldType.boolean)) ∈ tg := tg_2 (i := 171) rfl rfl
theorem tw412 : (Cond.methodLink "AsleepCots$Room" (85) yX3_heardCriers) ∈ tg := tg_2 (i := 172) rfl rfl
theorem tw413 : (Cond.instanceMethod yX3_heardCriers) ∈ tg := tg_2 (i := 173) rfl rfl
theorem tw414 : (Cond.selects "AsleepCots$Room" yX3_heardCriers yX3_heardCriers) ∈ tg := tg_2 (i := 174) rfl rfl
theorem tw415 : (Cond.code yX3_heardCriers prog_5_method_8_code (1) (some FieldType.int)) ∈ tg := tg_2 (i := 175) rfl rfl
theorem tw416 : (Cond.methodLink "AsleepCots$Room" (65) yX3_thoseWho) ∈ tg := tg_2 (i := 176) rfl rfl
theorem tw417 : (Cond.instanceMethod yX3_thoseWho) ∈ tg := tg_2 (i := 177) rfl rfl
theorem tw418 : (Cond.selects "AsleepCots$Room" yX3_thoseWho yX3_thoseWho) ∈ tg := tg_2 (i := 178) rfl rfl
theorem tw419 : (Cond.code yX3_thoseWho prog_5_method_6_code (4) (some FieldType.int)) ∈ tg := tg_2 (i := 179) rfl rfl
theorem tw420 : (Cond.methodLink "AsleepCots$Room" (108) yX3_calmDown) ∈ tg := tg_2 (i := 180) rfl rfl
theorem tw422 : (Cond.instanceMethod yX3_calmDown) ∈ tg := tg_2 (i := 182) rfl rfl
theorem tw423 : (Cond.code yX3_calmDown prog_5_method_21_code (2) (none : Option FieldType)) ∈ tg := tg_2 (i := 183) rfl rfl
theorem tw425 : (Cond.static yX6_has) ∈ tg := tg_2 (i := 185) rfl rfl
theorem tw426 : (Cond.code yX6_has prog_1_method_48_code (2) (some FieldType.boolean)) ∈ tg := tg_2 (i := 186) rfl rfl
theorem tw427 : (Cond.methodLink "AsleepCots$Room" (89) yX3_noiseAt) ∈ tg := tg_2 (i := 187) rfl rfl
theorem tw428 : (Cond.instanceMethod yX3_noiseAt) ∈ tg := tg_2 (i := 188) rfl rfl
theorem tw429 : (Cond.selects "AsleepCots$Room" yX3_noiseAt yX3_noiseAt) ∈ tg := tg_2 (i := 189) rfl rfl
theorem tw430 : (Cond.code yX3_noiseAt prog_5_method_9_code (5) (some FieldType.int)) ∈ tg := tg_2 (i := 190) rfl rfl
theorem tw431 : (Cond.methodLink "AsleepCots$Room" (73) yX3_callsOf) ∈ tg := tg_2 (i := 191) rfl rfl
theorem tw432 : (Cond.instanceMethod yX3_callsOf) ∈ tg := tg_2 (i := 192) rfl rfl
theorem tw433 : (Cond.selects "AsleepCots$Room" yX3_callsOf yX3_callsOf) ∈ tg := tg_2 (i := 193) rfl rfl
theorem tw434 : (Cond.code yX3_callsOf prog_5_method_10_code (2) (some FieldType.int)) ∈ tg := tg_2 (i := 194) rfl rfl
theorem tw435 : (Cond.methodLink "AsleepCots$Room" (76) yJ9_abs_0f7a4) ∈ tg := tg_2 (i := 195) rfl rfl
theorem tw436 : (Cond.static yJ9_abs_0f7a4) ∈ tg := tg_2 (i := 196) rfl rfl
theorem tw437 : (Cond.code yJ9_abs_0f7a4 prog_11_method_59_code (1) (some FieldType.int)) ∈ tg := tg_2 (i := 197) rfl rfl
theorem tw438 : (Cond.methodLink "AsleepCots$Room" (81) yJ9_max_7cf53) ∈ tg := tg_2 (i := 198) rfl rfl
theorem tw439 : (Cond.methodLink "AsleepCots$Room" (92) yX3_bearsOf) ∈ tg := tg_2 (i := 199) rfl rfl
theorem tw440 : (Cond.instanceMethod yX3_bearsOf) ∈ tg := tg_2 (i := 200) rfl rfl
theorem tw441 : (Cond.selects "AsleepCots$Room" yX3_bearsOf yX3_bearsOf) ∈ tg := tg_2 (i := 201) rfl rfl
theorem tw442 : (Cond.code yX3_bearsOf prog_5_method_11_code (2) (some FieldType.int)) ∈ tg := tg_2 (i := 202) rfl rfl
theorem tw443 : (Cond.methodLink "AsleepCots$Room" (111) yX3_listen) ∈ tg := tg_2 (i := 203) rfl rfl
theorem tw445 : (Cond.instanceMethod yX3_listen) ∈ tg := tg_2 (i := 205) rfl rfl
theorem tw446 : (Cond.code yX3_listen prog_5_method_22_code (4) (some FieldType.boolean)) ∈ tg := tg_2 (i := 206) rfl rfl
theorem tw447 : (Cond.methodLink "AsleepCots$Room" (101) yX3_wake) ∈ tg := tg_2 (i := 207) rfl rfl
theorem tw448 : (Cond.instanceMethod yX3_wake) ∈ tg := tg_2 (i := 208) rfl rfl
theorem tw449 : (Cond.selects "AsleepCots$Room" yX3_wake yX3_wake) ∈ tg := tg_2 (i := 209) rfl rfl
theorem tw450 : (Cond.code yX3_wake prog_5_method_16_code (2) (none : Option FieldType)) ∈ tg := tg_2 (i := 210) rfl rfl
theorem tw451 : (Cond.methodLink "AsleepCots$Room" (98) yX3_cry) ∈ tg := tg_2 (i := 211) rfl rfl
theorem tw452 : (Cond.instanceMethod yX3_cry) ∈ tg := tg_2 (i := 212) rfl rfl
theorem tw453 : (Cond.selects "AsleepCots$Room" yX3_cry yX3_cry) ∈ tg := tg_2 (i := 213) rfl rfl
theorem tw454 : (Cond.code yX3_cry prog_5_method_15_code (2) (none : Option FieldType)) ∈ tg := tg_2 (i := 214) rfl rfl
theorem tw455 : (Cond.methodLink "AsleepCots$Room" (115) yX3_calmGained) ∈ tg := tg_2 (i := 215) rfl rfl
theorem tw457 : (Cond.instanceMethod yX3_calmGained) ∈ tg := tg_2 (i := 217) rfl rfl
theorem tw458 : (Cond.code yX3_calmGained prog_5_method_23_code (2) (some FieldType.int)) ∈ tg := tg_2 (i := 218) rfl rfl
theorem tw459 : (Cond.methodLink "AsleepCots" (152) yX3_thoseWho) ∈ tg := tg_2 (i := 219) rfl rfl
theorem tw460 : (Cond.methodLink "AsleepCotsLaw" (53) yX6_hand) ∈ tg := tg_2 (i := 220) rfl rfl
theorem tw461 : (Cond.instanceMethod yX6_hand) ∈ tg := tg_2 (i := 221) rfl rfl
theorem tw462 : (Cond.selects "AsleepCots" yX6_hand yX6_hand) ∈ tg := tg_2 (i := 222) rfl rfl
theorem tw463 : (Cond.code yX6_hand prog_1_method_11_code (3) (some FieldType.int)) ∈ tg := tg_2 (i := 223) rfl rfl
theorem tw464 : (Cond.methodLink "AsleepCots" (155) yX6_noChild) ∈ tg := tg_2 (i := 224) rfl rfl
theorem tw466 : (Cond.instanceMethod yX6_noChild) ∈ tg := tg_2 (i := 226) rfl rfl
theorem tw467 : (Cond.code yX6_noChild prog_1_method_44_code (2) (some FieldType.boolean)) ∈ tg := tg_2 (i := 227) rfl rfl
theorem tw468 : (Cond.methodLink "AsleepCots" (161) yX6_has) ∈ tg := tg_2 (i := 228) rfl rfl
theorem tw469 : (Cond.methodLink "AsleepCots" (164) yJ6_bitCount_0f7a4) ∈ tg := tg_2 (i := 229) rfl rfl
theorem tw470 : (Cond.static yJ6_bitCount_0f7a4) ∈ tg := tg_2 (i := 230) rfl rfl
theorem tw471 : (Cond.code yJ6_bitCount_0f7a4 prog_10_method_49_code (1) (some FieldType.int)) ∈ tg := tg_2 (i := 231) rfl rfl
theorem tw472 : (Cond.constant "java/lang/Integer" (265) (1431655765)) ∈ tg := tg_2 (i := 232) rfl rfl
theorem tw473 : (Cond.constant "java/lang/Integer" (266) (858993459)) ∈ tg := tg_2 (i := 233) rfl rfl
theorem tw474 : (Cond.constant "java/lang/Integer" (267) (252645135)) ∈ tg := tg_2 (i := 234) rfl rfl
theorem tw475 : (Cond.methodLink "AsleepCotsLaw" (58) yX6_carry) ∈ tg := tg_2 (i := 235) rfl rfl
theorem tw476 : (Cond.instanceMethod yX6_carry) ∈ tg := tg_2 (i := 236) rfl rfl
theorem tw477 : (Cond.selects "AsleepCots" yX6_carry yX6_carry) ∈ tg := tg_2 (i := 237) rfl rfl
theorem tw478 : (Cond.code yX6_carry prog_1_method_12_code (3) (some FieldType.int)) ∈ tg := tg_2 (i := 238) rfl rfl
theorem tw479 : (Cond.methodLink "AsleepCotsLaw" (62) yX6_change) ∈ tg := tg_2 (i := 239) rfl rfl
theorem tw480 : (Cond.instanceMethod yX6_change) ∈ tg := tg_3 (i := 0) rfl rfl
theorem tw481 : (Cond.selects "AsleepCots" yX6_change yX6_change) ∈ tg := tg_3 (i := 1) rfl rfl
theorem tw482 : (Cond.code yX6_change prog_1_method_13_code (3) (some FieldType.int)) ∈ tg := tg_3 (i := 2) rfl rfl
theorem tw483 : (Cond.methodLink "AsleepCots" (175) yX3_swapCots) ∈ tg := tg_3 (i := 3) rfl rfl
theorem tw484 : (Cond.instanceMethod yX3_swapCots) ∈ tg := tg_3 (i := 4) rfl rfl
theorem tw485 : (Cond.selects "AsleepCots$Room" yX3_swapCots yX3_swapCots) ∈ tg := tg_3 (i := 5) rfl rfl
theorem tw486 : (Cond.code yX3_swapCots prog_5_method_17_code (4) (none : Option FieldType)) ∈ tg := tg_3 (i := 6) rfl rfl
theorem tw487 : (Cond.methodLink "AsleepCotsLaw" (66) yX6_lorry) ∈ tg := tg_3 (i := 7) rfl rfl
theorem tw488 : (Cond.instanceMethod yX6_lorry) ∈ tg := tg_3 (i := 8) rfl rfl
theorem tw489 : (Cond.selects "AsleepCots" yX6_lorry yX6_lorry) ∈ tg := tg_3 (i := 9) rfl rfl
theorem tw490 : (Cond.code yX6_lorry prog_1_method_14_code (2) (some FieldType.int)) ∈ tg := tg_3 (i := 10) rfl rfl
theorem tw491 : (Cond.methodLink "AsleepCots" (181) yX3_passLorry) ∈ tg := tg_3 (i := 11) rfl rfl
theorem tw492 : (Cond.instanceMethod yX3_passLorry) ∈ tg := tg_3 (i := 12) rfl rfl
theorem tw493 : (Cond.selects "AsleepCots$Room" yX3_passLorry yX3_passLorry) ∈ tg := tg_3 (i := 13) rfl rfl
theorem tw494 : (Cond.code yX3_passLorry prog_5_method_18_code (4) (some FieldType.int)) ∈ tg := tg_3 (i := 14) rfl rfl
theorem tw495 : (Cond.methodLink "AsleepCotsLaw" (70) yX6_need) ∈ tg := tg_3 (i := 15) rfl rfl
theorem tw496 : (Cond.instanceMethod yX6_need) ∈ tg := tg_3 (i := 16) rfl rfl
theorem tw497 : (Cond.selects "AsleepCots" yX6_need yX6_need) ∈ tg := tg_3 (i := 17) rfl rfl
theorem tw498 : (Cond.code yX6_need prog_1_method_15_code (4) (some FieldType.int)) ∈ tg := tg_3 (i := 18) rfl rfl
theorem tw499 : (Cond.methodLink "AsleepCotsLaw" (74) yX6_child) ∈ tg := tg_3 (i := 19) rfl rfl
theorem tw500 : (Cond.instanceMethod yX6_child) ∈ tg := tg_3 (i := 20) rfl rfl
theorem tw501 : (Cond.selects "AsleepCots" yX6_child yX6_child) ∈ tg := tg_3 (i := 21) rfl rfl
theorem tw502 : (Cond.code yX6_child prog_1_method_16_code (3) (some FieldType.int)) ∈ tg := tg_3 (i := 22) rfl rfl
theorem tw503 : (Cond.methodLink "AsleepCots" (202) yX3_heardCriers) ∈ tg := tg_3 (i := 23) rfl rfl
theorem tw504 : (Cond.methodLink "AsleepCots" (206) yX3_noiseAt) ∈ tg := tg_3 (i := 24) rfl rfl
theorem tw505 : (Cond.methodLink "AsleepCotsLaw" (78) yX6_stand) ∈ tg := tg_3 (i := 25) rfl rfl
theorem tw506 : (Cond.instanceMethod yX6_stand) ∈ tg := tg_3 (i := 26) rfl rfl
theorem tw507 : (Cond.selects "AsleepCots" yX6_stand yX6_stand) ∈ tg := tg_3 (i := 27) rfl rfl
theorem tw508 : (Cond.code yX6_stand prog_1_method_17_code (2) (some FieldType.int)) ∈ tg := tg_3 (i := 28) rfl rfl
theorem tw509 : (Cond.methodLink "AsleepCotsLaw" (82) yX6_ahead) ∈ tg := tg_3 (i := 29) rfl rfl
theorem tw510 : (Cond.instanceMethod yX6_ahead) ∈ tg := tg_3 (i := 30) rfl rfl
theorem tw511 : (Cond.selects "AsleepCots" yX6_ahead yX6_ahead) ∈ tg := tg_3 (i := 31) rfl rfl
theorem tw512 : (Cond.code yX6_ahead prog_1_method_18_code (3) (some FieldType.int)) ∈ tg := tg_3 (i := 32) rfl rfl
theorem tw513 : (Cond.methodLink "AsleepCots" (209) yX1_after) ∈ tg := tg_3 (i := 33) rfl rfl
theorem tw514 : (Cond.instanceMethod yX1_after) ∈ tg := tg_3 (i := 34) rfl rfl
theorem tw515 : (Cond.selects "AsleepCots$Foresight" yX1_after yX1_after) ∈ tg := tg_3 (i := 35) rfl rfl
theorem tw516 : (Cond.code yX1_after prog_3_method_2_code (3) (Option.some (FieldType.object "AsleepCots$Room"))) ∈ tg := tg_3 (i := 36) rfl rfl
theorem tw517 : (Cond.methodLink "AsleepCots$Foresight" (26) yX3_become) ∈ tg := tg_3 (i := 37) rfl rfl
theorem tw518 : (Cond.methodLink "AsleepCots$Foresight" (30) yX3_passMinutes) ∈ tg := tg_3 (i := 38) rfl rfl
theorem tw519 : (Cond.instanceMethod yX3_passMinutes) ∈ tg := tg_3 (i := 39) rfl rfl
theorem tw520 : (Cond.selects "AsleepCots$Room" yX3_passMinutes yX3_passMinutes) ∈ tg := tg_3 (i := 40) rfl rfl
theorem tw521 : (Cond.code yX3_passMinutes prog_5_method_19_code (3) (none : Option FieldType)) ∈ tg := tg_3 (i := 41) rfl rfl
theorem tw522 : (Cond.methodLink "AsleepCots$Room" (104) yX3_passMinute) ∈ tg := tg_3 (i := 42) rfl rfl
theorem tw523 : (Cond.methodLink "AsleepCotsLaw" (86) yX6_noise) ∈ tg := tg_3 (i := 43) rfl rfl
theorem tw524 : (Cond.instanceMethod yX6_noise) ∈ tg := tg_3 (i := 44) rfl rfl
theorem tw525 : (Cond.selects "AsleepCots" yX6_noise yX6_noise) ∈ tg := tg_3 (i := 45) rfl rfl
theorem tw526 : (Cond.code yX6_noise prog_1_method_19_code (4) (some FieldType.int)) ∈ tg := tg_3 (i := 46) rfl rfl
theorem tw527 : (Cond.methodLink "AsleepCotsLaw" (90) yX6_asleep) ∈ tg := tg_3 (i := 47) rfl rfl
theorem tw528 : (Cond.instanceMethod yX6_asleep) ∈ tg := tg_3 (i := 48) rfl rfl
theorem tw529 : (Cond.selects "AsleepCots" yX6_asleep yX6_asleep) ∈ tg := tg_3 (i := 49) rfl rfl
theorem tw530 : (Cond.code yX6_asleep prog_1_method_20_code (2) (some FieldType.int)) ∈ tg := tg_3 (i := 50) rfl rfl
theorem tw531 : (Cond.methodLink "AsleepCots" (213) yX1_firstAsleep) ∈ tg := tg_3 (i := 51) rfl rfl
theorem tw532 : (Cond.instanceMethod yX1_firstAsleep) ∈ tg := tg_3 (i := 52) rfl rfl
theorem tw533 : (Cond.selects "AsleepCots$Foresight" yX1_firstAsleep yX1_firstAsleep) ∈ tg := tg_3 (i := 53) rfl rfl
theorem tw534 : (Cond.code yX1_firstAsleep prog_3_method_3_code (4) (some FieldType.int)) ∈ tg := tg_3 (i := 54) rfl rfl
theorem tw535 : (Cond.methodLink "AsleepCots$Foresight" (34) yX3_sleepAll) ∈ tg := tg_3 (i := 55) rfl rfl
theorem tw536 : (Cond.instanceMethod yX3_sleepAll) ∈ tg := tg_3 (i := 56) rfl rfl
theorem tw537 : (Cond.selects "AsleepCots$Room" yX3_sleepAll yX3_sleepAll) ∈ tg := tg_3 (i := 57) rfl rfl
theorem tw538 : (Cond.code yX3_sleepAll prog_5_method_7_code (2) (some FieldType.boolean)) ∈ tg := tg_3 (i := 58) rfl rfl
theorem tw539 : (Cond.methodLink "AsleepCots$Foresight" (38) yX3_passMinute) ∈ tg := tg_3 (i := 59) rfl rfl
theorem tw540 : (Cond.constant "AsleepCots$Foresight" (42) (-1000000)) ∈ tg := tg_3 (i := 60) rfl rfl
theorem tw541 : (Cond.methodLink "AsleepCotsLaw" (94) yX6_allAsleep) ∈ tg := tg_3 (i := 61) rfl rfl
theorem tw542 : (Cond.instanceMethod yX6_allAsleep) ∈ tg := tg_3 (i := 62) rfl rfl
theorem tw543 : (Cond.selects "AsleepCots" yX6_allAsleep yX6_allAsleep) ∈ tg := tg_3 (i := 63) rfl rfl
theorem tw544 : (Cond.code yX6_allAsleep prog_1_method_21_code (1) (some FieldType.int)) ∈ tg := tg_3 (i := 64) rfl rfl
theorem tw545 : (Cond.methodLink "AsleepCots" (217) yX3_everybody) ∈ tg := tg_3 (i := 65) rfl rfl
theorem tw546 : (Cond.instanceMethod yX3_everybody) ∈ tg := tg_3 (i := 66) rfl rfl
theorem tw547 : (Cond.selects "AsleepCots$Room" yX3_everybody yX3_everybody) ∈ tg := tg_3 (i := 67) rfl rfl
theorem tw548 : (Cond.code yX3_everybody prog_5_method_5_code (1) (some FieldType.int)) ∈ tg := tg_3 (i := 68) rfl rfl
theorem tw549 : (Cond.methodLink "AsleepCotsLaw" (98) yX6_dinner) ∈ tg := tg_3 (i := 69) rfl rfl
theorem tw550 : (Cond.instanceMethod yX6_dinner) ∈ tg := tg_3 (i := 70) rfl rfl
theorem tw551 : (Cond.selects "AsleepCots" yX6_dinner yX6_dinner) ∈ tg := tg_3 (i := 71) rfl rfl
theorem tw552 : (Cond.code yX6_dinner prog_1_method_22_code (2) (some FieldType.int)) ∈ tg := tg_3 (i := 72) rfl rfl
theorem tw553 : (Cond.methodLink "AsleepCots" (220) yX1_longestDinner) ∈ tg := tg_3 (i := 73) rfl rfl
theorem tw554 : (Cond.instanceMethod yX1_longestDinner) ∈ tg := tg_3 (i := 74) rfl rfl
theorem tw555 : (Cond.selects "AsleepCots$Foresight" yX1_longestDinner yX1_longestDinner) ∈ tg := tg_3 (i := 75) rfl rfl
theorem tw556 : (Cond.code yX1_longestDinner prog_3_method_4_code (7) (some FieldType.int)) ∈ tg := tg_3 (i := 76) rfl rfl
theorem tw557 : (Cond.methodLink "AsleepCots$Foresight" (43) yX3_everybody) ∈ tg := tg_3 (i := 77) rfl rfl
theorem tw558 : (Cond.methodLink "AsleepCots$Foresight" (51) yJ9_max_7cf53) ∈ tg := tg_3 (i := 78) rfl rfl
theorem tw559 : (Cond.methodLink "AsleepCotsLaw" (102) yX6_hands) ∈ tg := tg_3 (i := 79) rfl rfl
theorem tw560 : (Cond.instanceMethod yX6_hands) ∈ tg := tg_3 (i := 80) rfl rfl
theorem tw561 : (Cond.selects "AsleepCots" yX6_hands yX6_hands) ∈ tg := tg_3 (i := 81) rfl rfl
theorem tw562 : (Cond.code yX6_hands prog_1_method_23_code (3) (some FieldType.int)) ∈ tg := tg_3 (i := 82) rfl rfl
theorem tw563 : (Cond.methodLink "AsleepCots" (223) yX1_planHands) ∈ tg := tg_3 (i := 83) rfl rfl
theorem tw564 : (Cond.instanceMethod yX1_planHands) ∈ tg := tg_3 (i := 84) rfl rfl
theorem tw565 : (Cond.selects "AsleepCots$Foresight" yX1_planHands yX1_planHands) ∈ tg := tg_3 (i := 85) rfl rfl
theorem tw566 : (Cond.code yX1_planHands prog_3_method_5_code (4) (none : Option FieldType)) ∈ tg := tg_3 (i := 86) rfl rfl
theorem tw567 : (Cond.methodLink "AsleepCots$Foresight" (60) yJ6_bitCount_0f7a4) ∈ tg := tg_3 (i := 87) rfl rfl
theorem tw568 : (Cond.methodLink "AsleepCots$Foresight" (72) yX3_thoseWho) ∈ tg := tg_3 (i := 88) rfl rfl
theorem tw569 : (Cond.methodLink "AsleepCots$Foresight" (75) yX1_weighHands) ∈ tg := tg_3 (i := 89) rfl rfl
theorem tw571 : (Cond.instanceMethod yX1_weighHands) ∈ tg := tg_3 (i := 91) rfl rfl
theorem tw572 : (Cond.code yX1_weighHands prog_3_method_6_code (4) (none : Option FieldType)) ∈ tg := tg_3 (i := 92) rfl rfl
theorem tw573 : (Cond.methodLink "AsleepCotsLaw" (106) yX6_outs) ∈ tg := tg_3 (i := 93) rfl rfl
theorem tw574 : (Cond.instanceMethod yX6_outs) ∈ tg := tg_3 (i := 94) rfl rfl
theorem tw575 : (Cond.selects "AsleepCots" yX6_outs yX6_outs) ∈ tg := tg_3 (i := 95) rfl rfl
theorem tw576 : (Cond.code yX6_outs prog_1_method_24_code (4) (some FieldType.int)) ∈ tg := tg_3 (i := 96) rfl rfl
theorem tw577 : (Cond.methodLink "AsleepCots" (233) yX1_fewestOut) ∈ tg := tg_3 (i := 97) rfl rfl
theorem tw578 : (Cond.instanceMethod yX1_fewestOut) ∈ tg := tg_3 (i := 98) rfl rfl
theorem tw579 : (Cond.selects "AsleepCots$Foresight" yX1_fewestOut yX1_fewestOut) ∈ tg := tg_3 (i := 99) rfl rfl
theorem tw580 : (Cond.code yX1_fewestOut prog_3_method_7_code (5) (some FieldType.int)) ∈ tg := tg_3 (i := 100) rfl rfl
theorem tw581 : (Cond.methodLink "AsleepCotsLaw" (110) yX6_best) ∈ tg := tg_3 (i := 101) rfl rfl
theorem tw582 : (Cond.instanceMethod yX6_best) ∈ tg := tg_3 (i := 102) rfl rfl
theorem tw583 : (Cond.selects "AsleepCots" yX6_best yX6_best) ∈ tg := tg_3 (i := 103) rfl rfl
theorem tw584 : (Cond.code yX6_best prog_1_method_25_code (3) (some FieldType.int)) ∈ tg := tg_3 (i := 104) rfl rfl
theorem tw585 : (Cond.constant "AsleepCots" (236) (-1000000)) ∈ tg := tg_3 (i := 105) rfl rfl
theorem tw586 : (Cond.methodLink "AsleepCots" (237) yX1_planChange) ∈ tg := tg_3 (i := 106) rfl rfl
theorem tw587 : (Cond.instanceMethod yX1_planChange) ∈ tg := tg_3 (i := 107) rfl rfl
theorem tw588 : (Cond.selects "AsleepCots$Foresight" yX1_planChange yX1_planChange) ∈ tg := tg_3 (i := 108) rfl rfl
theorem tw589 : (Cond.code yX1_planChange prog_3_method_8_code (6) (none : Option FieldType)) ∈ tg := tg_3 (i := 109) rfl rfl
theorem tw590 : (Cond.methodLink "AsleepCots$Foresight" (85) yX3_swapCots) ∈ tg := tg_3 (i := 110) rfl rfl
theorem tw591 : (Cond.methodLink "AsleepCotsLaw" (114) yX6_silence) ∈ tg := tg_3 (i := 111) rfl rfl
theorem tw592 : (Cond.instanceMethod yX6_silence) ∈ tg := tg_3 (i := 112) rfl rfl
theorem tw593 : (Cond.selects "AsleepCots" yX6_silence yX6_silence) ∈ tg := tg_3 (i := 113) rfl rfl
theorem tw594 : (Cond.code yX6_silence prog_1_method_26_code (1) (some FieldType.int)) ∈ tg := tg_3 (i := 114) rfl rfl
theorem tw595 : (Cond.methodLink "AsleepCots" (240) yX3_loudestUnheeded) ∈ tg := tg_3 (i := 115) rfl rfl
theorem tw596 : (Cond.instanceMethod yX3_loudestUnheeded) ∈ tg := tg_3 (i := 116) rfl rfl
theorem tw597 : (Cond.selects "AsleepCots$Room" yX3_loudestUnheeded yX3_loudestUnheeded) ∈ tg := tg_3 (i := 117) rfl rfl
theorem tw598 : (Cond.code yX3_loudestUnheeded prog_5_method_13_code (3) (some FieldType.int)) ∈ tg := tg_3 (i := 118) rfl rfl
theorem tw599 : (Cond.methodLink "AsleepCots$Room" (95) yJ9_min_7cf53) ∈ tg := tg_3 (i := 119) rfl rfl
theorem tw600 : (Cond.methodLink "AsleepCotsLaw" (118) yX6_wakes) ∈ tg := tg_3 (i := 120) rfl rfl
theorem tw601 : (Cond.instanceMethod yX6_wakes) ∈ tg := tg_3 (i := 121) rfl rfl
theorem tw602 : (Cond.selects "AsleepCots" yX6_wakes yX6_wakes) ∈ tg := tg_3 (i := 122) rfl rfl
theorem tw603 : (Cond.code yX6_wakes prog_1_method_27_code (2) (some FieldType.int)) ∈ tg := tg_3 (i := 123) rfl rfl
theorem tw604 : (Cond.methodLink "AsleepCots" (243) yX1_wokenBy) ∈ tg := tg_3 (i := 124) rfl rfl
theorem tw605 : (Cond.instanceMethod yX1_wokenBy) ∈ tg := tg_3 (i := 125) rfl rfl
theorem tw606 : (Cond.selects "AsleepCots$Foresight" yX1_wokenBy yX1_wokenBy) ∈ tg := tg_3 (i := 126) rfl rfl
theorem tw607 : (Cond.code yX1_wokenBy prog_3_method_9_code (4) (some FieldType.int)) ∈ tg := tg_3 (i := 127) rfl rfl
theorem tw608 : (Cond.methodLink "AsleepCots$Foresight" (88) yX1_after) ∈ tg := tg_3 (i := 128) rfl rfl
theorem tw609 : (Cond.methodLink "AsleepCots$Foresight" (92) yX3_cry) ∈ tg := tg_3 (i := 129) rfl rfl
theorem tw610 : (Cond.methodLink "AsleepCotsLaw" (122) yX6_loudest) ∈ tg := tg_3 (i := 130) rfl rfl
theorem tw611 : (Cond.instanceMethod yX6_loudest) ∈ tg := tg_3 (i := 131) rfl rfl
theorem tw612 : (Cond.selects "AsleepCots" yX6_loudest yX6_loudest) ∈ tg := tg_3 (i := 132) rfl rfl
theorem tw613 : (Cond.code yX6_loudest prog_1_method_28_code (1) (some FieldType.int)) ∈ tg := tg_3 (i := 133) rfl rfl
theorem tw614 : (Cond.methodLink "AsleepCots" (246) yX3_whereLoudest) ∈ tg := tg_3 (i := 134) rfl rfl
theorem tw615 : (Cond.instanceMethod yX3_whereLoudest) ∈ tg := tg_3 (i := 135) rfl rfl
theorem tw616 : (Cond.selects "AsleepCots$Room" yX3_whereLoudest yX3_whereLoudest) ∈ tg := tg_3 (i := 136) rfl rfl
theorem tw617 : (Cond.code yX3_whereLoudest prog_5_method_12_code (4) (some FieldType.int)) ∈ tg := tg_3 (i := 137) rfl rfl
theorem tw618 : (Cond.methodLink "AsleepCotsLaw" (126) yX6_who) ∈ tg := tg_3 (i := 138) rfl rfl
theorem tw619 : (Cond.instanceMethod yX6_who) ∈ tg := tg_3 (i := 139) rfl rfl
theorem tw620 : (Cond.selects "AsleepCots" yX6_who yX6_who) ∈ tg := tg_3 (i := 140) rfl rfl
theorem tw621 : (Cond.code yX6_who prog_1_method_29_code (7) (some FieldType.int)) ∈ tg := tg_3 (i := 141) rfl rfl
theorem tw622 : (Cond.methodLink "AsleepCots" (249) yX1_tell) ∈ tg := tg_3 (i := 142) rfl rfl
theorem tw623 : (Cond.instanceMethod yX1_tell) ∈ tg := tg_3 (i := 143) rfl rfl
theorem tw624 : (Cond.selects "AsleepCots$Foresight" yX1_tell yX1_tell) ∈ tg := tg_3 (i := 144) rfl rfl
theorem tw625 : (Cond.code yX1_tell prog_3_method_10_code (4) (none : Option FieldType)) ∈ tg := tg_3 (i := 145) rfl rfl
theorem tw626 : (Cond.methodLink "AsleepCots$Foresight" (98) yX4_lacks) ∈ tg := tg_3 (i := 146) rfl rfl
theorem tw627 : (Cond.methodLink "AsleepCots$Foresight" (107) ⟨"java/lang/System", "arraycopy", "(Ljava/lang/Object;ILjava/lang/Object;II)V"⟩) ∈ tg := tg_3 (i := 147) rfl rfl
theorem tw628 : (Cond.methodLink "AsleepCots" (253) yX1_fittingTraits) ∈ tg := tg_3 (i := 148) rfl rfl
theorem tw629 : (Cond.instanceMethod yX1_fittingTraits) ∈ tg := tg_3 (i := 149) rfl rfl
theorem tw630 : (Cond.selects "AsleepCots$Foresight" yX1_fittingTraits yX1_fittingTraits) ∈ tg := tg_3 (i := 150) rfl rfl
theorem tw631 : (Cond.code yX1_fittingTraits prog_3_method_12_code (8) (some FieldType.int)) ∈ tg := tg_3 (i := 151) rfl rfl
theorem tw632 : (Cond.methodLink "AsleepCots$Foresight" (113) yX1_traitsOf) ∈ tg := tg_3 (i := 152) rfl rfl
theorem tw633 : (Cond.static yX1_traitsOf) ∈ tg := tg_3 (i := 153) rfl rfl
theorem tw634 : (Cond.code yX1_traitsOf prog_3_method_13_code (2) (Option.some (FieldType.array FieldType.int))) ∈ tg := tg_3 (i := 154) rfl rfl
theorem tw635 : (Cond.methodLink "AsleepCots$Foresight" (117) yX1_goesAsTold) ∈ tg := tg_3 (i := 155) rfl rfl
theorem tw637 : (Cond.instanceMethod yX1_goesAsTold) ∈ tg := tg_3 (i := 157) rfl rfl
theorem tw638 : (Cond.code yX1_goesAsTold prog_3_method_11_code (2) (some FieldType.boolean)) ∈ tg := tg_3 (i := 158) rfl rfl
theorem tw639 : (Cond.methodLink "AsleepCotsLaw" (130) yX6_held) ∈ tg := tg_3 (i := 159) rfl rfl
theorem tw640 : (Cond.instanceMethod yX6_held) ∈ tg := tg_3 (i := 160) rfl rfl
theorem tw641 : (Cond.selects "AsleepCots" yX6_held yX6_held) ∈ tg := tg_3 (i := 161) rfl rfl
theorem tw642 : (Cond.code yX6_held prog_1_method_30_code (5) (some FieldType.int)) ∈ tg := tg_3 (i := 162) rfl rfl
theorem tw643 : (Cond.methodLink "AsleepCots" (257) yX1_fittingHands) ∈ tg := tg_3 (i := 163) rfl rfl
theorem tw644 : (Cond.instanceMethod yX1_fittingHands) ∈ tg := tg_3 (i := 164) rfl rfl
theorem tw645 : (Cond.selects "AsleepCots$Foresight" yX1_fittingHands yX1_fittingHands) ∈ tg := tg_3 (i := 165) rfl rfl
theorem tw646 : (Cond.code yX1_fittingHands prog_3_method_14_code (4) (some FieldType.int)) ∈ tg := tg_3 (i := 166) rfl rfl
theorem tw647 : (Cond.methodLink "AsleepCotsLaw" (134) yX6_lorries) ∈ tg := tg_3 (i := 167) rfl rfl
theorem tw648 : (Cond.instanceMethod yX6_lorries) ∈ tg := tg_3 (i := 168) rfl rfl
theorem tw649 : (Cond.selects "AsleepCots" yX6_lorries yX6_lorries) ∈ tg := tg_3 (i := 169) rfl rfl
theorem tw650 : (Cond.code yX6_lorries prog_1_method_31_code (5) (some FieldType.long)) ∈ tg := tg_3 (i := 170) rfl rfl
theorem tw651 : (Cond.constantLong "AsleepCots" (260) (-1000002)) ∈ tg := tg_3 (i := 171) rfl rfl
theorem tw652 : (Cond.constantLong "AsleepCots" (262) (-1000001)) ∈ tg := tg_3 (i := 172) rfl rfl
theorem tw653 : (Cond.methodLink "AsleepCots" (264) yX1_countCases) ∈ tg := tg_3 (i := 173) rfl rfl
theorem tw654 : (Cond.instanceMethod yX1_countCases) ∈ tg := tg_3 (i := 174) rfl rfl
theorem tw655 : (Cond.selects "AsleepCots$Foresight" yX1_countCases yX1_countCases) ∈ tg := tg_3 (i := 175) rfl rfl
theorem tw656 : (Cond.code yX1_countCases prog_3_method_15_code (6) (none : Option FieldType)) ∈ tg := tg_3 (i := 176) rfl rfl
theorem tw657 : (Cond.methodLink "AsleepCots$Foresight" (132) yX1_casesAsleep) ∈ tg := tg_3 (i := 177) rfl rfl
theorem tw659 : (Cond.instanceMethod yX1_casesAsleep) ∈ tg := tg_3 (i := 179) rfl rfl
theorem tw660 : (Cond.code yX1_casesAsleep prog_3_method_16_code (11) (some FieldType.long)) ∈ tg := tg_3 (i := 180) rfl rfl
theorem tw661 : (Cond.methodLink "AsleepCots$Foresight" (148) yX3_passLorry) ∈ tg := tg_3 (i := 181) rfl rfl
theorem tw662 : (Cond.constantLong "AsleepCots$Foresight" (143) (10)) ∈ tg := tg_3 (i := 182) rfl rfl
theorem tw663 : (Cond.methodLink "AsleepCots$Foresight" (145) yX1_cancel) ∈ tg := tg_3 (i := 183) rfl rfl
theorem tw665 : (Cond.instanceMethod yX1_cancel) ∈ tg := tg_3 (i := 185) rfl rfl
theorem tw666 : (Cond.code yX1_cancel prog_3_method_17_code (3) (none : Option FieldType)) ∈ tg := tg_3 (i := 186) rfl rfl
theorem tw667 : (Cond.methodLink "AsleepCots$Foresight" (151) yX1_cancelBy) ∈ tg := tg_3 (i := 187) rfl rfl
theorem tw669 : (Cond.instanceMethod yX1_cancelBy) ∈ tg := tg_3 (i := 189) rfl rfl
theorem tw670 : (Cond.code yX1_cancelBy prog_3_method_18_code (2) (none : Option FieldType)) ∈ tg := tg_3 (i := 190) rfl rfl
theorem tw671 : (Cond.methodLink "AsleepCotsLaw" (139) yX6_drawn) ∈ tg := tg_3 (i := 191) rfl rfl
theorem tw672 : (Cond.instanceMethod yX6_drawn) ∈ tg := tg_3 (i := 192) rfl rfl
theorem tw673 : (Cond.selects "AsleepCots" yX6_drawn yX6_drawn) ∈ tg := tg_3 (i := 193) rfl rfl
theorem tw674 : (Cond.code yX6_drawn prog_1_method_32_code (5) (some FieldType.int)) ∈ tg := tg_3 (i := 194) rfl rfl
theorem tw675 : (Cond.constant "AsleepCots" (275) (999999)) ∈ tg := tg_3 (i := 195) rfl rfl
theorem tw676 : (Cond.methodLink "AsleepCots" (276) yX1_drawDay) ∈ tg := tg_3 (i := 196) rfl rfl
theorem tw677 : (Cond.instanceMethod yX1_drawDay) ∈ tg := tg_3 (i := 197) rfl rfl
theorem tw678 : (Cond.selects "AsleepCots$Foresight" yX1_drawDay yX1_drawDay) ∈ tg := tg_3 (i := 198) rfl rfl
theorem tw679 : (Cond.code yX1_drawDay prog_3_method_19_code (8) (some FieldType.int)) ∈ tg := tg_3 (i := 199) rfl rfl
theorem tw680 : (Cond.constantLong "AsleepCots$Foresight" (154) (16807)) ∈ tg := tg_3 (i := 200) rfl rfl
theorem tw681 : (Cond.constantLong "AsleepCots$Foresight" (156) (2147483647)) ∈ tg := tg_3 (i := 201) rfl rfl
theorem tw682 : (Cond.constantLong "AsleepCots$Foresight" (158) (6)) ∈ tg := tg_3 (i := 202) rfl rfl
theorem tw683 : (Cond.constantLong "AsleepCots$Foresight" (160) (20)) ∈ tg := tg_3 (i := 203) rfl rfl
theorem tw684 : (Cond.constantLong "AsleepCots$Foresight" (162) (7)) ∈ tg := tg_3 (i := 204) rfl rfl
theorem tw685 : (Cond.methodLink "AsleepCotsLaw" (143) yX6_image) ∈ tg := tg_3 (i := 205) rfl rfl
theorem tw686 : (Cond.instanceMethod yX6_image) ∈ tg := tg_3 (i := 206) rfl rfl
theorem tw687 : (Cond.selects "AsleepCots" yX6_image yX6_image) ∈ tg := tg_3 (i := 207) rfl rfl
theorem tw688 : (Cond.code yX6_image prog_1_method_33_code (2) (some FieldType.int)) ∈ tg := tg_3 (i := 208) rfl rfl
theorem tw689 : (Cond.methodLink "AsleepCotsLaw" (147) yX6_restore) ∈ tg := tg_3 (i := 209) rfl rfl
theorem tw690 : (Cond.instanceMethod yX6_restore) ∈ tg := tg_3 (i := 210) rfl rfl
theorem tw691 : (Cond.selects "AsleepCots" yX6_restore yX6_restore) ∈ tg := tg_3 (i := 211) rfl rfl
theorem tw692 : (Cond.code yX6_restore prog_1_method_34_code (2) (some FieldType.int)) ∈ tg := tg_3 (i := 212) rfl rfl
theorem tw693 : (Cond.methodLink "AsleepCotsLaw" (151) yX6_kind) ∈ tg := tg_3 (i := 213) rfl rfl
theorem tw694 : (Cond.instanceMethod yX6_kind) ∈ tg := tg_3 (i := 214) rfl rfl
theorem tw695 : (Cond.selects "AsleepCots" yX6_kind yX6_kind) ∈ tg := tg_3 (i := 215) rfl rfl
theorem tw696 : (Cond.code yX6_kind prog_1_method_35_code (2) (some FieldType.int)) ∈ tg := tg_3 (i := 216) rfl rfl
theorem tw697 : (Cond.methodLink "AsleepCotsLaw" (155) yX6_as) ∈ tg := tg_3 (i := 217) rfl rfl
theorem tw698 : (Cond.instanceMethod yX6_as) ∈ tg := tg_3 (i := 218) rfl rfl
theorem tw699 : (Cond.selects "AsleepCots" yX6_as yX6_as) ∈ tg := tg_3 (i := 219) rfl rfl
theorem tw700 : (Cond.code yX6_as prog_1_method_36_code (3) (some FieldType.int)) ∈ tg := tg_3 (i := 220) rfl rfl
theorem tw701 : (Cond.methodLink "AsleepCots" (285) yX6_isOne) ∈ tg := tg_3 (i := 221) rfl rfl
theorem tw702 : (Cond.static yX6_isOne) ∈ tg := tg_3 (i := 222) rfl rfl
theorem tw703 : (Cond.code yX6_isOne prog_1_method_49_code (4) (some FieldType.boolean)) ∈ tg := tg_3 (i := 223) rfl rfl
theorem tw704 : (Cond.fieldLink "AsleepCots" (304) "AsleepCots" "ABOVE" "[I") ∈ tg := tg_3 (i := 224) rfl rfl
theorem tw706 : (Cond.methodLink "AsleepCotsLaw" (159) yX6_ask) ∈ tg := tg_3 (i := 226) rfl rfl
theorem tw707 : (Cond.instanceMethod yX6_ask) ∈ tg := tg_3 (i := 227) rfl rfl
theorem tw708 : (Cond.selects "AsleepCots" yX6_ask yX6_ask) ∈ tg := tg_3 (i := 228) rfl rfl
theorem tw709 : (Cond.code yX6_ask prog_1_method_37_code (3) (some FieldType.int)) ∈ tg := tg_3 (i := 229) rfl rfl
theorem tw710 : (Cond.methodLink "AsleepCots" (288) yX0_answer) ∈ tg := tg_3 (i := 230) rfl rfl
theorem tw711 : (Cond.instanceMethod yX0_answer) ∈ tg := tg_3 (i := 231) rfl rfl
theorem tw712 : (Cond.selects "AsleepCots$Asks" yX0_answer yX0_answer) ∈ tg := tg_3 (i := 232) rfl rfl
theorem tw713 : (Cond.code yX0_answer prog_2_method_2_code (4) (some FieldType.int)) ∈ tg := tg_3 (i := 233) rfl rfl
theorem tw714 : (Cond.methodLink "AsleepCots$Asks" (30) yX3_heardCriers) ∈ tg := tg_3 (i := 234) rfl rfl
theorem tw715 : (Cond.methodLink "AsleepCots$Asks" (34) yX3_noiseAt) ∈ tg := tg_3 (i := 235) rfl rfl
theorem tw716 : (Cond.fieldLink "AsleepCots$Asks" (41) "AsleepCots$Asks" "SIZE_BODIES" "[I") ∈ tg := tg_3 (i := 236) rfl rfl
theorem tw718 : (Cond.methodLink "AsleepCots$Asks" (47) yX0_nearest) ∈ tg := tg_3 (i := 238) rfl rfl
theorem tw719 : (Cond.static yX0_nearest) ∈ tg := tg_3 (i := 239) rfl rfl
theorem tw720 : (Cond.code yX0_nearest prog_2_method_3_code (4) (some FieldType.int)) ∈ tg := tg_4 (i := 0) rfl rfl
theorem tw722 : (Cond.fieldLink "AsleepCots$Asks" (54) "AsleepCots$Asks" "MARK_BODIES" "[I") ∈ tg := tg_4 (i := 2) rfl rfl
theorem tw724 : (Cond.methodLink "AsleepCots$Asks" (60) yX0_give) ∈ tg := tg_4 (i := 4) rfl rfl
theorem tw726 : (Cond.instanceMethod yX0_give) ∈ tg := tg_4 (i := 6) rfl rfl
theorem tw727 : (Cond.code yX0_give prog_2_method_4_code (4) (some FieldType.int)) ∈ tg := tg_4 (i := 7) rfl rfl
theorem tw728 : (Cond.methodLink "AsleepCots$Asks" (66) yX0_leave) ∈ tg := tg_4 (i := 8) rfl rfl
theorem tw730 : (Cond.instanceMethod yX0_leave) ∈ tg := tg_4 (i := 10) rfl rfl
theorem tw731 : (Cond.code yX0_leave prog_2_method_5_code (2) (none : Option FieldType)) ∈ tg := tg_4 (i := 11) rfl rfl
theorem tw732 : (Cond.methodLink "AsleepCotsLaw" (163) yX6_trace) ∈ tg := tg_4 (i := 12) rfl rfl
theorem tw733 : (Cond.instanceMethod yX6_trace) ∈ tg := tg_4 (i := 13) rfl rfl
theorem tw734 : (Cond.selects "AsleepCots" yX6_trace yX6_trace) ∈ tg := tg_4 (i := 14) rfl rfl
theorem tw735 : (Cond.code yX6_trace prog_1_method_38_code (2) (some FieldType.int)) ∈ tg := tg_4 (i := 15) rfl rfl
theorem tw736 : (Cond.methodLink "AsleepCotsLaw" (167) yX6_count) ∈ tg := tg_4 (i := 16) rfl rfl
theorem tw737 : (Cond.instanceMethod yX6_count) ∈ tg := tg_4 (i := 17) rfl rfl
theorem tw738 : (Cond.selects "AsleepCots" yX6_count yX6_count) ∈ tg := tg_4 (i := 18) rfl rfl
theorem tw739 : (Cond.code yX6_count prog_1_method_39_code (2) (some FieldType.int)) ∈ tg := tg_4 (i := 19) rfl rfl
theorem tw740 : (Cond.methodLink "AsleepCots" (297) yX6_presentRows) ∈ tg := tg_4 (i := 20) rfl rfl
theorem tw742 : (Cond.instanceMethod yX6_presentRows) ∈ tg := tg_4 (i := 22) rfl rfl
theorem tw743 : (Cond.code yX6_presentRows prog_1_method_45_code (3) (some FieldType.int)) ∈ tg := tg_4 (i := 23) rfl rfl
theorem tw744 : (Cond.methodLink "AsleepCotsLaw" (171) yX6_status) ∈ tg := tg_4 (i := 24) rfl rfl
theorem tw745 : (Cond.instanceMethod yX6_status) ∈ tg := tg_4 (i := 25) rfl rfl
theorem tw746 : (Cond.selects "AsleepCots" yX6_status yX6_status) ∈ tg := tg_4 (i := 26) rfl rfl
theorem tw747 : (Cond.code yX6_status prog_1_method_40_code (1) (some FieldType.int)) ∈ tg := tg_4 (i := 27) rfl rfl
theorem tw748 : (Cond.classLink "AsleepCotsLaw" (10) "AsleepCotsModel") ∈ tg := tg_4 (i := 28) rfl rfl
theorem tw749 : (Cond.instantiable "AsleepCotsModel" (18)) ∈ tg := tg_4 (i := 29) rfl rfl
theorem tw750 : (Cond.methodLink "AsleepCotsLaw" (12) yX7_init) ∈ tg := tg_4 (i := 30) rfl rfl
theorem tw751 : (Cond.instanceMethod yX7_init) ∈ tg := tg_4 (i := 31) rfl rfl
theorem tw752 : (Cond.code yX7_init prog_9_method_1_code (2) (none : Option FieldType)) ∈ tg := tg_4 (i := 32) rfl rfl
theorem tw753 : (Cond.methodLink "AsleepCotsModel" (1) ⟨"java/lang/Object", "<init>", "()V"⟩) ∈ tg := tg_4 (i := 33) rfl rfl
theorem tw754 : (Cond.fieldLink "AsleepCotsModel" (7) "AsleepCotsModel" "w" "[I") ∈ tg := tg_4 (i := 34) rfl rfl
theorem tw755 : (Cond.fieldLink "AsleepCotsModel" (13) "AsleepCotsModel" "isKept" "[Z") ∈ tg := tg_4 (i := 35) rfl rfl
theorem tw756 : (Cond.fieldLink "AsleepCotsModel" (17) "AsleepCotsModel" "acts" "[I") ∈ tg := tg_4 (i := 36) rfl rfl
theorem tw757 : (Cond.fieldLink "AsleepCotsModel" (120) "AsleepCotsModel" "acted" "I") ∈ tg := tg_4 (i := 37) rfl rfl
theorem tw758 : (Cond.fieldLink "AsleepCotsModel" (20) "AsleepCotsModel" "rows" "[I") ∈ tg := tg_4 (i := 38) rfl rfl
theorem tw759 : (Cond.fieldLink "AsleepCotsModel" (23) "AsleepCotsModel" "rowSize" "[I") ∈ tg := tg_4 (i := 39) rfl rfl
theorem tw760 : (Cond.fieldLink "AsleepCotsModel" (26) "AsleepCotsModel" "rowLane" "[I") ∈ tg := tg_4 (i := 40) rfl rfl
theorem tw761 : (Cond.fieldLink "AsleepCotsModel" (41) "AsleepCotsModel" "status" "I") ∈ tg := tg_4 (i := 41) rfl rfl
theorem tw762 : (Cond.fieldLink "AsleepCotsModel" (29) "AsleepCotsModel" "tape" "[I") ∈ tg := tg_4 (i := 42) rfl rfl
theorem tw763 : (Cond.fieldLink "AsleepCotsModel" (72) "AsleepCotsModel" "taped" "I") ∈ tg := tg_4 (i := 43) rfl rfl
theorem tw764 : (Cond.fieldLink "AsleepCotsModel" (76) "AsleepCotsModel" "faulty" "I") ∈ tg := tg_4 (i := 44) rfl rfl
theorem tw765 : (Cond.fieldLink "AsleepCotsModel" (32) "AsleepCotsModel" "trace" "[I") ∈ tg := tg_4 (i := 45) rfl rfl
theorem tw766 : (Cond.fieldLink "AsleepCotsModel" (233) "AsleepCotsModel" "traced" "I") ∈ tg := tg_4 (i := 46) rfl rfl
theorem tw767 : (Cond.fieldLink "AsleepCotsModel" (35) "AsleepCotsModel" "held" "[I") ∈ tg := tg_4 (i := 47) rfl rfl
theorem tw768 : (Cond.fieldLink "AsleepCotsModel" (82) "AsleepCotsModel" "at" "I") ∈ tg := tg_4 (i := 48) rfl rfl
theorem tw769 : (Cond.fieldLink "AsleepCotsModel" (92) "AsleepCotsModel" "number" "I") ∈ tg := tg_4 (i := 49) rfl rfl
theorem tw770 : (Cond.fieldLink "AsleepCotsModel" (79) "AsleepCotsModel" "faultAt" "I") ∈ tg := tg_4 (i := 50) rfl rfl
theorem tw771 : (Cond.fieldLink "AsleepCotsModel" (38) "AsleepCotsModel" "hears" "[Z") ∈ tg := tg_4 (i := 51) rfl rfl
theorem tw772 : (Cond.laysFinal "AsleepCotsModel" "AsleepCotsModel" "w" "[I") ∈ tg := tg_4 (i := 52) rfl rfl
theorem tw774 : (Cond.laysFinal "AsleepCotsModel" "AsleepCotsModel" "isKept" "[Z") ∈ tg := tg_4 (i := 54) rfl rfl
theorem tw776 : (Cond.laysFinal "AsleepCotsModel" "AsleepCotsModel" "acts" "[I") ∈ tg := tg_4 (i := 56) rfl rfl
theorem tw778 : (Cond.lays "AsleepCotsModel" "AsleepCotsModel" "acted" "I") ∈ tg := tg_4 (i := 58) rfl rfl
theorem tw780 : (Cond.laysFinal "AsleepCotsModel" "AsleepCotsModel" "rows" "[I") ∈ tg := tg_4 (i := 60) rfl rfl
theorem tw782 : (Cond.laysFinal "AsleepCotsModel" "AsleepCotsModel" "rowSize" "[I") ∈ tg := tg_4 (i := 62) rfl rfl
theorem tw784 : (Cond.laysFinal "AsleepCotsModel" "AsleepCotsModel" "rowLane" "[I") ∈ tg := tg_4 (i := 64) rfl rfl
theorem tw786 : (Cond.lays "AsleepCotsModel" "AsleepCotsModel" "status" "I") ∈ tg := tg_4 (i := 66) rfl rfl
theorem tw788 : (Cond.laysFinal "AsleepCotsModel" "AsleepCotsModel" "tape" "[I") ∈ tg := tg_4 (i := 68) rfl rfl
theorem tw790 : (Cond.lays "AsleepCotsModel" "AsleepCotsModel" "taped" "I") ∈ tg := tg_4 (i := 70) rfl rfl
theorem tw792 : (Cond.lays "AsleepCotsModel" "AsleepCotsModel" "faulty" "I") ∈ tg := tg_4 (i := 72) rfl rfl
theorem tw794 : (Cond.laysFinal "AsleepCotsModel" "AsleepCotsModel" "trace" "[I") ∈ tg := tg_4 (i := 74) rfl rfl
theorem tw796 : (Cond.lays "AsleepCotsModel" "AsleepCotsModel" "traced" "I") ∈ tg := tg_4 (i := 76) rfl rfl
theorem tw798 : (Cond.laysFinal "AsleepCotsModel" "AsleepCotsModel" "held" "[I") ∈ tg := tg_4 (i := 78) rfl rfl
theorem tw800 : (Cond.lays "AsleepCotsModel" "AsleepCotsModel" "at" "I") ∈ tg := tg_4 (i := 80) rfl rfl
theorem tw802 : (Cond.lays "AsleepCotsModel" "AsleepCotsModel" "number" "I") ∈ tg := tg_4 (i := 82) rfl rfl
theorem tw804 : (Cond.lays "AsleepCotsModel" "AsleepCotsModel" "faultAt" "I") ∈ tg := tg_4 (i := 84) rfl rfl
theorem tw806 : (Cond.laysFinal "AsleepCotsModel" "AsleepCotsModel" "hears" "[Z") ∈ tg := tg_4 (i := 86) rfl rfl
theorem tw809 : (Cond.arrayClass FieldType.boolean) ∈ tg := tg_4 (i := 89) rfl rfl
theorem tw810 : (Cond.methodLink "AsleepCotsLaw" (17) yX7_row) ∈ tg := tg_4 (i := 90) rfl rfl
theorem tw811 : (Cond.instanceMethod yX7_row) ∈ tg := tg_4 (i := 91) rfl rfl
theorem tw812 : (Cond.selects "AsleepCotsModel" yX7_row yX7_row) ∈ tg := tg_4 (i := 92) rfl rfl
theorem tw813 : (Cond.code yX7_row prog_9_method_9_code (5) (some FieldType.int)) ∈ tg := tg_4 (i := 93) rfl rfl
theorem tw814 : (Cond.methodLink "AsleepCotsModel" (52) yX7_isRow) ∈ tg := tg_4 (i := 94) rfl rfl
theorem tw815 : (Cond.static yX7_isRow) ∈ tg := tg_4 (i := 95) rfl rfl
theorem tw816 : (Cond.code yX7_isRow prog_9_method_8_code (1) (some FieldType.boolean)) ∈ tg := tg_4 (i := 96) rfl rfl
theorem tw817 : (Cond.constantLong "AsleepCotsModel" (46) (7)) ∈ tg := tg_4 (i := 97) rfl rfl
theorem tw818 : (Cond.methodLink "AsleepCotsModel" (48) yX7_in) ∈ tg := tg_4 (i := 98) rfl rfl
theorem tw819 : (Cond.static yX7_in) ∈ tg := tg_4 (i := 99) rfl rfl
theorem tw820 : (Cond.code yX7_in prog_9_method_3_code (6) (some FieldType.boolean)) ∈ tg := tg_4 (i := 100) rfl rfl
theorem tw821 : (Cond.constantLong "AsleepCotsModel" (56) (2)) ∈ tg := tg_4 (i := 101) rfl rfl
theorem tw822 : (Cond.constant "AsleepCotsModel" (58) (-1000001)) ∈ tg := tg_4 (i := 102) rfl rfl
theorem tw823 : (Cond.methodLink "AsleepCotsModel" (59) yX7_found) ∈ tg := tg_4 (i := 103) rfl rfl
theorem tw825 : (Cond.instanceMethod yX7_found) ∈ tg := tg_4 (i := 105) rfl rfl
theorem tw826 : (Cond.code yX7_found prog_9_method_6_code (2) (some FieldType.int)) ∈ tg := tg_4 (i := 106) rfl rfl
theorem tw827 : (Cond.constant "AsleepCotsModel" (45) (-1000010)) ∈ tg := tg_4 (i := 107) rfl rfl
theorem tw828 : (Cond.methodLink "AsleepCotsModel" (63) yX7_good) ∈ tg := tg_4 (i := 108) rfl rfl
theorem tw830 : (Cond.instanceMethod yX7_good) ∈ tg := tg_4 (i := 110) rfl rfl
theorem tw831 : (Cond.code yX7_good prog_9_method_7_code (2) (some FieldType.int)) ∈ tg := tg_4 (i := 111) rfl rfl
theorem tw832 : (Cond.methodLink "AsleepCotsLaw" (21) yX7_set) ∈ tg := tg_4 (i := 112) rfl rfl
theorem tw833 : (Cond.instanceMethod yX7_set) ∈ tg := tg_4 (i := 113) rfl rfl
theorem tw834 : (Cond.selects "AsleepCotsModel" yX7_set yX7_set) ∈ tg := tg_4 (i := 114) rfl rfl
theorem tw835 : (Cond.code yX7_set prog_9_method_10_code (4) (some FieldType.int)) ∈ tg := tg_4 (i := 115) rfl rfl
theorem tw836 : (Cond.methodLink "AsleepCotsLaw" (26) yX7_copy) ∈ tg := tg_4 (i := 116) rfl rfl
theorem tw837 : (Cond.instanceMethod yX7_copy) ∈ tg := tg_4 (i := 117) rfl rfl
theorem tw838 : (Cond.selects "AsleepCotsModel" yX7_copy yX7_copy) ∈ tg := tg_4 (i := 118) rfl rfl
theorem tw839 : (Cond.code yX7_copy prog_9_method_12_code (7) (some FieldType.int)) ∈ tg := tg_4 (i := 119) rfl rfl
theorem tw840 : (Cond.methodLink "AsleepCotsModel" (66) yX7_fits) ∈ tg := tg_4 (i := 120) rfl rfl
theorem tw841 : (Cond.static yX7_fits) ∈ tg := tg_4 (i := 121) rfl rfl
theorem tw842 : (Cond.code yX7_fits prog_9_method_11_code (3) (some FieldType.boolean)) ∈ tg := tg_4 (i := 122) rfl rfl
theorem tw843 : (Cond.methodLink "AsleepCotsLaw" (31) yX7_drop) ∈ tg := tg_4 (i := 123) rfl rfl
theorem tw844 : (Cond.instanceMethod yX7_drop) ∈ tg := tg_4 (i := 124) rfl rfl
theorem tw845 : (Cond.selects "AsleepCotsModel" yX7_drop yX7_drop) ∈ tg := tg_4 (i := 125) rfl rfl
theorem tw846 : (Cond.code yX7_drop prog_9_method_13_code (3) (some FieldType.int)) ∈ tg := tg_4 (i := 126) rfl rfl
theorem tw847 : (Cond.methodLink "AsleepCotsLaw" (35) yX7_feed) ∈ tg := tg_4 (i := 127) rfl rfl
theorem tw848 : (Cond.instanceMethod yX7_feed) ∈ tg := tg_4 (i := 128) rfl rfl
theorem tw849 : (Cond.selects "AsleepCotsModel" yX7_feed yX7_feed) ∈ tg := tg_4 (i := 129) rfl rfl
theorem tw850 : (Cond.code yX7_feed prog_9_method_15_code (2) (some FieldType.int)) ∈ tg := tg_4 (i := 130) rfl rfl
theorem tw851 : (Cond.constantLong "AsleepCotsModel" (70) (255)) ∈ tg := tg_4 (i := 131) rfl rfl
theorem tw852 : (Cond.constant "AsleepCotsModel" (75) (-1000003)) ∈ tg := tg_4 (i := 132) rfl rfl
theorem tw853 : (Cond.methodLink "AsleepCotsLaw" (40) yX7_room) ∈ tg := tg_4 (i := 133) rfl rfl
theorem tw854 : (Cond.instanceMethod yX7_room) ∈ tg := tg_4 (i := 134) rfl rfl
theorem tw855 : (Cond.selects "AsleepCotsModel" yX7_room yX7_room) ∈ tg := tg_4 (i := 135) rfl rfl
theorem tw856 : (Cond.code yX7_room prog_9_method_24_code (2) (some FieldType.int)) ∈ tg := tg_4 (i := 136) rfl rfl
theorem tw857 : (Cond.methodLink "AsleepCotsModel" (108) yX7_takesLaw) ∈ tg := tg_4 (i := 137) rfl rfl
theorem tw859 : (Cond.instanceMethod yX7_takesLaw) ∈ tg := tg_4 (i := 139) rfl rfl
theorem tw860 : (Cond.code yX7_takesLaw prog_9_method_20_code (2) (some FieldType.boolean)) ∈ tg := tg_4 (i := 140) rfl rfl
theorem tw861 : (Cond.methodLink "AsleepCotsModel" (99) yX7_takes) ∈ tg := tg_4 (i := 141) rfl rfl
theorem tw863 : (Cond.instanceMethod yX7_takes) ∈ tg := tg_4 (i := 143) rfl rfl
theorem tw864 : (Cond.code yX7_takes prog_9_method_18_code (2) (some FieldType.boolean)) ∈ tg := tg_4 (i := 144) rfl rfl
theorem tw865 : (Cond.methodLink "AsleepCotsModel" (85) yX7_byteAt) ∈ tg := tg_4 (i := 145) rfl rfl
theorem tw867 : (Cond.instanceMethod yX7_byteAt) ∈ tg := tg_4 (i := 147) rfl rfl
theorem tw868 : (Cond.code yX7_byteAt prog_9_method_16_code (2) (some FieldType.int)) ∈ tg := tg_4 (i := 148) rfl rfl
theorem tw869 : (Cond.methodLink "AsleepCotsModel" (88) yX7_fails) ∈ tg := tg_4 (i := 149) rfl rfl
theorem tw871 : (Cond.instanceMethod yX7_fails) ∈ tg := tg_4 (i := 151) rfl rfl
theorem tw872 : (Cond.code yX7_fails prog_9_method_17_code (3) (some FieldType.boolean)) ∈ tg := tg_4 (i := 152) rfl rfl
theorem tw873 : (Cond.methodLink "AsleepCotsModel" (102) yX7_takesNumber) ∈ tg := tg_4 (i := 153) rfl rfl
theorem tw875 : (Cond.instanceMethod yX7_takesNumber) ∈ tg := tg_4 (i := 155) rfl rfl
theorem tw876 : (Cond.code yX7_takesNumber prog_9_method_19_code (5) (some FieldType.boolean)) ∈ tg := tg_4 (i := 156) rfl rfl
theorem tw877 : (Cond.constantLong "AsleepCotsModel" (95) (48)) ∈ tg := tg_4 (i := 157) rfl rfl
theorem tw878 : (Cond.constantLong "AsleepCotsModel" (97) (57)) ∈ tg := tg_4 (i := 158) rfl rfl
theorem tw879 : (Cond.methodLink "AsleepCotsModel" (112) yX7_takesChild) ∈ tg := tg_4 (i := 159) rfl rfl
theorem tw881 : (Cond.instanceMethod yX7_takesChild) ∈ tg := tg_4 (i := 161) rfl rfl
theorem tw882 : (Cond.code yX7_takesChild prog_9_method_22_code (3) (some FieldType.boolean)) ∈ tg := tg_4 (i := 162) rfl rfl
theorem tw883 : (Cond.methodLink "AsleepCotsModel" (105) yX7_kindOf) ∈ tg := tg_4 (i := 163) rfl rfl
theorem tw884 : (Cond.static yX7_kindOf) ∈ tg := tg_4 (i := 164) rfl rfl
theorem tw885 : (Cond.code yX7_kindOf prog_9_method_21_code (1) (some FieldType.int)) ∈ tg := tg_4 (i := 165) rfl rfl
theorem tw886 : (Cond.constant "AsleepCotsModel" (115) (-1000100)) ∈ tg := tg_4 (i := 166) rfl rfl
theorem tw887 : (Cond.methodLink "AsleepCotsModel" (116) yX7_copyAll) ∈ tg := tg_4 (i := 167) rfl rfl
theorem tw889 : (Cond.instanceMethod yX7_copyAll) ∈ tg := tg_4 (i := 169) rfl rfl
theorem tw890 : (Cond.code yX7_copyAll prog_9_method_23_code (4) (none : Option FieldType)) ∈ tg := tg_4 (i := 170) rfl rfl
theorem tw891 : (Cond.methodLink "AsleepCotsLaw" (44) yX7_fault) ∈ tg := tg_4 (i := 171) rfl rfl
theorem tw892 : (Cond.instanceMethod yX7_fault) ∈ tg := tg_4 (i := 172) rfl rfl
theorem tw893 : (Cond.selects "AsleepCotsModel" yX7_fault yX7_fault) ∈ tg := tg_4 (i := 173) rfl rfl
theorem tw894 : (Cond.code yX7_fault prog_9_method_25_code (1) (some FieldType.int)) ∈ tg := tg_4 (i := 174) rfl rfl
theorem tw895 : (Cond.methodLink "AsleepCotsLaw" (48) yX7_undo) ∈ tg := tg_4 (i := 175) rfl rfl
theorem tw896 : (Cond.instanceMethod yX7_undo) ∈ tg := tg_4 (i := 176) rfl rfl
theorem tw897 : (Cond.selects "AsleepCotsModel" yX7_undo yX7_undo) ∈ tg := tg_4 (i := 177) rfl rfl
theorem tw898 : (Cond.code yX7_undo prog_9_method_40_code (2) (some FieldType.int)) ∈ tg := tg_4 (i := 178) rfl rfl
theorem tw899 : (Cond.constant "AsleepCotsModel" (153) (-1000002)) ∈ tg := tg_4 (i := 179) rfl rfl
theorem tw900 : (Cond.methodLink "AsleepCotsLaw" (52) yX7_minutes) ∈ tg := tg_4 (i := 180) rfl rfl
theorem tw901 : (Cond.instanceMethod yX7_minutes) ∈ tg := tg_4 (i := 181) rfl rfl
theorem tw902 : (Cond.selects "AsleepCotsModel" yX7_minutes yX7_minutes) ∈ tg := tg_4 (i := 182) rfl rfl
theorem tw903 : (Cond.code yX7_minutes prog_9_method_41_code (3) (some FieldType.int)) ∈ tg := tg_4 (i := 183) rfl rfl
theorem tw904 : (Cond.methodLink "AsleepCotsModel" (154) yX7_isRoom) ∈ tg := tg_4 (i := 184) rfl rfl
theorem tw906 : (Cond.instanceMethod yX7_isRoom) ∈ tg := tg_4 (i := 186) rfl rfl
theorem tw907 : (Cond.code yX7_isRoom prog_9_method_26_code (1) (some FieldType.boolean)) ∈ tg := tg_4 (i := 187) rfl rfl
theorem tw908 : (Cond.constantLong "AsleepCotsModel" (157) (24)) ∈ tg := tg_4 (i := 188) rfl rfl
theorem tw909 : (Cond.methodLink "AsleepCotsModel" (159) yX7_minds) ∈ tg := tg_4 (i := 189) rfl rfl
theorem tw911 : (Cond.instanceMethod yX7_minds) ∈ tg := tg_4 (i := 191) rfl rfl
theorem tw912 : (Cond.code yX7_minds prog_9_method_39_code (2) (none : Option FieldType)) ∈ tg := tg_4 (i := 192) rfl rfl
theorem tw913 : (Cond.methodLink "AsleepCotsModel" (162) yX7_passes) ∈ tg := tg_4 (i := 193) rfl rfl
theorem tw915 : (Cond.instanceMethod yX7_passes) ∈ tg := tg_4 (i := 195) rfl rfl
theorem tw916 : (Cond.code yX7_passes prog_9_method_35_code (5) (none : Option FieldType)) ∈ tg := tg_4 (i := 196) rfl rfl
theorem tw917 : (Cond.methodLink "AsleepCotsModel" (133) yX7_noiseAt) ∈ tg := tg_4 (i := 197) rfl rfl
theorem tw919 : (Cond.instanceMethod yX7_noiseAt) ∈ tg := tg_4 (i := 199) rfl rfl
theorem tw920 : (Cond.code yX7_noiseAt prog_9_method_30_code (7) (some FieldType.int)) ∈ tg := tg_4 (i := 200) rfl rfl
theorem tw921 : (Cond.methodLink "AsleepCotsModel" (126) yX7_isOut) ∈ tg := tg_4 (i := 201) rfl rfl
theorem tw923 : (Cond.instanceMethod yX7_isOut) ∈ tg := tg_4 (i := 203) rfl rfl
theorem tw924 : (Cond.code yX7_isOut prog_9_method_29_code (3) (some FieldType.boolean)) ∈ tg := tg_4 (i := 204) rfl rfl
theorem tw925 : (Cond.methodLink "AsleepCotsModel" (123) yX7_has) ∈ tg := tg_4 (i := 205) rfl rfl
theorem tw926 : (Cond.static yX7_has) ∈ tg := tg_4 (i := 206) rfl rfl
theorem tw927 : (Cond.code yX7_has prog_9_method_4_code (2) (some FieldType.boolean)) ∈ tg := tg_4 (i := 207) rfl rfl
theorem tw928 : (Cond.methodLink "AsleepCotsModel" (129) yX7_off) ∈ tg := tg_4 (i := 208) rfl rfl
theorem tw929 : (Cond.static yX7_off) ∈ tg := tg_4 (i := 209) rfl rfl
theorem tw930 : (Cond.code yX7_off prog_9_method_28_code (2) (some FieldType.int)) ∈ tg := tg_4 (i := 210) rfl rfl
theorem tw931 : (Cond.methodLink "AsleepCotsModel" (136) yX7_bears) ∈ tg := tg_4 (i := 211) rfl rfl
theorem tw933 : (Cond.instanceMethod yX7_bears) ∈ tg := tg_4 (i := 213) rfl rfl
theorem tw934 : (Cond.code yX7_bears prog_9_method_31_code (3) (some FieldType.int)) ∈ tg := tg_4 (i := 214) rfl rfl
theorem tw935 : (Cond.methodLink "AsleepCotsModel" (139) yX7_weepsOn) ∈ tg := tg_4 (i := 215) rfl rfl
theorem tw937 : (Cond.instanceMethod yX7_weepsOn) ∈ tg := tg_4 (i := 217) rfl rfl
theorem tw938 : (Cond.code yX7_weepsOn prog_9_method_33_code (4) (none : Option FieldType)) ∈ tg := tg_4 (i := 218) rfl rfl
theorem tw939 : (Cond.methodLink "AsleepCotsModel" (143) yX7_liesOn) ∈ tg := tg_4 (i := 219) rfl rfl
theorem tw941 : (Cond.instanceMethod yX7_liesOn) ∈ tg := tg_4 (i := 221) rfl rfl
theorem tw942 : (Cond.code yX7_liesOn prog_9_method_34_code (6) (none : Option FieldType)) ∈ tg := tg_4 (i := 222) rfl rfl
theorem tw943 : (Cond.methodLink "AsleepCotsModel" (147) yX7_wakesUp) ∈ tg := tg_4 (i := 223) rfl rfl
theorem tw945 : (Cond.instanceMethod yX7_wakesUp) ∈ tg := tg_4 (i := 225) rfl rfl
theorem tw946 : (Cond.code yX7_wakesUp prog_9_method_32_code (4) (none : Option FieldType)) ∈ tg := tg_4 (i := 226) rfl rfl
theorem tw947 : (Cond.methodLink "AsleepCotsModel" (150) yX7_thoseWho) ∈ tg := tg_4 (i := 227) rfl rfl
theorem tw949 : (Cond.instanceMethod yX7_thoseWho) ∈ tg := tg_4 (i := 229) rfl rfl
theorem tw950 : (Cond.code yX7_thoseWho prog_9_method_37_code (5) (some FieldType.int)) ∈ tg := tg_4 (i := 230) rfl rfl
theorem tw951 : (Cond.methodLink "AsleepCotsLaw" (57) yX7_hand) ∈ tg := tg_4 (i := 231) rfl rfl
theorem tw952 : (Cond.instanceMethod yX7_hand) ∈ tg := tg_4 (i := 232) rfl rfl
theorem tw953 : (Cond.selects "AsleepCotsModel" yX7_hand yX7_hand) ∈ tg := tg_4 (i := 233) rfl rfl
theorem tw954 : (Cond.code yX7_hand prog_9_method_42_code (3) (some FieldType.int)) ∈ tg := tg_4 (i := 234) rfl rfl
theorem tw955 : (Cond.methodLink "AsleepCotsModel" (166) yX7_isChild) ∈ tg := tg_4 (i := 235) rfl rfl
theorem tw957 : (Cond.instanceMethod yX7_isChild) ∈ tg := tg_4 (i := 237) rfl rfl
theorem tw958 : (Cond.code yX7_isChild prog_9_method_27_code (2) (some FieldType.boolean)) ∈ tg := tg_4 (i := 238) rfl rfl
theorem tw959 : (Cond.methodLink "AsleepCotsModel" (169) yX7_ones) ∈ tg := tg_4 (i := 239) rfl rfl
theorem tw960 : (Cond.static yX7_ones) ∈ tg := tg_5 (i := 0) rfl rfl
theorem tw961 : (Cond.code yX7_ones prog_9_method_5_code (3) (some FieldType.int)) ∈ tg := tg_5 (i := 1) rfl rfl
theorem tw962 : (Cond.methodLink "AsleepCotsLaw" (61) yX7_carry) ∈ tg := tg_5 (i := 2) rfl rfl
theorem tw963 : (Cond.instanceMethod yX7_carry) ∈ tg := tg_5 (i := 3) rfl rfl
theorem tw964 : (Cond.selects "AsleepCotsModel" yX7_carry yX7_carry) ∈ tg := tg_5 (i := 4) rfl rfl
theorem tw965 : (Cond.code yX7_carry prog_9_method_43_code (3) (some FieldType.int)) ∈ tg := tg_5 (i := 5) rfl rfl
theorem tw966 : (Cond.methodLink "AsleepCotsLaw" (65) yX7_change) ∈ tg := tg_5 (i := 6) rfl rfl
theorem tw967 : (Cond.instanceMethod yX7_change) ∈ tg := tg_5 (i := 7) rfl rfl
theorem tw968 : (Cond.selects "AsleepCotsModel" yX7_change yX7_change) ∈ tg := tg_5 (i := 8) rfl rfl
theorem tw969 : (Cond.code yX7_change prog_9_method_45_code (3) (some FieldType.int)) ∈ tg := tg_5 (i := 9) rfl rfl
theorem tw970 : (Cond.methodLink "AsleepCotsModel" (172) yX7_swaps) ∈ tg := tg_5 (i := 10) rfl rfl
theorem tw972 : (Cond.instanceMethod yX7_swaps) ∈ tg := tg_5 (i := 12) rfl rfl
theorem tw973 : (Cond.code yX7_swaps prog_9_method_44_code (5) (none : Option FieldType)) ∈ tg := tg_5 (i := 13) rfl rfl
theorem tw974 : (Cond.methodLink "AsleepCotsLaw" (69) yX7_lorry) ∈ tg := tg_5 (i := 14) rfl rfl
theorem tw975 : (Cond.instanceMethod yX7_lorry) ∈ tg := tg_5 (i := 15) rfl rfl
theorem tw976 : (Cond.selects "AsleepCotsModel" yX7_lorry yX7_lorry) ∈ tg := tg_5 (i := 16) rfl rfl
theorem tw977 : (Cond.code yX7_lorry prog_9_method_46_code (2) (some FieldType.int)) ∈ tg := tg_5 (i := 17) rfl rfl
theorem tw978 : (Cond.constantLong "AsleepCotsModel" (175) (99)) ∈ tg := tg_5 (i := 18) rfl rfl
theorem tw979 : (Cond.methodLink "AsleepCotsModel" (177) yX7_rolls) ∈ tg := tg_5 (i := 19) rfl rfl
theorem tw981 : (Cond.instanceMethod yX7_rolls) ∈ tg := tg_5 (i := 21) rfl rfl
theorem tw982 : (Cond.code yX7_rolls prog_9_method_36_code (5) (some FieldType.int)) ∈ tg := tg_5 (i := 22) rfl rfl
theorem tw983 : (Cond.methodLink "AsleepCotsLaw" (73) yX7_need) ∈ tg := tg_5 (i := 23) rfl rfl
theorem tw984 : (Cond.instanceMethod yX7_need) ∈ tg := tg_5 (i := 24) rfl rfl
theorem tw985 : (Cond.selects "AsleepCotsModel" yX7_need yX7_need) ∈ tg := tg_5 (i := 25) rfl rfl
theorem tw986 : (Cond.code yX7_need prog_9_method_47_code (4) (some FieldType.int)) ∈ tg := tg_5 (i := 26) rfl rfl
theorem tw987 : (Cond.constantLong "AsleepCotsModel" (180) (9)) ∈ tg := tg_5 (i := 27) rfl rfl
theorem tw988 : (Cond.methodLink "AsleepCotsLaw" (77) yX7_child) ∈ tg := tg_5 (i := 28) rfl rfl
theorem tw989 : (Cond.instanceMethod yX7_child) ∈ tg := tg_5 (i := 29) rfl rfl
theorem tw990 : (Cond.selects "AsleepCotsModel" yX7_child yX7_child) ∈ tg := tg_5 (i := 30) rfl rfl
theorem tw991 : (Cond.code yX7_child prog_9_method_48_code (3) (some FieldType.int)) ∈ tg := tg_5 (i := 31) rfl rfl
theorem tw992 : (Cond.methodLink "AsleepCotsLaw" (81) yX7_stand) ∈ tg := tg_5 (i := 32) rfl rfl
theorem tw993 : (Cond.instanceMethod yX7_stand) ∈ tg := tg_5 (i := 33) rfl rfl
theorem tw994 : (Cond.selects "AsleepCotsModel" yX7_stand yX7_stand) ∈ tg := tg_5 (i := 34) rfl rfl
theorem tw995 : (Cond.code yX7_stand prog_9_method_49_code (2) (some FieldType.int)) ∈ tg := tg_5 (i := 35) rfl rfl
theorem tw996 : (Cond.methodLink "AsleepCotsLaw" (85) yX7_ahead) ∈ tg := tg_5 (i := 36) rfl rfl
theorem tw997 : (Cond.instanceMethod yX7_ahead) ∈ tg := tg_5 (i := 37) rfl rfl
theorem tw998 : (Cond.selects "AsleepCotsModel" yX7_ahead yX7_ahead) ∈ tg := tg_5 (i := 38) rfl rfl
theorem tw999 : (Cond.code yX7_ahead prog_9_method_53_code (3) (some FieldType.int)) ∈ tg := tg_5 (i := 39) rfl rfl
theorem tw1000 : (Cond.methodLink "AsleepCotsModel" (184) yX7_isSpan) ∈ tg := tg_5 (i := 40) rfl rfl
theorem tw1001 : (Cond.static yX7_isSpan) ∈ tg := tg_5 (i := 41) rfl rfl
theorem tw1002 : (Cond.code yX7_isSpan prog_9_method_50_code (2) (some FieldType.boolean)) ∈ tg := tg_5 (i := 42) rfl rfl
theorem tw1003 : (Cond.constantLong "AsleepCotsModel" (182) (60)) ∈ tg := tg_5 (i := 43) rfl rfl
theorem tw1004 : (Cond.methodLink "AsleepCotsModel" (187) yX7_tries) ∈ tg := tg_5 (i := 44) rfl rfl
theorem tw1006 : (Cond.instanceMethod yX7_tries) ∈ tg := tg_5 (i := 46) rfl rfl
theorem tw1007 : (Cond.code yX7_tries prog_9_method_51_code (1) (none : Option FieldType)) ∈ tg := tg_5 (i := 47) rfl rfl
theorem tw1008 : (Cond.methodLink "AsleepCotsModel" (190) yX7_goesOn) ∈ tg := tg_5 (i := 48) rfl rfl
theorem tw1010 : (Cond.instanceMethod yX7_goesOn) ∈ tg := tg_5 (i := 50) rfl rfl
theorem tw1011 : (Cond.code yX7_goesOn prog_9_method_52_code (3) (none : Option FieldType)) ∈ tg := tg_5 (i := 51) rfl rfl
theorem tw1012 : (Cond.methodLink "AsleepCotsLaw" (89) yX7_noise) ∈ tg := tg_5 (i := 52) rfl rfl
theorem tw1013 : (Cond.instanceMethod yX7_noise) ∈ tg := tg_5 (i := 53) rfl rfl
theorem tw1014 : (Cond.selects "AsleepCotsModel" yX7_noise yX7_noise) ∈ tg := tg_5 (i := 54) rfl rfl
theorem tw1015 : (Cond.code yX7_noise prog_9_method_54_code (3) (some FieldType.int)) ∈ tg := tg_5 (i := 55) rfl rfl
theorem tw1016 : (Cond.methodLink "AsleepCotsLaw" (93) yX7_asleep) ∈ tg := tg_5 (i := 56) rfl rfl
theorem tw1017 : (Cond.instanceMethod yX7_asleep) ∈ tg := tg_5 (i := 57) rfl rfl
theorem tw1018 : (Cond.selects "AsleepCotsModel" yX7_asleep yX7_asleep) ∈ tg := tg_5 (i := 58) rfl rfl
theorem tw1019 : (Cond.code yX7_asleep prog_9_method_55_code (3) (some FieldType.int)) ∈ tg := tg_5 (i := 59) rfl rfl
theorem tw1020 : (Cond.constant "AsleepCotsModel" (193) (-1000000)) ∈ tg := tg_5 (i := 60) rfl rfl
theorem tw1021 : (Cond.methodLink "AsleepCotsLaw" (97) yX7_allAsleep) ∈ tg := tg_5 (i := 61) rfl rfl
theorem tw1022 : (Cond.instanceMethod yX7_allAsleep) ∈ tg := tg_5 (i := 62) rfl rfl
theorem tw1023 : (Cond.selects "AsleepCotsModel" yX7_allAsleep yX7_allAsleep) ∈ tg := tg_5 (i := 63) rfl rfl
theorem tw1024 : (Cond.code yX7_allAsleep prog_9_method_56_code (2) (some FieldType.int)) ∈ tg := tg_5 (i := 64) rfl rfl
theorem tw1025 : (Cond.methodLink "AsleepCotsModel" (194) yX7_allSleep) ∈ tg := tg_5 (i := 65) rfl rfl
theorem tw1027 : (Cond.instanceMethod yX7_allSleep) ∈ tg := tg_5 (i := 67) rfl rfl
theorem tw1028 : (Cond.code yX7_allSleep prog_9_method_38_code (2) (some FieldType.boolean)) ∈ tg := tg_5 (i := 68) rfl rfl
theorem tw1029 : (Cond.methodLink "AsleepCotsLaw" (101) yX7_dinner) ∈ tg := tg_5 (i := 69) rfl rfl
theorem tw1030 : (Cond.instanceMethod yX7_dinner) ∈ tg := tg_5 (i := 70) rfl rfl
theorem tw1031 : (Cond.selects "AsleepCotsModel" yX7_dinner yX7_dinner) ∈ tg := tg_5 (i := 71) rfl rfl
theorem tw1032 : (Cond.code yX7_dinner prog_9_method_57_code (5) (some FieldType.int)) ∈ tg := tg_5 (i := 72) rfl rfl
theorem tw1033 : (Cond.methodLink "AsleepCotsLaw" (105) yX7_hands) ∈ tg := tg_5 (i := 73) rfl rfl
theorem tw1034 : (Cond.instanceMethod yX7_hands) ∈ tg := tg_5 (i := 74) rfl rfl
theorem tw1035 : (Cond.selects "AsleepCotsModel" yX7_hands yX7_hands) ∈ tg := tg_5 (i := 75) rfl rfl
theorem tw1036 : (Cond.code yX7_hands prog_9_method_59_code (8) (some FieldType.int)) ∈ tg := tg_5 (i := 76) rfl rfl
theorem tw1037 : (Cond.methodLink "AsleepCotsModel" (199) yX7_isLook) ∈ tg := tg_5 (i := 77) rfl rfl
theorem tw1039 : (Cond.instanceMethod yX7_isLook) ∈ tg := tg_5 (i := 79) rfl rfl
theorem tw1040 : (Cond.code yX7_isLook prog_9_method_58_code (3) (some FieldType.boolean)) ∈ tg := tg_5 (i := 80) rfl rfl
theorem tw1041 : (Cond.constantLong "AsleepCotsModel" (197) (30)) ∈ tg := tg_5 (i := 81) rfl rfl
theorem tw1042 : (Cond.methodLink "AsleepCotsLaw" (109) yX7_outs) ∈ tg := tg_5 (i := 82) rfl rfl
theorem tw1043 : (Cond.instanceMethod yX7_outs) ∈ tg := tg_5 (i := 83) rfl rfl
theorem tw1044 : (Cond.selects "AsleepCotsModel" yX7_outs yX7_outs) ∈ tg := tg_5 (i := 84) rfl rfl
theorem tw1045 : (Cond.code yX7_outs prog_9_method_60_code (5) (some FieldType.int)) ∈ tg := tg_5 (i := 85) rfl rfl
theorem tw1046 : (Cond.methodLink "AsleepCotsLaw" (113) yX7_best) ∈ tg := tg_5 (i := 86) rfl rfl
theorem tw1047 : (Cond.instanceMethod yX7_best) ∈ tg := tg_5 (i := 87) rfl rfl
theorem tw1048 : (Cond.selects "AsleepCotsModel" yX7_best yX7_best) ∈ tg := tg_5 (i := 88) rfl rfl
theorem tw1049 : (Cond.code yX7_best prog_9_method_61_code (8) (some FieldType.int)) ∈ tg := tg_5 (i := 89) rfl rfl
theorem tw1050 : (Cond.methodLink "AsleepCotsLaw" (117) yX7_silence) ∈ tg := tg_5 (i := 90) rfl rfl
theorem tw1051 : (Cond.instanceMethod yX7_silence) ∈ tg := tg_5 (i := 91) rfl rfl
theorem tw1052 : (Cond.selects "AsleepCotsModel" yX7_silence yX7_silence) ∈ tg := tg_5 (i := 92) rfl rfl
theorem tw1053 : (Cond.code yX7_silence prog_9_method_62_code (4) (some FieldType.int)) ∈ tg := tg_5 (i := 93) rfl rfl
theorem tw1054 : (Cond.methodLink "AsleepCotsLaw" (121) yX7_wakes) ∈ tg := tg_5 (i := 94) rfl rfl
theorem tw1055 : (Cond.instanceMethod yX7_wakes) ∈ tg := tg_5 (i := 95) rfl rfl
theorem tw1056 : (Cond.selects "AsleepCotsModel" yX7_wakes yX7_wakes) ∈ tg := tg_5 (i := 96) rfl rfl
theorem tw1057 : (Cond.code yX7_wakes prog_9_method_63_code (3) (some FieldType.int)) ∈ tg := tg_5 (i := 97) rfl rfl
theorem tw1058 : (Cond.methodLink "AsleepCotsLaw" (125) yX7_loudest) ∈ tg := tg_5 (i := 98) rfl rfl
theorem tw1059 : (Cond.instanceMethod yX7_loudest) ∈ tg := tg_5 (i := 99) rfl rfl
theorem tw1060 : (Cond.selects "AsleepCotsModel" yX7_loudest yX7_loudest) ∈ tg := tg_5 (i := 100) rfl rfl
theorem tw1061 : (Cond.code yX7_loudest prog_9_method_64_code (3) (some FieldType.int)) ∈ tg := tg_5 (i := 101) rfl rfl
theorem tw1062 : (Cond.methodLink "AsleepCotsLaw" (129) yX7_who) ∈ tg := tg_5 (i := 102) rfl rfl
theorem tw1063 : (Cond.instanceMethod yX7_who) ∈ tg := tg_5 (i := 103) rfl rfl
theorem tw1064 : (Cond.selects "AsleepCotsModel" yX7_who yX7_who) ∈ tg := tg_5 (i := 104) rfl rfl
theorem tw1065 : (Cond.code yX7_who prog_9_method_66_code (10) (some FieldType.int)) ∈ tg := tg_5 (i := 105) rfl rfl
theorem tw1066 : (Cond.constantLong "AsleepCotsModel" (202) (3)) ∈ tg := tg_5 (i := 106) rfl rfl
theorem tw1067 : (Cond.constantLong "AsleepCotsModel" (204) (12)) ∈ tg := tg_5 (i := 107) rfl rfl
theorem tw1068 : (Cond.methodLink "AsleepCotsModel" (206) yX7_against) ∈ tg := tg_5 (i := 108) rfl rfl
theorem tw1070 : (Cond.instanceMethod yX7_against) ∈ tg := tg_5 (i := 110) rfl rfl
theorem tw1071 : (Cond.code yX7_against prog_9_method_14_code (4) (some FieldType.int)) ∈ tg := tg_5 (i := 111) rfl rfl
theorem tw1072 : (Cond.methodLink "AsleepCotsModel" (210) yX7_isSo) ∈ tg := tg_5 (i := 112) rfl rfl
theorem tw1074 : (Cond.instanceMethod yX7_isSo) ∈ tg := tg_5 (i := 114) rfl rfl
theorem tw1075 : (Cond.code yX7_isSo prog_9_method_65_code (5) (some FieldType.boolean)) ∈ tg := tg_5 (i := 115) rfl rfl
theorem tw1076 : (Cond.methodLink "AsleepCotsLaw" (133) yX7_held) ∈ tg := tg_5 (i := 116) rfl rfl
theorem tw1077 : (Cond.instanceMethod yX7_held) ∈ tg := tg_5 (i := 117) rfl rfl
theorem tw1078 : (Cond.selects "AsleepCotsModel" yX7_held yX7_held) ∈ tg := tg_5 (i := 118) rfl rfl
theorem tw1079 : (Cond.code yX7_held prog_9_method_67_code (7) (some FieldType.int)) ∈ tg := tg_5 (i := 119) rfl rfl
theorem tw1080 : (Cond.methodLink "AsleepCotsLaw" (138) yX7_lorries) ∈ tg := tg_5 (i := 120) rfl rfl
theorem tw1081 : (Cond.instanceMethod yX7_lorries) ∈ tg := tg_5 (i := 121) rfl rfl
theorem tw1082 : (Cond.selects "AsleepCotsModel" yX7_lorries yX7_lorries) ∈ tg := tg_5 (i := 122) rfl rfl
theorem tw1083 : (Cond.code yX7_lorries prog_9_method_68_code (15) (some FieldType.long)) ∈ tg := tg_5 (i := 123) rfl rfl
theorem tw1084 : (Cond.constantLong "AsleepCotsModel" (213) (-1000002)) ∈ tg := tg_5 (i := 124) rfl rfl
theorem tw1085 : (Cond.constantLong "AsleepCotsModel" (215) (8)) ∈ tg := tg_5 (i := 125) rfl rfl
theorem tw1086 : (Cond.constantLong "AsleepCotsModel" (217) (10)) ∈ tg := tg_5 (i := 126) rfl rfl
theorem tw1087 : (Cond.constantLong "AsleepCotsModel" (219) (-1000001)) ∈ tg := tg_5 (i := 127) rfl rfl
theorem tw1088 : (Cond.methodLink "AsleepCotsLaw" (142) yX7_drawn) ∈ tg := tg_5 (i := 128) rfl rfl
theorem tw1089 : (Cond.instanceMethod yX7_drawn) ∈ tg := tg_5 (i := 129) rfl rfl
theorem tw1090 : (Cond.selects "AsleepCotsModel" yX7_drawn yX7_drawn) ∈ tg := tg_5 (i := 130) rfl rfl
theorem tw1091 : (Cond.code yX7_drawn prog_9_method_69_code (8) (some FieldType.int)) ∈ tg := tg_5 (i := 131) rfl rfl
theorem tw1092 : (Cond.constantLong "AsleepCotsModel" (221) (999999)) ∈ tg := tg_5 (i := 132) rfl rfl
theorem tw1093 : (Cond.constantLong "AsleepCotsModel" (223) (16807)) ∈ tg := tg_5 (i := 133) rfl rfl
theorem tw1094 : (Cond.constantLong "AsleepCotsModel" (225) (2147483647)) ∈ tg := tg_5 (i := 134) rfl rfl
theorem tw1095 : (Cond.constantLong "AsleepCotsModel" (227) (6)) ∈ tg := tg_5 (i := 135) rfl rfl
theorem tw1096 : (Cond.constantLong "AsleepCotsModel" (229) (20)) ∈ tg := tg_5 (i := 136) rfl rfl
theorem tw1097 : (Cond.methodLink "AsleepCotsLaw" (146) yX7_image) ∈ tg := tg_5 (i := 137) rfl rfl
theorem tw1098 : (Cond.instanceMethod yX7_image) ∈ tg := tg_5 (i := 138) rfl rfl
theorem tw1099 : (Cond.selects "AsleepCotsModel" yX7_image yX7_image) ∈ tg := tg_5 (i := 139) rfl rfl
theorem tw1100 : (Cond.code yX7_image prog_9_method_70_code (2) (some FieldType.int)) ∈ tg := tg_5 (i := 140) rfl rfl
theorem tw1101 : (Cond.methodLink "AsleepCotsLaw" (150) yX7_restore) ∈ tg := tg_5 (i := 141) rfl rfl
theorem tw1102 : (Cond.instanceMethod yX7_restore) ∈ tg := tg_5 (i := 142) rfl rfl
theorem tw1103 : (Cond.selects "AsleepCotsModel" yX7_restore yX7_restore) ∈ tg := tg_5 (i := 143) rfl rfl
theorem tw1104 : (Cond.code yX7_restore prog_9_method_71_code (2) (some FieldType.int)) ∈ tg := tg_5 (i := 144) rfl rfl
theorem tw1105 : (Cond.methodLink "AsleepCotsLaw" (154) yX7_kind) ∈ tg := tg_5 (i := 145) rfl rfl
theorem tw1106 : (Cond.instanceMethod yX7_kind) ∈ tg := tg_5 (i := 146) rfl rfl
theorem tw1107 : (Cond.selects "AsleepCotsModel" yX7_kind yX7_kind) ∈ tg := tg_5 (i := 147) rfl rfl
theorem tw1108 : (Cond.code yX7_kind prog_9_method_72_code (2) (some FieldType.int)) ∈ tg := tg_5 (i := 148) rfl rfl
theorem tw1109 : (Cond.methodLink "AsleepCotsLaw" (158) yX7_as) ∈ tg := tg_5 (i := 149) rfl rfl
theorem tw1110 : (Cond.instanceMethod yX7_as) ∈ tg := tg_5 (i := 150) rfl rfl
theorem tw1111 : (Cond.selects "AsleepCotsModel" yX7_as yX7_as) ∈ tg := tg_5 (i := 151) rfl rfl
theorem tw1112 : (Cond.code yX7_as prog_9_method_73_code (5) (some FieldType.int)) ∈ tg := tg_5 (i := 152) rfl rfl
theorem tw1113 : (Cond.constantLong "AsleepCotsModel" (231) (5)) ∈ tg := tg_5 (i := 153) rfl rfl
theorem tw1114 : (Cond.methodLink "AsleepCotsLaw" (162) yX7_ask) ∈ tg := tg_5 (i := 154) rfl rfl
theorem tw1115 : (Cond.instanceMethod yX7_ask) ∈ tg := tg_5 (i := 155) rfl rfl
theorem tw1116 : (Cond.selects "AsleepCotsModel" yX7_ask yX7_ask) ∈ tg := tg_5 (i := 156) rfl rfl
theorem tw1117 : (Cond.code yX7_ask prog_9_method_81_code (3) (some FieldType.int)) ∈ tg := tg_5 (i := 157) rfl rfl
theorem tw1118 : (Cond.methodLink "AsleepCotsModel" (255) yX7_size) ∈ tg := tg_5 (i := 158) rfl rfl
theorem tw1120 : (Cond.instanceMethod yX7_size) ∈ tg := tg_5 (i := 160) rfl rfl
theorem tw1121 : (Cond.code yX7_size prog_9_method_80_code (3) (some FieldType.int)) ∈ tg := tg_5 (i := 161) rfl rfl
theorem tw1122 : (Cond.methodLink "AsleepCotsModel" (236) yX7_begins) ∈ tg := tg_5 (i := 162) rfl rfl
theorem tw1124 : (Cond.instanceMethod yX7_begins) ∈ tg := tg_5 (i := 164) rfl rfl
theorem tw1125 : (Cond.code yX7_begins prog_9_method_74_code (2) (none : Option FieldType)) ∈ tg := tg_5 (i := 165) rfl rfl
theorem tw1126 : (Cond.methodLink "AsleepCotsModel" (252) yX7_sizePlain) ∈ tg := tg_5 (i := 166) rfl rfl
theorem tw1128 : (Cond.instanceMethod yX7_sizePlain) ∈ tg := tg_5 (i := 168) rfl rfl
theorem tw1129 : (Cond.code yX7_sizePlain prog_9_method_79_code (2) (some FieldType.int)) ∈ tg := tg_5 (i := 169) rfl rfl
theorem tw1130 : (Cond.methodLink "AsleepCotsModel" (249) yX7_mark) ∈ tg := tg_5 (i := 170) rfl rfl
theorem tw1132 : (Cond.instanceMethod yX7_mark) ∈ tg := tg_5 (i := 172) rfl rfl
theorem tw1133 : (Cond.code yX7_mark prog_9_method_78_code (3) (some FieldType.int)) ∈ tg := tg_5 (i := 173) rfl rfl
theorem tw1134 : (Cond.methodLink "AsleepCotsModel" (242) yX7_markPlain) ∈ tg := tg_5 (i := 174) rfl rfl
theorem tw1136 : (Cond.instanceMethod yX7_markPlain) ∈ tg := tg_5 (i := 176) rfl rfl
theorem tw1137 : (Cond.code yX7_markPlain prog_9_method_76_code (2) (some FieldType.int)) ∈ tg := tg_5 (i := 177) rfl rfl
theorem tw1138 : (Cond.methodLink "AsleepCotsModel" (239) yX7_markLent) ∈ tg := tg_5 (i := 178) rfl rfl
theorem tw1140 : (Cond.instanceMethod yX7_markLent) ∈ tg := tg_5 (i := 180) rfl rfl
theorem tw1141 : (Cond.code yX7_markLent prog_9_method_75_code (2) (some FieldType.int)) ∈ tg := tg_5 (i := 181) rfl rfl
theorem tw1142 : (Cond.methodLink "AsleepCotsModel" (245) yX7_sizeDeep) ∈ tg := tg_5 (i := 182) rfl rfl
theorem tw1144 : (Cond.instanceMethod yX7_sizeDeep) ∈ tg := tg_5 (i := 184) rfl rfl
theorem tw1145 : (Cond.code yX7_sizeDeep prog_9_method_77_code (4) (some FieldType.int)) ∈ tg := tg_5 (i := 185) rfl rfl
theorem tw1146 : (Cond.methodLink "AsleepCotsLaw" (166) yX7_trace) ∈ tg := tg_5 (i := 186) rfl rfl
theorem tw1147 : (Cond.instanceMethod yX7_trace) ∈ tg := tg_5 (i := 187) rfl rfl
theorem tw1148 : (Cond.selects "AsleepCotsModel" yX7_trace yX7_trace) ∈ tg := tg_5 (i := 188) rfl rfl
theorem tw1149 : (Cond.code yX7_trace prog_9_method_82_code (2) (some FieldType.int)) ∈ tg := tg_5 (i := 189) rfl rfl
theorem tw1150 : (Cond.methodLink "AsleepCotsLaw" (170) yX7_count) ∈ tg := tg_5 (i := 190) rfl rfl
theorem tw1151 : (Cond.instanceMethod yX7_count) ∈ tg := tg_5 (i := 191) rfl rfl
theorem tw1152 : (Cond.selects "AsleepCotsModel" yX7_count yX7_count) ∈ tg := tg_5 (i := 192) rfl rfl
theorem tw1153 : (Cond.code yX7_count prog_9_method_83_code (4) (some FieldType.int)) ∈ tg := tg_5 (i := 193) rfl rfl
theorem tw1154 : (Cond.methodLink "AsleepCotsLaw" (174) yX7_status) ∈ tg := tg_5 (i := 194) rfl rfl
theorem tw1155 : (Cond.instanceMethod yX7_status) ∈ tg := tg_5 (i := 195) rfl rfl
theorem tw1156 : (Cond.selects "AsleepCotsModel" yX7_status yX7_status) ∈ tg := tg_5 (i := 196) rfl rfl
theorem tw1157 : (Cond.code yX7_status prog_9_method_84_code (1) (some FieldType.int)) ∈ tg := tg_5 (i := 197) rfl rfl
theorem ts0 : (Cond.selects "AsleepCots" yX6_found yX6_found) ∈ tg := tg_sel (i := 0) (q := (yX6_found, 10)) rfl rfl
theorem ts1 : (Cond.selects "AsleepCots" yX6_foundNothing yX6_foundNothing) ∈ tg := tg_sel (i := 1) (q := (yX6_foundNothing, 10)) rfl rfl
theorem ts2 : (Cond.selects "AsleepCots$Tape" yX5_widthAt yX5_widthAt) ∈ tg := tg_sel (i := 2) (q := (yX5_widthAt, 3)) rfl rfl
theorem ts3 : (Cond.selects "AsleepCots$Tape" yX5_faultAt yX5_faultAt) ∈ tg := tg_sel (i := 3) (q := (yX5_faultAt, 3)) rfl rfl
theorem ts4 : (Cond.selects "AsleepCots$Tape" yX5_valueAt yX5_valueAt) ∈ tg := tg_sel (i := 4) (q := (yX5_valueAt, 3)) rfl rfl
theorem ts5 : (Cond.selects "AsleepCots" yX6_noRoom yX6_noRoom) ∈ tg := tg_sel (i := 5) (q := (yX6_noRoom, 10)) rfl rfl
theorem ts6 : (Cond.selects "AsleepCots$Room" yX3_calmDown yX3_calmDown) ∈ tg := tg_sel (i := 6) (q := (yX3_calmDown, 14)) rfl rfl
theorem ts7 : (Cond.selects "AsleepCots$Room" yX3_listen yX3_listen) ∈ tg := tg_sel (i := 7) (q := (yX3_listen, 14)) rfl rfl
theorem ts8 : (Cond.selects "AsleepCots$Room" yX3_calmGained yX3_calmGained) ∈ tg := tg_sel (i := 8) (q := (yX3_calmGained, 14)) rfl rfl
theorem ts9 : (Cond.selects "AsleepCots" yX6_noChild yX6_noChild) ∈ tg := tg_sel (i := 9) (q := (yX6_noChild, 10)) rfl rfl
theorem ts10 : (Cond.selects "AsleepCots$Foresight" yX1_weighHands yX1_weighHands) ∈ tg := tg_sel (i := 10) (q := (yX1_weighHands, 8)) rfl rfl
theorem ts11 : (Cond.selects "AsleepCots$Foresight" yX1_goesAsTold yX1_goesAsTold) ∈ tg := tg_sel (i := 11) (q := (yX1_goesAsTold, 8)) rfl rfl
theorem ts12 : (Cond.selects "AsleepCots$Foresight" yX1_casesAsleep yX1_casesAsleep) ∈ tg := tg_sel (i := 12) (q := (yX1_casesAsleep, 8)) rfl rfl
theorem ts13 : (Cond.selects "AsleepCots$Foresight" yX1_cancel yX1_cancel) ∈ tg := tg_sel (i := 13) (q := (yX1_cancel, 8)) rfl rfl
theorem ts14 : (Cond.selects "AsleepCots$Foresight" yX1_cancelBy yX1_cancelBy) ∈ tg := tg_sel (i := 14) (q := (yX1_cancelBy, 8)) rfl rfl
theorem ts15 : (Cond.selects "AsleepCots$Asks" yX0_give yX0_give) ∈ tg := tg_sel (i := 15) (q := (yX0_give, 7)) rfl rfl
theorem ts16 : (Cond.selects "AsleepCots$Asks" yX0_leave yX0_leave) ∈ tg := tg_sel (i := 16) (q := (yX0_leave, 7)) rfl rfl
theorem ts17 : (Cond.selects "AsleepCots" yX6_presentRows yX6_presentRows) ∈ tg := tg_sel (i := 17) (q := (yX6_presentRows, 10)) rfl rfl
theorem ts18 : (Cond.selects "AsleepCotsModel" yX7_found yX7_found) ∈ tg := tg_sel (i := 18) (q := (yX7_found, 18)) rfl rfl
theorem ts19 : (Cond.selects "AsleepCotsModel" yX7_good yX7_good) ∈ tg := tg_sel (i := 19) (q := (yX7_good, 18)) rfl rfl
theorem ts20 : (Cond.selects "AsleepCotsModel" yX7_takesLaw yX7_takesLaw) ∈ tg := tg_sel (i := 20) (q := (yX7_takesLaw, 18)) rfl rfl
theorem ts21 : (Cond.selects "AsleepCotsModel" yX7_takes yX7_takes) ∈ tg := tg_sel (i := 21) (q := (yX7_takes, 18)) rfl rfl
theorem ts22 : (Cond.selects "AsleepCotsModel" yX7_byteAt yX7_byteAt) ∈ tg := tg_sel (i := 22) (q := (yX7_byteAt, 18)) rfl rfl
theorem ts23 : (Cond.selects "AsleepCotsModel" yX7_fails yX7_fails) ∈ tg := tg_sel (i := 23) (q := (yX7_fails, 18)) rfl rfl
theorem ts24 : (Cond.selects "AsleepCotsModel" yX7_takesNumber yX7_takesNumber) ∈ tg := tg_sel (i := 24) (q := (yX7_takesNumber, 18)) rfl rfl
theorem ts25 : (Cond.selects "AsleepCotsModel" yX7_takesChild yX7_takesChild) ∈ tg := tg_sel (i := 25) (q := (yX7_takesChild, 18)) rfl rfl
theorem ts26 : (Cond.selects "AsleepCotsModel" yX7_copyAll yX7_copyAll) ∈ tg := tg_sel (i := 26) (q := (yX7_copyAll, 18)) rfl rfl
theorem ts27 : (Cond.selects "AsleepCotsModel" yX7_isRoom yX7_isRoom) ∈ tg := tg_sel (i := 27) (q := (yX7_isRoom, 18)) rfl rfl
theorem ts28 : (Cond.selects "AsleepCotsModel" yX7_minds yX7_minds) ∈ tg := tg_sel (i := 28) (q := (yX7_minds, 18)) rfl rfl
theorem ts29 : (Cond.selects "AsleepCotsModel" yX7_passes yX7_passes) ∈ tg := tg_sel (i := 29) (q := (yX7_passes, 18)) rfl rfl
theorem ts30 : (Cond.selects "AsleepCotsModel" yX7_noiseAt yX7_noiseAt) ∈ tg := tg_sel (i := 30) (q := (yX7_noiseAt, 18)) rfl rfl
theorem ts31 : (Cond.selects "AsleepCotsModel" yX7_isOut yX7_isOut) ∈ tg := tg_sel (i := 31) (q := (yX7_isOut, 18)) rfl rfl
theorem ts32 : (Cond.selects "AsleepCotsModel" yX7_bears yX7_bears) ∈ tg := tg_sel (i := 32) (q := (yX7_bears, 18)) rfl rfl
theorem ts33 : (Cond.selects "AsleepCotsModel" yX7_weepsOn yX7_weepsOn) ∈ tg := tg_sel (i := 33) (q := (yX7_weepsOn, 18)) rfl rfl
theorem ts34 : (Cond.selects "AsleepCotsModel" yX7_liesOn yX7_liesOn) ∈ tg := tg_sel (i := 34) (q := (yX7_liesOn, 18)) rfl rfl
theorem ts35 : (Cond.selects "AsleepCotsModel" yX7_wakesUp yX7_wakesUp) ∈ tg := tg_sel (i := 35) (q := (yX7_wakesUp, 18)) rfl rfl
theorem ts36 : (Cond.selects "AsleepCotsModel" yX7_thoseWho yX7_thoseWho) ∈ tg := tg_sel (i := 36) (q := (yX7_thoseWho, 18)) rfl rfl
theorem ts37 : (Cond.selects "AsleepCotsModel" yX7_isChild yX7_isChild) ∈ tg := tg_sel (i := 37) (q := (yX7_isChild, 18)) rfl rfl
theorem ts38 : (Cond.selects "AsleepCotsModel" yX7_swaps yX7_swaps) ∈ tg := tg_sel (i := 38) (q := (yX7_swaps, 18)) rfl rfl
theorem ts39 : (Cond.selects "AsleepCotsModel" yX7_rolls yX7_rolls) ∈ tg := tg_sel (i := 39) (q := (yX7_rolls, 18)) rfl rfl
theorem ts40 : (Cond.selects "AsleepCotsModel" yX7_tries yX7_tries) ∈ tg := tg_sel (i := 40) (q := (yX7_tries, 18)) rfl rfl
theorem ts41 : (Cond.selects "AsleepCotsModel" yX7_goesOn yX7_goesOn) ∈ tg := tg_sel (i := 41) (q := (yX7_goesOn, 18)) rfl rfl
theorem ts42 : (Cond.selects "AsleepCotsModel" yX7_allSleep yX7_allSleep) ∈ tg := tg_sel (i := 42) (q := (yX7_allSleep, 18)) rfl rfl
theorem ts43 : (Cond.selects "AsleepCotsModel" yX7_isLook yX7_isLook) ∈ tg := tg_sel (i := 43) (q := (yX7_isLook, 18)) rfl rfl
theorem ts44 : (Cond.selects "AsleepCotsModel" yX7_against yX7_against) ∈ tg := tg_sel (i := 44) (q := (yX7_against, 18)) rfl rfl
theorem ts45 : (Cond.selects "AsleepCotsModel" yX7_isSo yX7_isSo) ∈ tg := tg_sel (i := 45) (q := (yX7_isSo, 18)) rfl rfl
theorem ts46 : (Cond.selects "AsleepCotsModel" yX7_size yX7_size) ∈ tg := tg_sel (i := 46) (q := (yX7_size, 18)) rfl rfl
theorem ts47 : (Cond.selects "AsleepCotsModel" yX7_begins yX7_begins) ∈ tg := tg_sel (i := 47) (q := (yX7_begins, 18)) rfl rfl
theorem ts48 : (Cond.selects "AsleepCotsModel" yX7_sizePlain yX7_sizePlain) ∈ tg := tg_sel (i := 48) (q := (yX7_sizePlain, 18)) rfl rfl
theorem ts49 : (Cond.selects "AsleepCotsModel" yX7_mark yX7_mark) ∈ tg := tg_sel (i := 49) (q := (yX7_mark, 18)) rfl rfl
theorem ts50 : (Cond.selects "AsleepCotsModel" yX7_markPlain yX7_markPlain) ∈ tg := tg_sel (i := 50) (q := (yX7_markPlain, 18)) rfl rfl
theorem ts51 : (Cond.selects "AsleepCotsModel" yX7_markLent yX7_markLent) ∈ tg := tg_sel (i := 51) (q := (yX7_markLent, 18)) rfl rfl
theorem ts52 : (Cond.selects "AsleepCotsModel" yX7_sizeDeep yX7_sizeDeep) ∈ tg := tg_sel (i := 52) (q := (yX7_sizeDeep, 18)) rfl rfl
end
section
/-! THE WORLD: every cell that the law makes has a place k, and lies at the address base + k; what it holds is read off D (numbers) and S (shapes, references) -/
abbrev wd_Sh : Type := Nat ⊕ (Nat × Nat)
abbrev wd_S : Type := List wd_Sh × (Nat → Nat → Option Nat)
abbrev wd_D : Type := (Nat → Nat → Int32) × (Nat → Nat → Int64)
abbrev wd_C : Type := ClassId × ClassId × ClassId × ClassId
abbrev wd_X : Type := va_G × wd_C × Nat × (Nat → Nat)
def gI (D : wd_D) (k j : Nat) : Int32 := D.1 k j
def gJ (D : wd_D) (k j : Nat) : Int64 := D.2 k j
def sI (D : wd_D) (k j : Nat) (v : Int32) : wd_D := (fun a b => if a = k ∧ b = j then v else D.1 a b, D.2)
def sJ (D : wd_D) (k j : Nat) (v : Int64) : wd_D := (D.1, fun a b => if a = k ∧ b = j then v else D.2 a b)
def wd_N : Nat → Nat
  | 0 => 7 | 1 => 8 | 2 => 3 | 3 => 14 | 4 => 3 | 5 => 3 | 6 => 10 | _ => 18
def wd_R : Nat → String
  | 0 => RX0 | 1 => RX1 | 2 => RX2 | 3 => RX3 | 4 => RX4 | 5 => RX5 | 6 => RX6 | _ => RX7
def wd_T : Nat → u_T
  | 0 => TX0 | 1 => TX1 | 2 => TX2 | 3 => TX3 | 4 => TX4 | 5 => TX5 | 6 => TX6 | _ => TX7
def wd_ty : Nat → Nat → FieldType
  | 0 => tyX0 | 1 => tyX1 | 2 => tyX2 | 3 => tyX3 | 4 => tyX4 | 5 => tyX5 | 6 => tyX6 | _ => tyX7
def wd_f (b : Nat) (r : Option Nat) : Option Nat := r.map (fun q => b + q)
def fv (X : wd_X) (S : wd_S) (D : wd_D) (k j : Nat) : FieldType → Value
  | .int => .int (D.1 k j)
  | .long => .long (D.2 k j)
  | _ => va_rf (wd_f X.2.2.1 (S.2 k j))
def wd_E (X : wd_X) (S : wd_S) (D : wd_D) (k : Nat) : wd_Sh → va_E
  | .inl ci => .inr (ci, (List.range (wd_N ci)).map (fun j => fv X S D k j (wd_ty ci j)))
  | .inr (0, n) => .inl (X.2.1.1, n, .inl (D.1 k))
  | .inr (1, n) => .inl (X.2.1.2.1, n, .inl (D.1 k))
  | .inr (2, n) => .inl (X.2.1.2.2.1, n, .inr (.inr (.inr (.inr (fun j => wd_f X.2.2.1 (S.2 k j))))))
  | .inr (_, n) => .inl (X.2.1.2.2.2, n, .inr (.inr (.inr (.inr (fun j => wd_f X.2.2.1 (S.2 k j))))))
def wd_W (X : wd_X) (S : wd_S) (D : wd_D) : va_W := S.1.mapIdx (fun k sh => (X.2.2.1 + k, wd_E X S D k sh))
def wd_A (X : wd_X) : Nat → Prop := fun q => X.2.2.1 ≤ q
def Wd (X : wd_X) (S : wd_S) (D : wd_D) (H : Heap) : Prop := va_P X.1 vwCl (wd_W X S D) H
def wd_tys (X : wd_X) : List (ClassId × FieldType) := [(X.2.1.1, .int), (X.2.1.2.1, .boolean), (X.2.1.2.2.1, .object RX3), (X.2.1.2.2.2, .object RX4)]
-- the six tables of numbers that the class holds
def st_C : Nat → String
  | 0 => RX5 | 1 => RX5 | 2 => RX5 | 3 => RX6 | 4 => RX0 | _ => RX0
def st_n : Nat → String
  | 0 => "STANDS" | 1 => "LEAST" | 2 => "MOST" | 3 => "ABOVE" | 4 => "SIZE_BODIES" | _ => "MARK_BODIES"
def st_L : Nat → List Int32
  | 0 => [0, 1, 2, 1, 3, 4, 1, 2, 1, 2, 1, 3]
  | 1 => [0, 0, 0, 1, 0, 0, 1, 0, 0, 0, 0, 0]
  | 2 => [0, 3, 0, 9, 0, 0, 9, 0, 9, 0, 9, 0]
  | 3 => [-1, 0, 1, 1, 0, 4]
  | 4 => [10, 11, 12, 0, 13, 14]
  | _ => [20, 21, 24, 22, 23, 0]
def st_v (k j : Nat) : Int32 := (st_L k).getD j 0
def wd_Sta (X : wd_X) (U : State) (H : Heap) : Prop := ∀ k, k < 6 → va_Z (st_C k) (st_n k) "[I" (.ref (X.2.2.2 k)) (wd_A X) U H ∧ va_T .int (X.2.2.2 k) (st_L k).length (fun j => .int (st_v k j)) (wd_A X) U H
-- the words of nest mates
def wd_nestM : List (String × Nat × MethodName) := [(RX6, 17, yX5_init), (RX6, 24, yX3_init), (RX6, 46, yX0_init), (RX6, 49, yX4_init)]
def wd_Env (X : wd_X) (U : State) : Prop := va_K X.1 vwCl (wd_tys X) U ∧ (∀ w ∈ lw_tbl, (∀ a i y h, w = .methodLinkNest a i y h → va_Nw w U) ∧ (∀ a i b n d h, w = .fieldLinkNest a i b n d h → va_Nw w U)) ∧ va_AO RX3 U ∧ va_AO RX4 U ∧ wd_Sta X U U.heap
theorem wd_at {X : wd_X} {S : wd_S} {D : wd_D} {k : Nat} {sh : wd_Sh} (h : S.1[k]? = some sh) : (wd_W X S D)[k]? = some (X.2.2.1 + k, wd_E X S D k sh) := by
  simp [wd_W, h]
theorem wd_apart (X : wd_X) (S : wd_S) (D : wd_D) : va_D (wd_A X) (wd_W X S D) := by
  have key : ∀ (i : Nat) (q : Nat × va_E), (wd_W X S D)[i]? = some q → q.1 = X.2.2.1 + i := by
    intro i q h
    rw [wd_W, List.getElem?_mapIdx] at h
    cases hs : S.1[i]? with
    | none => rw [hs] at h; cases h
    | some sh => rw [hs] at h; cases h; rfl
  refine ⟨fun i j p q hi hj hpq => ?_, fun k q hk => ?_⟩
  · have h1 := key i p hi
    have h2 := key j q hj
    omega
  · show X.2.2.1 ≤ q.1
    rw [key k q hk]
    omega
theorem wd_set {X : wd_X} {S S' : wd_S} {D D' : wd_D} {k : Nat} {sh : wd_Sh} (h : S.1[k]? = some sh) (hS : S'.1 = S.1) (ho : ∀ a sh', a ≠ k → wd_E X S' D' a sh' = wd_E X S D a sh') : (wd_W X S D).set k (X.2.2.1 + k, wd_E X S' D' k sh) = wd_W X S' D' := by
  apply List.ext_getElem?
  intro i
  rw [List.getElem?_set]
  by_cases hi : k = i
  · subst hi
    have hl : k < (wd_W X S D).length := (List.getElem?_eq_some_iff.mp (wd_at (D := D) (X := X) h)).1
    rw [if_pos rfl, if_pos hl, wd_at (S := S') (by rw [hS]; exact h)]
  · rw [if_neg hi, wd_W, wd_W, List.getElem?_mapIdx, List.getElem?_mapIdx, hS]
    cases hs : S.1[i]? with
    | none => rfl
    | some sh' => simp only [Option.map_some]; rw [ho i sh' (fun e => hi e.symm)]
theorem wd_oI {X : wd_X} {S : wd_S} {D : wd_D} {k j a : Nat} {v : Int32} (sh : wd_Sh) (h : a ≠ k) : wd_E X S (sI D k j v) a sh = wd_E X S D a sh := by
  have e : (sI D k j v).1 a = D.1 a := by funext b; simp [sI, h]
  rcases sh with ci | ⟨t, n⟩
  · simp only [wd_E]
    congr 2
    refine List.map_congr_left (fun b _ => ?_)
    cases wd_ty ci b <;> simp [fv, e] <;> rfl
  · match t with
    | 0 => simp [wd_E, e]
    | 1 => simp [wd_E, e]
    | 2 => simp [wd_E]
    | t + 3 => simp [wd_E]
theorem wd_oJ {X : wd_X} {S : wd_S} {D : wd_D} {k j a : Nat} {v : Int64} (sh : wd_Sh) (h : a ≠ k) : wd_E X S (sJ D k j v) a sh = wd_E X S D a sh := by
  have e : (sJ D k j v).2 a = D.2 a := by funext b; simp [sJ, h]
  have e1 : (sJ D k j v).1 = D.1 := rfl
  rcases sh with ci | ⟨t, n⟩
  · simp only [wd_E]
    congr 2
    refine List.map_congr_left (fun b _ => ?_)
    cases wd_ty ci b <;> simp [fv, e, e1] <;> rfl
  · match t with
    | 0 => simp [wd_E, e1]
    | 1 => simp [wd_E, e1]
    | 2 => simp [wd_E]
    | t + 3 => simp [wd_E]
theorem wd_fsI {X : wd_X} {S : wd_S} {D : wd_D} {k ci j : Nat} {v : Int32} (ht : wd_ty ci j = .int) : ((List.range (wd_N ci)).map (fun i => fv X S D k i (wd_ty ci i))).set j (.int v) = (List.range (wd_N ci)).map (fun i => fv X S (sI D k j v) k i (wd_ty ci i)) := by
  apply List.ext_getElem?
  intro i
  rw [List.getElem?_set]
  by_cases hi : j = i
  · subst hi
    by_cases hl : j < wd_N ci
    · simp [hl, ht, fv, sI]
    · simp [hl]
  · rw [if_neg hi, List.getElem?_map, List.getElem?_map]
    cases hs : (List.range (wd_N ci))[i]? with
    | none => rfl
    | some b =>
      have hb : b = i := by
        have := List.getElem?_range (n := wd_N ci) (i := i) (by simpa using (List.getElem?_eq_some_iff.mp hs).1)
        rw [this] at hs; exact (Option.some.inj hs).symm
      subst hb
      simp only [Option.map_some]
      cases wd_ty ci b <;> simp [fv, sI] <;> try rfl
      intro e; exact absurd e.symm hi
theorem wd_fsJ {X : wd_X} {S : wd_S} {D : wd_D} {k ci j : Nat} {v : Int64} (ht : wd_ty ci j = .long) : ((List.range (wd_N ci)).map (fun i => fv X S D k i (wd_ty ci i))).set j (.long v) = (List.range (wd_N ci)).map (fun i => fv X S (sJ D k j v) k i (wd_ty ci i)) := by
  apply List.ext_getElem?
  intro i
  rw [List.getElem?_set]
  by_cases hi : j = i
  · subst hi
    by_cases hl : j < wd_N ci
    · simp [hl, ht, fv, sJ]
    · simp [hl]
  · rw [if_neg hi, List.getElem?_map, List.getElem?_map]
    cases hs : (List.range (wd_N ci))[i]? with
    | none => rfl
    | some b =>
      have hb : b = i := by
        have := List.getElem?_range (n := wd_N ci) (i := i) (by simpa using (List.getElem?_eq_some_iff.mp hs).1)
        rw [this] at hs; exact (Option.some.inj hs).symm
      subst hb
      simp only [Option.map_some]
      cases wd_ty ci b <;> simp [fv, sJ] <;> try rfl
      intro e; exact absurd e.symm hi
theorem wd_cl : ∀ ci, ci < 8 → vwCl[ci]? = some (wd_R ci, wd_T ci, wd_N ci)
  | 0, _ => rfl | 1, _ => rfl | 2, _ => rfl | 3, _ => rfl | 4, _ => rfl | 5, _ => rfl | 6, _ => rfl | 7, _ => rfl
  | n + 8, h => absurd h (by omega)
theorem wd_pd : ∀ ci, ci < 8 → ∀ k, k < wd_N ci → parseFieldDescriptor (wd_T ci k).2.2.1 = some (wd_ty ci k)
  | 0, _ => tyX0_ok | 1, _ => tyX1_ok | 2, _ => tyX2_ok | 3, _ => tyX3_ok | 4, _ => tyX4_ok | 5, _ => tyX5_ok | 6, _ => tyX6_ok | 7, _ => tyX7_ok
  | n + 8, h => absurd h (by omega)
theorem wd_nm : ∀ ci, ci < 8 → ∀ a, a < wd_N ci → ∀ b, b < wd_N ci → a ≠ b → (wd_T ci a).2.1 ≠ (wd_T ci b).2.1
  | 0, _ => nmX0 | 1, _ => nmX1 | 2, _ => nmX2 | 3, _ => nmX3 | 4, _ => nmX4 | 5, _ => nmX5 | 6, _ => nmX6 | 7, _ => nmX7
  | n + 8, h => absurd h (by omega)
end
section
/-! rows of the world: an instruction, a row -/
theorem wd_inX0 : ∀ w ∈ u_ws RX0 TX0 7, w ∈ tg := by decide +kernel
theorem wd_inX1 : ∀ w ∈ u_ws RX1 TX1 8, w ∈ tg := by decide +kernel
theorem wd_inX2 : ∀ w ∈ u_ws RX2 TX2 3, w ∈ tg := by decide +kernel
theorem wd_inX3 : ∀ w ∈ u_ws RX3 TX3 14, w ∈ tg := by decide +kernel
theorem wd_inX4 : ∀ w ∈ u_ws RX4 TX4 3, w ∈ tg := by decide +kernel
theorem wd_inX5 : ∀ w ∈ u_ws RX5 TX5 3, w ∈ tg := by decide +kernel
theorem wd_inX6 : ∀ w ∈ u_ws RX6 TX6 10, w ∈ tg := by decide +kernel
theorem wd_inX7 : ∀ w ∈ u_ws RX7 TX7 18, w ∈ tg := by decide +kernel
theorem wd_in : ∀ ci, ci < 8 → ∀ w ∈ u_ws (wd_R ci) (wd_T ci) (wd_N ci), w ∈ tg
  | 0, _ => wd_inX0 | 1, _ => wd_inX1 | 2, _ => wd_inX2 | 3, _ => wd_inX3 | 4, _ => wd_inX4 | 5, _ => wd_inX5 | 6, _ => wd_inX6 | 7, _ => wd_inX7
  | n + 8, h => absurd h (by omega)
/-- a field of a class, as an instruction of a class names it -/
def wd_FL (own : String) (idx ci j : Nat) : Prop := ci < 8 ∧ j < wd_N ci ∧ Cond.fieldLink own idx (wd_R ci) (wd_T ci j).2.1 (wd_T ci j).2.2.1 ∈ tg ∧ (wd_T ci j).1 = wd_R ci
def wd_bad (i : Int32) (n : Nat) : Bool := decide (i < 0) || decide (n ≤ i.toNatClampNeg)
theorem wd_vin {i : Int32} {n : Nat} (h : wd_bad i n = false) : vp_in i n := by
  intro q
  simp only [wd_bad, Bool.or_eq_false_iff, decide_eq_false_iff_not] at h
  rcases q with q | q
  · exact h.1 q
  · exact h.2 q
def rd (n : Nat) (D : wd_D) (k : Nat) (i : Int32) : Option Int32 := if wd_bad i n then none else some (D.1 k i.toNatClampNeg)
def wr (n : Nat) (D : wd_D) (k : Nat) (i v : Int32) : Option wd_D := if wd_bad i n then none else some (sI D k i.toNatClampNeg v)
def ix (n : Nat) (i : Int32) : Option Nat := if wd_bad i n then none else some i.toNatClampNeg
def rs (k : Nat) (i : Int32) : Option Int32 := if wd_bad i (st_L k).length then none else some (st_v k i.toNatClampNeg)
theorem rd_e {n : Nat} {D : wd_D} {k : Nat} {i x : Int32} (h : rd n D k i = some x) : wd_bad i n = false ∧ D.1 k i.toNatClampNeg = x := by
  unfold rd at h
  cases hb : wd_bad i n with
  | true => rw [hb] at h; cases h
  | false => rw [hb] at h; exact ⟨rfl, Option.some.inj h⟩
theorem wr_e {n : Nat} {D D1 : wd_D} {k : Nat} {i v : Int32} (h : wr n D k i v = some D1) : wd_bad i n = false ∧ sI D k i.toNatClampNeg v = D1 := by
  unfold wr at h
  cases hb : wd_bad i n with
  | true => rw [hb] at h; cases h
  | false => rw [hb] at h; exact ⟨rfl, Option.some.inj h⟩
theorem ix_e {n q : Nat} {i : Int32} (h : ix n i = some q) : wd_bad i n = false ∧ i.toNatClampNeg = q := by
  unfold ix at h
  cases hb : wd_bad i n with
  | true => rw [hb] at h; cases h
  | false => rw [hb] at h; exact ⟨rfl, Option.some.inj h⟩
theorem rs_e {k : Nat} {i x : Int32} (h : rs k i = some x) : wd_bad i (st_L k).length = false ∧ st_v k i.toNatClampNeg = x := by
  unfold rs at h
  cases hb : wd_bad i (st_L k).length with
  | true => rw [hb] at h; cases h
  | false => rw [hb] at h; exact ⟨rfl, Option.some.inj h⟩
def ap {α β : Type} (x : α) (f : α → β) : β := f x
theorem apR {α β : Type} {x y : α} {f : α → β} {t : β} (e : y = x) (h : ap x f = t) : f y = t := by subst e; exact h
theorem bdE {α β : Type} {o : Option α} {f : α → Option β} {r : β} (h : o.bind f = some r) : ∃ x, o = some x ∧ f x = some r := by
  cases o with
  | none => cases h
  | some x => exact ⟨x, rfl, h⟩
section WD
variable {p : Program} {l : Launch} {e : Env} {R : Room} {s : State} {m : MethodId} {args : Array Value} {below : List Frame} {meth : Method} {c : Code} {H : Heap} {locs : List Loc} {cells slots : Nat} {Q : State → Prop}
variable {cc : ByteArray} {pc : Nat} {ls : Array Slot} {rest : List Value} {X : wd_X} {S : wd_S} {D : wd_D} {nL : Nat} {own : String}
theorem W.sized {g : JFrame} (kk : H.size ≤ s.heap.size + cells → W p l e R s m args below meth c H locs cells slots Q g) : W p l e R s m args below meth c H locs cells slots Q g :=
  fun T hT Y => kk (by rw [← hT]; exact Y.heapSize) T hT Y
theorem wd_get (CF : CallFix p m c cc nL s args tg own) (hE : wd_Env X s) (hW : Wd X S D H) {k ci j idx : Nat} (hF : wd_FL own idx ci j) (hsh : S.1[k]? = some (.inl ci)) {v : Value} (hv : fv X S D k j (wd_ty ci j) = v) (hdg : decode cc pc = .ok (.getfield idx, 3))
    (kk : W p l e R s m args below meth c H locs cells slots Q (F0 m (pc + 3) ls (v :: rest))) : W p l e R s m args below meth c H locs cells slots Q (F0 m pc ls (.ref (X.2.2.1 + k) :: rest)) := by
  obtain ⟨hx, hb, -, hown, hts⟩ := CF
  obtain ⟨h8, hj, hl, hd⟩ := hF
  refine va_get (T := wd_T ci) (C := wd_R ci) (N := wd_N ci) (ci := ci) hx hb hts (wd_in ci h8) hown hE.1 hW k (wd_at hsh) (wd_cl ci h8) j hj (hts _ hl) (fun x h => by rw [hd] at h; exact h) (v := v) ?_ hdg kk
  simp [hj, hv]
theorem wd_getR (CF : CallFix p m c cc nL s args tg own) (hE : wd_Env X s) (hW : Wd X S D H) {k ci j idx q : Nat} (hF : wd_FL own idx ci j) (hsh : S.1[k]? = some (.inl ci)) (hq : S.2 k j = some q) (ht : fv X S D k j (wd_ty ci j) = va_rf (wd_f X.2.2.1 (S.2 k j))) (hdg : decode cc pc = .ok (.getfield idx, 3))
    (kk : W p l e R s m args below meth c H locs cells slots Q (F0 m (pc + 3) ls (.ref (X.2.2.1 + q) :: rest))) : W p l e R s m args below meth c H locs cells slots Q (F0 m pc ls (.ref (X.2.2.1 + k) :: rest)) :=
  wd_get CF hE hW hF hsh (v := .ref (X.2.2.1 + q)) (by rw [ht, hq]; rfl) hdg kk
theorem wd_putI (CF : CallFix p m c cc nL s args tg own) (hE : wd_Env X s) (hW : Wd X S D H) (hS : va_S (wd_A X) s.heap H locs) {k ci j idx : Nat} (hF : wd_FL own idx ci j) (hsh : S.1[k]? = some (.inl ci)) (ht : wd_ty ci j = .int) (hf : (wd_T ci j).2.2.2 = false) {v : Int32} (hdg : decode cc pc = .ok (.putfield idx, 3))
    (kk : ∀ (D1 : wd_D) (H1 : Heap) (locs1 : List Loc), D1 = sI D k j v → Wd X S D1 H1 → va_S (wd_A X) s.heap H1 locs1 → W p l e R s m args below meth c H1 locs1 cells slots Q (F0 m (pc + 3) ls rest)) : W p l e R s m args below meth c H locs cells slots Q (F0 m pc ls (.int v :: .ref (X.2.2.1 + k) :: rest)) := by
  obtain ⟨hx, hb, -, hown, hts⟩ := CF
  obtain ⟨h8, hj, hl, hd⟩ := hF
  refine va_put (T := wd_T ci) (C := wd_R ci) (N := wd_N ci) (ci := ci) hx hb hts (wd_in ci h8) (wd_ty ci) (wd_pd ci h8) (wd_nm ci h8) hown hE.1 hW (wd_apart X S D) hS k (wd_at hsh) (wd_cl ci h8) j hj (hts _ hl) (fun x h => by rw [hd] at h; exact h) hf (ty := .int) (v := .int v) (by rw [wd_pd ci h8 j hj, ht]) rfl rfl (by simp [hj]) hdg fun H1 locs1 hP1 hD1 hS1 => ?_
  rw [wd_fsI ht] at hP1
  have hw := wd_set (X := X) (S := S) (S' := S) (D := D) (D' := sI D k j v) hsh rfl (fun a sh' ha => wd_oI sh' ha)
  simp only [wd_E] at hw hP1
  rw [hw] at hP1
  exact kk _ H1 locs1 rfl hP1 hS1
theorem wd_putJ (CF : CallFix p m c cc nL s args tg own) (hE : wd_Env X s) (hW : Wd X S D H) (hS : va_S (wd_A X) s.heap H locs) {k ci j idx : Nat} (hF : wd_FL own idx ci j) (hsh : S.1[k]? = some (.inl ci)) (ht : wd_ty ci j = .long) (hf : (wd_T ci j).2.2.2 = false) {v : Int64} (hdg : decode cc pc = .ok (.putfield idx, 3))
    (kk : ∀ (D1 : wd_D) (H1 : Heap) (locs1 : List Loc), D1 = sJ D k j v → Wd X S D1 H1 → va_S (wd_A X) s.heap H1 locs1 → W p l e R s m args below meth c H1 locs1 cells slots Q (F0 m (pc + 3) ls rest)) : W p l e R s m args below meth c H locs cells slots Q (F0 m pc ls (.long v :: .ref (X.2.2.1 + k) :: rest)) := by
  obtain ⟨hx, hb, -, hown, hts⟩ := CF
  obtain ⟨h8, hj, hl, hd⟩ := hF
  refine va_put (T := wd_T ci) (C := wd_R ci) (N := wd_N ci) (ci := ci) hx hb hts (wd_in ci h8) (wd_ty ci) (wd_pd ci h8) (wd_nm ci h8) hown hE.1 hW (wd_apart X S D) hS k (wd_at hsh) (wd_cl ci h8) j hj (hts _ hl) (fun x h => by rw [hd] at h; exact h) hf (ty := .long) (v := .long v) (by rw [wd_pd ci h8 j hj, ht]) rfl rfl (by simp [hj]) hdg fun H1 locs1 hP1 hD1 hS1 => ?_
  rw [wd_fsJ ht] at hP1
  have hw := wd_set (X := X) (S := S) (S' := S) (D := D) (D' := sJ D k j v) hsh rfl (fun a sh' ha => wd_oJ sh' ha)
  simp only [wd_E] at hw hP1
  rw [hw] at hP1
  exact kk _ H1 locs1 rfl hP1 hS1
theorem wd_iald (CF : CallFix p m c cc nL s args tg own) (hE : wd_Env X s) (hW : Wd X S D H) {k n : Nat} (hsh : S.1[k]? = some (.inr (0, n))) {i x : Int32} (h : rd n D k i = some x) (hdg : decode cc pc = .ok (.iaload, 1))
    (kk : W p l e R s m args below meth c H locs cells slots Q (F0 m (pc + 1) ls (.int x :: rest))) : W p l e R s m args below meth c H locs cells slots Q (F0 m pc ls (.int i :: .ref (X.2.2.1 + k) :: rest)) := by
  obtain ⟨hx, hb, -, hown, hts⟩ := CF
  obtain ⟨h1, h2⟩ := rd_e h
  subst h2
  exact va_iald (f := D.1 k) (n := n) (cA := X.2.1.1) hx hb hE.1 hW k 0 (wd_at hsh) rfl (wd_vin h1) hdg kk
theorem wd_zald (CF : CallFix p m c cc nL s args tg own) (hE : wd_Env X s) (hW : Wd X S D H) {k n : Nat} (hsh : S.1[k]? = some (.inr (1, n))) {i x : Int32} (h : rd n D k i = some x) (hdg : decode cc pc = .ok (.baload, 1))
    (kk : W p l e R s m args below meth c H locs cells slots Q (F0 m (pc + 1) ls (.int x :: rest))) : W p l e R s m args below meth c H locs cells slots Q (F0 m pc ls (.int i :: .ref (X.2.2.1 + k) :: rest)) := by
  obtain ⟨hx, hb, -, hown, hts⟩ := CF
  obtain ⟨h1, h2⟩ := rd_e h
  subst h2
  exact va_zald (f := D.1 k) (n := n) (cA := X.2.1.2.1) hx hb hE.1 hW k 1 (wd_at hsh) rfl (wd_vin h1) hdg kk
theorem wd_updE {k a : Nat} {v : Int32} : upd (D.1 k) a v = (sI D k a v).1 k := by
  funext b; simp [upd, sI]
theorem wd_iast (CF : CallFix p m c cc nL s args tg own) (hE : wd_Env X s) (hW : Wd X S D H) (hS : va_S (wd_A X) s.heap H locs) {k n : Nat} (hsh : S.1[k]? = some (.inr (0, n))) {i v : Int32} {D1 : wd_D} (h : wr n D k i v = some D1) (hdg : decode cc pc = .ok (.iastore, 1))
    (kk : ∀ (H1 : Heap) (locs1 : List Loc), Wd X S D1 H1 → va_S (wd_A X) s.heap H1 locs1 → W p l e R s m args below meth c H1 locs1 cells slots Q (F0 m (pc + 1) ls rest)) : W p l e R s m args below meth c H locs cells slots Q (F0 m pc ls (.int v :: .int i :: .ref (X.2.2.1 + k) :: rest)) := by
  obtain ⟨hx, hb, -, hown, hts⟩ := CF
  obtain ⟨h1, h2⟩ := wr_e h
  subst h2
  refine va_iast (f := D.1 k) (n := n) (cA := X.2.1.1) hx hb hE.1 hW (wd_apart X S D) hS k 0 (wd_at hsh) rfl (wd_vin h1) hdg fun H1 locs1 hP1 hD1 hS1 => ?_
  have hw := wd_set (X := X) (S := S) (S' := S) (D := D) (D' := sI D k i.toNatClampNeg v) hsh rfl (fun a sh' ha => wd_oI sh' ha)
  simp only [wd_E] at hw
  rw [wd_updE, hw] at hP1
  exact kk H1 locs1 hP1 hS1
theorem wd_zast (CF : CallFix p m c cc nL s args tg own) (hE : wd_Env X s) (hW : Wd X S D H) (hS : va_S (wd_A X) s.heap H locs) {k n : Nat} (hsh : S.1[k]? = some (.inr (1, n))) {i v : Int32} {D1 : wd_D} (h : wr n D k i (vp_nar .boolean v) = some D1) (hdg : decode cc pc = .ok (.bastore, 1))
    (kk : ∀ (H1 : Heap) (locs1 : List Loc), Wd X S D1 H1 → va_S (wd_A X) s.heap H1 locs1 → W p l e R s m args below meth c H1 locs1 cells slots Q (F0 m (pc + 1) ls rest)) : W p l e R s m args below meth c H locs cells slots Q (F0 m pc ls (.int v :: .int i :: .ref (X.2.2.1 + k) :: rest)) := by
  obtain ⟨hx, hb, -, hown, hts⟩ := CF
  obtain ⟨h1, h2⟩ := wr_e h
  subst h2
  refine va_zast (f := D.1 k) (n := n) (cA := X.2.1.2.1) hx hb hE.1 hW (wd_apart X S D) hS k 1 (wd_at hsh) rfl (wd_vin h1) hdg fun H1 locs1 hP1 hD1 hS1 => ?_
  have hw := wd_set (X := X) (S := S) (S' := S) (D := D) (D' := sI D k i.toNatClampNeg (vp_nar .boolean v)) hsh rfl (fun a sh' ha => wd_oI sh' ha)
  simp only [wd_E] at hw
  rw [wd_updE, hw] at hP1
  exact kk H1 locs1 hP1 hS1
theorem wd_aald2 (CF : CallFix p m c cc nL s args tg own) (hE : wd_Env X s) (hW : Wd X S D H) {k n : Nat} (hsh : S.1[k]? = some (.inr (2, n))) {i : Int32} {a q : Nat} (h : ix n i = some a) (hq : S.2 k a = some q) (hdg : decode cc pc = .ok (.aaload, 1))
    (kk : W p l e R s m args below meth c H locs cells slots Q (F0 m (pc + 1) ls (.ref (X.2.2.1 + q) :: rest))) : W p l e R s m args below meth c H locs cells slots Q (F0 m pc ls (.int i :: .ref (X.2.2.1 + k) :: rest)) := by
  obtain ⟨hx, hb, -, hown, hts⟩ := CF
  obtain ⟨h1, h2⟩ := ix_e h
  subst h2
  refine va_aldq (C := RX3) (f := fun j => wd_f X.2.2.1 (S.2 k j)) (n := n) (cA := X.2.1.2.2.1) hx hb hE.1 hW k 2 (wd_at hsh) rfl (wd_vin h1) hdg ?_
  rw [hq]; exact kk
theorem wd_aald3 (CF : CallFix p m c cc nL s args tg own) (hE : wd_Env X s) (hW : Wd X S D H) {k n : Nat} (hsh : S.1[k]? = some (.inr (3, n))) {i : Int32} {a q : Nat} (h : ix n i = some a) (hq : S.2 k a = some q) (hdg : decode cc pc = .ok (.aaload, 1))
    (kk : W p l e R s m args below meth c H locs cells slots Q (F0 m (pc + 1) ls (.ref (X.2.2.1 + q) :: rest))) : W p l e R s m args below meth c H locs cells slots Q (F0 m pc ls (.int i :: .ref (X.2.2.1 + k) :: rest)) := by
  obtain ⟨hx, hb, -, hown, hts⟩ := CF
  obtain ⟨h1, h2⟩ := ix_e h
  subst h2
  refine va_aldq (C := RX4) (f := fun j => wd_f X.2.2.1 (S.2 k j)) (n := n) (cA := X.2.1.2.2.2) hx hb hE.1 hW k 3 (wd_at hsh) rfl (wd_vin h1) hdg ?_
  rw [hq]; exact kk
theorem wd_alen2 (CF : CallFix p m c cc nL s args tg own) (hE : wd_Env X s) (hW : Wd X S D H) {k n : Nat} (hsh : S.1[k]? = some (.inr (2, n))) {v : Int32} (hv : Int32.ofNat n = v) (hdg : decode cc pc = .ok (.arraylength, 1))
    (kk : W p l e R s m args below meth c H locs cells slots Q (F0 m (pc + 1) ls (.int v :: rest))) : W p l e R s m args below meth c H locs cells slots Q (F0 m pc ls (.ref (X.2.2.1 + k) :: rest)) := by
  obtain ⟨hx, hb, -, hown, hts⟩ := CF
  exact va_alen hx hb hE.1 hW k 2 (wd_at hsh) rfl hv hdg kk
-- the tables
theorem wd_sget (CF : CallFix p m c cc nL s args tg own) (hE : wd_Env X s) (hS : va_S (wd_A X) s.heap H locs) (k : Nat) (hk : k < 6) {idx : Nat} (hl : Cond.fieldLink own idx (st_C k) (st_n k) "[I" ∈ tg) (hdg : decode cc pc = .ok (.getstatic idx, 3))
    (kk : W p l e R s m args below meth c H locs cells slots Q (F0 m (pc + 3) ls (.ref (X.2.2.2 k) :: rest))) : W p l e R s m args below meth c H locs cells slots Q (F0 m pc ls rest) := by
  obtain ⟨hx, hb, -, hown, hts⟩ := CF
  exact va_gets hx hb (hE.2.2.2.2 k hk).1 hS hown (hts _ hl) (fun _ h => h) hdg kk
theorem wd_sald (CF : CallFix p m c cc nL s args tg own) (hE : wd_Env X s) (hS : va_S (wd_A X) s.heap H locs) (k : Nat) (hk : k < 6) {i x : Int32} (h : rs k i = some x) (hdg : decode cc pc = .ok (.iaload, 1))
    (kk : W p l e R s m args below meth c H locs cells slots Q (F0 m (pc + 1) ls (.int x :: rest))) : W p l e R s m args below meth c H locs cells slots Q (F0 m pc ls (.int i :: .ref (X.2.2.2 k) :: rest)) := by
  obtain ⟨hx, hb, -, hown, hts⟩ := CF
  obtain ⟨h1, h2⟩ := rs_e h
  subst h2
  obtain ⟨cell, g1, g2, g3, g4, g5, g6, g7⟩ := (hE.2.2.2.2 k hk).2
  have hv := wd_vin h1
  have hlt : i.toNatClampNeg < (st_L k).length := Nat.not_le.mp fun q => hv (Or.inr q)
  exact W.iald (v := .int (st_v k i.toNatClampNeg)) hx hb (by rw [hS.2.1 _ (Array.getElem?_eq_some_iff.mp g1).1 g7]; exact g1) g2 g3 (fun q => hv (q.elim Or.inl (fun z => absurd (Nat.le_trans g4 z) (Nat.not_le.mpr hlt)))) (g6 _ hlt) rfl rfl hdg kk
theorem wd_slen (CF : CallFix p m c cc nL s args tg own) (hE : wd_Env X s) (hS : va_S (wd_A X) s.heap H locs) (k : Nat) (hk : k < 6) {v : Int32} (hv : Int32.ofNat (st_L k).length = v) (hdg : decode cc pc = .ok (.arraylength, 1))
    (kk : W p l e R s m args below meth c H locs cells slots Q (F0 m (pc + 1) ls (.int v :: rest))) : W p l e R s m args below meth c H locs cells slots Q (F0 m pc ls (.ref (X.2.2.2 k) :: rest)) := by
  obtain ⟨hx, hb, -, hown, hts⟩ := CF
  obtain ⟨cell, g1, g2, g3, g4, g5, g6, g7⟩ := (hE.2.2.2.2 k hk).2
  exact W.alen (n := v) hx hb (by rw [hS.2.1 _ (Array.getElem?_eq_some_iff.mp g1).1 g7]; exact g1) g2 (by rw [g5, hv]) rfl rfl hdg kk
end WD
end
section
/-! calls, entries, ends; arraycopy -/
def wd_Q (X : wd_X) (S : wd_S) (D : wd_D) (r : Option Value) : Array Value → State → Outcome → State → Prop := fun _ st oc t => oc = .returned r ∧ Wd X S D t.heap ∧ va_F (wd_A X) st t
abbrev wd_Pc (X : wd_X) (S : wd_S) (D : wd_D) (av : List Value) : Array Value → State → Prop := va_Pc av (fun U => Wd X S D U.heap ∧ wd_Env X U)
def wd_Met (l : Launch) (X : wd_X) (y : MethodName) (bytes : ByteArray) (maxL : Nat) (ret : Option FieldType) (rm : Room) (S S' : wd_S) (av : List Value) (D D' : wd_D) (r : Option Value) (mc ms : Nat) : Prop := Met l y (Cond.code y bytes maxL ret :: tg) rm (wd_Pc X S D av) (wd_Q X S' D' r) mc ms (wd_A X)
def wd_M (y : MethodName) (bytes : ByteArray) (maxL : Nat) (ret : Option FieldType) (n : Nat) : Prop := Cond.code y bytes maxL ret ∈ tg ∧ Cond.initialized y.cls ∈ tg ∧ y.cls ≠ "java/lang/invoke/MethodHandle" ∧ y.cls ≠ "java/lang/invoke/VarHandle" ∧ (parseMethodDescriptor y.desc).map (fun d => d.parameters.length) = some n
theorem wd_Sta.warm {X : wd_X} {s U : State} {H : Heap} {locs : List Loc} (h : wd_Sta X s s.heap) (hS : va_S (wd_A X) s.heap H locs) (hv : s.vm.Alike U.vm) : wd_Sta X U H := fun k hk => ⟨((h k hk).1.kept (fun a h1 h2 => hS.2.1 a h1 h2)).moved hv, ((h k hk).2.kept (fun a h1 h2 => hS.2.1 a h1 h2)).moved hv⟩
theorem wd_Env.warm {X : wd_X} {s U : State} {H : Heap} {locs : List Loc} (h : wd_Env X s) (hS : va_S (wd_A X) s.heap H locs) (hU : U.heap = H) (hv : s.WarmedH U.vm) : wd_Env X U := by
  obtain ⟨h1, h2, h3, h4, h5⟩ := h
  refine ⟨va_K.moved hv.alike h1, fun w hw => ⟨fun a i y h e => ?_, fun a i b n d h e => ?_⟩, h3.moved hv.alike, h4.moved hv.alike, by rw [hU]; exact h5.warm hS hv.alike⟩
  · have h9 := (h2 w hw).1 a i y h e
    subst e
    exact va_Nw.warmM hv h9
  · have h9 := (h2 w hw).2 a i b n d h e
    subst e
    exact va_Nw.warmF hv h9
theorem wd_Env.blind {X : wd_X} {U : State} {g : JFrame} {mk : MethodId} {a : Array Value} (h : wd_Env X U) : wd_Env X (U.calling g mk a) := by
  obtain ⟨h1, h2, h3, h4, h5⟩ := h
  have hv : U.vm.Alike (U.calling g mk a).vm := Vm.Alike.refl U.vm
  refine ⟨va_K.moved hv h1, fun w hw => ⟨fun a' i y h e => ?_, fun a' i b n d h e => ?_⟩, h3.moved hv, h4.moved hv, h5.warm (H := U.heap) va_S.rf hv⟩
  · have h9 := (h2 w hw).1 a' i y h e
    subst e
    exact va_Nw.same rfl rfl h9
  · have h9 := (h2 w hw).2 a' i b n d h e
    subst e
    exact va_Nw.same rfl rfl h9
section WC
variable {p : Program} {l : Launch} {e : Env} {R : Room} {s : State} {m : MethodId} {args : Array Value} {below : List Frame} {meth : Method} {c : Code} {H : Heap} {locs : List Loc} {cells slots : Nat} {Q : State → Prop}
variable {cc : ByteArray} {pc : Nat} {ls : Array Slot} {rest st0 As : List Value} {X : wd_X} {S S' : wd_S} {D D' : wd_D} {nL mc ms n idx : Nat} {own : String} {r : Option Value} {rm : Room} {y : MethodName} {bytes : ByteArray} {maxL : Nat} {ret : Option FieldType}
theorem wd_blind {av : List Value} : FrameBlind (wd_Pc X S D av) := fun _ _ _ _ q => ⟨q.1, q.2.1, q.2.2.blind⟩
theorem wd_go {a : Array Value} (hr : va_Run p l e R s m args below meth c H locs cells slots mc ms (F0 m pc ls st0) rest (wd_Q X S' D' r a) (wd_A X)) (hS : va_S (wd_A X) s.heap H locs)
    (kk : ∀ (H1 : Heap) (locs1 : List Loc), Wd X S' D' H1 → va_S (wd_A X) s.heap H1 locs1 → W p l e R s m args below meth c H1 locs1 (cells + mc) (slots + ms) Q (F0 m (pc + 3) ls (r.toList ++ rest))) : W p l e R s m args below meth c H locs cells slots Q (F0 m pc ls st0) := by
  intro T hT Y
  obtain ⟨v, st₀, t, T', L, h0, X', hL, e1, e2, ⟨hv, hw, hz, hk⟩, st⟩ := hr T hT Y
  cases hv
  rw [h0] at hz hk
  obtain ⟨t2, a1, b1⟩ := kk T'.heap (locs ++ L) (by rw [e1]; exact hw)
    ⟨Nat.le_trans hS.1 (by rw [e1]; exact hz), fun q h1 h2 => by rw [e1, hk q (Nat.lt_of_lt_of_le h1 hS.1) h2]; exact hS.2.1 q h1 h2, fun q hq => by
      rcases List.mem_append.mp hq with h | h
      · exact hS.2.2 q h
      · exact hL q h⟩ T' rfl X'
  exact ⟨t2, st t2 a1, b1⟩
theorem wd_cb (hts : ∀ w ∈ tg, w.before args s = true) (mi : wd_M y bytes maxL ret n) (hl : Cond.methodLink own idx y ∈ tg) (hrm : rm.cells = mc ∧ rm.slots = ms ∧ rm.frames + 1 ≤ R.frames ∧ 8 + (maxL + 11) + rm.locals ≤ R.locals) : CallB R s args own idx y bytes maxL ret (Cond.code y bytes maxL ret :: tg) rm mc ms n :=
  callB_of n hts (tg_goodIn mi.1) rfl hrm.1 hrm.2.1 (hts _ mi.2.1) (hts _ hl) mi.2.2 hrm.2.2
theorem wd_callV (CF : CallFix p m c cc nL s args tg own) (hE : wd_Env X s) (hW : Wd X S D H) (hS : va_S (wd_A X) s.heap H locs) {k ci : Nat} (hM : wd_Met l X y bytes maxL ret rm S S' (.ref (X.2.2.1 + k) :: As) D D' r mc ms) (mi : wd_M y bytes maxL ret n) (vi : Cond.instanceMethod y ∈ tg ∧ Cond.selects y.cls y y ∈ tg) (hl : Cond.methodLink own idx y ∈ tg) (hci : ci < 8 ∧ wd_R ci = y.cls) (hsh : S.1[k]? = some (.inl ci))
    (hrm : rm.cells = mc ∧ rm.slots = ms ∧ rm.frames + 1 ≤ R.frames ∧ 8 + (maxL + 11) + rm.locals ≤ R.locals) (hn : As.length = n) (hls : ls.size = nL) (hst : st0 = As.reverse ++ .ref (X.2.2.1 + k) :: rest) (hr : (rest.map fun v => v.category).sum ≤ 8) (hdg : decode cc pc = .ok (.invokevirtual idx, 3)) (hf : cells + mc ≤ R.cells ∧ slots + ms ≤ R.slots)
    (kk : ∀ (H1 : Heap) (locs1 : List Loc), Wd X S' D' H1 → va_S (wd_A X) s.heap H1 locs1 → W p l e R s m args below meth c H1 locs1 (cells + mc) (slots + ms) Q (F0 m (pc + 3) ls (r.toList ++ rest))) : W p l e R s m args below meth c H locs cells slots Q (F0 m pc ls st0) := by
  have hts := CF.2.2.2.2
  obtain ⟨cell, g1, g2, g3⟩ := va_recv hE.1 hW (wd_cl ci hci.1) (wd_at hsh)
  refine wd_go (va_runV (As := As) (rest := rest) (C := y.cls) CF hM ⟨wd_cb hts mi hl hrm, hts _ vi.1, hts _ vi.2⟩ ⟨wd_blind, ⟨cell, g1, g2, by rw [← hci.2]; exact g3⟩, fun U hU hw => ⟨rfl, by rw [hU]; exact hW, hE.warm hS hU hw⟩⟩ rfl hn hls hst (lv_room hr) hdg hf) hS kk
theorem wd_callS (CF : CallFix p m c cc nL s args tg own) (hE : wd_Env X s) (hW : Wd X S D H) (hS : va_S (wd_A X) s.heap H locs) (hM : wd_Met l X y bytes maxL ret rm S S' As D D' r mc ms) (mi : wd_M y bytes maxL ret n) (vi : Cond.static y ∈ tg) (hl : Cond.methodLink own idx y ∈ tg)
    (hrm : rm.cells = mc ∧ rm.slots = ms ∧ rm.frames + 1 ≤ R.frames ∧ 8 + (maxL + 11) + rm.locals ≤ R.locals) (hn : As.length = n) (hls : ls.size = nL) (hst : st0 = As.reverse ++ rest) (hr : (rest.map fun v => v.category).sum ≤ 8) (hdg : decode cc pc = .ok (.invokestatic idx, 3)) (hf : cells + mc ≤ R.cells ∧ slots + ms ≤ R.slots)
    (kk : ∀ (H1 : Heap) (locs1 : List Loc), Wd X S' D' H1 → va_S (wd_A X) s.heap H1 locs1 → W p l e R s m args below meth c H1 locs1 (cells + mc) (slots + ms) Q (F0 m (pc + 3) ls (r.toList ++ rest))) : W p l e R s m args below meth c H locs cells slots Q (F0 m pc ls st0) := by
  have hts := CF.2.2.2.2
  refine wd_go (va_runS (As := As) (rest := rest) CF hM ⟨wd_cb hts mi hl hrm, hts _ vi⟩ ⟨wd_blind, fun U hU hw => ⟨rfl, by rw [hU]; exact hW, hE.warm hS hU hw⟩⟩ rfl hn hls hst (lv_room hr) hdg hf) hS kk
theorem wd_callSN (CF : CallFix p m c cc nL s args tg own) (hE : wd_Env X s) (hW : Wd X S D H) (hS : va_S (wd_A X) s.heap H locs) {host : String} (hM : wd_Met l X y bytes maxL ret rm S S' As D D' r mc ms) (mi : wd_M y bytes maxL ret n) (vi : Cond.static y ∈ tg) (hl : Cond.methodLinkNest own idx y host ∈ lw_tbl)
    (hrm : rm.cells = mc ∧ rm.slots = ms ∧ rm.frames + 1 ≤ R.frames ∧ 8 + (maxL + 11) + rm.locals ≤ R.locals) (hn : As.length = n) (hls : ls.size = nL) (hst : st0 = As.reverse ++ rest) (hr : (rest.map fun v => v.category).sum ≤ 8) (hdg : decode cc pc = .ok (.invokestatic idx, 3)) (hf : cells + mc ≤ R.cells ∧ slots + ms ≤ R.slots)
    (kk : ∀ (H1 : Heap) (locs1 : List Loc), Wd X S' D' H1 → va_S (wd_A X) s.heap H1 locs1 → W p l e R s m args below meth c H1 locs1 (cells + mc) (slots + ms) Q (F0 m (pc + 3) ls (r.toList ++ rest))) : W p l e R s m args below meth c H locs cells slots Q (F0 m pc ls st0) := by
  have hts := CF.2.2.2.2
  refine wd_go (va_runSN (As := As) (rest := rest) CF hM ⟨va_cnB n hts (tg_goodIn mi.1) rfl hrm.1 hrm.2.1 ((hE.2.1 _ hl).1 _ _ _ _ rfl) (hts _ mi.2.1) mi.2.2 hrm.2.2, hts _ vi, trivial⟩ ⟨wd_blind, fun U hU hw => ⟨rfl, by rw [hU]; exact hW, hE.warm hS hU hw⟩⟩ rfl hn hls hst (lv_room hr) hdg hf) hS kk
theorem wd_enter {av : List Value} (hy : plainName y.cls = true) (hA : (lg_sl av).length ≤ maxL)
    (body : ∀ (p : Program) (e : Env) (s : State) (m : MethodId) (below : List Frame) (meth : Method) (c : Code), CallFix p m c bytes maxL s av.toArray tg y.cls → meth.sig.returnType = ret → meth.locks = false → meth.name = y.name → Wd X S D s.heap → wd_Env X s → ∀ ls : Array Slot, lv_has ls maxL (lv_args 0 av) →
      W p l e rm s m av.toArray below meth c s.heap [] 0 0 (MQ below (wd_Q X S' D' r) av.toArray s mc ms (wd_A X)) (F0 m 0 ls [])) : wd_Met l X y bytes maxL ret rm S S' av D D' r mc ms := by
  refine Met.ofW (cc := bytes) (maxL := maxL) (ret := ret) hy rfl ?_
  intro p e s m args below meth c s₁ B hml hv
  obtain ⟨rfl, hW, hE⟩ := hv
  have hts := atoms_spec (ws := Cond.code y bytes maxL ret :: tg) B.pre
  have hl := lv_entry av (n := maxL) hA
  rw [lg_entry_eq]
  exact body p e s m below meth c ⟨B.exec, B.bytes, hml, findClass_of_methodNamed B.named, fun w h => hts w (List.mem_cons_of_mem _ h)⟩ B.returns B.notSynchronized (name_of_methodNamed B.named B.method).1 hW hE _ hl
theorem wd_iret {v : Int32} (CF : CallFix p m c cc nL s args tg own) (hr : meth.sig.returnType = some .int) (hk : meth.locks = false) (hW : Wd X S D H) (hS : va_S (wd_A X) s.heap H locs) (hdg : decode cc pc = .ok (.ireturn, 1)) : W p l e R s m args below meth c H locs cells slots (MQ below (wd_Q X S D (some (.int v))) args s cells slots (wd_A X)) (F0 m pc ls [.int v]) :=
  W.iret CF.1 CF.2.1 hr (fun t ht _ => ⟨rfl, by rw [ht]; exact hW, hS.F ht⟩) hS.2.2 hdg hk
theorem wd_zret {v : Int32} (CF : CallFix p m c cc nL s args tg own) (hr : meth.sig.returnType = some .boolean) (hk : meth.locks = false) (hW : Wd X S D H) (hS : va_S (wd_A X) s.heap H locs) (hv : v = 0 ∨ v = 1) (hdg : decode cc pc = .ok (.ireturn, 1)) : W p l e R s m args below meth c H locs cells slots (MQ below (wd_Q X S D (some (.int v))) args s cells slots (wd_A X)) (F0 m pc ls [.int v]) :=
  W.zret CF.1 CF.2.1 hr (by rcases hv with rfl | rfl <;> rfl) (fun t ht _ => ⟨rfl, by rw [ht]; exact hW, hS.F ht⟩) hS.2.2 hdg hk
theorem wd_lret {v : Int64} (CF : CallFix p m c cc nL s args tg own) (hr : meth.sig.returnType = some .long) (hk : meth.locks = false) (hW : Wd X S D H) (hS : va_S (wd_A X) s.heap H locs) (hdg : decode cc pc = .ok (.lreturn, 1)) : W p l e R s m args below meth c H locs cells slots (MQ below (wd_Q X S D (some (.long v))) args s cells slots (wd_A X)) (F0 m pc ls [.long v]) :=
  W.lret CF.1 CF.2.1 hr (fun t ht _ => ⟨rfl, by rw [ht]; exact hW, hS.F ht⟩) hS.2.2 hdg hk
theorem wd_vret (CF : CallFix p m c cc nL s args tg own) (hr : meth.sig.returnType = none) (hk : meth.locks = false) (hW : Wd X S D H) (hS : va_S (wd_A X) s.heap H locs) (hdg : decode cc pc = .ok (.return_, 1)) : W p l e R s m args below meth c H locs cells slots (MQ below (wd_Q X S D none) args s cells slots (wd_A X)) (F0 m pc ls []) :=
  W.vret CF.1 CF.2.1 hr (fun t ht _ => ⟨rfl, by rw [ht]; exact hW, hS.F ht⟩) hS.2.2 hdg hk
end WC
def cpD (D : wd_D) (k0 sp k1 dp n : Nat) : wd_D := (fun a b => if a = k1 ∧ dp ≤ b ∧ b < dp + n then D.1 k0 (sp + (b - dp)) else D.1 a b, D.2)
def cp (n0 n1 : Nat) (D : wd_D) (k0 : Nat) (sp : Int32) (k1 : Nat) (dp n : Int32) : Option wd_D := if sp < 0 ∨ dp < 0 ∨ n < 0 ∨ n0 < sp.toNatClampNeg + n.toNatClampNeg ∨ n1 < dp.toNatClampNeg + n.toNatClampNeg then none else some (cpD D k0 sp.toNatClampNeg k1 dp.toNatClampNeg n.toNatClampNeg)
theorem wd_oC {X : wd_X} {S : wd_S} {D : wd_D} {k0 sp k1 dp n a : Nat} (sh : wd_Sh) (h : a ≠ k1) : wd_E X S (cpD D k0 sp k1 dp n) a sh = wd_E X S D a sh := by
  have e : (cpD D k0 sp k1 dp n).1 a = D.1 a := by funext b; simp [cpD, h]
  have e1 : (cpD D k0 sp k1 dp n).2 = D.2 := rfl
  rcases sh with ci | ⟨t, n⟩
  · simp only [wd_E]
    congr 2
    refine List.map_congr_left (fun b _ => ?_)
    cases wd_ty ci b <;> simp [fv, e, e1] <;> rfl
  · match t with
    | 0 => simp [wd_E, e]
    | 1 => simp [wd_E, e]
    | 2 => simp [wd_E]
    | t + 3 => simp [wd_E]
section WCP
variable {p : Program} {l : Launch} {e : Env} {R : Room} {s : State} {m : MethodId} {args : Array Value} {below : List Frame} {meth : Method} {c : Code} {H : Heap} {locs : List Loc} {cells slots : Nat} {Q : State → Prop}
variable {cc : ByteArray} {pc : Nat} {ls : Array Slot} {rest : List Value} {X : wd_X} {S : wd_S} {D : wd_D} {nL idx : Nat} {own : String}
theorem wd_copy (CF : CallFix p m c cc nL s args tg own) (hE : wd_Env X s) (hW : Wd X S D H) (hS : va_S (wd_A X) s.heap H locs) (hls : ls.size = nL) {k0 k1 n0 n1 : Nat} (hs0 : S.1[k0]? = some (.inr (0, n0))) (hs1 : S.1[k1]? = some (.inr (0, n1))) {sp dp n : Int32} {D1 : wd_D} (h : cp n0 n1 D k0 sp k1 dp n = some D1) (hl : Cond.methodLink own idx arraycopyName ∈ tg)
    (hnat : Cond.native arraycopyName ∈ tg) (hstat : Cond.static arraycopyName ∈ tg) (hini : Cond.initialized "java/lang/System" ∈ tg) (hfr : 1 ≤ R.frames) (hlo : (rest.map fun v => v.category).sum + (nativeFrameWords "java/lang/System" "arraycopy" 5 + 11) ≤ R.locals) (hdg : decode cc pc = .ok (.invokestatic idx, 3))
    (kk : ∀ (H1 : Heap) (locs1 : List Loc), Wd X S D1 H1 → va_S (wd_A X) s.heap H1 locs1 → W p l e R s m args below meth c H1 locs1 cells slots Q (F0 m (pc + 3) ls rest)) : W p l e R s m args below meth c H locs cells slots Q (F0 m pc ls (.int n :: .int dp :: .ref (X.2.2.1 + k1) :: .int sp :: .ref (X.2.2.1 + k0) :: rest)) := by
  obtain ⟨hx, hb, hml, hown, hts⟩ := CF
  unfold cp at h
  split at h
  · cases h
  · rename_i hc
    simp only [not_or] at hc
    obtain ⟨c1, c2, c3, c4, c5⟩ := hc
    have h2 := Option.some.inj h
    subst h2
    refine va_copyi (ty := .int) (f := D.1 k0) (g := D.1 k1) (n0 := n0) (n1 := n1) (c0 := X.2.1.1) (c1 := X.2.1.1) hx hb (hml.trans hls.symm) hown (hts _ hl) (hts _ hnat) (hts _ hstat) (hts _ hini) hE.1 hW (wd_apart X S D) hS k0 k1 0 0 (wd_at hs0) (wd_at hs1) rfl rfl rfl c1 c2 c3 (by omega) (by omega) (fun _ _ => rfl) hfr hlo hdg fun H1 locs1 hP1 hD1 hS1 => ?_
    have hw := wd_set (X := X) (S := S) (S' := S) (D := D) (D' := cpD D k0 sp.toNatClampNeg k1 dp.toNatClampNeg n.toNatClampNeg) hs1 rfl (fun a sh' ha => wd_oC sh' ha)
    have he : va_cpy (D.1 k0) (D.1 k1) sp.toNatClampNeg dp.toNatClampNeg n.toNatClampNeg = (cpD D k0 sp.toNatClampNeg k1 dp.toNatClampNeg n.toNatClampNeg).1 k1 := by
      funext b; simp [va_cpy, cpD]
    simp only [wd_E] at hw
    rw [he, hw] at hP1
    exact kk H1 locs1 hP1 hS1
end WCP
end
section
/-! the shape of the world once both objects stand: 381 places -/
def rmsh (j : Nat) : wd_Sh := if j % 9 = 0 then .inl 3 else .inr (0, 7)
def shf (k : Nat) : wd_Sh :=
  if k < 4 then (if k = 0 then .inl 6 else if k = 1 then .inr (3, 8) else if k = 2 then .inl 5 else .inr (0, 120))
  else if k < 22 then rmsh (k - 4)
  else if k < 25 then (if k = 22 then .inr (2, 2) else if k = 23 then .inl 2 else .inr (2, 24))
  else if k < 241 then rmsh (k - 25)
  else if k < 242 then .inl 1
  else if k < 251 then rmsh (k - 242)
  else if k < 253 then (if k = 251 then .inr (2, 9) else .inr (0, 12))
  else if k < 334 then rmsh (k - 253)
  else if k < 336 then (if k = 334 then .inl 0 else .inr (0, 16))
  else if k < 352 then (if k % 2 = 0 then .inl 4 else .inr (0, 40))
  else if k < 370 then rmsh (k - 352)
  else if k = 370 then .inl 7 else if k = 371 then .inr (0, 252) else if k = 372 then .inr (1, 2) else if k = 373 then .inr (0, 912) else if k = 374 then .inr (0, 320)
  else if k = 375 then .inr (0, 8) else if k = 376 then .inr (0, 8) else if k = 377 then .inr (0, 120) else if k = 378 then .inr (0, 16) else if k = 379 then .inr (0, 40) else .inr (1, 7)
def rf0 (k j : Nat) : Option Nat :=
  if k = 0 then [1, 2, 4, 13, 22, 23, 241, 334][j]?
  else if k = 1 then (if j < 8 then some (336 + 2 * j) else none)
  else if k = 22 then (if j < 2 then some (352 + 9 * j) else none)
  else if k = 24 then (if j < 24 then some (25 + 9 * j) else none)
  else if k = 251 then (if j < 9 then some (253 + 9 * j) else none)
  else if k = 2 then (if j = 0 then some 3 else none)
  else if k = 23 then (if j = 0 then some 24 else none)
  else if k = 241 then [242, 251, 252][j]?
  else if k = 334 then (if j = 0 then some 335 else none)
  else if k = 370 then (if j = 0 then some 371 else if j = 1 then some 372 else if j = 2 then some 373 else if j = 4 then some 374 else if j = 5 then some 375 else if j = 6 then some 376 else if j = 8 then some 377 else if j = 11 then some 378 else if j = 13 then some 379 else if j = 17 then some 380 else none)
  else if shf k = .inl 3 then (if 6 ≤ j ∧ j < 14 then some (k + (j - 5)) else none)
  else if shf k = .inl 4 then (if j = 0 then some (k + 1) else none)
  else none
def S0 : wd_S := ((List.range 381).map shf, rf0)
theorem sh_at {k : Nat} (h : k < 381) : S0.1[k]? = some (shf k) := by simp [S0, h]
def RoomAt (r : Nat) : Prop := r < 370 ∧ shf r = .inl 3
def RowAt (r : Nat) : Prop := r < 370 ∧ shf r = .inl 4
theorem rm_all : ∀ r, r < 370 → shf r = .inl 3 → ∀ i, i < 8 → r + (i + 1) < 370 ∧ shf (r + (i + 1)) = .inr (0, 7) ∧ rf0 r (6 + i) = some (r + (i + 1)) := by decide +kernel
theorem rw_all : ∀ r, r < 370 → shf r = .inl 4 → r + 1 < 370 ∧ shf (r + 1) = .inr (0, 40) ∧ rf0 r 0 = some (r + 1) := by decide +kernel
theorem rm_s {r : Nat} (h : RoomAt r) : S0.1[r]? = some (.inl 3) := by rw [sh_at (Nat.lt_trans h.1 (by decide)), h.2]
theorem rw_s {r : Nat} (h : RowAt r) : S0.1[r]? = some (.inl 4) := by rw [sh_at (Nat.lt_trans h.1 (by decide)), h.2]
theorem rw_a0 {r : Nat} (h : RowAt r) : S0.1[r + 1]? = some (.inr (0, 40)) := by
  obtain ⟨a, b, c⟩ := rw_all r h.1 h.2
  rw [sh_at (Nat.lt_trans a (by decide)), b]
theorem rw_r0 {r : Nat} (h : RowAt r) : S0.2 r 0 = some (r + 1) := (rw_all r h.1 h.2).2.2
theorem rm_a0 {r : Nat} (h : RoomAt r) : S0.1[r + 1]? = some (.inr (0, 7)) := by
  obtain ⟨a, b, c⟩ := rm_all r h.1 h.2 0 (by decide)
  rw [sh_at (Nat.lt_trans a (by decide)), b]
theorem rm_r0 {r : Nat} (h : RoomAt r) : S0.2 r 6 = some (r + 1) := (rm_all r h.1 h.2 0 (by decide)).2.2
theorem rm_a1 {r : Nat} (h : RoomAt r) : S0.1[r + 2]? = some (.inr (0, 7)) := by
  obtain ⟨a, b, c⟩ := rm_all r h.1 h.2 1 (by decide)
  rw [sh_at (Nat.lt_trans a (by decide)), b]
theorem rm_r1 {r : Nat} (h : RoomAt r) : S0.2 r 7 = some (r + 2) := (rm_all r h.1 h.2 1 (by decide)).2.2
theorem rm_a2 {r : Nat} (h : RoomAt r) : S0.1[r + 3]? = some (.inr (0, 7)) := by
  obtain ⟨a, b, c⟩ := rm_all r h.1 h.2 2 (by decide)
  rw [sh_at (Nat.lt_trans a (by decide)), b]
theorem rm_r2 {r : Nat} (h : RoomAt r) : S0.2 r 8 = some (r + 3) := (rm_all r h.1 h.2 2 (by decide)).2.2
theorem rm_a3 {r : Nat} (h : RoomAt r) : S0.1[r + 4]? = some (.inr (0, 7)) := by
  obtain ⟨a, b, c⟩ := rm_all r h.1 h.2 3 (by decide)
  rw [sh_at (Nat.lt_trans a (by decide)), b]
theorem rm_r3 {r : Nat} (h : RoomAt r) : S0.2 r 9 = some (r + 4) := (rm_all r h.1 h.2 3 (by decide)).2.2
theorem rm_a4 {r : Nat} (h : RoomAt r) : S0.1[r + 5]? = some (.inr (0, 7)) := by
  obtain ⟨a, b, c⟩ := rm_all r h.1 h.2 4 (by decide)
  rw [sh_at (Nat.lt_trans a (by decide)), b]
theorem rm_r4 {r : Nat} (h : RoomAt r) : S0.2 r 10 = some (r + 5) := (rm_all r h.1 h.2 4 (by decide)).2.2
theorem rm_a5 {r : Nat} (h : RoomAt r) : S0.1[r + 6]? = some (.inr (0, 7)) := by
  obtain ⟨a, b, c⟩ := rm_all r h.1 h.2 5 (by decide)
  rw [sh_at (Nat.lt_trans a (by decide)), b]
theorem rm_r5 {r : Nat} (h : RoomAt r) : S0.2 r 11 = some (r + 6) := (rm_all r h.1 h.2 5 (by decide)).2.2
theorem rm_a6 {r : Nat} (h : RoomAt r) : S0.1[r + 7]? = some (.inr (0, 7)) := by
  obtain ⟨a, b, c⟩ := rm_all r h.1 h.2 6 (by decide)
  rw [sh_at (Nat.lt_trans a (by decide)), b]
theorem rm_r6 {r : Nat} (h : RoomAt r) : S0.2 r 12 = some (r + 7) := (rm_all r h.1 h.2 6 (by decide)).2.2
theorem rm_a7 {r : Nat} (h : RoomAt r) : S0.1[r + 8]? = some (.inr (0, 7)) := by
  obtain ⟨a, b, c⟩ := rm_all r h.1 h.2 7 (by decide)
  rw [sh_at (Nat.lt_trans a (by decide)), b]
theorem rm_r7 {r : Nat} (h : RoomAt r) : S0.2 r 13 = some (r + 8) := (rm_all r h.1 h.2 7 (by decide)).2.2
theorem sh_0 : S0.1[0]? = some (.inl 6) := sh_at (k := 0) (by decide)
theorem sh_1 : S0.1[1]? = some (.inr (3, 8)) := sh_at (k := 1) (by decide)
theorem sh_2 : S0.1[2]? = some (.inl 5) := sh_at (k := 2) (by decide)
theorem sh_3 : S0.1[3]? = some (.inr (0, 120)) := sh_at (k := 3) (by decide)
theorem sh_22 : S0.1[22]? = some (.inr (2, 2)) := sh_at (k := 22) (by decide)
theorem sh_23 : S0.1[23]? = some (.inl 2) := sh_at (k := 23) (by decide)
theorem sh_24 : S0.1[24]? = some (.inr (2, 24)) := sh_at (k := 24) (by decide)
theorem sh_241 : S0.1[241]? = some (.inl 1) := sh_at (k := 241) (by decide)
theorem sh_251 : S0.1[251]? = some (.inr (2, 9)) := sh_at (k := 251) (by decide)
theorem sh_252 : S0.1[252]? = some (.inr (0, 12)) := sh_at (k := 252) (by decide)
theorem sh_334 : S0.1[334]? = some (.inl 0) := sh_at (k := 334) (by decide)
theorem sh_335 : S0.1[335]? = some (.inr (0, 16)) := sh_at (k := 335) (by decide)
theorem sh_370 : S0.1[370]? = some (.inl 7) := sh_at (k := 370) (by decide)
theorem sh_371 : S0.1[371]? = some (.inr (0, 252)) := sh_at (k := 371) (by decide)
theorem sh_372 : S0.1[372]? = some (.inr (1, 2)) := sh_at (k := 372) (by decide)
theorem sh_373 : S0.1[373]? = some (.inr (0, 912)) := sh_at (k := 373) (by decide)
theorem sh_374 : S0.1[374]? = some (.inr (0, 320)) := sh_at (k := 374) (by decide)
theorem sh_375 : S0.1[375]? = some (.inr (0, 8)) := sh_at (k := 375) (by decide)
theorem sh_376 : S0.1[376]? = some (.inr (0, 8)) := sh_at (k := 376) (by decide)
theorem sh_377 : S0.1[377]? = some (.inr (0, 120)) := sh_at (k := 377) (by decide)
theorem sh_378 : S0.1[378]? = some (.inr (0, 16)) := sh_at (k := 378) (by decide)
theorem sh_379 : S0.1[379]? = some (.inr (0, 40)) := sh_at (k := 379) (by decide)
theorem sh_380 : S0.1[380]? = some (.inr (1, 7)) := sh_at (k := 380) (by decide)
theorem rf_0_0 : S0.2 0 0 = some 1 := rfl
theorem rf_0_1 : S0.2 0 1 = some 2 := rfl
theorem rf_0_2 : S0.2 0 2 = some 4 := rfl
theorem rf_0_3 : S0.2 0 3 = some 13 := rfl
theorem rf_0_4 : S0.2 0 4 = some 22 := rfl
theorem rf_0_5 : S0.2 0 5 = some 23 := rfl
theorem rf_0_6 : S0.2 0 6 = some 241 := rfl
theorem rf_0_7 : S0.2 0 7 = some 334 := rfl
theorem rf_2_0 : S0.2 2 0 = some 3 := rfl
theorem rf_23_0 : S0.2 23 0 = some 24 := rfl
theorem rf_241_0 : S0.2 241 0 = some 242 := rfl
theorem rf_241_1 : S0.2 241 1 = some 251 := rfl
theorem rf_241_2 : S0.2 241 2 = some 252 := rfl
theorem rf_334_0 : S0.2 334 0 = some 335 := rfl
theorem rf_370_0 : S0.2 370 0 = some 371 := rfl
theorem rf_370_1 : S0.2 370 1 = some 372 := rfl
theorem rf_370_2 : S0.2 370 2 = some 373 := rfl
theorem rf_370_4 : S0.2 370 4 = some 374 := rfl
theorem rf_370_5 : S0.2 370 5 = some 375 := rfl
theorem rf_370_6 : S0.2 370 6 = some 376 := rfl
theorem rf_370_8 : S0.2 370 8 = some 377 := rfl
theorem rf_370_11 : S0.2 370 11 = some 378 := rfl
theorem rf_370_13 : S0.2 370 13 = some 379 := rfl
theorem rf_370_17 : S0.2 370 17 = some 380 := rfl
theorem room_4 : RoomAt 4 := ⟨by decide, rfl⟩
theorem room_13 : RoomAt 13 := ⟨by decide, rfl⟩
theorem room_242 : RoomAt 242 := ⟨by decide, rfl⟩
theorem rfa_1 : ∀ a, a < 8 → S0.2 1 a = some (336 + 2 * a) ∧ (336 + 2 * a < 370 ∧ shf (336 + 2 * a) = .inl 4) := by decide +kernel
theorem rfa_22 : ∀ a, a < 2 → S0.2 22 a = some (352 + 9 * a) ∧ (352 + 9 * a < 370 ∧ shf (352 + 9 * a) = .inl 3) := by decide +kernel
theorem rfa_24 : ∀ a, a < 24 → S0.2 24 a = some (25 + 9 * a) ∧ (25 + 9 * a < 370 ∧ shf (25 + 9 * a) = .inl 3) := by decide +kernel
theorem rfa_251 : ∀ a, a < 9 → S0.2 251 a = some (253 + 9 * a) ∧ (253 + 9 * a < 370 ∧ shf (253 + 9 * a) = .inl 3) := by decide +kernel
theorem ix_lt {n a : Nat} {i : Int32} (h : ix n i = some a) : a < n := by
  obtain ⟨h1, h2⟩ := ix_e h
  subst h2
  exact Nat.not_le.mp (fun q => wd_vin h1 (Or.inr q))
def FU : Nat := 1000
def bo (v : Int32) : Option Int32 := if v = 0 ∨ v = 1 then some v else none
theorem bo_e {v x : Int32} (h : bo v = some x) : v = x ∧ (v = 0 ∨ v = 1) := by
  unfold bo at h
  split at h
  · rename_i hc; exact ⟨Option.some.inj h, hc⟩
  · cases h
def nz (v : Int32) : Option Int32 := if v = 0 then none else some v
theorem nz_e {v x : Int32} (h : nz v = some x) : v = x ∧ ¬ v = 0 := by
  unfold nz at h
  split at h
  · cases h
  · rename_i hc; exact ⟨Option.some.inj h, hc⟩
def nzL (v : Int64) : Option Int64 := if v = 0 then none else some v
theorem nzL_e {v x : Int64} (h : nzL v = some x) : v = x ∧ ¬ v = 0 := by
  unfold nzL at h
  split at h
  · cases h
  · rename_i hc; exact ⟨Option.some.inj h, hc⟩
section W8
variable {p : Program} {l : Launch} {e : Env} {R : Room} {s : State} {m : MethodId} {args : Array Value} {below : List Frame} {meth : Method} {c : Code} {H : Heap} {locs : List Loc} {cells slots : Nat} {Q : State → Prop}
variable {cc : ByteArray} {pc : Nat} {ls : Array Slot} {rest : List Value} {X : wd_X} {S : wd_S} {D : wd_D} {nL idx : Nat} {own : String}
theorem wd_aret {k : Nat} {rt : FieldType} (CF : CallFix p m c cc nL s args tg own) (hr : meth.sig.returnType = some rt) (hrt : (∃ n, rt = .object n) ∨ ∃ t, rt = .array t) (hk : meth.locks = false) (hW : Wd X S D H) (hS : va_S (wd_A X) s.heap H locs) (hdg : decode cc pc = .ok (.areturn, 1)) : W p l e R s m args below meth c H locs cells slots (MQ below (wd_Q X S D (some (.ref (X.2.2.1 + k)))) args s cells slots (wd_A X)) (F0 m pc ls [.ref (X.2.2.1 + k)]) :=
  W.aret CF.1 CF.2.1 hr hrt (Or.inr ⟨_, rfl⟩) (fun t ht _ => ⟨rfl, by rw [ht]; exact hW, hS.F ht⟩) hS.2.2 hdg hk
end W8
end
section
/-! what stands at each place of the code -/
theorem dX0_init_0 : decode cX0_init 0 = .ok (.aload_n 0, 1) := by decide +kernel
theorem dX0_init_1 : decode cX0_init 1 = .ok (.invokespecial 3, 3) := by decide +kernel
theorem dX0_init_4 : decode cX0_init 4 = .ok (.aload_n 0, 1) := by decide +kernel
theorem dX0_init_5 : decode cX0_init 5 = .ok (.bipush 16, 2) := by decide +kernel
theorem dX0_init_7 : decode cX0_init 7 = .ok (.newarray .int, 2) := by decide +kernel
theorem dX0_init_9 : decode cX0_init 9 = .ok (.putfield 9, 3) := by decide +kernel
theorem dX0_init_12 : decode cX0_init 12 = .ok (.return_, 1) := by decide +kernel
theorem dX0_answer_0 : decode cX0_answer 0 = .ok (.aload_n 0, 1) := by decide +kernel
theorem dX0_answer_1 : decode cX0_answer 1 = .ok (.iconst 0, 1) := by decide +kernel
theorem dX0_answer_2 : decode cX0_answer 2 = .ok (.putfield 15, 3) := by decide +kernel
theorem dX0_answer_5 : decode cX0_answer 5 = .ok (.aload_n 0, 1) := by decide +kernel
theorem dX0_answer_6 : decode cX0_answer 6 = .ok (.iload_n 2, 1) := by decide +kernel
theorem dX0_answer_7 : decode cX0_answer 7 = .ok (.putfield 19, 3) := by decide +kernel
theorem dX0_answer_10 : decode cX0_answer 10 = .ok (.aload_n 0, 1) := by decide +kernel
theorem dX0_answer_11 : decode cX0_answer 11 = .ok (.aload_n 1, 1) := by decide +kernel
theorem dX0_answer_12 : decode cX0_answer 12 = .ok (.getfield 22, 3) := by decide +kernel
theorem dX0_answer_15 : decode cX0_answer 15 = .ok (.iload_n 2, 1) := by decide +kernel
theorem dX0_answer_16 : decode cX0_answer 16 = .ok (.iaload, 1) := by decide +kernel
theorem dX0_answer_17 : decode cX0_answer 17 = .ok (.putfield 27, 3) := by decide +kernel
theorem dX0_answer_20 : decode cX0_answer 20 = .ok (.aload_n 0, 1) := by decide +kernel
theorem dX0_answer_21 : decode cX0_answer 21 = .ok (.aload_n 1, 1) := by decide +kernel
theorem dX0_answer_22 : decode cX0_answer 22 = .ok (.iload_n 2, 1) := by decide +kernel
theorem dX0_answer_23 : decode cX0_answer 23 = .ok (.aload_n 1, 1) := by decide +kernel
theorem dX0_answer_24 : decode cX0_answer 24 = .ok (.invokevirtual 30, 3) := by decide +kernel
theorem dX0_answer_27 : decode cX0_answer 27 = .ok (.invokevirtual 34, 3) := by decide +kernel
theorem dX0_answer_30 : decode cX0_answer 30 = .ok (.putfield 38, 3) := by decide +kernel
theorem dX0_answer_33 : decode cX0_answer 33 = .ok (.aload_n 0, 1) := by decide +kernel
theorem dX0_answer_34 : decode cX0_answer 34 = .ok (.getstatic 41, 3) := by decide +kernel
theorem dX0_answer_37 : decode cX0_answer 37 = .ok (.aload_n 1, 1) := by decide +kernel
theorem dX0_answer_38 : decode cX0_answer 38 = .ok (.getfield 44, 3) := by decide +kernel
theorem dX0_answer_41 : decode cX0_answer 41 = .ok (.iload_n 2, 1) := by decide +kernel
theorem dX0_answer_42 : decode cX0_answer 42 = .ok (.iaload, 1) := by decide +kernel
theorem dX0_answer_43 : decode cX0_answer 43 = .ok (.invokestatic 47, 3) := by decide +kernel
theorem dX0_answer_46 : decode cX0_answer 46 = .ok (.putfield 51, 3) := by decide +kernel
theorem dX0_answer_49 : decode cX0_answer 49 = .ok (.aload_n 0, 1) := by decide +kernel
theorem dX0_answer_50 : decode cX0_answer 50 = .ok (.getstatic 54, 3) := by decide +kernel
theorem dX0_answer_53 : decode cX0_answer 53 = .ok (.aload_n 1, 1) := by decide +kernel
theorem dX0_answer_54 : decode cX0_answer 54 = .ok (.getfield 44, 3) := by decide +kernel
theorem dX0_answer_57 : decode cX0_answer 57 = .ok (.iload_n 2, 1) := by decide +kernel
theorem dX0_answer_58 : decode cX0_answer 58 = .ok (.iaload, 1) := by decide +kernel
theorem dX0_answer_59 : decode cX0_answer 59 = .ok (.invokestatic 47, 3) := by decide +kernel
theorem dX0_answer_62 : decode cX0_answer 62 = .ok (.putfield 57, 3) := by decide +kernel
theorem dX0_answer_65 : decode cX0_answer 65 = .ok (.aload_n 0, 1) := by decide +kernel
theorem dX0_answer_66 : decode cX0_answer 66 = .ok (.iload_n 3, 1) := by decide +kernel
theorem dX0_answer_67 : decode cX0_answer 67 = .ok (.ifCond .ne 10, 3) := by decide +kernel
theorem dX0_answer_70 : decode cX0_answer 70 = .ok (.aload_n 0, 1) := by decide +kernel
theorem dX0_answer_71 : decode cX0_answer 71 = .ok (.getfield 51, 3) := by decide +kernel
theorem dX0_answer_74 : decode cX0_answer 74 = .ok (.goto 7, 3) := by decide +kernel
theorem dX0_answer_77 : decode cX0_answer 77 = .ok (.aload_n 0, 1) := by decide +kernel
theorem dX0_answer_78 : decode cX0_answer 78 = .ok (.getfield 57, 3) := by decide +kernel
theorem dX0_answer_81 : decode cX0_answer 81 = .ok (.iconst 0, 1) := by decide +kernel
theorem dX0_answer_82 : decode cX0_answer 82 = .ok (.invokevirtual 60, 3) := by decide +kernel
theorem dX0_answer_85 : decode cX0_answer 85 = .ok (.ireturn, 1) := by decide +kernel
theorem dX0_nearest_0 : decode cX0_nearest 0 = .ok (.iload_n 1, 1) := by decide +kernel
theorem dX0_nearest_1 : decode cX0_nearest 1 = .ok (.istore_n 2, 1) := by decide +kernel
theorem dX0_nearest_2 : decode cX0_nearest 2 = .ok (.iconst 0, 1) := by decide +kernel
theorem dX0_nearest_3 : decode cX0_nearest 3 = .ok (.istore_n 3, 1) := by decide +kernel
theorem dX0_nearest_4 : decode cX0_nearest 4 = .ok (.iload_n 3, 1) := by decide +kernel
theorem dX0_nearest_5 : decode cX0_nearest 5 = .ok (.getstatic 63, 3) := by decide +kernel
theorem dX0_nearest_8 : decode cX0_nearest 8 = .ok (.arraylength, 1) := by decide +kernel
theorem dX0_nearest_9 : decode cX0_nearest 9 = .ok (.if_icmp .ge 35, 3) := by decide +kernel
theorem dX0_nearest_12 : decode cX0_nearest 12 = .ok (.iload_n 2, 1) := by decide +kernel
theorem dX0_nearest_13 : decode cX0_nearest 13 = .ok (.ifCond .le 31, 3) := by decide +kernel
theorem dX0_nearest_16 : decode cX0_nearest 16 = .ok (.iload_n 2, 1) := by decide +kernel
theorem dX0_nearest_17 : decode cX0_nearest 17 = .ok (.aload_n 0, 1) := by decide +kernel
theorem dX0_nearest_18 : decode cX0_nearest 18 = .ok (.arraylength, 1) := by decide +kernel
theorem dX0_nearest_19 : decode cX0_nearest 19 = .ok (.if_icmp .ge 25, 3) := by decide +kernel
theorem dX0_nearest_22 : decode cX0_nearest 22 = .ok (.aload_n 0, 1) := by decide +kernel
theorem dX0_nearest_23 : decode cX0_nearest 23 = .ok (.iload_n 2, 1) := by decide +kernel
theorem dX0_nearest_24 : decode cX0_nearest 24 = .ok (.iaload, 1) := by decide +kernel
theorem dX0_nearest_25 : decode cX0_nearest 25 = .ok (.ifCond .eq 7, 3) := by decide +kernel
theorem dX0_nearest_28 : decode cX0_nearest 28 = .ok (.aload_n 0, 1) := by decide +kernel
theorem dX0_nearest_29 : decode cX0_nearest 29 = .ok (.iload_n 2, 1) := by decide +kernel
theorem dX0_nearest_30 : decode cX0_nearest 30 = .ok (.iaload, 1) := by decide +kernel
theorem dX0_nearest_31 : decode cX0_nearest 31 = .ok (.ireturn, 1) := by decide +kernel
theorem dX0_nearest_32 : decode cX0_nearest 32 = .ok (.getstatic 63, 3) := by decide +kernel
theorem dX0_nearest_35 : decode cX0_nearest 35 = .ok (.iload_n 2, 1) := by decide +kernel
theorem dX0_nearest_36 : decode cX0_nearest 36 = .ok (.iaload, 1) := by decide +kernel
theorem dX0_nearest_37 : decode cX0_nearest 37 = .ok (.istore_n 2, 1) := by decide +kernel
theorem dX0_nearest_38 : decode cX0_nearest 38 = .ok (.iinc 3 1, 3) := by decide +kernel
theorem dX0_nearest_41 : decode cX0_nearest 41 = .ok (.goto (-37), 3) := by decide +kernel
theorem dX0_nearest_44 : decode cX0_nearest 44 = .ok (.aload_n 0, 1) := by decide +kernel
theorem dX0_nearest_45 : decode cX0_nearest 45 = .ok (.iconst 0, 1) := by decide +kernel
theorem dX0_nearest_46 : decode cX0_nearest 46 = .ok (.iaload, 1) := by decide +kernel
theorem dX0_nearest_47 : decode cX0_nearest 47 = .ok (.ireturn, 1) := by decide +kernel
theorem dX0_give_0 : decode cX0_give 0 = .ok (.iload_n 2, 1) := by decide +kernel
theorem dX0_give_1 : decode cX0_give 1 = .ok (.bipush 16, 2) := by decide +kernel
theorem dX0_give_3 : decode cX0_give 3 = .ok (.if_icmp .le 5, 3) := by decide +kernel
theorem dX0_give_6 : decode cX0_give 6 = .ok (.iconst 0, 1) := by decide +kernel
theorem dX0_give_7 : decode cX0_give 7 = .ok (.ireturn, 1) := by decide +kernel
theorem dX0_give_8 : decode cX0_give 8 = .ok (.aload_n 0, 1) := by decide +kernel
theorem dX0_give_9 : decode cX0_give 9 = .ok (.iload_n 1, 1) := by decide +kernel
theorem dX0_give_10 : decode cX0_give 10 = .ok (.invokevirtual 66, 3) := by decide +kernel
theorem dX0_give_13 : decode cX0_give 13 = .ok (.iload_n 2, 1) := by decide +kernel
theorem dX0_give_14 : decode cX0_give 14 = .ok (.iconst 1, 1) := by decide +kernel
theorem dX0_give_15 : decode cX0_give 15 = .ok (.iadd, 1) := by decide +kernel
theorem dX0_give_16 : decode cX0_give 16 = .ok (.istore_n 3, 1) := by decide +kernel
theorem dX0_give_17 : decode cX0_give 17 = .ok (.iload_n 1, 1) := by decide +kernel
theorem dX0_give_18 : decode cX0_give 18 = .ok (.tableswitch 185 10 24 #[74, 79, 97, 106, 117, 185, 185, 185, 185, 185, 127, 132, 145, 157, 175], 74) := by decide +kernel
theorem dX0_give_92 : decode cX0_give 92 = .ok (.aload_n 0, 1) := by decide +kernel
theorem dX0_give_93 : decode cX0_give 93 = .ok (.getfield 27, 3) := by decide +kernel
theorem dX0_give_96 : decode cX0_give 96 = .ok (.ireturn, 1) := by decide +kernel
theorem dX0_give_97 : decode cX0_give 97 = .ok (.aload_n 0, 1) := by decide +kernel
theorem dX0_give_98 : decode cX0_give 98 = .ok (.bipush 10, 2) := by decide +kernel
theorem dX0_give_100 : decode cX0_give 100 = .ok (.iload_n 3, 1) := by decide +kernel
theorem dX0_give_101 : decode cX0_give 101 = .ok (.invokevirtual 60, 3) := by decide +kernel
theorem dX0_give_104 : decode cX0_give 104 = .ok (.aload_n 0, 1) := by decide +kernel
theorem dX0_give_105 : decode cX0_give 105 = .ok (.aload_n 0, 1) := by decide +kernel
theorem dX0_give_106 : decode cX0_give 106 = .ok (.getfield 57, 3) := by decide +kernel
theorem dX0_give_109 : decode cX0_give 109 = .ok (.iload_n 3, 1) := by decide +kernel
theorem dX0_give_110 : decode cX0_give 110 = .ok (.invokevirtual 60, 3) := by decide +kernel
theorem dX0_give_113 : decode cX0_give 113 = .ok (.iadd, 1) := by decide +kernel
theorem dX0_give_114 : decode cX0_give 114 = .ok (.ireturn, 1) := by decide +kernel
theorem dX0_give_115 : decode cX0_give 115 = .ok (.aload_n 0, 1) := by decide +kernel
theorem dX0_give_116 : decode cX0_give 116 = .ok (.bipush 11, 2) := by decide +kernel
theorem dX0_give_118 : decode cX0_give 118 = .ok (.iload_n 3, 1) := by decide +kernel
theorem dX0_give_119 : decode cX0_give 119 = .ok (.invokevirtual 60, 3) := by decide +kernel
theorem dX0_give_122 : decode cX0_give 122 = .ok (.ineg, 1) := by decide +kernel
theorem dX0_give_123 : decode cX0_give 123 = .ok (.ireturn, 1) := by decide +kernel
theorem dX0_give_124 : decode cX0_give 124 = .ok (.aload_n 0, 1) := by decide +kernel
theorem dX0_give_125 : decode cX0_give 125 = .ok (.bipush 10, 2) := by decide +kernel
theorem dX0_give_127 : decode cX0_give 127 = .ok (.iload_n 3, 1) := by decide +kernel
theorem dX0_give_128 : decode cX0_give 128 = .ok (.invokevirtual 60, 3) := by decide +kernel
theorem dX0_give_131 : decode cX0_give 131 = .ok (.bipush 100, 2) := by decide +kernel
theorem dX0_give_133 : decode cX0_give 133 = .ok (.isub, 1) := by decide +kernel
theorem dX0_give_134 : decode cX0_give 134 = .ok (.ireturn, 1) := by decide +kernel
theorem dX0_give_135 : decode cX0_give 135 = .ok (.iconst 2, 1) := by decide +kernel
theorem dX0_give_136 : decode cX0_give 136 = .ok (.aload_n 0, 1) := by decide +kernel
theorem dX0_give_137 : decode cX0_give 137 = .ok (.bipush 13, 2) := by decide +kernel
theorem dX0_give_139 : decode cX0_give 139 = .ok (.iload_n 3, 1) := by decide +kernel
theorem dX0_give_140 : decode cX0_give 140 = .ok (.invokevirtual 60, 3) := by decide +kernel
theorem dX0_give_143 : decode cX0_give 143 = .ok (.imul, 1) := by decide +kernel
theorem dX0_give_144 : decode cX0_give 144 = .ok (.ireturn, 1) := by decide +kernel
theorem dX0_give_145 : decode cX0_give 145 = .ok (.aload_n 0, 1) := by decide +kernel
theorem dX0_give_146 : decode cX0_give 146 = .ok (.getfield 19, 3) := by decide +kernel
theorem dX0_give_149 : decode cX0_give 149 = .ok (.ireturn, 1) := by decide +kernel
theorem dX0_give_150 : decode cX0_give 150 = .ok (.aload_n 0, 1) := by decide +kernel
theorem dX0_give_151 : decode cX0_give 151 = .ok (.bipush 20, 2) := by decide +kernel
theorem dX0_give_153 : decode cX0_give 153 = .ok (.iload_n 3, 1) := by decide +kernel
theorem dX0_give_154 : decode cX0_give 154 = .ok (.invokevirtual 60, 3) := by decide +kernel
theorem dX0_give_157 : decode cX0_give 157 = .ok (.aload_n 0, 1) := by decide +kernel
theorem dX0_give_158 : decode cX0_give 158 = .ok (.getfield 38, 3) := by decide +kernel
theorem dX0_give_161 : decode cX0_give 161 = .ok (.iadd, 1) := by decide +kernel
theorem dX0_give_162 : decode cX0_give 162 = .ok (.ireturn, 1) := by decide +kernel
theorem dX0_give_163 : decode cX0_give 163 = .ok (.aload_n 0, 1) := by decide +kernel
theorem dX0_give_164 : decode cX0_give 164 = .ok (.bipush 21, 2) := by decide +kernel
theorem dX0_give_166 : decode cX0_give 166 = .ok (.iload_n 3, 1) := by decide +kernel
theorem dX0_give_167 : decode cX0_give 167 = .ok (.invokevirtual 60, 3) := by decide +kernel
theorem dX0_give_170 : decode cX0_give 170 = .ok (.sipush 1000, 3) := by decide +kernel
theorem dX0_give_173 : decode cX0_give 173 = .ok (.isub, 1) := by decide +kernel
theorem dX0_give_174 : decode cX0_give 174 = .ok (.ireturn, 1) := by decide +kernel
theorem dX0_give_175 : decode cX0_give 175 = .ok (.aload_n 0, 1) := by decide +kernel
theorem dX0_give_176 : decode cX0_give 176 = .ok (.bipush 20, 2) := by decide +kernel
theorem dX0_give_178 : decode cX0_give 178 = .ok (.iload_n 3, 1) := by decide +kernel
theorem dX0_give_179 : decode cX0_give 179 = .ok (.invokevirtual 60, 3) := by decide +kernel
theorem dX0_give_182 : decode cX0_give 182 = .ok (.aload_n 0, 1) := by decide +kernel
theorem dX0_give_183 : decode cX0_give 183 = .ok (.aload_n 0, 1) := by decide +kernel
theorem dX0_give_184 : decode cX0_give 184 = .ok (.getfield 51, 3) := by decide +kernel
theorem dX0_give_187 : decode cX0_give 187 = .ok (.iload_n 3, 1) := by decide +kernel
theorem dX0_give_188 : decode cX0_give 188 = .ok (.invokevirtual 60, 3) := by decide +kernel
theorem dX0_give_191 : decode cX0_give 191 = .ok (.isub, 1) := by decide +kernel
theorem dX0_give_192 : decode cX0_give 192 = .ok (.ireturn, 1) := by decide +kernel
theorem dX0_give_193 : decode cX0_give 193 = .ok (.iconst 2, 1) := by decide +kernel
theorem dX0_give_194 : decode cX0_give 194 = .ok (.aload_n 0, 1) := by decide +kernel
theorem dX0_give_195 : decode cX0_give 195 = .ok (.bipush 21, 2) := by decide +kernel
theorem dX0_give_197 : decode cX0_give 197 = .ok (.iload_n 3, 1) := by decide +kernel
theorem dX0_give_198 : decode cX0_give 198 = .ok (.invokevirtual 60, 3) := by decide +kernel
theorem dX0_give_201 : decode cX0_give 201 = .ok (.imul, 1) := by decide +kernel
theorem dX0_give_202 : decode cX0_give 202 = .ok (.ireturn, 1) := by decide +kernel
theorem dX0_give_203 : decode cX0_give 203 = .ok (.iconst 0, 1) := by decide +kernel
theorem dX0_give_204 : decode cX0_give 204 = .ok (.ireturn, 1) := by decide +kernel
theorem dX0_leave_0 : decode cX0_leave 0 = .ok (.aload_n 0, 1) := by decide +kernel
theorem dX0_leave_1 : decode cX0_leave 1 = .ok (.getfield 15, 3) := by decide +kernel
theorem dX0_leave_4 : decode cX0_leave 4 = .ok (.bipush 16, 2) := by decide +kernel
theorem dX0_leave_6 : decode cX0_leave 6 = .ok (.if_icmp .ge 23, 3) := by decide +kernel
theorem dX0_leave_9 : decode cX0_leave 9 = .ok (.aload_n 0, 1) := by decide +kernel
theorem dX0_leave_10 : decode cX0_leave 10 = .ok (.getfield 9, 3) := by decide +kernel
theorem dX0_leave_13 : decode cX0_leave 13 = .ok (.aload_n 0, 1) := by decide +kernel
theorem dX0_leave_14 : decode cX0_leave 14 = .ok (.getfield 15, 3) := by decide +kernel
theorem dX0_leave_17 : decode cX0_leave 17 = .ok (.iload_n 1, 1) := by decide +kernel
theorem dX0_leave_18 : decode cX0_leave 18 = .ok (.iastore, 1) := by decide +kernel
theorem dX0_leave_19 : decode cX0_leave 19 = .ok (.aload_n 0, 1) := by decide +kernel
theorem dX0_leave_20 : decode cX0_leave 20 = .ok (.dup, 1) := by decide +kernel
theorem dX0_leave_21 : decode cX0_leave 21 = .ok (.getfield 15, 3) := by decide +kernel
theorem dX0_leave_24 : decode cX0_leave 24 = .ok (.iconst 1, 1) := by decide +kernel
theorem dX0_leave_25 : decode cX0_leave 25 = .ok (.iadd, 1) := by decide +kernel
theorem dX0_leave_26 : decode cX0_leave 26 = .ok (.putfield 15, 3) := by decide +kernel
theorem dX0_leave_29 : decode cX0_leave 29 = .ok (.return_, 1) := by decide +kernel
theorem dX1_init_0 : decode cX1_init 0 = .ok (.aload_n 0, 1) := by decide +kernel
theorem dX1_init_1 : decode cX1_init 1 = .ok (.invokespecial 3, 3) := by decide +kernel
theorem dX1_init_4 : decode cX1_init 4 = .ok (.aload_n 0, 1) := by decide +kernel
theorem dX1_init_5 : decode cX1_init 5 = .ok (.new 9, 3) := by decide +kernel
theorem dX1_init_8 : decode cX1_init 8 = .ok (.dup, 1) := by decide +kernel
theorem dX1_init_9 : decode cX1_init 9 = .ok (.invokespecial 11, 3) := by decide +kernel
theorem dX1_init_12 : decode cX1_init 12 = .ok (.putfield 12, 3) := by decide +kernel
theorem dX1_init_15 : decode cX1_init 15 = .ok (.aload_n 0, 1) := by decide +kernel
theorem dX1_init_16 : decode cX1_init 16 = .ok (.bipush 9, 2) := by decide +kernel
theorem dX1_init_18 : decode cX1_init 18 = .ok (.anewarray 9, 3) := by decide +kernel
theorem dX1_init_21 : decode cX1_init 21 = .ok (.putfield 18, 3) := by decide +kernel
theorem dX1_init_24 : decode cX1_init 24 = .ok (.aload_n 0, 1) := by decide +kernel
theorem dX1_init_25 : decode cX1_init 25 = .ok (.bipush 12, 2) := by decide +kernel
theorem dX1_init_27 : decode cX1_init 27 = .ok (.newarray .int, 2) := by decide +kernel
theorem dX1_init_29 : decode cX1_init 29 = .ok (.putfield 22, 3) := by decide +kernel
theorem dX1_init_32 : decode cX1_init 32 = .ok (.iconst 0, 1) := by decide +kernel
theorem dX1_init_33 : decode cX1_init 33 = .ok (.istore_n 1, 1) := by decide +kernel
theorem dX1_init_34 : decode cX1_init 34 = .ok (.iload_n 1, 1) := by decide +kernel
theorem dX1_init_35 : decode cX1_init 35 = .ok (.aload_n 0, 1) := by decide +kernel
theorem dX1_init_36 : decode cX1_init 36 = .ok (.getfield 18, 3) := by decide +kernel
theorem dX1_init_39 : decode cX1_init 39 = .ok (.arraylength, 1) := by decide +kernel
theorem dX1_init_40 : decode cX1_init 40 = .ok (.if_icmp .ge 22, 3) := by decide +kernel
theorem dX1_init_43 : decode cX1_init 43 = .ok (.aload_n 0, 1) := by decide +kernel
theorem dX1_init_44 : decode cX1_init 44 = .ok (.getfield 18, 3) := by decide +kernel
theorem dX1_init_47 : decode cX1_init 47 = .ok (.iload_n 1, 1) := by decide +kernel
theorem dX1_init_48 : decode cX1_init 48 = .ok (.new 9, 3) := by decide +kernel
theorem dX1_init_51 : decode cX1_init 51 = .ok (.dup, 1) := by decide +kernel
theorem dX1_init_52 : decode cX1_init 52 = .ok (.invokespecial 11, 3) := by decide +kernel
theorem dX1_init_55 : decode cX1_init 55 = .ok (.aastore, 1) := by decide +kernel
theorem dX1_init_56 : decode cX1_init 56 = .ok (.iinc 1 1, 3) := by decide +kernel
theorem dX1_init_59 : decode cX1_init 59 = .ok (.goto (-25), 3) := by decide +kernel
theorem dX1_init_62 : decode cX1_init 62 = .ok (.return_, 1) := by decide +kernel
theorem dX1_after_0 : decode cX1_after 0 = .ok (.aload_n 0, 1) := by decide +kernel
theorem dX1_after_1 : decode cX1_after 1 = .ok (.getfield 12, 3) := by decide +kernel
theorem dX1_after_4 : decode cX1_after 4 = .ok (.aload_n 1, 1) := by decide +kernel
theorem dX1_after_5 : decode cX1_after 5 = .ok (.invokevirtual 26, 3) := by decide +kernel
theorem dX1_after_8 : decode cX1_after 8 = .ok (.aload_n 0, 1) := by decide +kernel
theorem dX1_after_9 : decode cX1_after 9 = .ok (.getfield 12, 3) := by decide +kernel
theorem dX1_after_12 : decode cX1_after 12 = .ok (.iload_n 2, 1) := by decide +kernel
theorem dX1_after_13 : decode cX1_after 13 = .ok (.invokevirtual 30, 3) := by decide +kernel
theorem dX1_after_16 : decode cX1_after 16 = .ok (.aload_n 0, 1) := by decide +kernel
theorem dX1_after_17 : decode cX1_after 17 = .ok (.getfield 12, 3) := by decide +kernel
theorem dX1_after_20 : decode cX1_after 20 = .ok (.areturn, 1) := by decide +kernel
theorem dX1_firstAsleep_0 : decode cX1_firstAsleep 0 = .ok (.aload_n 0, 1) := by decide +kernel
theorem dX1_firstAsleep_1 : decode cX1_firstAsleep 1 = .ok (.getfield 12, 3) := by decide +kernel
theorem dX1_firstAsleep_4 : decode cX1_firstAsleep 4 = .ok (.aload_n 1, 1) := by decide +kernel
theorem dX1_firstAsleep_5 : decode cX1_firstAsleep 5 = .ok (.invokevirtual 26, 3) := by decide +kernel
theorem dX1_firstAsleep_8 : decode cX1_firstAsleep 8 = .ok (.iconst 0, 1) := by decide +kernel
theorem dX1_firstAsleep_9 : decode cX1_firstAsleep 9 = .ok (.istore_n 3, 1) := by decide +kernel
theorem dX1_firstAsleep_10 : decode cX1_firstAsleep 10 = .ok (.iload_n 3, 1) := by decide +kernel
theorem dX1_firstAsleep_11 : decode cX1_firstAsleep 11 = .ok (.bipush 60, 2) := by decide +kernel
theorem dX1_firstAsleep_13 : decode cX1_firstAsleep 13 = .ok (.if_icmp .ge 35, 3) := by decide +kernel
theorem dX1_firstAsleep_16 : decode cX1_firstAsleep 16 = .ok (.aload_n 0, 1) := by decide +kernel
theorem dX1_firstAsleep_17 : decode cX1_firstAsleep 17 = .ok (.getfield 12, 3) := by decide +kernel
theorem dX1_firstAsleep_20 : decode cX1_firstAsleep 20 = .ok (.iload_n 2, 1) := by decide +kernel
theorem dX1_firstAsleep_21 : decode cX1_firstAsleep 21 = .ok (.invokevirtual 34, 3) := by decide +kernel
theorem dX1_firstAsleep_24 : decode cX1_firstAsleep 24 = .ok (.ifCond .eq 5, 3) := by decide +kernel
theorem dX1_firstAsleep_27 : decode cX1_firstAsleep 27 = .ok (.iload_n 3, 1) := by decide +kernel
theorem dX1_firstAsleep_28 : decode cX1_firstAsleep 28 = .ok (.ireturn, 1) := by decide +kernel
theorem dX1_firstAsleep_29 : decode cX1_firstAsleep 29 = .ok (.aload_n 0, 1) := by decide +kernel
theorem dX1_firstAsleep_30 : decode cX1_firstAsleep 30 = .ok (.getfield 12, 3) := by decide +kernel
theorem dX1_firstAsleep_33 : decode cX1_firstAsleep 33 = .ok (.invokevirtual 38, 3) := by decide +kernel
theorem dX1_firstAsleep_36 : decode cX1_firstAsleep 36 = .ok (.ifCond .ne 6, 3) := by decide +kernel
theorem dX1_firstAsleep_39 : decode cX1_firstAsleep 39 = .ok (.ldc 42, 2) := by decide +kernel
theorem dX1_firstAsleep_41 : decode cX1_firstAsleep 41 = .ok (.ireturn, 1) := by decide +kernel
theorem dX1_firstAsleep_42 : decode cX1_firstAsleep 42 = .ok (.iinc 3 1, 3) := by decide +kernel
theorem dX1_firstAsleep_45 : decode cX1_firstAsleep 45 = .ok (.goto (-35), 3) := by decide +kernel
theorem dX1_firstAsleep_48 : decode cX1_firstAsleep 48 = .ok (.aload_n 0, 1) := by decide +kernel
theorem dX1_firstAsleep_49 : decode cX1_firstAsleep 49 = .ok (.getfield 12, 3) := by decide +kernel
theorem dX1_firstAsleep_52 : decode cX1_firstAsleep 52 = .ok (.iload_n 2, 1) := by decide +kernel
theorem dX1_firstAsleep_53 : decode cX1_firstAsleep 53 = .ok (.invokevirtual 34, 3) := by decide +kernel
theorem dX1_firstAsleep_56 : decode cX1_firstAsleep 56 = .ok (.ifCond .eq 8, 3) := by decide +kernel
theorem dX1_firstAsleep_59 : decode cX1_firstAsleep 59 = .ok (.bipush 60, 2) := by decide +kernel
theorem dX1_firstAsleep_61 : decode cX1_firstAsleep 61 = .ok (.goto 5, 3) := by decide +kernel
theorem dX1_firstAsleep_64 : decode cX1_firstAsleep 64 = .ok (.ldc 42, 2) := by decide +kernel
theorem dX1_firstAsleep_66 : decode cX1_firstAsleep 66 = .ok (.ireturn, 1) := by decide +kernel
theorem dX1_longestDinner_0 : decode cX1_longestDinner 0 = .ok (.aload_n 0, 1) := by decide +kernel
theorem dX1_longestDinner_1 : decode cX1_longestDinner 1 = .ok (.getfield 12, 3) := by decide +kernel
theorem dX1_longestDinner_4 : decode cX1_longestDinner 4 = .ok (.aload_n 1, 1) := by decide +kernel
theorem dX1_longestDinner_5 : decode cX1_longestDinner 5 = .ok (.invokevirtual 26, 3) := by decide +kernel
theorem dX1_longestDinner_8 : decode cX1_longestDinner 8 = .ok (.aload_n 1, 1) := by decide +kernel
theorem dX1_longestDinner_9 : decode cX1_longestDinner 9 = .ok (.invokevirtual 43, 3) := by decide +kernel
theorem dX1_longestDinner_12 : decode cX1_longestDinner 12 = .ok (.aload_n 1, 1) := by decide +kernel
theorem dX1_longestDinner_13 : decode cX1_longestDinner 13 = .ok (.getfield 47, 3) := by decide +kernel
theorem dX1_longestDinner_16 : decode cX1_longestDinner 16 = .ok (.iconst (-1), 1) := by decide +kernel
theorem dX1_longestDinner_17 : decode cX1_longestDinner 17 = .ok (.ixor, 1) := by decide +kernel
theorem dX1_longestDinner_18 : decode cX1_longestDinner 18 = .ok (.iand, 1) := by decide +kernel
theorem dX1_longestDinner_19 : decode cX1_longestDinner 19 = .ok (.istore_n 3, 1) := by decide +kernel
theorem dX1_longestDinner_20 : decode cX1_longestDinner 20 = .ok (.iconst 0, 1) := by decide +kernel
theorem dX1_longestDinner_21 : decode cX1_longestDinner 21 = .ok (.istore 4, 2) := by decide +kernel
theorem dX1_longestDinner_23 : decode cX1_longestDinner 23 = .ok (.iconst 0, 1) := by decide +kernel
theorem dX1_longestDinner_24 : decode cX1_longestDinner 24 = .ok (.istore 5, 2) := by decide +kernel
theorem dX1_longestDinner_26 : decode cX1_longestDinner 26 = .ok (.iconst 0, 1) := by decide +kernel
theorem dX1_longestDinner_27 : decode cX1_longestDinner 27 = .ok (.istore 6, 2) := by decide +kernel
theorem dX1_longestDinner_29 : decode cX1_longestDinner 29 = .ok (.iload 6, 2) := by decide +kernel
theorem dX1_longestDinner_31 : decode cX1_longestDinner 31 = .ok (.iload_n 2, 1) := by decide +kernel
theorem dX1_longestDinner_32 : decode cX1_longestDinner 32 = .ok (.if_icmp .ge 47, 3) := by decide +kernel
theorem dX1_longestDinner_35 : decode cX1_longestDinner 35 = .ok (.aload_n 0, 1) := by decide +kernel
theorem dX1_longestDinner_36 : decode cX1_longestDinner 36 = .ok (.getfield 12, 3) := by decide +kernel
theorem dX1_longestDinner_39 : decode cX1_longestDinner 39 = .ok (.invokevirtual 38, 3) := by decide +kernel
theorem dX1_longestDinner_42 : decode cX1_longestDinner 42 = .ok (.pop, 1) := by decide +kernel
theorem dX1_longestDinner_43 : decode cX1_longestDinner 43 = .ok (.aload_n 0, 1) := by decide +kernel
theorem dX1_longestDinner_44 : decode cX1_longestDinner 44 = .ok (.getfield 12, 3) := by decide +kernel
theorem dX1_longestDinner_47 : decode cX1_longestDinner 47 = .ok (.iload_n 3, 1) := by decide +kernel
theorem dX1_longestDinner_48 : decode cX1_longestDinner 48 = .ok (.invokevirtual 34, 3) := by decide +kernel
theorem dX1_longestDinner_51 : decode cX1_longestDinner 51 = .ok (.ifCond .eq 10, 3) := by decide +kernel
theorem dX1_longestDinner_54 : decode cX1_longestDinner 54 = .ok (.iload 5, 2) := by decide +kernel
theorem dX1_longestDinner_56 : decode cX1_longestDinner 56 = .ok (.iconst 1, 1) := by decide +kernel
theorem dX1_longestDinner_57 : decode cX1_longestDinner 57 = .ok (.iadd, 1) := by decide +kernel
theorem dX1_longestDinner_58 : decode cX1_longestDinner 58 = .ok (.goto 4, 3) := by decide +kernel
theorem dX1_longestDinner_61 : decode cX1_longestDinner 61 = .ok (.iconst 0, 1) := by decide +kernel
theorem dX1_longestDinner_62 : decode cX1_longestDinner 62 = .ok (.istore 5, 2) := by decide +kernel
theorem dX1_longestDinner_64 : decode cX1_longestDinner 64 = .ok (.iload 4, 2) := by decide +kernel
theorem dX1_longestDinner_66 : decode cX1_longestDinner 66 = .ok (.iload 5, 2) := by decide +kernel
theorem dX1_longestDinner_68 : decode cX1_longestDinner 68 = .ok (.invokestatic 51, 3) := by decide +kernel
theorem dX1_longestDinner_71 : decode cX1_longestDinner 71 = .ok (.istore 4, 2) := by decide +kernel
theorem dX1_longestDinner_73 : decode cX1_longestDinner 73 = .ok (.iinc 6 1, 3) := by decide +kernel
theorem dX1_longestDinner_76 : decode cX1_longestDinner 76 = .ok (.goto (-47), 3) := by decide +kernel
theorem dX1_longestDinner_79 : decode cX1_longestDinner 79 = .ok (.iload 4, 2) := by decide +kernel
theorem dX1_longestDinner_81 : decode cX1_longestDinner 81 = .ok (.ireturn, 1) := by decide +kernel
theorem dX1_planHands_0 : decode cX1_planHands 0 = .ok (.aload_n 0, 1) := by decide +kernel
theorem dX1_planHands_1 : decode cX1_planHands 1 = .ok (.iconst (-1), 1) := by decide +kernel
theorem dX1_planHands_2 : decode cX1_planHands 2 = .ok (.putfield 57, 3) := by decide +kernel
theorem dX1_planHands_5 : decode cX1_planHands 5 = .ok (.iconst 0, 1) := by decide +kernel
theorem dX1_planHands_6 : decode cX1_planHands 6 = .ok (.istore_n 3, 1) := by decide +kernel
theorem dX1_planHands_7 : decode cX1_planHands 7 = .ok (.iload_n 3, 1) := by decide +kernel
theorem dX1_planHands_8 : decode cX1_planHands 8 = .ok (.aload_n 1, 1) := by decide +kernel
theorem dX1_planHands_9 : decode cX1_planHands 9 = .ok (.invokevirtual 43, 3) := by decide +kernel
theorem dX1_planHands_12 : decode cX1_planHands 12 = .ok (.if_icmp .gt 60, 3) := by decide +kernel
theorem dX1_planHands_15 : decode cX1_planHands 15 = .ok (.iload_n 3, 1) := by decide +kernel
theorem dX1_planHands_16 : decode cX1_planHands 16 = .ok (.invokestatic 60, 3) := by decide +kernel
theorem dX1_planHands_19 : decode cX1_planHands 19 = .ok (.aload_n 1, 1) := by decide +kernel
theorem dX1_planHands_20 : decode cX1_planHands 20 = .ok (.getfield 66, 3) := by decide +kernel
theorem dX1_planHands_23 : decode cX1_planHands 23 = .ok (.if_icmp .gt 43, 3) := by decide +kernel
theorem dX1_planHands_26 : decode cX1_planHands 26 = .ok (.aload_n 0, 1) := by decide +kernel
theorem dX1_planHands_27 : decode cX1_planHands 27 = .ok (.getfield 12, 3) := by decide +kernel
theorem dX1_planHands_30 : decode cX1_planHands 30 = .ok (.aload_n 1, 1) := by decide +kernel
theorem dX1_planHands_31 : decode cX1_planHands 31 = .ok (.invokevirtual 26, 3) := by decide +kernel
theorem dX1_planHands_34 : decode cX1_planHands 34 = .ok (.aload_n 0, 1) := by decide +kernel
theorem dX1_planHands_35 : decode cX1_planHands 35 = .ok (.getfield 12, 3) := by decide +kernel
theorem dX1_planHands_38 : decode cX1_planHands 38 = .ok (.iload_n 3, 1) := by decide +kernel
theorem dX1_planHands_39 : decode cX1_planHands 39 = .ok (.putfield 69, 3) := by decide +kernel
theorem dX1_planHands_42 : decode cX1_planHands 42 = .ok (.aload_n 0, 1) := by decide +kernel
theorem dX1_planHands_43 : decode cX1_planHands 43 = .ok (.getfield 12, 3) := by decide +kernel
theorem dX1_planHands_46 : decode cX1_planHands 46 = .ok (.iload_n 2, 1) := by decide +kernel
theorem dX1_planHands_47 : decode cX1_planHands 47 = .ok (.invokevirtual 30, 3) := by decide +kernel
theorem dX1_planHands_50 : decode cX1_planHands 50 = .ok (.aload_n 0, 1) := by decide +kernel
theorem dX1_planHands_51 : decode cX1_planHands 51 = .ok (.iload_n 3, 1) := by decide +kernel
theorem dX1_planHands_52 : decode cX1_planHands 52 = .ok (.aload_n 0, 1) := by decide +kernel
theorem dX1_planHands_53 : decode cX1_planHands 53 = .ok (.getfield 12, 3) := by decide +kernel
theorem dX1_planHands_56 : decode cX1_planHands 56 = .ok (.iconst 2, 1) := by decide +kernel
theorem dX1_planHands_57 : decode cX1_planHands 57 = .ok (.invokevirtual 72, 3) := by decide +kernel
theorem dX1_planHands_60 : decode cX1_planHands 60 = .ok (.invokestatic 60, 3) := by decide +kernel
theorem dX1_planHands_63 : decode cX1_planHands 63 = .ok (.invokevirtual 75, 3) := by decide +kernel
theorem dX1_planHands_66 : decode cX1_planHands 66 = .ok (.iinc 3 1, 3) := by decide +kernel
theorem dX1_planHands_69 : decode cX1_planHands 69 = .ok (.goto (-62), 3) := by decide +kernel
theorem dX1_planHands_72 : decode cX1_planHands 72 = .ok (.return_, 1) := by decide +kernel
theorem dX1_weighHands_0 : decode cX1_weighHands 0 = .ok (.iload_n 1, 1) := by decide +kernel
theorem dX1_weighHands_1 : decode cX1_weighHands 1 = .ok (.invokestatic 60, 3) := by decide +kernel
theorem dX1_weighHands_4 : decode cX1_weighHands 4 = .ok (.aload_n 0, 1) := by decide +kernel
theorem dX1_weighHands_5 : decode cX1_weighHands 5 = .ok (.getfield 79, 3) := by decide +kernel
theorem dX1_weighHands_8 : decode cX1_weighHands 8 = .ok (.invokestatic 60, 3) := by decide +kernel
theorem dX1_weighHands_11 : decode cX1_weighHands 11 = .ok (.if_icmp .ge 7, 3) := by decide +kernel
theorem dX1_weighHands_14 : decode cX1_weighHands 14 = .ok (.iconst 1, 1) := by decide +kernel
theorem dX1_weighHands_15 : decode cX1_weighHands 15 = .ok (.goto 4, 3) := by decide +kernel
theorem dX1_weighHands_18 : decode cX1_weighHands 18 = .ok (.iconst 0, 1) := by decide +kernel
theorem dX1_weighHands_19 : decode cX1_weighHands 19 = .ok (.istore_n 3, 1) := by decide +kernel
theorem dX1_weighHands_20 : decode cX1_weighHands 20 = .ok (.iload_n 2, 1) := by decide +kernel
theorem dX1_weighHands_21 : decode cX1_weighHands 21 = .ok (.aload_n 0, 1) := by decide +kernel
theorem dX1_weighHands_22 : decode cX1_weighHands 22 = .ok (.getfield 57, 3) := by decide +kernel
theorem dX1_weighHands_25 : decode cX1_weighHands 25 = .ok (.if_icmp .gt 15, 3) := by decide +kernel
theorem dX1_weighHands_28 : decode cX1_weighHands 28 = .ok (.iload_n 2, 1) := by decide +kernel
theorem dX1_weighHands_29 : decode cX1_weighHands 29 = .ok (.aload_n 0, 1) := by decide +kernel
theorem dX1_weighHands_30 : decode cX1_weighHands 30 = .ok (.getfield 57, 3) := by decide +kernel
theorem dX1_weighHands_33 : decode cX1_weighHands 33 = .ok (.if_icmp .ne 17, 3) := by decide +kernel
theorem dX1_weighHands_36 : decode cX1_weighHands 36 = .ok (.iload_n 3, 1) := by decide +kernel
theorem dX1_weighHands_37 : decode cX1_weighHands 37 = .ok (.ifCond .eq 13, 3) := by decide +kernel
theorem dX1_weighHands_40 : decode cX1_weighHands 40 = .ok (.aload_n 0, 1) := by decide +kernel
theorem dX1_weighHands_41 : decode cX1_weighHands 41 = .ok (.iload_n 1, 1) := by decide +kernel
theorem dX1_weighHands_42 : decode cX1_weighHands 42 = .ok (.putfield 79, 3) := by decide +kernel
theorem dX1_weighHands_45 : decode cX1_weighHands 45 = .ok (.aload_n 0, 1) := by decide +kernel
theorem dX1_weighHands_46 : decode cX1_weighHands 46 = .ok (.iload_n 2, 1) := by decide +kernel
theorem dX1_weighHands_47 : decode cX1_weighHands 47 = .ok (.putfield 57, 3) := by decide +kernel
theorem dX1_weighHands_50 : decode cX1_weighHands 50 = .ok (.return_, 1) := by decide +kernel
theorem dX1_fewestOut_0 : decode cX1_fewestOut 0 = .ok (.aload_n 1, 1) := by decide +kernel
theorem dX1_fewestOut_1 : decode cX1_fewestOut 1 = .ok (.invokevirtual 43, 3) := by decide +kernel
theorem dX1_fewestOut_4 : decode cX1_fewestOut 4 = .ok (.aload_n 1, 1) := by decide +kernel
theorem dX1_fewestOut_5 : decode cX1_fewestOut 5 = .ok (.getfield 47, 3) := by decide +kernel
theorem dX1_fewestOut_8 : decode cX1_fewestOut 8 = .ok (.iconst (-1), 1) := by decide +kernel
theorem dX1_fewestOut_9 : decode cX1_fewestOut 9 = .ok (.ixor, 1) := by decide +kernel
theorem dX1_fewestOut_10 : decode cX1_fewestOut 10 = .ok (.iand, 1) := by decide +kernel
theorem dX1_fewestOut_11 : decode cX1_fewestOut 11 = .ok (.istore_n 3, 1) := by decide +kernel
theorem dX1_fewestOut_12 : decode cX1_fewestOut 12 = .ok (.iconst 0, 1) := by decide +kernel
theorem dX1_fewestOut_13 : decode cX1_fewestOut 13 = .ok (.istore 4, 2) := by decide +kernel
theorem dX1_fewestOut_15 : decode cX1_fewestOut 15 = .ok (.iload 4, 2) := by decide +kernel
theorem dX1_fewestOut_17 : decode cX1_fewestOut 17 = .ok (.aload_n 1, 1) := by decide +kernel
theorem dX1_fewestOut_18 : decode cX1_fewestOut 18 = .ok (.invokevirtual 43, 3) := by decide +kernel
theorem dX1_fewestOut_21 : decode cX1_fewestOut 21 = .ok (.if_icmp .gt 95, 3) := by decide +kernel
theorem dX1_fewestOut_24 : decode cX1_fewestOut 24 = .ok (.iload 4, 2) := by decide +kernel
theorem dX1_fewestOut_26 : decode cX1_fewestOut 26 = .ok (.aload_n 1, 1) := by decide +kernel
theorem dX1_fewestOut_27 : decode cX1_fewestOut 27 = .ok (.getfield 47, 3) := by decide +kernel
theorem dX1_fewestOut_30 : decode cX1_fewestOut 30 = .ok (.iand, 1) := by decide +kernel
theorem dX1_fewestOut_31 : decode cX1_fewestOut 31 = .ok (.ifCond .ne 79, 3) := by decide +kernel
theorem dX1_fewestOut_34 : decode cX1_fewestOut 34 = .ok (.iload 4, 2) := by decide +kernel
theorem dX1_fewestOut_36 : decode cX1_fewestOut 36 = .ok (.invokestatic 60, 3) := by decide +kernel
theorem dX1_fewestOut_39 : decode cX1_fewestOut 39 = .ok (.iload_n 3, 1) := by decide +kernel
theorem dX1_fewestOut_40 : decode cX1_fewestOut 40 = .ok (.invokestatic 60, 3) := by decide +kernel
theorem dX1_fewestOut_43 : decode cX1_fewestOut 43 = .ok (.if_icmp .ge 67, 3) := by decide +kernel
theorem dX1_fewestOut_46 : decode cX1_fewestOut 46 = .ok (.aload_n 0, 1) := by decide +kernel
theorem dX1_fewestOut_47 : decode cX1_fewestOut 47 = .ok (.getfield 12, 3) := by decide +kernel
theorem dX1_fewestOut_50 : decode cX1_fewestOut 50 = .ok (.aload_n 1, 1) := by decide +kernel
theorem dX1_fewestOut_51 : decode cX1_fewestOut 51 = .ok (.invokevirtual 26, 3) := by decide +kernel
theorem dX1_fewestOut_54 : decode cX1_fewestOut 54 = .ok (.aload_n 0, 1) := by decide +kernel
theorem dX1_fewestOut_55 : decode cX1_fewestOut 55 = .ok (.getfield 12, 3) := by decide +kernel
theorem dX1_fewestOut_58 : decode cX1_fewestOut 58 = .ok (.dup, 1) := by decide +kernel
theorem dX1_fewestOut_59 : decode cX1_fewestOut 59 = .ok (.getfield 47, 3) := by decide +kernel
theorem dX1_fewestOut_62 : decode cX1_fewestOut 62 = .ok (.iload 4, 2) := by decide +kernel
theorem dX1_fewestOut_64 : decode cX1_fewestOut 64 = .ok (.ior, 1) := by decide +kernel
theorem dX1_fewestOut_65 : decode cX1_fewestOut 65 = .ok (.putfield 47, 3) := by decide +kernel
theorem dX1_fewestOut_68 : decode cX1_fewestOut 68 = .ok (.aload_n 0, 1) := by decide +kernel
theorem dX1_fewestOut_69 : decode cX1_fewestOut 69 = .ok (.getfield 12, 3) := by decide +kernel
theorem dX1_fewestOut_72 : decode cX1_fewestOut 72 = .ok (.iload_n 2, 1) := by decide +kernel
theorem dX1_fewestOut_73 : decode cX1_fewestOut 73 = .ok (.invokevirtual 30, 3) := by decide +kernel
theorem dX1_fewestOut_76 : decode cX1_fewestOut 76 = .ok (.aload_n 0, 1) := by decide +kernel
theorem dX1_fewestOut_77 : decode cX1_fewestOut 77 = .ok (.getfield 12, 3) := by decide +kernel
theorem dX1_fewestOut_80 : decode cX1_fewestOut 80 = .ok (.aload_n 0, 1) := by decide +kernel
theorem dX1_fewestOut_81 : decode cX1_fewestOut 81 = .ok (.getfield 12, 3) := by decide +kernel
theorem dX1_fewestOut_84 : decode cX1_fewestOut 84 = .ok (.invokevirtual 43, 3) := by decide +kernel
theorem dX1_fewestOut_87 : decode cX1_fewestOut 87 = .ok (.aload_n 0, 1) := by decide +kernel
theorem dX1_fewestOut_88 : decode cX1_fewestOut 88 = .ok (.getfield 12, 3) := by decide +kernel
theorem dX1_fewestOut_91 : decode cX1_fewestOut 91 = .ok (.getfield 47, 3) := by decide +kernel
theorem dX1_fewestOut_94 : decode cX1_fewestOut 94 = .ok (.iconst (-1), 1) := by decide +kernel
theorem dX1_fewestOut_95 : decode cX1_fewestOut 95 = .ok (.ixor, 1) := by decide +kernel
theorem dX1_fewestOut_96 : decode cX1_fewestOut 96 = .ok (.iand, 1) := by decide +kernel
theorem dX1_fewestOut_97 : decode cX1_fewestOut 97 = .ok (.invokevirtual 34, 3) := by decide +kernel
theorem dX1_fewestOut_100 : decode cX1_fewestOut 100 = .ok (.ifCond .eq 8, 3) := by decide +kernel
theorem dX1_fewestOut_103 : decode cX1_fewestOut 103 = .ok (.iload 4, 2) := by decide +kernel
theorem dX1_fewestOut_105 : decode cX1_fewestOut 105 = .ok (.goto 4, 3) := by decide +kernel
theorem dX1_fewestOut_108 : decode cX1_fewestOut 108 = .ok (.iload_n 3, 1) := by decide +kernel
theorem dX1_fewestOut_109 : decode cX1_fewestOut 109 = .ok (.istore_n 3, 1) := by decide +kernel
theorem dX1_fewestOut_110 : decode cX1_fewestOut 110 = .ok (.iinc 4 1, 3) := by decide +kernel
theorem dX1_fewestOut_113 : decode cX1_fewestOut 113 = .ok (.goto (-98), 3) := by decide +kernel
theorem dX1_fewestOut_116 : decode cX1_fewestOut 116 = .ok (.iload_n 3, 1) := by decide +kernel
theorem dX1_fewestOut_117 : decode cX1_fewestOut 117 = .ok (.ireturn, 1) := by decide +kernel
theorem dX1_planChange_0 : decode cX1_planChange 0 = .ok (.aload_n 0, 1) := by decide +kernel
theorem dX1_planChange_1 : decode cX1_planChange 1 = .ok (.iconst (-1), 1) := by decide +kernel
theorem dX1_planChange_2 : decode cX1_planChange 2 = .ok (.putfield 57, 3) := by decide +kernel
theorem dX1_planChange_5 : decode cX1_planChange 5 = .ok (.iconst 0, 1) := by decide +kernel
theorem dX1_planChange_6 : decode cX1_planChange 6 = .ok (.istore_n 3, 1) := by decide +kernel
theorem dX1_planChange_7 : decode cX1_planChange 7 = .ok (.iload_n 3, 1) := by decide +kernel
theorem dX1_planChange_8 : decode cX1_planChange 8 = .ok (.aload_n 1, 1) := by decide +kernel
theorem dX1_planChange_9 : decode cX1_planChange 9 = .ok (.getfield 82, 3) := by decide +kernel
theorem dX1_planChange_12 : decode cX1_planChange 12 = .ok (.if_icmp .ge 94, 3) := by decide +kernel
theorem dX1_planChange_15 : decode cX1_planChange 15 = .ok (.iload_n 3, 1) := by decide +kernel
theorem dX1_planChange_16 : decode cX1_planChange 16 = .ok (.iconst 1, 1) := by decide +kernel
theorem dX1_planChange_17 : decode cX1_planChange 17 = .ok (.iadd, 1) := by decide +kernel
theorem dX1_planChange_18 : decode cX1_planChange 18 = .ok (.istore 4, 2) := by decide +kernel
theorem dX1_planChange_20 : decode cX1_planChange 20 = .ok (.iload 4, 2) := by decide +kernel
theorem dX1_planChange_22 : decode cX1_planChange 22 = .ok (.aload_n 1, 1) := by decide +kernel
theorem dX1_planChange_23 : decode cX1_planChange 23 = .ok (.getfield 82, 3) := by decide +kernel
theorem dX1_planChange_26 : decode cX1_planChange 26 = .ok (.if_icmp .ge 74, 3) := by decide +kernel
theorem dX1_planChange_29 : decode cX1_planChange 29 = .ok (.aload_n 0, 1) := by decide +kernel
theorem dX1_planChange_30 : decode cX1_planChange 30 = .ok (.getfield 12, 3) := by decide +kernel
theorem dX1_planChange_33 : decode cX1_planChange 33 = .ok (.aload_n 1, 1) := by decide +kernel
theorem dX1_planChange_34 : decode cX1_planChange 34 = .ok (.invokevirtual 26, 3) := by decide +kernel
theorem dX1_planChange_37 : decode cX1_planChange 37 = .ok (.aload_n 0, 1) := by decide +kernel
theorem dX1_planChange_38 : decode cX1_planChange 38 = .ok (.getfield 12, 3) := by decide +kernel
theorem dX1_planChange_41 : decode cX1_planChange 41 = .ok (.iload_n 3, 1) := by decide +kernel
theorem dX1_planChange_42 : decode cX1_planChange 42 = .ok (.iload 4, 2) := by decide +kernel
theorem dX1_planChange_44 : decode cX1_planChange 44 = .ok (.invokevirtual 85, 3) := by decide +kernel
theorem dX1_planChange_47 : decode cX1_planChange 47 = .ok (.aload_n 0, 1) := by decide +kernel
theorem dX1_planChange_48 : decode cX1_planChange 48 = .ok (.getfield 12, 3) := by decide +kernel
theorem dX1_planChange_51 : decode cX1_planChange 51 = .ok (.iload_n 2, 1) := by decide +kernel
theorem dX1_planChange_52 : decode cX1_planChange 52 = .ok (.invokevirtual 30, 3) := by decide +kernel
theorem dX1_planChange_55 : decode cX1_planChange 55 = .ok (.aload_n 0, 1) := by decide +kernel
theorem dX1_planChange_56 : decode cX1_planChange 56 = .ok (.getfield 12, 3) := by decide +kernel
theorem dX1_planChange_59 : decode cX1_planChange 59 = .ok (.iconst 2, 1) := by decide +kernel
theorem dX1_planChange_60 : decode cX1_planChange 60 = .ok (.invokevirtual 72, 3) := by decide +kernel
theorem dX1_planChange_63 : decode cX1_planChange 63 = .ok (.invokestatic 60, 3) := by decide +kernel
theorem dX1_planChange_66 : decode cX1_planChange 66 = .ok (.istore 5, 2) := by decide +kernel
theorem dX1_planChange_68 : decode cX1_planChange 68 = .ok (.iload 5, 2) := by decide +kernel
theorem dX1_planChange_70 : decode cX1_planChange 70 = .ok (.aload_n 0, 1) := by decide +kernel
theorem dX1_planChange_71 : decode cX1_planChange 71 = .ok (.getfield 57, 3) := by decide +kernel
theorem dX1_planChange_74 : decode cX1_planChange 74 = .ok (.if_icmp .le 20, 3) := by decide +kernel
theorem dX1_planChange_77 : decode cX1_planChange 77 = .ok (.aload_n 0, 1) := by decide +kernel
theorem dX1_planChange_78 : decode cX1_planChange 78 = .ok (.bipush 10, 2) := by decide +kernel
theorem dX1_planChange_80 : decode cX1_planChange 80 = .ok (.iload_n 3, 1) := by decide +kernel
theorem dX1_planChange_81 : decode cX1_planChange 81 = .ok (.imul, 1) := by decide +kernel
theorem dX1_planChange_82 : decode cX1_planChange 82 = .ok (.iload 4, 2) := by decide +kernel
theorem dX1_planChange_84 : decode cX1_planChange 84 = .ok (.iadd, 1) := by decide +kernel
theorem dX1_planChange_85 : decode cX1_planChange 85 = .ok (.putfield 79, 3) := by decide +kernel
theorem dX1_planChange_88 : decode cX1_planChange 88 = .ok (.aload_n 0, 1) := by decide +kernel
theorem dX1_planChange_89 : decode cX1_planChange 89 = .ok (.iload 5, 2) := by decide +kernel
theorem dX1_planChange_91 : decode cX1_planChange 91 = .ok (.putfield 57, 3) := by decide +kernel
theorem dX1_planChange_94 : decode cX1_planChange 94 = .ok (.iinc 4 1, 3) := by decide +kernel
theorem dX1_planChange_97 : decode cX1_planChange 97 = .ok (.goto (-77), 3) := by decide +kernel
theorem dX1_planChange_100 : decode cX1_planChange 100 = .ok (.iinc 3 1, 3) := by decide +kernel
theorem dX1_planChange_103 : decode cX1_planChange 103 = .ok (.goto (-96), 3) := by decide +kernel
theorem dX1_planChange_106 : decode cX1_planChange 106 = .ok (.return_, 1) := by decide +kernel
theorem dX1_wokenBy_0 : decode cX1_wokenBy 0 = .ok (.aload_n 0, 1) := by decide +kernel
theorem dX1_wokenBy_1 : decode cX1_wokenBy 1 = .ok (.aload_n 1, 1) := by decide +kernel
theorem dX1_wokenBy_2 : decode cX1_wokenBy 2 = .ok (.iconst 1, 1) := by decide +kernel
theorem dX1_wokenBy_3 : decode cX1_wokenBy 3 = .ok (.invokevirtual 88, 3) := by decide +kernel
theorem dX1_wokenBy_6 : decode cX1_wokenBy 6 = .ok (.iconst 2, 1) := by decide +kernel
theorem dX1_wokenBy_7 : decode cX1_wokenBy 7 = .ok (.invokevirtual 72, 3) := by decide +kernel
theorem dX1_wokenBy_10 : decode cX1_wokenBy 10 = .ok (.istore_n 3, 1) := by decide +kernel
theorem dX1_wokenBy_11 : decode cX1_wokenBy 11 = .ok (.aload_n 0, 1) := by decide +kernel
theorem dX1_wokenBy_12 : decode cX1_wokenBy 12 = .ok (.getfield 12, 3) := by decide +kernel
theorem dX1_wokenBy_15 : decode cX1_wokenBy 15 = .ok (.aload_n 1, 1) := by decide +kernel
theorem dX1_wokenBy_16 : decode cX1_wokenBy 16 = .ok (.invokevirtual 26, 3) := by decide +kernel
theorem dX1_wokenBy_19 : decode cX1_wokenBy 19 = .ok (.aload_n 0, 1) := by decide +kernel
theorem dX1_wokenBy_20 : decode cX1_wokenBy 20 = .ok (.getfield 12, 3) := by decide +kernel
theorem dX1_wokenBy_23 : decode cX1_wokenBy 23 = .ok (.iload_n 2, 1) := by decide +kernel
theorem dX1_wokenBy_24 : decode cX1_wokenBy 24 = .ok (.invokevirtual 92, 3) := by decide +kernel
theorem dX1_wokenBy_27 : decode cX1_wokenBy 27 = .ok (.aload_n 0, 1) := by decide +kernel
theorem dX1_wokenBy_28 : decode cX1_wokenBy 28 = .ok (.getfield 12, 3) := by decide +kernel
theorem dX1_wokenBy_31 : decode cX1_wokenBy 31 = .ok (.invokevirtual 38, 3) := by decide +kernel
theorem dX1_wokenBy_34 : decode cX1_wokenBy 34 = .ok (.pop, 1) := by decide +kernel
theorem dX1_wokenBy_35 : decode cX1_wokenBy 35 = .ok (.iload_n 3, 1) := by decide +kernel
theorem dX1_wokenBy_36 : decode cX1_wokenBy 36 = .ok (.aload_n 0, 1) := by decide +kernel
theorem dX1_wokenBy_37 : decode cX1_wokenBy 37 = .ok (.getfield 12, 3) := by decide +kernel
theorem dX1_wokenBy_40 : decode cX1_wokenBy 40 = .ok (.iconst 2, 1) := by decide +kernel
theorem dX1_wokenBy_41 : decode cX1_wokenBy 41 = .ok (.invokevirtual 72, 3) := by decide +kernel
theorem dX1_wokenBy_44 : decode cX1_wokenBy 44 = .ok (.iconst (-1), 1) := by decide +kernel
theorem dX1_wokenBy_45 : decode cX1_wokenBy 45 = .ok (.ixor, 1) := by decide +kernel
theorem dX1_wokenBy_46 : decode cX1_wokenBy 46 = .ok (.iand, 1) := by decide +kernel
theorem dX1_wokenBy_47 : decode cX1_wokenBy 47 = .ok (.iconst 1, 1) := by decide +kernel
theorem dX1_wokenBy_48 : decode cX1_wokenBy 48 = .ok (.iload_n 2, 1) := by decide +kernel
theorem dX1_wokenBy_49 : decode cX1_wokenBy 49 = .ok (.ishl, 1) := by decide +kernel
theorem dX1_wokenBy_50 : decode cX1_wokenBy 50 = .ok (.iconst (-1), 1) := by decide +kernel
theorem dX1_wokenBy_51 : decode cX1_wokenBy 51 = .ok (.ixor, 1) := by decide +kernel
theorem dX1_wokenBy_52 : decode cX1_wokenBy 52 = .ok (.iand, 1) := by decide +kernel
theorem dX1_wokenBy_53 : decode cX1_wokenBy 53 = .ok (.ireturn, 1) := by decide +kernel
theorem dX1_tell_0 : decode cX1_tell 0 = .ok (.aload_n 0, 1) := by decide +kernel
theorem dX1_tell_1 : decode cX1_tell 1 = .ok (.iconst 0, 1) := by decide +kernel
theorem dX1_tell_2 : decode cX1_tell 2 = .ok (.putfield 95, 3) := by decide +kernel
theorem dX1_tell_5 : decode cX1_tell 5 = .ok (.aload_n 1, 1) := by decide +kernel
theorem dX1_tell_6 : decode cX1_tell 6 = .ok (.iload_n 2, 1) := by decide +kernel
theorem dX1_tell_7 : decode cX1_tell 7 = .ok (.iload_n 3, 1) := by decide +kernel
theorem dX1_tell_8 : decode cX1_tell 8 = .ok (.invokevirtual 98, 3) := by decide +kernel
theorem dX1_tell_11 : decode cX1_tell 11 = .ok (.ifCond .ne 9, 3) := by decide +kernel
theorem dX1_tell_14 : decode cX1_tell 14 = .ok (.iload_n 3, 1) := by decide +kernel
theorem dX1_tell_15 : decode cX1_tell 15 = .ok (.bipush 12, 2) := by decide +kernel
theorem dX1_tell_17 : decode cX1_tell 17 = .ok (.if_icmp .le 4, 3) := by decide +kernel
theorem dX1_tell_20 : decode cX1_tell 20 = .ok (.return_, 1) := by decide +kernel
theorem dX1_tell_21 : decode cX1_tell 21 = .ok (.aload_n 1, 1) := by decide +kernel
theorem dX1_tell_22 : decode cX1_tell 22 = .ok (.getfield 104, 3) := by decide +kernel
theorem dX1_tell_25 : decode cX1_tell 25 = .ok (.iload_n 2, 1) := by decide +kernel
theorem dX1_tell_26 : decode cX1_tell 26 = .ok (.aload_n 0, 1) := by decide +kernel
theorem dX1_tell_27 : decode cX1_tell 27 = .ok (.getfield 22, 3) := by decide +kernel
theorem dX1_tell_30 : decode cX1_tell 30 = .ok (.iconst 0, 1) := by decide +kernel
theorem dX1_tell_31 : decode cX1_tell 31 = .ok (.iload_n 3, 1) := by decide +kernel
theorem dX1_tell_32 : decode cX1_tell 32 = .ok (.invokestatic 107, 3) := by decide +kernel
theorem dX1_tell_35 : decode cX1_tell 35 = .ok (.aload_n 0, 1) := by decide +kernel
theorem dX1_tell_36 : decode cX1_tell 36 = .ok (.iload_n 3, 1) := by decide +kernel
theorem dX1_tell_37 : decode cX1_tell 37 = .ok (.putfield 95, 3) := by decide +kernel
theorem dX1_tell_40 : decode cX1_tell 40 = .ok (.return_, 1) := by decide +kernel
theorem dX1_goesAsTold_0 : decode cX1_goesAsTold 0 = .ok (.iconst 0, 1) := by decide +kernel
theorem dX1_goesAsTold_1 : decode cX1_goesAsTold 1 = .ok (.istore_n 1, 1) := by decide +kernel
theorem dX1_goesAsTold_2 : decode cX1_goesAsTold 2 = .ok (.iload_n 1, 1) := by decide +kernel
theorem dX1_goesAsTold_3 : decode cX1_goesAsTold 3 = .ok (.aload_n 0, 1) := by decide +kernel
theorem dX1_goesAsTold_4 : decode cX1_goesAsTold 4 = .ok (.getfield 95, 3) := by decide +kernel
theorem dX1_goesAsTold_7 : decode cX1_goesAsTold 7 = .ok (.if_icmp .ge 36, 3) := by decide +kernel
theorem dX1_goesAsTold_10 : decode cX1_goesAsTold 10 = .ok (.aload_n 0, 1) := by decide +kernel
theorem dX1_goesAsTold_11 : decode cX1_goesAsTold 11 = .ok (.getfield 12, 3) := by decide +kernel
theorem dX1_goesAsTold_14 : decode cX1_goesAsTold 14 = .ok (.invokevirtual 38, 3) := by decide +kernel
theorem dX1_goesAsTold_17 : decode cX1_goesAsTold 17 = .ok (.pop, 1) := by decide +kernel
theorem dX1_goesAsTold_18 : decode cX1_goesAsTold 18 = .ok (.aload_n 0, 1) := by decide +kernel
theorem dX1_goesAsTold_19 : decode cX1_goesAsTold 19 = .ok (.getfield 12, 3) := by decide +kernel
theorem dX1_goesAsTold_22 : decode cX1_goesAsTold 22 = .ok (.iconst 2, 1) := by decide +kernel
theorem dX1_goesAsTold_23 : decode cX1_goesAsTold 23 = .ok (.invokevirtual 72, 3) := by decide +kernel
theorem dX1_goesAsTold_26 : decode cX1_goesAsTold 26 = .ok (.aload_n 0, 1) := by decide +kernel
theorem dX1_goesAsTold_27 : decode cX1_goesAsTold 27 = .ok (.getfield 22, 3) := by decide +kernel
theorem dX1_goesAsTold_30 : decode cX1_goesAsTold 30 = .ok (.iload_n 1, 1) := by decide +kernel
theorem dX1_goesAsTold_31 : decode cX1_goesAsTold 31 = .ok (.iaload, 1) := by decide +kernel
theorem dX1_goesAsTold_32 : decode cX1_goesAsTold 32 = .ok (.if_icmp .eq 5, 3) := by decide +kernel
theorem dX1_goesAsTold_35 : decode cX1_goesAsTold 35 = .ok (.iconst 0, 1) := by decide +kernel
theorem dX1_goesAsTold_36 : decode cX1_goesAsTold 36 = .ok (.ireturn, 1) := by decide +kernel
theorem dX1_goesAsTold_37 : decode cX1_goesAsTold 37 = .ok (.iinc 1 1, 3) := by decide +kernel
theorem dX1_goesAsTold_40 : decode cX1_goesAsTold 40 = .ok (.goto (-38), 3) := by decide +kernel
theorem dX1_goesAsTold_43 : decode cX1_goesAsTold 43 = .ok (.iconst 1, 1) := by decide +kernel
theorem dX1_goesAsTold_44 : decode cX1_goesAsTold 44 = .ok (.ireturn, 1) := by decide +kernel
theorem dX1_fittingTraits_0 : decode cX1_fittingTraits 0 = .ok (.iload_n 3, 1) := by decide +kernel
theorem dX1_fittingTraits_1 : decode cX1_fittingTraits 1 = .ok (.ifCond .eq 8, 3) := by decide +kernel
theorem dX1_fittingTraits_4 : decode cX1_fittingTraits 4 = .ok (.iload_n 3, 1) := by decide +kernel
theorem dX1_fittingTraits_5 : decode cX1_fittingTraits 5 = .ok (.iconst 1, 1) := by decide +kernel
theorem dX1_fittingTraits_6 : decode cX1_fittingTraits 6 = .ok (.if_icmp .ne 7, 3) := by decide +kernel
theorem dX1_fittingTraits_9 : decode cX1_fittingTraits 9 = .ok (.iconst 1, 1) := by decide +kernel
theorem dX1_fittingTraits_10 : decode cX1_fittingTraits 10 = .ok (.goto 4, 3) := by decide +kernel
theorem dX1_fittingTraits_13 : decode cX1_fittingTraits 13 = .ok (.iconst 0, 1) := by decide +kernel
theorem dX1_fittingTraits_14 : decode cX1_fittingTraits 14 = .ok (.istore 4, 2) := by decide +kernel
theorem dX1_fittingTraits_16 : decode cX1_fittingTraits 16 = .ok (.iload_n 3, 1) := by decide +kernel
theorem dX1_fittingTraits_17 : decode cX1_fittingTraits 17 = .ok (.ifCond .ne 7, 3) := by decide +kernel
theorem dX1_fittingTraits_20 : decode cX1_fittingTraits 20 = .ok (.iconst 5, 1) := by decide +kernel
theorem dX1_fittingTraits_21 : decode cX1_fittingTraits 21 = .ok (.goto 5, 3) := by decide +kernel
theorem dX1_fittingTraits_24 : decode cX1_fittingTraits 24 = .ok (.bipush 9, 2) := by decide +kernel
theorem dX1_fittingTraits_26 : decode cX1_fittingTraits 26 = .ok (.istore 5, 2) := by decide +kernel
theorem dX1_fittingTraits_28 : decode cX1_fittingTraits 28 = .ok (.iconst 0, 1) := by decide +kernel
theorem dX1_fittingTraits_29 : decode cX1_fittingTraits 29 = .ok (.istore 6, 2) := by decide +kernel
theorem dX1_fittingTraits_31 : decode cX1_fittingTraits 31 = .ok (.iload 4, 2) := by decide +kernel
theorem dX1_fittingTraits_33 : decode cX1_fittingTraits 33 = .ok (.istore 7, 2) := by decide +kernel
theorem dX1_fittingTraits_35 : decode cX1_fittingTraits 35 = .ok (.iload 7, 2) := by decide +kernel
theorem dX1_fittingTraits_37 : decode cX1_fittingTraits 37 = .ok (.iload 5, 2) := by decide +kernel
theorem dX1_fittingTraits_39 : decode cX1_fittingTraits 39 = .ok (.if_icmp .gt 45, 3) := by decide +kernel
theorem dX1_fittingTraits_42 : decode cX1_fittingTraits 42 = .ok (.aload_n 0, 1) := by decide +kernel
theorem dX1_fittingTraits_43 : decode cX1_fittingTraits 43 = .ok (.getfield 12, 3) := by decide +kernel
theorem dX1_fittingTraits_46 : decode cX1_fittingTraits 46 = .ok (.aload_n 1, 1) := by decide +kernel
theorem dX1_fittingTraits_47 : decode cX1_fittingTraits 47 = .ok (.invokevirtual 26, 3) := by decide +kernel
theorem dX1_fittingTraits_50 : decode cX1_fittingTraits 50 = .ok (.aload_n 0, 1) := by decide +kernel
theorem dX1_fittingTraits_51 : decode cX1_fittingTraits 51 = .ok (.getfield 12, 3) := by decide +kernel
theorem dX1_fittingTraits_54 : decode cX1_fittingTraits 54 = .ok (.iload_n 3, 1) := by decide +kernel
theorem dX1_fittingTraits_55 : decode cX1_fittingTraits 55 = .ok (.invokestatic 113, 3) := by decide +kernel
theorem dX1_fittingTraits_58 : decode cX1_fittingTraits 58 = .ok (.iload_n 2, 1) := by decide +kernel
theorem dX1_fittingTraits_59 : decode cX1_fittingTraits 59 = .ok (.iload 7, 2) := by decide +kernel
theorem dX1_fittingTraits_61 : decode cX1_fittingTraits 61 = .ok (.iastore, 1) := by decide +kernel
theorem dX1_fittingTraits_62 : decode cX1_fittingTraits 62 = .ok (.aload_n 0, 1) := by decide +kernel
theorem dX1_fittingTraits_63 : decode cX1_fittingTraits 63 = .ok (.invokevirtual 117, 3) := by decide +kernel
theorem dX1_fittingTraits_66 : decode cX1_fittingTraits 66 = .ok (.ifCond .eq 12, 3) := by decide +kernel
theorem dX1_fittingTraits_69 : decode cX1_fittingTraits 69 = .ok (.iload 6, 2) := by decide +kernel
theorem dX1_fittingTraits_71 : decode cX1_fittingTraits 71 = .ok (.iconst 1, 1) := by decide +kernel
theorem dX1_fittingTraits_72 : decode cX1_fittingTraits 72 = .ok (.iload 7, 2) := by decide +kernel
theorem dX1_fittingTraits_74 : decode cX1_fittingTraits 74 = .ok (.ishl, 1) := by decide +kernel
theorem dX1_fittingTraits_75 : decode cX1_fittingTraits 75 = .ok (.ior, 1) := by decide +kernel
theorem dX1_fittingTraits_76 : decode cX1_fittingTraits 76 = .ok (.istore 6, 2) := by decide +kernel
theorem dX1_fittingTraits_78 : decode cX1_fittingTraits 78 = .ok (.iinc 7 1, 3) := by decide +kernel
theorem dX1_fittingTraits_81 : decode cX1_fittingTraits 81 = .ok (.goto (-46), 3) := by decide +kernel
theorem dX1_fittingTraits_84 : decode cX1_fittingTraits 84 = .ok (.iload 6, 2) := by decide +kernel
theorem dX1_fittingTraits_86 : decode cX1_fittingTraits 86 = .ok (.ireturn, 1) := by decide +kernel
theorem dX1_traitsOf_0 : decode cX1_traitsOf 0 = .ok (.iload_n 1, 1) := by decide +kernel
theorem dX1_traitsOf_1 : decode cX1_traitsOf 1 = .ok (.tableswitch 42 0 2 #[27, 32, 37], 27) := by decide +kernel
theorem dX1_traitsOf_28 : decode cX1_traitsOf 28 = .ok (.aload_n 0, 1) := by decide +kernel
theorem dX1_traitsOf_29 : decode cX1_traitsOf 29 = .ok (.getfield 120, 3) := by decide +kernel
theorem dX1_traitsOf_32 : decode cX1_traitsOf 32 = .ok (.areturn, 1) := by decide +kernel
theorem dX1_traitsOf_33 : decode cX1_traitsOf 33 = .ok (.aload_n 0, 1) := by decide +kernel
theorem dX1_traitsOf_34 : decode cX1_traitsOf 34 = .ok (.getfield 123, 3) := by decide +kernel
theorem dX1_traitsOf_37 : decode cX1_traitsOf 37 = .ok (.areturn, 1) := by decide +kernel
theorem dX1_traitsOf_38 : decode cX1_traitsOf 38 = .ok (.aload_n 0, 1) := by decide +kernel
theorem dX1_traitsOf_39 : decode cX1_traitsOf 39 = .ok (.getfield 126, 3) := by decide +kernel
theorem dX1_traitsOf_42 : decode cX1_traitsOf 42 = .ok (.areturn, 1) := by decide +kernel
theorem dX1_traitsOf_43 : decode cX1_traitsOf 43 = .ok (.aload_n 0, 1) := by decide +kernel
theorem dX1_traitsOf_44 : decode cX1_traitsOf 44 = .ok (.getfield 129, 3) := by decide +kernel
theorem dX1_traitsOf_47 : decode cX1_traitsOf 47 = .ok (.areturn, 1) := by decide +kernel
theorem dX1_fittingHands_0 : decode cX1_fittingHands 0 = .ok (.iconst 0, 1) := by decide +kernel
theorem dX1_fittingHands_1 : decode cX1_fittingHands 1 = .ok (.istore_n 2, 1) := by decide +kernel
theorem dX1_fittingHands_2 : decode cX1_fittingHands 2 = .ok (.iconst 0, 1) := by decide +kernel
theorem dX1_fittingHands_3 : decode cX1_fittingHands 3 = .ok (.istore_n 3, 1) := by decide +kernel
theorem dX1_fittingHands_4 : decode cX1_fittingHands 4 = .ok (.iload_n 3, 1) := by decide +kernel
theorem dX1_fittingHands_5 : decode cX1_fittingHands 5 = .ok (.aload_n 1, 1) := by decide +kernel
theorem dX1_fittingHands_6 : decode cX1_fittingHands 6 = .ok (.getfield 82, 3) := by decide +kernel
theorem dX1_fittingHands_9 : decode cX1_fittingHands 9 = .ok (.if_icmp .ge 45, 3) := by decide +kernel
theorem dX1_fittingHands_12 : decode cX1_fittingHands 12 = .ok (.aload_n 0, 1) := by decide +kernel
theorem dX1_fittingHands_13 : decode cX1_fittingHands 13 = .ok (.getfield 12, 3) := by decide +kernel
theorem dX1_fittingHands_16 : decode cX1_fittingHands 16 = .ok (.aload_n 1, 1) := by decide +kernel
theorem dX1_fittingHands_17 : decode cX1_fittingHands 17 = .ok (.invokevirtual 26, 3) := by decide +kernel
theorem dX1_fittingHands_20 : decode cX1_fittingHands 20 = .ok (.aload_n 0, 1) := by decide +kernel
theorem dX1_fittingHands_21 : decode cX1_fittingHands 21 = .ok (.getfield 12, 3) := by decide +kernel
theorem dX1_fittingHands_24 : decode cX1_fittingHands 24 = .ok (.dup, 1) := by decide +kernel
theorem dX1_fittingHands_25 : decode cX1_fittingHands 25 = .ok (.getfield 69, 3) := by decide +kernel
theorem dX1_fittingHands_28 : decode cX1_fittingHands 28 = .ok (.iconst 1, 1) := by decide +kernel
theorem dX1_fittingHands_29 : decode cX1_fittingHands 29 = .ok (.iload_n 3, 1) := by decide +kernel
theorem dX1_fittingHands_30 : decode cX1_fittingHands 30 = .ok (.ishl, 1) := by decide +kernel
theorem dX1_fittingHands_31 : decode cX1_fittingHands 31 = .ok (.ior, 1) := by decide +kernel
theorem dX1_fittingHands_32 : decode cX1_fittingHands 32 = .ok (.putfield 69, 3) := by decide +kernel
theorem dX1_fittingHands_35 : decode cX1_fittingHands 35 = .ok (.aload_n 0, 1) := by decide +kernel
theorem dX1_fittingHands_36 : decode cX1_fittingHands 36 = .ok (.invokevirtual 117, 3) := by decide +kernel
theorem dX1_fittingHands_39 : decode cX1_fittingHands 39 = .ok (.ifCond .eq 9, 3) := by decide +kernel
theorem dX1_fittingHands_42 : decode cX1_fittingHands 42 = .ok (.iload_n 2, 1) := by decide +kernel
theorem dX1_fittingHands_43 : decode cX1_fittingHands 43 = .ok (.iconst 1, 1) := by decide +kernel
theorem dX1_fittingHands_44 : decode cX1_fittingHands 44 = .ok (.iload_n 3, 1) := by decide +kernel
theorem dX1_fittingHands_45 : decode cX1_fittingHands 45 = .ok (.ishl, 1) := by decide +kernel
theorem dX1_fittingHands_46 : decode cX1_fittingHands 46 = .ok (.ior, 1) := by decide +kernel
theorem dX1_fittingHands_47 : decode cX1_fittingHands 47 = .ok (.istore_n 2, 1) := by decide +kernel
theorem dX1_fittingHands_48 : decode cX1_fittingHands 48 = .ok (.iinc 3 1, 3) := by decide +kernel
theorem dX1_fittingHands_51 : decode cX1_fittingHands 51 = .ok (.goto (-47), 3) := by decide +kernel
theorem dX1_fittingHands_54 : decode cX1_fittingHands 54 = .ok (.aload_n 0, 1) := by decide +kernel
theorem dX1_fittingHands_55 : decode cX1_fittingHands 55 = .ok (.getfield 12, 3) := by decide +kernel
theorem dX1_fittingHands_58 : decode cX1_fittingHands 58 = .ok (.aload_n 1, 1) := by decide +kernel
theorem dX1_fittingHands_59 : decode cX1_fittingHands 59 = .ok (.invokevirtual 26, 3) := by decide +kernel
theorem dX1_fittingHands_62 : decode cX1_fittingHands 62 = .ok (.aload_n 0, 1) := by decide +kernel
theorem dX1_fittingHands_63 : decode cX1_fittingHands 63 = .ok (.invokevirtual 117, 3) := by decide +kernel
theorem dX1_fittingHands_66 : decode cX1_fittingHands 66 = .ok (.ifCond .eq 11, 3) := by decide +kernel
theorem dX1_fittingHands_69 : decode cX1_fittingHands 69 = .ok (.iload_n 2, 1) := by decide +kernel
theorem dX1_fittingHands_70 : decode cX1_fittingHands 70 = .ok (.sipush 128, 3) := by decide +kernel
theorem dX1_fittingHands_73 : decode cX1_fittingHands 73 = .ok (.ior, 1) := by decide +kernel
theorem dX1_fittingHands_74 : decode cX1_fittingHands 74 = .ok (.goto 4, 3) := by decide +kernel
theorem dX1_fittingHands_77 : decode cX1_fittingHands 77 = .ok (.iload_n 2, 1) := by decide +kernel
theorem dX1_fittingHands_78 : decode cX1_fittingHands 78 = .ok (.ireturn, 1) := by decide +kernel
theorem dX1_countCases_0 : decode cX1_countCases 0 = .ok (.aload_n 0, 1) := by decide +kernel
theorem dX1_countCases_1 : decode cX1_countCases 1 = .ok (.getfield 18, 3) := by decide +kernel
theorem dX1_countCases_4 : decode cX1_countCases 4 = .ok (.iconst 0, 1) := by decide +kernel
theorem dX1_countCases_5 : decode cX1_countCases 5 = .ok (.aaload, 1) := by decide +kernel
theorem dX1_countCases_6 : decode cX1_countCases 6 = .ok (.aload_n 1, 1) := by decide +kernel
theorem dX1_countCases_7 : decode cX1_countCases 7 = .ok (.invokevirtual 26, 3) := by decide +kernel
theorem dX1_countCases_10 : decode cX1_countCases 10 = .ok (.aload_n 0, 1) := by decide +kernel
theorem dX1_countCases_11 : decode cX1_countCases 11 = .ok (.aload_n 0, 1) := by decide +kernel
theorem dX1_countCases_12 : decode cX1_countCases 12 = .ok (.iconst 0, 1) := by decide +kernel
theorem dX1_countCases_13 : decode cX1_countCases 13 = .ok (.iload_n 2, 1) := by decide +kernel
theorem dX1_countCases_14 : decode cX1_countCases 14 = .ok (.iload_n 3, 1) := by decide +kernel
theorem dX1_countCases_15 : decode cX1_countCases 15 = .ok (.iload 4, 2) := by decide +kernel
theorem dX1_countCases_17 : decode cX1_countCases 17 = .ok (.invokevirtual 132, 3) := by decide +kernel
theorem dX1_countCases_20 : decode cX1_countCases 20 = .ok (.putfield 136, 3) := by decide +kernel
theorem dX1_countCases_23 : decode cX1_countCases 23 = .ok (.aload_n 0, 1) := by decide +kernel
theorem dX1_countCases_24 : decode cX1_countCases 24 = .ok (.lconst 1, 1) := by decide +kernel
theorem dX1_countCases_25 : decode cX1_countCases 25 = .ok (.putfield 140, 3) := by decide +kernel
theorem dX1_countCases_28 : decode cX1_countCases 28 = .ok (.iconst 0, 1) := by decide +kernel
theorem dX1_countCases_29 : decode cX1_countCases 29 = .ok (.istore 5, 2) := by decide +kernel
theorem dX1_countCases_31 : decode cX1_countCases 31 = .ok (.iload 5, 2) := by decide +kernel
theorem dX1_countCases_33 : decode cX1_countCases 33 = .ok (.iload_n 3, 1) := by decide +kernel
theorem dX1_countCases_34 : decode cX1_countCases 34 = .ok (.if_icmp .ge 21, 3) := by decide +kernel
theorem dX1_countCases_37 : decode cX1_countCases 37 = .ok (.aload_n 0, 1) := by decide +kernel
theorem dX1_countCases_38 : decode cX1_countCases 38 = .ok (.dup, 1) := by decide +kernel
theorem dX1_countCases_39 : decode cX1_countCases 39 = .ok (.getfield 140, 3) := by decide +kernel
theorem dX1_countCases_42 : decode cX1_countCases 42 = .ok (.ldc2_w 143, 3) := by decide +kernel
theorem dX1_countCases_45 : decode cX1_countCases 45 = .ok (.lmul, 1) := by decide +kernel
theorem dX1_countCases_46 : decode cX1_countCases 46 = .ok (.putfield 140, 3) := by decide +kernel
theorem dX1_countCases_49 : decode cX1_countCases 49 = .ok (.iinc 5 1, 3) := by decide +kernel
theorem dX1_countCases_52 : decode cX1_countCases 52 = .ok (.goto (-21), 3) := by decide +kernel
theorem dX1_countCases_55 : decode cX1_countCases 55 = .ok (.aload_n 0, 1) := by decide +kernel
theorem dX1_countCases_56 : decode cX1_countCases 56 = .ok (.iload_n 3, 1) := by decide +kernel
theorem dX1_countCases_57 : decode cX1_countCases 57 = .ok (.invokevirtual 145, 3) := by decide +kernel
theorem dX1_countCases_60 : decode cX1_countCases 60 = .ok (.return_, 1) := by decide +kernel
theorem dX1_casesAsleep_0 : decode cX1_casesAsleep 0 = .ok (.aload_n 0, 1) := by decide +kernel
theorem dX1_casesAsleep_1 : decode cX1_casesAsleep 1 = .ok (.getfield 18, 3) := by decide +kernel
theorem dX1_casesAsleep_4 : decode cX1_casesAsleep 4 = .ok (.iload_n 1, 1) := by decide +kernel
theorem dX1_casesAsleep_5 : decode cX1_casesAsleep 5 = .ok (.aaload, 1) := by decide +kernel
theorem dX1_casesAsleep_6 : decode cX1_casesAsleep 6 = .ok (.astore 5, 2) := by decide +kernel
theorem dX1_casesAsleep_8 : decode cX1_casesAsleep 8 = .ok (.iload_n 1, 1) := by decide +kernel
theorem dX1_casesAsleep_9 : decode cX1_casesAsleep 9 = .ok (.iload_n 3, 1) := by decide +kernel
theorem dX1_casesAsleep_10 : decode cX1_casesAsleep 10 = .ok (.if_icmp .ge 9, 3) := by decide +kernel
theorem dX1_casesAsleep_13 : decode cX1_casesAsleep 13 = .ok (.iload_n 1, 1) := by decide +kernel
theorem dX1_casesAsleep_14 : decode cX1_casesAsleep 14 = .ok (.bipush 8, 2) := by decide +kernel
theorem dX1_casesAsleep_16 : decode cX1_casesAsleep 16 = .ok (.if_icmp .lt 30, 3) := by decide +kernel
theorem dX1_casesAsleep_19 : decode cX1_casesAsleep 19 = .ok (.aload 5, 2) := by decide +kernel
theorem dX1_casesAsleep_21 : decode cX1_casesAsleep 21 = .ok (.aload 5, 2) := by decide +kernel
theorem dX1_casesAsleep_23 : decode cX1_casesAsleep 23 = .ok (.invokevirtual 43, 3) := by decide +kernel
theorem dX1_casesAsleep_26 : decode cX1_casesAsleep 26 = .ok (.aload 5, 2) := by decide +kernel
theorem dX1_casesAsleep_28 : decode cX1_casesAsleep 28 = .ok (.getfield 47, 3) := by decide +kernel
theorem dX1_casesAsleep_31 : decode cX1_casesAsleep 31 = .ok (.iconst (-1), 1) := by decide +kernel
theorem dX1_casesAsleep_32 : decode cX1_casesAsleep 32 = .ok (.ixor, 1) := by decide +kernel
theorem dX1_casesAsleep_33 : decode cX1_casesAsleep 33 = .ok (.iand, 1) := by decide +kernel
theorem dX1_casesAsleep_34 : decode cX1_casesAsleep 34 = .ok (.invokevirtual 34, 3) := by decide +kernel
theorem dX1_casesAsleep_37 : decode cX1_casesAsleep 37 = .ok (.ifCond .eq 7, 3) := by decide +kernel
theorem dX1_casesAsleep_40 : decode cX1_casesAsleep 40 = .ok (.lconst 1, 1) := by decide +kernel
theorem dX1_casesAsleep_41 : decode cX1_casesAsleep 41 = .ok (.goto 4, 3) := by decide +kernel
theorem dX1_casesAsleep_44 : decode cX1_casesAsleep 44 = .ok (.lconst 0, 1) := by decide +kernel
theorem dX1_casesAsleep_45 : decode cX1_casesAsleep 45 = .ok (.lreturn, 1) := by decide +kernel
theorem dX1_casesAsleep_46 : decode cX1_casesAsleep 46 = .ok (.aload_n 0, 1) := by decide +kernel
theorem dX1_casesAsleep_47 : decode cX1_casesAsleep 47 = .ok (.getfield 18, 3) := by decide +kernel
theorem dX1_casesAsleep_50 : decode cX1_casesAsleep 50 = .ok (.iload_n 1, 1) := by decide +kernel
theorem dX1_casesAsleep_51 : decode cX1_casesAsleep 51 = .ok (.iconst 1, 1) := by decide +kernel
theorem dX1_casesAsleep_52 : decode cX1_casesAsleep 52 = .ok (.iadd, 1) := by decide +kernel
theorem dX1_casesAsleep_53 : decode cX1_casesAsleep 53 = .ok (.aaload, 1) := by decide +kernel
theorem dX1_casesAsleep_54 : decode cX1_casesAsleep 54 = .ok (.astore 6, 2) := by decide +kernel
theorem dX1_casesAsleep_56 : decode cX1_casesAsleep 56 = .ok (.aload 6, 2) := by decide +kernel
theorem dX1_casesAsleep_58 : decode cX1_casesAsleep 58 = .ok (.aload 5, 2) := by decide +kernel
theorem dX1_casesAsleep_60 : decode cX1_casesAsleep 60 = .ok (.invokevirtual 26, 3) := by decide +kernel
theorem dX1_casesAsleep_63 : decode cX1_casesAsleep 63 = .ok (.aload 6, 2) := by decide +kernel
theorem dX1_casesAsleep_65 : decode cX1_casesAsleep 65 = .ok (.iload_n 2, 1) := by decide +kernel
theorem dX1_casesAsleep_66 : decode cX1_casesAsleep 66 = .ok (.invokevirtual 148, 3) := by decide +kernel
theorem dX1_casesAsleep_69 : decode cX1_casesAsleep 69 = .ok (.istore 7, 2) := by decide +kernel
theorem dX1_casesAsleep_71 : decode cX1_casesAsleep 71 = .ok (.aload 6, 2) := by decide +kernel
theorem dX1_casesAsleep_73 : decode cX1_casesAsleep 73 = .ok (.invokevirtual 38, 3) := by decide +kernel
theorem dX1_casesAsleep_76 : decode cX1_casesAsleep 76 = .ok (.pop, 1) := by decide +kernel
theorem dX1_casesAsleep_77 : decode cX1_casesAsleep 77 = .ok (.iload 7, 2) := by decide +kernel
theorem dX1_casesAsleep_79 : decode cX1_casesAsleep 79 = .ok (.ifCond .ne 8, 3) := by decide +kernel
theorem dX1_casesAsleep_82 : decode cX1_casesAsleep 82 = .ok (.bipush 10, 2) := by decide +kernel
theorem dX1_casesAsleep_84 : decode cX1_casesAsleep 84 = .ok (.goto 5, 3) := by decide +kernel
theorem dX1_casesAsleep_87 : decode cX1_casesAsleep 87 = .ok (.iload 4, 2) := by decide +kernel
theorem dX1_casesAsleep_89 : decode cX1_casesAsleep 89 = .ok (.istore 8, 2) := by decide +kernel
theorem dX1_casesAsleep_91 : decode cX1_casesAsleep 91 = .ok (.iload 8, 2) := by decide +kernel
theorem dX1_casesAsleep_93 : decode cX1_casesAsleep 93 = .ok (.ifCond .ne 7, 3) := by decide +kernel
theorem dX1_casesAsleep_96 : decode cX1_casesAsleep 96 = .ok (.lconst 0, 1) := by decide +kernel
theorem dX1_casesAsleep_97 : decode cX1_casesAsleep 97 = .ok (.goto 18, 3) := by decide +kernel
theorem dX1_casesAsleep_100 : decode cX1_casesAsleep 100 = .ok (.iload 8, 2) := by decide +kernel
theorem dX1_casesAsleep_102 : decode cX1_casesAsleep 102 = .ok (.i2l, 1) := by decide +kernel
theorem dX1_casesAsleep_103 : decode cX1_casesAsleep 103 = .ok (.aload_n 0, 1) := by decide +kernel
theorem dX1_casesAsleep_104 : decode cX1_casesAsleep 104 = .ok (.iload_n 1, 1) := by decide +kernel
theorem dX1_casesAsleep_105 : decode cX1_casesAsleep 105 = .ok (.iconst 1, 1) := by decide +kernel
theorem dX1_casesAsleep_106 : decode cX1_casesAsleep 106 = .ok (.iadd, 1) := by decide +kernel
theorem dX1_casesAsleep_107 : decode cX1_casesAsleep 107 = .ok (.iload_n 2, 1) := by decide +kernel
theorem dX1_casesAsleep_108 : decode cX1_casesAsleep 108 = .ok (.iload_n 3, 1) := by decide +kernel
theorem dX1_casesAsleep_109 : decode cX1_casesAsleep 109 = .ok (.iload 4, 2) := by decide +kernel
theorem dX1_casesAsleep_111 : decode cX1_casesAsleep 111 = .ok (.invokevirtual 132, 3) := by decide +kernel
theorem dX1_casesAsleep_114 : decode cX1_casesAsleep 114 = .ok (.lmul, 1) := by decide +kernel
theorem dX1_casesAsleep_115 : decode cX1_casesAsleep 115 = .ok (.lstore 9, 2) := by decide +kernel
theorem dX1_casesAsleep_117 : decode cX1_casesAsleep 117 = .ok (.iload 8, 2) := by decide +kernel
theorem dX1_casesAsleep_119 : decode cX1_casesAsleep 119 = .ok (.bipush 10, 2) := by decide +kernel
theorem dX1_casesAsleep_121 : decode cX1_casesAsleep 121 = .ok (.if_icmp .ge 39, 3) := by decide +kernel
theorem dX1_casesAsleep_124 : decode cX1_casesAsleep 124 = .ok (.aload 6, 2) := by decide +kernel
theorem dX1_casesAsleep_126 : decode cX1_casesAsleep 126 = .ok (.aload 5, 2) := by decide +kernel
theorem dX1_casesAsleep_128 : decode cX1_casesAsleep 128 = .ok (.invokevirtual 26, 3) := by decide +kernel
theorem dX1_casesAsleep_131 : decode cX1_casesAsleep 131 = .ok (.aload 6, 2) := by decide +kernel
theorem dX1_casesAsleep_133 : decode cX1_casesAsleep 133 = .ok (.invokevirtual 38, 3) := by decide +kernel
theorem dX1_casesAsleep_136 : decode cX1_casesAsleep 136 = .ok (.pop, 1) := by decide +kernel
theorem dX1_casesAsleep_137 : decode cX1_casesAsleep 137 = .ok (.lload 9, 2) := by decide +kernel
theorem dX1_casesAsleep_139 : decode cX1_casesAsleep 139 = .ok (.bipush 10, 2) := by decide +kernel
theorem dX1_casesAsleep_141 : decode cX1_casesAsleep 141 = .ok (.iload 8, 2) := by decide +kernel
theorem dX1_casesAsleep_143 : decode cX1_casesAsleep 143 = .ok (.isub, 1) := by decide +kernel
theorem dX1_casesAsleep_144 : decode cX1_casesAsleep 144 = .ok (.i2l, 1) := by decide +kernel
theorem dX1_casesAsleep_145 : decode cX1_casesAsleep 145 = .ok (.aload_n 0, 1) := by decide +kernel
theorem dX1_casesAsleep_146 : decode cX1_casesAsleep 146 = .ok (.iload_n 1, 1) := by decide +kernel
theorem dX1_casesAsleep_147 : decode cX1_casesAsleep 147 = .ok (.iconst 1, 1) := by decide +kernel
theorem dX1_casesAsleep_148 : decode cX1_casesAsleep 148 = .ok (.iadd, 1) := by decide +kernel
theorem dX1_casesAsleep_149 : decode cX1_casesAsleep 149 = .ok (.iload_n 2, 1) := by decide +kernel
theorem dX1_casesAsleep_150 : decode cX1_casesAsleep 150 = .ok (.iload_n 3, 1) := by decide +kernel
theorem dX1_casesAsleep_151 : decode cX1_casesAsleep 151 = .ok (.iload 4, 2) := by decide +kernel
theorem dX1_casesAsleep_153 : decode cX1_casesAsleep 153 = .ok (.invokevirtual 132, 3) := by decide +kernel
theorem dX1_casesAsleep_156 : decode cX1_casesAsleep 156 = .ok (.lmul, 1) := by decide +kernel
theorem dX1_casesAsleep_157 : decode cX1_casesAsleep 157 = .ok (.ladd, 1) := by decide +kernel
theorem dX1_casesAsleep_158 : decode cX1_casesAsleep 158 = .ok (.lstore 9, 2) := by decide +kernel
theorem dX1_casesAsleep_160 : decode cX1_casesAsleep 160 = .ok (.lload 9, 2) := by decide +kernel
theorem dX1_casesAsleep_162 : decode cX1_casesAsleep 162 = .ok (.lreturn, 1) := by decide +kernel
theorem dX1_cancel_0 : decode cX1_cancel 0 = .ok (.aload_n 0, 1) := by decide +kernel
theorem dX1_cancel_1 : decode cX1_cancel 1 = .ok (.getfield 136, 3) := by decide +kernel
theorem dX1_cancel_4 : decode cX1_cancel 4 = .ok (.lconst 0, 1) := by decide +kernel
theorem dX1_cancel_5 : decode cX1_cancel 5 = .ok (.lcmp, 1) := by decide +kernel
theorem dX1_cancel_6 : decode cX1_cancel 6 = .ok (.ifCond .ne 8, 3) := by decide +kernel
theorem dX1_cancel_9 : decode cX1_cancel 9 = .ok (.aload_n 0, 1) := by decide +kernel
theorem dX1_cancel_10 : decode cX1_cancel 10 = .ok (.lconst 1, 1) := by decide +kernel
theorem dX1_cancel_11 : decode cX1_cancel 11 = .ok (.putfield 140, 3) := by decide +kernel
theorem dX1_cancel_14 : decode cX1_cancel 14 = .ok (.iconst 0, 1) := by decide +kernel
theorem dX1_cancel_15 : decode cX1_cancel 15 = .ok (.istore_n 2, 1) := by decide +kernel
theorem dX1_cancel_16 : decode cX1_cancel 16 = .ok (.iload_n 2, 1) := by decide +kernel
theorem dX1_cancel_17 : decode cX1_cancel 17 = .ok (.iload_n 1, 1) := by decide +kernel
theorem dX1_cancel_18 : decode cX1_cancel 18 = .ok (.if_icmp .ge 19, 3) := by decide +kernel
theorem dX1_cancel_21 : decode cX1_cancel 21 = .ok (.aload_n 0, 1) := by decide +kernel
theorem dX1_cancel_22 : decode cX1_cancel 22 = .ok (.iconst 2, 1) := by decide +kernel
theorem dX1_cancel_23 : decode cX1_cancel 23 = .ok (.invokevirtual 151, 3) := by decide +kernel
theorem dX1_cancel_26 : decode cX1_cancel 26 = .ok (.aload_n 0, 1) := by decide +kernel
theorem dX1_cancel_27 : decode cX1_cancel 27 = .ok (.iconst 5, 1) := by decide +kernel
theorem dX1_cancel_28 : decode cX1_cancel 28 = .ok (.invokevirtual 151, 3) := by decide +kernel
theorem dX1_cancel_31 : decode cX1_cancel 31 = .ok (.iinc 2 1, 3) := by decide +kernel
theorem dX1_cancel_34 : decode cX1_cancel 34 = .ok (.goto (-18), 3) := by decide +kernel
theorem dX1_cancel_37 : decode cX1_cancel 37 = .ok (.return_, 1) := by decide +kernel
theorem dX1_cancelBy_0 : decode cX1_cancelBy 0 = .ok (.iload_n 1, 1) := by decide +kernel
theorem dX1_cancelBy_1 : decode cX1_cancelBy 1 = .ok (.ifCond .eq 49, 3) := by decide +kernel
theorem dX1_cancelBy_4 : decode cX1_cancelBy 4 = .ok (.aload_n 0, 1) := by decide +kernel
theorem dX1_cancelBy_5 : decode cX1_cancelBy 5 = .ok (.getfield 136, 3) := by decide +kernel
theorem dX1_cancelBy_8 : decode cX1_cancelBy 8 = .ok (.iload_n 1, 1) := by decide +kernel
theorem dX1_cancelBy_9 : decode cX1_cancelBy 9 = .ok (.i2l, 1) := by decide +kernel
theorem dX1_cancelBy_10 : decode cX1_cancelBy 10 = .ok (.lrem, 1) := by decide +kernel
theorem dX1_cancelBy_11 : decode cX1_cancelBy 11 = .ok (.lconst 0, 1) := by decide +kernel
theorem dX1_cancelBy_12 : decode cX1_cancelBy 12 = .ok (.lcmp, 1) := by decide +kernel
theorem dX1_cancelBy_13 : decode cX1_cancelBy 13 = .ok (.ifCond .ne 37, 3) := by decide +kernel
theorem dX1_cancelBy_16 : decode cX1_cancelBy 16 = .ok (.aload_n 0, 1) := by decide +kernel
theorem dX1_cancelBy_17 : decode cX1_cancelBy 17 = .ok (.getfield 140, 3) := by decide +kernel
theorem dX1_cancelBy_20 : decode cX1_cancelBy 20 = .ok (.iload_n 1, 1) := by decide +kernel
theorem dX1_cancelBy_21 : decode cX1_cancelBy 21 = .ok (.i2l, 1) := by decide +kernel
theorem dX1_cancelBy_22 : decode cX1_cancelBy 22 = .ok (.lrem, 1) := by decide +kernel
theorem dX1_cancelBy_23 : decode cX1_cancelBy 23 = .ok (.lconst 0, 1) := by decide +kernel
theorem dX1_cancelBy_24 : decode cX1_cancelBy 24 = .ok (.lcmp, 1) := by decide +kernel
theorem dX1_cancelBy_25 : decode cX1_cancelBy 25 = .ok (.ifCond .ne 25, 3) := by decide +kernel
theorem dX1_cancelBy_28 : decode cX1_cancelBy 28 = .ok (.aload_n 0, 1) := by decide +kernel
theorem dX1_cancelBy_29 : decode cX1_cancelBy 29 = .ok (.dup, 1) := by decide +kernel
theorem dX1_cancelBy_30 : decode cX1_cancelBy 30 = .ok (.getfield 136, 3) := by decide +kernel
theorem dX1_cancelBy_33 : decode cX1_cancelBy 33 = .ok (.iload_n 1, 1) := by decide +kernel
theorem dX1_cancelBy_34 : decode cX1_cancelBy 34 = .ok (.i2l, 1) := by decide +kernel
theorem dX1_cancelBy_35 : decode cX1_cancelBy 35 = .ok (.ldiv, 1) := by decide +kernel
theorem dX1_cancelBy_36 : decode cX1_cancelBy 36 = .ok (.putfield 136, 3) := by decide +kernel
theorem dX1_cancelBy_39 : decode cX1_cancelBy 39 = .ok (.aload_n 0, 1) := by decide +kernel
theorem dX1_cancelBy_40 : decode cX1_cancelBy 40 = .ok (.dup, 1) := by decide +kernel
theorem dX1_cancelBy_41 : decode cX1_cancelBy 41 = .ok (.getfield 140, 3) := by decide +kernel
theorem dX1_cancelBy_44 : decode cX1_cancelBy 44 = .ok (.iload_n 1, 1) := by decide +kernel
theorem dX1_cancelBy_45 : decode cX1_cancelBy 45 = .ok (.i2l, 1) := by decide +kernel
theorem dX1_cancelBy_46 : decode cX1_cancelBy 46 = .ok (.ldiv, 1) := by decide +kernel
theorem dX1_cancelBy_47 : decode cX1_cancelBy 47 = .ok (.putfield 140, 3) := by decide +kernel
theorem dX1_cancelBy_50 : decode cX1_cancelBy 50 = .ok (.return_, 1) := by decide +kernel
theorem dX1_drawDay_0 : decode cX1_drawDay 0 = .ok (.aload_n 0, 1) := by decide +kernel
theorem dX1_drawDay_1 : decode cX1_drawDay 1 = .ok (.getfield 12, 3) := by decide +kernel
theorem dX1_drawDay_4 : decode cX1_drawDay 4 = .ok (.aload_n 1, 1) := by decide +kernel
theorem dX1_drawDay_5 : decode cX1_drawDay 5 = .ok (.invokevirtual 26, 3) := by decide +kernel
theorem dX1_drawDay_8 : decode cX1_drawDay 8 = .ok (.iload_n 3, 1) := by decide +kernel
theorem dX1_drawDay_9 : decode cX1_drawDay 9 = .ok (.i2l, 1) := by decide +kernel
theorem dX1_drawDay_10 : decode cX1_drawDay 10 = .ok (.lstore 4, 2) := by decide +kernel
theorem dX1_drawDay_12 : decode cX1_drawDay 12 = .ok (.iconst 0, 1) := by decide +kernel
theorem dX1_drawDay_13 : decode cX1_drawDay 13 = .ok (.istore 6, 2) := by decide +kernel
theorem dX1_drawDay_15 : decode cX1_drawDay 15 = .ok (.iconst 0, 1) := by decide +kernel
theorem dX1_drawDay_16 : decode cX1_drawDay 16 = .ok (.istore 7, 2) := by decide +kernel
theorem dX1_drawDay_18 : decode cX1_drawDay 18 = .ok (.iload 7, 2) := by decide +kernel
theorem dX1_drawDay_20 : decode cX1_drawDay 20 = .ok (.iload_n 2, 1) := by decide +kernel
theorem dX1_drawDay_21 : decode cX1_drawDay 21 = .ok (.if_icmp .ge 123, 3) := by decide +kernel
theorem dX1_drawDay_24 : decode cX1_drawDay 24 = .ok (.lload 4, 2) := by decide +kernel
theorem dX1_drawDay_26 : decode cX1_drawDay 26 = .ok (.ldc2_w 154, 3) := by decide +kernel
theorem dX1_drawDay_29 : decode cX1_drawDay 29 = .ok (.lmul, 1) := by decide +kernel
theorem dX1_drawDay_30 : decode cX1_drawDay 30 = .ok (.ldc2_w 156, 3) := by decide +kernel
theorem dX1_drawDay_33 : decode cX1_drawDay 33 = .ok (.lrem, 1) := by decide +kernel
theorem dX1_drawDay_34 : decode cX1_drawDay 34 = .ok (.lstore 4, 2) := by decide +kernel
theorem dX1_drawDay_36 : decode cX1_drawDay 36 = .ok (.lload 4, 2) := by decide +kernel
theorem dX1_drawDay_38 : decode cX1_drawDay 38 = .ok (.ldc2_w 158, 3) := by decide +kernel
theorem dX1_drawDay_41 : decode cX1_drawDay 41 = .ok (.lrem, 1) := by decide +kernel
theorem dX1_drawDay_42 : decode cX1_drawDay 42 = .ok (.lconst 0, 1) := by decide +kernel
theorem dX1_drawDay_43 : decode cX1_drawDay 43 = .ok (.lcmp, 1) := by decide +kernel
theorem dX1_drawDay_44 : decode cX1_drawDay 44 = .ok (.ifCond .ne 18, 3) := by decide +kernel
theorem dX1_drawDay_47 : decode cX1_drawDay 47 = .ok (.aload_n 0, 1) := by decide +kernel
theorem dX1_drawDay_48 : decode cX1_drawDay 48 = .ok (.getfield 12, 3) := by decide +kernel
theorem dX1_drawDay_51 : decode cX1_drawDay 51 = .ok (.lload 4, 2) := by decide +kernel
theorem dX1_drawDay_53 : decode cX1_drawDay 53 = .ok (.ldc2_w 160, 3) := by decide +kernel
theorem dX1_drawDay_56 : decode cX1_drawDay 56 = .ok (.lrem, 1) := by decide +kernel
theorem dX1_drawDay_57 : decode cX1_drawDay 57 = .ok (.l2i, 1) := by decide +kernel
theorem dX1_drawDay_58 : decode cX1_drawDay 58 = .ok (.invokevirtual 148, 3) := by decide +kernel
theorem dX1_drawDay_61 : decode cX1_drawDay 61 = .ok (.pop, 1) := by decide +kernel
theorem dX1_drawDay_62 : decode cX1_drawDay 62 = .ok (.lload 4, 2) := by decide +kernel
theorem dX1_drawDay_64 : decode cX1_drawDay 64 = .ok (.ldc2_w 162, 3) := by decide +kernel
theorem dX1_drawDay_67 : decode cX1_drawDay 67 = .ok (.lrem, 1) := by decide +kernel
theorem dX1_drawDay_68 : decode cX1_drawDay 68 = .ok (.lconst 0, 1) := by decide +kernel
theorem dX1_drawDay_69 : decode cX1_drawDay 69 = .ok (.lcmp, 1) := by decide +kernel
theorem dX1_drawDay_70 : decode cX1_drawDay 70 = .ok (.ifCond .ne 39, 3) := by decide +kernel
theorem dX1_drawDay_73 : decode cX1_drawDay 73 = .ok (.aload_n 0, 1) := by decide +kernel
theorem dX1_drawDay_74 : decode cX1_drawDay 74 = .ok (.getfield 12, 3) := by decide +kernel
theorem dX1_drawDay_77 : decode cX1_drawDay 77 = .ok (.getfield 82, 3) := by decide +kernel
theorem dX1_drawDay_80 : decode cX1_drawDay 80 = .ok (.ifCond .le 29, 3) := by decide +kernel
theorem dX1_drawDay_83 : decode cX1_drawDay 83 = .ok (.aload_n 0, 1) := by decide +kernel
theorem dX1_drawDay_84 : decode cX1_drawDay 84 = .ok (.getfield 12, 3) := by decide +kernel
theorem dX1_drawDay_87 : decode cX1_drawDay 87 = .ok (.dup, 1) := by decide +kernel
theorem dX1_drawDay_88 : decode cX1_drawDay 88 = .ok (.getfield 47, 3) := by decide +kernel
theorem dX1_drawDay_91 : decode cX1_drawDay 91 = .ok (.iconst 1, 1) := by decide +kernel
theorem dX1_drawDay_92 : decode cX1_drawDay 92 = .ok (.lload 4, 2) := by decide +kernel
theorem dX1_drawDay_94 : decode cX1_drawDay 94 = .ok (.aload_n 0, 1) := by decide +kernel
theorem dX1_drawDay_95 : decode cX1_drawDay 95 = .ok (.getfield 12, 3) := by decide +kernel
theorem dX1_drawDay_98 : decode cX1_drawDay 98 = .ok (.getfield 82, 3) := by decide +kernel
theorem dX1_drawDay_101 : decode cX1_drawDay 101 = .ok (.i2l, 1) := by decide +kernel
theorem dX1_drawDay_102 : decode cX1_drawDay 102 = .ok (.lrem, 1) := by decide +kernel
theorem dX1_drawDay_103 : decode cX1_drawDay 103 = .ok (.l2i, 1) := by decide +kernel
theorem dX1_drawDay_104 : decode cX1_drawDay 104 = .ok (.ishl, 1) := by decide +kernel
theorem dX1_drawDay_105 : decode cX1_drawDay 105 = .ok (.ior, 1) := by decide +kernel
theorem dX1_drawDay_106 : decode cX1_drawDay 106 = .ok (.putfield 47, 3) := by decide +kernel
theorem dX1_drawDay_109 : decode cX1_drawDay 109 = .ok (.aload_n 0, 1) := by decide +kernel
theorem dX1_drawDay_110 : decode cX1_drawDay 110 = .ok (.getfield 12, 3) := by decide +kernel
theorem dX1_drawDay_113 : decode cX1_drawDay 113 = .ok (.invokevirtual 38, 3) := by decide +kernel
theorem dX1_drawDay_116 : decode cX1_drawDay 116 = .ok (.pop, 1) := by decide +kernel
theorem dX1_drawDay_117 : decode cX1_drawDay 117 = .ok (.iload 6, 2) := by decide +kernel
theorem dX1_drawDay_119 : decode cX1_drawDay 119 = .ok (.aload_n 0, 1) := by decide +kernel
theorem dX1_drawDay_120 : decode cX1_drawDay 120 = .ok (.getfield 12, 3) := by decide +kernel
theorem dX1_drawDay_123 : decode cX1_drawDay 123 = .ok (.iconst 1, 1) := by decide +kernel
theorem dX1_drawDay_124 : decode cX1_drawDay 124 = .ok (.invokevirtual 72, 3) := by decide +kernel
theorem dX1_drawDay_127 : decode cX1_drawDay 127 = .ok (.ifCond .eq 7, 3) := by decide +kernel
theorem dX1_drawDay_130 : decode cX1_drawDay 130 = .ok (.iconst 1, 1) := by decide +kernel
theorem dX1_drawDay_131 : decode cX1_drawDay 131 = .ok (.goto 4, 3) := by decide +kernel
theorem dX1_drawDay_134 : decode cX1_drawDay 134 = .ok (.iconst 0, 1) := by decide +kernel
theorem dX1_drawDay_135 : decode cX1_drawDay 135 = .ok (.iadd, 1) := by decide +kernel
theorem dX1_drawDay_136 : decode cX1_drawDay 136 = .ok (.istore 6, 2) := by decide +kernel
theorem dX1_drawDay_138 : decode cX1_drawDay 138 = .ok (.iinc 7 1, 3) := by decide +kernel
theorem dX1_drawDay_141 : decode cX1_drawDay 141 = .ok (.goto (-123), 3) := by decide +kernel
theorem dX1_drawDay_144 : decode cX1_drawDay 144 = .ok (.iload 6, 2) := by decide +kernel
theorem dX1_drawDay_146 : decode cX1_drawDay 146 = .ok (.ireturn, 1) := by decide +kernel
theorem dX2_init_0 : decode cX2_init 0 = .ok (.aload_n 0, 1) := by decide +kernel
theorem dX2_init_1 : decode cX2_init 1 = .ok (.invokespecial 3, 3) := by decide +kernel
theorem dX2_init_4 : decode cX2_init 4 = .ok (.aload_n 0, 1) := by decide +kernel
theorem dX2_init_5 : decode cX2_init 5 = .ok (.bipush 24, 2) := by decide +kernel
theorem dX2_init_7 : decode cX2_init 7 = .ok (.anewarray 9, 3) := by decide +kernel
theorem dX2_init_10 : decode cX2_init 10 = .ok (.putfield 11, 3) := by decide +kernel
theorem dX2_init_13 : decode cX2_init 13 = .ok (.iconst 0, 1) := by decide +kernel
theorem dX2_init_14 : decode cX2_init 14 = .ok (.istore_n 1, 1) := by decide +kernel
theorem dX2_init_15 : decode cX2_init 15 = .ok (.iload_n 1, 1) := by decide +kernel
theorem dX2_init_16 : decode cX2_init 16 = .ok (.bipush 24, 2) := by decide +kernel
theorem dX2_init_18 : decode cX2_init 18 = .ok (.if_icmp .ge 22, 3) := by decide +kernel
theorem dX2_init_21 : decode cX2_init 21 = .ok (.aload_n 0, 1) := by decide +kernel
theorem dX2_init_22 : decode cX2_init 22 = .ok (.getfield 11, 3) := by decide +kernel
theorem dX2_init_25 : decode cX2_init 25 = .ok (.iload_n 1, 1) := by decide +kernel
theorem dX2_init_26 : decode cX2_init 26 = .ok (.new 9, 3) := by decide +kernel
theorem dX2_init_29 : decode cX2_init 29 = .ok (.dup, 1) := by decide +kernel
theorem dX2_init_30 : decode cX2_init 30 = .ok (.invokespecial 17, 3) := by decide +kernel
theorem dX2_init_33 : decode cX2_init 33 = .ok (.aastore, 1) := by decide +kernel
theorem dX2_init_34 : decode cX2_init 34 = .ok (.iinc 1 1, 3) := by decide +kernel
theorem dX2_init_37 : decode cX2_init 37 = .ok (.goto (-22), 3) := by decide +kernel
theorem dX2_init_40 : decode cX2_init 40 = .ok (.return_, 1) := by decide +kernel
theorem dX2_keep_0 : decode cX2_keep 0 = .ok (.aload_n 0, 1) := by decide +kernel
theorem dX2_keep_1 : decode cX2_keep 1 = .ok (.getfield 11, 3) := by decide +kernel
theorem dX2_keep_4 : decode cX2_keep 4 = .ok (.aload_n 0, 1) := by decide +kernel
theorem dX2_keep_5 : decode cX2_keep 5 = .ok (.getfield 18, 3) := by decide +kernel
theorem dX2_keep_8 : decode cX2_keep 8 = .ok (.aaload, 1) := by decide +kernel
theorem dX2_keep_9 : decode cX2_keep 9 = .ok (.aload_n 1, 1) := by decide +kernel
theorem dX2_keep_10 : decode cX2_keep 10 = .ok (.invokevirtual 22, 3) := by decide +kernel
theorem dX2_keep_13 : decode cX2_keep 13 = .ok (.aload_n 0, 1) := by decide +kernel
theorem dX2_keep_14 : decode cX2_keep 14 = .ok (.aload_n 0, 1) := by decide +kernel
theorem dX2_keep_15 : decode cX2_keep 15 = .ok (.getfield 18, 3) := by decide +kernel
theorem dX2_keep_18 : decode cX2_keep 18 = .ok (.iconst 1, 1) := by decide +kernel
theorem dX2_keep_19 : decode cX2_keep 19 = .ok (.iadd, 1) := by decide +kernel
theorem dX2_keep_20 : decode cX2_keep 20 = .ok (.bipush 24, 2) := by decide +kernel
theorem dX2_keep_22 : decode cX2_keep 22 = .ok (.irem, 1) := by decide +kernel
theorem dX2_keep_23 : decode cX2_keep 23 = .ok (.putfield 18, 3) := by decide +kernel
theorem dX2_keep_26 : decode cX2_keep 26 = .ok (.aload_n 0, 1) := by decide +kernel
theorem dX2_keep_27 : decode cX2_keep 27 = .ok (.aload_n 0, 1) := by decide +kernel
theorem dX2_keep_28 : decode cX2_keep 28 = .ok (.getfield 26, 3) := by decide +kernel
theorem dX2_keep_31 : decode cX2_keep 31 = .ok (.iconst 1, 1) := by decide +kernel
theorem dX2_keep_32 : decode cX2_keep 32 = .ok (.iadd, 1) := by decide +kernel
theorem dX2_keep_33 : decode cX2_keep 33 = .ok (.bipush 24, 2) := by decide +kernel
theorem dX2_keep_35 : decode cX2_keep 35 = .ok (.invokestatic 29, 3) := by decide +kernel
theorem dX2_keep_38 : decode cX2_keep 38 = .ok (.putfield 26, 3) := by decide +kernel
theorem dX2_keep_41 : decode cX2_keep 41 = .ok (.return_, 1) := by decide +kernel
theorem dX2_bringBack_0 : decode cX2_bringBack 0 = .ok (.aload_n 0, 1) := by decide +kernel
theorem dX2_bringBack_1 : decode cX2_bringBack 1 = .ok (.getfield 26, 3) := by decide +kernel
theorem dX2_bringBack_4 : decode cX2_bringBack 4 = .ok (.ifCond .ne 4, 3) := by decide +kernel
theorem dX2_bringBack_7 : decode cX2_bringBack 7 = .ok (.return_, 1) := by decide +kernel
theorem dX2_bringBack_8 : decode cX2_bringBack 8 = .ok (.aload_n 0, 1) := by decide +kernel
theorem dX2_bringBack_9 : decode cX2_bringBack 9 = .ok (.aload_n 0, 1) := by decide +kernel
theorem dX2_bringBack_10 : decode cX2_bringBack 10 = .ok (.getfield 18, 3) := by decide +kernel
theorem dX2_bringBack_13 : decode cX2_bringBack 13 = .ok (.bipush 24, 2) := by decide +kernel
theorem dX2_bringBack_15 : decode cX2_bringBack 15 = .ok (.iadd, 1) := by decide +kernel
theorem dX2_bringBack_16 : decode cX2_bringBack 16 = .ok (.iconst 1, 1) := by decide +kernel
theorem dX2_bringBack_17 : decode cX2_bringBack 17 = .ok (.isub, 1) := by decide +kernel
theorem dX2_bringBack_18 : decode cX2_bringBack 18 = .ok (.bipush 24, 2) := by decide +kernel
theorem dX2_bringBack_20 : decode cX2_bringBack 20 = .ok (.irem, 1) := by decide +kernel
theorem dX2_bringBack_21 : decode cX2_bringBack 21 = .ok (.putfield 18, 3) := by decide +kernel
theorem dX2_bringBack_24 : decode cX2_bringBack 24 = .ok (.aload_n 0, 1) := by decide +kernel
theorem dX2_bringBack_25 : decode cX2_bringBack 25 = .ok (.dup, 1) := by decide +kernel
theorem dX2_bringBack_26 : decode cX2_bringBack 26 = .ok (.getfield 26, 3) := by decide +kernel
theorem dX2_bringBack_29 : decode cX2_bringBack 29 = .ok (.iconst 1, 1) := by decide +kernel
theorem dX2_bringBack_30 : decode cX2_bringBack 30 = .ok (.isub, 1) := by decide +kernel
theorem dX2_bringBack_31 : decode cX2_bringBack 31 = .ok (.putfield 26, 3) := by decide +kernel
theorem dX2_bringBack_34 : decode cX2_bringBack 34 = .ok (.aload_n 1, 1) := by decide +kernel
theorem dX2_bringBack_35 : decode cX2_bringBack 35 = .ok (.aload_n 0, 1) := by decide +kernel
theorem dX2_bringBack_36 : decode cX2_bringBack 36 = .ok (.getfield 11, 3) := by decide +kernel
theorem dX2_bringBack_39 : decode cX2_bringBack 39 = .ok (.aload_n 0, 1) := by decide +kernel
theorem dX2_bringBack_40 : decode cX2_bringBack 40 = .ok (.getfield 18, 3) := by decide +kernel
theorem dX2_bringBack_43 : decode cX2_bringBack 43 = .ok (.aaload, 1) := by decide +kernel
theorem dX2_bringBack_44 : decode cX2_bringBack 44 = .ok (.invokevirtual 22, 3) := by decide +kernel
theorem dX2_bringBack_47 : decode cX2_bringBack 47 = .ok (.return_, 1) := by decide +kernel
theorem dX2_forget_0 : decode cX2_forget 0 = .ok (.aload_n 0, 1) := by decide +kernel
theorem dX2_forget_1 : decode cX2_forget 1 = .ok (.iconst 0, 1) := by decide +kernel
theorem dX2_forget_2 : decode cX2_forget 2 = .ok (.putfield 26, 3) := by decide +kernel
theorem dX2_forget_5 : decode cX2_forget 5 = .ok (.return_, 1) := by decide +kernel
theorem dX3_init_0 : decode cX3_init 0 = .ok (.aload_n 0, 1) := by decide +kernel
theorem dX3_init_1 : decode cX3_init 1 = .ok (.invokespecial 3, 3) := by decide +kernel
theorem dX3_init_4 : decode cX3_init 4 = .ok (.aload_n 0, 1) := by decide +kernel
theorem dX3_init_5 : decode cX3_init 5 = .ok (.bipush 7, 2) := by decide +kernel
theorem dX3_init_7 : decode cX3_init 7 = .ok (.newarray .int, 2) := by decide +kernel
theorem dX3_init_9 : decode cX3_init 9 = .ok (.putfield 9, 3) := by decide +kernel
theorem dX3_init_12 : decode cX3_init 12 = .ok (.aload_n 0, 1) := by decide +kernel
theorem dX3_init_13 : decode cX3_init 13 = .ok (.bipush 7, 2) := by decide +kernel
theorem dX3_init_15 : decode cX3_init 15 = .ok (.newarray .int, 2) := by decide +kernel
theorem dX3_init_17 : decode cX3_init 17 = .ok (.putfield 15, 3) := by decide +kernel
theorem dX3_init_20 : decode cX3_init 20 = .ok (.aload_n 0, 1) := by decide +kernel
theorem dX3_init_21 : decode cX3_init 21 = .ok (.bipush 7, 2) := by decide +kernel
theorem dX3_init_23 : decode cX3_init 23 = .ok (.newarray .int, 2) := by decide +kernel
theorem dX3_init_25 : decode cX3_init 25 = .ok (.putfield 18, 3) := by decide +kernel
theorem dX3_init_28 : decode cX3_init 28 = .ok (.aload_n 0, 1) := by decide +kernel
theorem dX3_init_29 : decode cX3_init 29 = .ok (.bipush 7, 2) := by decide +kernel
theorem dX3_init_31 : decode cX3_init 31 = .ok (.newarray .int, 2) := by decide +kernel
theorem dX3_init_33 : decode cX3_init 33 = .ok (.putfield 21, 3) := by decide +kernel
theorem dX3_init_36 : decode cX3_init 36 = .ok (.aload_n 0, 1) := by decide +kernel
theorem dX3_init_37 : decode cX3_init 37 = .ok (.bipush 7, 2) := by decide +kernel
theorem dX3_init_39 : decode cX3_init 39 = .ok (.newarray .int, 2) := by decide +kernel
theorem dX3_init_41 : decode cX3_init 41 = .ok (.putfield 24, 3) := by decide +kernel
theorem dX3_init_44 : decode cX3_init 44 = .ok (.aload_n 0, 1) := by decide +kernel
theorem dX3_init_45 : decode cX3_init 45 = .ok (.bipush 7, 2) := by decide +kernel
theorem dX3_init_47 : decode cX3_init 47 = .ok (.newarray .int, 2) := by decide +kernel
theorem dX3_init_49 : decode cX3_init 49 = .ok (.putfield 27, 3) := by decide +kernel
theorem dX3_init_52 : decode cX3_init 52 = .ok (.aload_n 0, 1) := by decide +kernel
theorem dX3_init_53 : decode cX3_init 53 = .ok (.bipush 7, 2) := by decide +kernel
theorem dX3_init_55 : decode cX3_init 55 = .ok (.newarray .int, 2) := by decide +kernel
theorem dX3_init_57 : decode cX3_init 57 = .ok (.putfield 30, 3) := by decide +kernel
theorem dX3_init_60 : decode cX3_init 60 = .ok (.aload_n 0, 1) := by decide +kernel
theorem dX3_init_61 : decode cX3_init 61 = .ok (.bipush 7, 2) := by decide +kernel
theorem dX3_init_63 : decode cX3_init 63 = .ok (.newarray .int, 2) := by decide +kernel
theorem dX3_init_65 : decode cX3_init 65 = .ok (.putfield 33, 3) := by decide +kernel
theorem dX3_init_68 : decode cX3_init 68 = .ok (.return_, 1) := by decide +kernel
theorem dX3_clear_0 : decode cX3_clear 0 = .ok (.aload_n 0, 1) := by decide +kernel
theorem dX3_clear_1 : decode cX3_clear 1 = .ok (.iconst 0, 1) := by decide +kernel
theorem dX3_clear_2 : decode cX3_clear 2 = .ok (.putfield 36, 3) := by decide +kernel
theorem dX3_clear_5 : decode cX3_clear 5 = .ok (.aload_n 0, 1) := by decide +kernel
theorem dX3_clear_6 : decode cX3_clear 6 = .ok (.iconst 0, 1) := by decide +kernel
theorem dX3_clear_7 : decode cX3_clear 7 = .ok (.putfield 40, 3) := by decide +kernel
theorem dX3_clear_10 : decode cX3_clear 10 = .ok (.aload_n 0, 1) := by decide +kernel
theorem dX3_clear_11 : decode cX3_clear 11 = .ok (.iconst 0, 1) := by decide +kernel
theorem dX3_clear_12 : decode cX3_clear 12 = .ok (.putfield 43, 3) := by decide +kernel
theorem dX3_clear_15 : decode cX3_clear 15 = .ok (.aload_n 0, 1) := by decide +kernel
theorem dX3_clear_16 : decode cX3_clear 16 = .ok (.iconst 0, 1) := by decide +kernel
theorem dX3_clear_17 : decode cX3_clear 17 = .ok (.putfield 46, 3) := by decide +kernel
theorem dX3_clear_20 : decode cX3_clear 20 = .ok (.aload_n 0, 1) := by decide +kernel
theorem dX3_clear_21 : decode cX3_clear 21 = .ok (.iconst 0, 1) := by decide +kernel
theorem dX3_clear_22 : decode cX3_clear 22 = .ok (.putfield 49, 3) := by decide +kernel
theorem dX3_clear_25 : decode cX3_clear 25 = .ok (.aload_n 0, 1) := by decide +kernel
theorem dX3_clear_26 : decode cX3_clear 26 = .ok (.iconst 0, 1) := by decide +kernel
theorem dX3_clear_27 : decode cX3_clear 27 = .ok (.putfield 52, 3) := by decide +kernel
theorem dX3_clear_30 : decode cX3_clear 30 = .ok (.return_, 1) := by decide +kernel
theorem dX3_addChild_0 : decode cX3_addChild 0 = .ok (.aload_n 0, 1) := by decide +kernel
theorem dX3_addChild_1 : decode cX3_addChild 1 = .ok (.getfield 36, 3) := by decide +kernel
theorem dX3_addChild_4 : decode cX3_addChild 4 = .ok (.bipush 7, 2) := by decide +kernel
theorem dX3_addChild_6 : decode cX3_addChild 6 = .ok (.if_icmp .lt 4, 3) := by decide +kernel
theorem dX3_addChild_9 : decode cX3_addChild 9 = .ok (.return_, 1) := by decide +kernel
theorem dX3_addChild_10 : decode cX3_addChild 10 = .ok (.aload_n 0, 1) := by decide +kernel
theorem dX3_addChild_11 : decode cX3_addChild 11 = .ok (.getfield 9, 3) := by decide +kernel
theorem dX3_addChild_14 : decode cX3_addChild 14 = .ok (.aload_n 0, 1) := by decide +kernel
theorem dX3_addChild_15 : decode cX3_addChild 15 = .ok (.getfield 36, 3) := by decide +kernel
theorem dX3_addChild_18 : decode cX3_addChild 18 = .ok (.iload_n 1, 1) := by decide +kernel
theorem dX3_addChild_19 : decode cX3_addChild 19 = .ok (.iastore, 1) := by decide +kernel
theorem dX3_addChild_20 : decode cX3_addChild 20 = .ok (.aload_n 0, 1) := by decide +kernel
theorem dX3_addChild_21 : decode cX3_addChild 21 = .ok (.getfield 24, 3) := by decide +kernel
theorem dX3_addChild_24 : decode cX3_addChild 24 = .ok (.aload_n 0, 1) := by decide +kernel
theorem dX3_addChild_25 : decode cX3_addChild 25 = .ok (.getfield 36, 3) := by decide +kernel
theorem dX3_addChild_28 : decode cX3_addChild 28 = .ok (.aload_n 0, 1) := by decide +kernel
theorem dX3_addChild_29 : decode cX3_addChild 29 = .ok (.getfield 36, 3) := by decide +kernel
theorem dX3_addChild_32 : decode cX3_addChild 32 = .ok (.iastore, 1) := by decide +kernel
theorem dX3_addChild_33 : decode cX3_addChild 33 = .ok (.aload_n 0, 1) := by decide +kernel
theorem dX3_addChild_34 : decode cX3_addChild 34 = .ok (.aload_n 0, 1) := by decide +kernel
theorem dX3_addChild_35 : decode cX3_addChild 35 = .ok (.getfield 36, 3) := by decide +kernel
theorem dX3_addChild_38 : decode cX3_addChild 38 = .ok (.invokevirtual 55, 3) := by decide +kernel
theorem dX3_addChild_41 : decode cX3_addChild 41 = .ok (.aload_n 0, 1) := by decide +kernel
theorem dX3_addChild_42 : decode cX3_addChild 42 = .ok (.dup, 1) := by decide +kernel
theorem dX3_addChild_43 : decode cX3_addChild 43 = .ok (.getfield 36, 3) := by decide +kernel
theorem dX3_addChild_46 : decode cX3_addChild 46 = .ok (.iconst 1, 1) := by decide +kernel
theorem dX3_addChild_47 : decode cX3_addChild 47 = .ok (.iadd, 1) := by decide +kernel
theorem dX3_addChild_48 : decode cX3_addChild 48 = .ok (.putfield 36, 3) := by decide +kernel
theorem dX3_addChild_51 : decode cX3_addChild 51 = .ok (.return_, 1) := by decide +kernel
theorem dX3_become_0 : decode cX3_become 0 = .ok (.aload_n 0, 1) := by decide +kernel
theorem dX3_become_1 : decode cX3_become 1 = .ok (.aload_n 1, 1) := by decide +kernel
theorem dX3_become_2 : decode cX3_become 2 = .ok (.getfield 36, 3) := by decide +kernel
theorem dX3_become_5 : decode cX3_become 5 = .ok (.putfield 36, 3) := by decide +kernel
theorem dX3_become_8 : decode cX3_become 8 = .ok (.aload_n 0, 1) := by decide +kernel
theorem dX3_become_9 : decode cX3_become 9 = .ok (.aload_n 1, 1) := by decide +kernel
theorem dX3_become_10 : decode cX3_become 10 = .ok (.getfield 40, 3) := by decide +kernel
theorem dX3_become_13 : decode cX3_become 13 = .ok (.putfield 40, 3) := by decide +kernel
theorem dX3_become_16 : decode cX3_become 16 = .ok (.aload_n 0, 1) := by decide +kernel
theorem dX3_become_17 : decode cX3_become 17 = .ok (.aload_n 1, 1) := by decide +kernel
theorem dX3_become_18 : decode cX3_become 18 = .ok (.getfield 43, 3) := by decide +kernel
theorem dX3_become_21 : decode cX3_become 21 = .ok (.putfield 43, 3) := by decide +kernel
theorem dX3_become_24 : decode cX3_become 24 = .ok (.aload_n 0, 1) := by decide +kernel
theorem dX3_become_25 : decode cX3_become 25 = .ok (.aload_n 1, 1) := by decide +kernel
theorem dX3_become_26 : decode cX3_become 26 = .ok (.getfield 46, 3) := by decide +kernel
theorem dX3_become_29 : decode cX3_become 29 = .ok (.putfield 46, 3) := by decide +kernel
theorem dX3_become_32 : decode cX3_become 32 = .ok (.aload_n 0, 1) := by decide +kernel
theorem dX3_become_33 : decode cX3_become 33 = .ok (.aload_n 1, 1) := by decide +kernel
theorem dX3_become_34 : decode cX3_become 34 = .ok (.getfield 49, 3) := by decide +kernel
theorem dX3_become_37 : decode cX3_become 37 = .ok (.putfield 49, 3) := by decide +kernel
theorem dX3_become_40 : decode cX3_become 40 = .ok (.aload_n 0, 1) := by decide +kernel
theorem dX3_become_41 : decode cX3_become 41 = .ok (.aload_n 1, 1) := by decide +kernel
theorem dX3_become_42 : decode cX3_become 42 = .ok (.getfield 52, 3) := by decide +kernel
theorem dX3_become_45 : decode cX3_become 45 = .ok (.putfield 52, 3) := by decide +kernel
theorem dX3_become_48 : decode cX3_become 48 = .ok (.aload_n 1, 1) := by decide +kernel
theorem dX3_become_49 : decode cX3_become 49 = .ok (.getfield 9, 3) := by decide +kernel
theorem dX3_become_52 : decode cX3_become 52 = .ok (.iconst 0, 1) := by decide +kernel
theorem dX3_become_53 : decode cX3_become 53 = .ok (.aload_n 0, 1) := by decide +kernel
theorem dX3_become_54 : decode cX3_become 54 = .ok (.getfield 9, 3) := by decide +kernel
theorem dX3_become_57 : decode cX3_become 57 = .ok (.iconst 0, 1) := by decide +kernel
theorem dX3_become_58 : decode cX3_become 58 = .ok (.bipush 7, 2) := by decide +kernel
theorem dX3_become_60 : decode cX3_become 60 = .ok (.invokestatic 59, 3) := by decide +kernel
theorem dX3_become_63 : decode cX3_become 63 = .ok (.aload_n 1, 1) := by decide +kernel
theorem dX3_become_64 : decode cX3_become 64 = .ok (.getfield 15, 3) := by decide +kernel
theorem dX3_become_67 : decode cX3_become 67 = .ok (.iconst 0, 1) := by decide +kernel
theorem dX3_become_68 : decode cX3_become 68 = .ok (.aload_n 0, 1) := by decide +kernel
theorem dX3_become_69 : decode cX3_become 69 = .ok (.getfield 15, 3) := by decide +kernel
theorem dX3_become_72 : decode cX3_become 72 = .ok (.iconst 0, 1) := by decide +kernel
theorem dX3_become_73 : decode cX3_become 73 = .ok (.bipush 7, 2) := by decide +kernel
theorem dX3_become_75 : decode cX3_become 75 = .ok (.invokestatic 59, 3) := by decide +kernel
theorem dX3_become_78 : decode cX3_become 78 = .ok (.aload_n 1, 1) := by decide +kernel
theorem dX3_become_79 : decode cX3_become 79 = .ok (.getfield 18, 3) := by decide +kernel
theorem dX3_become_82 : decode cX3_become 82 = .ok (.iconst 0, 1) := by decide +kernel
theorem dX3_become_83 : decode cX3_become 83 = .ok (.aload_n 0, 1) := by decide +kernel
theorem dX3_become_84 : decode cX3_become 84 = .ok (.getfield 18, 3) := by decide +kernel
theorem dX3_become_87 : decode cX3_become 87 = .ok (.iconst 0, 1) := by decide +kernel
theorem dX3_become_88 : decode cX3_become 88 = .ok (.bipush 7, 2) := by decide +kernel
theorem dX3_become_90 : decode cX3_become 90 = .ok (.invokestatic 59, 3) := by decide +kernel
theorem dX3_become_93 : decode cX3_become 93 = .ok (.aload_n 1, 1) := by decide +kernel
theorem dX3_become_94 : decode cX3_become 94 = .ok (.getfield 21, 3) := by decide +kernel
theorem dX3_become_97 : decode cX3_become 97 = .ok (.iconst 0, 1) := by decide +kernel
theorem dX3_become_98 : decode cX3_become 98 = .ok (.aload_n 0, 1) := by decide +kernel
theorem dX3_become_99 : decode cX3_become 99 = .ok (.getfield 21, 3) := by decide +kernel
theorem dX3_become_102 : decode cX3_become 102 = .ok (.iconst 0, 1) := by decide +kernel
theorem dX3_become_103 : decode cX3_become 103 = .ok (.bipush 7, 2) := by decide +kernel
theorem dX3_become_105 : decode cX3_become 105 = .ok (.invokestatic 59, 3) := by decide +kernel
theorem dX3_become_108 : decode cX3_become 108 = .ok (.aload_n 1, 1) := by decide +kernel
theorem dX3_become_109 : decode cX3_become 109 = .ok (.getfield 24, 3) := by decide +kernel
theorem dX3_become_112 : decode cX3_become 112 = .ok (.iconst 0, 1) := by decide +kernel
theorem dX3_become_113 : decode cX3_become 113 = .ok (.aload_n 0, 1) := by decide +kernel
theorem dX3_become_114 : decode cX3_become 114 = .ok (.getfield 24, 3) := by decide +kernel
theorem dX3_become_117 : decode cX3_become 117 = .ok (.iconst 0, 1) := by decide +kernel
theorem dX3_become_118 : decode cX3_become 118 = .ok (.bipush 7, 2) := by decide +kernel
theorem dX3_become_120 : decode cX3_become 120 = .ok (.invokestatic 59, 3) := by decide +kernel
theorem dX3_become_123 : decode cX3_become 123 = .ok (.aload_n 1, 1) := by decide +kernel
theorem dX3_become_124 : decode cX3_become 124 = .ok (.getfield 27, 3) := by decide +kernel
theorem dX3_become_127 : decode cX3_become 127 = .ok (.iconst 0, 1) := by decide +kernel
theorem dX3_become_128 : decode cX3_become 128 = .ok (.aload_n 0, 1) := by decide +kernel
theorem dX3_become_129 : decode cX3_become 129 = .ok (.getfield 27, 3) := by decide +kernel
theorem dX3_become_132 : decode cX3_become 132 = .ok (.iconst 0, 1) := by decide +kernel
theorem dX3_become_133 : decode cX3_become 133 = .ok (.bipush 7, 2) := by decide +kernel
theorem dX3_become_135 : decode cX3_become 135 = .ok (.invokestatic 59, 3) := by decide +kernel
theorem dX3_become_138 : decode cX3_become 138 = .ok (.aload_n 1, 1) := by decide +kernel
theorem dX3_become_139 : decode cX3_become 139 = .ok (.getfield 30, 3) := by decide +kernel
theorem dX3_become_142 : decode cX3_become 142 = .ok (.iconst 0, 1) := by decide +kernel
theorem dX3_become_143 : decode cX3_become 143 = .ok (.aload_n 0, 1) := by decide +kernel
theorem dX3_become_144 : decode cX3_become 144 = .ok (.getfield 30, 3) := by decide +kernel
theorem dX3_become_147 : decode cX3_become 147 = .ok (.iconst 0, 1) := by decide +kernel
theorem dX3_become_148 : decode cX3_become 148 = .ok (.bipush 7, 2) := by decide +kernel
theorem dX3_become_150 : decode cX3_become 150 = .ok (.invokestatic 59, 3) := by decide +kernel
theorem dX3_become_153 : decode cX3_become 153 = .ok (.aload_n 1, 1) := by decide +kernel
theorem dX3_become_154 : decode cX3_become 154 = .ok (.getfield 33, 3) := by decide +kernel
theorem dX3_become_157 : decode cX3_become 157 = .ok (.iconst 0, 1) := by decide +kernel
theorem dX3_become_158 : decode cX3_become 158 = .ok (.aload_n 0, 1) := by decide +kernel
theorem dX3_become_159 : decode cX3_become 159 = .ok (.getfield 33, 3) := by decide +kernel
theorem dX3_become_162 : decode cX3_become 162 = .ok (.iconst 0, 1) := by decide +kernel
theorem dX3_become_163 : decode cX3_become 163 = .ok (.bipush 7, 2) := by decide +kernel
theorem dX3_become_165 : decode cX3_become 165 = .ok (.invokestatic 59, 3) := by decide +kernel
theorem dX3_become_168 : decode cX3_become 168 = .ok (.return_, 1) := by decide +kernel
theorem dX3_everybody_0 : decode cX3_everybody 0 = .ok (.iconst 1, 1) := by decide +kernel
theorem dX3_everybody_1 : decode cX3_everybody 1 = .ok (.aload_n 0, 1) := by decide +kernel
theorem dX3_everybody_2 : decode cX3_everybody 2 = .ok (.getfield 36, 3) := by decide +kernel
theorem dX3_everybody_5 : decode cX3_everybody 5 = .ok (.ishl, 1) := by decide +kernel
theorem dX3_everybody_6 : decode cX3_everybody 6 = .ok (.iconst 1, 1) := by decide +kernel
theorem dX3_everybody_7 : decode cX3_everybody 7 = .ok (.isub, 1) := by decide +kernel
theorem dX3_everybody_8 : decode cX3_everybody 8 = .ok (.ireturn, 1) := by decide +kernel
theorem dX3_thoseWho_0 : decode cX3_thoseWho 0 = .ok (.iconst 0, 1) := by decide +kernel
theorem dX3_thoseWho_1 : decode cX3_thoseWho 1 = .ok (.istore_n 2, 1) := by decide +kernel
theorem dX3_thoseWho_2 : decode cX3_thoseWho 2 = .ok (.iconst 0, 1) := by decide +kernel
theorem dX3_thoseWho_3 : decode cX3_thoseWho 3 = .ok (.istore_n 3, 1) := by decide +kernel
theorem dX3_thoseWho_4 : decode cX3_thoseWho 4 = .ok (.iload_n 3, 1) := by decide +kernel
theorem dX3_thoseWho_5 : decode cX3_thoseWho 5 = .ok (.aload_n 0, 1) := by decide +kernel
theorem dX3_thoseWho_6 : decode cX3_thoseWho 6 = .ok (.getfield 36, 3) := by decide +kernel
theorem dX3_thoseWho_9 : decode cX3_thoseWho 9 = .ok (.if_icmp .ge 25, 3) := by decide +kernel
theorem dX3_thoseWho_12 : decode cX3_thoseWho 12 = .ok (.aload_n 0, 1) := by decide +kernel
theorem dX3_thoseWho_13 : decode cX3_thoseWho 13 = .ok (.getfield 27, 3) := by decide +kernel
theorem dX3_thoseWho_16 : decode cX3_thoseWho 16 = .ok (.iload_n 3, 1) := by decide +kernel
theorem dX3_thoseWho_17 : decode cX3_thoseWho 17 = .ok (.iaload, 1) := by decide +kernel
theorem dX3_thoseWho_18 : decode cX3_thoseWho 18 = .ok (.iload_n 1, 1) := by decide +kernel
theorem dX3_thoseWho_19 : decode cX3_thoseWho 19 = .ok (.if_icmp .ne 9, 3) := by decide +kernel
theorem dX3_thoseWho_22 : decode cX3_thoseWho 22 = .ok (.iload_n 2, 1) := by decide +kernel
theorem dX3_thoseWho_23 : decode cX3_thoseWho 23 = .ok (.iconst 1, 1) := by decide +kernel
theorem dX3_thoseWho_24 : decode cX3_thoseWho 24 = .ok (.iload_n 3, 1) := by decide +kernel
theorem dX3_thoseWho_25 : decode cX3_thoseWho 25 = .ok (.ishl, 1) := by decide +kernel
theorem dX3_thoseWho_26 : decode cX3_thoseWho 26 = .ok (.ior, 1) := by decide +kernel
theorem dX3_thoseWho_27 : decode cX3_thoseWho 27 = .ok (.istore_n 2, 1) := by decide +kernel
theorem dX3_thoseWho_28 : decode cX3_thoseWho 28 = .ok (.iinc 3 1, 3) := by decide +kernel
theorem dX3_thoseWho_31 : decode cX3_thoseWho 31 = .ok (.goto (-27), 3) := by decide +kernel
theorem dX3_thoseWho_34 : decode cX3_thoseWho 34 = .ok (.iload_n 2, 1) := by decide +kernel
theorem dX3_thoseWho_35 : decode cX3_thoseWho 35 = .ok (.ireturn, 1) := by decide +kernel
theorem dX3_sleepAll_0 : decode cX3_sleepAll 0 = .ok (.iload_n 1, 1) := by decide +kernel
theorem dX3_sleepAll_1 : decode cX3_sleepAll 1 = .ok (.aload_n 0, 1) := by decide +kernel
theorem dX3_sleepAll_2 : decode cX3_sleepAll 2 = .ok (.iconst 2, 1) := by decide +kernel
theorem dX3_sleepAll_3 : decode cX3_sleepAll 3 = .ok (.invokevirtual 65, 3) := by decide +kernel
theorem dX3_sleepAll_6 : decode cX3_sleepAll 6 = .ok (.iconst (-1), 1) := by decide +kernel
theorem dX3_sleepAll_7 : decode cX3_sleepAll 7 = .ok (.ixor, 1) := by decide +kernel
theorem dX3_sleepAll_8 : decode cX3_sleepAll 8 = .ok (.iand, 1) := by decide +kernel
theorem dX3_sleepAll_9 : decode cX3_sleepAll 9 = .ok (.ifCond .ne 7, 3) := by decide +kernel
theorem dX3_sleepAll_12 : decode cX3_sleepAll 12 = .ok (.iconst 1, 1) := by decide +kernel
theorem dX3_sleepAll_13 : decode cX3_sleepAll 13 = .ok (.goto 4, 3) := by decide +kernel
theorem dX3_sleepAll_16 : decode cX3_sleepAll 16 = .ok (.iconst 0, 1) := by decide +kernel
theorem dX3_sleepAll_17 : decode cX3_sleepAll 17 = .ok (.ireturn, 1) := by decide +kernel
theorem dX3_heardCriers_0 : decode cX3_heardCriers 0 = .ok (.aload_n 0, 1) := by decide +kernel
theorem dX3_heardCriers_1 : decode cX3_heardCriers 1 = .ok (.iconst 1, 1) := by decide +kernel
theorem dX3_heardCriers_2 : decode cX3_heardCriers 2 = .ok (.invokevirtual 65, 3) := by decide +kernel
theorem dX3_heardCriers_5 : decode cX3_heardCriers 5 = .ok (.aload_n 0, 1) := by decide +kernel
theorem dX3_heardCriers_6 : decode cX3_heardCriers 6 = .ok (.getfield 52, 3) := by decide +kernel
theorem dX3_heardCriers_9 : decode cX3_heardCriers 9 = .ok (.iconst (-1), 1) := by decide +kernel
theorem dX3_heardCriers_10 : decode cX3_heardCriers 10 = .ok (.ixor, 1) := by decide +kernel
theorem dX3_heardCriers_11 : decode cX3_heardCriers 11 = .ok (.iand, 1) := by decide +kernel
theorem dX3_heardCriers_12 : decode cX3_heardCriers 12 = .ok (.ireturn, 1) := by decide +kernel
theorem dX3_noiseAt_0 : decode cX3_noiseAt 0 = .ok (.iconst 0, 1) := by decide +kernel
theorem dX3_noiseAt_1 : decode cX3_noiseAt 1 = .ok (.istore_n 3, 1) := by decide +kernel
theorem dX3_noiseAt_2 : decode cX3_noiseAt 2 = .ok (.iconst 0, 1) := by decide +kernel
theorem dX3_noiseAt_3 : decode cX3_noiseAt 3 = .ok (.istore 4, 2) := by decide +kernel
theorem dX3_noiseAt_5 : decode cX3_noiseAt 5 = .ok (.iload 4, 2) := by decide +kernel
theorem dX3_noiseAt_7 : decode cX3_noiseAt 7 = .ok (.aload_n 0, 1) := by decide +kernel
theorem dX3_noiseAt_8 : decode cX3_noiseAt 8 = .ok (.getfield 36, 3) := by decide +kernel
theorem dX3_noiseAt_11 : decode cX3_noiseAt 11 = .ok (.if_icmp .ge 59, 3) := by decide +kernel
theorem dX3_noiseAt_14 : decode cX3_noiseAt 14 = .ok (.iload_n 2, 1) := by decide +kernel
theorem dX3_noiseAt_15 : decode cX3_noiseAt 15 = .ok (.ifCond .eq 55, 3) := by decide +kernel
theorem dX3_noiseAt_18 : decode cX3_noiseAt 18 = .ok (.iload 4, 2) := by decide +kernel
theorem dX3_noiseAt_20 : decode cX3_noiseAt 20 = .ok (.iload_n 1, 1) := by decide +kernel
theorem dX3_noiseAt_21 : decode cX3_noiseAt 21 = .ok (.if_icmp .eq 43, 3) := by decide +kernel
theorem dX3_noiseAt_24 : decode cX3_noiseAt 24 = .ok (.iload_n 2, 1) := by decide +kernel
theorem dX3_noiseAt_25 : decode cX3_noiseAt 25 = .ok (.iload 4, 2) := by decide +kernel
theorem dX3_noiseAt_27 : decode cX3_noiseAt 27 = .ok (.invokestatic 69, 3) := by decide +kernel
theorem dX3_noiseAt_30 : decode cX3_noiseAt 30 = .ok (.ifCond .eq 34, 3) := by decide +kernel
theorem dX3_noiseAt_33 : decode cX3_noiseAt 33 = .ok (.iload_n 3, 1) := by decide +kernel
theorem dX3_noiseAt_34 : decode cX3_noiseAt 34 = .ok (.iconst 0, 1) := by decide +kernel
theorem dX3_noiseAt_35 : decode cX3_noiseAt 35 = .ok (.aload_n 0, 1) := by decide +kernel
theorem dX3_noiseAt_36 : decode cX3_noiseAt 36 = .ok (.iload 4, 2) := by decide +kernel
theorem dX3_noiseAt_38 : decode cX3_noiseAt 38 = .ok (.invokevirtual 73, 3) := by decide +kernel
theorem dX3_noiseAt_41 : decode cX3_noiseAt 41 = .ok (.aload_n 0, 1) := by decide +kernel
theorem dX3_noiseAt_42 : decode cX3_noiseAt 42 = .ok (.getfield 24, 3) := by decide +kernel
theorem dX3_noiseAt_45 : decode cX3_noiseAt 45 = .ok (.iload 4, 2) := by decide +kernel
theorem dX3_noiseAt_47 : decode cX3_noiseAt 47 = .ok (.iaload, 1) := by decide +kernel
theorem dX3_noiseAt_48 : decode cX3_noiseAt 48 = .ok (.aload_n 0, 1) := by decide +kernel
theorem dX3_noiseAt_49 : decode cX3_noiseAt 49 = .ok (.getfield 24, 3) := by decide +kernel
theorem dX3_noiseAt_52 : decode cX3_noiseAt 52 = .ok (.iload_n 1, 1) := by decide +kernel
theorem dX3_noiseAt_53 : decode cX3_noiseAt 53 = .ok (.iaload, 1) := by decide +kernel
theorem dX3_noiseAt_54 : decode cX3_noiseAt 54 = .ok (.isub, 1) := by decide +kernel
theorem dX3_noiseAt_55 : decode cX3_noiseAt 55 = .ok (.invokestatic 76, 3) := by decide +kernel
theorem dX3_noiseAt_58 : decode cX3_noiseAt 58 = .ok (.isub, 1) := by decide +kernel
theorem dX3_noiseAt_59 : decode cX3_noiseAt 59 = .ok (.invokestatic 81, 3) := by decide +kernel
theorem dX3_noiseAt_62 : decode cX3_noiseAt 62 = .ok (.iadd, 1) := by decide +kernel
theorem dX3_noiseAt_63 : decode cX3_noiseAt 63 = .ok (.istore_n 3, 1) := by decide +kernel
theorem dX3_noiseAt_64 : decode cX3_noiseAt 64 = .ok (.iinc 4 1, 3) := by decide +kernel
theorem dX3_noiseAt_67 : decode cX3_noiseAt 67 = .ok (.goto (-62), 3) := by decide +kernel
theorem dX3_noiseAt_70 : decode cX3_noiseAt 70 = .ok (.iload_n 3, 1) := by decide +kernel
theorem dX3_noiseAt_71 : decode cX3_noiseAt 71 = .ok (.ireturn, 1) := by decide +kernel
theorem dX3_callsOf_0 : decode cX3_callsOf 0 = .ok (.aload_n 0, 1) := by decide +kernel
theorem dX3_callsOf_1 : decode cX3_callsOf 1 = .ok (.getfield 9, 3) := by decide +kernel
theorem dX3_callsOf_4 : decode cX3_callsOf 4 = .ok (.iload_n 1, 1) := by decide +kernel
theorem dX3_callsOf_5 : decode cX3_callsOf 5 = .ok (.iaload, 1) := by decide +kernel
theorem dX3_callsOf_6 : decode cX3_callsOf 6 = .ok (.iconst 2, 1) := by decide +kernel
theorem dX3_callsOf_7 : decode cX3_callsOf 7 = .ok (.if_icmp .ne 14, 3) := by decide +kernel
theorem dX3_callsOf_10 : decode cX3_callsOf 10 = .ok (.iconst 2, 1) := by decide +kernel
theorem dX3_callsOf_11 : decode cX3_callsOf 11 = .ok (.aload_n 0, 1) := by decide +kernel
theorem dX3_callsOf_12 : decode cX3_callsOf 12 = .ok (.getfield 21, 3) := by decide +kernel
theorem dX3_callsOf_15 : decode cX3_callsOf 15 = .ok (.iload_n 1, 1) := by decide +kernel
theorem dX3_callsOf_16 : decode cX3_callsOf 16 = .ok (.iaload, 1) := by decide +kernel
theorem dX3_callsOf_17 : decode cX3_callsOf 17 = .ok (.imul, 1) := by decide +kernel
theorem dX3_callsOf_18 : decode cX3_callsOf 18 = .ok (.goto 9, 3) := by decide +kernel
theorem dX3_callsOf_21 : decode cX3_callsOf 21 = .ok (.aload_n 0, 1) := by decide +kernel
theorem dX3_callsOf_22 : decode cX3_callsOf 22 = .ok (.getfield 21, 3) := by decide +kernel
theorem dX3_callsOf_25 : decode cX3_callsOf 25 = .ok (.iload_n 1, 1) := by decide +kernel
theorem dX3_callsOf_26 : decode cX3_callsOf 26 = .ok (.iaload, 1) := by decide +kernel
theorem dX3_callsOf_27 : decode cX3_callsOf 27 = .ok (.ireturn, 1) := by decide +kernel
theorem dX3_bearsOf_0 : decode cX3_bearsOf 0 = .ok (.aload_n 0, 1) := by decide +kernel
theorem dX3_bearsOf_1 : decode cX3_bearsOf 1 = .ok (.getfield 9, 3) := by decide +kernel
theorem dX3_bearsOf_4 : decode cX3_bearsOf 4 = .ok (.iload_n 1, 1) := by decide +kernel
theorem dX3_bearsOf_5 : decode cX3_bearsOf 5 = .ok (.iaload, 1) := by decide +kernel
theorem dX3_bearsOf_6 : decode cX3_bearsOf 6 = .ok (.iconst 4, 1) := by decide +kernel
theorem dX3_bearsOf_7 : decode cX3_bearsOf 7 = .ok (.if_icmp .eq 13, 3) := by decide +kernel
theorem dX3_bearsOf_10 : decode cX3_bearsOf 10 = .ok (.aload_n 0, 1) := by decide +kernel
theorem dX3_bearsOf_11 : decode cX3_bearsOf 11 = .ok (.getfield 9, 3) := by decide +kernel
theorem dX3_bearsOf_14 : decode cX3_bearsOf 14 = .ok (.iload_n 1, 1) := by decide +kernel
theorem dX3_bearsOf_15 : decode cX3_bearsOf 15 = .ok (.iaload, 1) := by decide +kernel
theorem dX3_bearsOf_16 : decode cX3_bearsOf 16 = .ok (.iconst 5, 1) := by decide +kernel
theorem dX3_bearsOf_17 : decode cX3_bearsOf 17 = .ok (.if_icmp .ne 14, 3) := by decide +kernel
theorem dX3_bearsOf_20 : decode cX3_bearsOf 20 = .ok (.iconst 2, 1) := by decide +kernel
theorem dX3_bearsOf_21 : decode cX3_bearsOf 21 = .ok (.aload_n 0, 1) := by decide +kernel
theorem dX3_bearsOf_22 : decode cX3_bearsOf 22 = .ok (.getfield 18, 3) := by decide +kernel
theorem dX3_bearsOf_25 : decode cX3_bearsOf 25 = .ok (.iload_n 1, 1) := by decide +kernel
theorem dX3_bearsOf_26 : decode cX3_bearsOf 26 = .ok (.iaload, 1) := by decide +kernel
theorem dX3_bearsOf_27 : decode cX3_bearsOf 27 = .ok (.imul, 1) := by decide +kernel
theorem dX3_bearsOf_28 : decode cX3_bearsOf 28 = .ok (.goto 9, 3) := by decide +kernel
theorem dX3_bearsOf_31 : decode cX3_bearsOf 31 = .ok (.aload_n 0, 1) := by decide +kernel
theorem dX3_bearsOf_32 : decode cX3_bearsOf 32 = .ok (.getfield 18, 3) := by decide +kernel
theorem dX3_bearsOf_35 : decode cX3_bearsOf 35 = .ok (.iload_n 1, 1) := by decide +kernel
theorem dX3_bearsOf_36 : decode cX3_bearsOf 36 = .ok (.iaload, 1) := by decide +kernel
theorem dX3_bearsOf_37 : decode cX3_bearsOf 37 = .ok (.ireturn, 1) := by decide +kernel
theorem dX3_whereLoudest_0 : decode cX3_whereLoudest 0 = .ok (.aload_n 0, 1) := by decide +kernel
theorem dX3_whereLoudest_1 : decode cX3_whereLoudest 1 = .ok (.invokevirtual 85, 3) := by decide +kernel
theorem dX3_whereLoudest_4 : decode cX3_whereLoudest 4 = .ok (.istore_n 1, 1) := by decide +kernel
theorem dX3_whereLoudest_5 : decode cX3_whereLoudest 5 = .ok (.iconst 0, 1) := by decide +kernel
theorem dX3_whereLoudest_6 : decode cX3_whereLoudest 6 = .ok (.istore_n 2, 1) := by decide +kernel
theorem dX3_whereLoudest_7 : decode cX3_whereLoudest 7 = .ok (.iconst 1, 1) := by decide +kernel
theorem dX3_whereLoudest_8 : decode cX3_whereLoudest 8 = .ok (.istore_n 3, 1) := by decide +kernel
theorem dX3_whereLoudest_9 : decode cX3_whereLoudest 9 = .ok (.iload_n 3, 1) := by decide +kernel
theorem dX3_whereLoudest_10 : decode cX3_whereLoudest 10 = .ok (.aload_n 0, 1) := by decide +kernel
theorem dX3_whereLoudest_11 : decode cX3_whereLoudest 11 = .ok (.getfield 36, 3) := by decide +kernel
theorem dX3_whereLoudest_14 : decode cX3_whereLoudest 14 = .ok (.if_icmp .ge 26, 3) := by decide +kernel
theorem dX3_whereLoudest_17 : decode cX3_whereLoudest 17 = .ok (.aload_n 0, 1) := by decide +kernel
theorem dX3_whereLoudest_18 : decode cX3_whereLoudest 18 = .ok (.iload_n 3, 1) := by decide +kernel
theorem dX3_whereLoudest_19 : decode cX3_whereLoudest 19 = .ok (.iload_n 1, 1) := by decide +kernel
theorem dX3_whereLoudest_20 : decode cX3_whereLoudest 20 = .ok (.invokevirtual 89, 3) := by decide +kernel
theorem dX3_whereLoudest_23 : decode cX3_whereLoudest 23 = .ok (.aload_n 0, 1) := by decide +kernel
theorem dX3_whereLoudest_24 : decode cX3_whereLoudest 24 = .ok (.iload_n 2, 1) := by decide +kernel
theorem dX3_whereLoudest_25 : decode cX3_whereLoudest 25 = .ok (.iload_n 1, 1) := by decide +kernel
theorem dX3_whereLoudest_26 : decode cX3_whereLoudest 26 = .ok (.invokevirtual 89, 3) := by decide +kernel
theorem dX3_whereLoudest_29 : decode cX3_whereLoudest 29 = .ok (.if_icmp .le 5, 3) := by decide +kernel
theorem dX3_whereLoudest_32 : decode cX3_whereLoudest 32 = .ok (.iload_n 3, 1) := by decide +kernel
theorem dX3_whereLoudest_33 : decode cX3_whereLoudest 33 = .ok (.istore_n 2, 1) := by decide +kernel
theorem dX3_whereLoudest_34 : decode cX3_whereLoudest 34 = .ok (.iinc 3 1, 3) := by decide +kernel
theorem dX3_whereLoudest_37 : decode cX3_whereLoudest 37 = .ok (.goto (-28), 3) := by decide +kernel
theorem dX3_whereLoudest_40 : decode cX3_whereLoudest 40 = .ok (.iload_n 2, 1) := by decide +kernel
theorem dX3_whereLoudest_41 : decode cX3_whereLoudest 41 = .ok (.ireturn, 1) := by decide +kernel
theorem dX3_loudestUnheeded_0 : decode cX3_loudestUnheeded 0 = .ok (.bipush 99, 2) := by decide +kernel
theorem dX3_loudestUnheeded_2 : decode cX3_loudestUnheeded 2 = .ok (.istore_n 1, 1) := by decide +kernel
theorem dX3_loudestUnheeded_3 : decode cX3_loudestUnheeded 3 = .ok (.iconst 0, 1) := by decide +kernel
theorem dX3_loudestUnheeded_4 : decode cX3_loudestUnheeded 4 = .ok (.istore_n 2, 1) := by decide +kernel
theorem dX3_loudestUnheeded_5 : decode cX3_loudestUnheeded 5 = .ok (.iload_n 2, 1) := by decide +kernel
theorem dX3_loudestUnheeded_6 : decode cX3_loudestUnheeded 6 = .ok (.aload_n 0, 1) := by decide +kernel
theorem dX3_loudestUnheeded_7 : decode cX3_loudestUnheeded 7 = .ok (.getfield 36, 3) := by decide +kernel
theorem dX3_loudestUnheeded_10 : decode cX3_loudestUnheeded 10 = .ok (.if_icmp .ge 40, 3) := by decide +kernel
theorem dX3_loudestUnheeded_13 : decode cX3_loudestUnheeded 13 = .ok (.aload_n 0, 1) := by decide +kernel
theorem dX3_loudestUnheeded_14 : decode cX3_loudestUnheeded 14 = .ok (.getfield 27, 3) := by decide +kernel
theorem dX3_loudestUnheeded_17 : decode cX3_loudestUnheeded 17 = .ok (.iload_n 2, 1) := by decide +kernel
theorem dX3_loudestUnheeded_18 : decode cX3_loudestUnheeded 18 = .ok (.iaload, 1) := by decide +kernel
theorem dX3_loudestUnheeded_19 : decode cX3_loudestUnheeded 19 = .ok (.iconst 2, 1) := by decide +kernel
theorem dX3_loudestUnheeded_20 : decode cX3_loudestUnheeded 20 = .ok (.if_icmp .ne 24, 3) := by decide +kernel
theorem dX3_loudestUnheeded_23 : decode cX3_loudestUnheeded 23 = .ok (.aload_n 0, 1) := by decide +kernel
theorem dX3_loudestUnheeded_24 : decode cX3_loudestUnheeded 24 = .ok (.getfield 52, 3) := by decide +kernel
theorem dX3_loudestUnheeded_27 : decode cX3_loudestUnheeded 27 = .ok (.iload_n 2, 1) := by decide +kernel
theorem dX3_loudestUnheeded_28 : decode cX3_loudestUnheeded 28 = .ok (.invokestatic 69, 3) := by decide +kernel
theorem dX3_loudestUnheeded_31 : decode cX3_loudestUnheeded 31 = .ok (.ifCond .ne 13, 3) := by decide +kernel
theorem dX3_loudestUnheeded_34 : decode cX3_loudestUnheeded 34 = .ok (.iload_n 1, 1) := by decide +kernel
theorem dX3_loudestUnheeded_35 : decode cX3_loudestUnheeded 35 = .ok (.aload_n 0, 1) := by decide +kernel
theorem dX3_loudestUnheeded_36 : decode cX3_loudestUnheeded 36 = .ok (.iload_n 2, 1) := by decide +kernel
theorem dX3_loudestUnheeded_37 : decode cX3_loudestUnheeded 37 = .ok (.invokevirtual 92, 3) := by decide +kernel
theorem dX3_loudestUnheeded_40 : decode cX3_loudestUnheeded 40 = .ok (.invokestatic 95, 3) := by decide +kernel
theorem dX3_loudestUnheeded_43 : decode cX3_loudestUnheeded 43 = .ok (.istore_n 1, 1) := by decide +kernel
theorem dX3_loudestUnheeded_44 : decode cX3_loudestUnheeded 44 = .ok (.iinc 2 1, 3) := by decide +kernel
theorem dX3_loudestUnheeded_47 : decode cX3_loudestUnheeded 47 = .ok (.goto (-42), 3) := by decide +kernel
theorem dX3_loudestUnheeded_50 : decode cX3_loudestUnheeded 50 = .ok (.iload_n 1, 1) := by decide +kernel
theorem dX3_loudestUnheeded_51 : decode cX3_loudestUnheeded 51 = .ok (.ireturn, 1) := by decide +kernel
theorem dX3_lieDown_0 : decode cX3_lieDown 0 = .ok (.aload_n 0, 1) := by decide +kernel
theorem dX3_lieDown_1 : decode cX3_lieDown 1 = .ok (.getfield 27, 3) := by decide +kernel
theorem dX3_lieDown_4 : decode cX3_lieDown 4 = .ok (.iload_n 1, 1) := by decide +kernel
theorem dX3_lieDown_5 : decode cX3_lieDown 5 = .ok (.iconst 0, 1) := by decide +kernel
theorem dX3_lieDown_6 : decode cX3_lieDown 6 = .ok (.iastore, 1) := by decide +kernel
theorem dX3_lieDown_7 : decode cX3_lieDown 7 = .ok (.aload_n 0, 1) := by decide +kernel
theorem dX3_lieDown_8 : decode cX3_lieDown 8 = .ok (.getfield 30, 3) := by decide +kernel
theorem dX3_lieDown_11 : decode cX3_lieDown 11 = .ok (.iload_n 1, 1) := by decide +kernel
theorem dX3_lieDown_12 : decode cX3_lieDown 12 = .ok (.iconst 0, 1) := by decide +kernel
theorem dX3_lieDown_13 : decode cX3_lieDown 13 = .ok (.iastore, 1) := by decide +kernel
theorem dX3_lieDown_14 : decode cX3_lieDown 14 = .ok (.aload_n 0, 1) := by decide +kernel
theorem dX3_lieDown_15 : decode cX3_lieDown 15 = .ok (.getfield 33, 3) := by decide +kernel
theorem dX3_lieDown_18 : decode cX3_lieDown 18 = .ok (.iload_n 1, 1) := by decide +kernel
theorem dX3_lieDown_19 : decode cX3_lieDown 19 = .ok (.iconst 0, 1) := by decide +kernel
theorem dX3_lieDown_20 : decode cX3_lieDown 20 = .ok (.iastore, 1) := by decide +kernel
theorem dX3_lieDown_21 : decode cX3_lieDown 21 = .ok (.return_, 1) := by decide +kernel
theorem dX3_cry_0 : decode cX3_cry 0 = .ok (.aload_n 0, 1) := by decide +kernel
theorem dX3_cry_1 : decode cX3_cry 1 = .ok (.getfield 27, 3) := by decide +kernel
theorem dX3_cry_4 : decode cX3_cry 4 = .ok (.iload_n 1, 1) := by decide +kernel
theorem dX3_cry_5 : decode cX3_cry 5 = .ok (.iconst 1, 1) := by decide +kernel
theorem dX3_cry_6 : decode cX3_cry 6 = .ok (.iastore, 1) := by decide +kernel
theorem dX3_cry_7 : decode cX3_cry 7 = .ok (.aload_n 0, 1) := by decide +kernel
theorem dX3_cry_8 : decode cX3_cry 8 = .ok (.getfield 30, 3) := by decide +kernel
theorem dX3_cry_11 : decode cX3_cry 11 = .ok (.iload_n 1, 1) := by decide +kernel
theorem dX3_cry_12 : decode cX3_cry 12 = .ok (.aload_n 0, 1) := by decide +kernel
theorem dX3_cry_13 : decode cX3_cry 13 = .ok (.getfield 43, 3) := by decide +kernel
theorem dX3_cry_16 : decode cX3_cry 16 = .ok (.iastore, 1) := by decide +kernel
theorem dX3_cry_17 : decode cX3_cry 17 = .ok (.aload_n 0, 1) := by decide +kernel
theorem dX3_cry_18 : decode cX3_cry 18 = .ok (.getfield 33, 3) := by decide +kernel
theorem dX3_cry_21 : decode cX3_cry 21 = .ok (.iload_n 1, 1) := by decide +kernel
theorem dX3_cry_22 : decode cX3_cry 22 = .ok (.iconst 0, 1) := by decide +kernel
theorem dX3_cry_23 : decode cX3_cry 23 = .ok (.iastore, 1) := by decide +kernel
theorem dX3_cry_24 : decode cX3_cry 24 = .ok (.return_, 1) := by decide +kernel
theorem dX3_wake_0 : decode cX3_wake 0 = .ok (.aload_n 0, 1) := by decide +kernel
theorem dX3_wake_1 : decode cX3_wake 1 = .ok (.getfield 9, 3) := by decide +kernel
theorem dX3_wake_4 : decode cX3_wake 4 = .ok (.iload_n 1, 1) := by decide +kernel
theorem dX3_wake_5 : decode cX3_wake 5 = .ok (.iaload, 1) := by decide +kernel
theorem dX3_wake_6 : decode cX3_wake 6 = .ok (.iconst 5, 1) := by decide +kernel
theorem dX3_wake_7 : decode cX3_wake 7 = .ok (.if_icmp .ne 11, 3) := by decide +kernel
theorem dX3_wake_10 : decode cX3_wake 10 = .ok (.aload_n 0, 1) := by decide +kernel
theorem dX3_wake_11 : decode cX3_wake 11 = .ok (.iload_n 1, 1) := by decide +kernel
theorem dX3_wake_12 : decode cX3_wake 12 = .ok (.invokevirtual 55, 3) := by decide +kernel
theorem dX3_wake_15 : decode cX3_wake 15 = .ok (.goto 8, 3) := by decide +kernel
theorem dX3_wake_18 : decode cX3_wake 18 = .ok (.aload_n 0, 1) := by decide +kernel
theorem dX3_wake_19 : decode cX3_wake 19 = .ok (.iload_n 1, 1) := by decide +kernel
theorem dX3_wake_20 : decode cX3_wake 20 = .ok (.invokevirtual 98, 3) := by decide +kernel
theorem dX3_wake_23 : decode cX3_wake 23 = .ok (.return_, 1) := by decide +kernel
theorem dX3_swapCots_0 : decode cX3_swapCots 0 = .ok (.aload_n 0, 1) := by decide +kernel
theorem dX3_swapCots_1 : decode cX3_swapCots 1 = .ok (.getfield 24, 3) := by decide +kernel
theorem dX3_swapCots_4 : decode cX3_swapCots 4 = .ok (.iload_n 1, 1) := by decide +kernel
theorem dX3_swapCots_5 : decode cX3_swapCots 5 = .ok (.iaload, 1) := by decide +kernel
theorem dX3_swapCots_6 : decode cX3_swapCots 6 = .ok (.istore_n 3, 1) := by decide +kernel
theorem dX3_swapCots_7 : decode cX3_swapCots 7 = .ok (.aload_n 0, 1) := by decide +kernel
theorem dX3_swapCots_8 : decode cX3_swapCots 8 = .ok (.getfield 24, 3) := by decide +kernel
theorem dX3_swapCots_11 : decode cX3_swapCots 11 = .ok (.iload_n 1, 1) := by decide +kernel
theorem dX3_swapCots_12 : decode cX3_swapCots 12 = .ok (.aload_n 0, 1) := by decide +kernel
theorem dX3_swapCots_13 : decode cX3_swapCots 13 = .ok (.getfield 24, 3) := by decide +kernel
theorem dX3_swapCots_16 : decode cX3_swapCots 16 = .ok (.iload_n 2, 1) := by decide +kernel
theorem dX3_swapCots_17 : decode cX3_swapCots 17 = .ok (.iaload, 1) := by decide +kernel
theorem dX3_swapCots_18 : decode cX3_swapCots 18 = .ok (.iastore, 1) := by decide +kernel
theorem dX3_swapCots_19 : decode cX3_swapCots 19 = .ok (.aload_n 0, 1) := by decide +kernel
theorem dX3_swapCots_20 : decode cX3_swapCots 20 = .ok (.getfield 24, 3) := by decide +kernel
theorem dX3_swapCots_23 : decode cX3_swapCots 23 = .ok (.iload_n 2, 1) := by decide +kernel
theorem dX3_swapCots_24 : decode cX3_swapCots 24 = .ok (.iload_n 3, 1) := by decide +kernel
theorem dX3_swapCots_25 : decode cX3_swapCots 25 = .ok (.iastore, 1) := by decide +kernel
theorem dX3_swapCots_26 : decode cX3_swapCots 26 = .ok (.return_, 1) := by decide +kernel
theorem dX3_passLorry_0 : decode cX3_passLorry 0 = .ok (.iconst 0, 1) := by decide +kernel
theorem dX3_passLorry_1 : decode cX3_passLorry 1 = .ok (.istore_n 2, 1) := by decide +kernel
theorem dX3_passLorry_2 : decode cX3_passLorry 2 = .ok (.iconst 0, 1) := by decide +kernel
theorem dX3_passLorry_3 : decode cX3_passLorry 3 = .ok (.istore_n 3, 1) := by decide +kernel
theorem dX3_passLorry_4 : decode cX3_passLorry 4 = .ok (.iload_n 3, 1) := by decide +kernel
theorem dX3_passLorry_5 : decode cX3_passLorry 5 = .ok (.aload_n 0, 1) := by decide +kernel
theorem dX3_passLorry_6 : decode cX3_passLorry 6 = .ok (.getfield 36, 3) := by decide +kernel
theorem dX3_passLorry_9 : decode cX3_passLorry 9 = .ok (.if_icmp .ge 47, 3) := by decide +kernel
theorem dX3_passLorry_12 : decode cX3_passLorry 12 = .ok (.aload_n 0, 1) := by decide +kernel
theorem dX3_passLorry_13 : decode cX3_passLorry 13 = .ok (.getfield 27, 3) := by decide +kernel
theorem dX3_passLorry_16 : decode cX3_passLorry 16 = .ok (.iload_n 3, 1) := by decide +kernel
theorem dX3_passLorry_17 : decode cX3_passLorry 17 = .ok (.iaload, 1) := by decide +kernel
theorem dX3_passLorry_18 : decode cX3_passLorry 18 = .ok (.iconst 2, 1) := by decide +kernel
theorem dX3_passLorry_19 : decode cX3_passLorry 19 = .ok (.if_icmp .ne 31, 3) := by decide +kernel
theorem dX3_passLorry_22 : decode cX3_passLorry 22 = .ok (.aload_n 0, 1) := by decide +kernel
theorem dX3_passLorry_23 : decode cX3_passLorry 23 = .ok (.getfield 52, 3) := by decide +kernel
theorem dX3_passLorry_26 : decode cX3_passLorry 26 = .ok (.iload_n 3, 1) := by decide +kernel
theorem dX3_passLorry_27 : decode cX3_passLorry 27 = .ok (.invokestatic 69, 3) := by decide +kernel
theorem dX3_passLorry_30 : decode cX3_passLorry 30 = .ok (.ifCond .ne 20, 3) := by decide +kernel
theorem dX3_passLorry_33 : decode cX3_passLorry 33 = .ok (.iload_n 1, 1) := by decide +kernel
theorem dX3_passLorry_34 : decode cX3_passLorry 34 = .ok (.aload_n 0, 1) := by decide +kernel
theorem dX3_passLorry_35 : decode cX3_passLorry 35 = .ok (.iload_n 3, 1) := by decide +kernel
theorem dX3_passLorry_36 : decode cX3_passLorry 36 = .ok (.invokevirtual 92, 3) := by decide +kernel
theorem dX3_passLorry_39 : decode cX3_passLorry 39 = .ok (.if_icmp .le 11, 3) := by decide +kernel
theorem dX3_passLorry_42 : decode cX3_passLorry 42 = .ok (.aload_n 0, 1) := by decide +kernel
theorem dX3_passLorry_43 : decode cX3_passLorry 43 = .ok (.iload_n 3, 1) := by decide +kernel
theorem dX3_passLorry_44 : decode cX3_passLorry 44 = .ok (.invokevirtual 101, 3) := by decide +kernel
theorem dX3_passLorry_47 : decode cX3_passLorry 47 = .ok (.iinc 2 1, 3) := by decide +kernel
theorem dX3_passLorry_50 : decode cX3_passLorry 50 = .ok (.iinc 3 1, 3) := by decide +kernel
theorem dX3_passLorry_53 : decode cX3_passLorry 53 = .ok (.goto (-49), 3) := by decide +kernel
theorem dX3_passLorry_56 : decode cX3_passLorry 56 = .ok (.iload_n 2, 1) := by decide +kernel
theorem dX3_passLorry_57 : decode cX3_passLorry 57 = .ok (.ireturn, 1) := by decide +kernel
theorem dX3_passMinutes_0 : decode cX3_passMinutes 0 = .ok (.iconst 0, 1) := by decide +kernel
theorem dX3_passMinutes_1 : decode cX3_passMinutes 1 = .ok (.istore_n 2, 1) := by decide +kernel
theorem dX3_passMinutes_2 : decode cX3_passMinutes 2 = .ok (.iload_n 2, 1) := by decide +kernel
theorem dX3_passMinutes_3 : decode cX3_passMinutes 3 = .ok (.iload_n 1, 1) := by decide +kernel
theorem dX3_passMinutes_4 : decode cX3_passMinutes 4 = .ok (.if_icmp .ge 31, 3) := by decide +kernel
theorem dX3_passMinutes_7 : decode cX3_passMinutes 7 = .ok (.aload_n 0, 1) := by decide +kernel
theorem dX3_passMinutes_8 : decode cX3_passMinutes 8 = .ok (.invokevirtual 104, 3) := by decide +kernel
theorem dX3_passMinutes_11 : decode cX3_passMinutes 11 = .ok (.ifCond .ne 18, 3) := by decide +kernel
theorem dX3_passMinutes_14 : decode cX3_passMinutes 14 = .ok (.aload_n 0, 1) := by decide +kernel
theorem dX3_passMinutes_15 : decode cX3_passMinutes 15 = .ok (.dup, 1) := by decide +kernel
theorem dX3_passMinutes_16 : decode cX3_passMinutes 16 = .ok (.getfield 46, 3) := by decide +kernel
theorem dX3_passMinutes_19 : decode cX3_passMinutes 19 = .ok (.iload_n 1, 1) := by decide +kernel
theorem dX3_passMinutes_20 : decode cX3_passMinutes 20 = .ok (.iconst 1, 1) := by decide +kernel
theorem dX3_passMinutes_21 : decode cX3_passMinutes 21 = .ok (.isub, 1) := by decide +kernel
theorem dX3_passMinutes_22 : decode cX3_passMinutes 22 = .ok (.iload_n 2, 1) := by decide +kernel
theorem dX3_passMinutes_23 : decode cX3_passMinutes 23 = .ok (.isub, 1) := by decide +kernel
theorem dX3_passMinutes_24 : decode cX3_passMinutes 24 = .ok (.iadd, 1) := by decide +kernel
theorem dX3_passMinutes_25 : decode cX3_passMinutes 25 = .ok (.putfield 46, 3) := by decide +kernel
theorem dX3_passMinutes_28 : decode cX3_passMinutes 28 = .ok (.return_, 1) := by decide +kernel
theorem dX3_passMinutes_29 : decode cX3_passMinutes 29 = .ok (.iinc 2 1, 3) := by decide +kernel
theorem dX3_passMinutes_32 : decode cX3_passMinutes 32 = .ok (.goto (-30), 3) := by decide +kernel
theorem dX3_passMinutes_35 : decode cX3_passMinutes 35 = .ok (.return_, 1) := by decide +kernel
theorem dX3_passMinute_0 : decode cX3_passMinute 0 = .ok (.aload_n 0, 1) := by decide +kernel
theorem dX3_passMinute_1 : decode cX3_passMinute 1 = .ok (.invokevirtual 85, 3) := by decide +kernel
theorem dX3_passMinute_4 : decode cX3_passMinute 4 = .ok (.istore_n 1, 1) := by decide +kernel
theorem dX3_passMinute_5 : decode cX3_passMinute 5 = .ok (.iconst 0, 1) := by decide +kernel
theorem dX3_passMinute_6 : decode cX3_passMinute 6 = .ok (.istore_n 2, 1) := by decide +kernel
theorem dX3_passMinute_7 : decode cX3_passMinute 7 = .ok (.iconst 0, 1) := by decide +kernel
theorem dX3_passMinute_8 : decode cX3_passMinute 8 = .ok (.istore_n 3, 1) := by decide +kernel
theorem dX3_passMinute_9 : decode cX3_passMinute 9 = .ok (.iload_n 3, 1) := by decide +kernel
theorem dX3_passMinute_10 : decode cX3_passMinute 10 = .ok (.aload_n 0, 1) := by decide +kernel
theorem dX3_passMinute_11 : decode cX3_passMinute 11 = .ok (.getfield 36, 3) := by decide +kernel
theorem dX3_passMinute_14 : decode cX3_passMinute 14 = .ok (.if_icmp .ge 69, 3) := by decide +kernel
theorem dX3_passMinute_17 : decode cX3_passMinute 17 = .ok (.aload_n 0, 1) := by decide +kernel
theorem dX3_passMinute_18 : decode cX3_passMinute 18 = .ok (.getfield 27, 3) := by decide +kernel
theorem dX3_passMinute_21 : decode cX3_passMinute 21 = .ok (.iload_n 3, 1) := by decide +kernel
theorem dX3_passMinute_22 : decode cX3_passMinute 22 = .ok (.iaload, 1) := by decide +kernel
theorem dX3_passMinute_23 : decode cX3_passMinute 23 = .ok (.iconst 1, 1) := by decide +kernel
theorem dX3_passMinute_24 : decode cX3_passMinute 24 = .ok (.if_icmp .ne 13, 3) := by decide +kernel
theorem dX3_passMinute_27 : decode cX3_passMinute 27 = .ok (.aload_n 0, 1) := by decide +kernel
theorem dX3_passMinute_28 : decode cX3_passMinute 28 = .ok (.iload_n 3, 1) := by decide +kernel
theorem dX3_passMinute_29 : decode cX3_passMinute 29 = .ok (.invokevirtual 108, 3) := by decide +kernel
theorem dX3_passMinute_32 : decode cX3_passMinute 32 = .ok (.iconst 1, 1) := by decide +kernel
theorem dX3_passMinute_33 : decode cX3_passMinute 33 = .ok (.istore_n 2, 1) := by decide +kernel
theorem dX3_passMinute_34 : decode cX3_passMinute 34 = .ok (.goto 43, 3) := by decide +kernel
theorem dX3_passMinute_37 : decode cX3_passMinute 37 = .ok (.aload_n 0, 1) := by decide +kernel
theorem dX3_passMinute_38 : decode cX3_passMinute 38 = .ok (.getfield 52, 3) := by decide +kernel
theorem dX3_passMinute_41 : decode cX3_passMinute 41 = .ok (.iload_n 3, 1) := by decide +kernel
theorem dX3_passMinute_42 : decode cX3_passMinute 42 = .ok (.invokestatic 69, 3) := by decide +kernel
theorem dX3_passMinute_45 : decode cX3_passMinute 45 = .ok (.ifCond .ne 32, 3) := by decide +kernel
theorem dX3_passMinute_48 : decode cX3_passMinute 48 = .ok (.aload_n 0, 1) := by decide +kernel
theorem dX3_passMinute_49 : decode cX3_passMinute 49 = .ok (.iload_n 3, 1) := by decide +kernel
theorem dX3_passMinute_50 : decode cX3_passMinute 50 = .ok (.aload_n 0, 1) := by decide +kernel
theorem dX3_passMinute_51 : decode cX3_passMinute 51 = .ok (.iload_n 3, 1) := by decide +kernel
theorem dX3_passMinute_52 : decode cX3_passMinute 52 = .ok (.iload_n 1, 1) := by decide +kernel
theorem dX3_passMinute_53 : decode cX3_passMinute 53 = .ok (.invokevirtual 89, 3) := by decide +kernel
theorem dX3_passMinute_56 : decode cX3_passMinute 56 = .ok (.aload_n 0, 1) := by decide +kernel
theorem dX3_passMinute_57 : decode cX3_passMinute 57 = .ok (.iload_n 3, 1) := by decide +kernel
theorem dX3_passMinute_58 : decode cX3_passMinute 58 = .ok (.invokevirtual 92, 3) := by decide +kernel
theorem dX3_passMinute_61 : decode cX3_passMinute 61 = .ok (.if_icmp .le 7, 3) := by decide +kernel
theorem dX3_passMinute_64 : decode cX3_passMinute 64 = .ok (.iconst 1, 1) := by decide +kernel
theorem dX3_passMinute_65 : decode cX3_passMinute 65 = .ok (.goto 4, 3) := by decide +kernel
theorem dX3_passMinute_68 : decode cX3_passMinute 68 = .ok (.iconst 0, 1) := by decide +kernel
theorem dX3_passMinute_69 : decode cX3_passMinute 69 = .ok (.invokevirtual 111, 3) := by decide +kernel
theorem dX3_passMinute_72 : decode cX3_passMinute 72 = .ok (.ifCond .eq 5, 3) := by decide +kernel
theorem dX3_passMinute_75 : decode cX3_passMinute 75 = .ok (.iconst 1, 1) := by decide +kernel
theorem dX3_passMinute_76 : decode cX3_passMinute 76 = .ok (.istore_n 2, 1) := by decide +kernel
theorem dX3_passMinute_77 : decode cX3_passMinute 77 = .ok (.iinc 3 1, 3) := by decide +kernel
theorem dX3_passMinute_80 : decode cX3_passMinute 80 = .ok (.goto (-71), 3) := by decide +kernel
theorem dX3_passMinute_83 : decode cX3_passMinute 83 = .ok (.aload_n 0, 1) := by decide +kernel
theorem dX3_passMinute_84 : decode cX3_passMinute 84 = .ok (.dup, 1) := by decide +kernel
theorem dX3_passMinute_85 : decode cX3_passMinute 85 = .ok (.getfield 46, 3) := by decide +kernel
theorem dX3_passMinute_88 : decode cX3_passMinute 88 = .ok (.iconst 1, 1) := by decide +kernel
theorem dX3_passMinute_89 : decode cX3_passMinute 89 = .ok (.iadd, 1) := by decide +kernel
theorem dX3_passMinute_90 : decode cX3_passMinute 90 = .ok (.putfield 46, 3) := by decide +kernel
theorem dX3_passMinute_93 : decode cX3_passMinute 93 = .ok (.iload_n 2, 1) := by decide +kernel
theorem dX3_passMinute_94 : decode cX3_passMinute 94 = .ok (.ireturn, 1) := by decide +kernel
theorem dX3_calmDown_0 : decode cX3_calmDown 0 = .ok (.aload_n 0, 1) := by decide +kernel
theorem dX3_calmDown_1 : decode cX3_calmDown 1 = .ok (.getfield 30, 3) := by decide +kernel
theorem dX3_calmDown_4 : decode cX3_calmDown 4 = .ok (.iload_n 1, 1) := by decide +kernel
theorem dX3_calmDown_5 : decode cX3_calmDown 5 = .ok (.dup2, 1) := by decide +kernel
theorem dX3_calmDown_6 : decode cX3_calmDown 6 = .ok (.iaload, 1) := by decide +kernel
theorem dX3_calmDown_7 : decode cX3_calmDown 7 = .ok (.aload_n 0, 1) := by decide +kernel
theorem dX3_calmDown_8 : decode cX3_calmDown 8 = .ok (.getfield 49, 3) := by decide +kernel
theorem dX3_calmDown_11 : decode cX3_calmDown 11 = .ok (.iload_n 1, 1) := by decide +kernel
theorem dX3_calmDown_12 : decode cX3_calmDown 12 = .ok (.invokestatic 69, 3) := by decide +kernel
theorem dX3_calmDown_15 : decode cX3_calmDown 15 = .ok (.ifCond .eq 18, 3) := by decide +kernel
theorem dX3_calmDown_18 : decode cX3_calmDown 18 = .ok (.aload_n 0, 1) := by decide +kernel
theorem dX3_calmDown_19 : decode cX3_calmDown 19 = .ok (.getfield 52, 3) := by decide +kernel
theorem dX3_calmDown_22 : decode cX3_calmDown 22 = .ok (.iload_n 1, 1) := by decide +kernel
theorem dX3_calmDown_23 : decode cX3_calmDown 23 = .ok (.invokestatic 69, 3) := by decide +kernel
theorem dX3_calmDown_26 : decode cX3_calmDown 26 = .ok (.ifCond .ne 7, 3) := by decide +kernel
theorem dX3_calmDown_29 : decode cX3_calmDown 29 = .ok (.iconst 2, 1) := by decide +kernel
theorem dX3_calmDown_30 : decode cX3_calmDown 30 = .ok (.goto 4, 3) := by decide +kernel
theorem dX3_calmDown_33 : decode cX3_calmDown 33 = .ok (.iconst 1, 1) := by decide +kernel
theorem dX3_calmDown_34 : decode cX3_calmDown 34 = .ok (.isub, 1) := by decide +kernel
theorem dX3_calmDown_35 : decode cX3_calmDown 35 = .ok (.iastore, 1) := by decide +kernel
theorem dX3_calmDown_36 : decode cX3_calmDown 36 = .ok (.aload_n 0, 1) := by decide +kernel
theorem dX3_calmDown_37 : decode cX3_calmDown 37 = .ok (.getfield 30, 3) := by decide +kernel
theorem dX3_calmDown_40 : decode cX3_calmDown 40 = .ok (.iload_n 1, 1) := by decide +kernel
theorem dX3_calmDown_41 : decode cX3_calmDown 41 = .ok (.iaload, 1) := by decide +kernel
theorem dX3_calmDown_42 : decode cX3_calmDown 42 = .ok (.ifCond .gt 8, 3) := by decide +kernel
theorem dX3_calmDown_45 : decode cX3_calmDown 45 = .ok (.aload_n 0, 1) := by decide +kernel
theorem dX3_calmDown_46 : decode cX3_calmDown 46 = .ok (.iload_n 1, 1) := by decide +kernel
theorem dX3_calmDown_47 : decode cX3_calmDown 47 = .ok (.invokevirtual 55, 3) := by decide +kernel
theorem dX3_calmDown_50 : decode cX3_calmDown 50 = .ok (.return_, 1) := by decide +kernel
theorem dX3_listen_0 : decode cX3_listen 0 = .ok (.aload_n 0, 1) := by decide +kernel
theorem dX3_listen_1 : decode cX3_listen 1 = .ok (.getfield 27, 3) := by decide +kernel
theorem dX3_listen_4 : decode cX3_listen 4 = .ok (.iload_n 1, 1) := by decide +kernel
theorem dX3_listen_5 : decode cX3_listen 5 = .ok (.iaload, 1) := by decide +kernel
theorem dX3_listen_6 : decode cX3_listen 6 = .ok (.iconst 2, 1) := by decide +kernel
theorem dX3_listen_7 : decode cX3_listen 7 = .ok (.if_icmp .ne 14, 3) := by decide +kernel
theorem dX3_listen_10 : decode cX3_listen 10 = .ok (.iload_n 2, 1) := by decide +kernel
theorem dX3_listen_11 : decode cX3_listen 11 = .ok (.ifCond .eq 8, 3) := by decide +kernel
theorem dX3_listen_14 : decode cX3_listen 14 = .ok (.aload_n 0, 1) := by decide +kernel
theorem dX3_listen_15 : decode cX3_listen 15 = .ok (.iload_n 1, 1) := by decide +kernel
theorem dX3_listen_16 : decode cX3_listen 16 = .ok (.invokevirtual 101, 3) := by decide +kernel
theorem dX3_listen_19 : decode cX3_listen 19 = .ok (.iload_n 2, 1) := by decide +kernel
theorem dX3_listen_20 : decode cX3_listen 20 = .ok (.ireturn, 1) := by decide +kernel
theorem dX3_listen_21 : decode cX3_listen 21 = .ok (.aload_n 0, 1) := by decide +kernel
theorem dX3_listen_22 : decode cX3_listen 22 = .ok (.getfield 33, 3) := by decide +kernel
theorem dX3_listen_25 : decode cX3_listen 25 = .ok (.iload_n 1, 1) := by decide +kernel
theorem dX3_listen_26 : decode cX3_listen 26 = .ok (.iaload, 1) := by decide +kernel
theorem dX3_listen_27 : decode cX3_listen 27 = .ok (.istore_n 3, 1) := by decide +kernel
theorem dX3_listen_28 : decode cX3_listen 28 = .ok (.aload_n 0, 1) := by decide +kernel
theorem dX3_listen_29 : decode cX3_listen 29 = .ok (.getfield 33, 3) := by decide +kernel
theorem dX3_listen_32 : decode cX3_listen 32 = .ok (.iload_n 1, 1) := by decide +kernel
theorem dX3_listen_33 : decode cX3_listen 33 = .ok (.iload_n 2, 1) := by decide +kernel
theorem dX3_listen_34 : decode cX3_listen 34 = .ok (.ifCond .eq 7, 3) := by decide +kernel
theorem dX3_listen_37 : decode cX3_listen 37 = .ok (.iconst 0, 1) := by decide +kernel
theorem dX3_listen_38 : decode cX3_listen 38 = .ok (.goto 10, 3) := by decide +kernel
theorem dX3_listen_41 : decode cX3_listen 41 = .ok (.iload_n 3, 1) := by decide +kernel
theorem dX3_listen_42 : decode cX3_listen 42 = .ok (.aload_n 0, 1) := by decide +kernel
theorem dX3_listen_43 : decode cX3_listen 43 = .ok (.iload_n 1, 1) := by decide +kernel
theorem dX3_listen_44 : decode cX3_listen 44 = .ok (.invokevirtual 115, 3) := by decide +kernel
theorem dX3_listen_47 : decode cX3_listen 47 = .ok (.iadd, 1) := by decide +kernel
theorem dX3_listen_48 : decode cX3_listen 48 = .ok (.iastore, 1) := by decide +kernel
theorem dX3_listen_49 : decode cX3_listen 49 = .ok (.aload_n 0, 1) := by decide +kernel
theorem dX3_listen_50 : decode cX3_listen 50 = .ok (.getfield 33, 3) := by decide +kernel
theorem dX3_listen_53 : decode cX3_listen 53 = .ok (.iload_n 1, 1) := by decide +kernel
theorem dX3_listen_54 : decode cX3_listen 54 = .ok (.iaload, 1) := by decide +kernel
theorem dX3_listen_55 : decode cX3_listen 55 = .ok (.aload_n 0, 1) := by decide +kernel
theorem dX3_listen_56 : decode cX3_listen 56 = .ok (.getfield 15, 3) := by decide +kernel
theorem dX3_listen_59 : decode cX3_listen 59 = .ok (.iload_n 1, 1) := by decide +kernel
theorem dX3_listen_60 : decode cX3_listen 60 = .ok (.iaload, 1) := by decide +kernel
theorem dX3_listen_61 : decode cX3_listen 61 = .ok (.if_icmp .lt 10, 3) := by decide +kernel
theorem dX3_listen_64 : decode cX3_listen 64 = .ok (.aload_n 0, 1) := by decide +kernel
theorem dX3_listen_65 : decode cX3_listen 65 = .ok (.getfield 27, 3) := by decide +kernel
theorem dX3_listen_68 : decode cX3_listen 68 = .ok (.iload_n 1, 1) := by decide +kernel
theorem dX3_listen_69 : decode cX3_listen 69 = .ok (.iconst 2, 1) := by decide +kernel
theorem dX3_listen_70 : decode cX3_listen 70 = .ok (.iastore, 1) := by decide +kernel
theorem dX3_listen_71 : decode cX3_listen 71 = .ok (.aload_n 0, 1) := by decide +kernel
theorem dX3_listen_72 : decode cX3_listen 72 = .ok (.getfield 27, 3) := by decide +kernel
theorem dX3_listen_75 : decode cX3_listen 75 = .ok (.iload_n 1, 1) := by decide +kernel
theorem dX3_listen_76 : decode cX3_listen 76 = .ok (.iaload, 1) := by decide +kernel
theorem dX3_listen_77 : decode cX3_listen 77 = .ok (.iconst 2, 1) := by decide +kernel
theorem dX3_listen_78 : decode cX3_listen 78 = .ok (.if_icmp .eq 13, 3) := by decide +kernel
theorem dX3_listen_81 : decode cX3_listen 81 = .ok (.aload_n 0, 1) := by decide +kernel
theorem dX3_listen_82 : decode cX3_listen 82 = .ok (.getfield 33, 3) := by decide +kernel
theorem dX3_listen_85 : decode cX3_listen 85 = .ok (.iload_n 1, 1) := by decide +kernel
theorem dX3_listen_86 : decode cX3_listen 86 = .ok (.iaload, 1) := by decide +kernel
theorem dX3_listen_87 : decode cX3_listen 87 = .ok (.iload_n 3, 1) := by decide +kernel
theorem dX3_listen_88 : decode cX3_listen 88 = .ok (.if_icmp .eq 7, 3) := by decide +kernel
theorem dX3_listen_91 : decode cX3_listen 91 = .ok (.iconst 1, 1) := by decide +kernel
theorem dX3_listen_92 : decode cX3_listen 92 = .ok (.goto 4, 3) := by decide +kernel
theorem dX3_listen_95 : decode cX3_listen 95 = .ok (.iconst 0, 1) := by decide +kernel
theorem dX3_listen_96 : decode cX3_listen 96 = .ok (.ireturn, 1) := by decide +kernel
theorem dX3_calmGained_0 : decode cX3_calmGained 0 = .ok (.aload_n 0, 1) := by decide +kernel
theorem dX3_calmGained_1 : decode cX3_calmGained 1 = .ok (.getfield 49, 3) := by decide +kernel
theorem dX3_calmGained_4 : decode cX3_calmGained 4 = .ok (.iload_n 1, 1) := by decide +kernel
theorem dX3_calmGained_5 : decode cX3_calmGained 5 = .ok (.invokestatic 69, 3) := by decide +kernel
theorem dX3_calmGained_8 : decode cX3_calmGained 8 = .ok (.ifCond .eq 5, 3) := by decide +kernel
theorem dX3_calmGained_11 : decode cX3_calmGained 11 = .ok (.iconst 2, 1) := by decide +kernel
theorem dX3_calmGained_12 : decode cX3_calmGained 12 = .ok (.ireturn, 1) := by decide +kernel
theorem dX3_calmGained_13 : decode cX3_calmGained 13 = .ok (.aload_n 0, 1) := by decide +kernel
theorem dX3_calmGained_14 : decode cX3_calmGained 14 = .ok (.getfield 9, 3) := by decide +kernel
theorem dX3_calmGained_17 : decode cX3_calmGained 17 = .ok (.iload_n 1, 1) := by decide +kernel
theorem dX3_calmGained_18 : decode cX3_calmGained 18 = .ok (.iaload, 1) := by decide +kernel
theorem dX3_calmGained_19 : decode cX3_calmGained 19 = .ok (.iconst 3, 1) := by decide +kernel
theorem dX3_calmGained_20 : decode cX3_calmGained 20 = .ok (.if_icmp .ne 7, 3) := by decide +kernel
theorem dX3_calmGained_23 : decode cX3_calmGained 23 = .ok (.iconst 0, 1) := by decide +kernel
theorem dX3_calmGained_24 : decode cX3_calmGained 24 = .ok (.goto 4, 3) := by decide +kernel
theorem dX3_calmGained_27 : decode cX3_calmGained 27 = .ok (.iconst 1, 1) := by decide +kernel
theorem dX3_calmGained_28 : decode cX3_calmGained 28 = .ok (.ireturn, 1) := by decide +kernel
theorem dX4_init_0 : decode cX4_init 0 = .ok (.aload_n 0, 1) := by decide +kernel
theorem dX4_init_1 : decode cX4_init 1 = .ok (.invokespecial 3, 3) := by decide +kernel
theorem dX4_init_4 : decode cX4_init 4 = .ok (.aload_n 0, 1) := by decide +kernel
theorem dX4_init_5 : decode cX4_init 5 = .ok (.bipush 40, 2) := by decide +kernel
theorem dX4_init_7 : decode cX4_init 7 = .ok (.newarray .int, 2) := by decide +kernel
theorem dX4_init_9 : decode cX4_init 9 = .ok (.putfield 9, 3) := by decide +kernel
theorem dX4_init_12 : decode cX4_init 12 = .ok (.aload_n 0, 1) := by decide +kernel
theorem dX4_init_13 : decode cX4_init 13 = .ok (.iconst (-1), 1) := by decide +kernel
theorem dX4_init_14 : decode cX4_init 14 = .ok (.putfield 15, 3) := by decide +kernel
theorem dX4_init_17 : decode cX4_init 17 = .ok (.return_, 1) := by decide +kernel
theorem dX4_begin_0 : decode cX4_begin 0 = .ok (.aload_n 0, 1) := by decide +kernel
theorem dX4_begin_1 : decode cX4_begin 1 = .ok (.iload_n 1, 1) := by decide +kernel
theorem dX4_begin_2 : decode cX4_begin 2 = .ok (.putfield 15, 3) := by decide +kernel
theorem dX4_begin_5 : decode cX4_begin 5 = .ok (.aload_n 0, 1) := by decide +kernel
theorem dX4_begin_6 : decode cX4_begin 6 = .ok (.iload_n 2, 1) := by decide +kernel
theorem dX4_begin_7 : decode cX4_begin 7 = .ok (.putfield 19, 3) := by decide +kernel
theorem dX4_begin_10 : decode cX4_begin 10 = .ok (.iconst 0, 1) := by decide +kernel
theorem dX4_begin_11 : decode cX4_begin 11 = .ok (.istore_n 3, 1) := by decide +kernel
theorem dX4_begin_12 : decode cX4_begin 12 = .ok (.iload_n 3, 1) := by decide +kernel
theorem dX4_begin_13 : decode cX4_begin 13 = .ok (.bipush 40, 2) := by decide +kernel
theorem dX4_begin_15 : decode cX4_begin 15 = .ok (.if_icmp .ge 16, 3) := by decide +kernel
theorem dX4_begin_18 : decode cX4_begin 18 = .ok (.aload_n 0, 1) := by decide +kernel
theorem dX4_begin_19 : decode cX4_begin 19 = .ok (.getfield 9, 3) := by decide +kernel
theorem dX4_begin_22 : decode cX4_begin 22 = .ok (.iload_n 3, 1) := by decide +kernel
theorem dX4_begin_23 : decode cX4_begin 23 = .ok (.iconst 0, 1) := by decide +kernel
theorem dX4_begin_24 : decode cX4_begin 24 = .ok (.iastore, 1) := by decide +kernel
theorem dX4_begin_25 : decode cX4_begin 25 = .ok (.iinc 3 1, 3) := by decide +kernel
theorem dX4_begin_28 : decode cX4_begin 28 = .ok (.goto (-16), 3) := by decide +kernel
theorem dX4_begin_31 : decode cX4_begin 31 = .ok (.return_, 1) := by decide +kernel
theorem dX4_narrowed_0 : decode cX4_narrowed 0 = .ok (.aload_n 0, 1) := by decide +kernel
theorem dX4_narrowed_1 : decode cX4_narrowed 1 = .ok (.getfield 15, 3) := by decide +kernel
theorem dX4_narrowed_4 : decode cX4_narrowed 4 = .ok (.lookupswitch 34 #[(0, 28), (1, 31)], 28) := by decide +kernel
theorem dX4_narrowed_32 : decode cX4_narrowed 32 = .ok (.iload_n 1, 1) := by decide +kernel
theorem dX4_narrowed_33 : decode cX4_narrowed 33 = .ok (.i2b, 1) := by decide +kernel
theorem dX4_narrowed_34 : decode cX4_narrowed 34 = .ok (.ireturn, 1) := by decide +kernel
theorem dX4_narrowed_35 : decode cX4_narrowed 35 = .ok (.iload_n 1, 1) := by decide +kernel
theorem dX4_narrowed_36 : decode cX4_narrowed 36 = .ok (.i2s, 1) := by decide +kernel
theorem dX4_narrowed_37 : decode cX4_narrowed 37 = .ok (.ireturn, 1) := by decide +kernel
theorem dX4_narrowed_38 : decode cX4_narrowed 38 = .ok (.iload_n 1, 1) := by decide +kernel
theorem dX4_narrowed_39 : decode cX4_narrowed 39 = .ok (.ireturn, 1) := by decide +kernel
theorem dX4_lacks_0 : decode cX4_lacks 0 = .ok (.iload_n 2, 1) := by decide +kernel
theorem dX4_lacks_1 : decode cX4_lacks 1 = .ok (.ifCond .lt 17, 3) := by decide +kernel
theorem dX4_lacks_4 : decode cX4_lacks 4 = .ok (.iload_n 1, 1) := by decide +kernel
theorem dX4_lacks_5 : decode cX4_lacks 5 = .ok (.ifCond .lt 13, 3) := by decide +kernel
theorem dX4_lacks_8 : decode cX4_lacks 8 = .ok (.iload_n 1, 1) := by decide +kernel
theorem dX4_lacks_9 : decode cX4_lacks 9 = .ok (.aload_n 0, 1) := by decide +kernel
theorem dX4_lacks_10 : decode cX4_lacks 10 = .ok (.getfield 19, 3) := by decide +kernel
theorem dX4_lacks_13 : decode cX4_lacks 13 = .ok (.iload_n 2, 1) := by decide +kernel
theorem dX4_lacks_14 : decode cX4_lacks 14 = .ok (.isub, 1) := by decide +kernel
theorem dX4_lacks_15 : decode cX4_lacks 15 = .ok (.if_icmp .le 7, 3) := by decide +kernel
theorem dX4_lacks_18 : decode cX4_lacks 18 = .ok (.iconst 1, 1) := by decide +kernel
theorem dX4_lacks_19 : decode cX4_lacks 19 = .ok (.goto 4, 3) := by decide +kernel
theorem dX4_lacks_22 : decode cX4_lacks 22 = .ok (.iconst 0, 1) := by decide +kernel
theorem dX4_lacks_23 : decode cX4_lacks 23 = .ok (.ireturn, 1) := by decide +kernel
theorem dX4_findingFor_0 : decode cX4_findingFor 0 = .ok (.aload_n 0, 1) := by decide +kernel
theorem dX4_findingFor_1 : decode cX4_findingFor 1 = .ok (.getfield 15, 3) := by decide +kernel
theorem dX4_findingFor_4 : decode cX4_findingFor 4 = .ok (.iconst (-1), 1) := by decide +kernel
theorem dX4_findingFor_5 : decode cX4_findingFor 5 = .ok (.if_icmp .ne 5, 3) := by decide +kernel
theorem dX4_findingFor_8 : decode cX4_findingFor 8 = .ok (.iconst 1, 1) := by decide +kernel
theorem dX4_findingFor_9 : decode cX4_findingFor 9 = .ok (.ireturn, 1) := by decide +kernel
theorem dX4_findingFor_10 : decode cX4_findingFor 10 = .ok (.aload_n 0, 1) := by decide +kernel
theorem dX4_findingFor_11 : decode cX4_findingFor 11 = .ok (.iload_n 1, 1) := by decide +kernel
theorem dX4_findingFor_12 : decode cX4_findingFor 12 = .ok (.iload_n 2, 1) := by decide +kernel
theorem dX4_findingFor_13 : decode cX4_findingFor 13 = .ok (.invokevirtual 22, 3) := by decide +kernel
theorem dX4_findingFor_16 : decode cX4_findingFor 16 = .ok (.ifCond .eq 7, 3) := by decide +kernel
theorem dX4_findingFor_19 : decode cX4_findingFor 19 = .ok (.iconst 2, 1) := by decide +kernel
theorem dX4_findingFor_20 : decode cX4_findingFor 20 = .ok (.goto 4, 3) := by decide +kernel
theorem dX4_findingFor_23 : decode cX4_findingFor 23 = .ok (.iconst 0, 1) := by decide +kernel
theorem dX4_findingFor_24 : decode cX4_findingFor 24 = .ok (.ireturn, 1) := by decide +kernel
theorem dX5_init_0 : decode cX5_init 0 = .ok (.aload_n 0, 1) := by decide +kernel
theorem dX5_init_1 : decode cX5_init 1 = .ok (.invokespecial 3, 3) := by decide +kernel
theorem dX5_init_4 : decode cX5_init 4 = .ok (.aload_n 0, 1) := by decide +kernel
theorem dX5_init_5 : decode cX5_init 5 = .ok (.bipush 120, 2) := by decide +kernel
theorem dX5_init_7 : decode cX5_init 7 = .ok (.newarray .int, 2) := by decide +kernel
theorem dX5_init_9 : decode cX5_init 9 = .ok (.putfield 9, 3) := by decide +kernel
theorem dX5_init_12 : decode cX5_init 12 = .ok (.return_, 1) := by decide +kernel
theorem dX5_readInto_0 : decode cX5_readInto 0 = .ok (.aload_n 1, 1) := by decide +kernel
theorem dX5_readInto_1 : decode cX5_readInto 1 = .ok (.invokevirtual 15, 3) := by decide +kernel
theorem dX5_readInto_4 : decode cX5_readInto 4 = .ok (.iconst 0, 1) := by decide +kernel
theorem dX5_readInto_5 : decode cX5_readInto 5 = .ok (.istore_n 2, 1) := by decide +kernel
theorem dX5_readInto_6 : decode cX5_readInto 6 = .ok (.iconst 0, 1) := by decide +kernel
theorem dX5_readInto_7 : decode cX5_readInto 7 = .ok (.istore_n 3, 1) := by decide +kernel
theorem dX5_readInto_8 : decode cX5_readInto 8 = .ok (.iconst 0, 1) := by decide +kernel
theorem dX5_readInto_9 : decode cX5_readInto 9 = .ok (.istore 4, 2) := by decide +kernel
theorem dX5_readInto_11 : decode cX5_readInto 11 = .ok (.iload 4, 2) := by decide +kernel
theorem dX5_readInto_13 : decode cX5_readInto 13 = .ok (.aload_n 0, 1) := by decide +kernel
theorem dX5_readInto_14 : decode cX5_readInto 14 = .ok (.getfield 20, 3) := by decide +kernel
theorem dX5_readInto_17 : decode cX5_readInto 17 = .ok (.if_icmp .ge 77, 3) := by decide +kernel
theorem dX5_readInto_20 : decode cX5_readInto 20 = .ok (.aload_n 0, 1) := by decide +kernel
theorem dX5_readInto_21 : decode cX5_readInto 21 = .ok (.iload 4, 2) := by decide +kernel
theorem dX5_readInto_23 : decode cX5_readInto 23 = .ok (.invokevirtual 24, 3) := by decide +kernel
theorem dX5_readInto_26 : decode cX5_readInto 26 = .ok (.istore_n 3, 1) := by decide +kernel
theorem dX5_readInto_27 : decode cX5_readInto 27 = .ok (.aload_n 0, 1) := by decide +kernel
theorem dX5_readInto_28 : decode cX5_readInto 28 = .ok (.aload_n 0, 1) := by decide +kernel
theorem dX5_readInto_29 : decode cX5_readInto 29 = .ok (.iload 4, 2) := by decide +kernel
theorem dX5_readInto_31 : decode cX5_readInto 31 = .ok (.iload_n 3, 1) := by decide +kernel
theorem dX5_readInto_32 : decode cX5_readInto 32 = .ok (.iload_n 2, 1) := by decide +kernel
theorem dX5_readInto_33 : decode cX5_readInto 33 = .ok (.aload_n 1, 1) := by decide +kernel
theorem dX5_readInto_34 : decode cX5_readInto 34 = .ok (.getfield 28, 3) := by decide +kernel
theorem dX5_readInto_37 : decode cX5_readInto 37 = .ok (.invokevirtual 31, 3) := by decide +kernel
theorem dX5_readInto_40 : decode cX5_readInto 40 = .ok (.putfield 35, 3) := by decide +kernel
theorem dX5_readInto_43 : decode cX5_readInto 43 = .ok (.aload_n 0, 1) := by decide +kernel
theorem dX5_readInto_44 : decode cX5_readInto 44 = .ok (.getfield 35, 3) := by decide +kernel
theorem dX5_readInto_47 : decode cX5_readInto 47 = .ok (.ifCond .eq 6, 3) := by decide +kernel
theorem dX5_readInto_50 : decode cX5_readInto 50 = .ok (.iload 4, 2) := by decide +kernel
theorem dX5_readInto_52 : decode cX5_readInto 52 = .ok (.ireturn, 1) := by decide +kernel
theorem dX5_readInto_53 : decode cX5_readInto 53 = .ok (.aload_n 1, 1) := by decide +kernel
theorem dX5_readInto_54 : decode cX5_readInto 54 = .ok (.iload_n 2, 1) := by decide +kernel
theorem dX5_readInto_55 : decode cX5_readInto 55 = .ok (.aload_n 0, 1) := by decide +kernel
theorem dX5_readInto_56 : decode cX5_readInto 56 = .ok (.iload 4, 2) := by decide +kernel
theorem dX5_readInto_58 : decode cX5_readInto 58 = .ok (.iload_n 3, 1) := by decide +kernel
theorem dX5_readInto_59 : decode cX5_readInto 59 = .ok (.invokevirtual 38, 3) := by decide +kernel
theorem dX5_readInto_62 : decode cX5_readInto 62 = .ok (.invokestatic 42, 3) := by decide +kernel
theorem dX5_readInto_65 : decode cX5_readInto 65 = .ok (.iload_n 2, 1) := by decide +kernel
theorem dX5_readInto_66 : decode cX5_readInto 66 = .ok (.iconst 1, 1) := by decide +kernel
theorem dX5_readInto_67 : decode cX5_readInto 67 = .ok (.iadd, 1) := by decide +kernel
theorem dX5_readInto_68 : decode cX5_readInto 68 = .ok (.bipush 12, 2) := by decide +kernel
theorem dX5_readInto_70 : decode cX5_readInto 70 = .ok (.if_icmp .ge 9, 3) := by decide +kernel
theorem dX5_readInto_73 : decode cX5_readInto 73 = .ok (.iload_n 2, 1) := by decide +kernel
theorem dX5_readInto_74 : decode cX5_readInto 74 = .ok (.iconst 1, 1) := by decide +kernel
theorem dX5_readInto_75 : decode cX5_readInto 75 = .ok (.iadd, 1) := by decide +kernel
theorem dX5_readInto_76 : decode cX5_readInto 76 = .ok (.goto 4, 3) := by decide +kernel
theorem dX5_readInto_79 : decode cX5_readInto 79 = .ok (.iconst 5, 1) := by decide +kernel
theorem dX5_readInto_80 : decode cX5_readInto 80 = .ok (.istore_n 2, 1) := by decide +kernel
theorem dX5_readInto_81 : decode cX5_readInto 81 = .ok (.iload 4, 2) := by decide +kernel
theorem dX5_readInto_83 : decode cX5_readInto 83 = .ok (.iconst 1, 1) := by decide +kernel
theorem dX5_readInto_84 : decode cX5_readInto 84 = .ok (.iload_n 3, 1) := by decide +kernel
theorem dX5_readInto_85 : decode cX5_readInto 85 = .ok (.invokestatic 46, 3) := by decide +kernel
theorem dX5_readInto_88 : decode cX5_readInto 88 = .ok (.iadd, 1) := by decide +kernel
theorem dX5_readInto_89 : decode cX5_readInto 89 = .ok (.istore 4, 2) := by decide +kernel
theorem dX5_readInto_91 : decode cX5_readInto 91 = .ok (.goto (-80), 3) := by decide +kernel
theorem dX5_readInto_94 : decode cX5_readInto 94 = .ok (.iload_n 2, 1) := by decide +kernel
theorem dX5_readInto_95 : decode cX5_readInto 95 = .ok (.iconst 5, 1) := by decide +kernel
theorem dX5_readInto_96 : decode cX5_readInto 96 = .ok (.if_icmp .ne 10, 3) := by decide +kernel
theorem dX5_readInto_99 : decode cX5_readInto 99 = .ok (.aload_n 1, 1) := by decide +kernel
theorem dX5_readInto_100 : decode cX5_readInto 100 = .ok (.getfield 28, 3) := by decide +kernel
theorem dX5_readInto_103 : decode cX5_readInto 103 = .ok (.ifCond .ne 13, 3) := by decide +kernel
theorem dX5_readInto_106 : decode cX5_readInto 106 = .ok (.aload_n 0, 1) := by decide +kernel
theorem dX5_readInto_107 : decode cX5_readInto 107 = .ok (.iconst 1, 1) := by decide +kernel
theorem dX5_readInto_108 : decode cX5_readInto 108 = .ok (.putfield 35, 3) := by decide +kernel
theorem dX5_readInto_111 : decode cX5_readInto 111 = .ok (.aload_n 0, 1) := by decide +kernel
theorem dX5_readInto_112 : decode cX5_readInto 112 = .ok (.getfield 20, 3) := by decide +kernel
theorem dX5_readInto_115 : decode cX5_readInto 115 = .ok (.ireturn, 1) := by decide +kernel
theorem dX5_readInto_116 : decode cX5_readInto 116 = .ok (.iconst (-1), 1) := by decide +kernel
theorem dX5_readInto_117 : decode cX5_readInto 117 = .ok (.ireturn, 1) := by decide +kernel
theorem dX5_widthAt_0 : decode cX5_widthAt 0 = .ok (.aload_n 0, 1) := by decide +kernel
theorem dX5_widthAt_1 : decode cX5_widthAt 1 = .ok (.getfield 9, 3) := by decide +kernel
theorem dX5_widthAt_4 : decode cX5_widthAt 4 = .ok (.iload_n 1, 1) := by decide +kernel
theorem dX5_widthAt_5 : decode cX5_widthAt 5 = .ok (.iaload, 1) := by decide +kernel
theorem dX5_widthAt_6 : decode cX5_widthAt 6 = .ok (.istore_n 2, 1) := by decide +kernel
theorem dX5_widthAt_7 : decode cX5_widthAt 7 = .ok (.iload_n 2, 1) := by decide +kernel
theorem dX5_widthAt_8 : decode cX5_widthAt 8 = .ok (.bipush 97, 2) := by decide +kernel
theorem dX5_widthAt_10 : decode cX5_widthAt 10 = .ok (.if_icmp .lt 9, 3) := by decide +kernel
theorem dX5_widthAt_13 : decode cX5_widthAt 13 = .ok (.iload_n 2, 1) := by decide +kernel
theorem dX5_widthAt_14 : decode cX5_widthAt 14 = .ok (.bipush 122, 2) := by decide +kernel
theorem dX5_widthAt_16 : decode cX5_widthAt 16 = .ok (.if_icmp .le 15, 3) := by decide +kernel
theorem dX5_widthAt_19 : decode cX5_widthAt 19 = .ok (.iload_n 2, 1) := by decide +kernel
theorem dX5_widthAt_20 : decode cX5_widthAt 20 = .ok (.bipush 44, 2) := by decide +kernel
theorem dX5_widthAt_22 : decode cX5_widthAt 22 = .ok (.if_icmp .eq 9, 3) := by decide +kernel
theorem dX5_widthAt_25 : decode cX5_widthAt 25 = .ok (.iload_n 2, 1) := by decide +kernel
theorem dX5_widthAt_26 : decode cX5_widthAt 26 = .ok (.bipush 59, 2) := by decide +kernel
theorem dX5_widthAt_28 : decode cX5_widthAt 28 = .ok (.if_icmp .ne 5, 3) := by decide +kernel
theorem dX5_widthAt_31 : decode cX5_widthAt 31 = .ok (.iconst 1, 1) := by decide +kernel
theorem dX5_widthAt_32 : decode cX5_widthAt 32 = .ok (.ireturn, 1) := by decide +kernel
theorem dX5_widthAt_33 : decode cX5_widthAt 33 = .ok (.iconst 0, 1) := by decide +kernel
theorem dX5_widthAt_34 : decode cX5_widthAt 34 = .ok (.istore_n 3, 1) := by decide +kernel
theorem dX5_widthAt_35 : decode cX5_widthAt 35 = .ok (.iload_n 1, 1) := by decide +kernel
theorem dX5_widthAt_36 : decode cX5_widthAt 36 = .ok (.istore 4, 2) := by decide +kernel
theorem dX5_widthAt_38 : decode cX5_widthAt 38 = .ok (.iload 4, 2) := by decide +kernel
theorem dX5_widthAt_40 : decode cX5_widthAt 40 = .ok (.aload_n 0, 1) := by decide +kernel
theorem dX5_widthAt_41 : decode cX5_widthAt 41 = .ok (.getfield 20, 3) := by decide +kernel
theorem dX5_widthAt_44 : decode cX5_widthAt 44 = .ok (.if_icmp .ge 25, 3) := by decide +kernel
theorem dX5_widthAt_47 : decode cX5_widthAt 47 = .ok (.aload_n 0, 1) := by decide +kernel
theorem dX5_widthAt_48 : decode cX5_widthAt 48 = .ok (.getfield 9, 3) := by decide +kernel
theorem dX5_widthAt_51 : decode cX5_widthAt 51 = .ok (.iload 4, 2) := by decide +kernel
theorem dX5_widthAt_53 : decode cX5_widthAt 53 = .ok (.iaload, 1) := by decide +kernel
theorem dX5_widthAt_54 : decode cX5_widthAt 54 = .ok (.invokestatic 51, 3) := by decide +kernel
theorem dX5_widthAt_57 : decode cX5_widthAt 57 = .ok (.ifCond .eq 12, 3) := by decide +kernel
theorem dX5_widthAt_60 : decode cX5_widthAt 60 = .ok (.iinc 3 1, 3) := by decide +kernel
theorem dX5_widthAt_63 : decode cX5_widthAt 63 = .ok (.iinc 4 1, 3) := by decide +kernel
theorem dX5_widthAt_66 : decode cX5_widthAt 66 = .ok (.goto (-28), 3) := by decide +kernel
theorem dX5_widthAt_69 : decode cX5_widthAt 69 = .ok (.iload_n 3, 1) := by decide +kernel
theorem dX5_widthAt_70 : decode cX5_widthAt 70 = .ok (.iconst 2, 1) := by decide +kernel
theorem dX5_widthAt_71 : decode cX5_widthAt 71 = .ok (.if_icmp .le 7, 3) := by decide +kernel
theorem dX5_widthAt_74 : decode cX5_widthAt 74 = .ok (.iconst 0, 1) := by decide +kernel
theorem dX5_widthAt_75 : decode cX5_widthAt 75 = .ok (.goto 4, 3) := by decide +kernel
theorem dX5_widthAt_78 : decode cX5_widthAt 78 = .ok (.iload_n 3, 1) := by decide +kernel
theorem dX5_widthAt_79 : decode cX5_widthAt 79 = .ok (.ireturn, 1) := by decide +kernel
theorem dX5_faultAt_0 : decode cX5_faultAt 0 = .ok (.iload_n 2, 1) := by decide +kernel
theorem dX5_faultAt_1 : decode cX5_faultAt 1 = .ok (.ifCond .eq 20, 3) := by decide +kernel
theorem dX5_faultAt_4 : decode cX5_faultAt 4 = .ok (.aload_n 0, 1) := by decide +kernel
theorem dX5_faultAt_5 : decode cX5_faultAt 5 = .ok (.getfield 9, 3) := by decide +kernel
theorem dX5_faultAt_8 : decode cX5_faultAt 8 = .ok (.iload_n 1, 1) := by decide +kernel
theorem dX5_faultAt_9 : decode cX5_faultAt 9 = .ok (.iaload, 1) := by decide +kernel
theorem dX5_faultAt_10 : decode cX5_faultAt 10 = .ok (.getstatic 55, 3) := by decide +kernel
theorem dX5_faultAt_13 : decode cX5_faultAt 13 = .ok (.iload_n 3, 1) := by decide +kernel
theorem dX5_faultAt_14 : decode cX5_faultAt 14 = .ok (.iaload, 1) := by decide +kernel
theorem dX5_faultAt_15 : decode cX5_faultAt 15 = .ok (.invokestatic 58, 3) := by decide +kernel
theorem dX5_faultAt_18 : decode cX5_faultAt 18 = .ok (.ifCond .ne 5, 3) := by decide +kernel
theorem dX5_faultAt_21 : decode cX5_faultAt 21 = .ok (.iconst 1, 1) := by decide +kernel
theorem dX5_faultAt_22 : decode cX5_faultAt 22 = .ok (.ireturn, 1) := by decide +kernel
theorem dX5_faultAt_23 : decode cX5_faultAt 23 = .ok (.getstatic 55, 3) := by decide +kernel
theorem dX5_faultAt_26 : decode cX5_faultAt 26 = .ok (.iload_n 3, 1) := by decide +kernel
theorem dX5_faultAt_27 : decode cX5_faultAt 27 = .ok (.iaload, 1) := by decide +kernel
theorem dX5_faultAt_28 : decode cX5_faultAt 28 = .ok (.iconst 1, 1) := by decide +kernel
theorem dX5_faultAt_29 : decode cX5_faultAt 29 = .ok (.if_icmp .ne 27, 3) := by decide +kernel
theorem dX5_faultAt_32 : decode cX5_faultAt 32 = .ok (.aload_n 0, 1) := by decide +kernel
theorem dX5_faultAt_33 : decode cX5_faultAt 33 = .ok (.iload_n 1, 1) := by decide +kernel
theorem dX5_faultAt_34 : decode cX5_faultAt 34 = .ok (.iload_n 2, 1) := by decide +kernel
theorem dX5_faultAt_35 : decode cX5_faultAt 35 = .ok (.invokevirtual 38, 3) := by decide +kernel
theorem dX5_faultAt_38 : decode cX5_faultAt 38 = .ok (.getstatic 62, 3) := by decide +kernel
theorem dX5_faultAt_41 : decode cX5_faultAt 41 = .ok (.iload_n 3, 1) := by decide +kernel
theorem dX5_faultAt_42 : decode cX5_faultAt 42 = .ok (.iaload, 1) := by decide +kernel
theorem dX5_faultAt_43 : decode cX5_faultAt 43 = .ok (.getstatic 65, 3) := by decide +kernel
theorem dX5_faultAt_46 : decode cX5_faultAt 46 = .ok (.iload_n 3, 1) := by decide +kernel
theorem dX5_faultAt_47 : decode cX5_faultAt 47 = .ok (.iaload, 1) := by decide +kernel
theorem dX5_faultAt_48 : decode cX5_faultAt 48 = .ok (.invokestatic 68, 3) := by decide +kernel
theorem dX5_faultAt_51 : decode cX5_faultAt 51 = .ok (.ifCond .eq 5, 3) := by decide +kernel
theorem dX5_faultAt_54 : decode cX5_faultAt 54 = .ok (.iconst 2, 1) := by decide +kernel
theorem dX5_faultAt_55 : decode cX5_faultAt 55 = .ok (.ireturn, 1) := by decide +kernel
theorem dX5_faultAt_56 : decode cX5_faultAt 56 = .ok (.getstatic 55, 3) := by decide +kernel
theorem dX5_faultAt_59 : decode cX5_faultAt 59 = .ok (.iload_n 3, 1) := by decide +kernel
theorem dX5_faultAt_60 : decode cX5_faultAt 60 = .ok (.iaload, 1) := by decide +kernel
theorem dX5_faultAt_61 : decode cX5_faultAt 61 = .ok (.iconst 4, 1) := by decide +kernel
theorem dX5_faultAt_62 : decode cX5_faultAt 62 = .ok (.if_icmp .ne 14, 3) := by decide +kernel
theorem dX5_faultAt_65 : decode cX5_faultAt 65 = .ok (.iload 4, 2) := by decide +kernel
theorem dX5_faultAt_67 : decode cX5_faultAt 67 = .ok (.bipush 7, 2) := by decide +kernel
theorem dX5_faultAt_69 : decode cX5_faultAt 69 = .ok (.if_icmp .lt 7, 3) := by decide +kernel
theorem dX5_faultAt_72 : decode cX5_faultAt 72 = .ok (.iconst 3, 1) := by decide +kernel
theorem dX5_faultAt_73 : decode cX5_faultAt 73 = .ok (.goto 4, 3) := by decide +kernel
theorem dX5_faultAt_76 : decode cX5_faultAt 76 = .ok (.iconst 0, 1) := by decide +kernel
theorem dX5_faultAt_77 : decode cX5_faultAt 77 = .ok (.ireturn, 1) := by decide +kernel
theorem dX5_canStand_0 : decode cX5_canStand 0 = .ok (.iload_n 1, 1) := by decide +kernel
theorem dX5_canStand_1 : decode cX5_canStand 1 = .ok (.tableswitch 72 0 3 #[31, 43, 48, 60], 31) := by decide +kernel
theorem dX5_canStand_32 : decode cX5_canStand 32 = .ok (.iload_n 0, 1) := by decide +kernel
theorem dX5_canStand_33 : decode cX5_canStand 33 = .ok (.bipush 107, 2) := by decide +kernel
theorem dX5_canStand_35 : decode cX5_canStand 35 = .ok (.if_icmp .ne 7, 3) := by decide +kernel
theorem dX5_canStand_38 : decode cX5_canStand 38 = .ok (.iconst 1, 1) := by decide +kernel
theorem dX5_canStand_39 : decode cX5_canStand 39 = .ok (.goto 4, 3) := by decide +kernel
theorem dX5_canStand_42 : decode cX5_canStand 42 = .ok (.iconst 0, 1) := by decide +kernel
theorem dX5_canStand_43 : decode cX5_canStand 43 = .ok (.ireturn, 1) := by decide +kernel
theorem dX5_canStand_44 : decode cX5_canStand 44 = .ok (.iload_n 0, 1) := by decide +kernel
theorem dX5_canStand_45 : decode cX5_canStand 45 = .ok (.invokestatic 51, 3) := by decide +kernel
theorem dX5_canStand_48 : decode cX5_canStand 48 = .ok (.ireturn, 1) := by decide +kernel
theorem dX5_canStand_49 : decode cX5_canStand 49 = .ok (.iload_n 0, 1) := by decide +kernel
theorem dX5_canStand_50 : decode cX5_canStand 50 = .ok (.bipush 44, 2) := by decide +kernel
theorem dX5_canStand_52 : decode cX5_canStand 52 = .ok (.if_icmp .ne 7, 3) := by decide +kernel
theorem dX5_canStand_55 : decode cX5_canStand 55 = .ok (.iconst 1, 1) := by decide +kernel
theorem dX5_canStand_56 : decode cX5_canStand 56 = .ok (.goto 4, 3) := by decide +kernel
theorem dX5_canStand_59 : decode cX5_canStand 59 = .ok (.iconst 0, 1) := by decide +kernel
theorem dX5_canStand_60 : decode cX5_canStand 60 = .ok (.ireturn, 1) := by decide +kernel
theorem dX5_canStand_61 : decode cX5_canStand 61 = .ok (.iload_n 0, 1) := by decide +kernel
theorem dX5_canStand_62 : decode cX5_canStand 62 = .ok (.bipush 59, 2) := by decide +kernel
theorem dX5_canStand_64 : decode cX5_canStand 64 = .ok (.if_icmp .ne 7, 3) := by decide +kernel
theorem dX5_canStand_67 : decode cX5_canStand 67 = .ok (.iconst 1, 1) := by decide +kernel
theorem dX5_canStand_68 : decode cX5_canStand 68 = .ok (.goto 4, 3) := by decide +kernel
theorem dX5_canStand_71 : decode cX5_canStand 71 = .ok (.iconst 0, 1) := by decide +kernel
theorem dX5_canStand_72 : decode cX5_canStand 72 = .ok (.ireturn, 1) := by decide +kernel
theorem dX5_canStand_73 : decode cX5_canStand 73 = .ok (.iload_n 0, 1) := by decide +kernel
theorem dX5_canStand_74 : decode cX5_canStand 74 = .ok (.invokestatic 72, 3) := by decide +kernel
theorem dX5_canStand_77 : decode cX5_canStand 77 = .ok (.ifCond .eq 7, 3) := by decide +kernel
theorem dX5_canStand_80 : decode cX5_canStand 80 = .ok (.iconst 1, 1) := by decide +kernel
theorem dX5_canStand_81 : decode cX5_canStand 81 = .ok (.goto 4, 3) := by decide +kernel
theorem dX5_canStand_84 : decode cX5_canStand 84 = .ok (.iconst 0, 1) := by decide +kernel
theorem dX5_canStand_85 : decode cX5_canStand 85 = .ok (.ireturn, 1) := by decide +kernel
theorem dX5_valueAt_0 : decode cX5_valueAt 0 = .ok (.aload_n 0, 1) := by decide +kernel
theorem dX5_valueAt_1 : decode cX5_valueAt 1 = .ok (.getfield 9, 3) := by decide +kernel
theorem dX5_valueAt_4 : decode cX5_valueAt 4 = .ok (.iload_n 1, 1) := by decide +kernel
theorem dX5_valueAt_5 : decode cX5_valueAt 5 = .ok (.iaload, 1) := by decide +kernel
theorem dX5_valueAt_6 : decode cX5_valueAt 6 = .ok (.invokestatic 51, 3) := by decide +kernel
theorem dX5_valueAt_9 : decode cX5_valueAt 9 = .ok (.ifCond .ne 10, 3) := by decide +kernel
theorem dX5_valueAt_12 : decode cX5_valueAt 12 = .ok (.aload_n 0, 1) := by decide +kernel
theorem dX5_valueAt_13 : decode cX5_valueAt 13 = .ok (.getfield 9, 3) := by decide +kernel
theorem dX5_valueAt_16 : decode cX5_valueAt 16 = .ok (.iload_n 1, 1) := by decide +kernel
theorem dX5_valueAt_17 : decode cX5_valueAt 17 = .ok (.iaload, 1) := by decide +kernel
theorem dX5_valueAt_18 : decode cX5_valueAt 18 = .ok (.ireturn, 1) := by decide +kernel
theorem dX5_valueAt_19 : decode cX5_valueAt 19 = .ok (.iconst 0, 1) := by decide +kernel
theorem dX5_valueAt_20 : decode cX5_valueAt 20 = .ok (.istore_n 3, 1) := by decide +kernel
theorem dX5_valueAt_21 : decode cX5_valueAt 21 = .ok (.iload_n 1, 1) := by decide +kernel
theorem dX5_valueAt_22 : decode cX5_valueAt 22 = .ok (.istore 4, 2) := by decide +kernel
theorem dX5_valueAt_24 : decode cX5_valueAt 24 = .ok (.iload 4, 2) := by decide +kernel
theorem dX5_valueAt_26 : decode cX5_valueAt 26 = .ok (.iload_n 1, 1) := by decide +kernel
theorem dX5_valueAt_27 : decode cX5_valueAt 27 = .ok (.iload_n 2, 1) := by decide +kernel
theorem dX5_valueAt_28 : decode cX5_valueAt 28 = .ok (.iadd, 1) := by decide +kernel
theorem dX5_valueAt_29 : decode cX5_valueAt 29 = .ok (.if_icmp .ge 34, 3) := by decide +kernel
theorem dX5_valueAt_32 : decode cX5_valueAt 32 = .ok (.iload 4, 2) := by decide +kernel
theorem dX5_valueAt_34 : decode cX5_valueAt 34 = .ok (.aload_n 0, 1) := by decide +kernel
theorem dX5_valueAt_35 : decode cX5_valueAt 35 = .ok (.getfield 20, 3) := by decide +kernel
theorem dX5_valueAt_38 : decode cX5_valueAt 38 = .ok (.if_icmp .ge 25, 3) := by decide +kernel
theorem dX5_valueAt_41 : decode cX5_valueAt 41 = .ok (.bipush 10, 2) := by decide +kernel
theorem dX5_valueAt_43 : decode cX5_valueAt 43 = .ok (.iload_n 3, 1) := by decide +kernel
theorem dX5_valueAt_44 : decode cX5_valueAt 44 = .ok (.imul, 1) := by decide +kernel
theorem dX5_valueAt_45 : decode cX5_valueAt 45 = .ok (.aload_n 0, 1) := by decide +kernel
theorem dX5_valueAt_46 : decode cX5_valueAt 46 = .ok (.getfield 9, 3) := by decide +kernel
theorem dX5_valueAt_49 : decode cX5_valueAt 49 = .ok (.iload 4, 2) := by decide +kernel
theorem dX5_valueAt_51 : decode cX5_valueAt 51 = .ok (.iaload, 1) := by decide +kernel
theorem dX5_valueAt_52 : decode cX5_valueAt 52 = .ok (.iadd, 1) := by decide +kernel
theorem dX5_valueAt_53 : decode cX5_valueAt 53 = .ok (.bipush 48, 2) := by decide +kernel
theorem dX5_valueAt_55 : decode cX5_valueAt 55 = .ok (.isub, 1) := by decide +kernel
theorem dX5_valueAt_56 : decode cX5_valueAt 56 = .ok (.istore_n 3, 1) := by decide +kernel
theorem dX5_valueAt_57 : decode cX5_valueAt 57 = .ok (.iinc 4 1, 3) := by decide +kernel
theorem dX5_valueAt_60 : decode cX5_valueAt 60 = .ok (.goto (-36), 3) := by decide +kernel
theorem dX5_valueAt_63 : decode cX5_valueAt 63 = .ok (.iload_n 3, 1) := by decide +kernel
theorem dX5_valueAt_64 : decode cX5_valueAt 64 = .ok (.ireturn, 1) := by decide +kernel
theorem dX5_put_0 : decode cX5_put 0 = .ok (.aload_n 0, 1) := by decide +kernel
theorem dX5_put_1 : decode cX5_put 1 = .ok (.getfield 28, 3) := by decide +kernel
theorem dX5_put_4 : decode cX5_put 4 = .ok (.iconst 1, 1) := by decide +kernel
theorem dX5_put_5 : decode cX5_put 5 = .ok (.isub, 1) := by decide +kernel
theorem dX5_put_6 : decode cX5_put 6 = .ok (.istore_n 3, 1) := by decide +kernel
theorem dX5_put_7 : decode cX5_put 7 = .ok (.iload_n 1, 1) := by decide +kernel
theorem dX5_put_8 : decode cX5_put 8 = .ok (.iconst 1, 1) := by decide +kernel
theorem dX5_put_9 : decode cX5_put 9 = .ok (.if_icmp .ne 11, 3) := by decide +kernel
theorem dX5_put_12 : decode cX5_put 12 = .ok (.aload_n 0, 1) := by decide +kernel
theorem dX5_put_13 : decode cX5_put 13 = .ok (.iload_n 2, 1) := by decide +kernel
theorem dX5_put_14 : decode cX5_put 14 = .ok (.putfield 75, 3) := by decide +kernel
theorem dX5_put_17 : decode cX5_put 17 = .ok (.goto 89, 3) := by decide +kernel
theorem dX5_put_20 : decode cX5_put 20 = .ok (.iload_n 1, 1) := by decide +kernel
theorem dX5_put_21 : decode cX5_put 21 = .ok (.iconst 3, 1) := by decide +kernel
theorem dX5_put_22 : decode cX5_put 22 = .ok (.if_icmp .ne 11, 3) := by decide +kernel
theorem dX5_put_25 : decode cX5_put 25 = .ok (.aload_n 0, 1) := by decide +kernel
theorem dX5_put_26 : decode cX5_put 26 = .ok (.iload_n 2, 1) := by decide +kernel
theorem dX5_put_27 : decode cX5_put 27 = .ok (.putfield 78, 3) := by decide +kernel
theorem dX5_put_30 : decode cX5_put 30 = .ok (.goto 76, 3) := by decide +kernel
theorem dX5_put_33 : decode cX5_put 33 = .ok (.iload_n 1, 1) := by decide +kernel
theorem dX5_put_34 : decode cX5_put 34 = .ok (.iconst 5, 1) := by decide +kernel
theorem dX5_put_35 : decode cX5_put 35 = .ok (.if_icmp .ne 14, 3) := by decide +kernel
theorem dX5_put_38 : decode cX5_put 38 = .ok (.aload_n 0, 1) := by decide +kernel
theorem dX5_put_39 : decode cX5_put 39 = .ok (.iload_n 2, 1) := by decide +kernel
theorem dX5_put_40 : decode cX5_put 40 = .ok (.invokestatic 72, 3) := by decide +kernel
theorem dX5_put_43 : decode cX5_put 43 = .ok (.invokevirtual 81, 3) := by decide +kernel
theorem dX5_put_46 : decode cX5_put 46 = .ok (.goto 60, 3) := by decide +kernel
theorem dX5_put_49 : decode cX5_put 49 = .ok (.iload_n 3, 1) := by decide +kernel
theorem dX5_put_50 : decode cX5_put 50 = .ok (.ifCond .lt 19, 3) := by decide +kernel
theorem dX5_put_53 : decode cX5_put 53 = .ok (.iload_n 1, 1) := by decide +kernel
theorem dX5_put_54 : decode cX5_put 54 = .ok (.bipush 6, 2) := by decide +kernel
theorem dX5_put_56 : decode cX5_put 56 = .ok (.if_icmp .ne 13, 3) := by decide +kernel
theorem dX5_put_59 : decode cX5_put 59 = .ok (.aload_n 0, 1) := by decide +kernel
theorem dX5_put_60 : decode cX5_put 60 = .ok (.getfield 85, 3) := by decide +kernel
theorem dX5_put_63 : decode cX5_put 63 = .ok (.iload_n 3, 1) := by decide +kernel
theorem dX5_put_64 : decode cX5_put 64 = .ok (.iload_n 2, 1) := by decide +kernel
theorem dX5_put_65 : decode cX5_put 65 = .ok (.iastore, 1) := by decide +kernel
theorem dX5_put_66 : decode cX5_put 66 = .ok (.goto 40, 3) := by decide +kernel
theorem dX5_put_69 : decode cX5_put 69 = .ok (.iload_n 3, 1) := by decide +kernel
theorem dX5_put_70 : decode cX5_put 70 = .ok (.ifCond .lt 19, 3) := by decide +kernel
theorem dX5_put_73 : decode cX5_put 73 = .ok (.iload_n 1, 1) := by decide +kernel
theorem dX5_put_74 : decode cX5_put 74 = .ok (.bipush 8, 2) := by decide +kernel
theorem dX5_put_76 : decode cX5_put 76 = .ok (.if_icmp .ne 13, 3) := by decide +kernel
theorem dX5_put_79 : decode cX5_put 79 = .ok (.aload_n 0, 1) := by decide +kernel
theorem dX5_put_80 : decode cX5_put 80 = .ok (.getfield 88, 3) := by decide +kernel
theorem dX5_put_83 : decode cX5_put 83 = .ok (.iload_n 3, 1) := by decide +kernel
theorem dX5_put_84 : decode cX5_put 84 = .ok (.iload_n 2, 1) := by decide +kernel
theorem dX5_put_85 : decode cX5_put 85 = .ok (.iastore, 1) := by decide +kernel
theorem dX5_put_86 : decode cX5_put 86 = .ok (.goto 20, 3) := by decide +kernel
theorem dX5_put_89 : decode cX5_put 89 = .ok (.iload_n 3, 1) := by decide +kernel
theorem dX5_put_90 : decode cX5_put 90 = .ok (.ifCond .lt 16, 3) := by decide +kernel
theorem dX5_put_93 : decode cX5_put 93 = .ok (.iload_n 1, 1) := by decide +kernel
theorem dX5_put_94 : decode cX5_put 94 = .ok (.bipush 10, 2) := by decide +kernel
theorem dX5_put_96 : decode cX5_put 96 = .ok (.if_icmp .ne 10, 3) := by decide +kernel
theorem dX5_put_99 : decode cX5_put 99 = .ok (.aload_n 0, 1) := by decide +kernel
theorem dX5_put_100 : decode cX5_put 100 = .ok (.getfield 91, 3) := by decide +kernel
theorem dX5_put_103 : decode cX5_put 103 = .ok (.iload_n 3, 1) := by decide +kernel
theorem dX5_put_104 : decode cX5_put 104 = .ok (.iload_n 2, 1) := by decide +kernel
theorem dX5_put_105 : decode cX5_put 105 = .ok (.iastore, 1) := by decide +kernel
theorem dX5_put_106 : decode cX5_put 106 = .ok (.return_, 1) := by decide +kernel
theorem dX5_isFigure_0 : decode cX5_isFigure 0 = .ok (.iload_n 0, 1) := by decide +kernel
theorem dX5_isFigure_1 : decode cX5_isFigure 1 = .ok (.bipush 48, 2) := by decide +kernel
theorem dX5_isFigure_3 : decode cX5_isFigure 3 = .ok (.if_icmp .lt 13, 3) := by decide +kernel
theorem dX5_isFigure_6 : decode cX5_isFigure 6 = .ok (.iload_n 0, 1) := by decide +kernel
theorem dX5_isFigure_7 : decode cX5_isFigure 7 = .ok (.bipush 57, 2) := by decide +kernel
theorem dX5_isFigure_9 : decode cX5_isFigure 9 = .ok (.if_icmp .gt 7, 3) := by decide +kernel
theorem dX5_isFigure_12 : decode cX5_isFigure 12 = .ok (.iconst 1, 1) := by decide +kernel
theorem dX5_isFigure_13 : decode cX5_isFigure 13 = .ok (.goto 4, 3) := by decide +kernel
theorem dX5_isFigure_16 : decode cX5_isFigure 16 = .ok (.iconst 0, 1) := by decide +kernel
theorem dX5_isFigure_17 : decode cX5_isFigure 17 = .ok (.ireturn, 1) := by decide +kernel
theorem dX5_kindOf_0 : decode cX5_kindOf 0 = .ok (.iload_n 0, 1) := by decide +kernel
theorem dX5_kindOf_1 : decode cX5_kindOf 1 = .ok (.lookupswitch 61 #[(100, 57), (108, 53), (112, 51), (115, 55), (116, 59)], 51) := by decide +kernel
theorem dX5_kindOf_52 : decode cX5_kindOf 52 = .ok (.iconst 1, 1) := by decide +kernel
theorem dX5_kindOf_53 : decode cX5_kindOf 53 = .ok (.ireturn, 1) := by decide +kernel
theorem dX5_kindOf_54 : decode cX5_kindOf 54 = .ok (.iconst 2, 1) := by decide +kernel
theorem dX5_kindOf_55 : decode cX5_kindOf 55 = .ok (.ireturn, 1) := by decide +kernel
theorem dX5_kindOf_56 : decode cX5_kindOf 56 = .ok (.iconst 3, 1) := by decide +kernel
theorem dX5_kindOf_57 : decode cX5_kindOf 57 = .ok (.ireturn, 1) := by decide +kernel
theorem dX5_kindOf_58 : decode cX5_kindOf 58 = .ok (.iconst 4, 1) := by decide +kernel
theorem dX5_kindOf_59 : decode cX5_kindOf 59 = .ok (.ireturn, 1) := by decide +kernel
theorem dX5_kindOf_60 : decode cX5_kindOf 60 = .ok (.iconst 5, 1) := by decide +kernel
theorem dX5_kindOf_61 : decode cX5_kindOf 61 = .ok (.ireturn, 1) := by decide +kernel
theorem dX5_kindOf_62 : decode cX5_kindOf 62 = .ok (.iconst 0, 1) := by decide +kernel
theorem dX5_kindOf_63 : decode cX5_kindOf 63 = .ok (.ireturn, 1) := by decide +kernel
theorem dJ6_bitCount_0f7a4_0 : decode cJ6_bitCount_0f7a4 0 = .ok (.iload_n 0, 1) := by decide +kernel
theorem dJ6_bitCount_0f7a4_1 : decode cJ6_bitCount_0f7a4 1 = .ok (.iload_n 0, 1) := by decide +kernel
theorem dJ6_bitCount_0f7a4_2 : decode cJ6_bitCount_0f7a4 2 = .ok (.iconst 1, 1) := by decide +kernel
theorem dJ6_bitCount_0f7a4_3 : decode cJ6_bitCount_0f7a4 3 = .ok (.iushr, 1) := by decide +kernel
theorem dJ6_bitCount_0f7a4_4 : decode cJ6_bitCount_0f7a4 4 = .ok (.ldc_w 265, 3) := by decide +kernel
theorem dJ6_bitCount_0f7a4_7 : decode cJ6_bitCount_0f7a4 7 = .ok (.iand, 1) := by decide +kernel
theorem dJ6_bitCount_0f7a4_8 : decode cJ6_bitCount_0f7a4 8 = .ok (.isub, 1) := by decide +kernel
theorem dJ6_bitCount_0f7a4_9 : decode cJ6_bitCount_0f7a4 9 = .ok (.istore_n 0, 1) := by decide +kernel
theorem dJ6_bitCount_0f7a4_10 : decode cJ6_bitCount_0f7a4 10 = .ok (.iload_n 0, 1) := by decide +kernel
theorem dJ6_bitCount_0f7a4_11 : decode cJ6_bitCount_0f7a4 11 = .ok (.ldc_w 266, 3) := by decide +kernel
theorem dJ6_bitCount_0f7a4_14 : decode cJ6_bitCount_0f7a4 14 = .ok (.iand, 1) := by decide +kernel
theorem dJ6_bitCount_0f7a4_15 : decode cJ6_bitCount_0f7a4 15 = .ok (.iload_n 0, 1) := by decide +kernel
theorem dJ6_bitCount_0f7a4_16 : decode cJ6_bitCount_0f7a4 16 = .ok (.iconst 2, 1) := by decide +kernel
theorem dJ6_bitCount_0f7a4_17 : decode cJ6_bitCount_0f7a4 17 = .ok (.iushr, 1) := by decide +kernel
theorem dJ6_bitCount_0f7a4_18 : decode cJ6_bitCount_0f7a4 18 = .ok (.ldc_w 266, 3) := by decide +kernel
theorem dJ6_bitCount_0f7a4_21 : decode cJ6_bitCount_0f7a4 21 = .ok (.iand, 1) := by decide +kernel
theorem dJ6_bitCount_0f7a4_22 : decode cJ6_bitCount_0f7a4 22 = .ok (.iadd, 1) := by decide +kernel
theorem dJ6_bitCount_0f7a4_23 : decode cJ6_bitCount_0f7a4 23 = .ok (.istore_n 0, 1) := by decide +kernel
theorem dJ6_bitCount_0f7a4_24 : decode cJ6_bitCount_0f7a4 24 = .ok (.iload_n 0, 1) := by decide +kernel
theorem dJ6_bitCount_0f7a4_25 : decode cJ6_bitCount_0f7a4 25 = .ok (.iload_n 0, 1) := by decide +kernel
theorem dJ6_bitCount_0f7a4_26 : decode cJ6_bitCount_0f7a4 26 = .ok (.iconst 4, 1) := by decide +kernel
theorem dJ6_bitCount_0f7a4_27 : decode cJ6_bitCount_0f7a4 27 = .ok (.iushr, 1) := by decide +kernel
theorem dJ6_bitCount_0f7a4_28 : decode cJ6_bitCount_0f7a4 28 = .ok (.iadd, 1) := by decide +kernel
theorem dJ6_bitCount_0f7a4_29 : decode cJ6_bitCount_0f7a4 29 = .ok (.ldc_w 267, 3) := by decide +kernel
theorem dJ6_bitCount_0f7a4_32 : decode cJ6_bitCount_0f7a4 32 = .ok (.iand, 1) := by decide +kernel
theorem dJ6_bitCount_0f7a4_33 : decode cJ6_bitCount_0f7a4 33 = .ok (.istore_n 0, 1) := by decide +kernel
theorem dJ6_bitCount_0f7a4_34 : decode cJ6_bitCount_0f7a4 34 = .ok (.iload_n 0, 1) := by decide +kernel
theorem dJ6_bitCount_0f7a4_35 : decode cJ6_bitCount_0f7a4 35 = .ok (.iload_n 0, 1) := by decide +kernel
theorem dJ6_bitCount_0f7a4_36 : decode cJ6_bitCount_0f7a4 36 = .ok (.bipush 8, 2) := by decide +kernel
theorem dJ6_bitCount_0f7a4_38 : decode cJ6_bitCount_0f7a4 38 = .ok (.iushr, 1) := by decide +kernel
theorem dJ6_bitCount_0f7a4_39 : decode cJ6_bitCount_0f7a4 39 = .ok (.iadd, 1) := by decide +kernel
theorem dJ6_bitCount_0f7a4_40 : decode cJ6_bitCount_0f7a4 40 = .ok (.istore_n 0, 1) := by decide +kernel
theorem dJ6_bitCount_0f7a4_41 : decode cJ6_bitCount_0f7a4 41 = .ok (.iload_n 0, 1) := by decide +kernel
theorem dJ6_bitCount_0f7a4_42 : decode cJ6_bitCount_0f7a4 42 = .ok (.iload_n 0, 1) := by decide +kernel
theorem dJ6_bitCount_0f7a4_43 : decode cJ6_bitCount_0f7a4 43 = .ok (.bipush 16, 2) := by decide +kernel
theorem dJ6_bitCount_0f7a4_45 : decode cJ6_bitCount_0f7a4 45 = .ok (.iushr, 1) := by decide +kernel
theorem dJ6_bitCount_0f7a4_46 : decode cJ6_bitCount_0f7a4 46 = .ok (.iadd, 1) := by decide +kernel
theorem dJ6_bitCount_0f7a4_47 : decode cJ6_bitCount_0f7a4 47 = .ok (.istore_n 0, 1) := by decide +kernel
theorem dJ6_bitCount_0f7a4_48 : decode cJ6_bitCount_0f7a4 48 = .ok (.iload_n 0, 1) := by decide +kernel
theorem dJ6_bitCount_0f7a4_49 : decode cJ6_bitCount_0f7a4 49 = .ok (.bipush 63, 2) := by decide +kernel
theorem dJ6_bitCount_0f7a4_51 : decode cJ6_bitCount_0f7a4 51 = .ok (.iand, 1) := by decide +kernel
theorem dJ6_bitCount_0f7a4_52 : decode cJ6_bitCount_0f7a4 52 = .ok (.ireturn, 1) := by decide +kernel
theorem dJ9_abs_0f7a4_0 : decode cJ9_abs_0f7a4 0 = .ok (.iload_n 0, 1) := by decide +kernel
theorem dJ9_abs_0f7a4_1 : decode cJ9_abs_0f7a4 1 = .ok (.ifCond .ge 8, 3) := by decide +kernel
theorem dJ9_abs_0f7a4_4 : decode cJ9_abs_0f7a4 4 = .ok (.iload_n 0, 1) := by decide +kernel
theorem dJ9_abs_0f7a4_5 : decode cJ9_abs_0f7a4 5 = .ok (.ineg, 1) := by decide +kernel
theorem dJ9_abs_0f7a4_6 : decode cJ9_abs_0f7a4 6 = .ok (.goto 4, 3) := by decide +kernel
theorem dJ9_abs_0f7a4_9 : decode cJ9_abs_0f7a4 9 = .ok (.iload_n 0, 1) := by decide +kernel
theorem dJ9_abs_0f7a4_10 : decode cJ9_abs_0f7a4 10 = .ok (.ireturn, 1) := by decide +kernel
theorem dJ9_max_7cf53_0 : decode cJ9_max_7cf53 0 = .ok (.iload_n 0, 1) := by decide +kernel
theorem dJ9_max_7cf53_1 : decode cJ9_max_7cf53 1 = .ok (.iload_n 1, 1) := by decide +kernel
theorem dJ9_max_7cf53_2 : decode cJ9_max_7cf53 2 = .ok (.if_icmp .lt 7, 3) := by decide +kernel
theorem dJ9_max_7cf53_5 : decode cJ9_max_7cf53 5 = .ok (.iload_n 0, 1) := by decide +kernel
theorem dJ9_max_7cf53_6 : decode cJ9_max_7cf53 6 = .ok (.goto 4, 3) := by decide +kernel
theorem dJ9_max_7cf53_9 : decode cJ9_max_7cf53 9 = .ok (.iload_n 1, 1) := by decide +kernel
theorem dJ9_max_7cf53_10 : decode cJ9_max_7cf53 10 = .ok (.ireturn, 1) := by decide +kernel
theorem dJ9_min_7cf53_0 : decode cJ9_min_7cf53 0 = .ok (.iload_n 0, 1) := by decide +kernel
theorem dJ9_min_7cf53_1 : decode cJ9_min_7cf53 1 = .ok (.iload_n 1, 1) := by decide +kernel
theorem dJ9_min_7cf53_2 : decode cJ9_min_7cf53 2 = .ok (.if_icmp .gt 7, 3) := by decide +kernel
theorem dJ9_min_7cf53_5 : decode cJ9_min_7cf53 5 = .ok (.iload_n 0, 1) := by decide +kernel
theorem dJ9_min_7cf53_6 : decode cJ9_min_7cf53 6 = .ok (.goto 4, 3) := by decide +kernel
theorem dJ9_min_7cf53_9 : decode cJ9_min_7cf53 9 = .ok (.iload_n 1, 1) := by decide +kernel
theorem dJ9_min_7cf53_10 : decode cJ9_min_7cf53 10 = .ok (.ireturn, 1) := by decide +kernel
end
section
/-! what stands at each place of the code -/
theorem dX6_init_0 : decode cX6_init 0 = .ok (.aload_n 0, 1) := by decide +kernel
theorem dX6_init_1 : decode cX6_init 1 = .ok (.invokespecial 1, 3) := by decide +kernel
theorem dX6_init_4 : decode cX6_init 4 = .ok (.aload_n 0, 1) := by decide +kernel
theorem dX6_init_5 : decode cX6_init 5 = .ok (.bipush 8, 2) := by decide +kernel
theorem dX6_init_7 : decode cX6_init 7 = .ok (.anewarray 9, 3) := by decide +kernel
theorem dX6_init_10 : decode cX6_init 10 = .ok (.putfield 11, 3) := by decide +kernel
theorem dX6_init_13 : decode cX6_init 13 = .ok (.aload_n 0, 1) := by decide +kernel
theorem dX6_init_14 : decode cX6_init 14 = .ok (.new 15, 3) := by decide +kernel
theorem dX6_init_17 : decode cX6_init 17 = .ok (.dup, 1) := by decide +kernel
theorem dX6_init_18 : decode cX6_init 18 = .ok (.invokespecial 17, 3) := by decide +kernel
theorem dX6_init_21 : decode cX6_init 21 = .ok (.putfield 18, 3) := by decide +kernel
theorem dX6_init_24 : decode cX6_init 24 = .ok (.aload_n 0, 1) := by decide +kernel
theorem dX6_init_25 : decode cX6_init 25 = .ok (.new 22, 3) := by decide +kernel
theorem dX6_init_28 : decode cX6_init 28 = .ok (.dup, 1) := by decide +kernel
theorem dX6_init_29 : decode cX6_init 29 = .ok (.invokespecial 24, 3) := by decide +kernel
theorem dX6_init_32 : decode cX6_init 32 = .ok (.putfield 25, 3) := by decide +kernel
theorem dX6_init_35 : decode cX6_init 35 = .ok (.aload_n 0, 1) := by decide +kernel
theorem dX6_init_36 : decode cX6_init 36 = .ok (.new 22, 3) := by decide +kernel
theorem dX6_init_39 : decode cX6_init 39 = .ok (.dup, 1) := by decide +kernel
theorem dX6_init_40 : decode cX6_init 40 = .ok (.invokespecial 24, 3) := by decide +kernel
theorem dX6_init_43 : decode cX6_init 43 = .ok (.putfield 29, 3) := by decide +kernel
theorem dX6_init_46 : decode cX6_init 46 = .ok (.aload_n 0, 1) := by decide +kernel
theorem dX6_init_47 : decode cX6_init 47 = .ok (.iconst 2, 1) := by decide +kernel
theorem dX6_init_48 : decode cX6_init 48 = .ok (.anewarray 22, 3) := by decide +kernel
theorem dX6_init_51 : decode cX6_init 51 = .ok (.putfield 32, 3) := by decide +kernel
theorem dX6_init_54 : decode cX6_init 54 = .ok (.aload_n 0, 1) := by decide +kernel
theorem dX6_init_55 : decode cX6_init 55 = .ok (.new 36, 3) := by decide +kernel
theorem dX6_init_58 : decode cX6_init 58 = .ok (.dup, 1) := by decide +kernel
theorem dX6_init_59 : decode cX6_init 59 = .ok (.invokespecial 38, 3) := by decide +kernel
theorem dX6_init_62 : decode cX6_init 62 = .ok (.putfield 39, 3) := by decide +kernel
theorem dX6_init_65 : decode cX6_init 65 = .ok (.aload_n 0, 1) := by decide +kernel
theorem dX6_init_66 : decode cX6_init 66 = .ok (.new 43, 3) := by decide +kernel
theorem dX6_init_69 : decode cX6_init 69 = .ok (.dup, 1) := by decide +kernel
theorem dX6_init_70 : decode cX6_init 70 = .ok (.invokespecial 45, 3) := by decide +kernel
theorem dX6_init_73 : decode cX6_init 73 = .ok (.putfield 46, 3) := by decide +kernel
theorem dX6_init_76 : decode cX6_init 76 = .ok (.aload_n 0, 1) := by decide +kernel
theorem dX6_init_77 : decode cX6_init 77 = .ok (.new 50, 3) := by decide +kernel
theorem dX6_init_80 : decode cX6_init 80 = .ok (.dup, 1) := by decide +kernel
theorem dX6_init_81 : decode cX6_init 81 = .ok (.invokespecial 52, 3) := by decide +kernel
theorem dX6_init_84 : decode cX6_init 84 = .ok (.putfield 53, 3) := by decide +kernel
theorem dX6_init_87 : decode cX6_init 87 = .ok (.iconst 0, 1) := by decide +kernel
theorem dX6_init_88 : decode cX6_init 88 = .ok (.istore_n 1, 1) := by decide +kernel
theorem dX6_init_89 : decode cX6_init 89 = .ok (.iload_n 1, 1) := by decide +kernel
theorem dX6_init_90 : decode cX6_init 90 = .ok (.bipush 8, 2) := by decide +kernel
theorem dX6_init_92 : decode cX6_init 92 = .ok (.if_icmp .ge 22, 3) := by decide +kernel
theorem dX6_init_95 : decode cX6_init 95 = .ok (.aload_n 0, 1) := by decide +kernel
theorem dX6_init_96 : decode cX6_init 96 = .ok (.getfield 11, 3) := by decide +kernel
theorem dX6_init_99 : decode cX6_init 99 = .ok (.iload_n 1, 1) := by decide +kernel
theorem dX6_init_100 : decode cX6_init 100 = .ok (.new 9, 3) := by decide +kernel
theorem dX6_init_103 : decode cX6_init 103 = .ok (.dup, 1) := by decide +kernel
theorem dX6_init_104 : decode cX6_init 104 = .ok (.invokespecial 57, 3) := by decide +kernel
theorem dX6_init_107 : decode cX6_init 107 = .ok (.aastore, 1) := by decide +kernel
theorem dX6_init_108 : decode cX6_init 108 = .ok (.iinc 1 1, 3) := by decide +kernel
theorem dX6_init_111 : decode cX6_init 111 = .ok (.goto (-22), 3) := by decide +kernel
theorem dX6_init_114 : decode cX6_init 114 = .ok (.iconst 0, 1) := by decide +kernel
theorem dX6_init_115 : decode cX6_init 115 = .ok (.istore_n 1, 1) := by decide +kernel
theorem dX6_init_116 : decode cX6_init 116 = .ok (.iload_n 1, 1) := by decide +kernel
theorem dX6_init_117 : decode cX6_init 117 = .ok (.iconst 2, 1) := by decide +kernel
theorem dX6_init_118 : decode cX6_init 118 = .ok (.if_icmp .ge 22, 3) := by decide +kernel
theorem dX6_init_121 : decode cX6_init 121 = .ok (.aload_n 0, 1) := by decide +kernel
theorem dX6_init_122 : decode cX6_init 122 = .ok (.getfield 32, 3) := by decide +kernel
theorem dX6_init_125 : decode cX6_init 125 = .ok (.iload_n 1, 1) := by decide +kernel
theorem dX6_init_126 : decode cX6_init 126 = .ok (.new 22, 3) := by decide +kernel
theorem dX6_init_129 : decode cX6_init 129 = .ok (.dup, 1) := by decide +kernel
theorem dX6_init_130 : decode cX6_init 130 = .ok (.invokespecial 24, 3) := by decide +kernel
theorem dX6_init_133 : decode cX6_init 133 = .ok (.aastore, 1) := by decide +kernel
theorem dX6_init_134 : decode cX6_init 134 = .ok (.iinc 1 1, 3) := by decide +kernel
theorem dX6_init_137 : decode cX6_init 137 = .ok (.goto (-21), 3) := by decide +kernel
theorem dX6_init_140 : decode cX6_init 140 = .ok (.return_, 1) := by decide +kernel
theorem dX6_row_0 : decode cX6_row 0 = .ok (.iload_n 1, 1) := by decide +kernel
theorem dX6_row_1 : decode cX6_row 1 = .ok (.invokestatic 58, 3) := by decide +kernel
theorem dX6_row_4 : decode cX6_row 4 = .ok (.ifCond .ne 18, 3) := by decide +kernel
theorem dX6_row_7 : decode cX6_row 7 = .ok (.iload_n 2, 1) := by decide +kernel
theorem dX6_row_8 : decode cX6_row 8 = .ok (.iconst 0, 1) := by decide +kernel
theorem dX6_row_9 : decode cX6_row 9 = .ok (.iconst 2, 1) := by decide +kernel
theorem dX6_row_10 : decode cX6_row 10 = .ok (.invokestatic 62, 3) := by decide +kernel
theorem dX6_row_13 : decode cX6_row 13 = .ok (.ifCond .ne 9, 3) := by decide +kernel
theorem dX6_row_16 : decode cX6_row 16 = .ok (.iload_n 3, 1) := by decide +kernel
theorem dX6_row_17 : decode cX6_row 17 = .ok (.bipush 40, 2) := by decide +kernel
theorem dX6_row_19 : decode cX6_row 19 = .ok (.if_icmp .le 6, 3) := by decide +kernel
theorem dX6_row_22 : decode cX6_row 22 = .ok (.ldc 66, 2) := by decide +kernel
theorem dX6_row_24 : decode cX6_row 24 = .ok (.ireturn, 1) := by decide +kernel
theorem dX6_row_25 : decode cX6_row 25 = .ok (.iload_n 3, 1) := by decide +kernel
theorem dX6_row_26 : decode cX6_row 26 = .ok (.ifCond .ge 9, 3) := by decide +kernel
theorem dX6_row_29 : decode cX6_row 29 = .ok (.aload_n 0, 1) := by decide +kernel
theorem dX6_row_30 : decode cX6_row 30 = .ok (.iconst 4, 1) := by decide +kernel
theorem dX6_row_31 : decode cX6_row 31 = .ok (.invokevirtual 67, 3) := by decide +kernel
theorem dX6_row_34 : decode cX6_row 34 = .ok (.ireturn, 1) := by decide +kernel
theorem dX6_row_35 : decode cX6_row 35 = .ok (.aload_n 0, 1) := by decide +kernel
theorem dX6_row_36 : decode cX6_row 36 = .ok (.getfield 11, 3) := by decide +kernel
theorem dX6_row_39 : decode cX6_row 39 = .ok (.iload_n 1, 1) := by decide +kernel
theorem dX6_row_40 : decode cX6_row 40 = .ok (.aaload, 1) := by decide +kernel
theorem dX6_row_41 : decode cX6_row 41 = .ok (.iload_n 2, 1) := by decide +kernel
theorem dX6_row_42 : decode cX6_row 42 = .ok (.iload_n 3, 1) := by decide +kernel
theorem dX6_row_43 : decode cX6_row 43 = .ok (.invokevirtual 71, 3) := by decide +kernel
theorem dX6_row_46 : decode cX6_row 46 = .ok (.aload_n 0, 1) := by decide +kernel
theorem dX6_row_47 : decode cX6_row 47 = .ok (.iload_n 3, 1) := by decide +kernel
theorem dX6_row_48 : decode cX6_row 48 = .ok (.invokevirtual 75, 3) := by decide +kernel
theorem dX6_row_51 : decode cX6_row 51 = .ok (.ireturn, 1) := by decide +kernel
theorem dX6_set_0 : decode cX6_set 0 = .ok (.iload_n 1, 1) := by decide +kernel
theorem dX6_set_1 : decode cX6_set 1 = .ok (.invokestatic 58, 3) := by decide +kernel
theorem dX6_set_4 : decode cX6_set 4 = .ok (.ifCond .eq 6, 3) := by decide +kernel
theorem dX6_set_7 : decode cX6_set 7 = .ok (.ldc 66, 2) := by decide +kernel
theorem dX6_set_9 : decode cX6_set 9 = .ok (.ireturn, 1) := by decide +kernel
theorem dX6_set_10 : decode cX6_set 10 = .ok (.aload_n 0, 1) := by decide +kernel
theorem dX6_set_11 : decode cX6_set 11 = .ok (.getfield 11, 3) := by decide +kernel
theorem dX6_set_14 : decode cX6_set 14 = .ok (.iload_n 1, 1) := by decide +kernel
theorem dX6_set_15 : decode cX6_set 15 = .ok (.aaload, 1) := by decide +kernel
theorem dX6_set_16 : decode cX6_set 16 = .ok (.iload_n 2, 1) := by decide +kernel
theorem dX6_set_17 : decode cX6_set 17 = .ok (.iconst 1, 1) := by decide +kernel
theorem dX6_set_18 : decode cX6_set 18 = .ok (.invokevirtual 78, 3) := by decide +kernel
theorem dX6_set_21 : decode cX6_set 21 = .ok (.istore 4, 2) := by decide +kernel
theorem dX6_set_23 : decode cX6_set 23 = .ok (.iload 4, 2) := by decide +kernel
theorem dX6_set_25 : decode cX6_set 25 = .ok (.ifCond .eq 10, 3) := by decide +kernel
theorem dX6_set_28 : decode cX6_set 28 = .ok (.aload_n 0, 1) := by decide +kernel
theorem dX6_set_29 : decode cX6_set 29 = .ok (.iload 4, 2) := by decide +kernel
theorem dX6_set_31 : decode cX6_set 31 = .ok (.invokevirtual 67, 3) := by decide +kernel
theorem dX6_set_34 : decode cX6_set 34 = .ok (.ireturn, 1) := by decide +kernel
theorem dX6_set_35 : decode cX6_set 35 = .ok (.aload_n 0, 1) := by decide +kernel
theorem dX6_set_36 : decode cX6_set 36 = .ok (.getfield 11, 3) := by decide +kernel
theorem dX6_set_39 : decode cX6_set 39 = .ok (.iload_n 1, 1) := by decide +kernel
theorem dX6_set_40 : decode cX6_set 40 = .ok (.aaload, 1) := by decide +kernel
theorem dX6_set_41 : decode cX6_set 41 = .ok (.getfield 82, 3) := by decide +kernel
theorem dX6_set_44 : decode cX6_set 44 = .ok (.iload_n 2, 1) := by decide +kernel
theorem dX6_set_45 : decode cX6_set 45 = .ok (.aload_n 0, 1) := by decide +kernel
theorem dX6_set_46 : decode cX6_set 46 = .ok (.getfield 11, 3) := by decide +kernel
theorem dX6_set_49 : decode cX6_set 49 = .ok (.iload_n 1, 1) := by decide +kernel
theorem dX6_set_50 : decode cX6_set 50 = .ok (.aaload, 1) := by decide +kernel
theorem dX6_set_51 : decode cX6_set 51 = .ok (.iload_n 3, 1) := by decide +kernel
theorem dX6_set_52 : decode cX6_set 52 = .ok (.invokevirtual 86, 3) := by decide +kernel
theorem dX6_set_55 : decode cX6_set 55 = .ok (.iastore, 1) := by decide +kernel
theorem dX6_set_56 : decode cX6_set 56 = .ok (.aload_n 0, 1) := by decide +kernel
theorem dX6_set_57 : decode cX6_set 57 = .ok (.aload_n 0, 1) := by decide +kernel
theorem dX6_set_58 : decode cX6_set 58 = .ok (.getfield 11, 3) := by decide +kernel
theorem dX6_set_61 : decode cX6_set 61 = .ok (.iload_n 1, 1) := by decide +kernel
theorem dX6_set_62 : decode cX6_set 62 = .ok (.aaload, 1) := by decide +kernel
theorem dX6_set_63 : decode cX6_set 63 = .ok (.getfield 82, 3) := by decide +kernel
theorem dX6_set_66 : decode cX6_set 66 = .ok (.iload_n 2, 1) := by decide +kernel
theorem dX6_set_67 : decode cX6_set 67 = .ok (.iaload, 1) := by decide +kernel
theorem dX6_set_68 : decode cX6_set 68 = .ok (.invokevirtual 75, 3) := by decide +kernel
theorem dX6_set_71 : decode cX6_set 71 = .ok (.ireturn, 1) := by decide +kernel
theorem dX6_copy_0 : decode cX6_copy 0 = .ok (.iload_n 1, 1) := by decide +kernel
theorem dX6_copy_1 : decode cX6_copy 1 = .ok (.invokestatic 58, 3) := by decide +kernel
theorem dX6_copy_4 : decode cX6_copy 4 = .ok (.ifCond .ne 10, 3) := by decide +kernel
theorem dX6_copy_7 : decode cX6_copy 7 = .ok (.iload_n 3, 1) := by decide +kernel
theorem dX6_copy_8 : decode cX6_copy 8 = .ok (.invokestatic 58, 3) := by decide +kernel
theorem dX6_copy_11 : decode cX6_copy 11 = .ok (.ifCond .eq 6, 3) := by decide +kernel
theorem dX6_copy_14 : decode cX6_copy 14 = .ok (.ldc 66, 2) := by decide +kernel
theorem dX6_copy_16 : decode cX6_copy 16 = .ok (.ireturn, 1) := by decide +kernel
theorem dX6_copy_17 : decode cX6_copy 17 = .ok (.aload_n 0, 1) := by decide +kernel
theorem dX6_copy_18 : decode cX6_copy 18 = .ok (.getfield 11, 3) := by decide +kernel
theorem dX6_copy_21 : decode cX6_copy 21 = .ok (.iload_n 1, 1) := by decide +kernel
theorem dX6_copy_22 : decode cX6_copy 22 = .ok (.aaload, 1) := by decide +kernel
theorem dX6_copy_23 : decode cX6_copy 23 = .ok (.getfield 89, 3) := by decide +kernel
theorem dX6_copy_26 : decode cX6_copy 26 = .ok (.iconst (-1), 1) := by decide +kernel
theorem dX6_copy_27 : decode cX6_copy 27 = .ok (.if_icmp .eq 16, 3) := by decide +kernel
theorem dX6_copy_30 : decode cX6_copy 30 = .ok (.aload_n 0, 1) := by decide +kernel
theorem dX6_copy_31 : decode cX6_copy 31 = .ok (.getfield 11, 3) := by decide +kernel
theorem dX6_copy_34 : decode cX6_copy 34 = .ok (.iload_n 3, 1) := by decide +kernel
theorem dX6_copy_35 : decode cX6_copy 35 = .ok (.aaload, 1) := by decide +kernel
theorem dX6_copy_36 : decode cX6_copy 36 = .ok (.getfield 89, 3) := by decide +kernel
theorem dX6_copy_39 : decode cX6_copy 39 = .ok (.iconst (-1), 1) := by decide +kernel
theorem dX6_copy_40 : decode cX6_copy 40 = .ok (.if_icmp .ne 9, 3) := by decide +kernel
theorem dX6_copy_43 : decode cX6_copy 43 = .ok (.aload_n 0, 1) := by decide +kernel
theorem dX6_copy_44 : decode cX6_copy 44 = .ok (.iconst 1, 1) := by decide +kernel
theorem dX6_copy_45 : decode cX6_copy 45 = .ok (.invokevirtual 67, 3) := by decide +kernel
theorem dX6_copy_48 : decode cX6_copy 48 = .ok (.ireturn, 1) := by decide +kernel
theorem dX6_copy_49 : decode cX6_copy 49 = .ok (.aload_n 0, 1) := by decide +kernel
theorem dX6_copy_50 : decode cX6_copy 50 = .ok (.getfield 11, 3) := by decide +kernel
theorem dX6_copy_53 : decode cX6_copy 53 = .ok (.iload_n 1, 1) := by decide +kernel
theorem dX6_copy_54 : decode cX6_copy 54 = .ok (.aaload, 1) := by decide +kernel
theorem dX6_copy_55 : decode cX6_copy 55 = .ok (.getfield 89, 3) := by decide +kernel
theorem dX6_copy_58 : decode cX6_copy 58 = .ok (.aload_n 0, 1) := by decide +kernel
theorem dX6_copy_59 : decode cX6_copy 59 = .ok (.getfield 11, 3) := by decide +kernel
theorem dX6_copy_62 : decode cX6_copy 62 = .ok (.iload_n 3, 1) := by decide +kernel
theorem dX6_copy_63 : decode cX6_copy 63 = .ok (.aaload, 1) := by decide +kernel
theorem dX6_copy_64 : decode cX6_copy 64 = .ok (.getfield 89, 3) := by decide +kernel
theorem dX6_copy_67 : decode cX6_copy 67 = .ok (.if_icmp .eq 9, 3) := by decide +kernel
theorem dX6_copy_70 : decode cX6_copy 70 = .ok (.aload_n 0, 1) := by decide +kernel
theorem dX6_copy_71 : decode cX6_copy 71 = .ok (.iconst 5, 1) := by decide +kernel
theorem dX6_copy_72 : decode cX6_copy 72 = .ok (.invokevirtual 67, 3) := by decide +kernel
theorem dX6_copy_75 : decode cX6_copy 75 = .ok (.ireturn, 1) := by decide +kernel
theorem dX6_copy_76 : decode cX6_copy 76 = .ok (.aload_n 0, 1) := by decide +kernel
theorem dX6_copy_77 : decode cX6_copy 77 = .ok (.getfield 11, 3) := by decide +kernel
theorem dX6_copy_80 : decode cX6_copy 80 = .ok (.iload_n 1, 1) := by decide +kernel
theorem dX6_copy_81 : decode cX6_copy 81 = .ok (.aaload, 1) := by decide +kernel
theorem dX6_copy_82 : decode cX6_copy 82 = .ok (.iload_n 2, 1) := by decide +kernel
theorem dX6_copy_83 : decode cX6_copy 83 = .ok (.iload 5, 2) := by decide +kernel
theorem dX6_copy_85 : decode cX6_copy 85 = .ok (.invokevirtual 93, 3) := by decide +kernel
theorem dX6_copy_88 : decode cX6_copy 88 = .ok (.ifCond .ne 19, 3) := by decide +kernel
theorem dX6_copy_91 : decode cX6_copy 91 = .ok (.aload_n 0, 1) := by decide +kernel
theorem dX6_copy_92 : decode cX6_copy 92 = .ok (.getfield 11, 3) := by decide +kernel
theorem dX6_copy_95 : decode cX6_copy 95 = .ok (.iload_n 3, 1) := by decide +kernel
theorem dX6_copy_96 : decode cX6_copy 96 = .ok (.aaload, 1) := by decide +kernel
theorem dX6_copy_97 : decode cX6_copy 97 = .ok (.iload 4, 2) := by decide +kernel
theorem dX6_copy_99 : decode cX6_copy 99 = .ok (.iload 5, 2) := by decide +kernel
theorem dX6_copy_101 : decode cX6_copy 101 = .ok (.invokevirtual 93, 3) := by decide +kernel
theorem dX6_copy_104 : decode cX6_copy 104 = .ok (.ifCond .eq 9, 3) := by decide +kernel
theorem dX6_copy_107 : decode cX6_copy 107 = .ok (.aload_n 0, 1) := by decide +kernel
theorem dX6_copy_108 : decode cX6_copy 108 = .ok (.iconst 2, 1) := by decide +kernel
theorem dX6_copy_109 : decode cX6_copy 109 = .ok (.invokevirtual 67, 3) := by decide +kernel
theorem dX6_copy_112 : decode cX6_copy 112 = .ok (.ireturn, 1) := by decide +kernel
theorem dX6_copy_113 : decode cX6_copy 113 = .ok (.aload_n 0, 1) := by decide +kernel
theorem dX6_copy_114 : decode cX6_copy 114 = .ok (.getfield 11, 3) := by decide +kernel
theorem dX6_copy_117 : decode cX6_copy 117 = .ok (.iload_n 1, 1) := by decide +kernel
theorem dX6_copy_118 : decode cX6_copy 118 = .ok (.aaload, 1) := by decide +kernel
theorem dX6_copy_119 : decode cX6_copy 119 = .ok (.getfield 82, 3) := by decide +kernel
theorem dX6_copy_122 : decode cX6_copy 122 = .ok (.iload_n 2, 1) := by decide +kernel
theorem dX6_copy_123 : decode cX6_copy 123 = .ok (.aload_n 0, 1) := by decide +kernel
theorem dX6_copy_124 : decode cX6_copy 124 = .ok (.getfield 11, 3) := by decide +kernel
theorem dX6_copy_127 : decode cX6_copy 127 = .ok (.iload_n 3, 1) := by decide +kernel
theorem dX6_copy_128 : decode cX6_copy 128 = .ok (.aaload, 1) := by decide +kernel
theorem dX6_copy_129 : decode cX6_copy 129 = .ok (.getfield 82, 3) := by decide +kernel
theorem dX6_copy_132 : decode cX6_copy 132 = .ok (.iload 4, 2) := by decide +kernel
theorem dX6_copy_134 : decode cX6_copy 134 = .ok (.iload 5, 2) := by decide +kernel
theorem dX6_copy_136 : decode cX6_copy 136 = .ok (.invokestatic 97, 3) := by decide +kernel
theorem dX6_copy_139 : decode cX6_copy 139 = .ok (.aload_n 0, 1) := by decide +kernel
theorem dX6_copy_140 : decode cX6_copy 140 = .ok (.iload 5, 2) := by decide +kernel
theorem dX6_copy_142 : decode cX6_copy 142 = .ok (.invokevirtual 75, 3) := by decide +kernel
theorem dX6_copy_145 : decode cX6_copy 145 = .ok (.ireturn, 1) := by decide +kernel
theorem dX6_drop_0 : decode cX6_drop 0 = .ok (.iload_n 1, 1) := by decide +kernel
theorem dX6_drop_1 : decode cX6_drop 1 = .ok (.invokestatic 58, 3) := by decide +kernel
theorem dX6_drop_4 : decode cX6_drop 4 = .ok (.ifCond .eq 6, 3) := by decide +kernel
theorem dX6_drop_7 : decode cX6_drop 7 = .ok (.ldc 66, 2) := by decide +kernel
theorem dX6_drop_9 : decode cX6_drop 9 = .ok (.ireturn, 1) := by decide +kernel
theorem dX6_drop_10 : decode cX6_drop 10 = .ok (.aload_n 0, 1) := by decide +kernel
theorem dX6_drop_11 : decode cX6_drop 11 = .ok (.getfield 11, 3) := by decide +kernel
theorem dX6_drop_14 : decode cX6_drop 14 = .ok (.iload_n 1, 1) := by decide +kernel
theorem dX6_drop_15 : decode cX6_drop 15 = .ok (.aaload, 1) := by decide +kernel
theorem dX6_drop_16 : decode cX6_drop 16 = .ok (.getfield 89, 3) := by decide +kernel
theorem dX6_drop_19 : decode cX6_drop 19 = .ok (.iconst (-1), 1) := by decide +kernel
theorem dX6_drop_20 : decode cX6_drop 20 = .ok (.if_icmp .ne 9, 3) := by decide +kernel
theorem dX6_drop_23 : decode cX6_drop 23 = .ok (.aload_n 0, 1) := by decide +kernel
theorem dX6_drop_24 : decode cX6_drop 24 = .ok (.iconst 1, 1) := by decide +kernel
theorem dX6_drop_25 : decode cX6_drop 25 = .ok (.invokevirtual 67, 3) := by decide +kernel
theorem dX6_drop_28 : decode cX6_drop 28 = .ok (.ireturn, 1) := by decide +kernel
theorem dX6_drop_29 : decode cX6_drop 29 = .ok (.aload_n 0, 1) := by decide +kernel
theorem dX6_drop_30 : decode cX6_drop 30 = .ok (.getfield 11, 3) := by decide +kernel
theorem dX6_drop_33 : decode cX6_drop 33 = .ok (.iload_n 1, 1) := by decide +kernel
theorem dX6_drop_34 : decode cX6_drop 34 = .ok (.aaload, 1) := by decide +kernel
theorem dX6_drop_35 : decode cX6_drop 35 = .ok (.iconst (-1), 1) := by decide +kernel
theorem dX6_drop_36 : decode cX6_drop 36 = .ok (.putfield 89, 3) := by decide +kernel
theorem dX6_drop_39 : decode cX6_drop 39 = .ok (.aload_n 0, 1) := by decide +kernel
theorem dX6_drop_40 : decode cX6_drop 40 = .ok (.aload_n 0, 1) := by decide +kernel
theorem dX6_drop_41 : decode cX6_drop 41 = .ok (.getfield 11, 3) := by decide +kernel
theorem dX6_drop_44 : decode cX6_drop 44 = .ok (.iload_n 1, 1) := by decide +kernel
theorem dX6_drop_45 : decode cX6_drop 45 = .ok (.aaload, 1) := by decide +kernel
theorem dX6_drop_46 : decode cX6_drop 46 = .ok (.getfield 103, 3) := by decide +kernel
theorem dX6_drop_49 : decode cX6_drop 49 = .ok (.invokevirtual 75, 3) := by decide +kernel
theorem dX6_drop_52 : decode cX6_drop 52 = .ok (.ireturn, 1) := by decide +kernel
theorem dX6_feed_0 : decode cX6_feed 0 = .ok (.iload_n 1, 1) := by decide +kernel
theorem dX6_feed_1 : decode cX6_feed 1 = .ok (.iconst 0, 1) := by decide +kernel
theorem dX6_feed_2 : decode cX6_feed 2 = .ok (.sipush 255, 3) := by decide +kernel
theorem dX6_feed_5 : decode cX6_feed 5 = .ok (.invokestatic 62, 3) := by decide +kernel
theorem dX6_feed_8 : decode cX6_feed 8 = .ok (.ifCond .eq 6, 3) := by decide +kernel
theorem dX6_feed_11 : decode cX6_feed 11 = .ok (.ldc 66, 2) := by decide +kernel
theorem dX6_feed_13 : decode cX6_feed 13 = .ok (.ireturn, 1) := by decide +kernel
theorem dX6_feed_14 : decode cX6_feed 14 = .ok (.aload_n 0, 1) := by decide +kernel
theorem dX6_feed_15 : decode cX6_feed 15 = .ok (.getfield 18, 3) := by decide +kernel
theorem dX6_feed_18 : decode cX6_feed 18 = .ok (.getfield 106, 3) := by decide +kernel
theorem dX6_feed_21 : decode cX6_feed 21 = .ok (.bipush 120, 2) := by decide +kernel
theorem dX6_feed_23 : decode cX6_feed 23 = .ok (.if_icmp .lt 6, 3) := by decide +kernel
theorem dX6_feed_26 : decode cX6_feed 26 = .ok (.ldc 109, 2) := by decide +kernel
theorem dX6_feed_28 : decode cX6_feed 28 = .ok (.ireturn, 1) := by decide +kernel
theorem dX6_feed_29 : decode cX6_feed 29 = .ok (.aload_n 0, 1) := by decide +kernel
theorem dX6_feed_30 : decode cX6_feed 30 = .ok (.getfield 18, 3) := by decide +kernel
theorem dX6_feed_33 : decode cX6_feed 33 = .ok (.getfield 110, 3) := by decide +kernel
theorem dX6_feed_36 : decode cX6_feed 36 = .ok (.aload_n 0, 1) := by decide +kernel
theorem dX6_feed_37 : decode cX6_feed 37 = .ok (.getfield 18, 3) := by decide +kernel
theorem dX6_feed_40 : decode cX6_feed 40 = .ok (.getfield 106, 3) := by decide +kernel
theorem dX6_feed_43 : decode cX6_feed 43 = .ok (.iload_n 1, 1) := by decide +kernel
theorem dX6_feed_44 : decode cX6_feed 44 = .ok (.iastore, 1) := by decide +kernel
theorem dX6_feed_45 : decode cX6_feed 45 = .ok (.aload_n 0, 1) := by decide +kernel
theorem dX6_feed_46 : decode cX6_feed 46 = .ok (.getfield 18, 3) := by decide +kernel
theorem dX6_feed_49 : decode cX6_feed 49 = .ok (.dup, 1) := by decide +kernel
theorem dX6_feed_50 : decode cX6_feed 50 = .ok (.getfield 106, 3) := by decide +kernel
theorem dX6_feed_53 : decode cX6_feed 53 = .ok (.iconst 1, 1) := by decide +kernel
theorem dX6_feed_54 : decode cX6_feed 54 = .ok (.iadd, 1) := by decide +kernel
theorem dX6_feed_55 : decode cX6_feed 55 = .ok (.putfield 106, 3) := by decide +kernel
theorem dX6_feed_58 : decode cX6_feed 58 = .ok (.aload_n 0, 1) := by decide +kernel
theorem dX6_feed_59 : decode cX6_feed 59 = .ok (.getfield 18, 3) := by decide +kernel
theorem dX6_feed_62 : decode cX6_feed 62 = .ok (.getfield 106, 3) := by decide +kernel
theorem dX6_feed_65 : decode cX6_feed 65 = .ok (.ireturn, 1) := by decide +kernel
theorem dX6_room_0 : decode cX6_room 0 = .ok (.aload_n 0, 1) := by decide +kernel
theorem dX6_room_1 : decode cX6_room 1 = .ok (.getfield 18, 3) := by decide +kernel
theorem dX6_room_4 : decode cX6_room 4 = .ok (.aload_n 0, 1) := by decide +kernel
theorem dX6_room_5 : decode cX6_room 5 = .ok (.getfield 29, 3) := by decide +kernel
theorem dX6_room_8 : decode cX6_room 8 = .ok (.invokevirtual 113, 3) := by decide +kernel
theorem dX6_room_11 : decode cX6_room 11 = .ok (.istore_n 1, 1) := by decide +kernel
theorem dX6_room_12 : decode cX6_room 12 = .ok (.aload_n 0, 1) := by decide +kernel
theorem dX6_room_13 : decode cX6_room 13 = .ok (.getfield 18, 3) := by decide +kernel
theorem dX6_room_16 : decode cX6_room 16 = .ok (.iconst 0, 1) := by decide +kernel
theorem dX6_room_17 : decode cX6_room 17 = .ok (.putfield 106, 3) := by decide +kernel
theorem dX6_room_20 : decode cX6_room 20 = .ok (.iload_n 1, 1) := by decide +kernel
theorem dX6_room_21 : decode cX6_room 21 = .ok (.ifCond .lt 19, 3) := by decide +kernel
theorem dX6_room_24 : decode cX6_room 24 = .ok (.aload_n 0, 1) := by decide +kernel
theorem dX6_room_25 : decode cX6_room 25 = .ok (.aload_n 0, 1) := by decide +kernel
theorem dX6_room_26 : decode cX6_room 26 = .ok (.getfield 18, 3) := by decide +kernel
theorem dX6_room_29 : decode cX6_room 29 = .ok (.getfield 117, 3) := by decide +kernel
theorem dX6_room_32 : decode cX6_room 32 = .ok (.putfield 120, 3) := by decide +kernel
theorem dX6_room_35 : decode cX6_room 35 = .ok (.ldc 123, 2) := by decide +kernel
theorem dX6_room_37 : decode cX6_room 37 = .ok (.iload_n 1, 1) := by decide +kernel
theorem dX6_room_38 : decode cX6_room 38 = .ok (.isub, 1) := by decide +kernel
theorem dX6_room_39 : decode cX6_room 39 = .ok (.ireturn, 1) := by decide +kernel
theorem dX6_room_40 : decode cX6_room 40 = .ok (.aload_n 0, 1) := by decide +kernel
theorem dX6_room_41 : decode cX6_room 41 = .ok (.getfield 25, 3) := by decide +kernel
theorem dX6_room_44 : decode cX6_room 44 = .ok (.aload_n 0, 1) := by decide +kernel
theorem dX6_room_45 : decode cX6_room 45 = .ok (.getfield 29, 3) := by decide +kernel
theorem dX6_room_48 : decode cX6_room 48 = .ok (.invokevirtual 124, 3) := by decide +kernel
theorem dX6_room_51 : decode cX6_room 51 = .ok (.aload_n 0, 1) := by decide +kernel
theorem dX6_room_52 : decode cX6_room 52 = .ok (.getfield 39, 3) := by decide +kernel
theorem dX6_room_55 : decode cX6_room 55 = .ok (.invokevirtual 128, 3) := by decide +kernel
theorem dX6_room_58 : decode cX6_room 58 = .ok (.aload_n 0, 1) := by decide +kernel
theorem dX6_room_59 : decode cX6_room 59 = .ok (.getfield 25, 3) := by decide +kernel
theorem dX6_room_62 : decode cX6_room 62 = .ok (.getfield 131, 3) := by decide +kernel
theorem dX6_room_65 : decode cX6_room 65 = .ok (.ireturn, 1) := by decide +kernel
theorem dX6_fault_0 : decode cX6_fault 0 = .ok (.aload_n 0, 1) := by decide +kernel
theorem dX6_fault_1 : decode cX6_fault 1 = .ok (.getfield 120, 3) := by decide +kernel
theorem dX6_fault_4 : decode cX6_fault 4 = .ok (.ireturn, 1) := by decide +kernel
theorem dX6_undo_0 : decode cX6_undo 0 = .ok (.aload_n 0, 1) := by decide +kernel
theorem dX6_undo_1 : decode cX6_undo 1 = .ok (.getfield 39, 3) := by decide +kernel
theorem dX6_undo_4 : decode cX6_undo 4 = .ok (.getfield 134, 3) := by decide +kernel
theorem dX6_undo_7 : decode cX6_undo 7 = .ok (.ifCond .ne 6, 3) := by decide +kernel
theorem dX6_undo_10 : decode cX6_undo 10 = .ok (.ldc 135, 2) := by decide +kernel
theorem dX6_undo_12 : decode cX6_undo 12 = .ok (.ireturn, 1) := by decide +kernel
theorem dX6_undo_13 : decode cX6_undo 13 = .ok (.aload_n 0, 1) := by decide +kernel
theorem dX6_undo_14 : decode cX6_undo 14 = .ok (.getfield 39, 3) := by decide +kernel
theorem dX6_undo_17 : decode cX6_undo 17 = .ok (.aload_n 0, 1) := by decide +kernel
theorem dX6_undo_18 : decode cX6_undo 18 = .ok (.getfield 25, 3) := by decide +kernel
theorem dX6_undo_21 : decode cX6_undo 21 = .ok (.invokevirtual 136, 3) := by decide +kernel
theorem dX6_undo_24 : decode cX6_undo 24 = .ok (.aload_n 0, 1) := by decide +kernel
theorem dX6_undo_25 : decode cX6_undo 25 = .ok (.getfield 39, 3) := by decide +kernel
theorem dX6_undo_28 : decode cX6_undo 28 = .ok (.getfield 134, 3) := by decide +kernel
theorem dX6_undo_31 : decode cX6_undo 31 = .ok (.ireturn, 1) := by decide +kernel
theorem dX6_minutes_0 : decode cX6_minutes 0 = .ok (.aload_n 0, 1) := by decide +kernel
theorem dX6_minutes_1 : decode cX6_minutes 1 = .ok (.invokevirtual 139, 3) := by decide +kernel
theorem dX6_minutes_4 : decode cX6_minutes 4 = .ok (.ifCond .eq 6, 3) := by decide +kernel
theorem dX6_minutes_7 : decode cX6_minutes 7 = .ok (.ldc 135, 2) := by decide +kernel
theorem dX6_minutes_9 : decode cX6_minutes 9 = .ok (.ireturn, 1) := by decide +kernel
theorem dX6_minutes_10 : decode cX6_minutes 10 = .ok (.iload_n 1, 1) := by decide +kernel
theorem dX6_minutes_11 : decode cX6_minutes 11 = .ok (.iconst 1, 1) := by decide +kernel
theorem dX6_minutes_12 : decode cX6_minutes 12 = .ok (.bipush 24, 2) := by decide +kernel
theorem dX6_minutes_14 : decode cX6_minutes 14 = .ok (.invokestatic 62, 3) := by decide +kernel
theorem dX6_minutes_17 : decode cX6_minutes 17 = .ok (.ifCond .eq 6, 3) := by decide +kernel
theorem dX6_minutes_20 : decode cX6_minutes 20 = .ok (.ldc 66, 2) := by decide +kernel
theorem dX6_minutes_22 : decode cX6_minutes 22 = .ok (.ireturn, 1) := by decide +kernel
theorem dX6_minutes_23 : decode cX6_minutes 23 = .ok (.aload_n 0, 1) := by decide +kernel
theorem dX6_minutes_24 : decode cX6_minutes 24 = .ok (.getfield 25, 3) := by decide +kernel
theorem dX6_minutes_27 : decode cX6_minutes 27 = .ok (.getfield 143, 3) := by decide +kernel
theorem dX6_minutes_30 : decode cX6_minutes 30 = .ok (.iload_n 1, 1) := by decide +kernel
theorem dX6_minutes_31 : decode cX6_minutes 31 = .ok (.iadd, 1) := by decide +kernel
theorem dX6_minutes_32 : decode cX6_minutes 32 = .ok (.sipush 999, 3) := by decide +kernel
theorem dX6_minutes_35 : decode cX6_minutes 35 = .ok (.if_icmp .le 6, 3) := by decide +kernel
theorem dX6_minutes_38 : decode cX6_minutes 38 = .ok (.ldc 109, 2) := by decide +kernel
theorem dX6_minutes_40 : decode cX6_minutes 40 = .ok (.ireturn, 1) := by decide +kernel
theorem dX6_minutes_41 : decode cX6_minutes 41 = .ok (.iconst 0, 1) := by decide +kernel
theorem dX6_minutes_42 : decode cX6_minutes 42 = .ok (.istore_n 2, 1) := by decide +kernel
theorem dX6_minutes_43 : decode cX6_minutes 43 = .ok (.iload_n 2, 1) := by decide +kernel
theorem dX6_minutes_44 : decode cX6_minutes 44 = .ok (.iload_n 1, 1) := by decide +kernel
theorem dX6_minutes_45 : decode cX6_minutes 45 = .ok (.if_icmp .ge 28, 3) := by decide +kernel
theorem dX6_minutes_48 : decode cX6_minutes 48 = .ok (.aload_n 0, 1) := by decide +kernel
theorem dX6_minutes_49 : decode cX6_minutes 49 = .ok (.getfield 39, 3) := by decide +kernel
theorem dX6_minutes_52 : decode cX6_minutes 52 = .ok (.aload_n 0, 1) := by decide +kernel
theorem dX6_minutes_53 : decode cX6_minutes 53 = .ok (.getfield 25, 3) := by decide +kernel
theorem dX6_minutes_56 : decode cX6_minutes 56 = .ok (.invokevirtual 146, 3) := by decide +kernel
theorem dX6_minutes_59 : decode cX6_minutes 59 = .ok (.aload_n 0, 1) := by decide +kernel
theorem dX6_minutes_60 : decode cX6_minutes 60 = .ok (.getfield 25, 3) := by decide +kernel
theorem dX6_minutes_63 : decode cX6_minutes 63 = .ok (.invokevirtual 149, 3) := by decide +kernel
theorem dX6_minutes_66 : decode cX6_minutes 66 = .ok (.pop, 1) := by decide +kernel
theorem dX6_minutes_67 : decode cX6_minutes 67 = .ok (.iinc 2 1, 3) := by decide +kernel
theorem dX6_minutes_70 : decode cX6_minutes 70 = .ok (.goto (-27), 3) := by decide +kernel
theorem dX6_minutes_73 : decode cX6_minutes 73 = .ok (.aload_n 0, 1) := by decide +kernel
theorem dX6_minutes_74 : decode cX6_minutes 74 = .ok (.getfield 25, 3) := by decide +kernel
theorem dX6_minutes_77 : decode cX6_minutes 77 = .ok (.iconst 2, 1) := by decide +kernel
theorem dX6_minutes_78 : decode cX6_minutes 78 = .ok (.invokevirtual 152, 3) := by decide +kernel
theorem dX6_minutes_81 : decode cX6_minutes 81 = .ok (.ireturn, 1) := by decide +kernel
theorem dX6_hand_0 : decode cX6_hand 0 = .ok (.aload_n 0, 1) := by decide +kernel
theorem dX6_hand_1 : decode cX6_hand 1 = .ok (.iload_n 1, 1) := by decide +kernel
theorem dX6_hand_2 : decode cX6_hand 2 = .ok (.invokevirtual 155, 3) := by decide +kernel
theorem dX6_hand_5 : decode cX6_hand 5 = .ok (.ifCond .ne 12, 3) := by decide +kernel
theorem dX6_hand_8 : decode cX6_hand 8 = .ok (.iload_n 2, 1) := by decide +kernel
theorem dX6_hand_9 : decode cX6_hand 9 = .ok (.iconst 0, 1) := by decide +kernel
theorem dX6_hand_10 : decode cX6_hand 10 = .ok (.iconst 1, 1) := by decide +kernel
theorem dX6_hand_11 : decode cX6_hand 11 = .ok (.invokestatic 62, 3) := by decide +kernel
theorem dX6_hand_14 : decode cX6_hand 14 = .ok (.ifCond .eq 6, 3) := by decide +kernel
theorem dX6_hand_17 : decode cX6_hand 17 = .ok (.ldc 66, 2) := by decide +kernel
theorem dX6_hand_19 : decode cX6_hand 19 = .ok (.ireturn, 1) := by decide +kernel
theorem dX6_hand_20 : decode cX6_hand 20 = .ok (.aload_n 0, 1) := by decide +kernel
theorem dX6_hand_21 : decode cX6_hand 21 = .ok (.getfield 25, 3) := by decide +kernel
theorem dX6_hand_24 : decode cX6_hand 24 = .ok (.getfield 158, 3) := by decide +kernel
theorem dX6_hand_27 : decode cX6_hand 27 = .ok (.iload_n 1, 1) := by decide +kernel
theorem dX6_hand_28 : decode cX6_hand 28 = .ok (.invokestatic 161, 3) := by decide +kernel
theorem dX6_hand_31 : decode cX6_hand 31 = .ok (.iload_n 2, 1) := by decide +kernel
theorem dX6_hand_32 : decode cX6_hand 32 = .ok (.iconst 1, 1) := by decide +kernel
theorem dX6_hand_33 : decode cX6_hand 33 = .ok (.if_icmp .ne 7, 3) := by decide +kernel
theorem dX6_hand_36 : decode cX6_hand 36 = .ok (.iconst 1, 1) := by decide +kernel
theorem dX6_hand_37 : decode cX6_hand 37 = .ok (.goto 4, 3) := by decide +kernel
theorem dX6_hand_40 : decode cX6_hand 40 = .ok (.iconst 0, 1) := by decide +kernel
theorem dX6_hand_41 : decode cX6_hand 41 = .ok (.if_icmp .ne 6, 3) := by decide +kernel
theorem dX6_hand_44 : decode cX6_hand 44 = .ok (.ldc 135, 2) := by decide +kernel
theorem dX6_hand_46 : decode cX6_hand 46 = .ok (.ireturn, 1) := by decide +kernel
theorem dX6_hand_47 : decode cX6_hand 47 = .ok (.iload_n 2, 1) := by decide +kernel
theorem dX6_hand_48 : decode cX6_hand 48 = .ok (.iconst 1, 1) := by decide +kernel
theorem dX6_hand_49 : decode cX6_hand 49 = .ok (.if_icmp .ne 26, 3) := by decide +kernel
theorem dX6_hand_52 : decode cX6_hand 52 = .ok (.aload_n 0, 1) := by decide +kernel
theorem dX6_hand_53 : decode cX6_hand 53 = .ok (.getfield 25, 3) := by decide +kernel
theorem dX6_hand_56 : decode cX6_hand 56 = .ok (.getfield 158, 3) := by decide +kernel
theorem dX6_hand_59 : decode cX6_hand 59 = .ok (.invokestatic 164, 3) := by decide +kernel
theorem dX6_hand_62 : decode cX6_hand 62 = .ok (.aload_n 0, 1) := by decide +kernel
theorem dX6_hand_63 : decode cX6_hand 63 = .ok (.getfield 25, 3) := by decide +kernel
theorem dX6_hand_66 : decode cX6_hand 66 = .ok (.getfield 169, 3) := by decide +kernel
theorem dX6_hand_69 : decode cX6_hand 69 = .ok (.if_icmp .lt 6, 3) := by decide +kernel
theorem dX6_hand_72 : decode cX6_hand 72 = .ok (.ldc 109, 2) := by decide +kernel
theorem dX6_hand_74 : decode cX6_hand 74 = .ok (.ireturn, 1) := by decide +kernel
theorem dX6_hand_75 : decode cX6_hand 75 = .ok (.aload_n 0, 1) := by decide +kernel
theorem dX6_hand_76 : decode cX6_hand 76 = .ok (.getfield 39, 3) := by decide +kernel
theorem dX6_hand_79 : decode cX6_hand 79 = .ok (.aload_n 0, 1) := by decide +kernel
theorem dX6_hand_80 : decode cX6_hand 80 = .ok (.getfield 25, 3) := by decide +kernel
theorem dX6_hand_83 : decode cX6_hand 83 = .ok (.invokevirtual 146, 3) := by decide +kernel
theorem dX6_hand_86 : decode cX6_hand 86 = .ok (.aload_n 0, 1) := by decide +kernel
theorem dX6_hand_87 : decode cX6_hand 87 = .ok (.getfield 25, 3) := by decide +kernel
theorem dX6_hand_90 : decode cX6_hand 90 = .ok (.dup, 1) := by decide +kernel
theorem dX6_hand_91 : decode cX6_hand 91 = .ok (.getfield 158, 3) := by decide +kernel
theorem dX6_hand_94 : decode cX6_hand 94 = .ok (.iconst 1, 1) := by decide +kernel
theorem dX6_hand_95 : decode cX6_hand 95 = .ok (.iload_n 1, 1) := by decide +kernel
theorem dX6_hand_96 : decode cX6_hand 96 = .ok (.ishl, 1) := by decide +kernel
theorem dX6_hand_97 : decode cX6_hand 97 = .ok (.ixor, 1) := by decide +kernel
theorem dX6_hand_98 : decode cX6_hand 98 = .ok (.putfield 158, 3) := by decide +kernel
theorem dX6_hand_101 : decode cX6_hand 101 = .ok (.aload_n 0, 1) := by decide +kernel
theorem dX6_hand_102 : decode cX6_hand 102 = .ok (.getfield 25, 3) := by decide +kernel
theorem dX6_hand_105 : decode cX6_hand 105 = .ok (.getfield 158, 3) := by decide +kernel
theorem dX6_hand_108 : decode cX6_hand 108 = .ok (.ireturn, 1) := by decide +kernel
theorem dX6_carry_0 : decode cX6_carry 0 = .ok (.aload_n 0, 1) := by decide +kernel
theorem dX6_carry_1 : decode cX6_carry 1 = .ok (.iload_n 1, 1) := by decide +kernel
theorem dX6_carry_2 : decode cX6_carry 2 = .ok (.invokevirtual 155, 3) := by decide +kernel
theorem dX6_carry_5 : decode cX6_carry 5 = .ok (.ifCond .ne 12, 3) := by decide +kernel
theorem dX6_carry_8 : decode cX6_carry 8 = .ok (.iload_n 2, 1) := by decide +kernel
theorem dX6_carry_9 : decode cX6_carry 9 = .ok (.iconst 0, 1) := by decide +kernel
theorem dX6_carry_10 : decode cX6_carry 10 = .ok (.iconst 1, 1) := by decide +kernel
theorem dX6_carry_11 : decode cX6_carry 11 = .ok (.invokestatic 62, 3) := by decide +kernel
theorem dX6_carry_14 : decode cX6_carry 14 = .ok (.ifCond .eq 6, 3) := by decide +kernel
theorem dX6_carry_17 : decode cX6_carry 17 = .ok (.ldc 66, 2) := by decide +kernel
theorem dX6_carry_19 : decode cX6_carry 19 = .ok (.ireturn, 1) := by decide +kernel
theorem dX6_carry_20 : decode cX6_carry 20 = .ok (.aload_n 0, 1) := by decide +kernel
theorem dX6_carry_21 : decode cX6_carry 21 = .ok (.getfield 25, 3) := by decide +kernel
theorem dX6_carry_24 : decode cX6_carry 24 = .ok (.getfield 172, 3) := by decide +kernel
theorem dX6_carry_27 : decode cX6_carry 27 = .ok (.iload_n 1, 1) := by decide +kernel
theorem dX6_carry_28 : decode cX6_carry 28 = .ok (.invokestatic 161, 3) := by decide +kernel
theorem dX6_carry_31 : decode cX6_carry 31 = .ok (.iload_n 2, 1) := by decide +kernel
theorem dX6_carry_32 : decode cX6_carry 32 = .ok (.iconst 1, 1) := by decide +kernel
theorem dX6_carry_33 : decode cX6_carry 33 = .ok (.if_icmp .ne 7, 3) := by decide +kernel
theorem dX6_carry_36 : decode cX6_carry 36 = .ok (.iconst 1, 1) := by decide +kernel
theorem dX6_carry_37 : decode cX6_carry 37 = .ok (.goto 4, 3) := by decide +kernel
theorem dX6_carry_40 : decode cX6_carry 40 = .ok (.iconst 0, 1) := by decide +kernel
theorem dX6_carry_41 : decode cX6_carry 41 = .ok (.if_icmp .ne 6, 3) := by decide +kernel
theorem dX6_carry_44 : decode cX6_carry 44 = .ok (.ldc 135, 2) := by decide +kernel
theorem dX6_carry_46 : decode cX6_carry 46 = .ok (.ireturn, 1) := by decide +kernel
theorem dX6_carry_47 : decode cX6_carry 47 = .ok (.aload_n 0, 1) := by decide +kernel
theorem dX6_carry_48 : decode cX6_carry 48 = .ok (.getfield 39, 3) := by decide +kernel
theorem dX6_carry_51 : decode cX6_carry 51 = .ok (.aload_n 0, 1) := by decide +kernel
theorem dX6_carry_52 : decode cX6_carry 52 = .ok (.getfield 25, 3) := by decide +kernel
theorem dX6_carry_55 : decode cX6_carry 55 = .ok (.invokevirtual 146, 3) := by decide +kernel
theorem dX6_carry_58 : decode cX6_carry 58 = .ok (.aload_n 0, 1) := by decide +kernel
theorem dX6_carry_59 : decode cX6_carry 59 = .ok (.getfield 25, 3) := by decide +kernel
theorem dX6_carry_62 : decode cX6_carry 62 = .ok (.dup, 1) := by decide +kernel
theorem dX6_carry_63 : decode cX6_carry 63 = .ok (.getfield 172, 3) := by decide +kernel
theorem dX6_carry_66 : decode cX6_carry 66 = .ok (.iconst 1, 1) := by decide +kernel
theorem dX6_carry_67 : decode cX6_carry 67 = .ok (.iload_n 1, 1) := by decide +kernel
theorem dX6_carry_68 : decode cX6_carry 68 = .ok (.ishl, 1) := by decide +kernel
theorem dX6_carry_69 : decode cX6_carry 69 = .ok (.ixor, 1) := by decide +kernel
theorem dX6_carry_70 : decode cX6_carry 70 = .ok (.putfield 172, 3) := by decide +kernel
theorem dX6_carry_73 : decode cX6_carry 73 = .ok (.aload_n 0, 1) := by decide +kernel
theorem dX6_carry_74 : decode cX6_carry 74 = .ok (.getfield 25, 3) := by decide +kernel
theorem dX6_carry_77 : decode cX6_carry 77 = .ok (.getfield 172, 3) := by decide +kernel
theorem dX6_carry_80 : decode cX6_carry 80 = .ok (.ireturn, 1) := by decide +kernel
theorem dX6_change_0 : decode cX6_change 0 = .ok (.aload_n 0, 1) := by decide +kernel
theorem dX6_change_1 : decode cX6_change 1 = .ok (.iload_n 1, 1) := by decide +kernel
theorem dX6_change_2 : decode cX6_change 2 = .ok (.invokevirtual 155, 3) := by decide +kernel
theorem dX6_change_5 : decode cX6_change 5 = .ok (.ifCond .ne 16, 3) := by decide +kernel
theorem dX6_change_8 : decode cX6_change 8 = .ok (.aload_n 0, 1) := by decide +kernel
theorem dX6_change_9 : decode cX6_change 9 = .ok (.iload_n 2, 1) := by decide +kernel
theorem dX6_change_10 : decode cX6_change 10 = .ok (.invokevirtual 155, 3) := by decide +kernel
theorem dX6_change_13 : decode cX6_change 13 = .ok (.ifCond .ne 8, 3) := by decide +kernel
theorem dX6_change_16 : decode cX6_change 16 = .ok (.iload_n 1, 1) := by decide +kernel
theorem dX6_change_17 : decode cX6_change 17 = .ok (.iload_n 2, 1) := by decide +kernel
theorem dX6_change_18 : decode cX6_change 18 = .ok (.if_icmp .ne 6, 3) := by decide +kernel
theorem dX6_change_21 : decode cX6_change 21 = .ok (.ldc 66, 2) := by decide +kernel
theorem dX6_change_23 : decode cX6_change 23 = .ok (.ireturn, 1) := by decide +kernel
theorem dX6_change_24 : decode cX6_change 24 = .ok (.aload_n 0, 1) := by decide +kernel
theorem dX6_change_25 : decode cX6_change 25 = .ok (.getfield 39, 3) := by decide +kernel
theorem dX6_change_28 : decode cX6_change 28 = .ok (.aload_n 0, 1) := by decide +kernel
theorem dX6_change_29 : decode cX6_change 29 = .ok (.getfield 25, 3) := by decide +kernel
theorem dX6_change_32 : decode cX6_change 32 = .ok (.invokevirtual 146, 3) := by decide +kernel
theorem dX6_change_35 : decode cX6_change 35 = .ok (.aload_n 0, 1) := by decide +kernel
theorem dX6_change_36 : decode cX6_change 36 = .ok (.getfield 25, 3) := by decide +kernel
theorem dX6_change_39 : decode cX6_change 39 = .ok (.iload_n 1, 1) := by decide +kernel
theorem dX6_change_40 : decode cX6_change 40 = .ok (.iload_n 2, 1) := by decide +kernel
theorem dX6_change_41 : decode cX6_change 41 = .ok (.invokevirtual 175, 3) := by decide +kernel
theorem dX6_change_44 : decode cX6_change 44 = .ok (.aload_n 0, 1) := by decide +kernel
theorem dX6_change_45 : decode cX6_change 45 = .ok (.getfield 25, 3) := by decide +kernel
theorem dX6_change_48 : decode cX6_change 48 = .ok (.getfield 178, 3) := by decide +kernel
theorem dX6_change_51 : decode cX6_change 51 = .ok (.iload_n 1, 1) := by decide +kernel
theorem dX6_change_52 : decode cX6_change 52 = .ok (.iaload, 1) := by decide +kernel
theorem dX6_change_53 : decode cX6_change 53 = .ok (.ireturn, 1) := by decide +kernel
theorem dX6_lorry_0 : decode cX6_lorry 0 = .ok (.aload_n 0, 1) := by decide +kernel
theorem dX6_lorry_1 : decode cX6_lorry 1 = .ok (.invokevirtual 139, 3) := by decide +kernel
theorem dX6_lorry_4 : decode cX6_lorry 4 = .ok (.ifCond .eq 6, 3) := by decide +kernel
theorem dX6_lorry_7 : decode cX6_lorry 7 = .ok (.ldc 135, 2) := by decide +kernel
theorem dX6_lorry_9 : decode cX6_lorry 9 = .ok (.ireturn, 1) := by decide +kernel
theorem dX6_lorry_10 : decode cX6_lorry 10 = .ok (.iload_n 1, 1) := by decide +kernel
theorem dX6_lorry_11 : decode cX6_lorry 11 = .ok (.iconst 0, 1) := by decide +kernel
theorem dX6_lorry_12 : decode cX6_lorry 12 = .ok (.bipush 99, 2) := by decide +kernel
theorem dX6_lorry_14 : decode cX6_lorry 14 = .ok (.invokestatic 62, 3) := by decide +kernel
theorem dX6_lorry_17 : decode cX6_lorry 17 = .ok (.ifCond .eq 6, 3) := by decide +kernel
theorem dX6_lorry_20 : decode cX6_lorry 20 = .ok (.ldc 66, 2) := by decide +kernel
theorem dX6_lorry_22 : decode cX6_lorry 22 = .ok (.ireturn, 1) := by decide +kernel
theorem dX6_lorry_23 : decode cX6_lorry 23 = .ok (.aload_n 0, 1) := by decide +kernel
theorem dX6_lorry_24 : decode cX6_lorry 24 = .ok (.getfield 39, 3) := by decide +kernel
theorem dX6_lorry_27 : decode cX6_lorry 27 = .ok (.aload_n 0, 1) := by decide +kernel
theorem dX6_lorry_28 : decode cX6_lorry 28 = .ok (.getfield 25, 3) := by decide +kernel
theorem dX6_lorry_31 : decode cX6_lorry 31 = .ok (.invokevirtual 146, 3) := by decide +kernel
theorem dX6_lorry_34 : decode cX6_lorry 34 = .ok (.aload_n 0, 1) := by decide +kernel
theorem dX6_lorry_35 : decode cX6_lorry 35 = .ok (.getfield 25, 3) := by decide +kernel
theorem dX6_lorry_38 : decode cX6_lorry 38 = .ok (.iload_n 1, 1) := by decide +kernel
theorem dX6_lorry_39 : decode cX6_lorry 39 = .ok (.invokevirtual 181, 3) := by decide +kernel
theorem dX6_lorry_42 : decode cX6_lorry 42 = .ok (.ireturn, 1) := by decide +kernel
theorem dX6_need_0 : decode cX6_need 0 = .ok (.aload_n 0, 1) := by decide +kernel
theorem dX6_need_1 : decode cX6_need 1 = .ok (.iload_n 1, 1) := by decide +kernel
theorem dX6_need_2 : decode cX6_need 2 = .ok (.invokevirtual 155, 3) := by decide +kernel
theorem dX6_need_5 : decode cX6_need 5 = .ok (.ifCond .ne 13, 3) := by decide +kernel
theorem dX6_need_8 : decode cX6_need 8 = .ok (.iload_n 2, 1) := by decide +kernel
theorem dX6_need_9 : decode cX6_need 9 = .ok (.iconst 1, 1) := by decide +kernel
theorem dX6_need_10 : decode cX6_need 10 = .ok (.bipush 9, 2) := by decide +kernel
theorem dX6_need_12 : decode cX6_need 12 = .ok (.invokestatic 62, 3) := by decide +kernel
theorem dX6_need_15 : decode cX6_need 15 = .ok (.ifCond .eq 6, 3) := by decide +kernel
theorem dX6_need_18 : decode cX6_need 18 = .ok (.ldc 66, 2) := by decide +kernel
theorem dX6_need_20 : decode cX6_need 20 = .ok (.ireturn, 1) := by decide +kernel
theorem dX6_need_21 : decode cX6_need 21 = .ok (.aload_n 0, 1) := by decide +kernel
theorem dX6_need_22 : decode cX6_need 22 = .ok (.getfield 39, 3) := by decide +kernel
theorem dX6_need_25 : decode cX6_need 25 = .ok (.aload_n 0, 1) := by decide +kernel
theorem dX6_need_26 : decode cX6_need 26 = .ok (.getfield 25, 3) := by decide +kernel
theorem dX6_need_29 : decode cX6_need 29 = .ok (.invokevirtual 146, 3) := by decide +kernel
theorem dX6_need_32 : decode cX6_need 32 = .ok (.aload_n 0, 1) := by decide +kernel
theorem dX6_need_33 : decode cX6_need 33 = .ok (.getfield 25, 3) := by decide +kernel
theorem dX6_need_36 : decode cX6_need 36 = .ok (.getfield 184, 3) := by decide +kernel
theorem dX6_need_39 : decode cX6_need 39 = .ok (.iload_n 1, 1) := by decide +kernel
theorem dX6_need_40 : decode cX6_need 40 = .ok (.iaload, 1) := by decide +kernel
theorem dX6_need_41 : decode cX6_need 41 = .ok (.istore_n 3, 1) := by decide +kernel
theorem dX6_need_42 : decode cX6_need 42 = .ok (.aload_n 0, 1) := by decide +kernel
theorem dX6_need_43 : decode cX6_need 43 = .ok (.getfield 25, 3) := by decide +kernel
theorem dX6_need_46 : decode cX6_need 46 = .ok (.getfield 184, 3) := by decide +kernel
theorem dX6_need_49 : decode cX6_need 49 = .ok (.iload_n 1, 1) := by decide +kernel
theorem dX6_need_50 : decode cX6_need 50 = .ok (.iload_n 2, 1) := by decide +kernel
theorem dX6_need_51 : decode cX6_need 51 = .ok (.iastore, 1) := by decide +kernel
theorem dX6_need_52 : decode cX6_need 52 = .ok (.iload_n 3, 1) := by decide +kernel
theorem dX6_need_53 : decode cX6_need 53 = .ok (.ireturn, 1) := by decide +kernel
theorem dX6_child_0 : decode cX6_child 0 = .ok (.aload_n 0, 1) := by decide +kernel
theorem dX6_child_1 : decode cX6_child 1 = .ok (.iload_n 1, 1) := by decide +kernel
theorem dX6_child_2 : decode cX6_child 2 = .ok (.invokevirtual 155, 3) := by decide +kernel
theorem dX6_child_5 : decode cX6_child 5 = .ok (.ifCond .eq 6, 3) := by decide +kernel
theorem dX6_child_8 : decode cX6_child 8 = .ok (.ldc 66, 2) := by decide +kernel
theorem dX6_child_10 : decode cX6_child 10 = .ok (.ireturn, 1) := by decide +kernel
theorem dX6_child_11 : decode cX6_child 11 = .ok (.iload_n 2, 1) := by decide +kernel
theorem dX6_child_12 : decode cX6_child 12 = .ok (.tableswitch 134 0 7 #[48, 58, 68, 78, 88, 98, 108, 118], 48) := by decide +kernel
theorem dX6_child_60 : decode cX6_child 60 = .ok (.aload_n 0, 1) := by decide +kernel
theorem dX6_child_61 : decode cX6_child 61 = .ok (.getfield 25, 3) := by decide +kernel
theorem dX6_child_64 : decode cX6_child 64 = .ok (.getfield 184, 3) := by decide +kernel
theorem dX6_child_67 : decode cX6_child 67 = .ok (.iload_n 1, 1) := by decide +kernel
theorem dX6_child_68 : decode cX6_child 68 = .ok (.iaload, 1) := by decide +kernel
theorem dX6_child_69 : decode cX6_child 69 = .ok (.ireturn, 1) := by decide +kernel
theorem dX6_child_70 : decode cX6_child 70 = .ok (.aload_n 0, 1) := by decide +kernel
theorem dX6_child_71 : decode cX6_child 71 = .ok (.getfield 25, 3) := by decide +kernel
theorem dX6_child_74 : decode cX6_child 74 = .ok (.getfield 187, 3) := by decide +kernel
theorem dX6_child_77 : decode cX6_child 77 = .ok (.iload_n 1, 1) := by decide +kernel
theorem dX6_child_78 : decode cX6_child 78 = .ok (.iaload, 1) := by decide +kernel
theorem dX6_child_79 : decode cX6_child 79 = .ok (.ireturn, 1) := by decide +kernel
theorem dX6_child_80 : decode cX6_child 80 = .ok (.aload_n 0, 1) := by decide +kernel
theorem dX6_child_81 : decode cX6_child 81 = .ok (.getfield 25, 3) := by decide +kernel
theorem dX6_child_84 : decode cX6_child 84 = .ok (.getfield 190, 3) := by decide +kernel
theorem dX6_child_87 : decode cX6_child 87 = .ok (.iload_n 1, 1) := by decide +kernel
theorem dX6_child_88 : decode cX6_child 88 = .ok (.iaload, 1) := by decide +kernel
theorem dX6_child_89 : decode cX6_child 89 = .ok (.ireturn, 1) := by decide +kernel
theorem dX6_child_90 : decode cX6_child 90 = .ok (.aload_n 0, 1) := by decide +kernel
theorem dX6_child_91 : decode cX6_child 91 = .ok (.getfield 25, 3) := by decide +kernel
theorem dX6_child_94 : decode cX6_child 94 = .ok (.getfield 178, 3) := by decide +kernel
theorem dX6_child_97 : decode cX6_child 97 = .ok (.iload_n 1, 1) := by decide +kernel
theorem dX6_child_98 : decode cX6_child 98 = .ok (.iaload, 1) := by decide +kernel
theorem dX6_child_99 : decode cX6_child 99 = .ok (.ireturn, 1) := by decide +kernel
theorem dX6_child_100 : decode cX6_child 100 = .ok (.aload_n 0, 1) := by decide +kernel
theorem dX6_child_101 : decode cX6_child 101 = .ok (.getfield 25, 3) := by decide +kernel
theorem dX6_child_104 : decode cX6_child 104 = .ok (.getfield 193, 3) := by decide +kernel
theorem dX6_child_107 : decode cX6_child 107 = .ok (.iload_n 1, 1) := by decide +kernel
theorem dX6_child_108 : decode cX6_child 108 = .ok (.iaload, 1) := by decide +kernel
theorem dX6_child_109 : decode cX6_child 109 = .ok (.ireturn, 1) := by decide +kernel
theorem dX6_child_110 : decode cX6_child 110 = .ok (.aload_n 0, 1) := by decide +kernel
theorem dX6_child_111 : decode cX6_child 111 = .ok (.getfield 25, 3) := by decide +kernel
theorem dX6_child_114 : decode cX6_child 114 = .ok (.getfield 196, 3) := by decide +kernel
theorem dX6_child_117 : decode cX6_child 117 = .ok (.iload_n 1, 1) := by decide +kernel
theorem dX6_child_118 : decode cX6_child 118 = .ok (.iaload, 1) := by decide +kernel
theorem dX6_child_119 : decode cX6_child 119 = .ok (.ireturn, 1) := by decide +kernel
theorem dX6_child_120 : decode cX6_child 120 = .ok (.aload_n 0, 1) := by decide +kernel
theorem dX6_child_121 : decode cX6_child 121 = .ok (.getfield 25, 3) := by decide +kernel
theorem dX6_child_124 : decode cX6_child 124 = .ok (.getfield 199, 3) := by decide +kernel
theorem dX6_child_127 : decode cX6_child 127 = .ok (.iload_n 1, 1) := by decide +kernel
theorem dX6_child_128 : decode cX6_child 128 = .ok (.iaload, 1) := by decide +kernel
theorem dX6_child_129 : decode cX6_child 129 = .ok (.ireturn, 1) := by decide +kernel
theorem dX6_child_130 : decode cX6_child 130 = .ok (.aload_n 0, 1) := by decide +kernel
theorem dX6_child_131 : decode cX6_child 131 = .ok (.getfield 25, 3) := by decide +kernel
theorem dX6_child_134 : decode cX6_child 134 = .ok (.iload_n 1, 1) := by decide +kernel
theorem dX6_child_135 : decode cX6_child 135 = .ok (.aload_n 0, 1) := by decide +kernel
theorem dX6_child_136 : decode cX6_child 136 = .ok (.getfield 25, 3) := by decide +kernel
theorem dX6_child_139 : decode cX6_child 139 = .ok (.invokevirtual 202, 3) := by decide +kernel
theorem dX6_child_142 : decode cX6_child 142 = .ok (.invokevirtual 206, 3) := by decide +kernel
theorem dX6_child_145 : decode cX6_child 145 = .ok (.ireturn, 1) := by decide +kernel
theorem dX6_child_146 : decode cX6_child 146 = .ok (.ldc 66, 2) := by decide +kernel
theorem dX6_child_148 : decode cX6_child 148 = .ok (.ireturn, 1) := by decide +kernel
theorem dX6_stand_0 : decode cX6_stand 0 = .ok (.aload_n 0, 1) := by decide +kernel
theorem dX6_stand_1 : decode cX6_stand 1 = .ok (.invokevirtual 139, 3) := by decide +kernel
theorem dX6_stand_4 : decode cX6_stand 4 = .ok (.ifCond .eq 6, 3) := by decide +kernel
theorem dX6_stand_7 : decode cX6_stand 7 = .ok (.ldc 135, 2) := by decide +kernel
theorem dX6_stand_9 : decode cX6_stand 9 = .ok (.ireturn, 1) := by decide +kernel
theorem dX6_stand_10 : decode cX6_stand 10 = .ok (.iload_n 1, 1) := by decide +kernel
theorem dX6_stand_11 : decode cX6_stand 11 = .ok (.tableswitch 76 0 4 #[33, 42, 51, 60, 68], 33) := by decide +kernel
theorem dX6_stand_44 : decode cX6_stand 44 = .ok (.aload_n 0, 1) := by decide +kernel
theorem dX6_stand_45 : decode cX6_stand 45 = .ok (.getfield 25, 3) := by decide +kernel
theorem dX6_stand_48 : decode cX6_stand 48 = .ok (.iconst 0, 1) := by decide +kernel
theorem dX6_stand_49 : decode cX6_stand 49 = .ok (.invokevirtual 152, 3) := by decide +kernel
theorem dX6_stand_52 : decode cX6_stand 52 = .ok (.ireturn, 1) := by decide +kernel
theorem dX6_stand_53 : decode cX6_stand 53 = .ok (.aload_n 0, 1) := by decide +kernel
theorem dX6_stand_54 : decode cX6_stand 54 = .ok (.getfield 25, 3) := by decide +kernel
theorem dX6_stand_57 : decode cX6_stand 57 = .ok (.iconst 1, 1) := by decide +kernel
theorem dX6_stand_58 : decode cX6_stand 58 = .ok (.invokevirtual 152, 3) := by decide +kernel
theorem dX6_stand_61 : decode cX6_stand 61 = .ok (.ireturn, 1) := by decide +kernel
theorem dX6_stand_62 : decode cX6_stand 62 = .ok (.aload_n 0, 1) := by decide +kernel
theorem dX6_stand_63 : decode cX6_stand 63 = .ok (.getfield 25, 3) := by decide +kernel
theorem dX6_stand_66 : decode cX6_stand 66 = .ok (.iconst 2, 1) := by decide +kernel
theorem dX6_stand_67 : decode cX6_stand 67 = .ok (.invokevirtual 152, 3) := by decide +kernel
theorem dX6_stand_70 : decode cX6_stand 70 = .ok (.ireturn, 1) := by decide +kernel
theorem dX6_stand_71 : decode cX6_stand 71 = .ok (.aload_n 0, 1) := by decide +kernel
theorem dX6_stand_72 : decode cX6_stand 72 = .ok (.getfield 25, 3) := by decide +kernel
theorem dX6_stand_75 : decode cX6_stand 75 = .ok (.getfield 172, 3) := by decide +kernel
theorem dX6_stand_78 : decode cX6_stand 78 = .ok (.ireturn, 1) := by decide +kernel
theorem dX6_stand_79 : decode cX6_stand 79 = .ok (.aload_n 0, 1) := by decide +kernel
theorem dX6_stand_80 : decode cX6_stand 80 = .ok (.getfield 25, 3) := by decide +kernel
theorem dX6_stand_83 : decode cX6_stand 83 = .ok (.getfield 158, 3) := by decide +kernel
theorem dX6_stand_86 : decode cX6_stand 86 = .ok (.ireturn, 1) := by decide +kernel
theorem dX6_stand_87 : decode cX6_stand 87 = .ok (.ldc 66, 2) := by decide +kernel
theorem dX6_stand_89 : decode cX6_stand 89 = .ok (.ireturn, 1) := by decide +kernel
theorem dX6_ahead_0 : decode cX6_ahead 0 = .ok (.aload_n 0, 1) := by decide +kernel
theorem dX6_ahead_1 : decode cX6_ahead 1 = .ok (.invokevirtual 139, 3) := by decide +kernel
theorem dX6_ahead_4 : decode cX6_ahead 4 = .ok (.ifCond .eq 6, 3) := by decide +kernel
theorem dX6_ahead_7 : decode cX6_ahead 7 = .ok (.ldc 135, 2) := by decide +kernel
theorem dX6_ahead_9 : decode cX6_ahead 9 = .ok (.ireturn, 1) := by decide +kernel
theorem dX6_ahead_10 : decode cX6_ahead 10 = .ok (.iload_n 1, 1) := by decide +kernel
theorem dX6_ahead_11 : decode cX6_ahead 11 = .ok (.iconst 0, 1) := by decide +kernel
theorem dX6_ahead_12 : decode cX6_ahead 12 = .ok (.bipush 60, 2) := by decide +kernel
theorem dX6_ahead_14 : decode cX6_ahead 14 = .ok (.invokestatic 62, 3) := by decide +kernel
theorem dX6_ahead_17 : decode cX6_ahead 17 = .ok (.ifCond .ne 12, 3) := by decide +kernel
theorem dX6_ahead_20 : decode cX6_ahead 20 = .ok (.iload_n 2, 1) := by decide +kernel
theorem dX6_ahead_21 : decode cX6_ahead 21 = .ok (.iconst 0, 1) := by decide +kernel
theorem dX6_ahead_22 : decode cX6_ahead 22 = .ok (.iconst 2, 1) := by decide +kernel
theorem dX6_ahead_23 : decode cX6_ahead 23 = .ok (.invokestatic 62, 3) := by decide +kernel
theorem dX6_ahead_26 : decode cX6_ahead 26 = .ok (.ifCond .eq 6, 3) := by decide +kernel
theorem dX6_ahead_29 : decode cX6_ahead 29 = .ok (.ldc 66, 2) := by decide +kernel
theorem dX6_ahead_31 : decode cX6_ahead 31 = .ok (.ireturn, 1) := by decide +kernel
theorem dX6_ahead_32 : decode cX6_ahead 32 = .ok (.aload_n 0, 1) := by decide +kernel
theorem dX6_ahead_33 : decode cX6_ahead 33 = .ok (.getfield 46, 3) := by decide +kernel
theorem dX6_ahead_36 : decode cX6_ahead 36 = .ok (.aload_n 0, 1) := by decide +kernel
theorem dX6_ahead_37 : decode cX6_ahead 37 = .ok (.getfield 25, 3) := by decide +kernel
theorem dX6_ahead_40 : decode cX6_ahead 40 = .ok (.iload_n 1, 1) := by decide +kernel
theorem dX6_ahead_41 : decode cX6_ahead 41 = .ok (.invokevirtual 209, 3) := by decide +kernel
theorem dX6_ahead_44 : decode cX6_ahead 44 = .ok (.iload_n 2, 1) := by decide +kernel
theorem dX6_ahead_45 : decode cX6_ahead 45 = .ok (.invokevirtual 152, 3) := by decide +kernel
theorem dX6_ahead_48 : decode cX6_ahead 48 = .ok (.ireturn, 1) := by decide +kernel
theorem dX6_noise_0 : decode cX6_noise 0 = .ok (.aload_n 0, 1) := by decide +kernel
theorem dX6_noise_1 : decode cX6_noise 1 = .ok (.iload_n 1, 1) := by decide +kernel
theorem dX6_noise_2 : decode cX6_noise 2 = .ok (.invokevirtual 155, 3) := by decide +kernel
theorem dX6_noise_5 : decode cX6_noise 5 = .ok (.ifCond .ne 13, 3) := by decide +kernel
theorem dX6_noise_8 : decode cX6_noise 8 = .ok (.iload_n 2, 1) := by decide +kernel
theorem dX6_noise_9 : decode cX6_noise 9 = .ok (.iconst 0, 1) := by decide +kernel
theorem dX6_noise_10 : decode cX6_noise 10 = .ok (.bipush 60, 2) := by decide +kernel
theorem dX6_noise_12 : decode cX6_noise 12 = .ok (.invokestatic 62, 3) := by decide +kernel
theorem dX6_noise_15 : decode cX6_noise 15 = .ok (.ifCond .eq 6, 3) := by decide +kernel
theorem dX6_noise_18 : decode cX6_noise 18 = .ok (.ldc 66, 2) := by decide +kernel
theorem dX6_noise_20 : decode cX6_noise 20 = .ok (.ireturn, 1) := by decide +kernel
theorem dX6_noise_21 : decode cX6_noise 21 = .ok (.aload_n 0, 1) := by decide +kernel
theorem dX6_noise_22 : decode cX6_noise 22 = .ok (.getfield 46, 3) := by decide +kernel
theorem dX6_noise_25 : decode cX6_noise 25 = .ok (.aload_n 0, 1) := by decide +kernel
theorem dX6_noise_26 : decode cX6_noise 26 = .ok (.getfield 25, 3) := by decide +kernel
theorem dX6_noise_29 : decode cX6_noise 29 = .ok (.iload_n 2, 1) := by decide +kernel
theorem dX6_noise_30 : decode cX6_noise 30 = .ok (.invokevirtual 209, 3) := by decide +kernel
theorem dX6_noise_33 : decode cX6_noise 33 = .ok (.astore_n 3, 1) := by decide +kernel
theorem dX6_noise_34 : decode cX6_noise 34 = .ok (.aload_n 3, 1) := by decide +kernel
theorem dX6_noise_35 : decode cX6_noise 35 = .ok (.iload_n 1, 1) := by decide +kernel
theorem dX6_noise_36 : decode cX6_noise 36 = .ok (.aload_n 3, 1) := by decide +kernel
theorem dX6_noise_37 : decode cX6_noise 37 = .ok (.invokevirtual 202, 3) := by decide +kernel
theorem dX6_noise_40 : decode cX6_noise 40 = .ok (.invokevirtual 206, 3) := by decide +kernel
theorem dX6_noise_43 : decode cX6_noise 43 = .ok (.ireturn, 1) := by decide +kernel
theorem dX6_asleep_0 : decode cX6_asleep 0 = .ok (.aload_n 0, 1) := by decide +kernel
theorem dX6_asleep_1 : decode cX6_asleep 1 = .ok (.iload_n 1, 1) := by decide +kernel
end
section
/-! what stands at each place of the code -/
theorem dX6_asleep_2 : decode cX6_asleep 2 = .ok (.invokevirtual 155, 3) := by decide +kernel
theorem dX6_asleep_5 : decode cX6_asleep 5 = .ok (.ifCond .eq 8, 3) := by decide +kernel
theorem dX6_asleep_8 : decode cX6_asleep 8 = .ok (.ldc 66, 2) := by decide +kernel
theorem dX6_asleep_10 : decode cX6_asleep 10 = .ok (.goto 17, 3) := by decide +kernel
theorem dX6_asleep_13 : decode cX6_asleep 13 = .ok (.aload_n 0, 1) := by decide +kernel
theorem dX6_asleep_14 : decode cX6_asleep 14 = .ok (.getfield 46, 3) := by decide +kernel
theorem dX6_asleep_17 : decode cX6_asleep 17 = .ok (.aload_n 0, 1) := by decide +kernel
theorem dX6_asleep_18 : decode cX6_asleep 18 = .ok (.getfield 25, 3) := by decide +kernel
theorem dX6_asleep_21 : decode cX6_asleep 21 = .ok (.iconst 1, 1) := by decide +kernel
theorem dX6_asleep_22 : decode cX6_asleep 22 = .ok (.iload_n 1, 1) := by decide +kernel
theorem dX6_asleep_23 : decode cX6_asleep 23 = .ok (.ishl, 1) := by decide +kernel
theorem dX6_asleep_24 : decode cX6_asleep 24 = .ok (.invokevirtual 213, 3) := by decide +kernel
theorem dX6_asleep_27 : decode cX6_asleep 27 = .ok (.ireturn, 1) := by decide +kernel
theorem dX6_allAsleep_0 : decode cX6_allAsleep 0 = .ok (.aload_n 0, 1) := by decide +kernel
theorem dX6_allAsleep_1 : decode cX6_allAsleep 1 = .ok (.invokevirtual 139, 3) := by decide +kernel
theorem dX6_allAsleep_4 : decode cX6_allAsleep 4 = .ok (.ifCond .eq 8, 3) := by decide +kernel
theorem dX6_allAsleep_7 : decode cX6_allAsleep 7 = .ok (.ldc 135, 2) := by decide +kernel
theorem dX6_allAsleep_9 : decode cX6_allAsleep 9 = .ok (.goto 31, 3) := by decide +kernel
theorem dX6_allAsleep_12 : decode cX6_allAsleep 12 = .ok (.aload_n 0, 1) := by decide +kernel
theorem dX6_allAsleep_13 : decode cX6_allAsleep 13 = .ok (.getfield 46, 3) := by decide +kernel
theorem dX6_allAsleep_16 : decode cX6_allAsleep 16 = .ok (.aload_n 0, 1) := by decide +kernel
theorem dX6_allAsleep_17 : decode cX6_allAsleep 17 = .ok (.getfield 25, 3) := by decide +kernel
theorem dX6_allAsleep_20 : decode cX6_allAsleep 20 = .ok (.aload_n 0, 1) := by decide +kernel
theorem dX6_allAsleep_21 : decode cX6_allAsleep 21 = .ok (.getfield 25, 3) := by decide +kernel
theorem dX6_allAsleep_24 : decode cX6_allAsleep 24 = .ok (.invokevirtual 217, 3) := by decide +kernel
theorem dX6_allAsleep_27 : decode cX6_allAsleep 27 = .ok (.aload_n 0, 1) := by decide +kernel
theorem dX6_allAsleep_28 : decode cX6_allAsleep 28 = .ok (.getfield 25, 3) := by decide +kernel
theorem dX6_allAsleep_31 : decode cX6_allAsleep 31 = .ok (.getfield 172, 3) := by decide +kernel
theorem dX6_allAsleep_34 : decode cX6_allAsleep 34 = .ok (.iconst (-1), 1) := by decide +kernel
theorem dX6_allAsleep_35 : decode cX6_allAsleep 35 = .ok (.ixor, 1) := by decide +kernel
theorem dX6_allAsleep_36 : decode cX6_allAsleep 36 = .ok (.iand, 1) := by decide +kernel
theorem dX6_allAsleep_37 : decode cX6_allAsleep 37 = .ok (.invokevirtual 213, 3) := by decide +kernel
theorem dX6_allAsleep_40 : decode cX6_allAsleep 40 = .ok (.ireturn, 1) := by decide +kernel
theorem dX6_dinner_0 : decode cX6_dinner 0 = .ok (.aload_n 0, 1) := by decide +kernel
theorem dX6_dinner_1 : decode cX6_dinner 1 = .ok (.invokevirtual 139, 3) := by decide +kernel
theorem dX6_dinner_4 : decode cX6_dinner 4 = .ok (.ifCond .eq 6, 3) := by decide +kernel
theorem dX6_dinner_7 : decode cX6_dinner 7 = .ok (.ldc 135, 2) := by decide +kernel
theorem dX6_dinner_9 : decode cX6_dinner 9 = .ok (.ireturn, 1) := by decide +kernel
theorem dX6_dinner_10 : decode cX6_dinner 10 = .ok (.iload_n 1, 1) := by decide +kernel
theorem dX6_dinner_11 : decode cX6_dinner 11 = .ok (.iconst 1, 1) := by decide +kernel
theorem dX6_dinner_12 : decode cX6_dinner 12 = .ok (.bipush 60, 2) := by decide +kernel
theorem dX6_dinner_14 : decode cX6_dinner 14 = .ok (.invokestatic 62, 3) := by decide +kernel
theorem dX6_dinner_17 : decode cX6_dinner 17 = .ok (.ifCond .eq 8, 3) := by decide +kernel
theorem dX6_dinner_20 : decode cX6_dinner 20 = .ok (.ldc 66, 2) := by decide +kernel
theorem dX6_dinner_22 : decode cX6_dinner 22 = .ok (.goto 15, 3) := by decide +kernel
theorem dX6_dinner_25 : decode cX6_dinner 25 = .ok (.aload_n 0, 1) := by decide +kernel
theorem dX6_dinner_26 : decode cX6_dinner 26 = .ok (.getfield 46, 3) := by decide +kernel
theorem dX6_dinner_29 : decode cX6_dinner 29 = .ok (.aload_n 0, 1) := by decide +kernel
theorem dX6_dinner_30 : decode cX6_dinner 30 = .ok (.getfield 25, 3) := by decide +kernel
theorem dX6_dinner_33 : decode cX6_dinner 33 = .ok (.iload_n 1, 1) := by decide +kernel
theorem dX6_dinner_34 : decode cX6_dinner 34 = .ok (.invokevirtual 220, 3) := by decide +kernel
theorem dX6_dinner_37 : decode cX6_dinner 37 = .ok (.ireturn, 1) := by decide +kernel
theorem dX6_hands_0 : decode cX6_hands 0 = .ok (.aload_n 0, 1) := by decide +kernel
theorem dX6_hands_1 : decode cX6_hands 1 = .ok (.invokevirtual 139, 3) := by decide +kernel
theorem dX6_hands_4 : decode cX6_hands 4 = .ok (.ifCond .eq 6, 3) := by decide +kernel
theorem dX6_hands_7 : decode cX6_hands 7 = .ok (.ldc 135, 2) := by decide +kernel
theorem dX6_hands_9 : decode cX6_hands 9 = .ok (.ireturn, 1) := by decide +kernel
theorem dX6_hands_10 : decode cX6_hands 10 = .ok (.iload_n 1, 1) := by decide +kernel
theorem dX6_hands_11 : decode cX6_hands 11 = .ok (.iconst 1, 1) := by decide +kernel
theorem dX6_hands_12 : decode cX6_hands 12 = .ok (.bipush 30, 2) := by decide +kernel
theorem dX6_hands_14 : decode cX6_hands 14 = .ok (.invokestatic 62, 3) := by decide +kernel
theorem dX6_hands_17 : decode cX6_hands 17 = .ok (.ifCond .ne 12, 3) := by decide +kernel
theorem dX6_hands_20 : decode cX6_hands 20 = .ok (.iload_n 2, 1) := by decide +kernel
theorem dX6_hands_21 : decode cX6_hands 21 = .ok (.iconst 0, 1) := by decide +kernel
theorem dX6_hands_22 : decode cX6_hands 22 = .ok (.iconst 1, 1) := by decide +kernel
theorem dX6_hands_23 : decode cX6_hands 23 = .ok (.invokestatic 62, 3) := by decide +kernel
theorem dX6_hands_26 : decode cX6_hands 26 = .ok (.ifCond .eq 6, 3) := by decide +kernel
theorem dX6_hands_29 : decode cX6_hands 29 = .ok (.ldc 66, 2) := by decide +kernel
theorem dX6_hands_31 : decode cX6_hands 31 = .ok (.ireturn, 1) := by decide +kernel
theorem dX6_hands_32 : decode cX6_hands 32 = .ok (.aload_n 0, 1) := by decide +kernel
theorem dX6_hands_33 : decode cX6_hands 33 = .ok (.getfield 46, 3) := by decide +kernel
theorem dX6_hands_36 : decode cX6_hands 36 = .ok (.aload_n 0, 1) := by decide +kernel
theorem dX6_hands_37 : decode cX6_hands 37 = .ok (.getfield 25, 3) := by decide +kernel
theorem dX6_hands_40 : decode cX6_hands 40 = .ok (.iload_n 1, 1) := by decide +kernel
theorem dX6_hands_41 : decode cX6_hands 41 = .ok (.invokevirtual 223, 3) := by decide +kernel
theorem dX6_hands_44 : decode cX6_hands 44 = .ok (.iload_n 2, 1) := by decide +kernel
theorem dX6_hands_45 : decode cX6_hands 45 = .ok (.ifCond .ne 13, 3) := by decide +kernel
theorem dX6_hands_48 : decode cX6_hands 48 = .ok (.aload_n 0, 1) := by decide +kernel
theorem dX6_hands_49 : decode cX6_hands 49 = .ok (.getfield 46, 3) := by decide +kernel
theorem dX6_hands_52 : decode cX6_hands 52 = .ok (.getfield 227, 3) := by decide +kernel
theorem dX6_hands_55 : decode cX6_hands 55 = .ok (.goto 10, 3) := by decide +kernel
theorem dX6_hands_58 : decode cX6_hands 58 = .ok (.aload_n 0, 1) := by decide +kernel
theorem dX6_hands_59 : decode cX6_hands 59 = .ok (.getfield 46, 3) := by decide +kernel
theorem dX6_hands_62 : decode cX6_hands 62 = .ok (.getfield 230, 3) := by decide +kernel
theorem dX6_hands_65 : decode cX6_hands 65 = .ok (.ireturn, 1) := by decide +kernel
theorem dX6_outs_0 : decode cX6_outs 0 = .ok (.aload_n 0, 1) := by decide +kernel
theorem dX6_outs_1 : decode cX6_outs 1 = .ok (.invokevirtual 139, 3) := by decide +kernel
theorem dX6_outs_4 : decode cX6_outs 4 = .ok (.ifCond .eq 6, 3) := by decide +kernel
theorem dX6_outs_7 : decode cX6_outs 7 = .ok (.ldc 135, 2) := by decide +kernel
theorem dX6_outs_9 : decode cX6_outs 9 = .ok (.ireturn, 1) := by decide +kernel
theorem dX6_outs_10 : decode cX6_outs 10 = .ok (.iload_n 1, 1) := by decide +kernel
theorem dX6_outs_11 : decode cX6_outs 11 = .ok (.iconst 1, 1) := by decide +kernel
theorem dX6_outs_12 : decode cX6_outs 12 = .ok (.bipush 30, 2) := by decide +kernel
theorem dX6_outs_14 : decode cX6_outs 14 = .ok (.invokestatic 62, 3) := by decide +kernel
theorem dX6_outs_17 : decode cX6_outs 17 = .ok (.ifCond .ne 12, 3) := by decide +kernel
theorem dX6_outs_20 : decode cX6_outs 20 = .ok (.iload_n 2, 1) := by decide +kernel
theorem dX6_outs_21 : decode cX6_outs 21 = .ok (.iconst 0, 1) := by decide +kernel
theorem dX6_outs_22 : decode cX6_outs 22 = .ok (.iconst 1, 1) := by decide +kernel
theorem dX6_outs_23 : decode cX6_outs 23 = .ok (.invokestatic 62, 3) := by decide +kernel
theorem dX6_outs_26 : decode cX6_outs 26 = .ok (.ifCond .eq 6, 3) := by decide +kernel
theorem dX6_outs_29 : decode cX6_outs 29 = .ok (.ldc 66, 2) := by decide +kernel
theorem dX6_outs_31 : decode cX6_outs 31 = .ok (.ireturn, 1) := by decide +kernel
theorem dX6_outs_32 : decode cX6_outs 32 = .ok (.aload_n 0, 1) := by decide +kernel
theorem dX6_outs_33 : decode cX6_outs 33 = .ok (.getfield 46, 3) := by decide +kernel
theorem dX6_outs_36 : decode cX6_outs 36 = .ok (.aload_n 0, 1) := by decide +kernel
theorem dX6_outs_37 : decode cX6_outs 37 = .ok (.getfield 25, 3) := by decide +kernel
theorem dX6_outs_40 : decode cX6_outs 40 = .ok (.iload_n 1, 1) := by decide +kernel
theorem dX6_outs_41 : decode cX6_outs 41 = .ok (.invokevirtual 233, 3) := by decide +kernel
theorem dX6_outs_44 : decode cX6_outs 44 = .ok (.istore_n 3, 1) := by decide +kernel
theorem dX6_outs_45 : decode cX6_outs 45 = .ok (.iload_n 2, 1) := by decide +kernel
theorem dX6_outs_46 : decode cX6_outs 46 = .ok (.ifCond .ne 10, 3) := by decide +kernel
theorem dX6_outs_49 : decode cX6_outs 49 = .ok (.iload_n 3, 1) := by decide +kernel
theorem dX6_outs_50 : decode cX6_outs 50 = .ok (.invokestatic 164, 3) := by decide +kernel
theorem dX6_outs_53 : decode cX6_outs 53 = .ok (.goto 4, 3) := by decide +kernel
theorem dX6_outs_56 : decode cX6_outs 56 = .ok (.iload_n 3, 1) := by decide +kernel
theorem dX6_outs_57 : decode cX6_outs 57 = .ok (.ireturn, 1) := by decide +kernel
theorem dX6_best_0 : decode cX6_best 0 = .ok (.aload_n 0, 1) := by decide +kernel
theorem dX6_best_1 : decode cX6_best 1 = .ok (.invokevirtual 139, 3) := by decide +kernel
theorem dX6_best_4 : decode cX6_best 4 = .ok (.ifCond .eq 6, 3) := by decide +kernel
theorem dX6_best_7 : decode cX6_best 7 = .ok (.ldc 135, 2) := by decide +kernel
theorem dX6_best_9 : decode cX6_best 9 = .ok (.ireturn, 1) := by decide +kernel
theorem dX6_best_10 : decode cX6_best 10 = .ok (.iload_n 1, 1) := by decide +kernel
theorem dX6_best_11 : decode cX6_best 11 = .ok (.iconst 1, 1) := by decide +kernel
theorem dX6_best_12 : decode cX6_best 12 = .ok (.bipush 30, 2) := by decide +kernel
theorem dX6_best_14 : decode cX6_best 14 = .ok (.invokestatic 62, 3) := by decide +kernel
theorem dX6_best_17 : decode cX6_best 17 = .ok (.ifCond .ne 12, 3) := by decide +kernel
theorem dX6_best_20 : decode cX6_best 20 = .ok (.iload_n 2, 1) := by decide +kernel
theorem dX6_best_21 : decode cX6_best 21 = .ok (.iconst 0, 1) := by decide +kernel
theorem dX6_best_22 : decode cX6_best 22 = .ok (.iconst 1, 1) := by decide +kernel
theorem dX6_best_23 : decode cX6_best 23 = .ok (.invokestatic 62, 3) := by decide +kernel
theorem dX6_best_26 : decode cX6_best 26 = .ok (.ifCond .eq 6, 3) := by decide +kernel
theorem dX6_best_29 : decode cX6_best 29 = .ok (.ldc 66, 2) := by decide +kernel
theorem dX6_best_31 : decode cX6_best 31 = .ok (.ireturn, 1) := by decide +kernel
theorem dX6_best_32 : decode cX6_best 32 = .ok (.aload_n 0, 1) := by decide +kernel
theorem dX6_best_33 : decode cX6_best 33 = .ok (.getfield 25, 3) := by decide +kernel
theorem dX6_best_36 : decode cX6_best 36 = .ok (.getfield 131, 3) := by decide +kernel
theorem dX6_best_39 : decode cX6_best 39 = .ok (.iconst 2, 1) := by decide +kernel
theorem dX6_best_40 : decode cX6_best 40 = .ok (.if_icmp .ge 6, 3) := by decide +kernel
theorem dX6_best_43 : decode cX6_best 43 = .ok (.ldc 236, 2) := by decide +kernel
theorem dX6_best_45 : decode cX6_best 45 = .ok (.ireturn, 1) := by decide +kernel
theorem dX6_best_46 : decode cX6_best 46 = .ok (.aload_n 0, 1) := by decide +kernel
theorem dX6_best_47 : decode cX6_best 47 = .ok (.getfield 46, 3) := by decide +kernel
theorem dX6_best_50 : decode cX6_best 50 = .ok (.aload_n 0, 1) := by decide +kernel
theorem dX6_best_51 : decode cX6_best 51 = .ok (.getfield 25, 3) := by decide +kernel
theorem dX6_best_54 : decode cX6_best 54 = .ok (.iload_n 1, 1) := by decide +kernel
theorem dX6_best_55 : decode cX6_best 55 = .ok (.invokevirtual 237, 3) := by decide +kernel
theorem dX6_best_58 : decode cX6_best 58 = .ok (.iload_n 2, 1) := by decide +kernel
theorem dX6_best_59 : decode cX6_best 59 = .ok (.ifCond .ne 13, 3) := by decide +kernel
theorem dX6_best_62 : decode cX6_best 62 = .ok (.aload_n 0, 1) := by decide +kernel
theorem dX6_best_63 : decode cX6_best 63 = .ok (.getfield 46, 3) := by decide +kernel
theorem dX6_best_66 : decode cX6_best 66 = .ok (.getfield 230, 3) := by decide +kernel
theorem dX6_best_69 : decode cX6_best 69 = .ok (.goto 10, 3) := by decide +kernel
theorem dX6_best_72 : decode cX6_best 72 = .ok (.aload_n 0, 1) := by decide +kernel
theorem dX6_best_73 : decode cX6_best 73 = .ok (.getfield 46, 3) := by decide +kernel
theorem dX6_best_76 : decode cX6_best 76 = .ok (.getfield 227, 3) := by decide +kernel
theorem dX6_best_79 : decode cX6_best 79 = .ok (.ireturn, 1) := by decide +kernel
theorem dX6_silence_0 : decode cX6_silence 0 = .ok (.aload_n 0, 1) := by decide +kernel
theorem dX6_silence_1 : decode cX6_silence 1 = .ok (.invokevirtual 139, 3) := by decide +kernel
theorem dX6_silence_4 : decode cX6_silence 4 = .ok (.ifCond .eq 8, 3) := by decide +kernel
theorem dX6_silence_7 : decode cX6_silence 7 = .ok (.ldc 135, 2) := by decide +kernel
theorem dX6_silence_9 : decode cX6_silence 9 = .ok (.goto 10, 3) := by decide +kernel
theorem dX6_silence_12 : decode cX6_silence 12 = .ok (.aload_n 0, 1) := by decide +kernel
theorem dX6_silence_13 : decode cX6_silence 13 = .ok (.getfield 25, 3) := by decide +kernel
theorem dX6_silence_16 : decode cX6_silence 16 = .ok (.invokevirtual 240, 3) := by decide +kernel
theorem dX6_silence_19 : decode cX6_silence 19 = .ok (.ireturn, 1) := by decide +kernel
theorem dX6_wakes_0 : decode cX6_wakes 0 = .ok (.aload_n 0, 1) := by decide +kernel
theorem dX6_wakes_1 : decode cX6_wakes 1 = .ok (.iload_n 1, 1) := by decide +kernel
theorem dX6_wakes_2 : decode cX6_wakes 2 = .ok (.invokevirtual 155, 3) := by decide +kernel
theorem dX6_wakes_5 : decode cX6_wakes 5 = .ok (.ifCond .eq 6, 3) := by decide +kernel
theorem dX6_wakes_8 : decode cX6_wakes 8 = .ok (.ldc 66, 2) := by decide +kernel
theorem dX6_wakes_10 : decode cX6_wakes 10 = .ok (.ireturn, 1) := by decide +kernel
theorem dX6_wakes_11 : decode cX6_wakes 11 = .ok (.aload_n 0, 1) := by decide +kernel
theorem dX6_wakes_12 : decode cX6_wakes 12 = .ok (.getfield 25, 3) := by decide +kernel
theorem dX6_wakes_15 : decode cX6_wakes 15 = .ok (.getfield 172, 3) := by decide +kernel
theorem dX6_wakes_18 : decode cX6_wakes 18 = .ok (.iload_n 1, 1) := by decide +kernel
theorem dX6_wakes_19 : decode cX6_wakes 19 = .ok (.invokestatic 161, 3) := by decide +kernel
theorem dX6_wakes_22 : decode cX6_wakes 22 = .ok (.ifCond .eq 8, 3) := by decide +kernel
theorem dX6_wakes_25 : decode cX6_wakes 25 = .ok (.ldc 135, 2) := by decide +kernel
theorem dX6_wakes_27 : decode cX6_wakes 27 = .ok (.goto 15, 3) := by decide +kernel
theorem dX6_wakes_30 : decode cX6_wakes 30 = .ok (.aload_n 0, 1) := by decide +kernel
theorem dX6_wakes_31 : decode cX6_wakes 31 = .ok (.getfield 46, 3) := by decide +kernel
theorem dX6_wakes_34 : decode cX6_wakes 34 = .ok (.aload_n 0, 1) := by decide +kernel
theorem dX6_wakes_35 : decode cX6_wakes 35 = .ok (.getfield 25, 3) := by decide +kernel
theorem dX6_wakes_38 : decode cX6_wakes 38 = .ok (.iload_n 1, 1) := by decide +kernel
theorem dX6_wakes_39 : decode cX6_wakes 39 = .ok (.invokevirtual 243, 3) := by decide +kernel
theorem dX6_wakes_42 : decode cX6_wakes 42 = .ok (.ireturn, 1) := by decide +kernel
theorem dX6_loudest_0 : decode cX6_loudest 0 = .ok (.aload_n 0, 1) := by decide +kernel
theorem dX6_loudest_1 : decode cX6_loudest 1 = .ok (.invokevirtual 139, 3) := by decide +kernel
theorem dX6_loudest_4 : decode cX6_loudest 4 = .ok (.ifCond .eq 8, 3) := by decide +kernel
theorem dX6_loudest_7 : decode cX6_loudest 7 = .ok (.ldc 135, 2) := by decide +kernel
theorem dX6_loudest_9 : decode cX6_loudest 9 = .ok (.goto 10, 3) := by decide +kernel
theorem dX6_loudest_12 : decode cX6_loudest 12 = .ok (.aload_n 0, 1) := by decide +kernel
theorem dX6_loudest_13 : decode cX6_loudest 13 = .ok (.getfield 25, 3) := by decide +kernel
theorem dX6_loudest_16 : decode cX6_loudest 16 = .ok (.invokevirtual 246, 3) := by decide +kernel
theorem dX6_loudest_19 : decode cX6_loudest 19 = .ok (.ireturn, 1) := by decide +kernel
theorem dX6_who_0 : decode cX6_who 0 = .ok (.aload_n 0, 1) := by decide +kernel
theorem dX6_who_1 : decode cX6_who 1 = .ok (.iload_n 1, 1) := by decide +kernel
theorem dX6_who_2 : decode cX6_who 2 = .ok (.invokevirtual 155, 3) := by decide +kernel
theorem dX6_who_5 : decode cX6_who 5 = .ok (.ifCond .ne 30, 3) := by decide +kernel
theorem dX6_who_8 : decode cX6_who 8 = .ok (.iload_n 2, 1) := by decide +kernel
theorem dX6_who_9 : decode cX6_who 9 = .ok (.iconst 0, 1) := by decide +kernel
theorem dX6_who_10 : decode cX6_who 10 = .ok (.iconst 3, 1) := by decide +kernel
theorem dX6_who_11 : decode cX6_who 11 = .ok (.invokestatic 62, 3) := by decide +kernel
theorem dX6_who_14 : decode cX6_who 14 = .ok (.ifCond .ne 21, 3) := by decide +kernel
theorem dX6_who_17 : decode cX6_who 17 = .ok (.iload_n 3, 1) := by decide +kernel
theorem dX6_who_18 : decode cX6_who 18 = .ok (.invokestatic 58, 3) := by decide +kernel
theorem dX6_who_21 : decode cX6_who 21 = .ok (.ifCond .ne 14, 3) := by decide +kernel
theorem dX6_who_24 : decode cX6_who 24 = .ok (.iload 5, 2) := by decide +kernel
theorem dX6_who_26 : decode cX6_who 26 = .ok (.iconst 1, 1) := by decide +kernel
theorem dX6_who_27 : decode cX6_who 27 = .ok (.bipush 12, 2) := by decide +kernel
theorem dX6_who_29 : decode cX6_who 29 = .ok (.invokestatic 62, 3) := by decide +kernel
theorem dX6_who_32 : decode cX6_who 32 = .ok (.ifCond .eq 6, 3) := by decide +kernel
theorem dX6_who_35 : decode cX6_who 35 = .ok (.ldc 66, 2) := by decide +kernel
theorem dX6_who_37 : decode cX6_who 37 = .ok (.ireturn, 1) := by decide +kernel
theorem dX6_who_38 : decode cX6_who 38 = .ok (.aload_n 0, 1) := by decide +kernel
theorem dX6_who_39 : decode cX6_who 39 = .ok (.getfield 11, 3) := by decide +kernel
theorem dX6_who_42 : decode cX6_who 42 = .ok (.iload_n 3, 1) := by decide +kernel
theorem dX6_who_43 : decode cX6_who 43 = .ok (.aaload, 1) := by decide +kernel
theorem dX6_who_44 : decode cX6_who 44 = .ok (.iload 4, 2) := by decide +kernel
theorem dX6_who_46 : decode cX6_who 46 = .ok (.iload 5, 2) := by decide +kernel
theorem dX6_who_48 : decode cX6_who 48 = .ok (.invokevirtual 78, 3) := by decide +kernel
theorem dX6_who_51 : decode cX6_who 51 = .ok (.istore 6, 2) := by decide +kernel
theorem dX6_who_53 : decode cX6_who 53 = .ok (.iload 6, 2) := by decide +kernel
theorem dX6_who_55 : decode cX6_who 55 = .ok (.ifCond .eq 10, 3) := by decide +kernel
theorem dX6_who_58 : decode cX6_who 58 = .ok (.aload_n 0, 1) := by decide +kernel
theorem dX6_who_59 : decode cX6_who 59 = .ok (.iload 6, 2) := by decide +kernel
theorem dX6_who_61 : decode cX6_who 61 = .ok (.invokevirtual 67, 3) := by decide +kernel
theorem dX6_who_64 : decode cX6_who 64 = .ok (.ireturn, 1) := by decide +kernel
theorem dX6_who_65 : decode cX6_who 65 = .ok (.aload_n 0, 1) := by decide +kernel
theorem dX6_who_66 : decode cX6_who 66 = .ok (.getfield 46, 3) := by decide +kernel
theorem dX6_who_69 : decode cX6_who 69 = .ok (.aload_n 0, 1) := by decide +kernel
theorem dX6_who_70 : decode cX6_who 70 = .ok (.getfield 11, 3) := by decide +kernel
theorem dX6_who_73 : decode cX6_who 73 = .ok (.iload_n 3, 1) := by decide +kernel
theorem dX6_who_74 : decode cX6_who 74 = .ok (.aaload, 1) := by decide +kernel
theorem dX6_who_75 : decode cX6_who 75 = .ok (.iload 4, 2) := by decide +kernel
theorem dX6_who_77 : decode cX6_who 77 = .ok (.iload 5, 2) := by decide +kernel
theorem dX6_who_79 : decode cX6_who 79 = .ok (.invokevirtual 249, 3) := by decide +kernel
theorem dX6_who_82 : decode cX6_who 82 = .ok (.aload_n 0, 1) := by decide +kernel
theorem dX6_who_83 : decode cX6_who 83 = .ok (.aload_n 0, 1) := by decide +kernel
theorem dX6_who_84 : decode cX6_who 84 = .ok (.getfield 46, 3) := by decide +kernel
theorem dX6_who_87 : decode cX6_who 87 = .ok (.aload_n 0, 1) := by decide +kernel
theorem dX6_who_88 : decode cX6_who 88 = .ok (.getfield 25, 3) := by decide +kernel
theorem dX6_who_91 : decode cX6_who 91 = .ok (.iload_n 1, 1) := by decide +kernel
theorem dX6_who_92 : decode cX6_who 92 = .ok (.iload_n 2, 1) := by decide +kernel
theorem dX6_who_93 : decode cX6_who 93 = .ok (.invokevirtual 253, 3) := by decide +kernel
theorem dX6_who_96 : decode cX6_who 96 = .ok (.invokevirtual 75, 3) := by decide +kernel
theorem dX6_who_99 : decode cX6_who 99 = .ok (.ireturn, 1) := by decide +kernel
theorem dX6_held_0 : decode cX6_held 0 = .ok (.aload_n 0, 1) := by decide +kernel
theorem dX6_held_1 : decode cX6_held 1 = .ok (.invokevirtual 139, 3) := by decide +kernel
theorem dX6_held_4 : decode cX6_held 4 = .ok (.ifCond .eq 6, 3) := by decide +kernel
theorem dX6_held_7 : decode cX6_held 7 = .ok (.ldc 135, 2) := by decide +kernel
theorem dX6_held_9 : decode cX6_held 9 = .ok (.ireturn, 1) := by decide +kernel
theorem dX6_held_10 : decode cX6_held 10 = .ok (.iload_n 1, 1) := by decide +kernel
theorem dX6_held_11 : decode cX6_held 11 = .ok (.invokestatic 58, 3) := by decide +kernel
theorem dX6_held_14 : decode cX6_held 14 = .ok (.ifCond .ne 13, 3) := by decide +kernel
theorem dX6_held_17 : decode cX6_held 17 = .ok (.iload_n 3, 1) := by decide +kernel
theorem dX6_held_18 : decode cX6_held 18 = .ok (.iconst 1, 1) := by decide +kernel
theorem dX6_held_19 : decode cX6_held 19 = .ok (.bipush 12, 2) := by decide +kernel
theorem dX6_held_21 : decode cX6_held 21 = .ok (.invokestatic 62, 3) := by decide +kernel
theorem dX6_held_24 : decode cX6_held 24 = .ok (.ifCond .eq 6, 3) := by decide +kernel
theorem dX6_held_27 : decode cX6_held 27 = .ok (.ldc 66, 2) := by decide +kernel
theorem dX6_held_29 : decode cX6_held 29 = .ok (.ireturn, 1) := by decide +kernel
theorem dX6_held_30 : decode cX6_held 30 = .ok (.aload_n 0, 1) := by decide +kernel
theorem dX6_held_31 : decode cX6_held 31 = .ok (.getfield 11, 3) := by decide +kernel
theorem dX6_held_34 : decode cX6_held 34 = .ok (.iload_n 1, 1) := by decide +kernel
theorem dX6_held_35 : decode cX6_held 35 = .ok (.aaload, 1) := by decide +kernel
theorem dX6_held_36 : decode cX6_held 36 = .ok (.iload_n 2, 1) := by decide +kernel
theorem dX6_held_37 : decode cX6_held 37 = .ok (.iload_n 3, 1) := by decide +kernel
theorem dX6_held_38 : decode cX6_held 38 = .ok (.invokevirtual 78, 3) := by decide +kernel
theorem dX6_held_41 : decode cX6_held 41 = .ok (.istore 4, 2) := by decide +kernel
theorem dX6_held_43 : decode cX6_held 43 = .ok (.iload 4, 2) := by decide +kernel
theorem dX6_held_45 : decode cX6_held 45 = .ok (.ifCond .eq 10, 3) := by decide +kernel
theorem dX6_held_48 : decode cX6_held 48 = .ok (.aload_n 0, 1) := by decide +kernel
theorem dX6_held_49 : decode cX6_held 49 = .ok (.iload 4, 2) := by decide +kernel
theorem dX6_held_51 : decode cX6_held 51 = .ok (.invokevirtual 67, 3) := by decide +kernel
theorem dX6_held_54 : decode cX6_held 54 = .ok (.ireturn, 1) := by decide +kernel
theorem dX6_held_55 : decode cX6_held 55 = .ok (.aload_n 0, 1) := by decide +kernel
theorem dX6_held_56 : decode cX6_held 56 = .ok (.getfield 46, 3) := by decide +kernel
theorem dX6_held_59 : decode cX6_held 59 = .ok (.aload_n 0, 1) := by decide +kernel
theorem dX6_held_60 : decode cX6_held 60 = .ok (.getfield 11, 3) := by decide +kernel
theorem dX6_held_63 : decode cX6_held 63 = .ok (.iload_n 1, 1) := by decide +kernel
theorem dX6_held_64 : decode cX6_held 64 = .ok (.aaload, 1) := by decide +kernel
theorem dX6_held_65 : decode cX6_held 65 = .ok (.iload_n 2, 1) := by decide +kernel
theorem dX6_held_66 : decode cX6_held 66 = .ok (.iload_n 3, 1) := by decide +kernel
theorem dX6_held_67 : decode cX6_held 67 = .ok (.invokevirtual 249, 3) := by decide +kernel
theorem dX6_held_70 : decode cX6_held 70 = .ok (.aload_n 0, 1) := by decide +kernel
theorem dX6_held_71 : decode cX6_held 71 = .ok (.aload_n 0, 1) := by decide +kernel
theorem dX6_held_72 : decode cX6_held 72 = .ok (.getfield 46, 3) := by decide +kernel
theorem dX6_held_75 : decode cX6_held 75 = .ok (.aload_n 0, 1) := by decide +kernel
theorem dX6_held_76 : decode cX6_held 76 = .ok (.getfield 25, 3) := by decide +kernel
theorem dX6_held_79 : decode cX6_held 79 = .ok (.invokevirtual 257, 3) := by decide +kernel
theorem dX6_held_82 : decode cX6_held 82 = .ok (.invokevirtual 75, 3) := by decide +kernel
theorem dX6_held_85 : decode cX6_held 85 = .ok (.ireturn, 1) := by decide +kernel
theorem dX6_lorries_0 : decode cX6_lorries 0 = .ok (.aload_n 0, 1) := by decide +kernel
theorem dX6_lorries_1 : decode cX6_lorries 1 = .ok (.invokevirtual 139, 3) := by decide +kernel
theorem dX6_lorries_4 : decode cX6_lorries 4 = .ok (.ifCond .eq 7, 3) := by decide +kernel
theorem dX6_lorries_7 : decode cX6_lorries 7 = .ok (.ldc2_w 260, 3) := by decide +kernel
theorem dX6_lorries_10 : decode cX6_lorries 10 = .ok (.lreturn, 1) := by decide +kernel
theorem dX6_lorries_11 : decode cX6_lorries 11 = .ok (.iload_n 1, 1) := by decide +kernel
theorem dX6_lorries_12 : decode cX6_lorries 12 = .ok (.iconst 0, 1) := by decide +kernel
theorem dX6_lorries_13 : decode cX6_lorries 13 = .ok (.bipush 99, 2) := by decide +kernel
theorem dX6_lorries_15 : decode cX6_lorries 15 = .ok (.invokestatic 62, 3) := by decide +kernel
theorem dX6_lorries_18 : decode cX6_lorries 18 = .ok (.ifCond .ne 33, 3) := by decide +kernel
theorem dX6_lorries_21 : decode cX6_lorries 21 = .ok (.iload_n 2, 1) := by decide +kernel
theorem dX6_lorries_22 : decode cX6_lorries 22 = .ok (.iconst 0, 1) := by decide +kernel
theorem dX6_lorries_23 : decode cX6_lorries 23 = .ok (.bipush 8, 2) := by decide +kernel
theorem dX6_lorries_25 : decode cX6_lorries 25 = .ok (.invokestatic 62, 3) := by decide +kernel
theorem dX6_lorries_28 : decode cX6_lorries 28 = .ok (.ifCond .ne 23, 3) := by decide +kernel
theorem dX6_lorries_31 : decode cX6_lorries 31 = .ok (.iload_n 3, 1) := by decide +kernel
theorem dX6_lorries_32 : decode cX6_lorries 32 = .ok (.iconst 0, 1) := by decide +kernel
theorem dX6_lorries_33 : decode cX6_lorries 33 = .ok (.bipush 10, 2) := by decide +kernel
theorem dX6_lorries_35 : decode cX6_lorries 35 = .ok (.invokestatic 62, 3) := by decide +kernel
theorem dX6_lorries_38 : decode cX6_lorries 38 = .ok (.ifCond .ne 13, 3) := by decide +kernel
theorem dX6_lorries_41 : decode cX6_lorries 41 = .ok (.iload 4, 2) := by decide +kernel
theorem dX6_lorries_43 : decode cX6_lorries 43 = .ok (.iconst 0, 1) := by decide +kernel
theorem dX6_lorries_44 : decode cX6_lorries 44 = .ok (.iconst 1, 1) := by decide +kernel
theorem dX6_lorries_45 : decode cX6_lorries 45 = .ok (.invokestatic 62, 3) := by decide +kernel
theorem dX6_lorries_48 : decode cX6_lorries 48 = .ok (.ifCond .eq 7, 3) := by decide +kernel
theorem dX6_lorries_51 : decode cX6_lorries 51 = .ok (.ldc2_w 262, 3) := by decide +kernel
theorem dX6_lorries_54 : decode cX6_lorries 54 = .ok (.lreturn, 1) := by decide +kernel
theorem dX6_lorries_55 : decode cX6_lorries 55 = .ok (.aload_n 0, 1) := by decide +kernel
theorem dX6_lorries_56 : decode cX6_lorries 56 = .ok (.getfield 46, 3) := by decide +kernel
theorem dX6_lorries_59 : decode cX6_lorries 59 = .ok (.aload_n 0, 1) := by decide +kernel
theorem dX6_lorries_60 : decode cX6_lorries 60 = .ok (.getfield 25, 3) := by decide +kernel
theorem dX6_lorries_63 : decode cX6_lorries 63 = .ok (.iload_n 1, 1) := by decide +kernel
theorem dX6_lorries_64 : decode cX6_lorries 64 = .ok (.iload_n 2, 1) := by decide +kernel
theorem dX6_lorries_65 : decode cX6_lorries 65 = .ok (.iload_n 3, 1) := by decide +kernel
theorem dX6_lorries_66 : decode cX6_lorries 66 = .ok (.invokevirtual 264, 3) := by decide +kernel
theorem dX6_lorries_69 : decode cX6_lorries 69 = .ok (.iload 4, 2) := by decide +kernel
theorem dX6_lorries_71 : decode cX6_lorries 71 = .ok (.ifCond .ne 13, 3) := by decide +kernel
theorem dX6_lorries_74 : decode cX6_lorries 74 = .ok (.aload_n 0, 1) := by decide +kernel
theorem dX6_lorries_75 : decode cX6_lorries 75 = .ok (.getfield 46, 3) := by decide +kernel
theorem dX6_lorries_78 : decode cX6_lorries 78 = .ok (.getfield 268, 3) := by decide +kernel
theorem dX6_lorries_81 : decode cX6_lorries 81 = .ok (.goto 10, 3) := by decide +kernel
theorem dX6_lorries_84 : decode cX6_lorries 84 = .ok (.aload_n 0, 1) := by decide +kernel
theorem dX6_lorries_85 : decode cX6_lorries 85 = .ok (.getfield 46, 3) := by decide +kernel
theorem dX6_lorries_88 : decode cX6_lorries 88 = .ok (.getfield 272, 3) := by decide +kernel
theorem dX6_lorries_91 : decode cX6_lorries 91 = .ok (.lreturn, 1) := by decide +kernel
theorem dX6_drawn_0 : decode cX6_drawn 0 = .ok (.aload_n 0, 1) := by decide +kernel
theorem dX6_drawn_1 : decode cX6_drawn 1 = .ok (.invokevirtual 139, 3) := by decide +kernel
theorem dX6_drawn_4 : decode cX6_drawn 4 = .ok (.ifCond .eq 6, 3) := by decide +kernel
theorem dX6_drawn_7 : decode cX6_drawn 7 = .ok (.ldc 135, 2) := by decide +kernel
theorem dX6_drawn_9 : decode cX6_drawn 9 = .ok (.ireturn, 1) := by decide +kernel
theorem dX6_drawn_10 : decode cX6_drawn 10 = .ok (.iload_n 1, 1) := by decide +kernel
theorem dX6_drawn_11 : decode cX6_drawn 11 = .ok (.iconst 0, 1) := by decide +kernel
theorem dX6_drawn_12 : decode cX6_drawn 12 = .ok (.bipush 60, 2) := by decide +kernel
theorem dX6_drawn_14 : decode cX6_drawn 14 = .ok (.invokestatic 62, 3) := by decide +kernel
theorem dX6_drawn_17 : decode cX6_drawn 17 = .ok (.ifCond .ne 23, 3) := by decide +kernel
theorem dX6_drawn_20 : decode cX6_drawn 20 = .ok (.iload_n 2, 1) := by decide +kernel
theorem dX6_drawn_21 : decode cX6_drawn 21 = .ok (.iconst 1, 1) := by decide +kernel
theorem dX6_drawn_22 : decode cX6_drawn 22 = .ok (.ldc_w 275, 3) := by decide +kernel
theorem dX6_drawn_25 : decode cX6_drawn 25 = .ok (.invokestatic 62, 3) := by decide +kernel
theorem dX6_drawn_28 : decode cX6_drawn 28 = .ok (.ifCond .ne 12, 3) := by decide +kernel
theorem dX6_drawn_31 : decode cX6_drawn 31 = .ok (.iload_n 3, 1) := by decide +kernel
theorem dX6_drawn_32 : decode cX6_drawn 32 = .ok (.iconst 0, 1) := by decide +kernel
theorem dX6_drawn_33 : decode cX6_drawn 33 = .ok (.iconst 1, 1) := by decide +kernel
theorem dX6_drawn_34 : decode cX6_drawn 34 = .ok (.invokestatic 62, 3) := by decide +kernel
theorem dX6_drawn_37 : decode cX6_drawn 37 = .ok (.ifCond .eq 6, 3) := by decide +kernel
theorem dX6_drawn_40 : decode cX6_drawn 40 = .ok (.ldc 66, 2) := by decide +kernel
theorem dX6_drawn_42 : decode cX6_drawn 42 = .ok (.ireturn, 1) := by decide +kernel
theorem dX6_drawn_43 : decode cX6_drawn 43 = .ok (.aload_n 0, 1) := by decide +kernel
theorem dX6_drawn_44 : decode cX6_drawn 44 = .ok (.getfield 46, 3) := by decide +kernel
theorem dX6_drawn_47 : decode cX6_drawn 47 = .ok (.aload_n 0, 1) := by decide +kernel
theorem dX6_drawn_48 : decode cX6_drawn 48 = .ok (.getfield 25, 3) := by decide +kernel
theorem dX6_drawn_51 : decode cX6_drawn 51 = .ok (.iload_n 1, 1) := by decide +kernel
theorem dX6_drawn_52 : decode cX6_drawn 52 = .ok (.iload_n 2, 1) := by decide +kernel
theorem dX6_drawn_53 : decode cX6_drawn 53 = .ok (.invokevirtual 276, 3) := by decide +kernel
theorem dX6_drawn_56 : decode cX6_drawn 56 = .ok (.istore 4, 2) := by decide +kernel
theorem dX6_drawn_58 : decode cX6_drawn 58 = .ok (.iload_n 3, 1) := by decide +kernel
theorem dX6_drawn_59 : decode cX6_drawn 59 = .ok (.ifCond .ne 20, 3) := by decide +kernel
theorem dX6_drawn_62 : decode cX6_drawn 62 = .ok (.aload_n 0, 1) := by decide +kernel
theorem dX6_drawn_63 : decode cX6_drawn 63 = .ok (.getfield 46, 3) := by decide +kernel
theorem dX6_drawn_66 : decode cX6_drawn 66 = .ok (.getfield 279, 3) := by decide +kernel
theorem dX6_drawn_69 : decode cX6_drawn 69 = .ok (.iconst 2, 1) := by decide +kernel
theorem dX6_drawn_70 : decode cX6_drawn 70 = .ok (.invokevirtual 152, 3) := by decide +kernel
theorem dX6_drawn_73 : decode cX6_drawn 73 = .ok (.invokestatic 164, 3) := by decide +kernel
theorem dX6_drawn_76 : decode cX6_drawn 76 = .ok (.goto 5, 3) := by decide +kernel
theorem dX6_drawn_79 : decode cX6_drawn 79 = .ok (.iload 4, 2) := by decide +kernel
theorem dX6_drawn_81 : decode cX6_drawn 81 = .ok (.ireturn, 1) := by decide +kernel
theorem dX6_image_0 : decode cX6_image 0 = .ok (.iload_n 1, 1) := by decide +kernel
theorem dX6_image_1 : decode cX6_image 1 = .ok (.iconst 0, 1) := by decide +kernel
theorem dX6_image_2 : decode cX6_image 2 = .ok (.iconst 1, 1) := by decide +kernel
theorem dX6_image_3 : decode cX6_image 3 = .ok (.invokestatic 62, 3) := by decide +kernel
theorem dX6_image_6 : decode cX6_image 6 = .ok (.ifCond .eq 6, 3) := by decide +kernel
theorem dX6_image_9 : decode cX6_image 9 = .ok (.ldc 66, 2) := by decide +kernel
theorem dX6_image_11 : decode cX6_image 11 = .ok (.ireturn, 1) := by decide +kernel
theorem dX6_image_12 : decode cX6_image 12 = .ok (.aload_n 0, 1) := by decide +kernel
theorem dX6_image_13 : decode cX6_image 13 = .ok (.invokevirtual 139, 3) := by decide +kernel
theorem dX6_image_16 : decode cX6_image 16 = .ok (.ifCond .eq 6, 3) := by decide +kernel
theorem dX6_image_19 : decode cX6_image 19 = .ok (.ldc 135, 2) := by decide +kernel
theorem dX6_image_21 : decode cX6_image 21 = .ok (.ireturn, 1) := by decide +kernel
theorem dX6_image_22 : decode cX6_image 22 = .ok (.aload_n 0, 1) := by decide +kernel
theorem dX6_image_23 : decode cX6_image 23 = .ok (.getfield 32, 3) := by decide +kernel
theorem dX6_image_26 : decode cX6_image 26 = .ok (.iload_n 1, 1) := by decide +kernel
theorem dX6_image_27 : decode cX6_image 27 = .ok (.aaload, 1) := by decide +kernel
theorem dX6_image_28 : decode cX6_image 28 = .ok (.aload_n 0, 1) := by decide +kernel
theorem dX6_image_29 : decode cX6_image 29 = .ok (.getfield 25, 3) := by decide +kernel
theorem dX6_image_32 : decode cX6_image 32 = .ok (.invokevirtual 124, 3) := by decide +kernel
theorem dX6_image_35 : decode cX6_image 35 = .ok (.iconst 1, 1) := by decide +kernel
theorem dX6_image_36 : decode cX6_image 36 = .ok (.ireturn, 1) := by decide +kernel
theorem dX6_restore_0 : decode cX6_restore 0 = .ok (.iload_n 1, 1) := by decide +kernel
theorem dX6_restore_1 : decode cX6_restore 1 = .ok (.iconst 0, 1) := by decide +kernel
theorem dX6_restore_2 : decode cX6_restore 2 = .ok (.iconst 1, 1) := by decide +kernel
theorem dX6_restore_3 : decode cX6_restore 3 = .ok (.invokestatic 62, 3) := by decide +kernel
theorem dX6_restore_6 : decode cX6_restore 6 = .ok (.ifCond .eq 6, 3) := by decide +kernel
theorem dX6_restore_9 : decode cX6_restore 9 = .ok (.ldc 66, 2) := by decide +kernel
theorem dX6_restore_11 : decode cX6_restore 11 = .ok (.ireturn, 1) := by decide +kernel
theorem dX6_restore_12 : decode cX6_restore 12 = .ok (.aload_n 0, 1) := by decide +kernel
theorem dX6_restore_13 : decode cX6_restore 13 = .ok (.getfield 32, 3) := by decide +kernel
theorem dX6_restore_16 : decode cX6_restore 16 = .ok (.iload_n 1, 1) := by decide +kernel
theorem dX6_restore_17 : decode cX6_restore 17 = .ok (.aaload, 1) := by decide +kernel
theorem dX6_restore_18 : decode cX6_restore 18 = .ok (.getfield 131, 3) := by decide +kernel
theorem dX6_restore_21 : decode cX6_restore 21 = .ok (.ifCond .ne 6, 3) := by decide +kernel
theorem dX6_restore_24 : decode cX6_restore 24 = .ok (.ldc 135, 2) := by decide +kernel
theorem dX6_restore_26 : decode cX6_restore 26 = .ok (.ireturn, 1) := by decide +kernel
theorem dX6_restore_27 : decode cX6_restore 27 = .ok (.aload_n 0, 1) := by decide +kernel
theorem dX6_restore_28 : decode cX6_restore 28 = .ok (.getfield 25, 3) := by decide +kernel
theorem dX6_restore_31 : decode cX6_restore 31 = .ok (.aload_n 0, 1) := by decide +kernel
theorem dX6_restore_32 : decode cX6_restore 32 = .ok (.getfield 32, 3) := by decide +kernel
theorem dX6_restore_35 : decode cX6_restore 35 = .ok (.iload_n 1, 1) := by decide +kernel
theorem dX6_restore_36 : decode cX6_restore 36 = .ok (.aaload, 1) := by decide +kernel
theorem dX6_restore_37 : decode cX6_restore 37 = .ok (.invokevirtual 124, 3) := by decide +kernel
theorem dX6_restore_40 : decode cX6_restore 40 = .ok (.aload_n 0, 1) := by decide +kernel
theorem dX6_restore_41 : decode cX6_restore 41 = .ok (.getfield 39, 3) := by decide +kernel
theorem dX6_restore_44 : decode cX6_restore 44 = .ok (.invokevirtual 128, 3) := by decide +kernel
theorem dX6_restore_47 : decode cX6_restore 47 = .ok (.iconst 1, 1) := by decide +kernel
theorem dX6_restore_48 : decode cX6_restore 48 = .ok (.ireturn, 1) := by decide +kernel
theorem dX6_kind_0 : decode cX6_kind 0 = .ok (.aload_n 0, 1) := by decide +kernel
theorem dX6_kind_1 : decode cX6_kind 1 = .ok (.iload_n 1, 1) := by decide +kernel
theorem dX6_kind_2 : decode cX6_kind 2 = .ok (.invokevirtual 155, 3) := by decide +kernel
theorem dX6_kind_5 : decode cX6_kind 5 = .ok (.ifCond .eq 8, 3) := by decide +kernel
theorem dX6_kind_8 : decode cX6_kind 8 = .ok (.ldc 66, 2) := by decide +kernel
theorem dX6_kind_10 : decode cX6_kind 10 = .ok (.goto 12, 3) := by decide +kernel
theorem dX6_kind_13 : decode cX6_kind 13 = .ok (.aload_n 0, 1) := by decide +kernel
theorem dX6_kind_14 : decode cX6_kind 14 = .ok (.getfield 25, 3) := by decide +kernel
theorem dX6_kind_17 : decode cX6_kind 17 = .ok (.getfield 282, 3) := by decide +kernel
theorem dX6_kind_20 : decode cX6_kind 20 = .ok (.iload_n 1, 1) := by decide +kernel
theorem dX6_kind_21 : decode cX6_kind 21 = .ok (.iaload, 1) := by decide +kernel
theorem dX6_kind_22 : decode cX6_kind 22 = .ok (.ireturn, 1) := by decide +kernel
theorem dX6_as_0 : decode cX6_as 0 = .ok (.aload_n 0, 1) := by decide +kernel
theorem dX6_as_1 : decode cX6_as 1 = .ok (.iload_n 1, 1) := by decide +kernel
theorem dX6_as_2 : decode cX6_as 2 = .ok (.invokevirtual 155, 3) := by decide +kernel
theorem dX6_as_5 : decode cX6_as 5 = .ok (.ifCond .ne 12, 3) := by decide +kernel
theorem dX6_as_8 : decode cX6_as 8 = .ok (.iload_n 2, 1) := by decide +kernel
theorem dX6_as_9 : decode cX6_as 9 = .ok (.iconst 0, 1) := by decide +kernel
theorem dX6_as_10 : decode cX6_as 10 = .ok (.iconst 5, 1) := by decide +kernel
theorem dX6_as_11 : decode cX6_as 11 = .ok (.invokestatic 62, 3) := by decide +kernel
theorem dX6_as_14 : decode cX6_as 14 = .ok (.ifCond .eq 6, 3) := by decide +kernel
theorem dX6_as_17 : decode cX6_as 17 = .ok (.ldc 66, 2) := by decide +kernel
theorem dX6_as_19 : decode cX6_as 19 = .ok (.ireturn, 1) := by decide +kernel
theorem dX6_as_20 : decode cX6_as 20 = .ok (.aload_n 0, 1) := by decide +kernel
theorem dX6_as_21 : decode cX6_as 21 = .ok (.getfield 25, 3) := by decide +kernel
theorem dX6_as_24 : decode cX6_as 24 = .ok (.getfield 282, 3) := by decide +kernel
theorem dX6_as_27 : decode cX6_as 27 = .ok (.iload_n 1, 1) := by decide +kernel
theorem dX6_as_28 : decode cX6_as 28 = .ok (.iaload, 1) := by decide +kernel
theorem dX6_as_29 : decode cX6_as 29 = .ok (.iload_n 2, 1) := by decide +kernel
theorem dX6_as_30 : decode cX6_as 30 = .ok (.invokestatic 285, 3) := by decide +kernel
theorem dX6_as_33 : decode cX6_as 33 = .ok (.ifCond .eq 11, 3) := by decide +kernel
theorem dX6_as_36 : decode cX6_as 36 = .ok (.aload_n 0, 1) := by decide +kernel
theorem dX6_as_37 : decode cX6_as 37 = .ok (.iload_n 1, 1) := by decide +kernel
theorem dX6_as_38 : decode cX6_as 38 = .ok (.invokevirtual 75, 3) := by decide +kernel
theorem dX6_as_41 : decode cX6_as 41 = .ok (.goto 8, 3) := by decide +kernel
theorem dX6_as_44 : decode cX6_as 44 = .ok (.aload_n 0, 1) := by decide +kernel
theorem dX6_as_45 : decode cX6_as 45 = .ok (.iconst 3, 1) := by decide +kernel
theorem dX6_as_46 : decode cX6_as 46 = .ok (.invokevirtual 67, 3) := by decide +kernel
theorem dX6_as_49 : decode cX6_as 49 = .ok (.ireturn, 1) := by decide +kernel
theorem dX6_ask_0 : decode cX6_ask 0 = .ok (.aload_n 0, 1) := by decide +kernel
theorem dX6_ask_1 : decode cX6_ask 1 = .ok (.iload_n 1, 1) := by decide +kernel
theorem dX6_ask_2 : decode cX6_ask 2 = .ok (.invokevirtual 155, 3) := by decide +kernel
theorem dX6_ask_5 : decode cX6_ask 5 = .ok (.ifCond .ne 12, 3) := by decide +kernel
theorem dX6_ask_8 : decode cX6_ask 8 = .ok (.iload_n 2, 1) := by decide +kernel
theorem dX6_ask_9 : decode cX6_ask 9 = .ok (.iconst 0, 1) := by decide +kernel
theorem dX6_ask_10 : decode cX6_ask 10 = .ok (.iconst 1, 1) := by decide +kernel
theorem dX6_ask_11 : decode cX6_ask 11 = .ok (.invokestatic 62, 3) := by decide +kernel
theorem dX6_ask_14 : decode cX6_ask 14 = .ok (.ifCond .eq 6, 3) := by decide +kernel
theorem dX6_ask_17 : decode cX6_ask 17 = .ok (.ldc 66, 2) := by decide +kernel
theorem dX6_ask_19 : decode cX6_ask 19 = .ok (.ireturn, 1) := by decide +kernel
theorem dX6_ask_20 : decode cX6_ask 20 = .ok (.aload_n 0, 1) := by decide +kernel
theorem dX6_ask_21 : decode cX6_ask 21 = .ok (.getfield 53, 3) := by decide +kernel
theorem dX6_ask_24 : decode cX6_ask 24 = .ok (.aload_n 0, 1) := by decide +kernel
theorem dX6_ask_25 : decode cX6_ask 25 = .ok (.getfield 25, 3) := by decide +kernel
theorem dX6_ask_28 : decode cX6_ask 28 = .ok (.iload_n 1, 1) := by decide +kernel
theorem dX6_ask_29 : decode cX6_ask 29 = .ok (.iload_n 2, 1) := by decide +kernel
theorem dX6_ask_30 : decode cX6_ask 30 = .ok (.invokevirtual 288, 3) := by decide +kernel
theorem dX6_ask_33 : decode cX6_ask 33 = .ok (.ireturn, 1) := by decide +kernel
theorem dX6_trace_0 : decode cX6_trace 0 = .ok (.iload_n 1, 1) := by decide +kernel
theorem dX6_trace_1 : decode cX6_trace 1 = .ok (.ifCond .lt 14, 3) := by decide +kernel
theorem dX6_trace_4 : decode cX6_trace 4 = .ok (.iload_n 1, 1) := by decide +kernel
theorem dX6_trace_5 : decode cX6_trace 5 = .ok (.aload_n 0, 1) := by decide +kernel
theorem dX6_trace_6 : decode cX6_trace 6 = .ok (.getfield 53, 3) := by decide +kernel
theorem dX6_trace_9 : decode cX6_trace 9 = .ok (.getfield 291, 3) := by decide +kernel
theorem dX6_trace_12 : decode cX6_trace 12 = .ok (.if_icmp .lt 8, 3) := by decide +kernel
theorem dX6_trace_15 : decode cX6_trace 15 = .ok (.ldc 236, 2) := by decide +kernel
theorem dX6_trace_17 : decode cX6_trace 17 = .ok (.goto 12, 3) := by decide +kernel
theorem dX6_trace_20 : decode cX6_trace 20 = .ok (.aload_n 0, 1) := by decide +kernel
theorem dX6_trace_21 : decode cX6_trace 21 = .ok (.getfield 53, 3) := by decide +kernel
theorem dX6_trace_24 : decode cX6_trace 24 = .ok (.getfield 294, 3) := by decide +kernel
theorem dX6_trace_27 : decode cX6_trace 27 = .ok (.iload_n 1, 1) := by decide +kernel
theorem dX6_trace_28 : decode cX6_trace 28 = .ok (.iaload, 1) := by decide +kernel
theorem dX6_trace_29 : decode cX6_trace 29 = .ok (.ireturn, 1) := by decide +kernel
theorem dX6_count_0 : decode cX6_count 0 = .ok (.iload_n 1, 1) := by decide +kernel
theorem dX6_count_1 : decode cX6_count 1 = .ok (.tableswitch 119 0 7 #[47, 52, 60, 68, 80, 92, 103, 111], 47) := by decide +kernel
theorem dX6_count_48 : decode cX6_count 48 = .ok (.aload_n 0, 1) := by decide +kernel
theorem dX6_count_49 : decode cX6_count 49 = .ok (.invokevirtual 297, 3) := by decide +kernel
theorem dX6_count_52 : decode cX6_count 52 = .ok (.ireturn, 1) := by decide +kernel
theorem dX6_count_53 : decode cX6_count 53 = .ok (.aload_n 0, 1) := by decide +kernel
theorem dX6_count_54 : decode cX6_count 54 = .ok (.getfield 25, 3) := by decide +kernel
theorem dX6_count_57 : decode cX6_count 57 = .ok (.getfield 131, 3) := by decide +kernel
theorem dX6_count_60 : decode cX6_count 60 = .ok (.ireturn, 1) := by decide +kernel
theorem dX6_count_61 : decode cX6_count 61 = .ok (.aload_n 0, 1) := by decide +kernel
theorem dX6_count_62 : decode cX6_count 62 = .ok (.getfield 25, 3) := by decide +kernel
theorem dX6_count_65 : decode cX6_count 65 = .ok (.getfield 143, 3) := by decide +kernel
theorem dX6_count_68 : decode cX6_count 68 = .ok (.ireturn, 1) := by decide +kernel
theorem dX6_count_69 : decode cX6_count 69 = .ok (.aload_n 0, 1) := by decide +kernel
theorem dX6_count_70 : decode cX6_count 70 = .ok (.getfield 25, 3) := by decide +kernel
theorem dX6_count_73 : decode cX6_count 73 = .ok (.iconst 2, 1) := by decide +kernel
theorem dX6_count_74 : decode cX6_count 74 = .ok (.invokevirtual 152, 3) := by decide +kernel
theorem dX6_count_77 : decode cX6_count 77 = .ok (.invokestatic 164, 3) := by decide +kernel
theorem dX6_count_80 : decode cX6_count 80 = .ok (.ireturn, 1) := by decide +kernel
theorem dX6_count_81 : decode cX6_count 81 = .ok (.aload_n 0, 1) := by decide +kernel
theorem dX6_count_82 : decode cX6_count 82 = .ok (.getfield 25, 3) := by decide +kernel
theorem dX6_count_85 : decode cX6_count 85 = .ok (.iconst 1, 1) := by decide +kernel
theorem dX6_count_86 : decode cX6_count 86 = .ok (.invokevirtual 152, 3) := by decide +kernel
theorem dX6_count_89 : decode cX6_count 89 = .ok (.invokestatic 164, 3) := by decide +kernel
theorem dX6_count_92 : decode cX6_count 92 = .ok (.ireturn, 1) := by decide +kernel
theorem dX6_count_93 : decode cX6_count 93 = .ok (.aload_n 0, 1) := by decide +kernel
theorem dX6_count_94 : decode cX6_count 94 = .ok (.getfield 25, 3) := by decide +kernel
theorem dX6_count_97 : decode cX6_count 97 = .ok (.getfield 172, 3) := by decide +kernel
theorem dX6_count_100 : decode cX6_count 100 = .ok (.invokestatic 164, 3) := by decide +kernel
theorem dX6_count_103 : decode cX6_count 103 = .ok (.ireturn, 1) := by decide +kernel
theorem dX6_count_104 : decode cX6_count 104 = .ok (.aload_n 0, 1) := by decide +kernel
theorem dX6_count_105 : decode cX6_count 105 = .ok (.getfield 39, 3) := by decide +kernel
theorem dX6_count_108 : decode cX6_count 108 = .ok (.getfield 134, 3) := by decide +kernel
theorem dX6_count_111 : decode cX6_count 111 = .ok (.ireturn, 1) := by decide +kernel
theorem dX6_count_112 : decode cX6_count 112 = .ok (.aload_n 0, 1) := by decide +kernel
theorem dX6_count_113 : decode cX6_count 113 = .ok (.getfield 18, 3) := by decide +kernel
theorem dX6_count_116 : decode cX6_count 116 = .ok (.getfield 106, 3) := by decide +kernel
theorem dX6_count_119 : decode cX6_count 119 = .ok (.ireturn, 1) := by decide +kernel
theorem dX6_count_120 : decode cX6_count 120 = .ok (.ldc 66, 2) := by decide +kernel
theorem dX6_count_122 : decode cX6_count 122 = .ok (.ireturn, 1) := by decide +kernel
theorem dX6_status_0 : decode cX6_status 0 = .ok (.aload_n 0, 1) := by decide +kernel
theorem dX6_status_1 : decode cX6_status 1 = .ok (.getfield 300, 3) := by decide +kernel
theorem dX6_status_4 : decode cX6_status 4 = .ok (.ireturn, 1) := by decide +kernel
theorem dX6_found_0 : decode cX6_found 0 = .ok (.aload_n 0, 1) := by decide +kernel
theorem dX6_found_1 : decode cX6_found 1 = .ok (.iload_n 1, 1) := by decide +kernel
theorem dX6_found_2 : decode cX6_found 2 = .ok (.putfield 300, 3) := by decide +kernel
theorem dX6_found_5 : decode cX6_found 5 = .ok (.ldc_w 303, 3) := by decide +kernel
theorem dX6_found_8 : decode cX6_found 8 = .ok (.iload_n 1, 1) := by decide +kernel
theorem dX6_found_9 : decode cX6_found 9 = .ok (.isub, 1) := by decide +kernel
theorem dX6_found_10 : decode cX6_found 10 = .ok (.ireturn, 1) := by decide +kernel
theorem dX6_foundNothing_0 : decode cX6_foundNothing 0 = .ok (.aload_n 0, 1) := by decide +kernel
theorem dX6_foundNothing_1 : decode cX6_foundNothing 1 = .ok (.iconst 0, 1) := by decide +kernel
theorem dX6_foundNothing_2 : decode cX6_foundNothing 2 = .ok (.putfield 300, 3) := by decide +kernel
theorem dX6_foundNothing_5 : decode cX6_foundNothing 5 = .ok (.iload_n 1, 1) := by decide +kernel
theorem dX6_foundNothing_6 : decode cX6_foundNothing 6 = .ok (.ireturn, 1) := by decide +kernel
theorem dX6_noRoom_0 : decode cX6_noRoom 0 = .ok (.aload_n 0, 1) := by decide +kernel
theorem dX6_noRoom_1 : decode cX6_noRoom 1 = .ok (.getfield 25, 3) := by decide +kernel
theorem dX6_noRoom_4 : decode cX6_noRoom 4 = .ok (.getfield 131, 3) := by decide +kernel
theorem dX6_noRoom_7 : decode cX6_noRoom 7 = .ok (.ifCond .ne 7, 3) := by decide +kernel
theorem dX6_noRoom_10 : decode cX6_noRoom 10 = .ok (.iconst 1, 1) := by decide +kernel
theorem dX6_noRoom_11 : decode cX6_noRoom 11 = .ok (.goto 4, 3) := by decide +kernel
theorem dX6_noRoom_14 : decode cX6_noRoom 14 = .ok (.iconst 0, 1) := by decide +kernel
theorem dX6_noRoom_15 : decode cX6_noRoom 15 = .ok (.ireturn, 1) := by decide +kernel
theorem dX6_noChild_0 : decode cX6_noChild 0 = .ok (.iload_n 1, 1) := by decide +kernel
theorem dX6_noChild_1 : decode cX6_noChild 1 = .ok (.ifCond .lt 14, 3) := by decide +kernel
theorem dX6_noChild_4 : decode cX6_noChild 4 = .ok (.iload_n 1, 1) := by decide +kernel
theorem dX6_noChild_5 : decode cX6_noChild 5 = .ok (.aload_n 0, 1) := by decide +kernel
theorem dX6_noChild_6 : decode cX6_noChild 6 = .ok (.getfield 25, 3) := by decide +kernel
theorem dX6_noChild_9 : decode cX6_noChild 9 = .ok (.getfield 131, 3) := by decide +kernel
theorem dX6_noChild_12 : decode cX6_noChild 12 = .ok (.if_icmp .lt 7, 3) := by decide +kernel
theorem dX6_noChild_15 : decode cX6_noChild 15 = .ok (.iconst 1, 1) := by decide +kernel
theorem dX6_noChild_16 : decode cX6_noChild 16 = .ok (.goto 4, 3) := by decide +kernel
theorem dX6_noChild_19 : decode cX6_noChild 19 = .ok (.iconst 0, 1) := by decide +kernel
theorem dX6_noChild_20 : decode cX6_noChild 20 = .ok (.ireturn, 1) := by decide +kernel
theorem dX6_presentRows_0 : decode cX6_presentRows 0 = .ok (.iconst 0, 1) := by decide +kernel
theorem dX6_presentRows_1 : decode cX6_presentRows 1 = .ok (.istore_n 1, 1) := by decide +kernel
theorem dX6_presentRows_2 : decode cX6_presentRows 2 = .ok (.iconst 0, 1) := by decide +kernel
theorem dX6_presentRows_3 : decode cX6_presentRows 3 = .ok (.istore_n 2, 1) := by decide +kernel
theorem dX6_presentRows_4 : decode cX6_presentRows 4 = .ok (.iload_n 2, 1) := by decide +kernel
theorem dX6_presentRows_5 : decode cX6_presentRows 5 = .ok (.bipush 8, 2) := by decide +kernel
theorem dX6_presentRows_7 : decode cX6_presentRows 7 = .ok (.if_icmp .ge 25, 3) := by decide +kernel
theorem dX6_presentRows_10 : decode cX6_presentRows 10 = .ok (.aload_n 0, 1) := by decide +kernel
theorem dX6_presentRows_11 : decode cX6_presentRows 11 = .ok (.getfield 11, 3) := by decide +kernel
theorem dX6_presentRows_14 : decode cX6_presentRows 14 = .ok (.iload_n 2, 1) := by decide +kernel
theorem dX6_presentRows_15 : decode cX6_presentRows 15 = .ok (.aaload, 1) := by decide +kernel
theorem dX6_presentRows_16 : decode cX6_presentRows 16 = .ok (.getfield 89, 3) := by decide +kernel
theorem dX6_presentRows_19 : decode cX6_presentRows 19 = .ok (.iconst (-1), 1) := by decide +kernel
theorem dX6_presentRows_20 : decode cX6_presentRows 20 = .ok (.if_icmp .eq 6, 3) := by decide +kernel
theorem dX6_presentRows_23 : decode cX6_presentRows 23 = .ok (.iinc 1 1, 3) := by decide +kernel
theorem dX6_presentRows_26 : decode cX6_presentRows 26 = .ok (.iinc 2 1, 3) := by decide +kernel
theorem dX6_presentRows_29 : decode cX6_presentRows 29 = .ok (.goto (-25), 3) := by decide +kernel
theorem dX6_presentRows_32 : decode cX6_presentRows 32 = .ok (.iload_n 1, 1) := by decide +kernel
theorem dX6_presentRows_33 : decode cX6_presentRows 33 = .ok (.ireturn, 1) := by decide +kernel
theorem dX6_noRow_0 : decode cX6_noRow 0 = .ok (.iload_n 0, 1) := by decide +kernel
theorem dX6_noRow_1 : decode cX6_noRow 1 = .ok (.ifCond .lt 9, 3) := by decide +kernel
theorem dX6_noRow_4 : decode cX6_noRow 4 = .ok (.iload_n 0, 1) := by decide +kernel
theorem dX6_noRow_5 : decode cX6_noRow 5 = .ok (.bipush 8, 2) := by decide +kernel
theorem dX6_noRow_7 : decode cX6_noRow 7 = .ok (.if_icmp .lt 7, 3) := by decide +kernel
theorem dX6_noRow_10 : decode cX6_noRow 10 = .ok (.iconst 1, 1) := by decide +kernel
theorem dX6_noRow_11 : decode cX6_noRow 11 = .ok (.goto 4, 3) := by decide +kernel
theorem dX6_noRow_14 : decode cX6_noRow 14 = .ok (.iconst 0, 1) := by decide +kernel
theorem dX6_noRow_15 : decode cX6_noRow 15 = .ok (.ireturn, 1) := by decide +kernel
theorem dX6_beyond_0 : decode cX6_beyond 0 = .ok (.iload_n 0, 1) := by decide +kernel
theorem dX6_beyond_1 : decode cX6_beyond 1 = .ok (.iload_n 1, 1) := by decide +kernel
theorem dX6_beyond_2 : decode cX6_beyond 2 = .ok (.if_icmp .lt 8, 3) := by decide +kernel
theorem dX6_beyond_5 : decode cX6_beyond 5 = .ok (.iload_n 0, 1) := by decide +kernel
theorem dX6_beyond_6 : decode cX6_beyond 6 = .ok (.iload_n 2, 1) := by decide +kernel
theorem dX6_beyond_7 : decode cX6_beyond 7 = .ok (.if_icmp .le 7, 3) := by decide +kernel
theorem dX6_beyond_10 : decode cX6_beyond 10 = .ok (.iconst 1, 1) := by decide +kernel
theorem dX6_beyond_11 : decode cX6_beyond 11 = .ok (.goto 4, 3) := by decide +kernel
theorem dX6_beyond_14 : decode cX6_beyond 14 = .ok (.iconst 0, 1) := by decide +kernel
theorem dX6_beyond_15 : decode cX6_beyond 15 = .ok (.ireturn, 1) := by decide +kernel
theorem dX6_has_0 : decode cX6_has 0 = .ok (.iload_n 0, 1) := by decide +kernel
theorem dX6_has_1 : decode cX6_has 1 = .ok (.iload_n 1, 1) := by decide +kernel
theorem dX6_has_2 : decode cX6_has 2 = .ok (.ishr, 1) := by decide +kernel
theorem dX6_has_3 : decode cX6_has 3 = .ok (.iconst 1, 1) := by decide +kernel
theorem dX6_has_4 : decode cX6_has 4 = .ok (.iand, 1) := by decide +kernel
theorem dX6_has_5 : decode cX6_has 5 = .ok (.iconst 1, 1) := by decide +kernel
theorem dX6_has_6 : decode cX6_has 6 = .ok (.if_icmp .ne 7, 3) := by decide +kernel
theorem dX6_has_9 : decode cX6_has 9 = .ok (.iconst 1, 1) := by decide +kernel
theorem dX6_has_10 : decode cX6_has 10 = .ok (.goto 4, 3) := by decide +kernel
theorem dX6_has_13 : decode cX6_has 13 = .ok (.iconst 0, 1) := by decide +kernel
theorem dX6_has_14 : decode cX6_has 14 = .ok (.ireturn, 1) := by decide +kernel
theorem dX6_isOne_0 : decode cX6_isOne 0 = .ok (.iload_n 0, 1) := by decide +kernel
theorem dX6_isOne_1 : decode cX6_isOne 1 = .ok (.istore_n 2, 1) := by decide +kernel
theorem dX6_isOne_2 : decode cX6_isOne 2 = .ok (.iconst 0, 1) := by decide +kernel
theorem dX6_isOne_3 : decode cX6_isOne 3 = .ok (.istore_n 3, 1) := by decide +kernel
theorem dX6_isOne_4 : decode cX6_isOne 4 = .ok (.iload_n 3, 1) := by decide +kernel
theorem dX6_isOne_5 : decode cX6_isOne 5 = .ok (.getstatic 304, 3) := by decide +kernel
theorem dX6_isOne_8 : decode cX6_isOne 8 = .ok (.arraylength, 1) := by decide +kernel
theorem dX6_isOne_9 : decode cX6_isOne 9 = .ok (.if_icmp .ge 34, 3) := by decide +kernel
theorem dX6_isOne_12 : decode cX6_isOne 12 = .ok (.iload_n 2, 1) := by decide +kernel
theorem dX6_isOne_13 : decode cX6_isOne 13 = .ok (.ifCond .lt 30, 3) := by decide +kernel
theorem dX6_isOne_16 : decode cX6_isOne 16 = .ok (.iload_n 2, 1) := by decide +kernel
theorem dX6_isOne_17 : decode cX6_isOne 17 = .ok (.getstatic 304, 3) := by decide +kernel
theorem dX6_isOne_20 : decode cX6_isOne 20 = .ok (.arraylength, 1) := by decide +kernel
theorem dX6_isOne_21 : decode cX6_isOne 21 = .ok (.if_icmp .ge 22, 3) := by decide +kernel
theorem dX6_isOne_24 : decode cX6_isOne 24 = .ok (.iload_n 2, 1) := by decide +kernel
theorem dX6_isOne_25 : decode cX6_isOne 25 = .ok (.iload_n 1, 1) := by decide +kernel
theorem dX6_isOne_26 : decode cX6_isOne 26 = .ok (.if_icmp .ne 5, 3) := by decide +kernel
theorem dX6_isOne_29 : decode cX6_isOne 29 = .ok (.iconst 1, 1) := by decide +kernel
theorem dX6_isOne_30 : decode cX6_isOne 30 = .ok (.ireturn, 1) := by decide +kernel
theorem dX6_isOne_31 : decode cX6_isOne 31 = .ok (.getstatic 304, 3) := by decide +kernel
theorem dX6_isOne_34 : decode cX6_isOne 34 = .ok (.iload_n 2, 1) := by decide +kernel
theorem dX6_isOne_35 : decode cX6_isOne 35 = .ok (.iaload, 1) := by decide +kernel
theorem dX6_isOne_36 : decode cX6_isOne 36 = .ok (.istore_n 2, 1) := by decide +kernel
theorem dX6_isOne_37 : decode cX6_isOne 37 = .ok (.iinc 3 1, 3) := by decide +kernel
theorem dX6_isOne_40 : decode cX6_isOne 40 = .ok (.goto (-36), 3) := by decide +kernel
theorem dX6_isOne_43 : decode cX6_isOne 43 = .ok (.iconst 0, 1) := by decide +kernel
theorem dX6_isOne_44 : decode cX6_isOne 44 = .ok (.ireturn, 1) := by decide +kernel
end
section
/-! what stands at each place of the code -/
theorem dX7_init_0 : decode cX7_init 0 = .ok (.aload_n 0, 1) := by decide +kernel
theorem dX7_init_1 : decode cX7_init 1 = .ok (.invokespecial 1, 3) := by decide +kernel
theorem dX7_init_4 : decode cX7_init 4 = .ok (.aload_n 0, 1) := by decide +kernel
theorem dX7_init_5 : decode cX7_init 5 = .ok (.sipush 252, 3) := by decide +kernel
theorem dX7_init_8 : decode cX7_init 8 = .ok (.newarray .int, 2) := by decide +kernel
theorem dX7_init_10 : decode cX7_init 10 = .ok (.putfield 7, 3) := by decide +kernel
theorem dX7_init_13 : decode cX7_init 13 = .ok (.aload_n 0, 1) := by decide +kernel
theorem dX7_init_14 : decode cX7_init 14 = .ok (.iconst 2, 1) := by decide +kernel
theorem dX7_init_15 : decode cX7_init 15 = .ok (.newarray .boolean, 2) := by decide +kernel
theorem dX7_init_17 : decode cX7_init 17 = .ok (.putfield 13, 3) := by decide +kernel
theorem dX7_init_20 : decode cX7_init 20 = .ok (.aload_n 0, 1) := by decide +kernel
theorem dX7_init_21 : decode cX7_init 21 = .ok (.sipush 912, 3) := by decide +kernel
theorem dX7_init_24 : decode cX7_init 24 = .ok (.newarray .int, 2) := by decide +kernel
theorem dX7_init_26 : decode cX7_init 26 = .ok (.putfield 17, 3) := by decide +kernel
theorem dX7_init_29 : decode cX7_init 29 = .ok (.aload_n 0, 1) := by decide +kernel
theorem dX7_init_30 : decode cX7_init 30 = .ok (.sipush 320, 3) := by decide +kernel
theorem dX7_init_33 : decode cX7_init 33 = .ok (.newarray .int, 2) := by decide +kernel
theorem dX7_init_35 : decode cX7_init 35 = .ok (.putfield 20, 3) := by decide +kernel
theorem dX7_init_38 : decode cX7_init 38 = .ok (.aload_n 0, 1) := by decide +kernel
theorem dX7_init_39 : decode cX7_init 39 = .ok (.bipush 8, 2) := by decide +kernel
theorem dX7_init_41 : decode cX7_init 41 = .ok (.newarray .int, 2) := by decide +kernel
theorem dX7_init_43 : decode cX7_init 43 = .ok (.putfield 23, 3) := by decide +kernel
theorem dX7_init_46 : decode cX7_init 46 = .ok (.aload_n 0, 1) := by decide +kernel
theorem dX7_init_47 : decode cX7_init 47 = .ok (.bipush 8, 2) := by decide +kernel
theorem dX7_init_49 : decode cX7_init 49 = .ok (.newarray .int, 2) := by decide +kernel
theorem dX7_init_51 : decode cX7_init 51 = .ok (.putfield 26, 3) := by decide +kernel
theorem dX7_init_54 : decode cX7_init 54 = .ok (.aload_n 0, 1) := by decide +kernel
theorem dX7_init_55 : decode cX7_init 55 = .ok (.bipush 120, 2) := by decide +kernel
theorem dX7_init_57 : decode cX7_init 57 = .ok (.newarray .int, 2) := by decide +kernel
theorem dX7_init_59 : decode cX7_init 59 = .ok (.putfield 29, 3) := by decide +kernel
theorem dX7_init_62 : decode cX7_init 62 = .ok (.aload_n 0, 1) := by decide +kernel
theorem dX7_init_63 : decode cX7_init 63 = .ok (.bipush 16, 2) := by decide +kernel
theorem dX7_init_65 : decode cX7_init 65 = .ok (.newarray .int, 2) := by decide +kernel
theorem dX7_init_67 : decode cX7_init 67 = .ok (.putfield 32, 3) := by decide +kernel
theorem dX7_init_70 : decode cX7_init 70 = .ok (.aload_n 0, 1) := by decide +kernel
theorem dX7_init_71 : decode cX7_init 71 = .ok (.bipush 40, 2) := by decide +kernel
theorem dX7_init_73 : decode cX7_init 73 = .ok (.newarray .int, 2) := by decide +kernel
theorem dX7_init_75 : decode cX7_init 75 = .ok (.putfield 35, 3) := by decide +kernel
theorem dX7_init_78 : decode cX7_init 78 = .ok (.aload_n 0, 1) := by decide +kernel
theorem dX7_init_79 : decode cX7_init 79 = .ok (.bipush 7, 2) := by decide +kernel
theorem dX7_init_81 : decode cX7_init 81 = .ok (.newarray .boolean, 2) := by decide +kernel
theorem dX7_init_83 : decode cX7_init 83 = .ok (.putfield 38, 3) := by decide +kernel
theorem dX7_init_86 : decode cX7_init 86 = .ok (.iconst 0, 1) := by decide +kernel
theorem dX7_init_87 : decode cX7_init 87 = .ok (.istore_n 1, 1) := by decide +kernel
theorem dX7_init_88 : decode cX7_init 88 = .ok (.iload_n 1, 1) := by decide +kernel
theorem dX7_init_89 : decode cX7_init 89 = .ok (.bipush 8, 2) := by decide +kernel
theorem dX7_init_91 : decode cX7_init 91 = .ok (.if_icmp .ge 16, 3) := by decide +kernel
theorem dX7_init_94 : decode cX7_init 94 = .ok (.aload_n 0, 1) := by decide +kernel
theorem dX7_init_95 : decode cX7_init 95 = .ok (.getfield 23, 3) := by decide +kernel
theorem dX7_init_98 : decode cX7_init 98 = .ok (.iload_n 1, 1) := by decide +kernel
theorem dX7_init_99 : decode cX7_init 99 = .ok (.iconst (-1), 1) := by decide +kernel
theorem dX7_init_100 : decode cX7_init 100 = .ok (.iastore, 1) := by decide +kernel
theorem dX7_init_101 : decode cX7_init 101 = .ok (.iinc 1 1, 3) := by decide +kernel
theorem dX7_init_104 : decode cX7_init 104 = .ok (.goto (-16), 3) := by decide +kernel
theorem dX7_init_107 : decode cX7_init 107 = .ok (.return_, 1) := by decide +kernel
theorem dX7_in_0 : decode cX7_in 0 = .ok (.lload_n 0, 1) := by decide +kernel
theorem dX7_in_1 : decode cX7_in 1 = .ok (.lload_n 2, 1) := by decide +kernel
theorem dX7_in_2 : decode cX7_in 2 = .ok (.lcmp, 1) := by decide +kernel
theorem dX7_in_3 : decode cX7_in 3 = .ok (.ifCond .lt 14, 3) := by decide +kernel
theorem dX7_in_6 : decode cX7_in 6 = .ok (.lload_n 0, 1) := by decide +kernel
theorem dX7_in_7 : decode cX7_in 7 = .ok (.lload 4, 2) := by decide +kernel
theorem dX7_in_9 : decode cX7_in 9 = .ok (.lcmp, 1) := by decide +kernel
theorem dX7_in_10 : decode cX7_in 10 = .ok (.ifCond .gt 7, 3) := by decide +kernel
theorem dX7_in_13 : decode cX7_in 13 = .ok (.iconst 1, 1) := by decide +kernel
theorem dX7_in_14 : decode cX7_in 14 = .ok (.goto 4, 3) := by decide +kernel
theorem dX7_in_17 : decode cX7_in 17 = .ok (.iconst 0, 1) := by decide +kernel
theorem dX7_in_18 : decode cX7_in 18 = .ok (.ireturn, 1) := by decide +kernel
theorem dX7_has_0 : decode cX7_has 0 = .ok (.iload_n 0, 1) := by decide +kernel
theorem dX7_has_1 : decode cX7_has 1 = .ok (.iload_n 1, 1) := by decide +kernel
theorem dX7_has_2 : decode cX7_has 2 = .ok (.ishr, 1) := by decide +kernel
theorem dX7_has_3 : decode cX7_has 3 = .ok (.iconst 1, 1) := by decide +kernel
theorem dX7_has_4 : decode cX7_has 4 = .ok (.iand, 1) := by decide +kernel
theorem dX7_has_5 : decode cX7_has 5 = .ok (.iconst 1, 1) := by decide +kernel
theorem dX7_has_6 : decode cX7_has 6 = .ok (.if_icmp .ne 7, 3) := by decide +kernel
theorem dX7_has_9 : decode cX7_has 9 = .ok (.iconst 1, 1) := by decide +kernel
theorem dX7_has_10 : decode cX7_has 10 = .ok (.goto 4, 3) := by decide +kernel
theorem dX7_has_13 : decode cX7_has 13 = .ok (.iconst 0, 1) := by decide +kernel
theorem dX7_has_14 : decode cX7_has 14 = .ok (.ireturn, 1) := by decide +kernel
theorem dX7_ones_0 : decode cX7_ones 0 = .ok (.iconst 0, 1) := by decide +kernel
theorem dX7_ones_1 : decode cX7_ones 1 = .ok (.istore_n 1, 1) := by decide +kernel
theorem dX7_ones_2 : decode cX7_ones 2 = .ok (.iconst 0, 1) := by decide +kernel
theorem dX7_ones_3 : decode cX7_ones 3 = .ok (.istore_n 2, 1) := by decide +kernel
theorem dX7_ones_4 : decode cX7_ones 4 = .ok (.iload_n 2, 1) := by decide +kernel
theorem dX7_ones_5 : decode cX7_ones 5 = .ok (.bipush 7, 2) := by decide +kernel
theorem dX7_ones_7 : decode cX7_ones 7 = .ok (.if_icmp .ge 17, 3) := by decide +kernel
theorem dX7_ones_10 : decode cX7_ones 10 = .ok (.iload_n 1, 1) := by decide +kernel
theorem dX7_ones_11 : decode cX7_ones 11 = .ok (.iload_n 0, 1) := by decide +kernel
theorem dX7_ones_12 : decode cX7_ones 12 = .ok (.iload_n 2, 1) := by decide +kernel
theorem dX7_ones_13 : decode cX7_ones 13 = .ok (.ishr, 1) := by decide +kernel
theorem dX7_ones_14 : decode cX7_ones 14 = .ok (.iconst 1, 1) := by decide +kernel
theorem dX7_ones_15 : decode cX7_ones 15 = .ok (.iand, 1) := by decide +kernel
theorem dX7_ones_16 : decode cX7_ones 16 = .ok (.iadd, 1) := by decide +kernel
theorem dX7_ones_17 : decode cX7_ones 17 = .ok (.istore_n 1, 1) := by decide +kernel
theorem dX7_ones_18 : decode cX7_ones 18 = .ok (.iinc 2 1, 3) := by decide +kernel
theorem dX7_ones_21 : decode cX7_ones 21 = .ok (.goto (-17), 3) := by decide +kernel
theorem dX7_ones_24 : decode cX7_ones 24 = .ok (.iload_n 1, 1) := by decide +kernel
theorem dX7_ones_25 : decode cX7_ones 25 = .ok (.ireturn, 1) := by decide +kernel
theorem dX7_found_0 : decode cX7_found 0 = .ok (.aload_n 0, 1) := by decide +kernel
theorem dX7_found_1 : decode cX7_found 1 = .ok (.iload_n 1, 1) := by decide +kernel
theorem dX7_found_2 : decode cX7_found 2 = .ok (.putfield 41, 3) := by decide +kernel
theorem dX7_found_5 : decode cX7_found 5 = .ok (.ldc 45, 2) := by decide +kernel
theorem dX7_found_7 : decode cX7_found 7 = .ok (.iload_n 1, 1) := by decide +kernel
theorem dX7_found_8 : decode cX7_found 8 = .ok (.isub, 1) := by decide +kernel
theorem dX7_found_9 : decode cX7_found 9 = .ok (.ireturn, 1) := by decide +kernel
theorem dX7_good_0 : decode cX7_good 0 = .ok (.aload_n 0, 1) := by decide +kernel
theorem dX7_good_1 : decode cX7_good 1 = .ok (.iconst 0, 1) := by decide +kernel
theorem dX7_good_2 : decode cX7_good 2 = .ok (.putfield 41, 3) := by decide +kernel
theorem dX7_good_5 : decode cX7_good 5 = .ok (.iload_n 1, 1) := by decide +kernel
theorem dX7_good_6 : decode cX7_good 6 = .ok (.ireturn, 1) := by decide +kernel
theorem dX7_isRow_0 : decode cX7_isRow 0 = .ok (.iload_n 0, 1) := by decide +kernel
theorem dX7_isRow_1 : decode cX7_isRow 1 = .ok (.i2l, 1) := by decide +kernel
theorem dX7_isRow_2 : decode cX7_isRow 2 = .ok (.lconst 0, 1) := by decide +kernel
theorem dX7_isRow_3 : decode cX7_isRow 3 = .ok (.ldc2_w 46, 3) := by decide +kernel
theorem dX7_isRow_6 : decode cX7_isRow 6 = .ok (.invokestatic 48, 3) := by decide +kernel
theorem dX7_isRow_9 : decode cX7_isRow 9 = .ok (.ireturn, 1) := by decide +kernel
theorem dX7_row_0 : decode cX7_row 0 = .ok (.iload_n 1, 1) := by decide +kernel
theorem dX7_row_1 : decode cX7_row 1 = .ok (.invokestatic 52, 3) := by decide +kernel
theorem dX7_row_4 : decode cX7_row 4 = .ok (.ifCond .eq 21, 3) := by decide +kernel
theorem dX7_row_7 : decode cX7_row 7 = .ok (.iload_n 2, 1) := by decide +kernel
theorem dX7_row_8 : decode cX7_row 8 = .ok (.i2l, 1) := by decide +kernel
theorem dX7_row_9 : decode cX7_row 9 = .ok (.lconst 0, 1) := by decide +kernel
theorem dX7_row_10 : decode cX7_row 10 = .ok (.ldc2_w 56, 3) := by decide +kernel
theorem dX7_row_13 : decode cX7_row 13 = .ok (.invokestatic 48, 3) := by decide +kernel
theorem dX7_row_16 : decode cX7_row 16 = .ok (.ifCond .eq 9, 3) := by decide +kernel
theorem dX7_row_19 : decode cX7_row 19 = .ok (.iload_n 3, 1) := by decide +kernel
theorem dX7_row_20 : decode cX7_row 20 = .ok (.bipush 40, 2) := by decide +kernel
theorem dX7_row_22 : decode cX7_row 22 = .ok (.if_icmp .le 6, 3) := by decide +kernel
theorem dX7_row_25 : decode cX7_row 25 = .ok (.ldc 58, 2) := by decide +kernel
theorem dX7_row_27 : decode cX7_row 27 = .ok (.ireturn, 1) := by decide +kernel
theorem dX7_row_28 : decode cX7_row 28 = .ok (.iload_n 3, 1) := by decide +kernel
theorem dX7_row_29 : decode cX7_row 29 = .ok (.ifCond .ge 9, 3) := by decide +kernel
theorem dX7_row_32 : decode cX7_row 32 = .ok (.aload_n 0, 1) := by decide +kernel
theorem dX7_row_33 : decode cX7_row 33 = .ok (.iconst 4, 1) := by decide +kernel
theorem dX7_row_34 : decode cX7_row 34 = .ok (.invokevirtual 59, 3) := by decide +kernel
theorem dX7_row_37 : decode cX7_row 37 = .ok (.ireturn, 1) := by decide +kernel
theorem dX7_row_38 : decode cX7_row 38 = .ok (.aload_n 0, 1) := by decide +kernel
theorem dX7_row_39 : decode cX7_row 39 = .ok (.getfield 23, 3) := by decide +kernel
theorem dX7_row_42 : decode cX7_row 42 = .ok (.iload_n 1, 1) := by decide +kernel
theorem dX7_row_43 : decode cX7_row 43 = .ok (.iload_n 3, 1) := by decide +kernel
theorem dX7_row_44 : decode cX7_row 44 = .ok (.iastore, 1) := by decide +kernel
theorem dX7_row_45 : decode cX7_row 45 = .ok (.aload_n 0, 1) := by decide +kernel
theorem dX7_row_46 : decode cX7_row 46 = .ok (.getfield 26, 3) := by decide +kernel
theorem dX7_row_49 : decode cX7_row 49 = .ok (.iload_n 1, 1) := by decide +kernel
theorem dX7_row_50 : decode cX7_row 50 = .ok (.iload_n 2, 1) := by decide +kernel
theorem dX7_row_51 : decode cX7_row 51 = .ok (.iastore, 1) := by decide +kernel
theorem dX7_row_52 : decode cX7_row 52 = .ok (.iconst 0, 1) := by decide +kernel
theorem dX7_row_53 : decode cX7_row 53 = .ok (.istore 4, 2) := by decide +kernel
theorem dX7_row_55 : decode cX7_row 55 = .ok (.iload 4, 2) := by decide +kernel
theorem dX7_row_57 : decode cX7_row 57 = .ok (.bipush 40, 2) := by decide +kernel
theorem dX7_row_59 : decode cX7_row 59 = .ok (.if_icmp .ge 22, 3) := by decide +kernel
theorem dX7_row_62 : decode cX7_row 62 = .ok (.aload_n 0, 1) := by decide +kernel
theorem dX7_row_63 : decode cX7_row 63 = .ok (.getfield 20, 3) := by decide +kernel
theorem dX7_row_66 : decode cX7_row 66 = .ok (.bipush 40, 2) := by decide +kernel
theorem dX7_row_68 : decode cX7_row 68 = .ok (.iload_n 1, 1) := by decide +kernel
theorem dX7_row_69 : decode cX7_row 69 = .ok (.imul, 1) := by decide +kernel
theorem dX7_row_70 : decode cX7_row 70 = .ok (.iload 4, 2) := by decide +kernel
theorem dX7_row_72 : decode cX7_row 72 = .ok (.iadd, 1) := by decide +kernel
theorem dX7_row_73 : decode cX7_row 73 = .ok (.iconst 0, 1) := by decide +kernel
theorem dX7_row_74 : decode cX7_row 74 = .ok (.iastore, 1) := by decide +kernel
theorem dX7_row_75 : decode cX7_row 75 = .ok (.iinc 4 1, 3) := by decide +kernel
theorem dX7_row_78 : decode cX7_row 78 = .ok (.goto (-23), 3) := by decide +kernel
theorem dX7_row_81 : decode cX7_row 81 = .ok (.aload_n 0, 1) := by decide +kernel
theorem dX7_row_82 : decode cX7_row 82 = .ok (.iload_n 3, 1) := by decide +kernel
theorem dX7_row_83 : decode cX7_row 83 = .ok (.invokevirtual 63, 3) := by decide +kernel
theorem dX7_row_86 : decode cX7_row 86 = .ok (.ireturn, 1) := by decide +kernel
theorem dX7_set_0 : decode cX7_set 0 = .ok (.iload_n 1, 1) := by decide +kernel
theorem dX7_set_1 : decode cX7_set 1 = .ok (.invokestatic 52, 3) := by decide +kernel
theorem dX7_set_4 : decode cX7_set 4 = .ok (.ifCond .ne 6, 3) := by decide +kernel
theorem dX7_set_7 : decode cX7_set 7 = .ok (.ldc 58, 2) := by decide +kernel
theorem dX7_set_9 : decode cX7_set 9 = .ok (.ireturn, 1) := by decide +kernel
theorem dX7_set_10 : decode cX7_set 10 = .ok (.aload_n 0, 1) := by decide +kernel
theorem dX7_set_11 : decode cX7_set 11 = .ok (.getfield 23, 3) := by decide +kernel
theorem dX7_set_14 : decode cX7_set 14 = .ok (.iload_n 1, 1) := by decide +kernel
theorem dX7_set_15 : decode cX7_set 15 = .ok (.iaload, 1) := by decide +kernel
theorem dX7_set_16 : decode cX7_set 16 = .ok (.ifCond .ge 9, 3) := by decide +kernel
theorem dX7_set_19 : decode cX7_set 19 = .ok (.aload_n 0, 1) := by decide +kernel
theorem dX7_set_20 : decode cX7_set 20 = .ok (.iconst 1, 1) := by decide +kernel
theorem dX7_set_21 : decode cX7_set 21 = .ok (.invokevirtual 59, 3) := by decide +kernel
theorem dX7_set_24 : decode cX7_set 24 = .ok (.ireturn, 1) := by decide +kernel
theorem dX7_set_25 : decode cX7_set 25 = .ok (.iload_n 2, 1) := by decide +kernel
theorem dX7_set_26 : decode cX7_set 26 = .ok (.i2l, 1) := by decide +kernel
theorem dX7_set_27 : decode cX7_set 27 = .ok (.lconst 0, 1) := by decide +kernel
theorem dX7_set_28 : decode cX7_set 28 = .ok (.aload_n 0, 1) := by decide +kernel
theorem dX7_set_29 : decode cX7_set 29 = .ok (.getfield 23, 3) := by decide +kernel
theorem dX7_set_32 : decode cX7_set 32 = .ok (.iload_n 1, 1) := by decide +kernel
theorem dX7_set_33 : decode cX7_set 33 = .ok (.iaload, 1) := by decide +kernel
theorem dX7_set_34 : decode cX7_set 34 = .ok (.iconst 1, 1) := by decide +kernel
theorem dX7_set_35 : decode cX7_set 35 = .ok (.isub, 1) := by decide +kernel
theorem dX7_set_36 : decode cX7_set 36 = .ok (.i2l, 1) := by decide +kernel
theorem dX7_set_37 : decode cX7_set 37 = .ok (.invokestatic 48, 3) := by decide +kernel
theorem dX7_set_40 : decode cX7_set 40 = .ok (.ifCond .ne 9, 3) := by decide +kernel
theorem dX7_set_43 : decode cX7_set 43 = .ok (.aload_n 0, 1) := by decide +kernel
theorem dX7_set_44 : decode cX7_set 44 = .ok (.iconst 2, 1) := by decide +kernel
theorem dX7_set_45 : decode cX7_set 45 = .ok (.invokevirtual 59, 3) := by decide +kernel
theorem dX7_set_48 : decode cX7_set 48 = .ok (.ireturn, 1) := by decide +kernel
theorem dX7_set_49 : decode cX7_set 49 = .ok (.aload_n 0, 1) := by decide +kernel
theorem dX7_set_50 : decode cX7_set 50 = .ok (.getfield 20, 3) := by decide +kernel
theorem dX7_set_53 : decode cX7_set 53 = .ok (.bipush 40, 2) := by decide +kernel
theorem dX7_set_55 : decode cX7_set 55 = .ok (.iload_n 1, 1) := by decide +kernel
theorem dX7_set_56 : decode cX7_set 56 = .ok (.imul, 1) := by decide +kernel
theorem dX7_set_57 : decode cX7_set 57 = .ok (.iload_n 2, 1) := by decide +kernel
theorem dX7_set_58 : decode cX7_set 58 = .ok (.iadd, 1) := by decide +kernel
theorem dX7_set_59 : decode cX7_set 59 = .ok (.aload_n 0, 1) := by decide +kernel
theorem dX7_set_60 : decode cX7_set 60 = .ok (.getfield 26, 3) := by decide +kernel
theorem dX7_set_63 : decode cX7_set 63 = .ok (.iload_n 1, 1) := by decide +kernel
theorem dX7_set_64 : decode cX7_set 64 = .ok (.iaload, 1) := by decide +kernel
theorem dX7_set_65 : decode cX7_set 65 = .ok (.ifCond .ne 8, 3) := by decide +kernel
theorem dX7_set_68 : decode cX7_set 68 = .ok (.iload_n 3, 1) := by decide +kernel
theorem dX7_set_69 : decode cX7_set 69 = .ok (.i2b, 1) := by decide +kernel
theorem dX7_set_70 : decode cX7_set 70 = .ok (.goto 19, 3) := by decide +kernel
theorem dX7_set_73 : decode cX7_set 73 = .ok (.aload_n 0, 1) := by decide +kernel
theorem dX7_set_74 : decode cX7_set 74 = .ok (.getfield 26, 3) := by decide +kernel
theorem dX7_set_77 : decode cX7_set 77 = .ok (.iload_n 1, 1) := by decide +kernel
theorem dX7_set_78 : decode cX7_set 78 = .ok (.iaload, 1) := by decide +kernel
theorem dX7_set_79 : decode cX7_set 79 = .ok (.iconst 1, 1) := by decide +kernel
theorem dX7_set_80 : decode cX7_set 80 = .ok (.if_icmp .ne 8, 3) := by decide +kernel
theorem dX7_set_83 : decode cX7_set 83 = .ok (.iload_n 3, 1) := by decide +kernel
theorem dX7_set_84 : decode cX7_set 84 = .ok (.i2s, 1) := by decide +kernel
theorem dX7_set_85 : decode cX7_set 85 = .ok (.goto 4, 3) := by decide +kernel
theorem dX7_set_88 : decode cX7_set 88 = .ok (.iload_n 3, 1) := by decide +kernel
theorem dX7_set_89 : decode cX7_set 89 = .ok (.iastore, 1) := by decide +kernel
theorem dX7_set_90 : decode cX7_set 90 = .ok (.aload_n 0, 1) := by decide +kernel
theorem dX7_set_91 : decode cX7_set 91 = .ok (.aload_n 0, 1) := by decide +kernel
theorem dX7_set_92 : decode cX7_set 92 = .ok (.getfield 20, 3) := by decide +kernel
theorem dX7_set_95 : decode cX7_set 95 = .ok (.bipush 40, 2) := by decide +kernel
theorem dX7_set_97 : decode cX7_set 97 = .ok (.iload_n 1, 1) := by decide +kernel
theorem dX7_set_98 : decode cX7_set 98 = .ok (.imul, 1) := by decide +kernel
theorem dX7_set_99 : decode cX7_set 99 = .ok (.iload_n 2, 1) := by decide +kernel
theorem dX7_set_100 : decode cX7_set 100 = .ok (.iadd, 1) := by decide +kernel
theorem dX7_set_101 : decode cX7_set 101 = .ok (.iaload, 1) := by decide +kernel
theorem dX7_set_102 : decode cX7_set 102 = .ok (.invokevirtual 63, 3) := by decide +kernel
theorem dX7_set_105 : decode cX7_set 105 = .ok (.ireturn, 1) := by decide +kernel
theorem dX7_fits_0 : decode cX7_fits 0 = .ok (.iload_n 0, 1) := by decide +kernel
theorem dX7_fits_1 : decode cX7_fits 1 = .ok (.ifCond .lt 18, 3) := by decide +kernel
theorem dX7_fits_4 : decode cX7_fits 4 = .ok (.iload_n 0, 1) := by decide +kernel
theorem dX7_fits_5 : decode cX7_fits 5 = .ok (.i2l, 1) := by decide +kernel
theorem dX7_fits_6 : decode cX7_fits 6 = .ok (.iload_n 1, 1) := by decide +kernel
theorem dX7_fits_7 : decode cX7_fits 7 = .ok (.i2l, 1) := by decide +kernel
theorem dX7_fits_8 : decode cX7_fits 8 = .ok (.ladd, 1) := by decide +kernel
theorem dX7_fits_9 : decode cX7_fits 9 = .ok (.iload_n 2, 1) := by decide +kernel
theorem dX7_fits_10 : decode cX7_fits 10 = .ok (.i2l, 1) := by decide +kernel
theorem dX7_fits_11 : decode cX7_fits 11 = .ok (.lcmp, 1) := by decide +kernel
theorem dX7_fits_12 : decode cX7_fits 12 = .ok (.ifCond .gt 7, 3) := by decide +kernel
theorem dX7_fits_15 : decode cX7_fits 15 = .ok (.iconst 1, 1) := by decide +kernel
theorem dX7_fits_16 : decode cX7_fits 16 = .ok (.goto 4, 3) := by decide +kernel
theorem dX7_fits_19 : decode cX7_fits 19 = .ok (.iconst 0, 1) := by decide +kernel
theorem dX7_fits_20 : decode cX7_fits 20 = .ok (.ireturn, 1) := by decide +kernel
theorem dX7_copy_0 : decode cX7_copy 0 = .ok (.iload_n 1, 1) := by decide +kernel
theorem dX7_copy_1 : decode cX7_copy 1 = .ok (.invokestatic 52, 3) := by decide +kernel
theorem dX7_copy_4 : decode cX7_copy 4 = .ok (.ifCond .eq 10, 3) := by decide +kernel
theorem dX7_copy_7 : decode cX7_copy 7 = .ok (.iload_n 3, 1) := by decide +kernel
theorem dX7_copy_8 : decode cX7_copy 8 = .ok (.invokestatic 52, 3) := by decide +kernel
theorem dX7_copy_11 : decode cX7_copy 11 = .ok (.ifCond .ne 6, 3) := by decide +kernel
theorem dX7_copy_14 : decode cX7_copy 14 = .ok (.ldc 58, 2) := by decide +kernel
theorem dX7_copy_16 : decode cX7_copy 16 = .ok (.ireturn, 1) := by decide +kernel
theorem dX7_copy_17 : decode cX7_copy 17 = .ok (.aload_n 0, 1) := by decide +kernel
theorem dX7_copy_18 : decode cX7_copy 18 = .ok (.getfield 23, 3) := by decide +kernel
theorem dX7_copy_21 : decode cX7_copy 21 = .ok (.iload_n 1, 1) := by decide +kernel
theorem dX7_copy_22 : decode cX7_copy 22 = .ok (.iaload, 1) := by decide +kernel
theorem dX7_copy_23 : decode cX7_copy 23 = .ok (.ifCond .lt 12, 3) := by decide +kernel
theorem dX7_copy_26 : decode cX7_copy 26 = .ok (.aload_n 0, 1) := by decide +kernel
theorem dX7_copy_27 : decode cX7_copy 27 = .ok (.getfield 23, 3) := by decide +kernel
theorem dX7_copy_30 : decode cX7_copy 30 = .ok (.iload_n 3, 1) := by decide +kernel
theorem dX7_copy_31 : decode cX7_copy 31 = .ok (.iaload, 1) := by decide +kernel
theorem dX7_copy_32 : decode cX7_copy 32 = .ok (.ifCond .ge 9, 3) := by decide +kernel
theorem dX7_copy_35 : decode cX7_copy 35 = .ok (.aload_n 0, 1) := by decide +kernel
theorem dX7_copy_36 : decode cX7_copy 36 = .ok (.iconst 1, 1) := by decide +kernel
theorem dX7_copy_37 : decode cX7_copy 37 = .ok (.invokevirtual 59, 3) := by decide +kernel
theorem dX7_copy_40 : decode cX7_copy 40 = .ok (.ireturn, 1) := by decide +kernel
theorem dX7_copy_41 : decode cX7_copy 41 = .ok (.aload_n 0, 1) := by decide +kernel
theorem dX7_copy_42 : decode cX7_copy 42 = .ok (.getfield 26, 3) := by decide +kernel
theorem dX7_copy_45 : decode cX7_copy 45 = .ok (.iload_n 1, 1) := by decide +kernel
theorem dX7_copy_46 : decode cX7_copy 46 = .ok (.iaload, 1) := by decide +kernel
theorem dX7_copy_47 : decode cX7_copy 47 = .ok (.aload_n 0, 1) := by decide +kernel
theorem dX7_copy_48 : decode cX7_copy 48 = .ok (.getfield 26, 3) := by decide +kernel
theorem dX7_copy_51 : decode cX7_copy 51 = .ok (.iload_n 3, 1) := by decide +kernel
theorem dX7_copy_52 : decode cX7_copy 52 = .ok (.iaload, 1) := by decide +kernel
theorem dX7_copy_53 : decode cX7_copy 53 = .ok (.if_icmp .eq 9, 3) := by decide +kernel
theorem dX7_copy_56 : decode cX7_copy 56 = .ok (.aload_n 0, 1) := by decide +kernel
theorem dX7_copy_57 : decode cX7_copy 57 = .ok (.iconst 5, 1) := by decide +kernel
theorem dX7_copy_58 : decode cX7_copy 58 = .ok (.invokevirtual 59, 3) := by decide +kernel
theorem dX7_copy_61 : decode cX7_copy 61 = .ok (.ireturn, 1) := by decide +kernel
theorem dX7_copy_62 : decode cX7_copy 62 = .ok (.iload 5, 2) := by decide +kernel
theorem dX7_copy_64 : decode cX7_copy 64 = .ok (.ifCond .lt 34, 3) := by decide +kernel
theorem dX7_copy_67 : decode cX7_copy 67 = .ok (.iload_n 2, 1) := by decide +kernel
theorem dX7_copy_68 : decode cX7_copy 68 = .ok (.iload 5, 2) := by decide +kernel
theorem dX7_copy_70 : decode cX7_copy 70 = .ok (.aload_n 0, 1) := by decide +kernel
theorem dX7_copy_71 : decode cX7_copy 71 = .ok (.getfield 23, 3) := by decide +kernel
theorem dX7_copy_74 : decode cX7_copy 74 = .ok (.iload_n 1, 1) := by decide +kernel
theorem dX7_copy_75 : decode cX7_copy 75 = .ok (.iaload, 1) := by decide +kernel
theorem dX7_copy_76 : decode cX7_copy 76 = .ok (.invokestatic 66, 3) := by decide +kernel
theorem dX7_copy_79 : decode cX7_copy 79 = .ok (.ifCond .eq 19, 3) := by decide +kernel
theorem dX7_copy_82 : decode cX7_copy 82 = .ok (.iload 4, 2) := by decide +kernel
theorem dX7_copy_84 : decode cX7_copy 84 = .ok (.iload 5, 2) := by decide +kernel
theorem dX7_copy_86 : decode cX7_copy 86 = .ok (.aload_n 0, 1) := by decide +kernel
theorem dX7_copy_87 : decode cX7_copy 87 = .ok (.getfield 23, 3) := by decide +kernel
theorem dX7_copy_90 : decode cX7_copy 90 = .ok (.iload_n 3, 1) := by decide +kernel
theorem dX7_copy_91 : decode cX7_copy 91 = .ok (.iaload, 1) := by decide +kernel
theorem dX7_copy_92 : decode cX7_copy 92 = .ok (.invokestatic 66, 3) := by decide +kernel
theorem dX7_copy_95 : decode cX7_copy 95 = .ok (.ifCond .ne 9, 3) := by decide +kernel
theorem dX7_copy_98 : decode cX7_copy 98 = .ok (.aload_n 0, 1) := by decide +kernel
theorem dX7_copy_99 : decode cX7_copy 99 = .ok (.iconst 2, 1) := by decide +kernel
theorem dX7_copy_100 : decode cX7_copy 100 = .ok (.invokevirtual 59, 3) := by decide +kernel
theorem dX7_copy_103 : decode cX7_copy 103 = .ok (.ireturn, 1) := by decide +kernel
theorem dX7_copy_104 : decode cX7_copy 104 = .ok (.iconst 0, 1) := by decide +kernel
theorem dX7_copy_105 : decode cX7_copy 105 = .ok (.istore 6, 2) := by decide +kernel
theorem dX7_copy_107 : decode cX7_copy 107 = .ok (.iload 6, 2) := by decide +kernel
theorem dX7_copy_109 : decode cX7_copy 109 = .ok (.iload 5, 2) := by decide +kernel
theorem dX7_copy_111 : decode cX7_copy 111 = .ok (.if_icmp .ge 30, 3) := by decide +kernel
theorem dX7_copy_114 : decode cX7_copy 114 = .ok (.aload_n 0, 1) := by decide +kernel
theorem dX7_copy_115 : decode cX7_copy 115 = .ok (.getfield 35, 3) := by decide +kernel
theorem dX7_copy_118 : decode cX7_copy 118 = .ok (.iload 6, 2) := by decide +kernel
theorem dX7_copy_120 : decode cX7_copy 120 = .ok (.aload_n 0, 1) := by decide +kernel
theorem dX7_copy_121 : decode cX7_copy 121 = .ok (.getfield 20, 3) := by decide +kernel
theorem dX7_copy_124 : decode cX7_copy 124 = .ok (.bipush 40, 2) := by decide +kernel
theorem dX7_copy_126 : decode cX7_copy 126 = .ok (.iload_n 1, 1) := by decide +kernel
theorem dX7_copy_127 : decode cX7_copy 127 = .ok (.imul, 1) := by decide +kernel
theorem dX7_copy_128 : decode cX7_copy 128 = .ok (.iload_n 2, 1) := by decide +kernel
theorem dX7_copy_129 : decode cX7_copy 129 = .ok (.iadd, 1) := by decide +kernel
theorem dX7_copy_130 : decode cX7_copy 130 = .ok (.iload 6, 2) := by decide +kernel
theorem dX7_copy_132 : decode cX7_copy 132 = .ok (.iadd, 1) := by decide +kernel
theorem dX7_copy_133 : decode cX7_copy 133 = .ok (.iaload, 1) := by decide +kernel
theorem dX7_copy_134 : decode cX7_copy 134 = .ok (.iastore, 1) := by decide +kernel
theorem dX7_copy_135 : decode cX7_copy 135 = .ok (.iinc 6 1, 3) := by decide +kernel
theorem dX7_copy_138 : decode cX7_copy 138 = .ok (.goto (-31), 3) := by decide +kernel
theorem dX7_copy_141 : decode cX7_copy 141 = .ok (.iconst 0, 1) := by decide +kernel
theorem dX7_copy_142 : decode cX7_copy 142 = .ok (.istore 6, 2) := by decide +kernel
theorem dX7_copy_144 : decode cX7_copy 144 = .ok (.iload 6, 2) := by decide +kernel
theorem dX7_copy_146 : decode cX7_copy 146 = .ok (.iload 5, 2) := by decide +kernel
theorem dX7_copy_148 : decode cX7_copy 148 = .ok (.if_icmp .ge 31, 3) := by decide +kernel
theorem dX7_copy_151 : decode cX7_copy 151 = .ok (.aload_n 0, 1) := by decide +kernel
theorem dX7_copy_152 : decode cX7_copy 152 = .ok (.getfield 20, 3) := by decide +kernel
theorem dX7_copy_155 : decode cX7_copy 155 = .ok (.bipush 40, 2) := by decide +kernel
theorem dX7_copy_157 : decode cX7_copy 157 = .ok (.iload_n 3, 1) := by decide +kernel
theorem dX7_copy_158 : decode cX7_copy 158 = .ok (.imul, 1) := by decide +kernel
theorem dX7_copy_159 : decode cX7_copy 159 = .ok (.iload 4, 2) := by decide +kernel
theorem dX7_copy_161 : decode cX7_copy 161 = .ok (.iadd, 1) := by decide +kernel
theorem dX7_copy_162 : decode cX7_copy 162 = .ok (.iload 6, 2) := by decide +kernel
theorem dX7_copy_164 : decode cX7_copy 164 = .ok (.iadd, 1) := by decide +kernel
theorem dX7_copy_165 : decode cX7_copy 165 = .ok (.aload_n 0, 1) := by decide +kernel
theorem dX7_copy_166 : decode cX7_copy 166 = .ok (.getfield 35, 3) := by decide +kernel
theorem dX7_copy_169 : decode cX7_copy 169 = .ok (.iload 6, 2) := by decide +kernel
theorem dX7_copy_171 : decode cX7_copy 171 = .ok (.iaload, 1) := by decide +kernel
theorem dX7_copy_172 : decode cX7_copy 172 = .ok (.iastore, 1) := by decide +kernel
theorem dX7_copy_173 : decode cX7_copy 173 = .ok (.iinc 6 1, 3) := by decide +kernel
theorem dX7_copy_176 : decode cX7_copy 176 = .ok (.goto (-32), 3) := by decide +kernel
theorem dX7_copy_179 : decode cX7_copy 179 = .ok (.aload_n 0, 1) := by decide +kernel
theorem dX7_copy_180 : decode cX7_copy 180 = .ok (.iload 5, 2) := by decide +kernel
theorem dX7_copy_182 : decode cX7_copy 182 = .ok (.invokevirtual 63, 3) := by decide +kernel
theorem dX7_copy_185 : decode cX7_copy 185 = .ok (.ireturn, 1) := by decide +kernel
theorem dX7_drop_0 : decode cX7_drop 0 = .ok (.iload_n 1, 1) := by decide +kernel
theorem dX7_drop_1 : decode cX7_drop 1 = .ok (.invokestatic 52, 3) := by decide +kernel
theorem dX7_drop_4 : decode cX7_drop 4 = .ok (.ifCond .ne 6, 3) := by decide +kernel
theorem dX7_drop_7 : decode cX7_drop 7 = .ok (.ldc 58, 2) := by decide +kernel
theorem dX7_drop_9 : decode cX7_drop 9 = .ok (.ireturn, 1) := by decide +kernel
theorem dX7_drop_10 : decode cX7_drop 10 = .ok (.aload_n 0, 1) := by decide +kernel
theorem dX7_drop_11 : decode cX7_drop 11 = .ok (.getfield 23, 3) := by decide +kernel
theorem dX7_drop_14 : decode cX7_drop 14 = .ok (.iload_n 1, 1) := by decide +kernel
theorem dX7_drop_15 : decode cX7_drop 15 = .ok (.iaload, 1) := by decide +kernel
theorem dX7_drop_16 : decode cX7_drop 16 = .ok (.ifCond .ge 9, 3) := by decide +kernel
theorem dX7_drop_19 : decode cX7_drop 19 = .ok (.aload_n 0, 1) := by decide +kernel
theorem dX7_drop_20 : decode cX7_drop 20 = .ok (.iconst 1, 1) := by decide +kernel
theorem dX7_drop_21 : decode cX7_drop 21 = .ok (.invokevirtual 59, 3) := by decide +kernel
theorem dX7_drop_24 : decode cX7_drop 24 = .ok (.ireturn, 1) := by decide +kernel
theorem dX7_drop_25 : decode cX7_drop 25 = .ok (.aload_n 0, 1) := by decide +kernel
theorem dX7_drop_26 : decode cX7_drop 26 = .ok (.getfield 23, 3) := by decide +kernel
theorem dX7_drop_29 : decode cX7_drop 29 = .ok (.iload_n 1, 1) := by decide +kernel
theorem dX7_drop_30 : decode cX7_drop 30 = .ok (.iaload, 1) := by decide +kernel
theorem dX7_drop_31 : decode cX7_drop 31 = .ok (.istore_n 2, 1) := by decide +kernel
theorem dX7_drop_32 : decode cX7_drop 32 = .ok (.aload_n 0, 1) := by decide +kernel
theorem dX7_drop_33 : decode cX7_drop 33 = .ok (.getfield 23, 3) := by decide +kernel
theorem dX7_drop_36 : decode cX7_drop 36 = .ok (.iload_n 1, 1) := by decide +kernel
theorem dX7_drop_37 : decode cX7_drop 37 = .ok (.iconst (-1), 1) := by decide +kernel
theorem dX7_drop_38 : decode cX7_drop 38 = .ok (.iastore, 1) := by decide +kernel
theorem dX7_drop_39 : decode cX7_drop 39 = .ok (.aload_n 0, 1) := by decide +kernel
theorem dX7_drop_40 : decode cX7_drop 40 = .ok (.iload_n 2, 1) := by decide +kernel
theorem dX7_drop_41 : decode cX7_drop 41 = .ok (.invokevirtual 63, 3) := by decide +kernel
theorem dX7_drop_44 : decode cX7_drop 44 = .ok (.ireturn, 1) := by decide +kernel
theorem dX7_against_0 : decode cX7_against 0 = .ok (.aload_n 0, 1) := by decide +kernel
theorem dX7_against_1 : decode cX7_against 1 = .ok (.getfield 23, 3) := by decide +kernel
theorem dX7_against_4 : decode cX7_against 4 = .ok (.iload_n 1, 1) := by decide +kernel
theorem dX7_against_5 : decode cX7_against 5 = .ok (.iaload, 1) := by decide +kernel
theorem dX7_against_6 : decode cX7_against 6 = .ok (.ifCond .ge 9, 3) := by decide +kernel
theorem dX7_against_9 : decode cX7_against 9 = .ok (.aload_n 0, 1) := by decide +kernel
theorem dX7_against_10 : decode cX7_against 10 = .ok (.iconst 1, 1) := by decide +kernel
theorem dX7_against_11 : decode cX7_against 11 = .ok (.invokevirtual 59, 3) := by decide +kernel
theorem dX7_against_14 : decode cX7_against 14 = .ok (.ireturn, 1) := by decide +kernel
theorem dX7_against_15 : decode cX7_against 15 = .ok (.iload_n 2, 1) := by decide +kernel
theorem dX7_against_16 : decode cX7_against 16 = .ok (.iload_n 3, 1) := by decide +kernel
theorem dX7_against_17 : decode cX7_against 17 = .ok (.aload_n 0, 1) := by decide +kernel
theorem dX7_against_18 : decode cX7_against 18 = .ok (.getfield 23, 3) := by decide +kernel
theorem dX7_against_21 : decode cX7_against 21 = .ok (.iload_n 1, 1) := by decide +kernel
theorem dX7_against_22 : decode cX7_against 22 = .ok (.iaload, 1) := by decide +kernel
theorem dX7_against_23 : decode cX7_against 23 = .ok (.invokestatic 66, 3) := by decide +kernel
theorem dX7_against_26 : decode cX7_against 26 = .ok (.ifCond .eq 7, 3) := by decide +kernel
theorem dX7_against_29 : decode cX7_against 29 = .ok (.iconst 0, 1) := by decide +kernel
theorem dX7_against_30 : decode cX7_against 30 = .ok (.goto 8, 3) := by decide +kernel
theorem dX7_against_33 : decode cX7_against 33 = .ok (.aload_n 0, 1) := by decide +kernel
theorem dX7_against_34 : decode cX7_against 34 = .ok (.iconst 2, 1) := by decide +kernel
theorem dX7_against_35 : decode cX7_against 35 = .ok (.invokevirtual 59, 3) := by decide +kernel
theorem dX7_against_38 : decode cX7_against 38 = .ok (.ireturn, 1) := by decide +kernel
theorem dX7_feed_0 : decode cX7_feed 0 = .ok (.iload_n 1, 1) := by decide +kernel
theorem dX7_feed_1 : decode cX7_feed 1 = .ok (.i2l, 1) := by decide +kernel
theorem dX7_feed_2 : decode cX7_feed 2 = .ok (.lconst 0, 1) := by decide +kernel
theorem dX7_feed_3 : decode cX7_feed 3 = .ok (.ldc2_w 70, 3) := by decide +kernel
theorem dX7_feed_6 : decode cX7_feed 6 = .ok (.invokestatic 48, 3) := by decide +kernel
theorem dX7_feed_9 : decode cX7_feed 9 = .ok (.ifCond .ne 6, 3) := by decide +kernel
theorem dX7_feed_12 : decode cX7_feed 12 = .ok (.ldc 58, 2) := by decide +kernel
theorem dX7_feed_14 : decode cX7_feed 14 = .ok (.ireturn, 1) := by decide +kernel
theorem dX7_feed_15 : decode cX7_feed 15 = .ok (.aload_n 0, 1) := by decide +kernel
theorem dX7_feed_16 : decode cX7_feed 16 = .ok (.getfield 72, 3) := by decide +kernel
theorem dX7_feed_19 : decode cX7_feed 19 = .ok (.bipush 120, 2) := by decide +kernel
theorem dX7_feed_21 : decode cX7_feed 21 = .ok (.if_icmp .ne 6, 3) := by decide +kernel
theorem dX7_feed_24 : decode cX7_feed 24 = .ok (.ldc 75, 2) := by decide +kernel
theorem dX7_feed_26 : decode cX7_feed 26 = .ok (.ireturn, 1) := by decide +kernel
theorem dX7_feed_27 : decode cX7_feed 27 = .ok (.aload_n 0, 1) := by decide +kernel
theorem dX7_feed_28 : decode cX7_feed 28 = .ok (.getfield 29, 3) := by decide +kernel
theorem dX7_feed_31 : decode cX7_feed 31 = .ok (.aload_n 0, 1) := by decide +kernel
theorem dX7_feed_32 : decode cX7_feed 32 = .ok (.getfield 72, 3) := by decide +kernel
theorem dX7_feed_35 : decode cX7_feed 35 = .ok (.iload_n 1, 1) := by decide +kernel
theorem dX7_feed_36 : decode cX7_feed 36 = .ok (.iastore, 1) := by decide +kernel
theorem dX7_feed_37 : decode cX7_feed 37 = .ok (.aload_n 0, 1) := by decide +kernel
theorem dX7_feed_38 : decode cX7_feed 38 = .ok (.dup, 1) := by decide +kernel
theorem dX7_feed_39 : decode cX7_feed 39 = .ok (.getfield 72, 3) := by decide +kernel
theorem dX7_feed_42 : decode cX7_feed 42 = .ok (.iconst 1, 1) := by decide +kernel
theorem dX7_feed_43 : decode cX7_feed 43 = .ok (.iadd, 1) := by decide +kernel
theorem dX7_feed_44 : decode cX7_feed 44 = .ok (.putfield 72, 3) := by decide +kernel
theorem dX7_feed_47 : decode cX7_feed 47 = .ok (.aload_n 0, 1) := by decide +kernel
theorem dX7_feed_48 : decode cX7_feed 48 = .ok (.getfield 72, 3) := by decide +kernel
theorem dX7_feed_51 : decode cX7_feed 51 = .ok (.ireturn, 1) := by decide +kernel
theorem dX7_byteAt_0 : decode cX7_byteAt 0 = .ok (.iload_n 1, 1) := by decide +kernel
theorem dX7_byteAt_1 : decode cX7_byteAt 1 = .ok (.aload_n 0, 1) := by decide +kernel
theorem dX7_byteAt_2 : decode cX7_byteAt 2 = .ok (.getfield 72, 3) := by decide +kernel
theorem dX7_byteAt_5 : decode cX7_byteAt 5 = .ok (.if_icmp .ge 12, 3) := by decide +kernel
theorem dX7_byteAt_8 : decode cX7_byteAt 8 = .ok (.aload_n 0, 1) := by decide +kernel
theorem dX7_byteAt_9 : decode cX7_byteAt 9 = .ok (.getfield 29, 3) := by decide +kernel
theorem dX7_byteAt_12 : decode cX7_byteAt 12 = .ok (.iload_n 1, 1) := by decide +kernel
theorem dX7_byteAt_13 : decode cX7_byteAt 13 = .ok (.iaload, 1) := by decide +kernel
theorem dX7_byteAt_14 : decode cX7_byteAt 14 = .ok (.goto 4, 3) := by decide +kernel
theorem dX7_byteAt_17 : decode cX7_byteAt 17 = .ok (.iconst (-1), 1) := by decide +kernel
theorem dX7_byteAt_18 : decode cX7_byteAt 18 = .ok (.ireturn, 1) := by decide +kernel
theorem dX7_fails_0 : decode cX7_fails 0 = .ok (.aload_n 0, 1) := by decide +kernel
theorem dX7_fails_1 : decode cX7_fails 1 = .ok (.iload_n 1, 1) := by decide +kernel
theorem dX7_fails_2 : decode cX7_fails 2 = .ok (.putfield 76, 3) := by decide +kernel
theorem dX7_fails_5 : decode cX7_fails 5 = .ok (.aload_n 0, 1) := by decide +kernel
theorem dX7_fails_6 : decode cX7_fails 6 = .ok (.iload_n 2, 1) := by decide +kernel
theorem dX7_fails_7 : decode cX7_fails 7 = .ok (.putfield 79, 3) := by decide +kernel
theorem dX7_fails_10 : decode cX7_fails 10 = .ok (.iconst 0, 1) := by decide +kernel
theorem dX7_fails_11 : decode cX7_fails 11 = .ok (.ireturn, 1) := by decide +kernel
theorem dX7_takes_0 : decode cX7_takes 0 = .ok (.aload_n 0, 1) := by decide +kernel
theorem dX7_takes_1 : decode cX7_takes 1 = .ok (.aload_n 0, 1) := by decide +kernel
theorem dX7_takes_2 : decode cX7_takes 2 = .ok (.getfield 82, 3) := by decide +kernel
theorem dX7_takes_5 : decode cX7_takes 5 = .ok (.invokevirtual 85, 3) := by decide +kernel
theorem dX7_takes_8 : decode cX7_takes 8 = .ok (.iload_n 1, 1) := by decide +kernel
theorem dX7_takes_9 : decode cX7_takes 9 = .ok (.if_icmp .eq 13, 3) := by decide +kernel
theorem dX7_takes_12 : decode cX7_takes 12 = .ok (.aload_n 0, 1) := by decide +kernel
theorem dX7_takes_13 : decode cX7_takes 13 = .ok (.iconst 1, 1) := by decide +kernel
theorem dX7_takes_14 : decode cX7_takes 14 = .ok (.aload_n 0, 1) := by decide +kernel
theorem dX7_takes_15 : decode cX7_takes 15 = .ok (.getfield 82, 3) := by decide +kernel
theorem dX7_takes_18 : decode cX7_takes 18 = .ok (.invokevirtual 88, 3) := by decide +kernel
theorem dX7_takes_21 : decode cX7_takes 21 = .ok (.ireturn, 1) := by decide +kernel
theorem dX7_takes_22 : decode cX7_takes 22 = .ok (.aload_n 0, 1) := by decide +kernel
theorem dX7_takes_23 : decode cX7_takes 23 = .ok (.dup, 1) := by decide +kernel
theorem dX7_takes_24 : decode cX7_takes 24 = .ok (.getfield 82, 3) := by decide +kernel
theorem dX7_takes_27 : decode cX7_takes 27 = .ok (.iconst 1, 1) := by decide +kernel
theorem dX7_takes_28 : decode cX7_takes 28 = .ok (.iadd, 1) := by decide +kernel
theorem dX7_takes_29 : decode cX7_takes 29 = .ok (.putfield 82, 3) := by decide +kernel
theorem dX7_takes_32 : decode cX7_takes 32 = .ok (.iconst 1, 1) := by decide +kernel
theorem dX7_takes_33 : decode cX7_takes 33 = .ok (.ireturn, 1) := by decide +kernel
theorem dX7_takesNumber_0 : decode cX7_takesNumber 0 = .ok (.aload_n 0, 1) := by decide +kernel
theorem dX7_takesNumber_1 : decode cX7_takesNumber 1 = .ok (.getfield 82, 3) := by decide +kernel
theorem dX7_takesNumber_4 : decode cX7_takesNumber 4 = .ok (.istore 4, 2) := by decide +kernel
theorem dX7_takesNumber_6 : decode cX7_takesNumber 6 = .ok (.aload_n 0, 1) := by decide +kernel
theorem dX7_takesNumber_7 : decode cX7_takesNumber 7 = .ok (.iconst 0, 1) := by decide +kernel
theorem dX7_takesNumber_8 : decode cX7_takesNumber 8 = .ok (.putfield 92, 3) := by decide +kernel
theorem dX7_takesNumber_11 : decode cX7_takesNumber 11 = .ok (.aload_n 0, 1) := by decide +kernel
theorem dX7_takesNumber_12 : decode cX7_takesNumber 12 = .ok (.aload_n 0, 1) := by decide +kernel
theorem dX7_takesNumber_13 : decode cX7_takesNumber 13 = .ok (.getfield 82, 3) := by decide +kernel
theorem dX7_takesNumber_16 : decode cX7_takesNumber 16 = .ok (.invokevirtual 85, 3) := by decide +kernel
theorem dX7_takesNumber_19 : decode cX7_takesNumber 19 = .ok (.i2l, 1) := by decide +kernel
theorem dX7_takesNumber_20 : decode cX7_takesNumber 20 = .ok (.ldc2_w 95, 3) := by decide +kernel
theorem dX7_takesNumber_23 : decode cX7_takesNumber 23 = .ok (.ldc2_w 97, 3) := by decide +kernel
theorem dX7_takesNumber_26 : decode cX7_takesNumber 26 = .ok (.invokestatic 48, 3) := by decide +kernel
theorem dX7_takesNumber_29 : decode cX7_takesNumber 29 = .ok (.ifCond .eq 57, 3) := by decide +kernel
theorem dX7_takesNumber_32 : decode cX7_takesNumber 32 = .ok (.aload_n 0, 1) := by decide +kernel
theorem dX7_takesNumber_33 : decode cX7_takesNumber 33 = .ok (.aload_n 0, 1) := by decide +kernel
theorem dX7_takesNumber_34 : decode cX7_takesNumber 34 = .ok (.getfield 82, 3) := by decide +kernel
theorem dX7_takesNumber_37 : decode cX7_takesNumber 37 = .ok (.iload 4, 2) := by decide +kernel
theorem dX7_takesNumber_39 : decode cX7_takesNumber 39 = .ok (.isub, 1) := by decide +kernel
theorem dX7_takesNumber_40 : decode cX7_takesNumber 40 = .ok (.iconst 2, 1) := by decide +kernel
theorem dX7_takesNumber_41 : decode cX7_takesNumber 41 = .ok (.if_icmp .ge 25, 3) := by decide +kernel
theorem dX7_takesNumber_44 : decode cX7_takesNumber 44 = .ok (.bipush 10, 2) := by decide +kernel
theorem dX7_takesNumber_46 : decode cX7_takesNumber 46 = .ok (.aload_n 0, 1) := by decide +kernel
theorem dX7_takesNumber_47 : decode cX7_takesNumber 47 = .ok (.getfield 92, 3) := by decide +kernel
theorem dX7_takesNumber_50 : decode cX7_takesNumber 50 = .ok (.imul, 1) := by decide +kernel
theorem dX7_takesNumber_51 : decode cX7_takesNumber 51 = .ok (.aload_n 0, 1) := by decide +kernel
theorem dX7_takesNumber_52 : decode cX7_takesNumber 52 = .ok (.aload_n 0, 1) := by decide +kernel
theorem dX7_takesNumber_53 : decode cX7_takesNumber 53 = .ok (.getfield 82, 3) := by decide +kernel
theorem dX7_takesNumber_56 : decode cX7_takesNumber 56 = .ok (.invokevirtual 85, 3) := by decide +kernel
theorem dX7_takesNumber_59 : decode cX7_takesNumber 59 = .ok (.iadd, 1) := by decide +kernel
theorem dX7_takesNumber_60 : decode cX7_takesNumber 60 = .ok (.bipush 48, 2) := by decide +kernel
theorem dX7_takesNumber_62 : decode cX7_takesNumber 62 = .ok (.isub, 1) := by decide +kernel
theorem dX7_takesNumber_63 : decode cX7_takesNumber 63 = .ok (.goto 7, 3) := by decide +kernel
theorem dX7_takesNumber_66 : decode cX7_takesNumber 66 = .ok (.aload_n 0, 1) := by decide +kernel
theorem dX7_takesNumber_67 : decode cX7_takesNumber 67 = .ok (.getfield 92, 3) := by decide +kernel
theorem dX7_takesNumber_70 : decode cX7_takesNumber 70 = .ok (.putfield 92, 3) := by decide +kernel
theorem dX7_takesNumber_73 : decode cX7_takesNumber 73 = .ok (.aload_n 0, 1) := by decide +kernel
theorem dX7_takesNumber_74 : decode cX7_takesNumber 74 = .ok (.dup, 1) := by decide +kernel
theorem dX7_takesNumber_75 : decode cX7_takesNumber 75 = .ok (.getfield 82, 3) := by decide +kernel
theorem dX7_takesNumber_78 : decode cX7_takesNumber 78 = .ok (.iconst 1, 1) := by decide +kernel
theorem dX7_takesNumber_79 : decode cX7_takesNumber 79 = .ok (.iadd, 1) := by decide +kernel
theorem dX7_takesNumber_80 : decode cX7_takesNumber 80 = .ok (.putfield 82, 3) := by decide +kernel
theorem dX7_takesNumber_83 : decode cX7_takesNumber 83 = .ok (.goto (-72), 3) := by decide +kernel
theorem dX7_takesNumber_86 : decode cX7_takesNumber 86 = .ok (.aload_n 0, 1) := by decide +kernel
theorem dX7_takesNumber_87 : decode cX7_takesNumber 87 = .ok (.getfield 82, 3) := by decide +kernel
theorem dX7_takesNumber_90 : decode cX7_takesNumber 90 = .ok (.iload 4, 2) := by decide +kernel
theorem dX7_takesNumber_92 : decode cX7_takesNumber 92 = .ok (.if_icmp .eq 14, 3) := by decide +kernel
theorem dX7_takesNumber_95 : decode cX7_takesNumber 95 = .ok (.aload_n 0, 1) := by decide +kernel
theorem dX7_takesNumber_96 : decode cX7_takesNumber 96 = .ok (.getfield 82, 3) := by decide +kernel
theorem dX7_takesNumber_99 : decode cX7_takesNumber 99 = .ok (.iload 4, 2) := by decide +kernel
theorem dX7_takesNumber_101 : decode cX7_takesNumber 101 = .ok (.isub, 1) := by decide +kernel
theorem dX7_takesNumber_102 : decode cX7_takesNumber 102 = .ok (.iconst 2, 1) := by decide +kernel
theorem dX7_takesNumber_103 : decode cX7_takesNumber 103 = .ok (.if_icmp .le 11, 3) := by decide +kernel
theorem dX7_takesNumber_106 : decode cX7_takesNumber 106 = .ok (.aload_n 0, 1) := by decide +kernel
theorem dX7_takesNumber_107 : decode cX7_takesNumber 107 = .ok (.iconst 1, 1) := by decide +kernel
theorem dX7_takesNumber_108 : decode cX7_takesNumber 108 = .ok (.iload 4, 2) := by decide +kernel
theorem dX7_takesNumber_110 : decode cX7_takesNumber 110 = .ok (.invokevirtual 88, 3) := by decide +kernel
theorem dX7_takesNumber_113 : decode cX7_takesNumber 113 = .ok (.ireturn, 1) := by decide +kernel
theorem dX7_takesNumber_114 : decode cX7_takesNumber 114 = .ok (.aload_n 0, 1) := by decide +kernel
theorem dX7_takesNumber_115 : decode cX7_takesNumber 115 = .ok (.getfield 92, 3) := by decide +kernel
theorem dX7_takesNumber_118 : decode cX7_takesNumber 118 = .ok (.i2l, 1) := by decide +kernel
theorem dX7_takesNumber_119 : decode cX7_takesNumber 119 = .ok (.iload_n 1, 1) := by decide +kernel
theorem dX7_takesNumber_120 : decode cX7_takesNumber 120 = .ok (.i2l, 1) := by decide +kernel
theorem dX7_takesNumber_121 : decode cX7_takesNumber 121 = .ok (.iload_n 2, 1) := by decide +kernel
theorem dX7_takesNumber_122 : decode cX7_takesNumber 122 = .ok (.i2l, 1) := by decide +kernel
theorem dX7_takesNumber_123 : decode cX7_takesNumber 123 = .ok (.invokestatic 48, 3) := by decide +kernel
theorem dX7_takesNumber_126 : decode cX7_takesNumber 126 = .ok (.ifCond .eq 11, 3) := by decide +kernel
theorem dX7_takesNumber_129 : decode cX7_takesNumber 129 = .ok (.aload_n 0, 1) := by decide +kernel
theorem dX7_takesNumber_130 : decode cX7_takesNumber 130 = .ok (.iload_n 3, 1) := by decide +kernel
theorem dX7_takesNumber_131 : decode cX7_takesNumber 131 = .ok (.invokevirtual 99, 3) := by decide +kernel
theorem dX7_takesNumber_134 : decode cX7_takesNumber 134 = .ok (.goto 10, 3) := by decide +kernel
theorem dX7_takesNumber_137 : decode cX7_takesNumber 137 = .ok (.aload_n 0, 1) := by decide +kernel
theorem dX7_takesNumber_138 : decode cX7_takesNumber 138 = .ok (.iconst 2, 1) := by decide +kernel
theorem dX7_takesNumber_139 : decode cX7_takesNumber 139 = .ok (.iload 4, 2) := by decide +kernel
theorem dX7_takesNumber_141 : decode cX7_takesNumber 141 = .ok (.invokevirtual 88, 3) := by decide +kernel
theorem dX7_takesNumber_144 : decode cX7_takesNumber 144 = .ok (.ireturn, 1) := by decide +kernel
theorem dX7_takesLaw_0 : decode cX7_takesLaw 0 = .ok (.iconst 0, 1) := by decide +kernel
theorem dX7_takesLaw_1 : decode cX7_takesLaw 1 = .ok (.istore_n 1, 1) := by decide +kernel
theorem dX7_takesLaw_2 : decode cX7_takesLaw 2 = .ok (.iload_n 1, 1) := by decide +kernel
theorem dX7_takesLaw_3 : decode cX7_takesLaw 3 = .ok (.bipush 63, 2) := by decide +kernel
theorem dX7_takesLaw_5 : decode cX7_takesLaw 5 = .ok (.if_icmp .ge 20, 3) := by decide +kernel
theorem dX7_takesLaw_8 : decode cX7_takesLaw 8 = .ok (.aload_n 0, 1) := by decide +kernel
theorem dX7_takesLaw_9 : decode cX7_takesLaw 9 = .ok (.getfield 7, 3) := by decide +kernel
theorem dX7_takesLaw_12 : decode cX7_takesLaw 12 = .ok (.sipush 189, 3) := by decide +kernel
theorem dX7_takesLaw_15 : decode cX7_takesLaw 15 = .ok (.iload_n 1, 1) := by decide +kernel
theorem dX7_takesLaw_16 : decode cX7_takesLaw 16 = .ok (.iadd, 1) := by decide +kernel
theorem dX7_takesLaw_17 : decode cX7_takesLaw 17 = .ok (.iconst 0, 1) := by decide +kernel
theorem dX7_takesLaw_18 : decode cX7_takesLaw 18 = .ok (.iastore, 1) := by decide +kernel
theorem dX7_takesLaw_19 : decode cX7_takesLaw 19 = .ok (.iinc 1 1, 3) := by decide +kernel
theorem dX7_takesLaw_22 : decode cX7_takesLaw 22 = .ok (.goto (-20), 3) := by decide +kernel
theorem dX7_takesLaw_25 : decode cX7_takesLaw 25 = .ok (.aload_n 0, 1) := by decide +kernel
theorem dX7_takesLaw_26 : decode cX7_takesLaw 26 = .ok (.getfield 7, 3) := by decide +kernel
theorem dX7_takesLaw_29 : decode cX7_takesLaw 29 = .ok (.sipush 227, 3) := by decide +kernel
theorem dX7_takesLaw_32 : decode cX7_takesLaw 32 = .ok (.iconst 1, 1) := by decide +kernel
theorem dX7_takesLaw_33 : decode cX7_takesLaw 33 = .ok (.iastore, 1) := by decide +kernel
theorem dX7_takesLaw_34 : decode cX7_takesLaw 34 = .ok (.aload_n 0, 1) := by decide +kernel
theorem dX7_takesLaw_35 : decode cX7_takesLaw 35 = .ok (.bipush 107, 2) := by decide +kernel
theorem dX7_takesLaw_37 : decode cX7_takesLaw 37 = .ok (.invokevirtual 99, 3) := by decide +kernel
theorem dX7_takesLaw_40 : decode cX7_takesLaw 40 = .ok (.ifCond .eq 14, 3) := by decide +kernel
theorem dX7_takesLaw_43 : decode cX7_takesLaw 43 = .ok (.aload_n 0, 1) := by decide +kernel
theorem dX7_takesLaw_44 : decode cX7_takesLaw 44 = .ok (.iconst 0, 1) := by decide +kernel
theorem dX7_takesLaw_45 : decode cX7_takesLaw 45 = .ok (.iconst 3, 1) := by decide +kernel
theorem dX7_takesLaw_46 : decode cX7_takesLaw 46 = .ok (.bipush 44, 2) := by decide +kernel
theorem dX7_takesLaw_48 : decode cX7_takesLaw 48 = .ok (.invokevirtual 102, 3) := by decide +kernel
theorem dX7_takesLaw_51 : decode cX7_takesLaw 51 = .ok (.ifCond .ne 5, 3) := by decide +kernel
theorem dX7_takesLaw_54 : decode cX7_takesLaw 54 = .ok (.iconst 0, 1) := by decide +kernel
theorem dX7_takesLaw_55 : decode cX7_takesLaw 55 = .ok (.ireturn, 1) := by decide +kernel
theorem dX7_takesLaw_56 : decode cX7_takesLaw 56 = .ok (.aload_n 0, 1) := by decide +kernel
theorem dX7_takesLaw_57 : decode cX7_takesLaw 57 = .ok (.getfield 7, 3) := by decide +kernel
theorem dX7_takesLaw_60 : decode cX7_takesLaw 60 = .ok (.sipush 228, 3) := by decide +kernel
theorem dX7_takesLaw_63 : decode cX7_takesLaw 63 = .ok (.aload_n 0, 1) := by decide +kernel
theorem dX7_takesLaw_64 : decode cX7_takesLaw 64 = .ok (.getfield 92, 3) := by decide +kernel
theorem dX7_takesLaw_67 : decode cX7_takesLaw 67 = .ok (.iastore, 1) := by decide +kernel
theorem dX7_takesLaw_68 : decode cX7_takesLaw 68 = .ok (.aload_n 0, 1) := by decide +kernel
theorem dX7_takesLaw_69 : decode cX7_takesLaw 69 = .ok (.iconst 1, 1) := by decide +kernel
theorem dX7_takesLaw_70 : decode cX7_takesLaw 70 = .ok (.bipush 9, 2) := by decide +kernel
theorem dX7_takesLaw_72 : decode cX7_takesLaw 72 = .ok (.bipush 59, 2) := by decide +kernel
theorem dX7_takesLaw_74 : decode cX7_takesLaw 74 = .ok (.invokevirtual 102, 3) := by decide +kernel
theorem dX7_takesLaw_77 : decode cX7_takesLaw 77 = .ok (.ifCond .ne 5, 3) := by decide +kernel
theorem dX7_takesLaw_80 : decode cX7_takesLaw 80 = .ok (.iconst 0, 1) := by decide +kernel
theorem dX7_takesLaw_81 : decode cX7_takesLaw 81 = .ok (.ireturn, 1) := by decide +kernel
theorem dX7_takesLaw_82 : decode cX7_takesLaw 82 = .ok (.aload_n 0, 1) := by decide +kernel
theorem dX7_takesLaw_83 : decode cX7_takesLaw 83 = .ok (.getfield 7, 3) := by decide +kernel
theorem dX7_takesLaw_86 : decode cX7_takesLaw 86 = .ok (.sipush 229, 3) := by decide +kernel
theorem dX7_takesLaw_89 : decode cX7_takesLaw 89 = .ok (.aload_n 0, 1) := by decide +kernel
theorem dX7_takesLaw_90 : decode cX7_takesLaw 90 = .ok (.getfield 92, 3) := by decide +kernel
theorem dX7_takesLaw_93 : decode cX7_takesLaw 93 = .ok (.iastore, 1) := by decide +kernel
theorem dX7_takesLaw_94 : decode cX7_takesLaw 94 = .ok (.iconst 1, 1) := by decide +kernel
theorem dX7_takesLaw_95 : decode cX7_takesLaw 95 = .ok (.ireturn, 1) := by decide +kernel
theorem dX7_kindOf_0 : decode cX7_kindOf 0 = .ok (.iload_n 0, 1) := by decide +kernel
theorem dX7_kindOf_1 : decode cX7_kindOf 1 = .ok (.bipush 112, 2) := by decide +kernel
theorem dX7_kindOf_3 : decode cX7_kindOf 3 = .ok (.if_icmp .ne 7, 3) := by decide +kernel
theorem dX7_kindOf_6 : decode cX7_kindOf 6 = .ok (.iconst 1, 1) := by decide +kernel
theorem dX7_kindOf_7 : decode cX7_kindOf 7 = .ok (.goto 44, 3) := by decide +kernel
theorem dX7_kindOf_10 : decode cX7_kindOf 10 = .ok (.iload_n 0, 1) := by decide +kernel
theorem dX7_kindOf_11 : decode cX7_kindOf 11 = .ok (.bipush 108, 2) := by decide +kernel
theorem dX7_kindOf_13 : decode cX7_kindOf 13 = .ok (.if_icmp .ne 7, 3) := by decide +kernel
theorem dX7_kindOf_16 : decode cX7_kindOf 16 = .ok (.iconst 2, 1) := by decide +kernel
theorem dX7_kindOf_17 : decode cX7_kindOf 17 = .ok (.goto 34, 3) := by decide +kernel
theorem dX7_kindOf_20 : decode cX7_kindOf 20 = .ok (.iload_n 0, 1) := by decide +kernel
theorem dX7_kindOf_21 : decode cX7_kindOf 21 = .ok (.bipush 115, 2) := by decide +kernel
theorem dX7_kindOf_23 : decode cX7_kindOf 23 = .ok (.if_icmp .ne 7, 3) := by decide +kernel
theorem dX7_kindOf_26 : decode cX7_kindOf 26 = .ok (.iconst 3, 1) := by decide +kernel
theorem dX7_kindOf_27 : decode cX7_kindOf 27 = .ok (.goto 24, 3) := by decide +kernel
theorem dX7_kindOf_30 : decode cX7_kindOf 30 = .ok (.iload_n 0, 1) := by decide +kernel
theorem dX7_kindOf_31 : decode cX7_kindOf 31 = .ok (.bipush 100, 2) := by decide +kernel
theorem dX7_kindOf_33 : decode cX7_kindOf 33 = .ok (.if_icmp .ne 7, 3) := by decide +kernel
theorem dX7_kindOf_36 : decode cX7_kindOf 36 = .ok (.iconst 4, 1) := by decide +kernel
theorem dX7_kindOf_37 : decode cX7_kindOf 37 = .ok (.goto 14, 3) := by decide +kernel
theorem dX7_kindOf_40 : decode cX7_kindOf 40 = .ok (.iload_n 0, 1) := by decide +kernel
theorem dX7_kindOf_41 : decode cX7_kindOf 41 = .ok (.bipush 116, 2) := by decide +kernel
theorem dX7_kindOf_43 : decode cX7_kindOf 43 = .ok (.if_icmp .ne 7, 3) := by decide +kernel
theorem dX7_kindOf_46 : decode cX7_kindOf 46 = .ok (.iconst 5, 1) := by decide +kernel
theorem dX7_kindOf_47 : decode cX7_kindOf 47 = .ok (.goto 4, 3) := by decide +kernel
theorem dX7_kindOf_50 : decode cX7_kindOf 50 = .ok (.iconst 0, 1) := by decide +kernel
theorem dX7_kindOf_51 : decode cX7_kindOf 51 = .ok (.ireturn, 1) := by decide +kernel
theorem dX7_takesChild_0 : decode cX7_takesChild 0 = .ok (.aload_n 0, 1) := by decide +kernel
theorem dX7_takesChild_1 : decode cX7_takesChild 1 = .ok (.getfield 7, 3) := by decide +kernel
theorem dX7_takesChild_4 : decode cX7_takesChild 4 = .ok (.sipush 230, 3) := by decide +kernel
theorem dX7_takesChild_7 : decode cX7_takesChild 7 = .ok (.iaload, 1) := by decide +kernel
theorem dX7_takesChild_8 : decode cX7_takesChild 8 = .ok (.istore_n 1, 1) := by decide +kernel
theorem dX7_takesChild_9 : decode cX7_takesChild 9 = .ok (.aload_n 0, 1) := by decide +kernel
theorem dX7_takesChild_10 : decode cX7_takesChild 10 = .ok (.aload_n 0, 1) := by decide +kernel
theorem dX7_takesChild_11 : decode cX7_takesChild 11 = .ok (.getfield 82, 3) := by decide +kernel
theorem dX7_takesChild_14 : decode cX7_takesChild 14 = .ok (.invokevirtual 85, 3) := by decide +kernel
theorem dX7_takesChild_17 : decode cX7_takesChild 17 = .ok (.invokestatic 105, 3) := by decide +kernel
theorem dX7_takesChild_20 : decode cX7_takesChild 20 = .ok (.istore_n 2, 1) := by decide +kernel
theorem dX7_takesChild_21 : decode cX7_takesChild 21 = .ok (.iload_n 2, 1) := by decide +kernel
theorem dX7_takesChild_22 : decode cX7_takesChild 22 = .ok (.ifCond .ne 13, 3) := by decide +kernel
theorem dX7_takesChild_25 : decode cX7_takesChild 25 = .ok (.aload_n 0, 1) := by decide +kernel
theorem dX7_takesChild_26 : decode cX7_takesChild 26 = .ok (.iconst 1, 1) := by decide +kernel
theorem dX7_takesChild_27 : decode cX7_takesChild 27 = .ok (.aload_n 0, 1) := by decide +kernel
theorem dX7_takesChild_28 : decode cX7_takesChild 28 = .ok (.getfield 82, 3) := by decide +kernel
theorem dX7_takesChild_31 : decode cX7_takesChild 31 = .ok (.invokevirtual 88, 3) := by decide +kernel
theorem dX7_takesChild_34 : decode cX7_takesChild 34 = .ok (.ireturn, 1) := by decide +kernel
theorem dX7_takesChild_35 : decode cX7_takesChild 35 = .ok (.iload_n 1, 1) := by decide +kernel
theorem dX7_takesChild_36 : decode cX7_takesChild 36 = .ok (.bipush 7, 2) := by decide +kernel
theorem dX7_takesChild_38 : decode cX7_takesChild 38 = .ok (.if_icmp .ne 13, 3) := by decide +kernel
theorem dX7_takesChild_41 : decode cX7_takesChild 41 = .ok (.aload_n 0, 1) := by decide +kernel
theorem dX7_takesChild_42 : decode cX7_takesChild 42 = .ok (.iconst 3, 1) := by decide +kernel
theorem dX7_takesChild_43 : decode cX7_takesChild 43 = .ok (.aload_n 0, 1) := by decide +kernel
theorem dX7_takesChild_44 : decode cX7_takesChild 44 = .ok (.getfield 82, 3) := by decide +kernel
theorem dX7_takesChild_47 : decode cX7_takesChild 47 = .ok (.invokevirtual 88, 3) := by decide +kernel
theorem dX7_takesChild_50 : decode cX7_takesChild 50 = .ok (.ireturn, 1) := by decide +kernel
theorem dX7_takesChild_51 : decode cX7_takesChild 51 = .ok (.aload_n 0, 1) := by decide +kernel
theorem dX7_takesChild_52 : decode cX7_takesChild 52 = .ok (.dup, 1) := by decide +kernel
theorem dX7_takesChild_53 : decode cX7_takesChild 53 = .ok (.getfield 82, 3) := by decide +kernel
theorem dX7_takesChild_56 : decode cX7_takesChild 56 = .ok (.iconst 1, 1) := by decide +kernel
theorem dX7_takesChild_57 : decode cX7_takesChild 57 = .ok (.iadd, 1) := by decide +kernel
theorem dX7_takesChild_58 : decode cX7_takesChild 58 = .ok (.putfield 82, 3) := by decide +kernel
theorem dX7_takesChild_61 : decode cX7_takesChild 61 = .ok (.aload_n 0, 1) := by decide +kernel
theorem dX7_takesChild_62 : decode cX7_takesChild 62 = .ok (.getfield 7, 3) := by decide +kernel
theorem dX7_takesChild_65 : decode cX7_takesChild 65 = .ok (.sipush 231, 3) := by decide +kernel
theorem dX7_takesChild_68 : decode cX7_takesChild 68 = .ok (.iload_n 1, 1) := by decide +kernel
theorem dX7_takesChild_69 : decode cX7_takesChild 69 = .ok (.iadd, 1) := by decide +kernel
theorem dX7_takesChild_70 : decode cX7_takesChild 70 = .ok (.iload_n 2, 1) := by decide +kernel
theorem dX7_takesChild_71 : decode cX7_takesChild 71 = .ok (.iastore, 1) := by decide +kernel
theorem dX7_takesChild_72 : decode cX7_takesChild 72 = .ok (.aload_n 0, 1) := by decide +kernel
theorem dX7_takesChild_73 : decode cX7_takesChild 73 = .ok (.getfield 7, 3) := by decide +kernel
theorem dX7_takesChild_76 : decode cX7_takesChild 76 = .ok (.sipush 218, 3) := by decide +kernel
theorem dX7_takesChild_79 : decode cX7_takesChild 79 = .ok (.iload_n 1, 1) := by decide +kernel
theorem dX7_takesChild_80 : decode cX7_takesChild 80 = .ok (.iadd, 1) := by decide +kernel
theorem dX7_takesChild_81 : decode cX7_takesChild 81 = .ok (.iload_n 1, 1) := by decide +kernel
theorem dX7_takesChild_82 : decode cX7_takesChild 82 = .ok (.iastore, 1) := by decide +kernel
theorem dX7_takesChild_83 : decode cX7_takesChild 83 = .ok (.aload_n 0, 1) := by decide +kernel
theorem dX7_takesChild_84 : decode cX7_takesChild 84 = .ok (.iconst 1, 1) := by decide +kernel
theorem dX7_takesChild_85 : decode cX7_takesChild 85 = .ok (.bipush 9, 2) := by decide +kernel
theorem dX7_takesChild_87 : decode cX7_takesChild 87 = .ok (.bipush 44, 2) := by decide +kernel
theorem dX7_takesChild_89 : decode cX7_takesChild 89 = .ok (.invokevirtual 102, 3) := by decide +kernel
theorem dX7_takesChild_92 : decode cX7_takesChild 92 = .ok (.ifCond .ne 5, 3) := by decide +kernel
theorem dX7_takesChild_95 : decode cX7_takesChild 95 = .ok (.iconst 0, 1) := by decide +kernel
theorem dX7_takesChild_96 : decode cX7_takesChild 96 = .ok (.ireturn, 1) := by decide +kernel
theorem dX7_takesChild_97 : decode cX7_takesChild 97 = .ok (.aload_n 0, 1) := by decide +kernel
theorem dX7_takesChild_98 : decode cX7_takesChild 98 = .ok (.getfield 7, 3) := by decide +kernel
theorem dX7_takesChild_101 : decode cX7_takesChild 101 = .ok (.sipush 190, 3) := by decide +kernel
theorem dX7_takesChild_104 : decode cX7_takesChild 104 = .ok (.iload_n 1, 1) := by decide +kernel
theorem dX7_takesChild_105 : decode cX7_takesChild 105 = .ok (.iadd, 1) := by decide +kernel
theorem dX7_takesChild_106 : decode cX7_takesChild 106 = .ok (.aload_n 0, 1) := by decide +kernel
theorem dX7_takesChild_107 : decode cX7_takesChild 107 = .ok (.getfield 92, 3) := by decide +kernel
theorem dX7_takesChild_110 : decode cX7_takesChild 110 = .ok (.iastore, 1) := by decide +kernel
theorem dX7_takesChild_111 : decode cX7_takesChild 111 = .ok (.aload_n 0, 1) := by decide +kernel
theorem dX7_takesChild_112 : decode cX7_takesChild 112 = .ok (.iconst 0, 1) := by decide +kernel
theorem dX7_takesChild_113 : decode cX7_takesChild 113 = .ok (.bipush 9, 2) := by decide +kernel
theorem dX7_takesChild_115 : decode cX7_takesChild 115 = .ok (.bipush 44, 2) := by decide +kernel
theorem dX7_takesChild_117 : decode cX7_takesChild 117 = .ok (.invokevirtual 102, 3) := by decide +kernel
theorem dX7_takesChild_120 : decode cX7_takesChild 120 = .ok (.ifCond .ne 5, 3) := by decide +kernel
theorem dX7_takesChild_123 : decode cX7_takesChild 123 = .ok (.iconst 0, 1) := by decide +kernel
theorem dX7_takesChild_124 : decode cX7_takesChild 124 = .ok (.ireturn, 1) := by decide +kernel
theorem dX7_takesChild_125 : decode cX7_takesChild 125 = .ok (.aload_n 0, 1) := by decide +kernel
theorem dX7_takesChild_126 : decode cX7_takesChild 126 = .ok (.getfield 7, 3) := by decide +kernel
theorem dX7_takesChild_129 : decode cX7_takesChild 129 = .ok (.sipush 238, 3) := by decide +kernel
theorem dX7_takesChild_132 : decode cX7_takesChild 132 = .ok (.iload_n 1, 1) := by decide +kernel
theorem dX7_takesChild_133 : decode cX7_takesChild 133 = .ok (.iadd, 1) := by decide +kernel
theorem dX7_takesChild_134 : decode cX7_takesChild 134 = .ok (.aload_n 0, 1) := by decide +kernel
theorem dX7_takesChild_135 : decode cX7_takesChild 135 = .ok (.getfield 92, 3) := by decide +kernel
theorem dX7_takesChild_138 : decode cX7_takesChild 138 = .ok (.iastore, 1) := by decide +kernel
theorem dX7_takesChild_139 : decode cX7_takesChild 139 = .ok (.aload_n 0, 1) := by decide +kernel
theorem dX7_takesChild_140 : decode cX7_takesChild 140 = .ok (.iconst 0, 1) := by decide +kernel
theorem dX7_takesChild_141 : decode cX7_takesChild 141 = .ok (.bipush 9, 2) := by decide +kernel
theorem dX7_takesChild_143 : decode cX7_takesChild 143 = .ok (.bipush 59, 2) := by decide +kernel
theorem dX7_takesChild_145 : decode cX7_takesChild 145 = .ok (.invokevirtual 102, 3) := by decide +kernel
theorem dX7_takesChild_148 : decode cX7_takesChild 148 = .ok (.ifCond .ne 5, 3) := by decide +kernel
theorem dX7_takesChild_151 : decode cX7_takesChild 151 = .ok (.iconst 0, 1) := by decide +kernel
theorem dX7_takesChild_152 : decode cX7_takesChild 152 = .ok (.ireturn, 1) := by decide +kernel
theorem dX7_takesChild_153 : decode cX7_takesChild 153 = .ok (.aload_n 0, 1) := by decide +kernel
theorem dX7_takesChild_154 : decode cX7_takesChild 154 = .ok (.getfield 7, 3) := by decide +kernel
theorem dX7_takesChild_157 : decode cX7_takesChild 157 = .ok (.sipush 245, 3) := by decide +kernel
theorem dX7_takesChild_160 : decode cX7_takesChild 160 = .ok (.iload_n 1, 1) := by decide +kernel
theorem dX7_takesChild_161 : decode cX7_takesChild 161 = .ok (.iadd, 1) := by decide +kernel
theorem dX7_takesChild_162 : decode cX7_takesChild 162 = .ok (.aload_n 0, 1) := by decide +kernel
theorem dX7_takesChild_163 : decode cX7_takesChild 163 = .ok (.getfield 92, 3) := by decide +kernel
theorem dX7_takesChild_166 : decode cX7_takesChild 166 = .ok (.iastore, 1) := by decide +kernel
theorem dX7_takesChild_167 : decode cX7_takesChild 167 = .ok (.aload_n 0, 1) := by decide +kernel
theorem dX7_takesChild_168 : decode cX7_takesChild 168 = .ok (.getfield 7, 3) := by decide +kernel
theorem dX7_takesChild_171 : decode cX7_takesChild 171 = .ok (.sipush 230, 3) := by decide +kernel
theorem dX7_takesChild_174 : decode cX7_takesChild 174 = .ok (.dup2, 1) := by decide +kernel
theorem dX7_takesChild_175 : decode cX7_takesChild 175 = .ok (.iaload, 1) := by decide +kernel
theorem dX7_takesChild_176 : decode cX7_takesChild 176 = .ok (.iconst 1, 1) := by decide +kernel
theorem dX7_takesChild_177 : decode cX7_takesChild 177 = .ok (.iadd, 1) := by decide +kernel
theorem dX7_takesChild_178 : decode cX7_takesChild 178 = .ok (.iastore, 1) := by decide +kernel
theorem dX7_takesChild_179 : decode cX7_takesChild 179 = .ok (.iconst 1, 1) := by decide +kernel
theorem dX7_takesChild_180 : decode cX7_takesChild 180 = .ok (.ireturn, 1) := by decide +kernel
theorem dX7_copyAll_0 : decode cX7_copyAll 0 = .ok (.iconst 0, 1) := by decide +kernel
theorem dX7_copyAll_1 : decode cX7_copyAll 1 = .ok (.istore_n 3, 1) := by decide +kernel
theorem dX7_copyAll_2 : decode cX7_copyAll 2 = .ok (.iload_n 3, 1) := by decide +kernel
theorem dX7_copyAll_3 : decode cX7_copyAll 3 = .ok (.bipush 63, 2) := by decide +kernel
theorem dX7_copyAll_5 : decode cX7_copyAll 5 = .ok (.if_icmp .ge 25, 3) := by decide +kernel
theorem dX7_copyAll_8 : decode cX7_copyAll 8 = .ok (.aload_n 0, 1) := by decide +kernel
theorem dX7_copyAll_9 : decode cX7_copyAll 9 = .ok (.getfield 7, 3) := by decide +kernel
theorem dX7_copyAll_12 : decode cX7_copyAll 12 = .ok (.iload_n 2, 1) := by decide +kernel
theorem dX7_copyAll_13 : decode cX7_copyAll 13 = .ok (.iload_n 3, 1) := by decide +kernel
theorem dX7_copyAll_14 : decode cX7_copyAll 14 = .ok (.iadd, 1) := by decide +kernel
theorem dX7_copyAll_15 : decode cX7_copyAll 15 = .ok (.aload_n 0, 1) := by decide +kernel
theorem dX7_copyAll_16 : decode cX7_copyAll 16 = .ok (.getfield 7, 3) := by decide +kernel
theorem dX7_copyAll_19 : decode cX7_copyAll 19 = .ok (.iload_n 1, 1) := by decide +kernel
theorem dX7_copyAll_20 : decode cX7_copyAll 20 = .ok (.iload_n 3, 1) := by decide +kernel
theorem dX7_copyAll_21 : decode cX7_copyAll 21 = .ok (.iadd, 1) := by decide +kernel
theorem dX7_copyAll_22 : decode cX7_copyAll 22 = .ok (.iaload, 1) := by decide +kernel
theorem dX7_copyAll_23 : decode cX7_copyAll 23 = .ok (.iastore, 1) := by decide +kernel
theorem dX7_copyAll_24 : decode cX7_copyAll 24 = .ok (.iinc 3 1, 3) := by decide +kernel
theorem dX7_copyAll_27 : decode cX7_copyAll 27 = .ok (.goto (-25), 3) := by decide +kernel
theorem dX7_copyAll_30 : decode cX7_copyAll 30 = .ok (.return_, 1) := by decide +kernel
theorem dX7_room_0 : decode cX7_room 0 = .ok (.aload_n 0, 1) := by decide +kernel
theorem dX7_room_1 : decode cX7_room 1 = .ok (.iconst 0, 1) := by decide +kernel
theorem dX7_room_2 : decode cX7_room 2 = .ok (.putfield 82, 3) := by decide +kernel
theorem dX7_room_5 : decode cX7_room 5 = .ok (.aload_n 0, 1) := by decide +kernel
theorem dX7_room_6 : decode cX7_room 6 = .ok (.invokevirtual 108, 3) := by decide +kernel
theorem dX7_room_9 : decode cX7_room 9 = .ok (.istore_n 1, 1) := by decide +kernel
theorem dX7_room_10 : decode cX7_room 10 = .ok (.iload_n 1, 1) := by decide +kernel
theorem dX7_room_11 : decode cX7_room 11 = .ok (.ifCond .eq 33, 3) := by decide +kernel
theorem dX7_room_14 : decode cX7_room 14 = .ok (.aload_n 0, 1) := by decide +kernel
theorem dX7_room_15 : decode cX7_room 15 = .ok (.getfield 82, 3) := by decide +kernel
theorem dX7_room_18 : decode cX7_room 18 = .ok (.aload_n 0, 1) := by decide +kernel
theorem dX7_room_19 : decode cX7_room 19 = .ok (.getfield 72, 3) := by decide +kernel
theorem dX7_room_22 : decode cX7_room 22 = .ok (.if_icmp .lt 14, 3) := by decide +kernel
theorem dX7_room_25 : decode cX7_room 25 = .ok (.aload_n 0, 1) := by decide +kernel
theorem dX7_room_26 : decode cX7_room 26 = .ok (.getfield 7, 3) := by decide +kernel
theorem dX7_room_29 : decode cX7_room 29 = .ok (.sipush 230, 3) := by decide +kernel
theorem dX7_room_32 : decode cX7_room 32 = .ok (.iaload, 1) := by decide +kernel
theorem dX7_room_33 : decode cX7_room 33 = .ok (.ifCond .ne 11, 3) := by decide +kernel
theorem dX7_room_36 : decode cX7_room 36 = .ok (.aload_n 0, 1) := by decide +kernel
theorem dX7_room_37 : decode cX7_room 37 = .ok (.invokevirtual 112, 3) := by decide +kernel
theorem dX7_room_40 : decode cX7_room 40 = .ok (.istore_n 1, 1) := by decide +kernel
theorem dX7_room_41 : decode cX7_room 41 = .ok (.goto (-31), 3) := by decide +kernel
theorem dX7_room_44 : decode cX7_room 44 = .ok (.aload_n 0, 1) := by decide +kernel
theorem dX7_room_45 : decode cX7_room 45 = .ok (.iconst 0, 1) := by decide +kernel
theorem dX7_room_46 : decode cX7_room 46 = .ok (.putfield 72, 3) := by decide +kernel
theorem dX7_room_49 : decode cX7_room 49 = .ok (.iload_n 1, 1) := by decide +kernel
theorem dX7_room_50 : decode cX7_room 50 = .ok (.ifCond .ne 11, 3) := by decide +kernel
theorem dX7_room_53 : decode cX7_room 53 = .ok (.ldc 115, 2) := by decide +kernel
theorem dX7_room_55 : decode cX7_room 55 = .ok (.aload_n 0, 1) := by decide +kernel
theorem dX7_room_56 : decode cX7_room 56 = .ok (.getfield 79, 3) := by decide +kernel
theorem dX7_room_59 : decode cX7_room 59 = .ok (.isub, 1) := by decide +kernel
theorem dX7_room_60 : decode cX7_room 60 = .ok (.ireturn, 1) := by decide +kernel
theorem dX7_room_61 : decode cX7_room 61 = .ok (.aload_n 0, 1) := by decide +kernel
theorem dX7_room_62 : decode cX7_room 62 = .ok (.sipush 189, 3) := by decide +kernel
theorem dX7_room_65 : decode cX7_room 65 = .ok (.iconst 0, 1) := by decide +kernel
theorem dX7_room_66 : decode cX7_room 66 = .ok (.invokevirtual 116, 3) := by decide +kernel
theorem dX7_room_69 : decode cX7_room 69 = .ok (.aload_n 0, 1) := by decide +kernel
theorem dX7_room_70 : decode cX7_room 70 = .ok (.iconst 0, 1) := by decide +kernel
theorem dX7_room_71 : decode cX7_room 71 = .ok (.putfield 120, 3) := by decide +kernel
theorem dX7_room_74 : decode cX7_room 74 = .ok (.aload_n 0, 1) := by decide +kernel
theorem dX7_room_75 : decode cX7_room 75 = .ok (.getfield 7, 3) := by decide +kernel
theorem dX7_room_78 : decode cX7_room 78 = .ok (.bipush 41, 2) := by decide +kernel
theorem dX7_room_80 : decode cX7_room 80 = .ok (.iaload, 1) := by decide +kernel
theorem dX7_room_81 : decode cX7_room 81 = .ok (.ireturn, 1) := by decide +kernel
theorem dX7_fault_0 : decode cX7_fault 0 = .ok (.aload_n 0, 1) := by decide +kernel
theorem dX7_fault_1 : decode cX7_fault 1 = .ok (.getfield 76, 3) := by decide +kernel
theorem dX7_fault_4 : decode cX7_fault 4 = .ok (.ireturn, 1) := by decide +kernel
theorem dX7_isRoom_0 : decode cX7_isRoom 0 = .ok (.aload_n 0, 1) := by decide +kernel
theorem dX7_isRoom_1 : decode cX7_isRoom 1 = .ok (.getfield 7, 3) := by decide +kernel
theorem dX7_isRoom_4 : decode cX7_isRoom 4 = .ok (.bipush 38, 2) := by decide +kernel
theorem dX7_isRoom_6 : decode cX7_isRoom 6 = .ok (.iaload, 1) := by decide +kernel
theorem dX7_isRoom_7 : decode cX7_isRoom 7 = .ok (.iconst 1, 1) := by decide +kernel
theorem dX7_isRoom_8 : decode cX7_isRoom 8 = .ok (.if_icmp .ne 7, 3) := by decide +kernel
theorem dX7_isRoom_11 : decode cX7_isRoom 11 = .ok (.iconst 1, 1) := by decide +kernel
theorem dX7_isRoom_12 : decode cX7_isRoom 12 = .ok (.goto 4, 3) := by decide +kernel
theorem dX7_isRoom_15 : decode cX7_isRoom 15 = .ok (.iconst 0, 1) := by decide +kernel
theorem dX7_isRoom_16 : decode cX7_isRoom 16 = .ok (.ireturn, 1) := by decide +kernel
theorem dX7_isChild_0 : decode cX7_isChild 0 = .ok (.iload_n 1, 1) := by decide +kernel
theorem dX7_isChild_1 : decode cX7_isChild 1 = .ok (.i2l, 1) := by decide +kernel
theorem dX7_isChild_2 : decode cX7_isChild 2 = .ok (.lconst 0, 1) := by decide +kernel
theorem dX7_isChild_3 : decode cX7_isChild 3 = .ok (.aload_n 0, 1) := by decide +kernel
theorem dX7_isChild_4 : decode cX7_isChild 4 = .ok (.getfield 7, 3) := by decide +kernel
theorem dX7_isChild_7 : decode cX7_isChild 7 = .ok (.bipush 41, 2) := by decide +kernel
theorem dX7_isChild_9 : decode cX7_isChild 9 = .ok (.iaload, 1) := by decide +kernel
theorem dX7_isChild_10 : decode cX7_isChild 10 = .ok (.iconst 1, 1) := by decide +kernel
theorem dX7_isChild_11 : decode cX7_isChild 11 = .ok (.isub, 1) := by decide +kernel
theorem dX7_isChild_12 : decode cX7_isChild 12 = .ok (.i2l, 1) := by decide +kernel
theorem dX7_isChild_13 : decode cX7_isChild 13 = .ok (.invokestatic 48, 3) := by decide +kernel
theorem dX7_isChild_16 : decode cX7_isChild 16 = .ok (.ireturn, 1) := by decide +kernel
theorem dX7_off_0 : decode cX7_off 0 = .ok (.iload_n 0, 1) := by decide +kernel
theorem dX7_off_1 : decode cX7_off 1 = .ok (.iload_n 1, 1) := by decide +kernel
theorem dX7_off_2 : decode cX7_off 2 = .ok (.if_icmp .ge 9, 3) := by decide +kernel
theorem dX7_off_5 : decode cX7_off 5 = .ok (.iload_n 1, 1) := by decide +kernel
theorem dX7_off_6 : decode cX7_off 6 = .ok (.iload_n 0, 1) := by decide +kernel
theorem dX7_off_7 : decode cX7_off 7 = .ok (.isub, 1) := by decide +kernel
theorem dX7_off_8 : decode cX7_off 8 = .ok (.goto 6, 3) := by decide +kernel
theorem dX7_off_11 : decode cX7_off 11 = .ok (.iload_n 0, 1) := by decide +kernel
theorem dX7_off_12 : decode cX7_off 12 = .ok (.iload_n 1, 1) := by decide +kernel
theorem dX7_off_13 : decode cX7_off 13 = .ok (.isub, 1) := by decide +kernel
theorem dX7_off_14 : decode cX7_off 14 = .ok (.ireturn, 1) := by decide +kernel
theorem dX7_isOut_0 : decode cX7_isOut 0 = .ok (.aload_n 0, 1) := by decide +kernel
theorem dX7_isOut_1 : decode cX7_isOut 1 = .ok (.getfield 7, 3) := by decide +kernel
theorem dX7_isOut_4 : decode cX7_isOut 4 = .ok (.iload_n 1, 1) := by decide +kernel
theorem dX7_isOut_5 : decode cX7_isOut 5 = .ok (.bipush 36, 2) := by decide +kernel
theorem dX7_isOut_7 : decode cX7_isOut 7 = .ok (.iadd, 1) := by decide +kernel
theorem dX7_isOut_8 : decode cX7_isOut 8 = .ok (.iaload, 1) := by decide +kernel
theorem dX7_isOut_9 : decode cX7_isOut 9 = .ok (.iload_n 2, 1) := by decide +kernel
theorem dX7_isOut_10 : decode cX7_isOut 10 = .ok (.invokestatic 123, 3) := by decide +kernel
theorem dX7_isOut_13 : decode cX7_isOut 13 = .ok (.ireturn, 1) := by decide +kernel
theorem dX7_noiseAt_0 : decode cX7_noiseAt 0 = .ok (.iconst 0, 1) := by decide +kernel
theorem dX7_noiseAt_1 : decode cX7_noiseAt 1 = .ok (.istore_n 3, 1) := by decide +kernel
theorem dX7_noiseAt_2 : decode cX7_noiseAt 2 = .ok (.iconst 0, 1) := by decide +kernel
theorem dX7_noiseAt_3 : decode cX7_noiseAt 3 = .ok (.istore 4, 2) := by decide +kernel
theorem dX7_noiseAt_5 : decode cX7_noiseAt 5 = .ok (.iload 4, 2) := by decide +kernel
theorem dX7_noiseAt_7 : decode cX7_noiseAt 7 = .ok (.aload_n 0, 1) := by decide +kernel
theorem dX7_noiseAt_8 : decode cX7_noiseAt 8 = .ok (.getfield 7, 3) := by decide +kernel
theorem dX7_noiseAt_11 : decode cX7_noiseAt 11 = .ok (.iload_n 1, 1) := by decide +kernel
theorem dX7_noiseAt_12 : decode cX7_noiseAt 12 = .ok (.bipush 41, 2) := by decide +kernel
theorem dX7_noiseAt_14 : decode cX7_noiseAt 14 = .ok (.iadd, 1) := by decide +kernel
theorem dX7_noiseAt_15 : decode cX7_noiseAt 15 = .ok (.iaload, 1) := by decide +kernel
theorem dX7_noiseAt_16 : decode cX7_noiseAt 16 = .ok (.if_icmp .ge 135, 3) := by decide +kernel
theorem dX7_noiseAt_19 : decode cX7_noiseAt 19 = .ok (.iload 4, 2) := by decide +kernel
theorem dX7_noiseAt_21 : decode cX7_noiseAt 21 = .ok (.iload_n 2, 1) := by decide +kernel
theorem dX7_noiseAt_22 : decode cX7_noiseAt 22 = .ok (.if_icmp .eq 123, 3) := by decide +kernel
theorem dX7_noiseAt_25 : decode cX7_noiseAt 25 = .ok (.aload_n 0, 1) := by decide +kernel
theorem dX7_noiseAt_26 : decode cX7_noiseAt 26 = .ok (.getfield 7, 3) := by decide +kernel
theorem dX7_noiseAt_29 : decode cX7_noiseAt 29 = .ok (.iload_n 1, 1) := by decide +kernel
theorem dX7_noiseAt_30 : decode cX7_noiseAt 30 = .ok (.bipush 8, 2) := by decide +kernel
theorem dX7_noiseAt_32 : decode cX7_noiseAt 32 = .ok (.iadd, 1) := by decide +kernel
theorem dX7_noiseAt_33 : decode cX7_noiseAt 33 = .ok (.iload 4, 2) := by decide +kernel
theorem dX7_noiseAt_35 : decode cX7_noiseAt 35 = .ok (.iadd, 1) := by decide +kernel
theorem dX7_noiseAt_36 : decode cX7_noiseAt 36 = .ok (.iaload, 1) := by decide +kernel
theorem dX7_noiseAt_37 : decode cX7_noiseAt 37 = .ok (.iconst 1, 1) := by decide +kernel
theorem dX7_noiseAt_38 : decode cX7_noiseAt 38 = .ok (.if_icmp .ne 107, 3) := by decide +kernel
theorem dX7_noiseAt_41 : decode cX7_noiseAt 41 = .ok (.aload_n 0, 1) := by decide +kernel
theorem dX7_noiseAt_42 : decode cX7_noiseAt 42 = .ok (.iload_n 1, 1) := by decide +kernel
theorem dX7_noiseAt_43 : decode cX7_noiseAt 43 = .ok (.iload 4, 2) := by decide +kernel
theorem dX7_noiseAt_45 : decode cX7_noiseAt 45 = .ok (.invokevirtual 126, 3) := by decide +kernel
theorem dX7_noiseAt_48 : decode cX7_noiseAt 48 = .ok (.ifCond .ne 97, 3) := by decide +kernel
theorem dX7_noiseAt_51 : decode cX7_noiseAt 51 = .ok (.aload_n 0, 1) := by decide +kernel
theorem dX7_noiseAt_52 : decode cX7_noiseAt 52 = .ok (.getfield 7, 3) := by decide +kernel
theorem dX7_noiseAt_55 : decode cX7_noiseAt 55 = .ok (.iload_n 1, 1) := by decide +kernel
theorem dX7_noiseAt_56 : decode cX7_noiseAt 56 = .ok (.bipush 42, 2) := by decide +kernel
theorem dX7_noiseAt_58 : decode cX7_noiseAt 58 = .ok (.iadd, 1) := by decide +kernel
theorem dX7_noiseAt_59 : decode cX7_noiseAt 59 = .ok (.iload 4, 2) := by decide +kernel
theorem dX7_noiseAt_61 : decode cX7_noiseAt 61 = .ok (.iadd, 1) := by decide +kernel
theorem dX7_noiseAt_62 : decode cX7_noiseAt 62 = .ok (.iaload, 1) := by decide +kernel
theorem dX7_noiseAt_63 : decode cX7_noiseAt 63 = .ok (.iconst 2, 1) := by decide +kernel
theorem dX7_noiseAt_64 : decode cX7_noiseAt 64 = .ok (.if_icmp .ne 20, 3) := by decide +kernel
theorem dX7_noiseAt_67 : decode cX7_noiseAt 67 = .ok (.iconst 2, 1) := by decide +kernel
theorem dX7_noiseAt_68 : decode cX7_noiseAt 68 = .ok (.aload_n 0, 1) := by decide +kernel
theorem dX7_noiseAt_69 : decode cX7_noiseAt 69 = .ok (.getfield 7, 3) := by decide +kernel
theorem dX7_noiseAt_72 : decode cX7_noiseAt 72 = .ok (.iload_n 1, 1) := by decide +kernel
theorem dX7_noiseAt_73 : decode cX7_noiseAt 73 = .ok (.bipush 56, 2) := by decide +kernel
theorem dX7_noiseAt_75 : decode cX7_noiseAt 75 = .ok (.iadd, 1) := by decide +kernel
theorem dX7_noiseAt_76 : decode cX7_noiseAt 76 = .ok (.iload 4, 2) := by decide +kernel
theorem dX7_noiseAt_78 : decode cX7_noiseAt 78 = .ok (.iadd, 1) := by decide +kernel
theorem dX7_noiseAt_79 : decode cX7_noiseAt 79 = .ok (.iaload, 1) := by decide +kernel
theorem dX7_noiseAt_80 : decode cX7_noiseAt 80 = .ok (.imul, 1) := by decide +kernel
theorem dX7_noiseAt_81 : decode cX7_noiseAt 81 = .ok (.goto 15, 3) := by decide +kernel
theorem dX7_noiseAt_84 : decode cX7_noiseAt 84 = .ok (.aload_n 0, 1) := by decide +kernel
theorem dX7_noiseAt_85 : decode cX7_noiseAt 85 = .ok (.getfield 7, 3) := by decide +kernel
theorem dX7_noiseAt_88 : decode cX7_noiseAt 88 = .ok (.iload_n 1, 1) := by decide +kernel
theorem dX7_noiseAt_89 : decode cX7_noiseAt 89 = .ok (.bipush 56, 2) := by decide +kernel
theorem dX7_noiseAt_91 : decode cX7_noiseAt 91 = .ok (.iadd, 1) := by decide +kernel
theorem dX7_noiseAt_92 : decode cX7_noiseAt 92 = .ok (.iload 4, 2) := by decide +kernel
theorem dX7_noiseAt_94 : decode cX7_noiseAt 94 = .ok (.iadd, 1) := by decide +kernel
theorem dX7_noiseAt_95 : decode cX7_noiseAt 95 = .ok (.iaload, 1) := by decide +kernel
theorem dX7_noiseAt_96 : decode cX7_noiseAt 96 = .ok (.istore 5, 2) := by decide +kernel
theorem dX7_noiseAt_98 : decode cX7_noiseAt 98 = .ok (.aload_n 0, 1) := by decide +kernel
theorem dX7_noiseAt_99 : decode cX7_noiseAt 99 = .ok (.getfield 7, 3) := by decide +kernel
theorem dX7_noiseAt_102 : decode cX7_noiseAt 102 = .ok (.iload_n 1, 1) := by decide +kernel
theorem dX7_noiseAt_103 : decode cX7_noiseAt 103 = .ok (.bipush 29, 2) := by decide +kernel
theorem dX7_noiseAt_105 : decode cX7_noiseAt 105 = .ok (.iadd, 1) := by decide +kernel
theorem dX7_noiseAt_106 : decode cX7_noiseAt 106 = .ok (.iload 4, 2) := by decide +kernel
theorem dX7_noiseAt_108 : decode cX7_noiseAt 108 = .ok (.iadd, 1) := by decide +kernel
theorem dX7_noiseAt_109 : decode cX7_noiseAt 109 = .ok (.iaload, 1) := by decide +kernel
theorem dX7_noiseAt_110 : decode cX7_noiseAt 110 = .ok (.aload_n 0, 1) := by decide +kernel
theorem dX7_noiseAt_111 : decode cX7_noiseAt 111 = .ok (.getfield 7, 3) := by decide +kernel
theorem dX7_noiseAt_114 : decode cX7_noiseAt 114 = .ok (.iload_n 1, 1) := by decide +kernel
theorem dX7_noiseAt_115 : decode cX7_noiseAt 115 = .ok (.bipush 29, 2) := by decide +kernel
theorem dX7_noiseAt_117 : decode cX7_noiseAt 117 = .ok (.iadd, 1) := by decide +kernel
theorem dX7_noiseAt_118 : decode cX7_noiseAt 118 = .ok (.iload_n 2, 1) := by decide +kernel
theorem dX7_noiseAt_119 : decode cX7_noiseAt 119 = .ok (.iadd, 1) := by decide +kernel
theorem dX7_noiseAt_120 : decode cX7_noiseAt 120 = .ok (.iaload, 1) := by decide +kernel
theorem dX7_noiseAt_121 : decode cX7_noiseAt 121 = .ok (.invokestatic 129, 3) := by decide +kernel
theorem dX7_noiseAt_124 : decode cX7_noiseAt 124 = .ok (.istore 6, 2) := by decide +kernel
theorem dX7_noiseAt_126 : decode cX7_noiseAt 126 = .ok (.iload_n 3, 1) := by decide +kernel
theorem dX7_noiseAt_127 : decode cX7_noiseAt 127 = .ok (.iload 5, 2) := by decide +kernel
theorem dX7_noiseAt_129 : decode cX7_noiseAt 129 = .ok (.iload 6, 2) := by decide +kernel
theorem dX7_noiseAt_131 : decode cX7_noiseAt 131 = .ok (.if_icmp .le 11, 3) := by decide +kernel
theorem dX7_noiseAt_134 : decode cX7_noiseAt 134 = .ok (.iload 5, 2) := by decide +kernel
theorem dX7_noiseAt_136 : decode cX7_noiseAt 136 = .ok (.iload 6, 2) := by decide +kernel
theorem dX7_noiseAt_138 : decode cX7_noiseAt 138 = .ok (.isub, 1) := by decide +kernel
theorem dX7_noiseAt_139 : decode cX7_noiseAt 139 = .ok (.goto 4, 3) := by decide +kernel
theorem dX7_noiseAt_142 : decode cX7_noiseAt 142 = .ok (.iconst 0, 1) := by decide +kernel
theorem dX7_noiseAt_143 : decode cX7_noiseAt 143 = .ok (.iadd, 1) := by decide +kernel
theorem dX7_noiseAt_144 : decode cX7_noiseAt 144 = .ok (.istore_n 3, 1) := by decide +kernel
theorem dX7_noiseAt_145 : decode cX7_noiseAt 145 = .ok (.iinc 4 1, 3) := by decide +kernel
theorem dX7_noiseAt_148 : decode cX7_noiseAt 148 = .ok (.goto (-143), 3) := by decide +kernel
theorem dX7_noiseAt_151 : decode cX7_noiseAt 151 = .ok (.iload_n 3, 1) := by decide +kernel
theorem dX7_noiseAt_152 : decode cX7_noiseAt 152 = .ok (.ireturn, 1) := by decide +kernel
theorem dX7_bears_0 : decode cX7_bears 0 = .ok (.aload_n 0, 1) := by decide +kernel
theorem dX7_bears_1 : decode cX7_bears 1 = .ok (.getfield 7, 3) := by decide +kernel
theorem dX7_bears_4 : decode cX7_bears 4 = .ok (.iload_n 1, 1) := by decide +kernel
theorem dX7_bears_5 : decode cX7_bears 5 = .ok (.bipush 42, 2) := by decide +kernel
theorem dX7_bears_7 : decode cX7_bears 7 = .ok (.iadd, 1) := by decide +kernel
theorem dX7_bears_8 : decode cX7_bears 8 = .ok (.iload_n 2, 1) := by decide +kernel
theorem dX7_bears_9 : decode cX7_bears 9 = .ok (.iadd, 1) := by decide +kernel
theorem dX7_bears_10 : decode cX7_bears 10 = .ok (.iaload, 1) := by decide +kernel
theorem dX7_bears_11 : decode cX7_bears 11 = .ok (.iconst 4, 1) := by decide +kernel
theorem dX7_bears_12 : decode cX7_bears 12 = .ok (.if_icmp .lt 19, 3) := by decide +kernel
theorem dX7_bears_15 : decode cX7_bears 15 = .ok (.iconst 2, 1) := by decide +kernel
theorem dX7_bears_16 : decode cX7_bears 16 = .ok (.aload_n 0, 1) := by decide +kernel
theorem dX7_bears_17 : decode cX7_bears 17 = .ok (.getfield 7, 3) := by decide +kernel
theorem dX7_bears_20 : decode cX7_bears 20 = .ok (.iload_n 1, 1) := by decide +kernel
theorem dX7_bears_21 : decode cX7_bears 21 = .ok (.bipush 49, 2) := by decide +kernel
theorem dX7_bears_23 : decode cX7_bears 23 = .ok (.iadd, 1) := by decide +kernel
theorem dX7_bears_24 : decode cX7_bears 24 = .ok (.iload_n 2, 1) := by decide +kernel
theorem dX7_bears_25 : decode cX7_bears 25 = .ok (.iadd, 1) := by decide +kernel
theorem dX7_bears_26 : decode cX7_bears 26 = .ok (.iaload, 1) := by decide +kernel
theorem dX7_bears_27 : decode cX7_bears 27 = .ok (.imul, 1) := by decide +kernel
theorem dX7_bears_28 : decode cX7_bears 28 = .ok (.goto 14, 3) := by decide +kernel
theorem dX7_bears_31 : decode cX7_bears 31 = .ok (.aload_n 0, 1) := by decide +kernel
theorem dX7_bears_32 : decode cX7_bears 32 = .ok (.getfield 7, 3) := by decide +kernel
theorem dX7_bears_35 : decode cX7_bears 35 = .ok (.iload_n 1, 1) := by decide +kernel
theorem dX7_bears_36 : decode cX7_bears 36 = .ok (.bipush 49, 2) := by decide +kernel
theorem dX7_bears_38 : decode cX7_bears 38 = .ok (.iadd, 1) := by decide +kernel
theorem dX7_bears_39 : decode cX7_bears 39 = .ok (.iload_n 2, 1) := by decide +kernel
theorem dX7_bears_40 : decode cX7_bears 40 = .ok (.iadd, 1) := by decide +kernel
theorem dX7_bears_41 : decode cX7_bears 41 = .ok (.iaload, 1) := by decide +kernel
theorem dX7_bears_42 : decode cX7_bears 42 = .ok (.ireturn, 1) := by decide +kernel
theorem dX7_wakesUp_0 : decode cX7_wakesUp 0 = .ok (.aload_n 0, 1) := by decide +kernel
theorem dX7_wakesUp_1 : decode cX7_wakesUp 1 = .ok (.getfield 7, 3) := by decide +kernel
theorem dX7_wakesUp_4 : decode cX7_wakesUp 4 = .ok (.iload_n 1, 1) := by decide +kernel
theorem dX7_wakesUp_5 : decode cX7_wakesUp 5 = .ok (.bipush 42, 2) := by decide +kernel
theorem dX7_wakesUp_7 : decode cX7_wakesUp 7 = .ok (.iadd, 1) := by decide +kernel
theorem dX7_wakesUp_8 : decode cX7_wakesUp 8 = .ok (.iload_n 2, 1) := by decide +kernel
theorem dX7_wakesUp_9 : decode cX7_wakesUp 9 = .ok (.iadd, 1) := by decide +kernel
theorem dX7_wakesUp_10 : decode cX7_wakesUp 10 = .ok (.iaload, 1) := by decide +kernel
theorem dX7_wakesUp_11 : decode cX7_wakesUp 11 = .ok (.iconst 5, 1) := by decide +kernel
theorem dX7_wakesUp_12 : decode cX7_wakesUp 12 = .ok (.if_icmp .ne 7, 3) := by decide +kernel
theorem dX7_wakesUp_15 : decode cX7_wakesUp 15 = .ok (.iconst 1, 1) := by decide +kernel
theorem dX7_wakesUp_16 : decode cX7_wakesUp 16 = .ok (.goto 4, 3) := by decide +kernel
theorem dX7_wakesUp_19 : decode cX7_wakesUp 19 = .ok (.iconst 0, 1) := by decide +kernel
theorem dX7_wakesUp_20 : decode cX7_wakesUp 20 = .ok (.istore_n 3, 1) := by decide +kernel
theorem dX7_wakesUp_21 : decode cX7_wakesUp 21 = .ok (.aload_n 0, 1) := by decide +kernel
theorem dX7_wakesUp_22 : decode cX7_wakesUp 22 = .ok (.getfield 7, 3) := by decide +kernel
theorem dX7_wakesUp_25 : decode cX7_wakesUp 25 = .ok (.iload_n 1, 1) := by decide +kernel
theorem dX7_wakesUp_26 : decode cX7_wakesUp 26 = .ok (.bipush 8, 2) := by decide +kernel
theorem dX7_wakesUp_28 : decode cX7_wakesUp 28 = .ok (.iadd, 1) := by decide +kernel
theorem dX7_wakesUp_29 : decode cX7_wakesUp 29 = .ok (.iload_n 2, 1) := by decide +kernel
theorem dX7_wakesUp_30 : decode cX7_wakesUp 30 = .ok (.iadd, 1) := by decide +kernel
theorem dX7_wakesUp_31 : decode cX7_wakesUp 31 = .ok (.iload_n 3, 1) := by decide +kernel
theorem dX7_wakesUp_32 : decode cX7_wakesUp 32 = .ok (.ifCond .eq 7, 3) := by decide +kernel
theorem dX7_wakesUp_35 : decode cX7_wakesUp 35 = .ok (.iconst 0, 1) := by decide +kernel
theorem dX7_wakesUp_36 : decode cX7_wakesUp 36 = .ok (.goto 4, 3) := by decide +kernel
theorem dX7_wakesUp_39 : decode cX7_wakesUp 39 = .ok (.iconst 1, 1) := by decide +kernel
theorem dX7_wakesUp_40 : decode cX7_wakesUp 40 = .ok (.iastore, 1) := by decide +kernel
theorem dX7_wakesUp_41 : decode cX7_wakesUp 41 = .ok (.aload_n 0, 1) := by decide +kernel
theorem dX7_wakesUp_42 : decode cX7_wakesUp 42 = .ok (.getfield 7, 3) := by decide +kernel
theorem dX7_wakesUp_45 : decode cX7_wakesUp 45 = .ok (.iload_n 1, 1) := by decide +kernel
theorem dX7_wakesUp_46 : decode cX7_wakesUp 46 = .ok (.bipush 15, 2) := by decide +kernel
theorem dX7_wakesUp_48 : decode cX7_wakesUp 48 = .ok (.iadd, 1) := by decide +kernel
theorem dX7_wakesUp_49 : decode cX7_wakesUp 49 = .ok (.iload_n 2, 1) := by decide +kernel
theorem dX7_wakesUp_50 : decode cX7_wakesUp 50 = .ok (.iadd, 1) := by decide +kernel
theorem dX7_wakesUp_51 : decode cX7_wakesUp 51 = .ok (.iload_n 3, 1) := by decide +kernel
theorem dX7_wakesUp_52 : decode cX7_wakesUp 52 = .ok (.ifCond .eq 7, 3) := by decide +kernel
theorem dX7_wakesUp_55 : decode cX7_wakesUp 55 = .ok (.iconst 0, 1) := by decide +kernel
theorem dX7_wakesUp_56 : decode cX7_wakesUp 56 = .ok (.goto 12, 3) := by decide +kernel
theorem dX7_wakesUp_59 : decode cX7_wakesUp 59 = .ok (.aload_n 0, 1) := by decide +kernel
theorem dX7_wakesUp_60 : decode cX7_wakesUp 60 = .ok (.getfield 7, 3) := by decide +kernel
theorem dX7_wakesUp_63 : decode cX7_wakesUp 63 = .ok (.iload_n 1, 1) := by decide +kernel
theorem dX7_wakesUp_64 : decode cX7_wakesUp 64 = .ok (.bipush 40, 2) := by decide +kernel
theorem dX7_wakesUp_66 : decode cX7_wakesUp 66 = .ok (.iadd, 1) := by decide +kernel
theorem dX7_wakesUp_67 : decode cX7_wakesUp 67 = .ok (.iaload, 1) := by decide +kernel
theorem dX7_wakesUp_68 : decode cX7_wakesUp 68 = .ok (.iastore, 1) := by decide +kernel
theorem dX7_wakesUp_69 : decode cX7_wakesUp 69 = .ok (.aload_n 0, 1) := by decide +kernel
theorem dX7_wakesUp_70 : decode cX7_wakesUp 70 = .ok (.getfield 7, 3) := by decide +kernel
theorem dX7_wakesUp_73 : decode cX7_wakesUp 73 = .ok (.iload_n 1, 1) := by decide +kernel
theorem dX7_wakesUp_74 : decode cX7_wakesUp 74 = .ok (.bipush 22, 2) := by decide +kernel
theorem dX7_wakesUp_76 : decode cX7_wakesUp 76 = .ok (.iadd, 1) := by decide +kernel
theorem dX7_wakesUp_77 : decode cX7_wakesUp 77 = .ok (.iload_n 2, 1) := by decide +kernel
theorem dX7_wakesUp_78 : decode cX7_wakesUp 78 = .ok (.iadd, 1) := by decide +kernel
theorem dX7_wakesUp_79 : decode cX7_wakesUp 79 = .ok (.iconst 0, 1) := by decide +kernel
theorem dX7_wakesUp_80 : decode cX7_wakesUp 80 = .ok (.iastore, 1) := by decide +kernel
theorem dX7_wakesUp_81 : decode cX7_wakesUp 81 = .ok (.return_, 1) := by decide +kernel
theorem dX7_weepsOn_0 : decode cX7_weepsOn 0 = .ok (.aload_n 0, 1) := by decide +kernel
theorem dX7_weepsOn_1 : decode cX7_weepsOn 1 = .ok (.getfield 7, 3) := by decide +kernel
theorem dX7_weepsOn_4 : decode cX7_weepsOn 4 = .ok (.iload_n 1, 1) := by decide +kernel
theorem dX7_weepsOn_5 : decode cX7_weepsOn 5 = .ok (.bipush 15, 2) := by decide +kernel
theorem dX7_weepsOn_7 : decode cX7_weepsOn 7 = .ok (.iadd, 1) := by decide +kernel
theorem dX7_weepsOn_8 : decode cX7_weepsOn 8 = .ok (.iload_n 2, 1) := by decide +kernel
theorem dX7_weepsOn_9 : decode cX7_weepsOn 9 = .ok (.iadd, 1) := by decide +kernel
theorem dX7_weepsOn_10 : decode cX7_weepsOn 10 = .ok (.dup2, 1) := by decide +kernel
theorem dX7_weepsOn_11 : decode cX7_weepsOn 11 = .ok (.iaload, 1) := by decide +kernel
theorem dX7_weepsOn_12 : decode cX7_weepsOn 12 = .ok (.iload_n 3, 1) := by decide +kernel
theorem dX7_weepsOn_13 : decode cX7_weepsOn 13 = .ok (.isub, 1) := by decide +kernel
theorem dX7_weepsOn_14 : decode cX7_weepsOn 14 = .ok (.iastore, 1) := by decide +kernel
theorem dX7_weepsOn_15 : decode cX7_weepsOn 15 = .ok (.aload_n 0, 1) := by decide +kernel
theorem dX7_weepsOn_16 : decode cX7_weepsOn 16 = .ok (.getfield 7, 3) := by decide +kernel
theorem dX7_weepsOn_19 : decode cX7_weepsOn 19 = .ok (.iload_n 1, 1) := by decide +kernel
theorem dX7_weepsOn_20 : decode cX7_weepsOn 20 = .ok (.bipush 15, 2) := by decide +kernel
theorem dX7_weepsOn_22 : decode cX7_weepsOn 22 = .ok (.iadd, 1) := by decide +kernel
theorem dX7_weepsOn_23 : decode cX7_weepsOn 23 = .ok (.iload_n 2, 1) := by decide +kernel
theorem dX7_weepsOn_24 : decode cX7_weepsOn 24 = .ok (.iadd, 1) := by decide +kernel
theorem dX7_weepsOn_25 : decode cX7_weepsOn 25 = .ok (.iaload, 1) := by decide +kernel
theorem dX7_weepsOn_26 : decode cX7_weepsOn 26 = .ok (.ifCond .gt 39, 3) := by decide +kernel
theorem dX7_weepsOn_29 : decode cX7_weepsOn 29 = .ok (.aload_n 0, 1) := by decide +kernel
theorem dX7_weepsOn_30 : decode cX7_weepsOn 30 = .ok (.getfield 7, 3) := by decide +kernel
theorem dX7_weepsOn_33 : decode cX7_weepsOn 33 = .ok (.iload_n 1, 1) := by decide +kernel
theorem dX7_weepsOn_34 : decode cX7_weepsOn 34 = .ok (.bipush 15, 2) := by decide +kernel
theorem dX7_weepsOn_36 : decode cX7_weepsOn 36 = .ok (.iadd, 1) := by decide +kernel
theorem dX7_weepsOn_37 : decode cX7_weepsOn 37 = .ok (.iload_n 2, 1) := by decide +kernel
theorem dX7_weepsOn_38 : decode cX7_weepsOn 38 = .ok (.iadd, 1) := by decide +kernel
theorem dX7_weepsOn_39 : decode cX7_weepsOn 39 = .ok (.iconst 0, 1) := by decide +kernel
theorem dX7_weepsOn_40 : decode cX7_weepsOn 40 = .ok (.iastore, 1) := by decide +kernel
theorem dX7_weepsOn_41 : decode cX7_weepsOn 41 = .ok (.aload_n 0, 1) := by decide +kernel
theorem dX7_weepsOn_42 : decode cX7_weepsOn 42 = .ok (.getfield 7, 3) := by decide +kernel
theorem dX7_weepsOn_45 : decode cX7_weepsOn 45 = .ok (.iload_n 1, 1) := by decide +kernel
theorem dX7_weepsOn_46 : decode cX7_weepsOn 46 = .ok (.bipush 8, 2) := by decide +kernel
theorem dX7_weepsOn_48 : decode cX7_weepsOn 48 = .ok (.iadd, 1) := by decide +kernel
theorem dX7_weepsOn_49 : decode cX7_weepsOn 49 = .ok (.iload_n 2, 1) := by decide +kernel
theorem dX7_weepsOn_50 : decode cX7_weepsOn 50 = .ok (.iadd, 1) := by decide +kernel
theorem dX7_weepsOn_51 : decode cX7_weepsOn 51 = .ok (.iconst 0, 1) := by decide +kernel
theorem dX7_weepsOn_52 : decode cX7_weepsOn 52 = .ok (.iastore, 1) := by decide +kernel
theorem dX7_weepsOn_53 : decode cX7_weepsOn 53 = .ok (.aload_n 0, 1) := by decide +kernel
theorem dX7_weepsOn_54 : decode cX7_weepsOn 54 = .ok (.getfield 7, 3) := by decide +kernel
theorem dX7_weepsOn_57 : decode cX7_weepsOn 57 = .ok (.iload_n 1, 1) := by decide +kernel
theorem dX7_weepsOn_58 : decode cX7_weepsOn 58 = .ok (.bipush 22, 2) := by decide +kernel
theorem dX7_weepsOn_60 : decode cX7_weepsOn 60 = .ok (.iadd, 1) := by decide +kernel
theorem dX7_weepsOn_61 : decode cX7_weepsOn 61 = .ok (.iload_n 2, 1) := by decide +kernel
theorem dX7_weepsOn_62 : decode cX7_weepsOn 62 = .ok (.iadd, 1) := by decide +kernel
theorem dX7_weepsOn_63 : decode cX7_weepsOn 63 = .ok (.iconst 0, 1) := by decide +kernel
theorem dX7_weepsOn_64 : decode cX7_weepsOn 64 = .ok (.iastore, 1) := by decide +kernel
theorem dX7_weepsOn_65 : decode cX7_weepsOn 65 = .ok (.return_, 1) := by decide +kernel
theorem dX7_liesOn_0 : decode cX7_liesOn 0 = .ok (.aload_n 0, 1) := by decide +kernel
theorem dX7_liesOn_1 : decode cX7_liesOn 1 = .ok (.getfield 7, 3) := by decide +kernel
theorem dX7_liesOn_4 : decode cX7_liesOn 4 = .ok (.iload_n 1, 1) := by decide +kernel
theorem dX7_liesOn_5 : decode cX7_liesOn 5 = .ok (.bipush 37, 2) := by decide +kernel
theorem dX7_liesOn_7 : decode cX7_liesOn 7 = .ok (.iadd, 1) := by decide +kernel
theorem dX7_liesOn_8 : decode cX7_liesOn 8 = .ok (.iaload, 1) := by decide +kernel
theorem dX7_liesOn_9 : decode cX7_liesOn 9 = .ok (.iload_n 2, 1) := by decide +kernel
theorem dX7_liesOn_10 : decode cX7_liesOn 10 = .ok (.invokestatic 123, 3) := by decide +kernel
theorem dX7_liesOn_13 : decode cX7_liesOn 13 = .ok (.istore 4, 2) := by decide +kernel
theorem dX7_liesOn_15 : decode cX7_liesOn 15 = .ok (.iload 4, 2) := by decide +kernel
theorem dX7_liesOn_17 : decode cX7_liesOn 17 = .ok (.ifCond .eq 7, 3) := by decide +kernel
theorem dX7_liesOn_20 : decode cX7_liesOn 20 = .ok (.iconst 2, 1) := by decide +kernel
theorem dX7_liesOn_21 : decode cX7_liesOn 21 = .ok (.goto 23, 3) := by decide +kernel
theorem dX7_liesOn_24 : decode cX7_liesOn 24 = .ok (.aload_n 0, 1) := by decide +kernel
theorem dX7_liesOn_25 : decode cX7_liesOn 25 = .ok (.getfield 7, 3) := by decide +kernel
theorem dX7_liesOn_28 : decode cX7_liesOn 28 = .ok (.iload_n 1, 1) := by decide +kernel
theorem dX7_liesOn_29 : decode cX7_liesOn 29 = .ok (.bipush 42, 2) := by decide +kernel
theorem dX7_liesOn_31 : decode cX7_liesOn 31 = .ok (.iadd, 1) := by decide +kernel
theorem dX7_liesOn_32 : decode cX7_liesOn 32 = .ok (.iload_n 2, 1) := by decide +kernel
theorem dX7_liesOn_33 : decode cX7_liesOn 33 = .ok (.iadd, 1) := by decide +kernel
theorem dX7_liesOn_34 : decode cX7_liesOn 34 = .ok (.iaload, 1) := by decide +kernel
theorem dX7_liesOn_35 : decode cX7_liesOn 35 = .ok (.iconst 3, 1) := by decide +kernel
theorem dX7_liesOn_36 : decode cX7_liesOn 36 = .ok (.if_icmp .ne 7, 3) := by decide +kernel
theorem dX7_liesOn_39 : decode cX7_liesOn 39 = .ok (.iconst 0, 1) := by decide +kernel
theorem dX7_liesOn_40 : decode cX7_liesOn 40 = .ok (.goto 4, 3) := by decide +kernel
theorem dX7_liesOn_43 : decode cX7_liesOn 43 = .ok (.iconst 1, 1) := by decide +kernel
theorem dX7_liesOn_44 : decode cX7_liesOn 44 = .ok (.istore 5, 2) := by decide +kernel
theorem dX7_liesOn_46 : decode cX7_liesOn 46 = .ok (.aload_n 0, 1) := by decide +kernel
theorem dX7_liesOn_47 : decode cX7_liesOn 47 = .ok (.getfield 7, 3) := by decide +kernel
theorem dX7_liesOn_50 : decode cX7_liesOn 50 = .ok (.iload_n 1, 1) := by decide +kernel
theorem dX7_liesOn_51 : decode cX7_liesOn 51 = .ok (.bipush 22, 2) := by decide +kernel
theorem dX7_liesOn_53 : decode cX7_liesOn 53 = .ok (.iadd, 1) := by decide +kernel
end
section
/-! what stands at each place of the code -/
theorem dX7_liesOn_54 : decode cX7_liesOn 54 = .ok (.iload_n 2, 1) := by decide +kernel
theorem dX7_liesOn_55 : decode cX7_liesOn 55 = .ok (.iadd, 1) := by decide +kernel
theorem dX7_liesOn_56 : decode cX7_liesOn 56 = .ok (.iload_n 3, 1) := by decide +kernel
theorem dX7_liesOn_57 : decode cX7_liesOn 57 = .ok (.ifCond .eq 7, 3) := by decide +kernel
theorem dX7_liesOn_60 : decode cX7_liesOn 60 = .ok (.iconst 0, 1) := by decide +kernel
theorem dX7_liesOn_61 : decode cX7_liesOn 61 = .ok (.goto 17, 3) := by decide +kernel
theorem dX7_liesOn_64 : decode cX7_liesOn 64 = .ok (.aload_n 0, 1) := by decide +kernel
theorem dX7_liesOn_65 : decode cX7_liesOn 65 = .ok (.getfield 7, 3) := by decide +kernel
theorem dX7_liesOn_68 : decode cX7_liesOn 68 = .ok (.iload_n 1, 1) := by decide +kernel
theorem dX7_liesOn_69 : decode cX7_liesOn 69 = .ok (.bipush 22, 2) := by decide +kernel
theorem dX7_liesOn_71 : decode cX7_liesOn 71 = .ok (.iadd, 1) := by decide +kernel
theorem dX7_liesOn_72 : decode cX7_liesOn 72 = .ok (.iload_n 2, 1) := by decide +kernel
theorem dX7_liesOn_73 : decode cX7_liesOn 73 = .ok (.iadd, 1) := by decide +kernel
theorem dX7_liesOn_74 : decode cX7_liesOn 74 = .ok (.iaload, 1) := by decide +kernel
theorem dX7_liesOn_75 : decode cX7_liesOn 75 = .ok (.iload 5, 2) := by decide +kernel
theorem dX7_liesOn_77 : decode cX7_liesOn 77 = .ok (.iadd, 1) := by decide +kernel
theorem dX7_liesOn_78 : decode cX7_liesOn 78 = .ok (.iastore, 1) := by decide +kernel
theorem dX7_liesOn_79 : decode cX7_liesOn 79 = .ok (.aload_n 0, 1) := by decide +kernel
theorem dX7_liesOn_80 : decode cX7_liesOn 80 = .ok (.getfield 7, 3) := by decide +kernel
theorem dX7_liesOn_83 : decode cX7_liesOn 83 = .ok (.iload_n 1, 1) := by decide +kernel
theorem dX7_liesOn_84 : decode cX7_liesOn 84 = .ok (.bipush 22, 2) := by decide +kernel
theorem dX7_liesOn_86 : decode cX7_liesOn 86 = .ok (.iadd, 1) := by decide +kernel
theorem dX7_liesOn_87 : decode cX7_liesOn 87 = .ok (.iload_n 2, 1) := by decide +kernel
theorem dX7_liesOn_88 : decode cX7_liesOn 88 = .ok (.iadd, 1) := by decide +kernel
theorem dX7_liesOn_89 : decode cX7_liesOn 89 = .ok (.iaload, 1) := by decide +kernel
theorem dX7_liesOn_90 : decode cX7_liesOn 90 = .ok (.aload_n 0, 1) := by decide +kernel
theorem dX7_liesOn_91 : decode cX7_liesOn 91 = .ok (.getfield 7, 3) := by decide +kernel
theorem dX7_liesOn_94 : decode cX7_liesOn 94 = .ok (.iload_n 1, 1) := by decide +kernel
theorem dX7_liesOn_95 : decode cX7_liesOn 95 = .ok (.iconst 1, 1) := by decide +kernel
theorem dX7_liesOn_96 : decode cX7_liesOn 96 = .ok (.iadd, 1) := by decide +kernel
theorem dX7_liesOn_97 : decode cX7_liesOn 97 = .ok (.iload_n 2, 1) := by decide +kernel
theorem dX7_liesOn_98 : decode cX7_liesOn 98 = .ok (.iadd, 1) := by decide +kernel
theorem dX7_liesOn_99 : decode cX7_liesOn 99 = .ok (.iaload, 1) := by decide +kernel
theorem dX7_liesOn_100 : decode cX7_liesOn 100 = .ok (.if_icmp .lt 15, 3) := by decide +kernel
theorem dX7_liesOn_103 : decode cX7_liesOn 103 = .ok (.aload_n 0, 1) := by decide +kernel
theorem dX7_liesOn_104 : decode cX7_liesOn 104 = .ok (.getfield 7, 3) := by decide +kernel
theorem dX7_liesOn_107 : decode cX7_liesOn 107 = .ok (.iload_n 1, 1) := by decide +kernel
theorem dX7_liesOn_108 : decode cX7_liesOn 108 = .ok (.bipush 8, 2) := by decide +kernel
theorem dX7_liesOn_110 : decode cX7_liesOn 110 = .ok (.iadd, 1) := by decide +kernel
theorem dX7_liesOn_111 : decode cX7_liesOn 111 = .ok (.iload_n 2, 1) := by decide +kernel
theorem dX7_liesOn_112 : decode cX7_liesOn 112 = .ok (.iadd, 1) := by decide +kernel
theorem dX7_liesOn_113 : decode cX7_liesOn 113 = .ok (.iconst 2, 1) := by decide +kernel
theorem dX7_liesOn_114 : decode cX7_liesOn 114 = .ok (.iastore, 1) := by decide +kernel
theorem dX7_liesOn_115 : decode cX7_liesOn 115 = .ok (.return_, 1) := by decide +kernel
theorem dX7_passes_0 : decode cX7_passes 0 = .ok (.iconst 0, 1) := by decide +kernel
theorem dX7_passes_1 : decode cX7_passes 1 = .ok (.istore_n 2, 1) := by decide +kernel
theorem dX7_passes_2 : decode cX7_passes 2 = .ok (.iload_n 2, 1) := by decide +kernel
theorem dX7_passes_3 : decode cX7_passes 3 = .ok (.aload_n 0, 1) := by decide +kernel
theorem dX7_passes_4 : decode cX7_passes 4 = .ok (.getfield 7, 3) := by decide +kernel
theorem dX7_passes_7 : decode cX7_passes 7 = .ok (.iload_n 1, 1) := by decide +kernel
theorem dX7_passes_8 : decode cX7_passes 8 = .ok (.bipush 41, 2) := by decide +kernel
theorem dX7_passes_10 : decode cX7_passes 10 = .ok (.iadd, 1) := by decide +kernel
theorem dX7_passes_11 : decode cX7_passes 11 = .ok (.iaload, 1) := by decide +kernel
theorem dX7_passes_12 : decode cX7_passes 12 = .ok (.if_icmp .ge 35, 3) := by decide +kernel
theorem dX7_passes_15 : decode cX7_passes 15 = .ok (.aload_n 0, 1) := by decide +kernel
theorem dX7_passes_16 : decode cX7_passes 16 = .ok (.getfield 38, 3) := by decide +kernel
theorem dX7_passes_19 : decode cX7_passes 19 = .ok (.iload_n 2, 1) := by decide +kernel
theorem dX7_passes_20 : decode cX7_passes 20 = .ok (.aload_n 0, 1) := by decide +kernel
theorem dX7_passes_21 : decode cX7_passes 21 = .ok (.iload_n 1, 1) := by decide +kernel
theorem dX7_passes_22 : decode cX7_passes 22 = .ok (.iload_n 2, 1) := by decide +kernel
theorem dX7_passes_23 : decode cX7_passes 23 = .ok (.invokevirtual 133, 3) := by decide +kernel
theorem dX7_passes_26 : decode cX7_passes 26 = .ok (.aload_n 0, 1) := by decide +kernel
theorem dX7_passes_27 : decode cX7_passes 27 = .ok (.iload_n 1, 1) := by decide +kernel
theorem dX7_passes_28 : decode cX7_passes 28 = .ok (.iload_n 2, 1) := by decide +kernel
theorem dX7_passes_29 : decode cX7_passes 29 = .ok (.invokevirtual 136, 3) := by decide +kernel
theorem dX7_passes_32 : decode cX7_passes 32 = .ok (.if_icmp .le 7, 3) := by decide +kernel
theorem dX7_passes_35 : decode cX7_passes 35 = .ok (.iconst 1, 1) := by decide +kernel
theorem dX7_passes_36 : decode cX7_passes 36 = .ok (.goto 4, 3) := by decide +kernel
theorem dX7_passes_39 : decode cX7_passes 39 = .ok (.iconst 0, 1) := by decide +kernel
theorem dX7_passes_40 : decode cX7_passes 40 = .ok (.bastore, 1) := by decide +kernel
theorem dX7_passes_41 : decode cX7_passes 41 = .ok (.iinc 2 1, 3) := by decide +kernel
theorem dX7_passes_44 : decode cX7_passes 44 = .ok (.goto (-42), 3) := by decide +kernel
theorem dX7_passes_47 : decode cX7_passes 47 = .ok (.iconst 0, 1) := by decide +kernel
theorem dX7_passes_48 : decode cX7_passes 48 = .ok (.istore_n 2, 1) := by decide +kernel
theorem dX7_passes_49 : decode cX7_passes 49 = .ok (.iload_n 2, 1) := by decide +kernel
theorem dX7_passes_50 : decode cX7_passes 50 = .ok (.aload_n 0, 1) := by decide +kernel
theorem dX7_passes_51 : decode cX7_passes 51 = .ok (.getfield 7, 3) := by decide +kernel
theorem dX7_passes_54 : decode cX7_passes 54 = .ok (.iload_n 1, 1) := by decide +kernel
theorem dX7_passes_55 : decode cX7_passes 55 = .ok (.bipush 41, 2) := by decide +kernel
theorem dX7_passes_57 : decode cX7_passes 57 = .ok (.iadd, 1) := by decide +kernel
theorem dX7_passes_58 : decode cX7_passes 58 = .ok (.iaload, 1) := by decide +kernel
theorem dX7_passes_59 : decode cX7_passes 59 = .ok (.if_icmp .ge 113, 3) := by decide +kernel
theorem dX7_passes_62 : decode cX7_passes 62 = .ok (.aload_n 0, 1) := by decide +kernel
theorem dX7_passes_63 : decode cX7_passes 63 = .ok (.getfield 7, 3) := by decide +kernel
theorem dX7_passes_66 : decode cX7_passes 66 = .ok (.iload_n 1, 1) := by decide +kernel
theorem dX7_passes_67 : decode cX7_passes 67 = .ok (.bipush 8, 2) := by decide +kernel
theorem dX7_passes_69 : decode cX7_passes 69 = .ok (.iadd, 1) := by decide +kernel
theorem dX7_passes_70 : decode cX7_passes 70 = .ok (.iload_n 2, 1) := by decide +kernel
theorem dX7_passes_71 : decode cX7_passes 71 = .ok (.iadd, 1) := by decide +kernel
theorem dX7_passes_72 : decode cX7_passes 72 = .ok (.iaload, 1) := by decide +kernel
theorem dX7_passes_73 : decode cX7_passes 73 = .ok (.istore_n 3, 1) := by decide +kernel
theorem dX7_passes_74 : decode cX7_passes 74 = .ok (.aload_n 0, 1) := by decide +kernel
theorem dX7_passes_75 : decode cX7_passes 75 = .ok (.iload_n 1, 1) := by decide +kernel
theorem dX7_passes_76 : decode cX7_passes 76 = .ok (.iload_n 2, 1) := by decide +kernel
theorem dX7_passes_77 : decode cX7_passes 77 = .ok (.invokevirtual 126, 3) := by decide +kernel
theorem dX7_passes_80 : decode cX7_passes 80 = .ok (.istore 4, 2) := by decide +kernel
theorem dX7_passes_82 : decode cX7_passes 82 = .ok (.iload_n 3, 1) := by decide +kernel
theorem dX7_passes_83 : decode cX7_passes 83 = .ok (.iconst 1, 1) := by decide +kernel
theorem dX7_passes_84 : decode cX7_passes 84 = .ok (.if_icmp .ne 38, 3) := by decide +kernel
theorem dX7_passes_87 : decode cX7_passes 87 = .ok (.aload_n 0, 1) := by decide +kernel
theorem dX7_passes_88 : decode cX7_passes 88 = .ok (.iload_n 1, 1) := by decide +kernel
theorem dX7_passes_89 : decode cX7_passes 89 = .ok (.iload_n 2, 1) := by decide +kernel
theorem dX7_passes_90 : decode cX7_passes 90 = .ok (.iload 4, 2) := by decide +kernel
theorem dX7_passes_92 : decode cX7_passes 92 = .ok (.ifCond .ne 23, 3) := by decide +kernel
theorem dX7_passes_95 : decode cX7_passes 95 = .ok (.aload_n 0, 1) := by decide +kernel
theorem dX7_passes_96 : decode cX7_passes 96 = .ok (.getfield 7, 3) := by decide +kernel
theorem dX7_passes_99 : decode cX7_passes 99 = .ok (.iload_n 1, 1) := by decide +kernel
theorem dX7_passes_100 : decode cX7_passes 100 = .ok (.bipush 37, 2) := by decide +kernel
theorem dX7_passes_102 : decode cX7_passes 102 = .ok (.iadd, 1) := by decide +kernel
theorem dX7_passes_103 : decode cX7_passes 103 = .ok (.iaload, 1) := by decide +kernel
theorem dX7_passes_104 : decode cX7_passes 104 = .ok (.iload_n 2, 1) := by decide +kernel
theorem dX7_passes_105 : decode cX7_passes 105 = .ok (.invokestatic 123, 3) := by decide +kernel
theorem dX7_passes_108 : decode cX7_passes 108 = .ok (.ifCond .eq 7, 3) := by decide +kernel
theorem dX7_passes_111 : decode cX7_passes 111 = .ok (.iconst 2, 1) := by decide +kernel
theorem dX7_passes_112 : decode cX7_passes 112 = .ok (.goto 4, 3) := by decide +kernel
theorem dX7_passes_115 : decode cX7_passes 115 = .ok (.iconst 1, 1) := by decide +kernel
theorem dX7_passes_116 : decode cX7_passes 116 = .ok (.invokevirtual 139, 3) := by decide +kernel
theorem dX7_passes_119 : decode cX7_passes 119 = .ok (.goto 47, 3) := by decide +kernel
theorem dX7_passes_122 : decode cX7_passes 122 = .ok (.iload 4, 2) := by decide +kernel
theorem dX7_passes_124 : decode cX7_passes 124 = .ok (.ifCond .ne 22, 3) := by decide +kernel
theorem dX7_passes_127 : decode cX7_passes 127 = .ok (.iload_n 3, 1) := by decide +kernel
theorem dX7_passes_128 : decode cX7_passes 128 = .ok (.ifCond .ne 18, 3) := by decide +kernel
theorem dX7_passes_131 : decode cX7_passes 131 = .ok (.aload_n 0, 1) := by decide +kernel
theorem dX7_passes_132 : decode cX7_passes 132 = .ok (.iload_n 1, 1) := by decide +kernel
theorem dX7_passes_133 : decode cX7_passes 133 = .ok (.iload_n 2, 1) := by decide +kernel
theorem dX7_passes_134 : decode cX7_passes 134 = .ok (.aload_n 0, 1) := by decide +kernel
theorem dX7_passes_135 : decode cX7_passes 135 = .ok (.getfield 38, 3) := by decide +kernel
theorem dX7_passes_138 : decode cX7_passes 138 = .ok (.iload_n 2, 1) := by decide +kernel
theorem dX7_passes_139 : decode cX7_passes 139 = .ok (.baload, 1) := by decide +kernel
theorem dX7_passes_140 : decode cX7_passes 140 = .ok (.invokevirtual 143, 3) := by decide +kernel
theorem dX7_passes_143 : decode cX7_passes 143 = .ok (.goto 23, 3) := by decide +kernel
theorem dX7_passes_146 : decode cX7_passes 146 = .ok (.iload 4, 2) := by decide +kernel
theorem dX7_passes_148 : decode cX7_passes 148 = .ok (.ifCond .ne 18, 3) := by decide +kernel
theorem dX7_passes_151 : decode cX7_passes 151 = .ok (.aload_n 0, 1) := by decide +kernel
theorem dX7_passes_152 : decode cX7_passes 152 = .ok (.getfield 38, 3) := by decide +kernel
theorem dX7_passes_155 : decode cX7_passes 155 = .ok (.iload_n 2, 1) := by decide +kernel
theorem dX7_passes_156 : decode cX7_passes 156 = .ok (.baload, 1) := by decide +kernel
theorem dX7_passes_157 : decode cX7_passes 157 = .ok (.ifCond .eq 9, 3) := by decide +kernel
theorem dX7_passes_160 : decode cX7_passes 160 = .ok (.aload_n 0, 1) := by decide +kernel
theorem dX7_passes_161 : decode cX7_passes 161 = .ok (.iload_n 1, 1) := by decide +kernel
theorem dX7_passes_162 : decode cX7_passes 162 = .ok (.iload_n 2, 1) := by decide +kernel
theorem dX7_passes_163 : decode cX7_passes 163 = .ok (.invokevirtual 147, 3) := by decide +kernel
theorem dX7_passes_166 : decode cX7_passes 166 = .ok (.iinc 2 1, 3) := by decide +kernel
theorem dX7_passes_169 : decode cX7_passes 169 = .ok (.goto (-120), 3) := by decide +kernel
theorem dX7_passes_172 : decode cX7_passes 172 = .ok (.aload_n 0, 1) := by decide +kernel
theorem dX7_passes_173 : decode cX7_passes 173 = .ok (.getfield 7, 3) := by decide +kernel
theorem dX7_passes_176 : decode cX7_passes 176 = .ok (.iload_n 1, 1) := by decide +kernel
theorem dX7_passes_177 : decode cX7_passes 177 = .ok (.iconst 0, 1) := by decide +kernel
theorem dX7_passes_178 : decode cX7_passes 178 = .ok (.iadd, 1) := by decide +kernel
theorem dX7_passes_179 : decode cX7_passes 179 = .ok (.dup2, 1) := by decide +kernel
theorem dX7_passes_180 : decode cX7_passes 180 = .ok (.iaload, 1) := by decide +kernel
theorem dX7_passes_181 : decode cX7_passes 181 = .ok (.iconst 1, 1) := by decide +kernel
theorem dX7_passes_182 : decode cX7_passes 182 = .ok (.iadd, 1) := by decide +kernel
theorem dX7_passes_183 : decode cX7_passes 183 = .ok (.iastore, 1) := by decide +kernel
theorem dX7_passes_184 : decode cX7_passes 184 = .ok (.return_, 1) := by decide +kernel
theorem dX7_rolls_0 : decode cX7_rolls 0 = .ok (.iconst 0, 1) := by decide +kernel
theorem dX7_rolls_1 : decode cX7_rolls 1 = .ok (.istore_n 3, 1) := by decide +kernel
theorem dX7_rolls_2 : decode cX7_rolls 2 = .ok (.iconst 0, 1) := by decide +kernel
theorem dX7_rolls_3 : decode cX7_rolls 3 = .ok (.istore 4, 2) := by decide +kernel
theorem dX7_rolls_5 : decode cX7_rolls 5 = .ok (.iload 4, 2) := by decide +kernel
theorem dX7_rolls_7 : decode cX7_rolls 7 = .ok (.aload_n 0, 1) := by decide +kernel
theorem dX7_rolls_8 : decode cX7_rolls 8 = .ok (.getfield 7, 3) := by decide +kernel
theorem dX7_rolls_11 : decode cX7_rolls 11 = .ok (.iload_n 1, 1) := by decide +kernel
theorem dX7_rolls_12 : decode cX7_rolls 12 = .ok (.bipush 41, 2) := by decide +kernel
theorem dX7_rolls_14 : decode cX7_rolls 14 = .ok (.iadd, 1) := by decide +kernel
theorem dX7_rolls_15 : decode cX7_rolls 15 = .ok (.iaload, 1) := by decide +kernel
theorem dX7_rolls_16 : decode cX7_rolls 16 = .ok (.if_icmp .ge 56, 3) := by decide +kernel
theorem dX7_rolls_19 : decode cX7_rolls 19 = .ok (.aload_n 0, 1) := by decide +kernel
theorem dX7_rolls_20 : decode cX7_rolls 20 = .ok (.getfield 7, 3) := by decide +kernel
theorem dX7_rolls_23 : decode cX7_rolls 23 = .ok (.iload_n 1, 1) := by decide +kernel
theorem dX7_rolls_24 : decode cX7_rolls 24 = .ok (.bipush 8, 2) := by decide +kernel
theorem dX7_rolls_26 : decode cX7_rolls 26 = .ok (.iadd, 1) := by decide +kernel
theorem dX7_rolls_27 : decode cX7_rolls 27 = .ok (.iload 4, 2) := by decide +kernel
theorem dX7_rolls_29 : decode cX7_rolls 29 = .ok (.iadd, 1) := by decide +kernel
theorem dX7_rolls_30 : decode cX7_rolls 30 = .ok (.iaload, 1) := by decide +kernel
theorem dX7_rolls_31 : decode cX7_rolls 31 = .ok (.iconst 2, 1) := by decide +kernel
theorem dX7_rolls_32 : decode cX7_rolls 32 = .ok (.if_icmp .ne 34, 3) := by decide +kernel
theorem dX7_rolls_35 : decode cX7_rolls 35 = .ok (.aload_n 0, 1) := by decide +kernel
theorem dX7_rolls_36 : decode cX7_rolls 36 = .ok (.iload_n 1, 1) := by decide +kernel
theorem dX7_rolls_37 : decode cX7_rolls 37 = .ok (.iload 4, 2) := by decide +kernel
theorem dX7_rolls_39 : decode cX7_rolls 39 = .ok (.invokevirtual 126, 3) := by decide +kernel
theorem dX7_rolls_42 : decode cX7_rolls 42 = .ok (.ifCond .ne 24, 3) := by decide +kernel
theorem dX7_rolls_45 : decode cX7_rolls 45 = .ok (.iload_n 2, 1) := by decide +kernel
theorem dX7_rolls_46 : decode cX7_rolls 46 = .ok (.aload_n 0, 1) := by decide +kernel
theorem dX7_rolls_47 : decode cX7_rolls 47 = .ok (.iload_n 1, 1) := by decide +kernel
theorem dX7_rolls_48 : decode cX7_rolls 48 = .ok (.iload 4, 2) := by decide +kernel
theorem dX7_rolls_50 : decode cX7_rolls 50 = .ok (.invokevirtual 136, 3) := by decide +kernel
theorem dX7_rolls_53 : decode cX7_rolls 53 = .ok (.if_icmp .le 13, 3) := by decide +kernel
theorem dX7_rolls_56 : decode cX7_rolls 56 = .ok (.aload_n 0, 1) := by decide +kernel
theorem dX7_rolls_57 : decode cX7_rolls 57 = .ok (.iload_n 1, 1) := by decide +kernel
theorem dX7_rolls_58 : decode cX7_rolls 58 = .ok (.iload 4, 2) := by decide +kernel
theorem dX7_rolls_60 : decode cX7_rolls 60 = .ok (.invokevirtual 147, 3) := by decide +kernel
theorem dX7_rolls_63 : decode cX7_rolls 63 = .ok (.iinc 3 1, 3) := by decide +kernel
theorem dX7_rolls_66 : decode cX7_rolls 66 = .ok (.iinc 4 1, 3) := by decide +kernel
theorem dX7_rolls_69 : decode cX7_rolls 69 = .ok (.goto (-64), 3) := by decide +kernel
theorem dX7_rolls_72 : decode cX7_rolls 72 = .ok (.iload_n 3, 1) := by decide +kernel
theorem dX7_rolls_73 : decode cX7_rolls 73 = .ok (.ireturn, 1) := by decide +kernel
theorem dX7_thoseWho_0 : decode cX7_thoseWho 0 = .ok (.iconst 0, 1) := by decide +kernel
theorem dX7_thoseWho_1 : decode cX7_thoseWho 1 = .ok (.istore_n 3, 1) := by decide +kernel
theorem dX7_thoseWho_2 : decode cX7_thoseWho 2 = .ok (.iconst 0, 1) := by decide +kernel
theorem dX7_thoseWho_3 : decode cX7_thoseWho 3 = .ok (.istore 4, 2) := by decide +kernel
theorem dX7_thoseWho_5 : decode cX7_thoseWho 5 = .ok (.iload 4, 2) := by decide +kernel
theorem dX7_thoseWho_7 : decode cX7_thoseWho 7 = .ok (.aload_n 0, 1) := by decide +kernel
theorem dX7_thoseWho_8 : decode cX7_thoseWho 8 = .ok (.getfield 7, 3) := by decide +kernel
theorem dX7_thoseWho_11 : decode cX7_thoseWho 11 = .ok (.iload_n 1, 1) := by decide +kernel
theorem dX7_thoseWho_12 : decode cX7_thoseWho 12 = .ok (.bipush 41, 2) := by decide +kernel
theorem dX7_thoseWho_14 : decode cX7_thoseWho 14 = .ok (.iadd, 1) := by decide +kernel
theorem dX7_thoseWho_15 : decode cX7_thoseWho 15 = .ok (.iaload, 1) := by decide +kernel
theorem dX7_thoseWho_16 : decode cX7_thoseWho 16 = .ok (.if_icmp .ge 36, 3) := by decide +kernel
theorem dX7_thoseWho_19 : decode cX7_thoseWho 19 = .ok (.iload_n 3, 1) := by decide +kernel
theorem dX7_thoseWho_20 : decode cX7_thoseWho 20 = .ok (.aload_n 0, 1) := by decide +kernel
theorem dX7_thoseWho_21 : decode cX7_thoseWho 21 = .ok (.getfield 7, 3) := by decide +kernel
theorem dX7_thoseWho_24 : decode cX7_thoseWho 24 = .ok (.iload_n 1, 1) := by decide +kernel
theorem dX7_thoseWho_25 : decode cX7_thoseWho 25 = .ok (.bipush 8, 2) := by decide +kernel
theorem dX7_thoseWho_27 : decode cX7_thoseWho 27 = .ok (.iadd, 1) := by decide +kernel
theorem dX7_thoseWho_28 : decode cX7_thoseWho 28 = .ok (.iload 4, 2) := by decide +kernel
theorem dX7_thoseWho_30 : decode cX7_thoseWho 30 = .ok (.iadd, 1) := by decide +kernel
theorem dX7_thoseWho_31 : decode cX7_thoseWho 31 = .ok (.iaload, 1) := by decide +kernel
theorem dX7_thoseWho_32 : decode cX7_thoseWho 32 = .ok (.iload_n 2, 1) := by decide +kernel
theorem dX7_thoseWho_33 : decode cX7_thoseWho 33 = .ok (.if_icmp .ne 10, 3) := by decide +kernel
theorem dX7_thoseWho_36 : decode cX7_thoseWho 36 = .ok (.iconst 1, 1) := by decide +kernel
theorem dX7_thoseWho_37 : decode cX7_thoseWho 37 = .ok (.iload 4, 2) := by decide +kernel
theorem dX7_thoseWho_39 : decode cX7_thoseWho 39 = .ok (.ishl, 1) := by decide +kernel
theorem dX7_thoseWho_40 : decode cX7_thoseWho 40 = .ok (.goto 4, 3) := by decide +kernel
theorem dX7_thoseWho_43 : decode cX7_thoseWho 43 = .ok (.iconst 0, 1) := by decide +kernel
theorem dX7_thoseWho_44 : decode cX7_thoseWho 44 = .ok (.ior, 1) := by decide +kernel
theorem dX7_thoseWho_45 : decode cX7_thoseWho 45 = .ok (.istore_n 3, 1) := by decide +kernel
theorem dX7_thoseWho_46 : decode cX7_thoseWho 46 = .ok (.iinc 4 1, 3) := by decide +kernel
theorem dX7_thoseWho_49 : decode cX7_thoseWho 49 = .ok (.goto (-44), 3) := by decide +kernel
theorem dX7_thoseWho_52 : decode cX7_thoseWho 52 = .ok (.iload_n 3, 1) := by decide +kernel
theorem dX7_thoseWho_53 : decode cX7_thoseWho 53 = .ok (.ireturn, 1) := by decide +kernel
theorem dX7_allSleep_0 : decode cX7_allSleep 0 = .ok (.iconst 1, 1) := by decide +kernel
theorem dX7_allSleep_1 : decode cX7_allSleep 1 = .ok (.aload_n 0, 1) := by decide +kernel
theorem dX7_allSleep_2 : decode cX7_allSleep 2 = .ok (.getfield 7, 3) := by decide +kernel
theorem dX7_allSleep_5 : decode cX7_allSleep 5 = .ok (.iload_n 1, 1) := by decide +kernel
theorem dX7_allSleep_6 : decode cX7_allSleep 6 = .ok (.bipush 41, 2) := by decide +kernel
theorem dX7_allSleep_8 : decode cX7_allSleep 8 = .ok (.iadd, 1) := by decide +kernel
theorem dX7_allSleep_9 : decode cX7_allSleep 9 = .ok (.iaload, 1) := by decide +kernel
theorem dX7_allSleep_10 : decode cX7_allSleep 10 = .ok (.ishl, 1) := by decide +kernel
theorem dX7_allSleep_11 : decode cX7_allSleep 11 = .ok (.iconst 1, 1) := by decide +kernel
theorem dX7_allSleep_12 : decode cX7_allSleep 12 = .ok (.isub, 1) := by decide +kernel
theorem dX7_allSleep_13 : decode cX7_allSleep 13 = .ok (.aload_n 0, 1) := by decide +kernel
theorem dX7_allSleep_14 : decode cX7_allSleep 14 = .ok (.getfield 7, 3) := by decide +kernel
theorem dX7_allSleep_17 : decode cX7_allSleep 17 = .ok (.iload_n 1, 1) := by decide +kernel
theorem dX7_allSleep_18 : decode cX7_allSleep 18 = .ok (.bipush 36, 2) := by decide +kernel
theorem dX7_allSleep_20 : decode cX7_allSleep 20 = .ok (.iadd, 1) := by decide +kernel
theorem dX7_allSleep_21 : decode cX7_allSleep 21 = .ok (.iaload, 1) := by decide +kernel
theorem dX7_allSleep_22 : decode cX7_allSleep 22 = .ok (.iconst (-1), 1) := by decide +kernel
theorem dX7_allSleep_23 : decode cX7_allSleep 23 = .ok (.ixor, 1) := by decide +kernel
theorem dX7_allSleep_24 : decode cX7_allSleep 24 = .ok (.iand, 1) := by decide +kernel
theorem dX7_allSleep_25 : decode cX7_allSleep 25 = .ok (.aload_n 0, 1) := by decide +kernel
theorem dX7_allSleep_26 : decode cX7_allSleep 26 = .ok (.iload_n 1, 1) := by decide +kernel
theorem dX7_allSleep_27 : decode cX7_allSleep 27 = .ok (.iconst 2, 1) := by decide +kernel
theorem dX7_allSleep_28 : decode cX7_allSleep 28 = .ok (.invokevirtual 150, 3) := by decide +kernel
theorem dX7_allSleep_31 : decode cX7_allSleep 31 = .ok (.iconst (-1), 1) := by decide +kernel
theorem dX7_allSleep_32 : decode cX7_allSleep 32 = .ok (.ixor, 1) := by decide +kernel
theorem dX7_allSleep_33 : decode cX7_allSleep 33 = .ok (.iand, 1) := by decide +kernel
theorem dX7_allSleep_34 : decode cX7_allSleep 34 = .ok (.ifCond .ne 7, 3) := by decide +kernel
theorem dX7_allSleep_37 : decode cX7_allSleep 37 = .ok (.iconst 1, 1) := by decide +kernel
theorem dX7_allSleep_38 : decode cX7_allSleep 38 = .ok (.goto 4, 3) := by decide +kernel
theorem dX7_allSleep_41 : decode cX7_allSleep 41 = .ok (.iconst 0, 1) := by decide +kernel
theorem dX7_allSleep_42 : decode cX7_allSleep 42 = .ok (.ireturn, 1) := by decide +kernel
theorem dX7_minds_0 : decode cX7_minds 0 = .ok (.aload_n 0, 1) := by decide +kernel
theorem dX7_minds_1 : decode cX7_minds 1 = .ok (.getfield 120, 3) := by decide +kernel
theorem dX7_minds_4 : decode cX7_minds 4 = .ok (.bipush 24, 2) := by decide +kernel
theorem dX7_minds_6 : decode cX7_minds 6 = .ok (.if_icmp .ne 43, 3) := by decide +kernel
theorem dX7_minds_9 : decode cX7_minds 9 = .ok (.iconst 0, 1) := by decide +kernel
theorem dX7_minds_10 : decode cX7_minds 10 = .ok (.istore_n 1, 1) := by decide +kernel
theorem dX7_minds_11 : decode cX7_minds 11 = .ok (.iload_n 1, 1) := by decide +kernel
theorem dX7_minds_12 : decode cX7_minds 12 = .ok (.sipush 874, 3) := by decide +kernel
theorem dX7_minds_15 : decode cX7_minds 15 = .ok (.if_icmp .ge 24, 3) := by decide +kernel
theorem dX7_minds_18 : decode cX7_minds 18 = .ok (.aload_n 0, 1) := by decide +kernel
theorem dX7_minds_19 : decode cX7_minds 19 = .ok (.getfield 17, 3) := by decide +kernel
theorem dX7_minds_22 : decode cX7_minds 22 = .ok (.iload_n 1, 1) := by decide +kernel
theorem dX7_minds_23 : decode cX7_minds 23 = .ok (.aload_n 0, 1) := by decide +kernel
theorem dX7_minds_24 : decode cX7_minds 24 = .ok (.getfield 17, 3) := by decide +kernel
theorem dX7_minds_27 : decode cX7_minds 27 = .ok (.iload_n 1, 1) := by decide +kernel
theorem dX7_minds_28 : decode cX7_minds 28 = .ok (.bipush 38, 2) := by decide +kernel
theorem dX7_minds_30 : decode cX7_minds 30 = .ok (.iadd, 1) := by decide +kernel
theorem dX7_minds_31 : decode cX7_minds 31 = .ok (.iaload, 1) := by decide +kernel
theorem dX7_minds_32 : decode cX7_minds 32 = .ok (.iastore, 1) := by decide +kernel
theorem dX7_minds_33 : decode cX7_minds 33 = .ok (.iinc 1 1, 3) := by decide +kernel
theorem dX7_minds_36 : decode cX7_minds 36 = .ok (.goto (-25), 3) := by decide +kernel
theorem dX7_minds_39 : decode cX7_minds 39 = .ok (.aload_n 0, 1) := by decide +kernel
theorem dX7_minds_40 : decode cX7_minds 40 = .ok (.dup, 1) := by decide +kernel
theorem dX7_minds_41 : decode cX7_minds 41 = .ok (.getfield 120, 3) := by decide +kernel
theorem dX7_minds_44 : decode cX7_minds 44 = .ok (.iconst 1, 1) := by decide +kernel
theorem dX7_minds_45 : decode cX7_minds 45 = .ok (.isub, 1) := by decide +kernel
theorem dX7_minds_46 : decode cX7_minds 46 = .ok (.putfield 120, 3) := by decide +kernel
theorem dX7_minds_49 : decode cX7_minds 49 = .ok (.iconst 0, 1) := by decide +kernel
theorem dX7_minds_50 : decode cX7_minds 50 = .ok (.istore_n 1, 1) := by decide +kernel
theorem dX7_minds_51 : decode cX7_minds 51 = .ok (.iload_n 1, 1) := by decide +kernel
theorem dX7_minds_52 : decode cX7_minds 52 = .ok (.bipush 38, 2) := by decide +kernel
theorem dX7_minds_54 : decode cX7_minds 54 = .ok (.if_icmp .ge 29, 3) := by decide +kernel
theorem dX7_minds_57 : decode cX7_minds 57 = .ok (.aload_n 0, 1) := by decide +kernel
theorem dX7_minds_58 : decode cX7_minds 58 = .ok (.getfield 17, 3) := by decide +kernel
theorem dX7_minds_61 : decode cX7_minds 61 = .ok (.bipush 38, 2) := by decide +kernel
theorem dX7_minds_63 : decode cX7_minds 63 = .ok (.aload_n 0, 1) := by decide +kernel
theorem dX7_minds_64 : decode cX7_minds 64 = .ok (.getfield 120, 3) := by decide +kernel
theorem dX7_minds_67 : decode cX7_minds 67 = .ok (.imul, 1) := by decide +kernel
theorem dX7_minds_68 : decode cX7_minds 68 = .ok (.iload_n 1, 1) := by decide +kernel
theorem dX7_minds_69 : decode cX7_minds 69 = .ok (.iadd, 1) := by decide +kernel
theorem dX7_minds_70 : decode cX7_minds 70 = .ok (.aload_n 0, 1) := by decide +kernel
theorem dX7_minds_71 : decode cX7_minds 71 = .ok (.getfield 7, 3) := by decide +kernel
theorem dX7_minds_74 : decode cX7_minds 74 = .ok (.iload_n 1, 1) := by decide +kernel
theorem dX7_minds_75 : decode cX7_minds 75 = .ok (.iaload, 1) := by decide +kernel
theorem dX7_minds_76 : decode cX7_minds 76 = .ok (.iastore, 1) := by decide +kernel
theorem dX7_minds_77 : decode cX7_minds 77 = .ok (.iinc 1 1, 3) := by decide +kernel
theorem dX7_minds_80 : decode cX7_minds 80 = .ok (.goto (-29), 3) := by decide +kernel
theorem dX7_minds_83 : decode cX7_minds 83 = .ok (.aload_n 0, 1) := by decide +kernel
theorem dX7_minds_84 : decode cX7_minds 84 = .ok (.dup, 1) := by decide +kernel
theorem dX7_minds_85 : decode cX7_minds 85 = .ok (.getfield 120, 3) := by decide +kernel
theorem dX7_minds_88 : decode cX7_minds 88 = .ok (.iconst 1, 1) := by decide +kernel
theorem dX7_minds_89 : decode cX7_minds 89 = .ok (.iadd, 1) := by decide +kernel
theorem dX7_minds_90 : decode cX7_minds 90 = .ok (.putfield 120, 3) := by decide +kernel
theorem dX7_minds_93 : decode cX7_minds 93 = .ok (.return_, 1) := by decide +kernel
theorem dX7_undo_0 : decode cX7_undo 0 = .ok (.aload_n 0, 1) := by decide +kernel
theorem dX7_undo_1 : decode cX7_undo 1 = .ok (.getfield 120, 3) := by decide +kernel
theorem dX7_undo_4 : decode cX7_undo 4 = .ok (.ifCond .ne 6, 3) := by decide +kernel
theorem dX7_undo_7 : decode cX7_undo 7 = .ok (.ldc 153, 2) := by decide +kernel
theorem dX7_undo_9 : decode cX7_undo 9 = .ok (.ireturn, 1) := by decide +kernel
theorem dX7_undo_10 : decode cX7_undo 10 = .ok (.aload_n 0, 1) := by decide +kernel
theorem dX7_undo_11 : decode cX7_undo 11 = .ok (.dup, 1) := by decide +kernel
theorem dX7_undo_12 : decode cX7_undo 12 = .ok (.getfield 120, 3) := by decide +kernel
theorem dX7_undo_15 : decode cX7_undo 15 = .ok (.iconst 1, 1) := by decide +kernel
theorem dX7_undo_16 : decode cX7_undo 16 = .ok (.isub, 1) := by decide +kernel
theorem dX7_undo_17 : decode cX7_undo 17 = .ok (.putfield 120, 3) := by decide +kernel
theorem dX7_undo_20 : decode cX7_undo 20 = .ok (.iconst 0, 1) := by decide +kernel
theorem dX7_undo_21 : decode cX7_undo 21 = .ok (.istore_n 1, 1) := by decide +kernel
theorem dX7_undo_22 : decode cX7_undo 22 = .ok (.iload_n 1, 1) := by decide +kernel
theorem dX7_undo_23 : decode cX7_undo 23 = .ok (.bipush 38, 2) := by decide +kernel
theorem dX7_undo_25 : decode cX7_undo 25 = .ok (.if_icmp .ge 29, 3) := by decide +kernel
theorem dX7_undo_28 : decode cX7_undo 28 = .ok (.aload_n 0, 1) := by decide +kernel
theorem dX7_undo_29 : decode cX7_undo 29 = .ok (.getfield 7, 3) := by decide +kernel
theorem dX7_undo_32 : decode cX7_undo 32 = .ok (.iload_n 1, 1) := by decide +kernel
theorem dX7_undo_33 : decode cX7_undo 33 = .ok (.aload_n 0, 1) := by decide +kernel
theorem dX7_undo_34 : decode cX7_undo 34 = .ok (.getfield 17, 3) := by decide +kernel
theorem dX7_undo_37 : decode cX7_undo 37 = .ok (.bipush 38, 2) := by decide +kernel
theorem dX7_undo_39 : decode cX7_undo 39 = .ok (.aload_n 0, 1) := by decide +kernel
theorem dX7_undo_40 : decode cX7_undo 40 = .ok (.getfield 120, 3) := by decide +kernel
theorem dX7_undo_43 : decode cX7_undo 43 = .ok (.imul, 1) := by decide +kernel
theorem dX7_undo_44 : decode cX7_undo 44 = .ok (.iload_n 1, 1) := by decide +kernel
theorem dX7_undo_45 : decode cX7_undo 45 = .ok (.iadd, 1) := by decide +kernel
theorem dX7_undo_46 : decode cX7_undo 46 = .ok (.iaload, 1) := by decide +kernel
theorem dX7_undo_47 : decode cX7_undo 47 = .ok (.iastore, 1) := by decide +kernel
theorem dX7_undo_48 : decode cX7_undo 48 = .ok (.iinc 1 1, 3) := by decide +kernel
theorem dX7_undo_51 : decode cX7_undo 51 = .ok (.goto (-29), 3) := by decide +kernel
theorem dX7_undo_54 : decode cX7_undo 54 = .ok (.aload_n 0, 1) := by decide +kernel
theorem dX7_undo_55 : decode cX7_undo 55 = .ok (.getfield 120, 3) := by decide +kernel
theorem dX7_undo_58 : decode cX7_undo 58 = .ok (.ireturn, 1) := by decide +kernel
theorem dX7_minutes_0 : decode cX7_minutes 0 = .ok (.aload_n 0, 1) := by decide +kernel
theorem dX7_minutes_1 : decode cX7_minutes 1 = .ok (.invokevirtual 154, 3) := by decide +kernel
theorem dX7_minutes_4 : decode cX7_minutes 4 = .ok (.ifCond .ne 6, 3) := by decide +kernel
theorem dX7_minutes_7 : decode cX7_minutes 7 = .ok (.ldc 153, 2) := by decide +kernel
theorem dX7_minutes_9 : decode cX7_minutes 9 = .ok (.ireturn, 1) := by decide +kernel
theorem dX7_minutes_10 : decode cX7_minutes 10 = .ok (.iload_n 1, 1) := by decide +kernel
theorem dX7_minutes_11 : decode cX7_minutes 11 = .ok (.i2l, 1) := by decide +kernel
theorem dX7_minutes_12 : decode cX7_minutes 12 = .ok (.lconst 1, 1) := by decide +kernel
theorem dX7_minutes_13 : decode cX7_minutes 13 = .ok (.ldc2_w 157, 3) := by decide +kernel
theorem dX7_minutes_16 : decode cX7_minutes 16 = .ok (.invokestatic 48, 3) := by decide +kernel
theorem dX7_minutes_19 : decode cX7_minutes 19 = .ok (.ifCond .ne 6, 3) := by decide +kernel
theorem dX7_minutes_22 : decode cX7_minutes 22 = .ok (.ldc 58, 2) := by decide +kernel
theorem dX7_minutes_24 : decode cX7_minutes 24 = .ok (.ireturn, 1) := by decide +kernel
theorem dX7_minutes_25 : decode cX7_minutes 25 = .ok (.aload_n 0, 1) := by decide +kernel
theorem dX7_minutes_26 : decode cX7_minutes 26 = .ok (.getfield 7, 3) := by decide +kernel
theorem dX7_minutes_29 : decode cX7_minutes 29 = .ok (.iconst 0, 1) := by decide +kernel
theorem dX7_minutes_30 : decode cX7_minutes 30 = .ok (.iaload, 1) := by decide +kernel
theorem dX7_minutes_31 : decode cX7_minutes 31 = .ok (.iload_n 1, 1) := by decide +kernel
theorem dX7_minutes_32 : decode cX7_minutes 32 = .ok (.iadd, 1) := by decide +kernel
theorem dX7_minutes_33 : decode cX7_minutes 33 = .ok (.sipush 999, 3) := by decide +kernel
theorem dX7_minutes_36 : decode cX7_minutes 36 = .ok (.if_icmp .le 6, 3) := by decide +kernel
theorem dX7_minutes_39 : decode cX7_minutes 39 = .ok (.ldc 75, 2) := by decide +kernel
theorem dX7_minutes_41 : decode cX7_minutes 41 = .ok (.ireturn, 1) := by decide +kernel
theorem dX7_minutes_42 : decode cX7_minutes 42 = .ok (.iconst 0, 1) := by decide +kernel
theorem dX7_minutes_43 : decode cX7_minutes 43 = .ok (.istore_n 2, 1) := by decide +kernel
theorem dX7_minutes_44 : decode cX7_minutes 44 = .ok (.iload_n 2, 1) := by decide +kernel
theorem dX7_minutes_45 : decode cX7_minutes 45 = .ok (.iload_n 1, 1) := by decide +kernel
theorem dX7_minutes_46 : decode cX7_minutes 46 = .ok (.if_icmp .ge 18, 3) := by decide +kernel
theorem dX7_minutes_49 : decode cX7_minutes 49 = .ok (.aload_n 0, 1) := by decide +kernel
theorem dX7_minutes_50 : decode cX7_minutes 50 = .ok (.invokevirtual 159, 3) := by decide +kernel
theorem dX7_minutes_53 : decode cX7_minutes 53 = .ok (.aload_n 0, 1) := by decide +kernel
theorem dX7_minutes_54 : decode cX7_minutes 54 = .ok (.iconst 0, 1) := by decide +kernel
theorem dX7_minutes_55 : decode cX7_minutes 55 = .ok (.invokevirtual 162, 3) := by decide +kernel
theorem dX7_minutes_58 : decode cX7_minutes 58 = .ok (.iinc 2 1, 3) := by decide +kernel
theorem dX7_minutes_61 : decode cX7_minutes 61 = .ok (.goto (-17), 3) := by decide +kernel
theorem dX7_minutes_64 : decode cX7_minutes 64 = .ok (.aload_n 0, 1) := by decide +kernel
theorem dX7_minutes_65 : decode cX7_minutes 65 = .ok (.iconst 0, 1) := by decide +kernel
theorem dX7_minutes_66 : decode cX7_minutes 66 = .ok (.iconst 2, 1) := by decide +kernel
theorem dX7_minutes_67 : decode cX7_minutes 67 = .ok (.invokevirtual 150, 3) := by decide +kernel
theorem dX7_minutes_70 : decode cX7_minutes 70 = .ok (.ireturn, 1) := by decide +kernel
theorem dX7_hand_0 : decode cX7_hand 0 = .ok (.aload_n 0, 1) := by decide +kernel
theorem dX7_hand_1 : decode cX7_hand 1 = .ok (.iload_n 1, 1) := by decide +kernel
theorem dX7_hand_2 : decode cX7_hand 2 = .ok (.invokevirtual 166, 3) := by decide +kernel
theorem dX7_hand_5 : decode cX7_hand 5 = .ok (.ifCond .eq 13, 3) := by decide +kernel
theorem dX7_hand_8 : decode cX7_hand 8 = .ok (.iload_n 2, 1) := by decide +kernel
theorem dX7_hand_9 : decode cX7_hand 9 = .ok (.i2l, 1) := by decide +kernel
theorem dX7_hand_10 : decode cX7_hand 10 = .ok (.lconst 0, 1) := by decide +kernel
theorem dX7_hand_11 : decode cX7_hand 11 = .ok (.lconst 1, 1) := by decide +kernel
theorem dX7_hand_12 : decode cX7_hand 12 = .ok (.invokestatic 48, 3) := by decide +kernel
theorem dX7_hand_15 : decode cX7_hand 15 = .ok (.ifCond .ne 6, 3) := by decide +kernel
theorem dX7_hand_18 : decode cX7_hand 18 = .ok (.ldc 58, 2) := by decide +kernel
theorem dX7_hand_20 : decode cX7_hand 20 = .ok (.ireturn, 1) := by decide +kernel
theorem dX7_hand_21 : decode cX7_hand 21 = .ok (.aload_n 0, 1) := by decide +kernel
theorem dX7_hand_22 : decode cX7_hand 22 = .ok (.getfield 7, 3) := by decide +kernel
theorem dX7_hand_25 : decode cX7_hand 25 = .ok (.bipush 37, 2) := by decide +kernel
theorem dX7_hand_27 : decode cX7_hand 27 = .ok (.iaload, 1) := by decide +kernel
theorem dX7_hand_28 : decode cX7_hand 28 = .ok (.iload_n 1, 1) := by decide +kernel
theorem dX7_hand_29 : decode cX7_hand 29 = .ok (.invokestatic 123, 3) := by decide +kernel
theorem dX7_hand_32 : decode cX7_hand 32 = .ok (.iload_n 2, 1) := by decide +kernel
theorem dX7_hand_33 : decode cX7_hand 33 = .ok (.iconst 1, 1) := by decide +kernel
theorem dX7_hand_34 : decode cX7_hand 34 = .ok (.if_icmp .ne 7, 3) := by decide +kernel
theorem dX7_hand_37 : decode cX7_hand 37 = .ok (.iconst 1, 1) := by decide +kernel
theorem dX7_hand_38 : decode cX7_hand 38 = .ok (.goto 4, 3) := by decide +kernel
theorem dX7_hand_41 : decode cX7_hand 41 = .ok (.iconst 0, 1) := by decide +kernel
theorem dX7_hand_42 : decode cX7_hand 42 = .ok (.if_icmp .ne 6, 3) := by decide +kernel
theorem dX7_hand_45 : decode cX7_hand 45 = .ok (.ldc 153, 2) := by decide +kernel
theorem dX7_hand_47 : decode cX7_hand 47 = .ok (.ireturn, 1) := by decide +kernel
theorem dX7_hand_48 : decode cX7_hand 48 = .ok (.iload_n 2, 1) := by decide +kernel
theorem dX7_hand_49 : decode cX7_hand 49 = .ok (.iconst 1, 1) := by decide +kernel
theorem dX7_hand_50 : decode cX7_hand 50 = .ok (.if_icmp .ne 26, 3) := by decide +kernel
theorem dX7_hand_53 : decode cX7_hand 53 = .ok (.aload_n 0, 1) := by decide +kernel
theorem dX7_hand_54 : decode cX7_hand 54 = .ok (.getfield 7, 3) := by decide +kernel
theorem dX7_hand_57 : decode cX7_hand 57 = .ok (.bipush 37, 2) := by decide +kernel
theorem dX7_hand_59 : decode cX7_hand 59 = .ok (.iaload, 1) := by decide +kernel
theorem dX7_hand_60 : decode cX7_hand 60 = .ok (.invokestatic 169, 3) := by decide +kernel
theorem dX7_hand_63 : decode cX7_hand 63 = .ok (.aload_n 0, 1) := by decide +kernel
theorem dX7_hand_64 : decode cX7_hand 64 = .ok (.getfield 7, 3) := by decide +kernel
theorem dX7_hand_67 : decode cX7_hand 67 = .ok (.bipush 39, 2) := by decide +kernel
theorem dX7_hand_69 : decode cX7_hand 69 = .ok (.iaload, 1) := by decide +kernel
theorem dX7_hand_70 : decode cX7_hand 70 = .ok (.if_icmp .lt 6, 3) := by decide +kernel
theorem dX7_hand_73 : decode cX7_hand 73 = .ok (.ldc 75, 2) := by decide +kernel
theorem dX7_hand_75 : decode cX7_hand 75 = .ok (.ireturn, 1) := by decide +kernel
theorem dX7_hand_76 : decode cX7_hand 76 = .ok (.aload_n 0, 1) := by decide +kernel
theorem dX7_hand_77 : decode cX7_hand 77 = .ok (.invokevirtual 159, 3) := by decide +kernel
theorem dX7_hand_80 : decode cX7_hand 80 = .ok (.aload_n 0, 1) := by decide +kernel
theorem dX7_hand_81 : decode cX7_hand 81 = .ok (.getfield 7, 3) := by decide +kernel
theorem dX7_hand_84 : decode cX7_hand 84 = .ok (.bipush 37, 2) := by decide +kernel
theorem dX7_hand_86 : decode cX7_hand 86 = .ok (.dup2, 1) := by decide +kernel
theorem dX7_hand_87 : decode cX7_hand 87 = .ok (.iaload, 1) := by decide +kernel
theorem dX7_hand_88 : decode cX7_hand 88 = .ok (.iconst 1, 1) := by decide +kernel
theorem dX7_hand_89 : decode cX7_hand 89 = .ok (.iload_n 1, 1) := by decide +kernel
theorem dX7_hand_90 : decode cX7_hand 90 = .ok (.ishl, 1) := by decide +kernel
theorem dX7_hand_91 : decode cX7_hand 91 = .ok (.ixor, 1) := by decide +kernel
theorem dX7_hand_92 : decode cX7_hand 92 = .ok (.iastore, 1) := by decide +kernel
theorem dX7_hand_93 : decode cX7_hand 93 = .ok (.aload_n 0, 1) := by decide +kernel
theorem dX7_hand_94 : decode cX7_hand 94 = .ok (.getfield 7, 3) := by decide +kernel
theorem dX7_hand_97 : decode cX7_hand 97 = .ok (.bipush 37, 2) := by decide +kernel
theorem dX7_hand_99 : decode cX7_hand 99 = .ok (.iaload, 1) := by decide +kernel
theorem dX7_hand_100 : decode cX7_hand 100 = .ok (.ireturn, 1) := by decide +kernel
theorem dX7_carry_0 : decode cX7_carry 0 = .ok (.aload_n 0, 1) := by decide +kernel
theorem dX7_carry_1 : decode cX7_carry 1 = .ok (.iload_n 1, 1) := by decide +kernel
theorem dX7_carry_2 : decode cX7_carry 2 = .ok (.invokevirtual 166, 3) := by decide +kernel
theorem dX7_carry_5 : decode cX7_carry 5 = .ok (.ifCond .eq 13, 3) := by decide +kernel
theorem dX7_carry_8 : decode cX7_carry 8 = .ok (.iload_n 2, 1) := by decide +kernel
theorem dX7_carry_9 : decode cX7_carry 9 = .ok (.i2l, 1) := by decide +kernel
theorem dX7_carry_10 : decode cX7_carry 10 = .ok (.lconst 0, 1) := by decide +kernel
theorem dX7_carry_11 : decode cX7_carry 11 = .ok (.lconst 1, 1) := by decide +kernel
theorem dX7_carry_12 : decode cX7_carry 12 = .ok (.invokestatic 48, 3) := by decide +kernel
theorem dX7_carry_15 : decode cX7_carry 15 = .ok (.ifCond .ne 6, 3) := by decide +kernel
theorem dX7_carry_18 : decode cX7_carry 18 = .ok (.ldc 58, 2) := by decide +kernel
theorem dX7_carry_20 : decode cX7_carry 20 = .ok (.ireturn, 1) := by decide +kernel
theorem dX7_carry_21 : decode cX7_carry 21 = .ok (.aload_n 0, 1) := by decide +kernel
theorem dX7_carry_22 : decode cX7_carry 22 = .ok (.iconst 0, 1) := by decide +kernel
theorem dX7_carry_23 : decode cX7_carry 23 = .ok (.iload_n 1, 1) := by decide +kernel
theorem dX7_carry_24 : decode cX7_carry 24 = .ok (.invokevirtual 126, 3) := by decide +kernel
theorem dX7_carry_27 : decode cX7_carry 27 = .ok (.iload_n 2, 1) := by decide +kernel
theorem dX7_carry_28 : decode cX7_carry 28 = .ok (.iconst 1, 1) := by decide +kernel
theorem dX7_carry_29 : decode cX7_carry 29 = .ok (.if_icmp .ne 7, 3) := by decide +kernel
theorem dX7_carry_32 : decode cX7_carry 32 = .ok (.iconst 1, 1) := by decide +kernel
theorem dX7_carry_33 : decode cX7_carry 33 = .ok (.goto 4, 3) := by decide +kernel
theorem dX7_carry_36 : decode cX7_carry 36 = .ok (.iconst 0, 1) := by decide +kernel
theorem dX7_carry_37 : decode cX7_carry 37 = .ok (.if_icmp .ne 6, 3) := by decide +kernel
theorem dX7_carry_40 : decode cX7_carry 40 = .ok (.ldc 153, 2) := by decide +kernel
theorem dX7_carry_42 : decode cX7_carry 42 = .ok (.ireturn, 1) := by decide +kernel
theorem dX7_carry_43 : decode cX7_carry 43 = .ok (.aload_n 0, 1) := by decide +kernel
theorem dX7_carry_44 : decode cX7_carry 44 = .ok (.invokevirtual 159, 3) := by decide +kernel
theorem dX7_carry_47 : decode cX7_carry 47 = .ok (.aload_n 0, 1) := by decide +kernel
theorem dX7_carry_48 : decode cX7_carry 48 = .ok (.getfield 7, 3) := by decide +kernel
theorem dX7_carry_51 : decode cX7_carry 51 = .ok (.bipush 36, 2) := by decide +kernel
theorem dX7_carry_53 : decode cX7_carry 53 = .ok (.dup2, 1) := by decide +kernel
theorem dX7_carry_54 : decode cX7_carry 54 = .ok (.iaload, 1) := by decide +kernel
theorem dX7_carry_55 : decode cX7_carry 55 = .ok (.iconst 1, 1) := by decide +kernel
theorem dX7_carry_56 : decode cX7_carry 56 = .ok (.iload_n 1, 1) := by decide +kernel
theorem dX7_carry_57 : decode cX7_carry 57 = .ok (.ishl, 1) := by decide +kernel
theorem dX7_carry_58 : decode cX7_carry 58 = .ok (.ixor, 1) := by decide +kernel
theorem dX7_carry_59 : decode cX7_carry 59 = .ok (.iastore, 1) := by decide +kernel
theorem dX7_carry_60 : decode cX7_carry 60 = .ok (.aload_n 0, 1) := by decide +kernel
theorem dX7_carry_61 : decode cX7_carry 61 = .ok (.getfield 7, 3) := by decide +kernel
theorem dX7_carry_64 : decode cX7_carry 64 = .ok (.bipush 36, 2) := by decide +kernel
theorem dX7_carry_66 : decode cX7_carry 66 = .ok (.iaload, 1) := by decide +kernel
theorem dX7_carry_67 : decode cX7_carry 67 = .ok (.ireturn, 1) := by decide +kernel
theorem dX7_swaps_0 : decode cX7_swaps 0 = .ok (.aload_n 0, 1) := by decide +kernel
theorem dX7_swaps_1 : decode cX7_swaps 1 = .ok (.getfield 7, 3) := by decide +kernel
theorem dX7_swaps_4 : decode cX7_swaps 4 = .ok (.iload_n 1, 1) := by decide +kernel
theorem dX7_swaps_5 : decode cX7_swaps 5 = .ok (.bipush 29, 2) := by decide +kernel
theorem dX7_swaps_7 : decode cX7_swaps 7 = .ok (.iadd, 1) := by decide +kernel
theorem dX7_swaps_8 : decode cX7_swaps 8 = .ok (.iload_n 2, 1) := by decide +kernel
theorem dX7_swaps_9 : decode cX7_swaps 9 = .ok (.iadd, 1) := by decide +kernel
theorem dX7_swaps_10 : decode cX7_swaps 10 = .ok (.iaload, 1) := by decide +kernel
theorem dX7_swaps_11 : decode cX7_swaps 11 = .ok (.istore 4, 2) := by decide +kernel
theorem dX7_swaps_13 : decode cX7_swaps 13 = .ok (.aload_n 0, 1) := by decide +kernel
theorem dX7_swaps_14 : decode cX7_swaps 14 = .ok (.getfield 7, 3) := by decide +kernel
theorem dX7_swaps_17 : decode cX7_swaps 17 = .ok (.iload_n 1, 1) := by decide +kernel
theorem dX7_swaps_18 : decode cX7_swaps 18 = .ok (.bipush 29, 2) := by decide +kernel
theorem dX7_swaps_20 : decode cX7_swaps 20 = .ok (.iadd, 1) := by decide +kernel
theorem dX7_swaps_21 : decode cX7_swaps 21 = .ok (.iload_n 2, 1) := by decide +kernel
theorem dX7_swaps_22 : decode cX7_swaps 22 = .ok (.iadd, 1) := by decide +kernel
theorem dX7_swaps_23 : decode cX7_swaps 23 = .ok (.aload_n 0, 1) := by decide +kernel
theorem dX7_swaps_24 : decode cX7_swaps 24 = .ok (.getfield 7, 3) := by decide +kernel
theorem dX7_swaps_27 : decode cX7_swaps 27 = .ok (.iload_n 1, 1) := by decide +kernel
theorem dX7_swaps_28 : decode cX7_swaps 28 = .ok (.bipush 29, 2) := by decide +kernel
theorem dX7_swaps_30 : decode cX7_swaps 30 = .ok (.iadd, 1) := by decide +kernel
theorem dX7_swaps_31 : decode cX7_swaps 31 = .ok (.iload_n 3, 1) := by decide +kernel
theorem dX7_swaps_32 : decode cX7_swaps 32 = .ok (.iadd, 1) := by decide +kernel
theorem dX7_swaps_33 : decode cX7_swaps 33 = .ok (.iaload, 1) := by decide +kernel
theorem dX7_swaps_34 : decode cX7_swaps 34 = .ok (.iastore, 1) := by decide +kernel
theorem dX7_swaps_35 : decode cX7_swaps 35 = .ok (.aload_n 0, 1) := by decide +kernel
theorem dX7_swaps_36 : decode cX7_swaps 36 = .ok (.getfield 7, 3) := by decide +kernel
theorem dX7_swaps_39 : decode cX7_swaps 39 = .ok (.iload_n 1, 1) := by decide +kernel
theorem dX7_swaps_40 : decode cX7_swaps 40 = .ok (.bipush 29, 2) := by decide +kernel
theorem dX7_swaps_42 : decode cX7_swaps 42 = .ok (.iadd, 1) := by decide +kernel
theorem dX7_swaps_43 : decode cX7_swaps 43 = .ok (.iload_n 3, 1) := by decide +kernel
theorem dX7_swaps_44 : decode cX7_swaps 44 = .ok (.iadd, 1) := by decide +kernel
theorem dX7_swaps_45 : decode cX7_swaps 45 = .ok (.iload 4, 2) := by decide +kernel
theorem dX7_swaps_47 : decode cX7_swaps 47 = .ok (.iastore, 1) := by decide +kernel
theorem dX7_swaps_48 : decode cX7_swaps 48 = .ok (.return_, 1) := by decide +kernel
theorem dX7_change_0 : decode cX7_change 0 = .ok (.aload_n 0, 1) := by decide +kernel
theorem dX7_change_1 : decode cX7_change 1 = .ok (.iload_n 1, 1) := by decide +kernel
theorem dX7_change_2 : decode cX7_change 2 = .ok (.invokevirtual 166, 3) := by decide +kernel
theorem dX7_change_5 : decode cX7_change 5 = .ok (.ifCond .eq 16, 3) := by decide +kernel
theorem dX7_change_8 : decode cX7_change 8 = .ok (.aload_n 0, 1) := by decide +kernel
theorem dX7_change_9 : decode cX7_change 9 = .ok (.iload_n 2, 1) := by decide +kernel
theorem dX7_change_10 : decode cX7_change 10 = .ok (.invokevirtual 166, 3) := by decide +kernel
theorem dX7_change_13 : decode cX7_change 13 = .ok (.ifCond .eq 8, 3) := by decide +kernel
theorem dX7_change_16 : decode cX7_change 16 = .ok (.iload_n 1, 1) := by decide +kernel
theorem dX7_change_17 : decode cX7_change 17 = .ok (.iload_n 2, 1) := by decide +kernel
theorem dX7_change_18 : decode cX7_change 18 = .ok (.if_icmp .ne 6, 3) := by decide +kernel
theorem dX7_change_21 : decode cX7_change 21 = .ok (.ldc 58, 2) := by decide +kernel
theorem dX7_change_23 : decode cX7_change 23 = .ok (.ireturn, 1) := by decide +kernel
theorem dX7_change_24 : decode cX7_change 24 = .ok (.aload_n 0, 1) := by decide +kernel
theorem dX7_change_25 : decode cX7_change 25 = .ok (.invokevirtual 159, 3) := by decide +kernel
theorem dX7_change_28 : decode cX7_change 28 = .ok (.aload_n 0, 1) := by decide +kernel
theorem dX7_change_29 : decode cX7_change 29 = .ok (.iconst 0, 1) := by decide +kernel
theorem dX7_change_30 : decode cX7_change 30 = .ok (.iload_n 1, 1) := by decide +kernel
theorem dX7_change_31 : decode cX7_change 31 = .ok (.iload_n 2, 1) := by decide +kernel
theorem dX7_change_32 : decode cX7_change 32 = .ok (.invokevirtual 172, 3) := by decide +kernel
theorem dX7_change_35 : decode cX7_change 35 = .ok (.aload_n 0, 1) := by decide +kernel
theorem dX7_change_36 : decode cX7_change 36 = .ok (.getfield 7, 3) := by decide +kernel
theorem dX7_change_39 : decode cX7_change 39 = .ok (.bipush 29, 2) := by decide +kernel
theorem dX7_change_41 : decode cX7_change 41 = .ok (.iload_n 1, 1) := by decide +kernel
theorem dX7_change_42 : decode cX7_change 42 = .ok (.iadd, 1) := by decide +kernel
theorem dX7_change_43 : decode cX7_change 43 = .ok (.iaload, 1) := by decide +kernel
theorem dX7_change_44 : decode cX7_change 44 = .ok (.ireturn, 1) := by decide +kernel
theorem dX7_lorry_0 : decode cX7_lorry 0 = .ok (.aload_n 0, 1) := by decide +kernel
theorem dX7_lorry_1 : decode cX7_lorry 1 = .ok (.invokevirtual 154, 3) := by decide +kernel
theorem dX7_lorry_4 : decode cX7_lorry 4 = .ok (.ifCond .ne 6, 3) := by decide +kernel
theorem dX7_lorry_7 : decode cX7_lorry 7 = .ok (.ldc 153, 2) := by decide +kernel
theorem dX7_lorry_9 : decode cX7_lorry 9 = .ok (.ireturn, 1) := by decide +kernel
theorem dX7_lorry_10 : decode cX7_lorry 10 = .ok (.iload_n 1, 1) := by decide +kernel
theorem dX7_lorry_11 : decode cX7_lorry 11 = .ok (.i2l, 1) := by decide +kernel
theorem dX7_lorry_12 : decode cX7_lorry 12 = .ok (.lconst 0, 1) := by decide +kernel
theorem dX7_lorry_13 : decode cX7_lorry 13 = .ok (.ldc2_w 175, 3) := by decide +kernel
theorem dX7_lorry_16 : decode cX7_lorry 16 = .ok (.invokestatic 48, 3) := by decide +kernel
theorem dX7_lorry_19 : decode cX7_lorry 19 = .ok (.ifCond .ne 6, 3) := by decide +kernel
theorem dX7_lorry_22 : decode cX7_lorry 22 = .ok (.ldc 58, 2) := by decide +kernel
theorem dX7_lorry_24 : decode cX7_lorry 24 = .ok (.ireturn, 1) := by decide +kernel
theorem dX7_lorry_25 : decode cX7_lorry 25 = .ok (.aload_n 0, 1) := by decide +kernel
theorem dX7_lorry_26 : decode cX7_lorry 26 = .ok (.invokevirtual 159, 3) := by decide +kernel
theorem dX7_lorry_29 : decode cX7_lorry 29 = .ok (.aload_n 0, 1) := by decide +kernel
theorem dX7_lorry_30 : decode cX7_lorry 30 = .ok (.iconst 0, 1) := by decide +kernel
theorem dX7_lorry_31 : decode cX7_lorry 31 = .ok (.iload_n 1, 1) := by decide +kernel
theorem dX7_lorry_32 : decode cX7_lorry 32 = .ok (.invokevirtual 177, 3) := by decide +kernel
theorem dX7_lorry_35 : decode cX7_lorry 35 = .ok (.ireturn, 1) := by decide +kernel
theorem dX7_need_0 : decode cX7_need 0 = .ok (.aload_n 0, 1) := by decide +kernel
theorem dX7_need_1 : decode cX7_need 1 = .ok (.iload_n 1, 1) := by decide +kernel
theorem dX7_need_2 : decode cX7_need 2 = .ok (.invokevirtual 166, 3) := by decide +kernel
theorem dX7_need_5 : decode cX7_need 5 = .ok (.ifCond .eq 15, 3) := by decide +kernel
theorem dX7_need_8 : decode cX7_need 8 = .ok (.iload_n 2, 1) := by decide +kernel
theorem dX7_need_9 : decode cX7_need 9 = .ok (.i2l, 1) := by decide +kernel
theorem dX7_need_10 : decode cX7_need 10 = .ok (.lconst 1, 1) := by decide +kernel
theorem dX7_need_11 : decode cX7_need 11 = .ok (.ldc2_w 180, 3) := by decide +kernel
theorem dX7_need_14 : decode cX7_need 14 = .ok (.invokestatic 48, 3) := by decide +kernel
theorem dX7_need_17 : decode cX7_need 17 = .ok (.ifCond .ne 6, 3) := by decide +kernel
theorem dX7_need_20 : decode cX7_need 20 = .ok (.ldc 58, 2) := by decide +kernel
theorem dX7_need_22 : decode cX7_need 22 = .ok (.ireturn, 1) := by decide +kernel
theorem dX7_need_23 : decode cX7_need 23 = .ok (.aload_n 0, 1) := by decide +kernel
theorem dX7_need_24 : decode cX7_need 24 = .ok (.invokevirtual 159, 3) := by decide +kernel
theorem dX7_need_27 : decode cX7_need 27 = .ok (.aload_n 0, 1) := by decide +kernel
theorem dX7_need_28 : decode cX7_need 28 = .ok (.getfield 7, 3) := by decide +kernel
theorem dX7_need_31 : decode cX7_need 31 = .ok (.iconst 1, 1) := by decide +kernel
theorem dX7_need_32 : decode cX7_need 32 = .ok (.iload_n 1, 1) := by decide +kernel
theorem dX7_need_33 : decode cX7_need 33 = .ok (.iadd, 1) := by decide +kernel
theorem dX7_need_34 : decode cX7_need 34 = .ok (.iaload, 1) := by decide +kernel
theorem dX7_need_35 : decode cX7_need 35 = .ok (.istore_n 3, 1) := by decide +kernel
theorem dX7_need_36 : decode cX7_need 36 = .ok (.aload_n 0, 1) := by decide +kernel
theorem dX7_need_37 : decode cX7_need 37 = .ok (.getfield 7, 3) := by decide +kernel
theorem dX7_need_40 : decode cX7_need 40 = .ok (.iconst 1, 1) := by decide +kernel
theorem dX7_need_41 : decode cX7_need 41 = .ok (.iload_n 1, 1) := by decide +kernel
theorem dX7_need_42 : decode cX7_need 42 = .ok (.iadd, 1) := by decide +kernel
theorem dX7_need_43 : decode cX7_need 43 = .ok (.iload_n 2, 1) := by decide +kernel
theorem dX7_need_44 : decode cX7_need 44 = .ok (.iastore, 1) := by decide +kernel
theorem dX7_need_45 : decode cX7_need 45 = .ok (.iload_n 3, 1) := by decide +kernel
theorem dX7_need_46 : decode cX7_need 46 = .ok (.ireturn, 1) := by decide +kernel
theorem dX7_child_0 : decode cX7_child 0 = .ok (.aload_n 0, 1) := by decide +kernel
theorem dX7_child_1 : decode cX7_child 1 = .ok (.iload_n 1, 1) := by decide +kernel
theorem dX7_child_2 : decode cX7_child 2 = .ok (.invokevirtual 166, 3) := by decide +kernel
theorem dX7_child_5 : decode cX7_child 5 = .ok (.ifCond .ne 6, 3) := by decide +kernel
theorem dX7_child_8 : decode cX7_child 8 = .ok (.ldc 58, 2) := by decide +kernel
theorem dX7_child_10 : decode cX7_child 10 = .ok (.ireturn, 1) := by decide +kernel
theorem dX7_child_11 : decode cX7_child 11 = .ok (.iload_n 2, 1) := by decide +kernel
theorem dX7_child_12 : decode cX7_child 12 = .ok (.tableswitch 124 0 7 #[48, 57, 67, 77, 87, 97, 107, 117], 48) := by decide +kernel
theorem dX7_child_60 : decode cX7_child 60 = .ok (.aload_n 0, 1) := by decide +kernel
theorem dX7_child_61 : decode cX7_child 61 = .ok (.getfield 7, 3) := by decide +kernel
theorem dX7_child_64 : decode cX7_child 64 = .ok (.iconst 1, 1) := by decide +kernel
theorem dX7_child_65 : decode cX7_child 65 = .ok (.iload_n 1, 1) := by decide +kernel
theorem dX7_child_66 : decode cX7_child 66 = .ok (.iadd, 1) := by decide +kernel
theorem dX7_child_67 : decode cX7_child 67 = .ok (.iaload, 1) := by decide +kernel
theorem dX7_child_68 : decode cX7_child 68 = .ok (.ireturn, 1) := by decide +kernel
theorem dX7_child_69 : decode cX7_child 69 = .ok (.aload_n 0, 1) := by decide +kernel
theorem dX7_child_70 : decode cX7_child 70 = .ok (.getfield 7, 3) := by decide +kernel
theorem dX7_child_73 : decode cX7_child 73 = .ok (.bipush 49, 2) := by decide +kernel
theorem dX7_child_75 : decode cX7_child 75 = .ok (.iload_n 1, 1) := by decide +kernel
theorem dX7_child_76 : decode cX7_child 76 = .ok (.iadd, 1) := by decide +kernel
theorem dX7_child_77 : decode cX7_child 77 = .ok (.iaload, 1) := by decide +kernel
theorem dX7_child_78 : decode cX7_child 78 = .ok (.ireturn, 1) := by decide +kernel
theorem dX7_child_79 : decode cX7_child 79 = .ok (.aload_n 0, 1) := by decide +kernel
theorem dX7_child_80 : decode cX7_child 80 = .ok (.getfield 7, 3) := by decide +kernel
theorem dX7_child_83 : decode cX7_child 83 = .ok (.bipush 56, 2) := by decide +kernel
theorem dX7_child_85 : decode cX7_child 85 = .ok (.iload_n 1, 1) := by decide +kernel
theorem dX7_child_86 : decode cX7_child 86 = .ok (.iadd, 1) := by decide +kernel
theorem dX7_child_87 : decode cX7_child 87 = .ok (.iaload, 1) := by decide +kernel
theorem dX7_child_88 : decode cX7_child 88 = .ok (.ireturn, 1) := by decide +kernel
theorem dX7_child_89 : decode cX7_child 89 = .ok (.aload_n 0, 1) := by decide +kernel
theorem dX7_child_90 : decode cX7_child 90 = .ok (.getfield 7, 3) := by decide +kernel
theorem dX7_child_93 : decode cX7_child 93 = .ok (.bipush 29, 2) := by decide +kernel
theorem dX7_child_95 : decode cX7_child 95 = .ok (.iload_n 1, 1) := by decide +kernel
theorem dX7_child_96 : decode cX7_child 96 = .ok (.iadd, 1) := by decide +kernel
theorem dX7_child_97 : decode cX7_child 97 = .ok (.iaload, 1) := by decide +kernel
theorem dX7_child_98 : decode cX7_child 98 = .ok (.ireturn, 1) := by decide +kernel
theorem dX7_child_99 : decode cX7_child 99 = .ok (.aload_n 0, 1) := by decide +kernel
theorem dX7_child_100 : decode cX7_child 100 = .ok (.getfield 7, 3) := by decide +kernel
theorem dX7_child_103 : decode cX7_child 103 = .ok (.bipush 8, 2) := by decide +kernel
theorem dX7_child_105 : decode cX7_child 105 = .ok (.iload_n 1, 1) := by decide +kernel
theorem dX7_child_106 : decode cX7_child 106 = .ok (.iadd, 1) := by decide +kernel
theorem dX7_child_107 : decode cX7_child 107 = .ok (.iaload, 1) := by decide +kernel
theorem dX7_child_108 : decode cX7_child 108 = .ok (.ireturn, 1) := by decide +kernel
theorem dX7_child_109 : decode cX7_child 109 = .ok (.aload_n 0, 1) := by decide +kernel
theorem dX7_child_110 : decode cX7_child 110 = .ok (.getfield 7, 3) := by decide +kernel
theorem dX7_child_113 : decode cX7_child 113 = .ok (.bipush 15, 2) := by decide +kernel
theorem dX7_child_115 : decode cX7_child 115 = .ok (.iload_n 1, 1) := by decide +kernel
theorem dX7_child_116 : decode cX7_child 116 = .ok (.iadd, 1) := by decide +kernel
theorem dX7_child_117 : decode cX7_child 117 = .ok (.iaload, 1) := by decide +kernel
theorem dX7_child_118 : decode cX7_child 118 = .ok (.ireturn, 1) := by decide +kernel
theorem dX7_child_119 : decode cX7_child 119 = .ok (.aload_n 0, 1) := by decide +kernel
theorem dX7_child_120 : decode cX7_child 120 = .ok (.getfield 7, 3) := by decide +kernel
theorem dX7_child_123 : decode cX7_child 123 = .ok (.bipush 22, 2) := by decide +kernel
theorem dX7_child_125 : decode cX7_child 125 = .ok (.iload_n 1, 1) := by decide +kernel
theorem dX7_child_126 : decode cX7_child 126 = .ok (.iadd, 1) := by decide +kernel
theorem dX7_child_127 : decode cX7_child 127 = .ok (.iaload, 1) := by decide +kernel
theorem dX7_child_128 : decode cX7_child 128 = .ok (.ireturn, 1) := by decide +kernel
theorem dX7_child_129 : decode cX7_child 129 = .ok (.aload_n 0, 1) := by decide +kernel
theorem dX7_child_130 : decode cX7_child 130 = .ok (.iconst 0, 1) := by decide +kernel
theorem dX7_child_131 : decode cX7_child 131 = .ok (.iload_n 1, 1) := by decide +kernel
theorem dX7_child_132 : decode cX7_child 132 = .ok (.invokevirtual 133, 3) := by decide +kernel
theorem dX7_child_135 : decode cX7_child 135 = .ok (.ireturn, 1) := by decide +kernel
theorem dX7_child_136 : decode cX7_child 136 = .ok (.ldc 58, 2) := by decide +kernel
theorem dX7_child_138 : decode cX7_child 138 = .ok (.ireturn, 1) := by decide +kernel
theorem dX7_stand_0 : decode cX7_stand 0 = .ok (.aload_n 0, 1) := by decide +kernel
theorem dX7_stand_1 : decode cX7_stand 1 = .ok (.invokevirtual 154, 3) := by decide +kernel
theorem dX7_stand_4 : decode cX7_stand 4 = .ok (.ifCond .ne 6, 3) := by decide +kernel
theorem dX7_stand_7 : decode cX7_stand 7 = .ok (.ldc 153, 2) := by decide +kernel
theorem dX7_stand_9 : decode cX7_stand 9 = .ok (.ireturn, 1) := by decide +kernel
theorem dX7_stand_10 : decode cX7_stand 10 = .ok (.iload_n 1, 1) := by decide +kernel
theorem dX7_stand_11 : decode cX7_stand 11 = .ok (.i2l, 1) := by decide +kernel
theorem dX7_stand_12 : decode cX7_stand 12 = .ok (.lconst 0, 1) := by decide +kernel
theorem dX7_stand_13 : decode cX7_stand 13 = .ok (.ldc2_w 56, 3) := by decide +kernel
theorem dX7_stand_16 : decode cX7_stand 16 = .ok (.invokestatic 48, 3) := by decide +kernel
theorem dX7_stand_19 : decode cX7_stand 19 = .ok (.ifCond .eq 12, 3) := by decide +kernel
theorem dX7_stand_22 : decode cX7_stand 22 = .ok (.aload_n 0, 1) := by decide +kernel
theorem dX7_stand_23 : decode cX7_stand 23 = .ok (.iconst 0, 1) := by decide +kernel
theorem dX7_stand_24 : decode cX7_stand 24 = .ok (.iload_n 1, 1) := by decide +kernel
theorem dX7_stand_25 : decode cX7_stand 25 = .ok (.invokevirtual 150, 3) := by decide +kernel
theorem dX7_stand_28 : decode cX7_stand 28 = .ok (.goto 35, 3) := by decide +kernel
theorem dX7_stand_31 : decode cX7_stand 31 = .ok (.iload_n 1, 1) := by decide +kernel
theorem dX7_stand_32 : decode cX7_stand 32 = .ok (.iconst 3, 1) := by decide +kernel
theorem dX7_stand_33 : decode cX7_stand 33 = .ok (.if_icmp .ne 13, 3) := by decide +kernel
theorem dX7_stand_36 : decode cX7_stand 36 = .ok (.aload_n 0, 1) := by decide +kernel
theorem dX7_stand_37 : decode cX7_stand 37 = .ok (.getfield 7, 3) := by decide +kernel
theorem dX7_stand_40 : decode cX7_stand 40 = .ok (.bipush 36, 2) := by decide +kernel
theorem dX7_stand_42 : decode cX7_stand 42 = .ok (.iaload, 1) := by decide +kernel
theorem dX7_stand_43 : decode cX7_stand 43 = .ok (.goto 20, 3) := by decide +kernel
theorem dX7_stand_46 : decode cX7_stand 46 = .ok (.iload_n 1, 1) := by decide +kernel
theorem dX7_stand_47 : decode cX7_stand 47 = .ok (.iconst 4, 1) := by decide +kernel
theorem dX7_stand_48 : decode cX7_stand 48 = .ok (.if_icmp .ne 13, 3) := by decide +kernel
theorem dX7_stand_51 : decode cX7_stand 51 = .ok (.aload_n 0, 1) := by decide +kernel
theorem dX7_stand_52 : decode cX7_stand 52 = .ok (.getfield 7, 3) := by decide +kernel
theorem dX7_stand_55 : decode cX7_stand 55 = .ok (.bipush 37, 2) := by decide +kernel
theorem dX7_stand_57 : decode cX7_stand 57 = .ok (.iaload, 1) := by decide +kernel
theorem dX7_stand_58 : decode cX7_stand 58 = .ok (.goto 5, 3) := by decide +kernel
theorem dX7_stand_61 : decode cX7_stand 61 = .ok (.ldc 58, 2) := by decide +kernel
theorem dX7_stand_63 : decode cX7_stand 63 = .ok (.ireturn, 1) := by decide +kernel
theorem dX7_isSpan_0 : decode cX7_isSpan 0 = .ok (.iload_n 0, 1) := by decide +kernel
theorem dX7_isSpan_1 : decode cX7_isSpan 1 = .ok (.i2l, 1) := by decide +kernel
theorem dX7_isSpan_2 : decode cX7_isSpan 2 = .ok (.iload_n 1, 1) := by decide +kernel
theorem dX7_isSpan_3 : decode cX7_isSpan 3 = .ok (.i2l, 1) := by decide +kernel
theorem dX7_isSpan_4 : decode cX7_isSpan 4 = .ok (.ldc2_w 182, 3) := by decide +kernel
theorem dX7_isSpan_7 : decode cX7_isSpan 7 = .ok (.invokestatic 48, 3) := by decide +kernel
theorem dX7_isSpan_10 : decode cX7_isSpan 10 = .ok (.ireturn, 1) := by decide +kernel
theorem dX7_tries_0 : decode cX7_tries 0 = .ok (.aload_n 0, 1) := by decide +kernel
theorem dX7_tries_1 : decode cX7_tries 1 = .ok (.iconst 0, 1) := by decide +kernel
theorem dX7_tries_2 : decode cX7_tries 2 = .ok (.sipush 189, 3) := by decide +kernel
theorem dX7_tries_5 : decode cX7_tries 5 = .ok (.invokevirtual 116, 3) := by decide +kernel
theorem dX7_tries_8 : decode cX7_tries 8 = .ok (.return_, 1) := by decide +kernel
theorem dX7_goesOn_0 : decode cX7_goesOn 0 = .ok (.iconst 0, 1) := by decide +kernel
theorem dX7_goesOn_1 : decode cX7_goesOn 1 = .ok (.istore_n 2, 1) := by decide +kernel
theorem dX7_goesOn_2 : decode cX7_goesOn 2 = .ok (.iload_n 2, 1) := by decide +kernel
theorem dX7_goesOn_3 : decode cX7_goesOn 3 = .ok (.iload_n 1, 1) := by decide +kernel
theorem dX7_goesOn_4 : decode cX7_goesOn 4 = .ok (.if_icmp .ge 16, 3) := by decide +kernel
theorem dX7_goesOn_7 : decode cX7_goesOn 7 = .ok (.aload_n 0, 1) := by decide +kernel
theorem dX7_goesOn_8 : decode cX7_goesOn 8 = .ok (.sipush 189, 3) := by decide +kernel
theorem dX7_goesOn_11 : decode cX7_goesOn 11 = .ok (.invokevirtual 162, 3) := by decide +kernel
theorem dX7_goesOn_14 : decode cX7_goesOn 14 = .ok (.iinc 2 1, 3) := by decide +kernel
theorem dX7_goesOn_17 : decode cX7_goesOn 17 = .ok (.goto (-15), 3) := by decide +kernel
theorem dX7_goesOn_20 : decode cX7_goesOn 20 = .ok (.return_, 1) := by decide +kernel
theorem dX7_ahead_0 : decode cX7_ahead 0 = .ok (.aload_n 0, 1) := by decide +kernel
theorem dX7_ahead_1 : decode cX7_ahead 1 = .ok (.invokevirtual 154, 3) := by decide +kernel
theorem dX7_ahead_4 : decode cX7_ahead 4 = .ok (.ifCond .ne 6, 3) := by decide +kernel
theorem dX7_ahead_7 : decode cX7_ahead 7 = .ok (.ldc 153, 2) := by decide +kernel
theorem dX7_ahead_9 : decode cX7_ahead 9 = .ok (.ireturn, 1) := by decide +kernel
theorem dX7_ahead_10 : decode cX7_ahead 10 = .ok (.iload_n 1, 1) := by decide +kernel
theorem dX7_ahead_11 : decode cX7_ahead 11 = .ok (.iconst 0, 1) := by decide +kernel
theorem dX7_ahead_12 : decode cX7_ahead 12 = .ok (.invokestatic 184, 3) := by decide +kernel
theorem dX7_ahead_15 : decode cX7_ahead 15 = .ok (.ifCond .eq 15, 3) := by decide +kernel
theorem dX7_ahead_18 : decode cX7_ahead 18 = .ok (.iload_n 2, 1) := by decide +kernel
theorem dX7_ahead_19 : decode cX7_ahead 19 = .ok (.i2l, 1) := by decide +kernel
theorem dX7_ahead_20 : decode cX7_ahead 20 = .ok (.lconst 0, 1) := by decide +kernel
theorem dX7_ahead_21 : decode cX7_ahead 21 = .ok (.ldc2_w 56, 3) := by decide +kernel
theorem dX7_ahead_24 : decode cX7_ahead 24 = .ok (.invokestatic 48, 3) := by decide +kernel
theorem dX7_ahead_27 : decode cX7_ahead 27 = .ok (.ifCond .ne 6, 3) := by decide +kernel
theorem dX7_ahead_30 : decode cX7_ahead 30 = .ok (.ldc 58, 2) := by decide +kernel
theorem dX7_ahead_32 : decode cX7_ahead 32 = .ok (.ireturn, 1) := by decide +kernel
theorem dX7_ahead_33 : decode cX7_ahead 33 = .ok (.aload_n 0, 1) := by decide +kernel
theorem dX7_ahead_34 : decode cX7_ahead 34 = .ok (.invokevirtual 187, 3) := by decide +kernel
theorem dX7_ahead_37 : decode cX7_ahead 37 = .ok (.aload_n 0, 1) := by decide +kernel
theorem dX7_ahead_38 : decode cX7_ahead 38 = .ok (.iload_n 1, 1) := by decide +kernel
theorem dX7_ahead_39 : decode cX7_ahead 39 = .ok (.invokevirtual 190, 3) := by decide +kernel
theorem dX7_ahead_42 : decode cX7_ahead 42 = .ok (.aload_n 0, 1) := by decide +kernel
theorem dX7_ahead_43 : decode cX7_ahead 43 = .ok (.sipush 189, 3) := by decide +kernel
theorem dX7_ahead_46 : decode cX7_ahead 46 = .ok (.iload_n 2, 1) := by decide +kernel
theorem dX7_ahead_47 : decode cX7_ahead 47 = .ok (.invokevirtual 150, 3) := by decide +kernel
theorem dX7_ahead_50 : decode cX7_ahead 50 = .ok (.ireturn, 1) := by decide +kernel
theorem dX7_noise_0 : decode cX7_noise 0 = .ok (.aload_n 0, 1) := by decide +kernel
theorem dX7_noise_1 : decode cX7_noise 1 = .ok (.iload_n 1, 1) := by decide +kernel
theorem dX7_noise_2 : decode cX7_noise 2 = .ok (.invokevirtual 166, 3) := by decide +kernel
theorem dX7_noise_5 : decode cX7_noise 5 = .ok (.ifCond .eq 11, 3) := by decide +kernel
theorem dX7_noise_8 : decode cX7_noise 8 = .ok (.iload_n 2, 1) := by decide +kernel
theorem dX7_noise_9 : decode cX7_noise 9 = .ok (.iconst 0, 1) := by decide +kernel
theorem dX7_noise_10 : decode cX7_noise 10 = .ok (.invokestatic 184, 3) := by decide +kernel
theorem dX7_noise_13 : decode cX7_noise 13 = .ok (.ifCond .ne 6, 3) := by decide +kernel
theorem dX7_noise_16 : decode cX7_noise 16 = .ok (.ldc 58, 2) := by decide +kernel
theorem dX7_noise_18 : decode cX7_noise 18 = .ok (.ireturn, 1) := by decide +kernel
theorem dX7_noise_19 : decode cX7_noise 19 = .ok (.aload_n 0, 1) := by decide +kernel
theorem dX7_noise_20 : decode cX7_noise 20 = .ok (.invokevirtual 187, 3) := by decide +kernel
theorem dX7_noise_23 : decode cX7_noise 23 = .ok (.aload_n 0, 1) := by decide +kernel
theorem dX7_noise_24 : decode cX7_noise 24 = .ok (.iload_n 2, 1) := by decide +kernel
theorem dX7_noise_25 : decode cX7_noise 25 = .ok (.invokevirtual 190, 3) := by decide +kernel
theorem dX7_noise_28 : decode cX7_noise 28 = .ok (.aload_n 0, 1) := by decide +kernel
theorem dX7_noise_29 : decode cX7_noise 29 = .ok (.sipush 189, 3) := by decide +kernel
theorem dX7_noise_32 : decode cX7_noise 32 = .ok (.iload_n 1, 1) := by decide +kernel
theorem dX7_noise_33 : decode cX7_noise 33 = .ok (.invokevirtual 133, 3) := by decide +kernel
theorem dX7_noise_36 : decode cX7_noise 36 = .ok (.ireturn, 1) := by decide +kernel
theorem dX7_asleep_0 : decode cX7_asleep 0 = .ok (.aload_n 0, 1) := by decide +kernel
theorem dX7_asleep_1 : decode cX7_asleep 1 = .ok (.iload_n 1, 1) := by decide +kernel
theorem dX7_asleep_2 : decode cX7_asleep 2 = .ok (.invokevirtual 166, 3) := by decide +kernel
theorem dX7_asleep_5 : decode cX7_asleep 5 = .ok (.ifCond .ne 6, 3) := by decide +kernel
theorem dX7_asleep_8 : decode cX7_asleep 8 = .ok (.ldc 58, 2) := by decide +kernel
theorem dX7_asleep_10 : decode cX7_asleep 10 = .ok (.ireturn, 1) := by decide +kernel
theorem dX7_asleep_11 : decode cX7_asleep 11 = .ok (.aload_n 0, 1) := by decide +kernel
theorem dX7_asleep_12 : decode cX7_asleep 12 = .ok (.invokevirtual 187, 3) := by decide +kernel
theorem dX7_asleep_15 : decode cX7_asleep 15 = .ok (.iconst 0, 1) := by decide +kernel
theorem dX7_asleep_16 : decode cX7_asleep 16 = .ok (.istore_n 2, 1) := by decide +kernel
theorem dX7_asleep_17 : decode cX7_asleep 17 = .ok (.iload_n 2, 1) := by decide +kernel
theorem dX7_asleep_18 : decode cX7_asleep 18 = .ok (.bipush 60, 2) := by decide +kernel
theorem dX7_asleep_20 : decode cX7_asleep 20 = .ok (.if_icmp .gt 32, 3) := by decide +kernel
theorem dX7_asleep_23 : decode cX7_asleep 23 = .ok (.aload_n 0, 1) := by decide +kernel
theorem dX7_asleep_24 : decode cX7_asleep 24 = .ok (.getfield 7, 3) := by decide +kernel
theorem dX7_asleep_27 : decode cX7_asleep 27 = .ok (.sipush 197, 3) := by decide +kernel
theorem dX7_asleep_30 : decode cX7_asleep 30 = .ok (.iload_n 1, 1) := by decide +kernel
theorem dX7_asleep_31 : decode cX7_asleep 31 = .ok (.iadd, 1) := by decide +kernel
theorem dX7_asleep_32 : decode cX7_asleep 32 = .ok (.iaload, 1) := by decide +kernel
theorem dX7_asleep_33 : decode cX7_asleep 33 = .ok (.iconst 2, 1) := by decide +kernel
theorem dX7_asleep_34 : decode cX7_asleep 34 = .ok (.if_icmp .ne 5, 3) := by decide +kernel
theorem dX7_asleep_37 : decode cX7_asleep 37 = .ok (.iload_n 2, 1) := by decide +kernel
theorem dX7_asleep_38 : decode cX7_asleep 38 = .ok (.ireturn, 1) := by decide +kernel
theorem dX7_asleep_39 : decode cX7_asleep 39 = .ok (.aload_n 0, 1) := by decide +kernel
theorem dX7_asleep_40 : decode cX7_asleep 40 = .ok (.sipush 189, 3) := by decide +kernel
theorem dX7_asleep_43 : decode cX7_asleep 43 = .ok (.invokevirtual 162, 3) := by decide +kernel
theorem dX7_asleep_46 : decode cX7_asleep 46 = .ok (.iinc 2 1, 3) := by decide +kernel
theorem dX7_asleep_49 : decode cX7_asleep 49 = .ok (.goto (-32), 3) := by decide +kernel
theorem dX7_asleep_52 : decode cX7_asleep 52 = .ok (.ldc 193, 2) := by decide +kernel
theorem dX7_asleep_54 : decode cX7_asleep 54 = .ok (.ireturn, 1) := by decide +kernel
theorem dX7_allAsleep_0 : decode cX7_allAsleep 0 = .ok (.aload_n 0, 1) := by decide +kernel
theorem dX7_allAsleep_1 : decode cX7_allAsleep 1 = .ok (.invokevirtual 154, 3) := by decide +kernel
theorem dX7_allAsleep_4 : decode cX7_allAsleep 4 = .ok (.ifCond .ne 6, 3) := by decide +kernel
theorem dX7_allAsleep_7 : decode cX7_allAsleep 7 = .ok (.ldc 153, 2) := by decide +kernel
theorem dX7_allAsleep_9 : decode cX7_allAsleep 9 = .ok (.ireturn, 1) := by decide +kernel
theorem dX7_allAsleep_10 : decode cX7_allAsleep 10 = .ok (.aload_n 0, 1) := by decide +kernel
theorem dX7_allAsleep_11 : decode cX7_allAsleep 11 = .ok (.invokevirtual 187, 3) := by decide +kernel
theorem dX7_allAsleep_14 : decode cX7_allAsleep 14 = .ok (.iconst 0, 1) := by decide +kernel
theorem dX7_allAsleep_15 : decode cX7_allAsleep 15 = .ok (.istore_n 1, 1) := by decide +kernel
theorem dX7_allAsleep_16 : decode cX7_allAsleep 16 = .ok (.iload_n 1, 1) := by decide +kernel
theorem dX7_allAsleep_17 : decode cX7_allAsleep 17 = .ok (.bipush 60, 2) := by decide +kernel
theorem dX7_allAsleep_19 : decode cX7_allAsleep 19 = .ok (.if_icmp .gt 28, 3) := by decide +kernel
theorem dX7_allAsleep_22 : decode cX7_allAsleep 22 = .ok (.aload_n 0, 1) := by decide +kernel
theorem dX7_allAsleep_23 : decode cX7_allAsleep 23 = .ok (.sipush 189, 3) := by decide +kernel
theorem dX7_allAsleep_26 : decode cX7_allAsleep 26 = .ok (.invokevirtual 194, 3) := by decide +kernel
theorem dX7_allAsleep_29 : decode cX7_allAsleep 29 = .ok (.ifCond .eq 5, 3) := by decide +kernel
theorem dX7_allAsleep_32 : decode cX7_allAsleep 32 = .ok (.iload_n 1, 1) := by decide +kernel
theorem dX7_allAsleep_33 : decode cX7_allAsleep 33 = .ok (.ireturn, 1) := by decide +kernel
theorem dX7_allAsleep_34 : decode cX7_allAsleep 34 = .ok (.aload_n 0, 1) := by decide +kernel
theorem dX7_allAsleep_35 : decode cX7_allAsleep 35 = .ok (.sipush 189, 3) := by decide +kernel
theorem dX7_allAsleep_38 : decode cX7_allAsleep 38 = .ok (.invokevirtual 162, 3) := by decide +kernel
theorem dX7_allAsleep_41 : decode cX7_allAsleep 41 = .ok (.iinc 1 1, 3) := by decide +kernel
theorem dX7_allAsleep_44 : decode cX7_allAsleep 44 = .ok (.goto (-28), 3) := by decide +kernel
theorem dX7_allAsleep_47 : decode cX7_allAsleep 47 = .ok (.ldc 193, 2) := by decide +kernel
theorem dX7_allAsleep_49 : decode cX7_allAsleep 49 = .ok (.ireturn, 1) := by decide +kernel
theorem dX7_dinner_0 : decode cX7_dinner 0 = .ok (.aload_n 0, 1) := by decide +kernel
theorem dX7_dinner_1 : decode cX7_dinner 1 = .ok (.invokevirtual 154, 3) := by decide +kernel
theorem dX7_dinner_4 : decode cX7_dinner 4 = .ok (.ifCond .ne 6, 3) := by decide +kernel
theorem dX7_dinner_7 : decode cX7_dinner 7 = .ok (.ldc 153, 2) := by decide +kernel
theorem dX7_dinner_9 : decode cX7_dinner 9 = .ok (.ireturn, 1) := by decide +kernel
theorem dX7_dinner_10 : decode cX7_dinner 10 = .ok (.iload_n 1, 1) := by decide +kernel
theorem dX7_dinner_11 : decode cX7_dinner 11 = .ok (.iconst 1, 1) := by decide +kernel
theorem dX7_dinner_12 : decode cX7_dinner 12 = .ok (.invokestatic 184, 3) := by decide +kernel
theorem dX7_dinner_15 : decode cX7_dinner 15 = .ok (.ifCond .ne 6, 3) := by decide +kernel
theorem dX7_dinner_18 : decode cX7_dinner 18 = .ok (.ldc 58, 2) := by decide +kernel
theorem dX7_dinner_20 : decode cX7_dinner 20 = .ok (.ireturn, 1) := by decide +kernel
theorem dX7_dinner_21 : decode cX7_dinner 21 = .ok (.aload_n 0, 1) := by decide +kernel
theorem dX7_dinner_22 : decode cX7_dinner 22 = .ok (.invokevirtual 187, 3) := by decide +kernel
theorem dX7_dinner_25 : decode cX7_dinner 25 = .ok (.iconst 0, 1) := by decide +kernel
theorem dX7_dinner_26 : decode cX7_dinner 26 = .ok (.istore_n 2, 1) := by decide +kernel
theorem dX7_dinner_27 : decode cX7_dinner 27 = .ok (.iconst 0, 1) := by decide +kernel
theorem dX7_dinner_28 : decode cX7_dinner 28 = .ok (.istore_n 3, 1) := by decide +kernel
theorem dX7_dinner_29 : decode cX7_dinner 29 = .ok (.iconst 0, 1) := by decide +kernel
theorem dX7_dinner_30 : decode cX7_dinner 30 = .ok (.istore 4, 2) := by decide +kernel
theorem dX7_dinner_32 : decode cX7_dinner 32 = .ok (.iload 4, 2) := by decide +kernel
theorem dX7_dinner_34 : decode cX7_dinner 34 = .ok (.iload_n 1, 1) := by decide +kernel
theorem dX7_dinner_35 : decode cX7_dinner 35 = .ok (.if_icmp .ge 45, 3) := by decide +kernel
theorem dX7_dinner_38 : decode cX7_dinner 38 = .ok (.aload_n 0, 1) := by decide +kernel
theorem dX7_dinner_39 : decode cX7_dinner 39 = .ok (.sipush 189, 3) := by decide +kernel
theorem dX7_dinner_42 : decode cX7_dinner 42 = .ok (.invokevirtual 162, 3) := by decide +kernel
theorem dX7_dinner_45 : decode cX7_dinner 45 = .ok (.aload_n 0, 1) := by decide +kernel
theorem dX7_dinner_46 : decode cX7_dinner 46 = .ok (.sipush 189, 3) := by decide +kernel
theorem dX7_dinner_49 : decode cX7_dinner 49 = .ok (.invokevirtual 194, 3) := by decide +kernel
theorem dX7_dinner_52 : decode cX7_dinner 52 = .ok (.ifCond .eq 9, 3) := by decide +kernel
theorem dX7_dinner_55 : decode cX7_dinner 55 = .ok (.iload_n 3, 1) := by decide +kernel
theorem dX7_dinner_56 : decode cX7_dinner 56 = .ok (.iconst 1, 1) := by decide +kernel
theorem dX7_dinner_57 : decode cX7_dinner 57 = .ok (.iadd, 1) := by decide +kernel
theorem dX7_dinner_58 : decode cX7_dinner 58 = .ok (.goto 4, 3) := by decide +kernel
theorem dX7_dinner_61 : decode cX7_dinner 61 = .ok (.iconst 0, 1) := by decide +kernel
theorem dX7_dinner_62 : decode cX7_dinner 62 = .ok (.istore_n 3, 1) := by decide +kernel
theorem dX7_dinner_63 : decode cX7_dinner 63 = .ok (.iload_n 3, 1) := by decide +kernel
theorem dX7_dinner_64 : decode cX7_dinner 64 = .ok (.iload_n 2, 1) := by decide +kernel
theorem dX7_dinner_65 : decode cX7_dinner 65 = .ok (.if_icmp .le 7, 3) := by decide +kernel
theorem dX7_dinner_68 : decode cX7_dinner 68 = .ok (.iload_n 3, 1) := by decide +kernel
theorem dX7_dinner_69 : decode cX7_dinner 69 = .ok (.goto 4, 3) := by decide +kernel
theorem dX7_dinner_72 : decode cX7_dinner 72 = .ok (.iload_n 2, 1) := by decide +kernel
theorem dX7_dinner_73 : decode cX7_dinner 73 = .ok (.istore_n 2, 1) := by decide +kernel
theorem dX7_dinner_74 : decode cX7_dinner 74 = .ok (.iinc 4 1, 3) := by decide +kernel
theorem dX7_dinner_77 : decode cX7_dinner 77 = .ok (.goto (-45), 3) := by decide +kernel
theorem dX7_dinner_80 : decode cX7_dinner 80 = .ok (.iload_n 2, 1) := by decide +kernel
theorem dX7_dinner_81 : decode cX7_dinner 81 = .ok (.ireturn, 1) := by decide +kernel
theorem dX7_isLook_0 : decode cX7_isLook 0 = .ok (.iload_n 1, 1) := by decide +kernel
theorem dX7_isLook_1 : decode cX7_isLook 1 = .ok (.i2l, 1) := by decide +kernel
theorem dX7_isLook_2 : decode cX7_isLook 2 = .ok (.lconst 1, 1) := by decide +kernel
theorem dX7_isLook_3 : decode cX7_isLook 3 = .ok (.ldc2_w 197, 3) := by decide +kernel
theorem dX7_isLook_6 : decode cX7_isLook 6 = .ok (.invokestatic 48, 3) := by decide +kernel
theorem dX7_isLook_9 : decode cX7_isLook 9 = .ok (.ifCond .eq 17, 3) := by decide +kernel
theorem dX7_isLook_12 : decode cX7_isLook 12 = .ok (.iload_n 2, 1) := by decide +kernel
theorem dX7_isLook_13 : decode cX7_isLook 13 = .ok (.i2l, 1) := by decide +kernel
theorem dX7_isLook_14 : decode cX7_isLook 14 = .ok (.lconst 0, 1) := by decide +kernel
theorem dX7_isLook_15 : decode cX7_isLook 15 = .ok (.lconst 1, 1) := by decide +kernel
theorem dX7_isLook_16 : decode cX7_isLook 16 = .ok (.invokestatic 48, 3) := by decide +kernel
theorem dX7_isLook_19 : decode cX7_isLook 19 = .ok (.ifCond .eq 7, 3) := by decide +kernel
theorem dX7_isLook_22 : decode cX7_isLook 22 = .ok (.iconst 1, 1) := by decide +kernel
theorem dX7_isLook_23 : decode cX7_isLook 23 = .ok (.goto 4, 3) := by decide +kernel
theorem dX7_isLook_26 : decode cX7_isLook 26 = .ok (.iconst 0, 1) := by decide +kernel
theorem dX7_isLook_27 : decode cX7_isLook 27 = .ok (.ireturn, 1) := by decide +kernel
theorem dX7_hands_0 : decode cX7_hands 0 = .ok (.aload_n 0, 1) := by decide +kernel
theorem dX7_hands_1 : decode cX7_hands 1 = .ok (.invokevirtual 154, 3) := by decide +kernel
theorem dX7_hands_4 : decode cX7_hands 4 = .ok (.ifCond .ne 6, 3) := by decide +kernel
theorem dX7_hands_7 : decode cX7_hands 7 = .ok (.ldc 153, 2) := by decide +kernel
theorem dX7_hands_9 : decode cX7_hands 9 = .ok (.ireturn, 1) := by decide +kernel
theorem dX7_hands_10 : decode cX7_hands 10 = .ok (.aload_n 0, 1) := by decide +kernel
theorem dX7_hands_11 : decode cX7_hands 11 = .ok (.iload_n 1, 1) := by decide +kernel
theorem dX7_hands_12 : decode cX7_hands 12 = .ok (.iload_n 2, 1) := by decide +kernel
theorem dX7_hands_13 : decode cX7_hands 13 = .ok (.invokevirtual 199, 3) := by decide +kernel
theorem dX7_hands_16 : decode cX7_hands 16 = .ok (.ifCond .ne 6, 3) := by decide +kernel
theorem dX7_hands_19 : decode cX7_hands 19 = .ok (.ldc 58, 2) := by decide +kernel
theorem dX7_hands_21 : decode cX7_hands 21 = .ok (.ireturn, 1) := by decide +kernel
theorem dX7_hands_22 : decode cX7_hands 22 = .ok (.iconst 0, 1) := by decide +kernel
theorem dX7_hands_23 : decode cX7_hands 23 = .ok (.istore_n 3, 1) := by decide +kernel
theorem dX7_hands_24 : decode cX7_hands 24 = .ok (.iconst (-1), 1) := by decide +kernel
theorem dX7_hands_25 : decode cX7_hands 25 = .ok (.istore 4, 2) := by decide +kernel
theorem dX7_hands_27 : decode cX7_hands 27 = .ok (.iconst 0, 1) := by decide +kernel
theorem dX7_hands_28 : decode cX7_hands 28 = .ok (.istore 5, 2) := by decide +kernel
theorem dX7_hands_30 : decode cX7_hands 30 = .ok (.iload 5, 2) := by decide +kernel
theorem dX7_hands_32 : decode cX7_hands 32 = .ok (.iconst 1, 1) := by decide +kernel
theorem dX7_hands_33 : decode cX7_hands 33 = .ok (.aload_n 0, 1) := by decide +kernel
theorem dX7_hands_34 : decode cX7_hands 34 = .ok (.getfield 7, 3) := by decide +kernel
theorem dX7_hands_37 : decode cX7_hands 37 = .ok (.bipush 41, 2) := by decide +kernel
theorem dX7_hands_39 : decode cX7_hands 39 = .ok (.iaload, 1) := by decide +kernel
theorem dX7_hands_40 : decode cX7_hands 40 = .ok (.ishl, 1) := by decide +kernel
theorem dX7_hands_41 : decode cX7_hands 41 = .ok (.if_icmp .ge 115, 3) := by decide +kernel
theorem dX7_hands_44 : decode cX7_hands 44 = .ok (.iload 5, 2) := by decide +kernel
theorem dX7_hands_46 : decode cX7_hands 46 = .ok (.invokestatic 169, 3) := by decide +kernel
theorem dX7_hands_49 : decode cX7_hands 49 = .ok (.aload_n 0, 1) := by decide +kernel
theorem dX7_hands_50 : decode cX7_hands 50 = .ok (.getfield 7, 3) := by decide +kernel
theorem dX7_hands_53 : decode cX7_hands 53 = .ok (.bipush 39, 2) := by decide +kernel
theorem dX7_hands_55 : decode cX7_hands 55 = .ok (.iaload, 1) := by decide +kernel
theorem dX7_hands_56 : decode cX7_hands 56 = .ok (.if_icmp .gt 94, 3) := by decide +kernel
theorem dX7_hands_59 : decode cX7_hands 59 = .ok (.aload_n 0, 1) := by decide +kernel
theorem dX7_hands_60 : decode cX7_hands 60 = .ok (.invokevirtual 187, 3) := by decide +kernel
theorem dX7_hands_63 : decode cX7_hands 63 = .ok (.aload_n 0, 1) := by decide +kernel
theorem dX7_hands_64 : decode cX7_hands 64 = .ok (.getfield 7, 3) := by decide +kernel
theorem dX7_hands_67 : decode cX7_hands 67 = .ok (.sipush 226, 3) := by decide +kernel
theorem dX7_hands_70 : decode cX7_hands 70 = .ok (.iload 5, 2) := by decide +kernel
theorem dX7_hands_72 : decode cX7_hands 72 = .ok (.iastore, 1) := by decide +kernel
theorem dX7_hands_73 : decode cX7_hands 73 = .ok (.aload_n 0, 1) := by decide +kernel
theorem dX7_hands_74 : decode cX7_hands 74 = .ok (.iload_n 1, 1) := by decide +kernel
theorem dX7_hands_75 : decode cX7_hands 75 = .ok (.invokevirtual 190, 3) := by decide +kernel
theorem dX7_hands_78 : decode cX7_hands 78 = .ok (.aload_n 0, 1) := by decide +kernel
theorem dX7_hands_79 : decode cX7_hands 79 = .ok (.sipush 189, 3) := by decide +kernel
theorem dX7_hands_82 : decode cX7_hands 82 = .ok (.iconst 2, 1) := by decide +kernel
theorem dX7_hands_83 : decode cX7_hands 83 = .ok (.invokevirtual 150, 3) := by decide +kernel
theorem dX7_hands_86 : decode cX7_hands 86 = .ok (.invokestatic 169, 3) := by decide +kernel
theorem dX7_hands_89 : decode cX7_hands 89 = .ok (.istore 6, 2) := by decide +kernel
theorem dX7_hands_91 : decode cX7_hands 91 = .ok (.iload 6, 2) := by decide +kernel
theorem dX7_hands_93 : decode cX7_hands 93 = .ok (.iload 4, 2) := by decide +kernel
theorem dX7_hands_95 : decode cX7_hands 95 = .ok (.if_icmp .gt 22, 3) := by decide +kernel
theorem dX7_hands_98 : decode cX7_hands 98 = .ok (.iload 6, 2) := by decide +kernel
theorem dX7_hands_100 : decode cX7_hands 100 = .ok (.iload 4, 2) := by decide +kernel
theorem dX7_hands_102 : decode cX7_hands 102 = .ok (.if_icmp .ne 19, 3) := by decide +kernel
theorem dX7_hands_105 : decode cX7_hands 105 = .ok (.iload 5, 2) := by decide +kernel
theorem dX7_hands_107 : decode cX7_hands 107 = .ok (.invokestatic 169, 3) := by decide +kernel
theorem dX7_hands_110 : decode cX7_hands 110 = .ok (.iload_n 3, 1) := by decide +kernel
theorem dX7_hands_111 : decode cX7_hands 111 = .ok (.invokestatic 169, 3) := by decide +kernel
theorem dX7_hands_114 : decode cX7_hands 114 = .ok (.if_icmp .ge 7, 3) := by decide +kernel
theorem dX7_hands_117 : decode cX7_hands 117 = .ok (.iconst 1, 1) := by decide +kernel
theorem dX7_hands_118 : decode cX7_hands 118 = .ok (.goto 4, 3) := by decide +kernel
theorem dX7_hands_121 : decode cX7_hands 121 = .ok (.iconst 0, 1) := by decide +kernel
theorem dX7_hands_122 : decode cX7_hands 122 = .ok (.istore 7, 2) := by decide +kernel
theorem dX7_hands_124 : decode cX7_hands 124 = .ok (.iload 7, 2) := by decide +kernel
theorem dX7_hands_126 : decode cX7_hands 126 = .ok (.ifCond .eq 8, 3) := by decide +kernel
theorem dX7_hands_129 : decode cX7_hands 129 = .ok (.iload 5, 2) := by decide +kernel
theorem dX7_hands_131 : decode cX7_hands 131 = .ok (.goto 4, 3) := by decide +kernel
theorem dX7_hands_134 : decode cX7_hands 134 = .ok (.iload_n 3, 1) := by decide +kernel
theorem dX7_hands_135 : decode cX7_hands 135 = .ok (.istore_n 3, 1) := by decide +kernel
theorem dX7_hands_136 : decode cX7_hands 136 = .ok (.iload 7, 2) := by decide +kernel
theorem dX7_hands_138 : decode cX7_hands 138 = .ok (.ifCond .eq 8, 3) := by decide +kernel
theorem dX7_hands_141 : decode cX7_hands 141 = .ok (.iload 6, 2) := by decide +kernel
theorem dX7_hands_143 : decode cX7_hands 143 = .ok (.goto 5, 3) := by decide +kernel
theorem dX7_hands_146 : decode cX7_hands 146 = .ok (.iload 4, 2) := by decide +kernel
theorem dX7_hands_148 : decode cX7_hands 148 = .ok (.istore 4, 2) := by decide +kernel
theorem dX7_hands_150 : decode cX7_hands 150 = .ok (.iinc 5 1, 3) := by decide +kernel
theorem dX7_hands_153 : decode cX7_hands 153 = .ok (.goto (-123), 3) := by decide +kernel
theorem dX7_hands_156 : decode cX7_hands 156 = .ok (.iload_n 2, 1) := by decide +kernel
theorem dX7_hands_157 : decode cX7_hands 157 = .ok (.ifCond .ne 8, 3) := by decide +kernel
theorem dX7_hands_160 : decode cX7_hands 160 = .ok (.iload 4, 2) := by decide +kernel
theorem dX7_hands_162 : decode cX7_hands 162 = .ok (.goto 4, 3) := by decide +kernel
theorem dX7_hands_165 : decode cX7_hands 165 = .ok (.iload_n 3, 1) := by decide +kernel
theorem dX7_hands_166 : decode cX7_hands 166 = .ok (.ireturn, 1) := by decide +kernel
theorem dX7_outs_0 : decode cX7_outs 0 = .ok (.aload_n 0, 1) := by decide +kernel
theorem dX7_outs_1 : decode cX7_outs 1 = .ok (.invokevirtual 154, 3) := by decide +kernel
theorem dX7_outs_4 : decode cX7_outs 4 = .ok (.ifCond .ne 6, 3) := by decide +kernel
theorem dX7_outs_7 : decode cX7_outs 7 = .ok (.ldc 153, 2) := by decide +kernel
theorem dX7_outs_9 : decode cX7_outs 9 = .ok (.ireturn, 1) := by decide +kernel
theorem dX7_outs_10 : decode cX7_outs 10 = .ok (.aload_n 0, 1) := by decide +kernel
theorem dX7_outs_11 : decode cX7_outs 11 = .ok (.iload_n 1, 1) := by decide +kernel
theorem dX7_outs_12 : decode cX7_outs 12 = .ok (.iload_n 2, 1) := by decide +kernel
theorem dX7_outs_13 : decode cX7_outs 13 = .ok (.invokevirtual 199, 3) := by decide +kernel
theorem dX7_outs_16 : decode cX7_outs 16 = .ok (.ifCond .ne 6, 3) := by decide +kernel
theorem dX7_outs_19 : decode cX7_outs 19 = .ok (.ldc 58, 2) := by decide +kernel
theorem dX7_outs_21 : decode cX7_outs 21 = .ok (.ireturn, 1) := by decide +kernel
theorem dX7_outs_22 : decode cX7_outs 22 = .ok (.ldc 193, 2) := by decide +kernel
theorem dX7_outs_24 : decode cX7_outs 24 = .ok (.istore_n 3, 1) := by decide +kernel
theorem dX7_outs_25 : decode cX7_outs 25 = .ok (.iconst 0, 1) := by decide +kernel
theorem dX7_outs_26 : decode cX7_outs 26 = .ok (.istore 4, 2) := by decide +kernel
theorem dX7_outs_28 : decode cX7_outs 28 = .ok (.iload 4, 2) := by decide +kernel
theorem dX7_outs_30 : decode cX7_outs 30 = .ok (.iconst 1, 1) := by decide +kernel
theorem dX7_outs_31 : decode cX7_outs 31 = .ok (.aload_n 0, 1) := by decide +kernel
theorem dX7_outs_32 : decode cX7_outs 32 = .ok (.getfield 7, 3) := by decide +kernel
theorem dX7_outs_35 : decode cX7_outs 35 = .ok (.bipush 41, 2) := by decide +kernel
theorem dX7_outs_37 : decode cX7_outs 37 = .ok (.iaload, 1) := by decide +kernel
theorem dX7_outs_38 : decode cX7_outs 38 = .ok (.ishl, 1) := by decide +kernel
theorem dX7_outs_39 : decode cX7_outs 39 = .ok (.if_icmp .ge 79, 3) := by decide +kernel
theorem dX7_outs_42 : decode cX7_outs 42 = .ok (.iload 4, 2) := by decide +kernel
theorem dX7_outs_44 : decode cX7_outs 44 = .ok (.aload_n 0, 1) := by decide +kernel
theorem dX7_outs_45 : decode cX7_outs 45 = .ok (.getfield 7, 3) := by decide +kernel
theorem dX7_outs_48 : decode cX7_outs 48 = .ok (.bipush 36, 2) := by decide +kernel
theorem dX7_outs_50 : decode cX7_outs 50 = .ok (.iaload, 1) := by decide +kernel
theorem dX7_outs_51 : decode cX7_outs 51 = .ok (.iand, 1) := by decide +kernel
theorem dX7_outs_52 : decode cX7_outs 52 = .ok (.ifCond .ne 60, 3) := by decide +kernel
theorem dX7_outs_55 : decode cX7_outs 55 = .ok (.iload_n 3, 1) := by decide +kernel
theorem dX7_outs_56 : decode cX7_outs 56 = .ok (.ldc 193, 2) := by decide +kernel
theorem dX7_outs_58 : decode cX7_outs 58 = .ok (.if_icmp .eq 15, 3) := by decide +kernel
theorem dX7_outs_61 : decode cX7_outs 61 = .ok (.iload 4, 2) := by decide +kernel
theorem dX7_outs_63 : decode cX7_outs 63 = .ok (.invokestatic 169, 3) := by decide +kernel
theorem dX7_outs_66 : decode cX7_outs 66 = .ok (.iload_n 3, 1) := by decide +kernel
theorem dX7_outs_67 : decode cX7_outs 67 = .ok (.invokestatic 169, 3) := by decide +kernel
theorem dX7_outs_70 : decode cX7_outs 70 = .ok (.if_icmp .ge 42, 3) := by decide +kernel
theorem dX7_outs_73 : decode cX7_outs 73 = .ok (.aload_n 0, 1) := by decide +kernel
theorem dX7_outs_74 : decode cX7_outs 74 = .ok (.invokevirtual 187, 3) := by decide +kernel
theorem dX7_outs_77 : decode cX7_outs 77 = .ok (.aload_n 0, 1) := by decide +kernel
theorem dX7_outs_78 : decode cX7_outs 78 = .ok (.getfield 7, 3) := by decide +kernel
theorem dX7_outs_81 : decode cX7_outs 81 = .ok (.sipush 225, 3) := by decide +kernel
theorem dX7_outs_84 : decode cX7_outs 84 = .ok (.dup2, 1) := by decide +kernel
theorem dX7_outs_85 : decode cX7_outs 85 = .ok (.iaload, 1) := by decide +kernel
theorem dX7_outs_86 : decode cX7_outs 86 = .ok (.iload 4, 2) := by decide +kernel
theorem dX7_outs_88 : decode cX7_outs 88 = .ok (.ior, 1) := by decide +kernel
theorem dX7_outs_89 : decode cX7_outs 89 = .ok (.iastore, 1) := by decide +kernel
theorem dX7_outs_90 : decode cX7_outs 90 = .ok (.aload_n 0, 1) := by decide +kernel
theorem dX7_outs_91 : decode cX7_outs 91 = .ok (.iload_n 1, 1) := by decide +kernel
theorem dX7_outs_92 : decode cX7_outs 92 = .ok (.invokevirtual 190, 3) := by decide +kernel
theorem dX7_outs_95 : decode cX7_outs 95 = .ok (.aload_n 0, 1) := by decide +kernel
theorem dX7_outs_96 : decode cX7_outs 96 = .ok (.sipush 189, 3) := by decide +kernel
theorem dX7_outs_99 : decode cX7_outs 99 = .ok (.invokevirtual 194, 3) := by decide +kernel
theorem dX7_outs_102 : decode cX7_outs 102 = .ok (.ifCond .eq 8, 3) := by decide +kernel
theorem dX7_outs_105 : decode cX7_outs 105 = .ok (.iload 4, 2) := by decide +kernel
theorem dX7_outs_107 : decode cX7_outs 107 = .ok (.goto 4, 3) := by decide +kernel
theorem dX7_outs_110 : decode cX7_outs 110 = .ok (.iload_n 3, 1) := by decide +kernel
theorem dX7_outs_111 : decode cX7_outs 111 = .ok (.istore_n 3, 1) := by decide +kernel
theorem dX7_outs_112 : decode cX7_outs 112 = .ok (.iinc 4 1, 3) := by decide +kernel
theorem dX7_outs_115 : decode cX7_outs 115 = .ok (.goto (-87), 3) := by decide +kernel
theorem dX7_outs_118 : decode cX7_outs 118 = .ok (.iload_n 2, 1) := by decide +kernel
theorem dX7_outs_119 : decode cX7_outs 119 = .ok (.ifCond .ne 10, 3) := by decide +kernel
theorem dX7_outs_122 : decode cX7_outs 122 = .ok (.iload_n 3, 1) := by decide +kernel
theorem dX7_outs_123 : decode cX7_outs 123 = .ok (.invokestatic 169, 3) := by decide +kernel
theorem dX7_outs_126 : decode cX7_outs 126 = .ok (.goto 4, 3) := by decide +kernel
theorem dX7_outs_129 : decode cX7_outs 129 = .ok (.iload_n 3, 1) := by decide +kernel
theorem dX7_outs_130 : decode cX7_outs 130 = .ok (.ireturn, 1) := by decide +kernel
theorem dX7_best_0 : decode cX7_best 0 = .ok (.aload_n 0, 1) := by decide +kernel
theorem dX7_best_1 : decode cX7_best 1 = .ok (.invokevirtual 154, 3) := by decide +kernel
theorem dX7_best_4 : decode cX7_best 4 = .ok (.ifCond .ne 6, 3) := by decide +kernel
theorem dX7_best_7 : decode cX7_best 7 = .ok (.ldc 153, 2) := by decide +kernel
theorem dX7_best_9 : decode cX7_best 9 = .ok (.ireturn, 1) := by decide +kernel
theorem dX7_best_10 : decode cX7_best 10 = .ok (.aload_n 0, 1) := by decide +kernel
theorem dX7_best_11 : decode cX7_best 11 = .ok (.iload_n 1, 1) := by decide +kernel
theorem dX7_best_12 : decode cX7_best 12 = .ok (.iload_n 2, 1) := by decide +kernel
theorem dX7_best_13 : decode cX7_best 13 = .ok (.invokevirtual 199, 3) := by decide +kernel
theorem dX7_best_16 : decode cX7_best 16 = .ok (.ifCond .ne 6, 3) := by decide +kernel
theorem dX7_best_19 : decode cX7_best 19 = .ok (.ldc 58, 2) := by decide +kernel
theorem dX7_best_21 : decode cX7_best 21 = .ok (.ireturn, 1) := by decide +kernel
theorem dX7_best_22 : decode cX7_best 22 = .ok (.ldc 193, 2) := by decide +kernel
theorem dX7_best_24 : decode cX7_best 24 = .ok (.istore_n 3, 1) := by decide +kernel
theorem dX7_best_25 : decode cX7_best 25 = .ok (.ldc 193, 2) := by decide +kernel
theorem dX7_best_27 : decode cX7_best 27 = .ok (.istore 4, 2) := by decide +kernel
theorem dX7_best_29 : decode cX7_best 29 = .ok (.iconst 0, 1) := by decide +kernel
theorem dX7_best_30 : decode cX7_best 30 = .ok (.istore 5, 2) := by decide +kernel
theorem dX7_best_32 : decode cX7_best 32 = .ok (.iload 5, 2) := by decide +kernel
theorem dX7_best_34 : decode cX7_best 34 = .ok (.aload_n 0, 1) := by decide +kernel
theorem dX7_best_35 : decode cX7_best 35 = .ok (.getfield 7, 3) := by decide +kernel
theorem dX7_best_38 : decode cX7_best 38 = .ok (.bipush 41, 2) := by decide +kernel
theorem dX7_best_40 : decode cX7_best 40 = .ok (.iaload, 1) := by decide +kernel
theorem dX7_best_41 : decode cX7_best 41 = .ok (.if_icmp .ge 102, 3) := by decide +kernel
theorem dX7_best_44 : decode cX7_best 44 = .ok (.iload 5, 2) := by decide +kernel
theorem dX7_best_46 : decode cX7_best 46 = .ok (.iconst 1, 1) := by decide +kernel
theorem dX7_best_47 : decode cX7_best 47 = .ok (.iadd, 1) := by decide +kernel
theorem dX7_best_48 : decode cX7_best 48 = .ok (.istore 6, 2) := by decide +kernel
theorem dX7_best_50 : decode cX7_best 50 = .ok (.iload 6, 2) := by decide +kernel
theorem dX7_best_52 : decode cX7_best 52 = .ok (.aload_n 0, 1) := by decide +kernel
theorem dX7_best_53 : decode cX7_best 53 = .ok (.getfield 7, 3) := by decide +kernel
theorem dX7_best_56 : decode cX7_best 56 = .ok (.bipush 41, 2) := by decide +kernel
theorem dX7_best_58 : decode cX7_best 58 = .ok (.iaload, 1) := by decide +kernel
theorem dX7_best_59 : decode cX7_best 59 = .ok (.if_icmp .ge 78, 3) := by decide +kernel
theorem dX7_best_62 : decode cX7_best 62 = .ok (.aload_n 0, 1) := by decide +kernel
theorem dX7_best_63 : decode cX7_best 63 = .ok (.invokevirtual 187, 3) := by decide +kernel
theorem dX7_best_66 : decode cX7_best 66 = .ok (.aload_n 0, 1) := by decide +kernel
theorem dX7_best_67 : decode cX7_best 67 = .ok (.sipush 189, 3) := by decide +kernel
theorem dX7_best_70 : decode cX7_best 70 = .ok (.iload 5, 2) := by decide +kernel
theorem dX7_best_72 : decode cX7_best 72 = .ok (.iload 6, 2) := by decide +kernel
theorem dX7_best_74 : decode cX7_best 74 = .ok (.invokevirtual 172, 3) := by decide +kernel
theorem dX7_best_77 : decode cX7_best 77 = .ok (.aload_n 0, 1) := by decide +kernel
theorem dX7_best_78 : decode cX7_best 78 = .ok (.iload_n 1, 1) := by decide +kernel
theorem dX7_best_79 : decode cX7_best 79 = .ok (.invokevirtual 190, 3) := by decide +kernel
theorem dX7_best_82 : decode cX7_best 82 = .ok (.aload_n 0, 1) := by decide +kernel
theorem dX7_best_83 : decode cX7_best 83 = .ok (.sipush 189, 3) := by decide +kernel
theorem dX7_best_86 : decode cX7_best 86 = .ok (.iconst 2, 1) := by decide +kernel
theorem dX7_best_87 : decode cX7_best 87 = .ok (.invokevirtual 150, 3) := by decide +kernel
theorem dX7_best_90 : decode cX7_best 90 = .ok (.invokestatic 169, 3) := by decide +kernel
theorem dX7_best_93 : decode cX7_best 93 = .ok (.istore 7, 2) := by decide +kernel
theorem dX7_best_95 : decode cX7_best 95 = .ok (.iload 7, 2) := by decide +kernel
theorem dX7_best_97 : decode cX7_best 97 = .ok (.iload 4, 2) := by decide +kernel
theorem dX7_best_99 : decode cX7_best 99 = .ok (.if_icmp .le 14, 3) := by decide +kernel
theorem dX7_best_102 : decode cX7_best 102 = .ok (.bipush 10, 2) := by decide +kernel
theorem dX7_best_104 : decode cX7_best 104 = .ok (.iload 5, 2) := by decide +kernel
theorem dX7_best_106 : decode cX7_best 106 = .ok (.imul, 1) := by decide +kernel
theorem dX7_best_107 : decode cX7_best 107 = .ok (.iload 6, 2) := by decide +kernel
theorem dX7_best_109 : decode cX7_best 109 = .ok (.iadd, 1) := by decide +kernel
theorem dX7_best_110 : decode cX7_best 110 = .ok (.goto 4, 3) := by decide +kernel
end
section
/-! what stands at each place of the code -/
theorem dX7_best_113 : decode cX7_best 113 = .ok (.iload_n 3, 1) := by decide +kernel
theorem dX7_best_114 : decode cX7_best 114 = .ok (.istore_n 3, 1) := by decide +kernel
theorem dX7_best_115 : decode cX7_best 115 = .ok (.iload 7, 2) := by decide +kernel
theorem dX7_best_117 : decode cX7_best 117 = .ok (.iload 4, 2) := by decide +kernel
theorem dX7_best_119 : decode cX7_best 119 = .ok (.if_icmp .le 8, 3) := by decide +kernel
theorem dX7_best_122 : decode cX7_best 122 = .ok (.iload 7, 2) := by decide +kernel
theorem dX7_best_124 : decode cX7_best 124 = .ok (.goto 5, 3) := by decide +kernel
theorem dX7_best_127 : decode cX7_best 127 = .ok (.iload 4, 2) := by decide +kernel
theorem dX7_best_129 : decode cX7_best 129 = .ok (.istore 4, 2) := by decide +kernel
theorem dX7_best_131 : decode cX7_best 131 = .ok (.iinc 6 1, 3) := by decide +kernel
theorem dX7_best_134 : decode cX7_best 134 = .ok (.goto (-84), 3) := by decide +kernel
theorem dX7_best_137 : decode cX7_best 137 = .ok (.iinc 5 1, 3) := by decide +kernel
theorem dX7_best_140 : decode cX7_best 140 = .ok (.goto (-108), 3) := by decide +kernel
theorem dX7_best_143 : decode cX7_best 143 = .ok (.iload_n 2, 1) := by decide +kernel
theorem dX7_best_144 : decode cX7_best 144 = .ok (.ifCond .ne 7, 3) := by decide +kernel
theorem dX7_best_147 : decode cX7_best 147 = .ok (.iload_n 3, 1) := by decide +kernel
theorem dX7_best_148 : decode cX7_best 148 = .ok (.goto 5, 3) := by decide +kernel
theorem dX7_best_151 : decode cX7_best 151 = .ok (.iload 4, 2) := by decide +kernel
theorem dX7_best_153 : decode cX7_best 153 = .ok (.ireturn, 1) := by decide +kernel
theorem dX7_silence_0 : decode cX7_silence 0 = .ok (.aload_n 0, 1) := by decide +kernel
theorem dX7_silence_1 : decode cX7_silence 1 = .ok (.invokevirtual 154, 3) := by decide +kernel
theorem dX7_silence_4 : decode cX7_silence 4 = .ok (.ifCond .ne 6, 3) := by decide +kernel
theorem dX7_silence_7 : decode cX7_silence 7 = .ok (.ldc 153, 2) := by decide +kernel
theorem dX7_silence_9 : decode cX7_silence 9 = .ok (.ireturn, 1) := by decide +kernel
theorem dX7_silence_10 : decode cX7_silence 10 = .ok (.bipush 99, 2) := by decide +kernel
theorem dX7_silence_12 : decode cX7_silence 12 = .ok (.istore_n 1, 1) := by decide +kernel
theorem dX7_silence_13 : decode cX7_silence 13 = .ok (.iconst 0, 1) := by decide +kernel
theorem dX7_silence_14 : decode cX7_silence 14 = .ok (.istore_n 2, 1) := by decide +kernel
theorem dX7_silence_15 : decode cX7_silence 15 = .ok (.iload_n 2, 1) := by decide +kernel
theorem dX7_silence_16 : decode cX7_silence 16 = .ok (.aload_n 0, 1) := by decide +kernel
theorem dX7_silence_17 : decode cX7_silence 17 = .ok (.getfield 7, 3) := by decide +kernel
theorem dX7_silence_20 : decode cX7_silence 20 = .ok (.bipush 41, 2) := by decide +kernel
theorem dX7_silence_22 : decode cX7_silence 22 = .ok (.iaload, 1) := by decide +kernel
theorem dX7_silence_23 : decode cX7_silence 23 = .ok (.if_icmp .ge 62, 3) := by decide +kernel
theorem dX7_silence_26 : decode cX7_silence 26 = .ok (.aload_n 0, 1) := by decide +kernel
theorem dX7_silence_27 : decode cX7_silence 27 = .ok (.getfield 7, 3) := by decide +kernel
theorem dX7_silence_30 : decode cX7_silence 30 = .ok (.bipush 8, 2) := by decide +kernel
theorem dX7_silence_32 : decode cX7_silence 32 = .ok (.iload_n 2, 1) := by decide +kernel
theorem dX7_silence_33 : decode cX7_silence 33 = .ok (.iadd, 1) := by decide +kernel
theorem dX7_silence_34 : decode cX7_silence 34 = .ok (.iaload, 1) := by decide +kernel
theorem dX7_silence_35 : decode cX7_silence 35 = .ok (.iconst 2, 1) := by decide +kernel
theorem dX7_silence_36 : decode cX7_silence 36 = .ok (.if_icmp .ne 16, 3) := by decide +kernel
theorem dX7_silence_39 : decode cX7_silence 39 = .ok (.aload_n 0, 1) := by decide +kernel
theorem dX7_silence_40 : decode cX7_silence 40 = .ok (.iconst 0, 1) := by decide +kernel
theorem dX7_silence_41 : decode cX7_silence 41 = .ok (.iload_n 2, 1) := by decide +kernel
theorem dX7_silence_42 : decode cX7_silence 42 = .ok (.invokevirtual 126, 3) := by decide +kernel
theorem dX7_silence_45 : decode cX7_silence 45 = .ok (.ifCond .ne 7, 3) := by decide +kernel
theorem dX7_silence_48 : decode cX7_silence 48 = .ok (.iconst 1, 1) := by decide +kernel
theorem dX7_silence_49 : decode cX7_silence 49 = .ok (.goto 4, 3) := by decide +kernel
theorem dX7_silence_52 : decode cX7_silence 52 = .ok (.iconst 0, 1) := by decide +kernel
theorem dX7_silence_53 : decode cX7_silence 53 = .ok (.istore_n 3, 1) := by decide +kernel
theorem dX7_silence_54 : decode cX7_silence 54 = .ok (.iload_n 3, 1) := by decide +kernel
theorem dX7_silence_55 : decode cX7_silence 55 = .ok (.ifCond .eq 22, 3) := by decide +kernel
theorem dX7_silence_58 : decode cX7_silence 58 = .ok (.aload_n 0, 1) := by decide +kernel
theorem dX7_silence_59 : decode cX7_silence 59 = .ok (.iconst 0, 1) := by decide +kernel
theorem dX7_silence_60 : decode cX7_silence 60 = .ok (.iload_n 2, 1) := by decide +kernel
theorem dX7_silence_61 : decode cX7_silence 61 = .ok (.invokevirtual 136, 3) := by decide +kernel
theorem dX7_silence_64 : decode cX7_silence 64 = .ok (.iload_n 1, 1) := by decide +kernel
theorem dX7_silence_65 : decode cX7_silence 65 = .ok (.if_icmp .ge 12, 3) := by decide +kernel
theorem dX7_silence_68 : decode cX7_silence 68 = .ok (.aload_n 0, 1) := by decide +kernel
theorem dX7_silence_69 : decode cX7_silence 69 = .ok (.iconst 0, 1) := by decide +kernel
theorem dX7_silence_70 : decode cX7_silence 70 = .ok (.iload_n 2, 1) := by decide +kernel
theorem dX7_silence_71 : decode cX7_silence 71 = .ok (.invokevirtual 136, 3) := by decide +kernel
theorem dX7_silence_74 : decode cX7_silence 74 = .ok (.goto 4, 3) := by decide +kernel
theorem dX7_silence_77 : decode cX7_silence 77 = .ok (.iload_n 1, 1) := by decide +kernel
theorem dX7_silence_78 : decode cX7_silence 78 = .ok (.istore_n 1, 1) := by decide +kernel
theorem dX7_silence_79 : decode cX7_silence 79 = .ok (.iinc 2 1, 3) := by decide +kernel
theorem dX7_silence_82 : decode cX7_silence 82 = .ok (.goto (-67), 3) := by decide +kernel
theorem dX7_silence_85 : decode cX7_silence 85 = .ok (.iload_n 1, 1) := by decide +kernel
theorem dX7_silence_86 : decode cX7_silence 86 = .ok (.ireturn, 1) := by decide +kernel
theorem dX7_wakes_0 : decode cX7_wakes 0 = .ok (.aload_n 0, 1) := by decide +kernel
theorem dX7_wakes_1 : decode cX7_wakes 1 = .ok (.iload_n 1, 1) := by decide +kernel
theorem dX7_wakes_2 : decode cX7_wakes 2 = .ok (.invokevirtual 166, 3) := by decide +kernel
theorem dX7_wakes_5 : decode cX7_wakes 5 = .ok (.ifCond .ne 6, 3) := by decide +kernel
theorem dX7_wakes_8 : decode cX7_wakes 8 = .ok (.ldc 58, 2) := by decide +kernel
theorem dX7_wakes_10 : decode cX7_wakes 10 = .ok (.ireturn, 1) := by decide +kernel
theorem dX7_wakes_11 : decode cX7_wakes 11 = .ok (.aload_n 0, 1) := by decide +kernel
theorem dX7_wakes_12 : decode cX7_wakes 12 = .ok (.iconst 0, 1) := by decide +kernel
theorem dX7_wakes_13 : decode cX7_wakes 13 = .ok (.iload_n 1, 1) := by decide +kernel
theorem dX7_wakes_14 : decode cX7_wakes 14 = .ok (.invokevirtual 126, 3) := by decide +kernel
theorem dX7_wakes_17 : decode cX7_wakes 17 = .ok (.ifCond .eq 6, 3) := by decide +kernel
theorem dX7_wakes_20 : decode cX7_wakes 20 = .ok (.ldc 153, 2) := by decide +kernel
theorem dX7_wakes_22 : decode cX7_wakes 22 = .ok (.ireturn, 1) := by decide +kernel
theorem dX7_wakes_23 : decode cX7_wakes 23 = .ok (.aload_n 0, 1) := by decide +kernel
theorem dX7_wakes_24 : decode cX7_wakes 24 = .ok (.invokevirtual 187, 3) := by decide +kernel
theorem dX7_wakes_27 : decode cX7_wakes 27 = .ok (.aload_n 0, 1) := by decide +kernel
theorem dX7_wakes_28 : decode cX7_wakes 28 = .ok (.iconst 1, 1) := by decide +kernel
theorem dX7_wakes_29 : decode cX7_wakes 29 = .ok (.invokevirtual 190, 3) := by decide +kernel
theorem dX7_wakes_32 : decode cX7_wakes 32 = .ok (.aload_n 0, 1) := by decide +kernel
theorem dX7_wakes_33 : decode cX7_wakes 33 = .ok (.sipush 189, 3) := by decide +kernel
theorem dX7_wakes_36 : decode cX7_wakes 36 = .ok (.iconst 2, 1) := by decide +kernel
theorem dX7_wakes_37 : decode cX7_wakes 37 = .ok (.invokevirtual 150, 3) := by decide +kernel
theorem dX7_wakes_40 : decode cX7_wakes 40 = .ok (.istore_n 2, 1) := by decide +kernel
theorem dX7_wakes_41 : decode cX7_wakes 41 = .ok (.aload_n 0, 1) := by decide +kernel
theorem dX7_wakes_42 : decode cX7_wakes 42 = .ok (.invokevirtual 187, 3) := by decide +kernel
theorem dX7_wakes_45 : decode cX7_wakes 45 = .ok (.aload_n 0, 1) := by decide +kernel
theorem dX7_wakes_46 : decode cX7_wakes 46 = .ok (.getfield 7, 3) := by decide +kernel
theorem dX7_wakes_49 : decode cX7_wakes 49 = .ok (.sipush 197, 3) := by decide +kernel
theorem dX7_wakes_52 : decode cX7_wakes 52 = .ok (.iload_n 1, 1) := by decide +kernel
theorem dX7_wakes_53 : decode cX7_wakes 53 = .ok (.iadd, 1) := by decide +kernel
theorem dX7_wakes_54 : decode cX7_wakes 54 = .ok (.iconst 1, 1) := by decide +kernel
theorem dX7_wakes_55 : decode cX7_wakes 55 = .ok (.iastore, 1) := by decide +kernel
theorem dX7_wakes_56 : decode cX7_wakes 56 = .ok (.aload_n 0, 1) := by decide +kernel
theorem dX7_wakes_57 : decode cX7_wakes 57 = .ok (.getfield 7, 3) := by decide +kernel
theorem dX7_wakes_60 : decode cX7_wakes 60 = .ok (.sipush 204, 3) := by decide +kernel
theorem dX7_wakes_63 : decode cX7_wakes 63 = .ok (.iload_n 1, 1) := by decide +kernel
theorem dX7_wakes_64 : decode cX7_wakes 64 = .ok (.iadd, 1) := by decide +kernel
theorem dX7_wakes_65 : decode cX7_wakes 65 = .ok (.aload_n 0, 1) := by decide +kernel
theorem dX7_wakes_66 : decode cX7_wakes 66 = .ok (.getfield 7, 3) := by decide +kernel
theorem dX7_wakes_69 : decode cX7_wakes 69 = .ok (.bipush 40, 2) := by decide +kernel
theorem dX7_wakes_71 : decode cX7_wakes 71 = .ok (.iaload, 1) := by decide +kernel
theorem dX7_wakes_72 : decode cX7_wakes 72 = .ok (.iastore, 1) := by decide +kernel
theorem dX7_wakes_73 : decode cX7_wakes 73 = .ok (.aload_n 0, 1) := by decide +kernel
theorem dX7_wakes_74 : decode cX7_wakes 74 = .ok (.iconst 1, 1) := by decide +kernel
theorem dX7_wakes_75 : decode cX7_wakes 75 = .ok (.invokevirtual 190, 3) := by decide +kernel
theorem dX7_wakes_78 : decode cX7_wakes 78 = .ok (.iload_n 2, 1) := by decide +kernel
theorem dX7_wakes_79 : decode cX7_wakes 79 = .ok (.aload_n 0, 1) := by decide +kernel
theorem dX7_wakes_80 : decode cX7_wakes 80 = .ok (.sipush 189, 3) := by decide +kernel
theorem dX7_wakes_83 : decode cX7_wakes 83 = .ok (.iconst 2, 1) := by decide +kernel
theorem dX7_wakes_84 : decode cX7_wakes 84 = .ok (.invokevirtual 150, 3) := by decide +kernel
theorem dX7_wakes_87 : decode cX7_wakes 87 = .ok (.iconst (-1), 1) := by decide +kernel
theorem dX7_wakes_88 : decode cX7_wakes 88 = .ok (.ixor, 1) := by decide +kernel
theorem dX7_wakes_89 : decode cX7_wakes 89 = .ok (.iand, 1) := by decide +kernel
theorem dX7_wakes_90 : decode cX7_wakes 90 = .ok (.iconst 1, 1) := by decide +kernel
theorem dX7_wakes_91 : decode cX7_wakes 91 = .ok (.iload_n 1, 1) := by decide +kernel
theorem dX7_wakes_92 : decode cX7_wakes 92 = .ok (.ishl, 1) := by decide +kernel
theorem dX7_wakes_93 : decode cX7_wakes 93 = .ok (.iconst (-1), 1) := by decide +kernel
theorem dX7_wakes_94 : decode cX7_wakes 94 = .ok (.ixor, 1) := by decide +kernel
theorem dX7_wakes_95 : decode cX7_wakes 95 = .ok (.iand, 1) := by decide +kernel
theorem dX7_wakes_96 : decode cX7_wakes 96 = .ok (.ireturn, 1) := by decide +kernel
theorem dX7_loudest_0 : decode cX7_loudest 0 = .ok (.aload_n 0, 1) := by decide +kernel
theorem dX7_loudest_1 : decode cX7_loudest 1 = .ok (.invokevirtual 154, 3) := by decide +kernel
theorem dX7_loudest_4 : decode cX7_loudest 4 = .ok (.ifCond .ne 6, 3) := by decide +kernel
theorem dX7_loudest_7 : decode cX7_loudest 7 = .ok (.ldc 153, 2) := by decide +kernel
theorem dX7_loudest_9 : decode cX7_loudest 9 = .ok (.ireturn, 1) := by decide +kernel
theorem dX7_loudest_10 : decode cX7_loudest 10 = .ok (.iconst 0, 1) := by decide +kernel
theorem dX7_loudest_11 : decode cX7_loudest 11 = .ok (.istore_n 1, 1) := by decide +kernel
theorem dX7_loudest_12 : decode cX7_loudest 12 = .ok (.iconst 1, 1) := by decide +kernel
theorem dX7_loudest_13 : decode cX7_loudest 13 = .ok (.istore_n 2, 1) := by decide +kernel
theorem dX7_loudest_14 : decode cX7_loudest 14 = .ok (.iload_n 2, 1) := by decide +kernel
theorem dX7_loudest_15 : decode cX7_loudest 15 = .ok (.aload_n 0, 1) := by decide +kernel
theorem dX7_loudest_16 : decode cX7_loudest 16 = .ok (.getfield 7, 3) := by decide +kernel
theorem dX7_loudest_19 : decode cX7_loudest 19 = .ok (.bipush 41, 2) := by decide +kernel
theorem dX7_loudest_21 : decode cX7_loudest 21 = .ok (.iaload, 1) := by decide +kernel
theorem dX7_loudest_22 : decode cX7_loudest 22 = .ok (.if_icmp .ge 30, 3) := by decide +kernel
theorem dX7_loudest_25 : decode cX7_loudest 25 = .ok (.aload_n 0, 1) := by decide +kernel
theorem dX7_loudest_26 : decode cX7_loudest 26 = .ok (.iconst 0, 1) := by decide +kernel
theorem dX7_loudest_27 : decode cX7_loudest 27 = .ok (.iload_n 2, 1) := by decide +kernel
theorem dX7_loudest_28 : decode cX7_loudest 28 = .ok (.invokevirtual 133, 3) := by decide +kernel
theorem dX7_loudest_31 : decode cX7_loudest 31 = .ok (.aload_n 0, 1) := by decide +kernel
theorem dX7_loudest_32 : decode cX7_loudest 32 = .ok (.iconst 0, 1) := by decide +kernel
theorem dX7_loudest_33 : decode cX7_loudest 33 = .ok (.iload_n 1, 1) := by decide +kernel
theorem dX7_loudest_34 : decode cX7_loudest 34 = .ok (.invokevirtual 133, 3) := by decide +kernel
theorem dX7_loudest_37 : decode cX7_loudest 37 = .ok (.if_icmp .le 7, 3) := by decide +kernel
theorem dX7_loudest_40 : decode cX7_loudest 40 = .ok (.iload_n 2, 1) := by decide +kernel
theorem dX7_loudest_41 : decode cX7_loudest 41 = .ok (.goto 4, 3) := by decide +kernel
theorem dX7_loudest_44 : decode cX7_loudest 44 = .ok (.iload_n 1, 1) := by decide +kernel
theorem dX7_loudest_45 : decode cX7_loudest 45 = .ok (.istore_n 1, 1) := by decide +kernel
theorem dX7_loudest_46 : decode cX7_loudest 46 = .ok (.iinc 2 1, 3) := by decide +kernel
theorem dX7_loudest_49 : decode cX7_loudest 49 = .ok (.goto (-35), 3) := by decide +kernel
theorem dX7_loudest_52 : decode cX7_loudest 52 = .ok (.iload_n 1, 1) := by decide +kernel
theorem dX7_loudest_53 : decode cX7_loudest 53 = .ok (.ireturn, 1) := by decide +kernel
theorem dX7_isSo_0 : decode cX7_isSo 0 = .ok (.iconst 1, 1) := by decide +kernel
theorem dX7_isSo_1 : decode cX7_isSo 1 = .ok (.istore_n 3, 1) := by decide +kernel
theorem dX7_isSo_2 : decode cX7_isSo 2 = .ok (.iconst 0, 1) := by decide +kernel
theorem dX7_isSo_3 : decode cX7_isSo 3 = .ok (.istore 4, 2) := by decide +kernel
theorem dX7_isSo_5 : decode cX7_isSo 5 = .ok (.iload 4, 2) := by decide +kernel
theorem dX7_isSo_7 : decode cX7_isSo 7 = .ok (.iload_n 2, 1) := by decide +kernel
theorem dX7_isSo_8 : decode cX7_isSo 8 = .ok (.if_icmp .ge 46, 3) := by decide +kernel
theorem dX7_isSo_11 : decode cX7_isSo 11 = .ok (.aload_n 0, 1) := by decide +kernel
theorem dX7_isSo_12 : decode cX7_isSo 12 = .ok (.sipush 189, 3) := by decide +kernel
theorem dX7_isSo_15 : decode cX7_isSo 15 = .ok (.invokevirtual 162, 3) := by decide +kernel
theorem dX7_isSo_18 : decode cX7_isSo 18 = .ok (.iload_n 3, 1) := by decide +kernel
theorem dX7_isSo_19 : decode cX7_isSo 19 = .ok (.ifCond .eq 27, 3) := by decide +kernel
theorem dX7_isSo_22 : decode cX7_isSo 22 = .ok (.aload_n 0, 1) := by decide +kernel
theorem dX7_isSo_23 : decode cX7_isSo 23 = .ok (.sipush 189, 3) := by decide +kernel
theorem dX7_isSo_26 : decode cX7_isSo 26 = .ok (.iconst 2, 1) := by decide +kernel
theorem dX7_isSo_27 : decode cX7_isSo 27 = .ok (.invokevirtual 150, 3) := by decide +kernel
theorem dX7_isSo_30 : decode cX7_isSo 30 = .ok (.aload_n 0, 1) := by decide +kernel
theorem dX7_isSo_31 : decode cX7_isSo 31 = .ok (.getfield 20, 3) := by decide +kernel
theorem dX7_isSo_34 : decode cX7_isSo 34 = .ok (.iload_n 1, 1) := by decide +kernel
theorem dX7_isSo_35 : decode cX7_isSo 35 = .ok (.iload 4, 2) := by decide +kernel
theorem dX7_isSo_37 : decode cX7_isSo 37 = .ok (.iadd, 1) := by decide +kernel
theorem dX7_isSo_38 : decode cX7_isSo 38 = .ok (.iaload, 1) := by decide +kernel
theorem dX7_isSo_39 : decode cX7_isSo 39 = .ok (.if_icmp .ne 7, 3) := by decide +kernel
theorem dX7_isSo_42 : decode cX7_isSo 42 = .ok (.iconst 1, 1) := by decide +kernel
theorem dX7_isSo_43 : decode cX7_isSo 43 = .ok (.goto 4, 3) := by decide +kernel
theorem dX7_isSo_46 : decode cX7_isSo 46 = .ok (.iconst 0, 1) := by decide +kernel
theorem dX7_isSo_47 : decode cX7_isSo 47 = .ok (.istore_n 3, 1) := by decide +kernel
theorem dX7_isSo_48 : decode cX7_isSo 48 = .ok (.iinc 4 1, 3) := by decide +kernel
theorem dX7_isSo_51 : decode cX7_isSo 51 = .ok (.goto (-46), 3) := by decide +kernel
theorem dX7_isSo_54 : decode cX7_isSo 54 = .ok (.iload_n 3, 1) := by decide +kernel
theorem dX7_isSo_55 : decode cX7_isSo 55 = .ok (.ireturn, 1) := by decide +kernel
theorem dX7_who_0 : decode cX7_who 0 = .ok (.aload_n 0, 1) := by decide +kernel
theorem dX7_who_1 : decode cX7_who 1 = .ok (.iload_n 1, 1) := by decide +kernel
theorem dX7_who_2 : decode cX7_who 2 = .ok (.invokevirtual 166, 3) := by decide +kernel
theorem dX7_who_5 : decode cX7_who 5 = .ok (.ifCond .eq 35, 3) := by decide +kernel
theorem dX7_who_8 : decode cX7_who 8 = .ok (.iload_n 2, 1) := by decide +kernel
theorem dX7_who_9 : decode cX7_who 9 = .ok (.i2l, 1) := by decide +kernel
theorem dX7_who_10 : decode cX7_who 10 = .ok (.lconst 0, 1) := by decide +kernel
theorem dX7_who_11 : decode cX7_who 11 = .ok (.ldc2_w 202, 3) := by decide +kernel
theorem dX7_who_14 : decode cX7_who 14 = .ok (.invokestatic 48, 3) := by decide +kernel
theorem dX7_who_17 : decode cX7_who 17 = .ok (.ifCond .eq 23, 3) := by decide +kernel
theorem dX7_who_20 : decode cX7_who 20 = .ok (.iload_n 3, 1) := by decide +kernel
theorem dX7_who_21 : decode cX7_who 21 = .ok (.invokestatic 52, 3) := by decide +kernel
theorem dX7_who_24 : decode cX7_who 24 = .ok (.ifCond .eq 16, 3) := by decide +kernel
theorem dX7_who_27 : decode cX7_who 27 = .ok (.iload 5, 2) := by decide +kernel
theorem dX7_who_29 : decode cX7_who 29 = .ok (.i2l, 1) := by decide +kernel
theorem dX7_who_30 : decode cX7_who 30 = .ok (.lconst 1, 1) := by decide +kernel
theorem dX7_who_31 : decode cX7_who 31 = .ok (.ldc2_w 204, 3) := by decide +kernel
theorem dX7_who_34 : decode cX7_who 34 = .ok (.invokestatic 48, 3) := by decide +kernel
theorem dX7_who_37 : decode cX7_who 37 = .ok (.ifCond .ne 6, 3) := by decide +kernel
theorem dX7_who_40 : decode cX7_who 40 = .ok (.ldc 58, 2) := by decide +kernel
theorem dX7_who_42 : decode cX7_who 42 = .ok (.ireturn, 1) := by decide +kernel
theorem dX7_who_43 : decode cX7_who 43 = .ok (.aload_n 0, 1) := by decide +kernel
theorem dX7_who_44 : decode cX7_who 44 = .ok (.iload_n 3, 1) := by decide +kernel
theorem dX7_who_45 : decode cX7_who 45 = .ok (.iload 4, 2) := by decide +kernel
theorem dX7_who_47 : decode cX7_who 47 = .ok (.iload 5, 2) := by decide +kernel
theorem dX7_who_49 : decode cX7_who 49 = .ok (.invokevirtual 206, 3) := by decide +kernel
theorem dX7_who_52 : decode cX7_who 52 = .ok (.istore 6, 2) := by decide +kernel
theorem dX7_who_54 : decode cX7_who 54 = .ok (.iload 6, 2) := by decide +kernel
theorem dX7_who_56 : decode cX7_who 56 = .ok (.ifCond .ge 6, 3) := by decide +kernel
theorem dX7_who_59 : decode cX7_who 59 = .ok (.iload 6, 2) := by decide +kernel
theorem dX7_who_61 : decode cX7_who 61 = .ok (.ireturn, 1) := by decide +kernel
theorem dX7_who_62 : decode cX7_who 62 = .ok (.iload_n 2, 1) := by decide +kernel
theorem dX7_who_63 : decode cX7_who 63 = .ok (.ifCond .ne 8, 3) := by decide +kernel
theorem dX7_who_66 : decode cX7_who 66 = .ok (.bipush 42, 2) := by decide +kernel
theorem dX7_who_68 : decode cX7_who 68 = .ok (.goto 24, 3) := by decide +kernel
theorem dX7_who_71 : decode cX7_who 71 = .ok (.iload_n 2, 1) := by decide +kernel
theorem dX7_who_72 : decode cX7_who 72 = .ok (.iconst 1, 1) := by decide +kernel
theorem dX7_who_73 : decode cX7_who 73 = .ok (.if_icmp .ne 7, 3) := by decide +kernel
theorem dX7_who_76 : decode cX7_who 76 = .ok (.iconst 1, 1) := by decide +kernel
theorem dX7_who_77 : decode cX7_who 77 = .ok (.goto 15, 3) := by decide +kernel
theorem dX7_who_80 : decode cX7_who 80 = .ok (.iload_n 2, 1) := by decide +kernel
theorem dX7_who_81 : decode cX7_who 81 = .ok (.iconst 2, 1) := by decide +kernel
theorem dX7_who_82 : decode cX7_who 82 = .ok (.if_icmp .ne 8, 3) := by decide +kernel
theorem dX7_who_85 : decode cX7_who 85 = .ok (.bipush 49, 2) := by decide +kernel
theorem dX7_who_87 : decode cX7_who 87 = .ok (.goto 5, 3) := by decide +kernel
theorem dX7_who_90 : decode cX7_who 90 = .ok (.bipush 56, 2) := by decide +kernel
theorem dX7_who_92 : decode cX7_who 92 = .ok (.istore 7, 2) := by decide +kernel
theorem dX7_who_94 : decode cX7_who 94 = .ok (.iconst 0, 1) := by decide +kernel
theorem dX7_who_95 : decode cX7_who 95 = .ok (.istore 8, 2) := by decide +kernel
theorem dX7_who_97 : decode cX7_who 97 = .ok (.iload_n 2, 1) := by decide +kernel
theorem dX7_who_98 : decode cX7_who 98 = .ok (.iconst 2, 1) := by decide +kernel
theorem dX7_who_99 : decode cX7_who 99 = .ok (.if_icmp .ge 7, 3) := by decide +kernel
theorem dX7_who_102 : decode cX7_who 102 = .ok (.iconst 1, 1) := by decide +kernel
theorem dX7_who_103 : decode cX7_who 103 = .ok (.goto 4, 3) := by decide +kernel
theorem dX7_who_106 : decode cX7_who 106 = .ok (.iconst 0, 1) := by decide +kernel
theorem dX7_who_107 : decode cX7_who 107 = .ok (.istore 9, 2) := by decide +kernel
theorem dX7_who_109 : decode cX7_who 109 = .ok (.iload 9, 2) := by decide +kernel
theorem dX7_who_111 : decode cX7_who 111 = .ok (.iload_n 2, 1) := by decide +kernel
theorem dX7_who_112 : decode cX7_who 112 = .ok (.ifCond .ne 7, 3) := by decide +kernel
theorem dX7_who_115 : decode cX7_who 115 = .ok (.iconst 5, 1) := by decide +kernel
theorem dX7_who_116 : decode cX7_who 116 = .ok (.goto 5, 3) := by decide +kernel
theorem dX7_who_119 : decode cX7_who 119 = .ok (.bipush 9, 2) := by decide +kernel
theorem dX7_who_121 : decode cX7_who 121 = .ok (.if_icmp .gt 57, 3) := by decide +kernel
theorem dX7_who_124 : decode cX7_who 124 = .ok (.aload_n 0, 1) := by decide +kernel
theorem dX7_who_125 : decode cX7_who 125 = .ok (.invokevirtual 187, 3) := by decide +kernel
theorem dX7_who_128 : decode cX7_who 128 = .ok (.aload_n 0, 1) := by decide +kernel
theorem dX7_who_129 : decode cX7_who 129 = .ok (.getfield 7, 3) := by decide +kernel
theorem dX7_who_132 : decode cX7_who 132 = .ok (.sipush 189, 3) := by decide +kernel
theorem dX7_who_135 : decode cX7_who 135 = .ok (.iload 7, 2) := by decide +kernel
theorem dX7_who_137 : decode cX7_who 137 = .ok (.iadd, 1) := by decide +kernel
theorem dX7_who_138 : decode cX7_who 138 = .ok (.iload_n 1, 1) := by decide +kernel
theorem dX7_who_139 : decode cX7_who 139 = .ok (.iadd, 1) := by decide +kernel
theorem dX7_who_140 : decode cX7_who 140 = .ok (.iload 9, 2) := by decide +kernel
theorem dX7_who_142 : decode cX7_who 142 = .ok (.iastore, 1) := by decide +kernel
theorem dX7_who_143 : decode cX7_who 143 = .ok (.iload 8, 2) := by decide +kernel
theorem dX7_who_145 : decode cX7_who 145 = .ok (.aload_n 0, 1) := by decide +kernel
theorem dX7_who_146 : decode cX7_who 146 = .ok (.bipush 40, 2) := by decide +kernel
theorem dX7_who_148 : decode cX7_who 148 = .ok (.iload_n 3, 1) := by decide +kernel
theorem dX7_who_149 : decode cX7_who 149 = .ok (.imul, 1) := by decide +kernel
theorem dX7_who_150 : decode cX7_who 150 = .ok (.iload 4, 2) := by decide +kernel
theorem dX7_who_152 : decode cX7_who 152 = .ok (.iadd, 1) := by decide +kernel
theorem dX7_who_153 : decode cX7_who 153 = .ok (.iload 5, 2) := by decide +kernel
theorem dX7_who_155 : decode cX7_who 155 = .ok (.invokevirtual 210, 3) := by decide +kernel
theorem dX7_who_158 : decode cX7_who 158 = .ok (.ifCond .eq 10, 3) := by decide +kernel
theorem dX7_who_161 : decode cX7_who 161 = .ok (.iconst 1, 1) := by decide +kernel
theorem dX7_who_162 : decode cX7_who 162 = .ok (.iload 9, 2) := by decide +kernel
theorem dX7_who_164 : decode cX7_who 164 = .ok (.ishl, 1) := by decide +kernel
theorem dX7_who_165 : decode cX7_who 165 = .ok (.goto 4, 3) := by decide +kernel
theorem dX7_who_168 : decode cX7_who 168 = .ok (.iconst 0, 1) := by decide +kernel
theorem dX7_who_169 : decode cX7_who 169 = .ok (.ior, 1) := by decide +kernel
theorem dX7_who_170 : decode cX7_who 170 = .ok (.istore 8, 2) := by decide +kernel
theorem dX7_who_172 : decode cX7_who 172 = .ok (.iinc 9 1, 3) := by decide +kernel
theorem dX7_who_175 : decode cX7_who 175 = .ok (.goto (-66), 3) := by decide +kernel
theorem dX7_who_178 : decode cX7_who 178 = .ok (.aload_n 0, 1) := by decide +kernel
theorem dX7_who_179 : decode cX7_who 179 = .ok (.iload 8, 2) := by decide +kernel
theorem dX7_who_181 : decode cX7_who 181 = .ok (.invokevirtual 63, 3) := by decide +kernel
theorem dX7_who_184 : decode cX7_who 184 = .ok (.ireturn, 1) := by decide +kernel
theorem dX7_held_0 : decode cX7_held 0 = .ok (.aload_n 0, 1) := by decide +kernel
theorem dX7_held_1 : decode cX7_held 1 = .ok (.invokevirtual 154, 3) := by decide +kernel
theorem dX7_held_4 : decode cX7_held 4 = .ok (.ifCond .ne 6, 3) := by decide +kernel
theorem dX7_held_7 : decode cX7_held 7 = .ok (.ldc 153, 2) := by decide +kernel
theorem dX7_held_9 : decode cX7_held 9 = .ok (.ireturn, 1) := by decide +kernel
theorem dX7_held_10 : decode cX7_held 10 = .ok (.iload_n 1, 1) := by decide +kernel
theorem dX7_held_11 : decode cX7_held 11 = .ok (.invokestatic 52, 3) := by decide +kernel
theorem dX7_held_14 : decode cX7_held 14 = .ok (.ifCond .eq 15, 3) := by decide +kernel
theorem dX7_held_17 : decode cX7_held 17 = .ok (.iload_n 3, 1) := by decide +kernel
theorem dX7_held_18 : decode cX7_held 18 = .ok (.i2l, 1) := by decide +kernel
theorem dX7_held_19 : decode cX7_held 19 = .ok (.lconst 1, 1) := by decide +kernel
theorem dX7_held_20 : decode cX7_held 20 = .ok (.ldc2_w 204, 3) := by decide +kernel
theorem dX7_held_23 : decode cX7_held 23 = .ok (.invokestatic 48, 3) := by decide +kernel
theorem dX7_held_26 : decode cX7_held 26 = .ok (.ifCond .ne 6, 3) := by decide +kernel
theorem dX7_held_29 : decode cX7_held 29 = .ok (.ldc 58, 2) := by decide +kernel
theorem dX7_held_31 : decode cX7_held 31 = .ok (.ireturn, 1) := by decide +kernel
theorem dX7_held_32 : decode cX7_held 32 = .ok (.aload_n 0, 1) := by decide +kernel
theorem dX7_held_33 : decode cX7_held 33 = .ok (.iload_n 1, 1) := by decide +kernel
theorem dX7_held_34 : decode cX7_held 34 = .ok (.iload_n 2, 1) := by decide +kernel
theorem dX7_held_35 : decode cX7_held 35 = .ok (.iload_n 3, 1) := by decide +kernel
theorem dX7_held_36 : decode cX7_held 36 = .ok (.invokevirtual 206, 3) := by decide +kernel
theorem dX7_held_39 : decode cX7_held 39 = .ok (.istore 4, 2) := by decide +kernel
theorem dX7_held_41 : decode cX7_held 41 = .ok (.iload 4, 2) := by decide +kernel
theorem dX7_held_43 : decode cX7_held 43 = .ok (.ifCond .ge 6, 3) := by decide +kernel
theorem dX7_held_46 : decode cX7_held 46 = .ok (.iload 4, 2) := by decide +kernel
theorem dX7_held_48 : decode cX7_held 48 = .ok (.ireturn, 1) := by decide +kernel
theorem dX7_held_49 : decode cX7_held 49 = .ok (.aload_n 0, 1) := by decide +kernel
theorem dX7_held_50 : decode cX7_held 50 = .ok (.invokevirtual 187, 3) := by decide +kernel
theorem dX7_held_53 : decode cX7_held 53 = .ok (.aload_n 0, 1) := by decide +kernel
theorem dX7_held_54 : decode cX7_held 54 = .ok (.bipush 40, 2) := by decide +kernel
theorem dX7_held_56 : decode cX7_held 56 = .ok (.iload_n 1, 1) := by decide +kernel
theorem dX7_held_57 : decode cX7_held 57 = .ok (.imul, 1) := by decide +kernel
theorem dX7_held_58 : decode cX7_held 58 = .ok (.iload_n 2, 1) := by decide +kernel
theorem dX7_held_59 : decode cX7_held 59 = .ok (.iadd, 1) := by decide +kernel
theorem dX7_held_60 : decode cX7_held 60 = .ok (.iload_n 3, 1) := by decide +kernel
theorem dX7_held_61 : decode cX7_held 61 = .ok (.invokevirtual 210, 3) := by decide +kernel
theorem dX7_held_64 : decode cX7_held 64 = .ok (.ifCond .eq 9, 3) := by decide +kernel
theorem dX7_held_67 : decode cX7_held 67 = .ok (.sipush 128, 3) := by decide +kernel
theorem dX7_held_70 : decode cX7_held 70 = .ok (.goto 4, 3) := by decide +kernel
theorem dX7_held_73 : decode cX7_held 73 = .ok (.iconst 0, 1) := by decide +kernel
theorem dX7_held_74 : decode cX7_held 74 = .ok (.istore 5, 2) := by decide +kernel
theorem dX7_held_76 : decode cX7_held 76 = .ok (.iconst 0, 1) := by decide +kernel
theorem dX7_held_77 : decode cX7_held 77 = .ok (.istore 6, 2) := by decide +kernel
theorem dX7_held_79 : decode cX7_held 79 = .ok (.iload 6, 2) := by decide +kernel
theorem dX7_held_81 : decode cX7_held 81 = .ok (.aload_n 0, 1) := by decide +kernel
theorem dX7_held_82 : decode cX7_held 82 = .ok (.getfield 7, 3) := by decide +kernel
theorem dX7_held_85 : decode cX7_held 85 = .ok (.bipush 41, 2) := by decide +kernel
theorem dX7_held_87 : decode cX7_held 87 = .ok (.iaload, 1) := by decide +kernel
theorem dX7_held_88 : decode cX7_held 88 = .ok (.if_icmp .ge 55, 3) := by decide +kernel
theorem dX7_held_91 : decode cX7_held 91 = .ok (.aload_n 0, 1) := by decide +kernel
theorem dX7_held_92 : decode cX7_held 92 = .ok (.invokevirtual 187, 3) := by decide +kernel
theorem dX7_held_95 : decode cX7_held 95 = .ok (.aload_n 0, 1) := by decide +kernel
theorem dX7_held_96 : decode cX7_held 96 = .ok (.getfield 7, 3) := by decide +kernel
theorem dX7_held_99 : decode cX7_held 99 = .ok (.sipush 226, 3) := by decide +kernel
theorem dX7_held_102 : decode cX7_held 102 = .ok (.dup2, 1) := by decide +kernel
theorem dX7_held_103 : decode cX7_held 103 = .ok (.iaload, 1) := by decide +kernel
theorem dX7_held_104 : decode cX7_held 104 = .ok (.iconst 1, 1) := by decide +kernel
theorem dX7_held_105 : decode cX7_held 105 = .ok (.iload 6, 2) := by decide +kernel
theorem dX7_held_107 : decode cX7_held 107 = .ok (.ishl, 1) := by decide +kernel
theorem dX7_held_108 : decode cX7_held 108 = .ok (.ior, 1) := by decide +kernel
theorem dX7_held_109 : decode cX7_held 109 = .ok (.iastore, 1) := by decide +kernel
theorem dX7_held_110 : decode cX7_held 110 = .ok (.iload 5, 2) := by decide +kernel
theorem dX7_held_112 : decode cX7_held 112 = .ok (.aload_n 0, 1) := by decide +kernel
theorem dX7_held_113 : decode cX7_held 113 = .ok (.bipush 40, 2) := by decide +kernel
theorem dX7_held_115 : decode cX7_held 115 = .ok (.iload_n 1, 1) := by decide +kernel
theorem dX7_held_116 : decode cX7_held 116 = .ok (.imul, 1) := by decide +kernel
theorem dX7_held_117 : decode cX7_held 117 = .ok (.iload_n 2, 1) := by decide +kernel
theorem dX7_held_118 : decode cX7_held 118 = .ok (.iadd, 1) := by decide +kernel
theorem dX7_held_119 : decode cX7_held 119 = .ok (.iload_n 3, 1) := by decide +kernel
theorem dX7_held_120 : decode cX7_held 120 = .ok (.invokevirtual 210, 3) := by decide +kernel
theorem dX7_held_123 : decode cX7_held 123 = .ok (.ifCond .eq 10, 3) := by decide +kernel
theorem dX7_held_126 : decode cX7_held 126 = .ok (.iconst 1, 1) := by decide +kernel
theorem dX7_held_127 : decode cX7_held 127 = .ok (.iload 6, 2) := by decide +kernel
theorem dX7_held_129 : decode cX7_held 129 = .ok (.ishl, 1) := by decide +kernel
theorem dX7_held_130 : decode cX7_held 130 = .ok (.goto 4, 3) := by decide +kernel
theorem dX7_held_133 : decode cX7_held 133 = .ok (.iconst 0, 1) := by decide +kernel
theorem dX7_held_134 : decode cX7_held 134 = .ok (.ior, 1) := by decide +kernel
theorem dX7_held_135 : decode cX7_held 135 = .ok (.istore 5, 2) := by decide +kernel
theorem dX7_held_137 : decode cX7_held 137 = .ok (.iinc 6 1, 3) := by decide +kernel
theorem dX7_held_140 : decode cX7_held 140 = .ok (.goto (-61), 3) := by decide +kernel
theorem dX7_held_143 : decode cX7_held 143 = .ok (.aload_n 0, 1) := by decide +kernel
theorem dX7_held_144 : decode cX7_held 144 = .ok (.iload 5, 2) := by decide +kernel
theorem dX7_held_146 : decode cX7_held 146 = .ok (.invokevirtual 63, 3) := by decide +kernel
theorem dX7_held_149 : decode cX7_held 149 = .ok (.ireturn, 1) := by decide +kernel
theorem dX7_lorries_0 : decode cX7_lorries 0 = .ok (.aload_n 0, 1) := by decide +kernel
theorem dX7_lorries_1 : decode cX7_lorries 1 = .ok (.invokevirtual 154, 3) := by decide +kernel
theorem dX7_lorries_4 : decode cX7_lorries 4 = .ok (.ifCond .ne 7, 3) := by decide +kernel
theorem dX7_lorries_7 : decode cX7_lorries 7 = .ok (.ldc2_w 213, 3) := by decide +kernel
theorem dX7_lorries_10 : decode cX7_lorries 10 = .ok (.lreturn, 1) := by decide +kernel
theorem dX7_lorries_11 : decode cX7_lorries 11 = .ok (.iload_n 1, 1) := by decide +kernel
theorem dX7_lorries_12 : decode cX7_lorries 12 = .ok (.i2l, 1) := by decide +kernel
theorem dX7_lorries_13 : decode cX7_lorries 13 = .ok (.lconst 0, 1) := by decide +kernel
theorem dX7_lorries_14 : decode cX7_lorries 14 = .ok (.ldc2_w 175, 3) := by decide +kernel
theorem dX7_lorries_17 : decode cX7_lorries 17 = .ok (.invokestatic 48, 3) := by decide +kernel
theorem dX7_lorries_20 : decode cX7_lorries 20 = .ok (.ifCond .eq 38, 3) := by decide +kernel
theorem dX7_lorries_23 : decode cX7_lorries 23 = .ok (.iload_n 2, 1) := by decide +kernel
theorem dX7_lorries_24 : decode cX7_lorries 24 = .ok (.i2l, 1) := by decide +kernel
theorem dX7_lorries_25 : decode cX7_lorries 25 = .ok (.lconst 0, 1) := by decide +kernel
theorem dX7_lorries_26 : decode cX7_lorries 26 = .ok (.ldc2_w 215, 3) := by decide +kernel
theorem dX7_lorries_29 : decode cX7_lorries 29 = .ok (.invokestatic 48, 3) := by decide +kernel
theorem dX7_lorries_32 : decode cX7_lorries 32 = .ok (.ifCond .eq 26, 3) := by decide +kernel
theorem dX7_lorries_35 : decode cX7_lorries 35 = .ok (.iload_n 3, 1) := by decide +kernel
theorem dX7_lorries_36 : decode cX7_lorries 36 = .ok (.i2l, 1) := by decide +kernel
theorem dX7_lorries_37 : decode cX7_lorries 37 = .ok (.lconst 0, 1) := by decide +kernel
theorem dX7_lorries_38 : decode cX7_lorries 38 = .ok (.ldc2_w 217, 3) := by decide +kernel
theorem dX7_lorries_41 : decode cX7_lorries 41 = .ok (.invokestatic 48, 3) := by decide +kernel
theorem dX7_lorries_44 : decode cX7_lorries 44 = .ok (.ifCond .eq 14, 3) := by decide +kernel
theorem dX7_lorries_47 : decode cX7_lorries 47 = .ok (.iload 4, 2) := by decide +kernel
theorem dX7_lorries_49 : decode cX7_lorries 49 = .ok (.i2l, 1) := by decide +kernel
theorem dX7_lorries_50 : decode cX7_lorries 50 = .ok (.lconst 0, 1) := by decide +kernel
theorem dX7_lorries_51 : decode cX7_lorries 51 = .ok (.lconst 1, 1) := by decide +kernel
theorem dX7_lorries_52 : decode cX7_lorries 52 = .ok (.invokestatic 48, 3) := by decide +kernel
theorem dX7_lorries_55 : decode cX7_lorries 55 = .ok (.ifCond .ne 7, 3) := by decide +kernel
theorem dX7_lorries_58 : decode cX7_lorries 58 = .ok (.ldc2_w 219, 3) := by decide +kernel
theorem dX7_lorries_61 : decode cX7_lorries 61 = .ok (.lreturn, 1) := by decide +kernel
theorem dX7_lorries_62 : decode cX7_lorries 62 = .ok (.lconst 0, 1) := by decide +kernel
theorem dX7_lorries_63 : decode cX7_lorries 63 = .ok (.lstore 5, 2) := by decide +kernel
theorem dX7_lorries_65 : decode cX7_lorries 65 = .ok (.lconst 1, 1) := by decide +kernel
theorem dX7_lorries_66 : decode cX7_lorries 66 = .ok (.lstore 7, 2) := by decide +kernel
theorem dX7_lorries_68 : decode cX7_lorries 68 = .ok (.iconst 0, 1) := by decide +kernel
theorem dX7_lorries_69 : decode cX7_lorries 69 = .ok (.istore 9, 2) := by decide +kernel
theorem dX7_lorries_71 : decode cX7_lorries 71 = .ok (.iload 9, 2) := by decide +kernel
theorem dX7_lorries_73 : decode cX7_lorries 73 = .ok (.iload_n 2, 1) := by decide +kernel
theorem dX7_lorries_74 : decode cX7_lorries 74 = .ok (.if_icmp .ge 17, 3) := by decide +kernel
theorem dX7_lorries_77 : decode cX7_lorries 77 = .ok (.lload 7, 2) := by decide +kernel
theorem dX7_lorries_79 : decode cX7_lorries 79 = .ok (.ldc2_w 217, 3) := by decide +kernel
theorem dX7_lorries_82 : decode cX7_lorries 82 = .ok (.lmul, 1) := by decide +kernel
theorem dX7_lorries_83 : decode cX7_lorries 83 = .ok (.lstore 7, 2) := by decide +kernel
theorem dX7_lorries_85 : decode cX7_lorries 85 = .ok (.iinc 9 1, 3) := by decide +kernel
theorem dX7_lorries_88 : decode cX7_lorries 88 = .ok (.goto (-17), 3) := by decide +kernel
theorem dX7_lorries_91 : decode cX7_lorries 91 = .ok (.iconst 0, 1) := by decide +kernel
theorem dX7_lorries_92 : decode cX7_lorries 92 = .ok (.istore 9, 2) := by decide +kernel
theorem dX7_lorries_94 : decode cX7_lorries 94 = .ok (.iload 9, 2) := by decide +kernel
theorem dX7_lorries_96 : decode cX7_lorries 96 = .ok (.iconst 1, 1) := by decide +kernel
theorem dX7_lorries_97 : decode cX7_lorries 97 = .ok (.iload_n 2, 1) := by decide +kernel
theorem dX7_lorries_98 : decode cX7_lorries 98 = .ok (.ishl, 1) := by decide +kernel
theorem dX7_lorries_99 : decode cX7_lorries 99 = .ok (.if_icmp .ge 102, 3) := by decide +kernel
theorem dX7_lorries_102 : decode cX7_lorries 102 = .ok (.lconst 1, 1) := by decide +kernel
theorem dX7_lorries_103 : decode cX7_lorries 103 = .ok (.lstore 10, 2) := by decide +kernel
theorem dX7_lorries_105 : decode cX7_lorries 105 = .ok (.aload_n 0, 1) := by decide +kernel
theorem dX7_lorries_106 : decode cX7_lorries 106 = .ok (.invokevirtual 187, 3) := by decide +kernel
theorem dX7_lorries_109 : decode cX7_lorries 109 = .ok (.iconst 0, 1) := by decide +kernel
theorem dX7_lorries_110 : decode cX7_lorries 110 = .ok (.istore 12, 2) := by decide +kernel
theorem dX7_lorries_112 : decode cX7_lorries 112 = .ok (.iload 12, 2) := by decide +kernel
theorem dX7_lorries_114 : decode cX7_lorries 114 = .ok (.iload_n 2, 1) := by decide +kernel
theorem dX7_lorries_115 : decode cX7_lorries 115 = .ok (.if_icmp .ge 59, 3) := by decide +kernel
theorem dX7_lorries_118 : decode cX7_lorries 118 = .ok (.iload 9, 2) := by decide +kernel
theorem dX7_lorries_120 : decode cX7_lorries 120 = .ok (.iload 12, 2) := by decide +kernel
theorem dX7_lorries_122 : decode cX7_lorries 122 = .ok (.invokestatic 123, 3) := by decide +kernel
theorem dX7_lorries_125 : decode cX7_lorries 125 = .ok (.istore 13, 2) := by decide +kernel
theorem dX7_lorries_127 : decode cX7_lorries 127 = .ok (.lload 10, 2) := by decide +kernel
theorem dX7_lorries_129 : decode cX7_lorries 129 = .ok (.iload 13, 2) := by decide +kernel
theorem dX7_lorries_131 : decode cX7_lorries 131 = .ok (.ifCond .eq 8, 3) := by decide +kernel
theorem dX7_lorries_134 : decode cX7_lorries 134 = .ok (.iload_n 3, 1) := by decide +kernel
theorem dX7_lorries_135 : decode cX7_lorries 135 = .ok (.i2l, 1) := by decide +kernel
theorem dX7_lorries_136 : decode cX7_lorries 136 = .ok (.goto 8, 3) := by decide +kernel
theorem dX7_lorries_139 : decode cX7_lorries 139 = .ok (.bipush 10, 2) := by decide +kernel
theorem dX7_lorries_141 : decode cX7_lorries 141 = .ok (.iload_n 3, 1) := by decide +kernel
theorem dX7_lorries_142 : decode cX7_lorries 142 = .ok (.isub, 1) := by decide +kernel
theorem dX7_lorries_143 : decode cX7_lorries 143 = .ok (.i2l, 1) := by decide +kernel
theorem dX7_lorries_144 : decode cX7_lorries 144 = .ok (.lmul, 1) := by decide +kernel
theorem dX7_lorries_145 : decode cX7_lorries 145 = .ok (.lstore 10, 2) := by decide +kernel
theorem dX7_lorries_147 : decode cX7_lorries 147 = .ok (.iload 13, 2) := by decide +kernel
theorem dX7_lorries_149 : decode cX7_lorries 149 = .ok (.ifCond .eq 12, 3) := by decide +kernel
theorem dX7_lorries_152 : decode cX7_lorries 152 = .ok (.aload_n 0, 1) := by decide +kernel
theorem dX7_lorries_153 : decode cX7_lorries 153 = .ok (.sipush 189, 3) := by decide +kernel
theorem dX7_lorries_156 : decode cX7_lorries 156 = .ok (.iload_n 1, 1) := by decide +kernel
theorem dX7_lorries_157 : decode cX7_lorries 157 = .ok (.invokevirtual 177, 3) := by decide +kernel
theorem dX7_lorries_160 : decode cX7_lorries 160 = .ok (.pop, 1) := by decide +kernel
theorem dX7_lorries_161 : decode cX7_lorries 161 = .ok (.aload_n 0, 1) := by decide +kernel
theorem dX7_lorries_162 : decode cX7_lorries 162 = .ok (.sipush 189, 3) := by decide +kernel
theorem dX7_lorries_165 : decode cX7_lorries 165 = .ok (.invokevirtual 162, 3) := by decide +kernel
theorem dX7_lorries_168 : decode cX7_lorries 168 = .ok (.iinc 12 1, 3) := by decide +kernel
theorem dX7_lorries_171 : decode cX7_lorries 171 = .ok (.goto (-59), 3) := by decide +kernel
theorem dX7_lorries_174 : decode cX7_lorries 174 = .ok (.lload 5, 2) := by decide +kernel
theorem dX7_lorries_176 : decode cX7_lorries 176 = .ok (.aload_n 0, 1) := by decide +kernel
theorem dX7_lorries_177 : decode cX7_lorries 177 = .ok (.sipush 189, 3) := by decide +kernel
theorem dX7_lorries_180 : decode cX7_lorries 180 = .ok (.invokevirtual 194, 3) := by decide +kernel
theorem dX7_lorries_183 : decode cX7_lorries 183 = .ok (.ifCond .eq 8, 3) := by decide +kernel
theorem dX7_lorries_186 : decode cX7_lorries 186 = .ok (.lload 10, 2) := by decide +kernel
theorem dX7_lorries_188 : decode cX7_lorries 188 = .ok (.goto 4, 3) := by decide +kernel
theorem dX7_lorries_191 : decode cX7_lorries 191 = .ok (.lconst 0, 1) := by decide +kernel
theorem dX7_lorries_192 : decode cX7_lorries 192 = .ok (.ladd, 1) := by decide +kernel
theorem dX7_lorries_193 : decode cX7_lorries 193 = .ok (.lstore 5, 2) := by decide +kernel
theorem dX7_lorries_195 : decode cX7_lorries 195 = .ok (.iinc 9 1, 3) := by decide +kernel
theorem dX7_lorries_198 : decode cX7_lorries 198 = .ok (.goto (-104), 3) := by decide +kernel
theorem dX7_lorries_201 : decode cX7_lorries 201 = .ok (.lload 5, 2) := by decide +kernel
theorem dX7_lorries_203 : decode cX7_lorries 203 = .ok (.lstore 9, 2) := by decide +kernel
theorem dX7_lorries_205 : decode cX7_lorries 205 = .ok (.lload 7, 2) := by decide +kernel
theorem dX7_lorries_207 : decode cX7_lorries 207 = .ok (.lstore 11, 2) := by decide +kernel
theorem dX7_lorries_209 : decode cX7_lorries 209 = .ok (.lload 11, 2) := by decide +kernel
theorem dX7_lorries_211 : decode cX7_lorries 211 = .ok (.lconst 0, 1) := by decide +kernel
theorem dX7_lorries_212 : decode cX7_lorries 212 = .ok (.lcmp, 1) := by decide +kernel
theorem dX7_lorries_213 : decode cX7_lorries 213 = .ok (.ifCond .eq 21, 3) := by decide +kernel
theorem dX7_lorries_216 : decode cX7_lorries 216 = .ok (.lload 9, 2) := by decide +kernel
theorem dX7_lorries_218 : decode cX7_lorries 218 = .ok (.lload 11, 2) := by decide +kernel
theorem dX7_lorries_220 : decode cX7_lorries 220 = .ok (.lrem, 1) := by decide +kernel
theorem dX7_lorries_221 : decode cX7_lorries 221 = .ok (.lstore 13, 2) := by decide +kernel
theorem dX7_lorries_223 : decode cX7_lorries 223 = .ok (.lload 11, 2) := by decide +kernel
theorem dX7_lorries_225 : decode cX7_lorries 225 = .ok (.lstore 9, 2) := by decide +kernel
theorem dX7_lorries_227 : decode cX7_lorries 227 = .ok (.lload 13, 2) := by decide +kernel
theorem dX7_lorries_229 : decode cX7_lorries 229 = .ok (.lstore 11, 2) := by decide +kernel
theorem dX7_lorries_231 : decode cX7_lorries 231 = .ok (.goto (-22), 3) := by decide +kernel
theorem dX7_lorries_234 : decode cX7_lorries 234 = .ok (.iload 4, 2) := by decide +kernel
theorem dX7_lorries_236 : decode cX7_lorries 236 = .ok (.ifCond .ne 11, 3) := by decide +kernel
theorem dX7_lorries_239 : decode cX7_lorries 239 = .ok (.lload 5, 2) := by decide +kernel
theorem dX7_lorries_241 : decode cX7_lorries 241 = .ok (.lload 9, 2) := by decide +kernel
theorem dX7_lorries_243 : decode cX7_lorries 243 = .ok (.ldiv, 1) := by decide +kernel
theorem dX7_lorries_244 : decode cX7_lorries 244 = .ok (.goto 8, 3) := by decide +kernel
theorem dX7_lorries_247 : decode cX7_lorries 247 = .ok (.lload 7, 2) := by decide +kernel
theorem dX7_lorries_249 : decode cX7_lorries 249 = .ok (.lload 9, 2) := by decide +kernel
theorem dX7_lorries_251 : decode cX7_lorries 251 = .ok (.ldiv, 1) := by decide +kernel
theorem dX7_lorries_252 : decode cX7_lorries 252 = .ok (.lreturn, 1) := by decide +kernel
theorem dX7_drawn_0 : decode cX7_drawn 0 = .ok (.aload_n 0, 1) := by decide +kernel
theorem dX7_drawn_1 : decode cX7_drawn 1 = .ok (.invokevirtual 154, 3) := by decide +kernel
theorem dX7_drawn_4 : decode cX7_drawn 4 = .ok (.ifCond .ne 6, 3) := by decide +kernel
theorem dX7_drawn_7 : decode cX7_drawn 7 = .ok (.ldc 153, 2) := by decide +kernel
theorem dX7_drawn_9 : decode cX7_drawn 9 = .ok (.ireturn, 1) := by decide +kernel
theorem dX7_drawn_10 : decode cX7_drawn 10 = .ok (.iload_n 1, 1) := by decide +kernel
theorem dX7_drawn_11 : decode cX7_drawn 11 = .ok (.iconst 0, 1) := by decide +kernel
theorem dX7_drawn_12 : decode cX7_drawn 12 = .ok (.invokestatic 184, 3) := by decide +kernel
theorem dX7_drawn_15 : decode cX7_drawn 15 = .ok (.ifCond .eq 25, 3) := by decide +kernel
theorem dX7_drawn_18 : decode cX7_drawn 18 = .ok (.iload_n 2, 1) := by decide +kernel
theorem dX7_drawn_19 : decode cX7_drawn 19 = .ok (.i2l, 1) := by decide +kernel
theorem dX7_drawn_20 : decode cX7_drawn 20 = .ok (.lconst 1, 1) := by decide +kernel
theorem dX7_drawn_21 : decode cX7_drawn 21 = .ok (.ldc2_w 221, 3) := by decide +kernel
theorem dX7_drawn_24 : decode cX7_drawn 24 = .ok (.invokestatic 48, 3) := by decide +kernel
theorem dX7_drawn_27 : decode cX7_drawn 27 = .ok (.ifCond .eq 13, 3) := by decide +kernel
theorem dX7_drawn_30 : decode cX7_drawn 30 = .ok (.iload_n 3, 1) := by decide +kernel
theorem dX7_drawn_31 : decode cX7_drawn 31 = .ok (.i2l, 1) := by decide +kernel
theorem dX7_drawn_32 : decode cX7_drawn 32 = .ok (.lconst 0, 1) := by decide +kernel
theorem dX7_drawn_33 : decode cX7_drawn 33 = .ok (.lconst 1, 1) := by decide +kernel
theorem dX7_drawn_34 : decode cX7_drawn 34 = .ok (.invokestatic 48, 3) := by decide +kernel
theorem dX7_drawn_37 : decode cX7_drawn 37 = .ok (.ifCond .ne 6, 3) := by decide +kernel
theorem dX7_drawn_40 : decode cX7_drawn 40 = .ok (.ldc 58, 2) := by decide +kernel
theorem dX7_drawn_42 : decode cX7_drawn 42 = .ok (.ireturn, 1) := by decide +kernel
theorem dX7_drawn_43 : decode cX7_drawn 43 = .ok (.aload_n 0, 1) := by decide +kernel
theorem dX7_drawn_44 : decode cX7_drawn 44 = .ok (.invokevirtual 187, 3) := by decide +kernel
theorem dX7_drawn_47 : decode cX7_drawn 47 = .ok (.iload_n 2, 1) := by decide +kernel
theorem dX7_drawn_48 : decode cX7_drawn 48 = .ok (.i2l, 1) := by decide +kernel
theorem dX7_drawn_49 : decode cX7_drawn 49 = .ok (.lstore 4, 2) := by decide +kernel
theorem dX7_drawn_51 : decode cX7_drawn 51 = .ok (.iconst 0, 1) := by decide +kernel
theorem dX7_drawn_52 : decode cX7_drawn 52 = .ok (.istore 6, 2) := by decide +kernel
theorem dX7_drawn_54 : decode cX7_drawn 54 = .ok (.iconst 0, 1) := by decide +kernel
theorem dX7_drawn_55 : decode cX7_drawn 55 = .ok (.istore 7, 2) := by decide +kernel
theorem dX7_drawn_57 : decode cX7_drawn 57 = .ok (.iload 7, 2) := by decide +kernel
theorem dX7_drawn_59 : decode cX7_drawn 59 = .ok (.iload_n 1, 1) := by decide +kernel
theorem dX7_drawn_60 : decode cX7_drawn 60 = .ok (.if_icmp .ge 111, 3) := by decide +kernel
theorem dX7_drawn_63 : decode cX7_drawn 63 = .ok (.lload 4, 2) := by decide +kernel
theorem dX7_drawn_65 : decode cX7_drawn 65 = .ok (.ldc2_w 223, 3) := by decide +kernel
theorem dX7_drawn_68 : decode cX7_drawn 68 = .ok (.lmul, 1) := by decide +kernel
theorem dX7_drawn_69 : decode cX7_drawn 69 = .ok (.ldc2_w 225, 3) := by decide +kernel
theorem dX7_drawn_72 : decode cX7_drawn 72 = .ok (.lrem, 1) := by decide +kernel
theorem dX7_drawn_73 : decode cX7_drawn 73 = .ok (.lstore 4, 2) := by decide +kernel
theorem dX7_drawn_75 : decode cX7_drawn 75 = .ok (.lload 4, 2) := by decide +kernel
theorem dX7_drawn_77 : decode cX7_drawn 77 = .ok (.ldc2_w 227, 3) := by decide +kernel
theorem dX7_drawn_80 : decode cX7_drawn 80 = .ok (.lrem, 1) := by decide +kernel
theorem dX7_drawn_81 : decode cX7_drawn 81 = .ok (.lconst 0, 1) := by decide +kernel
theorem dX7_drawn_82 : decode cX7_drawn 82 = .ok (.lcmp, 1) := by decide +kernel
theorem dX7_drawn_83 : decode cX7_drawn 83 = .ok (.ifCond .ne 18, 3) := by decide +kernel
theorem dX7_drawn_86 : decode cX7_drawn 86 = .ok (.aload_n 0, 1) := by decide +kernel
theorem dX7_drawn_87 : decode cX7_drawn 87 = .ok (.sipush 189, 3) := by decide +kernel
theorem dX7_drawn_90 : decode cX7_drawn 90 = .ok (.lload 4, 2) := by decide +kernel
theorem dX7_drawn_92 : decode cX7_drawn 92 = .ok (.ldc2_w 229, 3) := by decide +kernel
theorem dX7_drawn_95 : decode cX7_drawn 95 = .ok (.lrem, 1) := by decide +kernel
theorem dX7_drawn_96 : decode cX7_drawn 96 = .ok (.l2i, 1) := by decide +kernel
theorem dX7_drawn_97 : decode cX7_drawn 97 = .ok (.invokevirtual 177, 3) := by decide +kernel
theorem dX7_drawn_100 : decode cX7_drawn 100 = .ok (.pop, 1) := by decide +kernel
theorem dX7_drawn_101 : decode cX7_drawn 101 = .ok (.lload 4, 2) := by decide +kernel
theorem dX7_drawn_103 : decode cX7_drawn 103 = .ok (.ldc2_w 46, 3) := by decide +kernel
theorem dX7_drawn_106 : decode cX7_drawn 106 = .ok (.lrem, 1) := by decide +kernel
theorem dX7_drawn_107 : decode cX7_drawn 107 = .ok (.lconst 0, 1) := by decide +kernel
theorem dX7_drawn_108 : decode cX7_drawn 108 = .ok (.lcmp, 1) := by decide +kernel
theorem dX7_drawn_109 : decode cX7_drawn 109 = .ok (.ifCond .ne 28, 3) := by decide +kernel
theorem dX7_drawn_112 : decode cX7_drawn 112 = .ok (.aload_n 0, 1) := by decide +kernel
theorem dX7_drawn_113 : decode cX7_drawn 113 = .ok (.getfield 7, 3) := by decide +kernel
theorem dX7_drawn_116 : decode cX7_drawn 116 = .ok (.sipush 225, 3) := by decide +kernel
theorem dX7_drawn_119 : decode cX7_drawn 119 = .ok (.dup2, 1) := by decide +kernel
theorem dX7_drawn_120 : decode cX7_drawn 120 = .ok (.iaload, 1) := by decide +kernel
theorem dX7_drawn_121 : decode cX7_drawn 121 = .ok (.iconst 1, 1) := by decide +kernel
theorem dX7_drawn_122 : decode cX7_drawn 122 = .ok (.lload 4, 2) := by decide +kernel
theorem dX7_drawn_124 : decode cX7_drawn 124 = .ok (.aload_n 0, 1) := by decide +kernel
theorem dX7_drawn_125 : decode cX7_drawn 125 = .ok (.getfield 7, 3) := by decide +kernel
theorem dX7_drawn_128 : decode cX7_drawn 128 = .ok (.bipush 41, 2) := by decide +kernel
theorem dX7_drawn_130 : decode cX7_drawn 130 = .ok (.iaload, 1) := by decide +kernel
theorem dX7_drawn_131 : decode cX7_drawn 131 = .ok (.i2l, 1) := by decide +kernel
theorem dX7_drawn_132 : decode cX7_drawn 132 = .ok (.lrem, 1) := by decide +kernel
theorem dX7_drawn_133 : decode cX7_drawn 133 = .ok (.l2i, 1) := by decide +kernel
theorem dX7_drawn_134 : decode cX7_drawn 134 = .ok (.ishl, 1) := by decide +kernel
theorem dX7_drawn_135 : decode cX7_drawn 135 = .ok (.ior, 1) := by decide +kernel
theorem dX7_drawn_136 : decode cX7_drawn 136 = .ok (.iastore, 1) := by decide +kernel
theorem dX7_drawn_137 : decode cX7_drawn 137 = .ok (.aload_n 0, 1) := by decide +kernel
theorem dX7_drawn_138 : decode cX7_drawn 138 = .ok (.sipush 189, 3) := by decide +kernel
theorem dX7_drawn_141 : decode cX7_drawn 141 = .ok (.invokevirtual 162, 3) := by decide +kernel
theorem dX7_drawn_144 : decode cX7_drawn 144 = .ok (.iload 6, 2) := by decide +kernel
theorem dX7_drawn_146 : decode cX7_drawn 146 = .ok (.aload_n 0, 1) := by decide +kernel
theorem dX7_drawn_147 : decode cX7_drawn 147 = .ok (.sipush 189, 3) := by decide +kernel
theorem dX7_drawn_150 : decode cX7_drawn 150 = .ok (.iconst 1, 1) := by decide +kernel
theorem dX7_drawn_151 : decode cX7_drawn 151 = .ok (.invokevirtual 150, 3) := by decide +kernel
theorem dX7_drawn_154 : decode cX7_drawn 154 = .ok (.ifCond .eq 7, 3) := by decide +kernel
theorem dX7_drawn_157 : decode cX7_drawn 157 = .ok (.iconst 1, 1) := by decide +kernel
theorem dX7_drawn_158 : decode cX7_drawn 158 = .ok (.goto 4, 3) := by decide +kernel
theorem dX7_drawn_161 : decode cX7_drawn 161 = .ok (.iconst 0, 1) := by decide +kernel
theorem dX7_drawn_162 : decode cX7_drawn 162 = .ok (.iadd, 1) := by decide +kernel
theorem dX7_drawn_163 : decode cX7_drawn 163 = .ok (.istore 6, 2) := by decide +kernel
theorem dX7_drawn_165 : decode cX7_drawn 165 = .ok (.iinc 7 1, 3) := by decide +kernel
theorem dX7_drawn_168 : decode cX7_drawn 168 = .ok (.goto (-111), 3) := by decide +kernel
theorem dX7_drawn_171 : decode cX7_drawn 171 = .ok (.iload_n 3, 1) := by decide +kernel
theorem dX7_drawn_172 : decode cX7_drawn 172 = .ok (.ifCond .ne 17, 3) := by decide +kernel
theorem dX7_drawn_175 : decode cX7_drawn 175 = .ok (.aload_n 0, 1) := by decide +kernel
theorem dX7_drawn_176 : decode cX7_drawn 176 = .ok (.sipush 189, 3) := by decide +kernel
theorem dX7_drawn_179 : decode cX7_drawn 179 = .ok (.iconst 2, 1) := by decide +kernel
theorem dX7_drawn_180 : decode cX7_drawn 180 = .ok (.invokevirtual 150, 3) := by decide +kernel
theorem dX7_drawn_183 : decode cX7_drawn 183 = .ok (.invokestatic 169, 3) := by decide +kernel
theorem dX7_drawn_186 : decode cX7_drawn 186 = .ok (.goto 5, 3) := by decide +kernel
theorem dX7_drawn_189 : decode cX7_drawn 189 = .ok (.iload 6, 2) := by decide +kernel
theorem dX7_drawn_191 : decode cX7_drawn 191 = .ok (.ireturn, 1) := by decide +kernel
theorem dX7_image_0 : decode cX7_image 0 = .ok (.iload_n 1, 1) := by decide +kernel
theorem dX7_image_1 : decode cX7_image 1 = .ok (.i2l, 1) := by decide +kernel
theorem dX7_image_2 : decode cX7_image 2 = .ok (.lconst 0, 1) := by decide +kernel
theorem dX7_image_3 : decode cX7_image 3 = .ok (.lconst 1, 1) := by decide +kernel
theorem dX7_image_4 : decode cX7_image 4 = .ok (.invokestatic 48, 3) := by decide +kernel
theorem dX7_image_7 : decode cX7_image 7 = .ok (.ifCond .ne 6, 3) := by decide +kernel
theorem dX7_image_10 : decode cX7_image 10 = .ok (.ldc 58, 2) := by decide +kernel
theorem dX7_image_12 : decode cX7_image 12 = .ok (.ireturn, 1) := by decide +kernel
theorem dX7_image_13 : decode cX7_image 13 = .ok (.aload_n 0, 1) := by decide +kernel
theorem dX7_image_14 : decode cX7_image 14 = .ok (.invokevirtual 154, 3) := by decide +kernel
theorem dX7_image_17 : decode cX7_image 17 = .ok (.ifCond .ne 6, 3) := by decide +kernel
theorem dX7_image_20 : decode cX7_image 20 = .ok (.ldc 153, 2) := by decide +kernel
theorem dX7_image_22 : decode cX7_image 22 = .ok (.ireturn, 1) := by decide +kernel
theorem dX7_image_23 : decode cX7_image 23 = .ok (.aload_n 0, 1) := by decide +kernel
theorem dX7_image_24 : decode cX7_image 24 = .ok (.iconst 0, 1) := by decide +kernel
theorem dX7_image_25 : decode cX7_image 25 = .ok (.bipush 63, 2) := by decide +kernel
theorem dX7_image_27 : decode cX7_image 27 = .ok (.iconst 1, 1) := by decide +kernel
theorem dX7_image_28 : decode cX7_image 28 = .ok (.iload_n 1, 1) := by decide +kernel
theorem dX7_image_29 : decode cX7_image 29 = .ok (.iadd, 1) := by decide +kernel
theorem dX7_image_30 : decode cX7_image 30 = .ok (.imul, 1) := by decide +kernel
theorem dX7_image_31 : decode cX7_image 31 = .ok (.invokevirtual 116, 3) := by decide +kernel
theorem dX7_image_34 : decode cX7_image 34 = .ok (.aload_n 0, 1) := by decide +kernel
theorem dX7_image_35 : decode cX7_image 35 = .ok (.getfield 13, 3) := by decide +kernel
theorem dX7_image_38 : decode cX7_image 38 = .ok (.iload_n 1, 1) := by decide +kernel
theorem dX7_image_39 : decode cX7_image 39 = .ok (.iconst 1, 1) := by decide +kernel
theorem dX7_image_40 : decode cX7_image 40 = .ok (.bastore, 1) := by decide +kernel
theorem dX7_image_41 : decode cX7_image 41 = .ok (.iconst 1, 1) := by decide +kernel
theorem dX7_image_42 : decode cX7_image 42 = .ok (.ireturn, 1) := by decide +kernel
theorem dX7_restore_0 : decode cX7_restore 0 = .ok (.iload_n 1, 1) := by decide +kernel
theorem dX7_restore_1 : decode cX7_restore 1 = .ok (.i2l, 1) := by decide +kernel
theorem dX7_restore_2 : decode cX7_restore 2 = .ok (.lconst 0, 1) := by decide +kernel
theorem dX7_restore_3 : decode cX7_restore 3 = .ok (.lconst 1, 1) := by decide +kernel
theorem dX7_restore_4 : decode cX7_restore 4 = .ok (.invokestatic 48, 3) := by decide +kernel
theorem dX7_restore_7 : decode cX7_restore 7 = .ok (.ifCond .ne 6, 3) := by decide +kernel
theorem dX7_restore_10 : decode cX7_restore 10 = .ok (.ldc 58, 2) := by decide +kernel
theorem dX7_restore_12 : decode cX7_restore 12 = .ok (.ireturn, 1) := by decide +kernel
theorem dX7_restore_13 : decode cX7_restore 13 = .ok (.aload_n 0, 1) := by decide +kernel
theorem dX7_restore_14 : decode cX7_restore 14 = .ok (.getfield 13, 3) := by decide +kernel
theorem dX7_restore_17 : decode cX7_restore 17 = .ok (.iload_n 1, 1) := by decide +kernel
theorem dX7_restore_18 : decode cX7_restore 18 = .ok (.baload, 1) := by decide +kernel
theorem dX7_restore_19 : decode cX7_restore 19 = .ok (.ifCond .ne 6, 3) := by decide +kernel
theorem dX7_restore_22 : decode cX7_restore 22 = .ok (.ldc 153, 2) := by decide +kernel
theorem dX7_restore_24 : decode cX7_restore 24 = .ok (.ireturn, 1) := by decide +kernel
theorem dX7_restore_25 : decode cX7_restore 25 = .ok (.aload_n 0, 1) := by decide +kernel
theorem dX7_restore_26 : decode cX7_restore 26 = .ok (.bipush 63, 2) := by decide +kernel
theorem dX7_restore_28 : decode cX7_restore 28 = .ok (.iconst 1, 1) := by decide +kernel
theorem dX7_restore_29 : decode cX7_restore 29 = .ok (.iload_n 1, 1) := by decide +kernel
theorem dX7_restore_30 : decode cX7_restore 30 = .ok (.iadd, 1) := by decide +kernel
theorem dX7_restore_31 : decode cX7_restore 31 = .ok (.imul, 1) := by decide +kernel
theorem dX7_restore_32 : decode cX7_restore 32 = .ok (.iconst 0, 1) := by decide +kernel
theorem dX7_restore_33 : decode cX7_restore 33 = .ok (.invokevirtual 116, 3) := by decide +kernel
theorem dX7_restore_36 : decode cX7_restore 36 = .ok (.aload_n 0, 1) := by decide +kernel
theorem dX7_restore_37 : decode cX7_restore 37 = .ok (.iconst 0, 1) := by decide +kernel
theorem dX7_restore_38 : decode cX7_restore 38 = .ok (.putfield 120, 3) := by decide +kernel
theorem dX7_restore_41 : decode cX7_restore 41 = .ok (.iconst 1, 1) := by decide +kernel
theorem dX7_restore_42 : decode cX7_restore 42 = .ok (.ireturn, 1) := by decide +kernel
theorem dX7_kind_0 : decode cX7_kind 0 = .ok (.aload_n 0, 1) := by decide +kernel
theorem dX7_kind_1 : decode cX7_kind 1 = .ok (.iload_n 1, 1) := by decide +kernel
theorem dX7_kind_2 : decode cX7_kind 2 = .ok (.invokevirtual 166, 3) := by decide +kernel
theorem dX7_kind_5 : decode cX7_kind 5 = .ok (.ifCond .eq 15, 3) := by decide +kernel
theorem dX7_kind_8 : decode cX7_kind 8 = .ok (.aload_n 0, 1) := by decide +kernel
theorem dX7_kind_9 : decode cX7_kind 9 = .ok (.getfield 7, 3) := by decide +kernel
theorem dX7_kind_12 : decode cX7_kind 12 = .ok (.bipush 42, 2) := by decide +kernel
theorem dX7_kind_14 : decode cX7_kind 14 = .ok (.iload_n 1, 1) := by decide +kernel
theorem dX7_kind_15 : decode cX7_kind 15 = .ok (.iadd, 1) := by decide +kernel
theorem dX7_kind_16 : decode cX7_kind 16 = .ok (.iaload, 1) := by decide +kernel
theorem dX7_kind_17 : decode cX7_kind 17 = .ok (.goto 5, 3) := by decide +kernel
theorem dX7_kind_20 : decode cX7_kind 20 = .ok (.ldc 58, 2) := by decide +kernel
theorem dX7_kind_22 : decode cX7_kind 22 = .ok (.ireturn, 1) := by decide +kernel
theorem dX7_as_0 : decode cX7_as 0 = .ok (.aload_n 0, 1) := by decide +kernel
theorem dX7_as_1 : decode cX7_as 1 = .ok (.iload_n 1, 1) := by decide +kernel
theorem dX7_as_2 : decode cX7_as 2 = .ok (.invokevirtual 166, 3) := by decide +kernel
theorem dX7_as_5 : decode cX7_as 5 = .ok (.ifCond .eq 15, 3) := by decide +kernel
theorem dX7_as_8 : decode cX7_as 8 = .ok (.iload_n 2, 1) := by decide +kernel
theorem dX7_as_9 : decode cX7_as 9 = .ok (.i2l, 1) := by decide +kernel
theorem dX7_as_10 : decode cX7_as 10 = .ok (.lconst 0, 1) := by decide +kernel
theorem dX7_as_11 : decode cX7_as 11 = .ok (.ldc2_w 231, 3) := by decide +kernel
theorem dX7_as_14 : decode cX7_as 14 = .ok (.invokestatic 48, 3) := by decide +kernel
theorem dX7_as_17 : decode cX7_as 17 = .ok (.ifCond .ne 6, 3) := by decide +kernel
theorem dX7_as_20 : decode cX7_as 20 = .ok (.ldc 58, 2) := by decide +kernel
theorem dX7_as_22 : decode cX7_as 22 = .ok (.ireturn, 1) := by decide +kernel
theorem dX7_as_23 : decode cX7_as 23 = .ok (.aload_n 0, 1) := by decide +kernel
theorem dX7_as_24 : decode cX7_as 24 = .ok (.getfield 7, 3) := by decide +kernel
theorem dX7_as_27 : decode cX7_as 27 = .ok (.bipush 42, 2) := by decide +kernel
theorem dX7_as_29 : decode cX7_as 29 = .ok (.iload_n 1, 1) := by decide +kernel
theorem dX7_as_30 : decode cX7_as 30 = .ok (.iadd, 1) := by decide +kernel
theorem dX7_as_31 : decode cX7_as 31 = .ok (.iaload, 1) := by decide +kernel
theorem dX7_as_32 : decode cX7_as 32 = .ok (.istore_n 3, 1) := by decide +kernel
theorem dX7_as_33 : decode cX7_as 33 = .ok (.iload_n 2, 1) := by decide +kernel
theorem dX7_as_34 : decode cX7_as 34 = .ok (.ifCond .eq 28, 3) := by decide +kernel
theorem dX7_as_37 : decode cX7_as 37 = .ok (.iload_n 2, 1) := by decide +kernel
theorem dX7_as_38 : decode cX7_as 38 = .ok (.iload_n 3, 1) := by decide +kernel
theorem dX7_as_39 : decode cX7_as 39 = .ok (.if_icmp .eq 23, 3) := by decide +kernel
theorem dX7_as_42 : decode cX7_as 42 = .ok (.iload_n 2, 1) := by decide +kernel
theorem dX7_as_43 : decode cX7_as 43 = .ok (.iconst 1, 1) := by decide +kernel
theorem dX7_as_44 : decode cX7_as 44 = .ok (.if_icmp .ne 8, 3) := by decide +kernel
theorem dX7_as_47 : decode cX7_as 47 = .ok (.iload_n 3, 1) := by decide +kernel
theorem dX7_as_48 : decode cX7_as 48 = .ok (.iconst 4, 1) := by decide +kernel
theorem dX7_as_49 : decode cX7_as 49 = .ok (.if_icmp .lt 13, 3) := by decide +kernel
theorem dX7_as_52 : decode cX7_as 52 = .ok (.iload_n 2, 1) := by decide +kernel
theorem dX7_as_53 : decode cX7_as 53 = .ok (.iconst 4, 1) := by decide +kernel
theorem dX7_as_54 : decode cX7_as 54 = .ok (.if_icmp .ne 12, 3) := by decide +kernel
theorem dX7_as_57 : decode cX7_as 57 = .ok (.iload_n 3, 1) := by decide +kernel
theorem dX7_as_58 : decode cX7_as 58 = .ok (.iconst 5, 1) := by decide +kernel
theorem dX7_as_59 : decode cX7_as 59 = .ok (.if_icmp .ne 7, 3) := by decide +kernel
theorem dX7_as_62 : decode cX7_as 62 = .ok (.iconst 1, 1) := by decide +kernel
theorem dX7_as_63 : decode cX7_as 63 = .ok (.goto 4, 3) := by decide +kernel
theorem dX7_as_66 : decode cX7_as 66 = .ok (.iconst 0, 1) := by decide +kernel
theorem dX7_as_67 : decode cX7_as 67 = .ok (.istore 4, 2) := by decide +kernel
theorem dX7_as_69 : decode cX7_as 69 = .ok (.iload 4, 2) := by decide +kernel
theorem dX7_as_71 : decode cX7_as 71 = .ok (.ifCond .eq 11, 3) := by decide +kernel
theorem dX7_as_74 : decode cX7_as 74 = .ok (.aload_n 0, 1) := by decide +kernel
theorem dX7_as_75 : decode cX7_as 75 = .ok (.iload_n 1, 1) := by decide +kernel
theorem dX7_as_76 : decode cX7_as 76 = .ok (.invokevirtual 63, 3) := by decide +kernel
theorem dX7_as_79 : decode cX7_as 79 = .ok (.goto 8, 3) := by decide +kernel
theorem dX7_as_82 : decode cX7_as 82 = .ok (.aload_n 0, 1) := by decide +kernel
theorem dX7_as_83 : decode cX7_as 83 = .ok (.iconst 3, 1) := by decide +kernel
theorem dX7_as_84 : decode cX7_as 84 = .ok (.invokevirtual 59, 3) := by decide +kernel
theorem dX7_as_87 : decode cX7_as 87 = .ok (.ireturn, 1) := by decide +kernel
theorem dX7_begins_0 : decode cX7_begins 0 = .ok (.aload_n 0, 1) := by decide +kernel
theorem dX7_begins_1 : decode cX7_begins 1 = .ok (.getfield 233, 3) := by decide +kernel
theorem dX7_begins_4 : decode cX7_begins 4 = .ok (.bipush 16, 2) := by decide +kernel
theorem dX7_begins_6 : decode cX7_begins 6 = .ok (.if_icmp .ge 23, 3) := by decide +kernel
theorem dX7_begins_9 : decode cX7_begins 9 = .ok (.aload_n 0, 1) := by decide +kernel
theorem dX7_begins_10 : decode cX7_begins 10 = .ok (.getfield 32, 3) := by decide +kernel
theorem dX7_begins_13 : decode cX7_begins 13 = .ok (.aload_n 0, 1) := by decide +kernel
theorem dX7_begins_14 : decode cX7_begins 14 = .ok (.getfield 233, 3) := by decide +kernel
theorem dX7_begins_17 : decode cX7_begins 17 = .ok (.iload_n 1, 1) := by decide +kernel
theorem dX7_begins_18 : decode cX7_begins 18 = .ok (.iastore, 1) := by decide +kernel
theorem dX7_begins_19 : decode cX7_begins 19 = .ok (.aload_n 0, 1) := by decide +kernel
theorem dX7_begins_20 : decode cX7_begins 20 = .ok (.dup, 1) := by decide +kernel
theorem dX7_begins_21 : decode cX7_begins 21 = .ok (.getfield 233, 3) := by decide +kernel
theorem dX7_begins_24 : decode cX7_begins 24 = .ok (.iconst 1, 1) := by decide +kernel
theorem dX7_begins_25 : decode cX7_begins 25 = .ok (.iadd, 1) := by decide +kernel
theorem dX7_begins_26 : decode cX7_begins 26 = .ok (.putfield 233, 3) := by decide +kernel
theorem dX7_begins_29 : decode cX7_begins 29 = .ok (.return_, 1) := by decide +kernel
theorem dX7_markLent_0 : decode cX7_markLent 0 = .ok (.aload_n 0, 1) := by decide +kernel
theorem dX7_markLent_1 : decode cX7_markLent 1 = .ok (.bipush 20, 2) := by decide +kernel
theorem dX7_markLent_3 : decode cX7_markLent 3 = .ok (.invokevirtual 236, 3) := by decide +kernel
theorem dX7_markLent_6 : decode cX7_markLent 6 = .ok (.iload_n 1, 1) := by decide +kernel
theorem dX7_markLent_7 : decode cX7_markLent 7 = .ok (.ireturn, 1) := by decide +kernel
theorem dX7_markPlain_0 : decode cX7_markPlain 0 = .ok (.aload_n 0, 1) := by decide +kernel
theorem dX7_markPlain_1 : decode cX7_markPlain 1 = .ok (.bipush 21, 2) := by decide +kernel
theorem dX7_markPlain_3 : decode cX7_markPlain 3 = .ok (.invokevirtual 236, 3) := by decide +kernel
theorem dX7_markPlain_6 : decode cX7_markPlain 6 = .ok (.aload_n 0, 1) := by decide +kernel
theorem dX7_markPlain_7 : decode cX7_markPlain 7 = .ok (.iload_n 1, 1) := by decide +kernel
theorem dX7_markPlain_8 : decode cX7_markPlain 8 = .ok (.invokevirtual 239, 3) := by decide +kernel
theorem dX7_markPlain_11 : decode cX7_markPlain 11 = .ok (.aload_n 0, 1) := by decide +kernel
theorem dX7_markPlain_12 : decode cX7_markPlain 12 = .ok (.iconst 0, 1) := by decide +kernel
theorem dX7_markPlain_13 : decode cX7_markPlain 13 = .ok (.iload_n 1, 1) := by decide +kernel
theorem dX7_markPlain_14 : decode cX7_markPlain 14 = .ok (.invokevirtual 133, 3) := by decide +kernel
theorem dX7_markPlain_17 : decode cX7_markPlain 17 = .ok (.iadd, 1) := by decide +kernel
theorem dX7_markPlain_18 : decode cX7_markPlain 18 = .ok (.ireturn, 1) := by decide +kernel
theorem dX7_sizeDeep_0 : decode cX7_sizeDeep 0 = .ok (.iload_n 2, 1) := by decide +kernel
theorem dX7_sizeDeep_1 : decode cX7_sizeDeep 1 = .ok (.ifCond .eq 9, 3) := by decide +kernel
theorem dX7_sizeDeep_4 : decode cX7_sizeDeep 4 = .ok (.aload_n 0, 1) := by decide +kernel
theorem dX7_sizeDeep_5 : decode cX7_sizeDeep 5 = .ok (.bipush 14, 2) := by decide +kernel
theorem dX7_sizeDeep_7 : decode cX7_sizeDeep 7 = .ok (.invokevirtual 236, 3) := by decide +kernel
theorem dX7_sizeDeep_10 : decode cX7_sizeDeep 10 = .ok (.aload_n 0, 1) := by decide +kernel
theorem dX7_sizeDeep_11 : decode cX7_sizeDeep 11 = .ok (.bipush 13, 2) := by decide +kernel
theorem dX7_sizeDeep_13 : decode cX7_sizeDeep 13 = .ok (.invokevirtual 236, 3) := by decide +kernel
theorem dX7_sizeDeep_16 : decode cX7_sizeDeep 16 = .ok (.aload_n 0, 1) := by decide +kernel
theorem dX7_sizeDeep_17 : decode cX7_sizeDeep 17 = .ok (.bipush 10, 2) := by decide +kernel
theorem dX7_sizeDeep_19 : decode cX7_sizeDeep 19 = .ok (.invokevirtual 236, 3) := by decide +kernel
theorem dX7_sizeDeep_22 : decode cX7_sizeDeep 22 = .ok (.aload_n 0, 1) := by decide +kernel
theorem dX7_sizeDeep_23 : decode cX7_sizeDeep 23 = .ok (.getfield 7, 3) := by decide +kernel
theorem dX7_sizeDeep_26 : decode cX7_sizeDeep 26 = .ok (.iconst 1, 1) := by decide +kernel
theorem dX7_sizeDeep_27 : decode cX7_sizeDeep 27 = .ok (.iload_n 1, 1) := by decide +kernel
theorem dX7_sizeDeep_28 : decode cX7_sizeDeep 28 = .ok (.iadd, 1) := by decide +kernel
theorem dX7_sizeDeep_29 : decode cX7_sizeDeep 29 = .ok (.iaload, 1) := by decide +kernel
theorem dX7_sizeDeep_30 : decode cX7_sizeDeep 30 = .ok (.bipush 100, 2) := by decide +kernel
theorem dX7_sizeDeep_32 : decode cX7_sizeDeep 32 = .ok (.isub, 1) := by decide +kernel
theorem dX7_sizeDeep_33 : decode cX7_sizeDeep 33 = .ok (.istore_n 3, 1) := by decide +kernel
theorem dX7_sizeDeep_34 : decode cX7_sizeDeep 34 = .ok (.iload_n 2, 1) := by decide +kernel
theorem dX7_sizeDeep_35 : decode cX7_sizeDeep 35 = .ok (.ifCond .eq 9, 3) := by decide +kernel
theorem dX7_sizeDeep_38 : decode cX7_sizeDeep 38 = .ok (.iconst 2, 1) := by decide +kernel
theorem dX7_sizeDeep_39 : decode cX7_sizeDeep 39 = .ok (.iload_n 3, 1) := by decide +kernel
theorem dX7_sizeDeep_40 : decode cX7_sizeDeep 40 = .ok (.imul, 1) := by decide +kernel
theorem dX7_sizeDeep_41 : decode cX7_sizeDeep 41 = .ok (.goto 4, 3) := by decide +kernel
theorem dX7_sizeDeep_44 : decode cX7_sizeDeep 44 = .ok (.iload_n 3, 1) := by decide +kernel
theorem dX7_sizeDeep_45 : decode cX7_sizeDeep 45 = .ok (.ireturn, 1) := by decide +kernel
theorem dX7_mark_0 : decode cX7_mark 0 = .ok (.aload_n 0, 1) := by decide +kernel
theorem dX7_mark_1 : decode cX7_mark 1 = .ok (.getfield 7, 3) := by decide +kernel
theorem dX7_mark_4 : decode cX7_mark 4 = .ok (.bipush 42, 2) := by decide +kernel
theorem dX7_mark_6 : decode cX7_mark 6 = .ok (.iload_n 1, 1) := by decide +kernel
theorem dX7_mark_7 : decode cX7_mark 7 = .ok (.iadd, 1) := by decide +kernel
theorem dX7_mark_8 : decode cX7_mark 8 = .ok (.iaload, 1) := by decide +kernel
theorem dX7_mark_9 : decode cX7_mark 9 = .ok (.istore_n 2, 1) := by decide +kernel
theorem dX7_mark_10 : decode cX7_mark 10 = .ok (.iload_n 2, 1) := by decide +kernel
theorem dX7_mark_11 : decode cX7_mark 11 = .ok (.tableswitch 61 1 3 #[55, 25, 39], 25) := by decide +kernel
theorem dX7_mark_36 : decode cX7_mark 36 = .ok (.aload_n 0, 1) := by decide +kernel
theorem dX7_mark_37 : decode cX7_mark 37 = .ok (.bipush 24, 2) := by decide +kernel
theorem dX7_mark_39 : decode cX7_mark 39 = .ok (.invokevirtual 236, 3) := by decide +kernel
theorem dX7_mark_42 : decode cX7_mark 42 = .ok (.iconst 2, 1) := by decide +kernel
theorem dX7_mark_43 : decode cX7_mark 43 = .ok (.aload_n 0, 1) := by decide +kernel
theorem dX7_mark_44 : decode cX7_mark 44 = .ok (.iload_n 1, 1) := by decide +kernel
theorem dX7_mark_45 : decode cX7_mark 45 = .ok (.invokevirtual 242, 3) := by decide +kernel
theorem dX7_mark_48 : decode cX7_mark 48 = .ok (.imul, 1) := by decide +kernel
theorem dX7_mark_49 : decode cX7_mark 49 = .ok (.ireturn, 1) := by decide +kernel
theorem dX7_mark_50 : decode cX7_mark 50 = .ok (.aload_n 0, 1) := by decide +kernel
theorem dX7_mark_51 : decode cX7_mark 51 = .ok (.bipush 22, 2) := by decide +kernel
theorem dX7_mark_53 : decode cX7_mark 53 = .ok (.invokevirtual 236, 3) := by decide +kernel
theorem dX7_mark_56 : decode cX7_mark 56 = .ok (.aload_n 0, 1) := by decide +kernel
theorem dX7_mark_57 : decode cX7_mark 57 = .ok (.iload_n 1, 1) := by decide +kernel
theorem dX7_mark_58 : decode cX7_mark 58 = .ok (.invokevirtual 242, 3) := by decide +kernel
theorem dX7_mark_61 : decode cX7_mark 61 = .ok (.sipush 1000, 3) := by decide +kernel
theorem dX7_mark_64 : decode cX7_mark 64 = .ok (.isub, 1) := by decide +kernel
theorem dX7_mark_65 : decode cX7_mark 65 = .ok (.ireturn, 1) := by decide +kernel
theorem dX7_mark_66 : decode cX7_mark 66 = .ok (.aload_n 0, 1) := by decide +kernel
theorem dX7_mark_67 : decode cX7_mark 67 = .ok (.iload_n 1, 1) := by decide +kernel
theorem dX7_mark_68 : decode cX7_mark 68 = .ok (.invokevirtual 242, 3) := by decide +kernel
theorem dX7_mark_71 : decode cX7_mark 71 = .ok (.ireturn, 1) := by decide +kernel
theorem dX7_mark_72 : decode cX7_mark 72 = .ok (.aload_n 0, 1) := by decide +kernel
theorem dX7_mark_73 : decode cX7_mark 73 = .ok (.bipush 23, 2) := by decide +kernel
theorem dX7_mark_75 : decode cX7_mark 75 = .ok (.invokevirtual 236, 3) := by decide +kernel
theorem dX7_mark_78 : decode cX7_mark 78 = .ok (.aload_n 0, 1) := by decide +kernel
theorem dX7_mark_79 : decode cX7_mark 79 = .ok (.iload_n 1, 1) := by decide +kernel
theorem dX7_mark_80 : decode cX7_mark 80 = .ok (.invokevirtual 239, 3) := by decide +kernel
theorem dX7_mark_83 : decode cX7_mark 83 = .ok (.aload_n 0, 1) := by decide +kernel
theorem dX7_mark_84 : decode cX7_mark 84 = .ok (.iload_n 1, 1) := by decide +kernel
theorem dX7_mark_85 : decode cX7_mark 85 = .ok (.iload_n 2, 1) := by decide +kernel
theorem dX7_mark_86 : decode cX7_mark 86 = .ok (.iconst 5, 1) := by decide +kernel
theorem dX7_mark_87 : decode cX7_mark 87 = .ok (.if_icmp .ne 7, 3) := by decide +kernel
theorem dX7_mark_90 : decode cX7_mark 90 = .ok (.iconst 1, 1) := by decide +kernel
theorem dX7_mark_91 : decode cX7_mark 91 = .ok (.goto 4, 3) := by decide +kernel
theorem dX7_mark_94 : decode cX7_mark 94 = .ok (.iconst 0, 1) := by decide +kernel
theorem dX7_mark_95 : decode cX7_mark 95 = .ok (.invokevirtual 245, 3) := by decide +kernel
theorem dX7_mark_98 : decode cX7_mark 98 = .ok (.isub, 1) := by decide +kernel
theorem dX7_mark_99 : decode cX7_mark 99 = .ok (.ireturn, 1) := by decide +kernel
theorem dX7_sizePlain_0 : decode cX7_sizePlain 0 = .ok (.aload_n 0, 1) := by decide +kernel
theorem dX7_sizePlain_1 : decode cX7_sizePlain 1 = .ok (.bipush 11, 2) := by decide +kernel
theorem dX7_sizePlain_3 : decode cX7_sizePlain 3 = .ok (.invokevirtual 236, 3) := by decide +kernel
theorem dX7_sizePlain_6 : decode cX7_sizePlain 6 = .ok (.aload_n 0, 1) := by decide +kernel
theorem dX7_sizePlain_7 : decode cX7_sizePlain 7 = .ok (.bipush 10, 2) := by decide +kernel
theorem dX7_sizePlain_9 : decode cX7_sizePlain 9 = .ok (.invokevirtual 236, 3) := by decide +kernel
theorem dX7_sizePlain_12 : decode cX7_sizePlain 12 = .ok (.aload_n 0, 1) := by decide +kernel
theorem dX7_sizePlain_13 : decode cX7_sizePlain 13 = .ok (.getfield 7, 3) := by decide +kernel
theorem dX7_sizePlain_16 : decode cX7_sizePlain 16 = .ok (.iconst 1, 1) := by decide +kernel
theorem dX7_sizePlain_17 : decode cX7_sizePlain 17 = .ok (.iload_n 1, 1) := by decide +kernel
theorem dX7_sizePlain_18 : decode cX7_sizePlain 18 = .ok (.iadd, 1) := by decide +kernel
theorem dX7_sizePlain_19 : decode cX7_sizePlain 19 = .ok (.iaload, 1) := by decide +kernel
theorem dX7_sizePlain_20 : decode cX7_sizePlain 20 = .ok (.aload_n 0, 1) := by decide +kernel
theorem dX7_sizePlain_21 : decode cX7_sizePlain 21 = .ok (.iload_n 1, 1) := by decide +kernel
theorem dX7_sizePlain_22 : decode cX7_sizePlain 22 = .ok (.invokevirtual 249, 3) := by decide +kernel
theorem dX7_sizePlain_25 : decode cX7_sizePlain 25 = .ok (.iadd, 1) := by decide +kernel
theorem dX7_sizePlain_26 : decode cX7_sizePlain 26 = .ok (.ireturn, 1) := by decide +kernel
theorem dX7_size_0 : decode cX7_size 0 = .ok (.aload_n 0, 1) := by decide +kernel
theorem dX7_size_1 : decode cX7_size 1 = .ok (.getfield 7, 3) := by decide +kernel
theorem dX7_size_4 : decode cX7_size 4 = .ok (.bipush 42, 2) := by decide +kernel
theorem dX7_size_6 : decode cX7_size 6 = .ok (.iload_n 1, 1) := by decide +kernel
theorem dX7_size_7 : decode cX7_size 7 = .ok (.iadd, 1) := by decide +kernel
theorem dX7_size_8 : decode cX7_size 8 = .ok (.iaload, 1) := by decide +kernel
theorem dX7_size_9 : decode cX7_size 9 = .ok (.istore_n 2, 1) := by decide +kernel
theorem dX7_size_10 : decode cX7_size 10 = .ok (.iload_n 2, 1) := by decide +kernel
theorem dX7_size_11 : decode cX7_size 11 = .ok (.tableswitch 44 1 3 #[38, 25, 38], 25) := by decide +kernel
theorem dX7_size_36 : decode cX7_size 36 = .ok (.aload_n 0, 1) := by decide +kernel
theorem dX7_size_37 : decode cX7_size 37 = .ok (.bipush 12, 2) := by decide +kernel
theorem dX7_size_39 : decode cX7_size 39 = .ok (.invokevirtual 236, 3) := by decide +kernel
theorem dX7_size_42 : decode cX7_size 42 = .ok (.aload_n 0, 1) := by decide +kernel
theorem dX7_size_43 : decode cX7_size 43 = .ok (.iload_n 1, 1) := by decide +kernel
theorem dX7_size_44 : decode cX7_size 44 = .ok (.invokevirtual 252, 3) := by decide +kernel
theorem dX7_size_47 : decode cX7_size 47 = .ok (.ineg, 1) := by decide +kernel
theorem dX7_size_48 : decode cX7_size 48 = .ok (.ireturn, 1) := by decide +kernel
theorem dX7_size_49 : decode cX7_size 49 = .ok (.aload_n 0, 1) := by decide +kernel
theorem dX7_size_50 : decode cX7_size 50 = .ok (.iload_n 1, 1) := by decide +kernel
theorem dX7_size_51 : decode cX7_size 51 = .ok (.invokevirtual 252, 3) := by decide +kernel
theorem dX7_size_54 : decode cX7_size 54 = .ok (.ireturn, 1) := by decide +kernel
theorem dX7_size_55 : decode cX7_size 55 = .ok (.aload_n 0, 1) := by decide +kernel
theorem dX7_size_56 : decode cX7_size 56 = .ok (.iload_n 1, 1) := by decide +kernel
theorem dX7_size_57 : decode cX7_size 57 = .ok (.iload_n 2, 1) := by decide +kernel
theorem dX7_size_58 : decode cX7_size 58 = .ok (.iconst 5, 1) := by decide +kernel
theorem dX7_size_59 : decode cX7_size 59 = .ok (.if_icmp .ne 7, 3) := by decide +kernel
theorem dX7_size_62 : decode cX7_size 62 = .ok (.iconst 1, 1) := by decide +kernel
theorem dX7_size_63 : decode cX7_size 63 = .ok (.goto 4, 3) := by decide +kernel
theorem dX7_size_66 : decode cX7_size 66 = .ok (.iconst 0, 1) := by decide +kernel
theorem dX7_size_67 : decode cX7_size 67 = .ok (.invokevirtual 245, 3) := by decide +kernel
theorem dX7_size_70 : decode cX7_size 70 = .ok (.ireturn, 1) := by decide +kernel
theorem dX7_ask_0 : decode cX7_ask 0 = .ok (.aload_n 0, 1) := by decide +kernel
theorem dX7_ask_1 : decode cX7_ask 1 = .ok (.iload_n 1, 1) := by decide +kernel
theorem dX7_ask_2 : decode cX7_ask 2 = .ok (.invokevirtual 166, 3) := by decide +kernel
theorem dX7_ask_5 : decode cX7_ask 5 = .ok (.ifCond .eq 13, 3) := by decide +kernel
theorem dX7_ask_8 : decode cX7_ask 8 = .ok (.iload_n 2, 1) := by decide +kernel
theorem dX7_ask_9 : decode cX7_ask 9 = .ok (.i2l, 1) := by decide +kernel
theorem dX7_ask_10 : decode cX7_ask 10 = .ok (.lconst 0, 1) := by decide +kernel
theorem dX7_ask_11 : decode cX7_ask 11 = .ok (.lconst 1, 1) := by decide +kernel
theorem dX7_ask_12 : decode cX7_ask 12 = .ok (.invokestatic 48, 3) := by decide +kernel
theorem dX7_ask_15 : decode cX7_ask 15 = .ok (.ifCond .ne 6, 3) := by decide +kernel
theorem dX7_ask_18 : decode cX7_ask 18 = .ok (.ldc 58, 2) := by decide +kernel
theorem dX7_ask_20 : decode cX7_ask 20 = .ok (.ireturn, 1) := by decide +kernel
theorem dX7_ask_21 : decode cX7_ask 21 = .ok (.aload_n 0, 1) := by decide +kernel
theorem dX7_ask_22 : decode cX7_ask 22 = .ok (.iconst 0, 1) := by decide +kernel
theorem dX7_ask_23 : decode cX7_ask 23 = .ok (.putfield 233, 3) := by decide +kernel
theorem dX7_ask_26 : decode cX7_ask 26 = .ok (.iload_n 2, 1) := by decide +kernel
theorem dX7_ask_27 : decode cX7_ask 27 = .ok (.ifCond .ne 11, 3) := by decide +kernel
theorem dX7_ask_30 : decode cX7_ask 30 = .ok (.aload_n 0, 1) := by decide +kernel
theorem dX7_ask_31 : decode cX7_ask 31 = .ok (.iload_n 1, 1) := by decide +kernel
theorem dX7_ask_32 : decode cX7_ask 32 = .ok (.invokevirtual 255, 3) := by decide +kernel
theorem dX7_ask_35 : decode cX7_ask 35 = .ok (.goto 8, 3) := by decide +kernel
theorem dX7_ask_38 : decode cX7_ask 38 = .ok (.aload_n 0, 1) := by decide +kernel
theorem dX7_ask_39 : decode cX7_ask 39 = .ok (.iload_n 1, 1) := by decide +kernel
theorem dX7_ask_40 : decode cX7_ask 40 = .ok (.invokevirtual 249, 3) := by decide +kernel
theorem dX7_ask_43 : decode cX7_ask 43 = .ok (.ireturn, 1) := by decide +kernel
theorem dX7_trace_0 : decode cX7_trace 0 = .ok (.iload_n 1, 1) := by decide +kernel
theorem dX7_trace_1 : decode cX7_trace 1 = .ok (.i2l, 1) := by decide +kernel
theorem dX7_trace_2 : decode cX7_trace 2 = .ok (.lconst 0, 1) := by decide +kernel
theorem dX7_trace_3 : decode cX7_trace 3 = .ok (.aload_n 0, 1) := by decide +kernel
theorem dX7_trace_4 : decode cX7_trace 4 = .ok (.getfield 233, 3) := by decide +kernel
theorem dX7_trace_7 : decode cX7_trace 7 = .ok (.iconst 1, 1) := by decide +kernel
theorem dX7_trace_8 : decode cX7_trace 8 = .ok (.isub, 1) := by decide +kernel
theorem dX7_trace_9 : decode cX7_trace 9 = .ok (.i2l, 1) := by decide +kernel
theorem dX7_trace_10 : decode cX7_trace 10 = .ok (.invokestatic 48, 3) := by decide +kernel
theorem dX7_trace_13 : decode cX7_trace 13 = .ok (.ifCond .eq 12, 3) := by decide +kernel
theorem dX7_trace_16 : decode cX7_trace 16 = .ok (.aload_n 0, 1) := by decide +kernel
theorem dX7_trace_17 : decode cX7_trace 17 = .ok (.getfield 32, 3) := by decide +kernel
theorem dX7_trace_20 : decode cX7_trace 20 = .ok (.iload_n 1, 1) := by decide +kernel
theorem dX7_trace_21 : decode cX7_trace 21 = .ok (.iaload, 1) := by decide +kernel
theorem dX7_trace_22 : decode cX7_trace 22 = .ok (.goto 5, 3) := by decide +kernel
theorem dX7_trace_25 : decode cX7_trace 25 = .ok (.ldc 193, 2) := by decide +kernel
theorem dX7_trace_27 : decode cX7_trace 27 = .ok (.ireturn, 1) := by decide +kernel
theorem dX7_count_0 : decode cX7_count 0 = .ok (.iload_n 1, 1) := by decide +kernel
theorem dX7_count_1 : decode cX7_count 1 = .ok (.tableswitch 138 0 7 #[47, 82, 90, 97, 107, 117, 128, 133], 47) := by decide +kernel
theorem dX7_count_48 : decode cX7_count 48 = .ok (.iconst 0, 1) := by decide +kernel
theorem dX7_count_49 : decode cX7_count 49 = .ok (.istore_n 2, 1) := by decide +kernel
theorem dX7_count_50 : decode cX7_count 50 = .ok (.iconst 0, 1) := by decide +kernel
theorem dX7_count_51 : decode cX7_count 51 = .ok (.istore_n 3, 1) := by decide +kernel
theorem dX7_count_52 : decode cX7_count 52 = .ok (.iload_n 3, 1) := by decide +kernel
theorem dX7_count_53 : decode cX7_count 53 = .ok (.bipush 8, 2) := by decide +kernel
theorem dX7_count_55 : decode cX7_count 55 = .ok (.if_icmp .ge 26, 3) := by decide +kernel
theorem dX7_count_58 : decode cX7_count 58 = .ok (.iload_n 2, 1) := by decide +kernel
theorem dX7_count_59 : decode cX7_count 59 = .ok (.aload_n 0, 1) := by decide +kernel
theorem dX7_count_60 : decode cX7_count 60 = .ok (.getfield 23, 3) := by decide +kernel
theorem dX7_count_63 : decode cX7_count 63 = .ok (.iload_n 3, 1) := by decide +kernel
theorem dX7_count_64 : decode cX7_count 64 = .ok (.iaload, 1) := by decide +kernel
theorem dX7_count_65 : decode cX7_count 65 = .ok (.ifCond .ge 7, 3) := by decide +kernel
theorem dX7_count_68 : decode cX7_count 68 = .ok (.iconst 0, 1) := by decide +kernel
theorem dX7_count_69 : decode cX7_count 69 = .ok (.goto 4, 3) := by decide +kernel
theorem dX7_count_72 : decode cX7_count 72 = .ok (.iconst 1, 1) := by decide +kernel
theorem dX7_count_73 : decode cX7_count 73 = .ok (.iadd, 1) := by decide +kernel
theorem dX7_count_74 : decode cX7_count 74 = .ok (.istore_n 2, 1) := by decide +kernel
theorem dX7_count_75 : decode cX7_count 75 = .ok (.iinc 3 1, 3) := by decide +kernel
theorem dX7_count_78 : decode cX7_count 78 = .ok (.goto (-26), 3) := by decide +kernel
theorem dX7_count_81 : decode cX7_count 81 = .ok (.iload_n 2, 1) := by decide +kernel
theorem dX7_count_82 : decode cX7_count 82 = .ok (.ireturn, 1) := by decide +kernel
theorem dX7_count_83 : decode cX7_count 83 = .ok (.aload_n 0, 1) := by decide +kernel
theorem dX7_count_84 : decode cX7_count 84 = .ok (.getfield 7, 3) := by decide +kernel
theorem dX7_count_87 : decode cX7_count 87 = .ok (.bipush 41, 2) := by decide +kernel
theorem dX7_count_89 : decode cX7_count 89 = .ok (.iaload, 1) := by decide +kernel
theorem dX7_count_90 : decode cX7_count 90 = .ok (.ireturn, 1) := by decide +kernel
theorem dX7_count_91 : decode cX7_count 91 = .ok (.aload_n 0, 1) := by decide +kernel
theorem dX7_count_92 : decode cX7_count 92 = .ok (.getfield 7, 3) := by decide +kernel
theorem dX7_count_95 : decode cX7_count 95 = .ok (.iconst 0, 1) := by decide +kernel
theorem dX7_count_96 : decode cX7_count 96 = .ok (.iaload, 1) := by decide +kernel
theorem dX7_count_97 : decode cX7_count 97 = .ok (.ireturn, 1) := by decide +kernel
theorem dX7_count_98 : decode cX7_count 98 = .ok (.aload_n 0, 1) := by decide +kernel
theorem dX7_count_99 : decode cX7_count 99 = .ok (.iconst 0, 1) := by decide +kernel
theorem dX7_count_100 : decode cX7_count 100 = .ok (.iconst 2, 1) := by decide +kernel
theorem dX7_count_101 : decode cX7_count 101 = .ok (.invokevirtual 150, 3) := by decide +kernel
theorem dX7_count_104 : decode cX7_count 104 = .ok (.invokestatic 169, 3) := by decide +kernel
theorem dX7_count_107 : decode cX7_count 107 = .ok (.ireturn, 1) := by decide +kernel
theorem dX7_count_108 : decode cX7_count 108 = .ok (.aload_n 0, 1) := by decide +kernel
theorem dX7_count_109 : decode cX7_count 109 = .ok (.iconst 0, 1) := by decide +kernel
theorem dX7_count_110 : decode cX7_count 110 = .ok (.iconst 1, 1) := by decide +kernel
theorem dX7_count_111 : decode cX7_count 111 = .ok (.invokevirtual 150, 3) := by decide +kernel
theorem dX7_count_114 : decode cX7_count 114 = .ok (.invokestatic 169, 3) := by decide +kernel
theorem dX7_count_117 : decode cX7_count 117 = .ok (.ireturn, 1) := by decide +kernel
theorem dX7_count_118 : decode cX7_count 118 = .ok (.aload_n 0, 1) := by decide +kernel
theorem dX7_count_119 : decode cX7_count 119 = .ok (.getfield 7, 3) := by decide +kernel
theorem dX7_count_122 : decode cX7_count 122 = .ok (.bipush 36, 2) := by decide +kernel
theorem dX7_count_124 : decode cX7_count 124 = .ok (.iaload, 1) := by decide +kernel
theorem dX7_count_125 : decode cX7_count 125 = .ok (.invokestatic 169, 3) := by decide +kernel
theorem dX7_count_128 : decode cX7_count 128 = .ok (.ireturn, 1) := by decide +kernel
theorem dX7_count_129 : decode cX7_count 129 = .ok (.aload_n 0, 1) := by decide +kernel
theorem dX7_count_130 : decode cX7_count 130 = .ok (.getfield 120, 3) := by decide +kernel
theorem dX7_count_133 : decode cX7_count 133 = .ok (.ireturn, 1) := by decide +kernel
theorem dX7_count_134 : decode cX7_count 134 = .ok (.aload_n 0, 1) := by decide +kernel
theorem dX7_count_135 : decode cX7_count 135 = .ok (.getfield 72, 3) := by decide +kernel
theorem dX7_count_138 : decode cX7_count 138 = .ok (.ireturn, 1) := by decide +kernel
theorem dX7_count_139 : decode cX7_count 139 = .ok (.ldc 58, 2) := by decide +kernel
theorem dX7_count_141 : decode cX7_count 141 = .ok (.ireturn, 1) := by decide +kernel
theorem dX7_status_0 : decode cX7_status 0 = .ok (.aload_n 0, 1) := by decide +kernel
theorem dX7_status_1 : decode cX7_status 1 = .ok (.getfield 41, 3) := by decide +kernel
theorem dX7_status_4 : decode cX7_status 4 = .ok (.ireturn, 1) := by decide +kernel
end
section
/-! what stands at each place of the code -/
theorem dL_law_0 : decode cL_law 0 = .ok (.new 7, 3) := by decide +kernel
theorem dL_law_3 : decode cL_law 3 = .ok (.dup, 1) := by decide +kernel
theorem dL_law_4 : decode cL_law 4 = .ok (.invokespecial 9, 3) := by decide +kernel
theorem dL_law_7 : decode cL_law 7 = .ok (.astore_n 1, 1) := by decide +kernel
theorem dL_law_8 : decode cL_law 8 = .ok (.new 10, 3) := by decide +kernel
theorem dL_law_11 : decode cL_law 11 = .ok (.dup, 1) := by decide +kernel
theorem dL_law_12 : decode cL_law 12 = .ok (.invokespecial 12, 3) := by decide +kernel
theorem dL_law_15 : decode cL_law 15 = .ok (.astore_n 2, 1) := by decide +kernel
theorem dL_law_16 : decode cL_law 16 = .ok (.iconst 0, 1) := by decide +kernel
theorem dL_law_17 : decode cL_law 17 = .ok (.istore_n 3, 1) := by decide +kernel
theorem dL_law_18 : decode cL_law 18 = .ok (.iload_n 3, 1) := by decide +kernel
theorem dL_law_19 : decode cL_law 19 = .ok (.aload_n 0, 1) := by decide +kernel
theorem dL_law_20 : decode cL_law 20 = .ok (.arraylength, 1) := by decide +kernel
theorem dL_law_21 : decode cL_law 21 = .ok (.bipush 6, 2) := by decide +kernel
theorem dL_law_23 : decode cL_law 23 = .ok (.isub, 1) := by decide +kernel
theorem dL_law_24 : decode cL_law 24 = .ok (.if_icmp .gt 1324, 3) := by decide +kernel
theorem dL_law_27 : decode cL_law 27 = .ok (.aload_n 0, 1) := by decide +kernel
theorem dL_law_28 : decode cL_law 28 = .ok (.iload_n 3, 1) := by decide +kernel
theorem dL_law_29 : decode cL_law 29 = .ok (.iaload, 1) := by decide +kernel
theorem dL_law_30 : decode cL_law 30 = .ok (.bipush 63, 2) := by decide +kernel
theorem dL_law_32 : decode cL_law 32 = .ok (.iand, 1) := by decide +kernel
theorem dL_law_33 : decode cL_law 33 = .ok (.tableswitch 1309 0 38 #[171, 214, 257, 320, 343, 366, 379, 392, 405, 428, 461, 494, 527, 550, 583, 616, 639, 672, 705, 728, 741, 764, 797, 830, 863, 876, 899, 912, 975, 1018, 1072, 1115, 1138, 1161, 1184, 1217, 1250, 1273, 1296], 171) := by decide +kernel
theorem dL_law_204 : decode cL_law 204 = .ok (.aload_n 1, 1) := by decide +kernel
theorem dL_law_205 : decode cL_law 205 = .ok (.aload_n 0, 1) := by decide +kernel
theorem dL_law_206 : decode cL_law 206 = .ok (.iload_n 3, 1) := by decide +kernel
theorem dL_law_207 : decode cL_law 207 = .ok (.iconst 1, 1) := by decide +kernel
theorem dL_law_208 : decode cL_law 208 = .ok (.iadd, 1) := by decide +kernel
theorem dL_law_209 : decode cL_law 209 = .ok (.iaload, 1) := by decide +kernel
theorem dL_law_210 : decode cL_law 210 = .ok (.aload_n 0, 1) := by decide +kernel
theorem dL_law_211 : decode cL_law 211 = .ok (.iload_n 3, 1) := by decide +kernel
theorem dL_law_212 : decode cL_law 212 = .ok (.iconst 2, 1) := by decide +kernel
theorem dL_law_213 : decode cL_law 213 = .ok (.iadd, 1) := by decide +kernel
theorem dL_law_214 : decode cL_law 214 = .ok (.iaload, 1) := by decide +kernel
theorem dL_law_215 : decode cL_law 215 = .ok (.aload_n 0, 1) := by decide +kernel
theorem dL_law_216 : decode cL_law 216 = .ok (.iload_n 3, 1) := by decide +kernel
theorem dL_law_217 : decode cL_law 217 = .ok (.iconst 3, 1) := by decide +kernel
theorem dL_law_218 : decode cL_law 218 = .ok (.iadd, 1) := by decide +kernel
theorem dL_law_219 : decode cL_law 219 = .ok (.iaload, 1) := by decide +kernel
theorem dL_law_220 : decode cL_law 220 = .ok (.invokevirtual 13, 3) := by decide +kernel
theorem dL_law_223 : decode cL_law 223 = .ok (.aload_n 2, 1) := by decide +kernel
theorem dL_law_224 : decode cL_law 224 = .ok (.aload_n 0, 1) := by decide +kernel
theorem dL_law_225 : decode cL_law 225 = .ok (.iload_n 3, 1) := by decide +kernel
theorem dL_law_226 : decode cL_law 226 = .ok (.iconst 1, 1) := by decide +kernel
theorem dL_law_227 : decode cL_law 227 = .ok (.iadd, 1) := by decide +kernel
theorem dL_law_228 : decode cL_law 228 = .ok (.iaload, 1) := by decide +kernel
theorem dL_law_229 : decode cL_law 229 = .ok (.aload_n 0, 1) := by decide +kernel
theorem dL_law_230 : decode cL_law 230 = .ok (.iload_n 3, 1) := by decide +kernel
theorem dL_law_231 : decode cL_law 231 = .ok (.iconst 2, 1) := by decide +kernel
theorem dL_law_232 : decode cL_law 232 = .ok (.iadd, 1) := by decide +kernel
theorem dL_law_233 : decode cL_law 233 = .ok (.iaload, 1) := by decide +kernel
theorem dL_law_234 : decode cL_law 234 = .ok (.aload_n 0, 1) := by decide +kernel
theorem dL_law_235 : decode cL_law 235 = .ok (.iload_n 3, 1) := by decide +kernel
theorem dL_law_236 : decode cL_law 236 = .ok (.iconst 3, 1) := by decide +kernel
theorem dL_law_237 : decode cL_law 237 = .ok (.iadd, 1) := by decide +kernel
theorem dL_law_238 : decode cL_law 238 = .ok (.iaload, 1) := by decide +kernel
theorem dL_law_239 : decode cL_law 239 = .ok (.invokevirtual 17, 3) := by decide +kernel
theorem dL_law_242 : decode cL_law 242 = .ok (.if_icmp .eq 1100, 3) := by decide +kernel
theorem dL_law_245 : decode cL_law 245 = .ok (.iconst 0, 1) := by decide +kernel
theorem dL_law_246 : decode cL_law 246 = .ok (.ireturn, 1) := by decide +kernel
theorem dL_law_247 : decode cL_law 247 = .ok (.aload_n 1, 1) := by decide +kernel
theorem dL_law_248 : decode cL_law 248 = .ok (.aload_n 0, 1) := by decide +kernel
theorem dL_law_249 : decode cL_law 249 = .ok (.iload_n 3, 1) := by decide +kernel
theorem dL_law_250 : decode cL_law 250 = .ok (.iconst 1, 1) := by decide +kernel
theorem dL_law_251 : decode cL_law 251 = .ok (.iadd, 1) := by decide +kernel
theorem dL_law_252 : decode cL_law 252 = .ok (.iaload, 1) := by decide +kernel
theorem dL_law_253 : decode cL_law 253 = .ok (.aload_n 0, 1) := by decide +kernel
theorem dL_law_254 : decode cL_law 254 = .ok (.iload_n 3, 1) := by decide +kernel
theorem dL_law_255 : decode cL_law 255 = .ok (.iconst 2, 1) := by decide +kernel
theorem dL_law_256 : decode cL_law 256 = .ok (.iadd, 1) := by decide +kernel
theorem dL_law_257 : decode cL_law 257 = .ok (.iaload, 1) := by decide +kernel
theorem dL_law_258 : decode cL_law 258 = .ok (.aload_n 0, 1) := by decide +kernel
theorem dL_law_259 : decode cL_law 259 = .ok (.iload_n 3, 1) := by decide +kernel
theorem dL_law_260 : decode cL_law 260 = .ok (.iconst 3, 1) := by decide +kernel
theorem dL_law_261 : decode cL_law 261 = .ok (.iadd, 1) := by decide +kernel
theorem dL_law_262 : decode cL_law 262 = .ok (.iaload, 1) := by decide +kernel
theorem dL_law_263 : decode cL_law 263 = .ok (.invokevirtual 18, 3) := by decide +kernel
theorem dL_law_266 : decode cL_law 266 = .ok (.aload_n 2, 1) := by decide +kernel
theorem dL_law_267 : decode cL_law 267 = .ok (.aload_n 0, 1) := by decide +kernel
theorem dL_law_268 : decode cL_law 268 = .ok (.iload_n 3, 1) := by decide +kernel
theorem dL_law_269 : decode cL_law 269 = .ok (.iconst 1, 1) := by decide +kernel
theorem dL_law_270 : decode cL_law 270 = .ok (.iadd, 1) := by decide +kernel
theorem dL_law_271 : decode cL_law 271 = .ok (.iaload, 1) := by decide +kernel
theorem dL_law_272 : decode cL_law 272 = .ok (.aload_n 0, 1) := by decide +kernel
theorem dL_law_273 : decode cL_law 273 = .ok (.iload_n 3, 1) := by decide +kernel
theorem dL_law_274 : decode cL_law 274 = .ok (.iconst 2, 1) := by decide +kernel
theorem dL_law_275 : decode cL_law 275 = .ok (.iadd, 1) := by decide +kernel
theorem dL_law_276 : decode cL_law 276 = .ok (.iaload, 1) := by decide +kernel
theorem dL_law_277 : decode cL_law 277 = .ok (.aload_n 0, 1) := by decide +kernel
theorem dL_law_278 : decode cL_law 278 = .ok (.iload_n 3, 1) := by decide +kernel
theorem dL_law_279 : decode cL_law 279 = .ok (.iconst 3, 1) := by decide +kernel
theorem dL_law_280 : decode cL_law 280 = .ok (.iadd, 1) := by decide +kernel
theorem dL_law_281 : decode cL_law 281 = .ok (.iaload, 1) := by decide +kernel
theorem dL_law_282 : decode cL_law 282 = .ok (.invokevirtual 21, 3) := by decide +kernel
theorem dL_law_285 : decode cL_law 285 = .ok (.if_icmp .eq 1057, 3) := by decide +kernel
theorem dL_law_288 : decode cL_law 288 = .ok (.iconst 0, 1) := by decide +kernel
theorem dL_law_289 : decode cL_law 289 = .ok (.ireturn, 1) := by decide +kernel
theorem dL_law_290 : decode cL_law 290 = .ok (.aload_n 1, 1) := by decide +kernel
theorem dL_law_291 : decode cL_law 291 = .ok (.aload_n 0, 1) := by decide +kernel
theorem dL_law_292 : decode cL_law 292 = .ok (.iload_n 3, 1) := by decide +kernel
theorem dL_law_293 : decode cL_law 293 = .ok (.iconst 1, 1) := by decide +kernel
theorem dL_law_294 : decode cL_law 294 = .ok (.iadd, 1) := by decide +kernel
theorem dL_law_295 : decode cL_law 295 = .ok (.iaload, 1) := by decide +kernel
theorem dL_law_296 : decode cL_law 296 = .ok (.aload_n 0, 1) := by decide +kernel
theorem dL_law_297 : decode cL_law 297 = .ok (.iload_n 3, 1) := by decide +kernel
theorem dL_law_298 : decode cL_law 298 = .ok (.iconst 2, 1) := by decide +kernel
theorem dL_law_299 : decode cL_law 299 = .ok (.iadd, 1) := by decide +kernel
theorem dL_law_300 : decode cL_law 300 = .ok (.iaload, 1) := by decide +kernel
theorem dL_law_301 : decode cL_law 301 = .ok (.aload_n 0, 1) := by decide +kernel
theorem dL_law_302 : decode cL_law 302 = .ok (.iload_n 3, 1) := by decide +kernel
theorem dL_law_303 : decode cL_law 303 = .ok (.iconst 3, 1) := by decide +kernel
theorem dL_law_304 : decode cL_law 304 = .ok (.iadd, 1) := by decide +kernel
theorem dL_law_305 : decode cL_law 305 = .ok (.iaload, 1) := by decide +kernel
theorem dL_law_306 : decode cL_law 306 = .ok (.aload_n 0, 1) := by decide +kernel
theorem dL_law_307 : decode cL_law 307 = .ok (.iload_n 3, 1) := by decide +kernel
theorem dL_law_308 : decode cL_law 308 = .ok (.iconst 4, 1) := by decide +kernel
theorem dL_law_309 : decode cL_law 309 = .ok (.iadd, 1) := by decide +kernel
theorem dL_law_310 : decode cL_law 310 = .ok (.iaload, 1) := by decide +kernel
theorem dL_law_311 : decode cL_law 311 = .ok (.aload_n 0, 1) := by decide +kernel
theorem dL_law_312 : decode cL_law 312 = .ok (.iload_n 3, 1) := by decide +kernel
theorem dL_law_313 : decode cL_law 313 = .ok (.iconst 5, 1) := by decide +kernel
theorem dL_law_314 : decode cL_law 314 = .ok (.iadd, 1) := by decide +kernel
theorem dL_law_315 : decode cL_law 315 = .ok (.iaload, 1) := by decide +kernel
theorem dL_law_316 : decode cL_law 316 = .ok (.invokevirtual 22, 3) := by decide +kernel
theorem dL_law_319 : decode cL_law 319 = .ok (.aload_n 2, 1) := by decide +kernel
theorem dL_law_320 : decode cL_law 320 = .ok (.aload_n 0, 1) := by decide +kernel
theorem dL_law_321 : decode cL_law 321 = .ok (.iload_n 3, 1) := by decide +kernel
theorem dL_law_322 : decode cL_law 322 = .ok (.iconst 1, 1) := by decide +kernel
theorem dL_law_323 : decode cL_law 323 = .ok (.iadd, 1) := by decide +kernel
theorem dL_law_324 : decode cL_law 324 = .ok (.iaload, 1) := by decide +kernel
theorem dL_law_325 : decode cL_law 325 = .ok (.aload_n 0, 1) := by decide +kernel
theorem dL_law_326 : decode cL_law 326 = .ok (.iload_n 3, 1) := by decide +kernel
theorem dL_law_327 : decode cL_law 327 = .ok (.iconst 2, 1) := by decide +kernel
theorem dL_law_328 : decode cL_law 328 = .ok (.iadd, 1) := by decide +kernel
theorem dL_law_329 : decode cL_law 329 = .ok (.iaload, 1) := by decide +kernel
theorem dL_law_330 : decode cL_law 330 = .ok (.aload_n 0, 1) := by decide +kernel
theorem dL_law_331 : decode cL_law 331 = .ok (.iload_n 3, 1) := by decide +kernel
theorem dL_law_332 : decode cL_law 332 = .ok (.iconst 3, 1) := by decide +kernel
theorem dL_law_333 : decode cL_law 333 = .ok (.iadd, 1) := by decide +kernel
theorem dL_law_334 : decode cL_law 334 = .ok (.iaload, 1) := by decide +kernel
theorem dL_law_335 : decode cL_law 335 = .ok (.aload_n 0, 1) := by decide +kernel
theorem dL_law_336 : decode cL_law 336 = .ok (.iload_n 3, 1) := by decide +kernel
theorem dL_law_337 : decode cL_law 337 = .ok (.iconst 4, 1) := by decide +kernel
theorem dL_law_338 : decode cL_law 338 = .ok (.iadd, 1) := by decide +kernel
theorem dL_law_339 : decode cL_law 339 = .ok (.iaload, 1) := by decide +kernel
end
section
/-! what stands at each place of the code -/
theorem dL_law_340 : decode cL_law 340 = .ok (.aload_n 0, 1) := by decide +kernel
theorem dL_law_341 : decode cL_law 341 = .ok (.iload_n 3, 1) := by decide +kernel
theorem dL_law_342 : decode cL_law 342 = .ok (.iconst 5, 1) := by decide +kernel
theorem dL_law_343 : decode cL_law 343 = .ok (.iadd, 1) := by decide +kernel
theorem dL_law_344 : decode cL_law 344 = .ok (.iaload, 1) := by decide +kernel
theorem dL_law_345 : decode cL_law 345 = .ok (.invokevirtual 26, 3) := by decide +kernel
theorem dL_law_348 : decode cL_law 348 = .ok (.if_icmp .eq 994, 3) := by decide +kernel
theorem dL_law_351 : decode cL_law 351 = .ok (.iconst 0, 1) := by decide +kernel
theorem dL_law_352 : decode cL_law 352 = .ok (.ireturn, 1) := by decide +kernel
theorem dL_law_353 : decode cL_law 353 = .ok (.aload_n 1, 1) := by decide +kernel
theorem dL_law_354 : decode cL_law 354 = .ok (.aload_n 0, 1) := by decide +kernel
theorem dL_law_355 : decode cL_law 355 = .ok (.iload_n 3, 1) := by decide +kernel
theorem dL_law_356 : decode cL_law 356 = .ok (.iconst 1, 1) := by decide +kernel
theorem dL_law_357 : decode cL_law 357 = .ok (.iadd, 1) := by decide +kernel
theorem dL_law_358 : decode cL_law 358 = .ok (.iaload, 1) := by decide +kernel
theorem dL_law_359 : decode cL_law 359 = .ok (.invokevirtual 27, 3) := by decide +kernel
theorem dL_law_362 : decode cL_law 362 = .ok (.aload_n 2, 1) := by decide +kernel
theorem dL_law_363 : decode cL_law 363 = .ok (.aload_n 0, 1) := by decide +kernel
theorem dL_law_364 : decode cL_law 364 = .ok (.iload_n 3, 1) := by decide +kernel
theorem dL_law_365 : decode cL_law 365 = .ok (.iconst 1, 1) := by decide +kernel
theorem dL_law_366 : decode cL_law 366 = .ok (.iadd, 1) := by decide +kernel
theorem dL_law_367 : decode cL_law 367 = .ok (.iaload, 1) := by decide +kernel
theorem dL_law_368 : decode cL_law 368 = .ok (.invokevirtual 31, 3) := by decide +kernel
theorem dL_law_371 : decode cL_law 371 = .ok (.if_icmp .eq 971, 3) := by decide +kernel
theorem dL_law_374 : decode cL_law 374 = .ok (.iconst 0, 1) := by decide +kernel
theorem dL_law_375 : decode cL_law 375 = .ok (.ireturn, 1) := by decide +kernel
theorem dL_law_376 : decode cL_law 376 = .ok (.aload_n 1, 1) := by decide +kernel
theorem dL_law_377 : decode cL_law 377 = .ok (.aload_n 0, 1) := by decide +kernel
theorem dL_law_378 : decode cL_law 378 = .ok (.iload_n 3, 1) := by decide +kernel
theorem dL_law_379 : decode cL_law 379 = .ok (.iconst 1, 1) := by decide +kernel
theorem dL_law_380 : decode cL_law 380 = .ok (.iadd, 1) := by decide +kernel
theorem dL_law_381 : decode cL_law 381 = .ok (.iaload, 1) := by decide +kernel
theorem dL_law_382 : decode cL_law 382 = .ok (.invokevirtual 32, 3) := by decide +kernel
theorem dL_law_385 : decode cL_law 385 = .ok (.aload_n 2, 1) := by decide +kernel
theorem dL_law_386 : decode cL_law 386 = .ok (.aload_n 0, 1) := by decide +kernel
theorem dL_law_387 : decode cL_law 387 = .ok (.iload_n 3, 1) := by decide +kernel
theorem dL_law_388 : decode cL_law 388 = .ok (.iconst 1, 1) := by decide +kernel
theorem dL_law_389 : decode cL_law 389 = .ok (.iadd, 1) := by decide +kernel
theorem dL_law_390 : decode cL_law 390 = .ok (.iaload, 1) := by decide +kernel
theorem dL_law_391 : decode cL_law 391 = .ok (.invokevirtual 35, 3) := by decide +kernel
theorem dL_law_394 : decode cL_law 394 = .ok (.if_icmp .eq 948, 3) := by decide +kernel
theorem dL_law_397 : decode cL_law 397 = .ok (.iconst 0, 1) := by decide +kernel
theorem dL_law_398 : decode cL_law 398 = .ok (.ireturn, 1) := by decide +kernel
theorem dL_law_399 : decode cL_law 399 = .ok (.aload_n 1, 1) := by decide +kernel
theorem dL_law_400 : decode cL_law 400 = .ok (.invokevirtual 36, 3) := by decide +kernel
theorem dL_law_403 : decode cL_law 403 = .ok (.aload_n 2, 1) := by decide +kernel
theorem dL_law_404 : decode cL_law 404 = .ok (.invokevirtual 40, 3) := by decide +kernel
theorem dL_law_407 : decode cL_law 407 = .ok (.if_icmp .eq 935, 3) := by decide +kernel
theorem dL_law_410 : decode cL_law 410 = .ok (.iconst 0, 1) := by decide +kernel
theorem dL_law_411 : decode cL_law 411 = .ok (.ireturn, 1) := by decide +kernel
theorem dL_law_412 : decode cL_law 412 = .ok (.aload_n 1, 1) := by decide +kernel
theorem dL_law_413 : decode cL_law 413 = .ok (.invokevirtual 41, 3) := by decide +kernel
theorem dL_law_416 : decode cL_law 416 = .ok (.aload_n 2, 1) := by decide +kernel
theorem dL_law_417 : decode cL_law 417 = .ok (.invokevirtual 44, 3) := by decide +kernel
theorem dL_law_420 : decode cL_law 420 = .ok (.if_icmp .eq 922, 3) := by decide +kernel
theorem dL_law_423 : decode cL_law 423 = .ok (.iconst 0, 1) := by decide +kernel
theorem dL_law_424 : decode cL_law 424 = .ok (.ireturn, 1) := by decide +kernel
theorem dL_law_425 : decode cL_law 425 = .ok (.aload_n 1, 1) := by decide +kernel
theorem dL_law_426 : decode cL_law 426 = .ok (.invokevirtual 45, 3) := by decide +kernel
theorem dL_law_429 : decode cL_law 429 = .ok (.aload_n 2, 1) := by decide +kernel
theorem dL_law_430 : decode cL_law 430 = .ok (.invokevirtual 48, 3) := by decide +kernel
theorem dL_law_433 : decode cL_law 433 = .ok (.if_icmp .eq 909, 3) := by decide +kernel
theorem dL_law_436 : decode cL_law 436 = .ok (.iconst 0, 1) := by decide +kernel
theorem dL_law_437 : decode cL_law 437 = .ok (.ireturn, 1) := by decide +kernel
theorem dL_law_438 : decode cL_law 438 = .ok (.aload_n 1, 1) := by decide +kernel
theorem dL_law_439 : decode cL_law 439 = .ok (.aload_n 0, 1) := by decide +kernel
theorem dL_law_440 : decode cL_law 440 = .ok (.iload_n 3, 1) := by decide +kernel
theorem dL_law_441 : decode cL_law 441 = .ok (.iconst 1, 1) := by decide +kernel
theorem dL_law_442 : decode cL_law 442 = .ok (.iadd, 1) := by decide +kernel
theorem dL_law_443 : decode cL_law 443 = .ok (.iaload, 1) := by decide +kernel
theorem dL_law_444 : decode cL_law 444 = .ok (.invokevirtual 49, 3) := by decide +kernel
theorem dL_law_447 : decode cL_law 447 = .ok (.aload_n 2, 1) := by decide +kernel
theorem dL_law_448 : decode cL_law 448 = .ok (.aload_n 0, 1) := by decide +kernel
theorem dL_law_449 : decode cL_law 449 = .ok (.iload_n 3, 1) := by decide +kernel
theorem dL_law_450 : decode cL_law 450 = .ok (.iconst 1, 1) := by decide +kernel
theorem dL_law_451 : decode cL_law 451 = .ok (.iadd, 1) := by decide +kernel
theorem dL_law_452 : decode cL_law 452 = .ok (.iaload, 1) := by decide +kernel
theorem dL_law_453 : decode cL_law 453 = .ok (.invokevirtual 52, 3) := by decide +kernel
theorem dL_law_456 : decode cL_law 456 = .ok (.if_icmp .eq 886, 3) := by decide +kernel
theorem dL_law_459 : decode cL_law 459 = .ok (.iconst 0, 1) := by decide +kernel
theorem dL_law_460 : decode cL_law 460 = .ok (.ireturn, 1) := by decide +kernel
theorem dL_law_461 : decode cL_law 461 = .ok (.aload_n 1, 1) := by decide +kernel
theorem dL_law_462 : decode cL_law 462 = .ok (.aload_n 0, 1) := by decide +kernel
theorem dL_law_463 : decode cL_law 463 = .ok (.iload_n 3, 1) := by decide +kernel
theorem dL_law_464 : decode cL_law 464 = .ok (.iconst 1, 1) := by decide +kernel
theorem dL_law_465 : decode cL_law 465 = .ok (.iadd, 1) := by decide +kernel
theorem dL_law_466 : decode cL_law 466 = .ok (.iaload, 1) := by decide +kernel
theorem dL_law_467 : decode cL_law 467 = .ok (.aload_n 0, 1) := by decide +kernel
theorem dL_law_468 : decode cL_law 468 = .ok (.iload_n 3, 1) := by decide +kernel
theorem dL_law_469 : decode cL_law 469 = .ok (.iconst 2, 1) := by decide +kernel
theorem dL_law_470 : decode cL_law 470 = .ok (.iadd, 1) := by decide +kernel
theorem dL_law_471 : decode cL_law 471 = .ok (.iaload, 1) := by decide +kernel
theorem dL_law_472 : decode cL_law 472 = .ok (.invokevirtual 53, 3) := by decide +kernel
theorem dL_law_475 : decode cL_law 475 = .ok (.aload_n 2, 1) := by decide +kernel
theorem dL_law_476 : decode cL_law 476 = .ok (.aload_n 0, 1) := by decide +kernel
theorem dL_law_477 : decode cL_law 477 = .ok (.iload_n 3, 1) := by decide +kernel
theorem dL_law_478 : decode cL_law 478 = .ok (.iconst 1, 1) := by decide +kernel
theorem dL_law_479 : decode cL_law 479 = .ok (.iadd, 1) := by decide +kernel
theorem dL_law_480 : decode cL_law 480 = .ok (.iaload, 1) := by decide +kernel
theorem dL_law_481 : decode cL_law 481 = .ok (.aload_n 0, 1) := by decide +kernel
theorem dL_law_482 : decode cL_law 482 = .ok (.iload_n 3, 1) := by decide +kernel
theorem dL_law_483 : decode cL_law 483 = .ok (.iconst 2, 1) := by decide +kernel
theorem dL_law_484 : decode cL_law 484 = .ok (.iadd, 1) := by decide +kernel
theorem dL_law_485 : decode cL_law 485 = .ok (.iaload, 1) := by decide +kernel
theorem dL_law_486 : decode cL_law 486 = .ok (.invokevirtual 57, 3) := by decide +kernel
theorem dL_law_489 : decode cL_law 489 = .ok (.if_icmp .eq 853, 3) := by decide +kernel
theorem dL_law_492 : decode cL_law 492 = .ok (.iconst 0, 1) := by decide +kernel
theorem dL_law_493 : decode cL_law 493 = .ok (.ireturn, 1) := by decide +kernel
theorem dL_law_494 : decode cL_law 494 = .ok (.aload_n 1, 1) := by decide +kernel
theorem dL_law_495 : decode cL_law 495 = .ok (.aload_n 0, 1) := by decide +kernel
theorem dL_law_496 : decode cL_law 496 = .ok (.iload_n 3, 1) := by decide +kernel
theorem dL_law_497 : decode cL_law 497 = .ok (.iconst 1, 1) := by decide +kernel
theorem dL_law_498 : decode cL_law 498 = .ok (.iadd, 1) := by decide +kernel
theorem dL_law_499 : decode cL_law 499 = .ok (.iaload, 1) := by decide +kernel
theorem dL_law_500 : decode cL_law 500 = .ok (.aload_n 0, 1) := by decide +kernel
theorem dL_law_501 : decode cL_law 501 = .ok (.iload_n 3, 1) := by decide +kernel
theorem dL_law_502 : decode cL_law 502 = .ok (.iconst 2, 1) := by decide +kernel
theorem dL_law_503 : decode cL_law 503 = .ok (.iadd, 1) := by decide +kernel
theorem dL_law_504 : decode cL_law 504 = .ok (.iaload, 1) := by decide +kernel
theorem dL_law_505 : decode cL_law 505 = .ok (.invokevirtual 58, 3) := by decide +kernel
theorem dL_law_508 : decode cL_law 508 = .ok (.aload_n 2, 1) := by decide +kernel
theorem dL_law_509 : decode cL_law 509 = .ok (.aload_n 0, 1) := by decide +kernel
theorem dL_law_510 : decode cL_law 510 = .ok (.iload_n 3, 1) := by decide +kernel
theorem dL_law_511 : decode cL_law 511 = .ok (.iconst 1, 1) := by decide +kernel
theorem dL_law_512 : decode cL_law 512 = .ok (.iadd, 1) := by decide +kernel
theorem dL_law_513 : decode cL_law 513 = .ok (.iaload, 1) := by decide +kernel
theorem dL_law_514 : decode cL_law 514 = .ok (.aload_n 0, 1) := by decide +kernel
theorem dL_law_515 : decode cL_law 515 = .ok (.iload_n 3, 1) := by decide +kernel
theorem dL_law_516 : decode cL_law 516 = .ok (.iconst 2, 1) := by decide +kernel
theorem dL_law_517 : decode cL_law 517 = .ok (.iadd, 1) := by decide +kernel
theorem dL_law_518 : decode cL_law 518 = .ok (.iaload, 1) := by decide +kernel
theorem dL_law_519 : decode cL_law 519 = .ok (.invokevirtual 61, 3) := by decide +kernel
theorem dL_law_522 : decode cL_law 522 = .ok (.if_icmp .eq 820, 3) := by decide +kernel
theorem dL_law_525 : decode cL_law 525 = .ok (.iconst 0, 1) := by decide +kernel
theorem dL_law_526 : decode cL_law 526 = .ok (.ireturn, 1) := by decide +kernel
theorem dL_law_527 : decode cL_law 527 = .ok (.aload_n 1, 1) := by decide +kernel
theorem dL_law_528 : decode cL_law 528 = .ok (.aload_n 0, 1) := by decide +kernel
theorem dL_law_529 : decode cL_law 529 = .ok (.iload_n 3, 1) := by decide +kernel
theorem dL_law_530 : decode cL_law 530 = .ok (.iconst 1, 1) := by decide +kernel
theorem dL_law_531 : decode cL_law 531 = .ok (.iadd, 1) := by decide +kernel
theorem dL_law_532 : decode cL_law 532 = .ok (.iaload, 1) := by decide +kernel
theorem dL_law_533 : decode cL_law 533 = .ok (.aload_n 0, 1) := by decide +kernel
theorem dL_law_534 : decode cL_law 534 = .ok (.iload_n 3, 1) := by decide +kernel
theorem dL_law_535 : decode cL_law 535 = .ok (.iconst 2, 1) := by decide +kernel
theorem dL_law_536 : decode cL_law 536 = .ok (.iadd, 1) := by decide +kernel
theorem dL_law_537 : decode cL_law 537 = .ok (.iaload, 1) := by decide +kernel
theorem dL_law_538 : decode cL_law 538 = .ok (.invokevirtual 62, 3) := by decide +kernel
theorem dL_law_541 : decode cL_law 541 = .ok (.aload_n 2, 1) := by decide +kernel
theorem dL_law_542 : decode cL_law 542 = .ok (.aload_n 0, 1) := by decide +kernel
theorem dL_law_543 : decode cL_law 543 = .ok (.iload_n 3, 1) := by decide +kernel
theorem dL_law_544 : decode cL_law 544 = .ok (.iconst 1, 1) := by decide +kernel
theorem dL_law_545 : decode cL_law 545 = .ok (.iadd, 1) := by decide +kernel
theorem dL_law_546 : decode cL_law 546 = .ok (.iaload, 1) := by decide +kernel
theorem dL_law_547 : decode cL_law 547 = .ok (.aload_n 0, 1) := by decide +kernel
theorem dL_law_548 : decode cL_law 548 = .ok (.iload_n 3, 1) := by decide +kernel
theorem dL_law_549 : decode cL_law 549 = .ok (.iconst 2, 1) := by decide +kernel
theorem dL_law_550 : decode cL_law 550 = .ok (.iadd, 1) := by decide +kernel
theorem dL_law_551 : decode cL_law 551 = .ok (.iaload, 1) := by decide +kernel
theorem dL_law_552 : decode cL_law 552 = .ok (.invokevirtual 65, 3) := by decide +kernel
theorem dL_law_555 : decode cL_law 555 = .ok (.if_icmp .eq 787, 3) := by decide +kernel
theorem dL_law_558 : decode cL_law 558 = .ok (.iconst 0, 1) := by decide +kernel
theorem dL_law_559 : decode cL_law 559 = .ok (.ireturn, 1) := by decide +kernel
theorem dL_law_560 : decode cL_law 560 = .ok (.aload_n 1, 1) := by decide +kernel
theorem dL_law_561 : decode cL_law 561 = .ok (.aload_n 0, 1) := by decide +kernel
theorem dL_law_562 : decode cL_law 562 = .ok (.iload_n 3, 1) := by decide +kernel
theorem dL_law_563 : decode cL_law 563 = .ok (.iconst 1, 1) := by decide +kernel
theorem dL_law_564 : decode cL_law 564 = .ok (.iadd, 1) := by decide +kernel
theorem dL_law_565 : decode cL_law 565 = .ok (.iaload, 1) := by decide +kernel
theorem dL_law_566 : decode cL_law 566 = .ok (.invokevirtual 66, 3) := by decide +kernel
theorem dL_law_569 : decode cL_law 569 = .ok (.aload_n 2, 1) := by decide +kernel
theorem dL_law_570 : decode cL_law 570 = .ok (.aload_n 0, 1) := by decide +kernel
theorem dL_law_571 : decode cL_law 571 = .ok (.iload_n 3, 1) := by decide +kernel
theorem dL_law_572 : decode cL_law 572 = .ok (.iconst 1, 1) := by decide +kernel
theorem dL_law_573 : decode cL_law 573 = .ok (.iadd, 1) := by decide +kernel
theorem dL_law_574 : decode cL_law 574 = .ok (.iaload, 1) := by decide +kernel
theorem dL_law_575 : decode cL_law 575 = .ok (.invokevirtual 69, 3) := by decide +kernel
theorem dL_law_578 : decode cL_law 578 = .ok (.if_icmp .eq 764, 3) := by decide +kernel
theorem dL_law_581 : decode cL_law 581 = .ok (.iconst 0, 1) := by decide +kernel
theorem dL_law_582 : decode cL_law 582 = .ok (.ireturn, 1) := by decide +kernel
theorem dL_law_583 : decode cL_law 583 = .ok (.aload_n 1, 1) := by decide +kernel
theorem dL_law_584 : decode cL_law 584 = .ok (.aload_n 0, 1) := by decide +kernel
theorem dL_law_585 : decode cL_law 585 = .ok (.iload_n 3, 1) := by decide +kernel
theorem dL_law_586 : decode cL_law 586 = .ok (.iconst 1, 1) := by decide +kernel
theorem dL_law_587 : decode cL_law 587 = .ok (.iadd, 1) := by decide +kernel
theorem dL_law_588 : decode cL_law 588 = .ok (.iaload, 1) := by decide +kernel
theorem dL_law_589 : decode cL_law 589 = .ok (.aload_n 0, 1) := by decide +kernel
theorem dL_law_590 : decode cL_law 590 = .ok (.iload_n 3, 1) := by decide +kernel
theorem dL_law_591 : decode cL_law 591 = .ok (.iconst 2, 1) := by decide +kernel
theorem dL_law_592 : decode cL_law 592 = .ok (.iadd, 1) := by decide +kernel
theorem dL_law_593 : decode cL_law 593 = .ok (.iaload, 1) := by decide +kernel
theorem dL_law_594 : decode cL_law 594 = .ok (.invokevirtual 70, 3) := by decide +kernel
theorem dL_law_597 : decode cL_law 597 = .ok (.aload_n 2, 1) := by decide +kernel
theorem dL_law_598 : decode cL_law 598 = .ok (.aload_n 0, 1) := by decide +kernel
theorem dL_law_599 : decode cL_law 599 = .ok (.iload_n 3, 1) := by decide +kernel
theorem dL_law_600 : decode cL_law 600 = .ok (.iconst 1, 1) := by decide +kernel
theorem dL_law_601 : decode cL_law 601 = .ok (.iadd, 1) := by decide +kernel
theorem dL_law_602 : decode cL_law 602 = .ok (.iaload, 1) := by decide +kernel
theorem dL_law_603 : decode cL_law 603 = .ok (.aload_n 0, 1) := by decide +kernel
theorem dL_law_604 : decode cL_law 604 = .ok (.iload_n 3, 1) := by decide +kernel
theorem dL_law_605 : decode cL_law 605 = .ok (.iconst 2, 1) := by decide +kernel
theorem dL_law_606 : decode cL_law 606 = .ok (.iadd, 1) := by decide +kernel
theorem dL_law_607 : decode cL_law 607 = .ok (.iaload, 1) := by decide +kernel
theorem dL_law_608 : decode cL_law 608 = .ok (.invokevirtual 73, 3) := by decide +kernel
theorem dL_law_611 : decode cL_law 611 = .ok (.if_icmp .eq 731, 3) := by decide +kernel
theorem dL_law_614 : decode cL_law 614 = .ok (.iconst 0, 1) := by decide +kernel
theorem dL_law_615 : decode cL_law 615 = .ok (.ireturn, 1) := by decide +kernel
theorem dL_law_616 : decode cL_law 616 = .ok (.aload_n 1, 1) := by decide +kernel
theorem dL_law_617 : decode cL_law 617 = .ok (.aload_n 0, 1) := by decide +kernel
theorem dL_law_618 : decode cL_law 618 = .ok (.iload_n 3, 1) := by decide +kernel
theorem dL_law_619 : decode cL_law 619 = .ok (.iconst 1, 1) := by decide +kernel
theorem dL_law_620 : decode cL_law 620 = .ok (.iadd, 1) := by decide +kernel
theorem dL_law_621 : decode cL_law 621 = .ok (.iaload, 1) := by decide +kernel
theorem dL_law_622 : decode cL_law 622 = .ok (.aload_n 0, 1) := by decide +kernel
theorem dL_law_623 : decode cL_law 623 = .ok (.iload_n 3, 1) := by decide +kernel
theorem dL_law_624 : decode cL_law 624 = .ok (.iconst 2, 1) := by decide +kernel
theorem dL_law_625 : decode cL_law 625 = .ok (.iadd, 1) := by decide +kernel
theorem dL_law_626 : decode cL_law 626 = .ok (.iaload, 1) := by decide +kernel
theorem dL_law_627 : decode cL_law 627 = .ok (.invokevirtual 74, 3) := by decide +kernel
theorem dL_law_630 : decode cL_law 630 = .ok (.aload_n 2, 1) := by decide +kernel
theorem dL_law_631 : decode cL_law 631 = .ok (.aload_n 0, 1) := by decide +kernel
theorem dL_law_632 : decode cL_law 632 = .ok (.iload_n 3, 1) := by decide +kernel
theorem dL_law_633 : decode cL_law 633 = .ok (.iconst 1, 1) := by decide +kernel
theorem dL_law_634 : decode cL_law 634 = .ok (.iadd, 1) := by decide +kernel
theorem dL_law_635 : decode cL_law 635 = .ok (.iaload, 1) := by decide +kernel
theorem dL_law_636 : decode cL_law 636 = .ok (.aload_n 0, 1) := by decide +kernel
theorem dL_law_637 : decode cL_law 637 = .ok (.iload_n 3, 1) := by decide +kernel
theorem dL_law_638 : decode cL_law 638 = .ok (.iconst 2, 1) := by decide +kernel
theorem dL_law_639 : decode cL_law 639 = .ok (.iadd, 1) := by decide +kernel
theorem dL_law_640 : decode cL_law 640 = .ok (.iaload, 1) := by decide +kernel
theorem dL_law_641 : decode cL_law 641 = .ok (.invokevirtual 77, 3) := by decide +kernel
theorem dL_law_644 : decode cL_law 644 = .ok (.if_icmp .eq 698, 3) := by decide +kernel
theorem dL_law_647 : decode cL_law 647 = .ok (.iconst 0, 1) := by decide +kernel
theorem dL_law_648 : decode cL_law 648 = .ok (.ireturn, 1) := by decide +kernel
theorem dL_law_649 : decode cL_law 649 = .ok (.aload_n 1, 1) := by decide +kernel
theorem dL_law_650 : decode cL_law 650 = .ok (.aload_n 0, 1) := by decide +kernel
theorem dL_law_651 : decode cL_law 651 = .ok (.iload_n 3, 1) := by decide +kernel
theorem dL_law_652 : decode cL_law 652 = .ok (.iconst 1, 1) := by decide +kernel
theorem dL_law_653 : decode cL_law 653 = .ok (.iadd, 1) := by decide +kernel
theorem dL_law_654 : decode cL_law 654 = .ok (.iaload, 1) := by decide +kernel
theorem dL_law_655 : decode cL_law 655 = .ok (.invokevirtual 78, 3) := by decide +kernel
theorem dL_law_658 : decode cL_law 658 = .ok (.aload_n 2, 1) := by decide +kernel
theorem dL_law_659 : decode cL_law 659 = .ok (.aload_n 0, 1) := by decide +kernel
theorem dL_law_660 : decode cL_law 660 = .ok (.iload_n 3, 1) := by decide +kernel
theorem dL_law_661 : decode cL_law 661 = .ok (.iconst 1, 1) := by decide +kernel
theorem dL_law_662 : decode cL_law 662 = .ok (.iadd, 1) := by decide +kernel
theorem dL_law_663 : decode cL_law 663 = .ok (.iaload, 1) := by decide +kernel
theorem dL_law_664 : decode cL_law 664 = .ok (.invokevirtual 81, 3) := by decide +kernel
theorem dL_law_667 : decode cL_law 667 = .ok (.if_icmp .eq 675, 3) := by decide +kernel
theorem dL_law_670 : decode cL_law 670 = .ok (.iconst 0, 1) := by decide +kernel
theorem dL_law_671 : decode cL_law 671 = .ok (.ireturn, 1) := by decide +kernel
theorem dL_law_672 : decode cL_law 672 = .ok (.aload_n 1, 1) := by decide +kernel
theorem dL_law_673 : decode cL_law 673 = .ok (.aload_n 0, 1) := by decide +kernel
theorem dL_law_674 : decode cL_law 674 = .ok (.iload_n 3, 1) := by decide +kernel
theorem dL_law_675 : decode cL_law 675 = .ok (.iconst 1, 1) := by decide +kernel
theorem dL_law_676 : decode cL_law 676 = .ok (.iadd, 1) := by decide +kernel
theorem dL_law_677 : decode cL_law 677 = .ok (.iaload, 1) := by decide +kernel
theorem dL_law_678 : decode cL_law 678 = .ok (.aload_n 0, 1) := by decide +kernel
theorem dL_law_679 : decode cL_law 679 = .ok (.iload_n 3, 1) := by decide +kernel
end
section
/-! what stands at each place of the code -/
theorem dL_law_680 : decode cL_law 680 = .ok (.iconst 2, 1) := by decide +kernel
theorem dL_law_681 : decode cL_law 681 = .ok (.iadd, 1) := by decide +kernel
theorem dL_law_682 : decode cL_law 682 = .ok (.iaload, 1) := by decide +kernel
theorem dL_law_683 : decode cL_law 683 = .ok (.invokevirtual 82, 3) := by decide +kernel
theorem dL_law_686 : decode cL_law 686 = .ok (.aload_n 2, 1) := by decide +kernel
theorem dL_law_687 : decode cL_law 687 = .ok (.aload_n 0, 1) := by decide +kernel
theorem dL_law_688 : decode cL_law 688 = .ok (.iload_n 3, 1) := by decide +kernel
theorem dL_law_689 : decode cL_law 689 = .ok (.iconst 1, 1) := by decide +kernel
theorem dL_law_690 : decode cL_law 690 = .ok (.iadd, 1) := by decide +kernel
theorem dL_law_691 : decode cL_law 691 = .ok (.iaload, 1) := by decide +kernel
theorem dL_law_692 : decode cL_law 692 = .ok (.aload_n 0, 1) := by decide +kernel
theorem dL_law_693 : decode cL_law 693 = .ok (.iload_n 3, 1) := by decide +kernel
theorem dL_law_694 : decode cL_law 694 = .ok (.iconst 2, 1) := by decide +kernel
theorem dL_law_695 : decode cL_law 695 = .ok (.iadd, 1) := by decide +kernel
theorem dL_law_696 : decode cL_law 696 = .ok (.iaload, 1) := by decide +kernel
theorem dL_law_697 : decode cL_law 697 = .ok (.invokevirtual 85, 3) := by decide +kernel
theorem dL_law_700 : decode cL_law 700 = .ok (.if_icmp .eq 642, 3) := by decide +kernel
theorem dL_law_703 : decode cL_law 703 = .ok (.iconst 0, 1) := by decide +kernel
theorem dL_law_704 : decode cL_law 704 = .ok (.ireturn, 1) := by decide +kernel
theorem dL_law_705 : decode cL_law 705 = .ok (.aload_n 1, 1) := by decide +kernel
theorem dL_law_706 : decode cL_law 706 = .ok (.aload_n 0, 1) := by decide +kernel
theorem dL_law_707 : decode cL_law 707 = .ok (.iload_n 3, 1) := by decide +kernel
theorem dL_law_708 : decode cL_law 708 = .ok (.iconst 1, 1) := by decide +kernel
theorem dL_law_709 : decode cL_law 709 = .ok (.iadd, 1) := by decide +kernel
theorem dL_law_710 : decode cL_law 710 = .ok (.iaload, 1) := by decide +kernel
theorem dL_law_711 : decode cL_law 711 = .ok (.aload_n 0, 1) := by decide +kernel
theorem dL_law_712 : decode cL_law 712 = .ok (.iload_n 3, 1) := by decide +kernel
theorem dL_law_713 : decode cL_law 713 = .ok (.iconst 2, 1) := by decide +kernel
theorem dL_law_714 : decode cL_law 714 = .ok (.iadd, 1) := by decide +kernel
theorem dL_law_715 : decode cL_law 715 = .ok (.iaload, 1) := by decide +kernel
theorem dL_law_716 : decode cL_law 716 = .ok (.invokevirtual 86, 3) := by decide +kernel
theorem dL_law_719 : decode cL_law 719 = .ok (.aload_n 2, 1) := by decide +kernel
theorem dL_law_720 : decode cL_law 720 = .ok (.aload_n 0, 1) := by decide +kernel
theorem dL_law_721 : decode cL_law 721 = .ok (.iload_n 3, 1) := by decide +kernel
theorem dL_law_722 : decode cL_law 722 = .ok (.iconst 1, 1) := by decide +kernel
theorem dL_law_723 : decode cL_law 723 = .ok (.iadd, 1) := by decide +kernel
theorem dL_law_724 : decode cL_law 724 = .ok (.iaload, 1) := by decide +kernel
theorem dL_law_725 : decode cL_law 725 = .ok (.aload_n 0, 1) := by decide +kernel
theorem dL_law_726 : decode cL_law 726 = .ok (.iload_n 3, 1) := by decide +kernel
theorem dL_law_727 : decode cL_law 727 = .ok (.iconst 2, 1) := by decide +kernel
theorem dL_law_728 : decode cL_law 728 = .ok (.iadd, 1) := by decide +kernel
theorem dL_law_729 : decode cL_law 729 = .ok (.iaload, 1) := by decide +kernel
theorem dL_law_730 : decode cL_law 730 = .ok (.invokevirtual 89, 3) := by decide +kernel
theorem dL_law_733 : decode cL_law 733 = .ok (.if_icmp .eq 609, 3) := by decide +kernel
theorem dL_law_736 : decode cL_law 736 = .ok (.iconst 0, 1) := by decide +kernel
theorem dL_law_737 : decode cL_law 737 = .ok (.ireturn, 1) := by decide +kernel
theorem dL_law_738 : decode cL_law 738 = .ok (.aload_n 1, 1) := by decide +kernel
theorem dL_law_739 : decode cL_law 739 = .ok (.aload_n 0, 1) := by decide +kernel
theorem dL_law_740 : decode cL_law 740 = .ok (.iload_n 3, 1) := by decide +kernel
theorem dL_law_741 : decode cL_law 741 = .ok (.iconst 1, 1) := by decide +kernel
theorem dL_law_742 : decode cL_law 742 = .ok (.iadd, 1) := by decide +kernel
theorem dL_law_743 : decode cL_law 743 = .ok (.iaload, 1) := by decide +kernel
theorem dL_law_744 : decode cL_law 744 = .ok (.invokevirtual 90, 3) := by decide +kernel
theorem dL_law_747 : decode cL_law 747 = .ok (.aload_n 2, 1) := by decide +kernel
theorem dL_law_748 : decode cL_law 748 = .ok (.aload_n 0, 1) := by decide +kernel
theorem dL_law_749 : decode cL_law 749 = .ok (.iload_n 3, 1) := by decide +kernel
theorem dL_law_750 : decode cL_law 750 = .ok (.iconst 1, 1) := by decide +kernel
theorem dL_law_751 : decode cL_law 751 = .ok (.iadd, 1) := by decide +kernel
theorem dL_law_752 : decode cL_law 752 = .ok (.iaload, 1) := by decide +kernel
theorem dL_law_753 : decode cL_law 753 = .ok (.invokevirtual 93, 3) := by decide +kernel
theorem dL_law_756 : decode cL_law 756 = .ok (.if_icmp .eq 586, 3) := by decide +kernel
theorem dL_law_759 : decode cL_law 759 = .ok (.iconst 0, 1) := by decide +kernel
theorem dL_law_760 : decode cL_law 760 = .ok (.ireturn, 1) := by decide +kernel
theorem dL_law_761 : decode cL_law 761 = .ok (.aload_n 1, 1) := by decide +kernel
theorem dL_law_762 : decode cL_law 762 = .ok (.invokevirtual 94, 3) := by decide +kernel
theorem dL_law_765 : decode cL_law 765 = .ok (.aload_n 2, 1) := by decide +kernel
theorem dL_law_766 : decode cL_law 766 = .ok (.invokevirtual 97, 3) := by decide +kernel
theorem dL_law_769 : decode cL_law 769 = .ok (.if_icmp .eq 573, 3) := by decide +kernel
theorem dL_law_772 : decode cL_law 772 = .ok (.iconst 0, 1) := by decide +kernel
theorem dL_law_773 : decode cL_law 773 = .ok (.ireturn, 1) := by decide +kernel
theorem dL_law_774 : decode cL_law 774 = .ok (.aload_n 1, 1) := by decide +kernel
theorem dL_law_775 : decode cL_law 775 = .ok (.aload_n 0, 1) := by decide +kernel
theorem dL_law_776 : decode cL_law 776 = .ok (.iload_n 3, 1) := by decide +kernel
theorem dL_law_777 : decode cL_law 777 = .ok (.iconst 1, 1) := by decide +kernel
theorem dL_law_778 : decode cL_law 778 = .ok (.iadd, 1) := by decide +kernel
theorem dL_law_779 : decode cL_law 779 = .ok (.iaload, 1) := by decide +kernel
theorem dL_law_780 : decode cL_law 780 = .ok (.invokevirtual 98, 3) := by decide +kernel
theorem dL_law_783 : decode cL_law 783 = .ok (.aload_n 2, 1) := by decide +kernel
theorem dL_law_784 : decode cL_law 784 = .ok (.aload_n 0, 1) := by decide +kernel
theorem dL_law_785 : decode cL_law 785 = .ok (.iload_n 3, 1) := by decide +kernel
theorem dL_law_786 : decode cL_law 786 = .ok (.iconst 1, 1) := by decide +kernel
theorem dL_law_787 : decode cL_law 787 = .ok (.iadd, 1) := by decide +kernel
theorem dL_law_788 : decode cL_law 788 = .ok (.iaload, 1) := by decide +kernel
theorem dL_law_789 : decode cL_law 789 = .ok (.invokevirtual 101, 3) := by decide +kernel
theorem dL_law_792 : decode cL_law 792 = .ok (.if_icmp .eq 550, 3) := by decide +kernel
theorem dL_law_795 : decode cL_law 795 = .ok (.iconst 0, 1) := by decide +kernel
theorem dL_law_796 : decode cL_law 796 = .ok (.ireturn, 1) := by decide +kernel
theorem dL_law_797 : decode cL_law 797 = .ok (.aload_n 1, 1) := by decide +kernel
theorem dL_law_798 : decode cL_law 798 = .ok (.aload_n 0, 1) := by decide +kernel
theorem dL_law_799 : decode cL_law 799 = .ok (.iload_n 3, 1) := by decide +kernel
theorem dL_law_800 : decode cL_law 800 = .ok (.iconst 1, 1) := by decide +kernel
theorem dL_law_801 : decode cL_law 801 = .ok (.iadd, 1) := by decide +kernel
theorem dL_law_802 : decode cL_law 802 = .ok (.iaload, 1) := by decide +kernel
theorem dL_law_803 : decode cL_law 803 = .ok (.aload_n 0, 1) := by decide +kernel
theorem dL_law_804 : decode cL_law 804 = .ok (.iload_n 3, 1) := by decide +kernel
theorem dL_law_805 : decode cL_law 805 = .ok (.iconst 2, 1) := by decide +kernel
theorem dL_law_806 : decode cL_law 806 = .ok (.iadd, 1) := by decide +kernel
theorem dL_law_807 : decode cL_law 807 = .ok (.iaload, 1) := by decide +kernel
theorem dL_law_808 : decode cL_law 808 = .ok (.invokevirtual 102, 3) := by decide +kernel
theorem dL_law_811 : decode cL_law 811 = .ok (.aload_n 2, 1) := by decide +kernel
theorem dL_law_812 : decode cL_law 812 = .ok (.aload_n 0, 1) := by decide +kernel
theorem dL_law_813 : decode cL_law 813 = .ok (.iload_n 3, 1) := by decide +kernel
theorem dL_law_814 : decode cL_law 814 = .ok (.iconst 1, 1) := by decide +kernel
theorem dL_law_815 : decode cL_law 815 = .ok (.iadd, 1) := by decide +kernel
theorem dL_law_816 : decode cL_law 816 = .ok (.iaload, 1) := by decide +kernel
theorem dL_law_817 : decode cL_law 817 = .ok (.aload_n 0, 1) := by decide +kernel
theorem dL_law_818 : decode cL_law 818 = .ok (.iload_n 3, 1) := by decide +kernel
theorem dL_law_819 : decode cL_law 819 = .ok (.iconst 2, 1) := by decide +kernel
theorem dL_law_820 : decode cL_law 820 = .ok (.iadd, 1) := by decide +kernel
theorem dL_law_821 : decode cL_law 821 = .ok (.iaload, 1) := by decide +kernel
theorem dL_law_822 : decode cL_law 822 = .ok (.invokevirtual 105, 3) := by decide +kernel
theorem dL_law_825 : decode cL_law 825 = .ok (.if_icmp .eq 517, 3) := by decide +kernel
theorem dL_law_828 : decode cL_law 828 = .ok (.iconst 0, 1) := by decide +kernel
theorem dL_law_829 : decode cL_law 829 = .ok (.ireturn, 1) := by decide +kernel
theorem dL_law_830 : decode cL_law 830 = .ok (.aload_n 1, 1) := by decide +kernel
theorem dL_law_831 : decode cL_law 831 = .ok (.aload_n 0, 1) := by decide +kernel
theorem dL_law_832 : decode cL_law 832 = .ok (.iload_n 3, 1) := by decide +kernel
theorem dL_law_833 : decode cL_law 833 = .ok (.iconst 1, 1) := by decide +kernel
theorem dL_law_834 : decode cL_law 834 = .ok (.iadd, 1) := by decide +kernel
theorem dL_law_835 : decode cL_law 835 = .ok (.iaload, 1) := by decide +kernel
theorem dL_law_836 : decode cL_law 836 = .ok (.aload_n 0, 1) := by decide +kernel
theorem dL_law_837 : decode cL_law 837 = .ok (.iload_n 3, 1) := by decide +kernel
theorem dL_law_838 : decode cL_law 838 = .ok (.iconst 2, 1) := by decide +kernel
theorem dL_law_839 : decode cL_law 839 = .ok (.iadd, 1) := by decide +kernel
theorem dL_law_840 : decode cL_law 840 = .ok (.iaload, 1) := by decide +kernel
theorem dL_law_841 : decode cL_law 841 = .ok (.invokevirtual 106, 3) := by decide +kernel
theorem dL_law_844 : decode cL_law 844 = .ok (.aload_n 2, 1) := by decide +kernel
theorem dL_law_845 : decode cL_law 845 = .ok (.aload_n 0, 1) := by decide +kernel
theorem dL_law_846 : decode cL_law 846 = .ok (.iload_n 3, 1) := by decide +kernel
theorem dL_law_847 : decode cL_law 847 = .ok (.iconst 1, 1) := by decide +kernel
theorem dL_law_848 : decode cL_law 848 = .ok (.iadd, 1) := by decide +kernel
theorem dL_law_849 : decode cL_law 849 = .ok (.iaload, 1) := by decide +kernel
theorem dL_law_850 : decode cL_law 850 = .ok (.aload_n 0, 1) := by decide +kernel
theorem dL_law_851 : decode cL_law 851 = .ok (.iload_n 3, 1) := by decide +kernel
theorem dL_law_852 : decode cL_law 852 = .ok (.iconst 2, 1) := by decide +kernel
theorem dL_law_853 : decode cL_law 853 = .ok (.iadd, 1) := by decide +kernel
theorem dL_law_854 : decode cL_law 854 = .ok (.iaload, 1) := by decide +kernel
theorem dL_law_855 : decode cL_law 855 = .ok (.invokevirtual 109, 3) := by decide +kernel
theorem dL_law_858 : decode cL_law 858 = .ok (.if_icmp .eq 484, 3) := by decide +kernel
theorem dL_law_861 : decode cL_law 861 = .ok (.iconst 0, 1) := by decide +kernel
theorem dL_law_862 : decode cL_law 862 = .ok (.ireturn, 1) := by decide +kernel
theorem dL_law_863 : decode cL_law 863 = .ok (.aload_n 1, 1) := by decide +kernel
theorem dL_law_864 : decode cL_law 864 = .ok (.aload_n 0, 1) := by decide +kernel
theorem dL_law_865 : decode cL_law 865 = .ok (.iload_n 3, 1) := by decide +kernel
theorem dL_law_866 : decode cL_law 866 = .ok (.iconst 1, 1) := by decide +kernel
theorem dL_law_867 : decode cL_law 867 = .ok (.iadd, 1) := by decide +kernel
theorem dL_law_868 : decode cL_law 868 = .ok (.iaload, 1) := by decide +kernel
theorem dL_law_869 : decode cL_law 869 = .ok (.aload_n 0, 1) := by decide +kernel
theorem dL_law_870 : decode cL_law 870 = .ok (.iload_n 3, 1) := by decide +kernel
theorem dL_law_871 : decode cL_law 871 = .ok (.iconst 2, 1) := by decide +kernel
theorem dL_law_872 : decode cL_law 872 = .ok (.iadd, 1) := by decide +kernel
theorem dL_law_873 : decode cL_law 873 = .ok (.iaload, 1) := by decide +kernel
theorem dL_law_874 : decode cL_law 874 = .ok (.invokevirtual 110, 3) := by decide +kernel
theorem dL_law_877 : decode cL_law 877 = .ok (.aload_n 2, 1) := by decide +kernel
theorem dL_law_878 : decode cL_law 878 = .ok (.aload_n 0, 1) := by decide +kernel
theorem dL_law_879 : decode cL_law 879 = .ok (.iload_n 3, 1) := by decide +kernel
theorem dL_law_880 : decode cL_law 880 = .ok (.iconst 1, 1) := by decide +kernel
theorem dL_law_881 : decode cL_law 881 = .ok (.iadd, 1) := by decide +kernel
theorem dL_law_882 : decode cL_law 882 = .ok (.iaload, 1) := by decide +kernel
theorem dL_law_883 : decode cL_law 883 = .ok (.aload_n 0, 1) := by decide +kernel
theorem dL_law_884 : decode cL_law 884 = .ok (.iload_n 3, 1) := by decide +kernel
theorem dL_law_885 : decode cL_law 885 = .ok (.iconst 2, 1) := by decide +kernel
theorem dL_law_886 : decode cL_law 886 = .ok (.iadd, 1) := by decide +kernel
theorem dL_law_887 : decode cL_law 887 = .ok (.iaload, 1) := by decide +kernel
theorem dL_law_888 : decode cL_law 888 = .ok (.invokevirtual 113, 3) := by decide +kernel
theorem dL_law_891 : decode cL_law 891 = .ok (.if_icmp .eq 451, 3) := by decide +kernel
theorem dL_law_894 : decode cL_law 894 = .ok (.iconst 0, 1) := by decide +kernel
theorem dL_law_895 : decode cL_law 895 = .ok (.ireturn, 1) := by decide +kernel
theorem dL_law_896 : decode cL_law 896 = .ok (.aload_n 1, 1) := by decide +kernel
theorem dL_law_897 : decode cL_law 897 = .ok (.invokevirtual 114, 3) := by decide +kernel
theorem dL_law_900 : decode cL_law 900 = .ok (.aload_n 2, 1) := by decide +kernel
theorem dL_law_901 : decode cL_law 901 = .ok (.invokevirtual 117, 3) := by decide +kernel
theorem dL_law_904 : decode cL_law 904 = .ok (.if_icmp .eq 438, 3) := by decide +kernel
theorem dL_law_907 : decode cL_law 907 = .ok (.iconst 0, 1) := by decide +kernel
theorem dL_law_908 : decode cL_law 908 = .ok (.ireturn, 1) := by decide +kernel
theorem dL_law_909 : decode cL_law 909 = .ok (.aload_n 1, 1) := by decide +kernel
theorem dL_law_910 : decode cL_law 910 = .ok (.aload_n 0, 1) := by decide +kernel
theorem dL_law_911 : decode cL_law 911 = .ok (.iload_n 3, 1) := by decide +kernel
theorem dL_law_912 : decode cL_law 912 = .ok (.iconst 1, 1) := by decide +kernel
theorem dL_law_913 : decode cL_law 913 = .ok (.iadd, 1) := by decide +kernel
theorem dL_law_914 : decode cL_law 914 = .ok (.iaload, 1) := by decide +kernel
theorem dL_law_915 : decode cL_law 915 = .ok (.invokevirtual 118, 3) := by decide +kernel
theorem dL_law_918 : decode cL_law 918 = .ok (.aload_n 2, 1) := by decide +kernel
theorem dL_law_919 : decode cL_law 919 = .ok (.aload_n 0, 1) := by decide +kernel
theorem dL_law_920 : decode cL_law 920 = .ok (.iload_n 3, 1) := by decide +kernel
theorem dL_law_921 : decode cL_law 921 = .ok (.iconst 1, 1) := by decide +kernel
theorem dL_law_922 : decode cL_law 922 = .ok (.iadd, 1) := by decide +kernel
theorem dL_law_923 : decode cL_law 923 = .ok (.iaload, 1) := by decide +kernel
theorem dL_law_924 : decode cL_law 924 = .ok (.invokevirtual 121, 3) := by decide +kernel
theorem dL_law_927 : decode cL_law 927 = .ok (.if_icmp .eq 415, 3) := by decide +kernel
theorem dL_law_930 : decode cL_law 930 = .ok (.iconst 0, 1) := by decide +kernel
theorem dL_law_931 : decode cL_law 931 = .ok (.ireturn, 1) := by decide +kernel
theorem dL_law_932 : decode cL_law 932 = .ok (.aload_n 1, 1) := by decide +kernel
theorem dL_law_933 : decode cL_law 933 = .ok (.invokevirtual 122, 3) := by decide +kernel
theorem dL_law_936 : decode cL_law 936 = .ok (.aload_n 2, 1) := by decide +kernel
theorem dL_law_937 : decode cL_law 937 = .ok (.invokevirtual 125, 3) := by decide +kernel
theorem dL_law_940 : decode cL_law 940 = .ok (.if_icmp .eq 402, 3) := by decide +kernel
theorem dL_law_943 : decode cL_law 943 = .ok (.iconst 0, 1) := by decide +kernel
theorem dL_law_944 : decode cL_law 944 = .ok (.ireturn, 1) := by decide +kernel
theorem dL_law_945 : decode cL_law 945 = .ok (.aload_n 1, 1) := by decide +kernel
theorem dL_law_946 : decode cL_law 946 = .ok (.aload_n 0, 1) := by decide +kernel
theorem dL_law_947 : decode cL_law 947 = .ok (.iload_n 3, 1) := by decide +kernel
theorem dL_law_948 : decode cL_law 948 = .ok (.iconst 1, 1) := by decide +kernel
theorem dL_law_949 : decode cL_law 949 = .ok (.iadd, 1) := by decide +kernel
theorem dL_law_950 : decode cL_law 950 = .ok (.iaload, 1) := by decide +kernel
theorem dL_law_951 : decode cL_law 951 = .ok (.aload_n 0, 1) := by decide +kernel
theorem dL_law_952 : decode cL_law 952 = .ok (.iload_n 3, 1) := by decide +kernel
theorem dL_law_953 : decode cL_law 953 = .ok (.iconst 2, 1) := by decide +kernel
theorem dL_law_954 : decode cL_law 954 = .ok (.iadd, 1) := by decide +kernel
theorem dL_law_955 : decode cL_law 955 = .ok (.iaload, 1) := by decide +kernel
theorem dL_law_956 : decode cL_law 956 = .ok (.aload_n 0, 1) := by decide +kernel
theorem dL_law_957 : decode cL_law 957 = .ok (.iload_n 3, 1) := by decide +kernel
theorem dL_law_958 : decode cL_law 958 = .ok (.iconst 3, 1) := by decide +kernel
theorem dL_law_959 : decode cL_law 959 = .ok (.iadd, 1) := by decide +kernel
theorem dL_law_960 : decode cL_law 960 = .ok (.iaload, 1) := by decide +kernel
theorem dL_law_961 : decode cL_law 961 = .ok (.aload_n 0, 1) := by decide +kernel
theorem dL_law_962 : decode cL_law 962 = .ok (.iload_n 3, 1) := by decide +kernel
theorem dL_law_963 : decode cL_law 963 = .ok (.iconst 4, 1) := by decide +kernel
theorem dL_law_964 : decode cL_law 964 = .ok (.iadd, 1) := by decide +kernel
theorem dL_law_965 : decode cL_law 965 = .ok (.iaload, 1) := by decide +kernel
theorem dL_law_966 : decode cL_law 966 = .ok (.aload_n 0, 1) := by decide +kernel
theorem dL_law_967 : decode cL_law 967 = .ok (.iload_n 3, 1) := by decide +kernel
theorem dL_law_968 : decode cL_law 968 = .ok (.iconst 5, 1) := by decide +kernel
theorem dL_law_969 : decode cL_law 969 = .ok (.iadd, 1) := by decide +kernel
theorem dL_law_970 : decode cL_law 970 = .ok (.iaload, 1) := by decide +kernel
theorem dL_law_971 : decode cL_law 971 = .ok (.invokevirtual 126, 3) := by decide +kernel
theorem dL_law_974 : decode cL_law 974 = .ok (.aload_n 2, 1) := by decide +kernel
theorem dL_law_975 : decode cL_law 975 = .ok (.aload_n 0, 1) := by decide +kernel
theorem dL_law_976 : decode cL_law 976 = .ok (.iload_n 3, 1) := by decide +kernel
theorem dL_law_977 : decode cL_law 977 = .ok (.iconst 1, 1) := by decide +kernel
theorem dL_law_978 : decode cL_law 978 = .ok (.iadd, 1) := by decide +kernel
theorem dL_law_979 : decode cL_law 979 = .ok (.iaload, 1) := by decide +kernel
theorem dL_law_980 : decode cL_law 980 = .ok (.aload_n 0, 1) := by decide +kernel
theorem dL_law_981 : decode cL_law 981 = .ok (.iload_n 3, 1) := by decide +kernel
theorem dL_law_982 : decode cL_law 982 = .ok (.iconst 2, 1) := by decide +kernel
theorem dL_law_983 : decode cL_law 983 = .ok (.iadd, 1) := by decide +kernel
theorem dL_law_984 : decode cL_law 984 = .ok (.iaload, 1) := by decide +kernel
theorem dL_law_985 : decode cL_law 985 = .ok (.aload_n 0, 1) := by decide +kernel
theorem dL_law_986 : decode cL_law 986 = .ok (.iload_n 3, 1) := by decide +kernel
theorem dL_law_987 : decode cL_law 987 = .ok (.iconst 3, 1) := by decide +kernel
theorem dL_law_988 : decode cL_law 988 = .ok (.iadd, 1) := by decide +kernel
theorem dL_law_989 : decode cL_law 989 = .ok (.iaload, 1) := by decide +kernel
theorem dL_law_990 : decode cL_law 990 = .ok (.aload_n 0, 1) := by decide +kernel
theorem dL_law_991 : decode cL_law 991 = .ok (.iload_n 3, 1) := by decide +kernel
theorem dL_law_992 : decode cL_law 992 = .ok (.iconst 4, 1) := by decide +kernel
theorem dL_law_993 : decode cL_law 993 = .ok (.iadd, 1) := by decide +kernel
theorem dL_law_994 : decode cL_law 994 = .ok (.iaload, 1) := by decide +kernel
theorem dL_law_995 : decode cL_law 995 = .ok (.aload_n 0, 1) := by decide +kernel
theorem dL_law_996 : decode cL_law 996 = .ok (.iload_n 3, 1) := by decide +kernel
theorem dL_law_997 : decode cL_law 997 = .ok (.iconst 5, 1) := by decide +kernel
theorem dL_law_998 : decode cL_law 998 = .ok (.iadd, 1) := by decide +kernel
theorem dL_law_999 : decode cL_law 999 = .ok (.iaload, 1) := by decide +kernel
theorem dL_law_1000 : decode cL_law 1000 = .ok (.invokevirtual 129, 3) := by decide +kernel
theorem dL_law_1003 : decode cL_law 1003 = .ok (.if_icmp .eq 339, 3) := by decide +kernel
theorem dL_law_1006 : decode cL_law 1006 = .ok (.iconst 0, 1) := by decide +kernel
theorem dL_law_1007 : decode cL_law 1007 = .ok (.ireturn, 1) := by decide +kernel
theorem dL_law_1008 : decode cL_law 1008 = .ok (.aload_n 1, 1) := by decide +kernel
theorem dL_law_1009 : decode cL_law 1009 = .ok (.aload_n 0, 1) := by decide +kernel
theorem dL_law_1010 : decode cL_law 1010 = .ok (.iload_n 3, 1) := by decide +kernel
theorem dL_law_1011 : decode cL_law 1011 = .ok (.iconst 1, 1) := by decide +kernel
theorem dL_law_1012 : decode cL_law 1012 = .ok (.iadd, 1) := by decide +kernel
theorem dL_law_1013 : decode cL_law 1013 = .ok (.iaload, 1) := by decide +kernel
theorem dL_law_1014 : decode cL_law 1014 = .ok (.aload_n 0, 1) := by decide +kernel
theorem dL_law_1015 : decode cL_law 1015 = .ok (.iload_n 3, 1) := by decide +kernel
theorem dL_law_1016 : decode cL_law 1016 = .ok (.iconst 2, 1) := by decide +kernel
theorem dL_law_1017 : decode cL_law 1017 = .ok (.iadd, 1) := by decide +kernel
theorem dL_law_1018 : decode cL_law 1018 = .ok (.iaload, 1) := by decide +kernel
theorem dL_law_1019 : decode cL_law 1019 = .ok (.aload_n 0, 1) := by decide +kernel
end
section
/-! what stands at each place of the code -/
theorem dL_law_1020 : decode cL_law 1020 = .ok (.iload_n 3, 1) := by decide +kernel
theorem dL_law_1021 : decode cL_law 1021 = .ok (.iconst 3, 1) := by decide +kernel
theorem dL_law_1022 : decode cL_law 1022 = .ok (.iadd, 1) := by decide +kernel
theorem dL_law_1023 : decode cL_law 1023 = .ok (.iaload, 1) := by decide +kernel
theorem dL_law_1024 : decode cL_law 1024 = .ok (.invokevirtual 130, 3) := by decide +kernel
theorem dL_law_1027 : decode cL_law 1027 = .ok (.aload_n 2, 1) := by decide +kernel
theorem dL_law_1028 : decode cL_law 1028 = .ok (.aload_n 0, 1) := by decide +kernel
theorem dL_law_1029 : decode cL_law 1029 = .ok (.iload_n 3, 1) := by decide +kernel
theorem dL_law_1030 : decode cL_law 1030 = .ok (.iconst 1, 1) := by decide +kernel
theorem dL_law_1031 : decode cL_law 1031 = .ok (.iadd, 1) := by decide +kernel
theorem dL_law_1032 : decode cL_law 1032 = .ok (.iaload, 1) := by decide +kernel
theorem dL_law_1033 : decode cL_law 1033 = .ok (.aload_n 0, 1) := by decide +kernel
theorem dL_law_1034 : decode cL_law 1034 = .ok (.iload_n 3, 1) := by decide +kernel
theorem dL_law_1035 : decode cL_law 1035 = .ok (.iconst 2, 1) := by decide +kernel
theorem dL_law_1036 : decode cL_law 1036 = .ok (.iadd, 1) := by decide +kernel
theorem dL_law_1037 : decode cL_law 1037 = .ok (.iaload, 1) := by decide +kernel
theorem dL_law_1038 : decode cL_law 1038 = .ok (.aload_n 0, 1) := by decide +kernel
theorem dL_law_1039 : decode cL_law 1039 = .ok (.iload_n 3, 1) := by decide +kernel
theorem dL_law_1040 : decode cL_law 1040 = .ok (.iconst 3, 1) := by decide +kernel
theorem dL_law_1041 : decode cL_law 1041 = .ok (.iadd, 1) := by decide +kernel
theorem dL_law_1042 : decode cL_law 1042 = .ok (.iaload, 1) := by decide +kernel
theorem dL_law_1043 : decode cL_law 1043 = .ok (.invokevirtual 133, 3) := by decide +kernel
theorem dL_law_1046 : decode cL_law 1046 = .ok (.if_icmp .eq 296, 3) := by decide +kernel
theorem dL_law_1049 : decode cL_law 1049 = .ok (.iconst 0, 1) := by decide +kernel
theorem dL_law_1050 : decode cL_law 1050 = .ok (.ireturn, 1) := by decide +kernel
theorem dL_law_1051 : decode cL_law 1051 = .ok (.aload_n 1, 1) := by decide +kernel
theorem dL_law_1052 : decode cL_law 1052 = .ok (.aload_n 0, 1) := by decide +kernel
theorem dL_law_1053 : decode cL_law 1053 = .ok (.iload_n 3, 1) := by decide +kernel
theorem dL_law_1054 : decode cL_law 1054 = .ok (.iconst 1, 1) := by decide +kernel
theorem dL_law_1055 : decode cL_law 1055 = .ok (.iadd, 1) := by decide +kernel
theorem dL_law_1056 : decode cL_law 1056 = .ok (.iaload, 1) := by decide +kernel
theorem dL_law_1057 : decode cL_law 1057 = .ok (.aload_n 0, 1) := by decide +kernel
theorem dL_law_1058 : decode cL_law 1058 = .ok (.iload_n 3, 1) := by decide +kernel
theorem dL_law_1059 : decode cL_law 1059 = .ok (.iconst 2, 1) := by decide +kernel
theorem dL_law_1060 : decode cL_law 1060 = .ok (.iadd, 1) := by decide +kernel
theorem dL_law_1061 : decode cL_law 1061 = .ok (.iaload, 1) := by decide +kernel
theorem dL_law_1062 : decode cL_law 1062 = .ok (.aload_n 0, 1) := by decide +kernel
theorem dL_law_1063 : decode cL_law 1063 = .ok (.iload_n 3, 1) := by decide +kernel
theorem dL_law_1064 : decode cL_law 1064 = .ok (.iconst 3, 1) := by decide +kernel
theorem dL_law_1065 : decode cL_law 1065 = .ok (.iadd, 1) := by decide +kernel
theorem dL_law_1066 : decode cL_law 1066 = .ok (.iaload, 1) := by decide +kernel
theorem dL_law_1067 : decode cL_law 1067 = .ok (.aload_n 0, 1) := by decide +kernel
theorem dL_law_1068 : decode cL_law 1068 = .ok (.iload_n 3, 1) := by decide +kernel
theorem dL_law_1069 : decode cL_law 1069 = .ok (.iconst 4, 1) := by decide +kernel
theorem dL_law_1070 : decode cL_law 1070 = .ok (.iadd, 1) := by decide +kernel
theorem dL_law_1071 : decode cL_law 1071 = .ok (.iaload, 1) := by decide +kernel
theorem dL_law_1072 : decode cL_law 1072 = .ok (.invokevirtual 134, 3) := by decide +kernel
theorem dL_law_1075 : decode cL_law 1075 = .ok (.aload_n 2, 1) := by decide +kernel
theorem dL_law_1076 : decode cL_law 1076 = .ok (.aload_n 0, 1) := by decide +kernel
theorem dL_law_1077 : decode cL_law 1077 = .ok (.iload_n 3, 1) := by decide +kernel
theorem dL_law_1078 : decode cL_law 1078 = .ok (.iconst 1, 1) := by decide +kernel
theorem dL_law_1079 : decode cL_law 1079 = .ok (.iadd, 1) := by decide +kernel
theorem dL_law_1080 : decode cL_law 1080 = .ok (.iaload, 1) := by decide +kernel
theorem dL_law_1081 : decode cL_law 1081 = .ok (.aload_n 0, 1) := by decide +kernel
theorem dL_law_1082 : decode cL_law 1082 = .ok (.iload_n 3, 1) := by decide +kernel
theorem dL_law_1083 : decode cL_law 1083 = .ok (.iconst 2, 1) := by decide +kernel
theorem dL_law_1084 : decode cL_law 1084 = .ok (.iadd, 1) := by decide +kernel
theorem dL_law_1085 : decode cL_law 1085 = .ok (.iaload, 1) := by decide +kernel
theorem dL_law_1086 : decode cL_law 1086 = .ok (.aload_n 0, 1) := by decide +kernel
theorem dL_law_1087 : decode cL_law 1087 = .ok (.iload_n 3, 1) := by decide +kernel
theorem dL_law_1088 : decode cL_law 1088 = .ok (.iconst 3, 1) := by decide +kernel
theorem dL_law_1089 : decode cL_law 1089 = .ok (.iadd, 1) := by decide +kernel
theorem dL_law_1090 : decode cL_law 1090 = .ok (.iaload, 1) := by decide +kernel
theorem dL_law_1091 : decode cL_law 1091 = .ok (.aload_n 0, 1) := by decide +kernel
theorem dL_law_1092 : decode cL_law 1092 = .ok (.iload_n 3, 1) := by decide +kernel
theorem dL_law_1093 : decode cL_law 1093 = .ok (.iconst 4, 1) := by decide +kernel
theorem dL_law_1094 : decode cL_law 1094 = .ok (.iadd, 1) := by decide +kernel
theorem dL_law_1095 : decode cL_law 1095 = .ok (.iaload, 1) := by decide +kernel
theorem dL_law_1096 : decode cL_law 1096 = .ok (.invokevirtual 138, 3) := by decide +kernel
theorem dL_law_1099 : decode cL_law 1099 = .ok (.lcmp, 1) := by decide +kernel
theorem dL_law_1100 : decode cL_law 1100 = .ok (.ifCond .eq 242, 3) := by decide +kernel
theorem dL_law_1103 : decode cL_law 1103 = .ok (.iconst 0, 1) := by decide +kernel
theorem dL_law_1104 : decode cL_law 1104 = .ok (.ireturn, 1) := by decide +kernel
theorem dL_law_1105 : decode cL_law 1105 = .ok (.aload_n 1, 1) := by decide +kernel
theorem dL_law_1106 : decode cL_law 1106 = .ok (.aload_n 0, 1) := by decide +kernel
theorem dL_law_1107 : decode cL_law 1107 = .ok (.iload_n 3, 1) := by decide +kernel
theorem dL_law_1108 : decode cL_law 1108 = .ok (.iconst 1, 1) := by decide +kernel
theorem dL_law_1109 : decode cL_law 1109 = .ok (.iadd, 1) := by decide +kernel
theorem dL_law_1110 : decode cL_law 1110 = .ok (.iaload, 1) := by decide +kernel
theorem dL_law_1111 : decode cL_law 1111 = .ok (.aload_n 0, 1) := by decide +kernel
theorem dL_law_1112 : decode cL_law 1112 = .ok (.iload_n 3, 1) := by decide +kernel
theorem dL_law_1113 : decode cL_law 1113 = .ok (.iconst 2, 1) := by decide +kernel
theorem dL_law_1114 : decode cL_law 1114 = .ok (.iadd, 1) := by decide +kernel
theorem dL_law_1115 : decode cL_law 1115 = .ok (.iaload, 1) := by decide +kernel
theorem dL_law_1116 : decode cL_law 1116 = .ok (.aload_n 0, 1) := by decide +kernel
theorem dL_law_1117 : decode cL_law 1117 = .ok (.iload_n 3, 1) := by decide +kernel
theorem dL_law_1118 : decode cL_law 1118 = .ok (.iconst 3, 1) := by decide +kernel
theorem dL_law_1119 : decode cL_law 1119 = .ok (.iadd, 1) := by decide +kernel
theorem dL_law_1120 : decode cL_law 1120 = .ok (.iaload, 1) := by decide +kernel
theorem dL_law_1121 : decode cL_law 1121 = .ok (.invokevirtual 139, 3) := by decide +kernel
theorem dL_law_1124 : decode cL_law 1124 = .ok (.aload_n 2, 1) := by decide +kernel
theorem dL_law_1125 : decode cL_law 1125 = .ok (.aload_n 0, 1) := by decide +kernel
theorem dL_law_1126 : decode cL_law 1126 = .ok (.iload_n 3, 1) := by decide +kernel
theorem dL_law_1127 : decode cL_law 1127 = .ok (.iconst 1, 1) := by decide +kernel
theorem dL_law_1128 : decode cL_law 1128 = .ok (.iadd, 1) := by decide +kernel
theorem dL_law_1129 : decode cL_law 1129 = .ok (.iaload, 1) := by decide +kernel
theorem dL_law_1130 : decode cL_law 1130 = .ok (.aload_n 0, 1) := by decide +kernel
theorem dL_law_1131 : decode cL_law 1131 = .ok (.iload_n 3, 1) := by decide +kernel
theorem dL_law_1132 : decode cL_law 1132 = .ok (.iconst 2, 1) := by decide +kernel
theorem dL_law_1133 : decode cL_law 1133 = .ok (.iadd, 1) := by decide +kernel
theorem dL_law_1134 : decode cL_law 1134 = .ok (.iaload, 1) := by decide +kernel
theorem dL_law_1135 : decode cL_law 1135 = .ok (.aload_n 0, 1) := by decide +kernel
theorem dL_law_1136 : decode cL_law 1136 = .ok (.iload_n 3, 1) := by decide +kernel
theorem dL_law_1137 : decode cL_law 1137 = .ok (.iconst 3, 1) := by decide +kernel
theorem dL_law_1138 : decode cL_law 1138 = .ok (.iadd, 1) := by decide +kernel
theorem dL_law_1139 : decode cL_law 1139 = .ok (.iaload, 1) := by decide +kernel
theorem dL_law_1140 : decode cL_law 1140 = .ok (.invokevirtual 142, 3) := by decide +kernel
theorem dL_law_1143 : decode cL_law 1143 = .ok (.if_icmp .eq 199, 3) := by decide +kernel
theorem dL_law_1146 : decode cL_law 1146 = .ok (.iconst 0, 1) := by decide +kernel
theorem dL_law_1147 : decode cL_law 1147 = .ok (.ireturn, 1) := by decide +kernel
theorem dL_law_1148 : decode cL_law 1148 = .ok (.aload_n 1, 1) := by decide +kernel
theorem dL_law_1149 : decode cL_law 1149 = .ok (.aload_n 0, 1) := by decide +kernel
theorem dL_law_1150 : decode cL_law 1150 = .ok (.iload_n 3, 1) := by decide +kernel
theorem dL_law_1151 : decode cL_law 1151 = .ok (.iconst 1, 1) := by decide +kernel
theorem dL_law_1152 : decode cL_law 1152 = .ok (.iadd, 1) := by decide +kernel
theorem dL_law_1153 : decode cL_law 1153 = .ok (.iaload, 1) := by decide +kernel
theorem dL_law_1154 : decode cL_law 1154 = .ok (.invokevirtual 143, 3) := by decide +kernel
theorem dL_law_1157 : decode cL_law 1157 = .ok (.aload_n 2, 1) := by decide +kernel
theorem dL_law_1158 : decode cL_law 1158 = .ok (.aload_n 0, 1) := by decide +kernel
theorem dL_law_1159 : decode cL_law 1159 = .ok (.iload_n 3, 1) := by decide +kernel
theorem dL_law_1160 : decode cL_law 1160 = .ok (.iconst 1, 1) := by decide +kernel
theorem dL_law_1161 : decode cL_law 1161 = .ok (.iadd, 1) := by decide +kernel
theorem dL_law_1162 : decode cL_law 1162 = .ok (.iaload, 1) := by decide +kernel
theorem dL_law_1163 : decode cL_law 1163 = .ok (.invokevirtual 146, 3) := by decide +kernel
theorem dL_law_1166 : decode cL_law 1166 = .ok (.if_icmp .eq 176, 3) := by decide +kernel
theorem dL_law_1169 : decode cL_law 1169 = .ok (.iconst 0, 1) := by decide +kernel
theorem dL_law_1170 : decode cL_law 1170 = .ok (.ireturn, 1) := by decide +kernel
theorem dL_law_1171 : decode cL_law 1171 = .ok (.aload_n 1, 1) := by decide +kernel
theorem dL_law_1172 : decode cL_law 1172 = .ok (.aload_n 0, 1) := by decide +kernel
theorem dL_law_1173 : decode cL_law 1173 = .ok (.iload_n 3, 1) := by decide +kernel
theorem dL_law_1174 : decode cL_law 1174 = .ok (.iconst 1, 1) := by decide +kernel
theorem dL_law_1175 : decode cL_law 1175 = .ok (.iadd, 1) := by decide +kernel
theorem dL_law_1176 : decode cL_law 1176 = .ok (.iaload, 1) := by decide +kernel
theorem dL_law_1177 : decode cL_law 1177 = .ok (.invokevirtual 147, 3) := by decide +kernel
theorem dL_law_1180 : decode cL_law 1180 = .ok (.aload_n 2, 1) := by decide +kernel
theorem dL_law_1181 : decode cL_law 1181 = .ok (.aload_n 0, 1) := by decide +kernel
theorem dL_law_1182 : decode cL_law 1182 = .ok (.iload_n 3, 1) := by decide +kernel
theorem dL_law_1183 : decode cL_law 1183 = .ok (.iconst 1, 1) := by decide +kernel
theorem dL_law_1184 : decode cL_law 1184 = .ok (.iadd, 1) := by decide +kernel
theorem dL_law_1185 : decode cL_law 1185 = .ok (.iaload, 1) := by decide +kernel
theorem dL_law_1186 : decode cL_law 1186 = .ok (.invokevirtual 150, 3) := by decide +kernel
theorem dL_law_1189 : decode cL_law 1189 = .ok (.if_icmp .eq 153, 3) := by decide +kernel
theorem dL_law_1192 : decode cL_law 1192 = .ok (.iconst 0, 1) := by decide +kernel
theorem dL_law_1193 : decode cL_law 1193 = .ok (.ireturn, 1) := by decide +kernel
theorem dL_law_1194 : decode cL_law 1194 = .ok (.aload_n 1, 1) := by decide +kernel
theorem dL_law_1195 : decode cL_law 1195 = .ok (.aload_n 0, 1) := by decide +kernel
theorem dL_law_1196 : decode cL_law 1196 = .ok (.iload_n 3, 1) := by decide +kernel
theorem dL_law_1197 : decode cL_law 1197 = .ok (.iconst 1, 1) := by decide +kernel
theorem dL_law_1198 : decode cL_law 1198 = .ok (.iadd, 1) := by decide +kernel
theorem dL_law_1199 : decode cL_law 1199 = .ok (.iaload, 1) := by decide +kernel
theorem dL_law_1200 : decode cL_law 1200 = .ok (.invokevirtual 151, 3) := by decide +kernel
theorem dL_law_1203 : decode cL_law 1203 = .ok (.aload_n 2, 1) := by decide +kernel
theorem dL_law_1204 : decode cL_law 1204 = .ok (.aload_n 0, 1) := by decide +kernel
theorem dL_law_1205 : decode cL_law 1205 = .ok (.iload_n 3, 1) := by decide +kernel
theorem dL_law_1206 : decode cL_law 1206 = .ok (.iconst 1, 1) := by decide +kernel
theorem dL_law_1207 : decode cL_law 1207 = .ok (.iadd, 1) := by decide +kernel
theorem dL_law_1208 : decode cL_law 1208 = .ok (.iaload, 1) := by decide +kernel
theorem dL_law_1209 : decode cL_law 1209 = .ok (.invokevirtual 154, 3) := by decide +kernel
theorem dL_law_1212 : decode cL_law 1212 = .ok (.if_icmp .eq 130, 3) := by decide +kernel
theorem dL_law_1215 : decode cL_law 1215 = .ok (.iconst 0, 1) := by decide +kernel
theorem dL_law_1216 : decode cL_law 1216 = .ok (.ireturn, 1) := by decide +kernel
theorem dL_law_1217 : decode cL_law 1217 = .ok (.aload_n 1, 1) := by decide +kernel
theorem dL_law_1218 : decode cL_law 1218 = .ok (.aload_n 0, 1) := by decide +kernel
theorem dL_law_1219 : decode cL_law 1219 = .ok (.iload_n 3, 1) := by decide +kernel
theorem dL_law_1220 : decode cL_law 1220 = .ok (.iconst 1, 1) := by decide +kernel
theorem dL_law_1221 : decode cL_law 1221 = .ok (.iadd, 1) := by decide +kernel
theorem dL_law_1222 : decode cL_law 1222 = .ok (.iaload, 1) := by decide +kernel
theorem dL_law_1223 : decode cL_law 1223 = .ok (.aload_n 0, 1) := by decide +kernel
theorem dL_law_1224 : decode cL_law 1224 = .ok (.iload_n 3, 1) := by decide +kernel
theorem dL_law_1225 : decode cL_law 1225 = .ok (.iconst 2, 1) := by decide +kernel
theorem dL_law_1226 : decode cL_law 1226 = .ok (.iadd, 1) := by decide +kernel
theorem dL_law_1227 : decode cL_law 1227 = .ok (.iaload, 1) := by decide +kernel
theorem dL_law_1228 : decode cL_law 1228 = .ok (.invokevirtual 155, 3) := by decide +kernel
theorem dL_law_1231 : decode cL_law 1231 = .ok (.aload_n 2, 1) := by decide +kernel
theorem dL_law_1232 : decode cL_law 1232 = .ok (.aload_n 0, 1) := by decide +kernel
theorem dL_law_1233 : decode cL_law 1233 = .ok (.iload_n 3, 1) := by decide +kernel
theorem dL_law_1234 : decode cL_law 1234 = .ok (.iconst 1, 1) := by decide +kernel
theorem dL_law_1235 : decode cL_law 1235 = .ok (.iadd, 1) := by decide +kernel
theorem dL_law_1236 : decode cL_law 1236 = .ok (.iaload, 1) := by decide +kernel
theorem dL_law_1237 : decode cL_law 1237 = .ok (.aload_n 0, 1) := by decide +kernel
theorem dL_law_1238 : decode cL_law 1238 = .ok (.iload_n 3, 1) := by decide +kernel
theorem dL_law_1239 : decode cL_law 1239 = .ok (.iconst 2, 1) := by decide +kernel
theorem dL_law_1240 : decode cL_law 1240 = .ok (.iadd, 1) := by decide +kernel
theorem dL_law_1241 : decode cL_law 1241 = .ok (.iaload, 1) := by decide +kernel
theorem dL_law_1242 : decode cL_law 1242 = .ok (.invokevirtual 158, 3) := by decide +kernel
theorem dL_law_1245 : decode cL_law 1245 = .ok (.if_icmp .eq 97, 3) := by decide +kernel
theorem dL_law_1248 : decode cL_law 1248 = .ok (.iconst 0, 1) := by decide +kernel
theorem dL_law_1249 : decode cL_law 1249 = .ok (.ireturn, 1) := by decide +kernel
theorem dL_law_1250 : decode cL_law 1250 = .ok (.aload_n 1, 1) := by decide +kernel
theorem dL_law_1251 : decode cL_law 1251 = .ok (.aload_n 0, 1) := by decide +kernel
theorem dL_law_1252 : decode cL_law 1252 = .ok (.iload_n 3, 1) := by decide +kernel
theorem dL_law_1253 : decode cL_law 1253 = .ok (.iconst 1, 1) := by decide +kernel
theorem dL_law_1254 : decode cL_law 1254 = .ok (.iadd, 1) := by decide +kernel
theorem dL_law_1255 : decode cL_law 1255 = .ok (.iaload, 1) := by decide +kernel
theorem dL_law_1256 : decode cL_law 1256 = .ok (.aload_n 0, 1) := by decide +kernel
theorem dL_law_1257 : decode cL_law 1257 = .ok (.iload_n 3, 1) := by decide +kernel
theorem dL_law_1258 : decode cL_law 1258 = .ok (.iconst 2, 1) := by decide +kernel
theorem dL_law_1259 : decode cL_law 1259 = .ok (.iadd, 1) := by decide +kernel
theorem dL_law_1260 : decode cL_law 1260 = .ok (.iaload, 1) := by decide +kernel
theorem dL_law_1261 : decode cL_law 1261 = .ok (.invokevirtual 159, 3) := by decide +kernel
theorem dL_law_1264 : decode cL_law 1264 = .ok (.aload_n 2, 1) := by decide +kernel
theorem dL_law_1265 : decode cL_law 1265 = .ok (.aload_n 0, 1) := by decide +kernel
theorem dL_law_1266 : decode cL_law 1266 = .ok (.iload_n 3, 1) := by decide +kernel
theorem dL_law_1267 : decode cL_law 1267 = .ok (.iconst 1, 1) := by decide +kernel
theorem dL_law_1268 : decode cL_law 1268 = .ok (.iadd, 1) := by decide +kernel
theorem dL_law_1269 : decode cL_law 1269 = .ok (.iaload, 1) := by decide +kernel
theorem dL_law_1270 : decode cL_law 1270 = .ok (.aload_n 0, 1) := by decide +kernel
theorem dL_law_1271 : decode cL_law 1271 = .ok (.iload_n 3, 1) := by decide +kernel
theorem dL_law_1272 : decode cL_law 1272 = .ok (.iconst 2, 1) := by decide +kernel
theorem dL_law_1273 : decode cL_law 1273 = .ok (.iadd, 1) := by decide +kernel
theorem dL_law_1274 : decode cL_law 1274 = .ok (.iaload, 1) := by decide +kernel
theorem dL_law_1275 : decode cL_law 1275 = .ok (.invokevirtual 162, 3) := by decide +kernel
theorem dL_law_1278 : decode cL_law 1278 = .ok (.if_icmp .eq 64, 3) := by decide +kernel
theorem dL_law_1281 : decode cL_law 1281 = .ok (.iconst 0, 1) := by decide +kernel
theorem dL_law_1282 : decode cL_law 1282 = .ok (.ireturn, 1) := by decide +kernel
theorem dL_law_1283 : decode cL_law 1283 = .ok (.aload_n 1, 1) := by decide +kernel
theorem dL_law_1284 : decode cL_law 1284 = .ok (.aload_n 0, 1) := by decide +kernel
theorem dL_law_1285 : decode cL_law 1285 = .ok (.iload_n 3, 1) := by decide +kernel
theorem dL_law_1286 : decode cL_law 1286 = .ok (.iconst 1, 1) := by decide +kernel
theorem dL_law_1287 : decode cL_law 1287 = .ok (.iadd, 1) := by decide +kernel
theorem dL_law_1288 : decode cL_law 1288 = .ok (.iaload, 1) := by decide +kernel
theorem dL_law_1289 : decode cL_law 1289 = .ok (.invokevirtual 163, 3) := by decide +kernel
theorem dL_law_1292 : decode cL_law 1292 = .ok (.aload_n 2, 1) := by decide +kernel
theorem dL_law_1293 : decode cL_law 1293 = .ok (.aload_n 0, 1) := by decide +kernel
theorem dL_law_1294 : decode cL_law 1294 = .ok (.iload_n 3, 1) := by decide +kernel
theorem dL_law_1295 : decode cL_law 1295 = .ok (.iconst 1, 1) := by decide +kernel
theorem dL_law_1296 : decode cL_law 1296 = .ok (.iadd, 1) := by decide +kernel
theorem dL_law_1297 : decode cL_law 1297 = .ok (.iaload, 1) := by decide +kernel
theorem dL_law_1298 : decode cL_law 1298 = .ok (.invokevirtual 166, 3) := by decide +kernel
theorem dL_law_1301 : decode cL_law 1301 = .ok (.if_icmp .eq 41, 3) := by decide +kernel
theorem dL_law_1304 : decode cL_law 1304 = .ok (.iconst 0, 1) := by decide +kernel
theorem dL_law_1305 : decode cL_law 1305 = .ok (.ireturn, 1) := by decide +kernel
theorem dL_law_1306 : decode cL_law 1306 = .ok (.aload_n 1, 1) := by decide +kernel
theorem dL_law_1307 : decode cL_law 1307 = .ok (.aload_n 0, 1) := by decide +kernel
theorem dL_law_1308 : decode cL_law 1308 = .ok (.iload_n 3, 1) := by decide +kernel
theorem dL_law_1309 : decode cL_law 1309 = .ok (.iconst 1, 1) := by decide +kernel
theorem dL_law_1310 : decode cL_law 1310 = .ok (.iadd, 1) := by decide +kernel
theorem dL_law_1311 : decode cL_law 1311 = .ok (.iaload, 1) := by decide +kernel
theorem dL_law_1312 : decode cL_law 1312 = .ok (.invokevirtual 167, 3) := by decide +kernel
theorem dL_law_1315 : decode cL_law 1315 = .ok (.aload_n 2, 1) := by decide +kernel
theorem dL_law_1316 : decode cL_law 1316 = .ok (.aload_n 0, 1) := by decide +kernel
theorem dL_law_1317 : decode cL_law 1317 = .ok (.iload_n 3, 1) := by decide +kernel
theorem dL_law_1318 : decode cL_law 1318 = .ok (.iconst 1, 1) := by decide +kernel
theorem dL_law_1319 : decode cL_law 1319 = .ok (.iadd, 1) := by decide +kernel
theorem dL_law_1320 : decode cL_law 1320 = .ok (.iaload, 1) := by decide +kernel
theorem dL_law_1321 : decode cL_law 1321 = .ok (.invokevirtual 170, 3) := by decide +kernel
theorem dL_law_1324 : decode cL_law 1324 = .ok (.if_icmp .eq 18, 3) := by decide +kernel
theorem dL_law_1327 : decode cL_law 1327 = .ok (.iconst 0, 1) := by decide +kernel
theorem dL_law_1328 : decode cL_law 1328 = .ok (.ireturn, 1) := by decide +kernel
theorem dL_law_1329 : decode cL_law 1329 = .ok (.aload_n 1, 1) := by decide +kernel
theorem dL_law_1330 : decode cL_law 1330 = .ok (.invokevirtual 171, 3) := by decide +kernel
theorem dL_law_1333 : decode cL_law 1333 = .ok (.aload_n 2, 1) := by decide +kernel
theorem dL_law_1334 : decode cL_law 1334 = .ok (.invokevirtual 174, 3) := by decide +kernel
theorem dL_law_1337 : decode cL_law 1337 = .ok (.if_icmp .eq 5, 3) := by decide +kernel
theorem dL_law_1340 : decode cL_law 1340 = .ok (.iconst 0, 1) := by decide +kernel
theorem dL_law_1341 : decode cL_law 1341 = .ok (.ireturn, 1) := by decide +kernel
theorem dL_law_1342 : decode cL_law 1342 = .ok (.iinc 3 6, 3) := by decide +kernel
theorem dL_law_1345 : decode cL_law 1345 = .ok (.goto (-1327), 3) := by decide +kernel
theorem dL_law_1348 : decode cL_law 1348 = .ok (.iconst 1, 1) := by decide +kernel
theorem dL_law_1349 : decode cL_law 1349 = .ok (.ireturn, 1) := by decide +kernel
end
