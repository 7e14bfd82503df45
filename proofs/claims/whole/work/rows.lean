section
-- ===== PART A: goes FIRST, ahead of the names: the tables' words, and 'selects' of the private methods out of them =====
/-- a private method of a class that the tables say can be made, by its rows of tables_1 -/
def lw_okq (q : MethodName × Nat) : Prop := (q.1.cls ≠ "java/lang/invoke/MethodHandle" ∧ q.1.cls ≠ "java/lang/invoke/VarHandle") ∧ Cond.instantiable q.1.cls q.2 ∈ tables_1 ∧ Cond.privateMethod q.1 ∈ tables_1 ∧ Cond.instanceMethod q.1 ∈ tables_1
theorem lw_p0 : lw_okq (⟨"AsleepCots", "found", "(I)I"⟩, 10) := ⟨⟨by decide +kernel, by decide +kernel⟩, List.mem_of_getElem? (i := 13) (by decide +kernel), List.mem_of_getElem? (i := 270) (by decide +kernel), List.mem_of_getElem? (i := 271) (by decide +kernel)⟩
theorem lw_p1 : lw_okq (⟨"AsleepCots", "foundNothing", "(I)I"⟩, 10) := ⟨⟨by decide +kernel, by decide +kernel⟩, List.mem_of_getElem? (i := 13) (by decide +kernel), List.mem_of_getElem? (i := 279) (by decide +kernel), List.mem_of_getElem? (i := 280) (by decide +kernel)⟩
theorem lw_p2 : lw_okq (⟨"AsleepCots$Tape", "widthAt", "(I)I"⟩, 3) := ⟨⟨by decide +kernel, by decide +kernel⟩, List.mem_of_getElem? (i := 23) (by decide +kernel), List.mem_of_getElem? (i := 328) (by decide +kernel), List.mem_of_getElem? (i := 329) (by decide +kernel)⟩
theorem lw_p3 : lw_okq (⟨"AsleepCots$Tape", "faultAt", "(IIII)I"⟩, 3) := ⟨⟨by decide +kernel, by decide +kernel⟩, List.mem_of_getElem? (i := 23) (by decide +kernel), List.mem_of_getElem? (i := 335) (by decide +kernel), List.mem_of_getElem? (i := 336) (by decide +kernel)⟩
theorem lw_p4 : lw_okq (⟨"AsleepCots$Tape", "valueAt", "(II)I"⟩, 3) := ⟨⟨by decide +kernel, by decide +kernel⟩, List.mem_of_getElem? (i := 23) (by decide +kernel), List.mem_of_getElem? (i := 347) (by decide +kernel), List.mem_of_getElem? (i := 348) (by decide +kernel)⟩
theorem lw_p5 : lw_okq (⟨"AsleepCots", "noRoom", "()Z"⟩, 10) := ⟨⟨by decide +kernel, by decide +kernel⟩, List.mem_of_getElem? (i := 13) (by decide +kernel), List.mem_of_getElem? (i := 398) (by decide +kernel), List.mem_of_getElem? (i := 399) (by decide +kernel)⟩
theorem lw_p6 : lw_okq (⟨"AsleepCots$Room", "calmDown", "(I)V"⟩, 14) := ⟨⟨by decide +kernel, by decide +kernel⟩, List.mem_of_getElem? (i := 43) (by decide +kernel), List.mem_of_getElem? (i := 421) (by decide +kernel), List.mem_of_getElem? (i := 422) (by decide +kernel)⟩
theorem lw_p7 : lw_okq (⟨"AsleepCots$Room", "listen", "(IZ)Z"⟩, 14) := ⟨⟨by decide +kernel, by decide +kernel⟩, List.mem_of_getElem? (i := 43) (by decide +kernel), List.mem_of_getElem? (i := 444) (by decide +kernel), List.mem_of_getElem? (i := 445) (by decide +kernel)⟩
theorem lw_p8 : lw_okq (⟨"AsleepCots$Room", "calmGained", "(I)I"⟩, 14) := ⟨⟨by decide +kernel, by decide +kernel⟩, List.mem_of_getElem? (i := 43) (by decide +kernel), List.mem_of_getElem? (i := 456) (by decide +kernel), List.mem_of_getElem? (i := 457) (by decide +kernel)⟩
theorem lw_p9 : lw_okq (⟨"AsleepCots", "noChild", "(I)Z"⟩, 10) := ⟨⟨by decide +kernel, by decide +kernel⟩, List.mem_of_getElem? (i := 13) (by decide +kernel), List.mem_of_getElem? (i := 465) (by decide +kernel), List.mem_of_getElem? (i := 466) (by decide +kernel)⟩
theorem lw_p10 : lw_okq (⟨"AsleepCots$Foresight", "weighHands", "(II)V"⟩, 8) := ⟨⟨by decide +kernel, by decide +kernel⟩, List.mem_of_getElem? (i := 141) (by decide +kernel), List.mem_of_getElem? (i := 570) (by decide +kernel), List.mem_of_getElem? (i := 571) (by decide +kernel)⟩
theorem lw_p11 : lw_okq (⟨"AsleepCots$Foresight", "goesAsTold", "()Z"⟩, 8) := ⟨⟨by decide +kernel, by decide +kernel⟩, List.mem_of_getElem? (i := 141) (by decide +kernel), List.mem_of_getElem? (i := 636) (by decide +kernel), List.mem_of_getElem? (i := 637) (by decide +kernel)⟩
theorem lw_p12 : lw_okq (⟨"AsleepCots$Foresight", "casesAsleep", "(IIII)J"⟩, 8) := ⟨⟨by decide +kernel, by decide +kernel⟩, List.mem_of_getElem? (i := 141) (by decide +kernel), List.mem_of_getElem? (i := 658) (by decide +kernel), List.mem_of_getElem? (i := 659) (by decide +kernel)⟩
theorem lw_p13 : lw_okq (⟨"AsleepCots$Foresight", "cancel", "(I)V"⟩, 8) := ⟨⟨by decide +kernel, by decide +kernel⟩, List.mem_of_getElem? (i := 141) (by decide +kernel), List.mem_of_getElem? (i := 664) (by decide +kernel), List.mem_of_getElem? (i := 665) (by decide +kernel)⟩
theorem lw_p14 : lw_okq (⟨"AsleepCots$Foresight", "cancelBy", "(I)V"⟩, 8) := ⟨⟨by decide +kernel, by decide +kernel⟩, List.mem_of_getElem? (i := 141) (by decide +kernel), List.mem_of_getElem? (i := 668) (by decide +kernel), List.mem_of_getElem? (i := 669) (by decide +kernel)⟩
theorem lw_p15 : lw_okq (⟨"AsleepCots$Asks", "give", "(II)I"⟩, 7) := ⟨⟨by decide +kernel, by decide +kernel⟩, List.mem_of_getElem? (i := 179) (by decide +kernel), List.mem_of_getElem? (i := 725) (by decide +kernel), List.mem_of_getElem? (i := 726) (by decide +kernel)⟩
def lw_privs_1 : List (MethodName × Nat) := [(⟨"AsleepCots", "found", "(I)I"⟩, 10), (⟨"AsleepCots", "foundNothing", "(I)I"⟩, 10), (⟨"AsleepCots$Tape", "widthAt", "(I)I"⟩, 3), (⟨"AsleepCots$Tape", "faultAt", "(IIII)I"⟩, 3), (⟨"AsleepCots$Tape", "valueAt", "(II)I"⟩, 3), (⟨"AsleepCots", "noRoom", "()Z"⟩, 10), (⟨"AsleepCots$Room", "calmDown", "(I)V"⟩, 14), (⟨"AsleepCots$Room", "listen", "(IZ)Z"⟩, 14), (⟨"AsleepCots$Room", "calmGained", "(I)I"⟩, 14), (⟨"AsleepCots", "noChild", "(I)Z"⟩, 10), (⟨"AsleepCots$Foresight", "weighHands", "(II)V"⟩, 8), (⟨"AsleepCots$Foresight", "goesAsTold", "()Z"⟩, 8), (⟨"AsleepCots$Foresight", "casesAsleep", "(IIII)J"⟩, 8), (⟨"AsleepCots$Foresight", "cancel", "(I)V"⟩, 8), (⟨"AsleepCots$Foresight", "cancelBy", "(I)V"⟩, 8), (⟨"AsleepCots$Asks", "give", "(II)I"⟩, 7)]
theorem lw_r1 : ∀ q ∈ lw_privs_1, lw_okq q := List.forall_mem_cons.mpr ⟨lw_p0, List.forall_mem_cons.mpr ⟨lw_p1, List.forall_mem_cons.mpr ⟨lw_p2, List.forall_mem_cons.mpr ⟨lw_p3, List.forall_mem_cons.mpr ⟨lw_p4, List.forall_mem_cons.mpr ⟨lw_p5, List.forall_mem_cons.mpr ⟨lw_p6, List.forall_mem_cons.mpr ⟨lw_p7, List.forall_mem_cons.mpr ⟨lw_p8, List.forall_mem_cons.mpr ⟨lw_p9, List.forall_mem_cons.mpr ⟨lw_p10, List.forall_mem_cons.mpr ⟨lw_p11, List.forall_mem_cons.mpr ⟨lw_p12, List.forall_mem_cons.mpr ⟨lw_p13, List.forall_mem_cons.mpr ⟨lw_p14, List.forall_mem_cons.mpr ⟨lw_p15, fun _ h => absurd h List.not_mem_nil⟩⟩⟩⟩⟩⟩⟩⟩⟩⟩⟩⟩⟩⟩⟩⟩
theorem lw_p16 : lw_okq (⟨"AsleepCots$Asks", "leave", "(I)V"⟩, 7) := ⟨⟨by decide +kernel, by decide +kernel⟩, List.mem_of_getElem? (i := 179) (by decide +kernel), List.mem_of_getElem? (i := 729) (by decide +kernel), List.mem_of_getElem? (i := 730) (by decide +kernel)⟩
theorem lw_p17 : lw_okq (⟨"AsleepCots", "presentRows", "()I"⟩, 10) := ⟨⟨by decide +kernel, by decide +kernel⟩, List.mem_of_getElem? (i := 13) (by decide +kernel), List.mem_of_getElem? (i := 741) (by decide +kernel), List.mem_of_getElem? (i := 742) (by decide +kernel)⟩
theorem lw_p18 : lw_okq (⟨"AsleepCotsModel", "found", "(I)I"⟩, 18) := ⟨⟨by decide +kernel, by decide +kernel⟩, List.mem_of_getElem? (i := 749) (by decide +kernel), List.mem_of_getElem? (i := 824) (by decide +kernel), List.mem_of_getElem? (i := 825) (by decide +kernel)⟩
theorem lw_p19 : lw_okq (⟨"AsleepCotsModel", "good", "(I)I"⟩, 18) := ⟨⟨by decide +kernel, by decide +kernel⟩, List.mem_of_getElem? (i := 749) (by decide +kernel), List.mem_of_getElem? (i := 829) (by decide +kernel), List.mem_of_getElem? (i := 830) (by decide +kernel)⟩
theorem lw_p20 : lw_okq (⟨"AsleepCotsModel", "takesLaw", "()Z"⟩, 18) := ⟨⟨by decide +kernel, by decide +kernel⟩, List.mem_of_getElem? (i := 749) (by decide +kernel), List.mem_of_getElem? (i := 858) (by decide +kernel), List.mem_of_getElem? (i := 859) (by decide +kernel)⟩
theorem lw_p21 : lw_okq (⟨"AsleepCotsModel", "takes", "(I)Z"⟩, 18) := ⟨⟨by decide +kernel, by decide +kernel⟩, List.mem_of_getElem? (i := 749) (by decide +kernel), List.mem_of_getElem? (i := 862) (by decide +kernel), List.mem_of_getElem? (i := 863) (by decide +kernel)⟩
theorem lw_p22 : lw_okq (⟨"AsleepCotsModel", "byteAt", "(I)I"⟩, 18) := ⟨⟨by decide +kernel, by decide +kernel⟩, List.mem_of_getElem? (i := 749) (by decide +kernel), List.mem_of_getElem? (i := 866) (by decide +kernel), List.mem_of_getElem? (i := 867) (by decide +kernel)⟩
theorem lw_p23 : lw_okq (⟨"AsleepCotsModel", "fails", "(II)Z"⟩, 18) := ⟨⟨by decide +kernel, by decide +kernel⟩, List.mem_of_getElem? (i := 749) (by decide +kernel), List.mem_of_getElem? (i := 870) (by decide +kernel), List.mem_of_getElem? (i := 871) (by decide +kernel)⟩
theorem lw_p24 : lw_okq (⟨"AsleepCotsModel", "takesNumber", "(III)Z"⟩, 18) := ⟨⟨by decide +kernel, by decide +kernel⟩, List.mem_of_getElem? (i := 749) (by decide +kernel), List.mem_of_getElem? (i := 874) (by decide +kernel), List.mem_of_getElem? (i := 875) (by decide +kernel)⟩
theorem lw_p25 : lw_okq (⟨"AsleepCotsModel", "takesChild", "()Z"⟩, 18) := ⟨⟨by decide +kernel, by decide +kernel⟩, List.mem_of_getElem? (i := 749) (by decide +kernel), List.mem_of_getElem? (i := 880) (by decide +kernel), List.mem_of_getElem? (i := 881) (by decide +kernel)⟩
theorem lw_p26 : lw_okq (⟨"AsleepCotsModel", "copyAll", "(II)V"⟩, 18) := ⟨⟨by decide +kernel, by decide +kernel⟩, List.mem_of_getElem? (i := 749) (by decide +kernel), List.mem_of_getElem? (i := 888) (by decide +kernel), List.mem_of_getElem? (i := 889) (by decide +kernel)⟩
theorem lw_p27 : lw_okq (⟨"AsleepCotsModel", "isRoom", "()Z"⟩, 18) := ⟨⟨by decide +kernel, by decide +kernel⟩, List.mem_of_getElem? (i := 749) (by decide +kernel), List.mem_of_getElem? (i := 905) (by decide +kernel), List.mem_of_getElem? (i := 906) (by decide +kernel)⟩
theorem lw_p28 : lw_okq (⟨"AsleepCotsModel", "minds", "()V"⟩, 18) := ⟨⟨by decide +kernel, by decide +kernel⟩, List.mem_of_getElem? (i := 749) (by decide +kernel), List.mem_of_getElem? (i := 910) (by decide +kernel), List.mem_of_getElem? (i := 911) (by decide +kernel)⟩
theorem lw_p29 : lw_okq (⟨"AsleepCotsModel", "passes", "(I)V"⟩, 18) := ⟨⟨by decide +kernel, by decide +kernel⟩, List.mem_of_getElem? (i := 749) (by decide +kernel), List.mem_of_getElem? (i := 914) (by decide +kernel), List.mem_of_getElem? (i := 915) (by decide +kernel)⟩
theorem lw_p30 : lw_okq (⟨"AsleepCotsModel", "noiseAt", "(II)I"⟩, 18) := ⟨⟨by decide +kernel, by decide +kernel⟩, List.mem_of_getElem? (i := 749) (by decide +kernel), List.mem_of_getElem? (i := 918) (by decide +kernel), List.mem_of_getElem? (i := 919) (by decide +kernel)⟩
theorem lw_p31 : lw_okq (⟨"AsleepCotsModel", "isOut", "(II)Z"⟩, 18) := ⟨⟨by decide +kernel, by decide +kernel⟩, List.mem_of_getElem? (i := 749) (by decide +kernel), List.mem_of_getElem? (i := 922) (by decide +kernel), List.mem_of_getElem? (i := 923) (by decide +kernel)⟩
def lw_privs_2 : List (MethodName × Nat) := [(⟨"AsleepCots$Asks", "leave", "(I)V"⟩, 7), (⟨"AsleepCots", "presentRows", "()I"⟩, 10), (⟨"AsleepCotsModel", "found", "(I)I"⟩, 18), (⟨"AsleepCotsModel", "good", "(I)I"⟩, 18), (⟨"AsleepCotsModel", "takesLaw", "()Z"⟩, 18), (⟨"AsleepCotsModel", "takes", "(I)Z"⟩, 18), (⟨"AsleepCotsModel", "byteAt", "(I)I"⟩, 18), (⟨"AsleepCotsModel", "fails", "(II)Z"⟩, 18), (⟨"AsleepCotsModel", "takesNumber", "(III)Z"⟩, 18), (⟨"AsleepCotsModel", "takesChild", "()Z"⟩, 18), (⟨"AsleepCotsModel", "copyAll", "(II)V"⟩, 18), (⟨"AsleepCotsModel", "isRoom", "()Z"⟩, 18), (⟨"AsleepCotsModel", "minds", "()V"⟩, 18), (⟨"AsleepCotsModel", "passes", "(I)V"⟩, 18), (⟨"AsleepCotsModel", "noiseAt", "(II)I"⟩, 18), (⟨"AsleepCotsModel", "isOut", "(II)Z"⟩, 18)]
theorem lw_r2 : ∀ q ∈ lw_privs_2, lw_okq q := List.forall_mem_cons.mpr ⟨lw_p16, List.forall_mem_cons.mpr ⟨lw_p17, List.forall_mem_cons.mpr ⟨lw_p18, List.forall_mem_cons.mpr ⟨lw_p19, List.forall_mem_cons.mpr ⟨lw_p20, List.forall_mem_cons.mpr ⟨lw_p21, List.forall_mem_cons.mpr ⟨lw_p22, List.forall_mem_cons.mpr ⟨lw_p23, List.forall_mem_cons.mpr ⟨lw_p24, List.forall_mem_cons.mpr ⟨lw_p25, List.forall_mem_cons.mpr ⟨lw_p26, List.forall_mem_cons.mpr ⟨lw_p27, List.forall_mem_cons.mpr ⟨lw_p28, List.forall_mem_cons.mpr ⟨lw_p29, List.forall_mem_cons.mpr ⟨lw_p30, List.forall_mem_cons.mpr ⟨lw_p31, fun _ h => absurd h List.not_mem_nil⟩⟩⟩⟩⟩⟩⟩⟩⟩⟩⟩⟩⟩⟩⟩⟩
theorem lw_p32 : lw_okq (⟨"AsleepCotsModel", "bears", "(II)I"⟩, 18) := ⟨⟨by decide +kernel, by decide +kernel⟩, List.mem_of_getElem? (i := 749) (by decide +kernel), List.mem_of_getElem? (i := 932) (by decide +kernel), List.mem_of_getElem? (i := 933) (by decide +kernel)⟩
theorem lw_p33 : lw_okq (⟨"AsleepCotsModel", "weepsOn", "(III)V"⟩, 18) := ⟨⟨by decide +kernel, by decide +kernel⟩, List.mem_of_getElem? (i := 749) (by decide +kernel), List.mem_of_getElem? (i := 936) (by decide +kernel), List.mem_of_getElem? (i := 937) (by decide +kernel)⟩
theorem lw_p34 : lw_okq (⟨"AsleepCotsModel", "liesOn", "(IIZ)V"⟩, 18) := ⟨⟨by decide +kernel, by decide +kernel⟩, List.mem_of_getElem? (i := 749) (by decide +kernel), List.mem_of_getElem? (i := 940) (by decide +kernel), List.mem_of_getElem? (i := 941) (by decide +kernel)⟩
theorem lw_p35 : lw_okq (⟨"AsleepCotsModel", "wakesUp", "(II)V"⟩, 18) := ⟨⟨by decide +kernel, by decide +kernel⟩, List.mem_of_getElem? (i := 749) (by decide +kernel), List.mem_of_getElem? (i := 944) (by decide +kernel), List.mem_of_getElem? (i := 945) (by decide +kernel)⟩
theorem lw_p36 : lw_okq (⟨"AsleepCotsModel", "thoseWho", "(II)I"⟩, 18) := ⟨⟨by decide +kernel, by decide +kernel⟩, List.mem_of_getElem? (i := 749) (by decide +kernel), List.mem_of_getElem? (i := 948) (by decide +kernel), List.mem_of_getElem? (i := 949) (by decide +kernel)⟩
theorem lw_p37 : lw_okq (⟨"AsleepCotsModel", "isChild", "(I)Z"⟩, 18) := ⟨⟨by decide +kernel, by decide +kernel⟩, List.mem_of_getElem? (i := 749) (by decide +kernel), List.mem_of_getElem? (i := 956) (by decide +kernel), List.mem_of_getElem? (i := 957) (by decide +kernel)⟩
theorem lw_p38 : lw_okq (⟨"AsleepCotsModel", "swaps", "(III)V"⟩, 18) := ⟨⟨by decide +kernel, by decide +kernel⟩, List.mem_of_getElem? (i := 749) (by decide +kernel), List.mem_of_getElem? (i := 971) (by decide +kernel), List.mem_of_getElem? (i := 972) (by decide +kernel)⟩
theorem lw_p39 : lw_okq (⟨"AsleepCotsModel", "rolls", "(II)I"⟩, 18) := ⟨⟨by decide +kernel, by decide +kernel⟩, List.mem_of_getElem? (i := 749) (by decide +kernel), List.mem_of_getElem? (i := 980) (by decide +kernel), List.mem_of_getElem? (i := 981) (by decide +kernel)⟩
theorem lw_p40 : lw_okq (⟨"AsleepCotsModel", "tries", "()V"⟩, 18) := ⟨⟨by decide +kernel, by decide +kernel⟩, List.mem_of_getElem? (i := 749) (by decide +kernel), List.mem_of_getElem? (i := 1005) (by decide +kernel), List.mem_of_getElem? (i := 1006) (by decide +kernel)⟩
theorem lw_p41 : lw_okq (⟨"AsleepCotsModel", "goesOn", "(I)V"⟩, 18) := ⟨⟨by decide +kernel, by decide +kernel⟩, List.mem_of_getElem? (i := 749) (by decide +kernel), List.mem_of_getElem? (i := 1009) (by decide +kernel), List.mem_of_getElem? (i := 1010) (by decide +kernel)⟩
theorem lw_p42 : lw_okq (⟨"AsleepCotsModel", "allSleep", "(I)Z"⟩, 18) := ⟨⟨by decide +kernel, by decide +kernel⟩, List.mem_of_getElem? (i := 749) (by decide +kernel), List.mem_of_getElem? (i := 1026) (by decide +kernel), List.mem_of_getElem? (i := 1027) (by decide +kernel)⟩
theorem lw_p43 : lw_okq (⟨"AsleepCotsModel", "isLook", "(II)Z"⟩, 18) := ⟨⟨by decide +kernel, by decide +kernel⟩, List.mem_of_getElem? (i := 749) (by decide +kernel), List.mem_of_getElem? (i := 1038) (by decide +kernel), List.mem_of_getElem? (i := 1039) (by decide +kernel)⟩
theorem lw_p44 : lw_okq (⟨"AsleepCotsModel", "against", "(III)I"⟩, 18) := ⟨⟨by decide +kernel, by decide +kernel⟩, List.mem_of_getElem? (i := 749) (by decide +kernel), List.mem_of_getElem? (i := 1069) (by decide +kernel), List.mem_of_getElem? (i := 1070) (by decide +kernel)⟩
theorem lw_p45 : lw_okq (⟨"AsleepCotsModel", "isSo", "(II)Z"⟩, 18) := ⟨⟨by decide +kernel, by decide +kernel⟩, List.mem_of_getElem? (i := 749) (by decide +kernel), List.mem_of_getElem? (i := 1073) (by decide +kernel), List.mem_of_getElem? (i := 1074) (by decide +kernel)⟩
theorem lw_p46 : lw_okq (⟨"AsleepCotsModel", "size", "(I)I"⟩, 18) := ⟨⟨by decide +kernel, by decide +kernel⟩, List.mem_of_getElem? (i := 749) (by decide +kernel), List.mem_of_getElem? (i := 1119) (by decide +kernel), List.mem_of_getElem? (i := 1120) (by decide +kernel)⟩
theorem lw_p47 : lw_okq (⟨"AsleepCotsModel", "begins", "(I)V"⟩, 18) := ⟨⟨by decide +kernel, by decide +kernel⟩, List.mem_of_getElem? (i := 749) (by decide +kernel), List.mem_of_getElem? (i := 1123) (by decide +kernel), List.mem_of_getElem? (i := 1124) (by decide +kernel)⟩
def lw_privs_3 : List (MethodName × Nat) := [(⟨"AsleepCotsModel", "bears", "(II)I"⟩, 18), (⟨"AsleepCotsModel", "weepsOn", "(III)V"⟩, 18), (⟨"AsleepCotsModel", "liesOn", "(IIZ)V"⟩, 18), (⟨"AsleepCotsModel", "wakesUp", "(II)V"⟩, 18), (⟨"AsleepCotsModel", "thoseWho", "(II)I"⟩, 18), (⟨"AsleepCotsModel", "isChild", "(I)Z"⟩, 18), (⟨"AsleepCotsModel", "swaps", "(III)V"⟩, 18), (⟨"AsleepCotsModel", "rolls", "(II)I"⟩, 18), (⟨"AsleepCotsModel", "tries", "()V"⟩, 18), (⟨"AsleepCotsModel", "goesOn", "(I)V"⟩, 18), (⟨"AsleepCotsModel", "allSleep", "(I)Z"⟩, 18), (⟨"AsleepCotsModel", "isLook", "(II)Z"⟩, 18), (⟨"AsleepCotsModel", "against", "(III)I"⟩, 18), (⟨"AsleepCotsModel", "isSo", "(II)Z"⟩, 18), (⟨"AsleepCotsModel", "size", "(I)I"⟩, 18), (⟨"AsleepCotsModel", "begins", "(I)V"⟩, 18)]
theorem lw_r3 : ∀ q ∈ lw_privs_3, lw_okq q := List.forall_mem_cons.mpr ⟨lw_p32, List.forall_mem_cons.mpr ⟨lw_p33, List.forall_mem_cons.mpr ⟨lw_p34, List.forall_mem_cons.mpr ⟨lw_p35, List.forall_mem_cons.mpr ⟨lw_p36, List.forall_mem_cons.mpr ⟨lw_p37, List.forall_mem_cons.mpr ⟨lw_p38, List.forall_mem_cons.mpr ⟨lw_p39, List.forall_mem_cons.mpr ⟨lw_p40, List.forall_mem_cons.mpr ⟨lw_p41, List.forall_mem_cons.mpr ⟨lw_p42, List.forall_mem_cons.mpr ⟨lw_p43, List.forall_mem_cons.mpr ⟨lw_p44, List.forall_mem_cons.mpr ⟨lw_p45, List.forall_mem_cons.mpr ⟨lw_p46, List.forall_mem_cons.mpr ⟨lw_p47, fun _ h => absurd h List.not_mem_nil⟩⟩⟩⟩⟩⟩⟩⟩⟩⟩⟩⟩⟩⟩⟩⟩
theorem lw_p48 : lw_okq (⟨"AsleepCotsModel", "sizePlain", "(I)I"⟩, 18) := ⟨⟨by decide +kernel, by decide +kernel⟩, List.mem_of_getElem? (i := 749) (by decide +kernel), List.mem_of_getElem? (i := 1127) (by decide +kernel), List.mem_of_getElem? (i := 1128) (by decide +kernel)⟩
theorem lw_p49 : lw_okq (⟨"AsleepCotsModel", "mark", "(I)I"⟩, 18) := ⟨⟨by decide +kernel, by decide +kernel⟩, List.mem_of_getElem? (i := 749) (by decide +kernel), List.mem_of_getElem? (i := 1131) (by decide +kernel), List.mem_of_getElem? (i := 1132) (by decide +kernel)⟩
theorem lw_p50 : lw_okq (⟨"AsleepCotsModel", "markPlain", "(I)I"⟩, 18) := ⟨⟨by decide +kernel, by decide +kernel⟩, List.mem_of_getElem? (i := 749) (by decide +kernel), List.mem_of_getElem? (i := 1135) (by decide +kernel), List.mem_of_getElem? (i := 1136) (by decide +kernel)⟩
theorem lw_p51 : lw_okq (⟨"AsleepCotsModel", "markLent", "(I)I"⟩, 18) := ⟨⟨by decide +kernel, by decide +kernel⟩, List.mem_of_getElem? (i := 749) (by decide +kernel), List.mem_of_getElem? (i := 1139) (by decide +kernel), List.mem_of_getElem? (i := 1140) (by decide +kernel)⟩
theorem lw_p52 : lw_okq (⟨"AsleepCotsModel", "sizeDeep", "(IZ)I"⟩, 18) := ⟨⟨by decide +kernel, by decide +kernel⟩, List.mem_of_getElem? (i := 749) (by decide +kernel), List.mem_of_getElem? (i := 1143) (by decide +kernel), List.mem_of_getElem? (i := 1144) (by decide +kernel)⟩
def lw_privs_4 : List (MethodName × Nat) := [(⟨"AsleepCotsModel", "sizePlain", "(I)I"⟩, 18), (⟨"AsleepCotsModel", "mark", "(I)I"⟩, 18), (⟨"AsleepCotsModel", "markPlain", "(I)I"⟩, 18), (⟨"AsleepCotsModel", "markLent", "(I)I"⟩, 18), (⟨"AsleepCotsModel", "sizeDeep", "(IZ)I"⟩, 18)]
theorem lw_r4 : ∀ q ∈ lw_privs_4, lw_okq q := List.forall_mem_cons.mpr ⟨lw_p48, List.forall_mem_cons.mpr ⟨lw_p49, List.forall_mem_cons.mpr ⟨lw_p50, List.forall_mem_cons.mpr ⟨lw_p51, List.forall_mem_cons.mpr ⟨lw_p52, fun _ h => absurd h List.not_mem_nil⟩⟩⟩⟩⟩
def lw_privs : List (MethodName × Nat) := lw_privs_1 ++ (lw_privs_2 ++ (lw_privs_3 ++ (lw_privs_4)))
def lw_tbl : List Cond := k2_sels lw_privs ++ tables_1
theorem lw_privs_ok : ∀ q ∈ lw_privs, lw_okq q := by
  show ∀ q ∈ lw_privs_1 ++ (lw_privs_2 ++ (lw_privs_3 ++ (lw_privs_4))), lw_okq q
  exact List.forall_mem_append.mpr ⟨lw_r1, List.forall_mem_append.mpr ⟨lw_r2, List.forall_mem_append.mpr ⟨lw_r3, lw_r4⟩⟩⟩
end
section
/-! names, printed from the claim's own names -/
def RX0 : String := "AsleepCots$Asks"
def TX0 : u_T := fun k => match k with
  | 0 => ("AsleepCots$Asks", "numbers", "[I", true)
  | 1 => ("AsleepCots$Asks", "traced", "I", false)
  | 2 => ("AsleepCots$Asks", "number", "I", false)
  | 3 => ("AsleepCots$Asks", "need", "I", false)
  | 4 => ("AsleepCots$Asks", "noise", "I", false)
  | 5 => ("AsleepCots$Asks", "sizeBody", "I", false)
  | _ => ("AsleepCots$Asks", "markBody", "I", false)
def tyX0 : Nat → FieldType := fun k => match k with
  | 0 => .array .int
  | 1 => .int
  | 2 => .int
  | 3 => .int
  | 4 => .int
  | 5 => .int
  | _ => .int
theorem nmX0 : ∀ a, a < 7 → ∀ b, b < 7 → a ≠ b → (TX0 a).2.1 ≠ (TX0 b).2.1 := by decide +kernel
theorem tyX0_ok : ∀ k, k < 7 → parseFieldDescriptor (TX0 k).2.2.1 = some (tyX0 k) := by decide +kernel
abbrev cX0_init : ByteArray := prog_2_method_1_code
def yX0_init : MethodName := ⟨RX0, "<init>", "()V"⟩
abbrev cX0_answer : ByteArray := prog_2_method_2_code
def yX0_answer : MethodName := ⟨RX0, "answer", "(LAsleepCots$Room;II)I"⟩
abbrev cX0_nearest : ByteArray := prog_2_method_3_code
def yX0_nearest : MethodName := ⟨RX0, "nearest", "([II)I"⟩
abbrev cX0_give : ByteArray := prog_2_method_4_code
def yX0_give : MethodName := ⟨RX0, "give", "(II)I"⟩
abbrev cX0_leave : ByteArray := prog_2_method_5_code
def yX0_leave : MethodName := ⟨RX0, "leave", "(I)V"⟩
def RX1 : String := "AsleepCots$Foresight"
def TX1 : u_T := fun k => match k with
  | 0 => ("AsleepCots$Foresight", "trial", "LAsleepCots$Room;", true)
  | 1 => ("AsleepCots$Foresight", "branches", "[LAsleepCots$Room;", true)
  | 2 => ("AsleepCots$Foresight", "told", "[I", true)
  | 3 => ("AsleepCots$Foresight", "toldMinutes", "I", false)
  | 4 => ("AsleepCots$Foresight", "planned", "I", false)
  | 5 => ("AsleepCots$Foresight", "plannedSleepers", "I", false)
  | 6 => ("AsleepCots$Foresight", "casesAbove", "J", false)
  | _ => ("AsleepCots$Foresight", "casesBelow", "J", false)
def tyX1 : Nat → FieldType := fun k => match k with
  | 0 => .object "AsleepCots$Room"
  | 1 => .array (.object "AsleepCots$Room")
  | 2 => .array .int
  | 3 => .int
  | 4 => .int
  | 5 => .int
  | 6 => .long
  | _ => .long
theorem nmX1 : ∀ a, a < 8 → ∀ b, b < 8 → a ≠ b → (TX1 a).2.1 ≠ (TX1 b).2.1 := by decide +kernel
theorem tyX1_ok : ∀ k, k < 8 → parseFieldDescriptor (TX1 k).2.2.1 = some (tyX1 k) := by decide +kernel
abbrev cX1_init : ByteArray := prog_3_method_1_code
def yX1_init : MethodName := ⟨RX1, "<init>", "()V"⟩
abbrev cX1_after : ByteArray := prog_3_method_2_code
def yX1_after : MethodName := ⟨RX1, "after", "(LAsleepCots$Room;I)LAsleepCots$Room;"⟩
abbrev cX1_firstAsleep : ByteArray := prog_3_method_3_code
def yX1_firstAsleep : MethodName := ⟨RX1, "firstAsleep", "(LAsleepCots$Room;I)I"⟩
abbrev cX1_longestDinner : ByteArray := prog_3_method_4_code
def yX1_longestDinner : MethodName := ⟨RX1, "longestDinner", "(LAsleepCots$Room;I)I"⟩
abbrev cX1_planHands : ByteArray := prog_3_method_5_code
def yX1_planHands : MethodName := ⟨RX1, "planHands", "(LAsleepCots$Room;I)V"⟩
abbrev cX1_weighHands : ByteArray := prog_3_method_6_code
def yX1_weighHands : MethodName := ⟨RX1, "weighHands", "(II)V"⟩
abbrev cX1_fewestOut : ByteArray := prog_3_method_7_code
def yX1_fewestOut : MethodName := ⟨RX1, "fewestOut", "(LAsleepCots$Room;I)I"⟩
abbrev cX1_planChange : ByteArray := prog_3_method_8_code
def yX1_planChange : MethodName := ⟨RX1, "planChange", "(LAsleepCots$Room;I)V"⟩
abbrev cX1_wokenBy : ByteArray := prog_3_method_9_code
def yX1_wokenBy : MethodName := ⟨RX1, "wokenBy", "(LAsleepCots$Room;I)I"⟩
abbrev cX1_tell : ByteArray := prog_3_method_10_code
def yX1_tell : MethodName := ⟨RX1, "tell", "(LAsleepCots$Row;II)V"⟩
abbrev cX1_goesAsTold : ByteArray := prog_3_method_11_code
def yX1_goesAsTold : MethodName := ⟨RX1, "goesAsTold", "()Z"⟩
abbrev cX1_fittingTraits : ByteArray := prog_3_method_12_code
def yX1_fittingTraits : MethodName := ⟨RX1, "fittingTraits", "(LAsleepCots$Room;II)I"⟩
abbrev cX1_traitsOf : ByteArray := prog_3_method_13_code
def yX1_traitsOf : MethodName := ⟨RX1, "traitsOf", "(LAsleepCots$Room;I)[I"⟩
abbrev cX1_fittingHands : ByteArray := prog_3_method_14_code
def yX1_fittingHands : MethodName := ⟨RX1, "fittingHands", "(LAsleepCots$Room;)I"⟩
abbrev cX1_countCases : ByteArray := prog_3_method_15_code
def yX1_countCases : MethodName := ⟨RX1, "countCases", "(LAsleepCots$Room;III)V"⟩
abbrev cX1_casesAsleep : ByteArray := prog_3_method_16_code
def yX1_casesAsleep : MethodName := ⟨RX1, "casesAsleep", "(IIII)J"⟩
abbrev cX1_cancel : ByteArray := prog_3_method_17_code
def yX1_cancel : MethodName := ⟨RX1, "cancel", "(I)V"⟩
abbrev cX1_cancelBy : ByteArray := prog_3_method_18_code
def yX1_cancelBy : MethodName := ⟨RX1, "cancelBy", "(I)V"⟩
abbrev cX1_drawDay : ByteArray := prog_3_method_19_code
def yX1_drawDay : MethodName := ⟨RX1, "drawDay", "(LAsleepCots$Room;II)I"⟩
def RX2 : String := "AsleepCots$Past"
def TX2 : u_T := fun k => match k with
  | 0 => ("AsleepCots$Past", "kept", "[LAsleepCots$Room;", true)
  | 1 => ("AsleepCots$Past", "next", "I", false)
  | _ => ("AsleepCots$Past", "size", "I", false)
def tyX2 : Nat → FieldType := fun k => match k with
  | 0 => .array (.object "AsleepCots$Room")
  | 1 => .int
  | _ => .int
theorem nmX2 : ∀ a, a < 3 → ∀ b, b < 3 → a ≠ b → (TX2 a).2.1 ≠ (TX2 b).2.1 := by decide +kernel
theorem tyX2_ok : ∀ k, k < 3 → parseFieldDescriptor (TX2 k).2.2.1 = some (tyX2 k) := by decide +kernel
abbrev cX2_init : ByteArray := prog_4_method_1_code
def yX2_init : MethodName := ⟨RX2, "<init>", "()V"⟩
abbrev cX2_keep : ByteArray := prog_4_method_2_code
def yX2_keep : MethodName := ⟨RX2, "keep", "(LAsleepCots$Room;)V"⟩
abbrev cX2_bringBack : ByteArray := prog_4_method_3_code
def yX2_bringBack : MethodName := ⟨RX2, "bringBack", "(LAsleepCots$Room;)V"⟩
abbrev cX2_forget : ByteArray := prog_4_method_4_code
def yX2_forget : MethodName := ⟨RX2, "forget", "()V"⟩
def RX3 : String := "AsleepCots$Room"
def TX3 : u_T := fun k => match k with
  | 0 => ("AsleepCots$Room", "children", "I", false)
  | 1 => ("AsleepCots$Room", "women", "I", false)
  | 2 => ("AsleepCots$Room", "cryingTime", "I", false)
  | 3 => ("AsleepCots$Room", "minute", "I", false)
  | 4 => ("AsleepCots$Room", "held", "I", false)
  | 5 => ("AsleepCots$Room", "away", "I", false)
  | 6 => ("AsleepCots$Room", "kinds", "[I", true)
  | 7 => ("AsleepCots$Room", "needs", "[I", true)
  | 8 => ("AsleepCots$Room", "holds", "[I", true)
  | 9 => ("AsleepCots$Room", "voices", "[I", true)
  | 10 => ("AsleepCots$Room", "cots", "[I", true)
  | 11 => ("AsleepCots$Room", "states", "[I", true)
  | 12 => ("AsleepCots$Room", "criesFor", "[I", true)
  | _ => ("AsleepCots$Room", "calms", "[I", true)
def tyX3 : Nat → FieldType := fun k => match k with
  | 0 => .int
  | 1 => .int
  | 2 => .int
  | 3 => .int
  | 4 => .int
  | 5 => .int
  | 6 => .array .int
  | 7 => .array .int
  | 8 => .array .int
  | 9 => .array .int
  | 10 => .array .int
  | 11 => .array .int
  | 12 => .array .int
  | _ => .array .int
theorem nmX3 : ∀ a, a < 14 → ∀ b, b < 14 → a ≠ b → (TX3 a).2.1 ≠ (TX3 b).2.1 := by decide +kernel
theorem tyX3_ok : ∀ k, k < 14 → parseFieldDescriptor (TX3 k).2.2.1 = some (tyX3 k) := by decide +kernel
abbrev cX3_init : ByteArray := prog_5_method_1_code
def yX3_init : MethodName := ⟨RX3, "<init>", "()V"⟩
abbrev cX3_clear : ByteArray := prog_5_method_2_code
def yX3_clear : MethodName := ⟨RX3, "clear", "()V"⟩
abbrev cX3_addChild : ByteArray := prog_5_method_3_code
def yX3_addChild : MethodName := ⟨RX3, "addChild", "(I)V"⟩
abbrev cX3_become : ByteArray := prog_5_method_4_code
def yX3_become : MethodName := ⟨RX3, "become", "(LAsleepCots$Room;)V"⟩
abbrev cX3_everybody : ByteArray := prog_5_method_5_code
def yX3_everybody : MethodName := ⟨RX3, "everybody", "()I"⟩
abbrev cX3_thoseWho : ByteArray := prog_5_method_6_code
def yX3_thoseWho : MethodName := ⟨RX3, "thoseWho", "(I)I"⟩
abbrev cX3_sleepAll : ByteArray := prog_5_method_7_code
def yX3_sleepAll : MethodName := ⟨RX3, "sleepAll", "(I)Z"⟩
abbrev cX3_heardCriers : ByteArray := prog_5_method_8_code
def yX3_heardCriers : MethodName := ⟨RX3, "heardCriers", "()I"⟩
abbrev cX3_noiseAt : ByteArray := prog_5_method_9_code
def yX3_noiseAt : MethodName := ⟨RX3, "noiseAt", "(II)I"⟩
abbrev cX3_callsOf : ByteArray := prog_5_method_10_code
def yX3_callsOf : MethodName := ⟨RX3, "callsOf", "(I)I"⟩
abbrev cX3_bearsOf : ByteArray := prog_5_method_11_code
def yX3_bearsOf : MethodName := ⟨RX3, "bearsOf", "(I)I"⟩
abbrev cX3_whereLoudest : ByteArray := prog_5_method_12_code
def yX3_whereLoudest : MethodName := ⟨RX3, "whereLoudest", "()I"⟩
abbrev cX3_loudestUnheeded : ByteArray := prog_5_method_13_code
def yX3_loudestUnheeded : MethodName := ⟨RX3, "loudestUnheeded", "()I"⟩
abbrev cX3_lieDown : ByteArray := prog_5_method_14_code
def yX3_lieDown : MethodName := ⟨RX3, "lieDown", "(I)V"⟩
abbrev cX3_cry : ByteArray := prog_5_method_15_code
def yX3_cry : MethodName := ⟨RX3, "cry", "(I)V"⟩
abbrev cX3_wake : ByteArray := prog_5_method_16_code
def yX3_wake : MethodName := ⟨RX3, "wake", "(I)V"⟩
abbrev cX3_swapCots : ByteArray := prog_5_method_17_code
def yX3_swapCots : MethodName := ⟨RX3, "swapCots", "(II)V"⟩
abbrev cX3_passLorry : ByteArray := prog_5_method_18_code
def yX3_passLorry : MethodName := ⟨RX3, "passLorry", "(I)I"⟩
abbrev cX3_passMinutes : ByteArray := prog_5_method_19_code
def yX3_passMinutes : MethodName := ⟨RX3, "passMinutes", "(I)V"⟩
abbrev cX3_passMinute : ByteArray := prog_5_method_20_code
def yX3_passMinute : MethodName := ⟨RX3, "passMinute", "()Z"⟩
abbrev cX3_calmDown : ByteArray := prog_5_method_21_code
def yX3_calmDown : MethodName := ⟨RX3, "calmDown", "(I)V"⟩
abbrev cX3_listen : ByteArray := prog_5_method_22_code
def yX3_listen : MethodName := ⟨RX3, "listen", "(IZ)Z"⟩
abbrev cX3_calmGained : ByteArray := prog_5_method_23_code
def yX3_calmGained : MethodName := ⟨RX3, "calmGained", "(I)I"⟩
def RX4 : String := "AsleepCots$Row"
def TX4 : u_T := fun k => match k with
  | 0 => ("AsleepCots$Row", "items", "[I", true)
  | 1 => ("AsleepCots$Row", "lane", "I", false)
  | _ => ("AsleepCots$Row", "size", "I", false)
def tyX4 : Nat → FieldType := fun k => match k with
  | 0 => .array .int
  | 1 => .int
  | _ => .int
theorem nmX4 : ∀ a, a < 3 → ∀ b, b < 3 → a ≠ b → (TX4 a).2.1 ≠ (TX4 b).2.1 := by decide +kernel
theorem tyX4_ok : ∀ k, k < 3 → parseFieldDescriptor (TX4 k).2.2.1 = some (tyX4 k) := by decide +kernel
abbrev cX4_init : ByteArray := prog_6_method_1_code
def yX4_init : MethodName := ⟨RX4, "<init>", "()V"⟩
abbrev cX4_begin : ByteArray := prog_6_method_2_code
def yX4_begin : MethodName := ⟨RX4, "begin", "(II)V"⟩
abbrev cX4_narrowed : ByteArray := prog_6_method_3_code
def yX4_narrowed : MethodName := ⟨RX4, "narrowed", "(I)I"⟩
abbrev cX4_lacks : ByteArray := prog_6_method_4_code
def yX4_lacks : MethodName := ⟨RX4, "lacks", "(II)Z"⟩
abbrev cX4_findingFor : ByteArray := prog_6_method_5_code
def yX4_findingFor : MethodName := ⟨RX4, "findingFor", "(II)I"⟩
def RX5 : String := "AsleepCots$Tape"
def TX5 : u_T := fun k => match k with
  | 0 => ("AsleepCots$Tape", "bytes", "[I", true)
  | 1 => ("AsleepCots$Tape", "length", "I", false)
  | _ => ("AsleepCots$Tape", "faultRead", "I", false)
def tyX5 : Nat → FieldType := fun k => match k with
  | 0 => .array .int
  | 1 => .int
  | _ => .int
theorem nmX5 : ∀ a, a < 3 → ∀ b, b < 3 → a ≠ b → (TX5 a).2.1 ≠ (TX5 b).2.1 := by decide +kernel
theorem tyX5_ok : ∀ k, k < 3 → parseFieldDescriptor (TX5 k).2.2.1 = some (tyX5 k) := by decide +kernel
abbrev cX5_init : ByteArray := prog_7_method_1_code
def yX5_init : MethodName := ⟨RX5, "<init>", "()V"⟩
abbrev cX5_readInto : ByteArray := prog_7_method_2_code
def yX5_readInto : MethodName := ⟨RX5, "readInto", "(LAsleepCots$Room;)I"⟩
abbrev cX5_widthAt : ByteArray := prog_7_method_3_code
def yX5_widthAt : MethodName := ⟨RX5, "widthAt", "(I)I"⟩
abbrev cX5_faultAt : ByteArray := prog_7_method_4_code
def yX5_faultAt : MethodName := ⟨RX5, "faultAt", "(IIII)I"⟩
abbrev cX5_canStand : ByteArray := prog_7_method_5_code
def yX5_canStand : MethodName := ⟨RX5, "canStand", "(II)Z"⟩
abbrev cX5_valueAt : ByteArray := prog_7_method_6_code
def yX5_valueAt : MethodName := ⟨RX5, "valueAt", "(II)I"⟩
abbrev cX5_put : ByteArray := prog_7_method_7_code
def yX5_put : MethodName := ⟨RX5, "put", "(LAsleepCots$Room;II)V"⟩
abbrev cX5_isFigure : ByteArray := prog_7_method_8_code
def yX5_isFigure : MethodName := ⟨RX5, "isFigure", "(I)Z"⟩
abbrev cX5_kindOf : ByteArray := prog_7_method_9_code
def yX5_kindOf : MethodName := ⟨RX5, "kindOf", "(I)I"⟩
def RX6 : String := "AsleepCots"
def TX6 : u_T := fun k => match k with
  | 0 => ("AsleepCots", "rows", "[LAsleepCots$Row;", true)
  | 1 => ("AsleepCots", "tape", "LAsleepCots$Tape;", true)
  | 2 => ("AsleepCots", "now", "LAsleepCots$Room;", true)
  | 3 => ("AsleepCots", "draft", "LAsleepCots$Room;", true)
  | 4 => ("AsleepCots", "images", "[LAsleepCots$Room;", true)
  | 5 => ("AsleepCots", "past", "LAsleepCots$Past;", true)
  | 6 => ("AsleepCots", "foresight", "LAsleepCots$Foresight;", true)
  | 7 => ("AsleepCots", "asks", "LAsleepCots$Asks;", true)
  | 8 => ("AsleepCots", "latestFault", "I", false)
  | _ => ("AsleepCots", "latestFinding", "I", false)
def tyX6 : Nat → FieldType := fun k => match k with
  | 0 => .array (.object "AsleepCots$Row")
  | 1 => .object "AsleepCots$Tape"
  | 2 => .object "AsleepCots$Room"
  | 3 => .object "AsleepCots$Room"
  | 4 => .array (.object "AsleepCots$Room")
  | 5 => .object "AsleepCots$Past"
  | 6 => .object "AsleepCots$Foresight"
  | 7 => .object "AsleepCots$Asks"
  | 8 => .int
  | _ => .int
theorem nmX6 : ∀ a, a < 10 → ∀ b, b < 10 → a ≠ b → (TX6 a).2.1 ≠ (TX6 b).2.1 := by decide +kernel
theorem tyX6_ok : ∀ k, k < 10 → parseFieldDescriptor (TX6 k).2.2.1 = some (tyX6 k) := by decide +kernel
abbrev cX6_init : ByteArray := prog_1_method_1_code
def yX6_init : MethodName := ⟨RX6, "<init>", "()V"⟩
abbrev cX6_row : ByteArray := prog_1_method_2_code
def yX6_row : MethodName := ⟨RX6, "row", "(III)I"⟩
abbrev cX6_set : ByteArray := prog_1_method_3_code
def yX6_set : MethodName := ⟨RX6, "set", "(III)I"⟩
abbrev cX6_copy : ByteArray := prog_1_method_4_code
def yX6_copy : MethodName := ⟨RX6, "copy", "(IIIII)I"⟩
abbrev cX6_drop : ByteArray := prog_1_method_5_code
def yX6_drop : MethodName := ⟨RX6, "drop", "(I)I"⟩
abbrev cX6_feed : ByteArray := prog_1_method_6_code
def yX6_feed : MethodName := ⟨RX6, "feed", "(I)I"⟩
abbrev cX6_room : ByteArray := prog_1_method_7_code
def yX6_room : MethodName := ⟨RX6, "room", "()I"⟩
abbrev cX6_fault : ByteArray := prog_1_method_8_code
def yX6_fault : MethodName := ⟨RX6, "fault", "()I"⟩
abbrev cX6_undo : ByteArray := prog_1_method_9_code
def yX6_undo : MethodName := ⟨RX6, "undo", "()I"⟩
abbrev cX6_minutes : ByteArray := prog_1_method_10_code
def yX6_minutes : MethodName := ⟨RX6, "minutes", "(I)I"⟩
abbrev cX6_hand : ByteArray := prog_1_method_11_code
def yX6_hand : MethodName := ⟨RX6, "hand", "(II)I"⟩
abbrev cX6_carry : ByteArray := prog_1_method_12_code
def yX6_carry : MethodName := ⟨RX6, "carry", "(II)I"⟩
abbrev cX6_change : ByteArray := prog_1_method_13_code
def yX6_change : MethodName := ⟨RX6, "change", "(II)I"⟩
abbrev cX6_lorry : ByteArray := prog_1_method_14_code
def yX6_lorry : MethodName := ⟨RX6, "lorry", "(I)I"⟩
abbrev cX6_need : ByteArray := prog_1_method_15_code
def yX6_need : MethodName := ⟨RX6, "need", "(II)I"⟩
abbrev cX6_child : ByteArray := prog_1_method_16_code
def yX6_child : MethodName := ⟨RX6, "child", "(II)I"⟩
abbrev cX6_stand : ByteArray := prog_1_method_17_code
def yX6_stand : MethodName := ⟨RX6, "stand", "(I)I"⟩
abbrev cX6_ahead : ByteArray := prog_1_method_18_code
def yX6_ahead : MethodName := ⟨RX6, "ahead", "(II)I"⟩
abbrev cX6_noise : ByteArray := prog_1_method_19_code
def yX6_noise : MethodName := ⟨RX6, "noise", "(II)I"⟩
abbrev cX6_asleep : ByteArray := prog_1_method_20_code
def yX6_asleep : MethodName := ⟨RX6, "asleep", "(I)I"⟩
abbrev cX6_allAsleep : ByteArray := prog_1_method_21_code
def yX6_allAsleep : MethodName := ⟨RX6, "allAsleep", "()I"⟩
abbrev cX6_dinner : ByteArray := prog_1_method_22_code
def yX6_dinner : MethodName := ⟨RX6, "dinner", "(I)I"⟩
abbrev cX6_hands : ByteArray := prog_1_method_23_code
def yX6_hands : MethodName := ⟨RX6, "hands", "(II)I"⟩
abbrev cX6_outs : ByteArray := prog_1_method_24_code
def yX6_outs : MethodName := ⟨RX6, "outs", "(II)I"⟩
abbrev cX6_best : ByteArray := prog_1_method_25_code
def yX6_best : MethodName := ⟨RX6, "best", "(II)I"⟩
abbrev cX6_silence : ByteArray := prog_1_method_26_code
def yX6_silence : MethodName := ⟨RX6, "silence", "()I"⟩
abbrev cX6_wakes : ByteArray := prog_1_method_27_code
def yX6_wakes : MethodName := ⟨RX6, "wakes", "(I)I"⟩
abbrev cX6_loudest : ByteArray := prog_1_method_28_code
def yX6_loudest : MethodName := ⟨RX6, "loudest", "()I"⟩
abbrev cX6_who : ByteArray := prog_1_method_29_code
def yX6_who : MethodName := ⟨RX6, "who", "(IIIII)I"⟩
abbrev cX6_held : ByteArray := prog_1_method_30_code
def yX6_held : MethodName := ⟨RX6, "held", "(III)I"⟩
abbrev cX6_lorries : ByteArray := prog_1_method_31_code
def yX6_lorries : MethodName := ⟨RX6, "lorries", "(IIII)J"⟩
abbrev cX6_drawn : ByteArray := prog_1_method_32_code
def yX6_drawn : MethodName := ⟨RX6, "drawn", "(III)I"⟩
abbrev cX6_image : ByteArray := prog_1_method_33_code
def yX6_image : MethodName := ⟨RX6, "image", "(I)I"⟩
abbrev cX6_restore : ByteArray := prog_1_method_34_code
def yX6_restore : MethodName := ⟨RX6, "restore", "(I)I"⟩
abbrev cX6_kind : ByteArray := prog_1_method_35_code
def yX6_kind : MethodName := ⟨RX6, "kind", "(I)I"⟩
abbrev cX6_as : ByteArray := prog_1_method_36_code
def yX6_as : MethodName := ⟨RX6, "as", "(II)I"⟩
abbrev cX6_ask : ByteArray := prog_1_method_37_code
def yX6_ask : MethodName := ⟨RX6, "ask", "(II)I"⟩
abbrev cX6_trace : ByteArray := prog_1_method_38_code
def yX6_trace : MethodName := ⟨RX6, "trace", "(I)I"⟩
abbrev cX6_count : ByteArray := prog_1_method_39_code
def yX6_count : MethodName := ⟨RX6, "count", "(I)I"⟩
abbrev cX6_status : ByteArray := prog_1_method_40_code
def yX6_status : MethodName := ⟨RX6, "status", "()I"⟩
abbrev cX6_found : ByteArray := prog_1_method_41_code
def yX6_found : MethodName := ⟨RX6, "found", "(I)I"⟩
abbrev cX6_foundNothing : ByteArray := prog_1_method_42_code
def yX6_foundNothing : MethodName := ⟨RX6, "foundNothing", "(I)I"⟩
abbrev cX6_noRoom : ByteArray := prog_1_method_43_code
def yX6_noRoom : MethodName := ⟨RX6, "noRoom", "()Z"⟩
abbrev cX6_noChild : ByteArray := prog_1_method_44_code
def yX6_noChild : MethodName := ⟨RX6, "noChild", "(I)Z"⟩
abbrev cX6_presentRows : ByteArray := prog_1_method_45_code
def yX6_presentRows : MethodName := ⟨RX6, "presentRows", "()I"⟩
abbrev cX6_noRow : ByteArray := prog_1_method_46_code
def yX6_noRow : MethodName := ⟨RX6, "noRow", "(I)Z"⟩
abbrev cX6_beyond : ByteArray := prog_1_method_47_code
def yX6_beyond : MethodName := ⟨RX6, "beyond", "(III)Z"⟩
abbrev cX6_has : ByteArray := prog_1_method_48_code
def yX6_has : MethodName := ⟨RX6, "has", "(II)Z"⟩
abbrev cX6_isOne : ByteArray := prog_1_method_49_code
def yX6_isOne : MethodName := ⟨RX6, "isOne", "(II)Z"⟩
def RX7 : String := "AsleepCotsModel"
def TX7 : u_T := fun k => match k with
  | 0 => ("AsleepCotsModel", "w", "[I", true)
  | 1 => ("AsleepCotsModel", "isKept", "[Z", true)
  | 2 => ("AsleepCotsModel", "acts", "[I", true)
  | 3 => ("AsleepCotsModel", "acted", "I", false)
  | 4 => ("AsleepCotsModel", "rows", "[I", true)
  | 5 => ("AsleepCotsModel", "rowSize", "[I", true)
  | 6 => ("AsleepCotsModel", "rowLane", "[I", true)
  | 7 => ("AsleepCotsModel", "status", "I", false)
  | 8 => ("AsleepCotsModel", "tape", "[I", true)
  | 9 => ("AsleepCotsModel", "taped", "I", false)
  | 10 => ("AsleepCotsModel", "faulty", "I", false)
  | 11 => ("AsleepCotsModel", "trace", "[I", true)
  | 12 => ("AsleepCotsModel", "traced", "I", false)
  | 13 => ("AsleepCotsModel", "held", "[I", true)
  | 14 => ("AsleepCotsModel", "at", "I", false)
  | 15 => ("AsleepCotsModel", "number", "I", false)
  | 16 => ("AsleepCotsModel", "faultAt", "I", false)
  | _ => ("AsleepCotsModel", "hears", "[Z", true)
def tyX7 : Nat → FieldType := fun k => match k with
  | 0 => .array .int
  | 1 => .array .boolean
  | 2 => .array .int
  | 3 => .int
  | 4 => .array .int
  | 5 => .array .int
  | 6 => .array .int
  | 7 => .int
  | 8 => .array .int
  | 9 => .int
  | 10 => .int
  | 11 => .array .int
  | 12 => .int
  | 13 => .array .int
  | 14 => .int
  | 15 => .int
  | 16 => .int
  | _ => .array .boolean
theorem nmX7 : ∀ a, a < 18 → ∀ b, b < 18 → a ≠ b → (TX7 a).2.1 ≠ (TX7 b).2.1 := by decide +kernel
theorem tyX7_ok : ∀ k, k < 18 → parseFieldDescriptor (TX7 k).2.2.1 = some (tyX7 k) := by decide +kernel
abbrev cX7_init : ByteArray := prog_9_method_1_code
def yX7_init : MethodName := ⟨RX7, "<init>", "()V"⟩
abbrev cX7_in : ByteArray := prog_9_method_3_code
def yX7_in : MethodName := ⟨RX7, "in", "(JJJ)Z"⟩
abbrev cX7_has : ByteArray := prog_9_method_4_code
def yX7_has : MethodName := ⟨RX7, "has", "(II)Z"⟩
abbrev cX7_ones : ByteArray := prog_9_method_5_code
def yX7_ones : MethodName := ⟨RX7, "ones", "(I)I"⟩
abbrev cX7_found : ByteArray := prog_9_method_6_code
def yX7_found : MethodName := ⟨RX7, "found", "(I)I"⟩
abbrev cX7_good : ByteArray := prog_9_method_7_code
def yX7_good : MethodName := ⟨RX7, "good", "(I)I"⟩
abbrev cX7_isRow : ByteArray := prog_9_method_8_code
def yX7_isRow : MethodName := ⟨RX7, "isRow", "(I)Z"⟩
abbrev cX7_row : ByteArray := prog_9_method_9_code
def yX7_row : MethodName := ⟨RX7, "row", "(III)I"⟩
abbrev cX7_set : ByteArray := prog_9_method_10_code
def yX7_set : MethodName := ⟨RX7, "set", "(III)I"⟩
abbrev cX7_fits : ByteArray := prog_9_method_11_code
def yX7_fits : MethodName := ⟨RX7, "fits", "(III)Z"⟩
abbrev cX7_copy : ByteArray := prog_9_method_12_code
def yX7_copy : MethodName := ⟨RX7, "copy", "(IIIII)I"⟩
abbrev cX7_drop : ByteArray := prog_9_method_13_code
def yX7_drop : MethodName := ⟨RX7, "drop", "(I)I"⟩
abbrev cX7_against : ByteArray := prog_9_method_14_code
def yX7_against : MethodName := ⟨RX7, "against", "(III)I"⟩
abbrev cX7_feed : ByteArray := prog_9_method_15_code
def yX7_feed : MethodName := ⟨RX7, "feed", "(I)I"⟩
abbrev cX7_byteAt : ByteArray := prog_9_method_16_code
def yX7_byteAt : MethodName := ⟨RX7, "byteAt", "(I)I"⟩
abbrev cX7_fails : ByteArray := prog_9_method_17_code
def yX7_fails : MethodName := ⟨RX7, "fails", "(II)Z"⟩
abbrev cX7_takes : ByteArray := prog_9_method_18_code
def yX7_takes : MethodName := ⟨RX7, "takes", "(I)Z"⟩
abbrev cX7_takesNumber : ByteArray := prog_9_method_19_code
def yX7_takesNumber : MethodName := ⟨RX7, "takesNumber", "(III)Z"⟩
abbrev cX7_takesLaw : ByteArray := prog_9_method_20_code
def yX7_takesLaw : MethodName := ⟨RX7, "takesLaw", "()Z"⟩
abbrev cX7_kindOf : ByteArray := prog_9_method_21_code
def yX7_kindOf : MethodName := ⟨RX7, "kindOf", "(I)I"⟩
abbrev cX7_takesChild : ByteArray := prog_9_method_22_code
def yX7_takesChild : MethodName := ⟨RX7, "takesChild", "()Z"⟩
abbrev cX7_copyAll : ByteArray := prog_9_method_23_code
def yX7_copyAll : MethodName := ⟨RX7, "copyAll", "(II)V"⟩
abbrev cX7_room : ByteArray := prog_9_method_24_code
def yX7_room : MethodName := ⟨RX7, "room", "()I"⟩
abbrev cX7_fault : ByteArray := prog_9_method_25_code
def yX7_fault : MethodName := ⟨RX7, "fault", "()I"⟩
abbrev cX7_isRoom : ByteArray := prog_9_method_26_code
def yX7_isRoom : MethodName := ⟨RX7, "isRoom", "()Z"⟩
abbrev cX7_isChild : ByteArray := prog_9_method_27_code
def yX7_isChild : MethodName := ⟨RX7, "isChild", "(I)Z"⟩
abbrev cX7_off : ByteArray := prog_9_method_28_code
def yX7_off : MethodName := ⟨RX7, "off", "(II)I"⟩
abbrev cX7_isOut : ByteArray := prog_9_method_29_code
def yX7_isOut : MethodName := ⟨RX7, "isOut", "(II)Z"⟩
abbrev cX7_noiseAt : ByteArray := prog_9_method_30_code
def yX7_noiseAt : MethodName := ⟨RX7, "noiseAt", "(II)I"⟩
abbrev cX7_bears : ByteArray := prog_9_method_31_code
def yX7_bears : MethodName := ⟨RX7, "bears", "(II)I"⟩
abbrev cX7_wakesUp : ByteArray := prog_9_method_32_code
def yX7_wakesUp : MethodName := ⟨RX7, "wakesUp", "(II)V"⟩
abbrev cX7_weepsOn : ByteArray := prog_9_method_33_code
def yX7_weepsOn : MethodName := ⟨RX7, "weepsOn", "(III)V"⟩
abbrev cX7_liesOn : ByteArray := prog_9_method_34_code
def yX7_liesOn : MethodName := ⟨RX7, "liesOn", "(IIZ)V"⟩
abbrev cX7_passes : ByteArray := prog_9_method_35_code
def yX7_passes : MethodName := ⟨RX7, "passes", "(I)V"⟩
abbrev cX7_rolls : ByteArray := prog_9_method_36_code
def yX7_rolls : MethodName := ⟨RX7, "rolls", "(II)I"⟩
abbrev cX7_thoseWho : ByteArray := prog_9_method_37_code
def yX7_thoseWho : MethodName := ⟨RX7, "thoseWho", "(II)I"⟩
abbrev cX7_allSleep : ByteArray := prog_9_method_38_code
def yX7_allSleep : MethodName := ⟨RX7, "allSleep", "(I)Z"⟩
abbrev cX7_minds : ByteArray := prog_9_method_39_code
def yX7_minds : MethodName := ⟨RX7, "minds", "()V"⟩
abbrev cX7_undo : ByteArray := prog_9_method_40_code
def yX7_undo : MethodName := ⟨RX7, "undo", "()I"⟩
abbrev cX7_minutes : ByteArray := prog_9_method_41_code
def yX7_minutes : MethodName := ⟨RX7, "minutes", "(I)I"⟩
abbrev cX7_hand : ByteArray := prog_9_method_42_code
def yX7_hand : MethodName := ⟨RX7, "hand", "(II)I"⟩
abbrev cX7_carry : ByteArray := prog_9_method_43_code
def yX7_carry : MethodName := ⟨RX7, "carry", "(II)I"⟩
abbrev cX7_swaps : ByteArray := prog_9_method_44_code
def yX7_swaps : MethodName := ⟨RX7, "swaps", "(III)V"⟩
abbrev cX7_change : ByteArray := prog_9_method_45_code
def yX7_change : MethodName := ⟨RX7, "change", "(II)I"⟩
abbrev cX7_lorry : ByteArray := prog_9_method_46_code
def yX7_lorry : MethodName := ⟨RX7, "lorry", "(I)I"⟩
abbrev cX7_need : ByteArray := prog_9_method_47_code
def yX7_need : MethodName := ⟨RX7, "need", "(II)I"⟩
abbrev cX7_child : ByteArray := prog_9_method_48_code
def yX7_child : MethodName := ⟨RX7, "child", "(II)I"⟩
abbrev cX7_stand : ByteArray := prog_9_method_49_code
def yX7_stand : MethodName := ⟨RX7, "stand", "(I)I"⟩
abbrev cX7_isSpan : ByteArray := prog_9_method_50_code
def yX7_isSpan : MethodName := ⟨RX7, "isSpan", "(II)Z"⟩
abbrev cX7_tries : ByteArray := prog_9_method_51_code
def yX7_tries : MethodName := ⟨RX7, "tries", "()V"⟩
abbrev cX7_goesOn : ByteArray := prog_9_method_52_code
def yX7_goesOn : MethodName := ⟨RX7, "goesOn", "(I)V"⟩
abbrev cX7_ahead : ByteArray := prog_9_method_53_code
def yX7_ahead : MethodName := ⟨RX7, "ahead", "(II)I"⟩
abbrev cX7_noise : ByteArray := prog_9_method_54_code
def yX7_noise : MethodName := ⟨RX7, "noise", "(II)I"⟩
abbrev cX7_asleep : ByteArray := prog_9_method_55_code
def yX7_asleep : MethodName := ⟨RX7, "asleep", "(I)I"⟩
abbrev cX7_allAsleep : ByteArray := prog_9_method_56_code
def yX7_allAsleep : MethodName := ⟨RX7, "allAsleep", "()I"⟩
abbrev cX7_dinner : ByteArray := prog_9_method_57_code
def yX7_dinner : MethodName := ⟨RX7, "dinner", "(I)I"⟩
abbrev cX7_isLook : ByteArray := prog_9_method_58_code
def yX7_isLook : MethodName := ⟨RX7, "isLook", "(II)Z"⟩
abbrev cX7_hands : ByteArray := prog_9_method_59_code
def yX7_hands : MethodName := ⟨RX7, "hands", "(II)I"⟩
abbrev cX7_outs : ByteArray := prog_9_method_60_code
def yX7_outs : MethodName := ⟨RX7, "outs", "(II)I"⟩
abbrev cX7_best : ByteArray := prog_9_method_61_code
def yX7_best : MethodName := ⟨RX7, "best", "(II)I"⟩
abbrev cX7_silence : ByteArray := prog_9_method_62_code
def yX7_silence : MethodName := ⟨RX7, "silence", "()I"⟩
abbrev cX7_wakes : ByteArray := prog_9_method_63_code
def yX7_wakes : MethodName := ⟨RX7, "wakes", "(I)I"⟩
abbrev cX7_loudest : ByteArray := prog_9_method_64_code
def yX7_loudest : MethodName := ⟨RX7, "loudest", "()I"⟩
abbrev cX7_isSo : ByteArray := prog_9_method_65_code
def yX7_isSo : MethodName := ⟨RX7, "isSo", "(II)Z"⟩
abbrev cX7_who : ByteArray := prog_9_method_66_code
def yX7_who : MethodName := ⟨RX7, "who", "(IIIII)I"⟩
abbrev cX7_held : ByteArray := prog_9_method_67_code
def yX7_held : MethodName := ⟨RX7, "held", "(III)I"⟩
abbrev cX7_lorries : ByteArray := prog_9_method_68_code
def yX7_lorries : MethodName := ⟨RX7, "lorries", "(IIII)J"⟩
abbrev cX7_drawn : ByteArray := prog_9_method_69_code
def yX7_drawn : MethodName := ⟨RX7, "drawn", "(III)I"⟩
abbrev cX7_image : ByteArray := prog_9_method_70_code
def yX7_image : MethodName := ⟨RX7, "image", "(I)I"⟩
abbrev cX7_restore : ByteArray := prog_9_method_71_code
def yX7_restore : MethodName := ⟨RX7, "restore", "(I)I"⟩
abbrev cX7_kind : ByteArray := prog_9_method_72_code
def yX7_kind : MethodName := ⟨RX7, "kind", "(I)I"⟩
abbrev cX7_as : ByteArray := prog_9_method_73_code
def yX7_as : MethodName := ⟨RX7, "as", "(II)I"⟩
abbrev cX7_begins : ByteArray := prog_9_method_74_code
def yX7_begins : MethodName := ⟨RX7, "begins", "(I)V"⟩
abbrev cX7_markLent : ByteArray := prog_9_method_75_code
def yX7_markLent : MethodName := ⟨RX7, "markLent", "(I)I"⟩
abbrev cX7_markPlain : ByteArray := prog_9_method_76_code
def yX7_markPlain : MethodName := ⟨RX7, "markPlain", "(I)I"⟩
abbrev cX7_sizeDeep : ByteArray := prog_9_method_77_code
def yX7_sizeDeep : MethodName := ⟨RX7, "sizeDeep", "(IZ)I"⟩
abbrev cX7_mark : ByteArray := prog_9_method_78_code
def yX7_mark : MethodName := ⟨RX7, "mark", "(I)I"⟩
abbrev cX7_sizePlain : ByteArray := prog_9_method_79_code
def yX7_sizePlain : MethodName := ⟨RX7, "sizePlain", "(I)I"⟩
abbrev cX7_size : ByteArray := prog_9_method_80_code
def yX7_size : MethodName := ⟨RX7, "size", "(I)I"⟩
abbrev cX7_ask : ByteArray := prog_9_method_81_code
def yX7_ask : MethodName := ⟨RX7, "ask", "(II)I"⟩
abbrev cX7_trace : ByteArray := prog_9_method_82_code
def yX7_trace : MethodName := ⟨RX7, "trace", "(I)I"⟩
abbrev cX7_count : ByteArray := prog_9_method_83_code
def yX7_count : MethodName := ⟨RX7, "count", "(I)I"⟩
abbrev cX7_status : ByteArray := prog_9_method_84_code
def yX7_status : MethodName := ⟨RX7, "status", "()I"⟩
def RJ6 : String := "java/lang/Integer"
abbrev cJ6_bitCount_0f7a4 : ByteArray := prog_10_method_49_code
def yJ6_bitCount_0f7a4 : MethodName := ⟨RJ6, "bitCount", "(I)I"⟩
def RJ9 : String := "java/lang/Math"
abbrev cJ9_abs_0f7a4 : ByteArray := prog_11_method_59_code
def yJ9_abs_0f7a4 : MethodName := ⟨RJ9, "abs", "(I)I"⟩
abbrev cJ9_max_7cf53 : ByteArray := prog_11_method_65_code
def yJ9_max_7cf53 : MethodName := ⟨RJ9, "max", "(II)I"⟩
abbrev cJ9_min_7cf53 : ByteArray := prog_11_method_69_code
def yJ9_min_7cf53 : MethodName := ⟨RJ9, "min", "(II)I"⟩
def RJ10 : String := "java/lang/System"
def RL : String := "AsleepCotsLaw"
abbrev cL_law : ByteArray := code
def yL_law : MethodName := ⟨RL, "law", "([I)Z"⟩
abbrev vwCl : List vw_C := [(RX0, TX0, 7), (RX1, TX1, 8), (RX2, TX2, 3), (RX3, TX3, 14), (RX4, TX4, 3), (RX5, TX5, 3), (RX6, TX6, 10), (RX7, TX7, 18)]
end
section
/-! the tables' words that travel with every method, and each of them by its place -/
def tg : List Cond := lw_tbl.filter goodWord
theorem tg_in {w : Cond} (h : w ∈ tables_1) (g : goodWord w = true) : w ∈ tg := List.mem_filter.mpr ⟨List.mem_append_right _ h, g⟩
theorem tg_1 {w : Cond} {i : Nat} (h : tables_1_1[i]? = some w) (g : goodWord w = true) : w ∈ tg := tg_in (List.mem_append_left _ (List.mem_of_getElem? h)) g
theorem tg_2 {w : Cond} {i : Nat} (h : tables_1_2[i]? = some w) (g : goodWord w = true) : w ∈ tg := tg_in (List.mem_append_right _ (List.mem_append_left _ (List.mem_of_getElem? h))) g
theorem tg_3 {w : Cond} {i : Nat} (h : tables_1_3[i]? = some w) (g : goodWord w = true) : w ∈ tg := tg_in (List.mem_append_right _ (List.mem_append_right _ (List.mem_append_left _ (List.mem_of_getElem? h)))) g
theorem tg_4 {w : Cond} {i : Nat} (h : tables_1_4[i]? = some w) (g : goodWord w = true) : w ∈ tg := tg_in (List.mem_append_right _ (List.mem_append_right _ (List.mem_append_right _ (List.mem_append_left _ (List.mem_of_getElem? h))))) g
theorem tg_5 {w : Cond} {i : Nat} (h : tables_1_5[i]? = some w) (g : goodWord w = true) : w ∈ tg := tg_in (List.mem_append_right _ (List.mem_append_right _ (List.mem_append_right _ (List.mem_append_right _ (List.mem_of_getElem? h))))) g
theorem tg_sel {q : MethodName × Nat} {i : Nat} (h : lw_privs[i]? = some q) (g : goodWord (Cond.selects q.1.cls q.1 q.1) = true) : Cond.selects q.1.cls q.1 q.1 ∈ tg := List.mem_filter.mpr ⟨List.mem_append_left _ (List.mem_map.mpr ⟨q, List.mem_of_getElem? h, rfl⟩), g⟩
theorem tg_good {w : Cond} (h : w ∈ tg) : goodWord w = true := (List.mem_filter.mp h).2
theorem tg_goodIn {y : MethodName} {b : ByteArray} {n : Nat} {r : Option FieldType} (h : Cond.code y b n r ∈ tg) : GoodIn tg (Cond.code y b n r :: tg) := by
  intro w hw
  rcases List.mem_cons.mp hw with e | e
  · subst e; exact ⟨h, good_of_word (tg_good h)⟩
  · exact ⟨e, good_of_word (tg_good e)⟩
theorem tw0 : (Cond.initialized "AsleepCotsLaw") ∈ tg := tg_1 (i := 0) rfl rfl
theorem tw1 : (Cond.initialized "AsleepCots") ∈ tg := tg_1 (i := 1) rfl rfl
theorem tw2 : (Cond.initialized "AsleepCots$Tape") ∈ tg := tg_1 (i := 2) rfl rfl
theorem tw3 : (Cond.initialized "AsleepCots$Room") ∈ tg := tg_1 (i := 3) rfl rfl
theorem tw4 : (Cond.initialized "AsleepCots$Past") ∈ tg := tg_1 (i := 4) rfl rfl
theorem tw5 : (Cond.initialized "AsleepCots$Foresight") ∈ tg := tg_1 (i := 5) rfl rfl
theorem tw6 : (Cond.initialized "AsleepCots$Asks") ∈ tg := tg_1 (i := 6) rfl rfl
theorem tw7 : (Cond.initialized "AsleepCots$Row") ∈ tg := tg_1 (i := 7) rfl rfl
theorem tw8 : (Cond.initialized "AsleepCotsModel") ∈ tg := tg_1 (i := 8) rfl rfl
theorem tw9 : (Cond.initialized "java/lang/System") ∈ tg := tg_1 (i := 9) rfl rfl
theorem tw10 : (Cond.initialized "java/lang/Math") ∈ tg := tg_1 (i := 10) rfl rfl
theorem tw11 : (Cond.initialized "java/lang/Integer") ∈ tg := tg_1 (i := 11) rfl rfl
theorem tw12 : (Cond.classLink "AsleepCotsLaw" (7) "AsleepCots") ∈ tg := tg_1 (i := 12) rfl rfl
theorem tw13 : (Cond.instantiable "AsleepCots" (10)) ∈ tg := tg_1 (i := 13) rfl rfl
theorem tw14 : (Cond.methodLink "AsleepCotsLaw" (9) yX6_init) ∈ tg := tg_1 (i := 14) rfl rfl
theorem tw15 : (Cond.instanceMethod yX6_init) ∈ tg := tg_1 (i := 15) rfl rfl
theorem tw16 : (Cond.code yX6_init prog_1_method_1_code (2) (none : Option FieldType)) ∈ tg := tg_1 (i := 16) rfl rfl
theorem tw17 : (Cond.methodLink "AsleepCots" (1) ⟨"java/lang/Object", "<init>", "()V"⟩) ∈ tg := tg_1 (i := 17) rfl rfl
theorem tw18 : (Cond.instanceMethod ⟨"java/lang/Object", "<init>", "()V"⟩) ∈ tg := tg_1 (i := 18) rfl rfl
theorem tw19 : (Cond.code ⟨"java/lang/Object", "<init>", "()V"⟩ object_method_1_code (1) (none : Option FieldType)) ∈ tg := tg_1 (i := 19) rfl rfl
theorem tw20 : (Cond.classLink "AsleepCots" (9) "AsleepCots$Row") ∈ tg := tg_1 (i := 20) rfl rfl
theorem tw22 : (Cond.classLink "AsleepCots" (15) "AsleepCots$Tape") ∈ tg := tg_1 (i := 22) rfl rfl
theorem tw23 : (Cond.instantiable "AsleepCots$Tape" (3)) ∈ tg := tg_1 (i := 23) rfl rfl
theorem tw25 : (Cond.instanceMethod yX5_init) ∈ tg := tg_1 (i := 25) rfl rfl
theorem tw26 : (Cond.code yX5_init prog_7_method_1_code (1) (none : Option FieldType)) ∈ tg := tg_1 (i := 26) rfl rfl
theorem tw27 : (Cond.methodLink "AsleepCots$Tape" (3) ⟨"java/lang/Object", "<init>", "()V"⟩) ∈ tg := tg_1 (i := 27) rfl rfl
theorem tw28 : (Cond.fieldLink "AsleepCots$Tape" (9) "AsleepCots$Tape" "bytes" "[I") ∈ tg := tg_1 (i := 28) rfl rfl
theorem tw29 : (Cond.fieldLink "AsleepCots" (110) "AsleepCots$Tape" "bytes" "[I") ∈ tg := tg_1 (i := 29) rfl rfl
theorem tw30 : (Cond.fieldLink "AsleepCots$Tape" (20) "AsleepCots$Tape" "length" "I") ∈ tg := tg_1 (i := 30) rfl rfl
theorem tw31 : (Cond.fieldLink "AsleepCots" (106) "AsleepCots$Tape" "length" "I") ∈ tg := tg_1 (i := 31) rfl rfl
theorem tw32 : (Cond.fieldLink "AsleepCots$Tape" (35) "AsleepCots$Tape" "faultRead" "I") ∈ tg := tg_1 (i := 32) rfl rfl
theorem tw33 : (Cond.fieldLink "AsleepCots" (117) "AsleepCots$Tape" "faultRead" "I") ∈ tg := tg_1 (i := 33) rfl rfl
theorem tw34 : (Cond.laysFinal "AsleepCots$Tape" "AsleepCots$Tape" "bytes" "[I") ∈ tg := tg_1 (i := 34) rfl rfl
theorem tw36 : (Cond.lays "AsleepCots$Tape" "AsleepCots$Tape" "length" "I") ∈ tg := tg_1 (i := 36) rfl rfl
theorem tw38 : (Cond.lays "AsleepCots$Tape" "AsleepCots$Tape" "faultRead" "I") ∈ tg := tg_1 (i := 38) rfl rfl
theorem tw41 : (Cond.arrayClass FieldType.int) ∈ tg := tg_1 (i := 41) rfl rfl
theorem tw42 : (Cond.classLink "AsleepCots" (22) "AsleepCots$Room") ∈ tg := tg_1 (i := 42) rfl rfl
theorem tw43 : (Cond.instantiable "AsleepCots$Room" (14)) ∈ tg := tg_1 (i := 43) rfl rfl
theorem tw45 : (Cond.instanceMethod yX3_init) ∈ tg := tg_1 (i := 45) rfl rfl
theorem tw46 : (Cond.code yX3_init prog_5_method_1_code (1) (none : Option FieldType)) ∈ tg := tg_1 (i := 46) rfl rfl
theorem tw47 : (Cond.methodLink "AsleepCots$Room" (3) ⟨"java/lang/Object", "<init>", "()V"⟩) ∈ tg := tg_1 (i := 47) rfl rfl
theorem tw48 : (Cond.fieldLink "AsleepCots$Room" (36) "AsleepCots$Room" "children" "I") ∈ tg := tg_1 (i := 48) rfl rfl
theorem tw49 : (Cond.fieldLink "AsleepCots$Tape" (28) "AsleepCots$Room" "children" "I") ∈ tg := tg_1 (i := 49) rfl rfl
theorem tw50 : (Cond.fieldLink "AsleepCots" (131) "AsleepCots$Room" "children" "I") ∈ tg := tg_1 (i := 50) rfl rfl
theorem tw51 : (Cond.fieldLink "AsleepCots$Foresight" (82) "AsleepCots$Room" "children" "I") ∈ tg := tg_1 (i := 51) rfl rfl
theorem tw52 : (Cond.fieldLink "AsleepCots$Room" (40) "AsleepCots$Room" "women" "I") ∈ tg := tg_1 (i := 52) rfl rfl
theorem tw53 : (Cond.fieldLink "AsleepCots$Foresight" (66) "AsleepCots$Room" "women" "I") ∈ tg := tg_1 (i := 53) rfl rfl
theorem tw54 : (Cond.fieldLink "AsleepCots$Tape" (75) "AsleepCots$Room" "women" "I") ∈ tg := tg_1 (i := 54) rfl rfl
theorem tw55 : (Cond.fieldLink "AsleepCots" (169) "AsleepCots$Room" "women" "I") ∈ tg := tg_1 (i := 55) rfl rfl
theorem tw56 : (Cond.fieldLink "AsleepCots$Room" (43) "AsleepCots$Room" "cryingTime" "I") ∈ tg := tg_1 (i := 56) rfl rfl
theorem tw57 : (Cond.fieldLink "AsleepCots$Tape" (78) "AsleepCots$Room" "cryingTime" "I") ∈ tg := tg_1 (i := 57) rfl rfl
theorem tw58 : (Cond.fieldLink "AsleepCots$Room" (46) "AsleepCots$Room" "minute" "I") ∈ tg := tg_1 (i := 58) rfl rfl
theorem tw59 : (Cond.fieldLink "AsleepCots" (143) "AsleepCots$Room" "minute" "I") ∈ tg := tg_1 (i := 59) rfl rfl
theorem tw60 : (Cond.fieldLink "AsleepCots$Room" (49) "AsleepCots$Room" "held" "I") ∈ tg := tg_1 (i := 60) rfl rfl
theorem tw61 : (Cond.fieldLink "AsleepCots$Foresight" (69) "AsleepCots$Room" "held" "I") ∈ tg := tg_1 (i := 61) rfl rfl
theorem tw62 : (Cond.fieldLink "AsleepCots" (158) "AsleepCots$Room" "held" "I") ∈ tg := tg_1 (i := 62) rfl rfl
theorem tw63 : (Cond.fieldLink "AsleepCots$Room" (52) "AsleepCots$Room" "away" "I") ∈ tg := tg_1 (i := 63) rfl rfl
theorem tw64 : (Cond.fieldLink "AsleepCots$Foresight" (47) "AsleepCots$Room" "away" "I") ∈ tg := tg_1 (i := 64) rfl rfl
theorem tw65 : (Cond.fieldLink "AsleepCots" (172) "AsleepCots$Room" "away" "I") ∈ tg := tg_1 (i := 65) rfl rfl
theorem tw66 : (Cond.fieldLink "AsleepCots$Room" (9) "AsleepCots$Room" "kinds" "[I") ∈ tg := tg_1 (i := 66) rfl rfl
theorem tw67 : (Cond.fieldLink "AsleepCots$Asks" (44) "AsleepCots$Room" "kinds" "[I") ∈ tg := tg_1 (i := 67) rfl rfl
theorem tw68 : (Cond.fieldLink "AsleepCots$Foresight" (120) "AsleepCots$Room" "kinds" "[I") ∈ tg := tg_1 (i := 68) rfl rfl
theorem tw69 : (Cond.fieldLink "AsleepCots" (282) "AsleepCots$Room" "kinds" "[I") ∈ tg := tg_1 (i := 69) rfl rfl
theorem tw70 : (Cond.fieldLink "AsleepCots$Room" (15) "AsleepCots$Room" "needs" "[I") ∈ tg := tg_1 (i := 70) rfl rfl
theorem tw71 : (Cond.fieldLink "AsleepCots$Asks" (22) "AsleepCots$Room" "needs" "[I") ∈ tg := tg_1 (i := 71) rfl rfl
theorem tw72 : (Cond.fieldLink "AsleepCots$Tape" (85) "AsleepCots$Room" "needs" "[I") ∈ tg := tg_1 (i := 72) rfl rfl
theorem tw73 : (Cond.fieldLink "AsleepCots$Foresight" (123) "AsleepCots$Room" "needs" "[I") ∈ tg := tg_1 (i := 73) rfl rfl
theorem tw74 : (Cond.fieldLink "AsleepCots" (184) "AsleepCots$Room" "needs" "[I") ∈ tg := tg_1 (i := 74) rfl rfl
theorem tw75 : (Cond.fieldLink "AsleepCots$Room" (18) "AsleepCots$Room" "holds" "[I") ∈ tg := tg_1 (i := 75) rfl rfl
theorem tw76 : (Cond.fieldLink "AsleepCots$Tape" (88) "AsleepCots$Room" "holds" "[I") ∈ tg := tg_1 (i := 76) rfl rfl
theorem tw77 : (Cond.fieldLink "AsleepCots$Foresight" (126) "AsleepCots$Room" "holds" "[I") ∈ tg := tg_1 (i := 77) rfl rfl
theorem tw78 : (Cond.fieldLink "AsleepCots" (187) "AsleepCots$Room" "holds" "[I") ∈ tg := tg_1 (i := 78) rfl rfl
theorem tw79 : (Cond.fieldLink "AsleepCots$Room" (21) "AsleepCots$Room" "voices" "[I") ∈ tg := tg_1 (i := 79) rfl rfl
theorem tw80 : (Cond.fieldLink "AsleepCots$Tape" (91) "AsleepCots$Room" "voices" "[I") ∈ tg := tg_1 (i := 80) rfl rfl
theorem tw81 : (Cond.fieldLink "AsleepCots$Foresight" (129) "AsleepCots$Room" "voices" "[I") ∈ tg := tg_1 (i := 81) rfl rfl
theorem tw82 : (Cond.fieldLink "AsleepCots" (190) "AsleepCots$Room" "voices" "[I") ∈ tg := tg_1 (i := 82) rfl rfl
theorem tw83 : (Cond.fieldLink "AsleepCots$Room" (24) "AsleepCots$Room" "cots" "[I") ∈ tg := tg_1 (i := 83) rfl rfl
theorem tw84 : (Cond.fieldLink "AsleepCots" (178) "AsleepCots$Room" "cots" "[I") ∈ tg := tg_1 (i := 84) rfl rfl
theorem tw85 : (Cond.fieldLink "AsleepCots$Room" (27) "AsleepCots$Room" "states" "[I") ∈ tg := tg_1 (i := 85) rfl rfl
theorem tw86 : (Cond.fieldLink "AsleepCots" (193) "AsleepCots$Room" "states" "[I") ∈ tg := tg_1 (i := 86) rfl rfl
theorem tw87 : (Cond.fieldLink "AsleepCots$Room" (30) "AsleepCots$Room" "criesFor" "[I") ∈ tg := tg_1 (i := 87) rfl rfl
theorem tw88 : (Cond.fieldLink "AsleepCots" (196) "AsleepCots$Room" "criesFor" "[I") ∈ tg := tg_1 (i := 88) rfl rfl
theorem tw89 : (Cond.fieldLink "AsleepCots$Room" (33) "AsleepCots$Room" "calms" "[I") ∈ tg := tg_1 (i := 89) rfl rfl
theorem tw90 : (Cond.fieldLink "AsleepCots" (199) "AsleepCots$Room" "calms" "[I") ∈ tg := tg_1 (i := 90) rfl rfl
theorem tw91 : (Cond.lays "AsleepCots$Room" "AsleepCots$Room" "children" "I") ∈ tg := tg_1 (i := 91) rfl rfl
theorem tw93 : (Cond.lays "AsleepCots$Room" "AsleepCots$Room" "women" "I") ∈ tg := tg_1 (i := 93) rfl rfl
theorem tw95 : (Cond.lays "AsleepCots$Room" "AsleepCots$Room" "cryingTime" "I") ∈ tg := tg_1 (i := 95) rfl rfl
theorem tw97 : (Cond.lays "AsleepCots$Room" "AsleepCots$Room" "minute" "I") ∈ tg := tg_1 (i := 97) rfl rfl
theorem tw99 : (Cond.lays "AsleepCots$Room" "AsleepCots$Room" "held" "I") ∈ tg := tg_1 (i := 99) rfl rfl
theorem tw101 : (Cond.lays "AsleepCots$Room" "AsleepCots$Room" "away" "I") ∈ tg := tg_1 (i := 101) rfl rfl
theorem tw103 : (Cond.laysFinal "AsleepCots$Room" "AsleepCots$Room" "kinds" "[I") ∈ tg := tg_1 (i := 103) rfl rfl
theorem tw105 : (Cond.laysFinal "AsleepCots$Room" "AsleepCots$Room" "needs" "[I") ∈ tg := tg_1 (i := 105) rfl rfl
theorem tw107 : (Cond.laysFinal "AsleepCots$Room" "AsleepCots$Room" "holds" "[I") ∈ tg := tg_1 (i := 107) rfl rfl
theorem tw109 : (Cond.laysFinal "AsleepCots$Room" "AsleepCots$Room" "voices" "[I") ∈ tg := tg_1 (i := 109) rfl rfl
theorem tw111 : (Cond.laysFinal "AsleepCots$Room" "AsleepCots$Room" "cots" "[I") ∈ tg := tg_1 (i := 111) rfl rfl
theorem tw113 : (Cond.laysFinal "AsleepCots$Room" "AsleepCots$Room" "states" "[I") ∈ tg := tg_1 (i := 113) rfl rfl
theorem tw115 : (Cond.laysFinal "AsleepCots$Room" "AsleepCots$Room" "criesFor" "[I") ∈ tg := tg_1 (i := 115) rfl rfl
theorem tw117 : (Cond.laysFinal "AsleepCots$Room" "AsleepCots$Room" "calms" "[I") ∈ tg := tg_1 (i := 117) rfl rfl
theorem tw121 : (Cond.classLink "AsleepCots" (36) "AsleepCots$Past") ∈ tg := tg_1 (i := 121) rfl rfl
theorem tw122 : (Cond.instantiable "AsleepCots$Past" (3)) ∈ tg := tg_1 (i := 122) rfl rfl
theorem tw123 : (Cond.methodLink "AsleepCots" (38) yX2_init) ∈ tg := tg_1 (i := 123) rfl rfl
theorem tw124 : (Cond.instanceMethod yX2_init) ∈ tg := tg_1 (i := 124) rfl rfl
theorem tw125 : (Cond.code yX2_init prog_4_method_1_code (2) (none : Option FieldType)) ∈ tg := tg_1 (i := 125) rfl rfl
theorem tw126 : (Cond.methodLink "AsleepCots$Past" (3) ⟨"java/lang/Object", "<init>", "()V"⟩) ∈ tg := tg_1 (i := 126) rfl rfl
theorem tw127 : (Cond.classLink "AsleepCots$Past" (9) "AsleepCots$Room") ∈ tg := tg_1 (i := 127) rfl rfl
theorem tw129 : (Cond.fieldLink "AsleepCots$Past" (11) "AsleepCots$Past" "kept" "[LAsleepCots$Room;") ∈ tg := tg_1 (i := 129) rfl rfl
theorem tw130 : (Cond.fieldLink "AsleepCots$Past" (18) "AsleepCots$Past" "next" "I") ∈ tg := tg_1 (i := 130) rfl rfl
theorem tw131 : (Cond.fieldLink "AsleepCots$Past" (26) "AsleepCots$Past" "size" "I") ∈ tg := tg_1 (i := 131) rfl rfl
theorem tw132 : (Cond.fieldLink "AsleepCots" (134) "AsleepCots$Past" "size" "I") ∈ tg := tg_1 (i := 132) rfl rfl
theorem tw133 : (Cond.laysFinal "AsleepCots$Past" "AsleepCots$Past" "kept" "[LAsleepCots$Room;") ∈ tg := tg_1 (i := 133) rfl rfl
theorem tw135 : (Cond.lays "AsleepCots$Past" "AsleepCots$Past" "next" "I") ∈ tg := tg_1 (i := 135) rfl rfl
theorem tw137 : (Cond.lays "AsleepCots$Past" "AsleepCots$Past" "size" "I") ∈ tg := tg_1 (i := 137) rfl rfl
theorem tw140 : (Cond.classLink "AsleepCots" (43) "AsleepCots$Foresight") ∈ tg := tg_1 (i := 140) rfl rfl
theorem tw141 : (Cond.instantiable "AsleepCots$Foresight" (8)) ∈ tg := tg_1 (i := 141) rfl rfl
theorem tw142 : (Cond.methodLink "AsleepCots" (45) yX1_init) ∈ tg := tg_1 (i := 142) rfl rfl
theorem tw143 : (Cond.instanceMethod yX1_init) ∈ tg := tg_1 (i := 143) rfl rfl
theorem tw144 : (Cond.code yX1_init prog_3_method_1_code (2) (none : Option FieldType)) ∈ tg := tg_1 (i := 144) rfl rfl
theorem tw145 : (Cond.methodLink "AsleepCots$Foresight" (3) ⟨"java/lang/Object", "<init>", "()V"⟩) ∈ tg := tg_1 (i := 145) rfl rfl
theorem tw146 : (Cond.classLink "AsleepCots$Foresight" (9) "AsleepCots$Room") ∈ tg := tg_1 (i := 146) rfl rfl
theorem tw148 : (Cond.fieldLink "AsleepCots$Foresight" (12) "AsleepCots$Foresight" "trial" "LAsleepCots$Room;") ∈ tg := tg_1 (i := 148) rfl rfl
theorem tw149 : (Cond.fieldLink "AsleepCots" (279) "AsleepCots$Foresight" "trial" "LAsleepCots$Room;") ∈ tg := tg_1 (i := 149) rfl rfl
theorem tw150 : (Cond.fieldLink "AsleepCots$Foresight" (18) "AsleepCots$Foresight" "branches" "[LAsleepCots$Room;") ∈ tg := tg_1 (i := 150) rfl rfl
theorem tw151 : (Cond.fieldLink "AsleepCots$Foresight" (22) "AsleepCots$Foresight" "told" "[I") ∈ tg := tg_1 (i := 151) rfl rfl
theorem tw152 : (Cond.fieldLink "AsleepCots$Foresight" (95) "AsleepCots$Foresight" "toldMinutes" "I") ∈ tg := tg_1 (i := 152) rfl rfl
theorem tw153 : (Cond.fieldLink "AsleepCots$Foresight" (79) "AsleepCots$Foresight" "planned" "I") ∈ tg := tg_1 (i := 153) rfl rfl
theorem tw154 : (Cond.fieldLink "AsleepCots" (230) "AsleepCots$Foresight" "planned" "I") ∈ tg := tg_1 (i := 154) rfl rfl
theorem tw155 : (Cond.fieldLink "AsleepCots$Foresight" (57) "AsleepCots$Foresight" "plannedSleepers" "I") ∈ tg := tg_1 (i := 155) rfl rfl
theorem tw156 : (Cond.fieldLink "AsleepCots" (227) "AsleepCots$Foresight" "plannedSleepers" "I") ∈ tg := tg_1 (i := 156) rfl rfl
theorem tw157 : (Cond.fieldLink "AsleepCots$Foresight" (136) "AsleepCots$Foresight" "casesAbove" "J") ∈ tg := tg_1 (i := 157) rfl rfl
theorem tw158 : (Cond.fieldLink "AsleepCots" (268) "AsleepCots$Foresight" "casesAbove" "J") ∈ tg := tg_1 (i := 158) rfl rfl
theorem tw159 : (Cond.fieldLink "AsleepCots$Foresight" (140) "AsleepCots$Foresight" "casesBelow" "J") ∈ tg := tg_1 (i := 159) rfl rfl
theorem tw160 : (Cond.fieldLink "AsleepCots" (272) "AsleepCots$Foresight" "casesBelow" "J") ∈ tg := tg_1 (i := 160) rfl rfl
theorem tw161 : (Cond.laysFinal "AsleepCots$Foresight" "AsleepCots$Foresight" "trial" "LAsleepCots$Room;") ∈ tg := tg_1 (i := 161) rfl rfl
theorem tw163 : (Cond.laysFinal "AsleepCots$Foresight" "AsleepCots$Foresight" "branches" "[LAsleepCots$Room;") ∈ tg := tg_1 (i := 163) rfl rfl
theorem tw165 : (Cond.laysFinal "AsleepCots$Foresight" "AsleepCots$Foresight" "told" "[I") ∈ tg := tg_1 (i := 165) rfl rfl
theorem tw167 : (Cond.lays "AsleepCots$Foresight" "AsleepCots$Foresight" "toldMinutes" "I") ∈ tg := tg_1 (i := 167) rfl rfl
theorem tw169 : (Cond.lays "AsleepCots$Foresight" "AsleepCots$Foresight" "planned" "I") ∈ tg := tg_1 (i := 169) rfl rfl
theorem tw171 : (Cond.lays "AsleepCots$Foresight" "AsleepCots$Foresight" "plannedSleepers" "I") ∈ tg := tg_1 (i := 171) rfl rfl
theorem tw173 : (Cond.lays "AsleepCots$Foresight" "AsleepCots$Foresight" "casesAbove" "J") ∈ tg := tg_1 (i := 173) rfl rfl
theorem tw175 : (Cond.lays "AsleepCots$Foresight" "AsleepCots$Foresight" "casesBelow" "J") ∈ tg := tg_1 (i := 175) rfl rfl
theorem tw178 : (Cond.classLink "AsleepCots" (50) "AsleepCots$Asks") ∈ tg := tg_1 (i := 178) rfl rfl
theorem tw179 : (Cond.instantiable "AsleepCots$Asks" (7)) ∈ tg := tg_1 (i := 179) rfl rfl
theorem tw181 : (Cond.instanceMethod yX0_init) ∈ tg := tg_1 (i := 181) rfl rfl
theorem tw182 : (Cond.code yX0_init prog_2_method_1_code (1) (none : Option FieldType)) ∈ tg := tg_1 (i := 182) rfl rfl
theorem tw183 : (Cond.methodLink "AsleepCots$Asks" (3) ⟨"java/lang/Object", "<init>", "()V"⟩) ∈ tg := tg_1 (i := 183) rfl rfl
theorem tw184 : (Cond.fieldLink "AsleepCots$Asks" (9) "AsleepCots$Asks" "numbers" "[I") ∈ tg := tg_1 (i := 184) rfl rfl
theorem tw185 : (Cond.fieldLink "AsleepCots" (294) "AsleepCots$Asks" "numbers" "[I") ∈ tg := tg_1 (i := 185) rfl rfl
theorem tw186 : (Cond.fieldLink "AsleepCots$Asks" (15) "AsleepCots$Asks" "traced" "I") ∈ tg := tg_1 (i := 186) rfl rfl
theorem tw187 : (Cond.fieldLink "AsleepCots" (291) "AsleepCots$Asks" "traced" "I") ∈ tg := tg_1 (i := 187) rfl rfl
theorem tw188 : (Cond.fieldLink "AsleepCots$Asks" (19) "AsleepCots$Asks" "number" "I") ∈ tg := tg_1 (i := 188) rfl rfl
theorem tw189 : (Cond.fieldLink "AsleepCots$Asks" (27) "AsleepCots$Asks" "need" "I") ∈ tg := tg_1 (i := 189) rfl rfl
theorem tw190 : (Cond.fieldLink "AsleepCots$Asks" (38) "AsleepCots$Asks" "noise" "I") ∈ tg := tg_1 (i := 190) rfl rfl
theorem tw191 : (Cond.fieldLink "AsleepCots$Asks" (51) "AsleepCots$Asks" "sizeBody" "I") ∈ tg := tg_1 (i := 191) rfl rfl
theorem tw192 : (Cond.fieldLink "AsleepCots$Asks" (57) "AsleepCots$Asks" "markBody" "I") ∈ tg := tg_1 (i := 192) rfl rfl
theorem tw193 : (Cond.laysFinal "AsleepCots$Asks" "AsleepCots$Asks" "numbers" "[I") ∈ tg := tg_1 (i := 193) rfl rfl
theorem tw195 : (Cond.lays "AsleepCots$Asks" "AsleepCots$Asks" "traced" "I") ∈ tg := tg_1 (i := 195) rfl rfl
theorem tw197 : (Cond.lays "AsleepCots$Asks" "AsleepCots$Asks" "number" "I") ∈ tg := tg_1 (i := 197) rfl rfl
theorem tw199 : (Cond.lays "AsleepCots$Asks" "AsleepCots$Asks" "need" "I") ∈ tg := tg_1 (i := 199) rfl rfl
theorem tw201 : (Cond.lays "AsleepCots$Asks" "AsleepCots$Asks" "noise" "I") ∈ tg := tg_1 (i := 201) rfl rfl
theorem tw203 : (Cond.lays "AsleepCots$Asks" "AsleepCots$Asks" "sizeBody" "I") ∈ tg := tg_1 (i := 203) rfl rfl
theorem tw205 : (Cond.lays "AsleepCots$Asks" "AsleepCots$Asks" "markBody" "I") ∈ tg := tg_1 (i := 205) rfl rfl
theorem tw208 : (Cond.instantiable "AsleepCots$Row" (3)) ∈ tg := tg_1 (i := 208) rfl rfl
theorem tw210 : (Cond.instanceMethod yX4_init) ∈ tg := tg_1 (i := 210) rfl rfl
theorem tw211 : (Cond.code yX4_init prog_6_method_1_code (1) (none : Option FieldType)) ∈ tg := tg_1 (i := 211) rfl rfl
theorem tw212 : (Cond.methodLink "AsleepCots$Row" (3) ⟨"java/lang/Object", "<init>", "()V"⟩) ∈ tg := tg_1 (i := 212) rfl rfl
theorem tw213 : (Cond.fieldLink "AsleepCots$Row" (9) "AsleepCots$Row" "items" "[I") ∈ tg := tg_1 (i := 213) rfl rfl
theorem tw214 : (Cond.fieldLink "AsleepCots" (82) "AsleepCots$Row" "items" "[I") ∈ tg := tg_1 (i := 214) rfl rfl
theorem tw215 : (Cond.fieldLink "AsleepCots$Foresight" (104) "AsleepCots$Row" "items" "[I") ∈ tg := tg_1 (i := 215) rfl rfl
theorem tw216 : (Cond.fieldLink "AsleepCots$Row" (15) "AsleepCots$Row" "lane" "I") ∈ tg := tg_1 (i := 216) rfl rfl
theorem tw217 : (Cond.fieldLink "AsleepCots" (89) "AsleepCots$Row" "lane" "I") ∈ tg := tg_1 (i := 217) rfl rfl
theorem tw218 : (Cond.fieldLink "AsleepCots$Row" (19) "AsleepCots$Row" "size" "I") ∈ tg := tg_1 (i := 218) rfl rfl
theorem tw219 : (Cond.fieldLink "AsleepCots" (103) "AsleepCots$Row" "size" "I") ∈ tg := tg_1 (i := 219) rfl rfl
theorem tw220 : (Cond.laysFinal "AsleepCots$Row" "AsleepCots$Row" "items" "[I") ∈ tg := tg_1 (i := 220) rfl rfl
theorem tw222 : (Cond.lays "AsleepCots$Row" "AsleepCots$Row" "lane" "I") ∈ tg := tg_1 (i := 222) rfl rfl
theorem tw224 : (Cond.lays "AsleepCots$Row" "AsleepCots$Row" "size" "I") ∈ tg := tg_1 (i := 224) rfl rfl
theorem tw227 : (Cond.fieldLink "AsleepCots" (11) "AsleepCots" "rows" "[LAsleepCots$Row;") ∈ tg := tg_1 (i := 227) rfl rfl
theorem tw228 : (Cond.fieldLink "AsleepCots" (18) "AsleepCots" "tape" "LAsleepCots$Tape;") ∈ tg := tg_1 (i := 228) rfl rfl
theorem tw229 : (Cond.fieldLink "AsleepCots" (25) "AsleepCots" "now" "LAsleepCots$Room;") ∈ tg := tg_1 (i := 229) rfl rfl
theorem tw230 : (Cond.fieldLink "AsleepCots" (29) "AsleepCots" "draft" "LAsleepCots$Room;") ∈ tg := tg_1 (i := 230) rfl rfl
theorem tw231 : (Cond.fieldLink "AsleepCots" (32) "AsleepCots" "images" "[LAsleepCots$Room;") ∈ tg := tg_1 (i := 231) rfl rfl
theorem tw232 : (Cond.fieldLink "AsleepCots" (39) "AsleepCots" "past" "LAsleepCots$Past;") ∈ tg := tg_1 (i := 232) rfl rfl
theorem tw233 : (Cond.fieldLink "AsleepCots" (46) "AsleepCots" "foresight" "LAsleepCots$Foresight;") ∈ tg := tg_1 (i := 233) rfl rfl
theorem tw234 : (Cond.fieldLink "AsleepCots" (53) "AsleepCots" "asks" "LAsleepCots$Asks;") ∈ tg := tg_1 (i := 234) rfl rfl
theorem tw235 : (Cond.fieldLink "AsleepCots" (120) "AsleepCots" "latestFault" "I") ∈ tg := tg_1 (i := 235) rfl rfl
theorem tw236 : (Cond.fieldLink "AsleepCots" (300) "AsleepCots" "latestFinding" "I") ∈ tg := tg_1 (i := 236) rfl rfl
theorem tw237 : (Cond.laysFinal "AsleepCots" "AsleepCots" "rows" "[LAsleepCots$Row;") ∈ tg := tg_1 (i := 237) rfl rfl
theorem tw239 : (Cond.laysFinal "AsleepCots" "AsleepCots" "tape" "LAsleepCots$Tape;") ∈ tg := tg_1 (i := 239) rfl rfl
theorem tw241 : (Cond.laysFinal "AsleepCots" "AsleepCots" "now" "LAsleepCots$Room;") ∈ tg := tg_2 (i := 1) rfl rfl
theorem tw243 : (Cond.laysFinal "AsleepCots" "AsleepCots" "draft" "LAsleepCots$Room;") ∈ tg := tg_2 (i := 3) rfl rfl
theorem tw245 : (Cond.laysFinal "AsleepCots" "AsleepCots" "images" "[LAsleepCots$Room;") ∈ tg := tg_2 (i := 5) rfl rfl
theorem tw247 : (Cond.laysFinal "AsleepCots" "AsleepCots" "past" "LAsleepCots$Past;") ∈ tg := tg_2 (i := 7) rfl rfl
theorem tw249 : (Cond.laysFinal "AsleepCots" "AsleepCots" "foresight" "LAsleepCots$Foresight;") ∈ tg := tg_2 (i := 9) rfl rfl
theorem tw251 : (Cond.laysFinal "AsleepCots" "AsleepCots" "asks" "LAsleepCots$Asks;") ∈ tg := tg_2 (i := 11) rfl rfl
theorem tw253 : (Cond.lays "AsleepCots" "AsleepCots" "latestFault" "I") ∈ tg := tg_2 (i := 13) rfl rfl
theorem tw255 : (Cond.lays "AsleepCots" "AsleepCots" "latestFinding" "I") ∈ tg := tg_2 (i := 15) rfl rfl
theorem tw258 : (Cond.methodLink "AsleepCotsLaw" (13) yX6_row) ∈ tg := tg_2 (i := 18) rfl rfl
theorem tw259 : (Cond.instanceMethod yX6_row) ∈ tg := tg_2 (i := 19) rfl rfl
theorem tw260 : (Cond.selects "AsleepCots" yX6_row yX6_row) ∈ tg := tg_2 (i := 20) rfl rfl
theorem tw261 : (Cond.code yX6_row prog_1_method_2_code (4) (some FieldType.int)) ∈ tg := tg_2 (i := 21) rfl rfl
theorem tw262 : (Cond.methodLink "AsleepCots" (58) yX6_noRow) ∈ tg := tg_2 (i := 22) rfl rfl
theorem tw263 : (Cond.static yX6_noRow) ∈ tg := tg_2 (i := 23) rfl rfl
theorem tw264 : (Cond.code yX6_noRow prog_1_method_46_code (1) (some FieldType.boolean)) ∈ tg := tg_2 (i := 24) rfl rfl
theorem tw265 : (Cond.methodLink "AsleepCots" (62) yX6_beyond) ∈ tg := tg_2 (i := 25) rfl rfl
theorem tw266 : (Cond.static yX6_beyond) ∈ tg := tg_2 (i := 26) rfl rfl
theorem tw267 : (Cond.code yX6_beyond prog_1_method_47_code (3) (some FieldType.boolean)) ∈ tg := tg_2 (i := 27) rfl rfl
theorem tw268 : (Cond.constant "AsleepCots" (66) (-1000001)) ∈ tg := tg_2 (i := 28) rfl rfl
theorem tw269 : (Cond.methodLink "AsleepCots" (67) yX6_found) ∈ tg := tg_2 (i := 29) rfl rfl
theorem tw271 : (Cond.instanceMethod yX6_found) ∈ tg := tg_2 (i := 31) rfl rfl
theorem tw272 : (Cond.code yX6_found prog_1_method_41_code (2) (some FieldType.int)) ∈ tg := tg_2 (i := 32) rfl rfl
theorem tw273 : (Cond.constant "AsleepCots" (303) (-1000010)) ∈ tg := tg_2 (i := 33) rfl rfl
theorem tw274 : (Cond.methodLink "AsleepCots" (71) yX4_begin) ∈ tg := tg_2 (i := 34) rfl rfl
theorem tw275 : (Cond.instanceMethod yX4_begin) ∈ tg := tg_2 (i := 35) rfl rfl
theorem tw276 : (Cond.selects "AsleepCots$Row" yX4_begin yX4_begin) ∈ tg := tg_2 (i := 36) rfl rfl
theorem tw277 : (Cond.code yX4_begin prog_6_method_2_code (4) (none : Option FieldType)) ∈ tg := tg_2 (i := 37) rfl rfl
theorem tw278 : (Cond.methodLink "AsleepCots" (75) yX6_foundNothing) ∈ tg := tg_2 (i := 38) rfl rfl
theorem tw280 : (Cond.instanceMethod yX6_foundNothing) ∈ tg := tg_2 (i := 40) rfl rfl
theorem tw281 : (Cond.code yX6_foundNothing prog_1_method_42_code (2) (some FieldType.int)) ∈ tg := tg_2 (i := 41) rfl rfl
theorem tw282 : (Cond.methodLink "AsleepCotsLaw" (18) yX6_set) ∈ tg := tg_2 (i := 42) rfl rfl
theorem tw283 : (Cond.instanceMethod yX6_set) ∈ tg := tg_2 (i := 43) rfl rfl
theorem tw284 : (Cond.selects "AsleepCots" yX6_set yX6_set) ∈ tg := tg_2 (i := 44) rfl rfl
theorem tw285 : (Cond.code yX6_set prog_1_method_3_code (5) (some FieldType.int)) ∈ tg := tg_2 (i := 45) rfl rfl
theorem tw286 : (Cond.methodLink "AsleepCots" (78) yX4_findingFor) ∈ tg := tg_2 (i := 46) rfl rfl
theorem tw287 : (Cond.instanceMethod yX4_findingFor) ∈ tg := tg_2 (i := 47) rfl rfl
theorem tw288 : (Cond.selects "AsleepCots$Row" yX4_findingFor yX4_findingFor) ∈ tg := tg_2 (i := 48) rfl rfl
theorem tw289 : (Cond.code yX4_findingFor prog_6_method_5_code (3) (some FieldType.int)) ∈ tg := tg_2 (i := 49) rfl rfl
theorem tw290 : (Cond.methodLink "AsleepCots$Row" (22) yX4_lacks) ∈ tg := tg_2 (i := 50) rfl rfl
theorem tw291 : (Cond.instanceMethod yX4_lacks) ∈ tg := tg_2 (i := 51) rfl rfl
theorem tw292 : (Cond.selects "AsleepCots$Row" yX4_lacks yX4_lacks) ∈ tg := tg_2 (i := 52) rfl rfl
theorem tw293 : (Cond.code yX4_lacks prog_6_method_4_code (3) (some FieldType.boolean)) ∈ tg := tg_2 (i := 53) rfl rfl
theorem tw294 : (Cond.methodLink "AsleepCots" (86) yX4_narrowed) ∈ tg := tg_2 (i := 54) rfl rfl
theorem tw295 : (Cond.instanceMethod yX4_narrowed) ∈ tg := tg_2 (i := 55) rfl rfl
theorem tw296 : (Cond.selects "AsleepCots$Row" yX4_narrowed yX4_narrowed) ∈ tg := tg_2 (i := 56) rfl rfl
theorem tw297 : (Cond.code yX4_narrowed prog_6_method_3_code (2) (some FieldType.int)) ∈ tg := tg_2 (i := 57) rfl rfl
theorem tw298 : (Cond.methodLink "AsleepCotsLaw" (22) yX6_copy) ∈ tg := tg_2 (i := 58) rfl rfl
theorem tw299 : (Cond.instanceMethod yX6_copy) ∈ tg := tg_2 (i := 59) rfl rfl
theorem tw300 : (Cond.selects "AsleepCots" yX6_copy yX6_copy) ∈ tg := tg_2 (i := 60) rfl rfl
theorem tw301 : (Cond.code yX6_copy prog_1_method_4_code (6) (some FieldType.int)) ∈ tg := tg_2 (i := 61) rfl rfl
theorem tw302 : (Cond.methodLink "AsleepCots" (93) yX4_lacks) ∈ tg := tg_2 (i := 62) rfl rfl
theorem tw303 : (Cond.methodLink "AsleepCots" (97) ⟨"java/lang/System", "arraycopy", "(Ljava/lang/Object;ILjava/lang/Object;II)V"⟩) ∈ tg := tg_2 (i := 63) rfl rfl
theorem tw304 : (Cond.static ⟨"java/lang/System", "arraycopy", "(Ljava/lang/Object;ILjava/lang/Object;II)V"⟩) ∈ tg := tg_2 (i := 64) rfl rfl
theorem tw305 : (Cond.native ⟨"java/lang/System", "arraycopy", "(Ljava/lang/Object;ILjava/lang/Object;II)V"⟩) ∈ tg := tg_2 (i := 65) rfl rfl
theorem tw306 : (Cond.methodLink "AsleepCotsLaw" (27) yX6_drop) ∈ tg := tg_2 (i := 66) rfl rfl
theorem tw307 : (Cond.instanceMethod yX6_drop) ∈ tg := tg_2 (i := 67) rfl rfl
theorem tw308 : (Cond.selects "AsleepCots" yX6_drop yX6_drop) ∈ tg := tg_2 (i := 68) rfl rfl
theorem tw309 : (Cond.code yX6_drop prog_1_method_5_code (2) (some FieldType.int)) ∈ tg := tg_2 (i := 69) rfl rfl
theorem tw310 : (Cond.methodLink "AsleepCotsLaw" (32) yX6_feed) ∈ tg := tg_2 (i := 70) rfl rfl
theorem tw311 : (Cond.instanceMethod yX6_feed) ∈ tg := tg_2 (i := 71) rfl rfl
theorem tw312 : (Cond.selects "AsleepCots" yX6_feed yX6_feed) ∈ tg := tg_2 (i := 72) rfl rfl
theorem tw313 : (Cond.code yX6_feed prog_1_method_6_code (2) (some FieldType.int)) ∈ tg := tg_2 (i := 73) rfl rfl
theorem tw314 : (Cond.constant "AsleepCots" (109) (-1000003)) ∈ tg := tg_2 (i := 74) rfl rfl
theorem tw315 : (Cond.methodLink "AsleepCotsLaw" (36) yX6_room) ∈ tg := tg_2 (i := 75) rfl rfl
theorem tw316 : (Cond.instanceMethod yX6_room) ∈ tg := tg_2 (i := 76) rfl rfl
theorem tw317 : (Cond.selects "AsleepCots" yX6_room yX6_room) ∈ tg := tg_2 (i := 77) rfl rfl
theorem tw318 : (Cond.code yX6_room prog_1_method_7_code (2) (some FieldType.int)) ∈ tg := tg_2 (i := 78) rfl rfl
theorem tw319 : (Cond.methodLink "AsleepCots" (113) yX5_readInto) ∈ tg := tg_2 (i := 79) rfl rfl
theorem tw320 : (Cond.instanceMethod yX5_readInto) ∈ tg := tg_2 (i := 80) rfl rfl
theorem tw321 : (Cond.selects "AsleepCots$Tape" yX5_readInto yX5_readInto) ∈ tg := tg_2 (i := 81) rfl rfl
theorem tw322 : (Cond.code yX5_readInto prog_7_method_2_code (5) (some FieldType.int)) ∈ tg := tg_2 (i := 82) rfl rfl
theorem tw323 : (Cond.methodLink "AsleepCots$Tape" (15) yX3_clear) ∈ tg := tg_2 (i := 83) rfl rfl
theorem tw324 : (Cond.instanceMethod yX3_clear) ∈ tg := tg_2 (i := 84) rfl rfl
theorem tw325 : (Cond.selects "AsleepCots$Room" yX3_clear yX3_clear) ∈ tg := tg_2 (i := 85) rfl rfl
theorem tw326 : (Cond.code yX3_clear prog_5_method_2_code (1) (none : Option FieldType)) ∈ tg := tg_2 (i := 86) rfl rfl
theorem tw327 : (Cond.methodLink "AsleepCots$Tape" (24) yX5_widthAt) ∈ tg := tg_2 (i := 87) rfl rfl
theorem tw329 : (Cond.instanceMethod yX5_widthAt) ∈ tg := tg_2 (i := 89) rfl rfl
theorem tw330 : (Cond.code yX5_widthAt prog_7_method_3_code (5) (some FieldType.int)) ∈ tg := tg_2 (i := 90) rfl rfl
theorem tw331 : (Cond.methodLink "AsleepCots$Tape" (51) yX5_isFigure) ∈ tg := tg_2 (i := 91) rfl rfl
theorem tw332 : (Cond.static yX5_isFigure) ∈ tg := tg_2 (i := 92) rfl rfl
theorem tw333 : (Cond.code yX5_isFigure prog_7_method_8_code (1) (some FieldType.boolean)) ∈ tg := tg_2 (i := 93) rfl rfl
theorem tw334 : (Cond.methodLink "AsleepCots$Tape" (31) yX5_faultAt) ∈ tg := tg_2 (i := 94) rfl rfl
theorem tw336 : (Cond.instanceMethod yX5_faultAt) ∈ tg := tg_2 (i := 96) rfl rfl
theorem tw337 : (Cond.code yX5_faultAt prog_7_method_4_code (5) (some FieldType.int)) ∈ tg := tg_2 (i := 97) rfl rfl
theorem tw338 : (Cond.fieldLink "AsleepCots$Tape" (55) "AsleepCots$Tape" "STANDS" "[I") ∈ tg := tg_2 (i := 98) rfl rfl
theorem tw340 : (Cond.methodLink "AsleepCots$Tape" (58) yX5_canStand) ∈ tg := tg_2 (i := 100) rfl rfl
theorem tw341 : (Cond.static yX5_canStand) ∈ tg := tg_2 (i := 101) rfl rfl
theorem tw342 : (Cond.code yX5_canStand prog_7_method_5_code (2) (some FieldType.boolean)) ∈ tg := tg_2 (i := 102) rfl rfl
theorem tw343 : (Cond.methodLink "AsleepCots$Tape" (72) yX5_kindOf) ∈ tg := tg_2 (i := 103) rfl rfl
theorem tw344 : (Cond.static yX5_kindOf) ∈ tg := tg_2 (i := 104) rfl rfl
theorem tw345 : (Cond.code yX5_kindOf prog_7_method_9_code (1) (some FieldType.int)) ∈ tg := tg_2 (i := 105) rfl rfl
theorem tw346 : (Cond.methodLink "AsleepCots$Tape" (38) yX5_valueAt) ∈ tg := tg_2 (i := 106) rfl rfl
theorem tw348 : (Cond.instanceMethod yX5_valueAt) ∈ tg := tg_2 (i := 108) rfl rfl
theorem tw349 : (Cond.code yX5_valueAt prog_7_method_6_code (5) (some FieldType.int)) ∈ tg := tg_2 (i := 109) rfl rfl
theorem tw350 : (Cond.fieldLink "AsleepCots$Tape" (62) "AsleepCots$Tape" "LEAST" "[I") ∈ tg := tg_2 (i := 110) rfl rfl
theorem tw352 : (Cond.fieldLink "AsleepCots$Tape" (65) "AsleepCots$Tape" "MOST" "[I") ∈ tg := tg_2 (i := 112) rfl rfl
theorem tw355 : (Cond.methodLink "AsleepCots$Tape" (42) yX5_put) ∈ tg := tg_2 (i := 115) rfl rfl
theorem tw356 : (Cond.static yX5_put) ∈ tg := tg_2 (i := 116) rfl rfl
theorem tw357 : (Cond.code yX5_put prog_7_method_7_code (4) (none : Option FieldType)) ∈ tg := tg_2 (i := 117) rfl rfl
theorem tw358 : (Cond.methodLink "AsleepCots$Tape" (81) yX3_addChild) ∈ tg := tg_2 (i := 118) rfl rfl
theorem tw359 : (Cond.instanceMethod yX3_addChild) ∈ tg := tg_2 (i := 119) rfl rfl
theorem tw360 : (Cond.selects "AsleepCots$Room" yX3_addChild yX3_addChild) ∈ tg := tg_2 (i := 120) rfl rfl
theorem tw361 : (Cond.code yX3_addChild prog_5_method_3_code (2) (none : Option FieldType)) ∈ tg := tg_2 (i := 121) rfl rfl
theorem tw362 : (Cond.methodLink "AsleepCots$Room" (55) yX3_lieDown) ∈ tg := tg_2 (i := 122) rfl rfl
theorem tw363 : (Cond.instanceMethod yX3_lieDown) ∈ tg := tg_2 (i := 123) rfl rfl
theorem tw364 : (Cond.selects "AsleepCots$Room" yX3_lieDown yX3_lieDown) ∈ tg := tg_2 (i := 124) rfl rfl
theorem tw365 : (Cond.code yX3_lieDown prog_5_method_14_code (2) (none : Option FieldType)) ∈ tg := tg_2 (i := 125) rfl rfl
theorem tw366 : (Cond.methodLink "AsleepCots$Tape" (46) yJ9_max_7cf53) ∈ tg := tg_2 (i := 126) rfl rfl
theorem tw367 : (Cond.static yJ9_max_7cf53) ∈ tg := tg_2 (i := 127) rfl rfl
theorem tw368 : (Cond.code yJ9_max_7cf53 prog_11_method_65_code (2) (some FieldType.int)) ∈ tg := tg_2 (i := 128) rfl rfl
theorem tw369 : (Cond.constant "AsleepCots" (123) (-1000100)) ∈ tg := tg_2 (i := 129) rfl rfl
theorem tw370 : (Cond.methodLink "AsleepCots" (124) yX3_become) ∈ tg := tg_2 (i := 130) rfl rfl
theorem tw371 : (Cond.instanceMethod yX3_become) ∈ tg := tg_2 (i := 131) rfl rfl
theorem tw372 : (Cond.selects "AsleepCots$Room" yX3_become yX3_become) ∈ tg := tg_2 (i := 132) rfl rfl
theorem tw373 : (Cond.code yX3_become prog_5_method_4_code (2) (none : Option FieldType)) ∈ tg := tg_2 (i := 133) rfl rfl
theorem tw374 : (Cond.methodLink "AsleepCots$Room" (59) ⟨"java/lang/System", "arraycopy", "(Ljava/lang/Object;ILjava/lang/Object;II)V"⟩) ∈ tg := tg_2 (i := 134) rfl rfl
theorem tw375 : (Cond.methodLink "AsleepCots" (128) yX2_forget) ∈ tg := tg_2 (i := 135) rfl rfl
theorem tw376 : (Cond.instanceMethod yX2_forget) ∈ tg := tg_2 (i := 136) rfl rfl
theorem tw377 : (Cond.selects "AsleepCots$Past" yX2_forget yX2_forget) ∈ tg := tg_2 (i := 137) rfl rfl
theorem tw378 : (Cond.code yX2_forget prog_4_method_4_code (1) (none : Option FieldType)) ∈ tg := tg_2 (i := 138) rfl rfl
theorem tw379 : (Cond.methodLink "AsleepCotsLaw" (41) yX6_fault) ∈ tg := tg_2 (i := 139) rfl rfl
theorem tw380 : (Cond.instanceMethod yX6_fault) ∈ tg := tg_2 (i := 140) rfl rfl
theorem tw381 : (Cond.selects "AsleepCots" yX6_fault yX6_fault) ∈ tg := tg_2 (i := 141) rfl rfl
theorem tw382 : (Cond.code yX6_fault prog_1_method_8_code (1) (some FieldType.int)) ∈ tg := tg_2 (i := 142) rfl rfl
theorem tw383 : (Cond.methodLink "AsleepCotsLaw" (45) yX6_undo) ∈ tg := tg_2 (i := 143) rfl rfl
theorem tw384 : (Cond.instanceMethod yX6_undo) ∈ tg := tg_2 (i := 144) rfl rfl
theorem tw385 : (Cond.selects "AsleepCots" yX6_undo yX6_undo) ∈ tg := tg_2 (i := 145) rfl rfl
theorem tw386 : (Cond.code yX6_undo prog_1_method_9_code (1) (some FieldType.int)) ∈ tg := tg_2 (i := 146) rfl rfl
theorem tw387 : (Cond.constant "AsleepCots" (135) (-1000002)) ∈ tg := tg_2 (i := 147) rfl rfl
theorem tw388 : (Cond.methodLink "AsleepCots" (136) yX2_bringBack) ∈ tg := tg_2 (i := 148) rfl rfl
theorem tw389 : (Cond.instanceMethod yX2_bringBack) ∈ tg := tg_2 (i := 149) rfl rfl
theorem tw390 : (Cond.selects "AsleepCots$Past" yX2_bringBack yX2_bringBack) ∈ tg := tg_2 (i := 150) rfl rfl
theorem tw391 : (Cond.code yX2_bringBack prog_4_method_3_code (2) (none : Option FieldType)) ∈ tg := tg_2 (i := 151) rfl rfl
theorem tw392 : (Cond.methodLink "AsleepCots$Past" (22) yX3_become) ∈ tg := tg_2 (i := 152) rfl rfl
theorem tw393 : (Cond.methodLink "AsleepCotsLaw" (49) yX6_minutes) ∈ tg := tg_2 (i := 153) rfl rfl
theorem tw394 : (Cond.instanceMethod yX6_minutes) ∈ tg := tg_2 (i := 154) rfl rfl
theorem tw395 : (Cond.selects "AsleepCots" yX6_minutes yX6_minutes) ∈ tg := tg_2 (i := 155) rfl rfl
theorem tw396 : (Cond.code yX6_minutes prog_1_method_10_code (3) (some FieldType.int)) ∈ tg := tg_2 (i := 156) rfl rfl
theorem tw397 : (Cond.methodLink "AsleepCots" (139) yX6_noRoom) ∈ tg := tg_2 (i := 157) rfl rfl
theorem tw399 : (Cond.instanceMethod yX6_noRoom) ∈ tg := tg_2 (i := 159) rfl rfl
theorem tw400 : (Cond.code yX6_noRoom prog_1_method_43_code (1) (some FieldType.boolean)) ∈ tg := tg_2 (i := 160) rfl rfl
theorem tw401 : (Cond.methodLink "AsleepCots" (146) yX2_keep) ∈ tg := tg_2 (i := 161) rfl rfl
theorem tw402 : (Cond.instanceMethod yX2_keep) ∈ tg := tg_2 (i := 162) rfl rfl
theorem tw403 : (Cond.selects "AsleepCots$Past" yX2_keep yX2_keep) ∈ tg := tg_2 (i := 163) rfl rfl
theorem tw404 : (Cond.code yX2_keep prog_4_method_2_code (2) (none : Option FieldType)) ∈ tg := tg_2 (i := 164) rfl rfl
theorem tw405 : (Cond.methodLink "AsleepCots$Past" (29) yJ9_min_7cf53) ∈ tg := tg_2 (i := 165) rfl rfl
theorem tw406 : (Cond.static yJ9_min_7cf53) ∈ tg := tg_2 (i := 166) rfl rfl
theorem tw407 : (Cond.code yJ9_min_7cf53 prog_11_method_69_code (2) (some FieldType.int)) ∈ tg := tg_2 (i := 167) rfl rfl
theorem tw408 : (Cond.methodLink "AsleepCots" (149) yX3_passMinute) ∈ tg := tg_2 (i := 168) rfl rfl
theorem tw409 : (Cond.instanceMethod yX3_passMinute) ∈ tg := tg_2 (i := 169) rfl rfl
theorem tw410 : (Cond.selects "AsleepCots$Room" yX3_passMinute yX3_passMinute) ∈ tg := tg_2 (i := 170) rfl rfl
theorem tw411 : (Cond.code yX3_passMinute prog_5_method_20_code (4) (some FieldType.boolean)) ∈ tg := tg_2 (i := 171) rfl rfl
theorem tw412 : (Cond.methodLink "AsleepCots$Room" (85) yX3_heardCriers) ∈ tg := tg_2 (i := 172) rfl rfl
theorem tw413 : (Cond.instanceMethod yX3_heardCriers) ∈ tg := tg_2 (i := 173) rfl rfl
theorem tw414 : (Cond.selects "AsleepCots$Room" yX3_heardCriers yX3_heardCriers) ∈ tg := tg_2 (i := 174) rfl rfl
theorem tw415 : (Cond.code yX3_heardCriers prog_5_method_8_code (1) (some FieldType.int)) ∈ tg := tg_2 (i := 175) rfl rfl
theorem tw416 : (Cond.methodLink "AsleepCots$Room" (65) yX3_thoseWho) ∈ tg := tg_2 (i := 176) rfl rfl
theorem tw417 : (Cond.instanceMethod yX3_thoseWho) ∈ tg := tg_2 (i := 177) rfl rfl
theorem tw418 : (Cond.selects "AsleepCots$Room" yX3_thoseWho yX3_thoseWho) ∈ tg := tg_2 (i := 178) rfl rfl
theorem tw419 : (Cond.code yX3_thoseWho prog_5_method_6_code (4) (some FieldType.int)) ∈ tg := tg_2 (i := 179) rfl rfl
theorem tw420 : (Cond.methodLink "AsleepCots$Room" (108) yX3_calmDown) ∈ tg := tg_2 (i := 180) rfl rfl
theorem tw422 : (Cond.instanceMethod yX3_calmDown) ∈ tg := tg_2 (i := 182) rfl rfl
theorem tw423 : (Cond.code yX3_calmDown prog_5_method_21_code (2) (none : Option FieldType)) ∈ tg := tg_2 (i := 183) rfl rfl
theorem tw425 : (Cond.static yX6_has) ∈ tg := tg_2 (i := 185) rfl rfl
theorem tw426 : (Cond.code yX6_has prog_1_method_48_code (2) (some FieldType.boolean)) ∈ tg := tg_2 (i := 186) rfl rfl
theorem tw427 : (Cond.methodLink "AsleepCots$Room" (89) yX3_noiseAt) ∈ tg := tg_2 (i := 187) rfl rfl
theorem tw428 : (Cond.instanceMethod yX3_noiseAt) ∈ tg := tg_2 (i := 188) rfl rfl
theorem tw429 : (Cond.selects "AsleepCots$Room" yX3_noiseAt yX3_noiseAt) ∈ tg := tg_2 (i := 189) rfl rfl
theorem tw430 : (Cond.code yX3_noiseAt prog_5_method_9_code (5) (some FieldType.int)) ∈ tg := tg_2 (i := 190) rfl rfl
theorem tw431 : (Cond.methodLink "AsleepCots$Room" (73) yX3_callsOf) ∈ tg := tg_2 (i := 191) rfl rfl
theorem tw432 : (Cond.instanceMethod yX3_callsOf) ∈ tg := tg_2 (i := 192) rfl rfl
theorem tw433 : (Cond.selects "AsleepCots$Room" yX3_callsOf yX3_callsOf) ∈ tg := tg_2 (i := 193) rfl rfl
theorem tw434 : (Cond.code yX3_callsOf prog_5_method_10_code (2) (some FieldType.int)) ∈ tg := tg_2 (i := 194) rfl rfl
theorem tw435 : (Cond.methodLink "AsleepCots$Room" (76) yJ9_abs_0f7a4) ∈ tg := tg_2 (i := 195) rfl rfl
theorem tw436 : (Cond.static yJ9_abs_0f7a4) ∈ tg := tg_2 (i := 196) rfl rfl
theorem tw437 : (Cond.code yJ9_abs_0f7a4 prog_11_method_59_code (1) (some FieldType.int)) ∈ tg := tg_2 (i := 197) rfl rfl
theorem tw438 : (Cond.methodLink "AsleepCots$Room" (81) yJ9_max_7cf53) ∈ tg := tg_2 (i := 198) rfl rfl
theorem tw439 : (Cond.methodLink "AsleepCots$Room" (92) yX3_bearsOf) ∈ tg := tg_2 (i := 199) rfl rfl
theorem tw440 : (Cond.instanceMethod yX3_bearsOf) ∈ tg := tg_2 (i := 200) rfl rfl
theorem tw441 : (Cond.selects "AsleepCots$Room" yX3_bearsOf yX3_bearsOf) ∈ tg := tg_2 (i := 201) rfl rfl
theorem tw442 : (Cond.code yX3_bearsOf prog_5_method_11_code (2) (some FieldType.int)) ∈ tg := tg_2 (i := 202) rfl rfl
theorem tw443 : (Cond.methodLink "AsleepCots$Room" (111) yX3_listen) ∈ tg := tg_2 (i := 203) rfl rfl
theorem tw445 : (Cond.instanceMethod yX3_listen) ∈ tg := tg_2 (i := 205) rfl rfl
theorem tw446 : (Cond.code yX3_listen prog_5_method_22_code (4) (some FieldType.boolean)) ∈ tg := tg_2 (i := 206) rfl rfl
theorem tw447 : (Cond.methodLink "AsleepCots$Room" (101) yX3_wake) ∈ tg := tg_2 (i := 207) rfl rfl
theorem tw448 : (Cond.instanceMethod yX3_wake) ∈ tg := tg_2 (i := 208) rfl rfl
theorem tw449 : (Cond.selects "AsleepCots$Room" yX3_wake yX3_wake) ∈ tg := tg_2 (i := 209) rfl rfl
theorem tw450 : (Cond.code yX3_wake prog_5_method_16_code (2) (none : Option FieldType)) ∈ tg := tg_2 (i := 210) rfl rfl
theorem tw451 : (Cond.methodLink "AsleepCots$Room" (98) yX3_cry) ∈ tg := tg_2 (i := 211) rfl rfl
theorem tw452 : (Cond.instanceMethod yX3_cry) ∈ tg := tg_2 (i := 212) rfl rfl
theorem tw453 : (Cond.selects "AsleepCots$Room" yX3_cry yX3_cry) ∈ tg := tg_2 (i := 213) rfl rfl
theorem tw454 : (Cond.code yX3_cry prog_5_method_15_code (2) (none : Option FieldType)) ∈ tg := tg_2 (i := 214) rfl rfl
theorem tw455 : (Cond.methodLink "AsleepCots$Room" (115) yX3_calmGained) ∈ tg := tg_2 (i := 215) rfl rfl
theorem tw457 : (Cond.instanceMethod yX3_calmGained) ∈ tg := tg_2 (i := 217) rfl rfl
theorem tw458 : (Cond.code yX3_calmGained prog_5_method_23_code (2) (some FieldType.int)) ∈ tg := tg_2 (i := 218) rfl rfl
theorem tw459 : (Cond.methodLink "AsleepCots" (152) yX3_thoseWho) ∈ tg := tg_2 (i := 219) rfl rfl
theorem tw460 : (Cond.methodLink "AsleepCotsLaw" (53) yX6_hand) ∈ tg := tg_2 (i := 220) rfl rfl
theorem tw461 : (Cond.instanceMethod yX6_hand) ∈ tg := tg_2 (i := 221) rfl rfl
theorem tw462 : (Cond.selects "AsleepCots" yX6_hand yX6_hand) ∈ tg := tg_2 (i := 222) rfl rfl
theorem tw463 : (Cond.code yX6_hand prog_1_method_11_code (3) (some FieldType.int)) ∈ tg := tg_2 (i := 223) rfl rfl
theorem tw464 : (Cond.methodLink "AsleepCots" (155) yX6_noChild) ∈ tg := tg_2 (i := 224) rfl rfl
theorem tw466 : (Cond.instanceMethod yX6_noChild) ∈ tg := tg_2 (i := 226) rfl rfl
theorem tw467 : (Cond.code yX6_noChild prog_1_method_44_code (2) (some FieldType.boolean)) ∈ tg := tg_2 (i := 227) rfl rfl
theorem tw468 : (Cond.methodLink "AsleepCots" (161) yX6_has) ∈ tg := tg_2 (i := 228) rfl rfl
theorem tw469 : (Cond.methodLink "AsleepCots" (164) yJ6_bitCount_0f7a4) ∈ tg := tg_2 (i := 229) rfl rfl
theorem tw470 : (Cond.static yJ6_bitCount_0f7a4) ∈ tg := tg_2 (i := 230) rfl rfl
theorem tw471 : (Cond.code yJ6_bitCount_0f7a4 prog_10_method_49_code (1) (some FieldType.int)) ∈ tg := tg_2 (i := 231) rfl rfl
theorem tw472 : (Cond.constant "java/lang/Integer" (265) (1431655765)) ∈ tg := tg_2 (i := 232) rfl rfl
theorem tw473 : (Cond.constant "java/lang/Integer" (266) (858993459)) ∈ tg := tg_2 (i := 233) rfl rfl
theorem tw474 : (Cond.constant "java/lang/Integer" (267) (252645135)) ∈ tg := tg_2 (i := 234) rfl rfl
theorem tw475 : (Cond.methodLink "AsleepCotsLaw" (58) yX6_carry) ∈ tg := tg_2 (i := 235) rfl rfl
theorem tw476 : (Cond.instanceMethod yX6_carry) ∈ tg := tg_2 (i := 236) rfl rfl
theorem tw477 : (Cond.selects "AsleepCots" yX6_carry yX6_carry) ∈ tg := tg_2 (i := 237) rfl rfl
theorem tw478 : (Cond.code yX6_carry prog_1_method_12_code (3) (some FieldType.int)) ∈ tg := tg_2 (i := 238) rfl rfl
theorem tw479 : (Cond.methodLink "AsleepCotsLaw" (62) yX6_change) ∈ tg := tg_2 (i := 239) rfl rfl
theorem tw480 : (Cond.instanceMethod yX6_change) ∈ tg := tg_3 (i := 0) rfl rfl
theorem tw481 : (Cond.selects "AsleepCots" yX6_change yX6_change) ∈ tg := tg_3 (i := 1) rfl rfl
theorem tw482 : (Cond.code yX6_change prog_1_method_13_code (3) (some FieldType.int)) ∈ tg := tg_3 (i := 2) rfl rfl
theorem tw483 : (Cond.methodLink "AsleepCots" (175) yX3_swapCots) ∈ tg := tg_3 (i := 3) rfl rfl
theorem tw484 : (Cond.instanceMethod yX3_swapCots) ∈ tg := tg_3 (i := 4) rfl rfl
theorem tw485 : (Cond.selects "AsleepCots$Room" yX3_swapCots yX3_swapCots) ∈ tg := tg_3 (i := 5) rfl rfl
theorem tw486 : (Cond.code yX3_swapCots prog_5_method_17_code (4) (none : Option FieldType)) ∈ tg := tg_3 (i := 6) rfl rfl
theorem tw487 : (Cond.methodLink "AsleepCotsLaw" (66) yX6_lorry) ∈ tg := tg_3 (i := 7) rfl rfl
theorem tw488 : (Cond.instanceMethod yX6_lorry) ∈ tg := tg_3 (i := 8) rfl rfl
theorem tw489 : (Cond.selects "AsleepCots" yX6_lorry yX6_lorry) ∈ tg := tg_3 (i := 9) rfl rfl
theorem tw490 : (Cond.code yX6_lorry prog_1_method_14_code (2) (some FieldType.int)) ∈ tg := tg_3 (i := 10) rfl rfl
theorem tw491 : (Cond.methodLink "AsleepCots" (181) yX3_passLorry) ∈ tg := tg_3 (i := 11) rfl rfl
theorem tw492 : (Cond.instanceMethod yX3_passLorry) ∈ tg := tg_3 (i := 12) rfl rfl
theorem tw493 : (Cond.selects "AsleepCots$Room" yX3_passLorry yX3_passLorry) ∈ tg := tg_3 (i := 13) rfl rfl
theorem tw494 : (Cond.code yX3_passLorry prog_5_method_18_code (4) (some FieldType.int)) ∈ tg := tg_3 (i := 14) rfl rfl
theorem tw495 : (Cond.methodLink "AsleepCotsLaw" (70) yX6_need) ∈ tg := tg_3 (i := 15) rfl rfl
theorem tw496 : (Cond.instanceMethod yX6_need) ∈ tg := tg_3 (i := 16) rfl rfl
theorem tw497 : (Cond.selects "AsleepCots" yX6_need yX6_need) ∈ tg := tg_3 (i := 17) rfl rfl
theorem tw498 : (Cond.code yX6_need prog_1_method_15_code (4) (some FieldType.int)) ∈ tg := tg_3 (i := 18) rfl rfl
theorem tw499 : (Cond.methodLink "AsleepCotsLaw" (74) yX6_child) ∈ tg := tg_3 (i := 19) rfl rfl
theorem tw500 : (Cond.instanceMethod yX6_child) ∈ tg := tg_3 (i := 20) rfl rfl
theorem tw501 : (Cond.selects "AsleepCots" yX6_child yX6_child) ∈ tg := tg_3 (i := 21) rfl rfl
theorem tw502 : (Cond.code yX6_child prog_1_method_16_code (3) (some FieldType.int)) ∈ tg := tg_3 (i := 22) rfl rfl
theorem tw503 : (Cond.methodLink "AsleepCots" (202) yX3_heardCriers) ∈ tg := tg_3 (i := 23) rfl rfl
theorem tw504 : (Cond.methodLink "AsleepCots" (206) yX3_noiseAt) ∈ tg := tg_3 (i := 24) rfl rfl
theorem tw505 : (Cond.methodLink "AsleepCotsLaw" (78) yX6_stand) ∈ tg := tg_3 (i := 25) rfl rfl
theorem tw506 : (Cond.instanceMethod yX6_stand) ∈ tg := tg_3 (i := 26) rfl rfl
theorem tw507 : (Cond.selects "AsleepCots" yX6_stand yX6_stand) ∈ tg := tg_3 (i := 27) rfl rfl
theorem tw508 : (Cond.code yX6_stand prog_1_method_17_code (2) (some FieldType.int)) ∈ tg := tg_3 (i := 28) rfl rfl
theorem tw509 : (Cond.methodLink "AsleepCotsLaw" (82) yX6_ahead) ∈ tg := tg_3 (i := 29) rfl rfl
theorem tw510 : (Cond.instanceMethod yX6_ahead) ∈ tg := tg_3 (i := 30) rfl rfl
theorem tw511 : (Cond.selects "AsleepCots" yX6_ahead yX6_ahead) ∈ tg := tg_3 (i := 31) rfl rfl
theorem tw512 : (Cond.code yX6_ahead prog_1_method_18_code (3) (some FieldType.int)) ∈ tg := tg_3 (i := 32) rfl rfl
theorem tw513 : (Cond.methodLink "AsleepCots" (209) yX1_after) ∈ tg := tg_3 (i := 33) rfl rfl
theorem tw514 : (Cond.instanceMethod yX1_after) ∈ tg := tg_3 (i := 34) rfl rfl
theorem tw515 : (Cond.selects "AsleepCots$Foresight" yX1_after yX1_after) ∈ tg := tg_3 (i := 35) rfl rfl
theorem tw516 : (Cond.code yX1_after prog_3_method_2_code (3) (Option.some (FieldType.object "AsleepCots$Room"))) ∈ tg := tg_3 (i := 36) rfl rfl
theorem tw517 : (Cond.methodLink "AsleepCots$Foresight" (26) yX3_become) ∈ tg := tg_3 (i := 37) rfl rfl
theorem tw518 : (Cond.methodLink "AsleepCots$Foresight" (30) yX3_passMinutes) ∈ tg := tg_3 (i := 38) rfl rfl
theorem tw519 : (Cond.instanceMethod yX3_passMinutes) ∈ tg := tg_3 (i := 39) rfl rfl
theorem tw520 : (Cond.selects "AsleepCots$Room" yX3_passMinutes yX3_passMinutes) ∈ tg := tg_3 (i := 40) rfl rfl
theorem tw521 : (Cond.code yX3_passMinutes prog_5_method_19_code (3) (none : Option FieldType)) ∈ tg := tg_3 (i := 41) rfl rfl
theorem tw522 : (Cond.methodLink "AsleepCots$Room" (104) yX3_passMinute) ∈ tg := tg_3 (i := 42) rfl rfl
theorem tw523 : (Cond.methodLink "AsleepCotsLaw" (86) yX6_noise) ∈ tg := tg_3 (i := 43) rfl rfl
theorem tw524 : (Cond.instanceMethod yX6_noise) ∈ tg := tg_3 (i := 44) rfl rfl
theorem tw525 : (Cond.selects "AsleepCots" yX6_noise yX6_noise) ∈ tg := tg_3 (i := 45) rfl rfl
theorem tw526 : (Cond.code yX6_noise prog_1_method_19_code (4) (some FieldType.int)) ∈ tg := tg_3 (i := 46) rfl rfl
theorem tw527 : (Cond.methodLink "AsleepCotsLaw" (90) yX6_asleep) ∈ tg := tg_3 (i := 47) rfl rfl
theorem tw528 : (Cond.instanceMethod yX6_asleep) ∈ tg := tg_3 (i := 48) rfl rfl
theorem tw529 : (Cond.selects "AsleepCots" yX6_asleep yX6_asleep) ∈ tg := tg_3 (i := 49) rfl rfl
theorem tw530 : (Cond.code yX6_asleep prog_1_method_20_code (2) (some FieldType.int)) ∈ tg := tg_3 (i := 50) rfl rfl
theorem tw531 : (Cond.methodLink "AsleepCots" (213) yX1_firstAsleep) ∈ tg := tg_3 (i := 51) rfl rfl
theorem tw532 : (Cond.instanceMethod yX1_firstAsleep) ∈ tg := tg_3 (i := 52) rfl rfl
theorem tw533 : (Cond.selects "AsleepCots$Foresight" yX1_firstAsleep yX1_firstAsleep) ∈ tg := tg_3 (i := 53) rfl rfl
theorem tw534 : (Cond.code yX1_firstAsleep prog_3_method_3_code (4) (some FieldType.int)) ∈ tg := tg_3 (i := 54) rfl rfl
theorem tw535 : (Cond.methodLink "AsleepCots$Foresight" (34) yX3_sleepAll) ∈ tg := tg_3 (i := 55) rfl rfl
theorem tw536 : (Cond.instanceMethod yX3_sleepAll) ∈ tg := tg_3 (i := 56) rfl rfl
theorem tw537 : (Cond.selects "AsleepCots$Room" yX3_sleepAll yX3_sleepAll) ∈ tg := tg_3 (i := 57) rfl rfl
theorem tw538 : (Cond.code yX3_sleepAll prog_5_method_7_code (2) (some FieldType.boolean)) ∈ tg := tg_3 (i := 58) rfl rfl
theorem tw539 : (Cond.methodLink "AsleepCots$Foresight" (38) yX3_passMinute) ∈ tg := tg_3 (i := 59) rfl rfl
theorem tw540 : (Cond.constant "AsleepCots$Foresight" (42) (-1000000)) ∈ tg := tg_3 (i := 60) rfl rfl
theorem tw541 : (Cond.methodLink "AsleepCotsLaw" (94) yX6_allAsleep) ∈ tg := tg_3 (i := 61) rfl rfl
theorem tw542 : (Cond.instanceMethod yX6_allAsleep) ∈ tg := tg_3 (i := 62) rfl rfl
theorem tw543 : (Cond.selects "AsleepCots" yX6_allAsleep yX6_allAsleep) ∈ tg := tg_3 (i := 63) rfl rfl
theorem tw544 : (Cond.code yX6_allAsleep prog_1_method_21_code (1) (some FieldType.int)) ∈ tg := tg_3 (i := 64) rfl rfl
theorem tw545 : (Cond.methodLink "AsleepCots" (217) yX3_everybody) ∈ tg := tg_3 (i := 65) rfl rfl
theorem tw546 : (Cond.instanceMethod yX3_everybody) ∈ tg := tg_3 (i := 66) rfl rfl
theorem tw547 : (Cond.selects "AsleepCots$Room" yX3_everybody yX3_everybody) ∈ tg := tg_3 (i := 67) rfl rfl
theorem tw548 : (Cond.code yX3_everybody prog_5_method_5_code (1) (some FieldType.int)) ∈ tg := tg_3 (i := 68) rfl rfl
theorem tw549 : (Cond.methodLink "AsleepCotsLaw" (98) yX6_dinner) ∈ tg := tg_3 (i := 69) rfl rfl
theorem tw550 : (Cond.instanceMethod yX6_dinner) ∈ tg := tg_3 (i := 70) rfl rfl
theorem tw551 : (Cond.selects "AsleepCots" yX6_dinner yX6_dinner) ∈ tg := tg_3 (i := 71) rfl rfl
theorem tw552 : (Cond.code yX6_dinner prog_1_method_22_code (2) (some FieldType.int)) ∈ tg := tg_3 (i := 72) rfl rfl
theorem tw553 : (Cond.methodLink "AsleepCots" (220) yX1_longestDinner) ∈ tg := tg_3 (i := 73) rfl rfl
theorem tw554 : (Cond.instanceMethod yX1_longestDinner) ∈ tg := tg_3 (i := 74) rfl rfl
theorem tw555 : (Cond.selects "AsleepCots$Foresight" yX1_longestDinner yX1_longestDinner) ∈ tg := tg_3 (i := 75) rfl rfl
theorem tw556 : (Cond.code yX1_longestDinner prog_3_method_4_code (7) (some FieldType.int)) ∈ tg := tg_3 (i := 76) rfl rfl
theorem tw557 : (Cond.methodLink "AsleepCots$Foresight" (43) yX3_everybody) ∈ tg := tg_3 (i := 77) rfl rfl
theorem tw558 : (Cond.methodLink "AsleepCots$Foresight" (51) yJ9_max_7cf53) ∈ tg := tg_3 (i := 78) rfl rfl
theorem tw559 : (Cond.methodLink "AsleepCotsLaw" (102) yX6_hands) ∈ tg := tg_3 (i := 79) rfl rfl
theorem tw560 : (Cond.instanceMethod yX6_hands) ∈ tg := tg_3 (i := 80) rfl rfl
theorem tw561 : (Cond.selects "AsleepCots" yX6_hands yX6_hands) ∈ tg := tg_3 (i := 81) rfl rfl
theorem tw562 : (Cond.code yX6_hands prog_1_method_23_code (3) (some FieldType.int)) ∈ tg := tg_3 (i := 82) rfl rfl
theorem tw563 : (Cond.methodLink "AsleepCots" (223) yX1_planHands) ∈ tg := tg_3 (i := 83) rfl rfl
theorem tw564 : (Cond.instanceMethod yX1_planHands) ∈ tg := tg_3 (i := 84) rfl rfl
theorem tw565 : (Cond.selects "AsleepCots$Foresight" yX1_planHands yX1_planHands) ∈ tg := tg_3 (i := 85) rfl rfl
theorem tw566 : (Cond.code yX1_planHands prog_3_method_5_code (4) (none : Option FieldType)) ∈ tg := tg_3 (i := 86) rfl rfl
theorem tw567 : (Cond.methodLink "AsleepCots$Foresight" (60) yJ6_bitCount_0f7a4) ∈ tg := tg_3 (i := 87) rfl rfl
theorem tw568 : (Cond.methodLink "AsleepCots$Foresight" (72) yX3_thoseWho) ∈ tg := tg_3 (i := 88) rfl rfl
theorem tw569 : (Cond.methodLink "AsleepCots$Foresight" (75) yX1_weighHands) ∈ tg := tg_3 (i := 89) rfl rfl
theorem tw571 : (Cond.instanceMethod yX1_weighHands) ∈ tg := tg_3 (i := 91) rfl rfl
theorem tw572 : (Cond.code yX1_weighHands prog_3_method_6_code (4) (none : Option FieldType)) ∈ tg := tg_3 (i := 92) rfl rfl
theorem tw573 : (Cond.methodLink "AsleepCotsLaw" (106) yX6_outs) ∈ tg := tg_3 (i := 93) rfl rfl
theorem tw574 : (Cond.instanceMethod yX6_outs) ∈ tg := tg_3 (i := 94) rfl rfl
theorem tw575 : (Cond.selects "AsleepCots" yX6_outs yX6_outs) ∈ tg := tg_3 (i := 95) rfl rfl
theorem tw576 : (Cond.code yX6_outs prog_1_method_24_code (4) (some FieldType.int)) ∈ tg := tg_3 (i := 96) rfl rfl
theorem tw577 : (Cond.methodLink "AsleepCots" (233) yX1_fewestOut) ∈ tg := tg_3 (i := 97) rfl rfl
theorem tw578 : (Cond.instanceMethod yX1_fewestOut) ∈ tg := tg_3 (i := 98) rfl rfl
theorem tw579 : (Cond.selects "AsleepCots$Foresight" yX1_fewestOut yX1_fewestOut) ∈ tg := tg_3 (i := 99) rfl rfl
theorem tw580 : (Cond.code yX1_fewestOut prog_3_method_7_code (5) (some FieldType.int)) ∈ tg := tg_3 (i := 100) rfl rfl
theorem tw581 : (Cond.methodLink "AsleepCotsLaw" (110) yX6_best) ∈ tg := tg_3 (i := 101) rfl rfl
theorem tw582 : (Cond.instanceMethod yX6_best) ∈ tg := tg_3 (i := 102) rfl rfl
theorem tw583 : (Cond.selects "AsleepCots" yX6_best yX6_best) ∈ tg := tg_3 (i := 103) rfl rfl
theorem tw584 : (Cond.code yX6_best prog_1_method_25_code (3) (some FieldType.int)) ∈ tg := tg_3 (i := 104) rfl rfl
theorem tw585 : (Cond.constant "AsleepCots" (236) (-1000000)) ∈ tg := tg_3 (i := 105) rfl rfl
theorem tw586 : (Cond.methodLink "AsleepCots" (237) yX1_planChange) ∈ tg := tg_3 (i := 106) rfl rfl
theorem tw587 : (Cond.instanceMethod yX1_planChange) ∈ tg := tg_3 (i := 107) rfl rfl
theorem tw588 : (Cond.selects "AsleepCots$Foresight" yX1_planChange yX1_planChange) ∈ tg := tg_3 (i := 108) rfl rfl
theorem tw589 : (Cond.code yX1_planChange prog_3_method_8_code (6) (none : Option FieldType)) ∈ tg := tg_3 (i := 109) rfl rfl
theorem tw590 : (Cond.methodLink "AsleepCots$Foresight" (85) yX3_swapCots) ∈ tg := tg_3 (i := 110) rfl rfl
theorem tw591 : (Cond.methodLink "AsleepCotsLaw" (114) yX6_silence) ∈ tg := tg_3 (i := 111) rfl rfl
theorem tw592 : (Cond.instanceMethod yX6_silence) ∈ tg := tg_3 (i := 112) rfl rfl
theorem tw593 : (Cond.selects "AsleepCots" yX6_silence yX6_silence) ∈ tg := tg_3 (i := 113) rfl rfl
theorem tw594 : (Cond.code yX6_silence prog_1_method_26_code (1) (some FieldType.int)) ∈ tg := tg_3 (i := 114) rfl rfl
theorem tw595 : (Cond.methodLink "AsleepCots" (240) yX3_loudestUnheeded) ∈ tg := tg_3 (i := 115) rfl rfl
theorem tw596 : (Cond.instanceMethod yX3_loudestUnheeded) ∈ tg := tg_3 (i := 116) rfl rfl
theorem tw597 : (Cond.selects "AsleepCots$Room" yX3_loudestUnheeded yX3_loudestUnheeded) ∈ tg := tg_3 (i := 117) rfl rfl
theorem tw598 : (Cond.code yX3_loudestUnheeded prog_5_method_13_code (3) (some FieldType.int)) ∈ tg := tg_3 (i := 118) rfl rfl
theorem tw599 : (Cond.methodLink "AsleepCots$Room" (95) yJ9_min_7cf53) ∈ tg := tg_3 (i := 119) rfl rfl
theorem tw600 : (Cond.methodLink "AsleepCotsLaw" (118) yX6_wakes) ∈ tg := tg_3 (i := 120) rfl rfl
theorem tw601 : (Cond.instanceMethod yX6_wakes) ∈ tg := tg_3 (i := 121) rfl rfl
theorem tw602 : (Cond.selects "AsleepCots" yX6_wakes yX6_wakes) ∈ tg := tg_3 (i := 122) rfl rfl
theorem tw603 : (Cond.code yX6_wakes prog_1_method_27_code (2) (some FieldType.int)) ∈ tg := tg_3 (i := 123) rfl rfl
theorem tw604 : (Cond.methodLink "AsleepCots" (243) yX1_wokenBy) ∈ tg := tg_3 (i := 124) rfl rfl
theorem tw605 : (Cond.instanceMethod yX1_wokenBy) ∈ tg := tg_3 (i := 125) rfl rfl
theorem tw606 : (Cond.selects "AsleepCots$Foresight" yX1_wokenBy yX1_wokenBy) ∈ tg := tg_3 (i := 126) rfl rfl
theorem tw607 : (Cond.code yX1_wokenBy prog_3_method_9_code (4) (some FieldType.int)) ∈ tg := tg_3 (i := 127) rfl rfl
theorem tw608 : (Cond.methodLink "AsleepCots$Foresight" (88) yX1_after) ∈ tg := tg_3 (i := 128) rfl rfl
theorem tw609 : (Cond.methodLink "AsleepCots$Foresight" (92) yX3_cry) ∈ tg := tg_3 (i := 129) rfl rfl
theorem tw610 : (Cond.methodLink "AsleepCotsLaw" (122) yX6_loudest) ∈ tg := tg_3 (i := 130) rfl rfl
theorem tw611 : (Cond.instanceMethod yX6_loudest) ∈ tg := tg_3 (i := 131) rfl rfl
theorem tw612 : (Cond.selects "AsleepCots" yX6_loudest yX6_loudest) ∈ tg := tg_3 (i := 132) rfl rfl
theorem tw613 : (Cond.code yX6_loudest prog_1_method_28_code (1) (some FieldType.int)) ∈ tg := tg_3 (i := 133) rfl rfl
theorem tw614 : (Cond.methodLink "AsleepCots" (246) yX3_whereLoudest) ∈ tg := tg_3 (i := 134) rfl rfl
theorem tw615 : (Cond.instanceMethod yX3_whereLoudest) ∈ tg := tg_3 (i := 135) rfl rfl
theorem tw616 : (Cond.selects "AsleepCots$Room" yX3_whereLoudest yX3_whereLoudest) ∈ tg := tg_3 (i := 136) rfl rfl
theorem tw617 : (Cond.code yX3_whereLoudest prog_5_method_12_code (4) (some FieldType.int)) ∈ tg := tg_3 (i := 137) rfl rfl
theorem tw618 : (Cond.methodLink "AsleepCotsLaw" (126) yX6_who) ∈ tg := tg_3 (i := 138) rfl rfl
theorem tw619 : (Cond.instanceMethod yX6_who) ∈ tg := tg_3 (i := 139) rfl rfl
theorem tw620 : (Cond.selects "AsleepCots" yX6_who yX6_who) ∈ tg := tg_3 (i := 140) rfl rfl
theorem tw621 : (Cond.code yX6_who prog_1_method_29_code (7) (some FieldType.int)) ∈ tg := tg_3 (i := 141) rfl rfl
theorem tw622 : (Cond.methodLink "AsleepCots" (249) yX1_tell) ∈ tg := tg_3 (i := 142) rfl rfl
theorem tw623 : (Cond.instanceMethod yX1_tell) ∈ tg := tg_3 (i := 143) rfl rfl
theorem tw624 : (Cond.selects "AsleepCots$Foresight" yX1_tell yX1_tell) ∈ tg := tg_3 (i := 144) rfl rfl
theorem tw625 : (Cond.code yX1_tell prog_3_method_10_code (4) (none : Option FieldType)) ∈ tg := tg_3 (i := 145) rfl rfl
theorem tw626 : (Cond.methodLink "AsleepCots$Foresight" (98) yX4_lacks) ∈ tg := tg_3 (i := 146) rfl rfl
theorem tw627 : (Cond.methodLink "AsleepCots$Foresight" (107) ⟨"java/lang/System", "arraycopy", "(Ljava/lang/Object;ILjava/lang/Object;II)V"⟩) ∈ tg := tg_3 (i := 147) rfl rfl
theorem tw628 : (Cond.methodLink "AsleepCots" (253) yX1_fittingTraits) ∈ tg := tg_3 (i := 148) rfl rfl
theorem tw629 : (Cond.instanceMethod yX1_fittingTraits) ∈ tg := tg_3 (i := 149) rfl rfl
theorem tw630 : (Cond.selects "AsleepCots$Foresight" yX1_fittingTraits yX1_fittingTraits) ∈ tg := tg_3 (i := 150) rfl rfl
theorem tw631 : (Cond.code yX1_fittingTraits prog_3_method_12_code (8) (some FieldType.int)) ∈ tg := tg_3 (i := 151) rfl rfl
theorem tw632 : (Cond.methodLink "AsleepCots$Foresight" (113) yX1_traitsOf) ∈ tg := tg_3 (i := 152) rfl rfl
theorem tw633 : (Cond.static yX1_traitsOf) ∈ tg := tg_3 (i := 153) rfl rfl
theorem tw634 : (Cond.code yX1_traitsOf prog_3_method_13_code (2) (Option.some (FieldType.array FieldType.int))) ∈ tg := tg_3 (i := 154) rfl rfl
theorem tw635 : (Cond.methodLink "AsleepCots$Foresight" (117) yX1_goesAsTold) ∈ tg := tg_3 (i := 155) rfl rfl
theorem tw637 : (Cond.instanceMethod yX1_goesAsTold) ∈ tg := tg_3 (i := 157) rfl rfl
theorem tw638 : (Cond.code yX1_goesAsTold prog_3_method_11_code (2) (some FieldType.boolean)) ∈ tg := tg_3 (i := 158) rfl rfl
theorem tw639 : (Cond.methodLink "AsleepCotsLaw" (130) yX6_held) ∈ tg := tg_3 (i := 159) rfl rfl
theorem tw640 : (Cond.instanceMethod yX6_held) ∈ tg := tg_3 (i := 160) rfl rfl
theorem tw641 : (Cond.selects "AsleepCots" yX6_held yX6_held) ∈ tg := tg_3 (i := 161) rfl rfl
theorem tw642 : (Cond.code yX6_held prog_1_method_30_code (5) (some FieldType.int)) ∈ tg := tg_3 (i := 162) rfl rfl
theorem tw643 : (Cond.methodLink "AsleepCots" (257) yX1_fittingHands) ∈ tg := tg_3 (i := 163) rfl rfl
theorem tw644 : (Cond.instanceMethod yX1_fittingHands) ∈ tg := tg_3 (i := 164) rfl rfl
theorem tw645 : (Cond.selects "AsleepCots$Foresight" yX1_fittingHands yX1_fittingHands) ∈ tg := tg_3 (i := 165) rfl rfl
theorem tw646 : (Cond.code yX1_fittingHands prog_3_method_14_code (4) (some FieldType.int)) ∈ tg := tg_3 (i := 166) rfl rfl
theorem tw647 : (Cond.methodLink "AsleepCotsLaw" (134) yX6_lorries) ∈ tg := tg_3 (i := 167) rfl rfl
theorem tw648 : (Cond.instanceMethod yX6_lorries) ∈ tg := tg_3 (i := 168) rfl rfl
theorem tw649 : (Cond.selects "AsleepCots" yX6_lorries yX6_lorries) ∈ tg := tg_3 (i := 169) rfl rfl
theorem tw650 : (Cond.code yX6_lorries prog_1_method_31_code (5) (some FieldType.long)) ∈ tg := tg_3 (i := 170) rfl rfl
theorem tw651 : (Cond.constantLong "AsleepCots" (260) (-1000002)) ∈ tg := tg_3 (i := 171) rfl rfl
theorem tw652 : (Cond.constantLong "AsleepCots" (262) (-1000001)) ∈ tg := tg_3 (i := 172) rfl rfl
theorem tw653 : (Cond.methodLink "AsleepCots" (264) yX1_countCases) ∈ tg := tg_3 (i := 173) rfl rfl
theorem tw654 : (Cond.instanceMethod yX1_countCases) ∈ tg := tg_3 (i := 174) rfl rfl
theorem tw655 : (Cond.selects "AsleepCots$Foresight" yX1_countCases yX1_countCases) ∈ tg := tg_3 (i := 175) rfl rfl
theorem tw656 : (Cond.code yX1_countCases prog_3_method_15_code (6) (none : Option FieldType)) ∈ tg := tg_3 (i := 176) rfl rfl
theorem tw657 : (Cond.methodLink "AsleepCots$Foresight" (132) yX1_casesAsleep) ∈ tg := tg_3 (i := 177) rfl rfl
theorem tw659 : (Cond.instanceMethod yX1_casesAsleep) ∈ tg := tg_3 (i := 179) rfl rfl
theorem tw660 : (Cond.code yX1_casesAsleep prog_3_method_16_code (11) (some FieldType.long)) ∈ tg := tg_3 (i := 180) rfl rfl
theorem tw661 : (Cond.methodLink "AsleepCots$Foresight" (148) yX3_passLorry) ∈ tg := tg_3 (i := 181) rfl rfl
theorem tw662 : (Cond.constantLong "AsleepCots$Foresight" (143) (10)) ∈ tg := tg_3 (i := 182) rfl rfl
theorem tw663 : (Cond.methodLink "AsleepCots$Foresight" (145) yX1_cancel) ∈ tg := tg_3 (i := 183) rfl rfl
theorem tw665 : (Cond.instanceMethod yX1_cancel) ∈ tg := tg_3 (i := 185) rfl rfl
theorem tw666 : (Cond.code yX1_cancel prog_3_method_17_code (3) (none : Option FieldType)) ∈ tg := tg_3 (i := 186) rfl rfl
theorem tw667 : (Cond.methodLink "AsleepCots$Foresight" (151) yX1_cancelBy) ∈ tg := tg_3 (i := 187) rfl rfl
theorem tw669 : (Cond.instanceMethod yX1_cancelBy) ∈ tg := tg_3 (i := 189) rfl rfl
theorem tw670 : (Cond.code yX1_cancelBy prog_3_method_18_code (2) (none : Option FieldType)) ∈ tg := tg_3 (i := 190) rfl rfl
theorem tw671 : (Cond.methodLink "AsleepCotsLaw" (139) yX6_drawn) ∈ tg := tg_3 (i := 191) rfl rfl
theorem tw672 : (Cond.instanceMethod yX6_drawn) ∈ tg := tg_3 (i := 192) rfl rfl
theorem tw673 : (Cond.selects "AsleepCots" yX6_drawn yX6_drawn) ∈ tg := tg_3 (i := 193) rfl rfl
theorem tw674 : (Cond.code yX6_drawn prog_1_method_32_code (5) (some FieldType.int)) ∈ tg := tg_3 (i := 194) rfl rfl
theorem tw675 : (Cond.constant "AsleepCots" (275) (999999)) ∈ tg := tg_3 (i := 195) rfl rfl
theorem tw676 : (Cond.methodLink "AsleepCots" (276) yX1_drawDay) ∈ tg := tg_3 (i := 196) rfl rfl
theorem tw677 : (Cond.instanceMethod yX1_drawDay) ∈ tg := tg_3 (i := 197) rfl rfl
theorem tw678 : (Cond.selects "AsleepCots$Foresight" yX1_drawDay yX1_drawDay) ∈ tg := tg_3 (i := 198) rfl rfl
theorem tw679 : (Cond.code yX1_drawDay prog_3_method_19_code (8) (some FieldType.int)) ∈ tg := tg_3 (i := 199) rfl rfl
theorem tw680 : (Cond.constantLong "AsleepCots$Foresight" (154) (16807)) ∈ tg := tg_3 (i := 200) rfl rfl
theorem tw681 : (Cond.constantLong "AsleepCots$Foresight" (156) (2147483647)) ∈ tg := tg_3 (i := 201) rfl rfl
theorem tw682 : (Cond.constantLong "AsleepCots$Foresight" (158) (6)) ∈ tg := tg_3 (i := 202) rfl rfl
theorem tw683 : (Cond.constantLong "AsleepCots$Foresight" (160) (20)) ∈ tg := tg_3 (i := 203) rfl rfl
theorem tw684 : (Cond.constantLong "AsleepCots$Foresight" (162) (7)) ∈ tg := tg_3 (i := 204) rfl rfl
theorem tw685 : (Cond.methodLink "AsleepCotsLaw" (143) yX6_image) ∈ tg := tg_3 (i := 205) rfl rfl
theorem tw686 : (Cond.instanceMethod yX6_image) ∈ tg := tg_3 (i := 206) rfl rfl
theorem tw687 : (Cond.selects "AsleepCots" yX6_image yX6_image) ∈ tg := tg_3 (i := 207) rfl rfl
theorem tw688 : (Cond.code yX6_image prog_1_method_33_code (2) (some FieldType.int)) ∈ tg := tg_3 (i := 208) rfl rfl
theorem tw689 : (Cond.methodLink "AsleepCotsLaw" (147) yX6_restore) ∈ tg := tg_3 (i := 209) rfl rfl
theorem tw690 : (Cond.instanceMethod yX6_restore) ∈ tg := tg_3 (i := 210) rfl rfl
theorem tw691 : (Cond.selects "AsleepCots" yX6_restore yX6_restore) ∈ tg := tg_3 (i := 211) rfl rfl
theorem tw692 : (Cond.code yX6_restore prog_1_method_34_code (2) (some FieldType.int)) ∈ tg := tg_3 (i := 212) rfl rfl
theorem tw693 : (Cond.methodLink "AsleepCotsLaw" (151) yX6_kind) ∈ tg := tg_3 (i := 213) rfl rfl
theorem tw694 : (Cond.instanceMethod yX6_kind) ∈ tg := tg_3 (i := 214) rfl rfl
theorem tw695 : (Cond.selects "AsleepCots" yX6_kind yX6_kind) ∈ tg := tg_3 (i := 215) rfl rfl
theorem tw696 : (Cond.code yX6_kind prog_1_method_35_code (2) (some FieldType.int)) ∈ tg := tg_3 (i := 216) rfl rfl
theorem tw697 : (Cond.methodLink "AsleepCotsLaw" (155) yX6_as) ∈ tg := tg_3 (i := 217) rfl rfl
theorem tw698 : (Cond.instanceMethod yX6_as) ∈ tg := tg_3 (i := 218) rfl rfl
theorem tw699 : (Cond.selects "AsleepCots" yX6_as yX6_as) ∈ tg := tg_3 (i := 219) rfl rfl
theorem tw700 : (Cond.code yX6_as prog_1_method_36_code (3) (some FieldType.int)) ∈ tg := tg_3 (i := 220) rfl rfl
theorem tw701 : (Cond.methodLink "AsleepCots" (285) yX6_isOne) ∈ tg := tg_3 (i := 221) rfl rfl
theorem tw702 : (Cond.static yX6_isOne) ∈ tg := tg_3 (i := 222) rfl rfl
theorem tw703 : (Cond.code yX6_isOne prog_1_method_49_code (4) (some FieldType.boolean)) ∈ tg := tg_3 (i := 223) rfl rfl
theorem tw704 : (Cond.fieldLink "AsleepCots" (304) "AsleepCots" "ABOVE" "[I") ∈ tg := tg_3 (i := 224) rfl rfl
theorem tw706 : (Cond.methodLink "AsleepCotsLaw" (159) yX6_ask) ∈ tg := tg_3 (i := 226) rfl rfl
theorem tw707 : (Cond.instanceMethod yX6_ask) ∈ tg := tg_3 (i := 227) rfl rfl
theorem tw708 : (Cond.selects "AsleepCots" yX6_ask yX6_ask) ∈ tg := tg_3 (i := 228) rfl rfl
theorem tw709 : (Cond.code yX6_ask prog_1_method_37_code (3) (some FieldType.int)) ∈ tg := tg_3 (i := 229) rfl rfl
theorem tw710 : (Cond.methodLink "AsleepCots" (288) yX0_answer) ∈ tg := tg_3 (i := 230) rfl rfl
theorem tw711 : (Cond.instanceMethod yX0_answer) ∈ tg := tg_3 (i := 231) rfl rfl
theorem tw712 : (Cond.selects "AsleepCots$Asks" yX0_answer yX0_answer) ∈ tg := tg_3 (i := 232) rfl rfl
theorem tw713 : (Cond.code yX0_answer prog_2_method_2_code (4) (some FieldType.int)) ∈ tg := tg_3 (i := 233) rfl rfl
theorem tw714 : (Cond.methodLink "AsleepCots$Asks" (30) yX3_heardCriers) ∈ tg := tg_3 (i := 234) rfl rfl
theorem tw715 : (Cond.methodLink "AsleepCots$Asks" (34) yX3_noiseAt) ∈ tg := tg_3 (i := 235) rfl rfl
theorem tw716 : (Cond.fieldLink "AsleepCots$Asks" (41) "AsleepCots$Asks" "SIZE_BODIES" "[I") ∈ tg := tg_3 (i := 236) rfl rfl
theorem tw718 : (Cond.methodLink "AsleepCots$Asks" (47) yX0_nearest) ∈ tg := tg_3 (i := 238) rfl rfl
theorem tw719 : (Cond.static yX0_nearest) ∈ tg := tg_3 (i := 239) rfl rfl
theorem tw720 : (Cond.code yX0_nearest prog_2_method_3_code (4) (some FieldType.int)) ∈ tg := tg_4 (i := 0) rfl rfl
theorem tw722 : (Cond.fieldLink "AsleepCots$Asks" (54) "AsleepCots$Asks" "MARK_BODIES" "[I") ∈ tg := tg_4 (i := 2) rfl rfl
theorem tw724 : (Cond.methodLink "AsleepCots$Asks" (60) yX0_give) ∈ tg := tg_4 (i := 4) rfl rfl
theorem tw726 : (Cond.instanceMethod yX0_give) ∈ tg := tg_4 (i := 6) rfl rfl
theorem tw727 : (Cond.code yX0_give prog_2_method_4_code (4) (some FieldType.int)) ∈ tg := tg_4 (i := 7) rfl rfl
theorem tw728 : (Cond.methodLink "AsleepCots$Asks" (66) yX0_leave) ∈ tg := tg_4 (i := 8) rfl rfl
theorem tw730 : (Cond.instanceMethod yX0_leave) ∈ tg := tg_4 (i := 10) rfl rfl
theorem tw731 : (Cond.code yX0_leave prog_2_method_5_code (2) (none : Option FieldType)) ∈ tg := tg_4 (i := 11) rfl rfl
theorem tw732 : (Cond.methodLink "AsleepCotsLaw" (163) yX6_trace) ∈ tg := tg_4 (i := 12) rfl rfl
theorem tw733 : (Cond.instanceMethod yX6_trace) ∈ tg := tg_4 (i := 13) rfl rfl
theorem tw734 : (Cond.selects "AsleepCots" yX6_trace yX6_trace) ∈ tg := tg_4 (i := 14) rfl rfl
theorem tw735 : (Cond.code yX6_trace prog_1_method_38_code (2) (some FieldType.int)) ∈ tg := tg_4 (i := 15) rfl rfl
theorem tw736 : (Cond.methodLink "AsleepCotsLaw" (167) yX6_count) ∈ tg := tg_4 (i := 16) rfl rfl
theorem tw737 : (Cond.instanceMethod yX6_count) ∈ tg := tg_4 (i := 17) rfl rfl
theorem tw738 : (Cond.selects "AsleepCots" yX6_count yX6_count) ∈ tg := tg_4 (i := 18) rfl rfl
theorem tw739 : (Cond.code yX6_count prog_1_method_39_code (2) (some FieldType.int)) ∈ tg := tg_4 (i := 19) rfl rfl
theorem tw740 : (Cond.methodLink "AsleepCots" (297) yX6_presentRows) ∈ tg := tg_4 (i := 20) rfl rfl
theorem tw742 : (Cond.instanceMethod yX6_presentRows) ∈ tg := tg_4 (i := 22) rfl rfl
theorem tw743 : (Cond.code yX6_presentRows prog_1_method_45_code (3) (some FieldType.int)) ∈ tg := tg_4 (i := 23) rfl rfl
theorem tw744 : (Cond.methodLink "AsleepCotsLaw" (171) yX6_status) ∈ tg := tg_4 (i := 24) rfl rfl
theorem tw745 : (Cond.instanceMethod yX6_status) ∈ tg := tg_4 (i := 25) rfl rfl
theorem tw746 : (Cond.selects "AsleepCots" yX6_status yX6_status) ∈ tg := tg_4 (i := 26) rfl rfl
theorem tw747 : (Cond.code yX6_status prog_1_method_40_code (1) (some FieldType.int)) ∈ tg := tg_4 (i := 27) rfl rfl
theorem tw748 : (Cond.classLink "AsleepCotsLaw" (10) "AsleepCotsModel") ∈ tg := tg_4 (i := 28) rfl rfl
theorem tw749 : (Cond.instantiable "AsleepCotsModel" (18)) ∈ tg := tg_4 (i := 29) rfl rfl
theorem tw750 : (Cond.methodLink "AsleepCotsLaw" (12) yX7_init) ∈ tg := tg_4 (i := 30) rfl rfl
theorem tw751 : (Cond.instanceMethod yX7_init) ∈ tg := tg_4 (i := 31) rfl rfl
theorem tw752 : (Cond.code yX7_init prog_9_method_1_code (2) (none : Option FieldType)) ∈ tg := tg_4 (i := 32) rfl rfl
theorem tw753 : (Cond.methodLink "AsleepCotsModel" (1) ⟨"java/lang/Object", "<init>", "()V"⟩) ∈ tg := tg_4 (i := 33) rfl rfl
theorem tw754 : (Cond.fieldLink "AsleepCotsModel" (7) "AsleepCotsModel" "w" "[I") ∈ tg := tg_4 (i := 34) rfl rfl
theorem tw755 : (Cond.fieldLink "AsleepCotsModel" (13) "AsleepCotsModel" "isKept" "[Z") ∈ tg := tg_4 (i := 35) rfl rfl
theorem tw756 : (Cond.fieldLink "AsleepCotsModel" (17) "AsleepCotsModel" "acts" "[I") ∈ tg := tg_4 (i := 36) rfl rfl
theorem tw757 : (Cond.fieldLink "AsleepCotsModel" (120) "AsleepCotsModel" "acted" "I") ∈ tg := tg_4 (i := 37) rfl rfl
theorem tw758 : (Cond.fieldLink "AsleepCotsModel" (20) "AsleepCotsModel" "rows" "[I") ∈ tg := tg_4 (i := 38) rfl rfl
theorem tw759 : (Cond.fieldLink "AsleepCotsModel" (23) "AsleepCotsModel" "rowSize" "[I") ∈ tg := tg_4 (i := 39) rfl rfl
theorem tw760 : (Cond.fieldLink "AsleepCotsModel" (26) "AsleepCotsModel" "rowLane" "[I") ∈ tg := tg_4 (i := 40) rfl rfl
theorem tw761 : (Cond.fieldLink "AsleepCotsModel" (41) "AsleepCotsModel" "status" "I") ∈ tg := tg_4 (i := 41) rfl rfl
theorem tw762 : (Cond.fieldLink "AsleepCotsModel" (29) "AsleepCotsModel" "tape" "[I") ∈ tg := tg_4 (i := 42) rfl rfl
theorem tw763 : (Cond.fieldLink "AsleepCotsModel" (72) "AsleepCotsModel" "taped" "I") ∈ tg := tg_4 (i := 43) rfl rfl
theorem tw764 : (Cond.fieldLink "AsleepCotsModel" (76) "AsleepCotsModel" "faulty" "I") ∈ tg := tg_4 (i := 44) rfl rfl
theorem tw765 : (Cond.fieldLink "AsleepCotsModel" (32) "AsleepCotsModel" "trace" "[I") ∈ tg := tg_4 (i := 45) rfl rfl
theorem tw766 : (Cond.fieldLink "AsleepCotsModel" (233) "AsleepCotsModel" "traced" "I") ∈ tg := tg_4 (i := 46) rfl rfl
theorem tw767 : (Cond.fieldLink "AsleepCotsModel" (35) "AsleepCotsModel" "held" "[I") ∈ tg := tg_4 (i := 47) rfl rfl
theorem tw768 : (Cond.fieldLink "AsleepCotsModel" (82) "AsleepCotsModel" "at" "I") ∈ tg := tg_4 (i := 48) rfl rfl
theorem tw769 : (Cond.fieldLink "AsleepCotsModel" (92) "AsleepCotsModel" "number" "I") ∈ tg := tg_4 (i := 49) rfl rfl
theorem tw770 : (Cond.fieldLink "AsleepCotsModel" (79) "AsleepCotsModel" "faultAt" "I") ∈ tg := tg_4 (i := 50) rfl rfl
theorem tw771 : (Cond.fieldLink "AsleepCotsModel" (38) "AsleepCotsModel" "hears" "[Z") ∈ tg := tg_4 (i := 51) rfl rfl
theorem tw772 : (Cond.laysFinal "AsleepCotsModel" "AsleepCotsModel" "w" "[I") ∈ tg := tg_4 (i := 52) rfl rfl
theorem tw774 : (Cond.laysFinal "AsleepCotsModel" "AsleepCotsModel" "isKept" "[Z") ∈ tg := tg_4 (i := 54) rfl rfl
theorem tw776 : (Cond.laysFinal "AsleepCotsModel" "AsleepCotsModel" "acts" "[I") ∈ tg := tg_4 (i := 56) rfl rfl
theorem tw778 : (Cond.lays "AsleepCotsModel" "AsleepCotsModel" "acted" "I") ∈ tg := tg_4 (i := 58) rfl rfl
theorem tw780 : (Cond.laysFinal "AsleepCotsModel" "AsleepCotsModel" "rows" "[I") ∈ tg := tg_4 (i := 60) rfl rfl
theorem tw782 : (Cond.laysFinal "AsleepCotsModel" "AsleepCotsModel" "rowSize" "[I") ∈ tg := tg_4 (i := 62) rfl rfl
theorem tw784 : (Cond.laysFinal "AsleepCotsModel" "AsleepCotsModel" "rowLane" "[I") ∈ tg := tg_4 (i := 64) rfl rfl
theorem tw786 : (Cond.lays "AsleepCotsModel" "AsleepCotsModel" "status" "I") ∈ tg := tg_4 (i := 66) rfl rfl
theorem tw788 : (Cond.laysFinal "AsleepCotsModel" "AsleepCotsModel" "tape" "[I") ∈ tg := tg_4 (i := 68) rfl rfl
theorem tw790 : (Cond.lays "AsleepCotsModel" "AsleepCotsModel" "taped" "I") ∈ tg := tg_4 (i := 70) rfl rfl
theorem tw792 : (Cond.lays "AsleepCotsModel" "AsleepCotsModel" "faulty" "I") ∈ tg := tg_4 (i := 72) rfl rfl
theorem tw794 : (Cond.laysFinal "AsleepCotsModel" "AsleepCotsModel" "trace" "[I") ∈ tg := tg_4 (i := 74) rfl rfl
theorem tw796 : (Cond.lays "AsleepCotsModel" "AsleepCotsModel" "traced" "I") ∈ tg := tg_4 (i := 76) rfl rfl
theorem tw798 : (Cond.laysFinal "AsleepCotsModel" "AsleepCotsModel" "held" "[I") ∈ tg := tg_4 (i := 78) rfl rfl
theorem tw800 : (Cond.lays "AsleepCotsModel" "AsleepCotsModel" "at" "I") ∈ tg := tg_4 (i := 80) rfl rfl
theorem tw802 : (Cond.lays "AsleepCotsModel" "AsleepCotsModel" "number" "I") ∈ tg := tg_4 (i := 82) rfl rfl
theorem tw804 : (Cond.lays "AsleepCotsModel" "AsleepCotsModel" "faultAt" "I") ∈ tg := tg_4 (i := 84) rfl rfl
theorem tw806 : (Cond.laysFinal "AsleepCotsModel" "AsleepCotsModel" "hears" "[Z") ∈ tg := tg_4 (i := 86) rfl rfl
theorem tw809 : (Cond.arrayClass FieldType.boolean) ∈ tg := tg_4 (i := 89) rfl rfl
theorem tw810 : (Cond.methodLink "AsleepCotsLaw" (17) yX7_row) ∈ tg := tg_4 (i := 90) rfl rfl
theorem tw811 : (Cond.instanceMethod yX7_row) ∈ tg := tg_4 (i := 91) rfl rfl
theorem tw812 : (Cond.selects "AsleepCotsModel" yX7_row yX7_row) ∈ tg := tg_4 (i := 92) rfl rfl
theorem tw813 : (Cond.code yX7_row prog_9_method_9_code (5) (some FieldType.int)) ∈ tg := tg_4 (i := 93) rfl rfl
theorem tw814 : (Cond.methodLink "AsleepCotsModel" (52) yX7_isRow) ∈ tg := tg_4 (i := 94) rfl rfl
theorem tw815 : (Cond.static yX7_isRow) ∈ tg := tg_4 (i := 95) rfl rfl
theorem tw816 : (Cond.code yX7_isRow prog_9_method_8_code (1) (some FieldType.boolean)) ∈ tg := tg_4 (i := 96) rfl rfl
theorem tw817 : (Cond.constantLong "AsleepCotsModel" (46) (7)) ∈ tg := tg_4 (i := 97) rfl rfl
theorem tw818 : (Cond.methodLink "AsleepCotsModel" (48) yX7_in) ∈ tg := tg_4 (i := 98) rfl rfl
theorem tw819 : (Cond.static yX7_in) ∈ tg := tg_4 (i := 99) rfl rfl
theorem tw820 : (Cond.code yX7_in prog_9_method_3_code (6) (some FieldType.boolean)) ∈ tg := tg_4 (i := 100) rfl rfl
theorem tw821 : (Cond.constantLong "AsleepCotsModel" (56) (2)) ∈ tg := tg_4 (i := 101) rfl rfl
theorem tw822 : (Cond.constant "AsleepCotsModel" (58) (-1000001)) ∈ tg := tg_4 (i := 102) rfl rfl
theorem tw823 : (Cond.methodLink "AsleepCotsModel" (59) yX7_found) ∈ tg := tg_4 (i := 103) rfl rfl
theorem tw825 : (Cond.instanceMethod yX7_found) ∈ tg := tg_4 (i := 105) rfl rfl
theorem tw826 : (Cond.code yX7_found prog_9_method_6_code (2) (some FieldType.int)) ∈ tg := tg_4 (i := 106) rfl rfl
theorem tw827 : (Cond.constant "AsleepCotsModel" (45) (-1000010)) ∈ tg := tg_4 (i := 107) rfl rfl
theorem tw828 : (Cond.methodLink "AsleepCotsModel" (63) yX7_good) ∈ tg := tg_4 (i := 108) rfl rfl
theorem tw830 : (Cond.instanceMethod yX7_good) ∈ tg := tg_4 (i := 110) rfl rfl
theorem tw831 : (Cond.code yX7_good prog_9_method_7_code (2) (some FieldType.int)) ∈ tg := tg_4 (i := 111) rfl rfl
theorem tw832 : (Cond.methodLink "AsleepCotsLaw" (21) yX7_set) ∈ tg := tg_4 (i := 112) rfl rfl
theorem tw833 : (Cond.instanceMethod yX7_set) ∈ tg := tg_4 (i := 113) rfl rfl
theorem tw834 : (Cond.selects "AsleepCotsModel" yX7_set yX7_set) ∈ tg := tg_4 (i := 114) rfl rfl
theorem tw835 : (Cond.code yX7_set prog_9_method_10_code (4) (some FieldType.int)) ∈ tg := tg_4 (i := 115) rfl rfl
theorem tw836 : (Cond.methodLink "AsleepCotsLaw" (26) yX7_copy) ∈ tg := tg_4 (i := 116) rfl rfl
theorem tw837 : (Cond.instanceMethod yX7_copy) ∈ tg := tg_4 (i := 117) rfl rfl
theorem tw838 : (Cond.selects "AsleepCotsModel" yX7_copy yX7_copy) ∈ tg := tg_4 (i := 118) rfl rfl
theorem tw839 : (Cond.code yX7_copy prog_9_method_12_code (7) (some FieldType.int)) ∈ tg := tg_4 (i := 119) rfl rfl
theorem tw840 : (Cond.methodLink "AsleepCotsModel" (66) yX7_fits) ∈ tg := tg_4 (i := 120) rfl rfl
theorem tw841 : (Cond.static yX7_fits) ∈ tg := tg_4 (i := 121) rfl rfl
theorem tw842 : (Cond.code yX7_fits prog_9_method_11_code (3) (some FieldType.boolean)) ∈ tg := tg_4 (i := 122) rfl rfl
theorem tw843 : (Cond.methodLink "AsleepCotsLaw" (31) yX7_drop) ∈ tg := tg_4 (i := 123) rfl rfl
theorem tw844 : (Cond.instanceMethod yX7_drop) ∈ tg := tg_4 (i := 124) rfl rfl
theorem tw845 : (Cond.selects "AsleepCotsModel" yX7_drop yX7_drop) ∈ tg := tg_4 (i := 125) rfl rfl
theorem tw846 : (Cond.code yX7_drop prog_9_method_13_code (3) (some FieldType.int)) ∈ tg := tg_4 (i := 126) rfl rfl
theorem tw847 : (Cond.methodLink "AsleepCotsLaw" (35) yX7_feed) ∈ tg := tg_4 (i := 127) rfl rfl
theorem tw848 : (Cond.instanceMethod yX7_feed) ∈ tg := tg_4 (i := 128) rfl rfl
theorem tw849 : (Cond.selects "AsleepCotsModel" yX7_feed yX7_feed) ∈ tg := tg_4 (i := 129) rfl rfl
theorem tw850 : (Cond.code yX7_feed prog_9_method_15_code (2) (some FieldType.int)) ∈ tg := tg_4 (i := 130) rfl rfl
theorem tw851 : (Cond.constantLong "AsleepCotsModel" (70) (255)) ∈ tg := tg_4 (i := 131) rfl rfl
theorem tw852 : (Cond.constant "AsleepCotsModel" (75) (-1000003)) ∈ tg := tg_4 (i := 132) rfl rfl
theorem tw853 : (Cond.methodLink "AsleepCotsLaw" (40) yX7_room) ∈ tg := tg_4 (i := 133) rfl rfl
theorem tw854 : (Cond.instanceMethod yX7_room) ∈ tg := tg_4 (i := 134) rfl rfl
theorem tw855 : (Cond.selects "AsleepCotsModel" yX7_room yX7_room) ∈ tg := tg_4 (i := 135) rfl rfl
theorem tw856 : (Cond.code yX7_room prog_9_method_24_code (2) (some FieldType.int)) ∈ tg := tg_4 (i := 136) rfl rfl
theorem tw857 : (Cond.methodLink "AsleepCotsModel" (108) yX7_takesLaw) ∈ tg := tg_4 (i := 137) rfl rfl
theorem tw859 : (Cond.instanceMethod yX7_takesLaw) ∈ tg := tg_4 (i := 139) rfl rfl
theorem tw860 : (Cond.code yX7_takesLaw prog_9_method_20_code (2) (some FieldType.boolean)) ∈ tg := tg_4 (i := 140) rfl rfl
theorem tw861 : (Cond.methodLink "AsleepCotsModel" (99) yX7_takes) ∈ tg := tg_4 (i := 141) rfl rfl
theorem tw863 : (Cond.instanceMethod yX7_takes) ∈ tg := tg_4 (i := 143) rfl rfl
theorem tw864 : (Cond.code yX7_takes prog_9_method_18_code (2) (some FieldType.boolean)) ∈ tg := tg_4 (i := 144) rfl rfl
theorem tw865 : (Cond.methodLink "AsleepCotsModel" (85) yX7_byteAt) ∈ tg := tg_4 (i := 145) rfl rfl
theorem tw867 : (Cond.instanceMethod yX7_byteAt) ∈ tg := tg_4 (i := 147) rfl rfl
theorem tw868 : (Cond.code yX7_byteAt prog_9_method_16_code (2) (some FieldType.int)) ∈ tg := tg_4 (i := 148) rfl rfl
theorem tw869 : (Cond.methodLink "AsleepCotsModel" (88) yX7_fails) ∈ tg := tg_4 (i := 149) rfl rfl
theorem tw871 : (Cond.instanceMethod yX7_fails) ∈ tg := tg_4 (i := 151) rfl rfl
theorem tw872 : (Cond.code yX7_fails prog_9_method_17_code (3) (some FieldType.boolean)) ∈ tg := tg_4 (i := 152) rfl rfl
theorem tw873 : (Cond.methodLink "AsleepCotsModel" (102) yX7_takesNumber) ∈ tg := tg_4 (i := 153) rfl rfl
theorem tw875 : (Cond.instanceMethod yX7_takesNumber) ∈ tg := tg_4 (i := 155) rfl rfl
theorem tw876 : (Cond.code yX7_takesNumber prog_9_method_19_code (5) (some FieldType.boolean)) ∈ tg := tg_4 (i := 156) rfl rfl
theorem tw877 : (Cond.constantLong "AsleepCotsModel" (95) (48)) ∈ tg := tg_4 (i := 157) rfl rfl
theorem tw878 : (Cond.constantLong "AsleepCotsModel" (97) (57)) ∈ tg := tg_4 (i := 158) rfl rfl
theorem tw879 : (Cond.methodLink "AsleepCotsModel" (112) yX7_takesChild) ∈ tg := tg_4 (i := 159) rfl rfl
theorem tw881 : (Cond.instanceMethod yX7_takesChild) ∈ tg := tg_4 (i := 161) rfl rfl
theorem tw882 : (Cond.code yX7_takesChild prog_9_method_22_code (3) (some FieldType.boolean)) ∈ tg := tg_4 (i := 162) rfl rfl
theorem tw883 : (Cond.methodLink "AsleepCotsModel" (105) yX7_kindOf) ∈ tg := tg_4 (i := 163) rfl rfl
theorem tw884 : (Cond.static yX7_kindOf) ∈ tg := tg_4 (i := 164) rfl rfl
theorem tw885 : (Cond.code yX7_kindOf prog_9_method_21_code (1) (some FieldType.int)) ∈ tg := tg_4 (i := 165) rfl rfl
theorem tw886 : (Cond.constant "AsleepCotsModel" (115) (-1000100)) ∈ tg := tg_4 (i := 166) rfl rfl
theorem tw887 : (Cond.methodLink "AsleepCotsModel" (116) yX7_copyAll) ∈ tg := tg_4 (i := 167) rfl rfl
theorem tw889 : (Cond.instanceMethod yX7_copyAll) ∈ tg := tg_4 (i := 169) rfl rfl
theorem tw890 : (Cond.code yX7_copyAll prog_9_method_23_code (4) (none : Option FieldType)) ∈ tg := tg_4 (i := 170) rfl rfl
theorem tw891 : (Cond.methodLink "AsleepCotsLaw" (44) yX7_fault) ∈ tg := tg_4 (i := 171) rfl rfl
theorem tw892 : (Cond.instanceMethod yX7_fault) ∈ tg := tg_4 (i := 172) rfl rfl
theorem tw893 : (Cond.selects "AsleepCotsModel" yX7_fault yX7_fault) ∈ tg := tg_4 (i := 173) rfl rfl
theorem tw894 : (Cond.code yX7_fault prog_9_method_25_code (1) (some FieldType.int)) ∈ tg := tg_4 (i := 174) rfl rfl
theorem tw895 : (Cond.methodLink "AsleepCotsLaw" (48) yX7_undo) ∈ tg := tg_4 (i := 175) rfl rfl
theorem tw896 : (Cond.instanceMethod yX7_undo) ∈ tg := tg_4 (i := 176) rfl rfl
theorem tw897 : (Cond.selects "AsleepCotsModel" yX7_undo yX7_undo) ∈ tg := tg_4 (i := 177) rfl rfl
theorem tw898 : (Cond.code yX7_undo prog_9_method_40_code (2) (some FieldType.int)) ∈ tg := tg_4 (i := 178) rfl rfl
theorem tw899 : (Cond.constant "AsleepCotsModel" (153) (-1000002)) ∈ tg := tg_4 (i := 179) rfl rfl
theorem tw900 : (Cond.methodLink "AsleepCotsLaw" (52) yX7_minutes) ∈ tg := tg_4 (i := 180) rfl rfl
theorem tw901 : (Cond.instanceMethod yX7_minutes) ∈ tg := tg_4 (i := 181) rfl rfl
theorem tw902 : (Cond.selects "AsleepCotsModel" yX7_minutes yX7_minutes) ∈ tg := tg_4 (i := 182) rfl rfl
theorem tw903 : (Cond.code yX7_minutes prog_9_method_41_code (3) (some FieldType.int)) ∈ tg := tg_4 (i := 183) rfl rfl
theorem tw904 : (Cond.methodLink "AsleepCotsModel" (154) yX7_isRoom) ∈ tg := tg_4 (i := 184) rfl rfl
theorem tw906 : (Cond.instanceMethod yX7_isRoom) ∈ tg := tg_4 (i := 186) rfl rfl
theorem tw907 : (Cond.code yX7_isRoom prog_9_method_26_code (1) (some FieldType.boolean)) ∈ tg := tg_4 (i := 187) rfl rfl
theorem tw908 : (Cond.constantLong "AsleepCotsModel" (157) (24)) ∈ tg := tg_4 (i := 188) rfl rfl
theorem tw909 : (Cond.methodLink "AsleepCotsModel" (159) yX7_minds) ∈ tg := tg_4 (i := 189) rfl rfl
theorem tw911 : (Cond.instanceMethod yX7_minds) ∈ tg := tg_4 (i := 191) rfl rfl
theorem tw912 : (Cond.code yX7_minds prog_9_method_39_code (2) (none : Option FieldType)) ∈ tg := tg_4 (i := 192) rfl rfl
theorem tw913 : (Cond.methodLink "AsleepCotsModel" (162) yX7_passes) ∈ tg := tg_4 (i := 193) rfl rfl
theorem tw915 : (Cond.instanceMethod yX7_passes) ∈ tg := tg_4 (i := 195) rfl rfl
theorem tw916 : (Cond.code yX7_passes prog_9_method_35_code (5) (none : Option FieldType)) ∈ tg := tg_4 (i := 196) rfl rfl
theorem tw917 : (Cond.methodLink "AsleepCotsModel" (133) yX7_noiseAt) ∈ tg := tg_4 (i := 197) rfl rfl
theorem tw919 : (Cond.instanceMethod yX7_noiseAt) ∈ tg := tg_4 (i := 199) rfl rfl
theorem tw920 : (Cond.code yX7_noiseAt prog_9_method_30_code (7) (some FieldType.int)) ∈ tg := tg_4 (i := 200) rfl rfl
theorem tw921 : (Cond.methodLink "AsleepCotsModel" (126) yX7_isOut) ∈ tg := tg_4 (i := 201) rfl rfl
theorem tw923 : (Cond.instanceMethod yX7_isOut) ∈ tg := tg_4 (i := 203) rfl rfl
theorem tw924 : (Cond.code yX7_isOut prog_9_method_29_code (3) (some FieldType.boolean)) ∈ tg := tg_4 (i := 204) rfl rfl
theorem tw925 : (Cond.methodLink "AsleepCotsModel" (123) yX7_has) ∈ tg := tg_4 (i := 205) rfl rfl
theorem tw926 : (Cond.static yX7_has) ∈ tg := tg_4 (i := 206) rfl rfl
theorem tw927 : (Cond.code yX7_has prog_9_method_4_code (2) (some FieldType.boolean)) ∈ tg := tg_4 (i := 207) rfl rfl
theorem tw928 : (Cond.methodLink "AsleepCotsModel" (129) yX7_off) ∈ tg := tg_4 (i := 208) rfl rfl
theorem tw929 : (Cond.static yX7_off) ∈ tg := tg_4 (i := 209) rfl rfl
theorem tw930 : (Cond.code yX7_off prog_9_method_28_code (2) (some FieldType.int)) ∈ tg := tg_4 (i := 210) rfl rfl
theorem tw931 : (Cond.methodLink "AsleepCotsModel" (136) yX7_bears) ∈ tg := tg_4 (i := 211) rfl rfl
theorem tw933 : (Cond.instanceMethod yX7_bears) ∈ tg := tg_4 (i := 213) rfl rfl
theorem tw934 : (Cond.code yX7_bears prog_9_method_31_code (3) (some FieldType.int)) ∈ tg := tg_4 (i := 214) rfl rfl
theorem tw935 : (Cond.methodLink "AsleepCotsModel" (139) yX7_weepsOn) ∈ tg := tg_4 (i := 215) rfl rfl
theorem tw937 : (Cond.instanceMethod yX7_weepsOn) ∈ tg := tg_4 (i := 217) rfl rfl
theorem tw938 : (Cond.code yX7_weepsOn prog_9_method_33_code (4) (none : Option FieldType)) ∈ tg := tg_4 (i := 218) rfl rfl
theorem tw939 : (Cond.methodLink "AsleepCotsModel" (143) yX7_liesOn) ∈ tg := tg_4 (i := 219) rfl rfl
theorem tw941 : (Cond.instanceMethod yX7_liesOn) ∈ tg := tg_4 (i := 221) rfl rfl
theorem tw942 : (Cond.code yX7_liesOn prog_9_method_34_code (6) (none : Option FieldType)) ∈ tg := tg_4 (i := 222) rfl rfl
theorem tw943 : (Cond.methodLink "AsleepCotsModel" (147) yX7_wakesUp) ∈ tg := tg_4 (i := 223) rfl rfl
theorem tw945 : (Cond.instanceMethod yX7_wakesUp) ∈ tg := tg_4 (i := 225) rfl rfl
theorem tw946 : (Cond.code yX7_wakesUp prog_9_method_32_code (4) (none : Option FieldType)) ∈ tg := tg_4 (i := 226) rfl rfl
theorem tw947 : (Cond.methodLink "AsleepCotsModel" (150) yX7_thoseWho) ∈ tg := tg_4 (i := 227) rfl rfl
theorem tw949 : (Cond.instanceMethod yX7_thoseWho) ∈ tg := tg_4 (i := 229) rfl rfl
theorem tw950 : (Cond.code yX7_thoseWho prog_9_method_37_code (5) (some FieldType.int)) ∈ tg := tg_4 (i := 230) rfl rfl
theorem tw951 : (Cond.methodLink "AsleepCotsLaw" (57) yX7_hand) ∈ tg := tg_4 (i := 231) rfl rfl
theorem tw952 : (Cond.instanceMethod yX7_hand) ∈ tg := tg_4 (i := 232) rfl rfl
theorem tw953 : (Cond.selects "AsleepCotsModel" yX7_hand yX7_hand) ∈ tg := tg_4 (i := 233) rfl rfl
theorem tw954 : (Cond.code yX7_hand prog_9_method_42_code (3) (some FieldType.int)) ∈ tg := tg_4 (i := 234) rfl rfl
theorem tw955 : (Cond.methodLink "AsleepCotsModel" (166) yX7_isChild) ∈ tg := tg_4 (i := 235) rfl rfl
theorem tw957 : (Cond.instanceMethod yX7_isChild) ∈ tg := tg_4 (i := 237) rfl rfl
theorem tw958 : (Cond.code yX7_isChild prog_9_method_27_code (2) (some FieldType.boolean)) ∈ tg := tg_4 (i := 238) rfl rfl
theorem tw959 : (Cond.methodLink "AsleepCotsModel" (169) yX7_ones) ∈ tg := tg_4 (i := 239) rfl rfl
theorem tw960 : (Cond.static yX7_ones) ∈ tg := tg_5 (i := 0) rfl rfl
theorem tw961 : (Cond.code yX7_ones prog_9_method_5_code (3) (some FieldType.int)) ∈ tg := tg_5 (i := 1) rfl rfl
theorem tw962 : (Cond.methodLink "AsleepCotsLaw" (61) yX7_carry) ∈ tg := tg_5 (i := 2) rfl rfl
theorem tw963 : (Cond.instanceMethod yX7_carry) ∈ tg := tg_5 (i := 3) rfl rfl
theorem tw964 : (Cond.selects "AsleepCotsModel" yX7_carry yX7_carry) ∈ tg := tg_5 (i := 4) rfl rfl
theorem tw965 : (Cond.code yX7_carry prog_9_method_43_code (3) (some FieldType.int)) ∈ tg := tg_5 (i := 5) rfl rfl
theorem tw966 : (Cond.methodLink "AsleepCotsLaw" (65) yX7_change) ∈ tg := tg_5 (i := 6) rfl rfl
theorem tw967 : (Cond.instanceMethod yX7_change) ∈ tg := tg_5 (i := 7) rfl rfl
theorem tw968 : (Cond.selects "AsleepCotsModel" yX7_change yX7_change) ∈ tg := tg_5 (i := 8) rfl rfl
theorem tw969 : (Cond.code yX7_change prog_9_method_45_code (3) (some FieldType.int)) ∈ tg := tg_5 (i := 9) rfl rfl
theorem tw970 : (Cond.methodLink "AsleepCotsModel" (172) yX7_swaps) ∈ tg := tg_5 (i := 10) rfl rfl
theorem tw972 : (Cond.instanceMethod yX7_swaps) ∈ tg := tg_5 (i := 12) rfl rfl
theorem tw973 : (Cond.code yX7_swaps prog_9_method_44_code (5) (none : Option FieldType)) ∈ tg := tg_5 (i := 13) rfl rfl
theorem tw974 : (Cond.methodLink "AsleepCotsLaw" (69) yX7_lorry) ∈ tg := tg_5 (i := 14) rfl rfl
theorem tw975 : (Cond.instanceMethod yX7_lorry) ∈ tg := tg_5 (i := 15) rfl rfl
theorem tw976 : (Cond.selects "AsleepCotsModel" yX7_lorry yX7_lorry) ∈ tg := tg_5 (i := 16) rfl rfl
theorem tw977 : (Cond.code yX7_lorry prog_9_method_46_code (2) (some FieldType.int)) ∈ tg := tg_5 (i := 17) rfl rfl
theorem tw978 : (Cond.constantLong "AsleepCotsModel" (175) (99)) ∈ tg := tg_5 (i := 18) rfl rfl
theorem tw979 : (Cond.methodLink "AsleepCotsModel" (177) yX7_rolls) ∈ tg := tg_5 (i := 19) rfl rfl
theorem tw981 : (Cond.instanceMethod yX7_rolls) ∈ tg := tg_5 (i := 21) rfl rfl
theorem tw982 : (Cond.code yX7_rolls prog_9_method_36_code (5) (some FieldType.int)) ∈ tg := tg_5 (i := 22) rfl rfl
theorem tw983 : (Cond.methodLink "AsleepCotsLaw" (73) yX7_need) ∈ tg := tg_5 (i := 23) rfl rfl
theorem tw984 : (Cond.instanceMethod yX7_need) ∈ tg := tg_5 (i := 24) rfl rfl
theorem tw985 : (Cond.selects "AsleepCotsModel" yX7_need yX7_need) ∈ tg := tg_5 (i := 25) rfl rfl
theorem tw986 : (Cond.code yX7_need prog_9_method_47_code (4) (some FieldType.int)) ∈ tg := tg_5 (i := 26) rfl rfl
theorem tw987 : (Cond.constantLong "AsleepCotsModel" (180) (9)) ∈ tg := tg_5 (i := 27) rfl rfl
theorem tw988 : (Cond.methodLink "AsleepCotsLaw" (77) yX7_child) ∈ tg := tg_5 (i := 28) rfl rfl
theorem tw989 : (Cond.instanceMethod yX7_child) ∈ tg := tg_5 (i := 29) rfl rfl
theorem tw990 : (Cond.selects "AsleepCotsModel" yX7_child yX7_child) ∈ tg := tg_5 (i := 30) rfl rfl
theorem tw991 : (Cond.code yX7_child prog_9_method_48_code (3) (some FieldType.int)) ∈ tg := tg_5 (i := 31) rfl rfl
theorem tw992 : (Cond.methodLink "AsleepCotsLaw" (81) yX7_stand) ∈ tg := tg_5 (i := 32) rfl rfl
theorem tw993 : (Cond.instanceMethod yX7_stand) ∈ tg := tg_5 (i := 33) rfl rfl
theorem tw994 : (Cond.selects "AsleepCotsModel" yX7_stand yX7_stand) ∈ tg := tg_5 (i := 34) rfl rfl
theorem tw995 : (Cond.code yX7_stand prog_9_method_49_code (2) (some FieldType.int)) ∈ tg := tg_5 (i := 35) rfl rfl
theorem tw996 : (Cond.methodLink "AsleepCotsLaw" (85) yX7_ahead) ∈ tg := tg_5 (i := 36) rfl rfl
theorem tw997 : (Cond.instanceMethod yX7_ahead) ∈ tg := tg_5 (i := 37) rfl rfl
theorem tw998 : (Cond.selects "AsleepCotsModel" yX7_ahead yX7_ahead) ∈ tg := tg_5 (i := 38) rfl rfl
theorem tw999 : (Cond.code yX7_ahead prog_9_method_53_code (3) (some FieldType.int)) ∈ tg := tg_5 (i := 39) rfl rfl
theorem tw1000 : (Cond.methodLink "AsleepCotsModel" (184) yX7_isSpan) ∈ tg := tg_5 (i := 40) rfl rfl
theorem tw1001 : (Cond.static yX7_isSpan) ∈ tg := tg_5 (i := 41) rfl rfl
theorem tw1002 : (Cond.code yX7_isSpan prog_9_method_50_code (2) (some FieldType.boolean)) ∈ tg := tg_5 (i := 42) rfl rfl
theorem tw1003 : (Cond.constantLong "AsleepCotsModel" (182) (60)) ∈ tg := tg_5 (i := 43) rfl rfl
theorem tw1004 : (Cond.methodLink "AsleepCotsModel" (187) yX7_tries) ∈ tg := tg_5 (i := 44) rfl rfl
theorem tw1006 : (Cond.instanceMethod yX7_tries) ∈ tg := tg_5 (i := 46) rfl rfl
theorem tw1007 : (Cond.code yX7_tries prog_9_method_51_code (1) (none : Option FieldType)) ∈ tg := tg_5 (i := 47) rfl rfl
theorem tw1008 : (Cond.methodLink "AsleepCotsModel" (190) yX7_goesOn) ∈ tg := tg_5 (i := 48) rfl rfl
theorem tw1010 : (Cond.instanceMethod yX7_goesOn) ∈ tg := tg_5 (i := 50) rfl rfl
theorem tw1011 : (Cond.code yX7_goesOn prog_9_method_52_code (3) (none : Option FieldType)) ∈ tg := tg_5 (i := 51) rfl rfl
theorem tw1012 : (Cond.methodLink "AsleepCotsLaw" (89) yX7_noise) ∈ tg := tg_5 (i := 52) rfl rfl
theorem tw1013 : (Cond.instanceMethod yX7_noise) ∈ tg := tg_5 (i := 53) rfl rfl
theorem tw1014 : (Cond.selects "AsleepCotsModel" yX7_noise yX7_noise) ∈ tg := tg_5 (i := 54) rfl rfl
theorem tw1015 : (Cond.code yX7_noise prog_9_method_54_code (3) (some FieldType.int)) ∈ tg := tg_5 (i := 55) rfl rfl
theorem tw1016 : (Cond.methodLink "AsleepCotsLaw" (93) yX7_asleep) ∈ tg := tg_5 (i := 56) rfl rfl
theorem tw1017 : (Cond.instanceMethod yX7_asleep) ∈ tg := tg_5 (i := 57) rfl rfl
theorem tw1018 : (Cond.selects "AsleepCotsModel" yX7_asleep yX7_asleep) ∈ tg := tg_5 (i := 58) rfl rfl
theorem tw1019 : (Cond.code yX7_asleep prog_9_method_55_code (3) (some FieldType.int)) ∈ tg := tg_5 (i := 59) rfl rfl
theorem tw1020 : (Cond.constant "AsleepCotsModel" (193) (-1000000)) ∈ tg := tg_5 (i := 60) rfl rfl
theorem tw1021 : (Cond.methodLink "AsleepCotsLaw" (97) yX7_allAsleep) ∈ tg := tg_5 (i := 61) rfl rfl
theorem tw1022 : (Cond.instanceMethod yX7_allAsleep) ∈ tg := tg_5 (i := 62) rfl rfl
theorem tw1023 : (Cond.selects "AsleepCotsModel" yX7_allAsleep yX7_allAsleep) ∈ tg := tg_5 (i := 63) rfl rfl
theorem tw1024 : (Cond.code yX7_allAsleep prog_9_method_56_code (2) (some FieldType.int)) ∈ tg := tg_5 (i := 64) rfl rfl
theorem tw1025 : (Cond.methodLink "AsleepCotsModel" (194) yX7_allSleep) ∈ tg := tg_5 (i := 65) rfl rfl
theorem tw1027 : (Cond.instanceMethod yX7_allSleep) ∈ tg := tg_5 (i := 67) rfl rfl
theorem tw1028 : (Cond.code yX7_allSleep prog_9_method_38_code (2) (some FieldType.boolean)) ∈ tg := tg_5 (i := 68) rfl rfl
theorem tw1029 : (Cond.methodLink "AsleepCotsLaw" (101) yX7_dinner) ∈ tg := tg_5 (i := 69) rfl rfl
theorem tw1030 : (Cond.instanceMethod yX7_dinner) ∈ tg := tg_5 (i := 70) rfl rfl
theorem tw1031 : (Cond.selects "AsleepCotsModel" yX7_dinner yX7_dinner) ∈ tg := tg_5 (i := 71) rfl rfl
theorem tw1032 : (Cond.code yX7_dinner prog_9_method_57_code (5) (some FieldType.int)) ∈ tg := tg_5 (i := 72) rfl rfl
theorem tw1033 : (Cond.methodLink "AsleepCotsLaw" (105) yX7_hands) ∈ tg := tg_5 (i := 73) rfl rfl
theorem tw1034 : (Cond.instanceMethod yX7_hands) ∈ tg := tg_5 (i := 74) rfl rfl
theorem tw1035 : (Cond.selects "AsleepCotsModel" yX7_hands yX7_hands) ∈ tg := tg_5 (i := 75) rfl rfl
theorem tw1036 : (Cond.code yX7_hands prog_9_method_59_code (8) (some FieldType.int)) ∈ tg := tg_5 (i := 76) rfl rfl
theorem tw1037 : (Cond.methodLink "AsleepCotsModel" (199) yX7_isLook) ∈ tg := tg_5 (i := 77) rfl rfl
theorem tw1039 : (Cond.instanceMethod yX7_isLook) ∈ tg := tg_5 (i := 79) rfl rfl
theorem tw1040 : (Cond.code yX7_isLook prog_9_method_58_code (3) (some FieldType.boolean)) ∈ tg := tg_5 (i := 80) rfl rfl
theorem tw1041 : (Cond.constantLong "AsleepCotsModel" (197) (30)) ∈ tg := tg_5 (i := 81) rfl rfl
theorem tw1042 : (Cond.methodLink "AsleepCotsLaw" (109) yX7_outs) ∈ tg := tg_5 (i := 82) rfl rfl
theorem tw1043 : (Cond.instanceMethod yX7_outs) ∈ tg := tg_5 (i := 83) rfl rfl
theorem tw1044 : (Cond.selects "AsleepCotsModel" yX7_outs yX7_outs) ∈ tg := tg_5 (i := 84) rfl rfl
theorem tw1045 : (Cond.code yX7_outs prog_9_method_60_code (5) (some FieldType.int)) ∈ tg := tg_5 (i := 85) rfl rfl
theorem tw1046 : (Cond.methodLink "AsleepCotsLaw" (113) yX7_best) ∈ tg := tg_5 (i := 86) rfl rfl
theorem tw1047 : (Cond.instanceMethod yX7_best) ∈ tg := tg_5 (i := 87) rfl rfl
theorem tw1048 : (Cond.selects "AsleepCotsModel" yX7_best yX7_best) ∈ tg := tg_5 (i := 88) rfl rfl
theorem tw1049 : (Cond.code yX7_best prog_9_method_61_code (8) (some FieldType.int)) ∈ tg := tg_5 (i := 89) rfl rfl
theorem tw1050 : (Cond.methodLink "AsleepCotsLaw" (117) yX7_silence) ∈ tg := tg_5 (i := 90) rfl rfl
theorem tw1051 : (Cond.instanceMethod yX7_silence) ∈ tg := tg_5 (i := 91) rfl rfl
theorem tw1052 : (Cond.selects "AsleepCotsModel" yX7_silence yX7_silence) ∈ tg := tg_5 (i := 92) rfl rfl
theorem tw1053 : (Cond.code yX7_silence prog_9_method_62_code (4) (some FieldType.int)) ∈ tg := tg_5 (i := 93) rfl rfl
theorem tw1054 : (Cond.methodLink "AsleepCotsLaw" (121) yX7_wakes) ∈ tg := tg_5 (i := 94) rfl rfl
theorem tw1055 : (Cond.instanceMethod yX7_wakes) ∈ tg := tg_5 (i := 95) rfl rfl
theorem tw1056 : (Cond.selects "AsleepCotsModel" yX7_wakes yX7_wakes) ∈ tg := tg_5 (i := 96) rfl rfl
theorem tw1057 : (Cond.code yX7_wakes prog_9_method_63_code (3) (some FieldType.int)) ∈ tg := tg_5 (i := 97) rfl rfl
theorem tw1058 : (Cond.methodLink "AsleepCotsLaw" (125) yX7_loudest) ∈ tg := tg_5 (i := 98) rfl rfl
theorem tw1059 : (Cond.instanceMethod yX7_loudest) ∈ tg := tg_5 (i := 99) rfl rfl
theorem tw1060 : (Cond.selects "AsleepCotsModel" yX7_loudest yX7_loudest) ∈ tg := tg_5 (i := 100) rfl rfl
theorem tw1061 : (Cond.code yX7_loudest prog_9_method_64_code (3) (some FieldType.int)) ∈ tg := tg_5 (i := 101) rfl rfl
theorem tw1062 : (Cond.methodLink "AsleepCotsLaw" (129) yX7_who) ∈ tg := tg_5 (i := 102) rfl rfl
theorem tw1063 : (Cond.instanceMethod yX7_who) ∈ tg := tg_5 (i := 103) rfl rfl
theorem tw1064 : (Cond.selects "AsleepCotsModel" yX7_who yX7_who) ∈ tg := tg_5 (i := 104) rfl rfl
theorem tw1065 : (Cond.code yX7_who prog_9_method_66_code (10) (some FieldType.int)) ∈ tg := tg_5 (i := 105) rfl rfl
theorem tw1066 : (Cond.constantLong "AsleepCotsModel" (202) (3)) ∈ tg := tg_5 (i := 106) rfl rfl
theorem tw1067 : (Cond.constantLong "AsleepCotsModel" (204) (12)) ∈ tg := tg_5 (i := 107) rfl rfl
theorem tw1068 : (Cond.methodLink "AsleepCotsModel" (206) yX7_against) ∈ tg := tg_5 (i := 108) rfl rfl
theorem tw1070 : (Cond.instanceMethod yX7_against) ∈ tg := tg_5 (i := 110) rfl rfl
theorem tw1071 : (Cond.code yX7_against prog_9_method_14_code (4) (some FieldType.int)) ∈ tg := tg_5 (i := 111) rfl rfl
theorem tw1072 : (Cond.methodLink "AsleepCotsModel" (210) yX7_isSo) ∈ tg := tg_5 (i := 112) rfl rfl
theorem tw1074 : (Cond.instanceMethod yX7_isSo) ∈ tg := tg_5 (i := 114) rfl rfl
theorem tw1075 : (Cond.code yX7_isSo prog_9_method_65_code (5) (some FieldType.boolean)) ∈ tg := tg_5 (i := 115) rfl rfl
theorem tw1076 : (Cond.methodLink "AsleepCotsLaw" (133) yX7_held) ∈ tg := tg_5 (i := 116) rfl rfl
theorem tw1077 : (Cond.instanceMethod yX7_held) ∈ tg := tg_5 (i := 117) rfl rfl
theorem tw1078 : (Cond.selects "AsleepCotsModel" yX7_held yX7_held) ∈ tg := tg_5 (i := 118) rfl rfl
theorem tw1079 : (Cond.code yX7_held prog_9_method_67_code (7) (some FieldType.int)) ∈ tg := tg_5 (i := 119) rfl rfl
theorem tw1080 : (Cond.methodLink "AsleepCotsLaw" (138) yX7_lorries) ∈ tg := tg_5 (i := 120) rfl rfl
theorem tw1081 : (Cond.instanceMethod yX7_lorries) ∈ tg := tg_5 (i := 121) rfl rfl
theorem tw1082 : (Cond.selects "AsleepCotsModel" yX7_lorries yX7_lorries) ∈ tg := tg_5 (i := 122) rfl rfl
theorem tw1083 : (Cond.code yX7_lorries prog_9_method_68_code (15) (some FieldType.long)) ∈ tg := tg_5 (i := 123) rfl rfl
theorem tw1084 : (Cond.constantLong "AsleepCotsModel" (213) (-1000002)) ∈ tg := tg_5 (i := 124) rfl rfl
theorem tw1085 : (Cond.constantLong "AsleepCotsModel" (215) (8)) ∈ tg := tg_5 (i := 125) rfl rfl
theorem tw1086 : (Cond.constantLong "AsleepCotsModel" (217) (10)) ∈ tg := tg_5 (i := 126) rfl rfl
theorem tw1087 : (Cond.constantLong "AsleepCotsModel" (219) (-1000001)) ∈ tg := tg_5 (i := 127) rfl rfl
theorem tw1088 : (Cond.methodLink "AsleepCotsLaw" (142) yX7_drawn) ∈ tg := tg_5 (i := 128) rfl rfl
theorem tw1089 : (Cond.instanceMethod yX7_drawn) ∈ tg := tg_5 (i := 129) rfl rfl
theorem tw1090 : (Cond.selects "AsleepCotsModel" yX7_drawn yX7_drawn) ∈ tg := tg_5 (i := 130) rfl rfl
theorem tw1091 : (Cond.code yX7_drawn prog_9_method_69_code (8) (some FieldType.int)) ∈ tg := tg_5 (i := 131) rfl rfl
theorem tw1092 : (Cond.constantLong "AsleepCotsModel" (221) (999999)) ∈ tg := tg_5 (i := 132) rfl rfl
theorem tw1093 : (Cond.constantLong "AsleepCotsModel" (223) (16807)) ∈ tg := tg_5 (i := 133) rfl rfl
theorem tw1094 : (Cond.constantLong "AsleepCotsModel" (225) (2147483647)) ∈ tg := tg_5 (i := 134) rfl rfl
theorem tw1095 : (Cond.constantLong "AsleepCotsModel" (227) (6)) ∈ tg := tg_5 (i := 135) rfl rfl
theorem tw1096 : (Cond.constantLong "AsleepCotsModel" (229) (20)) ∈ tg := tg_5 (i := 136) rfl rfl
theorem tw1097 : (Cond.methodLink "AsleepCotsLaw" (146) yX7_image) ∈ tg := tg_5 (i := 137) rfl rfl
theorem tw1098 : (Cond.instanceMethod yX7_image) ∈ tg := tg_5 (i := 138) rfl rfl
theorem tw1099 : (Cond.selects "AsleepCotsModel" yX7_image yX7_image) ∈ tg := tg_5 (i := 139) rfl rfl
theorem tw1100 : (Cond.code yX7_image prog_9_method_70_code (2) (some FieldType.int)) ∈ tg := tg_5 (i := 140) rfl rfl
theorem tw1101 : (Cond.methodLink "AsleepCotsLaw" (150) yX7_restore) ∈ tg := tg_5 (i := 141) rfl rfl
theorem tw1102 : (Cond.instanceMethod yX7_restore) ∈ tg := tg_5 (i := 142) rfl rfl
theorem tw1103 : (Cond.selects "AsleepCotsModel" yX7_restore yX7_restore) ∈ tg := tg_5 (i := 143) rfl rfl
theorem tw1104 : (Cond.code yX7_restore prog_9_method_71_code (2) (some FieldType.int)) ∈ tg := tg_5 (i := 144) rfl rfl
theorem tw1105 : (Cond.methodLink "AsleepCotsLaw" (154) yX7_kind) ∈ tg := tg_5 (i := 145) rfl rfl
theorem tw1106 : (Cond.instanceMethod yX7_kind) ∈ tg := tg_5 (i := 146) rfl rfl
theorem tw1107 : (Cond.selects "AsleepCotsModel" yX7_kind yX7_kind) ∈ tg := tg_5 (i := 147) rfl rfl
theorem tw1108 : (Cond.code yX7_kind prog_9_method_72_code (2) (some FieldType.int)) ∈ tg := tg_5 (i := 148) rfl rfl
theorem tw1109 : (Cond.methodLink "AsleepCotsLaw" (158) yX7_as) ∈ tg := tg_5 (i := 149) rfl rfl
theorem tw1110 : (Cond.instanceMethod yX7_as) ∈ tg := tg_5 (i := 150) rfl rfl
theorem tw1111 : (Cond.selects "AsleepCotsModel" yX7_as yX7_as) ∈ tg := tg_5 (i := 151) rfl rfl
theorem tw1112 : (Cond.code yX7_as prog_9_method_73_code (5) (some FieldType.int)) ∈ tg := tg_5 (i := 152) rfl rfl
theorem tw1113 : (Cond.constantLong "AsleepCotsModel" (231) (5)) ∈ tg := tg_5 (i := 153) rfl rfl
theorem tw1114 : (Cond.methodLink "AsleepCotsLaw" (162) yX7_ask) ∈ tg := tg_5 (i := 154) rfl rfl
theorem tw1115 : (Cond.instanceMethod yX7_ask) ∈ tg := tg_5 (i := 155) rfl rfl
theorem tw1116 : (Cond.selects "AsleepCotsModel" yX7_ask yX7_ask) ∈ tg := tg_5 (i := 156) rfl rfl
theorem tw1117 : (Cond.code yX7_ask prog_9_method_81_code (3) (some FieldType.int)) ∈ tg := tg_5 (i := 157) rfl rfl
theorem tw1118 : (Cond.methodLink "AsleepCotsModel" (255) yX7_size) ∈ tg := tg_5 (i := 158) rfl rfl
theorem tw1120 : (Cond.instanceMethod yX7_size) ∈ tg := tg_5 (i := 160) rfl rfl
theorem tw1121 : (Cond.code yX7_size prog_9_method_80_code (3) (some FieldType.int)) ∈ tg := tg_5 (i := 161) rfl rfl
theorem tw1122 : (Cond.methodLink "AsleepCotsModel" (236) yX7_begins) ∈ tg := tg_5 (i := 162) rfl rfl
theorem tw1124 : (Cond.instanceMethod yX7_begins) ∈ tg := tg_5 (i := 164) rfl rfl
theorem tw1125 : (Cond.code yX7_begins prog_9_method_74_code (2) (none : Option FieldType)) ∈ tg := tg_5 (i := 165) rfl rfl
theorem tw1126 : (Cond.methodLink "AsleepCotsModel" (252) yX7_sizePlain) ∈ tg := tg_5 (i := 166) rfl rfl
theorem tw1128 : (Cond.instanceMethod yX7_sizePlain) ∈ tg := tg_5 (i := 168) rfl rfl
theorem tw1129 : (Cond.code yX7_sizePlain prog_9_method_79_code (2) (some FieldType.int)) ∈ tg := tg_5 (i := 169) rfl rfl
theorem tw1130 : (Cond.methodLink "AsleepCotsModel" (249) yX7_mark) ∈ tg := tg_5 (i := 170) rfl rfl
theorem tw1132 : (Cond.instanceMethod yX7_mark) ∈ tg := tg_5 (i := 172) rfl rfl
theorem tw1133 : (Cond.code yX7_mark prog_9_method_78_code (3) (some FieldType.int)) ∈ tg := tg_5 (i := 173) rfl rfl
theorem tw1134 : (Cond.methodLink "AsleepCotsModel" (242) yX7_markPlain) ∈ tg := tg_5 (i := 174) rfl rfl
theorem tw1136 : (Cond.instanceMethod yX7_markPlain) ∈ tg := tg_5 (i := 176) rfl rfl
theorem tw1137 : (Cond.code yX7_markPlain prog_9_method_76_code (2) (some FieldType.int)) ∈ tg := tg_5 (i := 177) rfl rfl
theorem tw1138 : (Cond.methodLink "AsleepCotsModel" (239) yX7_markLent) ∈ tg := tg_5 (i := 178) rfl rfl
theorem tw1140 : (Cond.instanceMethod yX7_markLent) ∈ tg := tg_5 (i := 180) rfl rfl
theorem tw1141 : (Cond.code yX7_markLent prog_9_method_75_code (2) (some FieldType.int)) ∈ tg := tg_5 (i := 181) rfl rfl
theorem tw1142 : (Cond.methodLink "AsleepCotsModel" (245) yX7_sizeDeep) ∈ tg := tg_5 (i := 182) rfl rfl
theorem tw1144 : (Cond.instanceMethod yX7_sizeDeep) ∈ tg := tg_5 (i := 184) rfl rfl
theorem tw1145 : (Cond.code yX7_sizeDeep prog_9_method_77_code (4) (some FieldType.int)) ∈ tg := tg_5 (i := 185) rfl rfl
theorem tw1146 : (Cond.methodLink "AsleepCotsLaw" (166) yX7_trace) ∈ tg := tg_5 (i := 186) rfl rfl
theorem tw1147 : (Cond.instanceMethod yX7_trace) ∈ tg := tg_5 (i := 187) rfl rfl
theorem tw1148 : (Cond.selects "AsleepCotsModel" yX7_trace yX7_trace) ∈ tg := tg_5 (i := 188) rfl rfl
theorem tw1149 : (Cond.code yX7_trace prog_9_method_82_code (2) (some FieldType.int)) ∈ tg := tg_5 (i := 189) rfl rfl
theorem tw1150 : (Cond.methodLink "AsleepCotsLaw" (170) yX7_count) ∈ tg := tg_5 (i := 190) rfl rfl
theorem tw1151 : (Cond.instanceMethod yX7_count) ∈ tg := tg_5 (i := 191) rfl rfl
theorem tw1152 : (Cond.selects "AsleepCotsModel" yX7_count yX7_count) ∈ tg := tg_5 (i := 192) rfl rfl
theorem tw1153 : (Cond.code yX7_count prog_9_method_83_code (4) (some FieldType.int)) ∈ tg := tg_5 (i := 193) rfl rfl
theorem tw1154 : (Cond.methodLink "AsleepCotsLaw" (174) yX7_status) ∈ tg := tg_5 (i := 194) rfl rfl
theorem tw1155 : (Cond.instanceMethod yX7_status) ∈ tg := tg_5 (i := 195) rfl rfl
theorem tw1156 : (Cond.selects "AsleepCotsModel" yX7_status yX7_status) ∈ tg := tg_5 (i := 196) rfl rfl
theorem tw1157 : (Cond.code yX7_status prog_9_method_84_code (1) (some FieldType.int)) ∈ tg := tg_5 (i := 197) rfl rfl
theorem ts0 : (Cond.selects "AsleepCots" yX6_found yX6_found) ∈ tg := tg_sel (i := 0) (q := (yX6_found, 10)) rfl rfl
theorem ts1 : (Cond.selects "AsleepCots" yX6_foundNothing yX6_foundNothing) ∈ tg := tg_sel (i := 1) (q := (yX6_foundNothing, 10)) rfl rfl
theorem ts2 : (Cond.selects "AsleepCots$Tape" yX5_widthAt yX5_widthAt) ∈ tg := tg_sel (i := 2) (q := (yX5_widthAt, 3)) rfl rfl
theorem ts3 : (Cond.selects "AsleepCots$Tape" yX5_faultAt yX5_faultAt) ∈ tg := tg_sel (i := 3) (q := (yX5_faultAt, 3)) rfl rfl
theorem ts4 : (Cond.selects "AsleepCots$Tape" yX5_valueAt yX5_valueAt) ∈ tg := tg_sel (i := 4) (q := (yX5_valueAt, 3)) rfl rfl
theorem ts5 : (Cond.selects "AsleepCots" yX6_noRoom yX6_noRoom) ∈ tg := tg_sel (i := 5) (q := (yX6_noRoom, 10)) rfl rfl
theorem ts6 : (Cond.selects "AsleepCots$Room" yX3_calmDown yX3_calmDown) ∈ tg := tg_sel (i := 6) (q := (yX3_calmDown, 14)) rfl rfl
theorem ts7 : (Cond.selects "AsleepCots$Room" yX3_listen yX3_listen) ∈ tg := tg_sel (i := 7) (q := (yX3_listen, 14)) rfl rfl
theorem ts8 : (Cond.selects "AsleepCots$Room" yX3_calmGained yX3_calmGained) ∈ tg := tg_sel (i := 8) (q := (yX3_calmGained, 14)) rfl rfl
theorem ts9 : (Cond.selects "AsleepCots" yX6_noChild yX6_noChild) ∈ tg := tg_sel (i := 9) (q := (yX6_noChild, 10)) rfl rfl
theorem ts10 : (Cond.selects "AsleepCots$Foresight" yX1_weighHands yX1_weighHands) ∈ tg := tg_sel (i := 10) (q := (yX1_weighHands, 8)) rfl rfl
theorem ts11 : (Cond.selects "AsleepCots$Foresight" yX1_goesAsTold yX1_goesAsTold) ∈ tg := tg_sel (i := 11) (q := (yX1_goesAsTold, 8)) rfl rfl
theorem ts12 : (Cond.selects "AsleepCots$Foresight" yX1_casesAsleep yX1_casesAsleep) ∈ tg := tg_sel (i := 12) (q := (yX1_casesAsleep, 8)) rfl rfl
theorem ts13 : (Cond.selects "AsleepCots$Foresight" yX1_cancel yX1_cancel) ∈ tg := tg_sel (i := 13) (q := (yX1_cancel, 8)) rfl rfl
theorem ts14 : (Cond.selects "AsleepCots$Foresight" yX1_cancelBy yX1_cancelBy) ∈ tg := tg_sel (i := 14) (q := (yX1_cancelBy, 8)) rfl rfl
theorem ts15 : (Cond.selects "AsleepCots$Asks" yX0_give yX0_give) ∈ tg := tg_sel (i := 15) (q := (yX0_give, 7)) rfl rfl
theorem ts16 : (Cond.selects "AsleepCots$Asks" yX0_leave yX0_leave) ∈ tg := tg_sel (i := 16) (q := (yX0_leave, 7)) rfl rfl
theorem ts17 : (Cond.selects "AsleepCots" yX6_presentRows yX6_presentRows) ∈ tg := tg_sel (i := 17) (q := (yX6_presentRows, 10)) rfl rfl
theorem ts18 : (Cond.selects "AsleepCotsModel" yX7_found yX7_found) ∈ tg := tg_sel (i := 18) (q := (yX7_found, 18)) rfl rfl
theorem ts19 : (Cond.selects "AsleepCotsModel" yX7_good yX7_good) ∈ tg := tg_sel (i := 19) (q := (yX7_good, 18)) rfl rfl
theorem ts20 : (Cond.selects "AsleepCotsModel" yX7_takesLaw yX7_takesLaw) ∈ tg := tg_sel (i := 20) (q := (yX7_takesLaw, 18)) rfl rfl
theorem ts21 : (Cond.selects "AsleepCotsModel" yX7_takes yX7_takes) ∈ tg := tg_sel (i := 21) (q := (yX7_takes, 18)) rfl rfl
theorem ts22 : (Cond.selects "AsleepCotsModel" yX7_byteAt yX7_byteAt) ∈ tg := tg_sel (i := 22) (q := (yX7_byteAt, 18)) rfl rfl
theorem ts23 : (Cond.selects "AsleepCotsModel" yX7_fails yX7_fails) ∈ tg := tg_sel (i := 23) (q := (yX7_fails, 18)) rfl rfl
theorem ts24 : (Cond.selects "AsleepCotsModel" yX7_takesNumber yX7_takesNumber) ∈ tg := tg_sel (i := 24) (q := (yX7_takesNumber, 18)) rfl rfl
theorem ts25 : (Cond.selects "AsleepCotsModel" yX7_takesChild yX7_takesChild) ∈ tg := tg_sel (i := 25) (q := (yX7_takesChild, 18)) rfl rfl
theorem ts26 : (Cond.selects "AsleepCotsModel" yX7_copyAll yX7_copyAll) ∈ tg := tg_sel (i := 26) (q := (yX7_copyAll, 18)) rfl rfl
theorem ts27 : (Cond.selects "AsleepCotsModel" yX7_isRoom yX7_isRoom) ∈ tg := tg_sel (i := 27) (q := (yX7_isRoom, 18)) rfl rfl
theorem ts28 : (Cond.selects "AsleepCotsModel" yX7_minds yX7_minds) ∈ tg := tg_sel (i := 28) (q := (yX7_minds, 18)) rfl rfl
theorem ts29 : (Cond.selects "AsleepCotsModel" yX7_passes yX7_passes) ∈ tg := tg_sel (i := 29) (q := (yX7_passes, 18)) rfl rfl
theorem ts30 : (Cond.selects "AsleepCotsModel" yX7_noiseAt yX7_noiseAt) ∈ tg := tg_sel (i := 30) (q := (yX7_noiseAt, 18)) rfl rfl
theorem ts31 : (Cond.selects "AsleepCotsModel" yX7_isOut yX7_isOut) ∈ tg := tg_sel (i := 31) (q := (yX7_isOut, 18)) rfl rfl
theorem ts32 : (Cond.selects "AsleepCotsModel" yX7_bears yX7_bears) ∈ tg := tg_sel (i := 32) (q := (yX7_bears, 18)) rfl rfl
theorem ts33 : (Cond.selects "AsleepCotsModel" yX7_weepsOn yX7_weepsOn) ∈ tg := tg_sel (i := 33) (q := (yX7_weepsOn, 18)) rfl rfl
theorem ts34 : (Cond.selects "AsleepCotsModel" yX7_liesOn yX7_liesOn) ∈ tg := tg_sel (i := 34) (q := (yX7_liesOn, 18)) rfl rfl
theorem ts35 : (Cond.selects "AsleepCotsModel" yX7_wakesUp yX7_wakesUp) ∈ tg := tg_sel (i := 35) (q := (yX7_wakesUp, 18)) rfl rfl
theorem ts36 : (Cond.selects "AsleepCotsModel" yX7_thoseWho yX7_thoseWho) ∈ tg := tg_sel (i := 36) (q := (yX7_thoseWho, 18)) rfl rfl
theorem ts37 : (Cond.selects "AsleepCotsModel" yX7_isChild yX7_isChild) ∈ tg := tg_sel (i := 37) (q := (yX7_isChild, 18)) rfl rfl
theorem ts38 : (Cond.selects "AsleepCotsModel" yX7_swaps yX7_swaps) ∈ tg := tg_sel (i := 38) (q := (yX7_swaps, 18)) rfl rfl
theorem ts39 : (Cond.selects "AsleepCotsModel" yX7_rolls yX7_rolls) ∈ tg := tg_sel (i := 39) (q := (yX7_rolls, 18)) rfl rfl
theorem ts40 : (Cond.selects "AsleepCotsModel" yX7_tries yX7_tries) ∈ tg := tg_sel (i := 40) (q := (yX7_tries, 18)) rfl rfl
theorem ts41 : (Cond.selects "AsleepCotsModel" yX7_goesOn yX7_goesOn) ∈ tg := tg_sel (i := 41) (q := (yX7_goesOn, 18)) rfl rfl
theorem ts42 : (Cond.selects "AsleepCotsModel" yX7_allSleep yX7_allSleep) ∈ tg := tg_sel (i := 42) (q := (yX7_allSleep, 18)) rfl rfl
theorem ts43 : (Cond.selects "AsleepCotsModel" yX7_isLook yX7_isLook) ∈ tg := tg_sel (i := 43) (q := (yX7_isLook, 18)) rfl rfl
theorem ts44 : (Cond.selects "AsleepCotsModel" yX7_against yX7_against) ∈ tg := tg_sel (i := 44) (q := (yX7_against, 18)) rfl rfl
theorem ts45 : (Cond.selects "AsleepCotsModel" yX7_isSo yX7_isSo) ∈ tg := tg_sel (i := 45) (q := (yX7_isSo, 18)) rfl rfl
theorem ts46 : (Cond.selects "AsleepCotsModel" yX7_size yX7_size) ∈ tg := tg_sel (i := 46) (q := (yX7_size, 18)) rfl rfl
theorem ts47 : (Cond.selects "AsleepCotsModel" yX7_begins yX7_begins) ∈ tg := tg_sel (i := 47) (q := (yX7_begins, 18)) rfl rfl
theorem ts48 : (Cond.selects "AsleepCotsModel" yX7_sizePlain yX7_sizePlain) ∈ tg := tg_sel (i := 48) (q := (yX7_sizePlain, 18)) rfl rfl
theorem ts49 : (Cond.selects "AsleepCotsModel" yX7_mark yX7_mark) ∈ tg := tg_sel (i := 49) (q := (yX7_mark, 18)) rfl rfl
theorem ts50 : (Cond.selects "AsleepCotsModel" yX7_markPlain yX7_markPlain) ∈ tg := tg_sel (i := 50) (q := (yX7_markPlain, 18)) rfl rfl
theorem ts51 : (Cond.selects "AsleepCotsModel" yX7_markLent yX7_markLent) ∈ tg := tg_sel (i := 51) (q := (yX7_markLent, 18)) rfl rfl
theorem ts52 : (Cond.selects "AsleepCotsModel" yX7_sizeDeep yX7_sizeDeep) ∈ tg := tg_sel (i := 52) (q := (yX7_sizeDeep, 18)) rfl rfl
end
section
/-! THE WORLD: every cell that the law makes has a place k, and lies at the address base + k; what it holds is read off D (numbers) and S (shapes, references) -/
abbrev wd_Sh : Type := Nat ⊕ (Nat × Nat)
abbrev wd_S : Type := List wd_Sh × (Nat → Nat → Option Nat)
abbrev wd_D : Type := (Nat → Nat → Int32) × (Nat → Nat → Int64)
abbrev wd_C : Type := ClassId × ClassId × ClassId × ClassId
abbrev wd_X : Type := va_G × wd_C × Nat × (Nat → Nat)
def gI (D : wd_D) (k j : Nat) : Int32 := D.1 k j
def gJ (D : wd_D) (k j : Nat) : Int64 := D.2 k j
def sI (D : wd_D) (k j : Nat) (v : Int32) : wd_D := (fun a b => if a = k ∧ b = j then v else D.1 a b, D.2)
def sJ (D : wd_D) (k j : Nat) (v : Int64) : wd_D := (D.1, fun a b => if a = k ∧ b = j then v else D.2 a b)
def wd_N : Nat → Nat
  | 0 => 7 | 1 => 8 | 2 => 3 | 3 => 14 | 4 => 3 | 5 => 3 | 6 => 10 | _ => 18
def wd_R : Nat → String
  | 0 => RX0 | 1 => RX1 | 2 => RX2 | 3 => RX3 | 4 => RX4 | 5 => RX5 | 6 => RX6 | _ => RX7
def wd_T : Nat → u_T
  | 0 => TX0 | 1 => TX1 | 2 => TX2 | 3 => TX3 | 4 => TX4 | 5 => TX5 | 6 => TX6 | _ => TX7
def wd_ty : Nat → Nat → FieldType
  | 0 => tyX0 | 1 => tyX1 | 2 => tyX2 | 3 => tyX3 | 4 => tyX4 | 5 => tyX5 | 6 => tyX6 | _ => tyX7
def wd_f (b : Nat) (r : Option Nat) : Option Nat := r.map (fun q => b + q)
def fv (X : wd_X) (S : wd_S) (D : wd_D) (k j : Nat) : FieldType → Value
  | .int => .int (D.1 k j)
  | .long => .long (D.2 k j)
  | _ => va_rf (wd_f X.2.2.1 (S.2 k j))
def wd_E (X : wd_X) (S : wd_S) (D : wd_D) (k : Nat) : wd_Sh → va_E
  | .inl ci => .inr (ci, (List.range (wd_N ci)).map (fun j => fv X S D k j (wd_ty ci j)))
  | .inr (0, n) => .inl (X.2.1.1, n, .inl (D.1 k))
  | .inr (1, n) => .inl (X.2.1.2.1, n, .inl (D.1 k))
  | .inr (2, n) => .inl (X.2.1.2.2.1, n, .inr (.inr (.inr (.inr (fun j => wd_f X.2.2.1 (S.2 k j))))))
  | .inr (_, n) => .inl (X.2.1.2.2.2, n, .inr (.inr (.inr (.inr (fun j => wd_f X.2.2.1 (S.2 k j))))))
def wd_W (X : wd_X) (S : wd_S) (D : wd_D) : va_W := S.1.mapIdx (fun k sh => (X.2.2.1 + k, wd_E X S D k sh))
def wd_A (X : wd_X) : Nat → Prop := fun q => X.2.2.1 ≤ q
def Wd (X : wd_X) (S : wd_S) (D : wd_D) (H : Heap) : Prop := va_P X.1 vwCl (wd_W X S D) H
def wd_tys (X : wd_X) : List (ClassId × FieldType) := [(X.2.1.1, .int), (X.2.1.2.1, .boolean), (X.2.1.2.2.1, .object RX3), (X.2.1.2.2.2, .object RX4)]
-- the six tables of numbers that the class holds
def st_C : Nat → String
  | 0 => RX5 | 1 => RX5 | 2 => RX5 | 3 => RX6 | 4 => RX0 | _ => RX0
def st_n : Nat → String
  | 0 => "STANDS" | 1 => "LEAST" | 2 => "MOST" | 3 => "ABOVE" | 4 => "SIZE_BODIES" | _ => "MARK_BODIES"
def st_L : Nat → List Int32
  | 0 => [0, 1, 2, 1, 3, 4, 1, 2, 1, 2, 1, 3]
  | 1 => [0, 0, 0, 1, 0, 0, 1, 0, 0, 0, 0, 0]
  | 2 => [0, 3, 0, 9, 0, 0, 9, 0, 9, 0, 9, 0]
  | 3 => [-1, 0, 1, 1, 0, 4]
  | 4 => [10, 11, 12, 0, 13, 14]
  | _ => [20, 21, 24, 22, 23, 0]
def st_v (k j : Nat) : Int32 := (st_L k).getD j 0
def wd_Sta (X : wd_X) (U : State) (H : Heap) : Prop := ∀ k, k < 6 → va_Z (st_C k) (st_n k) "[I" (.ref (X.2.2.2 k)) (wd_A X) U H ∧ va_T .int (X.2.2.2 k) (st_L k).length (fun j => .int (st_v k j)) (wd_A X) U H
-- the words of nest mates
def wd_nestM : List (String × Nat × MethodName) := [(RX6, 17, yX5_init), (RX6, 24, yX3_init), (RX6, 46, yX0_init), (RX6, 49, yX4_init)]
def wd_Env (X : wd_X) (U : State) : Prop := va_K X.1 vwCl (wd_tys X) U ∧ (∀ w ∈ lw_tbl, (∀ a i y h, w = .methodLinkNest a i y h → va_Nw w U) ∧ (∀ a i b n d h, w = .fieldLinkNest a i b n d h → va_Nw w U)) ∧ va_AO RX3 U ∧ va_AO RX4 U ∧ wd_Sta X U U.heap
theorem wd_at {X : wd_X} {S : wd_S} {D : wd_D} {k : Nat} {sh : wd_Sh} (h : S.1[k]? = some sh) : (wd_W X S D)[k]? = some (X.2.2.1 + k, wd_E X S D k sh) := by
  simp [wd_W, h]
theorem wd_apart (X : wd_X) (S : wd_S) (D : wd_D) : va_D (wd_A X) (wd_W X S D) := by
  have key : ∀ (i : Nat) (q : Nat × va_E), (wd_W X S D)[i]? = some q → q.1 = X.2.2.1 + i := by
    intro i q h
    rw [wd_W, List.getElem?_mapIdx] at h
    cases hs : S.1[i]? with
    | none => rw [hs] at h; cases h
    | some sh => rw [hs] at h; cases h; rfl
  refine ⟨fun i j p q hi hj hpq => ?_, fun k q hk => ?_⟩
  · have h1 := key i p hi
    have h2 := key j q hj
    omega
  · show X.2.2.1 ≤ q.1
    rw [key k q hk]
    omega
theorem wd_set {X : wd_X} {S S' : wd_S} {D D' : wd_D} {k : Nat} {sh : wd_Sh} (h : S.1[k]? = some sh) (hS : S'.1 = S.1) (ho : ∀ a sh', a ≠ k → wd_E X S' D' a sh' = wd_E X S D a sh') : (wd_W X S D).set k (X.2.2.1 + k, wd_E X S' D' k sh) = wd_W X S' D' := by
  apply List.ext_getElem?
  intro i
  rw [List.getElem?_set]
  by_cases hi : k = i
  · subst hi
    have hl : k < (wd_W X S D).length := (List.getElem?_eq_some_iff.mp (wd_at (D := D) (X := X) h)).1
    rw [if_pos rfl, if_pos hl, wd_at (S := S') (by rw [hS]; exact h)]
  · rw [if_neg hi, wd_W, wd_W, List.getElem?_mapIdx, List.getElem?_mapIdx, hS]
    cases hs : S.1[i]? with
    | none => rfl
    | some sh' => simp only [Option.map_some]; rw [ho i sh' (fun e => hi e.symm)]
theorem wd_oI {X : wd_X} {S : wd_S} {D : wd_D} {k j a : Nat} {v : Int32} (sh : wd_Sh) (h : a ≠ k) : wd_E X S (sI D k j v) a sh = wd_E X S D a sh := by
  have e : (sI D k j v).1 a = D.1 a := by funext b; simp [sI, h]
  rcases sh with ci | ⟨t, n⟩
  · simp only [wd_E]
    congr 2
    refine List.map_congr_left (fun b _ => ?_)
    cases wd_ty ci b <;> simp [fv, e] <;> rfl
  · match t with
    | 0 => simp [wd_E, e]
    | 1 => simp [wd_E, e]
    | 2 => simp [wd_E]
    | t + 3 => simp [wd_E]
theorem wd_oJ {X : wd_X} {S : wd_S} {D : wd_D} {k j a : Nat} {v : Int64} (sh : wd_Sh) (h : a ≠ k) : wd_E X S (sJ D k j v) a sh = wd_E X S D a sh := by
  have e : (sJ D k j v).2 a = D.2 a := by funext b; simp [sJ, h]
  have e1 : (sJ D k j v).1 = D.1 := rfl
  rcases sh with ci | ⟨t, n⟩
  · simp only [wd_E]
    congr 2
    refine List.map_congr_left (fun b _ => ?_)
    cases wd_ty ci b <;> simp [fv, e, e1] <;> rfl
  · match t with
    | 0 => simp [wd_E, e1]
    | 1 => simp [wd_E, e1]
    | 2 => simp [wd_E]
    | t + 3 => simp [wd_E]
theorem wd_fsI {X : wd_X} {S : wd_S} {D : wd_D} {k ci j : Nat} {v : Int32} (ht : wd_ty ci j = .int) : ((List.range (wd_N ci)).map (fun i => fv X S D k i (wd_ty ci i))).set j (.int v) = (List.range (wd_N ci)).map (fun i => fv X S (sI D k j v) k i (wd_ty ci i)) := by
  apply List.ext_getElem?
  intro i
  rw [List.getElem?_set]
  by_cases hi : j = i
  · subst hi
    by_cases hl : j < wd_N ci
    · simp [hl, ht, fv, sI]
    · simp [hl]
  · rw [if_neg hi, List.getElem?_map, List.getElem?_map]
    cases hs : (List.range (wd_N ci))[i]? with
    | none => rfl
    | some b =>
      have hb : b = i := by
        have := List.getElem?_range (n := wd_N ci) (i := i) (by simpa using (List.getElem?_eq_some_iff.mp hs).1)
        rw [this] at hs; exact (Option.some.inj hs).symm
      subst hb
      simp only [Option.map_some]
      cases wd_ty ci b <;> simp [fv, sI] <;> try rfl
      intro e; exact absurd e.symm hi
theorem wd_fsJ {X : wd_X} {S : wd_S} {D : wd_D} {k ci j : Nat} {v : Int64} (ht : wd_ty ci j = .long) : ((List.range (wd_N ci)).map (fun i => fv X S D k i (wd_ty ci i))).set j (.long v) = (List.range (wd_N ci)).map (fun i => fv X S (sJ D k j v) k i (wd_ty ci i)) := by
  apply List.ext_getElem?
  intro i
  rw [List.getElem?_set]
  by_cases hi : j = i
  · subst hi
    by_cases hl : j < wd_N ci
    · simp [hl, ht, fv, sJ]
    · simp [hl]
  · rw [if_neg hi, List.getElem?_map, List.getElem?_map]
    cases hs : (List.range (wd_N ci))[i]? with
    | none => rfl
    | some b =>
      have hb : b = i := by
        have := List.getElem?_range (n := wd_N ci) (i := i) (by simpa using (List.getElem?_eq_some_iff.mp hs).1)
        rw [this] at hs; exact (Option.some.inj hs).symm
      subst hb
      simp only [Option.map_some]
      cases wd_ty ci b <;> simp [fv, sJ] <;> try rfl
      intro e; exact absurd e.symm hi
theorem wd_cl : ∀ ci, ci < 8 → vwCl[ci]? = some (wd_R ci, wd_T ci, wd_N ci)
  | 0, _ => rfl | 1, _ => rfl | 2, _ => rfl | 3, _ => rfl | 4, _ => rfl | 5, _ => rfl | 6, _ => rfl | 7, _ => rfl
  | n + 8, h => absurd h (by omega)
theorem wd_pd : ∀ ci, ci < 8 → ∀ k, k < wd_N ci → parseFieldDescriptor (wd_T ci k).2.2.1 = some (wd_ty ci k)
  | 0, _ => tyX0_ok | 1, _ => tyX1_ok | 2, _ => tyX2_ok | 3, _ => tyX3_ok | 4, _ => tyX4_ok | 5, _ => tyX5_ok | 6, _ => tyX6_ok | 7, _ => tyX7_ok
  | n + 8, h => absurd h (by omega)
theorem wd_nm : ∀ ci, ci < 8 → ∀ a, a < wd_N ci → ∀ b, b < wd_N ci → a ≠ b → (wd_T ci a).2.1 ≠ (wd_T ci b).2.1
  | 0, _ => nmX0 | 1, _ => nmX1 | 2, _ => nmX2 | 3, _ => nmX3 | 4, _ => nmX4 | 5, _ => nmX5 | 6, _ => nmX6 | 7, _ => nmX7
  | n + 8, h => absurd h (by omega)
end
section
/-! rows of the world: an instruction, a row -/
theorem wd_inX0 : ∀ w ∈ u_ws RX0 TX0 7, w ∈ tg := by decide +kernel
theorem wd_inX1 : ∀ w ∈ u_ws RX1 TX1 8, w ∈ tg := by decide +kernel
theorem wd_inX2 : ∀ w ∈ u_ws RX2 TX2 3, w ∈ tg := by decide +kernel
theorem wd_inX3 : ∀ w ∈ u_ws RX3 TX3 14, w ∈ tg := by decide +kernel
theorem wd_inX4 : ∀ w ∈ u_ws RX4 TX4 3, w ∈ tg := by decide +kernel
theorem wd_inX5 : ∀ w ∈ u_ws RX5 TX5 3, w ∈ tg := by decide +kernel
theorem wd_inX6 : ∀ w ∈ u_ws RX6 TX6 10, w ∈ tg := by decide +kernel
theorem wd_inX7 : ∀ w ∈ u_ws RX7 TX7 18, w ∈ tg := by decide +kernel
theorem wd_in : ∀ ci, ci < 8 → ∀ w ∈ u_ws (wd_R ci) (wd_T ci) (wd_N ci), w ∈ tg
  | 0, _ => wd_inX0 | 1, _ => wd_inX1 | 2, _ => wd_inX2 | 3, _ => wd_inX3 | 4, _ => wd_inX4 | 5, _ => wd_inX5 | 6, _ => wd_inX6 | 7, _ => wd_inX7
  | n + 8, h => absurd h (by omega)
/-- a field of a class, as an instruction of a class names it -/
def wd_FL (own : String) (idx ci j : Nat) : Prop := ci < 8 ∧ j < wd_N ci ∧ Cond.fieldLink own idx (wd_R ci) (wd_T ci j).2.1 (wd_T ci j).2.2.1 ∈ tg ∧ (wd_T ci j).1 = wd_R ci
def wd_bad (i : Int32) (n : Nat) : Bool := decide (i < 0) || decide (n ≤ i.toNatClampNeg)
theorem wd_vin {i : Int32} {n : Nat} (h : wd_bad i n = false) : vp_in i n := by
  intro q
  simp only [wd_bad, Bool.or_eq_false_iff, decide_eq_false_iff_not] at h
  rcases q with q | q
  · exact h.1 q
  · exact h.2 q
def rd (n : Nat) (D : wd_D) (k : Nat) (i : Int32) : Option Int32 := if wd_bad i n then none else some (D.1 k i.toNatClampNeg)
def wr (n : Nat) (D : wd_D) (k : Nat) (i v : Int32) : Option wd_D := if wd_bad i n then none else some (sI D k i.toNatClampNeg v)
def ix (n : Nat) (i : Int32) : Option Nat := if wd_bad i n then none else some i.toNatClampNeg
def rs (k : Nat) (i : Int32) : Option Int32 := if wd_bad i (st_L k).length then none else some (st_v k i.toNatClampNeg)
theorem rd_e {n : Nat} {D : wd_D} {k : Nat} {i x : Int32} (h : rd n D k i = some x) : wd_bad i n = false ∧ D.1 k i.toNatClampNeg = x := by
  unfold rd at h
  cases hb : wd_bad i n with
  | true => rw [hb] at h; cases h
  | false => rw [hb] at h; exact ⟨rfl, Option.some.inj h⟩
theorem wr_e {n : Nat} {D D1 : wd_D} {k : Nat} {i v : Int32} (h : wr n D k i v = some D1) : wd_bad i n = false ∧ sI D k i.toNatClampNeg v = D1 := by
  unfold wr at h
  cases hb : wd_bad i n with
  | true => rw [hb] at h; cases h
  | false => rw [hb] at h; exact ⟨rfl, Option.some.inj h⟩
theorem ix_e {n q : Nat} {i : Int32} (h : ix n i = some q) : wd_bad i n = false ∧ i.toNatClampNeg = q := by
  unfold ix at h
  cases hb : wd_bad i n with
  | true => rw [hb] at h; cases h
  | false => rw [hb] at h; exact ⟨rfl, Option.some.inj h⟩
theorem rs_e {k : Nat} {i x : Int32} (h : rs k i = some x) : wd_bad i (st_L k).length = false ∧ st_v k i.toNatClampNeg = x := by
  unfold rs at h
  cases hb : wd_bad i (st_L k).length with
  | true => rw [hb] at h; cases h
  | false => rw [hb] at h; exact ⟨rfl, Option.some.inj h⟩
def ap {α β : Type} (x : α) (f : α → β) : β := f x
theorem apR {α β : Type} {x y : α} {f : α → β} {t : β} (e : y = x) (h : ap x f = t) : f y = t := by subst e; exact h
theorem bdE {α β : Type} {o : Option α} {f : α → Option β} {r : β} (h : o.bind f = some r) : ∃ x, o = some x ∧ f x = some r := by
  cases o with
  | none => cases h
  | some x => exact ⟨x, rfl, h⟩
section WD
variable {p : Program} {l : Launch} {e : Env} {R : Room} {s : State} {m : MethodId} {args : Array Value} {below : List Frame} {meth : Method} {c : Code} {H : Heap} {locs : List Loc} {cells slots : Nat} {Q : State → Prop}
variable {cc : ByteArray} {pc : Nat} {ls : Array Slot} {rest : List Value} {X : wd_X} {S : wd_S} {D : wd_D} {nL : Nat} {own : String}
theorem W.sized {g : JFrame} (kk : H.size ≤ s.heap.size + cells → W p l e R s m args below meth c H locs cells slots Q g) : W p l e R s m args below meth c H locs cells slots Q g :=
  fun T hT Y => kk (by rw [← hT]; exact Y.heapSize) T hT Y
theorem wd_get (CF : CallFix p m c cc nL s args tg own) (hE : wd_Env X s) (hW : Wd X S D H) {k ci j idx : Nat} (hF : wd_FL own idx ci j) (hsh : S.1[k]? = some (.inl ci)) {v : Value} (hv : fv X S D k j (wd_ty ci j) = v) (hdg : decode cc pc = .ok (.getfield idx, 3))
    (kk : W p l e R s m args below meth c H locs cells slots Q (F0 m (pc + 3) ls (v :: rest))) : W p l e R s m args below meth c H locs cells slots Q (F0 m pc ls (.ref (X.2.2.1 + k) :: rest)) := by
  obtain ⟨hx, hb, -, hown, hts⟩ := CF
  obtain ⟨h8, hj, hl, hd⟩ := hF
  refine va_get (T := wd_T ci) (C := wd_R ci) (N := wd_N ci) (ci := ci) hx hb hts (wd_in ci h8) hown hE.1 hW k (wd_at hsh) (wd_cl ci h8) j hj (hts _ hl) (fun x h => by rw [hd] at h; exact h) (v := v) ?_ hdg kk
  simp [hj, hv]
theorem wd_getR (CF : CallFix p m c cc nL s args tg own) (hE : wd_Env X s) (hW : Wd X S D H) {k ci j idx q : Nat} (hF : wd_FL own idx ci j) (hsh : S.1[k]? = some (.inl ci)) (hq : S.2 k j = some q) (ht : fv X S D k j (wd_ty ci j) = va_rf (wd_f X.2.2.1 (S.2 k j))) (hdg : decode cc pc = .ok (.getfield idx, 3))
    (kk : W p l e R s m args below meth c H locs cells slots Q (F0 m (pc + 3) ls (.ref (X.2.2.1 + q) :: rest))) : W p l e R s m args below meth c H locs cells slots Q (F0 m pc ls (.ref (X.2.2.1 + k) :: rest)) :=
  wd_get CF hE hW hF hsh (v := .ref (X.2.2.1 + q)) (by rw [ht, hq]; rfl) hdg kk
theorem wd_putI (CF : CallFix p m c cc nL s args tg own) (hE : wd_Env X s) (hW : Wd X S D H) (hS : va_S (wd_A X) s.heap H locs) {k ci j idx : Nat} (hF : wd_FL own idx ci j) (hsh : S.1[k]? = some (.inl ci)) (ht : wd_ty ci j = .int) (hf : (wd_T ci j).2.2.2 = false) {v : Int32} (hdg : decode cc pc = .ok (.putfield idx, 3))
    (kk : ∀ (D1 : wd_D) (H1 : Heap) (locs1 : List Loc), D1 = sI D k j v → Wd X S D1 H1 → va_S (wd_A X) s.heap H1 locs1 → W p l e R s m args below meth c H1 locs1 cells slots Q (F0 m (pc + 3) ls rest)) : W p l e R s m args below meth c H locs cells slots Q (F0 m pc ls (.int v :: .ref (X.2.2.1 + k) :: rest)) := by
  obtain ⟨hx, hb, -, hown, hts⟩ := CF
  obtain ⟨h8, hj, hl, hd⟩ := hF
  refine va_put (T := wd_T ci) (C := wd_R ci) (N := wd_N ci) (ci := ci) hx hb hts (wd_in ci h8) (wd_ty ci) (wd_pd ci h8) (wd_nm ci h8) hown hE.1 hW (wd_apart X S D) hS k (wd_at hsh) (wd_cl ci h8) j hj (hts _ hl) (fun x h => by rw [hd] at h; exact h) hf (ty := .int) (v := .int v) (by rw [wd_pd ci h8 j hj, ht]) rfl rfl (by simp [hj]) hdg fun H1 locs1 hP1 hD1 hS1 => ?_
  rw [wd_fsI ht] at hP1
  have hw := wd_set (X := X) (S := S) (S' := S) (D := D) (D' := sI D k j v) hsh rfl (fun a sh' ha => wd_oI sh' ha)
  simp only [wd_E] at hw hP1
  rw [hw] at hP1
  exact kk _ H1 locs1 rfl hP1 hS1
theorem wd_putJ (CF : CallFix p m c cc nL s args tg own) (hE : wd_Env X s) (hW : Wd X S D H) (hS : va_S (wd_A X) s.heap H locs) {k ci j idx : Nat} (hF : wd_FL own idx ci j) (hsh : S.1[k]? = some (.inl ci)) (ht : wd_ty ci j = .long) (hf : (wd_T ci j).2.2.2 = false) {v : Int64} (hdg : decode cc pc = .ok (.putfield idx, 3))
    (kk : ∀ (D1 : wd_D) (H1 : Heap) (locs1 : List Loc), D1 = sJ D k j v → Wd X S D1 H1 → va_S (wd_A X) s.heap H1 locs1 → W p l e R s m args below meth c H1 locs1 cells slots Q (F0 m (pc + 3) ls rest)) : W p l e R s m args below meth c H locs cells slots Q (F0 m pc ls (.long v :: .ref (X.2.2.1 + k) :: rest)) := by
  obtain ⟨hx, hb, -, hown, hts⟩ := CF
  obtain ⟨h8, hj, hl, hd⟩ := hF
  refine va_put (T := wd_T ci) (C := wd_R ci) (N := wd_N ci) (ci := ci) hx hb hts (wd_in ci h8) (wd_ty ci) (wd_pd ci h8) (wd_nm ci h8) hown hE.1 hW (wd_apart X S D) hS k (wd_at hsh) (wd_cl ci h8) j hj (hts _ hl) (fun x h => by rw [hd] at h; exact h) hf (ty := .long) (v := .long v) (by rw [wd_pd ci h8 j hj, ht]) rfl rfl (by simp [hj]) hdg fun H1 locs1 hP1 hD1 hS1 => ?_
  rw [wd_fsJ ht] at hP1
  have hw := wd_set (X := X) (S := S) (S' := S) (D := D) (D' := sJ D k j v) hsh rfl (fun a sh' ha => wd_oJ sh' ha)
  simp only [wd_E] at hw hP1
  rw [hw] at hP1
  exact kk _ H1 locs1 rfl hP1 hS1
theorem wd_iald (CF : CallFix p m c cc nL s args tg own) (hE : wd_Env X s) (hW : Wd X S D H) {k n : Nat} (hsh : S.1[k]? = some (.inr (0, n))) {i x : Int32} (h : rd n D k i = some x) (hdg : decode cc pc = .ok (.iaload, 1))
    (kk : W p l e R s m args below meth c H locs cells slots Q (F0 m (pc + 1) ls (.int x :: rest))) : W p l e R s m args below meth c H locs cells slots Q (F0 m pc ls (.int i :: .ref (X.2.2.1 + k) :: rest)) := by
  obtain ⟨hx, hb, -, hown, hts⟩ := CF
  obtain ⟨h1, h2⟩ := rd_e h
  subst h2
  exact va_iald (f := D.1 k) (n := n) (cA := X.2.1.1) hx hb hE.1 hW k 0 (wd_at hsh) rfl (wd_vin h1) hdg kk
theorem wd_zald (CF : CallFix p m c cc nL s args tg own) (hE : wd_Env X s) (hW : Wd X S D H) {k n : Nat} (hsh : S.1[k]? = some (.inr (1, n))) {i x : Int32} (h : rd n D k i = some x) (hdg : decode cc pc = .ok (.baload, 1))
    (kk : W p l e R s m args below meth c H locs cells slots Q (F0 m (pc + 1) ls (.int x :: rest))) : W p l e R s m args below meth c H locs cells slots Q (F0 m pc ls (.int i :: .ref (X.2.2.1 + k) :: rest)) := by
  obtain ⟨hx, hb, -, hown, hts⟩ := CF
  obtain ⟨h1, h2⟩ := rd_e h
  subst h2
  exact va_zald (f := D.1 k) (n := n) (cA := X.2.1.2.1) hx hb hE.1 hW k 1 (wd_at hsh) rfl (wd_vin h1) hdg kk
theorem wd_updE {k a : Nat} {v : Int32} : upd (D.1 k) a v = (sI D k a v).1 k := by
  funext b; simp [upd, sI]
theorem wd_iast (CF : CallFix p m c cc nL s args tg own) (hE : wd_Env X s) (hW : Wd X S D H) (hS : va_S (wd_A X) s.heap H locs) {k n : Nat} (hsh : S.1[k]? = some (.inr (0, n))) {i v : Int32} {D1 : wd_D} (h : wr n D k i v = some D1) (hdg : decode cc pc = .ok (.iastore, 1))
    (kk : ∀ (H1 : Heap) (locs1 : List Loc), Wd X S D1 H1 → va_S (wd_A X) s.heap H1 locs1 → W p l e R s m args below meth c H1 locs1 cells slots Q (F0 m (pc + 1) ls rest)) : W p l e R s m args below meth c H locs cells slots Q (F0 m pc ls (.int v :: .int i :: .ref (X.2.2.1 + k) :: rest)) := by
  obtain ⟨hx, hb, -, hown, hts⟩ := CF
  obtain ⟨h1, h2⟩ := wr_e h
  subst h2
  refine va_iast (f := D.1 k) (n := n) (cA := X.2.1.1) hx hb hE.1 hW (wd_apart X S D) hS k 0 (wd_at hsh) rfl (wd_vin h1) hdg fun H1 locs1 hP1 hD1 hS1 => ?_
  have hw := wd_set (X := X) (S := S) (S' := S) (D := D) (D' := sI D k i.toNatClampNeg v) hsh rfl (fun a sh' ha => wd_oI sh' ha)
  simp only [wd_E] at hw
  rw [wd_updE, hw] at hP1
  exact kk H1 locs1 hP1 hS1
theorem wd_zast (CF : CallFix p m c cc nL s args tg own) (hE : wd_Env X s) (hW : Wd X S D H) (hS : va_S (wd_A X) s.heap H locs) {k n : Nat} (hsh : S.1[k]? = some (.inr (1, n))) {i v : Int32} {D1 : wd_D} (h : wr n D k i (vp_nar .boolean v) = some D1) (hdg : decode cc pc = .ok (.bastore, 1))
    (kk : ∀ (H1 : Heap) (locs1 : List Loc), Wd X S D1 H1 → va_S (wd_A X) s.heap H1 locs1 → W p l e R s m args below meth c H1 locs1 cells slots Q (F0 m (pc + 1) ls rest)) : W p l e R s m args below meth c H locs cells slots Q (F0 m pc ls (.int v :: .int i :: .ref (X.2.2.1 + k) :: rest)) := by
  obtain ⟨hx, hb, -, hown, hts⟩ := CF
  obtain ⟨h1, h2⟩ := wr_e h
  subst h2
  refine va_zast (f := D.1 k) (n := n) (cA := X.2.1.2.1) hx hb hE.1 hW (wd_apart X S D) hS k 1 (wd_at hsh) rfl (wd_vin h1) hdg fun H1 locs1 hP1 hD1 hS1 => ?_
  have hw := wd_set (X := X) (S := S) (S' := S) (D := D) (D' := sI D k i.toNatClampNeg (vp_nar .boolean v)) hsh rfl (fun a sh' ha => wd_oI sh' ha)
  simp only [wd_E] at hw
  rw [wd_updE, hw] at hP1
  exact kk H1 locs1 hP1 hS1
theorem wd_aald2 (CF : CallFix p m c cc nL s args tg own) (hE : wd_Env X s) (hW : Wd X S D H) {k n : Nat} (hsh : S.1[k]? = some (.inr (2, n))) {i : Int32} {a q : Nat} (h : ix n i = some a) (hq : S.2 k a = some q) (hdg : decode cc pc = .ok (.aaload, 1))
    (kk : W p l e R s m args below meth c H locs cells slots Q (F0 m (pc + 1) ls (.ref (X.2.2.1 + q) :: rest))) : W p l e R s m args below meth c H locs cells slots Q (F0 m pc ls (.int i :: .ref (X.2.2.1 + k) :: rest)) := by
  obtain ⟨hx, hb, -, hown, hts⟩ := CF
  obtain ⟨h1, h2⟩ := ix_e h
  subst h2
  refine va_aldq (C := RX3) (f := fun j => wd_f X.2.2.1 (S.2 k j)) (n := n) (cA := X.2.1.2.2.1) hx hb hE.1 hW k 2 (wd_at hsh) rfl (wd_vin h1) hdg ?_
  rw [hq]; exact kk
theorem wd_aald3 (CF : CallFix p m c cc nL s args tg own) (hE : wd_Env X s) (hW : Wd X S D H) {k n : Nat} (hsh : S.1[k]? = some (.inr (3, n))) {i : Int32} {a q : Nat} (h : ix n i = some a) (hq : S.2 k a = some q) (hdg : decode cc pc = .ok (.aaload, 1))
    (kk : W p l e R s m args below meth c H locs cells slots Q (F0 m (pc + 1) ls (.ref (X.2.2.1 + q) :: rest))) : W p l e R s m args below meth c H locs cells slots Q (F0 m pc ls (.int i :: .ref (X.2.2.1 + k) :: rest)) := by
  obtain ⟨hx, hb, -, hown, hts⟩ := CF
  obtain ⟨h1, h2⟩ := ix_e h
  subst h2
  refine va_aldq (C := RX4) (f := fun j => wd_f X.2.2.1 (S.2 k j)) (n := n) (cA := X.2.1.2.2.2) hx hb hE.1 hW k 3 (wd_at hsh) rfl (wd_vin h1) hdg ?_
  rw [hq]; exact kk
theorem wd_alen2 (CF : CallFix p m c cc nL s args tg own) (hE : wd_Env X s) (hW : Wd X S D H) {k n : Nat} (hsh : S.1[k]? = some (.inr (2, n))) {v : Int32} (hv : Int32.ofNat n = v) (hdg : decode cc pc = .ok (.arraylength, 1))
    (kk : W p l e R s m args below meth c H locs cells slots Q (F0 m (pc + 1) ls (.int v :: rest))) : W p l e R s m args below meth c H locs cells slots Q (F0 m pc ls (.ref (X.2.2.1 + k) :: rest)) := by
  obtain ⟨hx, hb, -, hown, hts⟩ := CF
  exact va_alen hx hb hE.1 hW k 2 (wd_at hsh) rfl hv hdg kk
-- the tables
theorem wd_sget (CF : CallFix p m c cc nL s args tg own) (hE : wd_Env X s) (hS : va_S (wd_A X) s.heap H locs) (k : Nat) (hk : k < 6) {idx : Nat} (hl : Cond.fieldLink own idx (st_C k) (st_n k) "[I" ∈ tg) (hdg : decode cc pc = .ok (.getstatic idx, 3))
    (kk : W p l e R s m args below meth c H locs cells slots Q (F0 m (pc + 3) ls (.ref (X.2.2.2 k) :: rest))) : W p l e R s m args below meth c H locs cells slots Q (F0 m pc ls rest) := by
  obtain ⟨hx, hb, -, hown, hts⟩ := CF
  exact va_gets hx hb (hE.2.2.2.2 k hk).1 hS hown (hts _ hl) (fun _ h => h) hdg kk
theorem wd_sald (CF : CallFix p m c cc nL s args tg own) (hE : wd_Env X s) (hS : va_S (wd_A X) s.heap H locs) (k : Nat) (hk : k < 6) {i x : Int32} (h : rs k i = some x) (hdg : decode cc pc = .ok (.iaload, 1))
    (kk : W p l e R s m args below meth c H locs cells slots Q (F0 m (pc + 1) ls (.int x :: rest))) : W p l e R s m args below meth c H locs cells slots Q (F0 m pc ls (.int i :: .ref (X.2.2.2 k) :: rest)) := by
  obtain ⟨hx, hb, -, hown, hts⟩ := CF
  obtain ⟨h1, h2⟩ := rs_e h
  subst h2
  obtain ⟨cell, g1, g2, g3, g4, g5, g6, g7⟩ := (hE.2.2.2.2 k hk).2
  have hv := wd_vin h1
  have hlt : i.toNatClampNeg < (st_L k).length := Nat.not_le.mp fun q => hv (Or.inr q)
  exact W.iald (v := .int (st_v k i.toNatClampNeg)) hx hb (by rw [hS.2.1 _ (Array.getElem?_eq_some_iff.mp g1).1 g7]; exact g1) g2 g3 (fun q => hv (q.elim Or.inl (fun z => absurd (Nat.le_trans g4 z) (Nat.not_le.mpr hlt)))) (g6 _ hlt) rfl rfl hdg kk
theorem wd_slen (CF : CallFix p m c cc nL s args tg own) (hE : wd_Env X s) (hS : va_S (wd_A X) s.heap H locs) (k : Nat) (hk : k < 6) {v : Int32} (hv : Int32.ofNat (st_L k).length = v) (hdg : decode cc pc = .ok (.arraylength, 1))
    (kk : W p l e R s m args below meth c H locs cells slots Q (F0 m (pc + 1) ls (.int v :: rest))) : W p l e R s m args below meth c H locs cells slots Q (F0 m pc ls (.ref (X.2.2.2 k) :: rest)) := by
  obtain ⟨hx, hb, -, hown, hts⟩ := CF
  obtain ⟨cell, g1, g2, g3, g4, g5, g6, g7⟩ := (hE.2.2.2.2 k hk).2
  exact W.alen (n := v) hx hb (by rw [hS.2.1 _ (Array.getElem?_eq_some_iff.mp g1).1 g7]; exact g1) g2 (by rw [g5, hv]) rfl rfl hdg kk
end WD
end
section
/-! calls, entries, ends; arraycopy -/
def wd_Q (X : wd_X) (S : wd_S) (D : wd_D) (r : Option Value) : Array Value → State → Outcome → State → Prop := fun _ st oc t => oc = .returned r ∧ Wd X S D t.heap ∧ va_F (wd_A X) st t
abbrev wd_Pc (X : wd_X) (S : wd_S) (D : wd_D) (av : List Value) : Array Value → State → Prop := va_Pc av (fun U => Wd X S D U.heap ∧ wd_Env X U)
def wd_Met (l : Launch) (X : wd_X) (y : MethodName) (bytes : ByteArray) (maxL : Nat) (ret : Option FieldType) (rm : Room) (S S' : wd_S) (av : List Value) (D D' : wd_D) (r : Option Value) (mc ms : Nat) : Prop := Met l y (Cond.code y bytes maxL ret :: tg) rm (wd_Pc X S D av) (wd_Q X S' D' r) mc ms (wd_A X)
def wd_M (y : MethodName) (bytes : ByteArray) (maxL : Nat) (ret : Option FieldType) (n : Nat) : Prop := Cond.code y bytes maxL ret ∈ tg ∧ Cond.initialized y.cls ∈ tg ∧ y.cls ≠ "java/lang/invoke/MethodHandle" ∧ y.cls ≠ "java/lang/invoke/VarHandle" ∧ (parseMethodDescriptor y.desc).map (fun d => d.parameters.length) = some n
theorem wd_Sta.warm {X : wd_X} {s U : State} {H : Heap} {locs : List Loc} (h : wd_Sta X s s.heap) (hS : va_S (wd_A X) s.heap H locs) (hv : s.vm.Alike U.vm) : wd_Sta X U H := fun k hk => ⟨((h k hk).1.kept (fun a h1 h2 => hS.2.1 a h1 h2)).moved hv, ((h k hk).2.kept (fun a h1 h2 => hS.2.1 a h1 h2)).moved hv⟩
theorem wd_Env.warm {X : wd_X} {s U : State} {H : Heap} {locs : List Loc} (h : wd_Env X s) (hS : va_S (wd_A X) s.heap H locs) (hU : U.heap = H) (hv : s.WarmedH U.vm) : wd_Env X U := by
  obtain ⟨h1, h2, h3, h4, h5⟩ := h
  refine ⟨va_K.moved hv.alike h1, fun w hw => ⟨fun a i y h e => ?_, fun a i b n d h e => ?_⟩, h3.moved hv.alike, h4.moved hv.alike, by rw [hU]; exact h5.warm hS hv.alike⟩
  · have h9 := (h2 w hw).1 a i y h e
    subst e
    exact va_Nw.warmM hv h9
  · have h9 := (h2 w hw).2 a i b n d h e
    subst e
    exact va_Nw.warmF hv h9
theorem wd_Env.blind {X : wd_X} {U : State} {g : JFrame} {mk : MethodId} {a : Array Value} (h : wd_Env X U) : wd_Env X (U.calling g mk a) := by
  obtain ⟨h1, h2, h3, h4, h5⟩ := h
  have hv : U.vm.Alike (U.calling g mk a).vm := Vm.Alike.refl U.vm
  refine ⟨va_K.moved hv h1, fun w hw => ⟨fun a' i y h e => ?_, fun a' i b n d h e => ?_⟩, h3.moved hv, h4.moved hv, h5.warm (H := U.heap) va_S.rf hv⟩
  · have h9 := (h2 w hw).1 a' i y h e
    subst e
    exact va_Nw.same rfl rfl h9
  · have h9 := (h2 w hw).2 a' i b n d h e
    subst e
    exact va_Nw.same rfl rfl h9
section WC
variable {p : Program} {l : Launch} {e : Env} {R : Room} {s : State} {m : MethodId} {args : Array Value} {below : List Frame} {meth : Method} {c : Code} {H : Heap} {locs : List Loc} {cells slots : Nat} {Q : State → Prop}
variable {cc : ByteArray} {pc : Nat} {ls : Array Slot} {rest st0 As : List Value} {X : wd_X} {S S' : wd_S} {D D' : wd_D} {nL mc ms n idx : Nat} {own : String} {r : Option Value} {rm : Room} {y : MethodName} {bytes : ByteArray} {maxL : Nat} {ret : Option FieldType}
theorem wd_blind {av : List Value} : FrameBlind (wd_Pc X S D av) := fun _ _ _ _ q => ⟨q.1, q.2.1, q.2.2.blind⟩
theorem wd_go {a : Array Value} (hr : va_Run p l e R s m args below meth c H locs cells slots mc ms (F0 m pc ls st0) rest (wd_Q X S' D' r a) (wd_A X)) (hS : va_S (wd_A X) s.heap H locs)
    (kk : ∀ (H1 : Heap) (locs1 : List Loc), Wd X S' D' H1 → va_S (wd_A X) s.heap H1 locs1 → W p l e R s m args below meth c H1 locs1 (cells + mc) (slots + ms) Q (F0 m (pc + 3) ls (r.toList ++ rest))) : W p l e R s m args below meth c H locs cells slots Q (F0 m pc ls st0) := by
  intro T hT Y
  obtain ⟨v, st₀, t, T', L, h0, X', hL, e1, e2, ⟨hv, hw, hz, hk⟩, st⟩ := hr T hT Y
  cases hv
  rw [h0] at hz hk
  obtain ⟨t2, a1, b1⟩ := kk T'.heap (locs ++ L) (by rw [e1]; exact hw)
    ⟨Nat.le_trans hS.1 (by rw [e1]; exact hz), fun q h1 h2 => by rw [e1, hk q (Nat.lt_of_lt_of_le h1 hS.1) h2]; exact hS.2.1 q h1 h2, fun q hq => by
      rcases List.mem_append.mp hq with h | h
      · exact hS.2.2 q h
      · exact hL q h⟩ T' rfl X'
  exact ⟨t2, st t2 a1, b1⟩
theorem wd_cb (hts : ∀ w ∈ tg, w.before args s = true) (mi : wd_M y bytes maxL ret n) (hl : Cond.methodLink own idx y ∈ tg) (hrm : rm.cells = mc ∧ rm.slots = ms ∧ rm.frames + 1 ≤ R.frames ∧ 8 + (maxL + 11) + rm.locals ≤ R.locals) : CallB R s args own idx y bytes maxL ret (Cond.code y bytes maxL ret :: tg) rm mc ms n :=
  callB_of n hts (tg_goodIn mi.1) rfl hrm.1 hrm.2.1 (hts _ mi.2.1) (hts _ hl) mi.2.2 hrm.2.2
theorem wd_callV (CF : CallFix p m c cc nL s args tg own) (hE : wd_Env X s) (hW : Wd X S D H) (hS : va_S (wd_A X) s.heap H locs) {k ci : Nat} (hM : wd_Met l X y bytes maxL ret rm S S' (.ref (X.2.2.1 + k) :: As) D D' r mc ms) (mi : wd_M y bytes maxL ret n) (vi : Cond.instanceMethod y ∈ tg ∧ Cond.selects y.cls y y ∈ tg) (hl : Cond.methodLink own idx y ∈ tg) (hci : ci < 8 ∧ wd_R ci = y.cls) (hsh : S.1[k]? = some (.inl ci))
    (hrm : rm.cells = mc ∧ rm.slots = ms ∧ rm.frames + 1 ≤ R.frames ∧ 8 + (maxL + 11) + rm.locals ≤ R.locals) (hn : As.length = n) (hls : ls.size = nL) (hst : st0 = As.reverse ++ .ref (X.2.2.1 + k) :: rest) (hr : (rest.map fun v => v.category).sum ≤ 8) (hdg : decode cc pc = .ok (.invokevirtual idx, 3)) (hf : cells + mc ≤ R.cells ∧ slots + ms ≤ R.slots)
    (kk : ∀ (H1 : Heap) (locs1 : List Loc), Wd X S' D' H1 → va_S (wd_A X) s.heap H1 locs1 → W p l e R s m args below meth c H1 locs1 (cells + mc) (slots + ms) Q (F0 m (pc + 3) ls (r.toList ++ rest))) : W p l e R s m args below meth c H locs cells slots Q (F0 m pc ls st0) := by
  have hts := CF.2.2.2.2
  obtain ⟨cell, g1, g2, g3⟩ := va_recv hE.1 hW (wd_cl ci hci.1) (wd_at hsh)
  refine wd_go (va_runV (As := As) (rest := rest) (C := y.cls) CF hM ⟨wd_cb hts mi hl hrm, hts _ vi.1, hts _ vi.2⟩ ⟨wd_blind, ⟨cell, g1, g2, by rw [← hci.2]; exact g3⟩, fun U hU hw => ⟨rfl, by rw [hU]; exact hW, hE.warm hS hU hw⟩⟩ rfl hn hls hst (lv_room hr) hdg hf) hS kk
theorem wd_callS (CF : CallFix p m c cc nL s args tg own) (hE : wd_Env X s) (hW : Wd X S D H) (hS : va_S (wd_A X) s.heap H locs) (hM : wd_Met l X y bytes maxL ret rm S S' As D D' r mc ms) (mi : wd_M y bytes maxL ret n) (vi : Cond.static y ∈ tg) (hl : Cond.methodLink own idx y ∈ tg)
    (hrm : rm.cells = mc ∧ rm.slots = ms ∧ rm.frames + 1 ≤ R.frames ∧ 8 + (maxL + 11) + rm.locals ≤ R.locals) (hn : As.length = n) (hls : ls.size = nL) (hst : st0 = As.reverse ++ rest) (hr : (rest.map fun v => v.category).sum ≤ 8) (hdg : decode cc pc = .ok (.invokestatic idx, 3)) (hf : cells + mc ≤ R.cells ∧ slots + ms ≤ R.slots)
    (kk : ∀ (H1 : Heap) (locs1 : List Loc), Wd X S' D' H1 → va_S (wd_A X) s.heap H1 locs1 → W p l e R s m args below meth c H1 locs1 (cells + mc) (slots + ms) Q (F0 m (pc + 3) ls (r.toList ++ rest))) : W p l e R s m args below meth c H locs cells slots Q (F0 m pc ls st0) := by
  have hts := CF.2.2.2.2
  refine wd_go (va_runS (As := As) (rest := rest) CF hM ⟨wd_cb hts mi hl hrm, hts _ vi⟩ ⟨wd_blind, fun U hU hw => ⟨rfl, by rw [hU]; exact hW, hE.warm hS hU hw⟩⟩ rfl hn hls hst (lv_room hr) hdg hf) hS kk
theorem wd_callSN (CF : CallFix p m c cc nL s args tg own) (hE : wd_Env X s) (hW : Wd X S D H) (hS : va_S (wd_A X) s.heap H locs) {host : String} (hM : wd_Met l X y bytes maxL ret rm S S' As D D' r mc ms) (mi : wd_M y bytes maxL ret n) (vi : Cond.static y ∈ tg) (hl : Cond.methodLinkNest own idx y host ∈ lw_tbl)
    (hrm : rm.cells = mc ∧ rm.slots = ms ∧ rm.frames + 1 ≤ R.frames ∧ 8 + (maxL + 11) + rm.locals ≤ R.locals) (hn : As.length = n) (hls : ls.size = nL) (hst : st0 = As.reverse ++ rest) (hr : (rest.map fun v => v.category).sum ≤ 8) (hdg : decode cc pc = .ok (.invokestatic idx, 3)) (hf : cells + mc ≤ R.cells ∧ slots + ms ≤ R.slots)
    (kk : ∀ (H1 : Heap) (locs1 : List Loc), Wd X S' D' H1 → va_S (wd_A X) s.heap H1 locs1 → W p l e R s m args below meth c H1 locs1 (cells + mc) (slots + ms) Q (F0 m (pc + 3) ls (r.toList ++ rest))) : W p l e R s m args below meth c H locs cells slots Q (F0 m pc ls st0) := by
  have hts := CF.2.2.2.2
  refine wd_go (va_runSN (As := As) (rest := rest) CF hM ⟨va_cnB n hts (tg_goodIn mi.1) rfl hrm.1 hrm.2.1 ((hE.2.1 _ hl).1 _ _ _ _ rfl) (hts _ mi.2.1) mi.2.2 hrm.2.2, hts _ vi, trivial⟩ ⟨wd_blind, fun U hU hw => ⟨rfl, by rw [hU]; exact hW, hE.warm hS hU hw⟩⟩ rfl hn hls hst (lv_room hr) hdg hf) hS kk
theorem wd_enter {av : List Value} (hy : plainName y.cls = true) (hA : (lg_sl av).length ≤ maxL)
    (body : ∀ (p : Program) (e : Env) (s : State) (m : MethodId) (below : List Frame) (meth : Method) (c : Code), CallFix p m c bytes maxL s av.toArray tg y.cls → meth.sig.returnType = ret → meth.locks = false → meth.name = y.name → Wd X S D s.heap → wd_Env X s → ∀ ls : Array Slot, lv_has ls maxL (lv_args 0 av) →
      W p l e rm s m av.toArray below meth c s.heap [] 0 0 (MQ below (wd_Q X S' D' r) av.toArray s mc ms (wd_A X)) (F0 m 0 ls [])) : wd_Met l X y bytes maxL ret rm S S' av D D' r mc ms := by
  refine Met.ofW (cc := bytes) (maxL := maxL) (ret := ret) hy rfl ?_
  intro p e s m args below meth c s₁ B hml hv
  obtain ⟨rfl, hW, hE⟩ := hv
  have hts := atoms_spec (ws := Cond.code y bytes maxL ret :: tg) B.pre
  have hl := lv_entry av (n := maxL) hA
  rw [lg_entry_eq]
  exact body p e s m below meth c ⟨B.exec, B.bytes, hml, findClass_of_methodNamed B.named, fun w h => hts w (List.mem_cons_of_mem _ h)⟩ B.returns B.notSynchronized (name_of_methodNamed B.named B.method).1 hW hE _ hl
theorem wd_iret {v : Int32} (CF : CallFix p m c cc nL s args tg own) (hr : meth.sig.returnType = some .int) (hk : meth.locks = false) (hW : Wd X S D H) (hS : va_S (wd_A X) s.heap H locs) (hdg : decode cc pc = .ok (.ireturn, 1)) : W p l e R s m args below meth c H locs cells slots (MQ below (wd_Q X S D (some (.int v))) args s cells slots (wd_A X)) (F0 m pc ls [.int v]) :=
  W.iret CF.1 CF.2.1 hr (fun t ht _ => ⟨rfl, by rw [ht]; exact hW, hS.F ht⟩) hS.2.2 hdg hk
theorem wd_zret {v : Int32} (CF : CallFix p m c cc nL s args tg own) (hr : meth.sig.returnType = some .boolean) (hk : meth.locks = false) (hW : Wd X S D H) (hS : va_S (wd_A X) s.heap H locs) (hv : v = 0 ∨ v = 1) (hdg : decode cc pc = .ok (.ireturn, 1)) : W p l e R s m args below meth c H locs cells slots (MQ below (wd_Q X S D (some (.int v))) args s cells slots (wd_A X)) (F0 m pc ls [.int v]) :=
  W.zret CF.1 CF.2.1 hr (by rcases hv with rfl | rfl <;> rfl) (fun t ht _ => ⟨rfl, by rw [ht]; exact hW, hS.F ht⟩) hS.2.2 hdg hk
theorem wd_lret {v : Int64} (CF : CallFix p m c cc nL s args tg own) (hr : meth.sig.returnType = some .long) (hk : meth.locks = false) (hW : Wd X S D H) (hS : va_S (wd_A X) s.heap H locs) (hdg : decode cc pc = .ok (.lreturn, 1)) : W p l e R s m args below meth c H locs cells slots (MQ below (wd_Q X S D (some (.long v))) args s cells slots (wd_A X)) (F0 m pc ls [.long v]) :=
  W.lret CF.1 CF.2.1 hr (fun t ht _ => ⟨rfl, by rw [ht]; exact hW, hS.F ht⟩) hS.2.2 hdg hk
theorem wd_vret (CF : CallFix p m c cc nL s args tg own) (hr : meth.sig.returnType = none) (hk : meth.locks = false) (hW : Wd X S D H) (hS : va_S (wd_A X) s.heap H locs) (hdg : decode cc pc = .ok (.return_, 1)) : W p l e R s m args below meth c H locs cells slots (MQ below (wd_Q X S D none) args s cells slots (wd_A X)) (F0 m pc ls []) :=
  W.vret CF.1 CF.2.1 hr (fun t ht _ => ⟨rfl, by rw [ht]; exact hW, hS.F ht⟩) hS.2.2 hdg hk
end WC
def cpD (D : wd_D) (k0 sp k1 dp n : Nat) : wd_D := (fun a b => if a = k1 ∧ dp ≤ b ∧ b < dp + n then D.1 k0 (sp + (b - dp)) else D.1 a b, D.2)
def cp (n0 n1 : Nat) (D : wd_D) (k0 : Nat) (sp : Int32) (k1 : Nat) (dp n : Int32) : Option wd_D := if sp < 0 ∨ dp < 0 ∨ n < 0 ∨ n0 < sp.toNatClampNeg + n.toNatClampNeg ∨ n1 < dp.toNatClampNeg + n.toNatClampNeg then none else some (cpD D k0 sp.toNatClampNeg k1 dp.toNatClampNeg n.toNatClampNeg)
theorem wd_oC {X : wd_X} {S : wd_S} {D : wd_D} {k0 sp k1 dp n a : Nat} (sh : wd_Sh) (h : a ≠ k1) : wd_E X S (cpD D k0 sp k1 dp n) a sh = wd_E X S D a sh := by
  have e : (cpD D k0 sp k1 dp n).1 a = D.1 a := by funext b; simp [cpD, h]
  have e1 : (cpD D k0 sp k1 dp n).2 = D.2 := rfl
  rcases sh with ci | ⟨t, n⟩
  · simp only [wd_E]
    congr 2
    refine List.map_congr_left (fun b _ => ?_)
    cases wd_ty ci b <;> simp [fv, e, e1] <;> rfl
  · match t with
    | 0 => simp [wd_E, e]
    | 1 => simp [wd_E, e]
    | 2 => simp [wd_E]
    | t + 3 => simp [wd_E]
section WCP
variable {p : Program} {l : Launch} {e : Env} {R : Room} {s : State} {m : MethodId} {args : Array Value} {below : List Frame} {meth : Method} {c : Code} {H : Heap} {locs : List Loc} {cells slots : Nat} {Q : State → Prop}
variable {cc : ByteArray} {pc : Nat} {ls : Array Slot} {rest : List Value} {X : wd_X} {S : wd_S} {D : wd_D} {nL idx : Nat} {own : String}
theorem wd_copy (CF : CallFix p m c cc nL s args tg own) (hE : wd_Env X s) (hW : Wd X S D H) (hS : va_S (wd_A X) s.heap H locs) (hls : ls.size = nL) {k0 k1 n0 n1 : Nat} (hs0 : S.1[k0]? = some (.inr (0, n0))) (hs1 : S.1[k1]? = some (.inr (0, n1))) {sp dp n : Int32} {D1 : wd_D} (h : cp n0 n1 D k0 sp k1 dp n = some D1) (hl : Cond.methodLink own idx arraycopyName ∈ tg)
    (hnat : Cond.native arraycopyName ∈ tg) (hstat : Cond.static arraycopyName ∈ tg) (hini : Cond.initialized "java/lang/System" ∈ tg) (hfr : 1 ≤ R.frames) (hlo : (rest.map fun v => v.category).sum + (nativeFrameWords "java/lang/System" "arraycopy" 5 + 11) ≤ R.locals) (hdg : decode cc pc = .ok (.invokestatic idx, 3))
    (kk : ∀ (H1 : Heap) (locs1 : List Loc), Wd X S D1 H1 → va_S (wd_A X) s.heap H1 locs1 → W p l e R s m args below meth c H1 locs1 cells slots Q (F0 m (pc + 3) ls rest)) : W p l e R s m args below meth c H locs cells slots Q (F0 m pc ls (.int n :: .int dp :: .ref (X.2.2.1 + k1) :: .int sp :: .ref (X.2.2.1 + k0) :: rest)) := by
  obtain ⟨hx, hb, hml, hown, hts⟩ := CF
  unfold cp at h
  split at h
  · cases h
  · rename_i hc
    simp only [not_or] at hc
    obtain ⟨c1, c2, c3, c4, c5⟩ := hc
    have h2 := Option.some.inj h
    subst h2
    refine va_copyi (ty := .int) (f := D.1 k0) (g := D.1 k1) (n0 := n0) (n1 := n1) (c0 := X.2.1.1) (c1 := X.2.1.1) hx hb (hml.trans hls.symm) hown (hts _ hl) (hts _ hnat) (hts _ hstat) (hts _ hini) hE.1 hW (wd_apart X S D) hS k0 k1 0 0 (wd_at hs0) (wd_at hs1) rfl rfl rfl c1 c2 c3 (by omega) (by omega) (fun _ _ => rfl) hfr hlo hdg fun H1 locs1 hP1 hD1 hS1 => ?_
    have hw := wd_set (X := X) (S := S) (S' := S) (D := D) (D' := cpD D k0 sp.toNatClampNeg k1 dp.toNatClampNeg n.toNatClampNeg) hs1 rfl (fun a sh' ha => wd_oC sh' ha)
    have he : va_cpy (D.1 k0) (D.1 k1) sp.toNatClampNeg dp.toNatClampNeg n.toNatClampNeg = (cpD D k0 sp.toNatClampNeg k1 dp.toNatClampNeg n.toNatClampNeg).1 k1 := by
      funext b; simp [va_cpy, cpD]
    simp only [wd_E] at hw
    rw [he, hw] at hP1
    exact kk H1 locs1 hP1 hS1
end WCP
end
