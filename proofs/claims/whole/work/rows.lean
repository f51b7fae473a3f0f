section
-- ===== PART A: goes FIRST, ahead of the names: the tables' words, and 'selects' of the private methods out of them =====
/-- a private method of a class that the tables say can be made, by its rows of tables_1 -/
def lw_okq (q : MethodName × Nat) : Prop := (q.1.cls ≠ "java/lang/invoke/MethodHandle" ∧ q.1.cls ≠ "java/lang/invoke/VarHandle") ∧ Cond.instantiable q.1.cls q.2 ∈ tables_1 ∧ Cond.privateMethod q.1 ∈ tables_1 ∧ Cond.instanceMethod q.1 ∈ tables_1
theorem lw_p0 : lw_okq (⟨"OwnerlessCoin$History", "dropOldest", "()V"⟩, 2) := ⟨⟨by decide +kernel, by decide +kernel⟩, List.mem_of_getElem? (i := 198) (by decide +kernel), List.mem_of_getElem? (i := 259) (by decide +kernel), List.mem_of_getElem? (i := 260) (by decide +kernel)⟩
theorem lw_p1 : lw_okq (⟨"OwnerlessCoin", "settingError", "(III)I"⟩, 3) := ⟨⟨by decide +kernel, by decide +kernel⟩, List.mem_of_getElem? (i := 14) (by decide +kernel), List.mem_of_getElem? (i := 296) (by decide +kernel), List.mem_of_getElem? (i := 297) (by decide +kernel)⟩
theorem lw_p2 : lw_okq (⟨"OwnerlessCoin$Lab", "ableToPay", "()I"⟩, 14) := ⟨⟨by decide +kernel, by decide +kernel⟩, List.mem_of_getElem? (i := 22) (by decide +kernel), List.mem_of_getElem? (i := 320) (by decide +kernel), List.mem_of_getElem? (i := 321) (by decide +kernel)⟩
theorem lw_p3 : lw_okq (⟨"OwnerlessCoin$Person", "provenPower", "(II)I"⟩, 12) := ⟨⟨by decide +kernel, by decide +kernel⟩, List.mem_of_getElem? (i := 68) (by decide +kernel), List.mem_of_getElem? (i := 406) (by decide +kernel), List.mem_of_getElem? (i := 407) (by decide +kernel)⟩
theorem lw_p4 : lw_okq (⟨"OwnerlessCoin$Chronicle", "put", "(IIIIII)V"⟩, 8) := ⟨⟨by decide +kernel, by decide +kernel⟩, List.mem_of_getElem? (i := 30) (by decide +kernel), List.mem_of_getElem? (i := 439) (by decide +kernel), List.mem_of_getElem? (i := 440) (by decide +kernel)⟩
theorem lw_p5 : lw_okq (⟨"OwnerlessCoin$Lab", "canRecoverAll", "(I)Z"⟩, 14) := ⟨⟨by decide +kernel, by decide +kernel⟩, List.mem_of_getElem? (i := 22) (by decide +kernel), List.mem_of_getElem? (i := 459) (by decide +kernel), List.mem_of_getElem? (i := 460) (by decide +kernel)⟩
theorem lw_p6 : lw_okq (⟨"OwnerlessCoin$Lab", "chargeOrCredit", "()V"⟩, 14) := ⟨⟨by decide +kernel, by decide +kernel⟩, List.mem_of_getElem? (i := 22) (by decide +kernel), List.mem_of_getElem? (i := 463) (by decide +kernel), List.mem_of_getElem? (i := 464) (by decide +kernel)⟩
theorem lw_p7 : lw_okq (⟨"OwnerlessCoin$Lab", "sharePot", "(I)V"⟩, 14) := ⟨⟨by decide +kernel, by decide +kernel⟩, List.mem_of_getElem? (i := 22) (by decide +kernel), List.mem_of_getElem? (i := 479) (by decide +kernel), List.mem_of_getElem? (i := 480) (by decide +kernel)⟩
theorem lw_p8 : lw_okq (⟨"OwnerlessCoin$Coalition", "add", "(I)V"⟩, 5) := ⟨⟨by decide +kernel, by decide +kernel⟩, List.mem_of_getElem? (i := 215) (by decide +kernel), List.mem_of_getElem? (i := 583) (by decide +kernel), List.mem_of_getElem? (i := 584) (by decide +kernel)⟩
theorem lw_p9 : lw_okq (⟨"OwnerlessCoin$Coalition", "isNew", "(I)Z"⟩, 5) := ⟨⟨by decide +kernel, by decide +kernel⟩, List.mem_of_getElem? (i := 215) (by decide +kernel), List.mem_of_getElem? (i := 592) (by decide +kernel), List.mem_of_getElem? (i := 593) (by decide +kernel)⟩
theorem lw_p10 : lw_okq (⟨"OwnerlessCoin$Coalition", "spread", "(III)V"⟩, 5) := ⟨⟨by decide +kernel, by decide +kernel⟩, List.mem_of_getElem? (i := 215) (by decide +kernel), List.mem_of_getElem? (i := 614) (by decide +kernel), List.mem_of_getElem? (i := 615) (by decide +kernel)⟩
theorem lw_p11 : lw_okq (⟨"OwnerlessCoinModel", "act", "()V"⟩, 7) := ⟨⟨by decide +kernel, by decide +kernel⟩, List.mem_of_getElem? (i := 725) (by decide +kernel), List.mem_of_getElem? (i := 761) (by decide +kernel), List.mem_of_getElem? (i := 762) (by decide +kernel)⟩
theorem lw_p12 : lw_okq (⟨"OwnerlessCoinModel", "isPerson", "(I)Z"⟩, 7) := ⟨⟨by decide +kernel, by decide +kernel⟩, List.mem_of_getElem? (i := 725) (by decide +kernel), List.mem_of_getElem? (i := 772) (by decide +kernel), List.mem_of_getElem? (i := 773) (by decide +kernel)⟩
theorem lw_p13 : lw_okq (⟨"OwnerlessCoinModel", "sets", "(II)I"⟩, 7) := ⟨⟨by decide +kernel, by decide +kernel⟩, List.mem_of_getElem? (i := 725) (by decide +kernel), List.mem_of_getElem? (i := 776) (by decide +kernel), List.mem_of_getElem? (i := 777) (by decide +kernel)⟩
theorem lw_p14 : lw_okq (⟨"OwnerlessCoinModel", "settles", "(IIII)I"⟩, 7) := ⟨⟨by decide +kernel, by decide +kernel⟩, List.mem_of_getElem? (i := 725) (by decide +kernel), List.mem_of_getElem? (i := 784) (by decide +kernel), List.mem_of_getElem? (i := 785) (by decide +kernel)⟩
theorem lw_p15 : lw_okq (⟨"OwnerlessCoinModel", "mayBegin", "()Z"⟩, 7) := ⟨⟨by decide +kernel, by decide +kernel⟩, List.mem_of_getElem? (i := 725) (by decide +kernel), List.mem_of_getElem? (i := 804) (by decide +kernel), List.mem_of_getElem? (i := 805) (by decide +kernel)⟩
def lw_privs_1 : List (MethodName × Nat) := [(⟨"OwnerlessCoin$History", "dropOldest", "()V"⟩, 2), (⟨"OwnerlessCoin", "settingError", "(III)I"⟩, 3), (⟨"OwnerlessCoin$Lab", "ableToPay", "()I"⟩, 14), (⟨"OwnerlessCoin$Person", "provenPower", "(II)I"⟩, 12), (⟨"OwnerlessCoin$Chronicle", "put", "(IIIIII)V"⟩, 8), (⟨"OwnerlessCoin$Lab", "canRecoverAll", "(I)Z"⟩, 14), (⟨"OwnerlessCoin$Lab", "chargeOrCredit", "()V"⟩, 14), (⟨"OwnerlessCoin$Lab", "sharePot", "(I)V"⟩, 14), (⟨"OwnerlessCoin$Coalition", "add", "(I)V"⟩, 5), (⟨"OwnerlessCoin$Coalition", "isNew", "(I)Z"⟩, 5), (⟨"OwnerlessCoin$Coalition", "spread", "(III)V"⟩, 5), (⟨"OwnerlessCoinModel", "act", "()V"⟩, 7), (⟨"OwnerlessCoinModel", "isPerson", "(I)Z"⟩, 7), (⟨"OwnerlessCoinModel", "sets", "(II)I"⟩, 7), (⟨"OwnerlessCoinModel", "settles", "(IIII)I"⟩, 7), (⟨"OwnerlessCoinModel", "mayBegin", "()Z"⟩, 7)]
theorem lw_r1 : ∀ q ∈ lw_privs_1, lw_okq q := List.forall_mem_cons.mpr ⟨lw_p0, List.forall_mem_cons.mpr ⟨lw_p1, List.forall_mem_cons.mpr ⟨lw_p2, List.forall_mem_cons.mpr ⟨lw_p3, List.forall_mem_cons.mpr ⟨lw_p4, List.forall_mem_cons.mpr ⟨lw_p5, List.forall_mem_cons.mpr ⟨lw_p6, List.forall_mem_cons.mpr ⟨lw_p7, List.forall_mem_cons.mpr ⟨lw_p8, List.forall_mem_cons.mpr ⟨lw_p9, List.forall_mem_cons.mpr ⟨lw_p10, List.forall_mem_cons.mpr ⟨lw_p11, List.forall_mem_cons.mpr ⟨lw_p12, List.forall_mem_cons.mpr ⟨lw_p13, List.forall_mem_cons.mpr ⟨lw_p14, List.forall_mem_cons.mpr ⟨lw_p15, fun _ h => absurd h List.not_mem_nil⟩⟩⟩⟩⟩⟩⟩⟩⟩⟩⟩⟩⟩⟩⟩⟩
theorem lw_p16 : lw_okq (⟨"OwnerlessCoinModel", "begins", "()V"⟩, 7) := ⟨⟨by decide +kernel, by decide +kernel⟩, List.mem_of_getElem? (i := 725) (by decide +kernel), List.mem_of_getElem? (i := 808) (by decide +kernel), List.mem_of_getElem? (i := 809) (by decide +kernel)⟩
theorem lw_p17 : lw_okq (⟨"OwnerlessCoinModel", "has", "(II)Z"⟩, 7) := ⟨⟨by decide +kernel, by decide +kernel⟩, List.mem_of_getElem? (i := 725) (by decide +kernel), List.mem_of_getElem? (i := 816) (by decide +kernel), List.mem_of_getElem? (i := 817) (by decide +kernel)⟩
theorem lw_p18 : lw_okq (⟨"OwnerlessCoinModel", "digestOf", "(II)I"⟩, 7) := ⟨⟨by decide +kernel, by decide +kernel⟩, List.mem_of_getElem? (i := 725) (by decide +kernel), List.mem_of_getElem? (i := 820) (by decide +kernel), List.mem_of_getElem? (i := 821) (by decide +kernel)⟩
theorem lw_p19 : lw_okq (⟨"OwnerlessCoinModel", "isCopy", "(II)Z"⟩, 7) := ⟨⟨by decide +kernel, by decide +kernel⟩, List.mem_of_getElem? (i := 725) (by decide +kernel), List.mem_of_getElem? (i := 828) (by decide +kernel), List.mem_of_getElem? (i := 829) (by decide +kernel)⟩
theorem lw_p20 : lw_okq (⟨"OwnerlessCoinModel", "commits", "(III)V"⟩, 7) := ⟨⟨by decide +kernel, by decide +kernel⟩, List.mem_of_getElem? (i := 725) (by decide +kernel), List.mem_of_getElem? (i := 832) (by decide +kernel), List.mem_of_getElem? (i := 833) (by decide +kernel)⟩
theorem lw_p21 : lw_okq (⟨"OwnerlessCoinModel", "deals", "(I)V"⟩, 7) := ⟨⟨by decide +kernel, by decide +kernel⟩, List.mem_of_getElem? (i := 725) (by decide +kernel), List.mem_of_getElem? (i := 836) (by decide +kernel), List.mem_of_getElem? (i := 837) (by decide +kernel)⟩
theorem lw_p22 : lw_okq (⟨"OwnerlessCoinModel", "draw", "()I"⟩, 7) := ⟨⟨by decide +kernel, by decide +kernel⟩, List.mem_of_getElem? (i := 725) (by decide +kernel), List.mem_of_getElem? (i := 840) (by decide +kernel), List.mem_of_getElem? (i := 841) (by decide +kernel)⟩
theorem lw_p23 : lw_okq (⟨"OwnerlessCoinModel", "valueAt", "(II)I"⟩, 7) := ⟨⟨by decide +kernel, by decide +kernel⟩, List.mem_of_getElem? (i := 725) (by decide +kernel), List.mem_of_getElem? (i := 845) (by decide +kernel), List.mem_of_getElem? (i := 846) (by decide +kernel)⟩
theorem lw_p24 : lw_okq (⟨"OwnerlessCoinModel", "hasShare", "(II)Z"⟩, 7) := ⟨⟨by decide +kernel, by decide +kernel⟩, List.mem_of_getElem? (i := 725) (by decide +kernel), List.mem_of_getElem? (i := 859) (by decide +kernel), List.mem_of_getElem? (i := 860) (by decide +kernel)⟩
theorem lw_p25 : lw_okq (⟨"OwnerlessCoinModel", "hasShares", "(I)Z"⟩, 7) := ⟨⟨by decide +kernel, by decide +kernel⟩, List.mem_of_getElem? (i := 725) (by decide +kernel), List.mem_of_getElem? (i := 863) (by decide +kernel), List.mem_of_getElem? (i := 864) (by decide +kernel)⟩
theorem lw_p26 : lw_okq (⟨"OwnerlessCoinModel", "isMember", "(I)Z"⟩, 7) := ⟨⟨by decide +kernel, by decide +kernel⟩, List.mem_of_getElem? (i := 725) (by decide +kernel), List.mem_of_getElem? (i := 867) (by decide +kernel), List.mem_of_getElem? (i := 868) (by decide +kernel)⟩
theorem lw_p27 : lw_okq (⟨"OwnerlessCoinModel", "spoils", "(III)V"⟩, 7) := ⟨⟨by decide +kernel, by decide +kernel⟩, List.mem_of_getElem? (i := 725) (by decide +kernel), List.mem_of_getElem? (i := 871) (by decide +kernel), List.mem_of_getElem? (i := 872) (by decide +kernel)⟩
theorem lw_p28 : lw_okq (⟨"OwnerlessCoinModel", "shareOf", "(II)I"⟩, 7) := ⟨⟨by decide +kernel, by decide +kernel⟩, List.mem_of_getElem? (i := 725) (by decide +kernel), List.mem_of_getElem? (i := 875) (by decide +kernel), List.mem_of_getElem? (i := 876) (by decide +kernel)⟩
theorem lw_p29 : lw_okq (⟨"OwnerlessCoinModel", "complains", "(II)I"⟩, 7) := ⟨⟨by decide +kernel, by decide +kernel⟩, List.mem_of_getElem? (i := 725) (by decide +kernel), List.mem_of_getElem? (i := 883) (by decide +kernel), List.mem_of_getElem? (i := 884) (by decide +kernel)⟩
theorem lw_p30 : lw_okq (⟨"OwnerlessCoinModel", "isGood", "(II)Z"⟩, 7) := ⟨⟨by decide +kernel, by decide +kernel⟩, List.mem_of_getElem? (i := 725) (by decide +kernel), List.mem_of_getElem? (i := 887) (by decide +kernel), List.mem_of_getElem? (i := 888) (by decide +kernel)⟩
theorem lw_p31 : lw_okq (⟨"OwnerlessCoinModel", "pays", "(I)V"⟩, 7) := ⟨⟨by decide +kernel, by decide +kernel⟩, List.mem_of_getElem? (i := 725) (by decide +kernel), List.mem_of_getElem? (i := 891) (by decide +kernel), List.mem_of_getElem? (i := 892) (by decide +kernel)⟩
def lw_privs_2 : List (MethodName × Nat) := [(⟨"OwnerlessCoinModel", "begins", "()V"⟩, 7), (⟨"OwnerlessCoinModel", "has", "(II)Z"⟩, 7), (⟨"OwnerlessCoinModel", "digestOf", "(II)I"⟩, 7), (⟨"OwnerlessCoinModel", "isCopy", "(II)Z"⟩, 7), (⟨"OwnerlessCoinModel", "commits", "(III)V"⟩, 7), (⟨"OwnerlessCoinModel", "deals", "(I)V"⟩, 7), (⟨"OwnerlessCoinModel", "draw", "()I"⟩, 7), (⟨"OwnerlessCoinModel", "valueAt", "(II)I"⟩, 7), (⟨"OwnerlessCoinModel", "hasShare", "(II)Z"⟩, 7), (⟨"OwnerlessCoinModel", "hasShares", "(I)Z"⟩, 7), (⟨"OwnerlessCoinModel", "isMember", "(I)Z"⟩, 7), (⟨"OwnerlessCoinModel", "spoils", "(III)V"⟩, 7), (⟨"OwnerlessCoinModel", "shareOf", "(II)I"⟩, 7), (⟨"OwnerlessCoinModel", "complains", "(II)I"⟩, 7), (⟨"OwnerlessCoinModel", "isGood", "(II)Z"⟩, 7), (⟨"OwnerlessCoinModel", "pays", "(I)V"⟩, 7)]
theorem lw_r2 : ∀ q ∈ lw_privs_2, lw_okq q := List.forall_mem_cons.mpr ⟨lw_p16, List.forall_mem_cons.mpr ⟨lw_p17, List.forall_mem_cons.mpr ⟨lw_p18, List.forall_mem_cons.mpr ⟨lw_p19, List.forall_mem_cons.mpr ⟨lw_p20, List.forall_mem_cons.mpr ⟨lw_p21, List.forall_mem_cons.mpr ⟨lw_p22, List.forall_mem_cons.mpr ⟨lw_p23, List.forall_mem_cons.mpr ⟨lw_p24, List.forall_mem_cons.mpr ⟨lw_p25, List.forall_mem_cons.mpr ⟨lw_p26, List.forall_mem_cons.mpr ⟨lw_p27, List.forall_mem_cons.mpr ⟨lw_p28, List.forall_mem_cons.mpr ⟨lw_p29, List.forall_mem_cons.mpr ⟨lw_p30, List.forall_mem_cons.mpr ⟨lw_p31, fun _ h => absurd h List.not_mem_nil⟩⟩⟩⟩⟩⟩⟩⟩⟩⟩⟩⟩⟩⟩⟩⟩
theorem lw_p32 : lw_okq (⟨"OwnerlessCoinModel", "opensUp", "()I"⟩, 7) := ⟨⟨by decide +kernel, by decide +kernel⟩, List.mem_of_getElem? (i := 725) (by decide +kernel), List.mem_of_getElem? (i := 899) (by decide +kernel), List.mem_of_getElem? (i := 900) (by decide +kernel)⟩
theorem lw_p33 : lw_okq (⟨"OwnerlessCoinModel", "setOf", "(I)I"⟩, 7) := ⟨⟨by decide +kernel, by decide +kernel⟩, List.mem_of_getElem? (i := 725) (by decide +kernel), List.mem_of_getElem? (i := 903) (by decide +kernel), List.mem_of_getElem? (i := 904) (by decide +kernel)⟩
theorem lw_p34 : lw_okq (⟨"OwnerlessCoinModel", "ends", "(IIII)V"⟩, 7) := ⟨⟨by decide +kernel, by decide +kernel⟩, List.mem_of_getElem? (i := 725) (by decide +kernel), List.mem_of_getElem? (i := 910) (by decide +kernel), List.mem_of_getElem? (i := 911) (by decide +kernel)⟩
theorem lw_p35 : lw_okq (⟨"OwnerlessCoinModel", "closes", "()I"⟩, 7) := ⟨⟨by decide +kernel, by decide +kernel⟩, List.mem_of_getElem? (i := 725) (by decide +kernel), List.mem_of_getElem? (i := 922) (by decide +kernel), List.mem_of_getElem? (i := 923) (by decide +kernel)⟩
theorem lw_p36 : lw_okq (⟨"OwnerlessCoinModel", "takesSecrets", "()V"⟩, 7) := ⟨⟨by decide +kernel, by decide +kernel⟩, List.mem_of_getElem? (i := 725) (by decide +kernel), List.mem_of_getElem? (i := 926) (by decide +kernel), List.mem_of_getElem? (i := 927) (by decide +kernel)⟩
theorem lw_p37 : lw_okq (⟨"OwnerlessCoinModel", "outputOf", "(I)I"⟩, 7) := ⟨⟨by decide +kernel, by decide +kernel⟩, List.mem_of_getElem? (i := 725) (by decide +kernel), List.mem_of_getElem? (i := 930) (by decide +kernel), List.mem_of_getElem? (i := 931) (by decide +kernel)⟩
theorem lw_p38 : lw_okq (⟨"OwnerlessCoinModel", "rightOnes", "(II)I"⟩, 7) := ⟨⟨by decide +kernel, by decide +kernel⟩, List.mem_of_getElem? (i := 725) (by decide +kernel), List.mem_of_getElem? (i := 934) (by decide +kernel), List.mem_of_getElem? (i := 935) (by decide +kernel)⟩
theorem lw_p39 : lw_okq (⟨"OwnerlessCoinModel", "plays", "(I)V"⟩, 7) := ⟨⟨by decide +kernel, by decide +kernel⟩, List.mem_of_getElem? (i := 725) (by decide +kernel), List.mem_of_getElem? (i := 942) (by decide +kernel), List.mem_of_getElem? (i := 943) (by decide +kernel)⟩
theorem lw_p40 : lw_okq (⟨"OwnerlessCoinModel", "cheats", "()V"⟩, 7) := ⟨⟨by decide +kernel, by decide +kernel⟩, List.mem_of_getElem? (i := 725) (by decide +kernel), List.mem_of_getElem? (i := 946) (by decide +kernel), List.mem_of_getElem? (i := 947) (by decide +kernel)⟩
theorem lw_p41 : lw_okq (⟨"OwnerlessCoinModel", "nextMember", "(I)I"⟩, 7) := ⟨⟨by decide +kernel, by decide +kernel⟩, List.mem_of_getElem? (i := 725) (by decide +kernel), List.mem_of_getElem? (i := 950) (by decide +kernel), List.mem_of_getElem? (i := 951) (by decide +kernel)⟩
theorem lw_p42 : lw_okq (⟨"OwnerlessCoinModel", "decides", "()V"⟩, 7) := ⟨⟨by decide +kernel, by decide +kernel⟩, List.mem_of_getElem? (i := 725) (by decide +kernel), List.mem_of_getElem? (i := 954) (by decide +kernel), List.mem_of_getElem? (i := 955) (by decide +kernel)⟩
theorem lw_p43 : lw_okq (⟨"OwnerlessCoinModel", "coinOf", "(I)I"⟩, 7) := ⟨⟨by decide +kernel, by decide +kernel⟩, List.mem_of_getElem? (i := 725) (by decide +kernel), List.mem_of_getElem? (i := 958) (by decide +kernel), List.mem_of_getElem? (i := 959) (by decide +kernel)⟩
theorem lw_p44 : lw_okq (⟨"OwnerlessCoinModel", "setNumber", "(I)I"⟩, 7) := ⟨⟨by decide +kernel, by decide +kernel⟩, List.mem_of_getElem? (i := 725) (by decide +kernel), List.mem_of_getElem? (i := 970) (by decide +kernel), List.mem_of_getElem? (i := 971) (by decide +kernel)⟩
theorem lw_p45 : lw_okq (⟨"OwnerlessCoinModel", "isIn", "(I)Z"⟩, 7) := ⟨⟨by decide +kernel, by decide +kernel⟩, List.mem_of_getElem? (i := 725) (by decide +kernel), List.mem_of_getElem? (i := 978) (by decide +kernel), List.mem_of_getElem? (i := 979) (by decide +kernel)⟩
theorem lw_p46 : lw_okq (⟨"OwnerlessCoinModel", "mayJoin", "(I)Z"⟩, 7) := ⟨⟨by decide +kernel, by decide +kernel⟩, List.mem_of_getElem? (i := 725) (by decide +kernel), List.mem_of_getElem? (i := 1009) (by decide +kernel), List.mem_of_getElem? (i := 1010) (by decide +kernel)⟩
theorem lw_p47 : lw_okq (⟨"OwnerlessCoinModel", "forces", "(II)Z"⟩, 7) := ⟨⟨by decide +kernel, by decide +kernel⟩, List.mem_of_getElem? (i := 725) (by decide +kernel), List.mem_of_getElem? (i := 1017) (by decide +kernel), List.mem_of_getElem? (i := 1018) (by decide +kernel)⟩
def lw_privs_3 : List (MethodName × Nat) := [(⟨"OwnerlessCoinModel", "opensUp", "()I"⟩, 7), (⟨"OwnerlessCoinModel", "setOf", "(I)I"⟩, 7), (⟨"OwnerlessCoinModel", "ends", "(IIII)V"⟩, 7), (⟨"OwnerlessCoinModel", "closes", "()I"⟩, 7), (⟨"OwnerlessCoinModel", "takesSecrets", "()V"⟩, 7), (⟨"OwnerlessCoinModel", "outputOf", "(I)I"⟩, 7), (⟨"OwnerlessCoinModel", "rightOnes", "(II)I"⟩, 7), (⟨"OwnerlessCoinModel", "plays", "(I)V"⟩, 7), (⟨"OwnerlessCoinModel", "cheats", "()V"⟩, 7), (⟨"OwnerlessCoinModel", "nextMember", "(I)I"⟩, 7), (⟨"OwnerlessCoinModel", "decides", "()V"⟩, 7), (⟨"OwnerlessCoinModel", "coinOf", "(I)I"⟩, 7), (⟨"OwnerlessCoinModel", "setNumber", "(I)I"⟩, 7), (⟨"OwnerlessCoinModel", "isIn", "(I)Z"⟩, 7), (⟨"OwnerlessCoinModel", "mayJoin", "(I)Z"⟩, 7), (⟨"OwnerlessCoinModel", "forces", "(II)Z"⟩, 7)]
theorem lw_r3 : ∀ q ∈ lw_privs_3, lw_okq q := List.forall_mem_cons.mpr ⟨lw_p32, List.forall_mem_cons.mpr ⟨lw_p33, List.forall_mem_cons.mpr ⟨lw_p34, List.forall_mem_cons.mpr ⟨lw_p35, List.forall_mem_cons.mpr ⟨lw_p36, List.forall_mem_cons.mpr ⟨lw_p37, List.forall_mem_cons.mpr ⟨lw_p38, List.forall_mem_cons.mpr ⟨lw_p39, List.forall_mem_cons.mpr ⟨lw_p40, List.forall_mem_cons.mpr ⟨lw_p41, List.forall_mem_cons.mpr ⟨lw_p42, List.forall_mem_cons.mpr ⟨lw_p43, List.forall_mem_cons.mpr ⟨lw_p44, List.forall_mem_cons.mpr ⟨lw_p45, List.forall_mem_cons.mpr ⟨lw_p46, List.forall_mem_cons.mpr ⟨lw_p47, fun _ h => absurd h List.not_mem_nil⟩⟩⟩⟩⟩⟩⟩⟩⟩⟩⟩⟩⟩⟩⟩⟩
theorem lw_p48 : lw_okq (⟨"OwnerlessCoinModel", "isKept", "(I)Z"⟩, 7) := ⟨⟨by decide +kernel, by decide +kernel⟩, List.mem_of_getElem? (i := 725) (by decide +kernel), List.mem_of_getElem? (i := 1078) (by decide +kernel), List.mem_of_getElem? (i := 1079) (by decide +kernel)⟩
theorem lw_p49 : lw_okq (⟨"OwnerlessCoinModel", "ofRound", "(II)I"⟩, 7) := ⟨⟨by decide +kernel, by decide +kernel⟩, List.mem_of_getElem? (i := 725) (by decide +kernel), List.mem_of_getElem? (i := 1082) (by decide +kernel), List.mem_of_getElem? (i := 1083) (by decide +kernel)⟩
def lw_privs_4 : List (MethodName × Nat) := [(⟨"OwnerlessCoinModel", "isKept", "(I)Z"⟩, 7), (⟨"OwnerlessCoinModel", "ofRound", "(II)I"⟩, 7)]
theorem lw_r4 : ∀ q ∈ lw_privs_4, lw_okq q := List.forall_mem_cons.mpr ⟨lw_p48, List.forall_mem_cons.mpr ⟨lw_p49, fun _ h => absurd h List.not_mem_nil⟩⟩
def lw_privs : List (MethodName × Nat) := lw_privs_1 ++ (lw_privs_2 ++ (lw_privs_3 ++ (lw_privs_4)))
def lw_tbl : List Cond := k2_sels lw_privs ++ tables_1
theorem lw_privs_ok : ∀ q ∈ lw_privs, lw_okq q := by
  show ∀ q ∈ lw_privs_1 ++ (lw_privs_2 ++ (lw_privs_3 ++ (lw_privs_4))), lw_okq q
  exact List.forall_mem_append.mpr ⟨lw_r1, List.forall_mem_append.mpr ⟨lw_r2, List.forall_mem_append.mpr ⟨lw_r3, lw_r4⟩⟩⟩

def RX0 : String := "OwnerlessCoin$Chronicle"
def TX0 : u_T := fun k => match k with
  | 0 => ("OwnerlessCoin$Chronicle", "ended", "I", false)
  | 1 => ("OwnerlessCoin$Chronicle", "latestOutput", "I", false)
  | 2 => ("OwnerlessCoin$Chronicle", "zeros", "I", false)
  | 3 => ("OwnerlessCoin$Chronicle", "ones", "I", false)
  | 4 => ("OwnerlessCoin$Chronicle", "longest", "I", false)
  | 5 => ("OwnerlessCoin$Chronicle", "run", "I", false)
  | 6 => ("OwnerlessCoin$Chronicle", "runCoin", "I", false)
  | _ => ("OwnerlessCoin$Chronicle", "entries", "[I", true)
def tyX0 : Nat → FieldType := fun k => match k with
  | 0 => .int
  | 1 => .int
  | 2 => .int
  | 3 => .int
  | 4 => .int
  | 5 => .int
  | 6 => .int
  | _ => .array .int
abbrev wsX00 : List Cond := u_ws RX0 TX0 8
theorem nmX0 : ∀ a, a < 8 → ∀ b, b < 8 → a ≠ b → (TX0 a).2.1 ≠ (TX0 b).2.1 := by decide +kernel
theorem tyX0_ok : ∀ k, k < 8 → parseFieldDescriptor (TX0 k).2.2.1 = some (tyX0 k) := by decide +kernel
abbrev cX0_init : ByteArray := prog_2_method_1_code
def yX0_init : MethodName := ⟨RX0, "<init>", "()V"⟩
abbrev cX0_copy : ByteArray := prog_2_method_2_code
def yX0_copy : MethodName := ⟨RX0, "copy", "(LOwnerlessCoin$Chronicle;)V"⟩
abbrev cX0_keeps : ByteArray := prog_2_method_3_code
def yX0_keeps : MethodName := ⟨RX0, "keeps", "(I)Z"⟩
abbrev cX0_entry : ByteArray := prog_2_method_4_code
def yX0_entry : MethodName := ⟨RX0, "entry", "(II)I"⟩
abbrev cX0_addFailure : ByteArray := prog_2_method_5_code
def yX0_addFailure : MethodName := ⟨RX0, "addFailure", "(III)V"⟩
abbrev cX0_addOutput : ByteArray := prog_2_method_6_code
def yX0_addOutput : MethodName := ⟨RX0, "addOutput", "(IIII)V"⟩
abbrev cX0_put : ByteArray := prog_2_method_7_code
def yX0_put : MethodName := ⟨RX0, "put", "(IIIIII)V"⟩
def RX1 : String := "OwnerlessCoin$Coalition"
def TX1 : u_T := fun k => match k with
  | 0 => ("OwnerlessCoin$Coalition", "counted", "[I", true)
  | 1 => ("OwnerlessCoin$Coalition", "outputs", "[I", true)
  | 2 => ("OwnerlessCoin$Coalition", "secrets", "[I", true)
  | 3 => ("OwnerlessCoin$Coalition", "size", "I", false)
  | _ => ("OwnerlessCoin$Coalition", "canFail", "Z", false)
def tyX1 : Nat → FieldType := fun k => match k with
  | 0 => .array .int
  | 1 => .array .int
  | 2 => .array .int
  | 3 => .int
  | _ => .boolean
abbrev wsX10 : List Cond := u_ws RX1 TX1 5
theorem nmX1 : ∀ a, a < 5 → ∀ b, b < 5 → a ≠ b → (TX1 a).2.1 ≠ (TX1 b).2.1 := by decide +kernel
theorem tyX1_ok : ∀ k, k < 5 → parseFieldDescriptor (TX1 k).2.2.1 = some (tyX1 k) := by decide +kernel
abbrev cX1_init : ByteArray := prog_3_method_1_code
def yX1_init : MethodName := ⟨RX1, "<init>", "()V"⟩
abbrev cX1_gather : ByteArray := prog_3_method_2_code
def yX1_gather : MethodName := ⟨RX1, "gather", "(LOwnerlessCoin$Lab;I)V"⟩
abbrev cX1_add : ByteArray := prog_3_method_3_code
def yX1_add : MethodName := ⟨RX1, "add", "(I)V"⟩
abbrev cX1_countResults : ByteArray := prog_3_method_4_code
def yX1_countResults : MethodName := ⟨RX1, "countResults", "(LOwnerlessCoin$Lab;)I"⟩
abbrev cX1_isNew : ByteArray := prog_3_method_5_code
def yX1_isNew : MethodName := ⟨RX1, "isNew", "(I)Z"⟩
abbrev cX1_reaches : ByteArray := prog_3_method_6_code
def yX1_reaches : MethodName := ⟨RX1, "reaches", "(LOwnerlessCoin$Lab;[II)Z"⟩
abbrev cX1_countForced : ByteArray := prog_3_method_7_code
def yX1_countForced : MethodName := ⟨RX1, "countForced", "(LOwnerlessCoin$Lab;II)I"⟩
abbrev cX1_spread : ByteArray := prog_3_method_8_code
def yX1_spread : MethodName := ⟨RX1, "spread", "(III)V"⟩
def RX2 : String := "OwnerlessCoin$Game"
def TX2 : u_T := fun k => match k with
  | _ => ("", "", "", false)
def tyX2 : Nat → FieldType := fun k => match k with
  | _ => .int
abbrev wsX20 : List Cond := u_ws RX2 TX2 0
theorem nmX2 : ∀ a, a < 0 → ∀ b, b < 0 → a ≠ b → (TX2 a).2.1 ≠ (TX2 b).2.1 := by decide +kernel
theorem tyX2_ok : ∀ k, k < 0 → parseFieldDescriptor (TX2 k).2.2.1 = some (tyX2 k) := by decide +kernel
abbrev cX2_playRound : ByteArray := prog_4_method_2_code
def yX2_playRound : MethodName := ⟨RX2, "playRound", "(LOwnerlessCoin$Lab;I)I"⟩
abbrev cX2_commitAll : ByteArray := prog_4_method_3_code
def yX2_commitAll : MethodName := ⟨RX2, "commitAll", "(LOwnerlessCoin$Lab;I)V"⟩
abbrev cX2_cheat : ByteArray := prog_4_method_4_code
def yX2_cheat : MethodName := ⟨RX2, "cheat", "(LOwnerlessCoin$Lab;)V"⟩
abbrev cX2_memberAfter : ByteArray := prog_4_method_5_code
def yX2_memberAfter : MethodName := ⟨RX2, "memberAfter", "(LOwnerlessCoin$Lab;I)I"⟩
abbrev cX2_complainAll : ByteArray := prog_4_method_6_code
def yX2_complainAll : MethodName := ⟨RX2, "complainAll", "(LOwnerlessCoin$Lab;)V"⟩
abbrev cX2_openHonest : ByteArray := prog_4_method_7_code
def yX2_openHonest : MethodName := ⟨RX2, "openHonest", "(LOwnerlessCoin$Lab;)V"⟩
abbrev cX2_openSelfish : ByteArray := prog_4_method_8_code
def yX2_openSelfish : MethodName := ⟨RX2, "openSelfish", "(LOwnerlessCoin$Lab;)V"⟩
abbrev cX2_givesOne : ByteArray := prog_4_method_9_code
def yX2_givesOne : MethodName := ⟨RX2, "givesOne", "(LOwnerlessCoin$Lab;I)Z"⟩
def RX3 : String := "OwnerlessCoin$History"
def TX3 : u_T := fun k => match k with
  | 0 => ("OwnerlessCoin$History", "states", "[LOwnerlessCoin$Lab;", true)
  | _ => ("OwnerlessCoin$History", "size", "I", false)
def tyX3 : Nat → FieldType := fun k => match k with
  | 0 => .array (.object "OwnerlessCoin$Lab")
  | _ => .int
abbrev wsX30 : List Cond := u_ws RX3 TX3 2
theorem nmX3 : ∀ a, a < 2 → ∀ b, b < 2 → a ≠ b → (TX3 a).2.1 ≠ (TX3 b).2.1 := by decide +kernel
theorem tyX3_ok : ∀ k, k < 2 → parseFieldDescriptor (TX3 k).2.2.1 = some (tyX3 k) := by decide +kernel
abbrev cX3_init : ByteArray := prog_5_method_1_code
def yX3_init : MethodName := ⟨RX3, "<init>", "()V"⟩
abbrev cX3_remember : ByteArray := prog_5_method_2_code
def yX3_remember : MethodName := ⟨RX3, "remember", "(LOwnerlessCoin$Lab;)V"⟩
abbrev cX3_dropOldest : ByteArray := prog_5_method_3_code
def yX3_dropOldest : MethodName := ⟨RX3, "dropOldest", "()V"⟩
abbrev cX3_restore : ByteArray := prog_5_method_4_code
def yX3_restore : MethodName := ⟨RX3, "restore", "(LOwnerlessCoin$Lab;)V"⟩
def RX4 : String := "OwnerlessCoin$Lab"
def TX4 : u_T := fun k => match k with
  | 0 => ("OwnerlessCoin$Lab", "people", "[LOwnerlessCoin$Person;", true)
  | 1 => ("OwnerlessCoin$Lab", "secrets", "[I", true)
  | 2 => ("OwnerlessCoin$Lab", "chronicle", "LOwnerlessCoin$Chronicle;", true)
  | 3 => ("OwnerlessCoin$Lab", "count", "I", false)
  | 4 => ("OwnerlessCoin$Lab", "pot", "I", false)
  | 5 => ("OwnerlessCoin$Lab", "method", "I", false)
  | 6 => ("OwnerlessCoin$Lab", "threshold", "I", false)
  | 7 => ("OwnerlessCoin$Lab", "fine", "I", false)
  | 8 => ("OwnerlessCoin$Lab", "delay", "I", false)
  | 9 => ("OwnerlessCoin$Lab", "phase", "I", false)
  | 10 => ("OwnerlessCoin$Lab", "members", "I", false)
  | 11 => ("OwnerlessCoin$Lab", "committed", "I", false)
  | 12 => ("OwnerlessCoin$Lab", "opened", "I", false)
  | _ => ("OwnerlessCoin$Lab", "expelled", "I", false)
def tyX4 : Nat → FieldType := fun k => match k with
  | 0 => .array (.object "OwnerlessCoin$Person")
  | 1 => .array .int
  | 2 => .object "OwnerlessCoin$Chronicle"
  | 3 => .int
  | 4 => .int
  | 5 => .int
  | 6 => .int
  | 7 => .int
  | 8 => .int
  | 9 => .int
  | 10 => .int
  | 11 => .int
  | 12 => .int
  | _ => .int
abbrev wsX40 : List Cond := u_ws RX4 TX4 14
theorem nmX4 : ∀ a, a < 14 → ∀ b, b < 14 → a ≠ b → (TX4 a).2.1 ≠ (TX4 b).2.1 := by decide +kernel
theorem tyX4_ok : ∀ k, k < 14 → parseFieldDescriptor (TX4 k).2.2.1 = some (tyX4 k) := by decide +kernel
abbrev cX4_init : ByteArray := prog_6_method_1_code
def yX4_init : MethodName := ⟨RX4, "<init>", "()V"⟩
abbrev cX4_copy : ByteArray := prog_6_method_2_code
def yX4_copy : MethodName := ⟨RX4, "copy", "(LOwnerlessCoin$Lab;)V"⟩
abbrev cX4_isParticipant : ByteArray := prog_6_method_3_code
def yX4_isParticipant : MethodName := ⟨RX4, "isParticipant", "(I)Z"⟩
abbrev cX4_isCommitted : ByteArray := prog_6_method_4_code
def yX4_isCommitted : MethodName := ⟨RX4, "isCommitted", "(I)Z"⟩
abbrev cX4_hasDealt : ByteArray := prog_6_method_5_code
def yX4_hasDealt : MethodName := ⟨RX4, "hasDealt", "(I)Z"⟩
abbrev cX4_hasShare : ByteArray := prog_6_method_6_code
def yX4_hasShare : MethodName := ⟨RX4, "hasShare", "(II)Z"⟩
abbrev cX4_canConspire : ByteArray := prog_6_method_7_code
def yX4_canConspire : MethodName := ⟨RX4, "canConspire", "(I)Z"⟩
abbrev cX4_admit : ByteArray := prog_6_method_8_code
def yX4_admit : MethodName := ⟨RX4, "admit", "(I)I"⟩
abbrev cX4_canStart : ByteArray := prog_6_method_9_code
def yX4_canStart : MethodName := ⟨RX4, "canStart", "()Z"⟩
abbrev cX4_ableToPay : ByteArray := prog_6_method_10_code
def yX4_ableToPay : MethodName := ⟨RX4, "ableToPay", "()I"⟩
abbrev cX4_start : ByteArray := prog_6_method_11_code
def yX4_start : MethodName := ⟨RX4, "start", "()V"⟩
abbrev cX4_digestOf : ByteArray := prog_6_method_12_code
def yX4_digestOf : MethodName := ⟨RX4, "digestOf", "(II)I"⟩
abbrev cX4_isTaken : ByteArray := prog_6_method_13_code
def yX4_isTaken : MethodName := ⟨RX4, "isTaken", "(I)Z"⟩
abbrev cX4_accept : ByteArray := prog_6_method_14_code
def yX4_accept : MethodName := ⟨RX4, "accept", "(III)V"⟩
abbrev cX4_payFine : ByteArray := prog_6_method_15_code
def yX4_payFine : MethodName := ⟨RX4, "payFine", "(I)V"⟩
abbrev cX4_expel : ByteArray := prog_6_method_16_code
def yX4_expel : MethodName := ⟨RX4, "expel", "(I)V"⟩
abbrev cX4_startOpening : ByteArray := prog_6_method_17_code
def yX4_startOpening : MethodName := ⟨RX4, "startOpening", "()I"⟩
abbrev cX4_finish : ByteArray := prog_6_method_18_code
def yX4_finish : MethodName := ⟨RX4, "finish", "()I"⟩
abbrev cX4_chargeOrCredit : ByteArray := prog_6_method_19_code
def yX4_chargeOrCredit : MethodName := ⟨RX4, "chargeOrCredit", "()V"⟩
abbrev cX4_sharePot : ByteArray := prog_6_method_20_code
def yX4_sharePot : MethodName := ⟨RX4, "sharePot", "(I)V"⟩
abbrev cX4_countedIf : ByteArray := prog_6_method_21_code
def yX4_countedIf : MethodName := ⟨RX4, "countedIf", "(I)I"⟩
abbrev cX4_canRecoverAll : ByteArray := prog_6_method_22_code
def yX4_canRecoverAll : MethodName := ⟨RX4, "canRecoverAll", "(I)Z"⟩
abbrev cX4_mixed : ByteArray := prog_6_method_23_code
def yX4_mixed : MethodName := ⟨RX4, "mixed", "([II)I"⟩
def RX5 : String := "OwnerlessCoin$Person"
def TX5 : u_T := fun k => match k with
  | 0 => ("OwnerlessCoin$Person", "balance", "I", false)
  | 1 => ("OwnerlessCoin$Person", "behavior", "I", false)
  | 2 => ("OwnerlessCoin$Person", "roundsOpened", "I", false)
  | 3 => ("OwnerlessCoin$Person", "roundsWithheld", "I", false)
  | 4 => ("OwnerlessCoin$Person", "roundsExpelled", "I", false)
  | 5 => ("OwnerlessCoin$Person", "nonce", "I", false)
  | 6 => ("OwnerlessCoin$Person", "digest", "I", false)
  | 7 => ("OwnerlessCoin$Person", "lockBase", "I", false)
  | 8 => ("OwnerlessCoin$Person", "lockNumber", "I", false)
  | 9 => ("OwnerlessCoin$Person", "rightHolders", "I", false)
  | 10 => ("OwnerlessCoin$Person", "shares", "[I", true)
  | _ => ("OwnerlessCoin$Person", "checks", "[I", true)
def tyX5 : Nat → FieldType := fun k => match k with
  | 0 => .int
  | 1 => .int
  | 2 => .int
  | 3 => .int
  | 4 => .int
  | 5 => .int
  | 6 => .int
  | 7 => .int
  | 8 => .int
  | 9 => .int
  | 10 => .array .int
  | _ => .array .int
abbrev wsX50 : List Cond := u_ws RX5 TX5 12
theorem nmX5 : ∀ a, a < 12 → ∀ b, b < 12 → a ≠ b → (TX5 a).2.1 ≠ (TX5 b).2.1 := by decide +kernel
theorem tyX5_ok : ∀ k, k < 12 → parseFieldDescriptor (TX5 k).2.2.1 = some (tyX5 k) := by decide +kernel
abbrev cX5_init : ByteArray := prog_7_method_1_code
def yX5_init : MethodName := ⟨RX5, "<init>", "()V"⟩
abbrev cX5_copy : ByteArray := prog_7_method_2_code
def yX5_copy : MethodName := ⟨RX5, "copy", "(LOwnerlessCoin$Person;)V"⟩
abbrev cX5_deal : ByteArray := prog_7_method_3_code
def yX5_deal : MethodName := ⟨RX5, "deal", "(II)V"⟩
abbrev cX5_putLock : ByteArray := prog_7_method_4_code
def yX5_putLock : MethodName := ⟨RX5, "putLock", "(II)V"⟩
abbrev cX5_changeShare : ByteArray := prog_7_method_5_code
def yX5_changeShare : MethodName := ⟨RX5, "changeShare", "(III)V"⟩
abbrev cX5_provenPower : ByteArray := prog_7_method_6_code
def yX5_provenPower : MethodName := ⟨RX5, "provenPower", "(II)I"⟩
abbrev cX5_valueAtZero : ByteArray := prog_7_method_7_code
def yX5_valueAtZero : MethodName := ⟨RX5, "valueAtZero", "(I)I"⟩
abbrev cX5_weight : ByteArray := prog_7_method_8_code
def yX5_weight : MethodName := ⟨RX5, "weight", "(II)I"⟩
def RX6 : String := "OwnerlessCoin$SlowWork"
def TX6 : u_T := fun k => match k with
  | _ => ("", "", "", false)
def tyX6 : Nat → FieldType := fun k => match k with
  | _ => .int
abbrev wsX60 : List Cond := u_ws RX6 TX6 0
theorem nmX6 : ∀ a, a < 0 → ∀ b, b < 0 → a ≠ b → (TX6 a).2.1 ≠ (TX6 b).2.1 := by decide +kernel
theorem tyX6_ok : ∀ k, k < 0 → parseFieldDescriptor (TX6 k).2.2.1 = some (tyX6 k) := by decide +kernel
abbrev cX6_value : ByteArray := prog_8_method_2_code
def yX6_value : MethodName := ⟨RX6, "value", "(II)I"⟩
abbrev cX6_valueByFactors : ByteArray := prog_8_method_3_code
def yX6_valueByFactors : MethodName := ⟨RX6, "valueByFactors", "(II)I"⟩
abbrev cX6_challenge : ByteArray := prog_8_method_4_code
def yX6_challenge : MethodName := ⟨RX6, "challenge", "(II)I"⟩
abbrev cX6_evidence : ByteArray := prog_8_method_5_code
def yX6_evidence : MethodName := ⟨RX6, "evidence", "(III)I"⟩
abbrev cX6_isProven : ByteArray := prog_8_method_6_code
def yX6_isProven : MethodName := ⟨RX6, "isProven", "(IIII)Z"⟩
abbrev cX6_leastPrime : ByteArray := prog_8_method_7_code
def yX6_leastPrime : MethodName := ⟨RX6, "leastPrime", "(I)I"⟩
abbrev cX6_isPrime : ByteArray := prog_8_method_8_code
def yX6_isPrime : MethodName := ⟨RX6, "isPrime", "(I)Z"⟩
def RX7 : String := "OwnerlessCoin"
def TX7 : u_T := fun k => match k with
  | 0 => ("OwnerlessCoin", "lab", "LOwnerlessCoin$Lab;", true)
  | 1 => ("OwnerlessCoin", "history", "LOwnerlessCoin$History;", true)
  | _ => ("OwnerlessCoin", "coalitions", "LOwnerlessCoin$Coalition;", true)
def tyX7 : Nat → FieldType := fun k => match k with
  | 0 => .object "OwnerlessCoin$Lab"
  | 1 => .object "OwnerlessCoin$History"
  | _ => .object "OwnerlessCoin$Coalition"
abbrev wsX70 : List Cond := u_ws RX7 TX7 3
theorem nmX7 : ∀ a, a < 3 → ∀ b, b < 3 → a ≠ b → (TX7 a).2.1 ≠ (TX7 b).2.1 := by decide +kernel
theorem tyX7_ok : ∀ k, k < 3 → parseFieldDescriptor (TX7 k).2.2.1 = some (tyX7 k) := by decide +kernel
abbrev cX7_init : ByteArray := prog_1_method_1_code
def yX7_init : MethodName := ⟨RX7, "<init>", "()V"⟩
abbrev cX7_addParticipant : ByteArray := prog_1_method_2_code
def yX7_addParticipant : MethodName := ⟨RX7, "addParticipant", "(I)I"⟩
abbrev cX7_behave : ByteArray := prog_1_method_3_code
def yX7_behave : MethodName := ⟨RX7, "behave", "(II)I"⟩
abbrev cX7_setMethod : ByteArray := prog_1_method_4_code
def yX7_setMethod : MethodName := ⟨RX7, "setMethod", "(I)I"⟩
abbrev cX7_setThreshold : ByteArray := prog_1_method_5_code
def yX7_setThreshold : MethodName := ⟨RX7, "setThreshold", "(I)I"⟩
abbrev cX7_setFine : ByteArray := prog_1_method_6_code
def yX7_setFine : MethodName := ⟨RX7, "setFine", "(I)I"⟩
abbrev cX7_setDelay : ByteArray := prog_1_method_7_code
def yX7_setDelay : MethodName := ⟨RX7, "setDelay", "(I)I"⟩
abbrev cX7_settingError : ByteArray := prog_1_method_8_code
def yX7_settingError : MethodName := ⟨RX7, "settingError", "(III)I"⟩
abbrev cX7_begin : ByteArray := prog_1_method_9_code
def yX7_begin : MethodName := ⟨RX7, "begin", "()I"⟩
abbrev cX7_commit : ByteArray := prog_1_method_10_code
def yX7_commit : MethodName := ⟨RX7, "commit", "(III)I"⟩
abbrev cX7_spoil : ByteArray := prog_1_method_11_code
def yX7_spoil : MethodName := ⟨RX7, "spoil", "(III)I"⟩
abbrev cX7_complain : ByteArray := prog_1_method_12_code
def yX7_complain : MethodName := ⟨RX7, "complain", "(II)I"⟩
abbrev cX7_beginOpening : ByteArray := prog_1_method_13_code
def yX7_beginOpening : MethodName := ⟨RX7, "beginOpening", "()I"⟩
abbrev cX7_open : ByteArray := prog_1_method_14_code
def yX7_open : MethodName := ⟨RX7, "open", "(III)I"⟩
abbrev cX7_close : ByteArray := prog_1_method_15_code
def yX7_close : MethodName := ⟨RX7, "close", "()I"⟩
abbrev cX7_play : ByteArray := prog_1_method_16_code
def yX7_play : MethodName := ⟨RX7, "play", "(I)I"⟩
abbrev cX7_phase : ByteArray := prog_1_method_17_code
def yX7_phase : MethodName := ⟨RX7, "phase", "()I"⟩
abbrev cX7_set : ByteArray := prog_1_method_18_code
def yX7_set : MethodName := ⟨RX7, "set", "(I)I"⟩
abbrev cX7_digest : ByteArray := prog_1_method_19_code
def yX7_digest : MethodName := ⟨RX7, "digest", "(I)I"⟩
abbrev cX7_share : ByteArray := prog_1_method_20_code
def yX7_share : MethodName := ⟨RX7, "share", "(II)I"⟩
abbrev cX7_isRight : ByteArray := prog_1_method_21_code
def yX7_isRight : MethodName := ⟨RX7, "isRight", "(II)I"⟩
abbrev cX7_check : ByteArray := prog_1_method_22_code
def yX7_check : MethodName := ⟨RX7, "check", "(II)I"⟩
abbrev cX7_recover : ByteArray := prog_1_method_23_code
def yX7_recover : MethodName := ⟨RX7, "recover", "(II)I"⟩
abbrev cX7_lock : ByteArray := prog_1_method_24_code
def yX7_lock : MethodName := ⟨RX7, "lock", "(II)I"⟩
abbrev cX7_results : ByteArray := prog_1_method_25_code
def yX7_results : MethodName := ⟨RX7, "results", "(I)I"⟩
abbrev cX7_canForce : ByteArray := prog_1_method_26_code
def yX7_canForce : MethodName := ⟨RX7, "canForce", "(II)I"⟩
abbrev cX7_bias : ByteArray := prog_1_method_27_code
def yX7_bias : MethodName := ⟨RX7, "bias", "(II)I"⟩
abbrev cX7_slow : ByteArray := prog_1_method_28_code
def yX7_slow : MethodName := ⟨RX7, "slow", "(II)I"⟩
abbrev cX7_quick : ByteArray := prog_1_method_29_code
def yX7_quick : MethodName := ⟨RX7, "quick", "(II)I"⟩
abbrev cX7_prime : ByteArray := prog_1_method_30_code
def yX7_prime : MethodName := ⟨RX7, "prime", "(II)I"⟩
abbrev cX7_proof : ByteArray := prog_1_method_31_code
def yX7_proof : MethodName := ⟨RX7, "proof", "(II)I"⟩
abbrev cX7_accepts : ByteArray := prog_1_method_32_code
def yX7_accepts : MethodName := ⟨RX7, "accepts", "(IIII)I"⟩
abbrev cX7_account : ByteArray := prog_1_method_33_code
def yX7_account : MethodName := ⟨RX7, "account", "(II)I"⟩
abbrev cX7_pot : ByteArray := prog_1_method_34_code
def yX7_pot : MethodName := ⟨RX7, "pot", "()I"⟩
abbrev cX7_rounds : ByteArray := prog_1_method_35_code
def yX7_rounds : MethodName := ⟨RX7, "rounds", "()I"⟩
abbrev cX7_past : ByteArray := prog_1_method_36_code
def yX7_past : MethodName := ⟨RX7, "past", "(II)I"⟩
abbrev cX7_output : ByteArray := prog_1_method_37_code
def yX7_output : MethodName := ⟨RX7, "output", "(I)I"⟩
abbrev cX7_coins : ByteArray := prog_1_method_38_code
def yX7_coins : MethodName := ⟨RX7, "coins", "(I)I"⟩
abbrev cX7_longestRun : ByteArray := prog_1_method_39_code
def yX7_longestRun : MethodName := ⟨RX7, "longestRun", "()I"⟩
abbrev cX7_undo : ByteArray := prog_1_method_40_code
def yX7_undo : MethodName := ⟨RX7, "undo", "()I"⟩
abbrev cX7_fingerprint : ByteArray := prog_1_method_41_code
def yX7_fingerprint : MethodName := ⟨RX7, "fingerprint", "()J"⟩
abbrev cX7_isWithin : ByteArray := prog_1_method_42_code
def yX7_isWithin : MethodName := ⟨RX7, "isWithin", "(III)Z"⟩
abbrev cX7_isSlowTask : ByteArray := prog_1_method_43_code
def yX7_isSlowTask : MethodName := ⟨RX7, "isSlowTask", "(II)Z"⟩
abbrev cX7_has : ByteArray := prog_1_method_44_code
def yX7_has : MethodName := ⟨RX7, "has", "(II)Z"⟩
abbrev cX7_smallest : ByteArray := prog_1_method_45_code
def yX7_smallest : MethodName := ⟨RX7, "smallest", "(II)I"⟩
abbrev cX7_mix : ByteArray := prog_1_method_46_code
def yX7_mix : MethodName := ⟨RX7, "mix", "(II)I"⟩
abbrev cX7_stepped : ByteArray := prog_1_method_47_code
def yX7_stepped : MethodName := ⟨RX7, "stepped", "(I)I"⟩
abbrev cX7_drawn : ByteArray := prog_1_method_48_code
def yX7_drawn : MethodName := ⟨RX7, "drawn", "(I)I"⟩
abbrev cX7_product : ByteArray := prog_1_method_49_code
def yX7_product : MethodName := ⟨RX7, "product", "(III)I"⟩
abbrev cX7_power : ByteArray := prog_1_method_50_code
def yX7_power : MethodName := ⟨RX7, "power", "(III)I"⟩
def RX8 : String := "OwnerlessCoinModel"
def TX8 : u_T := fun k => match k with
  | 0 => ("OwnerlessCoinModel", "v", "[I", true)
  | 1 => ("OwnerlessCoinModel", "past", "[I", true)
  | 2 => ("OwnerlessCoinModel", "pastMany", "I", false)
  | 3 => ("OwnerlessCoinModel", "tried", "[I", true)
  | 4 => ("OwnerlessCoinModel", "fails", "Z", false)
  | 5 => ("OwnerlessCoinModel", "drawn", "I", false)
  | _ => ("OwnerlessCoinModel", "outputs", "[I", true)
def tyX8 : Nat → FieldType := fun k => match k with
  | 0 => .array .int
  | 1 => .array .int
  | 2 => .int
  | 3 => .array .int
  | 4 => .boolean
  | 5 => .int
  | _ => .array .int
abbrev wsX80 : List Cond := u_ws RX8 TX8 7
theorem nmX8 : ∀ a, a < 7 → ∀ b, b < 7 → a ≠ b → (TX8 a).2.1 ≠ (TX8 b).2.1 := by decide +kernel
theorem tyX8_ok : ∀ k, k < 7 → parseFieldDescriptor (TX8 k).2.2.1 = some (tyX8 k) := by decide +kernel
abbrev cX8_init : ByteArray := prog_10_method_1_code
def yX8_init : MethodName := ⟨RX8, "<init>", "()V"⟩
abbrev cX8_in : ByteArray := prog_10_method_3_code
def yX8_in : MethodName := ⟨RX8, "in", "(III)Z"⟩
abbrev cX8_act : ByteArray := prog_10_method_4_code
def yX8_act : MethodName := ⟨RX8, "act", "()V"⟩
abbrev cX8_mix : ByteArray := prog_10_method_5_code
def yX8_mix : MethodName := ⟨RX8, "mix", "(II)I"⟩
abbrev cX8_draw : ByteArray := prog_10_method_6_code
def yX8_draw : MethodName := ⟨RX8, "draw", "()I"⟩
abbrev cX8_person : ByteArray := prog_10_method_7_code
def yX8_person : MethodName := ⟨RX8, "person", "(I)I"⟩
abbrev cX8_isPerson : ByteArray := prog_10_method_8_code
def yX8_isPerson : MethodName := ⟨RX8, "isPerson", "(I)Z"⟩
abbrev cX8_has : ByteArray := prog_10_method_9_code
def yX8_has : MethodName := ⟨RX8, "has", "(II)Z"⟩
abbrev cX8_isMember : ByteArray := prog_10_method_10_code
def yX8_isMember : MethodName := ⟨RX8, "isMember", "(I)Z"⟩
abbrev cX8_setOf : ByteArray := prog_10_method_11_code
def yX8_setOf : MethodName := ⟨RX8, "setOf", "(I)I"⟩
abbrev cX8_countOf : ByteArray := prog_10_method_12_code
def yX8_countOf : MethodName := ⟨RX8, "countOf", "(I)I"⟩
abbrev cX8_pays : ByteArray := prog_10_method_13_code
def yX8_pays : MethodName := ⟨RX8, "pays", "(I)V"⟩
abbrev cX8_addParticipant : ByteArray := prog_10_method_14_code
def yX8_addParticipant : MethodName := ⟨RX8, "addParticipant", "(I)I"⟩
abbrev cX8_sets : ByteArray := prog_10_method_15_code
def yX8_sets : MethodName := ⟨RX8, "sets", "(II)I"⟩
abbrev cX8_behave : ByteArray := prog_10_method_16_code
def yX8_behave : MethodName := ⟨RX8, "behave", "(II)I"⟩
abbrev cX8_settles : ByteArray := prog_10_method_17_code
def yX8_settles : MethodName := ⟨RX8, "settles", "(IIII)I"⟩
abbrev cX8_setMethod : ByteArray := prog_10_method_18_code
def yX8_setMethod : MethodName := ⟨RX8, "setMethod", "(I)I"⟩
abbrev cX8_setThreshold : ByteArray := prog_10_method_19_code
def yX8_setThreshold : MethodName := ⟨RX8, "setThreshold", "(I)I"⟩
abbrev cX8_setFine : ByteArray := prog_10_method_20_code
def yX8_setFine : MethodName := ⟨RX8, "setFine", "(I)I"⟩
abbrev cX8_setDelay : ByteArray := prog_10_method_21_code
def yX8_setDelay : MethodName := ⟨RX8, "setDelay", "(I)I"⟩
abbrev cX8_mayBegin : ByteArray := prog_10_method_22_code
def yX8_mayBegin : MethodName := ⟨RX8, "mayBegin", "()Z"⟩
abbrev cX8_begins : ByteArray := prog_10_method_23_code
def yX8_begins : MethodName := ⟨RX8, "begins", "()V"⟩
abbrev cX8_begin : ByteArray := prog_10_method_24_code
def yX8_begin : MethodName := ⟨RX8, "begin", "()I"⟩
abbrev cX8_digestOf : ByteArray := prog_10_method_25_code
def yX8_digestOf : MethodName := ⟨RX8, "digestOf", "(II)I"⟩
abbrev cX8_isCopy : ByteArray := prog_10_method_26_code
def yX8_isCopy : MethodName := ⟨RX8, "isCopy", "(II)Z"⟩
abbrev cX8_valueAt : ByteArray := prog_10_method_27_code
def yX8_valueAt : MethodName := ⟨RX8, "valueAt", "(II)I"⟩
abbrev cX8_deals : ByteArray := prog_10_method_28_code
def yX8_deals : MethodName := ⟨RX8, "deals", "(I)V"⟩
abbrev cX8_commits : ByteArray := prog_10_method_29_code
def yX8_commits : MethodName := ⟨RX8, "commits", "(III)V"⟩
abbrev cX8_commit : ByteArray := prog_10_method_30_code
def yX8_commit : MethodName := ⟨RX8, "commit", "(III)I"⟩
abbrev cX8_hasShares : ByteArray := prog_10_method_31_code
def yX8_hasShares : MethodName := ⟨RX8, "hasShares", "(I)Z"⟩
abbrev cX8_hasShare : ByteArray := prog_10_method_32_code
def yX8_hasShare : MethodName := ⟨RX8, "hasShare", "(II)Z"⟩
abbrev cX8_shareOf : ByteArray := prog_10_method_33_code
def yX8_shareOf : MethodName := ⟨RX8, "shareOf", "(II)I"⟩
abbrev cX8_isGood : ByteArray := prog_10_method_34_code
def yX8_isGood : MethodName := ⟨RX8, "isGood", "(II)Z"⟩
abbrev cX8_spoils : ByteArray := prog_10_method_35_code
def yX8_spoils : MethodName := ⟨RX8, "spoils", "(III)V"⟩
abbrev cX8_spoil : ByteArray := prog_10_method_36_code
def yX8_spoil : MethodName := ⟨RX8, "spoil", "(III)I"⟩
abbrev cX8_complains : ByteArray := prog_10_method_37_code
def yX8_complains : MethodName := ⟨RX8, "complains", "(II)I"⟩
abbrev cX8_complain : ByteArray := prog_10_method_38_code
def yX8_complain : MethodName := ⟨RX8, "complain", "(II)I"⟩
abbrev cX8_ends : ByteArray := prog_10_method_39_code
def yX8_ends : MethodName := ⟨RX8, "ends", "(IIII)V"⟩
abbrev cX8_opensUp : ByteArray := prog_10_method_40_code
def yX8_opensUp : MethodName := ⟨RX8, "opensUp", "()I"⟩
abbrev cX8_beginOpening : ByteArray := prog_10_method_41_code
def yX8_beginOpening : MethodName := ⟨RX8, "beginOpening", "()I"⟩
abbrev cX8_open : ByteArray := prog_10_method_42_code
def yX8_open : MethodName := ⟨RX8, "open", "(III)I"⟩
abbrev cX8_takesSecrets : ByteArray := prog_10_method_43_code
def yX8_takesSecrets : MethodName := ⟨RX8, "takesSecrets", "()V"⟩
abbrev cX8_rightOnes : ByteArray := prog_10_method_44_code
def yX8_rightOnes : MethodName := ⟨RX8, "rightOnes", "(II)I"⟩
abbrev cX8_outputOf : ByteArray := prog_10_method_45_code
def yX8_outputOf : MethodName := ⟨RX8, "outputOf", "(I)I"⟩
abbrev cX8_coinOf : ByteArray := prog_10_method_46_code
def yX8_coinOf : MethodName := ⟨RX8, "coinOf", "(I)I"⟩
abbrev cX8_closes : ByteArray := prog_10_method_47_code
def yX8_closes : MethodName := ⟨RX8, "closes", "()I"⟩
abbrev cX8_close : ByteArray := prog_10_method_48_code
def yX8_close : MethodName := ⟨RX8, "close", "()I"⟩
abbrev cX8_nextMember : ByteArray := prog_10_method_49_code
def yX8_nextMember : MethodName := ⟨RX8, "nextMember", "(I)I"⟩
abbrev cX8_plays : ByteArray := prog_10_method_50_code
def yX8_plays : MethodName := ⟨RX8, "plays", "(I)V"⟩
abbrev cX8_cheats : ByteArray := prog_10_method_51_code
def yX8_cheats : MethodName := ⟨RX8, "cheats", "()V"⟩
abbrev cX8_decides : ByteArray := prog_10_method_52_code
def yX8_decides : MethodName := ⟨RX8, "decides", "()V"⟩
abbrev cX8_play : ByteArray := prog_10_method_53_code
def yX8_play : MethodName := ⟨RX8, "play", "(I)I"⟩
abbrev cX8_phase : ByteArray := prog_10_method_54_code
def yX8_phase : MethodName := ⟨RX8, "phase", "()I"⟩
abbrev cX8_setNumber : ByteArray := prog_10_method_55_code
def yX8_setNumber : MethodName := ⟨RX8, "setNumber", "(I)I"⟩
abbrev cX8_set : ByteArray := prog_10_method_56_code
def yX8_set : MethodName := ⟨RX8, "set", "(I)I"⟩
abbrev cX8_isIn : ByteArray := prog_10_method_57_code
def yX8_isIn : MethodName := ⟨RX8, "isIn", "(I)Z"⟩
abbrev cX8_digest : ByteArray := prog_10_method_58_code
def yX8_digest : MethodName := ⟨RX8, "digest", "(I)I"⟩
abbrev cX8_share : ByteArray := prog_10_method_59_code
def yX8_share : MethodName := ⟨RX8, "share", "(II)I"⟩
abbrev cX8_isRight : ByteArray := prog_10_method_60_code
def yX8_isRight : MethodName := ⟨RX8, "isRight", "(II)I"⟩
abbrev cX8_check : ByteArray := prog_10_method_61_code
def yX8_check : MethodName := ⟨RX8, "check", "(II)I"⟩
abbrev cX8_inverse : ByteArray := prog_10_method_62_code
def yX8_inverse : MethodName := ⟨RX8, "inverse", "(I)I"⟩
abbrev cX8_recover : ByteArray := prog_10_method_63_code
def yX8_recover : MethodName := ⟨RX8, "recover", "(II)I"⟩
abbrev cX8_lock : ByteArray := prog_10_method_64_code
def yX8_lock : MethodName := ⟨RX8, "lock", "(II)I"⟩
abbrev cX8_mayJoin : ByteArray := prog_10_method_65_code
def yX8_mayJoin : MethodName := ⟨RX8, "mayJoin", "(I)Z"⟩
abbrev cX8_results : ByteArray := prog_10_method_66_code
def yX8_results : MethodName := ⟨RX8, "results", "(I)I"⟩
abbrev cX8_forces : ByteArray := prog_10_method_67_code
def yX8_forces : MethodName := ⟨RX8, "forces", "(II)Z"⟩
abbrev cX8_canForce : ByteArray := prog_10_method_68_code
def yX8_canForce : MethodName := ⟨RX8, "canForce", "(II)I"⟩
abbrev cX8_bias : ByteArray := prog_10_method_69_code
def yX8_bias : MethodName := ⟨RX8, "bias", "(II)I"⟩
abbrev cX8_squares : ByteArray := prog_10_method_70_code
def yX8_squares : MethodName := ⟨RX8, "squares", "(II)J"⟩
abbrev cX8_power : ByteArray := prog_10_method_71_code
def yX8_power : MethodName := ⟨RX8, "power", "(JJJ)J"⟩
abbrev cX8_isPrime : ByteArray := prog_10_method_72_code
def yX8_isPrime : MethodName := ⟨RX8, "isPrime", "(I)Z"⟩
abbrev cX8_primeFor : ByteArray := prog_10_method_73_code
def yX8_primeFor : MethodName := ⟨RX8, "primeFor", "(II)I"⟩
abbrev cX8_isSlow : ByteArray := prog_10_method_74_code
def yX8_isSlow : MethodName := ⟨RX8, "isSlow", "(II)Z"⟩
abbrev cX8_slow : ByteArray := prog_10_method_75_code
def yX8_slow : MethodName := ⟨RX8, "slow", "(II)I"⟩
abbrev cX8_quick : ByteArray := prog_10_method_76_code
def yX8_quick : MethodName := ⟨RX8, "quick", "(II)I"⟩
abbrev cX8_prime : ByteArray := prog_10_method_77_code
def yX8_prime : MethodName := ⟨RX8, "prime", "(II)I"⟩
abbrev cX8_proof : ByteArray := prog_10_method_78_code
def yX8_proof : MethodName := ⟨RX8, "proof", "(II)I"⟩
abbrev cX8_accepts : ByteArray := prog_10_method_79_code
def yX8_accepts : MethodName := ⟨RX8, "accepts", "(IIII)I"⟩
abbrev cX8_account : ByteArray := prog_10_method_80_code
def yX8_account : MethodName := ⟨RX8, "account", "(II)I"⟩
abbrev cX8_pot : ByteArray := prog_10_method_81_code
def yX8_pot : MethodName := ⟨RX8, "pot", "()I"⟩
abbrev cX8_rounds : ByteArray := prog_10_method_82_code
def yX8_rounds : MethodName := ⟨RX8, "rounds", "()I"⟩
abbrev cX8_isKept : ByteArray := prog_10_method_83_code
def yX8_isKept : MethodName := ⟨RX8, "isKept", "(I)Z"⟩
abbrev cX8_ofRound : ByteArray := prog_10_method_84_code
def yX8_ofRound : MethodName := ⟨RX8, "ofRound", "(II)I"⟩
abbrev cX8_past : ByteArray := prog_10_method_85_code
def yX8_past : MethodName := ⟨RX8, "past", "(II)I"⟩
abbrev cX8_output : ByteArray := prog_10_method_86_code
def yX8_output : MethodName := ⟨RX8, "output", "(I)I"⟩
abbrev cX8_coins : ByteArray := prog_10_method_87_code
def yX8_coins : MethodName := ⟨RX8, "coins", "(I)I"⟩
abbrev cX8_longestRun : ByteArray := prog_10_method_88_code
def yX8_longestRun : MethodName := ⟨RX8, "longestRun", "()I"⟩
abbrev cX8_undo : ByteArray := prog_10_method_89_code
def yX8_undo : MethodName := ⟨RX8, "undo", "()I"⟩
abbrev cX8_fingerprint : ByteArray := prog_10_method_90_code
def yX8_fingerprint : MethodName := ⟨RX8, "fingerprint", "()J"⟩
def RJ6 : String := "java/lang/Integer"
def TJ6 : u_T := fun k => match k with
  | _ => ("", "", "", false)
def tyJ6 : Nat → FieldType := fun k => match k with
  | _ => .int
abbrev wsJ60 : List Cond := u_ws RJ6 TJ6 0
theorem nmJ6 : ∀ a, a < 0 → ∀ b, b < 0 → a ≠ b → (TJ6 a).2.1 ≠ (TJ6 b).2.1 := by decide +kernel
theorem tyJ6_ok : ∀ k, k < 0 → parseFieldDescriptor (TJ6 k).2.2.1 = some (tyJ6 k) := by decide +kernel
abbrev cJ6_bitCount_0f7a4 : ByteArray := prog_11_method_49_code
def yJ6_bitCount_0f7a4 : MethodName := ⟨RJ6, "bitCount", "(I)I"⟩
def RJ9 : String := "java/lang/Math"
def TJ9 : u_T := fun k => match k with
  | _ => ("", "", "", false)
def tyJ9 : Nat → FieldType := fun k => match k with
  | _ => .int
abbrev wsJ90 : List Cond := u_ws RJ9 TJ9 0
theorem nmJ9 : ∀ a, a < 0 → ∀ b, b < 0 → a ≠ b → (TJ9 a).2.1 ≠ (TJ9 b).2.1 := by decide +kernel
theorem tyJ9_ok : ∀ k, k < 0 → parseFieldDescriptor (TJ9 k).2.2.1 = some (tyJ9 k) := by decide +kernel
abbrev cJ9_max_7cf53 : ByteArray := prog_12_method_65_code
def yJ9_max_7cf53 : MethodName := ⟨RJ9, "max", "(II)I"⟩
abbrev cJ9_min_7cf53 : ByteArray := prog_12_method_69_code
def yJ9_min_7cf53 : MethodName := ⟨RJ9, "min", "(II)I"⟩
def RJ10 : String := "java/lang/System"
def TJ10 : u_T := fun k => match k with
  | _ => ("", "", "", false)
def tyJ10 : Nat → FieldType := fun k => match k with
  | _ => .int
abbrev wsJ100 : List Cond := u_ws RJ10 TJ10 0
theorem nmJ10 : ∀ a, a < 0 → ∀ b, b < 0 → a ≠ b → (TJ10 a).2.1 ≠ (TJ10 b).2.1 := by decide +kernel
theorem tyJ10_ok : ∀ k, k < 0 → parseFieldDescriptor (TJ10 k).2.2.1 = some (tyJ10 k) := by decide +kernel
def RL : String := "OwnerlessCoinLaw"
abbrev cL_law : ByteArray := code
def yL_law : MethodName := ⟨RL, "law", "([I)Z"⟩
abbrev vwCl : List vw_C := [(RX0, TX0, 8), (RX1, TX1, 5), (RX3, TX3, 2), (RX4, TX4, 14), (RX5, TX5, 12), (RX7, TX7, 3), (RX8, TX8, 7)]
end
section
def tw : List Cond := lw_tbl.filter goodWord
theorem tw_of {w : Cond} (h : w ∈ lw_tbl) (g : goodWord w = true) : w ∈ tw := List.mem_filter.mpr ⟨h, g⟩
theorem tw_at (i : Nat) {w : Cond} (h : lw_tbl[i]? = some w) (g : goodWord w = true) : w ∈ tw := tw_of (List.mem_of_getElem? h) g
theorem q0 : Cond.selects RX3 yX3_dropOldest yX3_dropOldest ∈ tw := tw_at 0 (by decide +kernel) (by decide +kernel)
theorem q1 : Cond.selects RX7 yX7_settingError yX7_settingError ∈ tw := tw_at 1 (by decide +kernel) (by decide +kernel)
theorem q2 : Cond.selects RX4 yX4_ableToPay yX4_ableToPay ∈ tw := tw_at 2 (by decide +kernel) (by decide +kernel)
theorem q3 : Cond.selects RX5 yX5_provenPower yX5_provenPower ∈ tw := tw_at 3 (by decide +kernel) (by decide +kernel)
theorem q4 : Cond.selects RX0 yX0_put yX0_put ∈ tw := tw_at 4 (by decide +kernel) (by decide +kernel)
theorem q5 : Cond.selects RX4 yX4_canRecoverAll yX4_canRecoverAll ∈ tw := tw_at 5 (by decide +kernel) (by decide +kernel)
theorem q6 : Cond.selects RX4 yX4_chargeOrCredit yX4_chargeOrCredit ∈ tw := tw_at 6 (by decide +kernel) (by decide +kernel)
theorem q7 : Cond.selects RX4 yX4_sharePot yX4_sharePot ∈ tw := tw_at 7 (by decide +kernel) (by decide +kernel)
theorem q8 : Cond.selects RX1 yX1_add yX1_add ∈ tw := tw_at 8 (by decide +kernel) (by decide +kernel)
theorem q9 : Cond.selects RX1 yX1_isNew yX1_isNew ∈ tw := tw_at 9 (by decide +kernel) (by decide +kernel)
theorem q10 : Cond.selects RX1 yX1_spread yX1_spread ∈ tw := tw_at 10 (by decide +kernel) (by decide +kernel)
theorem q11 : Cond.selects RX8 yX8_act yX8_act ∈ tw := tw_at 11 (by decide +kernel) (by decide +kernel)
theorem q12 : Cond.selects RX8 yX8_isPerson yX8_isPerson ∈ tw := tw_at 12 (by decide +kernel) (by decide +kernel)
theorem q13 : Cond.selects RX8 yX8_sets yX8_sets ∈ tw := tw_at 13 (by decide +kernel) (by decide +kernel)
theorem q14 : Cond.selects RX8 yX8_settles yX8_settles ∈ tw := tw_at 14 (by decide +kernel) (by decide +kernel)
theorem q15 : Cond.selects RX8 yX8_mayBegin yX8_mayBegin ∈ tw := tw_at 15 (by decide +kernel) (by decide +kernel)
theorem q16 : Cond.selects RX8 yX8_begins yX8_begins ∈ tw := tw_at 16 (by decide +kernel) (by decide +kernel)
theorem q17 : Cond.selects RX8 yX8_has yX8_has ∈ tw := tw_at 17 (by decide +kernel) (by decide +kernel)
theorem q18 : Cond.selects RX8 yX8_digestOf yX8_digestOf ∈ tw := tw_at 18 (by decide +kernel) (by decide +kernel)
theorem q19 : Cond.selects RX8 yX8_isCopy yX8_isCopy ∈ tw := tw_at 19 (by decide +kernel) (by decide +kernel)
theorem q20 : Cond.selects RX8 yX8_commits yX8_commits ∈ tw := tw_at 20 (by decide +kernel) (by decide +kernel)
theorem q21 : Cond.selects RX8 yX8_deals yX8_deals ∈ tw := tw_at 21 (by decide +kernel) (by decide +kernel)
theorem q22 : Cond.selects RX8 yX8_draw yX8_draw ∈ tw := tw_at 22 (by decide +kernel) (by decide +kernel)
theorem q23 : Cond.selects RX8 yX8_valueAt yX8_valueAt ∈ tw := tw_at 23 (by decide +kernel) (by decide +kernel)
theorem q24 : Cond.selects RX8 yX8_hasShare yX8_hasShare ∈ tw := tw_at 24 (by decide +kernel) (by decide +kernel)
theorem q25 : Cond.selects RX8 yX8_hasShares yX8_hasShares ∈ tw := tw_at 25 (by decide +kernel) (by decide +kernel)
theorem q26 : Cond.selects RX8 yX8_isMember yX8_isMember ∈ tw := tw_at 26 (by decide +kernel) (by decide +kernel)
theorem q27 : Cond.selects RX8 yX8_spoils yX8_spoils ∈ tw := tw_at 27 (by decide +kernel) (by decide +kernel)
theorem q28 : Cond.selects RX8 yX8_shareOf yX8_shareOf ∈ tw := tw_at 28 (by decide +kernel) (by decide +kernel)
theorem q29 : Cond.selects RX8 yX8_complains yX8_complains ∈ tw := tw_at 29 (by decide +kernel) (by decide +kernel)
theorem q30 : Cond.selects RX8 yX8_isGood yX8_isGood ∈ tw := tw_at 30 (by decide +kernel) (by decide +kernel)
theorem q31 : Cond.selects RX8 yX8_pays yX8_pays ∈ tw := tw_at 31 (by decide +kernel) (by decide +kernel)
theorem q32 : Cond.selects RX8 yX8_opensUp yX8_opensUp ∈ tw := tw_at 32 (by decide +kernel) (by decide +kernel)
theorem q33 : Cond.selects RX8 yX8_setOf yX8_setOf ∈ tw := tw_at 33 (by decide +kernel) (by decide +kernel)
theorem q34 : Cond.selects RX8 yX8_ends yX8_ends ∈ tw := tw_at 34 (by decide +kernel) (by decide +kernel)
theorem q35 : Cond.selects RX8 yX8_closes yX8_closes ∈ tw := tw_at 35 (by decide +kernel) (by decide +kernel)
theorem q36 : Cond.selects RX8 yX8_takesSecrets yX8_takesSecrets ∈ tw := tw_at 36 (by decide +kernel) (by decide +kernel)
theorem q37 : Cond.selects RX8 yX8_outputOf yX8_outputOf ∈ tw := tw_at 37 (by decide +kernel) (by decide +kernel)
theorem q38 : Cond.selects RX8 yX8_rightOnes yX8_rightOnes ∈ tw := tw_at 38 (by decide +kernel) (by decide +kernel)
theorem q39 : Cond.selects RX8 yX8_plays yX8_plays ∈ tw := tw_at 39 (by decide +kernel) (by decide +kernel)
theorem q40 : Cond.selects RX8 yX8_cheats yX8_cheats ∈ tw := tw_at 40 (by decide +kernel) (by decide +kernel)
theorem q41 : Cond.selects RX8 yX8_nextMember yX8_nextMember ∈ tw := tw_at 41 (by decide +kernel) (by decide +kernel)
theorem q42 : Cond.selects RX8 yX8_decides yX8_decides ∈ tw := tw_at 42 (by decide +kernel) (by decide +kernel)
theorem q43 : Cond.selects RX8 yX8_coinOf yX8_coinOf ∈ tw := tw_at 43 (by decide +kernel) (by decide +kernel)
theorem q44 : Cond.selects RX8 yX8_setNumber yX8_setNumber ∈ tw := tw_at 44 (by decide +kernel) (by decide +kernel)
theorem q45 : Cond.selects RX8 yX8_isIn yX8_isIn ∈ tw := tw_at 45 (by decide +kernel) (by decide +kernel)
theorem q46 : Cond.selects RX8 yX8_mayJoin yX8_mayJoin ∈ tw := tw_at 46 (by decide +kernel) (by decide +kernel)
theorem q47 : Cond.selects RX8 yX8_forces yX8_forces ∈ tw := tw_at 47 (by decide +kernel) (by decide +kernel)
theorem q48 : Cond.selects RX8 yX8_isKept yX8_isKept ∈ tw := tw_at 48 (by decide +kernel) (by decide +kernel)
theorem q49 : Cond.selects RX8 yX8_ofRound yX8_ofRound ∈ tw := tw_at 49 (by decide +kernel) (by decide +kernel)
theorem q50 : Cond.initialized RL ∈ tw := tw_at 50 (by decide +kernel) (by decide +kernel)
theorem q51 : Cond.initialized RX7 ∈ tw := tw_at 51 (by decide +kernel) (by decide +kernel)
theorem q52 : Cond.initialized RX4 ∈ tw := tw_at 52 (by decide +kernel) (by decide +kernel)
theorem q53 : Cond.initialized RX0 ∈ tw := tw_at 53 (by decide +kernel) (by decide +kernel)
theorem q54 : Cond.initialized RX5 ∈ tw := tw_at 54 (by decide +kernel) (by decide +kernel)
theorem q55 : Cond.initialized RX3 ∈ tw := tw_at 55 (by decide +kernel) (by decide +kernel)
theorem q56 : Cond.initialized RX1 ∈ tw := tw_at 56 (by decide +kernel) (by decide +kernel)
theorem q57 : Cond.initialized RX8 ∈ tw := tw_at 57 (by decide +kernel) (by decide +kernel)
theorem q58 : Cond.initialized RJ10 ∈ tw := tw_at 58 (by decide +kernel) (by decide +kernel)
theorem q59 : Cond.initialized RJ6 ∈ tw := tw_at 59 (by decide +kernel) (by decide +kernel)
theorem q60 : Cond.initialized RX6 ∈ tw := tw_at 60 (by decide +kernel) (by decide +kernel)
theorem q61 : Cond.initialized RJ9 ∈ tw := tw_at 61 (by decide +kernel) (by decide +kernel)
theorem q62 : Cond.initialized RX2 ∈ tw := tw_at 62 (by decide +kernel) (by decide +kernel)
theorem q63 : Cond.classLink RL 7 RX7 ∈ tw := tw_at 63 (by decide +kernel) (by decide +kernel)
theorem q64 : Cond.instantiable RX7 3 ∈ tw := tw_at 64 (by decide +kernel) (by decide +kernel)
theorem q65 : Cond.methodLink RL 9 yX7_init ∈ tw := tw_at 65 (by decide +kernel) (by decide +kernel)
theorem q66 : Cond.instanceMethod yX7_init ∈ tw := tw_at 66 (by decide +kernel) (by decide +kernel)
theorem q67 : Cond.code yX7_init cX7_init 1 none ∈ tw := tw_at 67 (by decide +kernel) (by decide +kernel)
theorem q68 : Cond.methodLink RX7 3 objectInit ∈ tw := tw_at 68 (by decide +kernel) (by decide +kernel)
theorem q69 : Cond.instanceMethod objectInit ∈ tw := tw_at 69 (by decide +kernel) (by decide +kernel)
theorem q70 : Cond.code objectInit ⟨#[0xb1]⟩ 1 none ∈ tw := tw_at 70 (by decide +kernel) (by decide +kernel)
theorem q71 : Cond.classLink RX7 9 RX4 ∈ tw := tw_at 71 (by decide +kernel) (by decide +kernel)
theorem q72 : Cond.instantiable RX4 14 ∈ tw := tw_at 72 (by decide +kernel) (by decide +kernel)
theorem q73 : Cond.methodLink RX7 11 yX4_init ∈ tw := tw_at 73 (by decide +kernel) (by decide +kernel)
theorem q74 : Cond.instanceMethod yX4_init ∈ tw := tw_at 74 (by decide +kernel) (by decide +kernel)
theorem q75 : Cond.code yX4_init cX4_init 2 none ∈ tw := tw_at 75 (by decide +kernel) (by decide +kernel)
theorem q76 : Cond.methodLink RX4 3 objectInit ∈ tw := tw_at 76 (by decide +kernel) (by decide +kernel)
theorem q77 : Cond.classLink RX4 9 RX5 ∈ tw := tw_at 77 (by decide +kernel) (by decide +kernel)
theorem q79 : Cond.classLink RX4 21 RX0 ∈ tw := tw_at 79 (by decide +kernel) (by decide +kernel)
theorem q80 : Cond.instantiable RX0 8 ∈ tw := tw_at 80 (by decide +kernel) (by decide +kernel)
theorem q82 : Cond.instanceMethod yX0_init ∈ tw := tw_at 82 (by decide +kernel) (by decide +kernel)
theorem q83 : Cond.code yX0_init cX0_init 1 none ∈ tw := tw_at 83 (by decide +kernel) (by decide +kernel)
theorem q84 : Cond.methodLink RX0 3 objectInit ∈ tw := tw_at 84 (by decide +kernel) (by decide +kernel)
theorem q85 : Cond.fieldLink RX0 15 "OwnerlessCoin$Chronicle" "ended" "I" ∈ tw := tw_at 85 (by decide +kernel) (by decide +kernel)
theorem q86 : Cond.fieldLink RX7 90 "OwnerlessCoin$Chronicle" "ended" "I" ∈ tw := tw_at 86 (by decide +kernel) (by decide +kernel)
theorem q87 : Cond.fieldLink RX4 100 "OwnerlessCoin$Chronicle" "ended" "I" ∈ tw := tw_at 87 (by decide +kernel) (by decide +kernel)
theorem q88 : Cond.fieldLink RX0 19 "OwnerlessCoin$Chronicle" "latestOutput" "I" ∈ tw := tw_at 88 (by decide +kernel) (by decide +kernel)
theorem q89 : Cond.fieldLink RX4 168 "OwnerlessCoin$Chronicle" "latestOutput" "I" ∈ tw := tw_at 89 (by decide +kernel) (by decide +kernel)
theorem q90 : Cond.fieldLink RX7 281 "OwnerlessCoin$Chronicle" "latestOutput" "I" ∈ tw := tw_at 90 (by decide +kernel) (by decide +kernel)
theorem q91 : Cond.fieldLink RX0 22 "OwnerlessCoin$Chronicle" "zeros" "I" ∈ tw := tw_at 91 (by decide +kernel) (by decide +kernel)
theorem q92 : Cond.fieldLink RX7 258 "OwnerlessCoin$Chronicle" "zeros" "I" ∈ tw := tw_at 92 (by decide +kernel) (by decide +kernel)
theorem q93 : Cond.fieldLink RX0 25 "OwnerlessCoin$Chronicle" "ones" "I" ∈ tw := tw_at 93 (by decide +kernel) (by decide +kernel)
theorem q94 : Cond.fieldLink RX7 255 "OwnerlessCoin$Chronicle" "ones" "I" ∈ tw := tw_at 94 (by decide +kernel) (by decide +kernel)
theorem q95 : Cond.fieldLink RX0 28 "OwnerlessCoin$Chronicle" "longest" "I" ∈ tw := tw_at 95 (by decide +kernel) (by decide +kernel)
theorem q96 : Cond.fieldLink RX7 261 "OwnerlessCoin$Chronicle" "longest" "I" ∈ tw := tw_at 96 (by decide +kernel) (by decide +kernel)
theorem q97 : Cond.fieldLink RX0 31 "OwnerlessCoin$Chronicle" "run" "I" ∈ tw := tw_at 97 (by decide +kernel) (by decide +kernel)
theorem q98 : Cond.fieldLink RX0 34 "OwnerlessCoin$Chronicle" "runCoin" "I" ∈ tw := tw_at 98 (by decide +kernel) (by decide +kernel)
theorem q99 : Cond.fieldLink RX0 11 "OwnerlessCoin$Chronicle" "entries" "[I" ∈ tw := tw_at 99 (by decide +kernel) (by decide +kernel)
theorem q117 : Cond.arrayClass .int ∈ tw := tw_at 117 (by decide +kernel) (by decide +kernel)
theorem q118 : Cond.instantiable RX5 12 ∈ tw := tw_at 118 (by decide +kernel) (by decide +kernel)
theorem q120 : Cond.instanceMethod yX5_init ∈ tw := tw_at 120 (by decide +kernel) (by decide +kernel)
theorem q121 : Cond.code yX5_init cX5_init 1 none ∈ tw := tw_at 121 (by decide +kernel) (by decide +kernel)
theorem q122 : Cond.methodLink RX5 3 objectInit ∈ tw := tw_at 122 (by decide +kernel) (by decide +kernel)
theorem q123 : Cond.fieldLink RX5 18 "OwnerlessCoin$Person" "balance" "I" ∈ tw := tw_at 123 (by decide +kernel) (by decide +kernel)
theorem q124 : Cond.fieldLink RX4 87 "OwnerlessCoin$Person" "balance" "I" ∈ tw := tw_at 124 (by decide +kernel) (by decide +kernel)
theorem q125 : Cond.fieldLink RX7 234 "OwnerlessCoin$Person" "balance" "I" ∈ tw := tw_at 125 (by decide +kernel) (by decide +kernel)
theorem q126 : Cond.fieldLink RX5 22 "OwnerlessCoin$Person" "behavior" "I" ∈ tw := tw_at 126 (by decide +kernel) (by decide +kernel)
theorem q127 : Cond.fieldLink RX7 58 "OwnerlessCoin$Person" "behavior" "I" ∈ tw := tw_at 127 (by decide +kernel) (by decide +kernel)
theorem q128 : Cond.fieldLink RX2 77 "OwnerlessCoin$Person" "behavior" "I" ∈ tw := tw_at 128 (by decide +kernel) (by decide +kernel)
theorem q129 : Cond.fieldLink RX5 25 "OwnerlessCoin$Person" "roundsOpened" "I" ∈ tw := tw_at 129 (by decide +kernel) (by decide +kernel)
theorem q130 : Cond.fieldLink RX4 156 "OwnerlessCoin$Person" "roundsOpened" "I" ∈ tw := tw_at 130 (by decide +kernel) (by decide +kernel)
theorem q131 : Cond.fieldLink RX7 237 "OwnerlessCoin$Person" "roundsOpened" "I" ∈ tw := tw_at 131 (by decide +kernel) (by decide +kernel)
theorem q132 : Cond.fieldLink RX5 28 "OwnerlessCoin$Person" "roundsWithheld" "I" ∈ tw := tw_at 132 (by decide +kernel) (by decide +kernel)
theorem q133 : Cond.fieldLink RX4 159 "OwnerlessCoin$Person" "roundsWithheld" "I" ∈ tw := tw_at 133 (by decide +kernel) (by decide +kernel)
theorem q134 : Cond.fieldLink RX7 240 "OwnerlessCoin$Person" "roundsWithheld" "I" ∈ tw := tw_at 134 (by decide +kernel) (by decide +kernel)
theorem q135 : Cond.fieldLink RX5 31 "OwnerlessCoin$Person" "roundsExpelled" "I" ∈ tw := tw_at 135 (by decide +kernel) (by decide +kernel)
theorem q136 : Cond.fieldLink RX4 132 "OwnerlessCoin$Person" "roundsExpelled" "I" ∈ tw := tw_at 136 (by decide +kernel) (by decide +kernel)
theorem q137 : Cond.fieldLink RX7 243 "OwnerlessCoin$Person" "roundsExpelled" "I" ∈ tw := tw_at 137 (by decide +kernel) (by decide +kernel)
theorem q138 : Cond.fieldLink RX5 34 "OwnerlessCoin$Person" "nonce" "I" ∈ tw := tw_at 138 (by decide +kernel) (by decide +kernel)
theorem q139 : Cond.fieldLink RX4 110 "OwnerlessCoin$Person" "nonce" "I" ∈ tw := tw_at 139 (by decide +kernel) (by decide +kernel)
theorem q140 : Cond.fieldLink RX7 147 "OwnerlessCoin$Person" "nonce" "I" ∈ tw := tw_at 140 (by decide +kernel) (by decide +kernel)
theorem q141 : Cond.fieldLink RX5 37 "OwnerlessCoin$Person" "digest" "I" ∈ tw := tw_at 141 (by decide +kernel) (by decide +kernel)
theorem q142 : Cond.fieldLink RX4 107 "OwnerlessCoin$Person" "digest" "I" ∈ tw := tw_at 142 (by decide +kernel) (by decide +kernel)
theorem q143 : Cond.fieldLink RX7 165 "OwnerlessCoin$Person" "digest" "I" ∈ tw := tw_at 143 (by decide +kernel) (by decide +kernel)
theorem q144 : Cond.fieldLink RX5 40 "OwnerlessCoin$Person" "lockBase" "I" ∈ tw := tw_at 144 (by decide +kernel) (by decide +kernel)
theorem q145 : Cond.fieldLink RX7 185 "OwnerlessCoin$Person" "lockBase" "I" ∈ tw := tw_at 145 (by decide +kernel) (by decide +kernel)
theorem q146 : Cond.fieldLink RX5 43 "OwnerlessCoin$Person" "lockNumber" "I" ∈ tw := tw_at 146 (by decide +kernel) (by decide +kernel)
theorem q147 : Cond.fieldLink RX7 188 "OwnerlessCoin$Person" "lockNumber" "I" ∈ tw := tw_at 147 (by decide +kernel) (by decide +kernel)
theorem q148 : Cond.fieldLink RX5 46 "OwnerlessCoin$Person" "rightHolders" "I" ∈ tw := tw_at 148 (by decide +kernel) (by decide +kernel)
theorem q149 : Cond.fieldLink RX2 92 "OwnerlessCoin$Person" "rightHolders" "I" ∈ tw := tw_at 149 (by decide +kernel) (by decide +kernel)
theorem q150 : Cond.fieldLink RX7 127 "OwnerlessCoin$Person" "rightHolders" "I" ∈ tw := tw_at 150 (by decide +kernel) (by decide +kernel)
theorem q151 : Cond.fieldLink RX4 165 "OwnerlessCoin$Person" "rightHolders" "I" ∈ tw := tw_at 151 (by decide +kernel) (by decide +kernel)
theorem q152 : Cond.fieldLink RX5 9 "OwnerlessCoin$Person" "shares" "[I" ∈ tw := tw_at 152 (by decide +kernel) (by decide +kernel)
theorem q153 : Cond.fieldLink RX7 123 "OwnerlessCoin$Person" "shares" "[I" ∈ tw := tw_at 153 (by decide +kernel) (by decide +kernel)
theorem q154 : Cond.fieldLink RX5 15 "OwnerlessCoin$Person" "checks" "[I" ∈ tw := tw_at 154 (by decide +kernel) (by decide +kernel)
theorem q155 : Cond.fieldLink RX7 171 "OwnerlessCoin$Person" "checks" "[I" ∈ tw := tw_at 155 (by decide +kernel) (by decide +kernel)
theorem q181 : Cond.fieldLink RX4 11 "OwnerlessCoin$Lab" "people" "[LOwnerlessCoin$Person;" ∈ tw := tw_at 181 (by decide +kernel) (by decide +kernel)
theorem q182 : Cond.fieldLink RX7 54 "OwnerlessCoin$Lab" "people" "[LOwnerlessCoin$Person;" ∈ tw := tw_at 182 (by decide +kernel) (by decide +kernel)
theorem q183 : Cond.fieldLink RX2 73 "OwnerlessCoin$Lab" "people" "[LOwnerlessCoin$Person;" ∈ tw := tw_at 183 (by decide +kernel) (by decide +kernel)
theorem q184 : Cond.fieldLink RX4 17 "OwnerlessCoin$Lab" "secrets" "[I" ∈ tw := tw_at 184 (by decide +kernel) (by decide +kernel)
theorem q185 : Cond.fieldLink RX1 42 "OwnerlessCoin$Lab" "secrets" "[I" ∈ tw := tw_at 185 (by decide +kernel) (by decide +kernel)
theorem q186 : Cond.fieldLink RX2 109 "OwnerlessCoin$Lab" "secrets" "[I" ∈ tw := tw_at 186 (by decide +kernel) (by decide +kernel)
theorem q187 : Cond.fieldLink RX7 144 "OwnerlessCoin$Lab" "secrets" "[I" ∈ tw := tw_at 187 (by decide +kernel) (by decide +kernel)
theorem q188 : Cond.fieldLink RX4 24 "OwnerlessCoin$Lab" "chronicle" "LOwnerlessCoin$Chronicle;" ∈ tw := tw_at 188 (by decide +kernel) (by decide +kernel)
theorem q189 : Cond.fieldLink RX7 86 "OwnerlessCoin$Lab" "chronicle" "LOwnerlessCoin$Chronicle;" ∈ tw := tw_at 189 (by decide +kernel) (by decide +kernel)
theorem q190 : Cond.fieldLink RX7 39 "OwnerlessCoin$Lab" "count" "I" ∈ tw := tw_at 190 (by decide +kernel) (by decide +kernel)
theorem q191 : Cond.fieldLink RX4 58 "OwnerlessCoin$Lab" "count" "I" ∈ tw := tw_at 191 (by decide +kernel) (by decide +kernel)
theorem q192 : Cond.fieldLink RX4 61 "OwnerlessCoin$Lab" "pot" "I" ∈ tw := tw_at 192 (by decide +kernel) (by decide +kernel)
theorem q193 : Cond.fieldLink RX7 246 "OwnerlessCoin$Lab" "pot" "I" ∈ tw := tw_at 193 (by decide +kernel) (by decide +kernel)
theorem q194 : Cond.fieldLink RX4 28 "OwnerlessCoin$Lab" "method" "I" ∈ tw := tw_at 194 (by decide +kernel) (by decide +kernel)
theorem q195 : Cond.fieldLink RX2 20 "OwnerlessCoin$Lab" "method" "I" ∈ tw := tw_at 195 (by decide +kernel) (by decide +kernel)
theorem q196 : Cond.fieldLink RX7 67 "OwnerlessCoin$Lab" "method" "I" ∈ tw := tw_at 196 (by decide +kernel) (by decide +kernel)
theorem q197 : Cond.fieldLink RX4 32 "OwnerlessCoin$Lab" "threshold" "I" ∈ tw := tw_at 197 (by decide +kernel) (by decide +kernel)
theorem q198 : Cond.fieldLink RX2 86 "OwnerlessCoin$Lab" "threshold" "I" ∈ tw := tw_at 198 (by decide +kernel) (by decide +kernel)
theorem q199 : Cond.fieldLink RX7 70 "OwnerlessCoin$Lab" "threshold" "I" ∈ tw := tw_at 199 (by decide +kernel) (by decide +kernel)
theorem q200 : Cond.fieldLink RX4 35 "OwnerlessCoin$Lab" "fine" "I" ∈ tw := tw_at 200 (by decide +kernel) (by decide +kernel)
theorem q201 : Cond.fieldLink RX7 73 "OwnerlessCoin$Lab" "fine" "I" ∈ tw := tw_at 201 (by decide +kernel) (by decide +kernel)
theorem q202 : Cond.fieldLink RX4 38 "OwnerlessCoin$Lab" "delay" "I" ∈ tw := tw_at 202 (by decide +kernel) (by decide +kernel)
theorem q203 : Cond.fieldLink RX7 76 "OwnerlessCoin$Lab" "delay" "I" ∈ tw := tw_at 203 (by decide +kernel) (by decide +kernel)
theorem q204 : Cond.fieldLink RX4 41 "OwnerlessCoin$Lab" "phase" "I" ∈ tw := tw_at 204 (by decide +kernel) (by decide +kernel)
theorem q205 : Cond.fieldLink RX7 35 "OwnerlessCoin$Lab" "phase" "I" ∈ tw := tw_at 205 (by decide +kernel) (by decide +kernel)
theorem q206 : Cond.fieldLink RX1 29 "OwnerlessCoin$Lab" "members" "I" ∈ tw := tw_at 206 (by decide +kernel) (by decide +kernel)
theorem q207 : Cond.fieldLink RX4 64 "OwnerlessCoin$Lab" "members" "I" ∈ tw := tw_at 207 (by decide +kernel) (by decide +kernel)
theorem q208 : Cond.fieldLink RX2 44 "OwnerlessCoin$Lab" "members" "I" ∈ tw := tw_at 208 (by decide +kernel) (by decide +kernel)
theorem q209 : Cond.fieldLink RX7 95 "OwnerlessCoin$Lab" "members" "I" ∈ tw := tw_at 209 (by decide +kernel) (by decide +kernel)
theorem q210 : Cond.fieldLink RX4 67 "OwnerlessCoin$Lab" "committed" "I" ∈ tw := tw_at 210 (by decide +kernel) (by decide +kernel)
theorem q211 : Cond.fieldLink RX2 70 "OwnerlessCoin$Lab" "committed" "I" ∈ tw := tw_at 211 (by decide +kernel) (by decide +kernel)
theorem q212 : Cond.fieldLink RX7 102 "OwnerlessCoin$Lab" "committed" "I" ∈ tw := tw_at 212 (by decide +kernel) (by decide +kernel)
theorem q213 : Cond.fieldLink RX4 70 "OwnerlessCoin$Lab" "opened" "I" ∈ tw := tw_at 213 (by decide +kernel) (by decide +kernel)
theorem q214 : Cond.fieldLink RX2 99 "OwnerlessCoin$Lab" "opened" "I" ∈ tw := tw_at 214 (by decide +kernel) (by decide +kernel)
theorem q215 : Cond.fieldLink RX7 141 "OwnerlessCoin$Lab" "opened" "I" ∈ tw := tw_at 215 (by decide +kernel) (by decide +kernel)
theorem q216 : Cond.fieldLink RX4 73 "OwnerlessCoin$Lab" "expelled" "I" ∈ tw := tw_at 216 (by decide +kernel) (by decide +kernel)
theorem q217 : Cond.fieldLink RX7 159 "OwnerlessCoin$Lab" "expelled" "I" ∈ tw := tw_at 217 (by decide +kernel) (by decide +kernel)
theorem q247 : Cond.classLink RX7 16 RX3 ∈ tw := tw_at 247 (by decide +kernel) (by decide +kernel)
theorem q248 : Cond.instantiable RX3 2 ∈ tw := tw_at 248 (by decide +kernel) (by decide +kernel)
theorem q249 : Cond.methodLink RX7 18 yX3_init ∈ tw := tw_at 249 (by decide +kernel) (by decide +kernel)
theorem q250 : Cond.instanceMethod yX3_init ∈ tw := tw_at 250 (by decide +kernel) (by decide +kernel)
theorem q251 : Cond.code yX3_init cX3_init 2 none ∈ tw := tw_at 251 (by decide +kernel) (by decide +kernel)
theorem q252 : Cond.methodLink RX3 1 objectInit ∈ tw := tw_at 252 (by decide +kernel) (by decide +kernel)
theorem q253 : Cond.classLink RX3 9 RX4 ∈ tw := tw_at 253 (by decide +kernel) (by decide +kernel)
theorem q255 : Cond.methodLink RX3 15 yX4_init ∈ tw := tw_at 255 (by decide +kernel) (by decide +kernel)
theorem q256 : Cond.fieldLink RX3 11 "OwnerlessCoin$History" "states" "[LOwnerlessCoin$Lab;" ∈ tw := tw_at 256 (by decide +kernel) (by decide +kernel)
theorem q257 : Cond.fieldLink RX3 16 "OwnerlessCoin$History" "size" "I" ∈ tw := tw_at 257 (by decide +kernel) (by decide +kernel)
theorem q258 : Cond.fieldLink RX7 264 "OwnerlessCoin$History" "size" "I" ∈ tw := tw_at 258 (by decide +kernel) (by decide +kernel)
theorem q264 : Cond.classLink RX7 23 RX1 ∈ tw := tw_at 264 (by decide +kernel) (by decide +kernel)
theorem q265 : Cond.instantiable RX1 5 ∈ tw := tw_at 265 (by decide +kernel) (by decide +kernel)
theorem q267 : Cond.instanceMethod yX1_init ∈ tw := tw_at 267 (by decide +kernel) (by decide +kernel)
theorem q268 : Cond.code yX1_init cX1_init 1 none ∈ tw := tw_at 268 (by decide +kernel) (by decide +kernel)
theorem q269 : Cond.methodLink RX1 3 objectInit ∈ tw := tw_at 269 (by decide +kernel) (by decide +kernel)
theorem q270 : Cond.fieldLink RX1 9 "OwnerlessCoin$Coalition" "counted" "[I" ∈ tw := tw_at 270 (by decide +kernel) (by decide +kernel)
theorem q271 : Cond.fieldLink RX1 15 "OwnerlessCoin$Coalition" "outputs" "[I" ∈ tw := tw_at 271 (by decide +kernel) (by decide +kernel)
theorem q272 : Cond.fieldLink RX1 18 "OwnerlessCoin$Coalition" "secrets" "[I" ∈ tw := tw_at 272 (by decide +kernel) (by decide +kernel)
theorem q273 : Cond.fieldLink RX1 21 "OwnerlessCoin$Coalition" "size" "I" ∈ tw := tw_at 273 (by decide +kernel) (by decide +kernel)
theorem q274 : Cond.fieldLink RX1 25 "OwnerlessCoin$Coalition" "canFail" "Z" ∈ tw := tw_at 274 (by decide +kernel) (by decide +kernel)
theorem q286 : Cond.fieldLink RX7 12 "OwnerlessCoin" "lab" "LOwnerlessCoin$Lab;" ∈ tw := tw_at 286 (by decide +kernel) (by decide +kernel)
theorem q287 : Cond.fieldLink RX7 19 "OwnerlessCoin" "history" "LOwnerlessCoin$History;" ∈ tw := tw_at 287 (by decide +kernel) (by decide +kernel)
theorem q288 : Cond.fieldLink RX7 26 "OwnerlessCoin" "coalitions" "LOwnerlessCoin$Coalition;" ∈ tw := tw_at 288 (by decide +kernel) (by decide +kernel)
theorem q296 : Cond.methodLink RL 13 yX7_addParticipant ∈ tw := tw_at 296 (by decide +kernel) (by decide +kernel)
theorem q297 : Cond.instanceMethod yX7_addParticipant ∈ tw := tw_at 297 (by decide +kernel) (by decide +kernel)
theorem q298 : Cond.selects RX7 yX7_addParticipant yX7_addParticipant ∈ tw := tw_at 298 (by decide +kernel) (by decide +kernel)
theorem q299 : Cond.code yX7_addParticipant cX7_addParticipant 2 (some .int) ∈ tw := tw_at 299 (by decide +kernel) (by decide +kernel)
theorem q300 : Cond.constant RX7 30 (1000000) ∈ tw := tw_at 300 (by decide +kernel) (by decide +kernel)
theorem q301 : Cond.methodLink RX7 31 yX7_isWithin ∈ tw := tw_at 301 (by decide +kernel) (by decide +kernel)
theorem q302 : Cond.static yX7_isWithin ∈ tw := tw_at 302 (by decide +kernel) (by decide +kernel)
theorem q303 : Cond.code yX7_isWithin cX7_isWithin 3 (some .boolean) ∈ tw := tw_at 303 (by decide +kernel) (by decide +kernel)
theorem q304 : Cond.methodLink RX7 42 yX3_remember ∈ tw := tw_at 304 (by decide +kernel) (by decide +kernel)
theorem q305 : Cond.instanceMethod yX3_remember ∈ tw := tw_at 305 (by decide +kernel) (by decide +kernel)
theorem q306 : Cond.selects RX3 yX3_remember yX3_remember ∈ tw := tw_at 306 (by decide +kernel) (by decide +kernel)
theorem q307 : Cond.code yX3_remember cX3_remember 2 none ∈ tw := tw_at 307 (by decide +kernel) (by decide +kernel)
theorem q308 : Cond.methodLink RX3 20 yX3_dropOldest ∈ tw := tw_at 308 (by decide +kernel) (by decide +kernel)
theorem q310 : Cond.instanceMethod yX3_dropOldest ∈ tw := tw_at 310 (by decide +kernel) (by decide +kernel)
theorem q311 : Cond.code yX3_dropOldest cX3_dropOldest 3 none ∈ tw := tw_at 311 (by decide +kernel) (by decide +kernel)
theorem q312 : Cond.methodLink RX3 23 yX4_copy ∈ tw := tw_at 312 (by decide +kernel) (by decide +kernel)
theorem q313 : Cond.instanceMethod yX4_copy ∈ tw := tw_at 313 (by decide +kernel) (by decide +kernel)
theorem q314 : Cond.selects RX4 yX4_copy yX4_copy ∈ tw := tw_at 314 (by decide +kernel) (by decide +kernel)
theorem q315 : Cond.code yX4_copy cX4_copy 3 none ∈ tw := tw_at 315 (by decide +kernel) (by decide +kernel)
theorem q316 : Cond.methodLink RX4 45 yX5_copy ∈ tw := tw_at 316 (by decide +kernel) (by decide +kernel)
theorem q317 : Cond.instanceMethod yX5_copy ∈ tw := tw_at 317 (by decide +kernel) (by decide +kernel)
theorem q318 : Cond.selects RX5 yX5_copy yX5_copy ∈ tw := tw_at 318 (by decide +kernel) (by decide +kernel)
theorem q319 : Cond.code yX5_copy cX5_copy 2 none ∈ tw := tw_at 319 (by decide +kernel) (by decide +kernel)
theorem q320 : Cond.methodLink RX5 49 arraycopyName ∈ tw := tw_at 320 (by decide +kernel) (by decide +kernel)
theorem q321 : Cond.static arraycopyName ∈ tw := tw_at 321 (by decide +kernel) (by decide +kernel)
theorem q322 : Cond.native arraycopyName ∈ tw := tw_at 322 (by decide +kernel) (by decide +kernel)
theorem q323 : Cond.methodLink RX4 49 arraycopyName ∈ tw := tw_at 323 (by decide +kernel) (by decide +kernel)
theorem q324 : Cond.methodLink RX4 55 yX0_copy ∈ tw := tw_at 324 (by decide +kernel) (by decide +kernel)
theorem q325 : Cond.instanceMethod yX0_copy ∈ tw := tw_at 325 (by decide +kernel) (by decide +kernel)
theorem q326 : Cond.selects RX0 yX0_copy yX0_copy ∈ tw := tw_at 326 (by decide +kernel) (by decide +kernel)
theorem q327 : Cond.code yX0_copy cX0_copy 2 none ∈ tw := tw_at 327 (by decide +kernel) (by decide +kernel)
theorem q328 : Cond.methodLink RX0 37 arraycopyName ∈ tw := tw_at 328 (by decide +kernel) (by decide +kernel)
theorem q329 : Cond.methodLink RX7 46 yX4_admit ∈ tw := tw_at 329 (by decide +kernel) (by decide +kernel)
theorem q330 : Cond.instanceMethod yX4_admit ∈ tw := tw_at 330 (by decide +kernel) (by decide +kernel)
theorem q331 : Cond.selects RX4 yX4_admit yX4_admit ∈ tw := tw_at 331 (by decide +kernel) (by decide +kernel)
theorem q332 : Cond.code yX4_admit cX4_admit 2 (some .int) ∈ tw := tw_at 332 (by decide +kernel) (by decide +kernel)
theorem q333 : Cond.methodLink RL 18 yX7_behave ∈ tw := tw_at 333 (by decide +kernel) (by decide +kernel)
theorem q334 : Cond.instanceMethod yX7_behave ∈ tw := tw_at 334 (by decide +kernel) (by decide +kernel)
theorem q335 : Cond.selects RX7 yX7_behave yX7_behave ∈ tw := tw_at 335 (by decide +kernel) (by decide +kernel)
theorem q336 : Cond.code yX7_behave cX7_behave 4 (some .int) ∈ tw := tw_at 336 (by decide +kernel) (by decide +kernel)
theorem q337 : Cond.methodLink RX7 50 yX4_isParticipant ∈ tw := tw_at 337 (by decide +kernel) (by decide +kernel)
theorem q338 : Cond.instanceMethod yX4_isParticipant ∈ tw := tw_at 338 (by decide +kernel) (by decide +kernel)
theorem q339 : Cond.selects RX4 yX4_isParticipant yX4_isParticipant ∈ tw := tw_at 339 (by decide +kernel) (by decide +kernel)
theorem q340 : Cond.code yX4_isParticipant cX4_isParticipant 2 (some .boolean) ∈ tw := tw_at 340 (by decide +kernel) (by decide +kernel)
theorem q341 : Cond.methodLink RL 23 yX7_setMethod ∈ tw := tw_at 341 (by decide +kernel) (by decide +kernel)
theorem q342 : Cond.instanceMethod yX7_setMethod ∈ tw := tw_at 342 (by decide +kernel) (by decide +kernel)
theorem q343 : Cond.selects RX7 yX7_setMethod yX7_setMethod ∈ tw := tw_at 343 (by decide +kernel) (by decide +kernel)
theorem q344 : Cond.code yX7_setMethod cX7_setMethod 4 (some .int) ∈ tw := tw_at 344 (by decide +kernel) (by decide +kernel)
theorem q345 : Cond.methodLink RX7 63 yX7_settingError ∈ tw := tw_at 345 (by decide +kernel) (by decide +kernel)
theorem q347 : Cond.instanceMethod yX7_settingError ∈ tw := tw_at 347 (by decide +kernel) (by decide +kernel)
theorem q348 : Cond.code yX7_settingError cX7_settingError 4 (some .int) ∈ tw := tw_at 348 (by decide +kernel) (by decide +kernel)
theorem q349 : Cond.methodLink RL 27 yX7_setThreshold ∈ tw := tw_at 349 (by decide +kernel) (by decide +kernel)
theorem q350 : Cond.instanceMethod yX7_setThreshold ∈ tw := tw_at 350 (by decide +kernel) (by decide +kernel)
theorem q351 : Cond.selects RX7 yX7_setThreshold yX7_setThreshold ∈ tw := tw_at 351 (by decide +kernel) (by decide +kernel)
theorem q352 : Cond.code yX7_setThreshold cX7_setThreshold 4 (some .int) ∈ tw := tw_at 352 (by decide +kernel) (by decide +kernel)
theorem q353 : Cond.methodLink RL 31 yX7_setFine ∈ tw := tw_at 353 (by decide +kernel) (by decide +kernel)
theorem q354 : Cond.instanceMethod yX7_setFine ∈ tw := tw_at 354 (by decide +kernel) (by decide +kernel)
theorem q355 : Cond.selects RX7 yX7_setFine yX7_setFine ∈ tw := tw_at 355 (by decide +kernel) (by decide +kernel)
theorem q356 : Cond.code yX7_setFine cX7_setFine 4 (some .int) ∈ tw := tw_at 356 (by decide +kernel) (by decide +kernel)
theorem q357 : Cond.methodLink RL 35 yX7_setDelay ∈ tw := tw_at 357 (by decide +kernel) (by decide +kernel)
theorem q358 : Cond.instanceMethod yX7_setDelay ∈ tw := tw_at 358 (by decide +kernel) (by decide +kernel)
theorem q359 : Cond.selects RX7 yX7_setDelay yX7_setDelay ∈ tw := tw_at 359 (by decide +kernel) (by decide +kernel)
theorem q360 : Cond.code yX7_setDelay cX7_setDelay 4 (some .int) ∈ tw := tw_at 360 (by decide +kernel) (by decide +kernel)
theorem q361 : Cond.methodLink RL 39 yX7_begin ∈ tw := tw_at 361 (by decide +kernel) (by decide +kernel)
theorem q362 : Cond.instanceMethod yX7_begin ∈ tw := tw_at 362 (by decide +kernel) (by decide +kernel)
theorem q363 : Cond.selects RX7 yX7_begin yX7_begin ∈ tw := tw_at 363 (by decide +kernel) (by decide +kernel)
theorem q364 : Cond.code yX7_begin cX7_begin 1 (some .int) ∈ tw := tw_at 364 (by decide +kernel) (by decide +kernel)
theorem q365 : Cond.methodLink RX7 79 yX4_canStart ∈ tw := tw_at 365 (by decide +kernel) (by decide +kernel)
theorem q366 : Cond.instanceMethod yX4_canStart ∈ tw := tw_at 366 (by decide +kernel) (by decide +kernel)
theorem q367 : Cond.selects RX4 yX4_canStart yX4_canStart ∈ tw := tw_at 367 (by decide +kernel) (by decide +kernel)
theorem q368 : Cond.code yX4_canStart cX4_canStart 2 (some .boolean) ∈ tw := tw_at 368 (by decide +kernel) (by decide +kernel)
theorem q369 : Cond.methodLink RX4 90 yX4_ableToPay ∈ tw := tw_at 369 (by decide +kernel) (by decide +kernel)
theorem q371 : Cond.instanceMethod yX4_ableToPay ∈ tw := tw_at 371 (by decide +kernel) (by decide +kernel)
theorem q372 : Cond.code yX4_ableToPay cX4_ableToPay 3 (some .int) ∈ tw := tw_at 372 (by decide +kernel) (by decide +kernel)
theorem q373 : Cond.methodLink RX4 94 yJ6_bitCount_0f7a4 ∈ tw := tw_at 373 (by decide +kernel) (by decide +kernel)
theorem q374 : Cond.static yJ6_bitCount_0f7a4 ∈ tw := tw_at 374 (by decide +kernel) (by decide +kernel)
theorem q375 : Cond.code yJ6_bitCount_0f7a4 cJ6_bitCount_0f7a4 1 (some .int) ∈ tw := tw_at 375 (by decide +kernel) (by decide +kernel)
theorem q376 : Cond.constant RJ6 265 (1431655765) ∈ tw := tw_at 376 (by decide +kernel) (by decide +kernel)
theorem q377 : Cond.constant RJ6 266 (858993459) ∈ tw := tw_at 377 (by decide +kernel) (by decide +kernel)
theorem q378 : Cond.constant RJ6 267 (252645135) ∈ tw := tw_at 378 (by decide +kernel) (by decide +kernel)
theorem q379 : Cond.methodLink RX7 83 yX4_start ∈ tw := tw_at 379 (by decide +kernel) (by decide +kernel)
theorem q380 : Cond.instanceMethod yX4_start ∈ tw := tw_at 380 (by decide +kernel) (by decide +kernel)
theorem q381 : Cond.selects RX4 yX4_start yX4_start ∈ tw := tw_at 381 (by decide +kernel) (by decide +kernel)
theorem q382 : Cond.code yX4_start cX4_start 1 none ∈ tw := tw_at 382 (by decide +kernel) (by decide +kernel)
theorem q383 : Cond.methodLink RL 44 yX7_commit ∈ tw := tw_at 383 (by decide +kernel) (by decide +kernel)
theorem q384 : Cond.instanceMethod yX7_commit ∈ tw := tw_at 384 (by decide +kernel) (by decide +kernel)
theorem q385 : Cond.selects RX7 yX7_commit yX7_commit ∈ tw := tw_at 385 (by decide +kernel) (by decide +kernel)
theorem q386 : Cond.code yX7_commit cX7_commit 5 (some .int) ∈ tw := tw_at 386 (by decide +kernel) (by decide +kernel)
theorem q387 : Cond.methodLink RX7 98 yX7_has ∈ tw := tw_at 387 (by decide +kernel) (by decide +kernel)
theorem q388 : Cond.static yX7_has ∈ tw := tw_at 388 (by decide +kernel) (by decide +kernel)
theorem q389 : Cond.code yX7_has cX7_has 2 (some .boolean) ∈ tw := tw_at 389 (by decide +kernel) (by decide +kernel)
theorem q390 : Cond.methodLink RX7 105 yX4_digestOf ∈ tw := tw_at 390 (by decide +kernel) (by decide +kernel)
theorem q391 : Cond.instanceMethod yX4_digestOf ∈ tw := tw_at 391 (by decide +kernel) (by decide +kernel)
theorem q392 : Cond.selects RX4 yX4_digestOf yX4_digestOf ∈ tw := tw_at 392 (by decide +kernel) (by decide +kernel)
theorem q393 : Cond.code yX4_digestOf cX4_digestOf 3 (some .int) ∈ tw := tw_at 393 (by decide +kernel) (by decide +kernel)
theorem q395 : Cond.static yX7_mix ∈ tw := tw_at 395 (by decide +kernel) (by decide +kernel)
theorem q396 : Cond.code yX7_mix cX7_mix 3 (some .int) ∈ tw := tw_at 396 (by decide +kernel) (by decide +kernel)
theorem q397 : Cond.constant RX7 292 (-1640531535) ∈ tw := tw_at 397 (by decide +kernel) (by decide +kernel)
theorem q398 : Cond.methodLink RX7 109 yX4_isTaken ∈ tw := tw_at 398 (by decide +kernel) (by decide +kernel)
theorem q399 : Cond.instanceMethod yX4_isTaken ∈ tw := tw_at 399 (by decide +kernel) (by decide +kernel)
theorem q400 : Cond.selects RX4 yX4_isTaken yX4_isTaken ∈ tw := tw_at 400 (by decide +kernel) (by decide +kernel)
theorem q401 : Cond.code yX4_isTaken cX4_isTaken 3 (some .boolean) ∈ tw := tw_at 401 (by decide +kernel) (by decide +kernel)
theorem q403 : Cond.methodLink RX7 112 yX4_accept ∈ tw := tw_at 403 (by decide +kernel) (by decide +kernel)
theorem q404 : Cond.instanceMethod yX4_accept ∈ tw := tw_at 404 (by decide +kernel) (by decide +kernel)
theorem q405 : Cond.selects RX4 yX4_accept yX4_accept ∈ tw := tw_at 405 (by decide +kernel) (by decide +kernel)
theorem q406 : Cond.code yX4_accept cX4_accept 5 none ∈ tw := tw_at 406 (by decide +kernel) (by decide +kernel)
theorem q407 : Cond.methodLink RX4 113 yX4_digestOf ∈ tw := tw_at 407 (by decide +kernel) (by decide +kernel)
theorem q408 : Cond.methodLink RX4 116 yX5_deal ∈ tw := tw_at 408 (by decide +kernel) (by decide +kernel)
theorem q409 : Cond.instanceMethod yX5_deal ∈ tw := tw_at 409 (by decide +kernel) (by decide +kernel)
theorem q410 : Cond.selects RX5 yX5_deal yX5_deal ∈ tw := tw_at 410 (by decide +kernel) (by decide +kernel)
theorem q411 : Cond.code yX5_deal cX5_deal 7 none ∈ tw := tw_at 411 (by decide +kernel) (by decide +kernel)
theorem q413 : Cond.static yX7_power ∈ tw := tw_at 413 (by decide +kernel) (by decide +kernel)
theorem q414 : Cond.code yX7_power cX7_power 5 (some .int) ∈ tw := tw_at 414 (by decide +kernel) (by decide +kernel)
theorem q415 : Cond.methodLink RX7 294 yX7_product ∈ tw := tw_at 415 (by decide +kernel) (by decide +kernel)
theorem q416 : Cond.static yX7_product ∈ tw := tw_at 416 (by decide +kernel) (by decide +kernel)
theorem q417 : Cond.code yX7_product cX7_product 3 (some .int) ∈ tw := tw_at 417 (by decide +kernel) (by decide +kernel)
theorem q419 : Cond.static yX7_stepped ∈ tw := tw_at 419 (by decide +kernel) (by decide +kernel)
theorem q420 : Cond.code yX7_stepped cX7_stepped 1 (some .int) ∈ tw := tw_at 420 (by decide +kernel) (by decide +kernel)
theorem q421 : Cond.constant RX7 293 (1103515245) ∈ tw := tw_at 421 (by decide +kernel) (by decide +kernel)
theorem q423 : Cond.static yX7_drawn ∈ tw := tw_at 423 (by decide +kernel) (by decide +kernel)
theorem q424 : Cond.code yX7_drawn cX7_drawn 1 (some .int) ∈ tw := tw_at 424 (by decide +kernel) (by decide +kernel)
theorem q425 : Cond.methodLink RX4 120 yX5_putLock ∈ tw := tw_at 425 (by decide +kernel) (by decide +kernel)
theorem q426 : Cond.instanceMethod yX5_putLock ∈ tw := tw_at 426 (by decide +kernel) (by decide +kernel)
theorem q427 : Cond.selects RX5 yX5_putLock yX5_putLock ∈ tw := tw_at 427 (by decide +kernel) (by decide +kernel)
theorem q428 : Cond.code yX5_putLock cX5_putLock 3 none ∈ tw := tw_at 428 (by decide +kernel) (by decide +kernel)
theorem q429 : Cond.methodLink RX5 66 yX6_value ∈ tw := tw_at 429 (by decide +kernel) (by decide +kernel)
theorem q430 : Cond.static yX6_value ∈ tw := tw_at 430 (by decide +kernel) (by decide +kernel)
theorem q431 : Cond.code yX6_value cX6_value 4 (some .int) ∈ tw := tw_at 431 (by decide +kernel) (by decide +kernel)
theorem q432 : Cond.constant RX6 9 (62615533) ∈ tw := tw_at 432 (by decide +kernel) (by decide +kernel)
theorem q434 : Cond.constant RX7 116 (1073741823) ∈ tw := tw_at 434 (by decide +kernel) (by decide +kernel)
theorem q435 : Cond.methodLink RL 49 yX7_spoil ∈ tw := tw_at 435 (by decide +kernel) (by decide +kernel)
theorem q436 : Cond.instanceMethod yX7_spoil ∈ tw := tw_at 436 (by decide +kernel) (by decide +kernel)
theorem q437 : Cond.selects RX7 yX7_spoil yX7_spoil ∈ tw := tw_at 437 (by decide +kernel) (by decide +kernel)
theorem q438 : Cond.code yX7_spoil cX7_spoil 4 (some .int) ∈ tw := tw_at 438 (by decide +kernel) (by decide +kernel)
theorem q439 : Cond.methodLink RX7 117 yX4_hasShare ∈ tw := tw_at 439 (by decide +kernel) (by decide +kernel)
theorem q440 : Cond.instanceMethod yX4_hasShare ∈ tw := tw_at 440 (by decide +kernel) (by decide +kernel)
theorem q441 : Cond.selects RX4 yX4_hasShare yX4_hasShare ∈ tw := tw_at 441 (by decide +kernel) (by decide +kernel)
theorem q442 : Cond.code yX4_hasShare cX4_hasShare 3 (some .boolean) ∈ tw := tw_at 442 (by decide +kernel) (by decide +kernel)
theorem q443 : Cond.methodLink RX4 84 yX4_hasDealt ∈ tw := tw_at 443 (by decide +kernel) (by decide +kernel)
theorem q444 : Cond.instanceMethod yX4_hasDealt ∈ tw := tw_at 444 (by decide +kernel) (by decide +kernel)
theorem q445 : Cond.selects RX4 yX4_hasDealt yX4_hasDealt ∈ tw := tw_at 445 (by decide +kernel) (by decide +kernel)
theorem q446 : Cond.code yX4_hasDealt cX4_hasDealt 2 (some .boolean) ∈ tw := tw_at 446 (by decide +kernel) (by decide +kernel)
theorem q447 : Cond.methodLink RX4 80 yX4_isCommitted ∈ tw := tw_at 447 (by decide +kernel) (by decide +kernel)
theorem q448 : Cond.instanceMethod yX4_isCommitted ∈ tw := tw_at 448 (by decide +kernel) (by decide +kernel)
theorem q449 : Cond.selects RX4 yX4_isCommitted yX4_isCommitted ∈ tw := tw_at 449 (by decide +kernel) (by decide +kernel)
theorem q450 : Cond.code yX4_isCommitted cX4_isCommitted 2 (some .boolean) ∈ tw := tw_at 450 (by decide +kernel) (by decide +kernel)
theorem q451 : Cond.methodLink RX7 120 yX5_changeShare ∈ tw := tw_at 451 (by decide +kernel) (by decide +kernel)
theorem q452 : Cond.instanceMethod yX5_changeShare ∈ tw := tw_at 452 (by decide +kernel) (by decide +kernel)
theorem q453 : Cond.selects RX5 yX5_changeShare yX5_changeShare ∈ tw := tw_at 453 (by decide +kernel) (by decide +kernel)
theorem q454 : Cond.code yX5_changeShare cX5_changeShare 4 none ∈ tw := tw_at 454 (by decide +kernel) (by decide +kernel)
theorem q455 : Cond.methodLink RX5 72 yX5_provenPower ∈ tw := tw_at 455 (by decide +kernel) (by decide +kernel)
theorem q457 : Cond.instanceMethod yX5_provenPower ∈ tw := tw_at 457 (by decide +kernel) (by decide +kernel)
theorem q458 : Cond.code yX5_provenPower cX5_provenPower 5 (some .int) ∈ tw := tw_at 458 (by decide +kernel) (by decide +kernel)
theorem q460 : Cond.methodLink RL 53 yX7_complain ∈ tw := tw_at 460 (by decide +kernel) (by decide +kernel)
theorem q461 : Cond.instanceMethod yX7_complain ∈ tw := tw_at 461 (by decide +kernel) (by decide +kernel)
theorem q462 : Cond.selects RX7 yX7_complain yX7_complain ∈ tw := tw_at 462 (by decide +kernel) (by decide +kernel)
theorem q463 : Cond.code yX7_complain cX7_complain 3 (some .int) ∈ tw := tw_at 463 (by decide +kernel) (by decide +kernel)
theorem q464 : Cond.methodLink RX7 130 yX4_payFine ∈ tw := tw_at 464 (by decide +kernel) (by decide +kernel)
theorem q465 : Cond.instanceMethod yX4_payFine ∈ tw := tw_at 465 (by decide +kernel) (by decide +kernel)
theorem q466 : Cond.selects RX4 yX4_payFine yX4_payFine ∈ tw := tw_at 466 (by decide +kernel) (by decide +kernel)
theorem q467 : Cond.code yX4_payFine cX4_payFine 3 none ∈ tw := tw_at 467 (by decide +kernel) (by decide +kernel)
theorem q468 : Cond.methodLink RX4 123 yJ9_min_7cf53 ∈ tw := tw_at 468 (by decide +kernel) (by decide +kernel)
theorem q469 : Cond.static yJ9_min_7cf53 ∈ tw := tw_at 469 (by decide +kernel) (by decide +kernel)
theorem q470 : Cond.code yJ9_min_7cf53 cJ9_min_7cf53 2 (some .int) ∈ tw := tw_at 470 (by decide +kernel) (by decide +kernel)
theorem q471 : Cond.methodLink RX7 134 yX4_expel ∈ tw := tw_at 471 (by decide +kernel) (by decide +kernel)
theorem q472 : Cond.instanceMethod yX4_expel ∈ tw := tw_at 472 (by decide +kernel) (by decide +kernel)
theorem q473 : Cond.selects RX4 yX4_expel yX4_expel ∈ tw := tw_at 473 (by decide +kernel) (by decide +kernel)
theorem q474 : Cond.code yX4_expel cX4_expel 2 none ∈ tw := tw_at 474 (by decide +kernel) (by decide +kernel)
theorem q475 : Cond.methodLink RX4 128 yX4_payFine ∈ tw := tw_at 475 (by decide +kernel) (by decide +kernel)
theorem q476 : Cond.methodLink RL 57 yX7_beginOpening ∈ tw := tw_at 476 (by decide +kernel) (by decide +kernel)
theorem q477 : Cond.instanceMethod yX7_beginOpening ∈ tw := tw_at 477 (by decide +kernel) (by decide +kernel)
theorem q478 : Cond.selects RX7 yX7_beginOpening yX7_beginOpening ∈ tw := tw_at 478 (by decide +kernel) (by decide +kernel)
theorem q479 : Cond.code yX7_beginOpening cX7_beginOpening 1 (some .int) ∈ tw := tw_at 479 (by decide +kernel) (by decide +kernel)
theorem q480 : Cond.methodLink RX7 137 yX4_startOpening ∈ tw := tw_at 480 (by decide +kernel) (by decide +kernel)
theorem q481 : Cond.instanceMethod yX4_startOpening ∈ tw := tw_at 481 (by decide +kernel) (by decide +kernel)
theorem q482 : Cond.selects RX4 yX4_startOpening yX4_startOpening ∈ tw := tw_at 482 (by decide +kernel) (by decide +kernel)
theorem q483 : Cond.code yX4_startOpening cX4_startOpening 2 (some .int) ∈ tw := tw_at 483 (by decide +kernel) (by decide +kernel)
theorem q484 : Cond.methodLink RX4 135 yX0_addFailure ∈ tw := tw_at 484 (by decide +kernel) (by decide +kernel)
theorem q485 : Cond.instanceMethod yX0_addFailure ∈ tw := tw_at 485 (by decide +kernel) (by decide +kernel)
theorem q486 : Cond.selects RX0 yX0_addFailure yX0_addFailure ∈ tw := tw_at 486 (by decide +kernel) (by decide +kernel)
theorem q487 : Cond.code yX0_addFailure cX0_addFailure 4 none ∈ tw := tw_at 487 (by decide +kernel) (by decide +kernel)
theorem q488 : Cond.methodLink RX0 43 yX0_put ∈ tw := tw_at 488 (by decide +kernel) (by decide +kernel)
theorem q490 : Cond.instanceMethod yX0_put ∈ tw := tw_at 490 (by decide +kernel) (by decide +kernel)
theorem q491 : Cond.code yX0_put cX0_put 8 none ∈ tw := tw_at 491 (by decide +kernel) (by decide +kernel)
theorem q492 : Cond.methodLink RL 61 yX7_open ∈ tw := tw_at 492 (by decide +kernel) (by decide +kernel)
theorem q493 : Cond.instanceMethod yX7_open ∈ tw := tw_at 493 (by decide +kernel) (by decide +kernel)
theorem q494 : Cond.selects RX7 yX7_open yX7_open ∈ tw := tw_at 494 (by decide +kernel) (by decide +kernel)
theorem q495 : Cond.code yX7_open cX7_open 4 (some .int) ∈ tw := tw_at 495 (by decide +kernel) (by decide +kernel)
theorem q496 : Cond.methodLink RL 65 yX7_close ∈ tw := tw_at 496 (by decide +kernel) (by decide +kernel)
theorem q497 : Cond.instanceMethod yX7_close ∈ tw := tw_at 497 (by decide +kernel) (by decide +kernel)
theorem q498 : Cond.selects RX7 yX7_close yX7_close ∈ tw := tw_at 498 (by decide +kernel) (by decide +kernel)
theorem q499 : Cond.code yX7_close cX7_close 1 (some .int) ∈ tw := tw_at 499 (by decide +kernel) (by decide +kernel)
theorem q500 : Cond.methodLink RX7 150 yX4_finish ∈ tw := tw_at 500 (by decide +kernel) (by decide +kernel)
theorem q501 : Cond.instanceMethod yX4_finish ∈ tw := tw_at 501 (by decide +kernel) (by decide +kernel)
theorem q502 : Cond.selects RX4 yX4_finish yX4_finish ∈ tw := tw_at 502 (by decide +kernel) (by decide +kernel)
theorem q503 : Cond.code yX4_finish cX4_finish 4 (some .int) ∈ tw := tw_at 503 (by decide +kernel) (by decide +kernel)
theorem q504 : Cond.methodLink RX4 139 yX4_countedIf ∈ tw := tw_at 504 (by decide +kernel) (by decide +kernel)
theorem q505 : Cond.instanceMethod yX4_countedIf ∈ tw := tw_at 505 (by decide +kernel) (by decide +kernel)
theorem q506 : Cond.selects RX4 yX4_countedIf yX4_countedIf ∈ tw := tw_at 506 (by decide +kernel) (by decide +kernel)
theorem q507 : Cond.code yX4_countedIf cX4_countedIf 2 (some .int) ∈ tw := tw_at 507 (by decide +kernel) (by decide +kernel)
theorem q508 : Cond.methodLink RX4 162 yX4_canRecoverAll ∈ tw := tw_at 508 (by decide +kernel) (by decide +kernel)
theorem q510 : Cond.instanceMethod yX4_canRecoverAll ∈ tw := tw_at 510 (by decide +kernel) (by decide +kernel)
theorem q511 : Cond.code yX4_canRecoverAll cX4_canRecoverAll 3 (some .boolean) ∈ tw := tw_at 511 (by decide +kernel) (by decide +kernel)
theorem q512 : Cond.methodLink RX4 142 yX4_chargeOrCredit ∈ tw := tw_at 512 (by decide +kernel) (by decide +kernel)
theorem q514 : Cond.instanceMethod yX4_chargeOrCredit ∈ tw := tw_at 514 (by decide +kernel) (by decide +kernel)
theorem q515 : Cond.code yX4_chargeOrCredit cX4_chargeOrCredit 2 none ∈ tw := tw_at 515 (by decide +kernel) (by decide +kernel)
theorem q516 : Cond.methodLink RX4 145 yX4_mixed ∈ tw := tw_at 516 (by decide +kernel) (by decide +kernel)
theorem q517 : Cond.instanceMethod yX4_mixed ∈ tw := tw_at 517 (by decide +kernel) (by decide +kernel)
theorem q518 : Cond.selects RX4 yX4_mixed yX4_mixed ∈ tw := tw_at 518 (by decide +kernel) (by decide +kernel)
theorem q519 : Cond.code yX4_mixed cX4_mixed 5 (some .int) ∈ tw := tw_at 519 (by decide +kernel) (by decide +kernel)
theorem q520 : Cond.methodLink RX4 149 yX0_addOutput ∈ tw := tw_at 520 (by decide +kernel) (by decide +kernel)
theorem q521 : Cond.instanceMethod yX0_addOutput ∈ tw := tw_at 521 (by decide +kernel) (by decide +kernel)
theorem q522 : Cond.selects RX0 yX0_addOutput yX0_addOutput ∈ tw := tw_at 522 (by decide +kernel) (by decide +kernel)
theorem q523 : Cond.code yX0_addOutput cX0_addOutput 7 none ∈ tw := tw_at 523 (by decide +kernel) (by decide +kernel)
theorem q524 : Cond.methodLink RX0 47 yJ6_bitCount_0f7a4 ∈ tw := tw_at 524 (by decide +kernel) (by decide +kernel)
theorem q525 : Cond.methodLink RX0 53 yJ9_max_7cf53 ∈ tw := tw_at 525 (by decide +kernel) (by decide +kernel)
theorem q526 : Cond.static yJ9_max_7cf53 ∈ tw := tw_at 526 (by decide +kernel) (by decide +kernel)
theorem q527 : Cond.code yJ9_max_7cf53 cJ9_max_7cf53 2 (some .int) ∈ tw := tw_at 527 (by decide +kernel) (by decide +kernel)
theorem q528 : Cond.methodLink RX4 153 yX4_sharePot ∈ tw := tw_at 528 (by decide +kernel) (by decide +kernel)
theorem q530 : Cond.instanceMethod yX4_sharePot ∈ tw := tw_at 530 (by decide +kernel) (by decide +kernel)
theorem q531 : Cond.code yX4_sharePot cX4_sharePot 4 none ∈ tw := tw_at 531 (by decide +kernel) (by decide +kernel)
theorem q532 : Cond.methodLink RL 69 yX7_play ∈ tw := tw_at 532 (by decide +kernel) (by decide +kernel)
theorem q533 : Cond.instanceMethod yX7_play ∈ tw := tw_at 533 (by decide +kernel) (by decide +kernel)
theorem q534 : Cond.selects RX7 yX7_play yX7_play ∈ tw := tw_at 534 (by decide +kernel) (by decide +kernel)
theorem q535 : Cond.code yX7_play cX7_play 2 (some .int) ∈ tw := tw_at 535 (by decide +kernel) (by decide +kernel)
theorem q536 : Cond.methodLink RX7 153 yX2_playRound ∈ tw := tw_at 536 (by decide +kernel) (by decide +kernel)
theorem q537 : Cond.static yX2_playRound ∈ tw := tw_at 537 (by decide +kernel) (by decide +kernel)
theorem q538 : Cond.code yX2_playRound cX2_playRound 2 (some .int) ∈ tw := tw_at 538 (by decide +kernel) (by decide +kernel)
theorem q539 : Cond.methodLink RX2 9 yX4_start ∈ tw := tw_at 539 (by decide +kernel) (by decide +kernel)
theorem q540 : Cond.methodLink RX2 14 yX2_commitAll ∈ tw := tw_at 540 (by decide +kernel) (by decide +kernel)
theorem q541 : Cond.static yX2_commitAll ∈ tw := tw_at 541 (by decide +kernel) (by decide +kernel)
theorem q542 : Cond.code yX2_commitAll cX2_commitAll 6 none ∈ tw := tw_at 542 (by decide +kernel) (by decide +kernel)
theorem q546 : Cond.methodLink RX2 58 yX4_digestOf ∈ tw := tw_at 546 (by decide +kernel) (by decide +kernel)
theorem q547 : Cond.methodLink RX2 62 yX4_isTaken ∈ tw := tw_at 547 (by decide +kernel) (by decide +kernel)
theorem q548 : Cond.methodLink RX2 66 yX4_accept ∈ tw := tw_at 548 (by decide +kernel) (by decide +kernel)
theorem q549 : Cond.methodLink RX2 24 yX2_cheat ∈ tw := tw_at 549 (by decide +kernel) (by decide +kernel)
theorem q550 : Cond.static yX2_cheat ∈ tw := tw_at 550 (by decide +kernel) (by decide +kernel)
theorem q551 : Cond.code yX2_cheat cX2_cheat 2 none ∈ tw := tw_at 551 (by decide +kernel) (by decide +kernel)
theorem q552 : Cond.methodLink RX2 82 yX2_memberAfter ∈ tw := tw_at 552 (by decide +kernel) (by decide +kernel)
theorem q553 : Cond.static yX2_memberAfter ∈ tw := tw_at 553 (by decide +kernel) (by decide +kernel)
theorem q554 : Cond.code yX2_memberAfter cX2_memberAfter 4 (some .int) ∈ tw := tw_at 554 (by decide +kernel) (by decide +kernel)
theorem q555 : Cond.methodLink RX2 89 yX5_changeShare ∈ tw := tw_at 555 (by decide +kernel) (by decide +kernel)
theorem q556 : Cond.methodLink RX2 28 yX2_complainAll ∈ tw := tw_at 556 (by decide +kernel) (by decide +kernel)
theorem q557 : Cond.static yX2_complainAll ∈ tw := tw_at 557 (by decide +kernel) (by decide +kernel)
theorem q558 : Cond.code yX2_complainAll cX2_complainAll 3 none ∈ tw := tw_at 558 (by decide +kernel) (by decide +kernel)
theorem q559 : Cond.methodLink RX2 95 yX4_expel ∈ tw := tw_at 559 (by decide +kernel) (by decide +kernel)
theorem q560 : Cond.methodLink RX2 31 yX4_startOpening ∈ tw := tw_at 560 (by decide +kernel) (by decide +kernel)
theorem q561 : Cond.methodLink RX2 35 yX2_openHonest ∈ tw := tw_at 561 (by decide +kernel) (by decide +kernel)
theorem q562 : Cond.static yX2_openHonest ∈ tw := tw_at 562 (by decide +kernel) (by decide +kernel)
theorem q563 : Cond.code yX2_openHonest cX2_openHonest 3 none ∈ tw := tw_at 563 (by decide +kernel) (by decide +kernel)
theorem q564 : Cond.methodLink RX2 38 yX2_openSelfish ∈ tw := tw_at 564 (by decide +kernel) (by decide +kernel)
theorem q565 : Cond.static yX2_openSelfish ∈ tw := tw_at 565 (by decide +kernel) (by decide +kernel)
theorem q566 : Cond.code yX2_openSelfish cX2_openSelfish 3 none ∈ tw := tw_at 566 (by decide +kernel) (by decide +kernel)
theorem q567 : Cond.methodLink RX2 102 yX2_givesOne ∈ tw := tw_at 567 (by decide +kernel) (by decide +kernel)
theorem q568 : Cond.static yX2_givesOne ∈ tw := tw_at 568 (by decide +kernel) (by decide +kernel)
theorem q569 : Cond.code yX2_givesOne cX2_givesOne 3 (some .boolean) ∈ tw := tw_at 569 (by decide +kernel) (by decide +kernel)
theorem q570 : Cond.methodLink RX2 106 yX4_countedIf ∈ tw := tw_at 570 (by decide +kernel) (by decide +kernel)
theorem q571 : Cond.methodLink RX2 113 yX4_mixed ∈ tw := tw_at 571 (by decide +kernel) (by decide +kernel)
theorem q572 : Cond.methodLink RX2 41 yX4_finish ∈ tw := tw_at 572 (by decide +kernel) (by decide +kernel)
theorem q573 : Cond.methodLink RL 73 yX7_phase ∈ tw := tw_at 573 (by decide +kernel) (by decide +kernel)
theorem q574 : Cond.instanceMethod yX7_phase ∈ tw := tw_at 574 (by decide +kernel) (by decide +kernel)
theorem q575 : Cond.selects RX7 yX7_phase yX7_phase ∈ tw := tw_at 575 (by decide +kernel) (by decide +kernel)
theorem q576 : Cond.code yX7_phase cX7_phase 1 (some .int) ∈ tw := tw_at 576 (by decide +kernel) (by decide +kernel)
theorem q577 : Cond.methodLink RL 77 yX7_set ∈ tw := tw_at 577 (by decide +kernel) (by decide +kernel)
theorem q578 : Cond.instanceMethod yX7_set ∈ tw := tw_at 578 (by decide +kernel) (by decide +kernel)
theorem q579 : Cond.selects RX7 yX7_set yX7_set ∈ tw := tw_at 579 (by decide +kernel) (by decide +kernel)
theorem q580 : Cond.code yX7_set cX7_set 2 (some .int) ∈ tw := tw_at 580 (by decide +kernel) (by decide +kernel)
theorem q581 : Cond.methodLink RL 81 yX7_digest ∈ tw := tw_at 581 (by decide +kernel) (by decide +kernel)
theorem q582 : Cond.instanceMethod yX7_digest ∈ tw := tw_at 582 (by decide +kernel) (by decide +kernel)
theorem q583 : Cond.selects RX7 yX7_digest yX7_digest ∈ tw := tw_at 583 (by decide +kernel) (by decide +kernel)
theorem q584 : Cond.code yX7_digest cX7_digest 2 (some .int) ∈ tw := tw_at 584 (by decide +kernel) (by decide +kernel)
theorem q585 : Cond.methodLink RX7 162 yX4_isCommitted ∈ tw := tw_at 585 (by decide +kernel) (by decide +kernel)
theorem q586 : Cond.methodLink RL 85 yX7_share ∈ tw := tw_at 586 (by decide +kernel) (by decide +kernel)
theorem q587 : Cond.instanceMethod yX7_share ∈ tw := tw_at 587 (by decide +kernel) (by decide +kernel)
theorem q588 : Cond.selects RX7 yX7_share yX7_share ∈ tw := tw_at 588 (by decide +kernel) (by decide +kernel)
theorem q589 : Cond.code yX7_share cX7_share 3 (some .int) ∈ tw := tw_at 589 (by decide +kernel) (by decide +kernel)
theorem q590 : Cond.methodLink RL 89 yX7_isRight ∈ tw := tw_at 590 (by decide +kernel) (by decide +kernel)
theorem q591 : Cond.instanceMethod yX7_isRight ∈ tw := tw_at 591 (by decide +kernel) (by decide +kernel)
theorem q592 : Cond.selects RX7 yX7_isRight yX7_isRight ∈ tw := tw_at 592 (by decide +kernel) (by decide +kernel)
theorem q593 : Cond.code yX7_isRight cX7_isRight 3 (some .int) ∈ tw := tw_at 593 (by decide +kernel) (by decide +kernel)
theorem q594 : Cond.methodLink RL 93 yX7_check ∈ tw := tw_at 594 (by decide +kernel) (by decide +kernel)
theorem q595 : Cond.instanceMethod yX7_check ∈ tw := tw_at 595 (by decide +kernel) (by decide +kernel)
theorem q596 : Cond.selects RX7 yX7_check yX7_check ∈ tw := tw_at 596 (by decide +kernel) (by decide +kernel)
theorem q597 : Cond.code yX7_check cX7_check 3 (some .int) ∈ tw := tw_at 597 (by decide +kernel) (by decide +kernel)
theorem q598 : Cond.methodLink RX7 168 yX4_hasDealt ∈ tw := tw_at 598 (by decide +kernel) (by decide +kernel)
theorem q599 : Cond.methodLink RL 97 yX7_recover ∈ tw := tw_at 599 (by decide +kernel) (by decide +kernel)
theorem q600 : Cond.instanceMethod yX7_recover ∈ tw := tw_at 600 (by decide +kernel) (by decide +kernel)
theorem q601 : Cond.selects RX7 yX7_recover yX7_recover ∈ tw := tw_at 601 (by decide +kernel) (by decide +kernel)
theorem q602 : Cond.code yX7_recover cX7_recover 4 (some .int) ∈ tw := tw_at 602 (by decide +kernel) (by decide +kernel)
theorem q603 : Cond.methodLink RX7 174 yJ6_bitCount_0f7a4 ∈ tw := tw_at 603 (by decide +kernel) (by decide +kernel)
theorem q604 : Cond.methodLink RX7 179 yX7_smallest ∈ tw := tw_at 604 (by decide +kernel) (by decide +kernel)
theorem q605 : Cond.static yX7_smallest ∈ tw := tw_at 605 (by decide +kernel) (by decide +kernel)
theorem q606 : Cond.code yX7_smallest cX7_smallest 4 (some .int) ∈ tw := tw_at 606 (by decide +kernel) (by decide +kernel)
theorem q607 : Cond.methodLink RX7 182 yX5_valueAtZero ∈ tw := tw_at 607 (by decide +kernel) (by decide +kernel)
theorem q608 : Cond.instanceMethod yX5_valueAtZero ∈ tw := tw_at 608 (by decide +kernel) (by decide +kernel)
theorem q609 : Cond.selects RX5 yX5_valueAtZero yX5_valueAtZero ∈ tw := tw_at 609 (by decide +kernel) (by decide +kernel)
theorem q610 : Cond.code yX5_valueAtZero cX5_valueAtZero 4 (some .int) ∈ tw := tw_at 610 (by decide +kernel) (by decide +kernel)
theorem q612 : Cond.methodLink RX5 82 yX5_weight ∈ tw := tw_at 612 (by decide +kernel) (by decide +kernel)
theorem q613 : Cond.static yX5_weight ∈ tw := tw_at 613 (by decide +kernel) (by decide +kernel)
theorem q614 : Cond.code yX5_weight cX5_weight 5 (some .int) ∈ tw := tw_at 614 (by decide +kernel) (by decide +kernel)
theorem q615 : Cond.methodLink RL 101 yX7_lock ∈ tw := tw_at 615 (by decide +kernel) (by decide +kernel)
theorem q616 : Cond.instanceMethod yX7_lock ∈ tw := tw_at 616 (by decide +kernel) (by decide +kernel)
theorem q617 : Cond.selects RX7 yX7_lock yX7_lock ∈ tw := tw_at 617 (by decide +kernel) (by decide +kernel)
theorem q618 : Cond.code yX7_lock cX7_lock 3 (some .int) ∈ tw := tw_at 618 (by decide +kernel) (by decide +kernel)
theorem q619 : Cond.methodLink RL 105 yX7_results ∈ tw := tw_at 619 (by decide +kernel) (by decide +kernel)
theorem q620 : Cond.instanceMethod yX7_results ∈ tw := tw_at 620 (by decide +kernel) (by decide +kernel)
theorem q621 : Cond.selects RX7 yX7_results yX7_results ∈ tw := tw_at 621 (by decide +kernel) (by decide +kernel)
theorem q622 : Cond.code yX7_results cX7_results 2 (some .int) ∈ tw := tw_at 622 (by decide +kernel) (by decide +kernel)
theorem q623 : Cond.methodLink RX7 191 yX4_canConspire ∈ tw := tw_at 623 (by decide +kernel) (by decide +kernel)
theorem q624 : Cond.instanceMethod yX4_canConspire ∈ tw := tw_at 624 (by decide +kernel) (by decide +kernel)
theorem q625 : Cond.selects RX4 yX4_canConspire yX4_canConspire ∈ tw := tw_at 625 (by decide +kernel) (by decide +kernel)
theorem q626 : Cond.code yX4_canConspire cX4_canConspire 2 (some .boolean) ∈ tw := tw_at 626 (by decide +kernel) (by decide +kernel)
theorem q627 : Cond.methodLink RX7 194 yX1_gather ∈ tw := tw_at 627 (by decide +kernel) (by decide +kernel)
theorem q628 : Cond.instanceMethod yX1_gather ∈ tw := tw_at 628 (by decide +kernel) (by decide +kernel)
theorem q629 : Cond.selects RX1 yX1_gather yX1_gather ∈ tw := tw_at 629 (by decide +kernel) (by decide +kernel)
theorem q630 : Cond.code yX1_gather cX1_gather 5 none ∈ tw := tw_at 630 (by decide +kernel) (by decide +kernel)
theorem q631 : Cond.methodLink RX1 34 yX4_countedIf ∈ tw := tw_at 631 (by decide +kernel) (by decide +kernel)
theorem q632 : Cond.methodLink RX1 38 yX1_add ∈ tw := tw_at 632 (by decide +kernel) (by decide +kernel)
theorem q634 : Cond.instanceMethod yX1_add ∈ tw := tw_at 634 (by decide +kernel) (by decide +kernel)
theorem q635 : Cond.code yX1_add cX1_add 3 none ∈ tw := tw_at 635 (by decide +kernel) (by decide +kernel)
theorem q636 : Cond.methodLink RX7 198 yX1_countResults ∈ tw := tw_at 636 (by decide +kernel) (by decide +kernel)
theorem q637 : Cond.instanceMethod yX1_countResults ∈ tw := tw_at 637 (by decide +kernel) (by decide +kernel)
theorem q638 : Cond.selects RX1 yX1_countResults yX1_countResults ∈ tw := tw_at 638 (by decide +kernel) (by decide +kernel)
theorem q639 : Cond.code yX1_countResults cX1_countResults 4 (some .int) ∈ tw := tw_at 639 (by decide +kernel) (by decide +kernel)
theorem q640 : Cond.methodLink RX1 43 yX4_mixed ∈ tw := tw_at 640 (by decide +kernel) (by decide +kernel)
theorem q641 : Cond.methodLink RX1 47 yX1_isNew ∈ tw := tw_at 641 (by decide +kernel) (by decide +kernel)
theorem q643 : Cond.instanceMethod yX1_isNew ∈ tw := tw_at 643 (by decide +kernel) (by decide +kernel)
theorem q644 : Cond.code yX1_isNew cX1_isNew 3 (some .boolean) ∈ tw := tw_at 644 (by decide +kernel) (by decide +kernel)
theorem q645 : Cond.methodLink RL 109 yX7_canForce ∈ tw := tw_at 645 (by decide +kernel) (by decide +kernel)
theorem q646 : Cond.instanceMethod yX7_canForce ∈ tw := tw_at 646 (by decide +kernel) (by decide +kernel)
theorem q647 : Cond.selects RX7 yX7_canForce yX7_canForce ∈ tw := tw_at 647 (by decide +kernel) (by decide +kernel)
theorem q648 : Cond.code yX7_canForce cX7_canForce 3 (some .int) ∈ tw := tw_at 648 (by decide +kernel) (by decide +kernel)
theorem q649 : Cond.methodLink RX7 202 yX1_reaches ∈ tw := tw_at 649 (by decide +kernel) (by decide +kernel)
theorem q650 : Cond.instanceMethod yX1_reaches ∈ tw := tw_at 650 (by decide +kernel) (by decide +kernel)
theorem q651 : Cond.selects RX1 yX1_reaches yX1_reaches ∈ tw := tw_at 651 (by decide +kernel) (by decide +kernel)
theorem q652 : Cond.code yX1_reaches cX1_reaches 5 (some .boolean) ∈ tw := tw_at 652 (by decide +kernel) (by decide +kernel)
theorem q653 : Cond.methodLink RL 113 yX7_bias ∈ tw := tw_at 653 (by decide +kernel) (by decide +kernel)
theorem q654 : Cond.instanceMethod yX7_bias ∈ tw := tw_at 654 (by decide +kernel) (by decide +kernel)
theorem q655 : Cond.selects RX7 yX7_bias yX7_bias ∈ tw := tw_at 655 (by decide +kernel) (by decide +kernel)
theorem q656 : Cond.code yX7_bias cX7_bias 4 (some .int) ∈ tw := tw_at 656 (by decide +kernel) (by decide +kernel)
theorem q657 : Cond.methodLink RX7 206 yX1_countForced ∈ tw := tw_at 657 (by decide +kernel) (by decide +kernel)
theorem q658 : Cond.instanceMethod yX1_countForced ∈ tw := tw_at 658 (by decide +kernel) (by decide +kernel)
theorem q659 : Cond.selects RX1 yX1_countForced yX1_countForced ∈ tw := tw_at 659 (by decide +kernel) (by decide +kernel)
theorem q660 : Cond.code yX1_countForced cX1_countForced 7 (some .int) ∈ tw := tw_at 660 (by decide +kernel) (by decide +kernel)
theorem q661 : Cond.methodLink RX1 51 arraycopyName ∈ tw := tw_at 661 (by decide +kernel) (by decide +kernel)
theorem q662 : Cond.methodLink RX1 57 yJ6_bitCount_0f7a4 ∈ tw := tw_at 662 (by decide +kernel) (by decide +kernel)
theorem q663 : Cond.methodLink RX1 62 yX1_spread ∈ tw := tw_at 663 (by decide +kernel) (by decide +kernel)
theorem q665 : Cond.instanceMethod yX1_spread ∈ tw := tw_at 665 (by decide +kernel) (by decide +kernel)
theorem q666 : Cond.code yX1_spread cX1_spread 6 none ∈ tw := tw_at 666 (by decide +kernel) (by decide +kernel)
theorem q668 : Cond.methodLink RX1 66 yX1_reaches ∈ tw := tw_at 668 (by decide +kernel) (by decide +kernel)
theorem q669 : Cond.methodLink RL 117 yX7_slow ∈ tw := tw_at 669 (by decide +kernel) (by decide +kernel)
theorem q670 : Cond.instanceMethod yX7_slow ∈ tw := tw_at 670 (by decide +kernel) (by decide +kernel)
theorem q671 : Cond.selects RX7 yX7_slow yX7_slow ∈ tw := tw_at 671 (by decide +kernel) (by decide +kernel)
theorem q672 : Cond.code yX7_slow cX7_slow 3 (some .int) ∈ tw := tw_at 672 (by decide +kernel) (by decide +kernel)
theorem q673 : Cond.methodLink RX7 210 yX7_isSlowTask ∈ tw := tw_at 673 (by decide +kernel) (by decide +kernel)
theorem q674 : Cond.static yX7_isSlowTask ∈ tw := tw_at 674 (by decide +kernel) (by decide +kernel)
theorem q675 : Cond.code yX7_isSlowTask cX7_isSlowTask 2 (some .boolean) ∈ tw := tw_at 675 (by decide +kernel) (by decide +kernel)
theorem q676 : Cond.constant RX7 228 (100000) ∈ tw := tw_at 676 (by decide +kernel) (by decide +kernel)
theorem q677 : Cond.methodLink RX7 213 yX6_value ∈ tw := tw_at 677 (by decide +kernel) (by decide +kernel)
theorem q678 : Cond.methodLink RL 121 yX7_quick ∈ tw := tw_at 678 (by decide +kernel) (by decide +kernel)
theorem q679 : Cond.instanceMethod yX7_quick ∈ tw := tw_at 679 (by decide +kernel) (by decide +kernel)
theorem q680 : Cond.selects RX7 yX7_quick yX7_quick ∈ tw := tw_at 680 (by decide +kernel) (by decide +kernel)
theorem q681 : Cond.code yX7_quick cX7_quick 3 (some .int) ∈ tw := tw_at 681 (by decide +kernel) (by decide +kernel)
theorem q682 : Cond.constant RX7 218 (1000000000) ∈ tw := tw_at 682 (by decide +kernel) (by decide +kernel)
theorem q683 : Cond.methodLink RX7 219 yX6_valueByFactors ∈ tw := tw_at 683 (by decide +kernel) (by decide +kernel)
theorem q684 : Cond.static yX6_valueByFactors ∈ tw := tw_at 684 (by decide +kernel) (by decide +kernel)
theorem q685 : Cond.code yX6_valueByFactors cX6_valueByFactors 3 (some .int) ∈ tw := tw_at 685 (by decide +kernel) (by decide +kernel)
theorem q686 : Cond.constant RX6 14 (62599708) ∈ tw := tw_at 686 (by decide +kernel) (by decide +kernel)
theorem q688 : Cond.methodLink RL 125 yX7_prime ∈ tw := tw_at 688 (by decide +kernel) (by decide +kernel)
theorem q689 : Cond.instanceMethod yX7_prime ∈ tw := tw_at 689 (by decide +kernel) (by decide +kernel)
theorem q690 : Cond.selects RX7 yX7_prime yX7_prime ∈ tw := tw_at 690 (by decide +kernel) (by decide +kernel)
theorem q691 : Cond.code yX7_prime cX7_prime 3 (some .int) ∈ tw := tw_at 691 (by decide +kernel) (by decide +kernel)
theorem q692 : Cond.methodLink RX7 222 yX6_challenge ∈ tw := tw_at 692 (by decide +kernel) (by decide +kernel)
theorem q693 : Cond.static yX6_challenge ∈ tw := tw_at 693 (by decide +kernel) (by decide +kernel)
theorem q694 : Cond.code yX6_challenge cX6_challenge 2 (some .int) ∈ tw := tw_at 694 (by decide +kernel) (by decide +kernel)
theorem q696 : Cond.methodLink RX6 22 yX6_leastPrime ∈ tw := tw_at 696 (by decide +kernel) (by decide +kernel)
theorem q697 : Cond.static yX6_leastPrime ∈ tw := tw_at 697 (by decide +kernel) (by decide +kernel)
theorem q698 : Cond.code yX6_leastPrime cX6_leastPrime 2 (some .int) ∈ tw := tw_at 698 (by decide +kernel) (by decide +kernel)
theorem q699 : Cond.methodLink RX6 31 yX6_isPrime ∈ tw := tw_at 699 (by decide +kernel) (by decide +kernel)
theorem q700 : Cond.static yX6_isPrime ∈ tw := tw_at 700 (by decide +kernel) (by decide +kernel)
theorem q701 : Cond.code yX6_isPrime cX6_isPrime 2 (some .boolean) ∈ tw := tw_at 701 (by decide +kernel) (by decide +kernel)
theorem q702 : Cond.methodLink RL 129 yX7_proof ∈ tw := tw_at 702 (by decide +kernel) (by decide +kernel)
theorem q703 : Cond.instanceMethod yX7_proof ∈ tw := tw_at 703 (by decide +kernel) (by decide +kernel)
theorem q704 : Cond.selects RX7 yX7_proof yX7_proof ∈ tw := tw_at 704 (by decide +kernel) (by decide +kernel)
theorem q705 : Cond.code yX7_proof cX7_proof 3 (some .int) ∈ tw := tw_at 705 (by decide +kernel) (by decide +kernel)
theorem q706 : Cond.methodLink RX7 225 yX6_evidence ∈ tw := tw_at 706 (by decide +kernel) (by decide +kernel)
theorem q707 : Cond.static yX6_evidence ∈ tw := tw_at 707 (by decide +kernel) (by decide +kernel)
theorem q708 : Cond.code yX6_evidence cX6_evidence 6 (some .int) ∈ tw := tw_at 708 (by decide +kernel) (by decide +kernel)
theorem q709 : Cond.methodLink RL 133 yX7_accepts ∈ tw := tw_at 709 (by decide +kernel) (by decide +kernel)
theorem q710 : Cond.instanceMethod yX7_accepts ∈ tw := tw_at 710 (by decide +kernel) (by decide +kernel)
theorem q711 : Cond.selects RX7 yX7_accepts yX7_accepts ∈ tw := tw_at 711 (by decide +kernel) (by decide +kernel)
theorem q712 : Cond.code yX7_accepts cX7_accepts 5 (some .int) ∈ tw := tw_at 712 (by decide +kernel) (by decide +kernel)
theorem q713 : Cond.constant RX7 229 (62615532) ∈ tw := tw_at 713 (by decide +kernel) (by decide +kernel)
theorem q714 : Cond.methodLink RX7 230 yX6_isProven ∈ tw := tw_at 714 (by decide +kernel) (by decide +kernel)
theorem q715 : Cond.static yX6_isProven ∈ tw := tw_at 715 (by decide +kernel) (by decide +kernel)
theorem q716 : Cond.code yX6_isProven cX6_isProven 6 (some .boolean) ∈ tw := tw_at 716 (by decide +kernel) (by decide +kernel)
theorem q717 : Cond.methodLink RX6 28 yX6_challenge ∈ tw := tw_at 717 (by decide +kernel) (by decide +kernel)
theorem q718 : Cond.methodLink RL 138 yX7_account ∈ tw := tw_at 718 (by decide +kernel) (by decide +kernel)
theorem q719 : Cond.instanceMethod yX7_account ∈ tw := tw_at 719 (by decide +kernel) (by decide +kernel)
theorem q720 : Cond.selects RX7 yX7_account yX7_account ∈ tw := tw_at 720 (by decide +kernel) (by decide +kernel)
theorem q721 : Cond.code yX7_account cX7_account 4 (some .int) ∈ tw := tw_at 721 (by decide +kernel) (by decide +kernel)
theorem q722 : Cond.methodLink RL 142 yX7_pot ∈ tw := tw_at 722 (by decide +kernel) (by decide +kernel)
theorem q723 : Cond.instanceMethod yX7_pot ∈ tw := tw_at 723 (by decide +kernel) (by decide +kernel)
theorem q724 : Cond.selects RX7 yX7_pot yX7_pot ∈ tw := tw_at 724 (by decide +kernel) (by decide +kernel)
theorem q725 : Cond.code yX7_pot cX7_pot 1 (some .int) ∈ tw := tw_at 725 (by decide +kernel) (by decide +kernel)
theorem q726 : Cond.methodLink RL 146 yX7_rounds ∈ tw := tw_at 726 (by decide +kernel) (by decide +kernel)
theorem q727 : Cond.instanceMethod yX7_rounds ∈ tw := tw_at 727 (by decide +kernel) (by decide +kernel)
theorem q728 : Cond.selects RX7 yX7_rounds yX7_rounds ∈ tw := tw_at 728 (by decide +kernel) (by decide +kernel)
theorem q729 : Cond.code yX7_rounds cX7_rounds 1 (some .int) ∈ tw := tw_at 729 (by decide +kernel) (by decide +kernel)
theorem q730 : Cond.methodLink RL 150 yX7_past ∈ tw := tw_at 730 (by decide +kernel) (by decide +kernel)
theorem q731 : Cond.instanceMethod yX7_past ∈ tw := tw_at 731 (by decide +kernel) (by decide +kernel)
theorem q732 : Cond.selects RX7 yX7_past yX7_past ∈ tw := tw_at 732 (by decide +kernel) (by decide +kernel)
theorem q733 : Cond.code yX7_past cX7_past 3 (some .int) ∈ tw := tw_at 733 (by decide +kernel) (by decide +kernel)
theorem q734 : Cond.methodLink RX7 249 yX0_keeps ∈ tw := tw_at 734 (by decide +kernel) (by decide +kernel)
theorem q735 : Cond.instanceMethod yX0_keeps ∈ tw := tw_at 735 (by decide +kernel) (by decide +kernel)
theorem q736 : Cond.selects RX0 yX0_keeps yX0_keeps ∈ tw := tw_at 736 (by decide +kernel) (by decide +kernel)
theorem q737 : Cond.code yX0_keeps cX0_keeps 2 (some .boolean) ∈ tw := tw_at 737 (by decide +kernel) (by decide +kernel)
theorem q738 : Cond.methodLink RX7 252 yX0_entry ∈ tw := tw_at 738 (by decide +kernel) (by decide +kernel)
theorem q739 : Cond.instanceMethod yX0_entry ∈ tw := tw_at 739 (by decide +kernel) (by decide +kernel)
theorem q740 : Cond.selects RX0 yX0_entry yX0_entry ∈ tw := tw_at 740 (by decide +kernel) (by decide +kernel)
theorem q741 : Cond.code yX0_entry cX0_entry 3 (some .int) ∈ tw := tw_at 741 (by decide +kernel) (by decide +kernel)
theorem q742 : Cond.methodLink RL 154 yX7_output ∈ tw := tw_at 742 (by decide +kernel) (by decide +kernel)
theorem q743 : Cond.instanceMethod yX7_output ∈ tw := tw_at 743 (by decide +kernel) (by decide +kernel)
theorem q744 : Cond.selects RX7 yX7_output yX7_output ∈ tw := tw_at 744 (by decide +kernel) (by decide +kernel)
theorem q745 : Cond.code yX7_output cX7_output 2 (some .int) ∈ tw := tw_at 745 (by decide +kernel) (by decide +kernel)
theorem q746 : Cond.methodLink RL 158 yX7_coins ∈ tw := tw_at 746 (by decide +kernel) (by decide +kernel)
theorem q747 : Cond.instanceMethod yX7_coins ∈ tw := tw_at 747 (by decide +kernel) (by decide +kernel)
theorem q748 : Cond.selects RX7 yX7_coins yX7_coins ∈ tw := tw_at 748 (by decide +kernel) (by decide +kernel)
theorem q749 : Cond.code yX7_coins cX7_coins 2 (some .int) ∈ tw := tw_at 749 (by decide +kernel) (by decide +kernel)
theorem q750 : Cond.methodLink RL 162 yX7_longestRun ∈ tw := tw_at 750 (by decide +kernel) (by decide +kernel)
theorem q751 : Cond.instanceMethod yX7_longestRun ∈ tw := tw_at 751 (by decide +kernel) (by decide +kernel)
theorem q752 : Cond.selects RX7 yX7_longestRun yX7_longestRun ∈ tw := tw_at 752 (by decide +kernel) (by decide +kernel)
theorem q753 : Cond.code yX7_longestRun cX7_longestRun 1 (some .int) ∈ tw := tw_at 753 (by decide +kernel) (by decide +kernel)
theorem q754 : Cond.methodLink RL 166 yX7_undo ∈ tw := tw_at 754 (by decide +kernel) (by decide +kernel)
theorem q755 : Cond.instanceMethod yX7_undo ∈ tw := tw_at 755 (by decide +kernel) (by decide +kernel)
theorem q756 : Cond.selects RX7 yX7_undo yX7_undo ∈ tw := tw_at 756 (by decide +kernel) (by decide +kernel)
theorem q757 : Cond.code yX7_undo cX7_undo 1 (some .int) ∈ tw := tw_at 757 (by decide +kernel) (by decide +kernel)
theorem q758 : Cond.methodLink RX7 267 yX3_restore ∈ tw := tw_at 758 (by decide +kernel) (by decide +kernel)
theorem q759 : Cond.instanceMethod yX3_restore ∈ tw := tw_at 759 (by decide +kernel) (by decide +kernel)
theorem q760 : Cond.selects RX3 yX3_restore yX3_restore ∈ tw := tw_at 760 (by decide +kernel) (by decide +kernel)
theorem q761 : Cond.code yX3_restore cX3_restore 2 none ∈ tw := tw_at 761 (by decide +kernel) (by decide +kernel)
theorem q762 : Cond.methodLink RL 170 yX7_fingerprint ∈ tw := tw_at 762 (by decide +kernel) (by decide +kernel)
theorem q763 : Cond.instanceMethod yX7_fingerprint ∈ tw := tw_at 763 (by decide +kernel) (by decide +kernel)
theorem q764 : Cond.selects RX7 yX7_fingerprint yX7_fingerprint ∈ tw := tw_at 764 (by decide +kernel) (by decide +kernel)
theorem q765 : Cond.code yX7_fingerprint cX7_fingerprint 5 (some .long) ∈ tw := tw_at 765 (by decide +kernel) (by decide +kernel)
theorem q766 : Cond.constantLong RX7 270 (23) ∈ tw := tw_at 766 (by decide +kernel) (by decide +kernel)
theorem q767 : Cond.constantLong RX7 272 (31) ∈ tw := tw_at 767 (by decide +kernel) (by decide +kernel)
theorem q768 : Cond.methodLink RX7 274 yX7_phase ∈ tw := tw_at 768 (by decide +kernel) (by decide +kernel)
theorem q769 : Cond.methodLink RX7 276 yX7_rounds ∈ tw := tw_at 769 (by decide +kernel) (by decide +kernel)
theorem q770 : Cond.methodLink RX7 279 yX7_pot ∈ tw := tw_at 770 (by decide +kernel) (by decide +kernel)
theorem q771 : Cond.methodLink RX7 284 yX7_account ∈ tw := tw_at 771 (by decide +kernel) (by decide +kernel)
theorem q772 : Cond.methodLink RX7 287 yX7_set ∈ tw := tw_at 772 (by decide +kernel) (by decide +kernel)
theorem q773 : Cond.methodLink RX7 290 yX7_digest ∈ tw := tw_at 773 (by decide +kernel) (by decide +kernel)
theorem q774 : Cond.classLink RL 10 RX8 ∈ tw := tw_at 774 (by decide +kernel) (by decide +kernel)
theorem q775 : Cond.instantiable RX8 7 ∈ tw := tw_at 775 (by decide +kernel) (by decide +kernel)
theorem q776 : Cond.methodLink RL 12 yX8_init ∈ tw := tw_at 776 (by decide +kernel) (by decide +kernel)
theorem q777 : Cond.instanceMethod yX8_init ∈ tw := tw_at 777 (by decide +kernel) (by decide +kernel)
theorem q778 : Cond.code yX8_init cX8_init 1 none ∈ tw := tw_at 778 (by decide +kernel) (by decide +kernel)
theorem q779 : Cond.methodLink RX8 1 objectInit ∈ tw := tw_at 779 (by decide +kernel) (by decide +kernel)
theorem q780 : Cond.fieldLink RX8 7 "OwnerlessCoinModel" "v" "[I" ∈ tw := tw_at 780 (by decide +kernel) (by decide +kernel)
theorem q781 : Cond.fieldLink RX8 13 "OwnerlessCoinModel" "past" "[I" ∈ tw := tw_at 781 (by decide +kernel) (by decide +kernel)
theorem q782 : Cond.fieldLink RX8 22 "OwnerlessCoinModel" "pastMany" "I" ∈ tw := tw_at 782 (by decide +kernel) (by decide +kernel)
theorem q783 : Cond.fieldLink RX8 16 "OwnerlessCoinModel" "tried" "[I" ∈ tw := tw_at 783 (by decide +kernel) (by decide +kernel)
theorem q784 : Cond.fieldLink RX8 134 "OwnerlessCoinModel" "fails" "Z" ∈ tw := tw_at 784 (by decide +kernel) (by decide +kernel)
theorem q785 : Cond.fieldLink RX8 28 "OwnerlessCoinModel" "drawn" "I" ∈ tw := tw_at 785 (by decide +kernel) (by decide +kernel)
theorem q786 : Cond.fieldLink RX8 19 "OwnerlessCoinModel" "outputs" "[I" ∈ tw := tw_at 786 (by decide +kernel) (by decide +kernel)
theorem q802 : Cond.methodLink RL 17 yX8_addParticipant ∈ tw := tw_at 802 (by decide +kernel) (by decide +kernel)
theorem q803 : Cond.instanceMethod yX8_addParticipant ∈ tw := tw_at 803 (by decide +kernel) (by decide +kernel)
theorem q804 : Cond.selects RX8 yX8_addParticipant yX8_addParticipant ∈ tw := tw_at 804 (by decide +kernel) (by decide +kernel)
theorem q805 : Cond.code yX8_addParticipant cX8_addParticipant 2 (some .int) ∈ tw := tw_at 805 (by decide +kernel) (by decide +kernel)
theorem q806 : Cond.constant RX8 47 (1000000) ∈ tw := tw_at 806 (by decide +kernel) (by decide +kernel)
theorem q807 : Cond.methodLink RX8 31 yX8_in ∈ tw := tw_at 807 (by decide +kernel) (by decide +kernel)
theorem q808 : Cond.static yX8_in ∈ tw := tw_at 808 (by decide +kernel) (by decide +kernel)
theorem q809 : Cond.code yX8_in cX8_in 3 (some .boolean) ∈ tw := tw_at 809 (by decide +kernel) (by decide +kernel)
theorem q810 : Cond.methodLink RX8 48 yX8_act ∈ tw := tw_at 810 (by decide +kernel) (by decide +kernel)
theorem q812 : Cond.instanceMethod yX8_act ∈ tw := tw_at 812 (by decide +kernel) (by decide +kernel)
theorem q813 : Cond.code yX8_act cX8_act 2 none ∈ tw := tw_at 813 (by decide +kernel) (by decide +kernel)
theorem q814 : Cond.methodLink RX8 35 yX8_person ∈ tw := tw_at 814 (by decide +kernel) (by decide +kernel)
theorem q815 : Cond.static yX8_person ∈ tw := tw_at 815 (by decide +kernel) (by decide +kernel)
theorem q816 : Cond.code yX8_person cX8_person 1 (some .int) ∈ tw := tw_at 816 (by decide +kernel) (by decide +kernel)
theorem q817 : Cond.methodLink RL 22 yX8_behave ∈ tw := tw_at 817 (by decide +kernel) (by decide +kernel)
theorem q818 : Cond.instanceMethod yX8_behave ∈ tw := tw_at 818 (by decide +kernel) (by decide +kernel)
theorem q819 : Cond.selects RX8 yX8_behave yX8_behave ∈ tw := tw_at 819 (by decide +kernel) (by decide +kernel)
theorem q820 : Cond.code yX8_behave cX8_behave 3 (some .int) ∈ tw := tw_at 820 (by decide +kernel) (by decide +kernel)
theorem q821 : Cond.methodLink RX8 39 yX8_isPerson ∈ tw := tw_at 821 (by decide +kernel) (by decide +kernel)
theorem q823 : Cond.instanceMethod yX8_isPerson ∈ tw := tw_at 823 (by decide +kernel) (by decide +kernel)
theorem q824 : Cond.code yX8_isPerson cX8_isPerson 2 (some .boolean) ∈ tw := tw_at 824 (by decide +kernel) (by decide +kernel)
theorem q825 : Cond.methodLink RX8 51 yX8_sets ∈ tw := tw_at 825 (by decide +kernel) (by decide +kernel)
theorem q827 : Cond.instanceMethod yX8_sets ∈ tw := tw_at 827 (by decide +kernel) (by decide +kernel)
theorem q828 : Cond.code yX8_sets cX8_sets 4 (some .int) ∈ tw := tw_at 828 (by decide +kernel) (by decide +kernel)
theorem q829 : Cond.methodLink RL 26 yX8_setMethod ∈ tw := tw_at 829 (by decide +kernel) (by decide +kernel)
theorem q830 : Cond.instanceMethod yX8_setMethod ∈ tw := tw_at 830 (by decide +kernel) (by decide +kernel)
theorem q831 : Cond.selects RX8 yX8_setMethod yX8_setMethod ∈ tw := tw_at 831 (by decide +kernel) (by decide +kernel)
theorem q832 : Cond.code yX8_setMethod cX8_setMethod 2 (some .int) ∈ tw := tw_at 832 (by decide +kernel) (by decide +kernel)
theorem q833 : Cond.methodLink RX8 55 yX8_settles ∈ tw := tw_at 833 (by decide +kernel) (by decide +kernel)
theorem q835 : Cond.instanceMethod yX8_settles ∈ tw := tw_at 835 (by decide +kernel) (by decide +kernel)
theorem q836 : Cond.code yX8_settles cX8_settles 5 (some .int) ∈ tw := tw_at 836 (by decide +kernel) (by decide +kernel)
theorem q837 : Cond.methodLink RL 30 yX8_setThreshold ∈ tw := tw_at 837 (by decide +kernel) (by decide +kernel)
theorem q838 : Cond.instanceMethod yX8_setThreshold ∈ tw := tw_at 838 (by decide +kernel) (by decide +kernel)
theorem q839 : Cond.selects RX8 yX8_setThreshold yX8_setThreshold ∈ tw := tw_at 839 (by decide +kernel) (by decide +kernel)
theorem q840 : Cond.code yX8_setThreshold cX8_setThreshold 2 (some .int) ∈ tw := tw_at 840 (by decide +kernel) (by decide +kernel)
theorem q841 : Cond.methodLink RL 34 yX8_setFine ∈ tw := tw_at 841 (by decide +kernel) (by decide +kernel)
theorem q842 : Cond.instanceMethod yX8_setFine ∈ tw := tw_at 842 (by decide +kernel) (by decide +kernel)
theorem q843 : Cond.selects RX8 yX8_setFine yX8_setFine ∈ tw := tw_at 843 (by decide +kernel) (by decide +kernel)
theorem q844 : Cond.code yX8_setFine cX8_setFine 2 (some .int) ∈ tw := tw_at 844 (by decide +kernel) (by decide +kernel)
theorem q845 : Cond.methodLink RL 38 yX8_setDelay ∈ tw := tw_at 845 (by decide +kernel) (by decide +kernel)
theorem q846 : Cond.instanceMethod yX8_setDelay ∈ tw := tw_at 846 (by decide +kernel) (by decide +kernel)
theorem q847 : Cond.selects RX8 yX8_setDelay yX8_setDelay ∈ tw := tw_at 847 (by decide +kernel) (by decide +kernel)
theorem q848 : Cond.code yX8_setDelay cX8_setDelay 2 (some .int) ∈ tw := tw_at 848 (by decide +kernel) (by decide +kernel)
theorem q849 : Cond.methodLink RL 43 yX8_begin ∈ tw := tw_at 849 (by decide +kernel) (by decide +kernel)
theorem q850 : Cond.instanceMethod yX8_begin ∈ tw := tw_at 850 (by decide +kernel) (by decide +kernel)
theorem q851 : Cond.selects RX8 yX8_begin yX8_begin ∈ tw := tw_at 851 (by decide +kernel) (by decide +kernel)
theorem q852 : Cond.code yX8_begin cX8_begin 1 (some .int) ∈ tw := tw_at 852 (by decide +kernel) (by decide +kernel)
theorem q853 : Cond.methodLink RX8 59 yX8_mayBegin ∈ tw := tw_at 853 (by decide +kernel) (by decide +kernel)
theorem q855 : Cond.instanceMethod yX8_mayBegin ∈ tw := tw_at 855 (by decide +kernel) (by decide +kernel)
theorem q856 : Cond.code yX8_mayBegin cX8_mayBegin 3 (some .boolean) ∈ tw := tw_at 856 (by decide +kernel) (by decide +kernel)
theorem q857 : Cond.methodLink RX8 63 yX8_begins ∈ tw := tw_at 857 (by decide +kernel) (by decide +kernel)
theorem q859 : Cond.instanceMethod yX8_begins ∈ tw := tw_at 859 (by decide +kernel) (by decide +kernel)
theorem q860 : Cond.code yX8_begins cX8_begins 3 none ∈ tw := tw_at 860 (by decide +kernel) (by decide +kernel)
theorem q861 : Cond.methodLink RL 48 yX8_commit ∈ tw := tw_at 861 (by decide +kernel) (by decide +kernel)
theorem q862 : Cond.instanceMethod yX8_commit ∈ tw := tw_at 862 (by decide +kernel) (by decide +kernel)
theorem q863 : Cond.selects RX8 yX8_commit yX8_commit ∈ tw := tw_at 863 (by decide +kernel) (by decide +kernel)
theorem q864 : Cond.code yX8_commit cX8_commit 4 (some .int) ∈ tw := tw_at 864 (by decide +kernel) (by decide +kernel)
theorem q865 : Cond.methodLink RX8 43 yX8_has ∈ tw := tw_at 865 (by decide +kernel) (by decide +kernel)
theorem q867 : Cond.instanceMethod yX8_has ∈ tw := tw_at 867 (by decide +kernel) (by decide +kernel)
theorem q868 : Cond.code yX8_has cX8_has 3 (some .boolean) ∈ tw := tw_at 868 (by decide +kernel) (by decide +kernel)
theorem q869 : Cond.methodLink RX8 76 yX8_digestOf ∈ tw := tw_at 869 (by decide +kernel) (by decide +kernel)
theorem q871 : Cond.instanceMethod yX8_digestOf ∈ tw := tw_at 871 (by decide +kernel) (by decide +kernel)
theorem q872 : Cond.code yX8_digestOf cX8_digestOf 3 (some .int) ∈ tw := tw_at 872 (by decide +kernel) (by decide +kernel)
theorem q873 : Cond.methodLink RX8 66 yX8_mix ∈ tw := tw_at 873 (by decide +kernel) (by decide +kernel)
theorem q874 : Cond.static yX8_mix ∈ tw := tw_at 874 (by decide +kernel) (by decide +kernel)
theorem q875 : Cond.code yX8_mix cX8_mix 3 (some .int) ∈ tw := tw_at 875 (by decide +kernel) (by decide +kernel)
theorem q876 : Cond.constant RX8 26 (-1640531535) ∈ tw := tw_at 876 (by decide +kernel) (by decide +kernel)
theorem q877 : Cond.methodLink RX8 89 yX8_isCopy ∈ tw := tw_at 877 (by decide +kernel) (by decide +kernel)
theorem q879 : Cond.instanceMethod yX8_isCopy ∈ tw := tw_at 879 (by decide +kernel) (by decide +kernel)
theorem q880 : Cond.code yX8_isCopy cX8_isCopy 5 (some .boolean) ∈ tw := tw_at 880 (by decide +kernel) (by decide +kernel)
theorem q881 : Cond.methodLink RX8 92 yX8_commits ∈ tw := tw_at 881 (by decide +kernel) (by decide +kernel)
theorem q883 : Cond.instanceMethod yX8_commits ∈ tw := tw_at 883 (by decide +kernel) (by decide +kernel)
theorem q884 : Cond.code yX8_commits cX8_commits 5 none ∈ tw := tw_at 884 (by decide +kernel) (by decide +kernel)
theorem q885 : Cond.methodLink RX8 79 yX8_deals ∈ tw := tw_at 885 (by decide +kernel) (by decide +kernel)
theorem q887 : Cond.instanceMethod yX8_deals ∈ tw := tw_at 887 (by decide +kernel) (by decide +kernel)
theorem q888 : Cond.code yX8_deals cX8_deals 4 none ∈ tw := tw_at 888 (by decide +kernel) (by decide +kernel)
theorem q889 : Cond.methodLink RX8 69 yX8_draw ∈ tw := tw_at 889 (by decide +kernel) (by decide +kernel)
theorem q891 : Cond.instanceMethod yX8_draw ∈ tw := tw_at 891 (by decide +kernel) (by decide +kernel)
theorem q892 : Cond.code yX8_draw cX8_draw 1 (some .int) ∈ tw := tw_at 892 (by decide +kernel) (by decide +kernel)
theorem q893 : Cond.constant RX8 27 (1103515245) ∈ tw := tw_at 893 (by decide +kernel) (by decide +kernel)
theorem q894 : Cond.methodLink RX8 73 yX8_valueAt ∈ tw := tw_at 894 (by decide +kernel) (by decide +kernel)
theorem q896 : Cond.instanceMethod yX8_valueAt ∈ tw := tw_at 896 (by decide +kernel) (by decide +kernel)
theorem q897 : Cond.code yX8_valueAt cX8_valueAt 5 (some .int) ∈ tw := tw_at 897 (by decide +kernel) (by decide +kernel)
theorem q898 : Cond.methodLink RX8 83 yX8_squares ∈ tw := tw_at 898 (by decide +kernel) (by decide +kernel)
theorem q899 : Cond.static yX8_squares ∈ tw := tw_at 899 (by decide +kernel) (by decide +kernel)
theorem q900 : Cond.code yX8_squares cX8_squares 5 (some .long) ∈ tw := tw_at 900 (by decide +kernel) (by decide +kernel)
theorem q901 : Cond.constantLong RX8 180 (62615533) ∈ tw := tw_at 901 (by decide +kernel) (by decide +kernel)
theorem q902 : Cond.constantLong RX8 87 (1019) ∈ tw := tw_at 902 (by decide +kernel) (by decide +kernel)
theorem q903 : Cond.constant RX8 96 (1073741823) ∈ tw := tw_at 903 (by decide +kernel) (by decide +kernel)
theorem q904 : Cond.methodLink RL 52 yX8_spoil ∈ tw := tw_at 904 (by decide +kernel) (by decide +kernel)
theorem q905 : Cond.instanceMethod yX8_spoil ∈ tw := tw_at 905 (by decide +kernel) (by decide +kernel)
theorem q906 : Cond.selects RX8 yX8_spoil yX8_spoil ∈ tw := tw_at 906 (by decide +kernel) (by decide +kernel)
theorem q907 : Cond.code yX8_spoil cX8_spoil 4 (some .int) ∈ tw := tw_at 907 (by decide +kernel) (by decide +kernel)
theorem q908 : Cond.methodLink RX8 106 yX8_hasShare ∈ tw := tw_at 908 (by decide +kernel) (by decide +kernel)
theorem q910 : Cond.instanceMethod yX8_hasShare ∈ tw := tw_at 910 (by decide +kernel) (by decide +kernel)
theorem q911 : Cond.code yX8_hasShare cX8_hasShare 3 (some .boolean) ∈ tw := tw_at 911 (by decide +kernel) (by decide +kernel)
theorem q912 : Cond.methodLink RX8 100 yX8_hasShares ∈ tw := tw_at 912 (by decide +kernel) (by decide +kernel)
theorem q914 : Cond.instanceMethod yX8_hasShares ∈ tw := tw_at 914 (by decide +kernel) (by decide +kernel)
theorem q915 : Cond.code yX8_hasShares cX8_hasShares 2 (some .boolean) ∈ tw := tw_at 915 (by decide +kernel) (by decide +kernel)
theorem q916 : Cond.methodLink RX8 97 yX8_isMember ∈ tw := tw_at 916 (by decide +kernel) (by decide +kernel)
theorem q918 : Cond.instanceMethod yX8_isMember ∈ tw := tw_at 918 (by decide +kernel) (by decide +kernel)
theorem q919 : Cond.code yX8_isMember cX8_isMember 2 (some .boolean) ∈ tw := tw_at 919 (by decide +kernel) (by decide +kernel)
theorem q920 : Cond.methodLink RX8 109 yX8_spoils ∈ tw := tw_at 920 (by decide +kernel) (by decide +kernel)
theorem q922 : Cond.instanceMethod yX8_spoils ∈ tw := tw_at 922 (by decide +kernel) (by decide +kernel)
theorem q923 : Cond.code yX8_spoils cX8_spoils 4 none ∈ tw := tw_at 923 (by decide +kernel) (by decide +kernel)
theorem q924 : Cond.methodLink RX8 103 yX8_shareOf ∈ tw := tw_at 924 (by decide +kernel) (by decide +kernel)
theorem q926 : Cond.instanceMethod yX8_shareOf ∈ tw := tw_at 926 (by decide +kernel) (by decide +kernel)
theorem q927 : Cond.code yX8_shareOf cX8_shareOf 3 (some .int) ∈ tw := tw_at 927 (by decide +kernel) (by decide +kernel)
theorem q928 : Cond.methodLink RL 56 yX8_complain ∈ tw := tw_at 928 (by decide +kernel) (by decide +kernel)
theorem q929 : Cond.instanceMethod yX8_complain ∈ tw := tw_at 929 (by decide +kernel) (by decide +kernel)
theorem q930 : Cond.selects RX8 yX8_complain yX8_complain ∈ tw := tw_at 930 (by decide +kernel) (by decide +kernel)
theorem q931 : Cond.code yX8_complain cX8_complain 3 (some .int) ∈ tw := tw_at 931 (by decide +kernel) (by decide +kernel)
theorem q932 : Cond.methodLink RX8 118 yX8_complains ∈ tw := tw_at 932 (by decide +kernel) (by decide +kernel)
theorem q934 : Cond.instanceMethod yX8_complains ∈ tw := tw_at 934 (by decide +kernel) (by decide +kernel)
theorem q935 : Cond.code yX8_complains cX8_complains 3 (some .int) ∈ tw := tw_at 935 (by decide +kernel) (by decide +kernel)
theorem q936 : Cond.methodLink RX8 112 yX8_isGood ∈ tw := tw_at 936 (by decide +kernel) (by decide +kernel)
theorem q938 : Cond.instanceMethod yX8_isGood ∈ tw := tw_at 938 (by decide +kernel) (by decide +kernel)
theorem q939 : Cond.code yX8_isGood cX8_isGood 3 (some .boolean) ∈ tw := tw_at 939 (by decide +kernel) (by decide +kernel)
theorem q940 : Cond.methodLink RX8 115 yX8_pays ∈ tw := tw_at 940 (by decide +kernel) (by decide +kernel)
theorem q942 : Cond.instanceMethod yX8_pays ∈ tw := tw_at 942 (by decide +kernel) (by decide +kernel)
theorem q943 : Cond.code yX8_pays cX8_pays 3 none ∈ tw := tw_at 943 (by decide +kernel) (by decide +kernel)
theorem q944 : Cond.methodLink RL 60 yX8_beginOpening ∈ tw := tw_at 944 (by decide +kernel) (by decide +kernel)
theorem q945 : Cond.instanceMethod yX8_beginOpening ∈ tw := tw_at 945 (by decide +kernel) (by decide +kernel)
theorem q946 : Cond.selects RX8 yX8_beginOpening yX8_beginOpening ∈ tw := tw_at 946 (by decide +kernel) (by decide +kernel)
theorem q947 : Cond.code yX8_beginOpening cX8_beginOpening 1 (some .int) ∈ tw := tw_at 947 (by decide +kernel) (by decide +kernel)
theorem q948 : Cond.methodLink RX8 131 yX8_opensUp ∈ tw := tw_at 948 (by decide +kernel) (by decide +kernel)
theorem q950 : Cond.instanceMethod yX8_opensUp ∈ tw := tw_at 950 (by decide +kernel) (by decide +kernel)
theorem q951 : Cond.code yX8_opensUp cX8_opensUp 2 (some .int) ∈ tw := tw_at 951 (by decide +kernel) (by decide +kernel)
theorem q952 : Cond.methodLink RX8 121 yX8_setOf ∈ tw := tw_at 952 (by decide +kernel) (by decide +kernel)
theorem q954 : Cond.instanceMethod yX8_setOf ∈ tw := tw_at 954 (by decide +kernel) (by decide +kernel)
theorem q955 : Cond.code yX8_setOf cX8_setOf 4 (some .int) ∈ tw := tw_at 955 (by decide +kernel) (by decide +kernel)
theorem q956 : Cond.methodLink RX8 124 yX8_countOf ∈ tw := tw_at 956 (by decide +kernel) (by decide +kernel)
theorem q957 : Cond.static yX8_countOf ∈ tw := tw_at 957 (by decide +kernel) (by decide +kernel)
theorem q958 : Cond.code yX8_countOf cX8_countOf 3 (some .int) ∈ tw := tw_at 958 (by decide +kernel) (by decide +kernel)
theorem q959 : Cond.methodLink RX8 127 yX8_ends ∈ tw := tw_at 959 (by decide +kernel) (by decide +kernel)
theorem q961 : Cond.instanceMethod yX8_ends ∈ tw := tw_at 961 (by decide +kernel) (by decide +kernel)
theorem q962 : Cond.code yX8_ends cX8_ends 6 none ∈ tw := tw_at 962 (by decide +kernel) (by decide +kernel)
theorem q963 : Cond.methodLink RL 64 yX8_open ∈ tw := tw_at 963 (by decide +kernel) (by decide +kernel)
theorem q964 : Cond.instanceMethod yX8_open ∈ tw := tw_at 964 (by decide +kernel) (by decide +kernel)
theorem q965 : Cond.selects RX8 yX8_open yX8_open ∈ tw := tw_at 965 (by decide +kernel) (by decide +kernel)
theorem q966 : Cond.code yX8_open cX8_open 5 (some .int) ∈ tw := tw_at 966 (by decide +kernel) (by decide +kernel)
theorem q967 : Cond.methodLink RL 68 yX8_close ∈ tw := tw_at 967 (by decide +kernel) (by decide +kernel)
theorem q968 : Cond.instanceMethod yX8_close ∈ tw := tw_at 968 (by decide +kernel) (by decide +kernel)
theorem q969 : Cond.selects RX8 yX8_close yX8_close ∈ tw := tw_at 969 (by decide +kernel) (by decide +kernel)
theorem q970 : Cond.code yX8_close cX8_close 1 (some .int) ∈ tw := tw_at 970 (by decide +kernel) (by decide +kernel)
theorem q971 : Cond.methodLink RX8 147 yX8_closes ∈ tw := tw_at 971 (by decide +kernel) (by decide +kernel)
theorem q973 : Cond.instanceMethod yX8_closes ∈ tw := tw_at 973 (by decide +kernel) (by decide +kernel)
theorem q974 : Cond.code yX8_closes cX8_closes 8 (some .int) ∈ tw := tw_at 974 (by decide +kernel) (by decide +kernel)
theorem q975 : Cond.methodLink RX8 141 yX8_takesSecrets ∈ tw := tw_at 975 (by decide +kernel) (by decide +kernel)
theorem q977 : Cond.instanceMethod yX8_takesSecrets ∈ tw := tw_at 977 (by decide +kernel) (by decide +kernel)
theorem q978 : Cond.code yX8_takesSecrets cX8_takesSecrets 2 none ∈ tw := tw_at 978 (by decide +kernel) (by decide +kernel)
theorem q979 : Cond.methodLink RX8 144 yX8_outputOf ∈ tw := tw_at 979 (by decide +kernel) (by decide +kernel)
theorem q981 : Cond.instanceMethod yX8_outputOf ∈ tw := tw_at 981 (by decide +kernel) (by decide +kernel)
theorem q982 : Cond.code yX8_outputOf cX8_outputOf 5 (some .int) ∈ tw := tw_at 982 (by decide +kernel) (by decide +kernel)
theorem q983 : Cond.methodLink RX8 138 yX8_rightOnes ∈ tw := tw_at 983 (by decide +kernel) (by decide +kernel)
theorem q985 : Cond.instanceMethod yX8_rightOnes ∈ tw := tw_at 985 (by decide +kernel) (by decide +kernel)
theorem q986 : Cond.code yX8_rightOnes cX8_rightOnes 5 (some .int) ∈ tw := tw_at 986 (by decide +kernel) (by decide +kernel)
theorem q987 : Cond.methodLink RL 72 yX8_play ∈ tw := tw_at 987 (by decide +kernel) (by decide +kernel)
theorem q988 : Cond.instanceMethod yX8_play ∈ tw := tw_at 988 (by decide +kernel) (by decide +kernel)
theorem q989 : Cond.selects RX8 yX8_play yX8_play ∈ tw := tw_at 989 (by decide +kernel) (by decide +kernel)
theorem q990 : Cond.code yX8_play cX8_play 2 (some .int) ∈ tw := tw_at 990 (by decide +kernel) (by decide +kernel)
theorem q991 : Cond.methodLink RX8 156 yX8_plays ∈ tw := tw_at 991 (by decide +kernel) (by decide +kernel)
theorem q993 : Cond.instanceMethod yX8_plays ∈ tw := tw_at 993 (by decide +kernel) (by decide +kernel)
theorem q994 : Cond.code yX8_plays cX8_plays 6 none ∈ tw := tw_at 994 (by decide +kernel) (by decide +kernel)
theorem q995 : Cond.methodLink RX8 159 yX8_cheats ∈ tw := tw_at 995 (by decide +kernel) (by decide +kernel)
theorem q997 : Cond.instanceMethod yX8_cheats ∈ tw := tw_at 997 (by decide +kernel) (by decide +kernel)
theorem q998 : Cond.code yX8_cheats cX8_cheats 4 none ∈ tw := tw_at 998 (by decide +kernel) (by decide +kernel)
theorem q999 : Cond.methodLink RX8 150 yX8_nextMember ∈ tw := tw_at 999 (by decide +kernel) (by decide +kernel)
theorem q1001 : Cond.instanceMethod yX8_nextMember ∈ tw := tw_at 1001 (by decide +kernel) (by decide +kernel)
theorem q1002 : Cond.code yX8_nextMember cX8_nextMember 5 (some .int) ∈ tw := tw_at 1002 (by decide +kernel) (by decide +kernel)
theorem q1003 : Cond.methodLink RX8 162 yX8_decides ∈ tw := tw_at 1003 (by decide +kernel) (by decide +kernel)
theorem q1005 : Cond.instanceMethod yX8_decides ∈ tw := tw_at 1005 (by decide +kernel) (by decide +kernel)
theorem q1006 : Cond.code yX8_decides cX8_decides 4 none ∈ tw := tw_at 1006 (by decide +kernel) (by decide +kernel)
theorem q1007 : Cond.methodLink RX8 153 yX8_coinOf ∈ tw := tw_at 1007 (by decide +kernel) (by decide +kernel)
theorem q1009 : Cond.instanceMethod yX8_coinOf ∈ tw := tw_at 1009 (by decide +kernel) (by decide +kernel)
theorem q1010 : Cond.code yX8_coinOf cX8_coinOf 3 (some .int) ∈ tw := tw_at 1010 (by decide +kernel) (by decide +kernel)
theorem q1011 : Cond.methodLink RL 76 yX8_phase ∈ tw := tw_at 1011 (by decide +kernel) (by decide +kernel)
theorem q1012 : Cond.instanceMethod yX8_phase ∈ tw := tw_at 1012 (by decide +kernel) (by decide +kernel)
theorem q1013 : Cond.selects RX8 yX8_phase yX8_phase ∈ tw := tw_at 1013 (by decide +kernel) (by decide +kernel)
theorem q1014 : Cond.code yX8_phase cX8_phase 1 (some .int) ∈ tw := tw_at 1014 (by decide +kernel) (by decide +kernel)
theorem q1015 : Cond.methodLink RL 80 yX8_set ∈ tw := tw_at 1015 (by decide +kernel) (by decide +kernel)
theorem q1016 : Cond.instanceMethod yX8_set ∈ tw := tw_at 1016 (by decide +kernel) (by decide +kernel)
theorem q1017 : Cond.selects RX8 yX8_set yX8_set ∈ tw := tw_at 1017 (by decide +kernel) (by decide +kernel)
theorem q1018 : Cond.code yX8_set cX8_set 2 (some .int) ∈ tw := tw_at 1018 (by decide +kernel) (by decide +kernel)
theorem q1019 : Cond.methodLink RX8 165 yX8_setNumber ∈ tw := tw_at 1019 (by decide +kernel) (by decide +kernel)
theorem q1021 : Cond.instanceMethod yX8_setNumber ∈ tw := tw_at 1021 (by decide +kernel) (by decide +kernel)
theorem q1022 : Cond.code yX8_setNumber cX8_setNumber 3 (some .int) ∈ tw := tw_at 1022 (by decide +kernel) (by decide +kernel)
theorem q1023 : Cond.methodLink RL 84 yX8_digest ∈ tw := tw_at 1023 (by decide +kernel) (by decide +kernel)
theorem q1024 : Cond.instanceMethod yX8_digest ∈ tw := tw_at 1024 (by decide +kernel) (by decide +kernel)
theorem q1025 : Cond.selects RX8 yX8_digest yX8_digest ∈ tw := tw_at 1025 (by decide +kernel) (by decide +kernel)
theorem q1026 : Cond.code yX8_digest cX8_digest 2 (some .int) ∈ tw := tw_at 1026 (by decide +kernel) (by decide +kernel)
theorem q1027 : Cond.methodLink RX8 168 yX8_isIn ∈ tw := tw_at 1027 (by decide +kernel) (by decide +kernel)
theorem q1029 : Cond.instanceMethod yX8_isIn ∈ tw := tw_at 1029 (by decide +kernel) (by decide +kernel)
theorem q1030 : Cond.code yX8_isIn cX8_isIn 2 (some .boolean) ∈ tw := tw_at 1030 (by decide +kernel) (by decide +kernel)
theorem q1031 : Cond.methodLink RL 88 yX8_share ∈ tw := tw_at 1031 (by decide +kernel) (by decide +kernel)
theorem q1032 : Cond.instanceMethod yX8_share ∈ tw := tw_at 1032 (by decide +kernel) (by decide +kernel)
theorem q1033 : Cond.selects RX8 yX8_share yX8_share ∈ tw := tw_at 1033 (by decide +kernel) (by decide +kernel)
theorem q1034 : Cond.code yX8_share cX8_share 3 (some .int) ∈ tw := tw_at 1034 (by decide +kernel) (by decide +kernel)
theorem q1035 : Cond.methodLink RL 92 yX8_isRight ∈ tw := tw_at 1035 (by decide +kernel) (by decide +kernel)
theorem q1036 : Cond.instanceMethod yX8_isRight ∈ tw := tw_at 1036 (by decide +kernel) (by decide +kernel)
theorem q1037 : Cond.selects RX8 yX8_isRight yX8_isRight ∈ tw := tw_at 1037 (by decide +kernel) (by decide +kernel)
theorem q1038 : Cond.code yX8_isRight cX8_isRight 3 (some .int) ∈ tw := tw_at 1038 (by decide +kernel) (by decide +kernel)
theorem q1039 : Cond.methodLink RL 96 yX8_check ∈ tw := tw_at 1039 (by decide +kernel) (by decide +kernel)
theorem q1040 : Cond.instanceMethod yX8_check ∈ tw := tw_at 1040 (by decide +kernel) (by decide +kernel)
theorem q1041 : Cond.selects RX8 yX8_check yX8_check ∈ tw := tw_at 1041 (by decide +kernel) (by decide +kernel)
theorem q1042 : Cond.code yX8_check cX8_check 5 (some .int) ∈ tw := tw_at 1042 (by decide +kernel) (by decide +kernel)
theorem q1043 : Cond.methodLink RL 100 yX8_recover ∈ tw := tw_at 1043 (by decide +kernel) (by decide +kernel)
theorem q1044 : Cond.instanceMethod yX8_recover ∈ tw := tw_at 1044 (by decide +kernel) (by decide +kernel)
theorem q1045 : Cond.selects RX8 yX8_recover yX8_recover ∈ tw := tw_at 1045 (by decide +kernel) (by decide +kernel)
theorem q1046 : Cond.code yX8_recover cX8_recover 8 (some .int) ∈ tw := tw_at 1046 (by decide +kernel) (by decide +kernel)
theorem q1047 : Cond.methodLink RX8 171 yX8_inverse ∈ tw := tw_at 1047 (by decide +kernel) (by decide +kernel)
theorem q1048 : Cond.static yX8_inverse ∈ tw := tw_at 1048 (by decide +kernel) (by decide +kernel)
theorem q1049 : Cond.code yX8_inverse cX8_inverse 2 (some .int) ∈ tw := tw_at 1049 (by decide +kernel) (by decide +kernel)
theorem q1050 : Cond.methodLink RL 104 yX8_lock ∈ tw := tw_at 1050 (by decide +kernel) (by decide +kernel)
theorem q1051 : Cond.instanceMethod yX8_lock ∈ tw := tw_at 1051 (by decide +kernel) (by decide +kernel)
theorem q1052 : Cond.selects RX8 yX8_lock yX8_lock ∈ tw := tw_at 1052 (by decide +kernel) (by decide +kernel)
theorem q1053 : Cond.code yX8_lock cX8_lock 3 (some .int) ∈ tw := tw_at 1053 (by decide +kernel) (by decide +kernel)
theorem q1054 : Cond.methodLink RL 108 yX8_results ∈ tw := tw_at 1054 (by decide +kernel) (by decide +kernel)
theorem q1055 : Cond.instanceMethod yX8_results ∈ tw := tw_at 1055 (by decide +kernel) (by decide +kernel)
theorem q1056 : Cond.selects RX8 yX8_results yX8_results ∈ tw := tw_at 1056 (by decide +kernel) (by decide +kernel)
theorem q1057 : Cond.code yX8_results cX8_results 9 (some .int) ∈ tw := tw_at 1057 (by decide +kernel) (by decide +kernel)
theorem q1058 : Cond.methodLink RX8 174 yX8_mayJoin ∈ tw := tw_at 1058 (by decide +kernel) (by decide +kernel)
theorem q1060 : Cond.instanceMethod yX8_mayJoin ∈ tw := tw_at 1060 (by decide +kernel) (by decide +kernel)
theorem q1061 : Cond.code yX8_mayJoin cX8_mayJoin 3 (some .boolean) ∈ tw := tw_at 1061 (by decide +kernel) (by decide +kernel)
theorem q1062 : Cond.methodLink RL 112 yX8_canForce ∈ tw := tw_at 1062 (by decide +kernel) (by decide +kernel)
theorem q1063 : Cond.instanceMethod yX8_canForce ∈ tw := tw_at 1063 (by decide +kernel) (by decide +kernel)
theorem q1064 : Cond.selects RX8 yX8_canForce yX8_canForce ∈ tw := tw_at 1064 (by decide +kernel) (by decide +kernel)
theorem q1065 : Cond.code yX8_canForce cX8_canForce 3 (some .int) ∈ tw := tw_at 1065 (by decide +kernel) (by decide +kernel)
theorem q1066 : Cond.methodLink RX8 177 yX8_forces ∈ tw := tw_at 1066 (by decide +kernel) (by decide +kernel)
theorem q1068 : Cond.instanceMethod yX8_forces ∈ tw := tw_at 1068 (by decide +kernel) (by decide +kernel)
theorem q1069 : Cond.code yX8_forces cX8_forces 6 (some .boolean) ∈ tw := tw_at 1069 (by decide +kernel) (by decide +kernel)
theorem q1070 : Cond.methodLink RL 116 yX8_bias ∈ tw := tw_at 1070 (by decide +kernel) (by decide +kernel)
theorem q1071 : Cond.instanceMethod yX8_bias ∈ tw := tw_at 1071 (by decide +kernel) (by decide +kernel)
theorem q1072 : Cond.selects RX8 yX8_bias yX8_bias ∈ tw := tw_at 1072 (by decide +kernel) (by decide +kernel)
theorem q1073 : Cond.code yX8_bias cX8_bias 9 (some .int) ∈ tw := tw_at 1073 (by decide +kernel) (by decide +kernel)
theorem q1074 : Cond.methodLink RL 120 yX8_slow ∈ tw := tw_at 1074 (by decide +kernel) (by decide +kernel)
theorem q1075 : Cond.instanceMethod yX8_slow ∈ tw := tw_at 1075 (by decide +kernel) (by decide +kernel)
theorem q1076 : Cond.selects RX8 yX8_slow yX8_slow ∈ tw := tw_at 1076 (by decide +kernel) (by decide +kernel)
theorem q1077 : Cond.code yX8_slow cX8_slow 3 (some .int) ∈ tw := tw_at 1077 (by decide +kernel) (by decide +kernel)
theorem q1078 : Cond.methodLink RX8 188 yX8_isSlow ∈ tw := tw_at 1078 (by decide +kernel) (by decide +kernel)
theorem q1079 : Cond.static yX8_isSlow ∈ tw := tw_at 1079 (by decide +kernel) (by decide +kernel)
theorem q1080 : Cond.code yX8_isSlow cX8_isSlow 2 (some .boolean) ∈ tw := tw_at 1080 (by decide +kernel) (by decide +kernel)
theorem q1081 : Cond.constant RX8 187 (100000) ∈ tw := tw_at 1081 (by decide +kernel) (by decide +kernel)
theorem q1082 : Cond.methodLink RL 124 yX8_quick ∈ tw := tw_at 1082 (by decide +kernel) (by decide +kernel)
theorem q1083 : Cond.instanceMethod yX8_quick ∈ tw := tw_at 1083 (by decide +kernel) (by decide +kernel)
theorem q1084 : Cond.selects RX8 yX8_quick yX8_quick ∈ tw := tw_at 1084 (by decide +kernel) (by decide +kernel)
theorem q1085 : Cond.code yX8_quick cX8_quick 5 (some .int) ∈ tw := tw_at 1085 (by decide +kernel) (by decide +kernel)
theorem q1086 : Cond.constant RX8 191 (1000000000) ∈ tw := tw_at 1086 (by decide +kernel) (by decide +kernel)
theorem q1087 : Cond.constantLong RX8 192 (62599708) ∈ tw := tw_at 1087 (by decide +kernel) (by decide +kernel)
theorem q1088 : Cond.constantLong RX8 182 (2) ∈ tw := tw_at 1088 (by decide +kernel) (by decide +kernel)
theorem q1089 : Cond.methodLink RX8 194 yX8_power ∈ tw := tw_at 1089 (by decide +kernel) (by decide +kernel)
theorem q1090 : Cond.static yX8_power ∈ tw := tw_at 1090 (by decide +kernel) (by decide +kernel)
theorem q1091 : Cond.code yX8_power cX8_power 12 (some .long) ∈ tw := tw_at 1091 (by decide +kernel) (by decide +kernel)
theorem q1092 : Cond.methodLink RL 128 yX8_prime ∈ tw := tw_at 1092 (by decide +kernel) (by decide +kernel)
theorem q1093 : Cond.instanceMethod yX8_prime ∈ tw := tw_at 1093 (by decide +kernel) (by decide +kernel)
theorem q1094 : Cond.selects RX8 yX8_prime yX8_prime ∈ tw := tw_at 1094 (by decide +kernel) (by decide +kernel)
theorem q1095 : Cond.code yX8_prime cX8_prime 3 (some .int) ∈ tw := tw_at 1095 (by decide +kernel) (by decide +kernel)
theorem q1096 : Cond.methodLink RX8 198 yX8_primeFor ∈ tw := tw_at 1096 (by decide +kernel) (by decide +kernel)
theorem q1097 : Cond.static yX8_primeFor ∈ tw := tw_at 1097 (by decide +kernel) (by decide +kernel)
theorem q1098 : Cond.code yX8_primeFor cX8_primeFor 3 (some .int) ∈ tw := tw_at 1098 (by decide +kernel) (by decide +kernel)
theorem q1099 : Cond.methodLink RX8 184 yX8_isPrime ∈ tw := tw_at 1099 (by decide +kernel) (by decide +kernel)
theorem q1100 : Cond.static yX8_isPrime ∈ tw := tw_at 1100 (by decide +kernel) (by decide +kernel)
theorem q1101 : Cond.code yX8_isPrime cX8_isPrime 3 (some .boolean) ∈ tw := tw_at 1101 (by decide +kernel) (by decide +kernel)
theorem q1102 : Cond.methodLink RL 132 yX8_proof ∈ tw := tw_at 1102 (by decide +kernel) (by decide +kernel)
theorem q1103 : Cond.instanceMethod yX8_proof ∈ tw := tw_at 1103 (by decide +kernel) (by decide +kernel)
theorem q1104 : Cond.selects RX8 yX8_proof yX8_proof ∈ tw := tw_at 1104 (by decide +kernel) (by decide +kernel)
theorem q1105 : Cond.code yX8_proof cX8_proof 9 (some .int) ∈ tw := tw_at 1105 (by decide +kernel) (by decide +kernel)
theorem q1106 : Cond.methodLink RL 137 yX8_accepts ∈ tw := tw_at 1106 (by decide +kernel) (by decide +kernel)
theorem q1107 : Cond.instanceMethod yX8_accepts ∈ tw := tw_at 1107 (by decide +kernel) (by decide +kernel)
theorem q1108 : Cond.selects RX8 yX8_accepts yX8_accepts ∈ tw := tw_at 1108 (by decide +kernel) (by decide +kernel)
theorem q1109 : Cond.code yX8_accepts cX8_accepts 6 (some .int) ∈ tw := tw_at 1109 (by decide +kernel) (by decide +kernel)
theorem q1110 : Cond.constant RX8 201 (62615532) ∈ tw := tw_at 1110 (by decide +kernel) (by decide +kernel)
theorem q1111 : Cond.methodLink RL 141 yX8_account ∈ tw := tw_at 1111 (by decide +kernel) (by decide +kernel)
theorem q1112 : Cond.instanceMethod yX8_account ∈ tw := tw_at 1112 (by decide +kernel) (by decide +kernel)
theorem q1113 : Cond.selects RX8 yX8_account yX8_account ∈ tw := tw_at 1113 (by decide +kernel) (by decide +kernel)
theorem q1114 : Cond.code yX8_account cX8_account 3 (some .int) ∈ tw := tw_at 1114 (by decide +kernel) (by decide +kernel)
theorem q1115 : Cond.methodLink RL 145 yX8_pot ∈ tw := tw_at 1115 (by decide +kernel) (by decide +kernel)
theorem q1116 : Cond.instanceMethod yX8_pot ∈ tw := tw_at 1116 (by decide +kernel) (by decide +kernel)
theorem q1117 : Cond.selects RX8 yX8_pot yX8_pot ∈ tw := tw_at 1117 (by decide +kernel) (by decide +kernel)
theorem q1118 : Cond.code yX8_pot cX8_pot 1 (some .int) ∈ tw := tw_at 1118 (by decide +kernel) (by decide +kernel)
theorem q1119 : Cond.methodLink RL 149 yX8_rounds ∈ tw := tw_at 1119 (by decide +kernel) (by decide +kernel)
theorem q1120 : Cond.instanceMethod yX8_rounds ∈ tw := tw_at 1120 (by decide +kernel) (by decide +kernel)
theorem q1121 : Cond.selects RX8 yX8_rounds yX8_rounds ∈ tw := tw_at 1121 (by decide +kernel) (by decide +kernel)
theorem q1122 : Cond.code yX8_rounds cX8_rounds 1 (some .int) ∈ tw := tw_at 1122 (by decide +kernel) (by decide +kernel)
theorem q1123 : Cond.methodLink RL 153 yX8_past ∈ tw := tw_at 1123 (by decide +kernel) (by decide +kernel)
theorem q1124 : Cond.instanceMethod yX8_past ∈ tw := tw_at 1124 (by decide +kernel) (by decide +kernel)
theorem q1125 : Cond.selects RX8 yX8_past yX8_past ∈ tw := tw_at 1125 (by decide +kernel) (by decide +kernel)
theorem q1126 : Cond.code yX8_past cX8_past 5 (some .int) ∈ tw := tw_at 1126 (by decide +kernel) (by decide +kernel)
theorem q1127 : Cond.methodLink RX8 202 yX8_isKept ∈ tw := tw_at 1127 (by decide +kernel) (by decide +kernel)
theorem q1129 : Cond.instanceMethod yX8_isKept ∈ tw := tw_at 1129 (by decide +kernel) (by decide +kernel)
theorem q1130 : Cond.code yX8_isKept cX8_isKept 2 (some .boolean) ∈ tw := tw_at 1130 (by decide +kernel) (by decide +kernel)
theorem q1131 : Cond.methodLink RX8 205 yX8_ofRound ∈ tw := tw_at 1131 (by decide +kernel) (by decide +kernel)
theorem q1133 : Cond.instanceMethod yX8_ofRound ∈ tw := tw_at 1133 (by decide +kernel) (by decide +kernel)
theorem q1134 : Cond.code yX8_ofRound cX8_ofRound 3 (some .int) ∈ tw := tw_at 1134 (by decide +kernel) (by decide +kernel)
theorem q1135 : Cond.methodLink RL 157 yX8_output ∈ tw := tw_at 1135 (by decide +kernel) (by decide +kernel)
theorem q1136 : Cond.instanceMethod yX8_output ∈ tw := tw_at 1136 (by decide +kernel) (by decide +kernel)
theorem q1137 : Cond.selects RX8 yX8_output yX8_output ∈ tw := tw_at 1137 (by decide +kernel) (by decide +kernel)
theorem q1138 : Cond.code yX8_output cX8_output 2 (some .int) ∈ tw := tw_at 1138 (by decide +kernel) (by decide +kernel)
theorem q1139 : Cond.methodLink RL 161 yX8_coins ∈ tw := tw_at 1139 (by decide +kernel) (by decide +kernel)
theorem q1140 : Cond.instanceMethod yX8_coins ∈ tw := tw_at 1140 (by decide +kernel) (by decide +kernel)
theorem q1141 : Cond.selects RX8 yX8_coins yX8_coins ∈ tw := tw_at 1141 (by decide +kernel) (by decide +kernel)
theorem q1142 : Cond.code yX8_coins cX8_coins 2 (some .int) ∈ tw := tw_at 1142 (by decide +kernel) (by decide +kernel)
theorem q1143 : Cond.methodLink RL 165 yX8_longestRun ∈ tw := tw_at 1143 (by decide +kernel) (by decide +kernel)
theorem q1144 : Cond.instanceMethod yX8_longestRun ∈ tw := tw_at 1144 (by decide +kernel) (by decide +kernel)
theorem q1145 : Cond.selects RX8 yX8_longestRun yX8_longestRun ∈ tw := tw_at 1145 (by decide +kernel) (by decide +kernel)
theorem q1146 : Cond.code yX8_longestRun cX8_longestRun 1 (some .int) ∈ tw := tw_at 1146 (by decide +kernel) (by decide +kernel)
theorem q1147 : Cond.methodLink RL 169 yX8_undo ∈ tw := tw_at 1147 (by decide +kernel) (by decide +kernel)
theorem q1148 : Cond.instanceMethod yX8_undo ∈ tw := tw_at 1148 (by decide +kernel) (by decide +kernel)
theorem q1149 : Cond.selects RX8 yX8_undo yX8_undo ∈ tw := tw_at 1149 (by decide +kernel) (by decide +kernel)
theorem q1150 : Cond.code yX8_undo cX8_undo 2 (some .int) ∈ tw := tw_at 1150 (by decide +kernel) (by decide +kernel)
theorem q1151 : Cond.methodLink RL 174 yX8_fingerprint ∈ tw := tw_at 1151 (by decide +kernel) (by decide +kernel)
theorem q1152 : Cond.instanceMethod yX8_fingerprint ∈ tw := tw_at 1152 (by decide +kernel) (by decide +kernel)
theorem q1153 : Cond.selects RX8 yX8_fingerprint yX8_fingerprint ∈ tw := tw_at 1153 (by decide +kernel) (by decide +kernel)
theorem q1154 : Cond.code yX8_fingerprint cX8_fingerprint 5 (some .long) ∈ tw := tw_at 1154 (by decide +kernel) (by decide +kernel)
theorem q1155 : Cond.constantLong RX8 208 (31) ∈ tw := tw_at 1155 (by decide +kernel) (by decide +kernel)
theorem q1156 : Cond.constantLong RX8 210 (713) ∈ tw := tw_at 1156 (by decide +kernel) (by decide +kernel)
theorem q1157 : Cond.methodLink RX8 212 yX8_digest ∈ tw := tw_at 1157 (by decide +kernel) (by decide +kernel)
end
section
theorem dX0_init_0 : decode cX0_init 0 = .ok (.aload_n 0, 1) := by decide +kernel
theorem dX0_init_1 : decode cX0_init 1 = .ok (.invokespecial 3, 3) := by decide +kernel
theorem dX0_init_4 : decode cX0_init 4 = .ok (.aload_n 0, 1) := by decide +kernel
theorem dX0_init_5 : decode cX0_init 5 = .ok (.bipush 96, 2) := by decide +kernel
theorem dX0_init_7 : decode cX0_init 7 = .ok (.newarray .int, 2) := by decide +kernel
theorem dX0_init_9 : decode cX0_init 9 = .ok (.putfield 11, 3) := by decide +kernel
theorem dX0_init_12 : decode cX0_init 12 = .ok (.return_, 1) := by decide +kernel
theorem dX0_copy_0 : decode cX0_copy 0 = .ok (.aload_n 0, 1) := by decide +kernel
theorem dX0_copy_1 : decode cX0_copy 1 = .ok (.aload_n 1, 1) := by decide +kernel
theorem dX0_copy_2 : decode cX0_copy 2 = .ok (.getfield 15, 3) := by decide +kernel
theorem dX0_copy_5 : decode cX0_copy 5 = .ok (.putfield 15, 3) := by decide +kernel
theorem dX0_copy_8 : decode cX0_copy 8 = .ok (.aload_n 0, 1) := by decide +kernel
theorem dX0_copy_9 : decode cX0_copy 9 = .ok (.aload_n 1, 1) := by decide +kernel
theorem dX0_copy_10 : decode cX0_copy 10 = .ok (.getfield 19, 3) := by decide +kernel
theorem dX0_copy_13 : decode cX0_copy 13 = .ok (.putfield 19, 3) := by decide +kernel
theorem dX0_copy_16 : decode cX0_copy 16 = .ok (.aload_n 0, 1) := by decide +kernel
theorem dX0_copy_17 : decode cX0_copy 17 = .ok (.aload_n 1, 1) := by decide +kernel
theorem dX0_copy_18 : decode cX0_copy 18 = .ok (.getfield 22, 3) := by decide +kernel
theorem dX0_copy_21 : decode cX0_copy 21 = .ok (.putfield 22, 3) := by decide +kernel
theorem dX0_copy_24 : decode cX0_copy 24 = .ok (.aload_n 0, 1) := by decide +kernel
theorem dX0_copy_25 : decode cX0_copy 25 = .ok (.aload_n 1, 1) := by decide +kernel
theorem dX0_copy_26 : decode cX0_copy 26 = .ok (.getfield 25, 3) := by decide +kernel
theorem dX0_copy_29 : decode cX0_copy 29 = .ok (.putfield 25, 3) := by decide +kernel
theorem dX0_copy_32 : decode cX0_copy 32 = .ok (.aload_n 0, 1) := by decide +kernel
theorem dX0_copy_33 : decode cX0_copy 33 = .ok (.aload_n 1, 1) := by decide +kernel
theorem dX0_copy_34 : decode cX0_copy 34 = .ok (.getfield 28, 3) := by decide +kernel
theorem dX0_copy_37 : decode cX0_copy 37 = .ok (.putfield 28, 3) := by decide +kernel
theorem dX0_copy_40 : decode cX0_copy 40 = .ok (.aload_n 0, 1) := by decide +kernel
theorem dX0_copy_41 : decode cX0_copy 41 = .ok (.aload_n 1, 1) := by decide +kernel
theorem dX0_copy_42 : decode cX0_copy 42 = .ok (.getfield 31, 3) := by decide +kernel
theorem dX0_copy_45 : decode cX0_copy 45 = .ok (.putfield 31, 3) := by decide +kernel
theorem dX0_copy_48 : decode cX0_copy 48 = .ok (.aload_n 0, 1) := by decide +kernel
theorem dX0_copy_49 : decode cX0_copy 49 = .ok (.aload_n 1, 1) := by decide +kernel
theorem dX0_copy_50 : decode cX0_copy 50 = .ok (.getfield 34, 3) := by decide +kernel
theorem dX0_copy_53 : decode cX0_copy 53 = .ok (.putfield 34, 3) := by decide +kernel
theorem dX0_copy_56 : decode cX0_copy 56 = .ok (.aload_n 1, 1) := by decide +kernel
theorem dX0_copy_57 : decode cX0_copy 57 = .ok (.getfield 11, 3) := by decide +kernel
theorem dX0_copy_60 : decode cX0_copy 60 = .ok (.iconst 0, 1) := by decide +kernel
theorem dX0_copy_61 : decode cX0_copy 61 = .ok (.aload_n 0, 1) := by decide +kernel
theorem dX0_copy_62 : decode cX0_copy 62 = .ok (.getfield 11, 3) := by decide +kernel
theorem dX0_copy_65 : decode cX0_copy 65 = .ok (.iconst 0, 1) := by decide +kernel
theorem dX0_copy_66 : decode cX0_copy 66 = .ok (.bipush 96, 2) := by decide +kernel
theorem dX0_copy_68 : decode cX0_copy 68 = .ok (.invokestatic 37, 3) := by decide +kernel
theorem dX0_copy_71 : decode cX0_copy 71 = .ok (.return_, 1) := by decide +kernel
theorem dX0_keeps_0 : decode cX0_keeps 0 = .ok (.iload_n 1, 1) := by decide +kernel
theorem dX0_keeps_1 : decode cX0_keeps 1 = .ok (.ifCond .lt 26, 3) := by decide +kernel
theorem dX0_keeps_4 : decode cX0_keeps 4 = .ok (.iload_n 1, 1) := by decide +kernel
theorem dX0_keeps_5 : decode cX0_keeps 5 = .ok (.aload_n 0, 1) := by decide +kernel
theorem dX0_keeps_6 : decode cX0_keeps 6 = .ok (.getfield 15, 3) := by decide +kernel
theorem dX0_keeps_9 : decode cX0_keeps 9 = .ok (.if_icmp .ge 18, 3) := by decide +kernel
theorem dX0_keeps_12 : decode cX0_keeps 12 = .ok (.iload_n 1, 1) := by decide +kernel
theorem dX0_keeps_13 : decode cX0_keeps 13 = .ok (.aload_n 0, 1) := by decide +kernel
theorem dX0_keeps_14 : decode cX0_keeps 14 = .ok (.getfield 15, 3) := by decide +kernel
theorem dX0_keeps_17 : decode cX0_keeps 17 = .ok (.bipush 16, 2) := by decide +kernel
theorem dX0_keeps_19 : decode cX0_keeps 19 = .ok (.isub, 1) := by decide +kernel
theorem dX0_keeps_20 : decode cX0_keeps 20 = .ok (.if_icmp .lt 7, 3) := by decide +kernel
theorem dX0_keeps_23 : decode cX0_keeps 23 = .ok (.iconst 1, 1) := by decide +kernel
theorem dX0_keeps_24 : decode cX0_keeps 24 = .ok (.goto 4, 3) := by decide +kernel
theorem dX0_keeps_27 : decode cX0_keeps 27 = .ok (.iconst 0, 1) := by decide +kernel
theorem dX0_keeps_28 : decode cX0_keeps 28 = .ok (.ireturn, 1) := by decide +kernel
theorem dX0_entry_0 : decode cX0_entry 0 = .ok (.aload_n 0, 1) := by decide +kernel
theorem dX0_entry_1 : decode cX0_entry 1 = .ok (.getfield 11, 3) := by decide +kernel
theorem dX0_entry_4 : decode cX0_entry 4 = .ok (.iload_n 1, 1) := by decide +kernel
theorem dX0_entry_5 : decode cX0_entry 5 = .ok (.bipush 16, 2) := by decide +kernel
theorem dX0_entry_7 : decode cX0_entry 7 = .ok (.irem, 1) := by decide +kernel
theorem dX0_entry_8 : decode cX0_entry 8 = .ok (.bipush 6, 2) := by decide +kernel
theorem dX0_entry_10 : decode cX0_entry 10 = .ok (.imul, 1) := by decide +kernel
theorem dX0_entry_11 : decode cX0_entry 11 = .ok (.iload_n 2, 1) := by decide +kernel
theorem dX0_entry_12 : decode cX0_entry 12 = .ok (.iadd, 1) := by decide +kernel
theorem dX0_entry_13 : decode cX0_entry 13 = .ok (.iaload, 1) := by decide +kernel
theorem dX0_entry_14 : decode cX0_entry 14 = .ok (.ireturn, 1) := by decide +kernel
theorem dX0_addFailure_0 : decode cX0_addFailure 0 = .ok (.aload_n 0, 1) := by decide +kernel
theorem dX0_addFailure_1 : decode cX0_addFailure 1 = .ok (.bipush (-5), 2) := by decide +kernel
theorem dX0_addFailure_3 : decode cX0_addFailure 3 = .ok (.iload_n 1, 1) := by decide +kernel
theorem dX0_addFailure_4 : decode cX0_addFailure 4 = .ok (.iload_n 2, 1) := by decide +kernel
theorem dX0_addFailure_5 : decode cX0_addFailure 5 = .ok (.iconst 0, 1) := by decide +kernel
theorem dX0_addFailure_6 : decode cX0_addFailure 6 = .ok (.iload_n 3, 1) := by decide +kernel
theorem dX0_addFailure_7 : decode cX0_addFailure 7 = .ok (.iconst 0, 1) := by decide +kernel
theorem dX0_addFailure_8 : decode cX0_addFailure 8 = .ok (.invokevirtual 43, 3) := by decide +kernel
theorem dX0_addFailure_11 : decode cX0_addFailure 11 = .ok (.aload_n 0, 1) := by decide +kernel
theorem dX0_addFailure_12 : decode cX0_addFailure 12 = .ok (.iconst 0, 1) := by decide +kernel
theorem dX0_addFailure_13 : decode cX0_addFailure 13 = .ok (.putfield 31, 3) := by decide +kernel
theorem dX0_addFailure_16 : decode cX0_addFailure 16 = .ok (.return_, 1) := by decide +kernel
theorem dX0_addOutput_0 : decode cX0_addOutput 0 = .ok (.iload_n 1, 1) := by decide +kernel
theorem dX0_addOutput_1 : decode cX0_addOutput 1 = .ok (.iconst 1, 1) := by decide +kernel
theorem dX0_addOutput_2 : decode cX0_addOutput 2 = .ok (.iand, 1) := by decide +kernel
theorem dX0_addOutput_3 : decode cX0_addOutput 3 = .ok (.istore 5, 2) := by decide +kernel
theorem dX0_addOutput_5 : decode cX0_addOutput 5 = .ok (.iload_n 2, 1) := by decide +kernel
theorem dX0_addOutput_6 : decode cX0_addOutput 6 = .ok (.invokestatic 47, 3) := by decide +kernel
theorem dX0_addOutput_9 : decode cX0_addOutput 9 = .ok (.iload_n 3, 1) := by decide +kernel
theorem dX0_addOutput_10 : decode cX0_addOutput 10 = .ok (.isub, 1) := by decide +kernel
theorem dX0_addOutput_11 : decode cX0_addOutput 11 = .ok (.istore 6, 2) := by decide +kernel
theorem dX0_addOutput_13 : decode cX0_addOutput 13 = .ok (.aload_n 0, 1) := by decide +kernel
theorem dX0_addOutput_14 : decode cX0_addOutput 14 = .ok (.iload 5, 2) := by decide +kernel
theorem dX0_addOutput_16 : decode cX0_addOutput 16 = .ok (.iload_n 2, 1) := by decide +kernel
theorem dX0_addOutput_17 : decode cX0_addOutput 17 = .ok (.iload_n 3, 1) := by decide +kernel
theorem dX0_addOutput_18 : decode cX0_addOutput 18 = .ok (.iload 6, 2) := by decide +kernel
theorem dX0_addOutput_20 : decode cX0_addOutput 20 = .ok (.iload 4, 2) := by decide +kernel
theorem dX0_addOutput_22 : decode cX0_addOutput 22 = .ok (.iload_n 1, 1) := by decide +kernel
theorem dX0_addOutput_23 : decode cX0_addOutput 23 = .ok (.invokevirtual 43, 3) := by decide +kernel
theorem dX0_addOutput_26 : decode cX0_addOutput 26 = .ok (.aload_n 0, 1) := by decide +kernel
theorem dX0_addOutput_27 : decode cX0_addOutput 27 = .ok (.iload_n 1, 1) := by decide +kernel
theorem dX0_addOutput_28 : decode cX0_addOutput 28 = .ok (.putfield 19, 3) := by decide +kernel
theorem dX0_addOutput_31 : decode cX0_addOutput 31 = .ok (.iload 5, 2) := by decide +kernel
theorem dX0_addOutput_33 : decode cX0_addOutput 33 = .ok (.iconst 1, 1) := by decide +kernel
theorem dX0_addOutput_34 : decode cX0_addOutput 34 = .ok (.if_icmp .ne 16, 3) := by decide +kernel
theorem dX0_addOutput_37 : decode cX0_addOutput 37 = .ok (.aload_n 0, 1) := by decide +kernel
theorem dX0_addOutput_38 : decode cX0_addOutput 38 = .ok (.dup, 1) := by decide +kernel
theorem dX0_addOutput_39 : decode cX0_addOutput 39 = .ok (.getfield 25, 3) := by decide +kernel
theorem dX0_addOutput_42 : decode cX0_addOutput 42 = .ok (.iconst 1, 1) := by decide +kernel
theorem dX0_addOutput_43 : decode cX0_addOutput 43 = .ok (.iadd, 1) := by decide +kernel
theorem dX0_addOutput_44 : decode cX0_addOutput 44 = .ok (.putfield 25, 3) := by decide +kernel
theorem dX0_addOutput_47 : decode cX0_addOutput 47 = .ok (.goto 13, 3) := by decide +kernel
theorem dX0_addOutput_50 : decode cX0_addOutput 50 = .ok (.aload_n 0, 1) := by decide +kernel
theorem dX0_addOutput_51 : decode cX0_addOutput 51 = .ok (.dup, 1) := by decide +kernel
theorem dX0_addOutput_52 : decode cX0_addOutput 52 = .ok (.getfield 22, 3) := by decide +kernel
theorem dX0_addOutput_55 : decode cX0_addOutput 55 = .ok (.iconst 1, 1) := by decide +kernel
theorem dX0_addOutput_56 : decode cX0_addOutput 56 = .ok (.iadd, 1) := by decide +kernel
theorem dX0_addOutput_57 : decode cX0_addOutput 57 = .ok (.putfield 22, 3) := by decide +kernel
theorem dX0_addOutput_60 : decode cX0_addOutput 60 = .ok (.aload_n 0, 1) := by decide +kernel
theorem dX0_addOutput_61 : decode cX0_addOutput 61 = .ok (.aload_n 0, 1) := by decide +kernel
theorem dX0_addOutput_62 : decode cX0_addOutput 62 = .ok (.getfield 34, 3) := by decide +kernel
theorem dX0_addOutput_65 : decode cX0_addOutput 65 = .ok (.iload 5, 2) := by decide +kernel
theorem dX0_addOutput_67 : decode cX0_addOutput 67 = .ok (.if_icmp .ne 12, 3) := by decide +kernel
theorem dX0_addOutput_70 : decode cX0_addOutput 70 = .ok (.aload_n 0, 1) := by decide +kernel
theorem dX0_addOutput_71 : decode cX0_addOutput 71 = .ok (.getfield 31, 3) := by decide +kernel
theorem dX0_addOutput_74 : decode cX0_addOutput 74 = .ok (.iconst 1, 1) := by decide +kernel
theorem dX0_addOutput_75 : decode cX0_addOutput 75 = .ok (.iadd, 1) := by decide +kernel
theorem dX0_addOutput_76 : decode cX0_addOutput 76 = .ok (.goto 4, 3) := by decide +kernel
theorem dX0_addOutput_79 : decode cX0_addOutput 79 = .ok (.iconst 1, 1) := by decide +kernel
theorem dX0_addOutput_80 : decode cX0_addOutput 80 = .ok (.putfield 31, 3) := by decide +kernel
theorem dX0_addOutput_83 : decode cX0_addOutput 83 = .ok (.aload_n 0, 1) := by decide +kernel
theorem dX0_addOutput_84 : decode cX0_addOutput 84 = .ok (.iload 5, 2) := by decide +kernel
theorem dX0_addOutput_86 : decode cX0_addOutput 86 = .ok (.putfield 34, 3) := by decide +kernel
theorem dX0_addOutput_89 : decode cX0_addOutput 89 = .ok (.aload_n 0, 1) := by decide +kernel
theorem dX0_addOutput_90 : decode cX0_addOutput 90 = .ok (.aload_n 0, 1) := by decide +kernel
theorem dX0_addOutput_91 : decode cX0_addOutput 91 = .ok (.getfield 28, 3) := by decide +kernel
theorem dX0_addOutput_94 : decode cX0_addOutput 94 = .ok (.aload_n 0, 1) := by decide +kernel
theorem dX0_addOutput_95 : decode cX0_addOutput 95 = .ok (.getfield 31, 3) := by decide +kernel
theorem dX0_addOutput_98 : decode cX0_addOutput 98 = .ok (.invokestatic 53, 3) := by decide +kernel
theorem dX0_addOutput_101 : decode cX0_addOutput 101 = .ok (.putfield 28, 3) := by decide +kernel
theorem dX0_addOutput_104 : decode cX0_addOutput 104 = .ok (.return_, 1) := by decide +kernel
theorem dX0_put_0 : decode cX0_put 0 = .ok (.aload_n 0, 1) := by decide +kernel
theorem dX0_put_1 : decode cX0_put 1 = .ok (.getfield 15, 3) := by decide +kernel
theorem dX0_put_4 : decode cX0_put 4 = .ok (.bipush 16, 2) := by decide +kernel
theorem dX0_put_6 : decode cX0_put 6 = .ok (.irem, 1) := by decide +kernel
theorem dX0_put_7 : decode cX0_put 7 = .ok (.bipush 6, 2) := by decide +kernel
theorem dX0_put_9 : decode cX0_put 9 = .ok (.imul, 1) := by decide +kernel
theorem dX0_put_10 : decode cX0_put 10 = .ok (.istore 7, 2) := by decide +kernel
theorem dX0_put_12 : decode cX0_put 12 = .ok (.aload_n 0, 1) := by decide +kernel
theorem dX0_put_13 : decode cX0_put 13 = .ok (.getfield 11, 3) := by decide +kernel
theorem dX0_put_16 : decode cX0_put 16 = .ok (.iload 7, 2) := by decide +kernel
theorem dX0_put_18 : decode cX0_put 18 = .ok (.iload_n 1, 1) := by decide +kernel
theorem dX0_put_19 : decode cX0_put 19 = .ok (.iastore, 1) := by decide +kernel
theorem dX0_put_20 : decode cX0_put 20 = .ok (.aload_n 0, 1) := by decide +kernel
theorem dX0_put_21 : decode cX0_put 21 = .ok (.getfield 11, 3) := by decide +kernel
theorem dX0_put_24 : decode cX0_put 24 = .ok (.iload 7, 2) := by decide +kernel
theorem dX0_put_26 : decode cX0_put 26 = .ok (.iconst 1, 1) := by decide +kernel
theorem dX0_put_27 : decode cX0_put 27 = .ok (.iadd, 1) := by decide +kernel
theorem dX0_put_28 : decode cX0_put 28 = .ok (.iload_n 2, 1) := by decide +kernel
theorem dX0_put_29 : decode cX0_put 29 = .ok (.iastore, 1) := by decide +kernel
theorem dX0_put_30 : decode cX0_put 30 = .ok (.aload_n 0, 1) := by decide +kernel
theorem dX0_put_31 : decode cX0_put 31 = .ok (.getfield 11, 3) := by decide +kernel
theorem dX0_put_34 : decode cX0_put 34 = .ok (.iload 7, 2) := by decide +kernel
theorem dX0_put_36 : decode cX0_put 36 = .ok (.iconst 2, 1) := by decide +kernel
theorem dX0_put_37 : decode cX0_put 37 = .ok (.iadd, 1) := by decide +kernel
theorem dX0_put_38 : decode cX0_put 38 = .ok (.iload_n 3, 1) := by decide +kernel
theorem dX0_put_39 : decode cX0_put 39 = .ok (.iastore, 1) := by decide +kernel
theorem dX0_put_40 : decode cX0_put 40 = .ok (.aload_n 0, 1) := by decide +kernel
theorem dX0_put_41 : decode cX0_put 41 = .ok (.getfield 11, 3) := by decide +kernel
theorem dX0_put_44 : decode cX0_put 44 = .ok (.iload 7, 2) := by decide +kernel
theorem dX0_put_46 : decode cX0_put 46 = .ok (.iconst 3, 1) := by decide +kernel
theorem dX0_put_47 : decode cX0_put 47 = .ok (.iadd, 1) := by decide +kernel
theorem dX0_put_48 : decode cX0_put 48 = .ok (.iload 4, 2) := by decide +kernel
theorem dX0_put_50 : decode cX0_put 50 = .ok (.iastore, 1) := by decide +kernel
theorem dX0_put_51 : decode cX0_put 51 = .ok (.aload_n 0, 1) := by decide +kernel
theorem dX0_put_52 : decode cX0_put 52 = .ok (.getfield 11, 3) := by decide +kernel
theorem dX0_put_55 : decode cX0_put 55 = .ok (.iload 7, 2) := by decide +kernel
theorem dX0_put_57 : decode cX0_put 57 = .ok (.iconst 4, 1) := by decide +kernel
theorem dX0_put_58 : decode cX0_put 58 = .ok (.iadd, 1) := by decide +kernel
theorem dX0_put_59 : decode cX0_put 59 = .ok (.iload 5, 2) := by decide +kernel
theorem dX0_put_61 : decode cX0_put 61 = .ok (.iastore, 1) := by decide +kernel
theorem dX0_put_62 : decode cX0_put 62 = .ok (.aload_n 0, 1) := by decide +kernel
theorem dX0_put_63 : decode cX0_put 63 = .ok (.getfield 11, 3) := by decide +kernel
theorem dX0_put_66 : decode cX0_put 66 = .ok (.iload 7, 2) := by decide +kernel
theorem dX0_put_68 : decode cX0_put 68 = .ok (.iconst 5, 1) := by decide +kernel
theorem dX0_put_69 : decode cX0_put 69 = .ok (.iadd, 1) := by decide +kernel
theorem dX0_put_70 : decode cX0_put 70 = .ok (.iload 6, 2) := by decide +kernel
theorem dX0_put_72 : decode cX0_put 72 = .ok (.iastore, 1) := by decide +kernel
theorem dX0_put_73 : decode cX0_put 73 = .ok (.aload_n 0, 1) := by decide +kernel
theorem dX0_put_74 : decode cX0_put 74 = .ok (.dup, 1) := by decide +kernel
theorem dX0_put_75 : decode cX0_put 75 = .ok (.getfield 15, 3) := by decide +kernel
theorem dX0_put_78 : decode cX0_put 78 = .ok (.iconst 1, 1) := by decide +kernel
theorem dX0_put_79 : decode cX0_put 79 = .ok (.iadd, 1) := by decide +kernel
theorem dX0_put_80 : decode cX0_put 80 = .ok (.putfield 15, 3) := by decide +kernel
theorem dX0_put_83 : decode cX0_put 83 = .ok (.return_, 1) := by decide +kernel
theorem dX1_init_0 : decode cX1_init 0 = .ok (.aload_n 0, 1) := by decide +kernel
theorem dX1_init_1 : decode cX1_init 1 = .ok (.invokespecial 3, 3) := by decide +kernel
theorem dX1_init_4 : decode cX1_init 4 = .ok (.aload_n 0, 1) := by decide +kernel
theorem dX1_init_5 : decode cX1_init 5 = .ok (.sipush 256, 3) := by decide +kernel
theorem dX1_init_8 : decode cX1_init 8 = .ok (.newarray .int, 2) := by decide +kernel
theorem dX1_init_10 : decode cX1_init 10 = .ok (.putfield 9, 3) := by decide +kernel
theorem dX1_init_13 : decode cX1_init 13 = .ok (.aload_n 0, 1) := by decide +kernel
theorem dX1_init_14 : decode cX1_init 14 = .ok (.sipush 256, 3) := by decide +kernel
theorem dX1_init_17 : decode cX1_init 17 = .ok (.newarray .int, 2) := by decide +kernel
theorem dX1_init_19 : decode cX1_init 19 = .ok (.putfield 15, 3) := by decide +kernel
theorem dX1_init_22 : decode cX1_init 22 = .ok (.aload_n 0, 1) := by decide +kernel
theorem dX1_init_23 : decode cX1_init 23 = .ok (.bipush 8, 2) := by decide +kernel
theorem dX1_init_25 : decode cX1_init 25 = .ok (.newarray .int, 2) := by decide +kernel
theorem dX1_init_27 : decode cX1_init 27 = .ok (.putfield 18, 3) := by decide +kernel
theorem dX1_init_30 : decode cX1_init 30 = .ok (.return_, 1) := by decide +kernel
theorem dX1_gather_0 : decode cX1_gather 0 = .ok (.aload_n 0, 1) := by decide +kernel
theorem dX1_gather_1 : decode cX1_gather 1 = .ok (.iconst 0, 1) := by decide +kernel
theorem dX1_gather_2 : decode cX1_gather 2 = .ok (.putfield 21, 3) := by decide +kernel
theorem dX1_gather_5 : decode cX1_gather 5 = .ok (.aload_n 0, 1) := by decide +kernel
theorem dX1_gather_6 : decode cX1_gather 6 = .ok (.iconst 0, 1) := by decide +kernel
theorem dX1_gather_7 : decode cX1_gather 7 = .ok (.putfield 25, 3) := by decide +kernel
theorem dX1_gather_10 : decode cX1_gather 10 = .ok (.aload_n 1, 1) := by decide +kernel
theorem dX1_gather_11 : decode cX1_gather 11 = .ok (.getfield 29, 3) := by decide +kernel
theorem dX1_gather_14 : decode cX1_gather 14 = .ok (.iload_n 2, 1) := by decide +kernel
theorem dX1_gather_15 : decode cX1_gather 15 = .ok (.iconst (-1), 1) := by decide +kernel
theorem dX1_gather_16 : decode cX1_gather 16 = .ok (.ixor, 1) := by decide +kernel
theorem dX1_gather_17 : decode cX1_gather 17 = .ok (.iand, 1) := by decide +kernel
theorem dX1_gather_18 : decode cX1_gather 18 = .ok (.istore_n 3, 1) := by decide +kernel
theorem dX1_gather_19 : decode cX1_gather 19 = .ok (.iconst 0, 1) := by decide +kernel
theorem dX1_gather_20 : decode cX1_gather 20 = .ok (.istore 4, 2) := by decide +kernel
theorem dX1_gather_22 : decode cX1_gather 22 = .ok (.iload 4, 2) := by decide +kernel
theorem dX1_gather_24 : decode cX1_gather 24 = .ok (.sipush 256, 3) := by decide +kernel
theorem dX1_gather_27 : decode cX1_gather 27 = .ok (.if_icmp .ge 30, 3) := by decide +kernel
theorem dX1_gather_30 : decode cX1_gather 30 = .ok (.iload 4, 2) := by decide +kernel
theorem dX1_gather_32 : decode cX1_gather 32 = .ok (.iload_n 2, 1) := by decide +kernel
theorem dX1_gather_33 : decode cX1_gather 33 = .ok (.iconst (-1), 1) := by decide +kernel
theorem dX1_gather_34 : decode cX1_gather 34 = .ok (.ixor, 1) := by decide +kernel
theorem dX1_gather_35 : decode cX1_gather 35 = .ok (.iand, 1) := by decide +kernel
theorem dX1_gather_36 : decode cX1_gather 36 = .ok (.ifCond .ne 15, 3) := by decide +kernel
theorem dX1_gather_39 : decode cX1_gather 39 = .ok (.aload_n 0, 1) := by decide +kernel
theorem dX1_gather_40 : decode cX1_gather 40 = .ok (.aload_n 1, 1) := by decide +kernel
theorem dX1_gather_41 : decode cX1_gather 41 = .ok (.iload_n 3, 1) := by decide +kernel
theorem dX1_gather_42 : decode cX1_gather 42 = .ok (.iload 4, 2) := by decide +kernel
theorem dX1_gather_44 : decode cX1_gather 44 = .ok (.ior, 1) := by decide +kernel
theorem dX1_gather_45 : decode cX1_gather 45 = .ok (.invokevirtual 34, 3) := by decide +kernel
theorem dX1_gather_48 : decode cX1_gather 48 = .ok (.invokevirtual 38, 3) := by decide +kernel
theorem dX1_gather_51 : decode cX1_gather 51 = .ok (.iinc 4 1, 3) := by decide +kernel
theorem dX1_gather_54 : decode cX1_gather 54 = .ok (.goto (-32), 3) := by decide +kernel
theorem dX1_gather_57 : decode cX1_gather 57 = .ok (.return_, 1) := by decide +kernel
theorem dX1_add_0 : decode cX1_add 0 = .ok (.iload_n 1, 1) := by decide +kernel
theorem dX1_add_1 : decode cX1_add 1 = .ok (.iconst (-1), 1) := by decide +kernel
theorem dX1_add_2 : decode cX1_add 2 = .ok (.if_icmp .ne 9, 3) := by decide +kernel
theorem dX1_add_5 : decode cX1_add 5 = .ok (.aload_n 0, 1) := by decide +kernel
theorem dX1_add_6 : decode cX1_add 6 = .ok (.iconst 1, 1) := by decide +kernel
theorem dX1_add_7 : decode cX1_add 7 = .ok (.putfield 25, 3) := by decide +kernel
theorem dX1_add_10 : decode cX1_add 10 = .ok (.return_, 1) := by decide +kernel
theorem dX1_add_11 : decode cX1_add 11 = .ok (.aload_n 0, 1) := by decide +kernel
theorem dX1_add_12 : decode cX1_add 12 = .ok (.getfield 21, 3) := by decide +kernel
theorem dX1_add_15 : decode cX1_add 15 = .ok (.ifCond .le 34, 3) := by decide +kernel
theorem dX1_add_18 : decode cX1_add 18 = .ok (.aload_n 0, 1) := by decide +kernel
theorem dX1_add_19 : decode cX1_add 19 = .ok (.getfield 21, 3) := by decide +kernel
theorem dX1_add_22 : decode cX1_add 22 = .ok (.aload_n 0, 1) := by decide +kernel
theorem dX1_add_23 : decode cX1_add 23 = .ok (.getfield 9, 3) := by decide +kernel
theorem dX1_add_26 : decode cX1_add 26 = .ok (.arraylength, 1) := by decide +kernel
theorem dX1_add_27 : decode cX1_add 27 = .ok (.if_icmp .gt 22, 3) := by decide +kernel
theorem dX1_add_30 : decode cX1_add 30 = .ok (.aload_n 0, 1) := by decide +kernel
theorem dX1_add_31 : decode cX1_add 31 = .ok (.getfield 9, 3) := by decide +kernel
theorem dX1_add_34 : decode cX1_add 34 = .ok (.aload_n 0, 1) := by decide +kernel
theorem dX1_add_35 : decode cX1_add 35 = .ok (.getfield 21, 3) := by decide +kernel
theorem dX1_add_38 : decode cX1_add 38 = .ok (.iconst 1, 1) := by decide +kernel
theorem dX1_add_39 : decode cX1_add 39 = .ok (.isub, 1) := by decide +kernel
theorem dX1_add_40 : decode cX1_add 40 = .ok (.iaload, 1) := by decide +kernel
theorem dX1_add_41 : decode cX1_add 41 = .ok (.iload_n 1, 1) := by decide +kernel
theorem dX1_add_42 : decode cX1_add 42 = .ok (.if_icmp .ne 7, 3) := by decide +kernel
theorem dX1_add_45 : decode cX1_add 45 = .ok (.iconst 1, 1) := by decide +kernel
theorem dX1_add_46 : decode cX1_add 46 = .ok (.goto 4, 3) := by decide +kernel
theorem dX1_add_49 : decode cX1_add 49 = .ok (.iconst 0, 1) := by decide +kernel
theorem dX1_add_50 : decode cX1_add 50 = .ok (.istore_n 2, 1) := by decide +kernel
theorem dX1_add_51 : decode cX1_add 51 = .ok (.iload_n 2, 1) := by decide +kernel
theorem dX1_add_52 : decode cX1_add 52 = .ok (.ifCond .ne 35, 3) := by decide +kernel
theorem dX1_add_55 : decode cX1_add 55 = .ok (.aload_n 0, 1) := by decide +kernel
theorem dX1_add_56 : decode cX1_add 56 = .ok (.getfield 21, 3) := by decide +kernel
theorem dX1_add_59 : decode cX1_add 59 = .ok (.aload_n 0, 1) := by decide +kernel
theorem dX1_add_60 : decode cX1_add 60 = .ok (.getfield 9, 3) := by decide +kernel
theorem dX1_add_63 : decode cX1_add 63 = .ok (.arraylength, 1) := by decide +kernel
theorem dX1_add_64 : decode cX1_add 64 = .ok (.if_icmp .ge 23, 3) := by decide +kernel
theorem dX1_add_67 : decode cX1_add 67 = .ok (.aload_n 0, 1) := by decide +kernel
theorem dX1_add_68 : decode cX1_add 68 = .ok (.getfield 9, 3) := by decide +kernel
theorem dX1_add_71 : decode cX1_add 71 = .ok (.aload_n 0, 1) := by decide +kernel
theorem dX1_add_72 : decode cX1_add 72 = .ok (.getfield 21, 3) := by decide +kernel
theorem dX1_add_75 : decode cX1_add 75 = .ok (.iload_n 1, 1) := by decide +kernel
theorem dX1_add_76 : decode cX1_add 76 = .ok (.iastore, 1) := by decide +kernel
theorem dX1_add_77 : decode cX1_add 77 = .ok (.aload_n 0, 1) := by decide +kernel
theorem dX1_add_78 : decode cX1_add 78 = .ok (.dup, 1) := by decide +kernel
theorem dX1_add_79 : decode cX1_add 79 = .ok (.getfield 21, 3) := by decide +kernel
theorem dX1_add_82 : decode cX1_add 82 = .ok (.iconst 1, 1) := by decide +kernel
theorem dX1_add_83 : decode cX1_add 83 = .ok (.iadd, 1) := by decide +kernel
theorem dX1_add_84 : decode cX1_add 84 = .ok (.putfield 21, 3) := by decide +kernel
theorem dX1_add_87 : decode cX1_add 87 = .ok (.return_, 1) := by decide +kernel
theorem dX1_countResults_0 : decode cX1_countResults 0 = .ok (.aload_n 0, 1) := by decide +kernel
theorem dX1_countResults_1 : decode cX1_countResults 1 = .ok (.getfield 25, 3) := by decide +kernel
theorem dX1_countResults_4 : decode cX1_countResults 4 = .ok (.ifCond .eq 7, 3) := by decide +kernel
theorem dX1_countResults_7 : decode cX1_countResults 7 = .ok (.iconst 1, 1) := by decide +kernel
theorem dX1_countResults_8 : decode cX1_countResults 8 = .ok (.goto 4, 3) := by decide +kernel
theorem dX1_countResults_11 : decode cX1_countResults 11 = .ok (.iconst 0, 1) := by decide +kernel
theorem dX1_countResults_12 : decode cX1_countResults 12 = .ok (.istore_n 2, 1) := by decide +kernel
theorem dX1_countResults_13 : decode cX1_countResults 13 = .ok (.iconst 0, 1) := by decide +kernel
theorem dX1_countResults_14 : decode cX1_countResults 14 = .ok (.istore_n 3, 1) := by decide +kernel
theorem dX1_countResults_15 : decode cX1_countResults 15 = .ok (.iload_n 3, 1) := by decide +kernel
theorem dX1_countResults_16 : decode cX1_countResults 16 = .ok (.aload_n 0, 1) := by decide +kernel
theorem dX1_countResults_17 : decode cX1_countResults 17 = .ok (.getfield 21, 3) := by decide +kernel
theorem dX1_countResults_20 : decode cX1_countResults 20 = .ok (.if_icmp .ge 49, 3) := by decide +kernel
theorem dX1_countResults_23 : decode cX1_countResults 23 = .ok (.iload_n 3, 1) := by decide +kernel
theorem dX1_countResults_24 : decode cX1_countResults 24 = .ok (.aload_n 0, 1) := by decide +kernel
theorem dX1_countResults_25 : decode cX1_countResults 25 = .ok (.getfield 15, 3) := by decide +kernel
theorem dX1_countResults_28 : decode cX1_countResults 28 = .ok (.arraylength, 1) := by decide +kernel
theorem dX1_countResults_29 : decode cX1_countResults 29 = .ok (.if_icmp .ge 40, 3) := by decide +kernel
theorem dX1_countResults_32 : decode cX1_countResults 32 = .ok (.aload_n 0, 1) := by decide +kernel
theorem dX1_countResults_33 : decode cX1_countResults 33 = .ok (.getfield 15, 3) := by decide +kernel
theorem dX1_countResults_36 : decode cX1_countResults 36 = .ok (.iload_n 3, 1) := by decide +kernel
theorem dX1_countResults_37 : decode cX1_countResults 37 = .ok (.aload_n 1, 1) := by decide +kernel
theorem dX1_countResults_38 : decode cX1_countResults 38 = .ok (.aload_n 1, 1) := by decide +kernel
theorem dX1_countResults_39 : decode cX1_countResults 39 = .ok (.getfield 42, 3) := by decide +kernel
theorem dX1_countResults_42 : decode cX1_countResults 42 = .ok (.aload_n 0, 1) := by decide +kernel
theorem dX1_countResults_43 : decode cX1_countResults 43 = .ok (.getfield 9, 3) := by decide +kernel
theorem dX1_countResults_46 : decode cX1_countResults 46 = .ok (.iload_n 3, 1) := by decide +kernel
theorem dX1_countResults_47 : decode cX1_countResults 47 = .ok (.iaload, 1) := by decide +kernel
theorem dX1_countResults_48 : decode cX1_countResults 48 = .ok (.invokevirtual 43, 3) := by decide +kernel
theorem dX1_countResults_51 : decode cX1_countResults 51 = .ok (.iastore, 1) := by decide +kernel
theorem dX1_countResults_52 : decode cX1_countResults 52 = .ok (.aload_n 0, 1) := by decide +kernel
theorem dX1_countResults_53 : decode cX1_countResults 53 = .ok (.iload_n 3, 1) := by decide +kernel
theorem dX1_countResults_54 : decode cX1_countResults 54 = .ok (.invokevirtual 47, 3) := by decide +kernel
theorem dX1_countResults_57 : decode cX1_countResults 57 = .ok (.ifCond .eq 6, 3) := by decide +kernel
theorem dX1_countResults_60 : decode cX1_countResults 60 = .ok (.iinc 2 1, 3) := by decide +kernel
theorem dX1_countResults_63 : decode cX1_countResults 63 = .ok (.iinc 3 1, 3) := by decide +kernel
theorem dX1_countResults_66 : decode cX1_countResults 66 = .ok (.goto (-51), 3) := by decide +kernel
theorem dX1_countResults_69 : decode cX1_countResults 69 = .ok (.iload_n 2, 1) := by decide +kernel
theorem dX1_countResults_70 : decode cX1_countResults 70 = .ok (.ireturn, 1) := by decide +kernel
theorem dX1_isNew_0 : decode cX1_isNew 0 = .ok (.iconst 0, 1) := by decide +kernel
theorem dX1_isNew_1 : decode cX1_isNew 1 = .ok (.istore_n 2, 1) := by decide +kernel
theorem dX1_isNew_2 : decode cX1_isNew 2 = .ok (.iload_n 2, 1) := by decide +kernel
theorem dX1_isNew_3 : decode cX1_isNew 3 = .ok (.iload_n 1, 1) := by decide +kernel
theorem dX1_isNew_4 : decode cX1_isNew 4 = .ok (.if_icmp .ge 26, 3) := by decide +kernel
theorem dX1_isNew_7 : decode cX1_isNew 7 = .ok (.aload_n 0, 1) := by decide +kernel
theorem dX1_isNew_8 : decode cX1_isNew 8 = .ok (.getfield 15, 3) := by decide +kernel
theorem dX1_isNew_11 : decode cX1_isNew 11 = .ok (.iload_n 2, 1) := by decide +kernel
theorem dX1_isNew_12 : decode cX1_isNew 12 = .ok (.iaload, 1) := by decide +kernel
theorem dX1_isNew_13 : decode cX1_isNew 13 = .ok (.aload_n 0, 1) := by decide +kernel
theorem dX1_isNew_14 : decode cX1_isNew 14 = .ok (.getfield 15, 3) := by decide +kernel
theorem dX1_isNew_17 : decode cX1_isNew 17 = .ok (.iload_n 1, 1) := by decide +kernel
theorem dX1_isNew_18 : decode cX1_isNew 18 = .ok (.iaload, 1) := by decide +kernel
theorem dX1_isNew_19 : decode cX1_isNew 19 = .ok (.if_icmp .ne 5, 3) := by decide +kernel
theorem dX1_isNew_22 : decode cX1_isNew 22 = .ok (.iconst 0, 1) := by decide +kernel
theorem dX1_isNew_23 : decode cX1_isNew 23 = .ok (.ireturn, 1) := by decide +kernel
theorem dX1_isNew_24 : decode cX1_isNew 24 = .ok (.iinc 2 1, 3) := by decide +kernel
theorem dX1_isNew_27 : decode cX1_isNew 27 = .ok (.goto (-25), 3) := by decide +kernel
theorem dX1_isNew_30 : decode cX1_isNew 30 = .ok (.iconst 1, 1) := by decide +kernel
theorem dX1_isNew_31 : decode cX1_isNew 31 = .ok (.ireturn, 1) := by decide +kernel
theorem dX1_reaches_0 : decode cX1_reaches 0 = .ok (.iconst 0, 1) := by decide +kernel
theorem dX1_reaches_1 : decode cX1_reaches 1 = .ok (.istore 4, 2) := by decide +kernel
theorem dX1_reaches_3 : decode cX1_reaches 3 = .ok (.iload 4, 2) := by decide +kernel
theorem dX1_reaches_5 : decode cX1_reaches 5 = .ok (.aload_n 0, 1) := by decide +kernel
theorem dX1_reaches_6 : decode cX1_reaches 6 = .ok (.getfield 21, 3) := by decide +kernel
theorem dX1_reaches_9 : decode cX1_reaches 9 = .ok (.if_icmp .ge 39, 3) := by decide +kernel
theorem dX1_reaches_12 : decode cX1_reaches 12 = .ok (.iload 4, 2) := by decide +kernel
theorem dX1_reaches_14 : decode cX1_reaches 14 = .ok (.aload_n 0, 1) := by decide +kernel
theorem dX1_reaches_15 : decode cX1_reaches 15 = .ok (.getfield 9, 3) := by decide +kernel
theorem dX1_reaches_18 : decode cX1_reaches 18 = .ok (.arraylength, 1) := by decide +kernel
theorem dX1_reaches_19 : decode cX1_reaches 19 = .ok (.if_icmp .ge 29, 3) := by decide +kernel
theorem dX1_reaches_22 : decode cX1_reaches 22 = .ok (.aload_n 1, 1) := by decide +kernel
theorem dX1_reaches_23 : decode cX1_reaches 23 = .ok (.aload_n 2, 1) := by decide +kernel
theorem dX1_reaches_24 : decode cX1_reaches 24 = .ok (.aload_n 0, 1) := by decide +kernel
theorem dX1_reaches_25 : decode cX1_reaches 25 = .ok (.getfield 9, 3) := by decide +kernel
theorem dX1_reaches_28 : decode cX1_reaches 28 = .ok (.iload 4, 2) := by decide +kernel
theorem dX1_reaches_30 : decode cX1_reaches 30 = .ok (.iaload, 1) := by decide +kernel
theorem dX1_reaches_31 : decode cX1_reaches 31 = .ok (.invokevirtual 43, 3) := by decide +kernel
theorem dX1_reaches_34 : decode cX1_reaches 34 = .ok (.iconst 1, 1) := by decide +kernel
theorem dX1_reaches_35 : decode cX1_reaches 35 = .ok (.iand, 1) := by decide +kernel
theorem dX1_reaches_36 : decode cX1_reaches 36 = .ok (.iload_n 3, 1) := by decide +kernel
theorem dX1_reaches_37 : decode cX1_reaches 37 = .ok (.if_icmp .ne 5, 3) := by decide +kernel
theorem dX1_reaches_40 : decode cX1_reaches 40 = .ok (.iconst 1, 1) := by decide +kernel
theorem dX1_reaches_41 : decode cX1_reaches 41 = .ok (.ireturn, 1) := by decide +kernel
theorem dX1_reaches_42 : decode cX1_reaches 42 = .ok (.iinc 4 1, 3) := by decide +kernel
theorem dX1_reaches_45 : decode cX1_reaches 45 = .ok (.goto (-42), 3) := by decide +kernel
theorem dX1_reaches_48 : decode cX1_reaches 48 = .ok (.iconst 0, 1) := by decide +kernel
theorem dX1_reaches_49 : decode cX1_reaches 49 = .ok (.ireturn, 1) := by decide +kernel
theorem dX1_countForced_0 : decode cX1_countForced 0 = .ok (.aload_n 1, 1) := by decide +kernel
theorem dX1_countForced_1 : decode cX1_countForced 1 = .ok (.getfield 42, 3) := by decide +kernel
theorem dX1_countForced_4 : decode cX1_countForced 4 = .ok (.iconst 0, 1) := by decide +kernel
theorem dX1_countForced_5 : decode cX1_countForced 5 = .ok (.aload_n 0, 1) := by decide +kernel
theorem dX1_countForced_6 : decode cX1_countForced 6 = .ok (.getfield 18, 3) := by decide +kernel
theorem dX1_countForced_9 : decode cX1_countForced 9 = .ok (.iconst 0, 1) := by decide +kernel
theorem dX1_countForced_10 : decode cX1_countForced 10 = .ok (.bipush 8, 2) := by decide +kernel
theorem dX1_countForced_12 : decode cX1_countForced 12 = .ok (.invokestatic 51, 3) := by decide +kernel
theorem dX1_countForced_15 : decode cX1_countForced 15 = .ok (.iconst 1, 1) := by decide +kernel
theorem dX1_countForced_16 : decode cX1_countForced 16 = .ok (.iload_n 3, 1) := by decide +kernel
theorem dX1_countForced_17 : decode cX1_countForced 17 = .ok (.iload_n 2, 1) := by decide +kernel
theorem dX1_countForced_18 : decode cX1_countForced 18 = .ok (.invokestatic 57, 3) := by decide +kernel
theorem dX1_countForced_21 : decode cX1_countForced 21 = .ok (.imul, 1) := by decide +kernel
theorem dX1_countForced_22 : decode cX1_countForced 22 = .ok (.ishl, 1) := by decide +kernel
theorem dX1_countForced_23 : decode cX1_countForced 23 = .ok (.istore 4, 2) := by decide +kernel
theorem dX1_countForced_25 : decode cX1_countForced 25 = .ok (.iconst 0, 1) := by decide +kernel
theorem dX1_countForced_26 : decode cX1_countForced 26 = .ok (.istore 5, 2) := by decide +kernel
theorem dX1_countForced_28 : decode cX1_countForced 28 = .ok (.iconst 0, 1) := by decide +kernel
theorem dX1_countForced_29 : decode cX1_countForced 29 = .ok (.istore 6, 2) := by decide +kernel
theorem dX1_countForced_31 : decode cX1_countForced 31 = .ok (.iload 6, 2) := by decide +kernel
theorem dX1_countForced_33 : decode cX1_countForced 33 = .ok (.iload 4, 2) := by decide +kernel
theorem dX1_countForced_35 : decode cX1_countForced 35 = .ok (.if_icmp .ge 33, 3) := by decide +kernel
theorem dX1_countForced_38 : decode cX1_countForced 38 = .ok (.aload_n 0, 1) := by decide +kernel
theorem dX1_countForced_39 : decode cX1_countForced 39 = .ok (.iload 6, 2) := by decide +kernel
theorem dX1_countForced_41 : decode cX1_countForced 41 = .ok (.iload_n 2, 1) := by decide +kernel
theorem dX1_countForced_42 : decode cX1_countForced 42 = .ok (.iload_n 3, 1) := by decide +kernel
theorem dX1_countForced_43 : decode cX1_countForced 43 = .ok (.invokevirtual 62, 3) := by decide +kernel
theorem dX1_countForced_46 : decode cX1_countForced 46 = .ok (.aload_n 0, 1) := by decide +kernel
theorem dX1_countForced_47 : decode cX1_countForced 47 = .ok (.aload_n 1, 1) := by decide +kernel
theorem dX1_countForced_48 : decode cX1_countForced 48 = .ok (.aload_n 0, 1) := by decide +kernel
theorem dX1_countForced_49 : decode cX1_countForced 49 = .ok (.getfield 18, 3) := by decide +kernel
theorem dX1_countForced_52 : decode cX1_countForced 52 = .ok (.iconst 1, 1) := by decide +kernel
theorem dX1_countForced_53 : decode cX1_countForced 53 = .ok (.invokevirtual 66, 3) := by decide +kernel
theorem dX1_countForced_56 : decode cX1_countForced 56 = .ok (.ifCond .eq 6, 3) := by decide +kernel
theorem dX1_countForced_59 : decode cX1_countForced 59 = .ok (.iinc 5 1, 3) := by decide +kernel
theorem dX1_countForced_62 : decode cX1_countForced 62 = .ok (.iinc 6 1, 3) := by decide +kernel
theorem dX1_countForced_65 : decode cX1_countForced 65 = .ok (.goto (-34), 3) := by decide +kernel
theorem dX1_countForced_68 : decode cX1_countForced 68 = .ok (.iload 5, 2) := by decide +kernel
theorem dX1_countForced_70 : decode cX1_countForced 70 = .ok (.ireturn, 1) := by decide +kernel
theorem dX1_spread_0 : decode cX1_spread 0 = .ok (.iload_n 1, 1) := by decide +kernel
theorem dX1_spread_1 : decode cX1_spread 1 = .ok (.istore 4, 2) := by decide +kernel
theorem dX1_spread_3 : decode cX1_spread 3 = .ok (.iconst 0, 1) := by decide +kernel
theorem dX1_spread_4 : decode cX1_spread 4 = .ok (.istore 5, 2) := by decide +kernel
theorem dX1_spread_6 : decode cX1_spread 6 = .ok (.iload 5, 2) := by decide +kernel
theorem dX1_spread_8 : decode cX1_spread 8 = .ok (.bipush 8, 2) := by decide +kernel
theorem dX1_spread_10 : decode cX1_spread 10 = .ok (.if_icmp .ge 39, 3) := by decide +kernel
theorem dX1_spread_13 : decode cX1_spread 13 = .ok (.iload_n 2, 1) := by decide +kernel
theorem dX1_spread_14 : decode cX1_spread 14 = .ok (.iload 5, 2) := by decide +kernel
theorem dX1_spread_16 : decode cX1_spread 16 = .ok (.invokestatic 70, 3) := by decide +kernel
theorem dX1_spread_19 : decode cX1_spread 19 = .ok (.ifCond .eq 24, 3) := by decide +kernel
theorem dX1_spread_22 : decode cX1_spread 22 = .ok (.aload_n 0, 1) := by decide +kernel
theorem dX1_spread_23 : decode cX1_spread 23 = .ok (.getfield 18, 3) := by decide +kernel
theorem dX1_spread_26 : decode cX1_spread 26 = .ok (.iload 5, 2) := by decide +kernel
theorem dX1_spread_28 : decode cX1_spread 28 = .ok (.iload 4, 2) := by decide +kernel
theorem dX1_spread_30 : decode cX1_spread 30 = .ok (.iconst 1, 1) := by decide +kernel
theorem dX1_spread_31 : decode cX1_spread 31 = .ok (.iload_n 3, 1) := by decide +kernel
theorem dX1_spread_32 : decode cX1_spread 32 = .ok (.ishl, 1) := by decide +kernel
theorem dX1_spread_33 : decode cX1_spread 33 = .ok (.iconst 1, 1) := by decide +kernel
theorem dX1_spread_34 : decode cX1_spread 34 = .ok (.isub, 1) := by decide +kernel
theorem dX1_spread_35 : decode cX1_spread 35 = .ok (.iand, 1) := by decide +kernel
theorem dX1_spread_36 : decode cX1_spread 36 = .ok (.iastore, 1) := by decide +kernel
theorem dX1_spread_37 : decode cX1_spread 37 = .ok (.iload 4, 2) := by decide +kernel
theorem dX1_spread_39 : decode cX1_spread 39 = .ok (.iload_n 3, 1) := by decide +kernel
theorem dX1_spread_40 : decode cX1_spread 40 = .ok (.iushr, 1) := by decide +kernel
theorem dX1_spread_41 : decode cX1_spread 41 = .ok (.istore 4, 2) := by decide +kernel
theorem dX1_spread_43 : decode cX1_spread 43 = .ok (.iinc 5 1, 3) := by decide +kernel
theorem dX1_spread_46 : decode cX1_spread 46 = .ok (.goto (-40), 3) := by decide +kernel
theorem dX1_spread_49 : decode cX1_spread 49 = .ok (.return_, 1) := by decide +kernel
theorem dX2_playRound_0 : decode cX2_playRound 0 = .ok (.aload_n 0, 1) := by decide +kernel
theorem dX2_playRound_1 : decode cX2_playRound 1 = .ok (.invokevirtual 9, 3) := by decide +kernel
theorem dX2_playRound_4 : decode cX2_playRound 4 = .ok (.aload_n 0, 1) := by decide +kernel
theorem dX2_playRound_5 : decode cX2_playRound 5 = .ok (.iload_n 1, 1) := by decide +kernel
theorem dX2_playRound_6 : decode cX2_playRound 6 = .ok (.invokestatic 14, 3) := by decide +kernel
theorem dX2_playRound_9 : decode cX2_playRound 9 = .ok (.aload_n 0, 1) := by decide +kernel
theorem dX2_playRound_10 : decode cX2_playRound 10 = .ok (.getfield 20, 3) := by decide +kernel
theorem dX2_playRound_13 : decode cX2_playRound 13 = .ok (.iconst 1, 1) := by decide +kernel
theorem dX2_playRound_14 : decode cX2_playRound 14 = .ok (.if_icmp .ne 11, 3) := by decide +kernel
theorem dX2_playRound_17 : decode cX2_playRound 17 = .ok (.aload_n 0, 1) := by decide +kernel
theorem dX2_playRound_18 : decode cX2_playRound 18 = .ok (.invokestatic 24, 3) := by decide +kernel
theorem dX2_playRound_21 : decode cX2_playRound 21 = .ok (.aload_n 0, 1) := by decide +kernel
theorem dX2_playRound_22 : decode cX2_playRound 22 = .ok (.invokestatic 28, 3) := by decide +kernel
theorem dX2_playRound_25 : decode cX2_playRound 25 = .ok (.aload_n 0, 1) := by decide +kernel
theorem dX2_playRound_26 : decode cX2_playRound 26 = .ok (.invokevirtual 31, 3) := by decide +kernel
theorem dX2_playRound_29 : decode cX2_playRound 29 = .ok (.bipush (-5), 2) := by decide +kernel
theorem dX2_playRound_31 : decode cX2_playRound 31 = .ok (.if_icmp .ne 6, 3) := by decide +kernel
theorem dX2_playRound_34 : decode cX2_playRound 34 = .ok (.bipush (-5), 2) := by decide +kernel
theorem dX2_playRound_36 : decode cX2_playRound 36 = .ok (.ireturn, 1) := by decide +kernel
theorem dX2_playRound_37 : decode cX2_playRound 37 = .ok (.aload_n 0, 1) := by decide +kernel
theorem dX2_playRound_38 : decode cX2_playRound 38 = .ok (.invokestatic 35, 3) := by decide +kernel
theorem dX2_playRound_41 : decode cX2_playRound 41 = .ok (.aload_n 0, 1) := by decide +kernel
theorem dX2_playRound_42 : decode cX2_playRound 42 = .ok (.invokestatic 38, 3) := by decide +kernel
theorem dX2_playRound_45 : decode cX2_playRound 45 = .ok (.aload_n 0, 1) := by decide +kernel
theorem dX2_playRound_46 : decode cX2_playRound 46 = .ok (.invokevirtual 41, 3) := by decide +kernel
theorem dX2_playRound_49 : decode cX2_playRound 49 = .ok (.ireturn, 1) := by decide +kernel
theorem dX2_commitAll_0 : decode cX2_commitAll 0 = .ok (.iload_n 1, 1) := by decide +kernel
theorem dX2_commitAll_1 : decode cX2_commitAll 1 = .ok (.istore_n 2, 1) := by decide +kernel
theorem dX2_commitAll_2 : decode cX2_commitAll 2 = .ok (.iconst 0, 1) := by decide +kernel
theorem dX2_commitAll_3 : decode cX2_commitAll 3 = .ok (.istore_n 3, 1) := by decide +kernel
theorem dX2_commitAll_4 : decode cX2_commitAll 4 = .ok (.iload_n 3, 1) := by decide +kernel
theorem dX2_commitAll_5 : decode cX2_commitAll 5 = .ok (.bipush 8, 2) := by decide +kernel
theorem dX2_commitAll_7 : decode cX2_commitAll 7 = .ok (.if_icmp .ge 70, 3) := by decide +kernel
theorem dX2_commitAll_10 : decode cX2_commitAll 10 = .ok (.aload_n 0, 1) := by decide +kernel
theorem dX2_commitAll_11 : decode cX2_commitAll 11 = .ok (.getfield 44, 3) := by decide +kernel
theorem dX2_commitAll_14 : decode cX2_commitAll 14 = .ok (.iload_n 3, 1) := by decide +kernel
theorem dX2_commitAll_15 : decode cX2_commitAll 15 = .ok (.invokestatic 47, 3) := by decide +kernel
theorem dX2_commitAll_18 : decode cX2_commitAll 18 = .ok (.ifCond .eq 53, 3) := by decide +kernel
theorem dX2_commitAll_21 : decode cX2_commitAll 21 = .ok (.iload_n 2, 1) := by decide +kernel
theorem dX2_commitAll_22 : decode cX2_commitAll 22 = .ok (.invokestatic 51, 3) := by decide +kernel
theorem dX2_commitAll_25 : decode cX2_commitAll 25 = .ok (.istore_n 2, 1) := by decide +kernel
theorem dX2_commitAll_26 : decode cX2_commitAll 26 = .ok (.iload_n 2, 1) := by decide +kernel
theorem dX2_commitAll_27 : decode cX2_commitAll 27 = .ok (.invokestatic 55, 3) := by decide +kernel
theorem dX2_commitAll_30 : decode cX2_commitAll 30 = .ok (.sipush 1019, 3) := by decide +kernel
theorem dX2_commitAll_33 : decode cX2_commitAll 33 = .ok (.irem, 1) := by decide +kernel
theorem dX2_commitAll_34 : decode cX2_commitAll 34 = .ok (.istore 4, 2) := by decide +kernel
theorem dX2_commitAll_36 : decode cX2_commitAll 36 = .ok (.iload_n 2, 1) := by decide +kernel
theorem dX2_commitAll_37 : decode cX2_commitAll 37 = .ok (.invokestatic 51, 3) := by decide +kernel
theorem dX2_commitAll_40 : decode cX2_commitAll 40 = .ok (.istore_n 2, 1) := by decide +kernel
theorem dX2_commitAll_41 : decode cX2_commitAll 41 = .ok (.iload_n 2, 1) := by decide +kernel
theorem dX2_commitAll_42 : decode cX2_commitAll 42 = .ok (.invokestatic 55, 3) := by decide +kernel
theorem dX2_commitAll_45 : decode cX2_commitAll 45 = .ok (.istore 5, 2) := by decide +kernel
theorem dX2_commitAll_47 : decode cX2_commitAll 47 = .ok (.aload_n 0, 1) := by decide +kernel
theorem dX2_commitAll_48 : decode cX2_commitAll 48 = .ok (.aload_n 0, 1) := by decide +kernel
theorem dX2_commitAll_49 : decode cX2_commitAll 49 = .ok (.iload 4, 2) := by decide +kernel
theorem dX2_commitAll_51 : decode cX2_commitAll 51 = .ok (.iload 5, 2) := by decide +kernel
theorem dX2_commitAll_53 : decode cX2_commitAll 53 = .ok (.invokevirtual 58, 3) := by decide +kernel
theorem dX2_commitAll_56 : decode cX2_commitAll 56 = .ok (.invokevirtual 62, 3) := by decide +kernel
theorem dX2_commitAll_59 : decode cX2_commitAll 59 = .ok (.ifCond .ne 12, 3) := by decide +kernel
theorem dX2_commitAll_62 : decode cX2_commitAll 62 = .ok (.aload_n 0, 1) := by decide +kernel
theorem dX2_commitAll_63 : decode cX2_commitAll 63 = .ok (.iload_n 3, 1) := by decide +kernel
theorem dX2_commitAll_64 : decode cX2_commitAll 64 = .ok (.iload 4, 2) := by decide +kernel
theorem dX2_commitAll_66 : decode cX2_commitAll 66 = .ok (.iload 5, 2) := by decide +kernel
theorem dX2_commitAll_68 : decode cX2_commitAll 68 = .ok (.invokevirtual 66, 3) := by decide +kernel
theorem dX2_commitAll_71 : decode cX2_commitAll 71 = .ok (.iinc 3 1, 3) := by decide +kernel
theorem dX2_commitAll_74 : decode cX2_commitAll 74 = .ok (.goto (-70), 3) := by decide +kernel
theorem dX2_commitAll_77 : decode cX2_commitAll 77 = .ok (.return_, 1) := by decide +kernel
theorem dX2_cheat_0 : decode cX2_cheat 0 = .ok (.iconst 0, 1) := by decide +kernel
theorem dX2_cheat_1 : decode cX2_cheat 1 = .ok (.istore_n 1, 1) := by decide +kernel
theorem dX2_cheat_2 : decode cX2_cheat 2 = .ok (.iload_n 1, 1) := by decide +kernel
theorem dX2_cheat_3 : decode cX2_cheat 3 = .ok (.bipush 8, 2) := by decide +kernel
theorem dX2_cheat_5 : decode cX2_cheat 5 = .ok (.if_icmp .ge 52, 3) := by decide +kernel
theorem dX2_cheat_8 : decode cX2_cheat 8 = .ok (.aload_n 0, 1) := by decide +kernel
theorem dX2_cheat_9 : decode cX2_cheat 9 = .ok (.getfield 70, 3) := by decide +kernel
theorem dX2_cheat_12 : decode cX2_cheat 12 = .ok (.iload_n 1, 1) := by decide +kernel
theorem dX2_cheat_13 : decode cX2_cheat 13 = .ok (.invokestatic 47, 3) := by decide +kernel
theorem dX2_cheat_16 : decode cX2_cheat 16 = .ok (.ifCond .eq 35, 3) := by decide +kernel
theorem dX2_cheat_19 : decode cX2_cheat 19 = .ok (.aload_n 0, 1) := by decide +kernel
theorem dX2_cheat_20 : decode cX2_cheat 20 = .ok (.getfield 73, 3) := by decide +kernel
theorem dX2_cheat_23 : decode cX2_cheat 23 = .ok (.iload_n 1, 1) := by decide +kernel
theorem dX2_cheat_24 : decode cX2_cheat 24 = .ok (.aaload, 1) := by decide +kernel
theorem dX2_cheat_25 : decode cX2_cheat 25 = .ok (.getfield 77, 3) := by decide +kernel
theorem dX2_cheat_28 : decode cX2_cheat 28 = .ok (.iconst 3, 1) := by decide +kernel
theorem dX2_cheat_29 : decode cX2_cheat 29 = .ok (.if_icmp .ne 22, 3) := by decide +kernel
theorem dX2_cheat_32 : decode cX2_cheat 32 = .ok (.aload_n 0, 1) := by decide +kernel
theorem dX2_cheat_33 : decode cX2_cheat 33 = .ok (.getfield 73, 3) := by decide +kernel
theorem dX2_cheat_36 : decode cX2_cheat 36 = .ok (.iload_n 1, 1) := by decide +kernel
theorem dX2_cheat_37 : decode cX2_cheat 37 = .ok (.aaload, 1) := by decide +kernel
theorem dX2_cheat_38 : decode cX2_cheat 38 = .ok (.aload_n 0, 1) := by decide +kernel
theorem dX2_cheat_39 : decode cX2_cheat 39 = .ok (.iload_n 1, 1) := by decide +kernel
theorem dX2_cheat_40 : decode cX2_cheat 40 = .ok (.invokestatic 82, 3) := by decide +kernel
theorem dX2_cheat_43 : decode cX2_cheat 43 = .ok (.iconst 1, 1) := by decide +kernel
theorem dX2_cheat_44 : decode cX2_cheat 44 = .ok (.aload_n 0, 1) := by decide +kernel
theorem dX2_cheat_45 : decode cX2_cheat 45 = .ok (.getfield 86, 3) := by decide +kernel
theorem dX2_cheat_48 : decode cX2_cheat 48 = .ok (.invokevirtual 89, 3) := by decide +kernel
theorem dX2_cheat_51 : decode cX2_cheat 51 = .ok (.iinc 1 1, 3) := by decide +kernel
theorem dX2_cheat_54 : decode cX2_cheat 54 = .ok (.goto (-52), 3) := by decide +kernel
theorem dX2_cheat_57 : decode cX2_cheat 57 = .ok (.return_, 1) := by decide +kernel
theorem dX2_memberAfter_0 : decode cX2_memberAfter 0 = .ok (.iconst 1, 1) := by decide +kernel
theorem dX2_memberAfter_1 : decode cX2_memberAfter 1 = .ok (.istore_n 2, 1) := by decide +kernel
theorem dX2_memberAfter_2 : decode cX2_memberAfter 2 = .ok (.iload_n 2, 1) := by decide +kernel
theorem dX2_memberAfter_3 : decode cX2_memberAfter 3 = .ok (.bipush 8, 2) := by decide +kernel
theorem dX2_memberAfter_5 : decode cX2_memberAfter 5 = .ok (.if_icmp .ge 29, 3) := by decide +kernel
theorem dX2_memberAfter_8 : decode cX2_memberAfter 8 = .ok (.iload_n 1, 1) := by decide +kernel
theorem dX2_memberAfter_9 : decode cX2_memberAfter 9 = .ok (.iload_n 2, 1) := by decide +kernel
theorem dX2_memberAfter_10 : decode cX2_memberAfter 10 = .ok (.iadd, 1) := by decide +kernel
theorem dX2_memberAfter_11 : decode cX2_memberAfter 11 = .ok (.bipush 8, 2) := by decide +kernel
theorem dX2_memberAfter_13 : decode cX2_memberAfter 13 = .ok (.irem, 1) := by decide +kernel
theorem dX2_memberAfter_14 : decode cX2_memberAfter 14 = .ok (.istore_n 3, 1) := by decide +kernel
theorem dX2_memberAfter_15 : decode cX2_memberAfter 15 = .ok (.aload_n 0, 1) := by decide +kernel
theorem dX2_memberAfter_16 : decode cX2_memberAfter 16 = .ok (.getfield 44, 3) := by decide +kernel
theorem dX2_memberAfter_19 : decode cX2_memberAfter 19 = .ok (.iload_n 3, 1) := by decide +kernel
theorem dX2_memberAfter_20 : decode cX2_memberAfter 20 = .ok (.invokestatic 47, 3) := by decide +kernel
theorem dX2_memberAfter_23 : decode cX2_memberAfter 23 = .ok (.ifCond .eq 5, 3) := by decide +kernel
theorem dX2_memberAfter_26 : decode cX2_memberAfter 26 = .ok (.iload_n 3, 1) := by decide +kernel
theorem dX2_memberAfter_27 : decode cX2_memberAfter 27 = .ok (.ireturn, 1) := by decide +kernel
theorem dX2_memberAfter_28 : decode cX2_memberAfter 28 = .ok (.iinc 2 1, 3) := by decide +kernel
theorem dX2_memberAfter_31 : decode cX2_memberAfter 31 = .ok (.goto (-29), 3) := by decide +kernel
theorem dX2_memberAfter_34 : decode cX2_memberAfter 34 = .ok (.iload_n 1, 1) := by decide +kernel
theorem dX2_memberAfter_35 : decode cX2_memberAfter 35 = .ok (.ireturn, 1) := by decide +kernel
theorem dX2_complainAll_0 : decode cX2_complainAll 0 = .ok (.iconst 0, 1) := by decide +kernel
theorem dX2_complainAll_1 : decode cX2_complainAll 1 = .ok (.istore_n 1, 1) := by decide +kernel
theorem dX2_complainAll_2 : decode cX2_complainAll 2 = .ok (.iload_n 1, 1) := by decide +kernel
theorem dX2_complainAll_3 : decode cX2_complainAll 3 = .ok (.bipush 8, 2) := by decide +kernel
theorem dX2_complainAll_5 : decode cX2_complainAll 5 = .ok (.if_icmp .ge 71, 3) := by decide +kernel
theorem dX2_complainAll_8 : decode cX2_complainAll 8 = .ok (.iconst 0, 1) := by decide +kernel
theorem dX2_complainAll_9 : decode cX2_complainAll 9 = .ok (.istore_n 2, 1) := by decide +kernel
theorem dX2_complainAll_10 : decode cX2_complainAll 10 = .ok (.iload_n 2, 1) := by decide +kernel
theorem dX2_complainAll_11 : decode cX2_complainAll 11 = .ok (.bipush 8, 2) := by decide +kernel
theorem dX2_complainAll_13 : decode cX2_complainAll 13 = .ok (.if_icmp .ge 57, 3) := by decide +kernel
theorem dX2_complainAll_16 : decode cX2_complainAll 16 = .ok (.iload_n 1, 1) := by decide +kernel
theorem dX2_complainAll_17 : decode cX2_complainAll 17 = .ok (.iload_n 2, 1) := by decide +kernel
theorem dX2_complainAll_18 : decode cX2_complainAll 18 = .ok (.if_icmp .eq 46, 3) := by decide +kernel
theorem dX2_complainAll_21 : decode cX2_complainAll 21 = .ok (.aload_n 0, 1) := by decide +kernel
theorem dX2_complainAll_22 : decode cX2_complainAll 22 = .ok (.getfield 44, 3) := by decide +kernel
theorem dX2_complainAll_25 : decode cX2_complainAll 25 = .ok (.iload_n 1, 1) := by decide +kernel
theorem dX2_complainAll_26 : decode cX2_complainAll 26 = .ok (.invokestatic 47, 3) := by decide +kernel
theorem dX2_complainAll_29 : decode cX2_complainAll 29 = .ok (.ifCond .eq 35, 3) := by decide +kernel
theorem dX2_complainAll_32 : decode cX2_complainAll 32 = .ok (.aload_n 0, 1) := by decide +kernel
theorem dX2_complainAll_33 : decode cX2_complainAll 33 = .ok (.getfield 70, 3) := by decide +kernel
theorem dX2_complainAll_36 : decode cX2_complainAll 36 = .ok (.iload_n 2, 1) := by decide +kernel
theorem dX2_complainAll_37 : decode cX2_complainAll 37 = .ok (.invokestatic 47, 3) := by decide +kernel
theorem dX2_complainAll_40 : decode cX2_complainAll 40 = .ok (.ifCond .eq 24, 3) := by decide +kernel
theorem dX2_complainAll_43 : decode cX2_complainAll 43 = .ok (.aload_n 0, 1) := by decide +kernel
theorem dX2_complainAll_44 : decode cX2_complainAll 44 = .ok (.getfield 73, 3) := by decide +kernel
theorem dX2_complainAll_47 : decode cX2_complainAll 47 = .ok (.iload_n 2, 1) := by decide +kernel
theorem dX2_complainAll_48 : decode cX2_complainAll 48 = .ok (.aaload, 1) := by decide +kernel
theorem dX2_complainAll_49 : decode cX2_complainAll 49 = .ok (.getfield 92, 3) := by decide +kernel
theorem dX2_complainAll_52 : decode cX2_complainAll 52 = .ok (.iload_n 1, 1) := by decide +kernel
theorem dX2_complainAll_53 : decode cX2_complainAll 53 = .ok (.invokestatic 47, 3) := by decide +kernel
theorem dX2_complainAll_56 : decode cX2_complainAll 56 = .ok (.ifCond .ne 8, 3) := by decide +kernel
theorem dX2_complainAll_59 : decode cX2_complainAll 59 = .ok (.aload_n 0, 1) := by decide +kernel
theorem dX2_complainAll_60 : decode cX2_complainAll 60 = .ok (.iload_n 2, 1) := by decide +kernel
theorem dX2_complainAll_61 : decode cX2_complainAll 61 = .ok (.invokevirtual 95, 3) := by decide +kernel
theorem dX2_complainAll_64 : decode cX2_complainAll 64 = .ok (.iinc 2 1, 3) := by decide +kernel
theorem dX2_complainAll_67 : decode cX2_complainAll 67 = .ok (.goto (-57), 3) := by decide +kernel
theorem dX2_complainAll_70 : decode cX2_complainAll 70 = .ok (.iinc 1 1, 3) := by decide +kernel
theorem dX2_complainAll_73 : decode cX2_complainAll 73 = .ok (.goto (-71), 3) := by decide +kernel
theorem dX2_complainAll_76 : decode cX2_complainAll 76 = .ok (.return_, 1) := by decide +kernel
theorem dX2_openHonest_0 : decode cX2_openHonest 0 = .ok (.iconst 0, 1) := by decide +kernel
theorem dX2_openHonest_1 : decode cX2_openHonest 1 = .ok (.istore_n 1, 1) := by decide +kernel
theorem dX2_openHonest_2 : decode cX2_openHonest 2 = .ok (.iload_n 1, 1) := by decide +kernel
theorem dX2_openHonest_3 : decode cX2_openHonest 3 = .ok (.bipush 8, 2) := by decide +kernel
theorem dX2_openHonest_5 : decode cX2_openHonest 5 = .ok (.if_icmp .ge 51, 3) := by decide +kernel
theorem dX2_openHonest_8 : decode cX2_openHonest 8 = .ok (.aload_n 0, 1) := by decide +kernel
theorem dX2_openHonest_9 : decode cX2_openHonest 9 = .ok (.getfield 73, 3) := by decide +kernel
theorem dX2_openHonest_12 : decode cX2_openHonest 12 = .ok (.iload_n 1, 1) := by decide +kernel
theorem dX2_openHonest_13 : decode cX2_openHonest 13 = .ok (.aaload, 1) := by decide +kernel
theorem dX2_openHonest_14 : decode cX2_openHonest 14 = .ok (.getfield 77, 3) := by decide +kernel
theorem dX2_openHonest_17 : decode cX2_openHonest 17 = .ok (.istore_n 2, 1) := by decide +kernel
theorem dX2_openHonest_18 : decode cX2_openHonest 18 = .ok (.aload_n 0, 1) := by decide +kernel
theorem dX2_openHonest_19 : decode cX2_openHonest 19 = .ok (.getfield 44, 3) := by decide +kernel
theorem dX2_openHonest_22 : decode cX2_openHonest 22 = .ok (.iload_n 1, 1) := by decide +kernel
theorem dX2_openHonest_23 : decode cX2_openHonest 23 = .ok (.invokestatic 47, 3) := by decide +kernel
theorem dX2_openHonest_26 : decode cX2_openHonest 26 = .ok (.ifCond .eq 24, 3) := by decide +kernel
theorem dX2_openHonest_29 : decode cX2_openHonest 29 = .ok (.iload_n 2, 1) := by decide +kernel
theorem dX2_openHonest_30 : decode cX2_openHonest 30 = .ok (.ifCond .eq 8, 3) := by decide +kernel
theorem dX2_openHonest_33 : decode cX2_openHonest 33 = .ok (.iload_n 2, 1) := by decide +kernel
theorem dX2_openHonest_34 : decode cX2_openHonest 34 = .ok (.iconst 3, 1) := by decide +kernel
theorem dX2_openHonest_35 : decode cX2_openHonest 35 = .ok (.if_icmp .ne 15, 3) := by decide +kernel
theorem dX2_openHonest_38 : decode cX2_openHonest 38 = .ok (.aload_n 0, 1) := by decide +kernel
theorem dX2_openHonest_39 : decode cX2_openHonest 39 = .ok (.dup, 1) := by decide +kernel
theorem dX2_openHonest_40 : decode cX2_openHonest 40 = .ok (.getfield 99, 3) := by decide +kernel
theorem dX2_openHonest_43 : decode cX2_openHonest 43 = .ok (.iconst 1, 1) := by decide +kernel
theorem dX2_openHonest_44 : decode cX2_openHonest 44 = .ok (.iload_n 1, 1) := by decide +kernel
theorem dX2_openHonest_45 : decode cX2_openHonest 45 = .ok (.ishl, 1) := by decide +kernel
theorem dX2_openHonest_46 : decode cX2_openHonest 46 = .ok (.ior, 1) := by decide +kernel
theorem dX2_openHonest_47 : decode cX2_openHonest 47 = .ok (.putfield 99, 3) := by decide +kernel
theorem dX2_openHonest_50 : decode cX2_openHonest 50 = .ok (.iinc 1 1, 3) := by decide +kernel
theorem dX2_openHonest_53 : decode cX2_openHonest 53 = .ok (.goto (-51), 3) := by decide +kernel
theorem dX2_openHonest_56 : decode cX2_openHonest 56 = .ok (.return_, 1) := by decide +kernel
theorem dX2_openSelfish_0 : decode cX2_openSelfish 0 = .ok (.iconst 0, 1) := by decide +kernel
theorem dX2_openSelfish_1 : decode cX2_openSelfish 1 = .ok (.istore_n 1, 1) := by decide +kernel
theorem dX2_openSelfish_2 : decode cX2_openSelfish 2 = .ok (.iload_n 1, 1) := by decide +kernel
theorem dX2_openSelfish_3 : decode cX2_openSelfish 3 = .ok (.bipush 8, 2) := by decide +kernel
theorem dX2_openSelfish_5 : decode cX2_openSelfish 5 = .ok (.if_icmp .ge 66, 3) := by decide +kernel
theorem dX2_openSelfish_8 : decode cX2_openSelfish 8 = .ok (.aload_n 0, 1) := by decide +kernel
theorem dX2_openSelfish_9 : decode cX2_openSelfish 9 = .ok (.getfield 44, 3) := by decide +kernel
theorem dX2_openSelfish_12 : decode cX2_openSelfish 12 = .ok (.iload_n 1, 1) := by decide +kernel
theorem dX2_openSelfish_13 : decode cX2_openSelfish 13 = .ok (.invokestatic 47, 3) := by decide +kernel
theorem dX2_openSelfish_16 : decode cX2_openSelfish 16 = .ok (.ifCond .eq 49, 3) := by decide +kernel
theorem dX2_openSelfish_19 : decode cX2_openSelfish 19 = .ok (.aload_n 0, 1) := by decide +kernel
theorem dX2_openSelfish_20 : decode cX2_openSelfish 20 = .ok (.getfield 73, 3) := by decide +kernel
theorem dX2_openSelfish_23 : decode cX2_openSelfish 23 = .ok (.iload_n 1, 1) := by decide +kernel
theorem dX2_openSelfish_24 : decode cX2_openSelfish 24 = .ok (.aaload, 1) := by decide +kernel
theorem dX2_openSelfish_25 : decode cX2_openSelfish 25 = .ok (.getfield 77, 3) := by decide +kernel
theorem dX2_openSelfish_28 : decode cX2_openSelfish 28 = .ok (.iconst 2, 1) := by decide +kernel
theorem dX2_openSelfish_29 : decode cX2_openSelfish 29 = .ok (.if_icmp .ne 36, 3) := by decide +kernel
theorem dX2_openSelfish_32 : decode cX2_openSelfish 32 = .ok (.aload_n 0, 1) := by decide +kernel
theorem dX2_openSelfish_33 : decode cX2_openSelfish 33 = .ok (.getfield 99, 3) := by decide +kernel
theorem dX2_openSelfish_36 : decode cX2_openSelfish 36 = .ok (.iconst 1, 1) := by decide +kernel
theorem dX2_openSelfish_37 : decode cX2_openSelfish 37 = .ok (.iload_n 1, 1) := by decide +kernel
theorem dX2_openSelfish_38 : decode cX2_openSelfish 38 = .ok (.ishl, 1) := by decide +kernel
theorem dX2_openSelfish_39 : decode cX2_openSelfish 39 = .ok (.ior, 1) := by decide +kernel
theorem dX2_openSelfish_40 : decode cX2_openSelfish 40 = .ok (.istore_n 2, 1) := by decide +kernel
theorem dX2_openSelfish_41 : decode cX2_openSelfish 41 = .ok (.aload_n 0, 1) := by decide +kernel
theorem dX2_openSelfish_42 : decode cX2_openSelfish 42 = .ok (.aload_n 0, 1) := by decide +kernel
theorem dX2_openSelfish_43 : decode cX2_openSelfish 43 = .ok (.getfield 99, 3) := by decide +kernel
theorem dX2_openSelfish_46 : decode cX2_openSelfish 46 = .ok (.invokestatic 102, 3) := by decide +kernel
theorem dX2_openSelfish_49 : decode cX2_openSelfish 49 = .ok (.ifCond .eq 11, 3) := by decide +kernel
theorem dX2_openSelfish_52 : decode cX2_openSelfish 52 = .ok (.aload_n 0, 1) := by decide +kernel
theorem dX2_openSelfish_53 : decode cX2_openSelfish 53 = .ok (.iload_n 2, 1) := by decide +kernel
theorem dX2_openSelfish_54 : decode cX2_openSelfish 54 = .ok (.invokestatic 102, 3) := by decide +kernel
theorem dX2_openSelfish_57 : decode cX2_openSelfish 57 = .ok (.ifCond .eq 8, 3) := by decide +kernel
theorem dX2_openSelfish_60 : decode cX2_openSelfish 60 = .ok (.aload_n 0, 1) := by decide +kernel
theorem dX2_openSelfish_61 : decode cX2_openSelfish 61 = .ok (.iload_n 2, 1) := by decide +kernel
theorem dX2_openSelfish_62 : decode cX2_openSelfish 62 = .ok (.putfield 99, 3) := by decide +kernel
theorem dX2_openSelfish_65 : decode cX2_openSelfish 65 = .ok (.iinc 1 1, 3) := by decide +kernel
theorem dX2_openSelfish_68 : decode cX2_openSelfish 68 = .ok (.goto (-66), 3) := by decide +kernel
theorem dX2_openSelfish_71 : decode cX2_openSelfish 71 = .ok (.return_, 1) := by decide +kernel
theorem dX2_givesOne_0 : decode cX2_givesOne 0 = .ok (.aload_n 0, 1) := by decide +kernel
theorem dX2_givesOne_1 : decode cX2_givesOne 1 = .ok (.iload_n 1, 1) := by decide +kernel
theorem dX2_givesOne_2 : decode cX2_givesOne 2 = .ok (.invokevirtual 106, 3) := by decide +kernel
theorem dX2_givesOne_5 : decode cX2_givesOne 5 = .ok (.istore_n 2, 1) := by decide +kernel
theorem dX2_givesOne_6 : decode cX2_givesOne 6 = .ok (.iload_n 2, 1) := by decide +kernel
theorem dX2_givesOne_7 : decode cX2_givesOne 7 = .ok (.iconst (-1), 1) := by decide +kernel
theorem dX2_givesOne_8 : decode cX2_givesOne 8 = .ok (.if_icmp .eq 22, 3) := by decide +kernel
theorem dX2_givesOne_11 : decode cX2_givesOne 11 = .ok (.aload_n 0, 1) := by decide +kernel
theorem dX2_givesOne_12 : decode cX2_givesOne 12 = .ok (.aload_n 0, 1) := by decide +kernel
theorem dX2_givesOne_13 : decode cX2_givesOne 13 = .ok (.getfield 109, 3) := by decide +kernel
theorem dX2_givesOne_16 : decode cX2_givesOne 16 = .ok (.iload_n 2, 1) := by decide +kernel
theorem dX2_givesOne_17 : decode cX2_givesOne 17 = .ok (.invokevirtual 113, 3) := by decide +kernel
theorem dX2_givesOne_20 : decode cX2_givesOne 20 = .ok (.iconst 1, 1) := by decide +kernel
theorem dX2_givesOne_21 : decode cX2_givesOne 21 = .ok (.iand, 1) := by decide +kernel
theorem dX2_givesOne_22 : decode cX2_givesOne 22 = .ok (.iconst 1, 1) := by decide +kernel
theorem dX2_givesOne_23 : decode cX2_givesOne 23 = .ok (.if_icmp .ne 7, 3) := by decide +kernel
theorem dX2_givesOne_26 : decode cX2_givesOne 26 = .ok (.iconst 1, 1) := by decide +kernel
theorem dX2_givesOne_27 : decode cX2_givesOne 27 = .ok (.goto 4, 3) := by decide +kernel
theorem dX2_givesOne_30 : decode cX2_givesOne 30 = .ok (.iconst 0, 1) := by decide +kernel
theorem dX2_givesOne_31 : decode cX2_givesOne 31 = .ok (.ireturn, 1) := by decide +kernel
theorem dX3_init_0 : decode cX3_init 0 = .ok (.aload_n 0, 1) := by decide +kernel
theorem dX3_init_1 : decode cX3_init 1 = .ok (.invokespecial 1, 3) := by decide +kernel
theorem dX3_init_4 : decode cX3_init 4 = .ok (.aload_n 0, 1) := by decide +kernel
theorem dX3_init_5 : decode cX3_init 5 = .ok (.iconst 4, 1) := by decide +kernel
theorem dX3_init_6 : decode cX3_init 6 = .ok (.anewarray 9, 3) := by decide +kernel
theorem dX3_init_9 : decode cX3_init 9 = .ok (.putfield 11, 3) := by decide +kernel
theorem dX3_init_12 : decode cX3_init 12 = .ok (.iconst 0, 1) := by decide +kernel
theorem dX3_init_13 : decode cX3_init 13 = .ok (.istore_n 1, 1) := by decide +kernel
theorem dX3_init_14 : decode cX3_init 14 = .ok (.iload_n 1, 1) := by decide +kernel
theorem dX3_init_15 : decode cX3_init 15 = .ok (.iconst 4, 1) := by decide +kernel
theorem dX3_init_16 : decode cX3_init 16 = .ok (.if_icmp .ge 22, 3) := by decide +kernel
theorem dX3_init_19 : decode cX3_init 19 = .ok (.aload_n 0, 1) := by decide +kernel
theorem dX3_init_20 : decode cX3_init 20 = .ok (.getfield 11, 3) := by decide +kernel
theorem dX3_init_23 : decode cX3_init 23 = .ok (.iload_n 1, 1) := by decide +kernel
theorem dX3_init_24 : decode cX3_init 24 = .ok (.new 9, 3) := by decide +kernel
theorem dX3_init_27 : decode cX3_init 27 = .ok (.dup, 1) := by decide +kernel
theorem dX3_init_28 : decode cX3_init 28 = .ok (.invokespecial 15, 3) := by decide +kernel
theorem dX3_init_31 : decode cX3_init 31 = .ok (.aastore, 1) := by decide +kernel
theorem dX3_init_32 : decode cX3_init 32 = .ok (.iinc 1 1, 3) := by decide +kernel
theorem dX3_init_35 : decode cX3_init 35 = .ok (.goto (-21), 3) := by decide +kernel
theorem dX3_init_38 : decode cX3_init 38 = .ok (.return_, 1) := by decide +kernel
theorem dX3_remember_0 : decode cX3_remember 0 = .ok (.aload_n 0, 1) := by decide +kernel
theorem dX3_remember_1 : decode cX3_remember 1 = .ok (.getfield 16, 3) := by decide +kernel
theorem dX3_remember_4 : decode cX3_remember 4 = .ok (.iconst 4, 1) := by decide +kernel
theorem dX3_remember_5 : decode cX3_remember 5 = .ok (.if_icmp .lt 7, 3) := by decide +kernel
theorem dX3_remember_8 : decode cX3_remember 8 = .ok (.aload_n 0, 1) := by decide +kernel
theorem dX3_remember_9 : decode cX3_remember 9 = .ok (.invokevirtual 20, 3) := by decide +kernel
theorem dX3_remember_12 : decode cX3_remember 12 = .ok (.aload_n 0, 1) := by decide +kernel
theorem dX3_remember_13 : decode cX3_remember 13 = .ok (.getfield 11, 3) := by decide +kernel
theorem dX3_remember_16 : decode cX3_remember 16 = .ok (.aload_n 0, 1) := by decide +kernel
theorem dX3_remember_17 : decode cX3_remember 17 = .ok (.getfield 16, 3) := by decide +kernel
theorem dX3_remember_20 : decode cX3_remember 20 = .ok (.aaload, 1) := by decide +kernel
theorem dX3_remember_21 : decode cX3_remember 21 = .ok (.aload_n 1, 1) := by decide +kernel
theorem dX3_remember_22 : decode cX3_remember 22 = .ok (.invokevirtual 23, 3) := by decide +kernel
theorem dX3_remember_25 : decode cX3_remember 25 = .ok (.aload_n 0, 1) := by decide +kernel
theorem dX3_remember_26 : decode cX3_remember 26 = .ok (.dup, 1) := by decide +kernel
theorem dX3_remember_27 : decode cX3_remember 27 = .ok (.getfield 16, 3) := by decide +kernel
theorem dX3_remember_30 : decode cX3_remember 30 = .ok (.iconst 1, 1) := by decide +kernel
theorem dX3_remember_31 : decode cX3_remember 31 = .ok (.iadd, 1) := by decide +kernel
theorem dX3_remember_32 : decode cX3_remember 32 = .ok (.putfield 16, 3) := by decide +kernel
theorem dX3_remember_35 : decode cX3_remember 35 = .ok (.return_, 1) := by decide +kernel
theorem dX3_dropOldest_0 : decode cX3_dropOldest 0 = .ok (.aload_n 0, 1) := by decide +kernel
theorem dX3_dropOldest_1 : decode cX3_dropOldest 1 = .ok (.getfield 11, 3) := by decide +kernel
theorem dX3_dropOldest_4 : decode cX3_dropOldest 4 = .ok (.iconst 0, 1) := by decide +kernel
theorem dX3_dropOldest_5 : decode cX3_dropOldest 5 = .ok (.aaload, 1) := by decide +kernel
theorem dX3_dropOldest_6 : decode cX3_dropOldest 6 = .ok (.astore_n 1, 1) := by decide +kernel
theorem dX3_dropOldest_7 : decode cX3_dropOldest 7 = .ok (.iconst 1, 1) := by decide +kernel
theorem dX3_dropOldest_8 : decode cX3_dropOldest 8 = .ok (.istore_n 2, 1) := by decide +kernel
theorem dX3_dropOldest_9 : decode cX3_dropOldest 9 = .ok (.iload_n 2, 1) := by decide +kernel
theorem dX3_dropOldest_10 : decode cX3_dropOldest 10 = .ok (.iconst 4, 1) := by decide +kernel
theorem dX3_dropOldest_11 : decode cX3_dropOldest 11 = .ok (.if_icmp .ge 23, 3) := by decide +kernel
theorem dX3_dropOldest_14 : decode cX3_dropOldest 14 = .ok (.aload_n 0, 1) := by decide +kernel
theorem dX3_dropOldest_15 : decode cX3_dropOldest 15 = .ok (.getfield 11, 3) := by decide +kernel
theorem dX3_dropOldest_18 : decode cX3_dropOldest 18 = .ok (.iload_n 2, 1) := by decide +kernel
theorem dX3_dropOldest_19 : decode cX3_dropOldest 19 = .ok (.iconst 1, 1) := by decide +kernel
theorem dX3_dropOldest_20 : decode cX3_dropOldest 20 = .ok (.isub, 1) := by decide +kernel
theorem dX3_dropOldest_21 : decode cX3_dropOldest 21 = .ok (.aload_n 0, 1) := by decide +kernel
theorem dX3_dropOldest_22 : decode cX3_dropOldest 22 = .ok (.getfield 11, 3) := by decide +kernel
theorem dX3_dropOldest_25 : decode cX3_dropOldest 25 = .ok (.iload_n 2, 1) := by decide +kernel
theorem dX3_dropOldest_26 : decode cX3_dropOldest 26 = .ok (.aaload, 1) := by decide +kernel
theorem dX3_dropOldest_27 : decode cX3_dropOldest 27 = .ok (.aastore, 1) := by decide +kernel
theorem dX3_dropOldest_28 : decode cX3_dropOldest 28 = .ok (.iinc 2 1, 3) := by decide +kernel
theorem dX3_dropOldest_31 : decode cX3_dropOldest 31 = .ok (.goto (-22), 3) := by decide +kernel
theorem dX3_dropOldest_34 : decode cX3_dropOldest 34 = .ok (.aload_n 0, 1) := by decide +kernel
theorem dX3_dropOldest_35 : decode cX3_dropOldest 35 = .ok (.getfield 11, 3) := by decide +kernel
theorem dX3_dropOldest_38 : decode cX3_dropOldest 38 = .ok (.iconst 3, 1) := by decide +kernel
theorem dX3_dropOldest_39 : decode cX3_dropOldest 39 = .ok (.aload_n 1, 1) := by decide +kernel
theorem dX3_dropOldest_40 : decode cX3_dropOldest 40 = .ok (.aastore, 1) := by decide +kernel
theorem dX3_dropOldest_41 : decode cX3_dropOldest 41 = .ok (.aload_n 0, 1) := by decide +kernel
theorem dX3_dropOldest_42 : decode cX3_dropOldest 42 = .ok (.iconst 3, 1) := by decide +kernel
theorem dX3_dropOldest_43 : decode cX3_dropOldest 43 = .ok (.putfield 16, 3) := by decide +kernel
theorem dX3_dropOldest_46 : decode cX3_dropOldest 46 = .ok (.return_, 1) := by decide +kernel
theorem dX3_restore_0 : decode cX3_restore 0 = .ok (.aload_n 0, 1) := by decide +kernel
theorem dX3_restore_1 : decode cX3_restore 1 = .ok (.getfield 16, 3) := by decide +kernel
theorem dX3_restore_4 : decode cX3_restore 4 = .ok (.iconst 1, 1) := by decide +kernel
theorem dX3_restore_5 : decode cX3_restore 5 = .ok (.if_icmp .lt 11, 3) := by decide +kernel
theorem dX3_restore_8 : decode cX3_restore 8 = .ok (.aload_n 0, 1) := by decide +kernel
theorem dX3_restore_9 : decode cX3_restore 9 = .ok (.getfield 16, 3) := by decide +kernel
theorem dX3_restore_12 : decode cX3_restore 12 = .ok (.iconst 4, 1) := by decide +kernel
theorem dX3_restore_13 : decode cX3_restore 13 = .ok (.if_icmp .le 4, 3) := by decide +kernel
theorem dX3_restore_16 : decode cX3_restore 16 = .ok (.return_, 1) := by decide +kernel
theorem dX3_restore_17 : decode cX3_restore 17 = .ok (.aload_n 0, 1) := by decide +kernel
theorem dX3_restore_18 : decode cX3_restore 18 = .ok (.dup, 1) := by decide +kernel
theorem dX3_restore_19 : decode cX3_restore 19 = .ok (.getfield 16, 3) := by decide +kernel
theorem dX3_restore_22 : decode cX3_restore 22 = .ok (.iconst 1, 1) := by decide +kernel
theorem dX3_restore_23 : decode cX3_restore 23 = .ok (.isub, 1) := by decide +kernel
theorem dX3_restore_24 : decode cX3_restore 24 = .ok (.putfield 16, 3) := by decide +kernel
theorem dX3_restore_27 : decode cX3_restore 27 = .ok (.aload_n 1, 1) := by decide +kernel
theorem dX3_restore_28 : decode cX3_restore 28 = .ok (.aload_n 0, 1) := by decide +kernel
theorem dX3_restore_29 : decode cX3_restore 29 = .ok (.getfield 11, 3) := by decide +kernel
theorem dX3_restore_32 : decode cX3_restore 32 = .ok (.aload_n 0, 1) := by decide +kernel
theorem dX3_restore_33 : decode cX3_restore 33 = .ok (.getfield 16, 3) := by decide +kernel
theorem dX3_restore_36 : decode cX3_restore 36 = .ok (.aaload, 1) := by decide +kernel
theorem dX3_restore_37 : decode cX3_restore 37 = .ok (.invokevirtual 23, 3) := by decide +kernel
theorem dX3_restore_40 : decode cX3_restore 40 = .ok (.return_, 1) := by decide +kernel
theorem dX4_init_0 : decode cX4_init 0 = .ok (.aload_n 0, 1) := by decide +kernel
theorem dX4_init_1 : decode cX4_init 1 = .ok (.invokespecial 3, 3) := by decide +kernel
theorem dX4_init_4 : decode cX4_init 4 = .ok (.aload_n 0, 1) := by decide +kernel
theorem dX4_init_5 : decode cX4_init 5 = .ok (.bipush 8, 2) := by decide +kernel
theorem dX4_init_7 : decode cX4_init 7 = .ok (.anewarray 9, 3) := by decide +kernel
theorem dX4_init_10 : decode cX4_init 10 = .ok (.putfield 11, 3) := by decide +kernel
theorem dX4_init_13 : decode cX4_init 13 = .ok (.aload_n 0, 1) := by decide +kernel
theorem dX4_init_14 : decode cX4_init 14 = .ok (.bipush 8, 2) := by decide +kernel
theorem dX4_init_16 : decode cX4_init 16 = .ok (.newarray .int, 2) := by decide +kernel
theorem dX4_init_18 : decode cX4_init 18 = .ok (.putfield 17, 3) := by decide +kernel
theorem dX4_init_21 : decode cX4_init 21 = .ok (.aload_n 0, 1) := by decide +kernel
theorem dX4_init_22 : decode cX4_init 22 = .ok (.new 21, 3) := by decide +kernel
theorem dX4_init_25 : decode cX4_init 25 = .ok (.dup, 1) := by decide +kernel
theorem dX4_init_26 : decode cX4_init 26 = .ok (.invokespecial 23, 3) := by decide +kernel
theorem dX4_init_29 : decode cX4_init 29 = .ok (.putfield 24, 3) := by decide +kernel
theorem dX4_init_32 : decode cX4_init 32 = .ok (.aload_n 0, 1) := by decide +kernel
theorem dX4_init_33 : decode cX4_init 33 = .ok (.iconst 0, 1) := by decide +kernel
theorem dX4_init_34 : decode cX4_init 34 = .ok (.putfield 28, 3) := by decide +kernel
theorem dX4_init_37 : decode cX4_init 37 = .ok (.aload_n 0, 1) := by decide +kernel
theorem dX4_init_38 : decode cX4_init 38 = .ok (.iconst 2, 1) := by decide +kernel
theorem dX4_init_39 : decode cX4_init 39 = .ok (.putfield 32, 3) := by decide +kernel
theorem dX4_init_42 : decode cX4_init 42 = .ok (.aload_n 0, 1) := by decide +kernel
theorem dX4_init_43 : decode cX4_init 43 = .ok (.bipush 10, 2) := by decide +kernel
theorem dX4_init_45 : decode cX4_init 45 = .ok (.putfield 35, 3) := by decide +kernel
theorem dX4_init_48 : decode cX4_init 48 = .ok (.aload_n 0, 1) := by decide +kernel
theorem dX4_init_49 : decode cX4_init 49 = .ok (.bipush 100, 2) := by decide +kernel
theorem dX4_init_51 : decode cX4_init 51 = .ok (.putfield 38, 3) := by decide +kernel
theorem dX4_init_54 : decode cX4_init 54 = .ok (.aload_n 0, 1) := by decide +kernel
theorem dX4_init_55 : decode cX4_init 55 = .ok (.iconst 0, 1) := by decide +kernel
theorem dX4_init_56 : decode cX4_init 56 = .ok (.putfield 41, 3) := by decide +kernel
theorem dX4_init_59 : decode cX4_init 59 = .ok (.iconst 0, 1) := by decide +kernel
theorem dX4_init_60 : decode cX4_init 60 = .ok (.istore_n 1, 1) := by decide +kernel
theorem dX4_init_61 : decode cX4_init 61 = .ok (.iload_n 1, 1) := by decide +kernel
theorem dX4_init_62 : decode cX4_init 62 = .ok (.bipush 8, 2) := by decide +kernel
theorem dX4_init_64 : decode cX4_init 64 = .ok (.if_icmp .ge 22, 3) := by decide +kernel
theorem dX4_init_67 : decode cX4_init 67 = .ok (.aload_n 0, 1) := by decide +kernel
theorem dX4_init_68 : decode cX4_init 68 = .ok (.getfield 11, 3) := by decide +kernel
theorem dX4_init_71 : decode cX4_init 71 = .ok (.iload_n 1, 1) := by decide +kernel
theorem dX4_init_72 : decode cX4_init 72 = .ok (.new 9, 3) := by decide +kernel
theorem dX4_init_75 : decode cX4_init 75 = .ok (.dup, 1) := by decide +kernel
theorem dX4_init_76 : decode cX4_init 76 = .ok (.invokespecial 44, 3) := by decide +kernel
theorem dX4_init_79 : decode cX4_init 79 = .ok (.aastore, 1) := by decide +kernel
theorem dX4_init_80 : decode cX4_init 80 = .ok (.iinc 1 1, 3) := by decide +kernel
theorem dX4_init_83 : decode cX4_init 83 = .ok (.goto (-22), 3) := by decide +kernel
theorem dX4_init_86 : decode cX4_init 86 = .ok (.return_, 1) := by decide +kernel
theorem dX4_copy_0 : decode cX4_copy 0 = .ok (.iconst 0, 1) := by decide +kernel
theorem dX4_copy_1 : decode cX4_copy 1 = .ok (.istore_n 2, 1) := by decide +kernel
theorem dX4_copy_2 : decode cX4_copy 2 = .ok (.iload_n 2, 1) := by decide +kernel
theorem dX4_copy_3 : decode cX4_copy 3 = .ok (.bipush 8, 2) := by decide +kernel
theorem dX4_copy_5 : decode cX4_copy 5 = .ok (.if_icmp .ge 24, 3) := by decide +kernel
theorem dX4_copy_8 : decode cX4_copy 8 = .ok (.aload_n 0, 1) := by decide +kernel
theorem dX4_copy_9 : decode cX4_copy 9 = .ok (.getfield 11, 3) := by decide +kernel
theorem dX4_copy_12 : decode cX4_copy 12 = .ok (.iload_n 2, 1) := by decide +kernel
theorem dX4_copy_13 : decode cX4_copy 13 = .ok (.aaload, 1) := by decide +kernel
theorem dX4_copy_14 : decode cX4_copy 14 = .ok (.aload_n 1, 1) := by decide +kernel
theorem dX4_copy_15 : decode cX4_copy 15 = .ok (.getfield 11, 3) := by decide +kernel
theorem dX4_copy_18 : decode cX4_copy 18 = .ok (.iload_n 2, 1) := by decide +kernel
theorem dX4_copy_19 : decode cX4_copy 19 = .ok (.aaload, 1) := by decide +kernel
theorem dX4_copy_20 : decode cX4_copy 20 = .ok (.invokevirtual 45, 3) := by decide +kernel
theorem dX4_copy_23 : decode cX4_copy 23 = .ok (.iinc 2 1, 3) := by decide +kernel
theorem dX4_copy_26 : decode cX4_copy 26 = .ok (.goto (-24), 3) := by decide +kernel
theorem dX4_copy_29 : decode cX4_copy 29 = .ok (.aload_n 1, 1) := by decide +kernel
theorem dX4_copy_30 : decode cX4_copy 30 = .ok (.getfield 17, 3) := by decide +kernel
theorem dX4_copy_33 : decode cX4_copy 33 = .ok (.iconst 0, 1) := by decide +kernel
theorem dX4_copy_34 : decode cX4_copy 34 = .ok (.aload_n 0, 1) := by decide +kernel
theorem dX4_copy_35 : decode cX4_copy 35 = .ok (.getfield 17, 3) := by decide +kernel
theorem dX4_copy_38 : decode cX4_copy 38 = .ok (.iconst 0, 1) := by decide +kernel
theorem dX4_copy_39 : decode cX4_copy 39 = .ok (.bipush 8, 2) := by decide +kernel
theorem dX4_copy_41 : decode cX4_copy 41 = .ok (.invokestatic 49, 3) := by decide +kernel
theorem dX4_copy_44 : decode cX4_copy 44 = .ok (.aload_n 0, 1) := by decide +kernel
theorem dX4_copy_45 : decode cX4_copy 45 = .ok (.getfield 24, 3) := by decide +kernel
theorem dX4_copy_48 : decode cX4_copy 48 = .ok (.aload_n 1, 1) := by decide +kernel
theorem dX4_copy_49 : decode cX4_copy 49 = .ok (.getfield 24, 3) := by decide +kernel
theorem dX4_copy_52 : decode cX4_copy 52 = .ok (.invokevirtual 55, 3) := by decide +kernel
theorem dX4_copy_55 : decode cX4_copy 55 = .ok (.aload_n 0, 1) := by decide +kernel
theorem dX4_copy_56 : decode cX4_copy 56 = .ok (.aload_n 1, 1) := by decide +kernel
theorem dX4_copy_57 : decode cX4_copy 57 = .ok (.getfield 58, 3) := by decide +kernel
theorem dX4_copy_60 : decode cX4_copy 60 = .ok (.putfield 58, 3) := by decide +kernel
theorem dX4_copy_63 : decode cX4_copy 63 = .ok (.aload_n 0, 1) := by decide +kernel
theorem dX4_copy_64 : decode cX4_copy 64 = .ok (.aload_n 1, 1) := by decide +kernel
theorem dX4_copy_65 : decode cX4_copy 65 = .ok (.getfield 61, 3) := by decide +kernel
theorem dX4_copy_68 : decode cX4_copy 68 = .ok (.putfield 61, 3) := by decide +kernel
theorem dX4_copy_71 : decode cX4_copy 71 = .ok (.aload_n 0, 1) := by decide +kernel
theorem dX4_copy_72 : decode cX4_copy 72 = .ok (.aload_n 1, 1) := by decide +kernel
theorem dX4_copy_73 : decode cX4_copy 73 = .ok (.getfield 28, 3) := by decide +kernel
theorem dX4_copy_76 : decode cX4_copy 76 = .ok (.putfield 28, 3) := by decide +kernel
theorem dX4_copy_79 : decode cX4_copy 79 = .ok (.aload_n 0, 1) := by decide +kernel
theorem dX4_copy_80 : decode cX4_copy 80 = .ok (.aload_n 1, 1) := by decide +kernel
theorem dX4_copy_81 : decode cX4_copy 81 = .ok (.getfield 32, 3) := by decide +kernel
theorem dX4_copy_84 : decode cX4_copy 84 = .ok (.putfield 32, 3) := by decide +kernel
theorem dX4_copy_87 : decode cX4_copy 87 = .ok (.aload_n 0, 1) := by decide +kernel
theorem dX4_copy_88 : decode cX4_copy 88 = .ok (.aload_n 1, 1) := by decide +kernel
theorem dX4_copy_89 : decode cX4_copy 89 = .ok (.getfield 35, 3) := by decide +kernel
theorem dX4_copy_92 : decode cX4_copy 92 = .ok (.putfield 35, 3) := by decide +kernel
theorem dX4_copy_95 : decode cX4_copy 95 = .ok (.aload_n 0, 1) := by decide +kernel
theorem dX4_copy_96 : decode cX4_copy 96 = .ok (.aload_n 1, 1) := by decide +kernel
theorem dX4_copy_97 : decode cX4_copy 97 = .ok (.getfield 38, 3) := by decide +kernel
theorem dX4_copy_100 : decode cX4_copy 100 = .ok (.putfield 38, 3) := by decide +kernel
theorem dX4_copy_103 : decode cX4_copy 103 = .ok (.aload_n 0, 1) := by decide +kernel
theorem dX4_copy_104 : decode cX4_copy 104 = .ok (.aload_n 1, 1) := by decide +kernel
theorem dX4_copy_105 : decode cX4_copy 105 = .ok (.getfield 41, 3) := by decide +kernel
theorem dX4_copy_108 : decode cX4_copy 108 = .ok (.putfield 41, 3) := by decide +kernel
theorem dX4_copy_111 : decode cX4_copy 111 = .ok (.aload_n 0, 1) := by decide +kernel
theorem dX4_copy_112 : decode cX4_copy 112 = .ok (.aload_n 1, 1) := by decide +kernel
theorem dX4_copy_113 : decode cX4_copy 113 = .ok (.getfield 64, 3) := by decide +kernel
theorem dX4_copy_116 : decode cX4_copy 116 = .ok (.putfield 64, 3) := by decide +kernel
theorem dX4_copy_119 : decode cX4_copy 119 = .ok (.aload_n 0, 1) := by decide +kernel
theorem dX4_copy_120 : decode cX4_copy 120 = .ok (.aload_n 1, 1) := by decide +kernel
theorem dX4_copy_121 : decode cX4_copy 121 = .ok (.getfield 67, 3) := by decide +kernel
theorem dX4_copy_124 : decode cX4_copy 124 = .ok (.putfield 67, 3) := by decide +kernel
theorem dX4_copy_127 : decode cX4_copy 127 = .ok (.aload_n 0, 1) := by decide +kernel
theorem dX4_copy_128 : decode cX4_copy 128 = .ok (.aload_n 1, 1) := by decide +kernel
theorem dX4_copy_129 : decode cX4_copy 129 = .ok (.getfield 70, 3) := by decide +kernel
theorem dX4_copy_132 : decode cX4_copy 132 = .ok (.putfield 70, 3) := by decide +kernel
theorem dX4_copy_135 : decode cX4_copy 135 = .ok (.aload_n 0, 1) := by decide +kernel
theorem dX4_copy_136 : decode cX4_copy 136 = .ok (.aload_n 1, 1) := by decide +kernel
theorem dX4_copy_137 : decode cX4_copy 137 = .ok (.getfield 73, 3) := by decide +kernel
theorem dX4_copy_140 : decode cX4_copy 140 = .ok (.putfield 73, 3) := by decide +kernel
theorem dX4_copy_143 : decode cX4_copy 143 = .ok (.return_, 1) := by decide +kernel
theorem dX4_isParticipant_0 : decode cX4_isParticipant 0 = .ok (.iload_n 1, 1) := by decide +kernel
theorem dX4_isParticipant_1 : decode cX4_isParticipant 1 = .ok (.ifCond .lt 21, 3) := by decide +kernel
theorem dX4_isParticipant_4 : decode cX4_isParticipant 4 = .ok (.iload_n 1, 1) := by decide +kernel
theorem dX4_isParticipant_5 : decode cX4_isParticipant 5 = .ok (.aload_n 0, 1) := by decide +kernel
theorem dX4_isParticipant_6 : decode cX4_isParticipant 6 = .ok (.getfield 58, 3) := by decide +kernel
theorem dX4_isParticipant_9 : decode cX4_isParticipant 9 = .ok (.if_icmp .ge 13, 3) := by decide +kernel
theorem dX4_isParticipant_12 : decode cX4_isParticipant 12 = .ok (.iload_n 1, 1) := by decide +kernel
theorem dX4_isParticipant_13 : decode cX4_isParticipant 13 = .ok (.bipush 8, 2) := by decide +kernel
theorem dX4_isParticipant_15 : decode cX4_isParticipant 15 = .ok (.if_icmp .ge 7, 3) := by decide +kernel
theorem dX4_isParticipant_18 : decode cX4_isParticipant 18 = .ok (.iconst 1, 1) := by decide +kernel
theorem dX4_isParticipant_19 : decode cX4_isParticipant 19 = .ok (.goto 4, 3) := by decide +kernel
theorem dX4_isParticipant_22 : decode cX4_isParticipant 22 = .ok (.iconst 0, 1) := by decide +kernel
theorem dX4_isParticipant_23 : decode cX4_isParticipant 23 = .ok (.ireturn, 1) := by decide +kernel
theorem dX4_isCommitted_0 : decode cX4_isCommitted 0 = .ok (.aload_n 0, 1) := by decide +kernel
theorem dX4_isCommitted_1 : decode cX4_isCommitted 1 = .ok (.getfield 41, 3) := by decide +kernel
theorem dX4_isCommitted_4 : decode cX4_isCommitted 4 = .ok (.ifCond .eq 18, 3) := by decide +kernel
theorem dX4_isCommitted_7 : decode cX4_isCommitted 7 = .ok (.aload_n 0, 1) := by decide +kernel
theorem dX4_isCommitted_8 : decode cX4_isCommitted 8 = .ok (.getfield 67, 3) := by decide +kernel
theorem dX4_isCommitted_11 : decode cX4_isCommitted 11 = .ok (.iload_n 1, 1) := by decide +kernel
theorem dX4_isCommitted_12 : decode cX4_isCommitted 12 = .ok (.invokestatic 76, 3) := by decide +kernel
theorem dX4_isCommitted_15 : decode cX4_isCommitted 15 = .ok (.ifCond .eq 7, 3) := by decide +kernel
theorem dX4_isCommitted_18 : decode cX4_isCommitted 18 = .ok (.iconst 1, 1) := by decide +kernel
theorem dX4_isCommitted_19 : decode cX4_isCommitted 19 = .ok (.goto 4, 3) := by decide +kernel
theorem dX4_isCommitted_22 : decode cX4_isCommitted 22 = .ok (.iconst 0, 1) := by decide +kernel
theorem dX4_isCommitted_23 : decode cX4_isCommitted 23 = .ok (.ireturn, 1) := by decide +kernel
theorem dX4_hasDealt_0 : decode cX4_hasDealt 0 = .ok (.aload_n 0, 1) := by decide +kernel
theorem dX4_hasDealt_1 : decode cX4_hasDealt 1 = .ok (.getfield 28, 3) := by decide +kernel
theorem dX4_hasDealt_4 : decode cX4_hasDealt 4 = .ok (.iconst 1, 1) := by decide +kernel
theorem dX4_hasDealt_5 : decode cX4_hasDealt 5 = .ok (.if_icmp .ne 15, 3) := by decide +kernel
theorem dX4_hasDealt_8 : decode cX4_hasDealt 8 = .ok (.aload_n 0, 1) := by decide +kernel
theorem dX4_hasDealt_9 : decode cX4_hasDealt 9 = .ok (.iload_n 1, 1) := by decide +kernel
theorem dX4_hasDealt_10 : decode cX4_hasDealt 10 = .ok (.invokevirtual 80, 3) := by decide +kernel
theorem dX4_hasDealt_13 : decode cX4_hasDealt 13 = .ok (.ifCond .eq 7, 3) := by decide +kernel
theorem dX4_hasDealt_16 : decode cX4_hasDealt 16 = .ok (.iconst 1, 1) := by decide +kernel
theorem dX4_hasDealt_17 : decode cX4_hasDealt 17 = .ok (.goto 4, 3) := by decide +kernel
theorem dX4_hasDealt_20 : decode cX4_hasDealt 20 = .ok (.iconst 0, 1) := by decide +kernel
theorem dX4_hasDealt_21 : decode cX4_hasDealt 21 = .ok (.ireturn, 1) := by decide +kernel
theorem dX4_hasShare_0 : decode cX4_hasShare 0 = .ok (.aload_n 0, 1) := by decide +kernel
theorem dX4_hasShare_1 : decode cX4_hasShare 1 = .ok (.iload_n 1, 1) := by decide +kernel
theorem dX4_hasShare_2 : decode cX4_hasShare 2 = .ok (.invokevirtual 84, 3) := by decide +kernel
theorem dX4_hasShare_5 : decode cX4_hasShare 5 = .ok (.ifCond .eq 18, 3) := by decide +kernel
theorem dX4_hasShare_8 : decode cX4_hasShare 8 = .ok (.aload_n 0, 1) := by decide +kernel
theorem dX4_hasShare_9 : decode cX4_hasShare 9 = .ok (.getfield 64, 3) := by decide +kernel
theorem dX4_hasShare_12 : decode cX4_hasShare 12 = .ok (.iload_n 2, 1) := by decide +kernel
theorem dX4_hasShare_13 : decode cX4_hasShare 13 = .ok (.invokestatic 76, 3) := by decide +kernel
theorem dX4_hasShare_16 : decode cX4_hasShare 16 = .ok (.ifCond .eq 7, 3) := by decide +kernel
theorem dX4_hasShare_19 : decode cX4_hasShare 19 = .ok (.iconst 1, 1) := by decide +kernel
theorem dX4_hasShare_20 : decode cX4_hasShare 20 = .ok (.goto 4, 3) := by decide +kernel
theorem dX4_hasShare_23 : decode cX4_hasShare 23 = .ok (.iconst 0, 1) := by decide +kernel
theorem dX4_hasShare_24 : decode cX4_hasShare 24 = .ok (.ireturn, 1) := by decide +kernel
theorem dX4_canConspire_0 : decode cX4_canConspire 0 = .ok (.aload_n 0, 1) := by decide +kernel
theorem dX4_canConspire_1 : decode cX4_canConspire 1 = .ok (.getfield 41, 3) := by decide +kernel
theorem dX4_canConspire_4 : decode cX4_canConspire 4 = .ok (.iconst 2, 1) := by decide +kernel
theorem dX4_canConspire_5 : decode cX4_canConspire 5 = .ok (.if_icmp .ne 25, 3) := by decide +kernel
theorem dX4_canConspire_8 : decode cX4_canConspire 8 = .ok (.iload_n 1, 1) := by decide +kernel
theorem dX4_canConspire_9 : decode cX4_canConspire 9 = .ok (.aload_n 0, 1) := by decide +kernel
theorem dX4_canConspire_10 : decode cX4_canConspire 10 = .ok (.getfield 64, 3) := by decide +kernel
theorem dX4_canConspire_13 : decode cX4_canConspire 13 = .ok (.aload_n 0, 1) := by decide +kernel
theorem dX4_canConspire_14 : decode cX4_canConspire 14 = .ok (.getfield 70, 3) := by decide +kernel
theorem dX4_canConspire_17 : decode cX4_canConspire 17 = .ok (.iconst (-1), 1) := by decide +kernel
theorem dX4_canConspire_18 : decode cX4_canConspire 18 = .ok (.ixor, 1) := by decide +kernel
theorem dX4_canConspire_19 : decode cX4_canConspire 19 = .ok (.iand, 1) := by decide +kernel
theorem dX4_canConspire_20 : decode cX4_canConspire 20 = .ok (.iconst (-1), 1) := by decide +kernel
theorem dX4_canConspire_21 : decode cX4_canConspire 21 = .ok (.ixor, 1) := by decide +kernel
theorem dX4_canConspire_22 : decode cX4_canConspire 22 = .ok (.iand, 1) := by decide +kernel
theorem dX4_canConspire_23 : decode cX4_canConspire 23 = .ok (.ifCond .ne 7, 3) := by decide +kernel
theorem dX4_canConspire_26 : decode cX4_canConspire 26 = .ok (.iconst 1, 1) := by decide +kernel
theorem dX4_canConspire_27 : decode cX4_canConspire 27 = .ok (.goto 4, 3) := by decide +kernel
theorem dX4_canConspire_30 : decode cX4_canConspire 30 = .ok (.iconst 0, 1) := by decide +kernel
theorem dX4_canConspire_31 : decode cX4_canConspire 31 = .ok (.ireturn, 1) := by decide +kernel
theorem dX4_admit_0 : decode cX4_admit 0 = .ok (.aload_n 0, 1) := by decide +kernel
theorem dX4_admit_1 : decode cX4_admit 1 = .ok (.getfield 58, 3) := by decide +kernel
theorem dX4_admit_4 : decode cX4_admit 4 = .ok (.bipush 8, 2) := by decide +kernel
theorem dX4_admit_6 : decode cX4_admit 6 = .ok (.if_icmp .lt 6, 3) := by decide +kernel
theorem dX4_admit_9 : decode cX4_admit 9 = .ok (.bipush (-3), 2) := by decide +kernel
theorem dX4_admit_11 : decode cX4_admit 11 = .ok (.ireturn, 1) := by decide +kernel
theorem dX4_admit_12 : decode cX4_admit 12 = .ok (.aload_n 0, 1) := by decide +kernel
theorem dX4_admit_13 : decode cX4_admit 13 = .ok (.getfield 11, 3) := by decide +kernel
theorem dX4_admit_16 : decode cX4_admit 16 = .ok (.aload_n 0, 1) := by decide +kernel
theorem dX4_admit_17 : decode cX4_admit 17 = .ok (.getfield 58, 3) := by decide +kernel
theorem dX4_admit_20 : decode cX4_admit 20 = .ok (.aaload, 1) := by decide +kernel
theorem dX4_admit_21 : decode cX4_admit 21 = .ok (.iload_n 1, 1) := by decide +kernel
theorem dX4_admit_22 : decode cX4_admit 22 = .ok (.putfield 87, 3) := by decide +kernel
theorem dX4_admit_25 : decode cX4_admit 25 = .ok (.aload_n 0, 1) := by decide +kernel
theorem dX4_admit_26 : decode cX4_admit 26 = .ok (.dup, 1) := by decide +kernel
theorem dX4_admit_27 : decode cX4_admit 27 = .ok (.getfield 58, 3) := by decide +kernel
theorem dX4_admit_30 : decode cX4_admit 30 = .ok (.iconst 1, 1) := by decide +kernel
theorem dX4_admit_31 : decode cX4_admit 31 = .ok (.iadd, 1) := by decide +kernel
theorem dX4_admit_32 : decode cX4_admit 32 = .ok (.putfield 58, 3) := by decide +kernel
theorem dX4_admit_35 : decode cX4_admit 35 = .ok (.aload_n 0, 1) := by decide +kernel
theorem dX4_admit_36 : decode cX4_admit 36 = .ok (.getfield 58, 3) := by decide +kernel
theorem dX4_admit_39 : decode cX4_admit 39 = .ok (.iconst 1, 1) := by decide +kernel
theorem dX4_admit_40 : decode cX4_admit 40 = .ok (.isub, 1) := by decide +kernel
theorem dX4_admit_41 : decode cX4_admit 41 = .ok (.ireturn, 1) := by decide +kernel
theorem dX4_canStart_0 : decode cX4_canStart 0 = .ok (.aload_n 0, 1) := by decide +kernel
theorem dX4_canStart_1 : decode cX4_canStart 1 = .ok (.invokevirtual 90, 3) := by decide +kernel
theorem dX4_canStart_4 : decode cX4_canStart 4 = .ok (.invokestatic 94, 3) := by decide +kernel
theorem dX4_canStart_7 : decode cX4_canStart 7 = .ok (.istore_n 1, 1) := by decide +kernel
theorem dX4_canStart_8 : decode cX4_canStart 8 = .ok (.aload_n 0, 1) := by decide +kernel
theorem dX4_canStart_9 : decode cX4_canStart 9 = .ok (.getfield 41, 3) := by decide +kernel
theorem dX4_canStart_12 : decode cX4_canStart 12 = .ok (.ifCond .ne 28, 3) := by decide +kernel
theorem dX4_canStart_15 : decode cX4_canStart 15 = .ok (.iload_n 1, 1) := by decide +kernel
theorem dX4_canStart_16 : decode cX4_canStart 16 = .ok (.iconst 2, 1) := by decide +kernel
theorem dX4_canStart_17 : decode cX4_canStart 17 = .ok (.if_icmp .lt 23, 3) := by decide +kernel
theorem dX4_canStart_20 : decode cX4_canStart 20 = .ok (.aload_n 0, 1) := by decide +kernel
theorem dX4_canStart_21 : decode cX4_canStart 21 = .ok (.getfield 28, 3) := by decide +kernel
theorem dX4_canStart_24 : decode cX4_canStart 24 = .ok (.iconst 1, 1) := by decide +kernel
theorem dX4_canStart_25 : decode cX4_canStart 25 = .ok (.if_icmp .ne 11, 3) := by decide +kernel
theorem dX4_canStart_28 : decode cX4_canStart 28 = .ok (.iload_n 1, 1) := by decide +kernel
theorem dX4_canStart_29 : decode cX4_canStart 29 = .ok (.aload_n 0, 1) := by decide +kernel
theorem dX4_canStart_30 : decode cX4_canStart 30 = .ok (.getfield 32, 3) := by decide +kernel
theorem dX4_canStart_33 : decode cX4_canStart 33 = .ok (.if_icmp .lt 7, 3) := by decide +kernel
theorem dX4_canStart_36 : decode cX4_canStart 36 = .ok (.iconst 1, 1) := by decide +kernel
theorem dX4_canStart_37 : decode cX4_canStart 37 = .ok (.goto 4, 3) := by decide +kernel
theorem dX4_canStart_40 : decode cX4_canStart 40 = .ok (.iconst 0, 1) := by decide +kernel
theorem dX4_canStart_41 : decode cX4_canStart 41 = .ok (.ireturn, 1) := by decide +kernel
theorem dX4_ableToPay_0 : decode cX4_ableToPay 0 = .ok (.iconst 0, 1) := by decide +kernel
theorem dX4_ableToPay_1 : decode cX4_ableToPay 1 = .ok (.istore_n 1, 1) := by decide +kernel
theorem dX4_ableToPay_2 : decode cX4_ableToPay 2 = .ok (.iconst 0, 1) := by decide +kernel
theorem dX4_ableToPay_3 : decode cX4_ableToPay 3 = .ok (.istore_n 2, 1) := by decide +kernel
theorem dX4_ableToPay_4 : decode cX4_ableToPay 4 = .ok (.iload_n 2, 1) := by decide +kernel
theorem dX4_ableToPay_5 : decode cX4_ableToPay 5 = .ok (.bipush 8, 2) := by decide +kernel
theorem dX4_ableToPay_7 : decode cX4_ableToPay 7 = .ok (.if_icmp .ge 39, 3) := by decide +kernel
theorem dX4_ableToPay_10 : decode cX4_ableToPay 10 = .ok (.iload_n 2, 1) := by decide +kernel
theorem dX4_ableToPay_11 : decode cX4_ableToPay 11 = .ok (.aload_n 0, 1) := by decide +kernel
theorem dX4_ableToPay_12 : decode cX4_ableToPay 12 = .ok (.getfield 58, 3) := by decide +kernel
theorem dX4_ableToPay_15 : decode cX4_ableToPay 15 = .ok (.if_icmp .ge 25, 3) := by decide +kernel
theorem dX4_ableToPay_18 : decode cX4_ableToPay 18 = .ok (.aload_n 0, 1) := by decide +kernel
theorem dX4_ableToPay_19 : decode cX4_ableToPay 19 = .ok (.getfield 11, 3) := by decide +kernel
theorem dX4_ableToPay_22 : decode cX4_ableToPay 22 = .ok (.iload_n 2, 1) := by decide +kernel
theorem dX4_ableToPay_23 : decode cX4_ableToPay 23 = .ok (.aaload, 1) := by decide +kernel
theorem dX4_ableToPay_24 : decode cX4_ableToPay 24 = .ok (.getfield 87, 3) := by decide +kernel
theorem dX4_ableToPay_27 : decode cX4_ableToPay 27 = .ok (.aload_n 0, 1) := by decide +kernel
theorem dX4_ableToPay_28 : decode cX4_ableToPay 28 = .ok (.getfield 35, 3) := by decide +kernel
theorem dX4_ableToPay_31 : decode cX4_ableToPay 31 = .ok (.if_icmp .lt 9, 3) := by decide +kernel
theorem dX4_ableToPay_34 : decode cX4_ableToPay 34 = .ok (.iload_n 1, 1) := by decide +kernel
theorem dX4_ableToPay_35 : decode cX4_ableToPay 35 = .ok (.iconst 1, 1) := by decide +kernel
theorem dX4_ableToPay_36 : decode cX4_ableToPay 36 = .ok (.iload_n 2, 1) := by decide +kernel
theorem dX4_ableToPay_37 : decode cX4_ableToPay 37 = .ok (.ishl, 1) := by decide +kernel
theorem dX4_ableToPay_38 : decode cX4_ableToPay 38 = .ok (.ior, 1) := by decide +kernel
theorem dX4_ableToPay_39 : decode cX4_ableToPay 39 = .ok (.istore_n 1, 1) := by decide +kernel
theorem dX4_ableToPay_40 : decode cX4_ableToPay 40 = .ok (.iinc 2 1, 3) := by decide +kernel
theorem dX4_ableToPay_43 : decode cX4_ableToPay 43 = .ok (.goto (-39), 3) := by decide +kernel
theorem dX4_ableToPay_46 : decode cX4_ableToPay 46 = .ok (.iload_n 1, 1) := by decide +kernel
theorem dX4_ableToPay_47 : decode cX4_ableToPay 47 = .ok (.ireturn, 1) := by decide +kernel
theorem dX4_start_0 : decode cX4_start 0 = .ok (.aload_n 0, 1) := by decide +kernel
theorem dX4_start_1 : decode cX4_start 1 = .ok (.iconst 1, 1) := by decide +kernel
theorem dX4_start_2 : decode cX4_start 2 = .ok (.putfield 41, 3) := by decide +kernel
theorem dX4_start_5 : decode cX4_start 5 = .ok (.aload_n 0, 1) := by decide +kernel
theorem dX4_start_6 : decode cX4_start 6 = .ok (.aload_n 0, 1) := by decide +kernel
theorem dX4_start_7 : decode cX4_start 7 = .ok (.invokevirtual 90, 3) := by decide +kernel
theorem dX4_start_10 : decode cX4_start 10 = .ok (.putfield 64, 3) := by decide +kernel
theorem dX4_start_13 : decode cX4_start 13 = .ok (.aload_n 0, 1) := by decide +kernel
theorem dX4_start_14 : decode cX4_start 14 = .ok (.iconst 0, 1) := by decide +kernel
theorem dX4_start_15 : decode cX4_start 15 = .ok (.putfield 67, 3) := by decide +kernel
theorem dX4_start_18 : decode cX4_start 18 = .ok (.aload_n 0, 1) := by decide +kernel
theorem dX4_start_19 : decode cX4_start 19 = .ok (.iconst 0, 1) := by decide +kernel
theorem dX4_start_20 : decode cX4_start 20 = .ok (.putfield 70, 3) := by decide +kernel
theorem dX4_start_23 : decode cX4_start 23 = .ok (.aload_n 0, 1) := by decide +kernel
theorem dX4_start_24 : decode cX4_start 24 = .ok (.iconst 0, 1) := by decide +kernel
theorem dX4_start_25 : decode cX4_start 25 = .ok (.putfield 73, 3) := by decide +kernel
theorem dX4_start_28 : decode cX4_start 28 = .ok (.return_, 1) := by decide +kernel
theorem dX4_digestOf_0 : decode cX4_digestOf 0 = .ok (.bipush 17, 2) := by decide +kernel
theorem dX4_digestOf_2 : decode cX4_digestOf 2 = .ok (.aload_n 0, 1) := by decide +kernel
theorem dX4_digestOf_3 : decode cX4_digestOf 3 = .ok (.getfield 24, 3) := by decide +kernel
theorem dX4_digestOf_6 : decode cX4_digestOf 6 = .ok (.getfield 100, 3) := by decide +kernel
theorem dX4_digestOf_9 : decode cX4_digestOf 9 = .ok (.invokestatic 103, 3) := by decide +kernel
theorem dX4_digestOf_12 : decode cX4_digestOf 12 = .ok (.iload_n 1, 1) := by decide +kernel
theorem dX4_digestOf_13 : decode cX4_digestOf 13 = .ok (.invokestatic 103, 3) := by decide +kernel
theorem dX4_digestOf_16 : decode cX4_digestOf 16 = .ok (.iload_n 2, 1) := by decide +kernel
theorem dX4_digestOf_17 : decode cX4_digestOf 17 = .ok (.invokestatic 103, 3) := by decide +kernel
theorem dX4_digestOf_20 : decode cX4_digestOf 20 = .ok (.ireturn, 1) := by decide +kernel
theorem dX4_isTaken_0 : decode cX4_isTaken 0 = .ok (.iconst 0, 1) := by decide +kernel
theorem dX4_isTaken_1 : decode cX4_isTaken 1 = .ok (.istore_n 2, 1) := by decide +kernel
theorem dX4_isTaken_2 : decode cX4_isTaken 2 = .ok (.iload_n 2, 1) := by decide +kernel
theorem dX4_isTaken_3 : decode cX4_isTaken 3 = .ok (.bipush 8, 2) := by decide +kernel
theorem dX4_isTaken_5 : decode cX4_isTaken 5 = .ok (.if_icmp .ge 35, 3) := by decide +kernel
theorem dX4_isTaken_8 : decode cX4_isTaken 8 = .ok (.aload_n 0, 1) := by decide +kernel
theorem dX4_isTaken_9 : decode cX4_isTaken 9 = .ok (.getfield 67, 3) := by decide +kernel
theorem dX4_isTaken_12 : decode cX4_isTaken 12 = .ok (.iload_n 2, 1) := by decide +kernel
theorem dX4_isTaken_13 : decode cX4_isTaken 13 = .ok (.invokestatic 76, 3) := by decide +kernel
theorem dX4_isTaken_16 : decode cX4_isTaken 16 = .ok (.ifCond .eq 18, 3) := by decide +kernel
theorem dX4_isTaken_19 : decode cX4_isTaken 19 = .ok (.aload_n 0, 1) := by decide +kernel
theorem dX4_isTaken_20 : decode cX4_isTaken 20 = .ok (.getfield 11, 3) := by decide +kernel
theorem dX4_isTaken_23 : decode cX4_isTaken 23 = .ok (.iload_n 2, 1) := by decide +kernel
theorem dX4_isTaken_24 : decode cX4_isTaken 24 = .ok (.aaload, 1) := by decide +kernel
theorem dX4_isTaken_25 : decode cX4_isTaken 25 = .ok (.getfield 107, 3) := by decide +kernel
theorem dX4_isTaken_28 : decode cX4_isTaken 28 = .ok (.iload_n 1, 1) := by decide +kernel
theorem dX4_isTaken_29 : decode cX4_isTaken 29 = .ok (.if_icmp .ne 5, 3) := by decide +kernel
theorem dX4_isTaken_32 : decode cX4_isTaken 32 = .ok (.iconst 1, 1) := by decide +kernel
theorem dX4_isTaken_33 : decode cX4_isTaken 33 = .ok (.ireturn, 1) := by decide +kernel
theorem dX4_isTaken_34 : decode cX4_isTaken 34 = .ok (.iinc 2 1, 3) := by decide +kernel
theorem dX4_isTaken_37 : decode cX4_isTaken 37 = .ok (.goto (-35), 3) := by decide +kernel
theorem dX4_isTaken_40 : decode cX4_isTaken 40 = .ok (.iconst 0, 1) := by decide +kernel
theorem dX4_isTaken_41 : decode cX4_isTaken 41 = .ok (.ireturn, 1) := by decide +kernel
theorem dX4_accept_0 : decode cX4_accept 0 = .ok (.aload_n 0, 1) := by decide +kernel
theorem dX4_accept_1 : decode cX4_accept 1 = .ok (.getfield 11, 3) := by decide +kernel
theorem dX4_accept_4 : decode cX4_accept 4 = .ok (.iload_n 1, 1) := by decide +kernel
theorem dX4_accept_5 : decode cX4_accept 5 = .ok (.aaload, 1) := by decide +kernel
theorem dX4_accept_6 : decode cX4_accept 6 = .ok (.astore 4, 2) := by decide +kernel
theorem dX4_accept_8 : decode cX4_accept 8 = .ok (.aload_n 0, 1) := by decide +kernel
theorem dX4_accept_9 : decode cX4_accept 9 = .ok (.getfield 17, 3) := by decide +kernel
theorem dX4_accept_12 : decode cX4_accept 12 = .ok (.iload_n 1, 1) := by decide +kernel
theorem dX4_accept_13 : decode cX4_accept 13 = .ok (.iload_n 2, 1) := by decide +kernel
theorem dX4_accept_14 : decode cX4_accept 14 = .ok (.iastore, 1) := by decide +kernel
theorem dX4_accept_15 : decode cX4_accept 15 = .ok (.aload 4, 2) := by decide +kernel
theorem dX4_accept_17 : decode cX4_accept 17 = .ok (.iload_n 3, 1) := by decide +kernel
theorem dX4_accept_18 : decode cX4_accept 18 = .ok (.putfield 110, 3) := by decide +kernel
theorem dX4_accept_21 : decode cX4_accept 21 = .ok (.aload 4, 2) := by decide +kernel
theorem dX4_accept_23 : decode cX4_accept 23 = .ok (.aload_n 0, 1) := by decide +kernel
theorem dX4_accept_24 : decode cX4_accept 24 = .ok (.iload_n 2, 1) := by decide +kernel
theorem dX4_accept_25 : decode cX4_accept 25 = .ok (.iload_n 3, 1) := by decide +kernel
theorem dX4_accept_26 : decode cX4_accept 26 = .ok (.invokevirtual 113, 3) := by decide +kernel
theorem dX4_accept_29 : decode cX4_accept 29 = .ok (.putfield 107, 3) := by decide +kernel
theorem dX4_accept_32 : decode cX4_accept 32 = .ok (.aload_n 0, 1) := by decide +kernel
theorem dX4_accept_33 : decode cX4_accept 33 = .ok (.dup, 1) := by decide +kernel
theorem dX4_accept_34 : decode cX4_accept 34 = .ok (.getfield 67, 3) := by decide +kernel
theorem dX4_accept_37 : decode cX4_accept 37 = .ok (.iconst 1, 1) := by decide +kernel
theorem dX4_accept_38 : decode cX4_accept 38 = .ok (.iload_n 1, 1) := by decide +kernel
theorem dX4_accept_39 : decode cX4_accept 39 = .ok (.ishl, 1) := by decide +kernel
theorem dX4_accept_40 : decode cX4_accept 40 = .ok (.ior, 1) := by decide +kernel
theorem dX4_accept_41 : decode cX4_accept 41 = .ok (.putfield 67, 3) := by decide +kernel
theorem dX4_accept_44 : decode cX4_accept 44 = .ok (.aload_n 0, 1) := by decide +kernel
theorem dX4_accept_45 : decode cX4_accept 45 = .ok (.getfield 28, 3) := by decide +kernel
theorem dX4_accept_48 : decode cX4_accept 48 = .ok (.iconst 1, 1) := by decide +kernel
theorem dX4_accept_49 : decode cX4_accept 49 = .ok (.if_icmp .ne 13, 3) := by decide +kernel
theorem dX4_accept_52 : decode cX4_accept 52 = .ok (.aload 4, 2) := by decide +kernel
theorem dX4_accept_54 : decode cX4_accept 54 = .ok (.iload_n 2, 1) := by decide +kernel
theorem dX4_accept_55 : decode cX4_accept 55 = .ok (.aload_n 0, 1) := by decide +kernel
theorem dX4_accept_56 : decode cX4_accept 56 = .ok (.getfield 32, 3) := by decide +kernel
theorem dX4_accept_59 : decode cX4_accept 59 = .ok (.invokevirtual 116, 3) := by decide +kernel
theorem dX4_accept_62 : decode cX4_accept 62 = .ok (.aload_n 0, 1) := by decide +kernel
theorem dX4_accept_63 : decode cX4_accept 63 = .ok (.getfield 28, 3) := by decide +kernel
theorem dX4_accept_66 : decode cX4_accept 66 = .ok (.iconst 2, 1) := by decide +kernel
theorem dX4_accept_67 : decode cX4_accept 67 = .ok (.if_icmp .ne 13, 3) := by decide +kernel
theorem dX4_accept_70 : decode cX4_accept 70 = .ok (.aload 4, 2) := by decide +kernel
theorem dX4_accept_72 : decode cX4_accept 72 = .ok (.iload_n 2, 1) := by decide +kernel
theorem dX4_accept_73 : decode cX4_accept 73 = .ok (.aload_n 0, 1) := by decide +kernel
theorem dX4_accept_74 : decode cX4_accept 74 = .ok (.getfield 38, 3) := by decide +kernel
theorem dX4_accept_77 : decode cX4_accept 77 = .ok (.invokevirtual 120, 3) := by decide +kernel
theorem dX4_accept_80 : decode cX4_accept 80 = .ok (.return_, 1) := by decide +kernel
theorem dX4_payFine_0 : decode cX4_payFine 0 = .ok (.aload_n 0, 1) := by decide +kernel
theorem dX4_payFine_1 : decode cX4_payFine 1 = .ok (.getfield 35, 3) := by decide +kernel
theorem dX4_payFine_4 : decode cX4_payFine 4 = .ok (.aload_n 0, 1) := by decide +kernel
theorem dX4_payFine_5 : decode cX4_payFine 5 = .ok (.getfield 11, 3) := by decide +kernel
theorem dX4_payFine_8 : decode cX4_payFine 8 = .ok (.iload_n 1, 1) := by decide +kernel
theorem dX4_payFine_9 : decode cX4_payFine 9 = .ok (.aaload, 1) := by decide +kernel
theorem dX4_payFine_10 : decode cX4_payFine 10 = .ok (.getfield 87, 3) := by decide +kernel
theorem dX4_payFine_13 : decode cX4_payFine 13 = .ok (.invokestatic 123, 3) := by decide +kernel
theorem dX4_payFine_16 : decode cX4_payFine 16 = .ok (.istore_n 2, 1) := by decide +kernel
theorem dX4_payFine_17 : decode cX4_payFine 17 = .ok (.aload_n 0, 1) := by decide +kernel
theorem dX4_payFine_18 : decode cX4_payFine 18 = .ok (.getfield 11, 3) := by decide +kernel
theorem dX4_payFine_21 : decode cX4_payFine 21 = .ok (.iload_n 1, 1) := by decide +kernel
theorem dX4_payFine_22 : decode cX4_payFine 22 = .ok (.aaload, 1) := by decide +kernel
theorem dX4_payFine_23 : decode cX4_payFine 23 = .ok (.dup, 1) := by decide +kernel
theorem dX4_payFine_24 : decode cX4_payFine 24 = .ok (.getfield 87, 3) := by decide +kernel
theorem dX4_payFine_27 : decode cX4_payFine 27 = .ok (.iload_n 2, 1) := by decide +kernel
theorem dX4_payFine_28 : decode cX4_payFine 28 = .ok (.isub, 1) := by decide +kernel
theorem dX4_payFine_29 : decode cX4_payFine 29 = .ok (.putfield 87, 3) := by decide +kernel
theorem dX4_payFine_32 : decode cX4_payFine 32 = .ok (.aload_n 0, 1) := by decide +kernel
theorem dX4_payFine_33 : decode cX4_payFine 33 = .ok (.dup, 1) := by decide +kernel
theorem dX4_payFine_34 : decode cX4_payFine 34 = .ok (.getfield 61, 3) := by decide +kernel
theorem dX4_payFine_37 : decode cX4_payFine 37 = .ok (.iload_n 2, 1) := by decide +kernel
theorem dX4_payFine_38 : decode cX4_payFine 38 = .ok (.iadd, 1) := by decide +kernel
theorem dX4_payFine_39 : decode cX4_payFine 39 = .ok (.putfield 61, 3) := by decide +kernel
theorem dX4_payFine_42 : decode cX4_payFine 42 = .ok (.return_, 1) := by decide +kernel
theorem dX4_expel_0 : decode cX4_expel 0 = .ok (.aload_n 0, 1) := by decide +kernel
theorem dX4_expel_1 : decode cX4_expel 1 = .ok (.iload_n 1, 1) := by decide +kernel
theorem dX4_expel_2 : decode cX4_expel 2 = .ok (.invokevirtual 128, 3) := by decide +kernel
theorem dX4_expel_5 : decode cX4_expel 5 = .ok (.aload_n 0, 1) := by decide +kernel
theorem dX4_expel_6 : decode cX4_expel 6 = .ok (.getfield 11, 3) := by decide +kernel
theorem dX4_expel_9 : decode cX4_expel 9 = .ok (.iload_n 1, 1) := by decide +kernel
theorem dX4_expel_10 : decode cX4_expel 10 = .ok (.aaload, 1) := by decide +kernel
theorem dX4_expel_11 : decode cX4_expel 11 = .ok (.dup, 1) := by decide +kernel
theorem dX4_expel_12 : decode cX4_expel 12 = .ok (.getfield 132, 3) := by decide +kernel
theorem dX4_expel_15 : decode cX4_expel 15 = .ok (.iconst 1, 1) := by decide +kernel
theorem dX4_expel_16 : decode cX4_expel 16 = .ok (.iadd, 1) := by decide +kernel
theorem dX4_expel_17 : decode cX4_expel 17 = .ok (.putfield 132, 3) := by decide +kernel
theorem dX4_expel_20 : decode cX4_expel 20 = .ok (.aload_n 0, 1) := by decide +kernel
theorem dX4_expel_21 : decode cX4_expel 21 = .ok (.dup, 1) := by decide +kernel
theorem dX4_expel_22 : decode cX4_expel 22 = .ok (.getfield 73, 3) := by decide +kernel
theorem dX4_expel_25 : decode cX4_expel 25 = .ok (.iconst 1, 1) := by decide +kernel
theorem dX4_expel_26 : decode cX4_expel 26 = .ok (.iload_n 1, 1) := by decide +kernel
theorem dX4_expel_27 : decode cX4_expel 27 = .ok (.ishl, 1) := by decide +kernel
theorem dX4_expel_28 : decode cX4_expel 28 = .ok (.ior, 1) := by decide +kernel
theorem dX4_expel_29 : decode cX4_expel 29 = .ok (.putfield 73, 3) := by decide +kernel
theorem dX4_expel_32 : decode cX4_expel 32 = .ok (.aload_n 0, 1) := by decide +kernel
theorem dX4_expel_33 : decode cX4_expel 33 = .ok (.dup, 1) := by decide +kernel
theorem dX4_expel_34 : decode cX4_expel 34 = .ok (.getfield 64, 3) := by decide +kernel
theorem dX4_expel_37 : decode cX4_expel 37 = .ok (.iconst 1, 1) := by decide +kernel
theorem dX4_expel_38 : decode cX4_expel 38 = .ok (.iload_n 1, 1) := by decide +kernel
theorem dX4_expel_39 : decode cX4_expel 39 = .ok (.ishl, 1) := by decide +kernel
theorem dX4_expel_40 : decode cX4_expel 40 = .ok (.iconst (-1), 1) := by decide +kernel
theorem dX4_expel_41 : decode cX4_expel 41 = .ok (.ixor, 1) := by decide +kernel
theorem dX4_expel_42 : decode cX4_expel 42 = .ok (.iand, 1) := by decide +kernel
theorem dX4_expel_43 : decode cX4_expel 43 = .ok (.putfield 64, 3) := by decide +kernel
theorem dX4_expel_46 : decode cX4_expel 46 = .ok (.aload_n 0, 1) := by decide +kernel
theorem dX4_expel_47 : decode cX4_expel 47 = .ok (.dup, 1) := by decide +kernel
theorem dX4_expel_48 : decode cX4_expel 48 = .ok (.getfield 67, 3) := by decide +kernel
theorem dX4_expel_51 : decode cX4_expel 51 = .ok (.iconst 1, 1) := by decide +kernel
theorem dX4_expel_52 : decode cX4_expel 52 = .ok (.iload_n 1, 1) := by decide +kernel
theorem dX4_expel_53 : decode cX4_expel 53 = .ok (.ishl, 1) := by decide +kernel
theorem dX4_expel_54 : decode cX4_expel 54 = .ok (.iconst (-1), 1) := by decide +kernel
theorem dX4_expel_55 : decode cX4_expel 55 = .ok (.ixor, 1) := by decide +kernel
theorem dX4_expel_56 : decode cX4_expel 56 = .ok (.iand, 1) := by decide +kernel
theorem dX4_expel_57 : decode cX4_expel 57 = .ok (.putfield 67, 3) := by decide +kernel
theorem dX4_expel_60 : decode cX4_expel 60 = .ok (.return_, 1) := by decide +kernel
theorem dX4_startOpening_0 : decode cX4_startOpening 0 = .ok (.aload_n 0, 1) := by decide +kernel
theorem dX4_startOpening_1 : decode cX4_startOpening 1 = .ok (.aload_n 0, 1) := by decide +kernel
theorem dX4_startOpening_2 : decode cX4_startOpening 2 = .ok (.getfield 67, 3) := by decide +kernel
theorem dX4_startOpening_5 : decode cX4_startOpening 5 = .ok (.putfield 64, 3) := by decide +kernel
theorem dX4_startOpening_8 : decode cX4_startOpening 8 = .ok (.aload_n 0, 1) := by decide +kernel
theorem dX4_startOpening_9 : decode cX4_startOpening 9 = .ok (.getfield 64, 3) := by decide +kernel
theorem dX4_startOpening_12 : decode cX4_startOpening 12 = .ok (.invokestatic 94, 3) := by decide +kernel
theorem dX4_startOpening_15 : decode cX4_startOpening 15 = .ok (.istore_n 1, 1) := by decide +kernel
theorem dX4_startOpening_16 : decode cX4_startOpening 16 = .ok (.iload_n 1, 1) := by decide +kernel
theorem dX4_startOpening_17 : decode cX4_startOpening 17 = .ok (.iconst 2, 1) := by decide +kernel
theorem dX4_startOpening_18 : decode cX4_startOpening 18 = .ok (.if_icmp .ge 27, 3) := by decide +kernel
theorem dX4_startOpening_21 : decode cX4_startOpening 21 = .ok (.aload_n 0, 1) := by decide +kernel
theorem dX4_startOpening_22 : decode cX4_startOpening 22 = .ok (.getfield 24, 3) := by decide +kernel
theorem dX4_startOpening_25 : decode cX4_startOpening 25 = .ok (.aload_n 0, 1) := by decide +kernel
theorem dX4_startOpening_26 : decode cX4_startOpening 26 = .ok (.getfield 64, 3) := by decide +kernel
theorem dX4_startOpening_29 : decode cX4_startOpening 29 = .ok (.iconst 0, 1) := by decide +kernel
theorem dX4_startOpening_30 : decode cX4_startOpening 30 = .ok (.aload_n 0, 1) := by decide +kernel
theorem dX4_startOpening_31 : decode cX4_startOpening 31 = .ok (.getfield 28, 3) := by decide +kernel
theorem dX4_startOpening_34 : decode cX4_startOpening 34 = .ok (.invokevirtual 135, 3) := by decide +kernel
theorem dX4_startOpening_37 : decode cX4_startOpening 37 = .ok (.aload_n 0, 1) := by decide +kernel
theorem dX4_startOpening_38 : decode cX4_startOpening 38 = .ok (.iconst 0, 1) := by decide +kernel
theorem dX4_startOpening_39 : decode cX4_startOpening 39 = .ok (.putfield 41, 3) := by decide +kernel
theorem dX4_startOpening_42 : decode cX4_startOpening 42 = .ok (.bipush (-5), 2) := by decide +kernel
theorem dX4_startOpening_44 : decode cX4_startOpening 44 = .ok (.ireturn, 1) := by decide +kernel
theorem dX4_startOpening_45 : decode cX4_startOpening 45 = .ok (.aload_n 0, 1) := by decide +kernel
theorem dX4_startOpening_46 : decode cX4_startOpening 46 = .ok (.iconst 2, 1) := by decide +kernel
theorem dX4_startOpening_47 : decode cX4_startOpening 47 = .ok (.putfield 41, 3) := by decide +kernel
theorem dX4_startOpening_50 : decode cX4_startOpening 50 = .ok (.iload_n 1, 1) := by decide +kernel
theorem dX4_startOpening_51 : decode cX4_startOpening 51 = .ok (.ireturn, 1) := by decide +kernel
theorem dX4_finish_0 : decode cX4_finish 0 = .ok (.aload_n 0, 1) := by decide +kernel
theorem dX4_finish_1 : decode cX4_finish 1 = .ok (.aload_n 0, 1) := by decide +kernel
theorem dX4_finish_2 : decode cX4_finish 2 = .ok (.getfield 70, 3) := by decide +kernel
theorem dX4_finish_5 : decode cX4_finish 5 = .ok (.invokevirtual 139, 3) := by decide +kernel
theorem dX4_finish_8 : decode cX4_finish 8 = .ok (.istore_n 1, 1) := by decide +kernel
theorem dX4_finish_9 : decode cX4_finish 9 = .ok (.aload_n 0, 1) := by decide +kernel
theorem dX4_finish_10 : decode cX4_finish 10 = .ok (.invokevirtual 142, 3) := by decide +kernel
theorem dX4_finish_13 : decode cX4_finish 13 = .ok (.aload_n 0, 1) := by decide +kernel
theorem dX4_finish_14 : decode cX4_finish 14 = .ok (.iconst 0, 1) := by decide +kernel
theorem dX4_finish_15 : decode cX4_finish 15 = .ok (.putfield 41, 3) := by decide +kernel
theorem dX4_finish_18 : decode cX4_finish 18 = .ok (.aload_n 0, 1) := by decide +kernel
theorem dX4_finish_19 : decode cX4_finish 19 = .ok (.getfield 70, 3) := by decide +kernel
theorem dX4_finish_22 : decode cX4_finish 22 = .ok (.invokestatic 94, 3) := by decide +kernel
theorem dX4_finish_25 : decode cX4_finish 25 = .ok (.istore_n 2, 1) := by decide +kernel
theorem dX4_finish_26 : decode cX4_finish 26 = .ok (.iload_n 1, 1) := by decide +kernel
theorem dX4_finish_27 : decode cX4_finish 27 = .ok (.iconst (-1), 1) := by decide +kernel
theorem dX4_finish_28 : decode cX4_finish 28 = .ok (.if_icmp .ne 22, 3) := by decide +kernel
theorem dX4_finish_31 : decode cX4_finish 31 = .ok (.aload_n 0, 1) := by decide +kernel
theorem dX4_finish_32 : decode cX4_finish 32 = .ok (.getfield 24, 3) := by decide +kernel
theorem dX4_finish_35 : decode cX4_finish 35 = .ok (.aload_n 0, 1) := by decide +kernel
theorem dX4_finish_36 : decode cX4_finish 36 = .ok (.getfield 64, 3) := by decide +kernel
theorem dX4_finish_39 : decode cX4_finish 39 = .ok (.iload_n 2, 1) := by decide +kernel
theorem dX4_finish_40 : decode cX4_finish 40 = .ok (.aload_n 0, 1) := by decide +kernel
theorem dX4_finish_41 : decode cX4_finish 41 = .ok (.getfield 28, 3) := by decide +kernel
theorem dX4_finish_44 : decode cX4_finish 44 = .ok (.invokevirtual 135, 3) := by decide +kernel
theorem dX4_finish_47 : decode cX4_finish 47 = .ok (.bipush (-5), 2) := by decide +kernel
theorem dX4_finish_49 : decode cX4_finish 49 = .ok (.ireturn, 1) := by decide +kernel
theorem dX4_finish_50 : decode cX4_finish 50 = .ok (.aload_n 0, 1) := by decide +kernel
theorem dX4_finish_51 : decode cX4_finish 51 = .ok (.aload_n 0, 1) := by decide +kernel
theorem dX4_finish_52 : decode cX4_finish 52 = .ok (.getfield 17, 3) := by decide +kernel
theorem dX4_finish_55 : decode cX4_finish 55 = .ok (.iload_n 1, 1) := by decide +kernel
theorem dX4_finish_56 : decode cX4_finish 56 = .ok (.invokevirtual 145, 3) := by decide +kernel
theorem dX4_finish_59 : decode cX4_finish 59 = .ok (.istore_n 3, 1) := by decide +kernel
theorem dX4_finish_60 : decode cX4_finish 60 = .ok (.aload_n 0, 1) := by decide +kernel
theorem dX4_finish_61 : decode cX4_finish 61 = .ok (.getfield 24, 3) := by decide +kernel
theorem dX4_finish_64 : decode cX4_finish 64 = .ok (.iload_n 3, 1) := by decide +kernel
theorem dX4_finish_65 : decode cX4_finish 65 = .ok (.aload_n 0, 1) := by decide +kernel
theorem dX4_finish_66 : decode cX4_finish 66 = .ok (.getfield 64, 3) := by decide +kernel
theorem dX4_finish_69 : decode cX4_finish 69 = .ok (.iload_n 2, 1) := by decide +kernel
theorem dX4_finish_70 : decode cX4_finish 70 = .ok (.aload_n 0, 1) := by decide +kernel
theorem dX4_finish_71 : decode cX4_finish 71 = .ok (.getfield 28, 3) := by decide +kernel
theorem dX4_finish_74 : decode cX4_finish 74 = .ok (.invokevirtual 149, 3) := by decide +kernel
theorem dX4_finish_77 : decode cX4_finish 77 = .ok (.aload_n 0, 1) := by decide +kernel
theorem dX4_finish_78 : decode cX4_finish 78 = .ok (.iload_n 2, 1) := by decide +kernel
theorem dX4_finish_79 : decode cX4_finish 79 = .ok (.invokevirtual 153, 3) := by decide +kernel
theorem dX4_finish_82 : decode cX4_finish 82 = .ok (.iload_n 3, 1) := by decide +kernel
theorem dX4_finish_83 : decode cX4_finish 83 = .ok (.iconst 1, 1) := by decide +kernel
theorem dX4_finish_84 : decode cX4_finish 84 = .ok (.iand, 1) := by decide +kernel
theorem dX4_finish_85 : decode cX4_finish 85 = .ok (.ireturn, 1) := by decide +kernel
theorem dX4_chargeOrCredit_0 : decode cX4_chargeOrCredit 0 = .ok (.iconst 0, 1) := by decide +kernel
theorem dX4_chargeOrCredit_1 : decode cX4_chargeOrCredit 1 = .ok (.istore_n 1, 1) := by decide +kernel
theorem dX4_chargeOrCredit_2 : decode cX4_chargeOrCredit 2 = .ok (.iload_n 1, 1) := by decide +kernel
theorem dX4_chargeOrCredit_3 : decode cX4_chargeOrCredit 3 = .ok (.bipush 8, 2) := by decide +kernel
theorem dX4_chargeOrCredit_5 : decode cX4_chargeOrCredit 5 = .ok (.if_icmp .ge 69, 3) := by decide +kernel
theorem dX4_chargeOrCredit_8 : decode cX4_chargeOrCredit 8 = .ok (.aload_n 0, 1) := by decide +kernel
theorem dX4_chargeOrCredit_9 : decode cX4_chargeOrCredit 9 = .ok (.getfield 70, 3) := by decide +kernel
theorem dX4_chargeOrCredit_12 : decode cX4_chargeOrCredit 12 = .ok (.iload_n 1, 1) := by decide +kernel
theorem dX4_chargeOrCredit_13 : decode cX4_chargeOrCredit 13 = .ok (.invokestatic 76, 3) := by decide +kernel
theorem dX4_chargeOrCredit_16 : decode cX4_chargeOrCredit 16 = .ok (.ifCond .eq 21, 3) := by decide +kernel
theorem dX4_chargeOrCredit_19 : decode cX4_chargeOrCredit 19 = .ok (.aload_n 0, 1) := by decide +kernel
theorem dX4_chargeOrCredit_20 : decode cX4_chargeOrCredit 20 = .ok (.getfield 11, 3) := by decide +kernel
theorem dX4_chargeOrCredit_23 : decode cX4_chargeOrCredit 23 = .ok (.iload_n 1, 1) := by decide +kernel
theorem dX4_chargeOrCredit_24 : decode cX4_chargeOrCredit 24 = .ok (.aaload, 1) := by decide +kernel
theorem dX4_chargeOrCredit_25 : decode cX4_chargeOrCredit 25 = .ok (.dup, 1) := by decide +kernel
theorem dX4_chargeOrCredit_26 : decode cX4_chargeOrCredit 26 = .ok (.getfield 156, 3) := by decide +kernel
theorem dX4_chargeOrCredit_29 : decode cX4_chargeOrCredit 29 = .ok (.iconst 1, 1) := by decide +kernel
theorem dX4_chargeOrCredit_30 : decode cX4_chargeOrCredit 30 = .ok (.iadd, 1) := by decide +kernel
theorem dX4_chargeOrCredit_31 : decode cX4_chargeOrCredit 31 = .ok (.putfield 156, 3) := by decide +kernel
theorem dX4_chargeOrCredit_34 : decode cX4_chargeOrCredit 34 = .ok (.goto 34, 3) := by decide +kernel
theorem dX4_chargeOrCredit_37 : decode cX4_chargeOrCredit 37 = .ok (.aload_n 0, 1) := by decide +kernel
theorem dX4_chargeOrCredit_38 : decode cX4_chargeOrCredit 38 = .ok (.getfield 64, 3) := by decide +kernel
theorem dX4_chargeOrCredit_41 : decode cX4_chargeOrCredit 41 = .ok (.iload_n 1, 1) := by decide +kernel
theorem dX4_chargeOrCredit_42 : decode cX4_chargeOrCredit 42 = .ok (.invokestatic 76, 3) := by decide +kernel
theorem dX4_chargeOrCredit_45 : decode cX4_chargeOrCredit 45 = .ok (.ifCond .eq 23, 3) := by decide +kernel
theorem dX4_chargeOrCredit_48 : decode cX4_chargeOrCredit 48 = .ok (.aload_n 0, 1) := by decide +kernel
theorem dX4_chargeOrCredit_49 : decode cX4_chargeOrCredit 49 = .ok (.getfield 11, 3) := by decide +kernel
theorem dX4_chargeOrCredit_52 : decode cX4_chargeOrCredit 52 = .ok (.iload_n 1, 1) := by decide +kernel
theorem dX4_chargeOrCredit_53 : decode cX4_chargeOrCredit 53 = .ok (.aaload, 1) := by decide +kernel
theorem dX4_chargeOrCredit_54 : decode cX4_chargeOrCredit 54 = .ok (.dup, 1) := by decide +kernel
theorem dX4_chargeOrCredit_55 : decode cX4_chargeOrCredit 55 = .ok (.getfield 159, 3) := by decide +kernel
theorem dX4_chargeOrCredit_58 : decode cX4_chargeOrCredit 58 = .ok (.iconst 1, 1) := by decide +kernel
theorem dX4_chargeOrCredit_59 : decode cX4_chargeOrCredit 59 = .ok (.iadd, 1) := by decide +kernel
theorem dX4_chargeOrCredit_60 : decode cX4_chargeOrCredit 60 = .ok (.putfield 159, 3) := by decide +kernel
theorem dX4_chargeOrCredit_63 : decode cX4_chargeOrCredit 63 = .ok (.aload_n 0, 1) := by decide +kernel
theorem dX4_chargeOrCredit_64 : decode cX4_chargeOrCredit 64 = .ok (.iload_n 1, 1) := by decide +kernel
theorem dX4_chargeOrCredit_65 : decode cX4_chargeOrCredit 65 = .ok (.invokevirtual 128, 3) := by decide +kernel
theorem dX4_chargeOrCredit_68 : decode cX4_chargeOrCredit 68 = .ok (.iinc 1 1, 3) := by decide +kernel
theorem dX4_chargeOrCredit_71 : decode cX4_chargeOrCredit 71 = .ok (.goto (-69), 3) := by decide +kernel
theorem dX4_chargeOrCredit_74 : decode cX4_chargeOrCredit 74 = .ok (.return_, 1) := by decide +kernel
theorem dX4_sharePot_0 : decode cX4_sharePot 0 = .ok (.iload_n 1, 1) := by decide +kernel
theorem dX4_sharePot_1 : decode cX4_sharePot 1 = .ok (.ifCond .ne 4, 3) := by decide +kernel
theorem dX4_sharePot_4 : decode cX4_sharePot 4 = .ok (.return_, 1) := by decide +kernel
theorem dX4_sharePot_5 : decode cX4_sharePot 5 = .ok (.aload_n 0, 1) := by decide +kernel
theorem dX4_sharePot_6 : decode cX4_sharePot 6 = .ok (.getfield 61, 3) := by decide +kernel
theorem dX4_sharePot_9 : decode cX4_sharePot 9 = .ok (.iload_n 1, 1) := by decide +kernel
theorem dX4_sharePot_10 : decode cX4_sharePot 10 = .ok (.idiv, 1) := by decide +kernel
theorem dX4_sharePot_11 : decode cX4_sharePot 11 = .ok (.istore_n 2, 1) := by decide +kernel
theorem dX4_sharePot_12 : decode cX4_sharePot 12 = .ok (.iconst 0, 1) := by decide +kernel
theorem dX4_sharePot_13 : decode cX4_sharePot 13 = .ok (.istore_n 3, 1) := by decide +kernel
theorem dX4_sharePot_14 : decode cX4_sharePot 14 = .ok (.iload_n 3, 1) := by decide +kernel
theorem dX4_sharePot_15 : decode cX4_sharePot 15 = .ok (.bipush 8, 2) := by decide +kernel
theorem dX4_sharePot_17 : decode cX4_sharePot 17 = .ok (.if_icmp .ge 45, 3) := by decide +kernel
theorem dX4_sharePot_20 : decode cX4_sharePot 20 = .ok (.aload_n 0, 1) := by decide +kernel
theorem dX4_sharePot_21 : decode cX4_sharePot 21 = .ok (.getfield 70, 3) := by decide +kernel
theorem dX4_sharePot_24 : decode cX4_sharePot 24 = .ok (.iload_n 3, 1) := by decide +kernel
theorem dX4_sharePot_25 : decode cX4_sharePot 25 = .ok (.invokestatic 76, 3) := by decide +kernel
theorem dX4_sharePot_28 : decode cX4_sharePot 28 = .ok (.ifCond .eq 28, 3) := by decide +kernel
theorem dX4_sharePot_31 : decode cX4_sharePot 31 = .ok (.aload_n 0, 1) := by decide +kernel
theorem dX4_sharePot_32 : decode cX4_sharePot 32 = .ok (.getfield 11, 3) := by decide +kernel
theorem dX4_sharePot_35 : decode cX4_sharePot 35 = .ok (.iload_n 3, 1) := by decide +kernel
theorem dX4_sharePot_36 : decode cX4_sharePot 36 = .ok (.aaload, 1) := by decide +kernel
theorem dX4_sharePot_37 : decode cX4_sharePot 37 = .ok (.dup, 1) := by decide +kernel
theorem dX4_sharePot_38 : decode cX4_sharePot 38 = .ok (.getfield 87, 3) := by decide +kernel
theorem dX4_sharePot_41 : decode cX4_sharePot 41 = .ok (.iload_n 2, 1) := by decide +kernel
theorem dX4_sharePot_42 : decode cX4_sharePot 42 = .ok (.iadd, 1) := by decide +kernel
theorem dX4_sharePot_43 : decode cX4_sharePot 43 = .ok (.putfield 87, 3) := by decide +kernel
theorem dX4_sharePot_46 : decode cX4_sharePot 46 = .ok (.aload_n 0, 1) := by decide +kernel
theorem dX4_sharePot_47 : decode cX4_sharePot 47 = .ok (.dup, 1) := by decide +kernel
theorem dX4_sharePot_48 : decode cX4_sharePot 48 = .ok (.getfield 61, 3) := by decide +kernel
theorem dX4_sharePot_51 : decode cX4_sharePot 51 = .ok (.iload_n 2, 1) := by decide +kernel
theorem dX4_sharePot_52 : decode cX4_sharePot 52 = .ok (.isub, 1) := by decide +kernel
theorem dX4_sharePot_53 : decode cX4_sharePot 53 = .ok (.putfield 61, 3) := by decide +kernel
theorem dX4_sharePot_56 : decode cX4_sharePot 56 = .ok (.iinc 3 1, 3) := by decide +kernel
theorem dX4_sharePot_59 : decode cX4_sharePot 59 = .ok (.goto (-45), 3) := by decide +kernel
theorem dX4_sharePot_62 : decode cX4_sharePot 62 = .ok (.return_, 1) := by decide +kernel
theorem dX4_countedIf_0 : decode cX4_countedIf 0 = .ok (.aload_n 0, 1) := by decide +kernel
theorem dX4_countedIf_1 : decode cX4_countedIf 1 = .ok (.getfield 28, 3) := by decide +kernel
theorem dX4_countedIf_4 : decode cX4_countedIf 4 = .ok (.ifCond .ne 5, 3) := by decide +kernel
theorem dX4_countedIf_7 : decode cX4_countedIf 7 = .ok (.iload_n 1, 1) := by decide +kernel
theorem dX4_countedIf_8 : decode cX4_countedIf 8 = .ok (.ireturn, 1) := by decide +kernel
theorem dX4_countedIf_9 : decode cX4_countedIf 9 = .ok (.aload_n 0, 1) := by decide +kernel
theorem dX4_countedIf_10 : decode cX4_countedIf 10 = .ok (.getfield 28, 3) := by decide +kernel
theorem dX4_countedIf_13 : decode cX4_countedIf 13 = .ok (.iconst 1, 1) := by decide +kernel
theorem dX4_countedIf_14 : decode cX4_countedIf 14 = .ok (.if_icmp .ne 13, 3) := by decide +kernel
theorem dX4_countedIf_17 : decode cX4_countedIf 17 = .ok (.aload_n 0, 1) := by decide +kernel
theorem dX4_countedIf_18 : decode cX4_countedIf 18 = .ok (.iload_n 1, 1) := by decide +kernel
theorem dX4_countedIf_19 : decode cX4_countedIf 19 = .ok (.invokevirtual 162, 3) := by decide +kernel
theorem dX4_countedIf_22 : decode cX4_countedIf 22 = .ok (.ifCond .ne 5, 3) := by decide +kernel
theorem dX4_countedIf_25 : decode cX4_countedIf 25 = .ok (.iconst (-1), 1) := by decide +kernel
theorem dX4_countedIf_26 : decode cX4_countedIf 26 = .ok (.ireturn, 1) := by decide +kernel
theorem dX4_countedIf_27 : decode cX4_countedIf 27 = .ok (.aload_n 0, 1) := by decide +kernel
theorem dX4_countedIf_28 : decode cX4_countedIf 28 = .ok (.getfield 64, 3) := by decide +kernel
theorem dX4_countedIf_31 : decode cX4_countedIf 31 = .ok (.ireturn, 1) := by decide +kernel
theorem dX4_canRecoverAll_0 : decode cX4_canRecoverAll 0 = .ok (.iconst 0, 1) := by decide +kernel
theorem dX4_canRecoverAll_1 : decode cX4_canRecoverAll 1 = .ok (.istore_n 2, 1) := by decide +kernel
theorem dX4_canRecoverAll_2 : decode cX4_canRecoverAll 2 = .ok (.iload_n 2, 1) := by decide +kernel
theorem dX4_canRecoverAll_3 : decode cX4_canRecoverAll 3 = .ok (.bipush 8, 2) := by decide +kernel
theorem dX4_canRecoverAll_5 : decode cX4_canRecoverAll 5 = .ok (.if_icmp .ge 47, 3) := by decide +kernel
theorem dX4_canRecoverAll_8 : decode cX4_canRecoverAll 8 = .ok (.aload_n 0, 1) := by decide +kernel
theorem dX4_canRecoverAll_9 : decode cX4_canRecoverAll 9 = .ok (.getfield 64, 3) := by decide +kernel
theorem dX4_canRecoverAll_12 : decode cX4_canRecoverAll 12 = .ok (.iload_n 1, 1) := by decide +kernel
theorem dX4_canRecoverAll_13 : decode cX4_canRecoverAll 13 = .ok (.iconst (-1), 1) := by decide +kernel
theorem dX4_canRecoverAll_14 : decode cX4_canRecoverAll 14 = .ok (.ixor, 1) := by decide +kernel
theorem dX4_canRecoverAll_15 : decode cX4_canRecoverAll 15 = .ok (.iand, 1) := by decide +kernel
theorem dX4_canRecoverAll_16 : decode cX4_canRecoverAll 16 = .ok (.iload_n 2, 1) := by decide +kernel
theorem dX4_canRecoverAll_17 : decode cX4_canRecoverAll 17 = .ok (.invokestatic 76, 3) := by decide +kernel
theorem dX4_canRecoverAll_20 : decode cX4_canRecoverAll 20 = .ok (.ifCond .eq 26, 3) := by decide +kernel
theorem dX4_canRecoverAll_23 : decode cX4_canRecoverAll 23 = .ok (.iload_n 1, 1) := by decide +kernel
theorem dX4_canRecoverAll_24 : decode cX4_canRecoverAll 24 = .ok (.aload_n 0, 1) := by decide +kernel
theorem dX4_canRecoverAll_25 : decode cX4_canRecoverAll 25 = .ok (.getfield 11, 3) := by decide +kernel
theorem dX4_canRecoverAll_28 : decode cX4_canRecoverAll 28 = .ok (.iload_n 2, 1) := by decide +kernel
theorem dX4_canRecoverAll_29 : decode cX4_canRecoverAll 29 = .ok (.aaload, 1) := by decide +kernel
theorem dX4_canRecoverAll_30 : decode cX4_canRecoverAll 30 = .ok (.getfield 165, 3) := by decide +kernel
theorem dX4_canRecoverAll_33 : decode cX4_canRecoverAll 33 = .ok (.iand, 1) := by decide +kernel
theorem dX4_canRecoverAll_34 : decode cX4_canRecoverAll 34 = .ok (.invokestatic 94, 3) := by decide +kernel
theorem dX4_canRecoverAll_37 : decode cX4_canRecoverAll 37 = .ok (.aload_n 0, 1) := by decide +kernel
theorem dX4_canRecoverAll_38 : decode cX4_canRecoverAll 38 = .ok (.getfield 32, 3) := by decide +kernel
theorem dX4_canRecoverAll_41 : decode cX4_canRecoverAll 41 = .ok (.if_icmp .ge 5, 3) := by decide +kernel
theorem dX4_canRecoverAll_44 : decode cX4_canRecoverAll 44 = .ok (.iconst 0, 1) := by decide +kernel
theorem dX4_canRecoverAll_45 : decode cX4_canRecoverAll 45 = .ok (.ireturn, 1) := by decide +kernel
theorem dX4_canRecoverAll_46 : decode cX4_canRecoverAll 46 = .ok (.iinc 2 1, 3) := by decide +kernel
theorem dX4_canRecoverAll_49 : decode cX4_canRecoverAll 49 = .ok (.goto (-47), 3) := by decide +kernel
theorem dX4_canRecoverAll_52 : decode cX4_canRecoverAll 52 = .ok (.iconst 1, 1) := by decide +kernel
theorem dX4_canRecoverAll_53 : decode cX4_canRecoverAll 53 = .ok (.ireturn, 1) := by decide +kernel
theorem dX4_mixed_0 : decode cX4_mixed 0 = .ok (.aload_n 0, 1) := by decide +kernel
theorem dX4_mixed_1 : decode cX4_mixed 1 = .ok (.getfield 24, 3) := by decide +kernel
theorem dX4_mixed_4 : decode cX4_mixed 4 = .ok (.getfield 168, 3) := by decide +kernel
theorem dX4_mixed_7 : decode cX4_mixed 7 = .ok (.istore_n 3, 1) := by decide +kernel
theorem dX4_mixed_8 : decode cX4_mixed 8 = .ok (.iconst 0, 1) := by decide +kernel
theorem dX4_mixed_9 : decode cX4_mixed 9 = .ok (.istore 4, 2) := by decide +kernel
theorem dX4_mixed_11 : decode cX4_mixed 11 = .ok (.iload 4, 2) := by decide +kernel
theorem dX4_mixed_13 : decode cX4_mixed 13 = .ok (.bipush 8, 2) := by decide +kernel
theorem dX4_mixed_15 : decode cX4_mixed 15 = .ok (.if_icmp .ge 50, 3) := by decide +kernel
theorem dX4_mixed_18 : decode cX4_mixed 18 = .ok (.iload 4, 2) := by decide +kernel
theorem dX4_mixed_20 : decode cX4_mixed 20 = .ok (.aload_n 1, 1) := by decide +kernel
theorem dX4_mixed_21 : decode cX4_mixed 21 = .ok (.arraylength, 1) := by decide +kernel
theorem dX4_mixed_22 : decode cX4_mixed 22 = .ok (.if_icmp .ge 43, 3) := by decide +kernel
theorem dX4_mixed_25 : decode cX4_mixed 25 = .ok (.aload_n 0, 1) := by decide +kernel
theorem dX4_mixed_26 : decode cX4_mixed 26 = .ok (.getfield 64, 3) := by decide +kernel
theorem dX4_mixed_29 : decode cX4_mixed 29 = .ok (.iload 4, 2) := by decide +kernel
theorem dX4_mixed_31 : decode cX4_mixed 31 = .ok (.invokestatic 76, 3) := by decide +kernel
theorem dX4_mixed_34 : decode cX4_mixed 34 = .ok (.ifCond .eq 25, 3) := by decide +kernel
theorem dX4_mixed_37 : decode cX4_mixed 37 = .ok (.iload_n 3, 1) := by decide +kernel
theorem dX4_mixed_38 : decode cX4_mixed 38 = .ok (.iload_n 2, 1) := by decide +kernel
theorem dX4_mixed_39 : decode cX4_mixed 39 = .ok (.iload 4, 2) := by decide +kernel
theorem dX4_mixed_41 : decode cX4_mixed 41 = .ok (.invokestatic 76, 3) := by decide +kernel
theorem dX4_mixed_44 : decode cX4_mixed 44 = .ok (.ifCond .eq 10, 3) := by decide +kernel
theorem dX4_mixed_47 : decode cX4_mixed 47 = .ok (.aload_n 1, 1) := by decide +kernel
theorem dX4_mixed_48 : decode cX4_mixed 48 = .ok (.iload 4, 2) := by decide +kernel
theorem dX4_mixed_50 : decode cX4_mixed 50 = .ok (.iaload, 1) := by decide +kernel
theorem dX4_mixed_51 : decode cX4_mixed 51 = .ok (.goto 4, 3) := by decide +kernel
theorem dX4_mixed_54 : decode cX4_mixed 54 = .ok (.iconst 0, 1) := by decide +kernel
theorem dX4_mixed_55 : decode cX4_mixed 55 = .ok (.invokestatic 103, 3) := by decide +kernel
theorem dX4_mixed_58 : decode cX4_mixed 58 = .ok (.istore_n 3, 1) := by decide +kernel
theorem dX4_mixed_59 : decode cX4_mixed 59 = .ok (.iinc 4 1, 3) := by decide +kernel
theorem dX4_mixed_62 : decode cX4_mixed 62 = .ok (.goto (-51), 3) := by decide +kernel
theorem dX4_mixed_65 : decode cX4_mixed 65 = .ok (.iload_n 3, 1) := by decide +kernel
theorem dX4_mixed_66 : decode cX4_mixed 66 = .ok (.ireturn, 1) := by decide +kernel
theorem dX5_init_0 : decode cX5_init 0 = .ok (.aload_n 0, 1) := by decide +kernel
theorem dX5_init_1 : decode cX5_init 1 = .ok (.invokespecial 3, 3) := by decide +kernel
theorem dX5_init_4 : decode cX5_init 4 = .ok (.aload_n 0, 1) := by decide +kernel
theorem dX5_init_5 : decode cX5_init 5 = .ok (.bipush 8, 2) := by decide +kernel
theorem dX5_init_7 : decode cX5_init 7 = .ok (.newarray .int, 2) := by decide +kernel
theorem dX5_init_9 : decode cX5_init 9 = .ok (.putfield 9, 3) := by decide +kernel
theorem dX5_init_12 : decode cX5_init 12 = .ok (.aload_n 0, 1) := by decide +kernel
theorem dX5_init_13 : decode cX5_init 13 = .ok (.bipush 8, 2) := by decide +kernel
theorem dX5_init_15 : decode cX5_init 15 = .ok (.newarray .int, 2) := by decide +kernel
theorem dX5_init_17 : decode cX5_init 17 = .ok (.putfield 15, 3) := by decide +kernel
theorem dX5_init_20 : decode cX5_init 20 = .ok (.return_, 1) := by decide +kernel
theorem dX5_copy_0 : decode cX5_copy 0 = .ok (.aload_n 0, 1) := by decide +kernel
theorem dX5_copy_1 : decode cX5_copy 1 = .ok (.aload_n 1, 1) := by decide +kernel
theorem dX5_copy_2 : decode cX5_copy 2 = .ok (.getfield 18, 3) := by decide +kernel
theorem dX5_copy_5 : decode cX5_copy 5 = .ok (.putfield 18, 3) := by decide +kernel
theorem dX5_copy_8 : decode cX5_copy 8 = .ok (.aload_n 0, 1) := by decide +kernel
theorem dX5_copy_9 : decode cX5_copy 9 = .ok (.aload_n 1, 1) := by decide +kernel
theorem dX5_copy_10 : decode cX5_copy 10 = .ok (.getfield 22, 3) := by decide +kernel
theorem dX5_copy_13 : decode cX5_copy 13 = .ok (.putfield 22, 3) := by decide +kernel
theorem dX5_copy_16 : decode cX5_copy 16 = .ok (.aload_n 0, 1) := by decide +kernel
theorem dX5_copy_17 : decode cX5_copy 17 = .ok (.aload_n 1, 1) := by decide +kernel
theorem dX5_copy_18 : decode cX5_copy 18 = .ok (.getfield 25, 3) := by decide +kernel
theorem dX5_copy_21 : decode cX5_copy 21 = .ok (.putfield 25, 3) := by decide +kernel
theorem dX5_copy_24 : decode cX5_copy 24 = .ok (.aload_n 0, 1) := by decide +kernel
theorem dX5_copy_25 : decode cX5_copy 25 = .ok (.aload_n 1, 1) := by decide +kernel
theorem dX5_copy_26 : decode cX5_copy 26 = .ok (.getfield 28, 3) := by decide +kernel
theorem dX5_copy_29 : decode cX5_copy 29 = .ok (.putfield 28, 3) := by decide +kernel
theorem dX5_copy_32 : decode cX5_copy 32 = .ok (.aload_n 0, 1) := by decide +kernel
theorem dX5_copy_33 : decode cX5_copy 33 = .ok (.aload_n 1, 1) := by decide +kernel
theorem dX5_copy_34 : decode cX5_copy 34 = .ok (.getfield 31, 3) := by decide +kernel
theorem dX5_copy_37 : decode cX5_copy 37 = .ok (.putfield 31, 3) := by decide +kernel
theorem dX5_copy_40 : decode cX5_copy 40 = .ok (.aload_n 0, 1) := by decide +kernel
theorem dX5_copy_41 : decode cX5_copy 41 = .ok (.aload_n 1, 1) := by decide +kernel
theorem dX5_copy_42 : decode cX5_copy 42 = .ok (.getfield 34, 3) := by decide +kernel
theorem dX5_copy_45 : decode cX5_copy 45 = .ok (.putfield 34, 3) := by decide +kernel
theorem dX5_copy_48 : decode cX5_copy 48 = .ok (.aload_n 0, 1) := by decide +kernel
theorem dX5_copy_49 : decode cX5_copy 49 = .ok (.aload_n 1, 1) := by decide +kernel
theorem dX5_copy_50 : decode cX5_copy 50 = .ok (.getfield 37, 3) := by decide +kernel
theorem dX5_copy_53 : decode cX5_copy 53 = .ok (.putfield 37, 3) := by decide +kernel
theorem dX5_copy_56 : decode cX5_copy 56 = .ok (.aload_n 0, 1) := by decide +kernel
theorem dX5_copy_57 : decode cX5_copy 57 = .ok (.aload_n 1, 1) := by decide +kernel
theorem dX5_copy_58 : decode cX5_copy 58 = .ok (.getfield 40, 3) := by decide +kernel
theorem dX5_copy_61 : decode cX5_copy 61 = .ok (.putfield 40, 3) := by decide +kernel
theorem dX5_copy_64 : decode cX5_copy 64 = .ok (.aload_n 0, 1) := by decide +kernel
theorem dX5_copy_65 : decode cX5_copy 65 = .ok (.aload_n 1, 1) := by decide +kernel
theorem dX5_copy_66 : decode cX5_copy 66 = .ok (.getfield 43, 3) := by decide +kernel
theorem dX5_copy_69 : decode cX5_copy 69 = .ok (.putfield 43, 3) := by decide +kernel
theorem dX5_copy_72 : decode cX5_copy 72 = .ok (.aload_n 0, 1) := by decide +kernel
theorem dX5_copy_73 : decode cX5_copy 73 = .ok (.aload_n 1, 1) := by decide +kernel
theorem dX5_copy_74 : decode cX5_copy 74 = .ok (.getfield 46, 3) := by decide +kernel
theorem dX5_copy_77 : decode cX5_copy 77 = .ok (.putfield 46, 3) := by decide +kernel
theorem dX5_copy_80 : decode cX5_copy 80 = .ok (.aload_n 1, 1) := by decide +kernel
theorem dX5_copy_81 : decode cX5_copy 81 = .ok (.getfield 9, 3) := by decide +kernel
theorem dX5_copy_84 : decode cX5_copy 84 = .ok (.iconst 0, 1) := by decide +kernel
theorem dX5_copy_85 : decode cX5_copy 85 = .ok (.aload_n 0, 1) := by decide +kernel
theorem dX5_copy_86 : decode cX5_copy 86 = .ok (.getfield 9, 3) := by decide +kernel
theorem dX5_copy_89 : decode cX5_copy 89 = .ok (.iconst 0, 1) := by decide +kernel
theorem dX5_copy_90 : decode cX5_copy 90 = .ok (.bipush 8, 2) := by decide +kernel
theorem dX5_copy_92 : decode cX5_copy 92 = .ok (.invokestatic 49, 3) := by decide +kernel
theorem dX5_copy_95 : decode cX5_copy 95 = .ok (.aload_n 1, 1) := by decide +kernel
theorem dX5_copy_96 : decode cX5_copy 96 = .ok (.getfield 15, 3) := by decide +kernel
theorem dX5_copy_99 : decode cX5_copy 99 = .ok (.iconst 0, 1) := by decide +kernel
theorem dX5_copy_100 : decode cX5_copy 100 = .ok (.aload_n 0, 1) := by decide +kernel
theorem dX5_copy_101 : decode cX5_copy 101 = .ok (.getfield 15, 3) := by decide +kernel
theorem dX5_copy_104 : decode cX5_copy 104 = .ok (.iconst 0, 1) := by decide +kernel
theorem dX5_copy_105 : decode cX5_copy 105 = .ok (.bipush 8, 2) := by decide +kernel
theorem dX5_copy_107 : decode cX5_copy 107 = .ok (.invokestatic 49, 3) := by decide +kernel
theorem dX5_copy_110 : decode cX5_copy 110 = .ok (.return_, 1) := by decide +kernel
theorem dX5_deal_0 : decode cX5_deal 0 = .ok (.iconst 0, 1) := by decide +kernel
theorem dX5_deal_1 : decode cX5_deal 1 = .ok (.istore_n 3, 1) := by decide +kernel
theorem dX5_deal_2 : decode cX5_deal 2 = .ok (.iload_n 3, 1) := by decide +kernel
theorem dX5_deal_3 : decode cX5_deal 3 = .ok (.bipush 8, 2) := by decide +kernel
theorem dX5_deal_5 : decode cX5_deal 5 = .ok (.if_icmp .ge 16, 3) := by decide +kernel
theorem dX5_deal_8 : decode cX5_deal 8 = .ok (.aload_n 0, 1) := by decide +kernel
theorem dX5_deal_9 : decode cX5_deal 9 = .ok (.getfield 9, 3) := by decide +kernel
theorem dX5_deal_12 : decode cX5_deal 12 = .ok (.iload_n 3, 1) := by decide +kernel
theorem dX5_deal_13 : decode cX5_deal 13 = .ok (.iconst 0, 1) := by decide +kernel
theorem dX5_deal_14 : decode cX5_deal 14 = .ok (.iastore, 1) := by decide +kernel
theorem dX5_deal_15 : decode cX5_deal 15 = .ok (.iinc 3 1, 3) := by decide +kernel
theorem dX5_deal_18 : decode cX5_deal 18 = .ok (.goto (-16), 3) := by decide +kernel
theorem dX5_deal_21 : decode cX5_deal 21 = .ok (.aload_n 0, 1) := by decide +kernel
theorem dX5_deal_22 : decode cX5_deal 22 = .ok (.getfield 34, 3) := by decide +kernel
theorem dX5_deal_25 : decode cX5_deal 25 = .ok (.istore_n 3, 1) := by decide +kernel
theorem dX5_deal_26 : decode cX5_deal 26 = .ok (.iload_n 1, 1) := by decide +kernel
theorem dX5_deal_27 : decode cX5_deal 27 = .ok (.istore 4, 2) := by decide +kernel
theorem dX5_deal_29 : decode cX5_deal 29 = .ok (.iconst 0, 1) := by decide +kernel
theorem dX5_deal_30 : decode cX5_deal 30 = .ok (.istore 5, 2) := by decide +kernel
theorem dX5_deal_32 : decode cX5_deal 32 = .ok (.iload 5, 2) := by decide +kernel
theorem dX5_deal_34 : decode cX5_deal 34 = .ok (.iload_n 2, 1) := by decide +kernel
theorem dX5_deal_35 : decode cX5_deal 35 = .ok (.if_icmp .ge 97, 3) := by decide +kernel
theorem dX5_deal_38 : decode cX5_deal 38 = .ok (.iload 5, 2) := by decide +kernel
theorem dX5_deal_40 : decode cX5_deal 40 = .ok (.bipush 8, 2) := by decide +kernel
theorem dX5_deal_42 : decode cX5_deal 42 = .ok (.if_icmp .ge 90, 3) := by decide +kernel
theorem dX5_deal_45 : decode cX5_deal 45 = .ok (.aload_n 0, 1) := by decide +kernel
theorem dX5_deal_46 : decode cX5_deal 46 = .ok (.getfield 15, 3) := by decide +kernel
theorem dX5_deal_49 : decode cX5_deal 49 = .ok (.iload 5, 2) := by decide +kernel
theorem dX5_deal_51 : decode cX5_deal 51 = .ok (.iconst 4, 1) := by decide +kernel
theorem dX5_deal_52 : decode cX5_deal 52 = .ok (.iload 4, 2) := by decide +kernel
theorem dX5_deal_54 : decode cX5_deal 54 = .ok (.sipush 2039, 3) := by decide +kernel
theorem dX5_deal_57 : decode cX5_deal 57 = .ok (.invokestatic 55, 3) := by decide +kernel
theorem dX5_deal_60 : decode cX5_deal 60 = .ok (.iastore, 1) := by decide +kernel
theorem dX5_deal_61 : decode cX5_deal 61 = .ok (.iconst 0, 1) := by decide +kernel
theorem dX5_deal_62 : decode cX5_deal 62 = .ok (.istore 6, 2) := by decide +kernel
theorem dX5_deal_64 : decode cX5_deal 64 = .ok (.iload 6, 2) := by decide +kernel
theorem dX5_deal_66 : decode cX5_deal 66 = .ok (.bipush 8, 2) := by decide +kernel
theorem dX5_deal_68 : decode cX5_deal 68 = .ok (.if_icmp .ge 43, 3) := by decide +kernel
theorem dX5_deal_71 : decode cX5_deal 71 = .ok (.aload_n 0, 1) := by decide +kernel
theorem dX5_deal_72 : decode cX5_deal 72 = .ok (.getfield 9, 3) := by decide +kernel
theorem dX5_deal_75 : decode cX5_deal 75 = .ok (.iload 6, 2) := by decide +kernel
theorem dX5_deal_77 : decode cX5_deal 77 = .ok (.aload_n 0, 1) := by decide +kernel
theorem dX5_deal_78 : decode cX5_deal 78 = .ok (.getfield 9, 3) := by decide +kernel
theorem dX5_deal_81 : decode cX5_deal 81 = .ok (.iload 6, 2) := by decide +kernel
theorem dX5_deal_83 : decode cX5_deal 83 = .ok (.iaload, 1) := by decide +kernel
theorem dX5_deal_84 : decode cX5_deal 84 = .ok (.iload 4, 2) := by decide +kernel
theorem dX5_deal_86 : decode cX5_deal 86 = .ok (.iload 6, 2) := by decide +kernel
theorem dX5_deal_88 : decode cX5_deal 88 = .ok (.iconst 1, 1) := by decide +kernel
theorem dX5_deal_89 : decode cX5_deal 89 = .ok (.iadd, 1) := by decide +kernel
theorem dX5_deal_90 : decode cX5_deal 90 = .ok (.iload 5, 2) := by decide +kernel
theorem dX5_deal_92 : decode cX5_deal 92 = .ok (.sipush 1019, 3) := by decide +kernel
theorem dX5_deal_95 : decode cX5_deal 95 = .ok (.invokestatic 55, 3) := by decide +kernel
theorem dX5_deal_98 : decode cX5_deal 98 = .ok (.imul, 1) := by decide +kernel
theorem dX5_deal_99 : decode cX5_deal 99 = .ok (.iadd, 1) := by decide +kernel
theorem dX5_deal_100 : decode cX5_deal 100 = .ok (.sipush 1019, 3) := by decide +kernel
theorem dX5_deal_103 : decode cX5_deal 103 = .ok (.irem, 1) := by decide +kernel
theorem dX5_deal_104 : decode cX5_deal 104 = .ok (.iastore, 1) := by decide +kernel
theorem dX5_deal_105 : decode cX5_deal 105 = .ok (.iinc 6 1, 3) := by decide +kernel
theorem dX5_deal_108 : decode cX5_deal 108 = .ok (.goto (-44), 3) := by decide +kernel
theorem dX5_deal_111 : decode cX5_deal 111 = .ok (.iload_n 3, 1) := by decide +kernel
theorem dX5_deal_112 : decode cX5_deal 112 = .ok (.invokestatic 59, 3) := by decide +kernel
theorem dX5_deal_115 : decode cX5_deal 115 = .ok (.istore_n 3, 1) := by decide +kernel
theorem dX5_deal_116 : decode cX5_deal 116 = .ok (.iload_n 3, 1) := by decide +kernel
theorem dX5_deal_117 : decode cX5_deal 117 = .ok (.invokestatic 63, 3) := by decide +kernel
theorem dX5_deal_120 : decode cX5_deal 120 = .ok (.sipush 1019, 3) := by decide +kernel
theorem dX5_deal_123 : decode cX5_deal 123 = .ok (.irem, 1) := by decide +kernel
theorem dX5_deal_124 : decode cX5_deal 124 = .ok (.istore 4, 2) := by decide +kernel
theorem dX5_deal_126 : decode cX5_deal 126 = .ok (.iinc 5 1, 3) := by decide +kernel
theorem dX5_deal_129 : decode cX5_deal 129 = .ok (.goto (-97), 3) := by decide +kernel
theorem dX5_deal_132 : decode cX5_deal 132 = .ok (.aload_n 0, 1) := by decide +kernel
theorem dX5_deal_133 : decode cX5_deal 133 = .ok (.sipush 255, 3) := by decide +kernel
theorem dX5_deal_136 : decode cX5_deal 136 = .ok (.putfield 46, 3) := by decide +kernel
theorem dX5_deal_139 : decode cX5_deal 139 = .ok (.return_, 1) := by decide +kernel
theorem dX5_putLock_0 : decode cX5_putLock 0 = .ok (.aload_n 0, 1) := by decide +kernel
theorem dX5_putLock_1 : decode cX5_putLock 1 = .ok (.iconst 2, 1) := by decide +kernel
theorem dX5_putLock_2 : decode cX5_putLock 2 = .ok (.aload_n 0, 1) := by decide +kernel
theorem dX5_putLock_3 : decode cX5_putLock 3 = .ok (.getfield 34, 3) := by decide +kernel
theorem dX5_putLock_6 : decode cX5_putLock 6 = .ok (.invokestatic 59, 3) := by decide +kernel
theorem dX5_putLock_9 : decode cX5_putLock 9 = .ok (.invokestatic 63, 3) := by decide +kernel
theorem dX5_putLock_12 : decode cX5_putLock 12 = .ok (.sipush 1000, 3) := by decide +kernel
theorem dX5_putLock_15 : decode cX5_putLock 15 = .ok (.irem, 1) := by decide +kernel
theorem dX5_putLock_16 : decode cX5_putLock 16 = .ok (.iadd, 1) := by decide +kernel
theorem dX5_putLock_17 : decode cX5_putLock 17 = .ok (.putfield 40, 3) := by decide +kernel
theorem dX5_putLock_20 : decode cX5_putLock 20 = .ok (.aload_n 0, 1) := by decide +kernel
theorem dX5_putLock_21 : decode cX5_putLock 21 = .ok (.iload_n 1, 1) := by decide +kernel
theorem dX5_putLock_22 : decode cX5_putLock 22 = .ok (.aload_n 0, 1) := by decide +kernel
theorem dX5_putLock_23 : decode cX5_putLock 23 = .ok (.getfield 40, 3) := by decide +kernel
theorem dX5_putLock_26 : decode cX5_putLock 26 = .ok (.iload_n 2, 1) := by decide +kernel
theorem dX5_putLock_27 : decode cX5_putLock 27 = .ok (.invokestatic 66, 3) := by decide +kernel
theorem dX5_putLock_30 : decode cX5_putLock 30 = .ok (.iadd, 1) := by decide +kernel
theorem dX5_putLock_31 : decode cX5_putLock 31 = .ok (.sipush 1019, 3) := by decide +kernel
theorem dX5_putLock_34 : decode cX5_putLock 34 = .ok (.irem, 1) := by decide +kernel
theorem dX5_putLock_35 : decode cX5_putLock 35 = .ok (.putfield 43, 3) := by decide +kernel
theorem dX5_putLock_38 : decode cX5_putLock 38 = .ok (.return_, 1) := by decide +kernel
theorem dX5_changeShare_0 : decode cX5_changeShare 0 = .ok (.aload_n 0, 1) := by decide +kernel
theorem dX5_changeShare_1 : decode cX5_changeShare 1 = .ok (.getfield 9, 3) := by decide +kernel
theorem dX5_changeShare_4 : decode cX5_changeShare 4 = .ok (.iload_n 1, 1) := by decide +kernel
theorem dX5_changeShare_5 : decode cX5_changeShare 5 = .ok (.aload_n 0, 1) := by decide +kernel
theorem dX5_changeShare_6 : decode cX5_changeShare 6 = .ok (.getfield 9, 3) := by decide +kernel
theorem dX5_changeShare_9 : decode cX5_changeShare 9 = .ok (.iload_n 1, 1) := by decide +kernel
theorem dX5_changeShare_10 : decode cX5_changeShare 10 = .ok (.iaload, 1) := by decide +kernel
theorem dX5_changeShare_11 : decode cX5_changeShare 11 = .ok (.iload_n 2, 1) := by decide +kernel
theorem dX5_changeShare_12 : decode cX5_changeShare 12 = .ok (.iadd, 1) := by decide +kernel
theorem dX5_changeShare_13 : decode cX5_changeShare 13 = .ok (.sipush 1019, 3) := by decide +kernel
theorem dX5_changeShare_16 : decode cX5_changeShare 16 = .ok (.irem, 1) := by decide +kernel
theorem dX5_changeShare_17 : decode cX5_changeShare 17 = .ok (.iastore, 1) := by decide +kernel
theorem dX5_changeShare_18 : decode cX5_changeShare 18 = .ok (.aload_n 0, 1) := by decide +kernel
theorem dX5_changeShare_19 : decode cX5_changeShare 19 = .ok (.dup, 1) := by decide +kernel
theorem dX5_changeShare_20 : decode cX5_changeShare 20 = .ok (.getfield 46, 3) := by decide +kernel
theorem dX5_changeShare_23 : decode cX5_changeShare 23 = .ok (.iconst 1, 1) := by decide +kernel
theorem dX5_changeShare_24 : decode cX5_changeShare 24 = .ok (.iload_n 1, 1) := by decide +kernel
theorem dX5_changeShare_25 : decode cX5_changeShare 25 = .ok (.ishl, 1) := by decide +kernel
theorem dX5_changeShare_26 : decode cX5_changeShare 26 = .ok (.iconst (-1), 1) := by decide +kernel
theorem dX5_changeShare_27 : decode cX5_changeShare 27 = .ok (.ixor, 1) := by decide +kernel
theorem dX5_changeShare_28 : decode cX5_changeShare 28 = .ok (.iand, 1) := by decide +kernel
theorem dX5_changeShare_29 : decode cX5_changeShare 29 = .ok (.putfield 46, 3) := by decide +kernel
theorem dX5_changeShare_32 : decode cX5_changeShare 32 = .ok (.iconst 4, 1) := by decide +kernel
theorem dX5_changeShare_33 : decode cX5_changeShare 33 = .ok (.aload_n 0, 1) := by decide +kernel
theorem dX5_changeShare_34 : decode cX5_changeShare 34 = .ok (.getfield 9, 3) := by decide +kernel
theorem dX5_changeShare_37 : decode cX5_changeShare 37 = .ok (.iload_n 1, 1) := by decide +kernel
theorem dX5_changeShare_38 : decode cX5_changeShare 38 = .ok (.iaload, 1) := by decide +kernel
theorem dX5_changeShare_39 : decode cX5_changeShare 39 = .ok (.sipush 2039, 3) := by decide +kernel
theorem dX5_changeShare_42 : decode cX5_changeShare 42 = .ok (.invokestatic 55, 3) := by decide +kernel
theorem dX5_changeShare_45 : decode cX5_changeShare 45 = .ok (.aload_n 0, 1) := by decide +kernel
theorem dX5_changeShare_46 : decode cX5_changeShare 46 = .ok (.iload_n 1, 1) := by decide +kernel
theorem dX5_changeShare_47 : decode cX5_changeShare 47 = .ok (.iload_n 3, 1) := by decide +kernel
theorem dX5_changeShare_48 : decode cX5_changeShare 48 = .ok (.invokevirtual 72, 3) := by decide +kernel
theorem dX5_changeShare_51 : decode cX5_changeShare 51 = .ok (.if_icmp .ne 15, 3) := by decide +kernel
theorem dX5_changeShare_54 : decode cX5_changeShare 54 = .ok (.aload_n 0, 1) := by decide +kernel
theorem dX5_changeShare_55 : decode cX5_changeShare 55 = .ok (.dup, 1) := by decide +kernel
theorem dX5_changeShare_56 : decode cX5_changeShare 56 = .ok (.getfield 46, 3) := by decide +kernel
theorem dX5_changeShare_59 : decode cX5_changeShare 59 = .ok (.iconst 1, 1) := by decide +kernel
theorem dX5_changeShare_60 : decode cX5_changeShare 60 = .ok (.iload_n 1, 1) := by decide +kernel
theorem dX5_changeShare_61 : decode cX5_changeShare 61 = .ok (.ishl, 1) := by decide +kernel
theorem dX5_changeShare_62 : decode cX5_changeShare 62 = .ok (.ior, 1) := by decide +kernel
theorem dX5_changeShare_63 : decode cX5_changeShare 63 = .ok (.putfield 46, 3) := by decide +kernel
theorem dX5_changeShare_66 : decode cX5_changeShare 66 = .ok (.return_, 1) := by decide +kernel
theorem dX5_provenPower_0 : decode cX5_provenPower 0 = .ok (.iconst 1, 1) := by decide +kernel
theorem dX5_provenPower_1 : decode cX5_provenPower 1 = .ok (.istore_n 3, 1) := by decide +kernel
theorem dX5_provenPower_2 : decode cX5_provenPower 2 = .ok (.bipush 7, 2) := by decide +kernel
theorem dX5_provenPower_4 : decode cX5_provenPower 4 = .ok (.istore 4, 2) := by decide +kernel
theorem dX5_provenPower_6 : decode cX5_provenPower 6 = .ok (.iload 4, 2) := by decide +kernel
theorem dX5_provenPower_8 : decode cX5_provenPower 8 = .ok (.ifCond .lt 39, 3) := by decide +kernel
theorem dX5_provenPower_11 : decode cX5_provenPower 11 = .ok (.iload 4, 2) := by decide +kernel
theorem dX5_provenPower_13 : decode cX5_provenPower 13 = .ok (.iload_n 2, 1) := by decide +kernel
theorem dX5_provenPower_14 : decode cX5_provenPower 14 = .ok (.if_icmp .ge 27, 3) := by decide +kernel
theorem dX5_provenPower_17 : decode cX5_provenPower 17 = .ok (.iload_n 3, 1) := by decide +kernel
theorem dX5_provenPower_18 : decode cX5_provenPower 18 = .ok (.iload_n 1, 1) := by decide +kernel
theorem dX5_provenPower_19 : decode cX5_provenPower 19 = .ok (.iconst 1, 1) := by decide +kernel
theorem dX5_provenPower_20 : decode cX5_provenPower 20 = .ok (.iadd, 1) := by decide +kernel
theorem dX5_provenPower_21 : decode cX5_provenPower 21 = .ok (.sipush 2039, 3) := by decide +kernel
theorem dX5_provenPower_24 : decode cX5_provenPower 24 = .ok (.invokestatic 55, 3) := by decide +kernel
theorem dX5_provenPower_27 : decode cX5_provenPower 27 = .ok (.aload_n 0, 1) := by decide +kernel
theorem dX5_provenPower_28 : decode cX5_provenPower 28 = .ok (.getfield 15, 3) := by decide +kernel
theorem dX5_provenPower_31 : decode cX5_provenPower 31 = .ok (.iload 4, 2) := by decide +kernel
theorem dX5_provenPower_33 : decode cX5_provenPower 33 = .ok (.iaload, 1) := by decide +kernel
theorem dX5_provenPower_34 : decode cX5_provenPower 34 = .ok (.sipush 2039, 3) := by decide +kernel
theorem dX5_provenPower_37 : decode cX5_provenPower 37 = .ok (.invokestatic 75, 3) := by decide +kernel
theorem dX5_provenPower_40 : decode cX5_provenPower 40 = .ok (.istore_n 3, 1) := by decide +kernel
theorem dX5_provenPower_41 : decode cX5_provenPower 41 = .ok (.iinc 4 (-1), 3) := by decide +kernel
theorem dX5_provenPower_44 : decode cX5_provenPower 44 = .ok (.goto (-38), 3) := by decide +kernel
theorem dX5_provenPower_47 : decode cX5_provenPower 47 = .ok (.iload_n 3, 1) := by decide +kernel
theorem dX5_provenPower_48 : decode cX5_provenPower 48 = .ok (.ireturn, 1) := by decide +kernel
theorem dX5_valueAtZero_0 : decode cX5_valueAtZero 0 = .ok (.iconst 0, 1) := by decide +kernel
theorem dX5_valueAtZero_1 : decode cX5_valueAtZero 1 = .ok (.istore_n 2, 1) := by decide +kernel
theorem dX5_valueAtZero_2 : decode cX5_valueAtZero 2 = .ok (.iconst 0, 1) := by decide +kernel
theorem dX5_valueAtZero_3 : decode cX5_valueAtZero 3 = .ok (.istore_n 3, 1) := by decide +kernel
theorem dX5_valueAtZero_4 : decode cX5_valueAtZero 4 = .ok (.iload_n 3, 1) := by decide +kernel
theorem dX5_valueAtZero_5 : decode cX5_valueAtZero 5 = .ok (.bipush 8, 2) := by decide +kernel
theorem dX5_valueAtZero_7 : decode cX5_valueAtZero 7 = .ok (.if_icmp .ge 41, 3) := by decide +kernel
theorem dX5_valueAtZero_10 : decode cX5_valueAtZero 10 = .ok (.iload_n 1, 1) := by decide +kernel
theorem dX5_valueAtZero_11 : decode cX5_valueAtZero 11 = .ok (.iload_n 3, 1) := by decide +kernel
theorem dX5_valueAtZero_12 : decode cX5_valueAtZero 12 = .ok (.invokestatic 78, 3) := by decide +kernel
theorem dX5_valueAtZero_15 : decode cX5_valueAtZero 15 = .ok (.ifCond .eq 27, 3) := by decide +kernel
theorem dX5_valueAtZero_18 : decode cX5_valueAtZero 18 = .ok (.iload_n 2, 1) := by decide +kernel
theorem dX5_valueAtZero_19 : decode cX5_valueAtZero 19 = .ok (.aload_n 0, 1) := by decide +kernel
theorem dX5_valueAtZero_20 : decode cX5_valueAtZero 20 = .ok (.getfield 9, 3) := by decide +kernel
theorem dX5_valueAtZero_23 : decode cX5_valueAtZero 23 = .ok (.iload_n 3, 1) := by decide +kernel
theorem dX5_valueAtZero_24 : decode cX5_valueAtZero 24 = .ok (.iaload, 1) := by decide +kernel
theorem dX5_valueAtZero_25 : decode cX5_valueAtZero 25 = .ok (.iload_n 3, 1) := by decide +kernel
theorem dX5_valueAtZero_26 : decode cX5_valueAtZero 26 = .ok (.iload_n 1, 1) := by decide +kernel
theorem dX5_valueAtZero_27 : decode cX5_valueAtZero 27 = .ok (.invokestatic 82, 3) := by decide +kernel
theorem dX5_valueAtZero_30 : decode cX5_valueAtZero 30 = .ok (.sipush 1019, 3) := by decide +kernel
theorem dX5_valueAtZero_33 : decode cX5_valueAtZero 33 = .ok (.invokestatic 75, 3) := by decide +kernel
theorem dX5_valueAtZero_36 : decode cX5_valueAtZero 36 = .ok (.iadd, 1) := by decide +kernel
theorem dX5_valueAtZero_37 : decode cX5_valueAtZero 37 = .ok (.sipush 1019, 3) := by decide +kernel
theorem dX5_valueAtZero_40 : decode cX5_valueAtZero 40 = .ok (.irem, 1) := by decide +kernel
theorem dX5_valueAtZero_41 : decode cX5_valueAtZero 41 = .ok (.istore_n 2, 1) := by decide +kernel
theorem dX5_valueAtZero_42 : decode cX5_valueAtZero 42 = .ok (.iinc 3 1, 3) := by decide +kernel
theorem dX5_valueAtZero_45 : decode cX5_valueAtZero 45 = .ok (.goto (-41), 3) := by decide +kernel
theorem dX5_valueAtZero_48 : decode cX5_valueAtZero 48 = .ok (.iload_n 2, 1) := by decide +kernel
theorem dX5_valueAtZero_49 : decode cX5_valueAtZero 49 = .ok (.ireturn, 1) := by decide +kernel
theorem dX5_weight_0 : decode cX5_weight 0 = .ok (.iconst 1, 1) := by decide +kernel
theorem dX5_weight_1 : decode cX5_weight 1 = .ok (.istore_n 2, 1) := by decide +kernel
theorem dX5_weight_2 : decode cX5_weight 2 = .ok (.iconst 1, 1) := by decide +kernel
theorem dX5_weight_3 : decode cX5_weight 3 = .ok (.istore_n 3, 1) := by decide +kernel
theorem dX5_weight_4 : decode cX5_weight 4 = .ok (.iconst 0, 1) := by decide +kernel
theorem dX5_weight_5 : decode cX5_weight 5 = .ok (.istore 4, 2) := by decide +kernel
theorem dX5_weight_7 : decode cX5_weight 7 = .ok (.iload 4, 2) := by decide +kernel
theorem dX5_weight_9 : decode cX5_weight 9 = .ok (.bipush 8, 2) := by decide +kernel
theorem dX5_weight_11 : decode cX5_weight 11 = .ok (.if_icmp .ge 56, 3) := by decide +kernel
theorem dX5_weight_14 : decode cX5_weight 14 = .ok (.iload 4, 2) := by decide +kernel
theorem dX5_weight_16 : decode cX5_weight 16 = .ok (.iload_n 0, 1) := by decide +kernel
theorem dX5_weight_17 : decode cX5_weight 17 = .ok (.if_icmp .eq 44, 3) := by decide +kernel
theorem dX5_weight_20 : decode cX5_weight 20 = .ok (.iload_n 1, 1) := by decide +kernel
theorem dX5_weight_21 : decode cX5_weight 21 = .ok (.iload 4, 2) := by decide +kernel
theorem dX5_weight_23 : decode cX5_weight 23 = .ok (.invokestatic 78, 3) := by decide +kernel
theorem dX5_weight_26 : decode cX5_weight 26 = .ok (.ifCond .eq 35, 3) := by decide +kernel
theorem dX5_weight_29 : decode cX5_weight 29 = .ok (.iload_n 2, 1) := by decide +kernel
theorem dX5_weight_30 : decode cX5_weight 30 = .ok (.iload 4, 2) := by decide +kernel
theorem dX5_weight_32 : decode cX5_weight 32 = .ok (.iconst 1, 1) := by decide +kernel
theorem dX5_weight_33 : decode cX5_weight 33 = .ok (.iadd, 1) := by decide +kernel
theorem dX5_weight_34 : decode cX5_weight 34 = .ok (.sipush 1019, 3) := by decide +kernel
theorem dX5_weight_37 : decode cX5_weight 37 = .ok (.invokestatic 75, 3) := by decide +kernel
theorem dX5_weight_40 : decode cX5_weight 40 = .ok (.istore_n 2, 1) := by decide +kernel
theorem dX5_weight_41 : decode cX5_weight 41 = .ok (.iload_n 3, 1) := by decide +kernel
theorem dX5_weight_42 : decode cX5_weight 42 = .ok (.iload 4, 2) := by decide +kernel
theorem dX5_weight_44 : decode cX5_weight 44 = .ok (.iload_n 0, 1) := by decide +kernel
theorem dX5_weight_45 : decode cX5_weight 45 = .ok (.isub, 1) := by decide +kernel
theorem dX5_weight_46 : decode cX5_weight 46 = .ok (.sipush 1019, 3) := by decide +kernel
theorem dX5_weight_49 : decode cX5_weight 49 = .ok (.iadd, 1) := by decide +kernel
theorem dX5_weight_50 : decode cX5_weight 50 = .ok (.sipush 1019, 3) := by decide +kernel
theorem dX5_weight_53 : decode cX5_weight 53 = .ok (.irem, 1) := by decide +kernel
theorem dX5_weight_54 : decode cX5_weight 54 = .ok (.sipush 1019, 3) := by decide +kernel
theorem dX5_weight_57 : decode cX5_weight 57 = .ok (.invokestatic 75, 3) := by decide +kernel
theorem dX5_weight_60 : decode cX5_weight 60 = .ok (.istore_n 3, 1) := by decide +kernel
theorem dX5_weight_61 : decode cX5_weight 61 = .ok (.iinc 4 1, 3) := by decide +kernel
theorem dX5_weight_64 : decode cX5_weight 64 = .ok (.goto (-57), 3) := by decide +kernel
theorem dX5_weight_67 : decode cX5_weight 67 = .ok (.iload_n 2, 1) := by decide +kernel
theorem dX5_weight_68 : decode cX5_weight 68 = .ok (.iload_n 3, 1) := by decide +kernel
theorem dX5_weight_69 : decode cX5_weight 69 = .ok (.sipush 1017, 3) := by decide +kernel
theorem dX5_weight_72 : decode cX5_weight 72 = .ok (.sipush 1019, 3) := by decide +kernel
theorem dX5_weight_75 : decode cX5_weight 75 = .ok (.invokestatic 55, 3) := by decide +kernel
theorem dX5_weight_78 : decode cX5_weight 78 = .ok (.sipush 1019, 3) := by decide +kernel
theorem dX5_weight_81 : decode cX5_weight 81 = .ok (.invokestatic 75, 3) := by decide +kernel
theorem dX5_weight_84 : decode cX5_weight 84 = .ok (.ireturn, 1) := by decide +kernel
theorem dX6_value_0 : decode cX6_value 0 = .ok (.iload_n 0, 1) := by decide +kernel
theorem dX6_value_1 : decode cX6_value 1 = .ok (.ldc 9, 2) := by decide +kernel
theorem dX6_value_3 : decode cX6_value 3 = .ok (.irem, 1) := by decide +kernel
theorem dX6_value_4 : decode cX6_value 4 = .ok (.istore_n 2, 1) := by decide +kernel
theorem dX6_value_5 : decode cX6_value 5 = .ok (.iconst 0, 1) := by decide +kernel
theorem dX6_value_6 : decode cX6_value 6 = .ok (.istore_n 3, 1) := by decide +kernel
theorem dX6_value_7 : decode cX6_value 7 = .ok (.iload_n 3, 1) := by decide +kernel
theorem dX6_value_8 : decode cX6_value 8 = .ok (.iload_n 1, 1) := by decide +kernel
theorem dX6_value_9 : decode cX6_value 9 = .ok (.if_icmp .ge 17, 3) := by decide +kernel
theorem dX6_value_12 : decode cX6_value 12 = .ok (.iload_n 2, 1) := by decide +kernel
theorem dX6_value_13 : decode cX6_value 13 = .ok (.iload_n 2, 1) := by decide +kernel
theorem dX6_value_14 : decode cX6_value 14 = .ok (.ldc 9, 2) := by decide +kernel
theorem dX6_value_16 : decode cX6_value 16 = .ok (.invokestatic 10, 3) := by decide +kernel
theorem dX6_value_19 : decode cX6_value 19 = .ok (.istore_n 2, 1) := by decide +kernel
theorem dX6_value_20 : decode cX6_value 20 = .ok (.iinc 3 1, 3) := by decide +kernel
theorem dX6_value_23 : decode cX6_value 23 = .ok (.goto (-16), 3) := by decide +kernel
theorem dX6_value_26 : decode cX6_value 26 = .ok (.iload_n 2, 1) := by decide +kernel
theorem dX6_value_27 : decode cX6_value 27 = .ok (.ireturn, 1) := by decide +kernel
theorem dX6_valueByFactors_0 : decode cX6_valueByFactors 0 = .ok (.iconst 2, 1) := by decide +kernel
theorem dX6_valueByFactors_1 : decode cX6_valueByFactors 1 = .ok (.iload_n 1, 1) := by decide +kernel
theorem dX6_valueByFactors_2 : decode cX6_valueByFactors 2 = .ok (.ldc 14, 2) := by decide +kernel
theorem dX6_valueByFactors_4 : decode cX6_valueByFactors 4 = .ok (.invokestatic 15, 3) := by decide +kernel
theorem dX6_valueByFactors_7 : decode cX6_valueByFactors 7 = .ok (.istore_n 2, 1) := by decide +kernel
theorem dX6_valueByFactors_8 : decode cX6_valueByFactors 8 = .ok (.iload_n 0, 1) := by decide +kernel
theorem dX6_valueByFactors_9 : decode cX6_valueByFactors 9 = .ok (.iload_n 2, 1) := by decide +kernel
theorem dX6_valueByFactors_10 : decode cX6_valueByFactors 10 = .ok (.ldc 9, 2) := by decide +kernel
theorem dX6_valueByFactors_12 : decode cX6_valueByFactors 12 = .ok (.invokestatic 15, 3) := by decide +kernel
theorem dX6_valueByFactors_15 : decode cX6_valueByFactors 15 = .ok (.ireturn, 1) := by decide +kernel
theorem dX6_challenge_0 : decode cX6_challenge 0 = .ok (.sipush 257, 3) := by decide +kernel
theorem dX6_challenge_3 : decode cX6_challenge 3 = .ok (.bipush 19, 2) := by decide +kernel
theorem dX6_challenge_5 : decode cX6_challenge 5 = .ok (.iload_n 0, 1) := by decide +kernel
theorem dX6_challenge_6 : decode cX6_challenge 6 = .ok (.invokestatic 18, 3) := by decide +kernel
theorem dX6_challenge_9 : decode cX6_challenge 9 = .ok (.iload_n 1, 1) := by decide +kernel
theorem dX6_challenge_10 : decode cX6_challenge 10 = .ok (.invokestatic 18, 3) := by decide +kernel
theorem dX6_challenge_13 : decode cX6_challenge 13 = .ok (.bipush 22, 2) := by decide +kernel
theorem dX6_challenge_15 : decode cX6_challenge 15 = .ok (.iushr, 1) := by decide +kernel
theorem dX6_challenge_16 : decode cX6_challenge 16 = .ok (.iadd, 1) := by decide +kernel
theorem dX6_challenge_17 : decode cX6_challenge 17 = .ok (.invokestatic 22, 3) := by decide +kernel
theorem dX6_challenge_20 : decode cX6_challenge 20 = .ok (.ireturn, 1) := by decide +kernel
theorem dX6_evidence_0 : decode cX6_evidence 0 = .ok (.iconst 1, 1) := by decide +kernel
theorem dX6_evidence_1 : decode cX6_evidence 1 = .ok (.istore_n 3, 1) := by decide +kernel
theorem dX6_evidence_2 : decode cX6_evidence 2 = .ok (.iconst 1, 1) := by decide +kernel
theorem dX6_evidence_3 : decode cX6_evidence 3 = .ok (.istore 4, 2) := by decide +kernel
theorem dX6_evidence_5 : decode cX6_evidence 5 = .ok (.iconst 0, 1) := by decide +kernel
theorem dX6_evidence_6 : decode cX6_evidence 6 = .ok (.istore 5, 2) := by decide +kernel
theorem dX6_evidence_8 : decode cX6_evidence 8 = .ok (.iload 5, 2) := by decide +kernel
theorem dX6_evidence_10 : decode cX6_evidence 10 = .ok (.iload_n 1, 1) := by decide +kernel
theorem dX6_evidence_11 : decode cX6_evidence 11 = .ok (.if_icmp .ge 43, 3) := by decide +kernel
theorem dX6_evidence_14 : decode cX6_evidence 14 = .ok (.iload_n 3, 1) := by decide +kernel
theorem dX6_evidence_15 : decode cX6_evidence 15 = .ok (.iload_n 3, 1) := by decide +kernel
theorem dX6_evidence_16 : decode cX6_evidence 16 = .ok (.ldc 9, 2) := by decide +kernel
theorem dX6_evidence_18 : decode cX6_evidence 18 = .ok (.invokestatic 10, 3) := by decide +kernel
theorem dX6_evidence_21 : decode cX6_evidence 21 = .ok (.istore_n 3, 1) := by decide +kernel
theorem dX6_evidence_22 : decode cX6_evidence 22 = .ok (.iconst 2, 1) := by decide +kernel
theorem dX6_evidence_23 : decode cX6_evidence 23 = .ok (.iload 4, 2) := by decide +kernel
theorem dX6_evidence_25 : decode cX6_evidence 25 = .ok (.imul, 1) := by decide +kernel
theorem dX6_evidence_26 : decode cX6_evidence 26 = .ok (.istore 4, 2) := by decide +kernel
theorem dX6_evidence_28 : decode cX6_evidence 28 = .ok (.iload 4, 2) := by decide +kernel
theorem dX6_evidence_30 : decode cX6_evidence 30 = .ok (.iload_n 2, 1) := by decide +kernel
theorem dX6_evidence_31 : decode cX6_evidence 31 = .ok (.if_icmp .lt 17, 3) := by decide +kernel
theorem dX6_evidence_34 : decode cX6_evidence 34 = .ok (.iload 4, 2) := by decide +kernel
theorem dX6_evidence_36 : decode cX6_evidence 36 = .ok (.iload_n 2, 1) := by decide +kernel
theorem dX6_evidence_37 : decode cX6_evidence 37 = .ok (.isub, 1) := by decide +kernel
theorem dX6_evidence_38 : decode cX6_evidence 38 = .ok (.istore 4, 2) := by decide +kernel
theorem dX6_evidence_40 : decode cX6_evidence 40 = .ok (.iload_n 3, 1) := by decide +kernel
theorem dX6_evidence_41 : decode cX6_evidence 41 = .ok (.iload_n 0, 1) := by decide +kernel
theorem dX6_evidence_42 : decode cX6_evidence 42 = .ok (.ldc 9, 2) := by decide +kernel
theorem dX6_evidence_44 : decode cX6_evidence 44 = .ok (.invokestatic 10, 3) := by decide +kernel
theorem dX6_evidence_47 : decode cX6_evidence 47 = .ok (.istore_n 3, 1) := by decide +kernel
theorem dX6_evidence_48 : decode cX6_evidence 48 = .ok (.iinc 5 1, 3) := by decide +kernel
theorem dX6_evidence_51 : decode cX6_evidence 51 = .ok (.goto (-43), 3) := by decide +kernel
theorem dX6_evidence_54 : decode cX6_evidence 54 = .ok (.iload_n 3, 1) := by decide +kernel
theorem dX6_evidence_55 : decode cX6_evidence 55 = .ok (.ireturn, 1) := by decide +kernel
theorem dX6_isProven_0 : decode cX6_isProven 0 = .ok (.iload_n 0, 1) := by decide +kernel
theorem dX6_isProven_1 : decode cX6_isProven 1 = .ok (.iload_n 2, 1) := by decide +kernel
theorem dX6_isProven_2 : decode cX6_isProven 2 = .ok (.invokestatic 28, 3) := by decide +kernel
theorem dX6_isProven_5 : decode cX6_isProven 5 = .ok (.istore 4, 2) := by decide +kernel
theorem dX6_isProven_7 : decode cX6_isProven 7 = .ok (.iconst 2, 1) := by decide +kernel
theorem dX6_isProven_8 : decode cX6_isProven 8 = .ok (.iload_n 1, 1) := by decide +kernel
theorem dX6_isProven_9 : decode cX6_isProven 9 = .ok (.iload 4, 2) := by decide +kernel
theorem dX6_isProven_11 : decode cX6_isProven 11 = .ok (.invokestatic 15, 3) := by decide +kernel
theorem dX6_isProven_14 : decode cX6_isProven 14 = .ok (.istore 5, 2) := by decide +kernel
theorem dX6_isProven_16 : decode cX6_isProven 16 = .ok (.iload_n 3, 1) := by decide +kernel
theorem dX6_isProven_17 : decode cX6_isProven 17 = .ok (.iload 4, 2) := by decide +kernel
theorem dX6_isProven_19 : decode cX6_isProven 19 = .ok (.ldc 9, 2) := by decide +kernel
theorem dX6_isProven_21 : decode cX6_isProven 21 = .ok (.invokestatic 15, 3) := by decide +kernel
theorem dX6_isProven_24 : decode cX6_isProven 24 = .ok (.iload_n 0, 1) := by decide +kernel
theorem dX6_isProven_25 : decode cX6_isProven 25 = .ok (.iload 5, 2) := by decide +kernel
theorem dX6_isProven_27 : decode cX6_isProven 27 = .ok (.ldc 9, 2) := by decide +kernel
theorem dX6_isProven_29 : decode cX6_isProven 29 = .ok (.invokestatic 15, 3) := by decide +kernel
theorem dX6_isProven_32 : decode cX6_isProven 32 = .ok (.ldc 9, 2) := by decide +kernel
theorem dX6_isProven_34 : decode cX6_isProven 34 = .ok (.invokestatic 10, 3) := by decide +kernel
theorem dX6_isProven_37 : decode cX6_isProven 37 = .ok (.iload_n 2, 1) := by decide +kernel
theorem dX6_isProven_38 : decode cX6_isProven 38 = .ok (.if_icmp .ne 7, 3) := by decide +kernel
theorem dX6_isProven_41 : decode cX6_isProven 41 = .ok (.iconst 1, 1) := by decide +kernel
theorem dX6_isProven_42 : decode cX6_isProven 42 = .ok (.goto 4, 3) := by decide +kernel
theorem dX6_isProven_45 : decode cX6_isProven 45 = .ok (.iconst 0, 1) := by decide +kernel
theorem dX6_isProven_46 : decode cX6_isProven 46 = .ok (.ireturn, 1) := by decide +kernel
theorem dX6_leastPrime_0 : decode cX6_leastPrime 0 = .ok (.iload_n 0, 1) := by decide +kernel
theorem dX6_leastPrime_1 : decode cX6_leastPrime 1 = .ok (.istore_n 1, 1) := by decide +kernel
theorem dX6_leastPrime_2 : decode cX6_leastPrime 2 = .ok (.iload_n 1, 1) := by decide +kernel
theorem dX6_leastPrime_3 : decode cX6_leastPrime 3 = .ok (.iconst 2, 1) := by decide +kernel
theorem dX6_leastPrime_4 : decode cX6_leastPrime 4 = .ok (.iload_n 0, 1) := by decide +kernel
theorem dX6_leastPrime_5 : decode cX6_leastPrime 5 = .ok (.imul, 1) := by decide +kernel
theorem dX6_leastPrime_6 : decode cX6_leastPrime 6 = .ok (.if_icmp .ge 18, 3) := by decide +kernel
theorem dX6_leastPrime_9 : decode cX6_leastPrime 9 = .ok (.iload_n 1, 1) := by decide +kernel
theorem dX6_leastPrime_10 : decode cX6_leastPrime 10 = .ok (.invokestatic 31, 3) := by decide +kernel
theorem dX6_leastPrime_13 : decode cX6_leastPrime 13 = .ok (.ifCond .eq 5, 3) := by decide +kernel
theorem dX6_leastPrime_16 : decode cX6_leastPrime 16 = .ok (.iload_n 1, 1) := by decide +kernel
theorem dX6_leastPrime_17 : decode cX6_leastPrime 17 = .ok (.ireturn, 1) := by decide +kernel
theorem dX6_leastPrime_18 : decode cX6_leastPrime 18 = .ok (.iinc 1 1, 3) := by decide +kernel
theorem dX6_leastPrime_21 : decode cX6_leastPrime 21 = .ok (.goto (-19), 3) := by decide +kernel
theorem dX6_leastPrime_24 : decode cX6_leastPrime 24 = .ok (.iload_n 0, 1) := by decide +kernel
theorem dX6_leastPrime_25 : decode cX6_leastPrime 25 = .ok (.ireturn, 1) := by decide +kernel
theorem dX6_isPrime_0 : decode cX6_isPrime 0 = .ok (.iconst 2, 1) := by decide +kernel
theorem dX6_isPrime_1 : decode cX6_isPrime 1 = .ok (.istore_n 1, 1) := by decide +kernel
theorem dX6_isPrime_2 : decode cX6_isPrime 2 = .ok (.iload_n 1, 1) := by decide +kernel
theorem dX6_isPrime_3 : decode cX6_isPrime 3 = .ok (.iload_n 1, 1) := by decide +kernel
theorem dX6_isPrime_4 : decode cX6_isPrime 4 = .ok (.imul, 1) := by decide +kernel
theorem dX6_isPrime_5 : decode cX6_isPrime 5 = .ok (.iload_n 0, 1) := by decide +kernel
theorem dX6_isPrime_6 : decode cX6_isPrime 6 = .ok (.if_icmp .gt 17, 3) := by decide +kernel
theorem dX6_isPrime_9 : decode cX6_isPrime 9 = .ok (.iload_n 0, 1) := by decide +kernel
theorem dX6_isPrime_10 : decode cX6_isPrime 10 = .ok (.iload_n 1, 1) := by decide +kernel
theorem dX6_isPrime_11 : decode cX6_isPrime 11 = .ok (.irem, 1) := by decide +kernel
theorem dX6_isPrime_12 : decode cX6_isPrime 12 = .ok (.ifCond .ne 5, 3) := by decide +kernel
theorem dX6_isPrime_15 : decode cX6_isPrime 15 = .ok (.iconst 0, 1) := by decide +kernel
theorem dX6_isPrime_16 : decode cX6_isPrime 16 = .ok (.ireturn, 1) := by decide +kernel
theorem dX6_isPrime_17 : decode cX6_isPrime 17 = .ok (.iinc 1 1, 3) := by decide +kernel
theorem dX6_isPrime_20 : decode cX6_isPrime 20 = .ok (.goto (-18), 3) := by decide +kernel
theorem dX6_isPrime_23 : decode cX6_isPrime 23 = .ok (.iload_n 0, 1) := by decide +kernel
theorem dX6_isPrime_24 : decode cX6_isPrime 24 = .ok (.iconst 2, 1) := by decide +kernel
theorem dX6_isPrime_25 : decode cX6_isPrime 25 = .ok (.if_icmp .lt 7, 3) := by decide +kernel
theorem dX6_isPrime_28 : decode cX6_isPrime 28 = .ok (.iconst 1, 1) := by decide +kernel
theorem dX6_isPrime_29 : decode cX6_isPrime 29 = .ok (.goto 4, 3) := by decide +kernel
theorem dX6_isPrime_32 : decode cX6_isPrime 32 = .ok (.iconst 0, 1) := by decide +kernel
theorem dX6_isPrime_33 : decode cX6_isPrime 33 = .ok (.ireturn, 1) := by decide +kernel
theorem dX7_init_0 : decode cX7_init 0 = .ok (.aload_n 0, 1) := by decide +kernel
theorem dX7_init_1 : decode cX7_init 1 = .ok (.invokespecial 3, 3) := by decide +kernel
theorem dX7_init_4 : decode cX7_init 4 = .ok (.aload_n 0, 1) := by decide +kernel
theorem dX7_init_5 : decode cX7_init 5 = .ok (.new 9, 3) := by decide +kernel
theorem dX7_init_8 : decode cX7_init 8 = .ok (.dup, 1) := by decide +kernel
theorem dX7_init_9 : decode cX7_init 9 = .ok (.invokespecial 11, 3) := by decide +kernel
theorem dX7_init_12 : decode cX7_init 12 = .ok (.putfield 12, 3) := by decide +kernel
theorem dX7_init_15 : decode cX7_init 15 = .ok (.aload_n 0, 1) := by decide +kernel
theorem dX7_init_16 : decode cX7_init 16 = .ok (.new 16, 3) := by decide +kernel
theorem dX7_init_19 : decode cX7_init 19 = .ok (.dup, 1) := by decide +kernel
theorem dX7_init_20 : decode cX7_init 20 = .ok (.invokespecial 18, 3) := by decide +kernel
theorem dX7_init_23 : decode cX7_init 23 = .ok (.putfield 19, 3) := by decide +kernel
theorem dX7_init_26 : decode cX7_init 26 = .ok (.aload_n 0, 1) := by decide +kernel
theorem dX7_init_27 : decode cX7_init 27 = .ok (.new 23, 3) := by decide +kernel
theorem dX7_init_30 : decode cX7_init 30 = .ok (.dup, 1) := by decide +kernel
theorem dX7_init_31 : decode cX7_init 31 = .ok (.invokespecial 25, 3) := by decide +kernel
theorem dX7_init_34 : decode cX7_init 34 = .ok (.putfield 26, 3) := by decide +kernel
theorem dX7_init_37 : decode cX7_init 37 = .ok (.return_, 1) := by decide +kernel
theorem dX7_addParticipant_0 : decode cX7_addParticipant 0 = .ok (.iload_n 1, 1) := by decide +kernel
theorem dX7_addParticipant_1 : decode cX7_addParticipant 1 = .ok (.iconst 0, 1) := by decide +kernel
theorem dX7_addParticipant_2 : decode cX7_addParticipant 2 = .ok (.ldc 30, 2) := by decide +kernel
theorem dX7_addParticipant_4 : decode cX7_addParticipant 4 = .ok (.invokestatic 31, 3) := by decide +kernel
theorem dX7_addParticipant_7 : decode cX7_addParticipant 7 = .ok (.ifCond .ne 5, 3) := by decide +kernel
theorem dX7_addParticipant_10 : decode cX7_addParticipant 10 = .ok (.iconst (-1), 1) := by decide +kernel
theorem dX7_addParticipant_11 : decode cX7_addParticipant 11 = .ok (.ireturn, 1) := by decide +kernel
theorem dX7_addParticipant_12 : decode cX7_addParticipant 12 = .ok (.aload_n 0, 1) := by decide +kernel
theorem dX7_addParticipant_13 : decode cX7_addParticipant 13 = .ok (.getfield 12, 3) := by decide +kernel
theorem dX7_addParticipant_16 : decode cX7_addParticipant 16 = .ok (.getfield 35, 3) := by decide +kernel
theorem dX7_addParticipant_19 : decode cX7_addParticipant 19 = .ok (.ifCond .eq 6, 3) := by decide +kernel
theorem dX7_addParticipant_22 : decode cX7_addParticipant 22 = .ok (.bipush (-2), 2) := by decide +kernel
theorem dX7_addParticipant_24 : decode cX7_addParticipant 24 = .ok (.ireturn, 1) := by decide +kernel
theorem dX7_addParticipant_25 : decode cX7_addParticipant 25 = .ok (.aload_n 0, 1) := by decide +kernel
theorem dX7_addParticipant_26 : decode cX7_addParticipant 26 = .ok (.getfield 12, 3) := by decide +kernel
theorem dX7_addParticipant_29 : decode cX7_addParticipant 29 = .ok (.getfield 39, 3) := by decide +kernel
theorem dX7_addParticipant_32 : decode cX7_addParticipant 32 = .ok (.bipush 8, 2) := by decide +kernel
theorem dX7_addParticipant_34 : decode cX7_addParticipant 34 = .ok (.if_icmp .lt 6, 3) := by decide +kernel
theorem dX7_addParticipant_37 : decode cX7_addParticipant 37 = .ok (.bipush (-3), 2) := by decide +kernel
theorem dX7_addParticipant_39 : decode cX7_addParticipant 39 = .ok (.ireturn, 1) := by decide +kernel
theorem dX7_addParticipant_40 : decode cX7_addParticipant 40 = .ok (.aload_n 0, 1) := by decide +kernel
theorem dX7_addParticipant_41 : decode cX7_addParticipant 41 = .ok (.getfield 19, 3) := by decide +kernel
theorem dX7_addParticipant_44 : decode cX7_addParticipant 44 = .ok (.aload_n 0, 1) := by decide +kernel
theorem dX7_addParticipant_45 : decode cX7_addParticipant 45 = .ok (.getfield 12, 3) := by decide +kernel
theorem dX7_addParticipant_48 : decode cX7_addParticipant 48 = .ok (.invokevirtual 42, 3) := by decide +kernel
theorem dX7_addParticipant_51 : decode cX7_addParticipant 51 = .ok (.aload_n 0, 1) := by decide +kernel
theorem dX7_addParticipant_52 : decode cX7_addParticipant 52 = .ok (.getfield 12, 3) := by decide +kernel
theorem dX7_addParticipant_55 : decode cX7_addParticipant 55 = .ok (.iload_n 1, 1) := by decide +kernel
theorem dX7_addParticipant_56 : decode cX7_addParticipant 56 = .ok (.invokevirtual 46, 3) := by decide +kernel
theorem dX7_addParticipant_59 : decode cX7_addParticipant 59 = .ok (.ireturn, 1) := by decide +kernel
theorem dX7_behave_0 : decode cX7_behave 0 = .ok (.aload_n 0, 1) := by decide +kernel
theorem dX7_behave_1 : decode cX7_behave 1 = .ok (.getfield 12, 3) := by decide +kernel
theorem dX7_behave_4 : decode cX7_behave 4 = .ok (.iload_n 1, 1) := by decide +kernel
theorem dX7_behave_5 : decode cX7_behave 5 = .ok (.invokevirtual 50, 3) := by decide +kernel
theorem dX7_behave_8 : decode cX7_behave 8 = .ok (.ifCond .eq 12, 3) := by decide +kernel
theorem dX7_behave_11 : decode cX7_behave 11 = .ok (.iload_n 2, 1) := by decide +kernel
theorem dX7_behave_12 : decode cX7_behave 12 = .ok (.iconst 0, 1) := by decide +kernel
theorem dX7_behave_13 : decode cX7_behave 13 = .ok (.iconst 3, 1) := by decide +kernel
theorem dX7_behave_14 : decode cX7_behave 14 = .ok (.invokestatic 31, 3) := by decide +kernel
theorem dX7_behave_17 : decode cX7_behave 17 = .ok (.ifCond .ne 5, 3) := by decide +kernel
theorem dX7_behave_20 : decode cX7_behave 20 = .ok (.iconst (-1), 1) := by decide +kernel
theorem dX7_behave_21 : decode cX7_behave 21 = .ok (.ireturn, 1) := by decide +kernel
theorem dX7_behave_22 : decode cX7_behave 22 = .ok (.aload_n 0, 1) := by decide +kernel
theorem dX7_behave_23 : decode cX7_behave 23 = .ok (.getfield 19, 3) := by decide +kernel
theorem dX7_behave_26 : decode cX7_behave 26 = .ok (.aload_n 0, 1) := by decide +kernel
theorem dX7_behave_27 : decode cX7_behave 27 = .ok (.getfield 12, 3) := by decide +kernel
theorem dX7_behave_30 : decode cX7_behave 30 = .ok (.invokevirtual 42, 3) := by decide +kernel
theorem dX7_behave_33 : decode cX7_behave 33 = .ok (.aload_n 0, 1) := by decide +kernel
theorem dX7_behave_34 : decode cX7_behave 34 = .ok (.getfield 12, 3) := by decide +kernel
theorem dX7_behave_37 : decode cX7_behave 37 = .ok (.getfield 54, 3) := by decide +kernel
theorem dX7_behave_40 : decode cX7_behave 40 = .ok (.iload_n 1, 1) := by decide +kernel
theorem dX7_behave_41 : decode cX7_behave 41 = .ok (.aaload, 1) := by decide +kernel
theorem dX7_behave_42 : decode cX7_behave 42 = .ok (.getfield 58, 3) := by decide +kernel
theorem dX7_behave_45 : decode cX7_behave 45 = .ok (.istore_n 3, 1) := by decide +kernel
theorem dX7_behave_46 : decode cX7_behave 46 = .ok (.aload_n 0, 1) := by decide +kernel
theorem dX7_behave_47 : decode cX7_behave 47 = .ok (.getfield 12, 3) := by decide +kernel
theorem dX7_behave_50 : decode cX7_behave 50 = .ok (.getfield 54, 3) := by decide +kernel
theorem dX7_behave_53 : decode cX7_behave 53 = .ok (.iload_n 1, 1) := by decide +kernel
theorem dX7_behave_54 : decode cX7_behave 54 = .ok (.aaload, 1) := by decide +kernel
theorem dX7_behave_55 : decode cX7_behave 55 = .ok (.iload_n 2, 1) := by decide +kernel
theorem dX7_behave_56 : decode cX7_behave 56 = .ok (.putfield 58, 3) := by decide +kernel
theorem dX7_behave_59 : decode cX7_behave 59 = .ok (.iload_n 3, 1) := by decide +kernel
theorem dX7_behave_60 : decode cX7_behave 60 = .ok (.ireturn, 1) := by decide +kernel
theorem dX7_setMethod_0 : decode cX7_setMethod 0 = .ok (.aload_n 0, 1) := by decide +kernel
theorem dX7_setMethod_1 : decode cX7_setMethod 1 = .ok (.iload_n 1, 1) := by decide +kernel
theorem dX7_setMethod_2 : decode cX7_setMethod 2 = .ok (.iconst 0, 1) := by decide +kernel
theorem dX7_setMethod_3 : decode cX7_setMethod 3 = .ok (.iconst 2, 1) := by decide +kernel
theorem dX7_setMethod_4 : decode cX7_setMethod 4 = .ok (.invokevirtual 63, 3) := by decide +kernel
theorem dX7_setMethod_7 : decode cX7_setMethod 7 = .ok (.istore_n 2, 1) := by decide +kernel
theorem dX7_setMethod_8 : decode cX7_setMethod 8 = .ok (.iload_n 2, 1) := by decide +kernel
theorem dX7_setMethod_9 : decode cX7_setMethod 9 = .ok (.ifCond .ge 5, 3) := by decide +kernel
theorem dX7_setMethod_12 : decode cX7_setMethod 12 = .ok (.iload_n 2, 1) := by decide +kernel
theorem dX7_setMethod_13 : decode cX7_setMethod 13 = .ok (.ireturn, 1) := by decide +kernel
theorem dX7_setMethod_14 : decode cX7_setMethod 14 = .ok (.aload_n 0, 1) := by decide +kernel
theorem dX7_setMethod_15 : decode cX7_setMethod 15 = .ok (.getfield 19, 3) := by decide +kernel
theorem dX7_setMethod_18 : decode cX7_setMethod 18 = .ok (.aload_n 0, 1) := by decide +kernel
theorem dX7_setMethod_19 : decode cX7_setMethod 19 = .ok (.getfield 12, 3) := by decide +kernel
theorem dX7_setMethod_22 : decode cX7_setMethod 22 = .ok (.invokevirtual 42, 3) := by decide +kernel
theorem dX7_setMethod_25 : decode cX7_setMethod 25 = .ok (.aload_n 0, 1) := by decide +kernel
theorem dX7_setMethod_26 : decode cX7_setMethod 26 = .ok (.getfield 12, 3) := by decide +kernel
theorem dX7_setMethod_29 : decode cX7_setMethod 29 = .ok (.getfield 67, 3) := by decide +kernel
theorem dX7_setMethod_32 : decode cX7_setMethod 32 = .ok (.istore_n 3, 1) := by decide +kernel
theorem dX7_setMethod_33 : decode cX7_setMethod 33 = .ok (.aload_n 0, 1) := by decide +kernel
theorem dX7_setMethod_34 : decode cX7_setMethod 34 = .ok (.getfield 12, 3) := by decide +kernel
theorem dX7_setMethod_37 : decode cX7_setMethod 37 = .ok (.iload_n 1, 1) := by decide +kernel
theorem dX7_setMethod_38 : decode cX7_setMethod 38 = .ok (.putfield 67, 3) := by decide +kernel
theorem dX7_setMethod_41 : decode cX7_setMethod 41 = .ok (.iload_n 3, 1) := by decide +kernel
theorem dX7_setMethod_42 : decode cX7_setMethod 42 = .ok (.ireturn, 1) := by decide +kernel
theorem dX7_setThreshold_0 : decode cX7_setThreshold 0 = .ok (.aload_n 0, 1) := by decide +kernel
theorem dX7_setThreshold_1 : decode cX7_setThreshold 1 = .ok (.iload_n 1, 1) := by decide +kernel
theorem dX7_setThreshold_2 : decode cX7_setThreshold 2 = .ok (.iconst 1, 1) := by decide +kernel
theorem dX7_setThreshold_3 : decode cX7_setThreshold 3 = .ok (.bipush 8, 2) := by decide +kernel
theorem dX7_setThreshold_5 : decode cX7_setThreshold 5 = .ok (.invokevirtual 63, 3) := by decide +kernel
theorem dX7_setThreshold_8 : decode cX7_setThreshold 8 = .ok (.istore_n 2, 1) := by decide +kernel
theorem dX7_setThreshold_9 : decode cX7_setThreshold 9 = .ok (.iload_n 2, 1) := by decide +kernel
theorem dX7_setThreshold_10 : decode cX7_setThreshold 10 = .ok (.ifCond .ge 5, 3) := by decide +kernel
theorem dX7_setThreshold_13 : decode cX7_setThreshold 13 = .ok (.iload_n 2, 1) := by decide +kernel
theorem dX7_setThreshold_14 : decode cX7_setThreshold 14 = .ok (.ireturn, 1) := by decide +kernel
theorem dX7_setThreshold_15 : decode cX7_setThreshold 15 = .ok (.aload_n 0, 1) := by decide +kernel
theorem dX7_setThreshold_16 : decode cX7_setThreshold 16 = .ok (.getfield 19, 3) := by decide +kernel
theorem dX7_setThreshold_19 : decode cX7_setThreshold 19 = .ok (.aload_n 0, 1) := by decide +kernel
theorem dX7_setThreshold_20 : decode cX7_setThreshold 20 = .ok (.getfield 12, 3) := by decide +kernel
theorem dX7_setThreshold_23 : decode cX7_setThreshold 23 = .ok (.invokevirtual 42, 3) := by decide +kernel
theorem dX7_setThreshold_26 : decode cX7_setThreshold 26 = .ok (.aload_n 0, 1) := by decide +kernel
theorem dX7_setThreshold_27 : decode cX7_setThreshold 27 = .ok (.getfield 12, 3) := by decide +kernel
theorem dX7_setThreshold_30 : decode cX7_setThreshold 30 = .ok (.getfield 70, 3) := by decide +kernel
theorem dX7_setThreshold_33 : decode cX7_setThreshold 33 = .ok (.istore_n 3, 1) := by decide +kernel
theorem dX7_setThreshold_34 : decode cX7_setThreshold 34 = .ok (.aload_n 0, 1) := by decide +kernel
theorem dX7_setThreshold_35 : decode cX7_setThreshold 35 = .ok (.getfield 12, 3) := by decide +kernel
theorem dX7_setThreshold_38 : decode cX7_setThreshold 38 = .ok (.iload_n 1, 1) := by decide +kernel
theorem dX7_setThreshold_39 : decode cX7_setThreshold 39 = .ok (.putfield 70, 3) := by decide +kernel
theorem dX7_setThreshold_42 : decode cX7_setThreshold 42 = .ok (.iload_n 3, 1) := by decide +kernel
theorem dX7_setThreshold_43 : decode cX7_setThreshold 43 = .ok (.ireturn, 1) := by decide +kernel
theorem dX7_setFine_0 : decode cX7_setFine 0 = .ok (.aload_n 0, 1) := by decide +kernel
theorem dX7_setFine_1 : decode cX7_setFine 1 = .ok (.iload_n 1, 1) := by decide +kernel
theorem dX7_setFine_2 : decode cX7_setFine 2 = .ok (.iconst 0, 1) := by decide +kernel
theorem dX7_setFine_3 : decode cX7_setFine 3 = .ok (.sipush 1000, 3) := by decide +kernel
theorem dX7_setFine_6 : decode cX7_setFine 6 = .ok (.invokevirtual 63, 3) := by decide +kernel
theorem dX7_setFine_9 : decode cX7_setFine 9 = .ok (.istore_n 2, 1) := by decide +kernel
theorem dX7_setFine_10 : decode cX7_setFine 10 = .ok (.iload_n 2, 1) := by decide +kernel
theorem dX7_setFine_11 : decode cX7_setFine 11 = .ok (.ifCond .ge 5, 3) := by decide +kernel
theorem dX7_setFine_14 : decode cX7_setFine 14 = .ok (.iload_n 2, 1) := by decide +kernel
theorem dX7_setFine_15 : decode cX7_setFine 15 = .ok (.ireturn, 1) := by decide +kernel
theorem dX7_setFine_16 : decode cX7_setFine 16 = .ok (.aload_n 0, 1) := by decide +kernel
theorem dX7_setFine_17 : decode cX7_setFine 17 = .ok (.getfield 19, 3) := by decide +kernel
theorem dX7_setFine_20 : decode cX7_setFine 20 = .ok (.aload_n 0, 1) := by decide +kernel
theorem dX7_setFine_21 : decode cX7_setFine 21 = .ok (.getfield 12, 3) := by decide +kernel
theorem dX7_setFine_24 : decode cX7_setFine 24 = .ok (.invokevirtual 42, 3) := by decide +kernel
theorem dX7_setFine_27 : decode cX7_setFine 27 = .ok (.aload_n 0, 1) := by decide +kernel
theorem dX7_setFine_28 : decode cX7_setFine 28 = .ok (.getfield 12, 3) := by decide +kernel
theorem dX7_setFine_31 : decode cX7_setFine 31 = .ok (.getfield 73, 3) := by decide +kernel
theorem dX7_setFine_34 : decode cX7_setFine 34 = .ok (.istore_n 3, 1) := by decide +kernel
theorem dX7_setFine_35 : decode cX7_setFine 35 = .ok (.aload_n 0, 1) := by decide +kernel
theorem dX7_setFine_36 : decode cX7_setFine 36 = .ok (.getfield 12, 3) := by decide +kernel
theorem dX7_setFine_39 : decode cX7_setFine 39 = .ok (.iload_n 1, 1) := by decide +kernel
theorem dX7_setFine_40 : decode cX7_setFine 40 = .ok (.putfield 73, 3) := by decide +kernel
theorem dX7_setFine_43 : decode cX7_setFine 43 = .ok (.iload_n 3, 1) := by decide +kernel
theorem dX7_setFine_44 : decode cX7_setFine 44 = .ok (.ireturn, 1) := by decide +kernel
theorem dX7_setDelay_0 : decode cX7_setDelay 0 = .ok (.aload_n 0, 1) := by decide +kernel
theorem dX7_setDelay_1 : decode cX7_setDelay 1 = .ok (.iload_n 1, 1) := by decide +kernel
theorem dX7_setDelay_2 : decode cX7_setDelay 2 = .ok (.iconst 1, 1) := by decide +kernel
theorem dX7_setDelay_3 : decode cX7_setDelay 3 = .ok (.sipush 5000, 3) := by decide +kernel
theorem dX7_setDelay_6 : decode cX7_setDelay 6 = .ok (.invokevirtual 63, 3) := by decide +kernel
theorem dX7_setDelay_9 : decode cX7_setDelay 9 = .ok (.istore_n 2, 1) := by decide +kernel
theorem dX7_setDelay_10 : decode cX7_setDelay 10 = .ok (.iload_n 2, 1) := by decide +kernel
theorem dX7_setDelay_11 : decode cX7_setDelay 11 = .ok (.ifCond .ge 5, 3) := by decide +kernel
theorem dX7_setDelay_14 : decode cX7_setDelay 14 = .ok (.iload_n 2, 1) := by decide +kernel
theorem dX7_setDelay_15 : decode cX7_setDelay 15 = .ok (.ireturn, 1) := by decide +kernel
theorem dX7_setDelay_16 : decode cX7_setDelay 16 = .ok (.aload_n 0, 1) := by decide +kernel
theorem dX7_setDelay_17 : decode cX7_setDelay 17 = .ok (.getfield 19, 3) := by decide +kernel
theorem dX7_setDelay_20 : decode cX7_setDelay 20 = .ok (.aload_n 0, 1) := by decide +kernel
theorem dX7_setDelay_21 : decode cX7_setDelay 21 = .ok (.getfield 12, 3) := by decide +kernel
theorem dX7_setDelay_24 : decode cX7_setDelay 24 = .ok (.invokevirtual 42, 3) := by decide +kernel
theorem dX7_setDelay_27 : decode cX7_setDelay 27 = .ok (.aload_n 0, 1) := by decide +kernel
theorem dX7_setDelay_28 : decode cX7_setDelay 28 = .ok (.getfield 12, 3) := by decide +kernel
theorem dX7_setDelay_31 : decode cX7_setDelay 31 = .ok (.getfield 76, 3) := by decide +kernel
theorem dX7_setDelay_34 : decode cX7_setDelay 34 = .ok (.istore_n 3, 1) := by decide +kernel
theorem dX7_setDelay_35 : decode cX7_setDelay 35 = .ok (.aload_n 0, 1) := by decide +kernel
theorem dX7_setDelay_36 : decode cX7_setDelay 36 = .ok (.getfield 12, 3) := by decide +kernel
theorem dX7_setDelay_39 : decode cX7_setDelay 39 = .ok (.iload_n 1, 1) := by decide +kernel
theorem dX7_setDelay_40 : decode cX7_setDelay 40 = .ok (.putfield 76, 3) := by decide +kernel
theorem dX7_setDelay_43 : decode cX7_setDelay 43 = .ok (.iload_n 3, 1) := by decide +kernel
theorem dX7_setDelay_44 : decode cX7_setDelay 44 = .ok (.ireturn, 1) := by decide +kernel
theorem dX7_settingError_0 : decode cX7_settingError 0 = .ok (.iload_n 1, 1) := by decide +kernel
theorem dX7_settingError_1 : decode cX7_settingError 1 = .ok (.iload_n 2, 1) := by decide +kernel
theorem dX7_settingError_2 : decode cX7_settingError 2 = .ok (.iload_n 3, 1) := by decide +kernel
theorem dX7_settingError_3 : decode cX7_settingError 3 = .ok (.invokestatic 31, 3) := by decide +kernel
theorem dX7_settingError_6 : decode cX7_settingError 6 = .ok (.ifCond .ne 5, 3) := by decide +kernel
theorem dX7_settingError_9 : decode cX7_settingError 9 = .ok (.iconst (-1), 1) := by decide +kernel
theorem dX7_settingError_10 : decode cX7_settingError 10 = .ok (.ireturn, 1) := by decide +kernel
theorem dX7_settingError_11 : decode cX7_settingError 11 = .ok (.aload_n 0, 1) := by decide +kernel
theorem dX7_settingError_12 : decode cX7_settingError 12 = .ok (.getfield 12, 3) := by decide +kernel
theorem dX7_settingError_15 : decode cX7_settingError 15 = .ok (.getfield 35, 3) := by decide +kernel
theorem dX7_settingError_18 : decode cX7_settingError 18 = .ok (.ifCond .ne 7, 3) := by decide +kernel
theorem dX7_settingError_21 : decode cX7_settingError 21 = .ok (.iconst 0, 1) := by decide +kernel
theorem dX7_settingError_22 : decode cX7_settingError 22 = .ok (.goto 5, 3) := by decide +kernel
theorem dX7_settingError_25 : decode cX7_settingError 25 = .ok (.bipush (-2), 2) := by decide +kernel
theorem dX7_settingError_27 : decode cX7_settingError 27 = .ok (.ireturn, 1) := by decide +kernel
theorem dX7_begin_0 : decode cX7_begin 0 = .ok (.aload_n 0, 1) := by decide +kernel
theorem dX7_begin_1 : decode cX7_begin 1 = .ok (.getfield 12, 3) := by decide +kernel
theorem dX7_begin_4 : decode cX7_begin 4 = .ok (.invokevirtual 79, 3) := by decide +kernel
theorem dX7_begin_7 : decode cX7_begin 7 = .ok (.ifCond .ne 6, 3) := by decide +kernel
theorem dX7_begin_10 : decode cX7_begin 10 = .ok (.bipush (-2), 2) := by decide +kernel
theorem dX7_begin_12 : decode cX7_begin 12 = .ok (.ireturn, 1) := by decide +kernel
theorem dX7_begin_13 : decode cX7_begin 13 = .ok (.aload_n 0, 1) := by decide +kernel
theorem dX7_begin_14 : decode cX7_begin 14 = .ok (.getfield 19, 3) := by decide +kernel
theorem dX7_begin_17 : decode cX7_begin 17 = .ok (.aload_n 0, 1) := by decide +kernel
theorem dX7_begin_18 : decode cX7_begin 18 = .ok (.getfield 12, 3) := by decide +kernel
theorem dX7_begin_21 : decode cX7_begin 21 = .ok (.invokevirtual 42, 3) := by decide +kernel
theorem dX7_begin_24 : decode cX7_begin 24 = .ok (.aload_n 0, 1) := by decide +kernel
theorem dX7_begin_25 : decode cX7_begin 25 = .ok (.getfield 12, 3) := by decide +kernel
theorem dX7_begin_28 : decode cX7_begin 28 = .ok (.invokevirtual 83, 3) := by decide +kernel
theorem dX7_begin_31 : decode cX7_begin 31 = .ok (.aload_n 0, 1) := by decide +kernel
theorem dX7_begin_32 : decode cX7_begin 32 = .ok (.getfield 12, 3) := by decide +kernel
theorem dX7_begin_35 : decode cX7_begin 35 = .ok (.getfield 86, 3) := by decide +kernel
theorem dX7_begin_38 : decode cX7_begin 38 = .ok (.getfield 90, 3) := by decide +kernel
theorem dX7_begin_41 : decode cX7_begin 41 = .ok (.ireturn, 1) := by decide +kernel
theorem dX7_commit_0 : decode cX7_commit 0 = .ok (.aload_n 0, 1) := by decide +kernel
theorem dX7_commit_1 : decode cX7_commit 1 = .ok (.getfield 12, 3) := by decide +kernel
theorem dX7_commit_4 : decode cX7_commit 4 = .ok (.iload_n 1, 1) := by decide +kernel
theorem dX7_commit_5 : decode cX7_commit 5 = .ok (.invokevirtual 50, 3) := by decide +kernel
theorem dX7_commit_8 : decode cX7_commit 8 = .ok (.ifCond .eq 14, 3) := by decide +kernel
theorem dX7_commit_11 : decode cX7_commit 11 = .ok (.iload_n 2, 1) := by decide +kernel
theorem dX7_commit_12 : decode cX7_commit 12 = .ok (.iconst 0, 1) := by decide +kernel
theorem dX7_commit_13 : decode cX7_commit 13 = .ok (.sipush 1018, 3) := by decide +kernel
theorem dX7_commit_16 : decode cX7_commit 16 = .ok (.invokestatic 31, 3) := by decide +kernel
theorem dX7_commit_19 : decode cX7_commit 19 = .ok (.ifCond .ne 5, 3) := by decide +kernel
theorem dX7_commit_22 : decode cX7_commit 22 = .ok (.iconst (-1), 1) := by decide +kernel
theorem dX7_commit_23 : decode cX7_commit 23 = .ok (.ireturn, 1) := by decide +kernel
theorem dX7_commit_24 : decode cX7_commit 24 = .ok (.aload_n 0, 1) := by decide +kernel
theorem dX7_commit_25 : decode cX7_commit 25 = .ok (.getfield 12, 3) := by decide +kernel
theorem dX7_commit_28 : decode cX7_commit 28 = .ok (.getfield 35, 3) := by decide +kernel
theorem dX7_commit_31 : decode cX7_commit 31 = .ok (.iconst 1, 1) := by decide +kernel
theorem dX7_commit_32 : decode cX7_commit 32 = .ok (.if_icmp .ne 31, 3) := by decide +kernel
theorem dX7_commit_35 : decode cX7_commit 35 = .ok (.aload_n 0, 1) := by decide +kernel
theorem dX7_commit_36 : decode cX7_commit 36 = .ok (.getfield 12, 3) := by decide +kernel
theorem dX7_commit_39 : decode cX7_commit 39 = .ok (.getfield 95, 3) := by decide +kernel
theorem dX7_commit_42 : decode cX7_commit 42 = .ok (.iload_n 1, 1) := by decide +kernel
theorem dX7_commit_43 : decode cX7_commit 43 = .ok (.invokestatic 98, 3) := by decide +kernel
theorem dX7_commit_46 : decode cX7_commit 46 = .ok (.ifCond .eq 17, 3) := by decide +kernel
theorem dX7_commit_49 : decode cX7_commit 49 = .ok (.aload_n 0, 1) := by decide +kernel
theorem dX7_commit_50 : decode cX7_commit 50 = .ok (.getfield 12, 3) := by decide +kernel
theorem dX7_commit_53 : decode cX7_commit 53 = .ok (.getfield 102, 3) := by decide +kernel
theorem dX7_commit_56 : decode cX7_commit 56 = .ok (.iload_n 1, 1) := by decide +kernel
theorem dX7_commit_57 : decode cX7_commit 57 = .ok (.invokestatic 98, 3) := by decide +kernel
theorem dX7_commit_60 : decode cX7_commit 60 = .ok (.ifCond .eq 6, 3) := by decide +kernel
theorem dX7_commit_63 : decode cX7_commit 63 = .ok (.bipush (-2), 2) := by decide +kernel
theorem dX7_commit_65 : decode cX7_commit 65 = .ok (.ireturn, 1) := by decide +kernel
theorem dX7_commit_66 : decode cX7_commit 66 = .ok (.aload_n 0, 1) := by decide +kernel
theorem dX7_commit_67 : decode cX7_commit 67 = .ok (.getfield 12, 3) := by decide +kernel
theorem dX7_commit_70 : decode cX7_commit 70 = .ok (.iload_n 2, 1) := by decide +kernel
theorem dX7_commit_71 : decode cX7_commit 71 = .ok (.iload_n 3, 1) := by decide +kernel
theorem dX7_commit_72 : decode cX7_commit 72 = .ok (.invokevirtual 105, 3) := by decide +kernel
theorem dX7_commit_75 : decode cX7_commit 75 = .ok (.istore 4, 2) := by decide +kernel
theorem dX7_commit_77 : decode cX7_commit 77 = .ok (.aload_n 0, 1) := by decide +kernel
theorem dX7_commit_78 : decode cX7_commit 78 = .ok (.getfield 12, 3) := by decide +kernel
theorem dX7_commit_81 : decode cX7_commit 81 = .ok (.iload 4, 2) := by decide +kernel
theorem dX7_commit_83 : decode cX7_commit 83 = .ok (.invokevirtual 109, 3) := by decide +kernel
theorem dX7_commit_86 : decode cX7_commit 86 = .ok (.ifCond .eq 6, 3) := by decide +kernel
theorem dX7_commit_89 : decode cX7_commit 89 = .ok (.bipush (-4), 2) := by decide +kernel
theorem dX7_commit_91 : decode cX7_commit 91 = .ok (.ireturn, 1) := by decide +kernel
theorem dX7_commit_92 : decode cX7_commit 92 = .ok (.aload_n 0, 1) := by decide +kernel
theorem dX7_commit_93 : decode cX7_commit 93 = .ok (.getfield 19, 3) := by decide +kernel
theorem dX7_commit_96 : decode cX7_commit 96 = .ok (.aload_n 0, 1) := by decide +kernel
theorem dX7_commit_97 : decode cX7_commit 97 = .ok (.getfield 12, 3) := by decide +kernel
theorem dX7_commit_100 : decode cX7_commit 100 = .ok (.invokevirtual 42, 3) := by decide +kernel
theorem dX7_commit_103 : decode cX7_commit 103 = .ok (.aload_n 0, 1) := by decide +kernel
theorem dX7_commit_104 : decode cX7_commit 104 = .ok (.getfield 12, 3) := by decide +kernel
theorem dX7_commit_107 : decode cX7_commit 107 = .ok (.iload_n 1, 1) := by decide +kernel
theorem dX7_commit_108 : decode cX7_commit 108 = .ok (.iload_n 2, 1) := by decide +kernel
theorem dX7_commit_109 : decode cX7_commit 109 = .ok (.iload_n 3, 1) := by decide +kernel
theorem dX7_commit_110 : decode cX7_commit 110 = .ok (.invokevirtual 112, 3) := by decide +kernel
theorem dX7_commit_113 : decode cX7_commit 113 = .ok (.iload 4, 2) := by decide +kernel
theorem dX7_commit_115 : decode cX7_commit 115 = .ok (.ldc 116, 2) := by decide +kernel
theorem dX7_commit_117 : decode cX7_commit 117 = .ok (.iand, 1) := by decide +kernel
theorem dX7_commit_118 : decode cX7_commit 118 = .ok (.ireturn, 1) := by decide +kernel
theorem dX7_spoil_0 : decode cX7_spoil 0 = .ok (.aload_n 0, 1) := by decide +kernel
theorem dX7_spoil_1 : decode cX7_spoil 1 = .ok (.getfield 12, 3) := by decide +kernel
theorem dX7_spoil_4 : decode cX7_spoil 4 = .ok (.iload_n 1, 1) := by decide +kernel
theorem dX7_spoil_5 : decode cX7_spoil 5 = .ok (.invokevirtual 50, 3) := by decide +kernel
theorem dX7_spoil_8 : decode cX7_spoil 8 = .ok (.ifCond .eq 25, 3) := by decide +kernel
theorem dX7_spoil_11 : decode cX7_spoil 11 = .ok (.aload_n 0, 1) := by decide +kernel
theorem dX7_spoil_12 : decode cX7_spoil 12 = .ok (.getfield 12, 3) := by decide +kernel
theorem dX7_spoil_15 : decode cX7_spoil 15 = .ok (.iload_n 2, 1) := by decide +kernel
theorem dX7_spoil_16 : decode cX7_spoil 16 = .ok (.invokevirtual 50, 3) := by decide +kernel
theorem dX7_spoil_19 : decode cX7_spoil 19 = .ok (.ifCond .eq 14, 3) := by decide +kernel
theorem dX7_spoil_22 : decode cX7_spoil 22 = .ok (.iload_n 3, 1) := by decide +kernel
theorem dX7_spoil_23 : decode cX7_spoil 23 = .ok (.iconst 1, 1) := by decide +kernel
theorem dX7_spoil_24 : decode cX7_spoil 24 = .ok (.sipush 1018, 3) := by decide +kernel
theorem dX7_spoil_27 : decode cX7_spoil 27 = .ok (.invokestatic 31, 3) := by decide +kernel
theorem dX7_spoil_30 : decode cX7_spoil 30 = .ok (.ifCond .ne 5, 3) := by decide +kernel
theorem dX7_spoil_33 : decode cX7_spoil 33 = .ok (.iconst (-1), 1) := by decide +kernel
theorem dX7_spoil_34 : decode cX7_spoil 34 = .ok (.ireturn, 1) := by decide +kernel
theorem dX7_spoil_35 : decode cX7_spoil 35 = .ok (.aload_n 0, 1) := by decide +kernel
theorem dX7_spoil_36 : decode cX7_spoil 36 = .ok (.getfield 12, 3) := by decide +kernel
theorem dX7_spoil_39 : decode cX7_spoil 39 = .ok (.iload_n 1, 1) := by decide +kernel
theorem dX7_spoil_40 : decode cX7_spoil 40 = .ok (.iload_n 2, 1) := by decide +kernel
theorem dX7_spoil_41 : decode cX7_spoil 41 = .ok (.invokevirtual 117, 3) := by decide +kernel
theorem dX7_spoil_44 : decode cX7_spoil 44 = .ok (.ifCond .ne 6, 3) := by decide +kernel
theorem dX7_spoil_47 : decode cX7_spoil 47 = .ok (.bipush (-9), 2) := by decide +kernel
theorem dX7_spoil_49 : decode cX7_spoil 49 = .ok (.ireturn, 1) := by decide +kernel
theorem dX7_spoil_50 : decode cX7_spoil 50 = .ok (.aload_n 0, 1) := by decide +kernel
theorem dX7_spoil_51 : decode cX7_spoil 51 = .ok (.getfield 19, 3) := by decide +kernel
theorem dX7_spoil_54 : decode cX7_spoil 54 = .ok (.aload_n 0, 1) := by decide +kernel
theorem dX7_spoil_55 : decode cX7_spoil 55 = .ok (.getfield 12, 3) := by decide +kernel
theorem dX7_spoil_58 : decode cX7_spoil 58 = .ok (.invokevirtual 42, 3) := by decide +kernel
theorem dX7_spoil_61 : decode cX7_spoil 61 = .ok (.aload_n 0, 1) := by decide +kernel
theorem dX7_spoil_62 : decode cX7_spoil 62 = .ok (.getfield 12, 3) := by decide +kernel
theorem dX7_spoil_65 : decode cX7_spoil 65 = .ok (.getfield 54, 3) := by decide +kernel
theorem dX7_spoil_68 : decode cX7_spoil 68 = .ok (.iload_n 1, 1) := by decide +kernel
theorem dX7_spoil_69 : decode cX7_spoil 69 = .ok (.aaload, 1) := by decide +kernel
theorem dX7_spoil_70 : decode cX7_spoil 70 = .ok (.iload_n 2, 1) := by decide +kernel
theorem dX7_spoil_71 : decode cX7_spoil 71 = .ok (.iload_n 3, 1) := by decide +kernel
theorem dX7_spoil_72 : decode cX7_spoil 72 = .ok (.aload_n 0, 1) := by decide +kernel
theorem dX7_spoil_73 : decode cX7_spoil 73 = .ok (.getfield 12, 3) := by decide +kernel
theorem dX7_spoil_76 : decode cX7_spoil 76 = .ok (.getfield 70, 3) := by decide +kernel
theorem dX7_spoil_79 : decode cX7_spoil 79 = .ok (.invokevirtual 120, 3) := by decide +kernel
theorem dX7_spoil_82 : decode cX7_spoil 82 = .ok (.aload_n 0, 1) := by decide +kernel
theorem dX7_spoil_83 : decode cX7_spoil 83 = .ok (.getfield 12, 3) := by decide +kernel
theorem dX7_spoil_86 : decode cX7_spoil 86 = .ok (.getfield 54, 3) := by decide +kernel
theorem dX7_spoil_89 : decode cX7_spoil 89 = .ok (.iload_n 1, 1) := by decide +kernel
theorem dX7_spoil_90 : decode cX7_spoil 90 = .ok (.aaload, 1) := by decide +kernel
theorem dX7_spoil_91 : decode cX7_spoil 91 = .ok (.getfield 123, 3) := by decide +kernel
theorem dX7_spoil_94 : decode cX7_spoil 94 = .ok (.iload_n 2, 1) := by decide +kernel
theorem dX7_spoil_95 : decode cX7_spoil 95 = .ok (.iaload, 1) := by decide +kernel
theorem dX7_spoil_96 : decode cX7_spoil 96 = .ok (.ireturn, 1) := by decide +kernel
theorem dX7_complain_0 : decode cX7_complain 0 = .ok (.aload_n 0, 1) := by decide +kernel
theorem dX7_complain_1 : decode cX7_complain 1 = .ok (.getfield 12, 3) := by decide +kernel
theorem dX7_complain_4 : decode cX7_complain 4 = .ok (.iload_n 1, 1) := by decide +kernel
theorem dX7_complain_5 : decode cX7_complain 5 = .ok (.invokevirtual 50, 3) := by decide +kernel
theorem dX7_complain_8 : decode cX7_complain 8 = .ok (.ifCond .eq 19, 3) := by decide +kernel
theorem dX7_complain_11 : decode cX7_complain 11 = .ok (.aload_n 0, 1) := by decide +kernel
theorem dX7_complain_12 : decode cX7_complain 12 = .ok (.getfield 12, 3) := by decide +kernel
theorem dX7_complain_15 : decode cX7_complain 15 = .ok (.iload_n 2, 1) := by decide +kernel
theorem dX7_complain_16 : decode cX7_complain 16 = .ok (.invokevirtual 50, 3) := by decide +kernel
theorem dX7_complain_19 : decode cX7_complain 19 = .ok (.ifCond .eq 8, 3) := by decide +kernel
theorem dX7_complain_22 : decode cX7_complain 22 = .ok (.iload_n 1, 1) := by decide +kernel
theorem dX7_complain_23 : decode cX7_complain 23 = .ok (.iload_n 2, 1) := by decide +kernel
theorem dX7_complain_24 : decode cX7_complain 24 = .ok (.if_icmp .ne 5, 3) := by decide +kernel
theorem dX7_complain_27 : decode cX7_complain 27 = .ok (.iconst (-1), 1) := by decide +kernel
theorem dX7_complain_28 : decode cX7_complain 28 = .ok (.ireturn, 1) := by decide +kernel
theorem dX7_complain_29 : decode cX7_complain 29 = .ok (.aload_n 0, 1) := by decide +kernel
theorem dX7_complain_30 : decode cX7_complain 30 = .ok (.getfield 12, 3) := by decide +kernel
theorem dX7_complain_33 : decode cX7_complain 33 = .ok (.getfield 35, 3) := by decide +kernel
theorem dX7_complain_36 : decode cX7_complain 36 = .ok (.iconst 1, 1) := by decide +kernel
theorem dX7_complain_37 : decode cX7_complain 37 = .ok (.if_icmp .eq 6, 3) := by decide +kernel
theorem dX7_complain_40 : decode cX7_complain 40 = .ok (.bipush (-2), 2) := by decide +kernel
theorem dX7_complain_42 : decode cX7_complain 42 = .ok (.ireturn, 1) := by decide +kernel
theorem dX7_complain_43 : decode cX7_complain 43 = .ok (.aload_n 0, 1) := by decide +kernel
theorem dX7_complain_44 : decode cX7_complain 44 = .ok (.getfield 12, 3) := by decide +kernel
theorem dX7_complain_47 : decode cX7_complain 47 = .ok (.iload_n 2, 1) := by decide +kernel
theorem dX7_complain_48 : decode cX7_complain 48 = .ok (.iload_n 1, 1) := by decide +kernel
theorem dX7_complain_49 : decode cX7_complain 49 = .ok (.invokevirtual 117, 3) := by decide +kernel
theorem dX7_complain_52 : decode cX7_complain 52 = .ok (.ifCond .ne 6, 3) := by decide +kernel
theorem dX7_complain_55 : decode cX7_complain 55 = .ok (.bipush (-9), 2) := by decide +kernel
theorem dX7_complain_57 : decode cX7_complain 57 = .ok (.ireturn, 1) := by decide +kernel
theorem dX7_complain_58 : decode cX7_complain 58 = .ok (.aload_n 0, 1) := by decide +kernel
theorem dX7_complain_59 : decode cX7_complain 59 = .ok (.getfield 19, 3) := by decide +kernel
theorem dX7_complain_62 : decode cX7_complain 62 = .ok (.aload_n 0, 1) := by decide +kernel
theorem dX7_complain_63 : decode cX7_complain 63 = .ok (.getfield 12, 3) := by decide +kernel
theorem dX7_complain_66 : decode cX7_complain 66 = .ok (.invokevirtual 42, 3) := by decide +kernel
theorem dX7_complain_69 : decode cX7_complain 69 = .ok (.aload_n 0, 1) := by decide +kernel
theorem dX7_complain_70 : decode cX7_complain 70 = .ok (.getfield 12, 3) := by decide +kernel
theorem dX7_complain_73 : decode cX7_complain 73 = .ok (.getfield 54, 3) := by decide +kernel
theorem dX7_complain_76 : decode cX7_complain 76 = .ok (.iload_n 2, 1) := by decide +kernel
theorem dX7_complain_77 : decode cX7_complain 77 = .ok (.aaload, 1) := by decide +kernel
theorem dX7_complain_78 : decode cX7_complain 78 = .ok (.getfield 127, 3) := by decide +kernel
theorem dX7_complain_81 : decode cX7_complain 81 = .ok (.iload_n 1, 1) := by decide +kernel
theorem dX7_complain_82 : decode cX7_complain 82 = .ok (.invokestatic 98, 3) := by decide +kernel
theorem dX7_complain_85 : decode cX7_complain 85 = .ok (.ifCond .eq 13, 3) := by decide +kernel
theorem dX7_complain_88 : decode cX7_complain 88 = .ok (.aload_n 0, 1) := by decide +kernel
theorem dX7_complain_89 : decode cX7_complain 89 = .ok (.getfield 12, 3) := by decide +kernel
theorem dX7_complain_92 : decode cX7_complain 92 = .ok (.iload_n 1, 1) := by decide +kernel
theorem dX7_complain_93 : decode cX7_complain 93 = .ok (.invokevirtual 130, 3) := by decide +kernel
theorem dX7_complain_96 : decode cX7_complain 96 = .ok (.iconst 0, 1) := by decide +kernel
theorem dX7_complain_97 : decode cX7_complain 97 = .ok (.ireturn, 1) := by decide +kernel
theorem dX7_complain_98 : decode cX7_complain 98 = .ok (.aload_n 0, 1) := by decide +kernel
theorem dX7_complain_99 : decode cX7_complain 99 = .ok (.getfield 12, 3) := by decide +kernel
theorem dX7_complain_102 : decode cX7_complain 102 = .ok (.iload_n 2, 1) := by decide +kernel
theorem dX7_complain_103 : decode cX7_complain 103 = .ok (.invokevirtual 134, 3) := by decide +kernel
theorem dX7_complain_106 : decode cX7_complain 106 = .ok (.iconst 1, 1) := by decide +kernel
theorem dX7_complain_107 : decode cX7_complain 107 = .ok (.ireturn, 1) := by decide +kernel
theorem dX7_beginOpening_0 : decode cX7_beginOpening 0 = .ok (.aload_n 0, 1) := by decide +kernel
theorem dX7_beginOpening_1 : decode cX7_beginOpening 1 = .ok (.getfield 12, 3) := by decide +kernel
theorem dX7_beginOpening_4 : decode cX7_beginOpening 4 = .ok (.getfield 35, 3) := by decide +kernel
theorem dX7_beginOpening_7 : decode cX7_beginOpening 7 = .ok (.iconst 1, 1) := by decide +kernel
theorem dX7_beginOpening_8 : decode cX7_beginOpening 8 = .ok (.if_icmp .eq 6, 3) := by decide +kernel
theorem dX7_beginOpening_11 : decode cX7_beginOpening 11 = .ok (.bipush (-2), 2) := by decide +kernel
theorem dX7_beginOpening_13 : decode cX7_beginOpening 13 = .ok (.ireturn, 1) := by decide +kernel
theorem dX7_beginOpening_14 : decode cX7_beginOpening 14 = .ok (.aload_n 0, 1) := by decide +kernel
theorem dX7_beginOpening_15 : decode cX7_beginOpening 15 = .ok (.getfield 19, 3) := by decide +kernel
theorem dX7_beginOpening_18 : decode cX7_beginOpening 18 = .ok (.aload_n 0, 1) := by decide +kernel
theorem dX7_beginOpening_19 : decode cX7_beginOpening 19 = .ok (.getfield 12, 3) := by decide +kernel
theorem dX7_beginOpening_22 : decode cX7_beginOpening 22 = .ok (.invokevirtual 42, 3) := by decide +kernel
theorem dX7_beginOpening_25 : decode cX7_beginOpening 25 = .ok (.aload_n 0, 1) := by decide +kernel
theorem dX7_beginOpening_26 : decode cX7_beginOpening 26 = .ok (.getfield 12, 3) := by decide +kernel
theorem dX7_beginOpening_29 : decode cX7_beginOpening 29 = .ok (.invokevirtual 137, 3) := by decide +kernel
theorem dX7_beginOpening_32 : decode cX7_beginOpening 32 = .ok (.ireturn, 1) := by decide +kernel
theorem dX7_open_0 : decode cX7_open 0 = .ok (.aload_n 0, 1) := by decide +kernel
theorem dX7_open_1 : decode cX7_open 1 = .ok (.getfield 12, 3) := by decide +kernel
theorem dX7_open_4 : decode cX7_open 4 = .ok (.iload_n 1, 1) := by decide +kernel
theorem dX7_open_5 : decode cX7_open 5 = .ok (.invokevirtual 50, 3) := by decide +kernel
theorem dX7_open_8 : decode cX7_open 8 = .ok (.ifCond .ne 5, 3) := by decide +kernel
theorem dX7_open_11 : decode cX7_open 11 = .ok (.iconst (-1), 1) := by decide +kernel
theorem dX7_open_12 : decode cX7_open 12 = .ok (.ireturn, 1) := by decide +kernel
theorem dX7_open_13 : decode cX7_open 13 = .ok (.aload_n 0, 1) := by decide +kernel
theorem dX7_open_14 : decode cX7_open 14 = .ok (.getfield 12, 3) := by decide +kernel
theorem dX7_open_17 : decode cX7_open 17 = .ok (.getfield 35, 3) := by decide +kernel
theorem dX7_open_20 : decode cX7_open 20 = .ok (.iconst 2, 1) := by decide +kernel
theorem dX7_open_21 : decode cX7_open 21 = .ok (.if_icmp .ne 31, 3) := by decide +kernel
theorem dX7_open_24 : decode cX7_open 24 = .ok (.aload_n 0, 1) := by decide +kernel
theorem dX7_open_25 : decode cX7_open 25 = .ok (.getfield 12, 3) := by decide +kernel
theorem dX7_open_28 : decode cX7_open 28 = .ok (.getfield 95, 3) := by decide +kernel
theorem dX7_open_31 : decode cX7_open 31 = .ok (.iload_n 1, 1) := by decide +kernel
theorem dX7_open_32 : decode cX7_open 32 = .ok (.invokestatic 98, 3) := by decide +kernel
theorem dX7_open_35 : decode cX7_open 35 = .ok (.ifCond .eq 17, 3) := by decide +kernel
theorem dX7_open_38 : decode cX7_open 38 = .ok (.aload_n 0, 1) := by decide +kernel
theorem dX7_open_39 : decode cX7_open 39 = .ok (.getfield 12, 3) := by decide +kernel
theorem dX7_open_42 : decode cX7_open 42 = .ok (.getfield 141, 3) := by decide +kernel
theorem dX7_open_45 : decode cX7_open 45 = .ok (.iload_n 1, 1) := by decide +kernel
theorem dX7_open_46 : decode cX7_open 46 = .ok (.invokestatic 98, 3) := by decide +kernel
theorem dX7_open_49 : decode cX7_open 49 = .ok (.ifCond .eq 6, 3) := by decide +kernel
theorem dX7_open_52 : decode cX7_open 52 = .ok (.bipush (-2), 2) := by decide +kernel
theorem dX7_open_54 : decode cX7_open 54 = .ok (.ireturn, 1) := by decide +kernel
theorem dX7_open_55 : decode cX7_open 55 = .ok (.aload_n 0, 1) := by decide +kernel
theorem dX7_open_56 : decode cX7_open 56 = .ok (.getfield 19, 3) := by decide +kernel
theorem dX7_open_59 : decode cX7_open 59 = .ok (.aload_n 0, 1) := by decide +kernel
theorem dX7_open_60 : decode cX7_open 60 = .ok (.getfield 12, 3) := by decide +kernel
theorem dX7_open_63 : decode cX7_open 63 = .ok (.invokevirtual 42, 3) := by decide +kernel
theorem dX7_open_66 : decode cX7_open 66 = .ok (.aload_n 0, 1) := by decide +kernel
theorem dX7_open_67 : decode cX7_open 67 = .ok (.getfield 12, 3) := by decide +kernel
theorem dX7_open_70 : decode cX7_open 70 = .ok (.getfield 144, 3) := by decide +kernel
theorem dX7_open_73 : decode cX7_open 73 = .ok (.iload_n 1, 1) := by decide +kernel
theorem dX7_open_74 : decode cX7_open 74 = .ok (.iaload, 1) := by decide +kernel
theorem dX7_open_75 : decode cX7_open 75 = .ok (.iload_n 2, 1) := by decide +kernel
theorem dX7_open_76 : decode cX7_open 76 = .ok (.if_icmp .ne 19, 3) := by decide +kernel
theorem dX7_open_79 : decode cX7_open 79 = .ok (.aload_n 0, 1) := by decide +kernel
theorem dX7_open_80 : decode cX7_open 80 = .ok (.getfield 12, 3) := by decide +kernel
theorem dX7_open_83 : decode cX7_open 83 = .ok (.getfield 54, 3) := by decide +kernel
theorem dX7_open_86 : decode cX7_open 86 = .ok (.iload_n 1, 1) := by decide +kernel
theorem dX7_open_87 : decode cX7_open 87 = .ok (.aaload, 1) := by decide +kernel
theorem dX7_open_88 : decode cX7_open 88 = .ok (.getfield 147, 3) := by decide +kernel
theorem dX7_open_91 : decode cX7_open 91 = .ok (.iload_n 3, 1) := by decide +kernel
theorem dX7_open_92 : decode cX7_open 92 = .ok (.if_icmp .eq 5, 3) := by decide +kernel
theorem dX7_open_95 : decode cX7_open 95 = .ok (.iconst 0, 1) := by decide +kernel
theorem dX7_open_96 : decode cX7_open 96 = .ok (.ireturn, 1) := by decide +kernel
theorem dX7_open_97 : decode cX7_open 97 = .ok (.aload_n 0, 1) := by decide +kernel
theorem dX7_open_98 : decode cX7_open 98 = .ok (.getfield 12, 3) := by decide +kernel
theorem dX7_open_101 : decode cX7_open 101 = .ok (.dup, 1) := by decide +kernel
theorem dX7_open_102 : decode cX7_open 102 = .ok (.getfield 141, 3) := by decide +kernel
theorem dX7_open_105 : decode cX7_open 105 = .ok (.iconst 1, 1) := by decide +kernel
theorem dX7_open_106 : decode cX7_open 106 = .ok (.iload_n 1, 1) := by decide +kernel
theorem dX7_open_107 : decode cX7_open 107 = .ok (.ishl, 1) := by decide +kernel
theorem dX7_open_108 : decode cX7_open 108 = .ok (.ior, 1) := by decide +kernel
theorem dX7_open_109 : decode cX7_open 109 = .ok (.putfield 141, 3) := by decide +kernel
theorem dX7_open_112 : decode cX7_open 112 = .ok (.iconst 1, 1) := by decide +kernel
theorem dX7_open_113 : decode cX7_open 113 = .ok (.ireturn, 1) := by decide +kernel
theorem dX7_close_0 : decode cX7_close 0 = .ok (.aload_n 0, 1) := by decide +kernel
theorem dX7_close_1 : decode cX7_close 1 = .ok (.getfield 12, 3) := by decide +kernel
theorem dX7_close_4 : decode cX7_close 4 = .ok (.getfield 35, 3) := by decide +kernel
theorem dX7_close_7 : decode cX7_close 7 = .ok (.iconst 2, 1) := by decide +kernel
theorem dX7_close_8 : decode cX7_close 8 = .ok (.if_icmp .eq 6, 3) := by decide +kernel
theorem dX7_close_11 : decode cX7_close 11 = .ok (.bipush (-2), 2) := by decide +kernel
theorem dX7_close_13 : decode cX7_close 13 = .ok (.ireturn, 1) := by decide +kernel
theorem dX7_close_14 : decode cX7_close 14 = .ok (.aload_n 0, 1) := by decide +kernel
theorem dX7_close_15 : decode cX7_close 15 = .ok (.getfield 19, 3) := by decide +kernel
theorem dX7_close_18 : decode cX7_close 18 = .ok (.aload_n 0, 1) := by decide +kernel
theorem dX7_close_19 : decode cX7_close 19 = .ok (.getfield 12, 3) := by decide +kernel
theorem dX7_close_22 : decode cX7_close 22 = .ok (.invokevirtual 42, 3) := by decide +kernel
theorem dX7_close_25 : decode cX7_close 25 = .ok (.aload_n 0, 1) := by decide +kernel
theorem dX7_close_26 : decode cX7_close 26 = .ok (.getfield 12, 3) := by decide +kernel
theorem dX7_close_29 : decode cX7_close 29 = .ok (.invokevirtual 150, 3) := by decide +kernel
theorem dX7_close_32 : decode cX7_close 32 = .ok (.ireturn, 1) := by decide +kernel
theorem dX7_play_0 : decode cX7_play 0 = .ok (.aload_n 0, 1) := by decide +kernel
theorem dX7_play_1 : decode cX7_play 1 = .ok (.getfield 12, 3) := by decide +kernel
theorem dX7_play_4 : decode cX7_play 4 = .ok (.invokevirtual 79, 3) := by decide +kernel
theorem dX7_play_7 : decode cX7_play 7 = .ok (.ifCond .ne 6, 3) := by decide +kernel
theorem dX7_play_10 : decode cX7_play 10 = .ok (.bipush (-2), 2) := by decide +kernel
theorem dX7_play_12 : decode cX7_play 12 = .ok (.ireturn, 1) := by decide +kernel
theorem dX7_play_13 : decode cX7_play 13 = .ok (.aload_n 0, 1) := by decide +kernel
theorem dX7_play_14 : decode cX7_play 14 = .ok (.getfield 19, 3) := by decide +kernel
theorem dX7_play_17 : decode cX7_play 17 = .ok (.aload_n 0, 1) := by decide +kernel
theorem dX7_play_18 : decode cX7_play 18 = .ok (.getfield 12, 3) := by decide +kernel
theorem dX7_play_21 : decode cX7_play 21 = .ok (.invokevirtual 42, 3) := by decide +kernel
theorem dX7_play_24 : decode cX7_play 24 = .ok (.aload_n 0, 1) := by decide +kernel
theorem dX7_play_25 : decode cX7_play 25 = .ok (.getfield 12, 3) := by decide +kernel
theorem dX7_play_28 : decode cX7_play 28 = .ok (.iload_n 1, 1) := by decide +kernel
theorem dX7_play_29 : decode cX7_play 29 = .ok (.invokestatic 153, 3) := by decide +kernel
theorem dX7_play_32 : decode cX7_play 32 = .ok (.ireturn, 1) := by decide +kernel
theorem dX7_phase_0 : decode cX7_phase 0 = .ok (.aload_n 0, 1) := by decide +kernel
theorem dX7_phase_1 : decode cX7_phase 1 = .ok (.getfield 12, 3) := by decide +kernel
theorem dX7_phase_4 : decode cX7_phase 4 = .ok (.getfield 35, 3) := by decide +kernel
theorem dX7_phase_7 : decode cX7_phase 7 = .ok (.ireturn, 1) := by decide +kernel
theorem dX7_set_0 : decode cX7_set 0 = .ok (.iload_n 1, 1) := by decide +kernel
theorem dX7_set_1 : decode cX7_set 1 = .ok (.iconst 0, 1) := by decide +kernel
theorem dX7_set_2 : decode cX7_set 2 = .ok (.iconst 3, 1) := by decide +kernel
theorem dX7_set_3 : decode cX7_set 3 = .ok (.invokestatic 31, 3) := by decide +kernel
theorem dX7_set_6 : decode cX7_set 6 = .ok (.ifCond .ne 5, 3) := by decide +kernel
theorem dX7_set_9 : decode cX7_set 9 = .ok (.iconst (-1), 1) := by decide +kernel
theorem dX7_set_10 : decode cX7_set 10 = .ok (.ireturn, 1) := by decide +kernel
theorem dX7_set_11 : decode cX7_set 11 = .ok (.aload_n 0, 1) := by decide +kernel
theorem dX7_set_12 : decode cX7_set 12 = .ok (.getfield 12, 3) := by decide +kernel
theorem dX7_set_15 : decode cX7_set 15 = .ok (.getfield 35, 3) := by decide +kernel
theorem dX7_set_18 : decode cX7_set 18 = .ok (.ifCond .ne 6, 3) := by decide +kernel
theorem dX7_set_21 : decode cX7_set 21 = .ok (.bipush (-2), 2) := by decide +kernel
theorem dX7_set_23 : decode cX7_set 23 = .ok (.ireturn, 1) := by decide +kernel
theorem dX7_set_24 : decode cX7_set 24 = .ok (.iload_n 1, 1) := by decide +kernel
theorem dX7_set_25 : decode cX7_set 25 = .ok (.tableswitch 51 0 2 #[27, 35, 43], 27) := by decide +kernel
theorem dX7_set_52 : decode cX7_set 52 = .ok (.aload_n 0, 1) := by decide +kernel
theorem dX7_set_53 : decode cX7_set 53 = .ok (.getfield 12, 3) := by decide +kernel
theorem dX7_set_56 : decode cX7_set 56 = .ok (.getfield 95, 3) := by decide +kernel
theorem dX7_set_59 : decode cX7_set 59 = .ok (.ireturn, 1) := by decide +kernel
theorem dX7_set_60 : decode cX7_set 60 = .ok (.aload_n 0, 1) := by decide +kernel
theorem dX7_set_61 : decode cX7_set 61 = .ok (.getfield 12, 3) := by decide +kernel
theorem dX7_set_64 : decode cX7_set 64 = .ok (.getfield 102, 3) := by decide +kernel
theorem dX7_set_67 : decode cX7_set 67 = .ok (.ireturn, 1) := by decide +kernel
theorem dX7_set_68 : decode cX7_set 68 = .ok (.aload_n 0, 1) := by decide +kernel
theorem dX7_set_69 : decode cX7_set 69 = .ok (.getfield 12, 3) := by decide +kernel
theorem dX7_set_72 : decode cX7_set 72 = .ok (.getfield 141, 3) := by decide +kernel
theorem dX7_set_75 : decode cX7_set 75 = .ok (.ireturn, 1) := by decide +kernel
theorem dX7_set_76 : decode cX7_set 76 = .ok (.aload_n 0, 1) := by decide +kernel
theorem dX7_set_77 : decode cX7_set 77 = .ok (.getfield 12, 3) := by decide +kernel
theorem dX7_set_80 : decode cX7_set 80 = .ok (.getfield 159, 3) := by decide +kernel
theorem dX7_set_83 : decode cX7_set 83 = .ok (.ireturn, 1) := by decide +kernel
theorem dX7_digest_0 : decode cX7_digest 0 = .ok (.aload_n 0, 1) := by decide +kernel
theorem dX7_digest_1 : decode cX7_digest 1 = .ok (.getfield 12, 3) := by decide +kernel
theorem dX7_digest_4 : decode cX7_digest 4 = .ok (.iload_n 1, 1) := by decide +kernel
theorem dX7_digest_5 : decode cX7_digest 5 = .ok (.invokevirtual 50, 3) := by decide +kernel
theorem dX7_digest_8 : decode cX7_digest 8 = .ok (.ifCond .ne 5, 3) := by decide +kernel
theorem dX7_digest_11 : decode cX7_digest 11 = .ok (.iconst (-1), 1) := by decide +kernel
theorem dX7_digest_12 : decode cX7_digest 12 = .ok (.ireturn, 1) := by decide +kernel
theorem dX7_digest_13 : decode cX7_digest 13 = .ok (.aload_n 0, 1) := by decide +kernel
theorem dX7_digest_14 : decode cX7_digest 14 = .ok (.getfield 12, 3) := by decide +kernel
theorem dX7_digest_17 : decode cX7_digest 17 = .ok (.iload_n 1, 1) := by decide +kernel
theorem dX7_digest_18 : decode cX7_digest 18 = .ok (.invokevirtual 162, 3) := by decide +kernel
theorem dX7_digest_21 : decode cX7_digest 21 = .ok (.ifCond .ne 6, 3) := by decide +kernel
theorem dX7_digest_24 : decode cX7_digest 24 = .ok (.bipush (-9), 2) := by decide +kernel
theorem dX7_digest_26 : decode cX7_digest 26 = .ok (.ireturn, 1) := by decide +kernel
theorem dX7_digest_27 : decode cX7_digest 27 = .ok (.aload_n 0, 1) := by decide +kernel
theorem dX7_digest_28 : decode cX7_digest 28 = .ok (.getfield 12, 3) := by decide +kernel
theorem dX7_digest_31 : decode cX7_digest 31 = .ok (.getfield 54, 3) := by decide +kernel
theorem dX7_digest_34 : decode cX7_digest 34 = .ok (.iload_n 1, 1) := by decide +kernel
theorem dX7_digest_35 : decode cX7_digest 35 = .ok (.aaload, 1) := by decide +kernel
theorem dX7_digest_36 : decode cX7_digest 36 = .ok (.getfield 165, 3) := by decide +kernel
theorem dX7_digest_39 : decode cX7_digest 39 = .ok (.ldc 116, 2) := by decide +kernel
theorem dX7_digest_41 : decode cX7_digest 41 = .ok (.iand, 1) := by decide +kernel
theorem dX7_digest_42 : decode cX7_digest 42 = .ok (.ireturn, 1) := by decide +kernel
theorem dX7_share_0 : decode cX7_share 0 = .ok (.aload_n 0, 1) := by decide +kernel
theorem dX7_share_1 : decode cX7_share 1 = .ok (.getfield 12, 3) := by decide +kernel
theorem dX7_share_4 : decode cX7_share 4 = .ok (.iload_n 1, 1) := by decide +kernel
theorem dX7_share_5 : decode cX7_share 5 = .ok (.invokevirtual 50, 3) := by decide +kernel
theorem dX7_share_8 : decode cX7_share 8 = .ok (.ifCond .eq 14, 3) := by decide +kernel
theorem dX7_share_11 : decode cX7_share 11 = .ok (.aload_n 0, 1) := by decide +kernel
theorem dX7_share_12 : decode cX7_share 12 = .ok (.getfield 12, 3) := by decide +kernel
theorem dX7_share_15 : decode cX7_share 15 = .ok (.iload_n 2, 1) := by decide +kernel
theorem dX7_share_16 : decode cX7_share 16 = .ok (.invokevirtual 50, 3) := by decide +kernel
theorem dX7_share_19 : decode cX7_share 19 = .ok (.ifCond .ne 5, 3) := by decide +kernel
theorem dX7_share_22 : decode cX7_share 22 = .ok (.iconst (-1), 1) := by decide +kernel
theorem dX7_share_23 : decode cX7_share 23 = .ok (.ireturn, 1) := by decide +kernel
theorem dX7_share_24 : decode cX7_share 24 = .ok (.aload_n 0, 1) := by decide +kernel
theorem dX7_share_25 : decode cX7_share 25 = .ok (.getfield 12, 3) := by decide +kernel
theorem dX7_share_28 : decode cX7_share 28 = .ok (.iload_n 1, 1) := by decide +kernel
theorem dX7_share_29 : decode cX7_share 29 = .ok (.iload_n 2, 1) := by decide +kernel
theorem dX7_share_30 : decode cX7_share 30 = .ok (.invokevirtual 117, 3) := by decide +kernel
theorem dX7_share_33 : decode cX7_share 33 = .ok (.ifCond .ne 6, 3) := by decide +kernel
theorem dX7_share_36 : decode cX7_share 36 = .ok (.bipush (-9), 2) := by decide +kernel
theorem dX7_share_38 : decode cX7_share 38 = .ok (.ireturn, 1) := by decide +kernel
theorem dX7_share_39 : decode cX7_share 39 = .ok (.aload_n 0, 1) := by decide +kernel
theorem dX7_share_40 : decode cX7_share 40 = .ok (.getfield 12, 3) := by decide +kernel
theorem dX7_share_43 : decode cX7_share 43 = .ok (.getfield 54, 3) := by decide +kernel
theorem dX7_share_46 : decode cX7_share 46 = .ok (.iload_n 1, 1) := by decide +kernel
theorem dX7_share_47 : decode cX7_share 47 = .ok (.aaload, 1) := by decide +kernel
theorem dX7_share_48 : decode cX7_share 48 = .ok (.getfield 123, 3) := by decide +kernel
theorem dX7_share_51 : decode cX7_share 51 = .ok (.iload_n 2, 1) := by decide +kernel
theorem dX7_share_52 : decode cX7_share 52 = .ok (.iaload, 1) := by decide +kernel
theorem dX7_share_53 : decode cX7_share 53 = .ok (.ireturn, 1) := by decide +kernel
theorem dX7_isRight_0 : decode cX7_isRight 0 = .ok (.aload_n 0, 1) := by decide +kernel
theorem dX7_isRight_1 : decode cX7_isRight 1 = .ok (.getfield 12, 3) := by decide +kernel
theorem dX7_isRight_4 : decode cX7_isRight 4 = .ok (.iload_n 1, 1) := by decide +kernel
theorem dX7_isRight_5 : decode cX7_isRight 5 = .ok (.invokevirtual 50, 3) := by decide +kernel
theorem dX7_isRight_8 : decode cX7_isRight 8 = .ok (.ifCond .eq 14, 3) := by decide +kernel
theorem dX7_isRight_11 : decode cX7_isRight 11 = .ok (.aload_n 0, 1) := by decide +kernel
theorem dX7_isRight_12 : decode cX7_isRight 12 = .ok (.getfield 12, 3) := by decide +kernel
theorem dX7_isRight_15 : decode cX7_isRight 15 = .ok (.iload_n 2, 1) := by decide +kernel
theorem dX7_isRight_16 : decode cX7_isRight 16 = .ok (.invokevirtual 50, 3) := by decide +kernel
theorem dX7_isRight_19 : decode cX7_isRight 19 = .ok (.ifCond .ne 5, 3) := by decide +kernel
theorem dX7_isRight_22 : decode cX7_isRight 22 = .ok (.iconst (-1), 1) := by decide +kernel
theorem dX7_isRight_23 : decode cX7_isRight 23 = .ok (.ireturn, 1) := by decide +kernel
theorem dX7_isRight_24 : decode cX7_isRight 24 = .ok (.aload_n 0, 1) := by decide +kernel
theorem dX7_isRight_25 : decode cX7_isRight 25 = .ok (.getfield 12, 3) := by decide +kernel
theorem dX7_isRight_28 : decode cX7_isRight 28 = .ok (.iload_n 1, 1) := by decide +kernel
theorem dX7_isRight_29 : decode cX7_isRight 29 = .ok (.iload_n 2, 1) := by decide +kernel
theorem dX7_isRight_30 : decode cX7_isRight 30 = .ok (.invokevirtual 117, 3) := by decide +kernel
theorem dX7_isRight_33 : decode cX7_isRight 33 = .ok (.ifCond .ne 6, 3) := by decide +kernel
theorem dX7_isRight_36 : decode cX7_isRight 36 = .ok (.bipush (-9), 2) := by decide +kernel
theorem dX7_isRight_38 : decode cX7_isRight 38 = .ok (.ireturn, 1) := by decide +kernel
theorem dX7_isRight_39 : decode cX7_isRight 39 = .ok (.aload_n 0, 1) := by decide +kernel
theorem dX7_isRight_40 : decode cX7_isRight 40 = .ok (.getfield 12, 3) := by decide +kernel
theorem dX7_isRight_43 : decode cX7_isRight 43 = .ok (.getfield 54, 3) := by decide +kernel
theorem dX7_isRight_46 : decode cX7_isRight 46 = .ok (.iload_n 1, 1) := by decide +kernel
theorem dX7_isRight_47 : decode cX7_isRight 47 = .ok (.aaload, 1) := by decide +kernel
theorem dX7_isRight_48 : decode cX7_isRight 48 = .ok (.getfield 127, 3) := by decide +kernel
theorem dX7_isRight_51 : decode cX7_isRight 51 = .ok (.iload_n 2, 1) := by decide +kernel
theorem dX7_isRight_52 : decode cX7_isRight 52 = .ok (.invokestatic 98, 3) := by decide +kernel
theorem dX7_isRight_55 : decode cX7_isRight 55 = .ok (.ifCond .eq 7, 3) := by decide +kernel
theorem dX7_isRight_58 : decode cX7_isRight 58 = .ok (.iconst 1, 1) := by decide +kernel
theorem dX7_isRight_59 : decode cX7_isRight 59 = .ok (.goto 4, 3) := by decide +kernel
theorem dX7_isRight_62 : decode cX7_isRight 62 = .ok (.iconst 0, 1) := by decide +kernel
theorem dX7_isRight_63 : decode cX7_isRight 63 = .ok (.ireturn, 1) := by decide +kernel
theorem dX7_check_0 : decode cX7_check 0 = .ok (.aload_n 0, 1) := by decide +kernel
theorem dX7_check_1 : decode cX7_check 1 = .ok (.getfield 12, 3) := by decide +kernel
theorem dX7_check_4 : decode cX7_check 4 = .ok (.iload_n 1, 1) := by decide +kernel
theorem dX7_check_5 : decode cX7_check 5 = .ok (.invokevirtual 50, 3) := by decide +kernel
theorem dX7_check_8 : decode cX7_check 8 = .ok (.ifCond .eq 7, 3) := by decide +kernel
theorem dX7_check_11 : decode cX7_check 11 = .ok (.iload_n 2, 1) := by decide +kernel
theorem dX7_check_12 : decode cX7_check 12 = .ok (.ifCond .ge 5, 3) := by decide +kernel
theorem dX7_check_15 : decode cX7_check 15 = .ok (.iconst (-1), 1) := by decide +kernel
theorem dX7_check_16 : decode cX7_check 16 = .ok (.ireturn, 1) := by decide +kernel
theorem dX7_check_17 : decode cX7_check 17 = .ok (.aload_n 0, 1) := by decide +kernel
theorem dX7_check_18 : decode cX7_check 18 = .ok (.getfield 12, 3) := by decide +kernel
theorem dX7_check_21 : decode cX7_check 21 = .ok (.iload_n 1, 1) := by decide +kernel
theorem dX7_check_22 : decode cX7_check 22 = .ok (.invokevirtual 168, 3) := by decide +kernel
theorem dX7_check_25 : decode cX7_check 25 = .ok (.ifCond .eq 20, 3) := by decide +kernel
theorem dX7_check_28 : decode cX7_check 28 = .ok (.iload_n 2, 1) := by decide +kernel
theorem dX7_check_29 : decode cX7_check 29 = .ok (.aload_n 0, 1) := by decide +kernel
theorem dX7_check_30 : decode cX7_check 30 = .ok (.getfield 12, 3) := by decide +kernel
theorem dX7_check_33 : decode cX7_check 33 = .ok (.getfield 70, 3) := by decide +kernel
theorem dX7_check_36 : decode cX7_check 36 = .ok (.if_icmp .ge 9, 3) := by decide +kernel
theorem dX7_check_39 : decode cX7_check 39 = .ok (.iload_n 2, 1) := by decide +kernel
theorem dX7_check_40 : decode cX7_check 40 = .ok (.bipush 8, 2) := by decide +kernel
theorem dX7_check_42 : decode cX7_check 42 = .ok (.if_icmp .lt 6, 3) := by decide +kernel
theorem dX7_check_45 : decode cX7_check 45 = .ok (.bipush (-9), 2) := by decide +kernel
theorem dX7_check_47 : decode cX7_check 47 = .ok (.ireturn, 1) := by decide +kernel
theorem dX7_check_48 : decode cX7_check 48 = .ok (.aload_n 0, 1) := by decide +kernel
theorem dX7_check_49 : decode cX7_check 49 = .ok (.getfield 12, 3) := by decide +kernel
theorem dX7_check_52 : decode cX7_check 52 = .ok (.getfield 54, 3) := by decide +kernel
theorem dX7_check_55 : decode cX7_check 55 = .ok (.iload_n 1, 1) := by decide +kernel
theorem dX7_check_56 : decode cX7_check 56 = .ok (.aaload, 1) := by decide +kernel
theorem dX7_check_57 : decode cX7_check 57 = .ok (.getfield 171, 3) := by decide +kernel
theorem dX7_check_60 : decode cX7_check 60 = .ok (.iload_n 2, 1) := by decide +kernel
theorem dX7_check_61 : decode cX7_check 61 = .ok (.iaload, 1) := by decide +kernel
theorem dX7_check_62 : decode cX7_check 62 = .ok (.ireturn, 1) := by decide +kernel
theorem dX7_recover_0 : decode cX7_recover 0 = .ok (.aload_n 0, 1) := by decide +kernel
theorem dX7_recover_1 : decode cX7_recover 1 = .ok (.getfield 12, 3) := by decide +kernel
theorem dX7_recover_4 : decode cX7_recover 4 = .ok (.iload_n 1, 1) := by decide +kernel
theorem dX7_recover_5 : decode cX7_recover 5 = .ok (.invokevirtual 50, 3) := by decide +kernel
theorem dX7_recover_8 : decode cX7_recover 8 = .ok (.ifCond .eq 14, 3) := by decide +kernel
theorem dX7_recover_11 : decode cX7_recover 11 = .ok (.iload_n 2, 1) := by decide +kernel
theorem dX7_recover_12 : decode cX7_recover 12 = .ok (.iconst 0, 1) := by decide +kernel
theorem dX7_recover_13 : decode cX7_recover 13 = .ok (.sipush 255, 3) := by decide +kernel
theorem dX7_recover_16 : decode cX7_recover 16 = .ok (.invokestatic 31, 3) := by decide +kernel
theorem dX7_recover_19 : decode cX7_recover 19 = .ok (.ifCond .ne 5, 3) := by decide +kernel
theorem dX7_recover_22 : decode cX7_recover 22 = .ok (.iconst (-1), 1) := by decide +kernel
theorem dX7_recover_23 : decode cX7_recover 23 = .ok (.ireturn, 1) := by decide +kernel
theorem dX7_recover_24 : decode cX7_recover 24 = .ok (.iload_n 2, 1) := by decide +kernel
theorem dX7_recover_25 : decode cX7_recover 25 = .ok (.aload_n 0, 1) := by decide +kernel
theorem dX7_recover_26 : decode cX7_recover 26 = .ok (.getfield 12, 3) := by decide +kernel
theorem dX7_recover_29 : decode cX7_recover 29 = .ok (.getfield 95, 3) := by decide +kernel
theorem dX7_recover_32 : decode cX7_recover 32 = .ok (.iand, 1) := by decide +kernel
theorem dX7_recover_33 : decode cX7_recover 33 = .ok (.istore_n 3, 1) := by decide +kernel
theorem dX7_recover_34 : decode cX7_recover 34 = .ok (.aload_n 0, 1) := by decide +kernel
theorem dX7_recover_35 : decode cX7_recover 35 = .ok (.getfield 12, 3) := by decide +kernel
theorem dX7_recover_38 : decode cX7_recover 38 = .ok (.iload_n 1, 1) := by decide +kernel
theorem dX7_recover_39 : decode cX7_recover 39 = .ok (.invokevirtual 168, 3) := by decide +kernel
theorem dX7_recover_42 : decode cX7_recover 42 = .ok (.ifCond .eq 17, 3) := by decide +kernel
theorem dX7_recover_45 : decode cX7_recover 45 = .ok (.iload_n 3, 1) := by decide +kernel
theorem dX7_recover_46 : decode cX7_recover 46 = .ok (.invokestatic 174, 3) := by decide +kernel
theorem dX7_recover_49 : decode cX7_recover 49 = .ok (.aload_n 0, 1) := by decide +kernel
theorem dX7_recover_50 : decode cX7_recover 50 = .ok (.getfield 12, 3) := by decide +kernel
theorem dX7_recover_53 : decode cX7_recover 53 = .ok (.getfield 70, 3) := by decide +kernel
theorem dX7_recover_56 : decode cX7_recover 56 = .ok (.if_icmp .ge 6, 3) := by decide +kernel
theorem dX7_recover_59 : decode cX7_recover 59 = .ok (.bipush (-9), 2) := by decide +kernel
theorem dX7_recover_61 : decode cX7_recover 61 = .ok (.ireturn, 1) := by decide +kernel
theorem dX7_recover_62 : decode cX7_recover 62 = .ok (.aload_n 0, 1) := by decide +kernel
theorem dX7_recover_63 : decode cX7_recover 63 = .ok (.getfield 12, 3) := by decide +kernel
theorem dX7_recover_66 : decode cX7_recover 66 = .ok (.getfield 54, 3) := by decide +kernel
theorem dX7_recover_69 : decode cX7_recover 69 = .ok (.iload_n 1, 1) := by decide +kernel
theorem dX7_recover_70 : decode cX7_recover 70 = .ok (.aaload, 1) := by decide +kernel
theorem dX7_recover_71 : decode cX7_recover 71 = .ok (.iload_n 3, 1) := by decide +kernel
theorem dX7_recover_72 : decode cX7_recover 72 = .ok (.aload_n 0, 1) := by decide +kernel
theorem dX7_recover_73 : decode cX7_recover 73 = .ok (.getfield 12, 3) := by decide +kernel
theorem dX7_recover_76 : decode cX7_recover 76 = .ok (.getfield 70, 3) := by decide +kernel
theorem dX7_recover_79 : decode cX7_recover 79 = .ok (.invokestatic 179, 3) := by decide +kernel
theorem dX7_recover_82 : decode cX7_recover 82 = .ok (.invokevirtual 182, 3) := by decide +kernel
theorem dX7_recover_85 : decode cX7_recover 85 = .ok (.ireturn, 1) := by decide +kernel
theorem dX7_lock_0 : decode cX7_lock 0 = .ok (.aload_n 0, 1) := by decide +kernel
theorem dX7_lock_1 : decode cX7_lock 1 = .ok (.getfield 12, 3) := by decide +kernel
theorem dX7_lock_4 : decode cX7_lock 4 = .ok (.iload_n 1, 1) := by decide +kernel
theorem dX7_lock_5 : decode cX7_lock 5 = .ok (.invokevirtual 50, 3) := by decide +kernel
theorem dX7_lock_8 : decode cX7_lock 8 = .ok (.ifCond .eq 12, 3) := by decide +kernel
theorem dX7_lock_11 : decode cX7_lock 11 = .ok (.iload_n 2, 1) := by decide +kernel
theorem dX7_lock_12 : decode cX7_lock 12 = .ok (.iconst 0, 1) := by decide +kernel
theorem dX7_lock_13 : decode cX7_lock 13 = .ok (.iconst 1, 1) := by decide +kernel
theorem dX7_lock_14 : decode cX7_lock 14 = .ok (.invokestatic 31, 3) := by decide +kernel
theorem dX7_lock_17 : decode cX7_lock 17 = .ok (.ifCond .ne 5, 3) := by decide +kernel
theorem dX7_lock_20 : decode cX7_lock 20 = .ok (.iconst (-1), 1) := by decide +kernel
theorem dX7_lock_21 : decode cX7_lock 21 = .ok (.ireturn, 1) := by decide +kernel
theorem dX7_lock_22 : decode cX7_lock 22 = .ok (.aload_n 0, 1) := by decide +kernel
theorem dX7_lock_23 : decode cX7_lock 23 = .ok (.getfield 12, 3) := by decide +kernel
theorem dX7_lock_26 : decode cX7_lock 26 = .ok (.getfield 67, 3) := by decide +kernel
theorem dX7_lock_29 : decode cX7_lock 29 = .ok (.iconst 2, 1) := by decide +kernel
theorem dX7_lock_30 : decode cX7_lock 30 = .ok (.if_icmp .ne 14, 3) := by decide +kernel
theorem dX7_lock_33 : decode cX7_lock 33 = .ok (.aload_n 0, 1) := by decide +kernel
theorem dX7_lock_34 : decode cX7_lock 34 = .ok (.getfield 12, 3) := by decide +kernel
theorem dX7_lock_37 : decode cX7_lock 37 = .ok (.iload_n 1, 1) := by decide +kernel
theorem dX7_lock_38 : decode cX7_lock 38 = .ok (.invokevirtual 162, 3) := by decide +kernel
theorem dX7_lock_41 : decode cX7_lock 41 = .ok (.ifCond .ne 6, 3) := by decide +kernel
theorem dX7_lock_44 : decode cX7_lock 44 = .ok (.bipush (-9), 2) := by decide +kernel
theorem dX7_lock_46 : decode cX7_lock 46 = .ok (.ireturn, 1) := by decide +kernel
theorem dX7_lock_47 : decode cX7_lock 47 = .ok (.iload_n 2, 1) := by decide +kernel
theorem dX7_lock_48 : decode cX7_lock 48 = .ok (.ifCond .ne 18, 3) := by decide +kernel
theorem dX7_lock_51 : decode cX7_lock 51 = .ok (.aload_n 0, 1) := by decide +kernel
theorem dX7_lock_52 : decode cX7_lock 52 = .ok (.getfield 12, 3) := by decide +kernel
theorem dX7_lock_55 : decode cX7_lock 55 = .ok (.getfield 54, 3) := by decide +kernel
theorem dX7_lock_58 : decode cX7_lock 58 = .ok (.iload_n 1, 1) := by decide +kernel
theorem dX7_lock_59 : decode cX7_lock 59 = .ok (.aaload, 1) := by decide +kernel
theorem dX7_lock_60 : decode cX7_lock 60 = .ok (.getfield 185, 3) := by decide +kernel
theorem dX7_lock_63 : decode cX7_lock 63 = .ok (.goto 15, 3) := by decide +kernel
theorem dX7_lock_66 : decode cX7_lock 66 = .ok (.aload_n 0, 1) := by decide +kernel
theorem dX7_lock_67 : decode cX7_lock 67 = .ok (.getfield 12, 3) := by decide +kernel
theorem dX7_lock_70 : decode cX7_lock 70 = .ok (.getfield 54, 3) := by decide +kernel
theorem dX7_lock_73 : decode cX7_lock 73 = .ok (.iload_n 1, 1) := by decide +kernel
theorem dX7_lock_74 : decode cX7_lock 74 = .ok (.aaload, 1) := by decide +kernel
theorem dX7_lock_75 : decode cX7_lock 75 = .ok (.getfield 188, 3) := by decide +kernel
theorem dX7_lock_78 : decode cX7_lock 78 = .ok (.ireturn, 1) := by decide +kernel
theorem dX7_results_0 : decode cX7_results 0 = .ok (.iload_n 1, 1) := by decide +kernel
theorem dX7_results_1 : decode cX7_results 1 = .ok (.iconst 0, 1) := by decide +kernel
theorem dX7_results_2 : decode cX7_results 2 = .ok (.sipush 255, 3) := by decide +kernel
theorem dX7_results_5 : decode cX7_results 5 = .ok (.invokestatic 31, 3) := by decide +kernel
theorem dX7_results_8 : decode cX7_results 8 = .ok (.ifCond .ne 5, 3) := by decide +kernel
theorem dX7_results_11 : decode cX7_results 11 = .ok (.iconst (-1), 1) := by decide +kernel
theorem dX7_results_12 : decode cX7_results 12 = .ok (.ireturn, 1) := by decide +kernel
theorem dX7_results_13 : decode cX7_results 13 = .ok (.aload_n 0, 1) := by decide +kernel
theorem dX7_results_14 : decode cX7_results 14 = .ok (.getfield 12, 3) := by decide +kernel
theorem dX7_results_17 : decode cX7_results 17 = .ok (.iload_n 1, 1) := by decide +kernel
theorem dX7_results_18 : decode cX7_results 18 = .ok (.invokevirtual 191, 3) := by decide +kernel
theorem dX7_results_21 : decode cX7_results 21 = .ok (.ifCond .ne 6, 3) := by decide +kernel
theorem dX7_results_24 : decode cX7_results 24 = .ok (.bipush (-2), 2) := by decide +kernel
theorem dX7_results_26 : decode cX7_results 26 = .ok (.ireturn, 1) := by decide +kernel
theorem dX7_results_27 : decode cX7_results 27 = .ok (.aload_n 0, 1) := by decide +kernel
theorem dX7_results_28 : decode cX7_results 28 = .ok (.getfield 26, 3) := by decide +kernel
theorem dX7_results_31 : decode cX7_results 31 = .ok (.aload_n 0, 1) := by decide +kernel
theorem dX7_results_32 : decode cX7_results 32 = .ok (.getfield 12, 3) := by decide +kernel
theorem dX7_results_35 : decode cX7_results 35 = .ok (.iload_n 1, 1) := by decide +kernel
theorem dX7_results_36 : decode cX7_results 36 = .ok (.invokevirtual 194, 3) := by decide +kernel
theorem dX7_results_39 : decode cX7_results 39 = .ok (.aload_n 0, 1) := by decide +kernel
theorem dX7_results_40 : decode cX7_results 40 = .ok (.getfield 26, 3) := by decide +kernel
theorem dX7_results_43 : decode cX7_results 43 = .ok (.aload_n 0, 1) := by decide +kernel
theorem dX7_results_44 : decode cX7_results 44 = .ok (.getfield 12, 3) := by decide +kernel
theorem dX7_results_47 : decode cX7_results 47 = .ok (.invokevirtual 198, 3) := by decide +kernel
theorem dX7_results_50 : decode cX7_results 50 = .ok (.ireturn, 1) := by decide +kernel
theorem dX7_canForce_0 : decode cX7_canForce 0 = .ok (.iload_n 1, 1) := by decide +kernel
theorem dX7_canForce_1 : decode cX7_canForce 1 = .ok (.iconst 0, 1) := by decide +kernel
theorem dX7_canForce_2 : decode cX7_canForce 2 = .ok (.sipush 255, 3) := by decide +kernel
theorem dX7_canForce_5 : decode cX7_canForce 5 = .ok (.invokestatic 31, 3) := by decide +kernel
theorem dX7_canForce_8 : decode cX7_canForce 8 = .ok (.ifCond .eq 12, 3) := by decide +kernel
theorem dX7_canForce_11 : decode cX7_canForce 11 = .ok (.iload_n 2, 1) := by decide +kernel
theorem dX7_canForce_12 : decode cX7_canForce 12 = .ok (.iconst 0, 1) := by decide +kernel
theorem dX7_canForce_13 : decode cX7_canForce 13 = .ok (.iconst 1, 1) := by decide +kernel
theorem dX7_canForce_14 : decode cX7_canForce 14 = .ok (.invokestatic 31, 3) := by decide +kernel
theorem dX7_canForce_17 : decode cX7_canForce 17 = .ok (.ifCond .ne 5, 3) := by decide +kernel
theorem dX7_canForce_20 : decode cX7_canForce 20 = .ok (.iconst (-1), 1) := by decide +kernel
theorem dX7_canForce_21 : decode cX7_canForce 21 = .ok (.ireturn, 1) := by decide +kernel
theorem dX7_canForce_22 : decode cX7_canForce 22 = .ok (.aload_n 0, 1) := by decide +kernel
theorem dX7_canForce_23 : decode cX7_canForce 23 = .ok (.getfield 12, 3) := by decide +kernel
theorem dX7_canForce_26 : decode cX7_canForce 26 = .ok (.iload_n 1, 1) := by decide +kernel
theorem dX7_canForce_27 : decode cX7_canForce 27 = .ok (.invokevirtual 191, 3) := by decide +kernel
theorem dX7_canForce_30 : decode cX7_canForce 30 = .ok (.ifCond .ne 6, 3) := by decide +kernel
theorem dX7_canForce_33 : decode cX7_canForce 33 = .ok (.bipush (-2), 2) := by decide +kernel
theorem dX7_canForce_35 : decode cX7_canForce 35 = .ok (.ireturn, 1) := by decide +kernel
theorem dX7_canForce_36 : decode cX7_canForce 36 = .ok (.aload_n 0, 1) := by decide +kernel
theorem dX7_canForce_37 : decode cX7_canForce 37 = .ok (.getfield 26, 3) := by decide +kernel
theorem dX7_canForce_40 : decode cX7_canForce 40 = .ok (.aload_n 0, 1) := by decide +kernel
theorem dX7_canForce_41 : decode cX7_canForce 41 = .ok (.getfield 12, 3) := by decide +kernel
theorem dX7_canForce_44 : decode cX7_canForce 44 = .ok (.iload_n 1, 1) := by decide +kernel
theorem dX7_canForce_45 : decode cX7_canForce 45 = .ok (.invokevirtual 194, 3) := by decide +kernel
theorem dX7_canForce_48 : decode cX7_canForce 48 = .ok (.aload_n 0, 1) := by decide +kernel
theorem dX7_canForce_49 : decode cX7_canForce 49 = .ok (.getfield 26, 3) := by decide +kernel
theorem dX7_canForce_52 : decode cX7_canForce 52 = .ok (.aload_n 0, 1) := by decide +kernel
theorem dX7_canForce_53 : decode cX7_canForce 53 = .ok (.getfield 12, 3) := by decide +kernel
theorem dX7_canForce_56 : decode cX7_canForce 56 = .ok (.aload_n 0, 1) := by decide +kernel
theorem dX7_canForce_57 : decode cX7_canForce 57 = .ok (.getfield 12, 3) := by decide +kernel
theorem dX7_canForce_60 : decode cX7_canForce 60 = .ok (.getfield 144, 3) := by decide +kernel
theorem dX7_canForce_63 : decode cX7_canForce 63 = .ok (.iload_n 2, 1) := by decide +kernel
theorem dX7_canForce_64 : decode cX7_canForce 64 = .ok (.invokevirtual 202, 3) := by decide +kernel
theorem dX7_canForce_67 : decode cX7_canForce 67 = .ok (.ifCond .eq 7, 3) := by decide +kernel
theorem dX7_canForce_70 : decode cX7_canForce 70 = .ok (.iconst 1, 1) := by decide +kernel
theorem dX7_canForce_71 : decode cX7_canForce 71 = .ok (.goto 4, 3) := by decide +kernel
theorem dX7_canForce_74 : decode cX7_canForce 74 = .ok (.iconst 0, 1) := by decide +kernel
theorem dX7_canForce_75 : decode cX7_canForce 75 = .ok (.ireturn, 1) := by decide +kernel
theorem dX7_bias_0 : decode cX7_bias 0 = .ok (.iload_n 1, 1) := by decide +kernel
theorem dX7_bias_1 : decode cX7_bias 1 = .ok (.iconst 0, 1) := by decide +kernel
theorem dX7_bias_2 : decode cX7_bias 2 = .ok (.sipush 255, 3) := by decide +kernel
theorem dX7_bias_5 : decode cX7_bias 5 = .ok (.invokestatic 31, 3) := by decide +kernel
theorem dX7_bias_8 : decode cX7_bias 8 = .ok (.ifCond .eq 12, 3) := by decide +kernel
theorem dX7_bias_11 : decode cX7_bias 11 = .ok (.iload_n 2, 1) := by decide +kernel
theorem dX7_bias_12 : decode cX7_bias 12 = .ok (.iconst 1, 1) := by decide +kernel
theorem dX7_bias_13 : decode cX7_bias 13 = .ok (.iconst 4, 1) := by decide +kernel
theorem dX7_bias_14 : decode cX7_bias 14 = .ok (.invokestatic 31, 3) := by decide +kernel
theorem dX7_bias_17 : decode cX7_bias 17 = .ok (.ifCond .ne 5, 3) := by decide +kernel
theorem dX7_bias_20 : decode cX7_bias 20 = .ok (.iconst (-1), 1) := by decide +kernel
theorem dX7_bias_21 : decode cX7_bias 21 = .ok (.ireturn, 1) := by decide +kernel
theorem dX7_bias_22 : decode cX7_bias 22 = .ok (.aload_n 0, 1) := by decide +kernel
theorem dX7_bias_23 : decode cX7_bias 23 = .ok (.getfield 12, 3) := by decide +kernel
theorem dX7_bias_26 : decode cX7_bias 26 = .ok (.iload_n 1, 1) := by decide +kernel
theorem dX7_bias_27 : decode cX7_bias 27 = .ok (.invokevirtual 191, 3) := by decide +kernel
theorem dX7_bias_30 : decode cX7_bias 30 = .ok (.ifCond .ne 6, 3) := by decide +kernel
theorem dX7_bias_33 : decode cX7_bias 33 = .ok (.bipush (-2), 2) := by decide +kernel
theorem dX7_bias_35 : decode cX7_bias 35 = .ok (.ireturn, 1) := by decide +kernel
theorem dX7_bias_36 : decode cX7_bias 36 = .ok (.aload_n 0, 1) := by decide +kernel
theorem dX7_bias_37 : decode cX7_bias 37 = .ok (.getfield 12, 3) := by decide +kernel
theorem dX7_bias_40 : decode cX7_bias 40 = .ok (.getfield 95, 3) := by decide +kernel
theorem dX7_bias_43 : decode cX7_bias 43 = .ok (.iload_n 1, 1) := by decide +kernel
theorem dX7_bias_44 : decode cX7_bias 44 = .ok (.iconst (-1), 1) := by decide +kernel
theorem dX7_bias_45 : decode cX7_bias 45 = .ok (.ixor, 1) := by decide +kernel
theorem dX7_bias_46 : decode cX7_bias 46 = .ok (.iand, 1) := by decide +kernel
theorem dX7_bias_47 : decode cX7_bias 47 = .ok (.istore_n 3, 1) := by decide +kernel
theorem dX7_bias_48 : decode cX7_bias 48 = .ok (.iload_n 2, 1) := by decide +kernel
theorem dX7_bias_49 : decode cX7_bias 49 = .ok (.iload_n 3, 1) := by decide +kernel
theorem dX7_bias_50 : decode cX7_bias 50 = .ok (.invokestatic 174, 3) := by decide +kernel
theorem dX7_bias_53 : decode cX7_bias 53 = .ok (.imul, 1) := by decide +kernel
theorem dX7_bias_54 : decode cX7_bias 54 = .ok (.bipush 12, 2) := by decide +kernel
theorem dX7_bias_56 : decode cX7_bias 56 = .ok (.if_icmp .le 6, 3) := by decide +kernel
theorem dX7_bias_59 : decode cX7_bias 59 = .ok (.bipush (-3), 2) := by decide +kernel
theorem dX7_bias_61 : decode cX7_bias 61 = .ok (.ireturn, 1) := by decide +kernel
theorem dX7_bias_62 : decode cX7_bias 62 = .ok (.aload_n 0, 1) := by decide +kernel
theorem dX7_bias_63 : decode cX7_bias 63 = .ok (.getfield 26, 3) := by decide +kernel
theorem dX7_bias_66 : decode cX7_bias 66 = .ok (.aload_n 0, 1) := by decide +kernel
theorem dX7_bias_67 : decode cX7_bias 67 = .ok (.getfield 12, 3) := by decide +kernel
theorem dX7_bias_70 : decode cX7_bias 70 = .ok (.iload_n 1, 1) := by decide +kernel
theorem dX7_bias_71 : decode cX7_bias 71 = .ok (.invokevirtual 194, 3) := by decide +kernel
theorem dX7_bias_74 : decode cX7_bias 74 = .ok (.aload_n 0, 1) := by decide +kernel
theorem dX7_bias_75 : decode cX7_bias 75 = .ok (.getfield 26, 3) := by decide +kernel
theorem dX7_bias_78 : decode cX7_bias 78 = .ok (.aload_n 0, 1) := by decide +kernel
theorem dX7_bias_79 : decode cX7_bias 79 = .ok (.getfield 12, 3) := by decide +kernel
theorem dX7_bias_82 : decode cX7_bias 82 = .ok (.iload_n 3, 1) := by decide +kernel
theorem dX7_bias_83 : decode cX7_bias 83 = .ok (.iload_n 2, 1) := by decide +kernel
theorem dX7_bias_84 : decode cX7_bias 84 = .ok (.invokevirtual 206, 3) := by decide +kernel
theorem dX7_bias_87 : decode cX7_bias 87 = .ok (.ireturn, 1) := by decide +kernel
theorem dX7_slow_0 : decode cX7_slow 0 = .ok (.iload_n 1, 1) := by decide +kernel
theorem dX7_slow_1 : decode cX7_slow 1 = .ok (.iload_n 2, 1) := by decide +kernel
theorem dX7_slow_2 : decode cX7_slow 2 = .ok (.invokestatic 210, 3) := by decide +kernel
theorem dX7_slow_5 : decode cX7_slow 5 = .ok (.ifCond .ne 5, 3) := by decide +kernel
theorem dX7_slow_8 : decode cX7_slow 8 = .ok (.iconst (-1), 1) := by decide +kernel
theorem dX7_slow_9 : decode cX7_slow 9 = .ok (.ireturn, 1) := by decide +kernel
theorem dX7_slow_10 : decode cX7_slow 10 = .ok (.iload_n 1, 1) := by decide +kernel
theorem dX7_slow_11 : decode cX7_slow 11 = .ok (.iload_n 2, 1) := by decide +kernel
theorem dX7_slow_12 : decode cX7_slow 12 = .ok (.invokestatic 213, 3) := by decide +kernel
theorem dX7_slow_15 : decode cX7_slow 15 = .ok (.ireturn, 1) := by decide +kernel
theorem dX7_quick_0 : decode cX7_quick 0 = .ok (.iload_n 1, 1) := by decide +kernel
theorem dX7_quick_1 : decode cX7_quick 1 = .ok (.iconst 2, 1) := by decide +kernel
theorem dX7_quick_2 : decode cX7_quick 2 = .ok (.sipush 7906, 3) := by decide +kernel
theorem dX7_quick_5 : decode cX7_quick 5 = .ok (.invokestatic 31, 3) := by decide +kernel
theorem dX7_quick_8 : decode cX7_quick 8 = .ok (.ifCond .eq 13, 3) := by decide +kernel
theorem dX7_quick_11 : decode cX7_quick 11 = .ok (.iload_n 2, 1) := by decide +kernel
theorem dX7_quick_12 : decode cX7_quick 12 = .ok (.iconst 0, 1) := by decide +kernel
theorem dX7_quick_13 : decode cX7_quick 13 = .ok (.ldc 218, 2) := by decide +kernel
theorem dX7_quick_15 : decode cX7_quick 15 = .ok (.invokestatic 31, 3) := by decide +kernel
theorem dX7_quick_18 : decode cX7_quick 18 = .ok (.ifCond .ne 5, 3) := by decide +kernel
theorem dX7_quick_21 : decode cX7_quick 21 = .ok (.iconst (-1), 1) := by decide +kernel
theorem dX7_quick_22 : decode cX7_quick 22 = .ok (.ireturn, 1) := by decide +kernel
theorem dX7_quick_23 : decode cX7_quick 23 = .ok (.iload_n 1, 1) := by decide +kernel
theorem dX7_quick_24 : decode cX7_quick 24 = .ok (.iload_n 2, 1) := by decide +kernel
theorem dX7_quick_25 : decode cX7_quick 25 = .ok (.invokestatic 219, 3) := by decide +kernel
theorem dX7_quick_28 : decode cX7_quick 28 = .ok (.ireturn, 1) := by decide +kernel
theorem dX7_prime_0 : decode cX7_prime 0 = .ok (.iload_n 1, 1) := by decide +kernel
theorem dX7_prime_1 : decode cX7_prime 1 = .ok (.iload_n 2, 1) := by decide +kernel
theorem dX7_prime_2 : decode cX7_prime 2 = .ok (.invokestatic 210, 3) := by decide +kernel
theorem dX7_prime_5 : decode cX7_prime 5 = .ok (.ifCond .ne 5, 3) := by decide +kernel
theorem dX7_prime_8 : decode cX7_prime 8 = .ok (.iconst (-1), 1) := by decide +kernel
theorem dX7_prime_9 : decode cX7_prime 9 = .ok (.ireturn, 1) := by decide +kernel
theorem dX7_prime_10 : decode cX7_prime 10 = .ok (.iload_n 1, 1) := by decide +kernel
theorem dX7_prime_11 : decode cX7_prime 11 = .ok (.iload_n 1, 1) := by decide +kernel
theorem dX7_prime_12 : decode cX7_prime 12 = .ok (.iload_n 2, 1) := by decide +kernel
theorem dX7_prime_13 : decode cX7_prime 13 = .ok (.invokestatic 213, 3) := by decide +kernel
theorem dX7_prime_16 : decode cX7_prime 16 = .ok (.invokestatic 222, 3) := by decide +kernel
theorem dX7_prime_19 : decode cX7_prime 19 = .ok (.ireturn, 1) := by decide +kernel
theorem dX7_proof_0 : decode cX7_proof 0 = .ok (.iload_n 1, 1) := by decide +kernel
theorem dX7_proof_1 : decode cX7_proof 1 = .ok (.iload_n 2, 1) := by decide +kernel
theorem dX7_proof_2 : decode cX7_proof 2 = .ok (.invokestatic 210, 3) := by decide +kernel
theorem dX7_proof_5 : decode cX7_proof 5 = .ok (.ifCond .ne 5, 3) := by decide +kernel
theorem dX7_proof_8 : decode cX7_proof 8 = .ok (.iconst (-1), 1) := by decide +kernel
theorem dX7_proof_9 : decode cX7_proof 9 = .ok (.ireturn, 1) := by decide +kernel
theorem dX7_proof_10 : decode cX7_proof 10 = .ok (.iload_n 1, 1) := by decide +kernel
theorem dX7_proof_11 : decode cX7_proof 11 = .ok (.iload_n 2, 1) := by decide +kernel
theorem dX7_proof_12 : decode cX7_proof 12 = .ok (.iload_n 1, 1) := by decide +kernel
theorem dX7_proof_13 : decode cX7_proof 13 = .ok (.iload_n 1, 1) := by decide +kernel
theorem dX7_proof_14 : decode cX7_proof 14 = .ok (.iload_n 2, 1) := by decide +kernel
theorem dX7_proof_15 : decode cX7_proof 15 = .ok (.invokestatic 213, 3) := by decide +kernel
theorem dX7_proof_18 : decode cX7_proof 18 = .ok (.invokestatic 222, 3) := by decide +kernel
theorem dX7_proof_21 : decode cX7_proof 21 = .ok (.invokestatic 225, 3) := by decide +kernel
theorem dX7_proof_24 : decode cX7_proof 24 = .ok (.ireturn, 1) := by decide +kernel
theorem dX7_accepts_0 : decode cX7_accepts 0 = .ok (.iload_n 1, 1) := by decide +kernel
theorem dX7_accepts_1 : decode cX7_accepts 1 = .ok (.iconst 2, 1) := by decide +kernel
theorem dX7_accepts_2 : decode cX7_accepts 2 = .ok (.ldc 228, 2) := by decide +kernel
theorem dX7_accepts_4 : decode cX7_accepts 4 = .ok (.invokestatic 31, 3) := by decide +kernel
theorem dX7_accepts_7 : decode cX7_accepts 7 = .ok (.ifCond .eq 34, 3) := by decide +kernel
theorem dX7_accepts_10 : decode cX7_accepts 10 = .ok (.iload_n 2, 1) := by decide +kernel
theorem dX7_accepts_11 : decode cX7_accepts 11 = .ok (.iconst 0, 1) := by decide +kernel
theorem dX7_accepts_12 : decode cX7_accepts 12 = .ok (.ldc 218, 2) := by decide +kernel
theorem dX7_accepts_14 : decode cX7_accepts 14 = .ok (.invokestatic 31, 3) := by decide +kernel
theorem dX7_accepts_17 : decode cX7_accepts 17 = .ok (.ifCond .eq 24, 3) := by decide +kernel
theorem dX7_accepts_20 : decode cX7_accepts 20 = .ok (.iload_n 3, 1) := by decide +kernel
theorem dX7_accepts_21 : decode cX7_accepts 21 = .ok (.iconst 0, 1) := by decide +kernel
theorem dX7_accepts_22 : decode cX7_accepts 22 = .ok (.ldc 229, 2) := by decide +kernel
theorem dX7_accepts_24 : decode cX7_accepts 24 = .ok (.invokestatic 31, 3) := by decide +kernel
theorem dX7_accepts_27 : decode cX7_accepts 27 = .ok (.ifCond .eq 14, 3) := by decide +kernel
theorem dX7_accepts_30 : decode cX7_accepts 30 = .ok (.iload 4, 2) := by decide +kernel
theorem dX7_accepts_32 : decode cX7_accepts 32 = .ok (.iconst 0, 1) := by decide +kernel
theorem dX7_accepts_33 : decode cX7_accepts 33 = .ok (.ldc 229, 2) := by decide +kernel
theorem dX7_accepts_35 : decode cX7_accepts 35 = .ok (.invokestatic 31, 3) := by decide +kernel
theorem dX7_accepts_38 : decode cX7_accepts 38 = .ok (.ifCond .ne 5, 3) := by decide +kernel
theorem dX7_accepts_41 : decode cX7_accepts 41 = .ok (.iconst (-1), 1) := by decide +kernel
theorem dX7_accepts_42 : decode cX7_accepts 42 = .ok (.ireturn, 1) := by decide +kernel
theorem dX7_accepts_43 : decode cX7_accepts 43 = .ok (.iload_n 1, 1) := by decide +kernel
theorem dX7_accepts_44 : decode cX7_accepts 44 = .ok (.iload_n 2, 1) := by decide +kernel
theorem dX7_accepts_45 : decode cX7_accepts 45 = .ok (.iload_n 3, 1) := by decide +kernel
theorem dX7_accepts_46 : decode cX7_accepts 46 = .ok (.iload 4, 2) := by decide +kernel
theorem dX7_accepts_48 : decode cX7_accepts 48 = .ok (.invokestatic 230, 3) := by decide +kernel
theorem dX7_accepts_51 : decode cX7_accepts 51 = .ok (.ifCond .eq 7, 3) := by decide +kernel
theorem dX7_accepts_54 : decode cX7_accepts 54 = .ok (.iconst 1, 1) := by decide +kernel
theorem dX7_accepts_55 : decode cX7_accepts 55 = .ok (.goto 4, 3) := by decide +kernel
theorem dX7_accepts_58 : decode cX7_accepts 58 = .ok (.iconst 0, 1) := by decide +kernel
theorem dX7_accepts_59 : decode cX7_accepts 59 = .ok (.ireturn, 1) := by decide +kernel
theorem dX7_account_0 : decode cX7_account 0 = .ok (.aload_n 0, 1) := by decide +kernel
theorem dX7_account_1 : decode cX7_account 1 = .ok (.getfield 12, 3) := by decide +kernel
theorem dX7_account_4 : decode cX7_account 4 = .ok (.iload_n 1, 1) := by decide +kernel
theorem dX7_account_5 : decode cX7_account 5 = .ok (.invokevirtual 50, 3) := by decide +kernel
theorem dX7_account_8 : decode cX7_account 8 = .ok (.ifCond .eq 12, 3) := by decide +kernel
theorem dX7_account_11 : decode cX7_account 11 = .ok (.iload_n 2, 1) := by decide +kernel
theorem dX7_account_12 : decode cX7_account 12 = .ok (.iconst 0, 1) := by decide +kernel
theorem dX7_account_13 : decode cX7_account 13 = .ok (.iconst 4, 1) := by decide +kernel
theorem dX7_account_14 : decode cX7_account 14 = .ok (.invokestatic 31, 3) := by decide +kernel
theorem dX7_account_17 : decode cX7_account 17 = .ok (.ifCond .ne 5, 3) := by decide +kernel
theorem dX7_account_20 : decode cX7_account 20 = .ok (.iconst (-1), 1) := by decide +kernel
theorem dX7_account_21 : decode cX7_account 21 = .ok (.ireturn, 1) := by decide +kernel
theorem dX7_account_22 : decode cX7_account 22 = .ok (.aload_n 0, 1) := by decide +kernel
theorem dX7_account_23 : decode cX7_account 23 = .ok (.getfield 12, 3) := by decide +kernel
theorem dX7_account_26 : decode cX7_account 26 = .ok (.getfield 54, 3) := by decide +kernel
theorem dX7_account_29 : decode cX7_account 29 = .ok (.iload_n 1, 1) := by decide +kernel
theorem dX7_account_30 : decode cX7_account 30 = .ok (.aaload, 1) := by decide +kernel
theorem dX7_account_31 : decode cX7_account 31 = .ok (.astore_n 3, 1) := by decide +kernel
theorem dX7_account_32 : decode cX7_account 32 = .ok (.iload_n 2, 1) := by decide +kernel
theorem dX7_account_33 : decode cX7_account 33 = .ok (.tableswitch 51 0 3 #[31, 36, 41, 46], 31) := by decide +kernel
theorem dX7_account_64 : decode cX7_account 64 = .ok (.aload_n 3, 1) := by decide +kernel
theorem dX7_account_65 : decode cX7_account 65 = .ok (.getfield 234, 3) := by decide +kernel
theorem dX7_account_68 : decode cX7_account 68 = .ok (.ireturn, 1) := by decide +kernel
theorem dX7_account_69 : decode cX7_account 69 = .ok (.aload_n 3, 1) := by decide +kernel
theorem dX7_account_70 : decode cX7_account 70 = .ok (.getfield 237, 3) := by decide +kernel
theorem dX7_account_73 : decode cX7_account 73 = .ok (.ireturn, 1) := by decide +kernel
theorem dX7_account_74 : decode cX7_account 74 = .ok (.aload_n 3, 1) := by decide +kernel
theorem dX7_account_75 : decode cX7_account 75 = .ok (.getfield 240, 3) := by decide +kernel
theorem dX7_account_78 : decode cX7_account 78 = .ok (.ireturn, 1) := by decide +kernel
theorem dX7_account_79 : decode cX7_account 79 = .ok (.aload_n 3, 1) := by decide +kernel
theorem dX7_account_80 : decode cX7_account 80 = .ok (.getfield 243, 3) := by decide +kernel
theorem dX7_account_83 : decode cX7_account 83 = .ok (.ireturn, 1) := by decide +kernel
theorem dX7_account_84 : decode cX7_account 84 = .ok (.aload_n 3, 1) := by decide +kernel
theorem dX7_account_85 : decode cX7_account 85 = .ok (.getfield 58, 3) := by decide +kernel
theorem dX7_account_88 : decode cX7_account 88 = .ok (.ireturn, 1) := by decide +kernel
theorem dX7_pot_0 : decode cX7_pot 0 = .ok (.aload_n 0, 1) := by decide +kernel
theorem dX7_pot_1 : decode cX7_pot 1 = .ok (.getfield 12, 3) := by decide +kernel
theorem dX7_pot_4 : decode cX7_pot 4 = .ok (.getfield 246, 3) := by decide +kernel
theorem dX7_pot_7 : decode cX7_pot 7 = .ok (.ireturn, 1) := by decide +kernel
theorem dX7_rounds_0 : decode cX7_rounds 0 = .ok (.aload_n 0, 1) := by decide +kernel
theorem dX7_rounds_1 : decode cX7_rounds 1 = .ok (.getfield 12, 3) := by decide +kernel
theorem dX7_rounds_4 : decode cX7_rounds 4 = .ok (.getfield 86, 3) := by decide +kernel
theorem dX7_rounds_7 : decode cX7_rounds 7 = .ok (.getfield 90, 3) := by decide +kernel
theorem dX7_rounds_10 : decode cX7_rounds 10 = .ok (.ireturn, 1) := by decide +kernel
theorem dX7_past_0 : decode cX7_past 0 = .ok (.iload_n 1, 1) := by decide +kernel
theorem dX7_past_1 : decode cX7_past 1 = .ok (.ifCond .lt 12, 3) := by decide +kernel
theorem dX7_past_4 : decode cX7_past 4 = .ok (.iload_n 2, 1) := by decide +kernel
theorem dX7_past_5 : decode cX7_past 5 = .ok (.iconst 0, 1) := by decide +kernel
theorem dX7_past_6 : decode cX7_past 6 = .ok (.iconst 4, 1) := by decide +kernel
theorem dX7_past_7 : decode cX7_past 7 = .ok (.invokestatic 31, 3) := by decide +kernel
theorem dX7_past_10 : decode cX7_past 10 = .ok (.ifCond .ne 5, 3) := by decide +kernel
theorem dX7_past_13 : decode cX7_past 13 = .ok (.iconst (-1), 1) := by decide +kernel
theorem dX7_past_14 : decode cX7_past 14 = .ok (.ireturn, 1) := by decide +kernel
theorem dX7_past_15 : decode cX7_past 15 = .ok (.aload_n 0, 1) := by decide +kernel
theorem dX7_past_16 : decode cX7_past 16 = .ok (.getfield 12, 3) := by decide +kernel
theorem dX7_past_19 : decode cX7_past 19 = .ok (.getfield 86, 3) := by decide +kernel
theorem dX7_past_22 : decode cX7_past 22 = .ok (.iload_n 1, 1) := by decide +kernel
theorem dX7_past_23 : decode cX7_past 23 = .ok (.invokevirtual 249, 3) := by decide +kernel
theorem dX7_past_26 : decode cX7_past 26 = .ok (.ifCond .ne 6, 3) := by decide +kernel
theorem dX7_past_29 : decode cX7_past 29 = .ok (.bipush (-9), 2) := by decide +kernel
theorem dX7_past_31 : decode cX7_past 31 = .ok (.ireturn, 1) := by decide +kernel
theorem dX7_past_32 : decode cX7_past 32 = .ok (.aload_n 0, 1) := by decide +kernel
theorem dX7_past_33 : decode cX7_past 33 = .ok (.getfield 12, 3) := by decide +kernel
theorem dX7_past_36 : decode cX7_past 36 = .ok (.getfield 86, 3) := by decide +kernel
theorem dX7_past_39 : decode cX7_past 39 = .ok (.iload_n 1, 1) := by decide +kernel
theorem dX7_past_40 : decode cX7_past 40 = .ok (.iload_n 2, 1) := by decide +kernel
theorem dX7_past_41 : decode cX7_past 41 = .ok (.invokevirtual 252, 3) := by decide +kernel
theorem dX7_past_44 : decode cX7_past 44 = .ok (.ireturn, 1) := by decide +kernel
theorem dX7_output_0 : decode cX7_output 0 = .ok (.aload_n 0, 1) := by decide +kernel
theorem dX7_output_1 : decode cX7_output 1 = .ok (.getfield 12, 3) := by decide +kernel
theorem dX7_output_4 : decode cX7_output 4 = .ok (.getfield 86, 3) := by decide +kernel
theorem dX7_output_7 : decode cX7_output 7 = .ok (.iload_n 1, 1) := by decide +kernel
theorem dX7_output_8 : decode cX7_output 8 = .ok (.invokevirtual 249, 3) := by decide +kernel
theorem dX7_output_11 : decode cX7_output 11 = .ok (.ifCond .ne 5, 3) := by decide +kernel
theorem dX7_output_14 : decode cX7_output 14 = .ok (.iconst 0, 1) := by decide +kernel
theorem dX7_output_15 : decode cX7_output 15 = .ok (.ireturn, 1) := by decide +kernel
theorem dX7_output_16 : decode cX7_output 16 = .ok (.aload_n 0, 1) := by decide +kernel
theorem dX7_output_17 : decode cX7_output 17 = .ok (.getfield 12, 3) := by decide +kernel
theorem dX7_output_20 : decode cX7_output 20 = .ok (.getfield 86, 3) := by decide +kernel
theorem dX7_output_23 : decode cX7_output 23 = .ok (.iload_n 1, 1) := by decide +kernel
theorem dX7_output_24 : decode cX7_output 24 = .ok (.iconst 5, 1) := by decide +kernel
theorem dX7_output_25 : decode cX7_output 25 = .ok (.invokevirtual 252, 3) := by decide +kernel
theorem dX7_output_28 : decode cX7_output 28 = .ok (.ireturn, 1) := by decide +kernel
theorem dX7_coins_0 : decode cX7_coins 0 = .ok (.iload_n 1, 1) := by decide +kernel
theorem dX7_coins_1 : decode cX7_coins 1 = .ok (.iconst 0, 1) := by decide +kernel
theorem dX7_coins_2 : decode cX7_coins 2 = .ok (.iconst 1, 1) := by decide +kernel
theorem dX7_coins_3 : decode cX7_coins 3 = .ok (.invokestatic 31, 3) := by decide +kernel
theorem dX7_coins_6 : decode cX7_coins 6 = .ok (.ifCond .ne 5, 3) := by decide +kernel
theorem dX7_coins_9 : decode cX7_coins 9 = .ok (.iconst (-1), 1) := by decide +kernel
theorem dX7_coins_10 : decode cX7_coins 10 = .ok (.ireturn, 1) := by decide +kernel
theorem dX7_coins_11 : decode cX7_coins 11 = .ok (.iload_n 1, 1) := by decide +kernel
theorem dX7_coins_12 : decode cX7_coins 12 = .ok (.iconst 1, 1) := by decide +kernel
theorem dX7_coins_13 : decode cX7_coins 13 = .ok (.if_icmp .ne 16, 3) := by decide +kernel
theorem dX7_coins_16 : decode cX7_coins 16 = .ok (.aload_n 0, 1) := by decide +kernel
theorem dX7_coins_17 : decode cX7_coins 17 = .ok (.getfield 12, 3) := by decide +kernel
theorem dX7_coins_20 : decode cX7_coins 20 = .ok (.getfield 86, 3) := by decide +kernel
theorem dX7_coins_23 : decode cX7_coins 23 = .ok (.getfield 255, 3) := by decide +kernel
theorem dX7_coins_26 : decode cX7_coins 26 = .ok (.goto 13, 3) := by decide +kernel
theorem dX7_coins_29 : decode cX7_coins 29 = .ok (.aload_n 0, 1) := by decide +kernel
theorem dX7_coins_30 : decode cX7_coins 30 = .ok (.getfield 12, 3) := by decide +kernel
theorem dX7_coins_33 : decode cX7_coins 33 = .ok (.getfield 86, 3) := by decide +kernel
theorem dX7_coins_36 : decode cX7_coins 36 = .ok (.getfield 258, 3) := by decide +kernel
theorem dX7_coins_39 : decode cX7_coins 39 = .ok (.ireturn, 1) := by decide +kernel
theorem dX7_longestRun_0 : decode cX7_longestRun 0 = .ok (.aload_n 0, 1) := by decide +kernel
theorem dX7_longestRun_1 : decode cX7_longestRun 1 = .ok (.getfield 12, 3) := by decide +kernel
theorem dX7_longestRun_4 : decode cX7_longestRun 4 = .ok (.getfield 86, 3) := by decide +kernel
theorem dX7_longestRun_7 : decode cX7_longestRun 7 = .ok (.getfield 261, 3) := by decide +kernel
theorem dX7_longestRun_10 : decode cX7_longestRun 10 = .ok (.ireturn, 1) := by decide +kernel
theorem dX7_undo_0 : decode cX7_undo 0 = .ok (.aload_n 0, 1) := by decide +kernel
theorem dX7_undo_1 : decode cX7_undo 1 = .ok (.getfield 19, 3) := by decide +kernel
theorem dX7_undo_4 : decode cX7_undo 4 = .ok (.getfield 264, 3) := by decide +kernel
theorem dX7_undo_7 : decode cX7_undo 7 = .ok (.ifCond .ne 6, 3) := by decide +kernel
theorem dX7_undo_10 : decode cX7_undo 10 = .ok (.bipush (-2), 2) := by decide +kernel
theorem dX7_undo_12 : decode cX7_undo 12 = .ok (.ireturn, 1) := by decide +kernel
theorem dX7_undo_13 : decode cX7_undo 13 = .ok (.aload_n 0, 1) := by decide +kernel
theorem dX7_undo_14 : decode cX7_undo 14 = .ok (.getfield 19, 3) := by decide +kernel
theorem dX7_undo_17 : decode cX7_undo 17 = .ok (.aload_n 0, 1) := by decide +kernel
theorem dX7_undo_18 : decode cX7_undo 18 = .ok (.getfield 12, 3) := by decide +kernel
theorem dX7_undo_21 : decode cX7_undo 21 = .ok (.invokevirtual 267, 3) := by decide +kernel
theorem dX7_undo_24 : decode cX7_undo 24 = .ok (.aload_n 0, 1) := by decide +kernel
theorem dX7_undo_25 : decode cX7_undo 25 = .ok (.getfield 19, 3) := by decide +kernel
theorem dX7_undo_28 : decode cX7_undo 28 = .ok (.getfield 264, 3) := by decide +kernel
theorem dX7_undo_31 : decode cX7_undo 31 = .ok (.ireturn, 1) := by decide +kernel
theorem dX7_fingerprint_0 : decode cX7_fingerprint 0 = .ok (.ldc2_w 270, 3) := by decide +kernel
theorem dX7_fingerprint_3 : decode cX7_fingerprint 3 = .ok (.lstore_n 1, 1) := by decide +kernel
theorem dX7_fingerprint_4 : decode cX7_fingerprint 4 = .ok (.ldc2_w 272, 3) := by decide +kernel
theorem dX7_fingerprint_7 : decode cX7_fingerprint 7 = .ok (.lload_n 1, 1) := by decide +kernel
theorem dX7_fingerprint_8 : decode cX7_fingerprint 8 = .ok (.lmul, 1) := by decide +kernel
theorem dX7_fingerprint_9 : decode cX7_fingerprint 9 = .ok (.aload_n 0, 1) := by decide +kernel
theorem dX7_fingerprint_10 : decode cX7_fingerprint 10 = .ok (.invokevirtual 274, 3) := by decide +kernel
theorem dX7_fingerprint_13 : decode cX7_fingerprint 13 = .ok (.i2l, 1) := by decide +kernel
theorem dX7_fingerprint_14 : decode cX7_fingerprint 14 = .ok (.ladd, 1) := by decide +kernel
theorem dX7_fingerprint_15 : decode cX7_fingerprint 15 = .ok (.lstore_n 1, 1) := by decide +kernel
theorem dX7_fingerprint_16 : decode cX7_fingerprint 16 = .ok (.ldc2_w 272, 3) := by decide +kernel
theorem dX7_fingerprint_19 : decode cX7_fingerprint 19 = .ok (.lload_n 1, 1) := by decide +kernel
theorem dX7_fingerprint_20 : decode cX7_fingerprint 20 = .ok (.lmul, 1) := by decide +kernel
theorem dX7_fingerprint_21 : decode cX7_fingerprint 21 = .ok (.aload_n 0, 1) := by decide +kernel
theorem dX7_fingerprint_22 : decode cX7_fingerprint 22 = .ok (.invokevirtual 276, 3) := by decide +kernel
theorem dX7_fingerprint_25 : decode cX7_fingerprint 25 = .ok (.i2l, 1) := by decide +kernel
theorem dX7_fingerprint_26 : decode cX7_fingerprint 26 = .ok (.ladd, 1) := by decide +kernel
theorem dX7_fingerprint_27 : decode cX7_fingerprint 27 = .ok (.lstore_n 1, 1) := by decide +kernel
theorem dX7_fingerprint_28 : decode cX7_fingerprint 28 = .ok (.ldc2_w 272, 3) := by decide +kernel
theorem dX7_fingerprint_31 : decode cX7_fingerprint 31 = .ok (.lload_n 1, 1) := by decide +kernel
theorem dX7_fingerprint_32 : decode cX7_fingerprint 32 = .ok (.lmul, 1) := by decide +kernel
theorem dX7_fingerprint_33 : decode cX7_fingerprint 33 = .ok (.aload_n 0, 1) := by decide +kernel
theorem dX7_fingerprint_34 : decode cX7_fingerprint 34 = .ok (.invokevirtual 279, 3) := by decide +kernel
theorem dX7_fingerprint_37 : decode cX7_fingerprint 37 = .ok (.i2l, 1) := by decide +kernel
theorem dX7_fingerprint_38 : decode cX7_fingerprint 38 = .ok (.ladd, 1) := by decide +kernel
theorem dX7_fingerprint_39 : decode cX7_fingerprint 39 = .ok (.lstore_n 1, 1) := by decide +kernel
theorem dX7_fingerprint_40 : decode cX7_fingerprint 40 = .ok (.ldc2_w 272, 3) := by decide +kernel
theorem dX7_fingerprint_43 : decode cX7_fingerprint 43 = .ok (.lload_n 1, 1) := by decide +kernel
theorem dX7_fingerprint_44 : decode cX7_fingerprint 44 = .ok (.lmul, 1) := by decide +kernel
theorem dX7_fingerprint_45 : decode cX7_fingerprint 45 = .ok (.aload_n 0, 1) := by decide +kernel
theorem dX7_fingerprint_46 : decode cX7_fingerprint 46 = .ok (.getfield 12, 3) := by decide +kernel
theorem dX7_fingerprint_49 : decode cX7_fingerprint 49 = .ok (.getfield 86, 3) := by decide +kernel
theorem dX7_fingerprint_52 : decode cX7_fingerprint 52 = .ok (.getfield 281, 3) := by decide +kernel
theorem dX7_fingerprint_55 : decode cX7_fingerprint 55 = .ok (.i2l, 1) := by decide +kernel
theorem dX7_fingerprint_56 : decode cX7_fingerprint 56 = .ok (.ladd, 1) := by decide +kernel
theorem dX7_fingerprint_57 : decode cX7_fingerprint 57 = .ok (.lstore_n 1, 1) := by decide +kernel
theorem dX7_fingerprint_58 : decode cX7_fingerprint 58 = .ok (.iconst 0, 1) := by decide +kernel
theorem dX7_fingerprint_59 : decode cX7_fingerprint 59 = .ok (.istore_n 3, 1) := by decide +kernel
theorem dX7_fingerprint_60 : decode cX7_fingerprint 60 = .ok (.iload_n 3, 1) := by decide +kernel
theorem dX7_fingerprint_61 : decode cX7_fingerprint 61 = .ok (.aload_n 0, 1) := by decide +kernel
theorem dX7_fingerprint_62 : decode cX7_fingerprint 62 = .ok (.getfield 12, 3) := by decide +kernel
theorem dX7_fingerprint_65 : decode cX7_fingerprint 65 = .ok (.getfield 39, 3) := by decide +kernel
theorem dX7_fingerprint_68 : decode cX7_fingerprint 68 = .ok (.if_icmp .ge 39, 3) := by decide +kernel
theorem dX7_fingerprint_71 : decode cX7_fingerprint 71 = .ok (.iconst 0, 1) := by decide +kernel
theorem dX7_fingerprint_72 : decode cX7_fingerprint 72 = .ok (.istore 4, 2) := by decide +kernel
theorem dX7_fingerprint_74 : decode cX7_fingerprint 74 = .ok (.iload 4, 2) := by decide +kernel
theorem dX7_fingerprint_76 : decode cX7_fingerprint 76 = .ok (.iconst 4, 1) := by decide +kernel
theorem dX7_fingerprint_77 : decode cX7_fingerprint 77 = .ok (.if_icmp .gt 24, 3) := by decide +kernel
theorem dX7_fingerprint_80 : decode cX7_fingerprint 80 = .ok (.ldc2_w 272, 3) := by decide +kernel
theorem dX7_fingerprint_83 : decode cX7_fingerprint 83 = .ok (.lload_n 1, 1) := by decide +kernel
theorem dX7_fingerprint_84 : decode cX7_fingerprint 84 = .ok (.lmul, 1) := by decide +kernel
theorem dX7_fingerprint_85 : decode cX7_fingerprint 85 = .ok (.aload_n 0, 1) := by decide +kernel
theorem dX7_fingerprint_86 : decode cX7_fingerprint 86 = .ok (.iload_n 3, 1) := by decide +kernel
theorem dX7_fingerprint_87 : decode cX7_fingerprint 87 = .ok (.iload 4, 2) := by decide +kernel
theorem dX7_fingerprint_89 : decode cX7_fingerprint 89 = .ok (.invokevirtual 284, 3) := by decide +kernel
theorem dX7_fingerprint_92 : decode cX7_fingerprint 92 = .ok (.i2l, 1) := by decide +kernel
theorem dX7_fingerprint_93 : decode cX7_fingerprint 93 = .ok (.ladd, 1) := by decide +kernel
theorem dX7_fingerprint_94 : decode cX7_fingerprint 94 = .ok (.lstore_n 1, 1) := by decide +kernel
theorem dX7_fingerprint_95 : decode cX7_fingerprint 95 = .ok (.iinc 4 1, 3) := by decide +kernel
theorem dX7_fingerprint_98 : decode cX7_fingerprint 98 = .ok (.goto (-24), 3) := by decide +kernel
theorem dX7_fingerprint_101 : decode cX7_fingerprint 101 = .ok (.iinc 3 1, 3) := by decide +kernel
theorem dX7_fingerprint_104 : decode cX7_fingerprint 104 = .ok (.goto (-44), 3) := by decide +kernel
theorem dX7_fingerprint_107 : decode cX7_fingerprint 107 = .ok (.aload_n 0, 1) := by decide +kernel
theorem dX7_fingerprint_108 : decode cX7_fingerprint 108 = .ok (.getfield 12, 3) := by decide +kernel
theorem dX7_fingerprint_111 : decode cX7_fingerprint 111 = .ok (.getfield 35, 3) := by decide +kernel
theorem dX7_fingerprint_114 : decode cX7_fingerprint 114 = .ok (.ifCond .ne 5, 3) := by decide +kernel
theorem dX7_fingerprint_117 : decode cX7_fingerprint 117 = .ok (.lload_n 1, 1) := by decide +kernel
theorem dX7_fingerprint_118 : decode cX7_fingerprint 118 = .ok (.lreturn, 1) := by decide +kernel
theorem dX7_fingerprint_119 : decode cX7_fingerprint 119 = .ok (.iconst 0, 1) := by decide +kernel
theorem dX7_fingerprint_120 : decode cX7_fingerprint 120 = .ok (.istore_n 3, 1) := by decide +kernel
theorem dX7_fingerprint_121 : decode cX7_fingerprint 121 = .ok (.iload_n 3, 1) := by decide +kernel
theorem dX7_fingerprint_122 : decode cX7_fingerprint 122 = .ok (.iconst 3, 1) := by decide +kernel
theorem dX7_fingerprint_123 : decode cX7_fingerprint 123 = .ok (.if_icmp .gt 22, 3) := by decide +kernel
theorem dX7_fingerprint_126 : decode cX7_fingerprint 126 = .ok (.ldc2_w 272, 3) := by decide +kernel
theorem dX7_fingerprint_129 : decode cX7_fingerprint 129 = .ok (.lload_n 1, 1) := by decide +kernel
theorem dX7_fingerprint_130 : decode cX7_fingerprint 130 = .ok (.lmul, 1) := by decide +kernel
theorem dX7_fingerprint_131 : decode cX7_fingerprint 131 = .ok (.aload_n 0, 1) := by decide +kernel
theorem dX7_fingerprint_132 : decode cX7_fingerprint 132 = .ok (.iload_n 3, 1) := by decide +kernel
theorem dX7_fingerprint_133 : decode cX7_fingerprint 133 = .ok (.invokevirtual 287, 3) := by decide +kernel
theorem dX7_fingerprint_136 : decode cX7_fingerprint 136 = .ok (.i2l, 1) := by decide +kernel
theorem dX7_fingerprint_137 : decode cX7_fingerprint 137 = .ok (.ladd, 1) := by decide +kernel
theorem dX7_fingerprint_138 : decode cX7_fingerprint 138 = .ok (.lstore_n 1, 1) := by decide +kernel
theorem dX7_fingerprint_139 : decode cX7_fingerprint 139 = .ok (.iinc 3 1, 3) := by decide +kernel
theorem dX7_fingerprint_142 : decode cX7_fingerprint 142 = .ok (.goto (-21), 3) := by decide +kernel
theorem dX7_fingerprint_145 : decode cX7_fingerprint 145 = .ok (.iconst 0, 1) := by decide +kernel
theorem dX7_fingerprint_146 : decode cX7_fingerprint 146 = .ok (.istore_n 3, 1) := by decide +kernel
theorem dX7_fingerprint_147 : decode cX7_fingerprint 147 = .ok (.iload_n 3, 1) := by decide +kernel
theorem dX7_fingerprint_148 : decode cX7_fingerprint 148 = .ok (.aload_n 0, 1) := by decide +kernel
theorem dX7_fingerprint_149 : decode cX7_fingerprint 149 = .ok (.getfield 12, 3) := by decide +kernel
theorem dX7_fingerprint_152 : decode cX7_fingerprint 152 = .ok (.getfield 39, 3) := by decide +kernel
theorem dX7_fingerprint_155 : decode cX7_fingerprint 155 = .ok (.if_icmp .ge 22, 3) := by decide +kernel
theorem dX7_fingerprint_158 : decode cX7_fingerprint 158 = .ok (.ldc2_w 272, 3) := by decide +kernel
theorem dX7_fingerprint_161 : decode cX7_fingerprint 161 = .ok (.lload_n 1, 1) := by decide +kernel
theorem dX7_fingerprint_162 : decode cX7_fingerprint 162 = .ok (.lmul, 1) := by decide +kernel
theorem dX7_fingerprint_163 : decode cX7_fingerprint 163 = .ok (.aload_n 0, 1) := by decide +kernel
theorem dX7_fingerprint_164 : decode cX7_fingerprint 164 = .ok (.iload_n 3, 1) := by decide +kernel
theorem dX7_fingerprint_165 : decode cX7_fingerprint 165 = .ok (.invokevirtual 290, 3) := by decide +kernel
theorem dX7_fingerprint_168 : decode cX7_fingerprint 168 = .ok (.i2l, 1) := by decide +kernel
theorem dX7_fingerprint_169 : decode cX7_fingerprint 169 = .ok (.ladd, 1) := by decide +kernel
theorem dX7_fingerprint_170 : decode cX7_fingerprint 170 = .ok (.lstore_n 1, 1) := by decide +kernel
theorem dX7_fingerprint_171 : decode cX7_fingerprint 171 = .ok (.iinc 3 1, 3) := by decide +kernel
theorem dX7_fingerprint_174 : decode cX7_fingerprint 174 = .ok (.goto (-27), 3) := by decide +kernel
theorem dX7_fingerprint_177 : decode cX7_fingerprint 177 = .ok (.lload_n 1, 1) := by decide +kernel
theorem dX7_fingerprint_178 : decode cX7_fingerprint 178 = .ok (.lreturn, 1) := by decide +kernel
theorem dX7_isWithin_0 : decode cX7_isWithin 0 = .ok (.iload_n 0, 1) := by decide +kernel
theorem dX7_isWithin_1 : decode cX7_isWithin 1 = .ok (.iload_n 1, 1) := by decide +kernel
theorem dX7_isWithin_2 : decode cX7_isWithin 2 = .ok (.if_icmp .lt 12, 3) := by decide +kernel
theorem dX7_isWithin_5 : decode cX7_isWithin 5 = .ok (.iload_n 0, 1) := by decide +kernel
theorem dX7_isWithin_6 : decode cX7_isWithin 6 = .ok (.iload_n 2, 1) := by decide +kernel
theorem dX7_isWithin_7 : decode cX7_isWithin 7 = .ok (.if_icmp .gt 7, 3) := by decide +kernel
theorem dX7_isWithin_10 : decode cX7_isWithin 10 = .ok (.iconst 1, 1) := by decide +kernel
theorem dX7_isWithin_11 : decode cX7_isWithin 11 = .ok (.goto 4, 3) := by decide +kernel
theorem dX7_isWithin_14 : decode cX7_isWithin 14 = .ok (.iconst 0, 1) := by decide +kernel
theorem dX7_isWithin_15 : decode cX7_isWithin 15 = .ok (.ireturn, 1) := by decide +kernel
theorem dX7_isSlowTask_0 : decode cX7_isSlowTask 0 = .ok (.iload_n 0, 1) := by decide +kernel
theorem dX7_isSlowTask_1 : decode cX7_isSlowTask 1 = .ok (.iconst 2, 1) := by decide +kernel
theorem dX7_isSlowTask_2 : decode cX7_isSlowTask 2 = .ok (.ldc 228, 2) := by decide +kernel
theorem dX7_isSlowTask_4 : decode cX7_isSlowTask 4 = .ok (.invokestatic 31, 3) := by decide +kernel
theorem dX7_isSlowTask_7 : decode cX7_isSlowTask 7 = .ok (.ifCond .eq 18, 3) := by decide +kernel
theorem dX7_isSlowTask_10 : decode cX7_isSlowTask 10 = .ok (.iload_n 1, 1) := by decide +kernel
theorem dX7_isSlowTask_11 : decode cX7_isSlowTask 11 = .ok (.iconst 0, 1) := by decide +kernel
theorem dX7_isSlowTask_12 : decode cX7_isSlowTask 12 = .ok (.sipush 5000, 3) := by decide +kernel
theorem dX7_isSlowTask_15 : decode cX7_isSlowTask 15 = .ok (.invokestatic 31, 3) := by decide +kernel
theorem dX7_isSlowTask_18 : decode cX7_isSlowTask 18 = .ok (.ifCond .eq 7, 3) := by decide +kernel
theorem dX7_isSlowTask_21 : decode cX7_isSlowTask 21 = .ok (.iconst 1, 1) := by decide +kernel
theorem dX7_isSlowTask_22 : decode cX7_isSlowTask 22 = .ok (.goto 4, 3) := by decide +kernel
theorem dX7_isSlowTask_25 : decode cX7_isSlowTask 25 = .ok (.iconst 0, 1) := by decide +kernel
theorem dX7_isSlowTask_26 : decode cX7_isSlowTask 26 = .ok (.ireturn, 1) := by decide +kernel
theorem dX7_has_0 : decode cX7_has 0 = .ok (.iload_n 0, 1) := by decide +kernel
theorem dX7_has_1 : decode cX7_has 1 = .ok (.iload_n 1, 1) := by decide +kernel
theorem dX7_has_2 : decode cX7_has 2 = .ok (.iushr, 1) := by decide +kernel
theorem dX7_has_3 : decode cX7_has 3 = .ok (.iconst 1, 1) := by decide +kernel
theorem dX7_has_4 : decode cX7_has 4 = .ok (.iand, 1) := by decide +kernel
theorem dX7_has_5 : decode cX7_has 5 = .ok (.iconst 1, 1) := by decide +kernel
theorem dX7_has_6 : decode cX7_has 6 = .ok (.if_icmp .ne 7, 3) := by decide +kernel
theorem dX7_has_9 : decode cX7_has 9 = .ok (.iconst 1, 1) := by decide +kernel
theorem dX7_has_10 : decode cX7_has 10 = .ok (.goto 4, 3) := by decide +kernel
theorem dX7_has_13 : decode cX7_has 13 = .ok (.iconst 0, 1) := by decide +kernel
theorem dX7_has_14 : decode cX7_has 14 = .ok (.ireturn, 1) := by decide +kernel
theorem dX7_smallest_0 : decode cX7_smallest 0 = .ok (.iconst 0, 1) := by decide +kernel
theorem dX7_smallest_1 : decode cX7_smallest 1 = .ok (.istore_n 2, 1) := by decide +kernel
theorem dX7_smallest_2 : decode cX7_smallest 2 = .ok (.iconst 0, 1) := by decide +kernel
theorem dX7_smallest_3 : decode cX7_smallest 3 = .ok (.istore_n 3, 1) := by decide +kernel
theorem dX7_smallest_4 : decode cX7_smallest 4 = .ok (.iload_n 3, 1) := by decide +kernel
theorem dX7_smallest_5 : decode cX7_smallest 5 = .ok (.bipush 8, 2) := by decide +kernel
theorem dX7_smallest_7 : decode cX7_smallest 7 = .ok (.if_icmp .ge 31, 3) := by decide +kernel
theorem dX7_smallest_10 : decode cX7_smallest 10 = .ok (.iload_n 0, 1) := by decide +kernel
theorem dX7_smallest_11 : decode cX7_smallest 11 = .ok (.iload_n 3, 1) := by decide +kernel
theorem dX7_smallest_12 : decode cX7_smallest 12 = .ok (.invokestatic 98, 3) := by decide +kernel
theorem dX7_smallest_15 : decode cX7_smallest 15 = .ok (.ifCond .eq 17, 3) := by decide +kernel
theorem dX7_smallest_18 : decode cX7_smallest 18 = .ok (.iload_n 2, 1) := by decide +kernel
theorem dX7_smallest_19 : decode cX7_smallest 19 = .ok (.invokestatic 174, 3) := by decide +kernel
theorem dX7_smallest_22 : decode cX7_smallest 22 = .ok (.iload_n 1, 1) := by decide +kernel
theorem dX7_smallest_23 : decode cX7_smallest 23 = .ok (.if_icmp .ge 9, 3) := by decide +kernel
theorem dX7_smallest_26 : decode cX7_smallest 26 = .ok (.iload_n 2, 1) := by decide +kernel
theorem dX7_smallest_27 : decode cX7_smallest 27 = .ok (.iconst 1, 1) := by decide +kernel
theorem dX7_smallest_28 : decode cX7_smallest 28 = .ok (.iload_n 3, 1) := by decide +kernel
theorem dX7_smallest_29 : decode cX7_smallest 29 = .ok (.ishl, 1) := by decide +kernel
theorem dX7_smallest_30 : decode cX7_smallest 30 = .ok (.ior, 1) := by decide +kernel
theorem dX7_smallest_31 : decode cX7_smallest 31 = .ok (.istore_n 2, 1) := by decide +kernel
theorem dX7_smallest_32 : decode cX7_smallest 32 = .ok (.iinc 3 1, 3) := by decide +kernel
theorem dX7_smallest_35 : decode cX7_smallest 35 = .ok (.goto (-31), 3) := by decide +kernel
theorem dX7_smallest_38 : decode cX7_smallest 38 = .ok (.iload_n 2, 1) := by decide +kernel
theorem dX7_smallest_39 : decode cX7_smallest 39 = .ok (.ireturn, 1) := by decide +kernel
theorem dX7_mix_0 : decode cX7_mix 0 = .ok (.iload_n 0, 1) := by decide +kernel
theorem dX7_mix_1 : decode cX7_mix 1 = .ok (.iload_n 1, 1) := by decide +kernel
theorem dX7_mix_2 : decode cX7_mix 2 = .ok (.ixor, 1) := by decide +kernel
theorem dX7_mix_3 : decode cX7_mix 3 = .ok (.ldc_w 292, 3) := by decide +kernel
theorem dX7_mix_6 : decode cX7_mix 6 = .ok (.imul, 1) := by decide +kernel
theorem dX7_mix_7 : decode cX7_mix 7 = .ok (.istore_n 2, 1) := by decide +kernel
theorem dX7_mix_8 : decode cX7_mix 8 = .ok (.iload_n 2, 1) := by decide +kernel
theorem dX7_mix_9 : decode cX7_mix 9 = .ok (.iload_n 2, 1) := by decide +kernel
theorem dX7_mix_10 : decode cX7_mix 10 = .ok (.bipush 15, 2) := by decide +kernel
theorem dX7_mix_12 : decode cX7_mix 12 = .ok (.iushr, 1) := by decide +kernel
theorem dX7_mix_13 : decode cX7_mix 13 = .ok (.ixor, 1) := by decide +kernel
theorem dX7_mix_14 : decode cX7_mix 14 = .ok (.ireturn, 1) := by decide +kernel
theorem dX7_stepped_0 : decode cX7_stepped 0 = .ok (.ldc_w 293, 3) := by decide +kernel
theorem dX7_stepped_3 : decode cX7_stepped 3 = .ok (.iload_n 0, 1) := by decide +kernel
theorem dX7_stepped_4 : decode cX7_stepped 4 = .ok (.imul, 1) := by decide +kernel
theorem dX7_stepped_5 : decode cX7_stepped 5 = .ok (.sipush 12345, 3) := by decide +kernel
theorem dX7_stepped_8 : decode cX7_stepped 8 = .ok (.iadd, 1) := by decide +kernel
theorem dX7_stepped_9 : decode cX7_stepped 9 = .ok (.ireturn, 1) := by decide +kernel
theorem dX7_drawn_0 : decode cX7_drawn 0 = .ok (.iload_n 0, 1) := by decide +kernel
theorem dX7_drawn_1 : decode cX7_drawn 1 = .ok (.bipush 16, 2) := by decide +kernel
theorem dX7_drawn_3 : decode cX7_drawn 3 = .ok (.iushr, 1) := by decide +kernel
theorem dX7_drawn_4 : decode cX7_drawn 4 = .ok (.ireturn, 1) := by decide +kernel
theorem dX7_product_0 : decode cX7_product 0 = .ok (.iload_n 2, 1) := by decide +kernel
theorem dX7_product_1 : decode cX7_product 1 = .ok (.iconst 1, 1) := by decide +kernel
theorem dX7_product_2 : decode cX7_product 2 = .ok (.if_icmp .ge 5, 3) := by decide +kernel
theorem dX7_product_5 : decode cX7_product 5 = .ok (.iconst 0, 1) := by decide +kernel
theorem dX7_product_6 : decode cX7_product 6 = .ok (.ireturn, 1) := by decide +kernel
theorem dX7_product_7 : decode cX7_product 7 = .ok (.iload_n 0, 1) := by decide +kernel
theorem dX7_product_8 : decode cX7_product 8 = .ok (.i2l, 1) := by decide +kernel
theorem dX7_product_9 : decode cX7_product 9 = .ok (.iload_n 1, 1) := by decide +kernel
theorem dX7_product_10 : decode cX7_product 10 = .ok (.i2l, 1) := by decide +kernel
theorem dX7_product_11 : decode cX7_product 11 = .ok (.lmul, 1) := by decide +kernel
theorem dX7_product_12 : decode cX7_product 12 = .ok (.iload_n 2, 1) := by decide +kernel
theorem dX7_product_13 : decode cX7_product 13 = .ok (.i2l, 1) := by decide +kernel
theorem dX7_product_14 : decode cX7_product 14 = .ok (.lrem, 1) := by decide +kernel
theorem dX7_product_15 : decode cX7_product 15 = .ok (.l2i, 1) := by decide +kernel
theorem dX7_product_16 : decode cX7_product 16 = .ok (.ireturn, 1) := by decide +kernel
theorem dX7_power_0 : decode cX7_power 0 = .ok (.iconst 1, 1) := by decide +kernel
theorem dX7_power_1 : decode cX7_power 1 = .ok (.istore_n 3, 1) := by decide +kernel
theorem dX7_power_2 : decode cX7_power 2 = .ok (.bipush 30, 2) := by decide +kernel
theorem dX7_power_4 : decode cX7_power 4 = .ok (.istore 4, 2) := by decide +kernel
theorem dX7_power_6 : decode cX7_power 6 = .ok (.iload 4, 2) := by decide +kernel
theorem dX7_power_8 : decode cX7_power 8 = .ok (.ifCond .lt 32, 3) := by decide +kernel
theorem dX7_power_11 : decode cX7_power 11 = .ok (.iload_n 3, 1) := by decide +kernel
theorem dX7_power_12 : decode cX7_power 12 = .ok (.iload_n 3, 1) := by decide +kernel
theorem dX7_power_13 : decode cX7_power 13 = .ok (.iload_n 2, 1) := by decide +kernel
theorem dX7_power_14 : decode cX7_power 14 = .ok (.invokestatic 294, 3) := by decide +kernel
theorem dX7_power_17 : decode cX7_power 17 = .ok (.istore_n 3, 1) := by decide +kernel
theorem dX7_power_18 : decode cX7_power 18 = .ok (.iload_n 1, 1) := by decide +kernel
theorem dX7_power_19 : decode cX7_power 19 = .ok (.iload 4, 2) := by decide +kernel
theorem dX7_power_21 : decode cX7_power 21 = .ok (.invokestatic 98, 3) := by decide +kernel
theorem dX7_power_24 : decode cX7_power 24 = .ok (.ifCond .eq 10, 3) := by decide +kernel
theorem dX7_power_27 : decode cX7_power 27 = .ok (.iload_n 3, 1) := by decide +kernel
theorem dX7_power_28 : decode cX7_power 28 = .ok (.iload_n 0, 1) := by decide +kernel
theorem dX7_power_29 : decode cX7_power 29 = .ok (.iload_n 2, 1) := by decide +kernel
theorem dX7_power_30 : decode cX7_power 30 = .ok (.invokestatic 294, 3) := by decide +kernel
theorem dX7_power_33 : decode cX7_power 33 = .ok (.istore_n 3, 1) := by decide +kernel
theorem dX7_power_34 : decode cX7_power 34 = .ok (.iinc 4 (-1), 3) := by decide +kernel
theorem dX7_power_37 : decode cX7_power 37 = .ok (.goto (-31), 3) := by decide +kernel
theorem dX7_power_40 : decode cX7_power 40 = .ok (.iload_n 3, 1) := by decide +kernel
theorem dX7_power_41 : decode cX7_power 41 = .ok (.ireturn, 1) := by decide +kernel
theorem dX8_init_0 : decode cX8_init 0 = .ok (.aload_n 0, 1) := by decide +kernel
theorem dX8_init_1 : decode cX8_init 1 = .ok (.invokespecial 1, 3) := by decide +kernel
theorem dX8_init_4 : decode cX8_init 4 = .ok (.aload_n 0, 1) := by decide +kernel
theorem dX8_init_5 : decode cX8_init 5 = .ok (.sipush 420, 3) := by decide +kernel
theorem dX8_init_8 : decode cX8_init 8 = .ok (.newarray .int, 2) := by decide +kernel
theorem dX8_init_10 : decode cX8_init 10 = .ok (.putfield 7, 3) := by decide +kernel
theorem dX8_init_13 : decode cX8_init 13 = .ok (.aload_n 0, 1) := by decide +kernel
theorem dX8_init_14 : decode cX8_init 14 = .ok (.sipush 1680, 3) := by decide +kernel
theorem dX8_init_17 : decode cX8_init 17 = .ok (.newarray .int, 2) := by decide +kernel
theorem dX8_init_19 : decode cX8_init 19 = .ok (.putfield 13, 3) := by decide +kernel
theorem dX8_init_22 : decode cX8_init 22 = .ok (.aload_n 0, 1) := by decide +kernel
theorem dX8_init_23 : decode cX8_init 23 = .ok (.bipush 8, 2) := by decide +kernel
theorem dX8_init_25 : decode cX8_init 25 = .ok (.newarray .int, 2) := by decide +kernel
theorem dX8_init_27 : decode cX8_init 27 = .ok (.putfield 16, 3) := by decide +kernel
theorem dX8_init_30 : decode cX8_init 30 = .ok (.aload_n 0, 1) := by decide +kernel
theorem dX8_init_31 : decode cX8_init 31 = .ok (.sipush 256, 3) := by decide +kernel
theorem dX8_init_34 : decode cX8_init 34 = .ok (.newarray .int, 2) := by decide +kernel
theorem dX8_init_36 : decode cX8_init 36 = .ok (.putfield 19, 3) := by decide +kernel
theorem dX8_init_39 : decode cX8_init 39 = .ok (.aload_n 0, 1) := by decide +kernel
theorem dX8_init_40 : decode cX8_init 40 = .ok (.getfield 7, 3) := by decide +kernel
theorem dX8_init_43 : decode cX8_init 43 = .ok (.bipush 6, 2) := by decide +kernel
theorem dX8_init_45 : decode cX8_init 45 = .ok (.iconst 2, 1) := by decide +kernel
theorem dX8_init_46 : decode cX8_init 46 = .ok (.iastore, 1) := by decide +kernel
theorem dX8_init_47 : decode cX8_init 47 = .ok (.aload_n 0, 1) := by decide +kernel
theorem dX8_init_48 : decode cX8_init 48 = .ok (.getfield 7, 3) := by decide +kernel
theorem dX8_init_51 : decode cX8_init 51 = .ok (.bipush 7, 2) := by decide +kernel
theorem dX8_init_53 : decode cX8_init 53 = .ok (.bipush 10, 2) := by decide +kernel
theorem dX8_init_55 : decode cX8_init 55 = .ok (.iastore, 1) := by decide +kernel
theorem dX8_init_56 : decode cX8_init 56 = .ok (.aload_n 0, 1) := by decide +kernel
theorem dX8_init_57 : decode cX8_init 57 = .ok (.getfield 7, 3) := by decide +kernel
theorem dX8_init_60 : decode cX8_init 60 = .ok (.bipush 8, 2) := by decide +kernel
theorem dX8_init_62 : decode cX8_init 62 = .ok (.bipush 100, 2) := by decide +kernel
theorem dX8_init_64 : decode cX8_init 64 = .ok (.iastore, 1) := by decide +kernel
theorem dX8_init_65 : decode cX8_init 65 = .ok (.aload_n 0, 1) := by decide +kernel
theorem dX8_init_66 : decode cX8_init 66 = .ok (.getfield 7, 3) := by decide +kernel
theorem dX8_init_69 : decode cX8_init 69 = .ok (.bipush 12, 2) := by decide +kernel
theorem dX8_init_71 : decode cX8_init 71 = .ok (.iconst (-1), 1) := by decide +kernel
theorem dX8_init_72 : decode cX8_init 72 = .ok (.iastore, 1) := by decide +kernel
theorem dX8_init_73 : decode cX8_init 73 = .ok (.return_, 1) := by decide +kernel
theorem dX8_in_0 : decode cX8_in 0 = .ok (.iload_n 0, 1) := by decide +kernel
theorem dX8_in_1 : decode cX8_in 1 = .ok (.iload_n 1, 1) := by decide +kernel
theorem dX8_in_2 : decode cX8_in 2 = .ok (.if_icmp .lt 12, 3) := by decide +kernel
theorem dX8_in_5 : decode cX8_in 5 = .ok (.iload_n 0, 1) := by decide +kernel
theorem dX8_in_6 : decode cX8_in 6 = .ok (.iload_n 2, 1) := by decide +kernel
theorem dX8_in_7 : decode cX8_in 7 = .ok (.if_icmp .gt 7, 3) := by decide +kernel
theorem dX8_in_10 : decode cX8_in 10 = .ok (.iconst 1, 1) := by decide +kernel
theorem dX8_in_11 : decode cX8_in 11 = .ok (.goto 4, 3) := by decide +kernel
theorem dX8_in_14 : decode cX8_in 14 = .ok (.iconst 0, 1) := by decide +kernel
theorem dX8_in_15 : decode cX8_in 15 = .ok (.ireturn, 1) := by decide +kernel
theorem dX8_act_0 : decode cX8_act 0 = .ok (.aload_n 0, 1) := by decide +kernel
theorem dX8_act_1 : decode cX8_act 1 = .ok (.getfield 22, 3) := by decide +kernel
theorem dX8_act_4 : decode cX8_act 4 = .ok (.iconst 4, 1) := by decide +kernel
theorem dX8_act_5 : decode cX8_act 5 = .ok (.if_icmp .ne 44, 3) := by decide +kernel
theorem dX8_act_8 : decode cX8_act 8 = .ok (.iconst 0, 1) := by decide +kernel
theorem dX8_act_9 : decode cX8_act 9 = .ok (.istore_n 1, 1) := by decide +kernel
theorem dX8_act_10 : decode cX8_act 10 = .ok (.iload_n 1, 1) := by decide +kernel
theorem dX8_act_11 : decode cX8_act 11 = .ok (.sipush 1260, 3) := by decide +kernel
theorem dX8_act_14 : decode cX8_act 14 = .ok (.if_icmp .ge 25, 3) := by decide +kernel
theorem dX8_act_17 : decode cX8_act 17 = .ok (.aload_n 0, 1) := by decide +kernel
theorem dX8_act_18 : decode cX8_act 18 = .ok (.getfield 13, 3) := by decide +kernel
theorem dX8_act_21 : decode cX8_act 21 = .ok (.iload_n 1, 1) := by decide +kernel
theorem dX8_act_22 : decode cX8_act 22 = .ok (.aload_n 0, 1) := by decide +kernel
theorem dX8_act_23 : decode cX8_act 23 = .ok (.getfield 13, 3) := by decide +kernel
theorem dX8_act_26 : decode cX8_act 26 = .ok (.iload_n 1, 1) := by decide +kernel
theorem dX8_act_27 : decode cX8_act 27 = .ok (.sipush 420, 3) := by decide +kernel
theorem dX8_act_30 : decode cX8_act 30 = .ok (.iadd, 1) := by decide +kernel
theorem dX8_act_31 : decode cX8_act 31 = .ok (.iaload, 1) := by decide +kernel
theorem dX8_act_32 : decode cX8_act 32 = .ok (.iastore, 1) := by decide +kernel
theorem dX8_act_33 : decode cX8_act 33 = .ok (.iinc 1 1, 3) := by decide +kernel
theorem dX8_act_36 : decode cX8_act 36 = .ok (.goto (-26), 3) := by decide +kernel
theorem dX8_act_39 : decode cX8_act 39 = .ok (.aload_n 0, 1) := by decide +kernel
theorem dX8_act_40 : decode cX8_act 40 = .ok (.dup, 1) := by decide +kernel
theorem dX8_act_41 : decode cX8_act 41 = .ok (.getfield 22, 3) := by decide +kernel
theorem dX8_act_44 : decode cX8_act 44 = .ok (.iconst 1, 1) := by decide +kernel
theorem dX8_act_45 : decode cX8_act 45 = .ok (.isub, 1) := by decide +kernel
theorem dX8_act_46 : decode cX8_act 46 = .ok (.putfield 22, 3) := by decide +kernel
theorem dX8_act_49 : decode cX8_act 49 = .ok (.iconst 0, 1) := by decide +kernel
theorem dX8_act_50 : decode cX8_act 50 = .ok (.istore_n 1, 1) := by decide +kernel
theorem dX8_act_51 : decode cX8_act 51 = .ok (.iload_n 1, 1) := by decide +kernel
theorem dX8_act_52 : decode cX8_act 52 = .ok (.sipush 420, 3) := by decide +kernel
theorem dX8_act_55 : decode cX8_act 55 = .ok (.if_icmp .ge 30, 3) := by decide +kernel
theorem dX8_act_58 : decode cX8_act 58 = .ok (.aload_n 0, 1) := by decide +kernel
theorem dX8_act_59 : decode cX8_act 59 = .ok (.getfield 13, 3) := by decide +kernel
theorem dX8_act_62 : decode cX8_act 62 = .ok (.sipush 420, 3) := by decide +kernel
theorem dX8_act_65 : decode cX8_act 65 = .ok (.aload_n 0, 1) := by decide +kernel
theorem dX8_act_66 : decode cX8_act 66 = .ok (.getfield 22, 3) := by decide +kernel
theorem dX8_act_69 : decode cX8_act 69 = .ok (.imul, 1) := by decide +kernel
theorem dX8_act_70 : decode cX8_act 70 = .ok (.iload_n 1, 1) := by decide +kernel
theorem dX8_act_71 : decode cX8_act 71 = .ok (.iadd, 1) := by decide +kernel
theorem dX8_act_72 : decode cX8_act 72 = .ok (.aload_n 0, 1) := by decide +kernel
theorem dX8_act_73 : decode cX8_act 73 = .ok (.getfield 7, 3) := by decide +kernel
theorem dX8_act_76 : decode cX8_act 76 = .ok (.iload_n 1, 1) := by decide +kernel
theorem dX8_act_77 : decode cX8_act 77 = .ok (.iaload, 1) := by decide +kernel
theorem dX8_act_78 : decode cX8_act 78 = .ok (.iastore, 1) := by decide +kernel
theorem dX8_act_79 : decode cX8_act 79 = .ok (.iinc 1 1, 3) := by decide +kernel
theorem dX8_act_82 : decode cX8_act 82 = .ok (.goto (-31), 3) := by decide +kernel
theorem dX8_act_85 : decode cX8_act 85 = .ok (.aload_n 0, 1) := by decide +kernel
theorem dX8_act_86 : decode cX8_act 86 = .ok (.dup, 1) := by decide +kernel
theorem dX8_act_87 : decode cX8_act 87 = .ok (.getfield 22, 3) := by decide +kernel
theorem dX8_act_90 : decode cX8_act 90 = .ok (.iconst 1, 1) := by decide +kernel
theorem dX8_act_91 : decode cX8_act 91 = .ok (.iadd, 1) := by decide +kernel
theorem dX8_act_92 : decode cX8_act 92 = .ok (.putfield 22, 3) := by decide +kernel
theorem dX8_act_95 : decode cX8_act 95 = .ok (.return_, 1) := by decide +kernel
theorem dX8_mix_0 : decode cX8_mix 0 = .ok (.iload_n 0, 1) := by decide +kernel
theorem dX8_mix_1 : decode cX8_mix 1 = .ok (.iload_n 1, 1) := by decide +kernel
theorem dX8_mix_2 : decode cX8_mix 2 = .ok (.ixor, 1) := by decide +kernel
theorem dX8_mix_3 : decode cX8_mix 3 = .ok (.ldc 26, 2) := by decide +kernel
theorem dX8_mix_5 : decode cX8_mix 5 = .ok (.imul, 1) := by decide +kernel
theorem dX8_mix_6 : decode cX8_mix 6 = .ok (.istore_n 2, 1) := by decide +kernel
theorem dX8_mix_7 : decode cX8_mix 7 = .ok (.iload_n 2, 1) := by decide +kernel
theorem dX8_mix_8 : decode cX8_mix 8 = .ok (.iload_n 2, 1) := by decide +kernel
theorem dX8_mix_9 : decode cX8_mix 9 = .ok (.bipush 15, 2) := by decide +kernel
theorem dX8_mix_11 : decode cX8_mix 11 = .ok (.iushr, 1) := by decide +kernel
theorem dX8_mix_12 : decode cX8_mix 12 = .ok (.ixor, 1) := by decide +kernel
theorem dX8_mix_13 : decode cX8_mix 13 = .ok (.ireturn, 1) := by decide +kernel
theorem dX8_draw_0 : decode cX8_draw 0 = .ok (.aload_n 0, 1) := by decide +kernel
theorem dX8_draw_1 : decode cX8_draw 1 = .ok (.ldc 27, 2) := by decide +kernel
theorem dX8_draw_3 : decode cX8_draw 3 = .ok (.aload_n 0, 1) := by decide +kernel
theorem dX8_draw_4 : decode cX8_draw 4 = .ok (.getfield 28, 3) := by decide +kernel
theorem dX8_draw_7 : decode cX8_draw 7 = .ok (.imul, 1) := by decide +kernel
theorem dX8_draw_8 : decode cX8_draw 8 = .ok (.sipush 12345, 3) := by decide +kernel
theorem dX8_draw_11 : decode cX8_draw 11 = .ok (.iadd, 1) := by decide +kernel
theorem dX8_draw_12 : decode cX8_draw 12 = .ok (.putfield 28, 3) := by decide +kernel
theorem dX8_draw_15 : decode cX8_draw 15 = .ok (.aload_n 0, 1) := by decide +kernel
theorem dX8_draw_16 : decode cX8_draw 16 = .ok (.getfield 28, 3) := by decide +kernel
theorem dX8_draw_19 : decode cX8_draw 19 = .ok (.bipush 16, 2) := by decide +kernel
theorem dX8_draw_21 : decode cX8_draw 21 = .ok (.iushr, 1) := by decide +kernel
theorem dX8_draw_22 : decode cX8_draw 22 = .ok (.ireturn, 1) := by decide +kernel
theorem dX8_person_0 : decode cX8_person 0 = .ok (.bipush 20, 2) := by decide +kernel
theorem dX8_person_2 : decode cX8_person 2 = .ok (.bipush 40, 2) := by decide +kernel
theorem dX8_person_4 : decode cX8_person 4 = .ok (.iload_n 0, 1) := by decide +kernel
theorem dX8_person_5 : decode cX8_person 5 = .ok (.imul, 1) := by decide +kernel
theorem dX8_person_6 : decode cX8_person 6 = .ok (.iadd, 1) := by decide +kernel
theorem dX8_person_7 : decode cX8_person 7 = .ok (.ireturn, 1) := by decide +kernel
theorem dX8_isPerson_0 : decode cX8_isPerson 0 = .ok (.iload_n 1, 1) := by decide +kernel
theorem dX8_isPerson_1 : decode cX8_isPerson 1 = .ok (.iconst 0, 1) := by decide +kernel
theorem dX8_isPerson_2 : decode cX8_isPerson 2 = .ok (.aload_n 0, 1) := by decide +kernel
theorem dX8_isPerson_3 : decode cX8_isPerson 3 = .ok (.getfield 7, 3) := by decide +kernel
theorem dX8_isPerson_6 : decode cX8_isPerson 6 = .ok (.iconst 4, 1) := by decide +kernel
theorem dX8_isPerson_7 : decode cX8_isPerson 7 = .ok (.iaload, 1) := by decide +kernel
theorem dX8_isPerson_8 : decode cX8_isPerson 8 = .ok (.iconst 1, 1) := by decide +kernel
theorem dX8_isPerson_9 : decode cX8_isPerson 9 = .ok (.isub, 1) := by decide +kernel
theorem dX8_isPerson_10 : decode cX8_isPerson 10 = .ok (.invokestatic 31, 3) := by decide +kernel
theorem dX8_isPerson_13 : decode cX8_isPerson 13 = .ok (.ireturn, 1) := by decide +kernel
theorem dX8_has_0 : decode cX8_has 0 = .ok (.aload_n 0, 1) := by decide +kernel
theorem dX8_has_1 : decode cX8_has 1 = .ok (.getfield 7, 3) := by decide +kernel
theorem dX8_has_4 : decode cX8_has 4 = .ok (.iload_n 1, 1) := by decide +kernel
theorem dX8_has_5 : decode cX8_has 5 = .ok (.invokestatic 35, 3) := by decide +kernel
theorem dX8_has_8 : decode cX8_has 8 = .ok (.iload_n 2, 1) := by decide +kernel
theorem dX8_has_9 : decode cX8_has 9 = .ok (.iadd, 1) := by decide +kernel
theorem dX8_has_10 : decode cX8_has 10 = .ok (.iaload, 1) := by decide +kernel
theorem dX8_has_11 : decode cX8_has 11 = .ok (.iconst 1, 1) := by decide +kernel
theorem dX8_has_12 : decode cX8_has 12 = .ok (.if_icmp .ne 7, 3) := by decide +kernel
theorem dX8_has_15 : decode cX8_has 15 = .ok (.iconst 1, 1) := by decide +kernel
theorem dX8_has_16 : decode cX8_has 16 = .ok (.goto 4, 3) := by decide +kernel
theorem dX8_has_19 : decode cX8_has 19 = .ok (.iconst 0, 1) := by decide +kernel
theorem dX8_has_20 : decode cX8_has 20 = .ok (.ireturn, 1) := by decide +kernel
theorem dX8_isMember_0 : decode cX8_isMember 0 = .ok (.aload_n 0, 1) := by decide +kernel
theorem dX8_isMember_1 : decode cX8_isMember 1 = .ok (.iload_n 1, 1) := by decide +kernel
theorem dX8_isMember_2 : decode cX8_isMember 2 = .ok (.invokevirtual 39, 3) := by decide +kernel
theorem dX8_isMember_5 : decode cX8_isMember 5 = .ok (.ifCond .eq 16, 3) := by decide +kernel
theorem dX8_isMember_8 : decode cX8_isMember 8 = .ok (.aload_n 0, 1) := by decide +kernel
theorem dX8_isMember_9 : decode cX8_isMember 9 = .ok (.iload_n 1, 1) := by decide +kernel
theorem dX8_isMember_10 : decode cX8_isMember 10 = .ok (.iconst 5, 1) := by decide +kernel
theorem dX8_isMember_11 : decode cX8_isMember 11 = .ok (.invokevirtual 43, 3) := by decide +kernel
theorem dX8_isMember_14 : decode cX8_isMember 14 = .ok (.ifCond .eq 7, 3) := by decide +kernel
theorem dX8_isMember_17 : decode cX8_isMember 17 = .ok (.iconst 1, 1) := by decide +kernel
theorem dX8_isMember_18 : decode cX8_isMember 18 = .ok (.goto 4, 3) := by decide +kernel
theorem dX8_isMember_21 : decode cX8_isMember 21 = .ok (.iconst 0, 1) := by decide +kernel
theorem dX8_isMember_22 : decode cX8_isMember 22 = .ok (.ireturn, 1) := by decide +kernel
theorem dX8_setOf_0 : decode cX8_setOf 0 = .ok (.iconst 0, 1) := by decide +kernel
theorem dX8_setOf_1 : decode cX8_setOf 1 = .ok (.istore_n 2, 1) := by decide +kernel
theorem dX8_setOf_2 : decode cX8_setOf 2 = .ok (.iconst 0, 1) := by decide +kernel
theorem dX8_setOf_3 : decode cX8_setOf 3 = .ok (.istore_n 3, 1) := by decide +kernel
theorem dX8_setOf_4 : decode cX8_setOf 4 = .ok (.iload_n 3, 1) := by decide +kernel
theorem dX8_setOf_5 : decode cX8_setOf 5 = .ok (.aload_n 0, 1) := by decide +kernel
theorem dX8_setOf_6 : decode cX8_setOf 6 = .ok (.getfield 7, 3) := by decide +kernel
theorem dX8_setOf_9 : decode cX8_setOf 9 = .ok (.iconst 4, 1) := by decide +kernel
theorem dX8_setOf_10 : decode cX8_setOf 10 = .ok (.iaload, 1) := by decide +kernel
theorem dX8_setOf_11 : decode cX8_setOf 11 = .ok (.if_icmp .ge 28, 3) := by decide +kernel
theorem dX8_setOf_14 : decode cX8_setOf 14 = .ok (.iload_n 2, 1) := by decide +kernel
theorem dX8_setOf_15 : decode cX8_setOf 15 = .ok (.aload_n 0, 1) := by decide +kernel
theorem dX8_setOf_16 : decode cX8_setOf 16 = .ok (.iload_n 3, 1) := by decide +kernel
theorem dX8_setOf_17 : decode cX8_setOf 17 = .ok (.iload_n 1, 1) := by decide +kernel
theorem dX8_setOf_18 : decode cX8_setOf 18 = .ok (.invokevirtual 43, 3) := by decide +kernel
theorem dX8_setOf_21 : decode cX8_setOf 21 = .ok (.ifCond .eq 9, 3) := by decide +kernel
theorem dX8_setOf_24 : decode cX8_setOf 24 = .ok (.iconst 1, 1) := by decide +kernel
theorem dX8_setOf_25 : decode cX8_setOf 25 = .ok (.iload_n 3, 1) := by decide +kernel
theorem dX8_setOf_26 : decode cX8_setOf 26 = .ok (.ishl, 1) := by decide +kernel
theorem dX8_setOf_27 : decode cX8_setOf 27 = .ok (.goto 4, 3) := by decide +kernel
theorem dX8_setOf_30 : decode cX8_setOf 30 = .ok (.iconst 0, 1) := by decide +kernel
theorem dX8_setOf_31 : decode cX8_setOf 31 = .ok (.ior, 1) := by decide +kernel
theorem dX8_setOf_32 : decode cX8_setOf 32 = .ok (.istore_n 2, 1) := by decide +kernel
theorem dX8_setOf_33 : decode cX8_setOf 33 = .ok (.iinc 3 1, 3) := by decide +kernel
theorem dX8_setOf_36 : decode cX8_setOf 36 = .ok (.goto (-32), 3) := by decide +kernel
theorem dX8_setOf_39 : decode cX8_setOf 39 = .ok (.iload_n 2, 1) := by decide +kernel
theorem dX8_setOf_40 : decode cX8_setOf 40 = .ok (.ireturn, 1) := by decide +kernel
theorem dX8_countOf_0 : decode cX8_countOf 0 = .ok (.iconst 0, 1) := by decide +kernel
theorem dX8_countOf_1 : decode cX8_countOf 1 = .ok (.istore_n 1, 1) := by decide +kernel
theorem dX8_countOf_2 : decode cX8_countOf 2 = .ok (.iconst 0, 1) := by decide +kernel
theorem dX8_countOf_3 : decode cX8_countOf 3 = .ok (.istore_n 2, 1) := by decide +kernel
theorem dX8_countOf_4 : decode cX8_countOf 4 = .ok (.iload_n 2, 1) := by decide +kernel
theorem dX8_countOf_5 : decode cX8_countOf 5 = .ok (.bipush 8, 2) := by decide +kernel
theorem dX8_countOf_7 : decode cX8_countOf 7 = .ok (.if_icmp .ge 17, 3) := by decide +kernel
theorem dX8_countOf_10 : decode cX8_countOf 10 = .ok (.iload_n 1, 1) := by decide +kernel
theorem dX8_countOf_11 : decode cX8_countOf 11 = .ok (.iload_n 0, 1) := by decide +kernel
theorem dX8_countOf_12 : decode cX8_countOf 12 = .ok (.iload_n 2, 1) := by decide +kernel
theorem dX8_countOf_13 : decode cX8_countOf 13 = .ok (.ishr, 1) := by decide +kernel
theorem dX8_countOf_14 : decode cX8_countOf 14 = .ok (.iconst 1, 1) := by decide +kernel
theorem dX8_countOf_15 : decode cX8_countOf 15 = .ok (.iand, 1) := by decide +kernel
theorem dX8_countOf_16 : decode cX8_countOf 16 = .ok (.iadd, 1) := by decide +kernel
theorem dX8_countOf_17 : decode cX8_countOf 17 = .ok (.istore_n 1, 1) := by decide +kernel
theorem dX8_countOf_18 : decode cX8_countOf 18 = .ok (.iinc 2 1, 3) := by decide +kernel
theorem dX8_countOf_21 : decode cX8_countOf 21 = .ok (.goto (-17), 3) := by decide +kernel
theorem dX8_countOf_24 : decode cX8_countOf 24 = .ok (.iload_n 1, 1) := by decide +kernel
theorem dX8_countOf_25 : decode cX8_countOf 25 = .ok (.ireturn, 1) := by decide +kernel
theorem dX8_pays_0 : decode cX8_pays 0 = .ok (.aload_n 0, 1) := by decide +kernel
theorem dX8_pays_1 : decode cX8_pays 1 = .ok (.getfield 7, 3) := by decide +kernel
theorem dX8_pays_4 : decode cX8_pays 4 = .ok (.iload_n 1, 1) := by decide +kernel
theorem dX8_pays_5 : decode cX8_pays 5 = .ok (.invokestatic 35, 3) := by decide +kernel
theorem dX8_pays_8 : decode cX8_pays 8 = .ok (.iconst 0, 1) := by decide +kernel
theorem dX8_pays_9 : decode cX8_pays 9 = .ok (.iadd, 1) := by decide +kernel
theorem dX8_pays_10 : decode cX8_pays 10 = .ok (.iaload, 1) := by decide +kernel
theorem dX8_pays_11 : decode cX8_pays 11 = .ok (.aload_n 0, 1) := by decide +kernel
theorem dX8_pays_12 : decode cX8_pays 12 = .ok (.getfield 7, 3) := by decide +kernel
theorem dX8_pays_15 : decode cX8_pays 15 = .ok (.bipush 7, 2) := by decide +kernel
theorem dX8_pays_17 : decode cX8_pays 17 = .ok (.iaload, 1) := by decide +kernel
theorem dX8_pays_18 : decode cX8_pays 18 = .ok (.if_icmp .ge 17, 3) := by decide +kernel
theorem dX8_pays_21 : decode cX8_pays 21 = .ok (.aload_n 0, 1) := by decide +kernel
theorem dX8_pays_22 : decode cX8_pays 22 = .ok (.getfield 7, 3) := by decide +kernel
theorem dX8_pays_25 : decode cX8_pays 25 = .ok (.iload_n 1, 1) := by decide +kernel
theorem dX8_pays_26 : decode cX8_pays 26 = .ok (.invokestatic 35, 3) := by decide +kernel
theorem dX8_pays_29 : decode cX8_pays 29 = .ok (.iconst 0, 1) := by decide +kernel
theorem dX8_pays_30 : decode cX8_pays 30 = .ok (.iadd, 1) := by decide +kernel
theorem dX8_pays_31 : decode cX8_pays 31 = .ok (.iaload, 1) := by decide +kernel
theorem dX8_pays_32 : decode cX8_pays 32 = .ok (.goto 10, 3) := by decide +kernel
theorem dX8_pays_35 : decode cX8_pays 35 = .ok (.aload_n 0, 1) := by decide +kernel
theorem dX8_pays_36 : decode cX8_pays 36 = .ok (.getfield 7, 3) := by decide +kernel
theorem dX8_pays_39 : decode cX8_pays 39 = .ok (.bipush 7, 2) := by decide +kernel
theorem dX8_pays_41 : decode cX8_pays 41 = .ok (.iaload, 1) := by decide +kernel
theorem dX8_pays_42 : decode cX8_pays 42 = .ok (.istore_n 2, 1) := by decide +kernel
theorem dX8_pays_43 : decode cX8_pays 43 = .ok (.aload_n 0, 1) := by decide +kernel
theorem dX8_pays_44 : decode cX8_pays 44 = .ok (.getfield 7, 3) := by decide +kernel
theorem dX8_pays_47 : decode cX8_pays 47 = .ok (.iload_n 1, 1) := by decide +kernel
theorem dX8_pays_48 : decode cX8_pays 48 = .ok (.invokestatic 35, 3) := by decide +kernel
theorem dX8_pays_51 : decode cX8_pays 51 = .ok (.iconst 0, 1) := by decide +kernel
theorem dX8_pays_52 : decode cX8_pays 52 = .ok (.iadd, 1) := by decide +kernel
theorem dX8_pays_53 : decode cX8_pays 53 = .ok (.dup2, 1) := by decide +kernel
theorem dX8_pays_54 : decode cX8_pays 54 = .ok (.iaload, 1) := by decide +kernel
theorem dX8_pays_55 : decode cX8_pays 55 = .ok (.iload_n 2, 1) := by decide +kernel
theorem dX8_pays_56 : decode cX8_pays 56 = .ok (.isub, 1) := by decide +kernel
theorem dX8_pays_57 : decode cX8_pays 57 = .ok (.iastore, 1) := by decide +kernel
theorem dX8_pays_58 : decode cX8_pays 58 = .ok (.aload_n 0, 1) := by decide +kernel
theorem dX8_pays_59 : decode cX8_pays 59 = .ok (.getfield 7, 3) := by decide +kernel
theorem dX8_pays_62 : decode cX8_pays 62 = .ok (.iconst 2, 1) := by decide +kernel
theorem dX8_pays_63 : decode cX8_pays 63 = .ok (.dup2, 1) := by decide +kernel
theorem dX8_pays_64 : decode cX8_pays 64 = .ok (.iaload, 1) := by decide +kernel
theorem dX8_pays_65 : decode cX8_pays 65 = .ok (.iload_n 2, 1) := by decide +kernel
theorem dX8_pays_66 : decode cX8_pays 66 = .ok (.iadd, 1) := by decide +kernel
theorem dX8_pays_67 : decode cX8_pays 67 = .ok (.iastore, 1) := by decide +kernel
theorem dX8_pays_68 : decode cX8_pays 68 = .ok (.return_, 1) := by decide +kernel
theorem dX8_addParticipant_0 : decode cX8_addParticipant 0 = .ok (.iload_n 1, 1) := by decide +kernel
theorem dX8_addParticipant_1 : decode cX8_addParticipant 1 = .ok (.iconst 0, 1) := by decide +kernel
theorem dX8_addParticipant_2 : decode cX8_addParticipant 2 = .ok (.ldc 47, 2) := by decide +kernel
theorem dX8_addParticipant_4 : decode cX8_addParticipant 4 = .ok (.invokestatic 31, 3) := by decide +kernel
theorem dX8_addParticipant_7 : decode cX8_addParticipant 7 = .ok (.ifCond .ne 5, 3) := by decide +kernel
theorem dX8_addParticipant_10 : decode cX8_addParticipant 10 = .ok (.iconst (-1), 1) := by decide +kernel
theorem dX8_addParticipant_11 : decode cX8_addParticipant 11 = .ok (.ireturn, 1) := by decide +kernel
theorem dX8_addParticipant_12 : decode cX8_addParticipant 12 = .ok (.aload_n 0, 1) := by decide +kernel
theorem dX8_addParticipant_13 : decode cX8_addParticipant 13 = .ok (.getfield 7, 3) := by decide +kernel
theorem dX8_addParticipant_16 : decode cX8_addParticipant 16 = .ok (.iconst 0, 1) := by decide +kernel
theorem dX8_addParticipant_17 : decode cX8_addParticipant 17 = .ok (.iaload, 1) := by decide +kernel
theorem dX8_addParticipant_18 : decode cX8_addParticipant 18 = .ok (.ifCond .eq 6, 3) := by decide +kernel
theorem dX8_addParticipant_21 : decode cX8_addParticipant 21 = .ok (.bipush (-2), 2) := by decide +kernel
theorem dX8_addParticipant_23 : decode cX8_addParticipant 23 = .ok (.ireturn, 1) := by decide +kernel
theorem dX8_addParticipant_24 : decode cX8_addParticipant 24 = .ok (.aload_n 0, 1) := by decide +kernel
theorem dX8_addParticipant_25 : decode cX8_addParticipant 25 = .ok (.getfield 7, 3) := by decide +kernel
theorem dX8_addParticipant_28 : decode cX8_addParticipant 28 = .ok (.iconst 4, 1) := by decide +kernel
theorem dX8_addParticipant_29 : decode cX8_addParticipant 29 = .ok (.iaload, 1) := by decide +kernel
theorem dX8_addParticipant_30 : decode cX8_addParticipant 30 = .ok (.bipush 8, 2) := by decide +kernel
theorem dX8_addParticipant_32 : decode cX8_addParticipant 32 = .ok (.if_icmp .ne 6, 3) := by decide +kernel
theorem dX8_addParticipant_35 : decode cX8_addParticipant 35 = .ok (.bipush (-3), 2) := by decide +kernel
theorem dX8_addParticipant_37 : decode cX8_addParticipant 37 = .ok (.ireturn, 1) := by decide +kernel
theorem dX8_addParticipant_38 : decode cX8_addParticipant 38 = .ok (.aload_n 0, 1) := by decide +kernel
theorem dX8_addParticipant_39 : decode cX8_addParticipant 39 = .ok (.invokevirtual 48, 3) := by decide +kernel
theorem dX8_addParticipant_42 : decode cX8_addParticipant 42 = .ok (.aload_n 0, 1) := by decide +kernel
theorem dX8_addParticipant_43 : decode cX8_addParticipant 43 = .ok (.getfield 7, 3) := by decide +kernel
theorem dX8_addParticipant_46 : decode cX8_addParticipant 46 = .ok (.aload_n 0, 1) := by decide +kernel
theorem dX8_addParticipant_47 : decode cX8_addParticipant 47 = .ok (.getfield 7, 3) := by decide +kernel
theorem dX8_addParticipant_50 : decode cX8_addParticipant 50 = .ok (.iconst 4, 1) := by decide +kernel
theorem dX8_addParticipant_51 : decode cX8_addParticipant 51 = .ok (.iaload, 1) := by decide +kernel
theorem dX8_addParticipant_52 : decode cX8_addParticipant 52 = .ok (.invokestatic 35, 3) := by decide +kernel
theorem dX8_addParticipant_55 : decode cX8_addParticipant 55 = .ok (.iconst 0, 1) := by decide +kernel
theorem dX8_addParticipant_56 : decode cX8_addParticipant 56 = .ok (.iadd, 1) := by decide +kernel
theorem dX8_addParticipant_57 : decode cX8_addParticipant 57 = .ok (.iload_n 1, 1) := by decide +kernel
theorem dX8_addParticipant_58 : decode cX8_addParticipant 58 = .ok (.iastore, 1) := by decide +kernel
theorem dX8_addParticipant_59 : decode cX8_addParticipant 59 = .ok (.aload_n 0, 1) := by decide +kernel
theorem dX8_addParticipant_60 : decode cX8_addParticipant 60 = .ok (.getfield 7, 3) := by decide +kernel
theorem dX8_addParticipant_63 : decode cX8_addParticipant 63 = .ok (.iconst 4, 1) := by decide +kernel
theorem dX8_addParticipant_64 : decode cX8_addParticipant 64 = .ok (.dup2, 1) := by decide +kernel
theorem dX8_addParticipant_65 : decode cX8_addParticipant 65 = .ok (.iaload, 1) := by decide +kernel
theorem dX8_addParticipant_66 : decode cX8_addParticipant 66 = .ok (.iconst 1, 1) := by decide +kernel
theorem dX8_addParticipant_67 : decode cX8_addParticipant 67 = .ok (.iadd, 1) := by decide +kernel
theorem dX8_addParticipant_68 : decode cX8_addParticipant 68 = .ok (.iastore, 1) := by decide +kernel
theorem dX8_addParticipant_69 : decode cX8_addParticipant 69 = .ok (.aload_n 0, 1) := by decide +kernel
theorem dX8_addParticipant_70 : decode cX8_addParticipant 70 = .ok (.getfield 7, 3) := by decide +kernel
theorem dX8_addParticipant_73 : decode cX8_addParticipant 73 = .ok (.iconst 4, 1) := by decide +kernel
theorem dX8_addParticipant_74 : decode cX8_addParticipant 74 = .ok (.iaload, 1) := by decide +kernel
theorem dX8_addParticipant_75 : decode cX8_addParticipant 75 = .ok (.iconst 1, 1) := by decide +kernel
theorem dX8_addParticipant_76 : decode cX8_addParticipant 76 = .ok (.isub, 1) := by decide +kernel
theorem dX8_addParticipant_77 : decode cX8_addParticipant 77 = .ok (.ireturn, 1) := by decide +kernel
theorem dX8_sets_0 : decode cX8_sets 0 = .ok (.aload_n 0, 1) := by decide +kernel
theorem dX8_sets_1 : decode cX8_sets 1 = .ok (.invokevirtual 48, 3) := by decide +kernel
theorem dX8_sets_4 : decode cX8_sets 4 = .ok (.aload_n 0, 1) := by decide +kernel
theorem dX8_sets_5 : decode cX8_sets 5 = .ok (.getfield 7, 3) := by decide +kernel
theorem dX8_sets_8 : decode cX8_sets 8 = .ok (.iload_n 1, 1) := by decide +kernel
theorem dX8_sets_9 : decode cX8_sets 9 = .ok (.iaload, 1) := by decide +kernel
theorem dX8_sets_10 : decode cX8_sets 10 = .ok (.istore_n 3, 1) := by decide +kernel
theorem dX8_sets_11 : decode cX8_sets 11 = .ok (.aload_n 0, 1) := by decide +kernel
theorem dX8_sets_12 : decode cX8_sets 12 = .ok (.getfield 7, 3) := by decide +kernel
theorem dX8_sets_15 : decode cX8_sets 15 = .ok (.iload_n 1, 1) := by decide +kernel
theorem dX8_sets_16 : decode cX8_sets 16 = .ok (.iload_n 2, 1) := by decide +kernel
theorem dX8_sets_17 : decode cX8_sets 17 = .ok (.iastore, 1) := by decide +kernel
theorem dX8_sets_18 : decode cX8_sets 18 = .ok (.iload_n 3, 1) := by decide +kernel
theorem dX8_sets_19 : decode cX8_sets 19 = .ok (.ireturn, 1) := by decide +kernel
theorem dX8_behave_0 : decode cX8_behave 0 = .ok (.aload_n 0, 1) := by decide +kernel
theorem dX8_behave_1 : decode cX8_behave 1 = .ok (.iload_n 1, 1) := by decide +kernel
theorem dX8_behave_2 : decode cX8_behave 2 = .ok (.invokevirtual 39, 3) := by decide +kernel
theorem dX8_behave_5 : decode cX8_behave 5 = .ok (.ifCond .eq 26, 3) := by decide +kernel
theorem dX8_behave_8 : decode cX8_behave 8 = .ok (.iload_n 2, 1) := by decide +kernel
theorem dX8_behave_9 : decode cX8_behave 9 = .ok (.iconst 0, 1) := by decide +kernel
theorem dX8_behave_10 : decode cX8_behave 10 = .ok (.iconst 3, 1) := by decide +kernel
theorem dX8_behave_11 : decode cX8_behave 11 = .ok (.invokestatic 31, 3) := by decide +kernel
theorem dX8_behave_14 : decode cX8_behave 14 = .ok (.ifCond .eq 17, 3) := by decide +kernel
theorem dX8_behave_17 : decode cX8_behave 17 = .ok (.aload_n 0, 1) := by decide +kernel
theorem dX8_behave_18 : decode cX8_behave 18 = .ok (.iload_n 1, 1) := by decide +kernel
theorem dX8_behave_19 : decode cX8_behave 19 = .ok (.invokestatic 35, 3) := by decide +kernel
theorem dX8_behave_22 : decode cX8_behave 22 = .ok (.iconst 4, 1) := by decide +kernel
theorem dX8_behave_23 : decode cX8_behave 23 = .ok (.iadd, 1) := by decide +kernel
theorem dX8_behave_24 : decode cX8_behave 24 = .ok (.iload_n 2, 1) := by decide +kernel
theorem dX8_behave_25 : decode cX8_behave 25 = .ok (.invokevirtual 51, 3) := by decide +kernel
theorem dX8_behave_28 : decode cX8_behave 28 = .ok (.goto 4, 3) := by decide +kernel
theorem dX8_behave_31 : decode cX8_behave 31 = .ok (.iconst (-1), 1) := by decide +kernel
theorem dX8_behave_32 : decode cX8_behave 32 = .ok (.ireturn, 1) := by decide +kernel
theorem dX8_settles_0 : decode cX8_settles 0 = .ok (.iload_n 2, 1) := by decide +kernel
theorem dX8_settles_1 : decode cX8_settles 1 = .ok (.iload_n 3, 1) := by decide +kernel
theorem dX8_settles_2 : decode cX8_settles 2 = .ok (.iload 4, 2) := by decide +kernel
theorem dX8_settles_4 : decode cX8_settles 4 = .ok (.invokestatic 31, 3) := by decide +kernel
theorem dX8_settles_7 : decode cX8_settles 7 = .ok (.ifCond .ne 7, 3) := by decide +kernel
theorem dX8_settles_10 : decode cX8_settles 10 = .ok (.iconst (-1), 1) := by decide +kernel
theorem dX8_settles_11 : decode cX8_settles 11 = .ok (.goto 23, 3) := by decide +kernel
theorem dX8_settles_14 : decode cX8_settles 14 = .ok (.aload_n 0, 1) := by decide +kernel
theorem dX8_settles_15 : decode cX8_settles 15 = .ok (.getfield 7, 3) := by decide +kernel
theorem dX8_settles_18 : decode cX8_settles 18 = .ok (.iconst 0, 1) := by decide +kernel
theorem dX8_settles_19 : decode cX8_settles 19 = .ok (.iaload, 1) := by decide +kernel
theorem dX8_settles_20 : decode cX8_settles 20 = .ok (.ifCond .eq 8, 3) := by decide +kernel
theorem dX8_settles_23 : decode cX8_settles 23 = .ok (.bipush (-2), 2) := by decide +kernel
theorem dX8_settles_25 : decode cX8_settles 25 = .ok (.goto 9, 3) := by decide +kernel
theorem dX8_settles_28 : decode cX8_settles 28 = .ok (.aload_n 0, 1) := by decide +kernel
theorem dX8_settles_29 : decode cX8_settles 29 = .ok (.iload_n 1, 1) := by decide +kernel
theorem dX8_settles_30 : decode cX8_settles 30 = .ok (.iload_n 2, 1) := by decide +kernel
theorem dX8_settles_31 : decode cX8_settles 31 = .ok (.invokevirtual 51, 3) := by decide +kernel
theorem dX8_settles_34 : decode cX8_settles 34 = .ok (.ireturn, 1) := by decide +kernel
theorem dX8_setMethod_0 : decode cX8_setMethod 0 = .ok (.aload_n 0, 1) := by decide +kernel
theorem dX8_setMethod_1 : decode cX8_setMethod 1 = .ok (.iconst 5, 1) := by decide +kernel
theorem dX8_setMethod_2 : decode cX8_setMethod 2 = .ok (.iload_n 1, 1) := by decide +kernel
theorem dX8_setMethod_3 : decode cX8_setMethod 3 = .ok (.iconst 0, 1) := by decide +kernel
theorem dX8_setMethod_4 : decode cX8_setMethod 4 = .ok (.iconst 2, 1) := by decide +kernel
theorem dX8_setMethod_5 : decode cX8_setMethod 5 = .ok (.invokevirtual 55, 3) := by decide +kernel
theorem dX8_setMethod_8 : decode cX8_setMethod 8 = .ok (.ireturn, 1) := by decide +kernel
theorem dX8_setThreshold_0 : decode cX8_setThreshold 0 = .ok (.aload_n 0, 1) := by decide +kernel
theorem dX8_setThreshold_1 : decode cX8_setThreshold 1 = .ok (.bipush 6, 2) := by decide +kernel
theorem dX8_setThreshold_3 : decode cX8_setThreshold 3 = .ok (.iload_n 1, 1) := by decide +kernel
theorem dX8_setThreshold_4 : decode cX8_setThreshold 4 = .ok (.iconst 1, 1) := by decide +kernel
theorem dX8_setThreshold_5 : decode cX8_setThreshold 5 = .ok (.bipush 8, 2) := by decide +kernel
theorem dX8_setThreshold_7 : decode cX8_setThreshold 7 = .ok (.invokevirtual 55, 3) := by decide +kernel
theorem dX8_setThreshold_10 : decode cX8_setThreshold 10 = .ok (.ireturn, 1) := by decide +kernel
theorem dX8_setFine_0 : decode cX8_setFine 0 = .ok (.aload_n 0, 1) := by decide +kernel
theorem dX8_setFine_1 : decode cX8_setFine 1 = .ok (.bipush 7, 2) := by decide +kernel
theorem dX8_setFine_3 : decode cX8_setFine 3 = .ok (.iload_n 1, 1) := by decide +kernel
theorem dX8_setFine_4 : decode cX8_setFine 4 = .ok (.iconst 0, 1) := by decide +kernel
theorem dX8_setFine_5 : decode cX8_setFine 5 = .ok (.sipush 1000, 3) := by decide +kernel
theorem dX8_setFine_8 : decode cX8_setFine 8 = .ok (.invokevirtual 55, 3) := by decide +kernel
theorem dX8_setFine_11 : decode cX8_setFine 11 = .ok (.ireturn, 1) := by decide +kernel
theorem dX8_setDelay_0 : decode cX8_setDelay 0 = .ok (.aload_n 0, 1) := by decide +kernel
theorem dX8_setDelay_1 : decode cX8_setDelay 1 = .ok (.bipush 8, 2) := by decide +kernel
theorem dX8_setDelay_3 : decode cX8_setDelay 3 = .ok (.iload_n 1, 1) := by decide +kernel
theorem dX8_setDelay_4 : decode cX8_setDelay 4 = .ok (.iconst 1, 1) := by decide +kernel
theorem dX8_setDelay_5 : decode cX8_setDelay 5 = .ok (.sipush 5000, 3) := by decide +kernel
theorem dX8_setDelay_8 : decode cX8_setDelay 8 = .ok (.invokevirtual 55, 3) := by decide +kernel
theorem dX8_setDelay_11 : decode cX8_setDelay 11 = .ok (.ireturn, 1) := by decide +kernel
theorem dX8_mayBegin_0 : decode cX8_mayBegin 0 = .ok (.iconst 0, 1) := by decide +kernel
theorem dX8_mayBegin_1 : decode cX8_mayBegin 1 = .ok (.istore_n 1, 1) := by decide +kernel
theorem dX8_mayBegin_2 : decode cX8_mayBegin 2 = .ok (.iconst 0, 1) := by decide +kernel
theorem dX8_mayBegin_3 : decode cX8_mayBegin 3 = .ok (.istore_n 2, 1) := by decide +kernel
theorem dX8_mayBegin_4 : decode cX8_mayBegin 4 = .ok (.iload_n 2, 1) := by decide +kernel
theorem dX8_mayBegin_5 : decode cX8_mayBegin 5 = .ok (.aload_n 0, 1) := by decide +kernel
theorem dX8_mayBegin_6 : decode cX8_mayBegin 6 = .ok (.getfield 7, 3) := by decide +kernel
theorem dX8_mayBegin_9 : decode cX8_mayBegin 9 = .ok (.iconst 4, 1) := by decide +kernel
theorem dX8_mayBegin_10 : decode cX8_mayBegin 10 = .ok (.iaload, 1) := by decide +kernel
theorem dX8_mayBegin_11 : decode cX8_mayBegin 11 = .ok (.if_icmp .ge 38, 3) := by decide +kernel
theorem dX8_mayBegin_14 : decode cX8_mayBegin 14 = .ok (.iload_n 1, 1) := by decide +kernel
theorem dX8_mayBegin_15 : decode cX8_mayBegin 15 = .ok (.aload_n 0, 1) := by decide +kernel
theorem dX8_mayBegin_16 : decode cX8_mayBegin 16 = .ok (.getfield 7, 3) := by decide +kernel
theorem dX8_mayBegin_19 : decode cX8_mayBegin 19 = .ok (.iload_n 2, 1) := by decide +kernel
theorem dX8_mayBegin_20 : decode cX8_mayBegin 20 = .ok (.invokestatic 35, 3) := by decide +kernel
theorem dX8_mayBegin_23 : decode cX8_mayBegin 23 = .ok (.iconst 0, 1) := by decide +kernel
theorem dX8_mayBegin_24 : decode cX8_mayBegin 24 = .ok (.iadd, 1) := by decide +kernel
theorem dX8_mayBegin_25 : decode cX8_mayBegin 25 = .ok (.iaload, 1) := by decide +kernel
theorem dX8_mayBegin_26 : decode cX8_mayBegin 26 = .ok (.aload_n 0, 1) := by decide +kernel
theorem dX8_mayBegin_27 : decode cX8_mayBegin 27 = .ok (.getfield 7, 3) := by decide +kernel
theorem dX8_mayBegin_30 : decode cX8_mayBegin 30 = .ok (.bipush 7, 2) := by decide +kernel
theorem dX8_mayBegin_32 : decode cX8_mayBegin 32 = .ok (.iaload, 1) := by decide +kernel
theorem dX8_mayBegin_33 : decode cX8_mayBegin 33 = .ok (.if_icmp .lt 7, 3) := by decide +kernel
theorem dX8_mayBegin_36 : decode cX8_mayBegin 36 = .ok (.iconst 1, 1) := by decide +kernel
theorem dX8_mayBegin_37 : decode cX8_mayBegin 37 = .ok (.goto 4, 3) := by decide +kernel
theorem dX8_mayBegin_40 : decode cX8_mayBegin 40 = .ok (.iconst 0, 1) := by decide +kernel
theorem dX8_mayBegin_41 : decode cX8_mayBegin 41 = .ok (.iadd, 1) := by decide +kernel
theorem dX8_mayBegin_42 : decode cX8_mayBegin 42 = .ok (.istore_n 1, 1) := by decide +kernel
theorem dX8_mayBegin_43 : decode cX8_mayBegin 43 = .ok (.iinc 2 1, 3) := by decide +kernel
theorem dX8_mayBegin_46 : decode cX8_mayBegin 46 = .ok (.goto (-42), 3) := by decide +kernel
theorem dX8_mayBegin_49 : decode cX8_mayBegin 49 = .ok (.aload_n 0, 1) := by decide +kernel
theorem dX8_mayBegin_50 : decode cX8_mayBegin 50 = .ok (.getfield 7, 3) := by decide +kernel
theorem dX8_mayBegin_53 : decode cX8_mayBegin 53 = .ok (.iconst 0, 1) := by decide +kernel
theorem dX8_mayBegin_54 : decode cX8_mayBegin 54 = .ok (.iaload, 1) := by decide +kernel
theorem dX8_mayBegin_55 : decode cX8_mayBegin 55 = .ok (.ifCond .ne 33, 3) := by decide +kernel
theorem dX8_mayBegin_58 : decode cX8_mayBegin 58 = .ok (.iload_n 1, 1) := by decide +kernel
theorem dX8_mayBegin_59 : decode cX8_mayBegin 59 = .ok (.iconst 2, 1) := by decide +kernel
theorem dX8_mayBegin_60 : decode cX8_mayBegin 60 = .ok (.if_icmp .lt 28, 3) := by decide +kernel
theorem dX8_mayBegin_63 : decode cX8_mayBegin 63 = .ok (.aload_n 0, 1) := by decide +kernel
theorem dX8_mayBegin_64 : decode cX8_mayBegin 64 = .ok (.getfield 7, 3) := by decide +kernel
theorem dX8_mayBegin_67 : decode cX8_mayBegin 67 = .ok (.iconst 5, 1) := by decide +kernel
theorem dX8_mayBegin_68 : decode cX8_mayBegin 68 = .ok (.iaload, 1) := by decide +kernel
theorem dX8_mayBegin_69 : decode cX8_mayBegin 69 = .ok (.iconst 1, 1) := by decide +kernel
theorem dX8_mayBegin_70 : decode cX8_mayBegin 70 = .ok (.if_icmp .ne 14, 3) := by decide +kernel
theorem dX8_mayBegin_73 : decode cX8_mayBegin 73 = .ok (.iload_n 1, 1) := by decide +kernel
theorem dX8_mayBegin_74 : decode cX8_mayBegin 74 = .ok (.aload_n 0, 1) := by decide +kernel
theorem dX8_mayBegin_75 : decode cX8_mayBegin 75 = .ok (.getfield 7, 3) := by decide +kernel
theorem dX8_mayBegin_78 : decode cX8_mayBegin 78 = .ok (.bipush 6, 2) := by decide +kernel
theorem dX8_mayBegin_80 : decode cX8_mayBegin 80 = .ok (.iaload, 1) := by decide +kernel
theorem dX8_mayBegin_81 : decode cX8_mayBegin 81 = .ok (.if_icmp .lt 7, 3) := by decide +kernel
theorem dX8_mayBegin_84 : decode cX8_mayBegin 84 = .ok (.iconst 1, 1) := by decide +kernel
theorem dX8_mayBegin_85 : decode cX8_mayBegin 85 = .ok (.goto 4, 3) := by decide +kernel
theorem dX8_mayBegin_88 : decode cX8_mayBegin 88 = .ok (.iconst 0, 1) := by decide +kernel
theorem dX8_mayBegin_89 : decode cX8_mayBegin 89 = .ok (.ireturn, 1) := by decide +kernel
theorem dX8_begins_0 : decode cX8_begins 0 = .ok (.aload_n 0, 1) := by decide +kernel
theorem dX8_begins_1 : decode cX8_begins 1 = .ok (.getfield 7, 3) := by decide +kernel
theorem dX8_begins_4 : decode cX8_begins 4 = .ok (.iconst 0, 1) := by decide +kernel
theorem dX8_begins_5 : decode cX8_begins 5 = .ok (.iconst 1, 1) := by decide +kernel
theorem dX8_begins_6 : decode cX8_begins 6 = .ok (.iastore, 1) := by decide +kernel
theorem dX8_begins_7 : decode cX8_begins 7 = .ok (.iconst 0, 1) := by decide +kernel
theorem dX8_begins_8 : decode cX8_begins 8 = .ok (.istore_n 1, 1) := by decide +kernel
theorem dX8_begins_9 : decode cX8_begins 9 = .ok (.iload_n 1, 1) := by decide +kernel
theorem dX8_begins_10 : decode cX8_begins 10 = .ok (.aload_n 0, 1) := by decide +kernel
theorem dX8_begins_11 : decode cX8_begins 11 = .ok (.getfield 7, 3) := by decide +kernel
theorem dX8_begins_14 : decode cX8_begins 14 = .ok (.iconst 4, 1) := by decide +kernel
theorem dX8_begins_15 : decode cX8_begins 15 = .ok (.iaload, 1) := by decide +kernel
theorem dX8_begins_16 : decode cX8_begins 16 = .ok (.if_icmp .ge 75, 3) := by decide +kernel
theorem dX8_begins_19 : decode cX8_begins 19 = .ok (.iload_n 1, 1) := by decide +kernel
theorem dX8_begins_20 : decode cX8_begins 20 = .ok (.invokestatic 35, 3) := by decide +kernel
theorem dX8_begins_23 : decode cX8_begins 23 = .ok (.istore_n 2, 1) := by decide +kernel
theorem dX8_begins_24 : decode cX8_begins 24 = .ok (.aload_n 0, 1) := by decide +kernel
theorem dX8_begins_25 : decode cX8_begins 25 = .ok (.getfield 7, 3) := by decide +kernel
theorem dX8_begins_28 : decode cX8_begins 28 = .ok (.iload_n 2, 1) := by decide +kernel
theorem dX8_begins_29 : decode cX8_begins 29 = .ok (.iconst 5, 1) := by decide +kernel
theorem dX8_begins_30 : decode cX8_begins 30 = .ok (.iadd, 1) := by decide +kernel
theorem dX8_begins_31 : decode cX8_begins 31 = .ok (.aload_n 0, 1) := by decide +kernel
theorem dX8_begins_32 : decode cX8_begins 32 = .ok (.getfield 7, 3) := by decide +kernel
theorem dX8_begins_35 : decode cX8_begins 35 = .ok (.iload_n 2, 1) := by decide +kernel
theorem dX8_begins_36 : decode cX8_begins 36 = .ok (.iconst 0, 1) := by decide +kernel
theorem dX8_begins_37 : decode cX8_begins 37 = .ok (.iadd, 1) := by decide +kernel
theorem dX8_begins_38 : decode cX8_begins 38 = .ok (.iaload, 1) := by decide +kernel
theorem dX8_begins_39 : decode cX8_begins 39 = .ok (.aload_n 0, 1) := by decide +kernel
theorem dX8_begins_40 : decode cX8_begins 40 = .ok (.getfield 7, 3) := by decide +kernel
theorem dX8_begins_43 : decode cX8_begins 43 = .ok (.bipush 7, 2) := by decide +kernel
theorem dX8_begins_45 : decode cX8_begins 45 = .ok (.iaload, 1) := by decide +kernel
theorem dX8_begins_46 : decode cX8_begins 46 = .ok (.if_icmp .lt 7, 3) := by decide +kernel
theorem dX8_begins_49 : decode cX8_begins 49 = .ok (.iconst 1, 1) := by decide +kernel
theorem dX8_begins_50 : decode cX8_begins 50 = .ok (.goto 4, 3) := by decide +kernel
theorem dX8_begins_53 : decode cX8_begins 53 = .ok (.iconst 0, 1) := by decide +kernel
theorem dX8_begins_54 : decode cX8_begins 54 = .ok (.iastore, 1) := by decide +kernel
theorem dX8_begins_55 : decode cX8_begins 55 = .ok (.aload_n 0, 1) := by decide +kernel
theorem dX8_begins_56 : decode cX8_begins 56 = .ok (.getfield 7, 3) := by decide +kernel
theorem dX8_begins_59 : decode cX8_begins 59 = .ok (.iload_n 2, 1) := by decide +kernel
theorem dX8_begins_60 : decode cX8_begins 60 = .ok (.bipush 6, 2) := by decide +kernel
theorem dX8_begins_62 : decode cX8_begins 62 = .ok (.iadd, 1) := by decide +kernel
theorem dX8_begins_63 : decode cX8_begins 63 = .ok (.iconst 0, 1) := by decide +kernel
theorem dX8_begins_64 : decode cX8_begins 64 = .ok (.iastore, 1) := by decide +kernel
theorem dX8_begins_65 : decode cX8_begins 65 = .ok (.aload_n 0, 1) := by decide +kernel
theorem dX8_begins_66 : decode cX8_begins 66 = .ok (.getfield 7, 3) := by decide +kernel
theorem dX8_begins_69 : decode cX8_begins 69 = .ok (.iload_n 2, 1) := by decide +kernel
theorem dX8_begins_70 : decode cX8_begins 70 = .ok (.bipush 7, 2) := by decide +kernel
theorem dX8_begins_72 : decode cX8_begins 72 = .ok (.iadd, 1) := by decide +kernel
theorem dX8_begins_73 : decode cX8_begins 73 = .ok (.iconst 0, 1) := by decide +kernel
theorem dX8_begins_74 : decode cX8_begins 74 = .ok (.iastore, 1) := by decide +kernel
theorem dX8_begins_75 : decode cX8_begins 75 = .ok (.aload_n 0, 1) := by decide +kernel
theorem dX8_begins_76 : decode cX8_begins 76 = .ok (.getfield 7, 3) := by decide +kernel
theorem dX8_begins_79 : decode cX8_begins 79 = .ok (.iload_n 2, 1) := by decide +kernel
theorem dX8_begins_80 : decode cX8_begins 80 = .ok (.bipush 8, 2) := by decide +kernel
theorem dX8_begins_82 : decode cX8_begins 82 = .ok (.iadd, 1) := by decide +kernel
theorem dX8_begins_83 : decode cX8_begins 83 = .ok (.iconst 0, 1) := by decide +kernel
theorem dX8_begins_84 : decode cX8_begins 84 = .ok (.iastore, 1) := by decide +kernel
theorem dX8_begins_85 : decode cX8_begins 85 = .ok (.iinc 1 1, 3) := by decide +kernel
theorem dX8_begins_88 : decode cX8_begins 88 = .ok (.goto (-79), 3) := by decide +kernel
theorem dX8_begins_91 : decode cX8_begins 91 = .ok (.return_, 1) := by decide +kernel
theorem dX8_begin_0 : decode cX8_begin 0 = .ok (.aload_n 0, 1) := by decide +kernel
theorem dX8_begin_1 : decode cX8_begin 1 = .ok (.invokevirtual 59, 3) := by decide +kernel
theorem dX8_begin_4 : decode cX8_begin 4 = .ok (.ifCond .ne 6, 3) := by decide +kernel
theorem dX8_begin_7 : decode cX8_begin 7 = .ok (.bipush (-2), 2) := by decide +kernel
theorem dX8_begin_9 : decode cX8_begin 9 = .ok (.ireturn, 1) := by decide +kernel
theorem dX8_begin_10 : decode cX8_begin 10 = .ok (.aload_n 0, 1) := by decide +kernel
theorem dX8_begin_11 : decode cX8_begin 11 = .ok (.invokevirtual 48, 3) := by decide +kernel
theorem dX8_begin_14 : decode cX8_begin 14 = .ok (.aload_n 0, 1) := by decide +kernel
theorem dX8_begin_15 : decode cX8_begin 15 = .ok (.invokevirtual 63, 3) := by decide +kernel
theorem dX8_begin_18 : decode cX8_begin 18 = .ok (.aload_n 0, 1) := by decide +kernel
theorem dX8_begin_19 : decode cX8_begin 19 = .ok (.getfield 7, 3) := by decide +kernel
theorem dX8_begin_22 : decode cX8_begin 22 = .ok (.iconst 1, 1) := by decide +kernel
theorem dX8_begin_23 : decode cX8_begin 23 = .ok (.iaload, 1) := by decide +kernel
theorem dX8_begin_24 : decode cX8_begin 24 = .ok (.ireturn, 1) := by decide +kernel
theorem dX8_digestOf_0 : decode cX8_digestOf 0 = .ok (.bipush 17, 2) := by decide +kernel
theorem dX8_digestOf_2 : decode cX8_digestOf 2 = .ok (.aload_n 0, 1) := by decide +kernel
theorem dX8_digestOf_3 : decode cX8_digestOf 3 = .ok (.getfield 7, 3) := by decide +kernel
theorem dX8_digestOf_6 : decode cX8_digestOf 6 = .ok (.iconst 1, 1) := by decide +kernel
theorem dX8_digestOf_7 : decode cX8_digestOf 7 = .ok (.iaload, 1) := by decide +kernel
theorem dX8_digestOf_8 : decode cX8_digestOf 8 = .ok (.invokestatic 66, 3) := by decide +kernel
theorem dX8_digestOf_11 : decode cX8_digestOf 11 = .ok (.iload_n 1, 1) := by decide +kernel
theorem dX8_digestOf_12 : decode cX8_digestOf 12 = .ok (.invokestatic 66, 3) := by decide +kernel
theorem dX8_digestOf_15 : decode cX8_digestOf 15 = .ok (.iload_n 2, 1) := by decide +kernel
theorem dX8_digestOf_16 : decode cX8_digestOf 16 = .ok (.invokestatic 66, 3) := by decide +kernel
theorem dX8_digestOf_19 : decode cX8_digestOf 19 = .ok (.ireturn, 1) := by decide +kernel
theorem dX8_isCopy_0 : decode cX8_isCopy 0 = .ok (.iconst 0, 1) := by decide +kernel
theorem dX8_isCopy_1 : decode cX8_isCopy 1 = .ok (.istore_n 3, 1) := by decide +kernel
theorem dX8_isCopy_2 : decode cX8_isCopy 2 = .ok (.iconst 0, 1) := by decide +kernel
theorem dX8_isCopy_3 : decode cX8_isCopy 3 = .ok (.istore 4, 2) := by decide +kernel
theorem dX8_isCopy_5 : decode cX8_isCopy 5 = .ok (.iload 4, 2) := by decide +kernel
theorem dX8_isCopy_7 : decode cX8_isCopy 7 = .ok (.aload_n 0, 1) := by decide +kernel
theorem dX8_isCopy_8 : decode cX8_isCopy 8 = .ok (.getfield 7, 3) := by decide +kernel
theorem dX8_isCopy_11 : decode cX8_isCopy 11 = .ok (.iconst 4, 1) := by decide +kernel
theorem dX8_isCopy_12 : decode cX8_isCopy 12 = .ok (.iaload, 1) := by decide +kernel
theorem dX8_isCopy_13 : decode cX8_isCopy 13 = .ok (.if_icmp .ge 63, 3) := by decide +kernel
theorem dX8_isCopy_16 : decode cX8_isCopy 16 = .ok (.iload_n 3, 1) := by decide +kernel
theorem dX8_isCopy_17 : decode cX8_isCopy 17 = .ok (.ifCond .ne 47, 3) := by decide +kernel
theorem dX8_isCopy_20 : decode cX8_isCopy 20 = .ok (.iload 4, 2) := by decide +kernel
theorem dX8_isCopy_22 : decode cX8_isCopy 22 = .ok (.iload_n 1, 1) := by decide +kernel
theorem dX8_isCopy_23 : decode cX8_isCopy 23 = .ok (.if_icmp .eq 45, 3) := by decide +kernel
theorem dX8_isCopy_26 : decode cX8_isCopy 26 = .ok (.aload_n 0, 1) := by decide +kernel
theorem dX8_isCopy_27 : decode cX8_isCopy 27 = .ok (.iload 4, 2) := by decide +kernel
theorem dX8_isCopy_29 : decode cX8_isCopy 29 = .ok (.iconst 5, 1) := by decide +kernel
theorem dX8_isCopy_30 : decode cX8_isCopy 30 = .ok (.invokevirtual 43, 3) := by decide +kernel
theorem dX8_isCopy_33 : decode cX8_isCopy 33 = .ok (.ifCond .eq 35, 3) := by decide +kernel
theorem dX8_isCopy_36 : decode cX8_isCopy 36 = .ok (.aload_n 0, 1) := by decide +kernel
theorem dX8_isCopy_37 : decode cX8_isCopy 37 = .ok (.iload 4, 2) := by decide +kernel
theorem dX8_isCopy_39 : decode cX8_isCopy 39 = .ok (.bipush 6, 2) := by decide +kernel
theorem dX8_isCopy_41 : decode cX8_isCopy 41 = .ok (.invokevirtual 43, 3) := by decide +kernel
theorem dX8_isCopy_44 : decode cX8_isCopy 44 = .ok (.ifCond .eq 24, 3) := by decide +kernel
theorem dX8_isCopy_47 : decode cX8_isCopy 47 = .ok (.aload_n 0, 1) := by decide +kernel
theorem dX8_isCopy_48 : decode cX8_isCopy 48 = .ok (.getfield 7, 3) := by decide +kernel
theorem dX8_isCopy_51 : decode cX8_isCopy 51 = .ok (.iload 4, 2) := by decide +kernel
theorem dX8_isCopy_53 : decode cX8_isCopy 53 = .ok (.invokestatic 35, 3) := by decide +kernel
theorem dX8_isCopy_56 : decode cX8_isCopy 56 = .ok (.bipush 11, 2) := by decide +kernel
theorem dX8_isCopy_58 : decode cX8_isCopy 58 = .ok (.iadd, 1) := by decide +kernel
theorem dX8_isCopy_59 : decode cX8_isCopy 59 = .ok (.iaload, 1) := by decide +kernel
theorem dX8_isCopy_60 : decode cX8_isCopy 60 = .ok (.iload_n 2, 1) := by decide +kernel
theorem dX8_isCopy_61 : decode cX8_isCopy 61 = .ok (.if_icmp .ne 7, 3) := by decide +kernel
theorem dX8_isCopy_64 : decode cX8_isCopy 64 = .ok (.iconst 1, 1) := by decide +kernel
theorem dX8_isCopy_65 : decode cX8_isCopy 65 = .ok (.goto 4, 3) := by decide +kernel
theorem dX8_isCopy_68 : decode cX8_isCopy 68 = .ok (.iconst 0, 1) := by decide +kernel
theorem dX8_isCopy_69 : decode cX8_isCopy 69 = .ok (.istore_n 3, 1) := by decide +kernel
theorem dX8_isCopy_70 : decode cX8_isCopy 70 = .ok (.iinc 4 1, 3) := by decide +kernel
theorem dX8_isCopy_73 : decode cX8_isCopy 73 = .ok (.goto (-68), 3) := by decide +kernel
theorem dX8_isCopy_76 : decode cX8_isCopy 76 = .ok (.iload_n 3, 1) := by decide +kernel
theorem dX8_isCopy_77 : decode cX8_isCopy 77 = .ok (.ireturn, 1) := by decide +kernel
theorem dX8_valueAt_0 : decode cX8_valueAt 0 = .ok (.iconst 0, 1) := by decide +kernel
theorem dX8_valueAt_1 : decode cX8_valueAt 1 = .ok (.istore_n 3, 1) := by decide +kernel
theorem dX8_valueAt_2 : decode cX8_valueAt 2 = .ok (.aload_n 0, 1) := by decide +kernel
theorem dX8_valueAt_3 : decode cX8_valueAt 3 = .ok (.getfield 7, 3) := by decide +kernel
theorem dX8_valueAt_6 : decode cX8_valueAt 6 = .ok (.bipush 6, 2) := by decide +kernel
theorem dX8_valueAt_8 : decode cX8_valueAt 8 = .ok (.iaload, 1) := by decide +kernel
theorem dX8_valueAt_9 : decode cX8_valueAt 9 = .ok (.iconst 1, 1) := by decide +kernel
theorem dX8_valueAt_10 : decode cX8_valueAt 10 = .ok (.isub, 1) := by decide +kernel
theorem dX8_valueAt_11 : decode cX8_valueAt 11 = .ok (.istore 4, 2) := by decide +kernel
theorem dX8_valueAt_13 : decode cX8_valueAt 13 = .ok (.iload 4, 2) := by decide +kernel
theorem dX8_valueAt_15 : decode cX8_valueAt 15 = .ok (.ifCond .lt 33, 3) := by decide +kernel
theorem dX8_valueAt_18 : decode cX8_valueAt 18 = .ok (.iload_n 3, 1) := by decide +kernel
theorem dX8_valueAt_19 : decode cX8_valueAt 19 = .ok (.iload_n 2, 1) := by decide +kernel
theorem dX8_valueAt_20 : decode cX8_valueAt 20 = .ok (.imul, 1) := by decide +kernel
theorem dX8_valueAt_21 : decode cX8_valueAt 21 = .ok (.aload_n 0, 1) := by decide +kernel
theorem dX8_valueAt_22 : decode cX8_valueAt 22 = .ok (.getfield 7, 3) := by decide +kernel
theorem dX8_valueAt_25 : decode cX8_valueAt 25 = .ok (.iload_n 1, 1) := by decide +kernel
theorem dX8_valueAt_26 : decode cX8_valueAt 26 = .ok (.invokestatic 35, 3) := by decide +kernel
theorem dX8_valueAt_29 : decode cX8_valueAt 29 = .ok (.bipush 14, 2) := by decide +kernel
theorem dX8_valueAt_31 : decode cX8_valueAt 31 = .ok (.iadd, 1) := by decide +kernel
theorem dX8_valueAt_32 : decode cX8_valueAt 32 = .ok (.iload 4, 2) := by decide +kernel
theorem dX8_valueAt_34 : decode cX8_valueAt 34 = .ok (.iadd, 1) := by decide +kernel
theorem dX8_valueAt_35 : decode cX8_valueAt 35 = .ok (.iaload, 1) := by decide +kernel
theorem dX8_valueAt_36 : decode cX8_valueAt 36 = .ok (.iadd, 1) := by decide +kernel
theorem dX8_valueAt_37 : decode cX8_valueAt 37 = .ok (.sipush 1019, 3) := by decide +kernel
theorem dX8_valueAt_40 : decode cX8_valueAt 40 = .ok (.irem, 1) := by decide +kernel
theorem dX8_valueAt_41 : decode cX8_valueAt 41 = .ok (.istore_n 3, 1) := by decide +kernel
theorem dX8_valueAt_42 : decode cX8_valueAt 42 = .ok (.iinc 4 (-1), 3) := by decide +kernel
theorem dX8_valueAt_45 : decode cX8_valueAt 45 = .ok (.goto (-32), 3) := by decide +kernel
theorem dX8_valueAt_48 : decode cX8_valueAt 48 = .ok (.iload_n 3, 1) := by decide +kernel
theorem dX8_valueAt_49 : decode cX8_valueAt 49 = .ok (.ireturn, 1) := by decide +kernel
theorem dX8_deals_0 : decode cX8_deals 0 = .ok (.iload_n 1, 1) := by decide +kernel
theorem dX8_deals_1 : decode cX8_deals 1 = .ok (.invokestatic 35, 3) := by decide +kernel
theorem dX8_deals_4 : decode cX8_deals 4 = .ok (.istore_n 2, 1) := by decide +kernel
theorem dX8_deals_5 : decode cX8_deals 5 = .ok (.aload_n 0, 1) := by decide +kernel
theorem dX8_deals_6 : decode cX8_deals 6 = .ok (.aload_n 0, 1) := by decide +kernel
theorem dX8_deals_7 : decode cX8_deals 7 = .ok (.getfield 7, 3) := by decide +kernel
theorem dX8_deals_10 : decode cX8_deals 10 = .ok (.iload_n 2, 1) := by decide +kernel
theorem dX8_deals_11 : decode cX8_deals 11 = .ok (.bipush 10, 2) := by decide +kernel
theorem dX8_deals_13 : decode cX8_deals 13 = .ok (.iadd, 1) := by decide +kernel
theorem dX8_deals_14 : decode cX8_deals 14 = .ok (.iaload, 1) := by decide +kernel
theorem dX8_deals_15 : decode cX8_deals 15 = .ok (.putfield 28, 3) := by decide +kernel
theorem dX8_deals_18 : decode cX8_deals 18 = .ok (.aload_n 0, 1) := by decide +kernel
theorem dX8_deals_19 : decode cX8_deals 19 = .ok (.getfield 7, 3) := by decide +kernel
theorem dX8_deals_22 : decode cX8_deals 22 = .ok (.iload_n 2, 1) := by decide +kernel
theorem dX8_deals_23 : decode cX8_deals 23 = .ok (.bipush 14, 2) := by decide +kernel
theorem dX8_deals_25 : decode cX8_deals 25 = .ok (.iadd, 1) := by decide +kernel
theorem dX8_deals_26 : decode cX8_deals 26 = .ok (.aload_n 0, 1) := by decide +kernel
theorem dX8_deals_27 : decode cX8_deals 27 = .ok (.getfield 7, 3) := by decide +kernel
theorem dX8_deals_30 : decode cX8_deals 30 = .ok (.iload_n 2, 1) := by decide +kernel
theorem dX8_deals_31 : decode cX8_deals 31 = .ok (.bipush 9, 2) := by decide +kernel
theorem dX8_deals_33 : decode cX8_deals 33 = .ok (.iadd, 1) := by decide +kernel
theorem dX8_deals_34 : decode cX8_deals 34 = .ok (.iaload, 1) := by decide +kernel
theorem dX8_deals_35 : decode cX8_deals 35 = .ok (.iastore, 1) := by decide +kernel
theorem dX8_deals_36 : decode cX8_deals 36 = .ok (.iconst 1, 1) := by decide +kernel
theorem dX8_deals_37 : decode cX8_deals 37 = .ok (.istore_n 3, 1) := by decide +kernel
theorem dX8_deals_38 : decode cX8_deals 38 = .ok (.iload_n 3, 1) := by decide +kernel
theorem dX8_deals_39 : decode cX8_deals 39 = .ok (.aload_n 0, 1) := by decide +kernel
theorem dX8_deals_40 : decode cX8_deals 40 = .ok (.getfield 7, 3) := by decide +kernel
theorem dX8_deals_43 : decode cX8_deals 43 = .ok (.bipush 6, 2) := by decide +kernel
theorem dX8_deals_45 : decode cX8_deals 45 = .ok (.iaload, 1) := by decide +kernel
theorem dX8_deals_46 : decode cX8_deals 46 = .ok (.if_icmp .ge 28, 3) := by decide +kernel
theorem dX8_deals_49 : decode cX8_deals 49 = .ok (.aload_n 0, 1) := by decide +kernel
theorem dX8_deals_50 : decode cX8_deals 50 = .ok (.getfield 7, 3) := by decide +kernel
theorem dX8_deals_53 : decode cX8_deals 53 = .ok (.iload_n 2, 1) := by decide +kernel
theorem dX8_deals_54 : decode cX8_deals 54 = .ok (.bipush 14, 2) := by decide +kernel
theorem dX8_deals_56 : decode cX8_deals 56 = .ok (.iadd, 1) := by decide +kernel
theorem dX8_deals_57 : decode cX8_deals 57 = .ok (.iload_n 3, 1) := by decide +kernel
theorem dX8_deals_58 : decode cX8_deals 58 = .ok (.iadd, 1) := by decide +kernel
theorem dX8_deals_59 : decode cX8_deals 59 = .ok (.aload_n 0, 1) := by decide +kernel
theorem dX8_deals_60 : decode cX8_deals 60 = .ok (.invokevirtual 69, 3) := by decide +kernel
theorem dX8_deals_63 : decode cX8_deals 63 = .ok (.sipush 1019, 3) := by decide +kernel
theorem dX8_deals_66 : decode cX8_deals 66 = .ok (.irem, 1) := by decide +kernel
theorem dX8_deals_67 : decode cX8_deals 67 = .ok (.iastore, 1) := by decide +kernel
theorem dX8_deals_68 : decode cX8_deals 68 = .ok (.iinc 3 1, 3) := by decide +kernel
theorem dX8_deals_71 : decode cX8_deals 71 = .ok (.goto (-33), 3) := by decide +kernel
theorem dX8_deals_74 : decode cX8_deals 74 = .ok (.iconst 0, 1) := by decide +kernel
theorem dX8_deals_75 : decode cX8_deals 75 = .ok (.istore_n 3, 1) := by decide +kernel
theorem dX8_deals_76 : decode cX8_deals 76 = .ok (.iload_n 3, 1) := by decide +kernel
theorem dX8_deals_77 : decode cX8_deals 77 = .ok (.bipush 8, 2) := by decide +kernel
theorem dX8_deals_79 : decode cX8_deals 79 = .ok (.if_icmp .ge 28, 3) := by decide +kernel
theorem dX8_deals_82 : decode cX8_deals 82 = .ok (.aload_n 0, 1) := by decide +kernel
theorem dX8_deals_83 : decode cX8_deals 83 = .ok (.getfield 7, 3) := by decide +kernel
theorem dX8_deals_86 : decode cX8_deals 86 = .ok (.iload_n 2, 1) := by decide +kernel
theorem dX8_deals_87 : decode cX8_deals 87 = .ok (.bipush 22, 2) := by decide +kernel
theorem dX8_deals_89 : decode cX8_deals 89 = .ok (.iadd, 1) := by decide +kernel
theorem dX8_deals_90 : decode cX8_deals 90 = .ok (.iload_n 3, 1) := by decide +kernel
theorem dX8_deals_91 : decode cX8_deals 91 = .ok (.iadd, 1) := by decide +kernel
theorem dX8_deals_92 : decode cX8_deals 92 = .ok (.aload_n 0, 1) := by decide +kernel
theorem dX8_deals_93 : decode cX8_deals 93 = .ok (.iload_n 1, 1) := by decide +kernel
theorem dX8_deals_94 : decode cX8_deals 94 = .ok (.iload_n 3, 1) := by decide +kernel
theorem dX8_deals_95 : decode cX8_deals 95 = .ok (.iconst 1, 1) := by decide +kernel
theorem dX8_deals_96 : decode cX8_deals 96 = .ok (.iadd, 1) := by decide +kernel
theorem dX8_deals_97 : decode cX8_deals 97 = .ok (.invokevirtual 73, 3) := by decide +kernel
theorem dX8_deals_100 : decode cX8_deals 100 = .ok (.iastore, 1) := by decide +kernel
theorem dX8_deals_101 : decode cX8_deals 101 = .ok (.iinc 3 1, 3) := by decide +kernel
theorem dX8_deals_104 : decode cX8_deals 104 = .ok (.goto (-28), 3) := by decide +kernel
theorem dX8_deals_107 : decode cX8_deals 107 = .ok (.return_, 1) := by decide +kernel
theorem dX8_commits_0 : decode cX8_commits 0 = .ok (.iload_n 1, 1) := by decide +kernel
theorem dX8_commits_1 : decode cX8_commits 1 = .ok (.invokestatic 35, 3) := by decide +kernel
theorem dX8_commits_4 : decode cX8_commits 4 = .ok (.istore 4, 2) := by decide +kernel
theorem dX8_commits_6 : decode cX8_commits 6 = .ok (.aload_n 0, 1) := by decide +kernel
theorem dX8_commits_7 : decode cX8_commits 7 = .ok (.getfield 7, 3) := by decide +kernel
theorem dX8_commits_10 : decode cX8_commits 10 = .ok (.iload 4, 2) := by decide +kernel
theorem dX8_commits_12 : decode cX8_commits 12 = .ok (.bipush 6, 2) := by decide +kernel
theorem dX8_commits_14 : decode cX8_commits 14 = .ok (.iadd, 1) := by decide +kernel
theorem dX8_commits_15 : decode cX8_commits 15 = .ok (.iconst 1, 1) := by decide +kernel
theorem dX8_commits_16 : decode cX8_commits 16 = .ok (.iastore, 1) := by decide +kernel
theorem dX8_commits_17 : decode cX8_commits 17 = .ok (.aload_n 0, 1) := by decide +kernel
theorem dX8_commits_18 : decode cX8_commits 18 = .ok (.getfield 7, 3) := by decide +kernel
theorem dX8_commits_21 : decode cX8_commits 21 = .ok (.iload 4, 2) := by decide +kernel
theorem dX8_commits_23 : decode cX8_commits 23 = .ok (.bipush 9, 2) := by decide +kernel
theorem dX8_commits_25 : decode cX8_commits 25 = .ok (.iadd, 1) := by decide +kernel
theorem dX8_commits_26 : decode cX8_commits 26 = .ok (.iload_n 2, 1) := by decide +kernel
theorem dX8_commits_27 : decode cX8_commits 27 = .ok (.iastore, 1) := by decide +kernel
theorem dX8_commits_28 : decode cX8_commits 28 = .ok (.aload_n 0, 1) := by decide +kernel
theorem dX8_commits_29 : decode cX8_commits 29 = .ok (.getfield 7, 3) := by decide +kernel
theorem dX8_commits_32 : decode cX8_commits 32 = .ok (.iload 4, 2) := by decide +kernel
theorem dX8_commits_34 : decode cX8_commits 34 = .ok (.bipush 10, 2) := by decide +kernel
theorem dX8_commits_36 : decode cX8_commits 36 = .ok (.iadd, 1) := by decide +kernel
theorem dX8_commits_37 : decode cX8_commits 37 = .ok (.iload_n 3, 1) := by decide +kernel
theorem dX8_commits_38 : decode cX8_commits 38 = .ok (.iastore, 1) := by decide +kernel
theorem dX8_commits_39 : decode cX8_commits 39 = .ok (.aload_n 0, 1) := by decide +kernel
theorem dX8_commits_40 : decode cX8_commits 40 = .ok (.getfield 7, 3) := by decide +kernel
theorem dX8_commits_43 : decode cX8_commits 43 = .ok (.iload 4, 2) := by decide +kernel
theorem dX8_commits_45 : decode cX8_commits 45 = .ok (.bipush 11, 2) := by decide +kernel
theorem dX8_commits_47 : decode cX8_commits 47 = .ok (.iadd, 1) := by decide +kernel
theorem dX8_commits_48 : decode cX8_commits 48 = .ok (.aload_n 0, 1) := by decide +kernel
theorem dX8_commits_49 : decode cX8_commits 49 = .ok (.iload_n 2, 1) := by decide +kernel
theorem dX8_commits_50 : decode cX8_commits 50 = .ok (.iload_n 3, 1) := by decide +kernel
theorem dX8_commits_51 : decode cX8_commits 51 = .ok (.invokevirtual 76, 3) := by decide +kernel
theorem dX8_commits_54 : decode cX8_commits 54 = .ok (.iastore, 1) := by decide +kernel
theorem dX8_commits_55 : decode cX8_commits 55 = .ok (.aload_n 0, 1) := by decide +kernel
theorem dX8_commits_56 : decode cX8_commits 56 = .ok (.getfield 7, 3) := by decide +kernel
theorem dX8_commits_59 : decode cX8_commits 59 = .ok (.iconst 5, 1) := by decide +kernel
theorem dX8_commits_60 : decode cX8_commits 60 = .ok (.iaload, 1) := by decide +kernel
theorem dX8_commits_61 : decode cX8_commits 61 = .ok (.iconst 1, 1) := by decide +kernel
theorem dX8_commits_62 : decode cX8_commits 62 = .ok (.if_icmp .ne 11, 3) := by decide +kernel
theorem dX8_commits_65 : decode cX8_commits 65 = .ok (.aload_n 0, 1) := by decide +kernel
theorem dX8_commits_66 : decode cX8_commits 66 = .ok (.iload_n 1, 1) := by decide +kernel
theorem dX8_commits_67 : decode cX8_commits 67 = .ok (.invokevirtual 79, 3) := by decide +kernel
theorem dX8_commits_70 : decode cX8_commits 70 = .ok (.goto 76, 3) := by decide +kernel
theorem dX8_commits_73 : decode cX8_commits 73 = .ok (.aload_n 0, 1) := by decide +kernel
theorem dX8_commits_74 : decode cX8_commits 74 = .ok (.getfield 7, 3) := by decide +kernel
theorem dX8_commits_77 : decode cX8_commits 77 = .ok (.iconst 5, 1) := by decide +kernel
theorem dX8_commits_78 : decode cX8_commits 78 = .ok (.iaload, 1) := by decide +kernel
theorem dX8_commits_79 : decode cX8_commits 79 = .ok (.iconst 2, 1) := by decide +kernel
theorem dX8_commits_80 : decode cX8_commits 80 = .ok (.if_icmp .ne 66, 3) := by decide +kernel
theorem dX8_commits_83 : decode cX8_commits 83 = .ok (.aload_n 0, 1) := by decide +kernel
theorem dX8_commits_84 : decode cX8_commits 84 = .ok (.iload_n 3, 1) := by decide +kernel
theorem dX8_commits_85 : decode cX8_commits 85 = .ok (.putfield 28, 3) := by decide +kernel
theorem dX8_commits_88 : decode cX8_commits 88 = .ok (.aload_n 0, 1) := by decide +kernel
theorem dX8_commits_89 : decode cX8_commits 89 = .ok (.getfield 7, 3) := by decide +kernel
theorem dX8_commits_92 : decode cX8_commits 92 = .ok (.iload 4, 2) := by decide +kernel
theorem dX8_commits_94 : decode cX8_commits 94 = .ok (.bipush 12, 2) := by decide +kernel
theorem dX8_commits_96 : decode cX8_commits 96 = .ok (.iadd, 1) := by decide +kernel
theorem dX8_commits_97 : decode cX8_commits 97 = .ok (.iconst 2, 1) := by decide +kernel
theorem dX8_commits_98 : decode cX8_commits 98 = .ok (.aload_n 0, 1) := by decide +kernel
theorem dX8_commits_99 : decode cX8_commits 99 = .ok (.invokevirtual 69, 3) := by decide +kernel
theorem dX8_commits_102 : decode cX8_commits 102 = .ok (.sipush 1000, 3) := by decide +kernel
theorem dX8_commits_105 : decode cX8_commits 105 = .ok (.irem, 1) := by decide +kernel
theorem dX8_commits_106 : decode cX8_commits 106 = .ok (.iadd, 1) := by decide +kernel
theorem dX8_commits_107 : decode cX8_commits 107 = .ok (.iastore, 1) := by decide +kernel
theorem dX8_commits_108 : decode cX8_commits 108 = .ok (.aload_n 0, 1) := by decide +kernel
theorem dX8_commits_109 : decode cX8_commits 109 = .ok (.getfield 7, 3) := by decide +kernel
theorem dX8_commits_112 : decode cX8_commits 112 = .ok (.iload 4, 2) := by decide +kernel
theorem dX8_commits_114 : decode cX8_commits 114 = .ok (.bipush 13, 2) := by decide +kernel
theorem dX8_commits_116 : decode cX8_commits 116 = .ok (.iadd, 1) := by decide +kernel
theorem dX8_commits_117 : decode cX8_commits 117 = .ok (.iload_n 2, 1) := by decide +kernel
theorem dX8_commits_118 : decode cX8_commits 118 = .ok (.i2l, 1) := by decide +kernel
theorem dX8_commits_119 : decode cX8_commits 119 = .ok (.aload_n 0, 1) := by decide +kernel
theorem dX8_commits_120 : decode cX8_commits 120 = .ok (.getfield 7, 3) := by decide +kernel
theorem dX8_commits_123 : decode cX8_commits 123 = .ok (.iload 4, 2) := by decide +kernel
theorem dX8_commits_125 : decode cX8_commits 125 = .ok (.bipush 12, 2) := by decide +kernel
theorem dX8_commits_127 : decode cX8_commits 127 = .ok (.iadd, 1) := by decide +kernel
theorem dX8_commits_128 : decode cX8_commits 128 = .ok (.iaload, 1) := by decide +kernel
theorem dX8_commits_129 : decode cX8_commits 129 = .ok (.aload_n 0, 1) := by decide +kernel
theorem dX8_commits_130 : decode cX8_commits 130 = .ok (.getfield 7, 3) := by decide +kernel
theorem dX8_commits_133 : decode cX8_commits 133 = .ok (.bipush 8, 2) := by decide +kernel
theorem dX8_commits_135 : decode cX8_commits 135 = .ok (.iaload, 1) := by decide +kernel
theorem dX8_commits_136 : decode cX8_commits 136 = .ok (.invokestatic 83, 3) := by decide +kernel
theorem dX8_commits_139 : decode cX8_commits 139 = .ok (.ladd, 1) := by decide +kernel
theorem dX8_commits_140 : decode cX8_commits 140 = .ok (.ldc2_w 87, 3) := by decide +kernel
theorem dX8_commits_143 : decode cX8_commits 143 = .ok (.lrem, 1) := by decide +kernel
theorem dX8_commits_144 : decode cX8_commits 144 = .ok (.l2i, 1) := by decide +kernel
theorem dX8_commits_145 : decode cX8_commits 145 = .ok (.iastore, 1) := by decide +kernel
theorem dX8_commits_146 : decode cX8_commits 146 = .ok (.return_, 1) := by decide +kernel
theorem dX8_commit_0 : decode cX8_commit 0 = .ok (.aload_n 0, 1) := by decide +kernel
theorem dX8_commit_1 : decode cX8_commit 1 = .ok (.iload_n 1, 1) := by decide +kernel
theorem dX8_commit_2 : decode cX8_commit 2 = .ok (.invokevirtual 39, 3) := by decide +kernel
theorem dX8_commit_5 : decode cX8_commit 5 = .ok (.ifCond .eq 14, 3) := by decide +kernel
theorem dX8_commit_8 : decode cX8_commit 8 = .ok (.iload_n 2, 1) := by decide +kernel
theorem dX8_commit_9 : decode cX8_commit 9 = .ok (.iconst 0, 1) := by decide +kernel
theorem dX8_commit_10 : decode cX8_commit 10 = .ok (.sipush 1018, 3) := by decide +kernel
theorem dX8_commit_13 : decode cX8_commit 13 = .ok (.invokestatic 31, 3) := by decide +kernel
theorem dX8_commit_16 : decode cX8_commit 16 = .ok (.ifCond .ne 5, 3) := by decide +kernel
theorem dX8_commit_19 : decode cX8_commit 19 = .ok (.iconst (-1), 1) := by decide +kernel
theorem dX8_commit_20 : decode cX8_commit 20 = .ok (.ireturn, 1) := by decide +kernel
theorem dX8_commit_21 : decode cX8_commit 21 = .ok (.aload_n 0, 1) := by decide +kernel
theorem dX8_commit_22 : decode cX8_commit 22 = .ok (.getfield 7, 3) := by decide +kernel
theorem dX8_commit_25 : decode cX8_commit 25 = .ok (.iconst 0, 1) := by decide +kernel
theorem dX8_commit_26 : decode cX8_commit 26 = .ok (.iaload, 1) := by decide +kernel
theorem dX8_commit_27 : decode cX8_commit 27 = .ok (.iconst 1, 1) := by decide +kernel
theorem dX8_commit_28 : decode cX8_commit 28 = .ok (.if_icmp .ne 22, 3) := by decide +kernel
theorem dX8_commit_31 : decode cX8_commit 31 = .ok (.aload_n 0, 1) := by decide +kernel
theorem dX8_commit_32 : decode cX8_commit 32 = .ok (.iload_n 1, 1) := by decide +kernel
theorem dX8_commit_33 : decode cX8_commit 33 = .ok (.iconst 5, 1) := by decide +kernel
theorem dX8_commit_34 : decode cX8_commit 34 = .ok (.invokevirtual 43, 3) := by decide +kernel
theorem dX8_commit_37 : decode cX8_commit 37 = .ok (.ifCond .eq 13, 3) := by decide +kernel
theorem dX8_commit_40 : decode cX8_commit 40 = .ok (.aload_n 0, 1) := by decide +kernel
theorem dX8_commit_41 : decode cX8_commit 41 = .ok (.iload_n 1, 1) := by decide +kernel
theorem dX8_commit_42 : decode cX8_commit 42 = .ok (.bipush 6, 2) := by decide +kernel
theorem dX8_commit_44 : decode cX8_commit 44 = .ok (.invokevirtual 43, 3) := by decide +kernel
theorem dX8_commit_47 : decode cX8_commit 47 = .ok (.ifCond .eq 6, 3) := by decide +kernel
theorem dX8_commit_50 : decode cX8_commit 50 = .ok (.bipush (-2), 2) := by decide +kernel
theorem dX8_commit_52 : decode cX8_commit 52 = .ok (.ireturn, 1) := by decide +kernel
theorem dX8_commit_53 : decode cX8_commit 53 = .ok (.aload_n 0, 1) := by decide +kernel
theorem dX8_commit_54 : decode cX8_commit 54 = .ok (.iload_n 1, 1) := by decide +kernel
theorem dX8_commit_55 : decode cX8_commit 55 = .ok (.aload_n 0, 1) := by decide +kernel
theorem dX8_commit_56 : decode cX8_commit 56 = .ok (.iload_n 2, 1) := by decide +kernel
theorem dX8_commit_57 : decode cX8_commit 57 = .ok (.iload_n 3, 1) := by decide +kernel
theorem dX8_commit_58 : decode cX8_commit 58 = .ok (.invokevirtual 76, 3) := by decide +kernel
theorem dX8_commit_61 : decode cX8_commit 61 = .ok (.invokevirtual 89, 3) := by decide +kernel
theorem dX8_commit_64 : decode cX8_commit 64 = .ok (.ifCond .eq 6, 3) := by decide +kernel
theorem dX8_commit_67 : decode cX8_commit 67 = .ok (.bipush (-4), 2) := by decide +kernel
theorem dX8_commit_69 : decode cX8_commit 69 = .ok (.ireturn, 1) := by decide +kernel
theorem dX8_commit_70 : decode cX8_commit 70 = .ok (.aload_n 0, 1) := by decide +kernel
theorem dX8_commit_71 : decode cX8_commit 71 = .ok (.invokevirtual 48, 3) := by decide +kernel
theorem dX8_commit_74 : decode cX8_commit 74 = .ok (.aload_n 0, 1) := by decide +kernel
theorem dX8_commit_75 : decode cX8_commit 75 = .ok (.iload_n 1, 1) := by decide +kernel
theorem dX8_commit_76 : decode cX8_commit 76 = .ok (.iload_n 2, 1) := by decide +kernel
theorem dX8_commit_77 : decode cX8_commit 77 = .ok (.iload_n 3, 1) := by decide +kernel
theorem dX8_commit_78 : decode cX8_commit 78 = .ok (.invokevirtual 92, 3) := by decide +kernel
theorem dX8_commit_81 : decode cX8_commit 81 = .ok (.aload_n 0, 1) := by decide +kernel
theorem dX8_commit_82 : decode cX8_commit 82 = .ok (.getfield 7, 3) := by decide +kernel
theorem dX8_commit_85 : decode cX8_commit 85 = .ok (.iload_n 1, 1) := by decide +kernel
theorem dX8_commit_86 : decode cX8_commit 86 = .ok (.invokestatic 35, 3) := by decide +kernel
theorem dX8_commit_89 : decode cX8_commit 89 = .ok (.bipush 11, 2) := by decide +kernel
theorem dX8_commit_91 : decode cX8_commit 91 = .ok (.iadd, 1) := by decide +kernel
theorem dX8_commit_92 : decode cX8_commit 92 = .ok (.iaload, 1) := by decide +kernel
theorem dX8_commit_93 : decode cX8_commit 93 = .ok (.ldc 96, 2) := by decide +kernel
theorem dX8_commit_95 : decode cX8_commit 95 = .ok (.iand, 1) := by decide +kernel
theorem dX8_commit_96 : decode cX8_commit 96 = .ok (.ireturn, 1) := by decide +kernel
theorem dX8_hasShares_0 : decode cX8_hasShares 0 = .ok (.aload_n 0, 1) := by decide +kernel
theorem dX8_hasShares_1 : decode cX8_hasShares 1 = .ok (.getfield 7, 3) := by decide +kernel
theorem dX8_hasShares_4 : decode cX8_hasShares 4 = .ok (.iconst 0, 1) := by decide +kernel
theorem dX8_hasShares_5 : decode cX8_hasShares 5 = .ok (.iaload, 1) := by decide +kernel
theorem dX8_hasShares_6 : decode cX8_hasShares 6 = .ok (.ifCond .eq 35, 3) := by decide +kernel
theorem dX8_hasShares_9 : decode cX8_hasShares 9 = .ok (.aload_n 0, 1) := by decide +kernel
theorem dX8_hasShares_10 : decode cX8_hasShares 10 = .ok (.getfield 7, 3) := by decide +kernel
theorem dX8_hasShares_13 : decode cX8_hasShares 13 = .ok (.iconst 5, 1) := by decide +kernel
theorem dX8_hasShares_14 : decode cX8_hasShares 14 = .ok (.iaload, 1) := by decide +kernel
theorem dX8_hasShares_15 : decode cX8_hasShares 15 = .ok (.iconst 1, 1) := by decide +kernel
theorem dX8_hasShares_16 : decode cX8_hasShares 16 = .ok (.if_icmp .ne 25, 3) := by decide +kernel
theorem dX8_hasShares_19 : decode cX8_hasShares 19 = .ok (.aload_n 0, 1) := by decide +kernel
theorem dX8_hasShares_20 : decode cX8_hasShares 20 = .ok (.iload_n 1, 1) := by decide +kernel
theorem dX8_hasShares_21 : decode cX8_hasShares 21 = .ok (.invokevirtual 97, 3) := by decide +kernel
theorem dX8_hasShares_24 : decode cX8_hasShares 24 = .ok (.ifCond .eq 17, 3) := by decide +kernel
theorem dX8_hasShares_27 : decode cX8_hasShares 27 = .ok (.aload_n 0, 1) := by decide +kernel
theorem dX8_hasShares_28 : decode cX8_hasShares 28 = .ok (.iload_n 1, 1) := by decide +kernel
theorem dX8_hasShares_29 : decode cX8_hasShares 29 = .ok (.bipush 6, 2) := by decide +kernel
theorem dX8_hasShares_31 : decode cX8_hasShares 31 = .ok (.invokevirtual 43, 3) := by decide +kernel
theorem dX8_hasShares_34 : decode cX8_hasShares 34 = .ok (.ifCond .eq 7, 3) := by decide +kernel
theorem dX8_hasShares_37 : decode cX8_hasShares 37 = .ok (.iconst 1, 1) := by decide +kernel
theorem dX8_hasShares_38 : decode cX8_hasShares 38 = .ok (.goto 4, 3) := by decide +kernel
theorem dX8_hasShares_41 : decode cX8_hasShares 41 = .ok (.iconst 0, 1) := by decide +kernel
theorem dX8_hasShares_42 : decode cX8_hasShares 42 = .ok (.ireturn, 1) := by decide +kernel
theorem dX8_hasShare_0 : decode cX8_hasShare 0 = .ok (.aload_n 0, 1) := by decide +kernel
theorem dX8_hasShare_1 : decode cX8_hasShare 1 = .ok (.iload_n 1, 1) := by decide +kernel
theorem dX8_hasShare_2 : decode cX8_hasShare 2 = .ok (.invokevirtual 100, 3) := by decide +kernel
theorem dX8_hasShare_5 : decode cX8_hasShare 5 = .ok (.ifCond .eq 15, 3) := by decide +kernel
theorem dX8_hasShare_8 : decode cX8_hasShare 8 = .ok (.aload_n 0, 1) := by decide +kernel
theorem dX8_hasShare_9 : decode cX8_hasShare 9 = .ok (.iload_n 2, 1) := by decide +kernel
theorem dX8_hasShare_10 : decode cX8_hasShare 10 = .ok (.invokevirtual 97, 3) := by decide +kernel
theorem dX8_hasShare_13 : decode cX8_hasShare 13 = .ok (.ifCond .eq 7, 3) := by decide +kernel
theorem dX8_hasShare_16 : decode cX8_hasShare 16 = .ok (.iconst 1, 1) := by decide +kernel
theorem dX8_hasShare_17 : decode cX8_hasShare 17 = .ok (.goto 4, 3) := by decide +kernel
theorem dX8_hasShare_20 : decode cX8_hasShare 20 = .ok (.iconst 0, 1) := by decide +kernel
theorem dX8_hasShare_21 : decode cX8_hasShare 21 = .ok (.ireturn, 1) := by decide +kernel
theorem dX8_shareOf_0 : decode cX8_shareOf 0 = .ok (.aload_n 0, 1) := by decide +kernel
theorem dX8_shareOf_1 : decode cX8_shareOf 1 = .ok (.getfield 7, 3) := by decide +kernel
theorem dX8_shareOf_4 : decode cX8_shareOf 4 = .ok (.iload_n 1, 1) := by decide +kernel
theorem dX8_shareOf_5 : decode cX8_shareOf 5 = .ok (.invokestatic 35, 3) := by decide +kernel
theorem dX8_shareOf_8 : decode cX8_shareOf 8 = .ok (.bipush 22, 2) := by decide +kernel
theorem dX8_shareOf_10 : decode cX8_shareOf 10 = .ok (.iadd, 1) := by decide +kernel
theorem dX8_shareOf_11 : decode cX8_shareOf 11 = .ok (.iload_n 2, 1) := by decide +kernel
theorem dX8_shareOf_12 : decode cX8_shareOf 12 = .ok (.iadd, 1) := by decide +kernel
theorem dX8_shareOf_13 : decode cX8_shareOf 13 = .ok (.iaload, 1) := by decide +kernel
theorem dX8_shareOf_14 : decode cX8_shareOf 14 = .ok (.ireturn, 1) := by decide +kernel
theorem dX8_isGood_0 : decode cX8_isGood 0 = .ok (.aload_n 0, 1) := by decide +kernel
theorem dX8_isGood_1 : decode cX8_isGood 1 = .ok (.iload_n 1, 1) := by decide +kernel
theorem dX8_isGood_2 : decode cX8_isGood 2 = .ok (.iload_n 2, 1) := by decide +kernel
theorem dX8_isGood_3 : decode cX8_isGood 3 = .ok (.invokevirtual 103, 3) := by decide +kernel
theorem dX8_isGood_6 : decode cX8_isGood 6 = .ok (.aload_n 0, 1) := by decide +kernel
theorem dX8_isGood_7 : decode cX8_isGood 7 = .ok (.iload_n 1, 1) := by decide +kernel
theorem dX8_isGood_8 : decode cX8_isGood 8 = .ok (.iload_n 2, 1) := by decide +kernel
theorem dX8_isGood_9 : decode cX8_isGood 9 = .ok (.iconst 1, 1) := by decide +kernel
theorem dX8_isGood_10 : decode cX8_isGood 10 = .ok (.iadd, 1) := by decide +kernel
theorem dX8_isGood_11 : decode cX8_isGood 11 = .ok (.invokevirtual 73, 3) := by decide +kernel
theorem dX8_isGood_14 : decode cX8_isGood 14 = .ok (.if_icmp .ne 7, 3) := by decide +kernel
theorem dX8_isGood_17 : decode cX8_isGood 17 = .ok (.iconst 1, 1) := by decide +kernel
theorem dX8_isGood_18 : decode cX8_isGood 18 = .ok (.goto 4, 3) := by decide +kernel
theorem dX8_isGood_21 : decode cX8_isGood 21 = .ok (.iconst 0, 1) := by decide +kernel
theorem dX8_isGood_22 : decode cX8_isGood 22 = .ok (.ireturn, 1) := by decide +kernel
theorem dX8_spoils_0 : decode cX8_spoils 0 = .ok (.aload_n 0, 1) := by decide +kernel
theorem dX8_spoils_1 : decode cX8_spoils 1 = .ok (.getfield 7, 3) := by decide +kernel
theorem dX8_spoils_4 : decode cX8_spoils 4 = .ok (.iload_n 1, 1) := by decide +kernel
theorem dX8_spoils_5 : decode cX8_spoils 5 = .ok (.invokestatic 35, 3) := by decide +kernel
theorem dX8_spoils_8 : decode cX8_spoils 8 = .ok (.bipush 22, 2) := by decide +kernel
theorem dX8_spoils_10 : decode cX8_spoils 10 = .ok (.iadd, 1) := by decide +kernel
theorem dX8_spoils_11 : decode cX8_spoils 11 = .ok (.iload_n 2, 1) := by decide +kernel
theorem dX8_spoils_12 : decode cX8_spoils 12 = .ok (.iadd, 1) := by decide +kernel
theorem dX8_spoils_13 : decode cX8_spoils 13 = .ok (.aload_n 0, 1) := by decide +kernel
theorem dX8_spoils_14 : decode cX8_spoils 14 = .ok (.iload_n 1, 1) := by decide +kernel
theorem dX8_spoils_15 : decode cX8_spoils 15 = .ok (.iload_n 2, 1) := by decide +kernel
theorem dX8_spoils_16 : decode cX8_spoils 16 = .ok (.invokevirtual 103, 3) := by decide +kernel
theorem dX8_spoils_19 : decode cX8_spoils 19 = .ok (.iload_n 3, 1) := by decide +kernel
theorem dX8_spoils_20 : decode cX8_spoils 20 = .ok (.iadd, 1) := by decide +kernel
theorem dX8_spoils_21 : decode cX8_spoils 21 = .ok (.sipush 1019, 3) := by decide +kernel
theorem dX8_spoils_24 : decode cX8_spoils 24 = .ok (.irem, 1) := by decide +kernel
theorem dX8_spoils_25 : decode cX8_spoils 25 = .ok (.iastore, 1) := by decide +kernel
theorem dX8_spoils_26 : decode cX8_spoils 26 = .ok (.return_, 1) := by decide +kernel
theorem dX8_spoil_0 : decode cX8_spoil 0 = .ok (.aload_n 0, 1) := by decide +kernel
theorem dX8_spoil_1 : decode cX8_spoil 1 = .ok (.iload_n 1, 1) := by decide +kernel
theorem dX8_spoil_2 : decode cX8_spoil 2 = .ok (.invokevirtual 39, 3) := by decide +kernel
theorem dX8_spoil_5 : decode cX8_spoil 5 = .ok (.ifCond .eq 22, 3) := by decide +kernel
theorem dX8_spoil_8 : decode cX8_spoil 8 = .ok (.aload_n 0, 1) := by decide +kernel
theorem dX8_spoil_9 : decode cX8_spoil 9 = .ok (.iload_n 2, 1) := by decide +kernel
theorem dX8_spoil_10 : decode cX8_spoil 10 = .ok (.invokevirtual 39, 3) := by decide +kernel
theorem dX8_spoil_13 : decode cX8_spoil 13 = .ok (.ifCond .eq 14, 3) := by decide +kernel
theorem dX8_spoil_16 : decode cX8_spoil 16 = .ok (.iload_n 3, 1) := by decide +kernel
theorem dX8_spoil_17 : decode cX8_spoil 17 = .ok (.iconst 1, 1) := by decide +kernel
theorem dX8_spoil_18 : decode cX8_spoil 18 = .ok (.sipush 1018, 3) := by decide +kernel
theorem dX8_spoil_21 : decode cX8_spoil 21 = .ok (.invokestatic 31, 3) := by decide +kernel
theorem dX8_spoil_24 : decode cX8_spoil 24 = .ok (.ifCond .ne 5, 3) := by decide +kernel
theorem dX8_spoil_27 : decode cX8_spoil 27 = .ok (.iconst (-1), 1) := by decide +kernel
theorem dX8_spoil_28 : decode cX8_spoil 28 = .ok (.ireturn, 1) := by decide +kernel
theorem dX8_spoil_29 : decode cX8_spoil 29 = .ok (.aload_n 0, 1) := by decide +kernel
theorem dX8_spoil_30 : decode cX8_spoil 30 = .ok (.iload_n 1, 1) := by decide +kernel
theorem dX8_spoil_31 : decode cX8_spoil 31 = .ok (.iload_n 2, 1) := by decide +kernel
theorem dX8_spoil_32 : decode cX8_spoil 32 = .ok (.invokevirtual 106, 3) := by decide +kernel
theorem dX8_spoil_35 : decode cX8_spoil 35 = .ok (.ifCond .ne 6, 3) := by decide +kernel
theorem dX8_spoil_38 : decode cX8_spoil 38 = .ok (.bipush (-9), 2) := by decide +kernel
theorem dX8_spoil_40 : decode cX8_spoil 40 = .ok (.ireturn, 1) := by decide +kernel
theorem dX8_spoil_41 : decode cX8_spoil 41 = .ok (.aload_n 0, 1) := by decide +kernel
theorem dX8_spoil_42 : decode cX8_spoil 42 = .ok (.invokevirtual 48, 3) := by decide +kernel
theorem dX8_spoil_45 : decode cX8_spoil 45 = .ok (.aload_n 0, 1) := by decide +kernel
theorem dX8_spoil_46 : decode cX8_spoil 46 = .ok (.iload_n 1, 1) := by decide +kernel
theorem dX8_spoil_47 : decode cX8_spoil 47 = .ok (.iload_n 2, 1) := by decide +kernel
theorem dX8_spoil_48 : decode cX8_spoil 48 = .ok (.iload_n 3, 1) := by decide +kernel
theorem dX8_spoil_49 : decode cX8_spoil 49 = .ok (.invokevirtual 109, 3) := by decide +kernel
theorem dX8_spoil_52 : decode cX8_spoil 52 = .ok (.aload_n 0, 1) := by decide +kernel
theorem dX8_spoil_53 : decode cX8_spoil 53 = .ok (.iload_n 1, 1) := by decide +kernel
theorem dX8_spoil_54 : decode cX8_spoil 54 = .ok (.iload_n 2, 1) := by decide +kernel
theorem dX8_spoil_55 : decode cX8_spoil 55 = .ok (.invokevirtual 103, 3) := by decide +kernel
theorem dX8_spoil_58 : decode cX8_spoil 58 = .ok (.ireturn, 1) := by decide +kernel
theorem dX8_complains_0 : decode cX8_complains 0 = .ok (.aload_n 0, 1) := by decide +kernel
theorem dX8_complains_1 : decode cX8_complains 1 = .ok (.iload_n 2, 1) := by decide +kernel
theorem dX8_complains_2 : decode cX8_complains 2 = .ok (.iload_n 1, 1) := by decide +kernel
theorem dX8_complains_3 : decode cX8_complains 3 = .ok (.invokevirtual 112, 3) := by decide +kernel
theorem dX8_complains_6 : decode cX8_complains 6 = .ok (.ifCond .eq 10, 3) := by decide +kernel
theorem dX8_complains_9 : decode cX8_complains 9 = .ok (.aload_n 0, 1) := by decide +kernel
theorem dX8_complains_10 : decode cX8_complains 10 = .ok (.iload_n 1, 1) := by decide +kernel
theorem dX8_complains_11 : decode cX8_complains 11 = .ok (.invokevirtual 115, 3) := by decide +kernel
theorem dX8_complains_14 : decode cX8_complains 14 = .ok (.iconst 0, 1) := by decide +kernel
theorem dX8_complains_15 : decode cX8_complains 15 = .ok (.ireturn, 1) := by decide +kernel
theorem dX8_complains_16 : decode cX8_complains 16 = .ok (.aload_n 0, 1) := by decide +kernel
theorem dX8_complains_17 : decode cX8_complains 17 = .ok (.iload_n 2, 1) := by decide +kernel
theorem dX8_complains_18 : decode cX8_complains 18 = .ok (.invokevirtual 115, 3) := by decide +kernel
theorem dX8_complains_21 : decode cX8_complains 21 = .ok (.aload_n 0, 1) := by decide +kernel
theorem dX8_complains_22 : decode cX8_complains 22 = .ok (.getfield 7, 3) := by decide +kernel
theorem dX8_complains_25 : decode cX8_complains 25 = .ok (.iload_n 2, 1) := by decide +kernel
theorem dX8_complains_26 : decode cX8_complains 26 = .ok (.invokestatic 35, 3) := by decide +kernel
theorem dX8_complains_29 : decode cX8_complains 29 = .ok (.iconst 5, 1) := by decide +kernel
theorem dX8_complains_30 : decode cX8_complains 30 = .ok (.iadd, 1) := by decide +kernel
theorem dX8_complains_31 : decode cX8_complains 31 = .ok (.iconst 0, 1) := by decide +kernel
theorem dX8_complains_32 : decode cX8_complains 32 = .ok (.iastore, 1) := by decide +kernel
theorem dX8_complains_33 : decode cX8_complains 33 = .ok (.aload_n 0, 1) := by decide +kernel
theorem dX8_complains_34 : decode cX8_complains 34 = .ok (.getfield 7, 3) := by decide +kernel
theorem dX8_complains_37 : decode cX8_complains 37 = .ok (.iload_n 2, 1) := by decide +kernel
theorem dX8_complains_38 : decode cX8_complains 38 = .ok (.invokestatic 35, 3) := by decide +kernel
theorem dX8_complains_41 : decode cX8_complains 41 = .ok (.bipush 8, 2) := by decide +kernel
theorem dX8_complains_43 : decode cX8_complains 43 = .ok (.iadd, 1) := by decide +kernel
theorem dX8_complains_44 : decode cX8_complains 44 = .ok (.iconst 1, 1) := by decide +kernel
theorem dX8_complains_45 : decode cX8_complains 45 = .ok (.iastore, 1) := by decide +kernel
theorem dX8_complains_46 : decode cX8_complains 46 = .ok (.aload_n 0, 1) := by decide +kernel
theorem dX8_complains_47 : decode cX8_complains 47 = .ok (.getfield 7, 3) := by decide +kernel
theorem dX8_complains_50 : decode cX8_complains 50 = .ok (.iload_n 2, 1) := by decide +kernel
theorem dX8_complains_51 : decode cX8_complains 51 = .ok (.invokestatic 35, 3) := by decide +kernel
theorem dX8_complains_54 : decode cX8_complains 54 = .ok (.iconst 3, 1) := by decide +kernel
theorem dX8_complains_55 : decode cX8_complains 55 = .ok (.iadd, 1) := by decide +kernel
theorem dX8_complains_56 : decode cX8_complains 56 = .ok (.dup2, 1) := by decide +kernel
theorem dX8_complains_57 : decode cX8_complains 57 = .ok (.iaload, 1) := by decide +kernel
theorem dX8_complains_58 : decode cX8_complains 58 = .ok (.iconst 1, 1) := by decide +kernel
theorem dX8_complains_59 : decode cX8_complains 59 = .ok (.iadd, 1) := by decide +kernel
theorem dX8_complains_60 : decode cX8_complains 60 = .ok (.iastore, 1) := by decide +kernel
theorem dX8_complains_61 : decode cX8_complains 61 = .ok (.iconst 1, 1) := by decide +kernel
theorem dX8_complains_62 : decode cX8_complains 62 = .ok (.ireturn, 1) := by decide +kernel
theorem dX8_complain_0 : decode cX8_complain 0 = .ok (.aload_n 0, 1) := by decide +kernel
theorem dX8_complain_1 : decode cX8_complain 1 = .ok (.iload_n 1, 1) := by decide +kernel
theorem dX8_complain_2 : decode cX8_complain 2 = .ok (.invokevirtual 39, 3) := by decide +kernel
theorem dX8_complain_5 : decode cX8_complain 5 = .ok (.ifCond .eq 16, 3) := by decide +kernel
theorem dX8_complain_8 : decode cX8_complain 8 = .ok (.aload_n 0, 1) := by decide +kernel
theorem dX8_complain_9 : decode cX8_complain 9 = .ok (.iload_n 2, 1) := by decide +kernel
theorem dX8_complain_10 : decode cX8_complain 10 = .ok (.invokevirtual 39, 3) := by decide +kernel
theorem dX8_complain_13 : decode cX8_complain 13 = .ok (.ifCond .eq 8, 3) := by decide +kernel
theorem dX8_complain_16 : decode cX8_complain 16 = .ok (.iload_n 1, 1) := by decide +kernel
theorem dX8_complain_17 : decode cX8_complain 17 = .ok (.iload_n 2, 1) := by decide +kernel
theorem dX8_complain_18 : decode cX8_complain 18 = .ok (.if_icmp .ne 5, 3) := by decide +kernel
theorem dX8_complain_21 : decode cX8_complain 21 = .ok (.iconst (-1), 1) := by decide +kernel
theorem dX8_complain_22 : decode cX8_complain 22 = .ok (.ireturn, 1) := by decide +kernel
theorem dX8_complain_23 : decode cX8_complain 23 = .ok (.aload_n 0, 1) := by decide +kernel
theorem dX8_complain_24 : decode cX8_complain 24 = .ok (.getfield 7, 3) := by decide +kernel
theorem dX8_complain_27 : decode cX8_complain 27 = .ok (.iconst 0, 1) := by decide +kernel
theorem dX8_complain_28 : decode cX8_complain 28 = .ok (.iaload, 1) := by decide +kernel
theorem dX8_complain_29 : decode cX8_complain 29 = .ok (.iconst 1, 1) := by decide +kernel
theorem dX8_complain_30 : decode cX8_complain 30 = .ok (.if_icmp .eq 6, 3) := by decide +kernel
theorem dX8_complain_33 : decode cX8_complain 33 = .ok (.bipush (-2), 2) := by decide +kernel
theorem dX8_complain_35 : decode cX8_complain 35 = .ok (.ireturn, 1) := by decide +kernel
theorem dX8_complain_36 : decode cX8_complain 36 = .ok (.aload_n 0, 1) := by decide +kernel
theorem dX8_complain_37 : decode cX8_complain 37 = .ok (.iload_n 2, 1) := by decide +kernel
theorem dX8_complain_38 : decode cX8_complain 38 = .ok (.iload_n 1, 1) := by decide +kernel
theorem dX8_complain_39 : decode cX8_complain 39 = .ok (.invokevirtual 106, 3) := by decide +kernel
theorem dX8_complain_42 : decode cX8_complain 42 = .ok (.ifCond .ne 6, 3) := by decide +kernel
theorem dX8_complain_45 : decode cX8_complain 45 = .ok (.bipush (-9), 2) := by decide +kernel
theorem dX8_complain_47 : decode cX8_complain 47 = .ok (.ireturn, 1) := by decide +kernel
theorem dX8_complain_48 : decode cX8_complain 48 = .ok (.aload_n 0, 1) := by decide +kernel
theorem dX8_complain_49 : decode cX8_complain 49 = .ok (.invokevirtual 48, 3) := by decide +kernel
theorem dX8_complain_52 : decode cX8_complain 52 = .ok (.aload_n 0, 1) := by decide +kernel
theorem dX8_complain_53 : decode cX8_complain 53 = .ok (.iload_n 1, 1) := by decide +kernel
theorem dX8_complain_54 : decode cX8_complain 54 = .ok (.iload_n 2, 1) := by decide +kernel
theorem dX8_complain_55 : decode cX8_complain 55 = .ok (.invokevirtual 118, 3) := by decide +kernel
theorem dX8_complain_58 : decode cX8_complain 58 = .ok (.ireturn, 1) := by decide +kernel
theorem dX8_ends_0 : decode cX8_ends 0 = .ok (.sipush 340, 3) := by decide +kernel
theorem dX8_ends_3 : decode cX8_ends 3 = .ok (.iconst 5, 1) := by decide +kernel
theorem dX8_ends_4 : decode cX8_ends 4 = .ok (.aload_n 0, 1) := by decide +kernel
theorem dX8_ends_5 : decode cX8_ends 5 = .ok (.getfield 7, 3) := by decide +kernel
theorem dX8_ends_8 : decode cX8_ends 8 = .ok (.iconst 1, 1) := by decide +kernel
theorem dX8_ends_9 : decode cX8_ends 9 = .ok (.iaload, 1) := by decide +kernel
theorem dX8_ends_10 : decode cX8_ends 10 = .ok (.bipush 16, 2) := by decide +kernel
theorem dX8_ends_12 : decode cX8_ends 12 = .ok (.irem, 1) := by decide +kernel
theorem dX8_ends_13 : decode cX8_ends 13 = .ok (.imul, 1) := by decide +kernel
theorem dX8_ends_14 : decode cX8_ends 14 = .ok (.iadd, 1) := by decide +kernel
theorem dX8_ends_15 : decode cX8_ends 15 = .ok (.istore 5, 2) := by decide +kernel
theorem dX8_ends_17 : decode cX8_ends 17 = .ok (.aload_n 0, 1) := by decide +kernel
theorem dX8_ends_18 : decode cX8_ends 18 = .ok (.getfield 7, 3) := by decide +kernel
theorem dX8_ends_21 : decode cX8_ends 21 = .ok (.iload 5, 2) := by decide +kernel
theorem dX8_ends_23 : decode cX8_ends 23 = .ok (.iconst 0, 1) := by decide +kernel
theorem dX8_ends_24 : decode cX8_ends 24 = .ok (.iadd, 1) := by decide +kernel
theorem dX8_ends_25 : decode cX8_ends 25 = .ok (.iload_n 1, 1) := by decide +kernel
theorem dX8_ends_26 : decode cX8_ends 26 = .ok (.iastore, 1) := by decide +kernel
theorem dX8_ends_27 : decode cX8_ends 27 = .ok (.aload_n 0, 1) := by decide +kernel
theorem dX8_ends_28 : decode cX8_ends 28 = .ok (.getfield 7, 3) := by decide +kernel
theorem dX8_ends_31 : decode cX8_ends 31 = .ok (.iload 5, 2) := by decide +kernel
theorem dX8_ends_33 : decode cX8_ends 33 = .ok (.iconst 1, 1) := by decide +kernel
theorem dX8_ends_34 : decode cX8_ends 34 = .ok (.iadd, 1) := by decide +kernel
theorem dX8_ends_35 : decode cX8_ends 35 = .ok (.iload 4, 2) := by decide +kernel
theorem dX8_ends_37 : decode cX8_ends 37 = .ok (.iastore, 1) := by decide +kernel
theorem dX8_ends_38 : decode cX8_ends 38 = .ok (.aload_n 0, 1) := by decide +kernel
theorem dX8_ends_39 : decode cX8_ends 39 = .ok (.getfield 7, 3) := by decide +kernel
theorem dX8_ends_42 : decode cX8_ends 42 = .ok (.iload 5, 2) := by decide +kernel
theorem dX8_ends_44 : decode cX8_ends 44 = .ok (.iconst 2, 1) := by decide +kernel
theorem dX8_ends_45 : decode cX8_ends 45 = .ok (.iadd, 1) := by decide +kernel
theorem dX8_ends_46 : decode cX8_ends 46 = .ok (.iload_n 3, 1) := by decide +kernel
theorem dX8_ends_47 : decode cX8_ends 47 = .ok (.iastore, 1) := by decide +kernel
theorem dX8_ends_48 : decode cX8_ends 48 = .ok (.aload_n 0, 1) := by decide +kernel
theorem dX8_ends_49 : decode cX8_ends 49 = .ok (.getfield 7, 3) := by decide +kernel
theorem dX8_ends_52 : decode cX8_ends 52 = .ok (.iload 5, 2) := by decide +kernel
theorem dX8_ends_54 : decode cX8_ends 54 = .ok (.iconst 3, 1) := by decide +kernel
theorem dX8_ends_55 : decode cX8_ends 55 = .ok (.iadd, 1) := by decide +kernel
theorem dX8_ends_56 : decode cX8_ends 56 = .ok (.aload_n 0, 1) := by decide +kernel
theorem dX8_ends_57 : decode cX8_ends 57 = .ok (.getfield 7, 3) := by decide +kernel
theorem dX8_ends_60 : decode cX8_ends 60 = .ok (.iconst 5, 1) := by decide +kernel
theorem dX8_ends_61 : decode cX8_ends 61 = .ok (.iaload, 1) := by decide +kernel
theorem dX8_ends_62 : decode cX8_ends 62 = .ok (.iastore, 1) := by decide +kernel
theorem dX8_ends_63 : decode cX8_ends 63 = .ok (.aload_n 0, 1) := by decide +kernel
theorem dX8_ends_64 : decode cX8_ends 64 = .ok (.getfield 7, 3) := by decide +kernel
theorem dX8_ends_67 : decode cX8_ends 67 = .ok (.iload 5, 2) := by decide +kernel
theorem dX8_ends_69 : decode cX8_ends 69 = .ok (.iconst 4, 1) := by decide +kernel
theorem dX8_ends_70 : decode cX8_ends 70 = .ok (.iadd, 1) := by decide +kernel
theorem dX8_ends_71 : decode cX8_ends 71 = .ok (.iload_n 2, 1) := by decide +kernel
theorem dX8_ends_72 : decode cX8_ends 72 = .ok (.iastore, 1) := by decide +kernel
theorem dX8_ends_73 : decode cX8_ends 73 = .ok (.aload_n 0, 1) := by decide +kernel
theorem dX8_ends_74 : decode cX8_ends 74 = .ok (.getfield 7, 3) := by decide +kernel
theorem dX8_ends_77 : decode cX8_ends 77 = .ok (.iconst 1, 1) := by decide +kernel
theorem dX8_ends_78 : decode cX8_ends 78 = .ok (.dup2, 1) := by decide +kernel
theorem dX8_ends_79 : decode cX8_ends 79 = .ok (.iaload, 1) := by decide +kernel
theorem dX8_ends_80 : decode cX8_ends 80 = .ok (.iconst 1, 1) := by decide +kernel
theorem dX8_ends_81 : decode cX8_ends 81 = .ok (.iadd, 1) := by decide +kernel
theorem dX8_ends_82 : decode cX8_ends 82 = .ok (.iastore, 1) := by decide +kernel
theorem dX8_ends_83 : decode cX8_ends 83 = .ok (.aload_n 0, 1) := by decide +kernel
theorem dX8_ends_84 : decode cX8_ends 84 = .ok (.getfield 7, 3) := by decide +kernel
theorem dX8_ends_87 : decode cX8_ends 87 = .ok (.iconst 0, 1) := by decide +kernel
theorem dX8_ends_88 : decode cX8_ends 88 = .ok (.iconst 0, 1) := by decide +kernel
theorem dX8_ends_89 : decode cX8_ends 89 = .ok (.iastore, 1) := by decide +kernel
theorem dX8_ends_90 : decode cX8_ends 90 = .ok (.aload_n 0, 1) := by decide +kernel
theorem dX8_ends_91 : decode cX8_ends 91 = .ok (.getfield 7, 3) := by decide +kernel
theorem dX8_ends_94 : decode cX8_ends 94 = .ok (.bipush 11, 2) := by decide +kernel
theorem dX8_ends_96 : decode cX8_ends 96 = .ok (.iload_n 1, 1) := by decide +kernel
theorem dX8_ends_97 : decode cX8_ends 97 = .ok (.ifCond .ge 7, 3) := by decide +kernel
theorem dX8_ends_100 : decode cX8_ends 100 = .ok (.iconst 0, 1) := by decide +kernel
theorem dX8_ends_101 : decode cX8_ends 101 = .ok (.goto 37, 3) := by decide +kernel
theorem dX8_ends_104 : decode cX8_ends 104 = .ok (.aload_n 0, 1) := by decide +kernel
theorem dX8_ends_105 : decode cX8_ends 105 = .ok (.getfield 7, 3) := by decide +kernel
theorem dX8_ends_108 : decode cX8_ends 108 = .ok (.bipush 11, 2) := by decide +kernel
theorem dX8_ends_110 : decode cX8_ends 110 = .ok (.iaload, 1) := by decide +kernel
theorem dX8_ends_111 : decode cX8_ends 111 = .ok (.ifCond .le 26, 3) := by decide +kernel
theorem dX8_ends_114 : decode cX8_ends 114 = .ok (.aload_n 0, 1) := by decide +kernel
theorem dX8_ends_115 : decode cX8_ends 115 = .ok (.getfield 7, 3) := by decide +kernel
theorem dX8_ends_118 : decode cX8_ends 118 = .ok (.bipush 12, 2) := by decide +kernel
theorem dX8_ends_120 : decode cX8_ends 120 = .ok (.iaload, 1) := by decide +kernel
theorem dX8_ends_121 : decode cX8_ends 121 = .ok (.iload_n 1, 1) := by decide +kernel
theorem dX8_ends_122 : decode cX8_ends 122 = .ok (.if_icmp .ne 15, 3) := by decide +kernel
theorem dX8_ends_125 : decode cX8_ends 125 = .ok (.aload_n 0, 1) := by decide +kernel
theorem dX8_ends_126 : decode cX8_ends 126 = .ok (.getfield 7, 3) := by decide +kernel
theorem dX8_ends_129 : decode cX8_ends 129 = .ok (.bipush 11, 2) := by decide +kernel
theorem dX8_ends_131 : decode cX8_ends 131 = .ok (.iaload, 1) := by decide +kernel
theorem dX8_ends_132 : decode cX8_ends 132 = .ok (.iconst 1, 1) := by decide +kernel
theorem dX8_ends_133 : decode cX8_ends 133 = .ok (.iadd, 1) := by decide +kernel
theorem dX8_ends_134 : decode cX8_ends 134 = .ok (.goto 4, 3) := by decide +kernel
theorem dX8_ends_137 : decode cX8_ends 137 = .ok (.iconst 1, 1) := by decide +kernel
theorem dX8_ends_138 : decode cX8_ends 138 = .ok (.iastore, 1) := by decide +kernel
theorem dX8_ends_139 : decode cX8_ends 139 = .ok (.aload_n 0, 1) := by decide +kernel
theorem dX8_ends_140 : decode cX8_ends 140 = .ok (.getfield 7, 3) := by decide +kernel
theorem dX8_ends_143 : decode cX8_ends 143 = .ok (.bipush 12, 2) := by decide +kernel
theorem dX8_ends_145 : decode cX8_ends 145 = .ok (.iload_n 1, 1) := by decide +kernel
theorem dX8_ends_146 : decode cX8_ends 146 = .ok (.iastore, 1) := by decide +kernel
theorem dX8_ends_147 : decode cX8_ends 147 = .ok (.aload_n 0, 1) := by decide +kernel
theorem dX8_ends_148 : decode cX8_ends 148 = .ok (.getfield 7, 3) := by decide +kernel
theorem dX8_ends_151 : decode cX8_ends 151 = .ok (.bipush 13, 2) := by decide +kernel
theorem dX8_ends_153 : decode cX8_ends 153 = .ok (.aload_n 0, 1) := by decide +kernel
theorem dX8_ends_154 : decode cX8_ends 154 = .ok (.getfield 7, 3) := by decide +kernel
theorem dX8_ends_157 : decode cX8_ends 157 = .ok (.bipush 11, 2) := by decide +kernel
theorem dX8_ends_159 : decode cX8_ends 159 = .ok (.iaload, 1) := by decide +kernel
theorem dX8_ends_160 : decode cX8_ends 160 = .ok (.aload_n 0, 1) := by decide +kernel
theorem dX8_ends_161 : decode cX8_ends 161 = .ok (.getfield 7, 3) := by decide +kernel
theorem dX8_ends_164 : decode cX8_ends 164 = .ok (.bipush 13, 2) := by decide +kernel
theorem dX8_ends_166 : decode cX8_ends 166 = .ok (.iaload, 1) := by decide +kernel
theorem dX8_ends_167 : decode cX8_ends 167 = .ok (.if_icmp .le 13, 3) := by decide +kernel
theorem dX8_ends_170 : decode cX8_ends 170 = .ok (.aload_n 0, 1) := by decide +kernel
theorem dX8_ends_171 : decode cX8_ends 171 = .ok (.getfield 7, 3) := by decide +kernel
theorem dX8_ends_174 : decode cX8_ends 174 = .ok (.bipush 11, 2) := by decide +kernel
theorem dX8_ends_176 : decode cX8_ends 176 = .ok (.iaload, 1) := by decide +kernel
theorem dX8_ends_177 : decode cX8_ends 177 = .ok (.goto 10, 3) := by decide +kernel
theorem dX8_ends_180 : decode cX8_ends 180 = .ok (.aload_n 0, 1) := by decide +kernel
theorem dX8_ends_181 : decode cX8_ends 181 = .ok (.getfield 7, 3) := by decide +kernel
theorem dX8_ends_184 : decode cX8_ends 184 = .ok (.bipush 13, 2) := by decide +kernel
theorem dX8_ends_186 : decode cX8_ends 186 = .ok (.iaload, 1) := by decide +kernel
theorem dX8_ends_187 : decode cX8_ends 187 = .ok (.iastore, 1) := by decide +kernel
theorem dX8_ends_188 : decode cX8_ends 188 = .ok (.aload_n 0, 1) := by decide +kernel
theorem dX8_ends_189 : decode cX8_ends 189 = .ok (.getfield 7, 3) := by decide +kernel
theorem dX8_ends_192 : decode cX8_ends 192 = .ok (.bipush 9, 2) := by decide +kernel
theorem dX8_ends_194 : decode cX8_ends 194 = .ok (.dup2, 1) := by decide +kernel
theorem dX8_ends_195 : decode cX8_ends 195 = .ok (.iaload, 1) := by decide +kernel
theorem dX8_ends_196 : decode cX8_ends 196 = .ok (.iload_n 1, 1) := by decide +kernel
theorem dX8_ends_197 : decode cX8_ends 197 = .ok (.ifCond .ne 7, 3) := by decide +kernel
theorem dX8_ends_200 : decode cX8_ends 200 = .ok (.iconst 1, 1) := by decide +kernel
theorem dX8_ends_201 : decode cX8_ends 201 = .ok (.goto 4, 3) := by decide +kernel
theorem dX8_ends_204 : decode cX8_ends 204 = .ok (.iconst 0, 1) := by decide +kernel
theorem dX8_ends_205 : decode cX8_ends 205 = .ok (.iadd, 1) := by decide +kernel
theorem dX8_ends_206 : decode cX8_ends 206 = .ok (.iastore, 1) := by decide +kernel
theorem dX8_ends_207 : decode cX8_ends 207 = .ok (.aload_n 0, 1) := by decide +kernel
theorem dX8_ends_208 : decode cX8_ends 208 = .ok (.getfield 7, 3) := by decide +kernel
theorem dX8_ends_211 : decode cX8_ends 211 = .ok (.bipush 10, 2) := by decide +kernel
theorem dX8_ends_213 : decode cX8_ends 213 = .ok (.dup2, 1) := by decide +kernel
theorem dX8_ends_214 : decode cX8_ends 214 = .ok (.iaload, 1) := by decide +kernel
theorem dX8_ends_215 : decode cX8_ends 215 = .ok (.iload_n 1, 1) := by decide +kernel
theorem dX8_ends_216 : decode cX8_ends 216 = .ok (.iconst 1, 1) := by decide +kernel
theorem dX8_ends_217 : decode cX8_ends 217 = .ok (.if_icmp .ne 7, 3) := by decide +kernel
theorem dX8_ends_220 : decode cX8_ends 220 = .ok (.iconst 1, 1) := by decide +kernel
theorem dX8_ends_221 : decode cX8_ends 221 = .ok (.goto 4, 3) := by decide +kernel
theorem dX8_ends_224 : decode cX8_ends 224 = .ok (.iconst 0, 1) := by decide +kernel
theorem dX8_ends_225 : decode cX8_ends 225 = .ok (.iadd, 1) := by decide +kernel
theorem dX8_ends_226 : decode cX8_ends 226 = .ok (.iastore, 1) := by decide +kernel
theorem dX8_ends_227 : decode cX8_ends 227 = .ok (.aload_n 0, 1) := by decide +kernel
theorem dX8_ends_228 : decode cX8_ends 228 = .ok (.getfield 7, 3) := by decide +kernel
theorem dX8_ends_231 : decode cX8_ends 231 = .ok (.iconst 3, 1) := by decide +kernel
theorem dX8_ends_232 : decode cX8_ends 232 = .ok (.iload_n 1, 1) := by decide +kernel
theorem dX8_ends_233 : decode cX8_ends 233 = .ok (.ifCond .ge 12, 3) := by decide +kernel
theorem dX8_ends_236 : decode cX8_ends 236 = .ok (.aload_n 0, 1) := by decide +kernel
theorem dX8_ends_237 : decode cX8_ends 237 = .ok (.getfield 7, 3) := by decide +kernel
theorem dX8_ends_240 : decode cX8_ends 240 = .ok (.iconst 3, 1) := by decide +kernel
theorem dX8_ends_241 : decode cX8_ends 241 = .ok (.iaload, 1) := by decide +kernel
theorem dX8_ends_242 : decode cX8_ends 242 = .ok (.goto 4, 3) := by decide +kernel
theorem dX8_ends_245 : decode cX8_ends 245 = .ok (.iload_n 2, 1) := by decide +kernel
theorem dX8_ends_246 : decode cX8_ends 246 = .ok (.iastore, 1) := by decide +kernel
theorem dX8_ends_247 : decode cX8_ends 247 = .ok (.return_, 1) := by decide +kernel
theorem dX8_opensUp_0 : decode cX8_opensUp 0 = .ok (.iconst 0, 1) := by decide +kernel
theorem dX8_opensUp_1 : decode cX8_opensUp 1 = .ok (.istore_n 1, 1) := by decide +kernel
theorem dX8_opensUp_2 : decode cX8_opensUp 2 = .ok (.iload_n 1, 1) := by decide +kernel
theorem dX8_opensUp_3 : decode cX8_opensUp 3 = .ok (.aload_n 0, 1) := by decide +kernel
theorem dX8_opensUp_4 : decode cX8_opensUp 4 = .ok (.getfield 7, 3) := by decide +kernel
theorem dX8_opensUp_7 : decode cX8_opensUp 7 = .ok (.iconst 4, 1) := by decide +kernel
theorem dX8_opensUp_8 : decode cX8_opensUp 8 = .ok (.iaload, 1) := by decide +kernel
theorem dX8_opensUp_9 : decode cX8_opensUp 9 = .ok (.if_icmp .ge 45, 3) := by decide +kernel
theorem dX8_opensUp_12 : decode cX8_opensUp 12 = .ok (.aload_n 0, 1) := by decide +kernel
theorem dX8_opensUp_13 : decode cX8_opensUp 13 = .ok (.getfield 7, 3) := by decide +kernel
theorem dX8_opensUp_16 : decode cX8_opensUp 16 = .ok (.iload_n 1, 1) := by decide +kernel
theorem dX8_opensUp_17 : decode cX8_opensUp 17 = .ok (.invokestatic 35, 3) := by decide +kernel
theorem dX8_opensUp_20 : decode cX8_opensUp 20 = .ok (.iconst 5, 1) := by decide +kernel
theorem dX8_opensUp_21 : decode cX8_opensUp 21 = .ok (.iadd, 1) := by decide +kernel
theorem dX8_opensUp_22 : decode cX8_opensUp 22 = .ok (.aload_n 0, 1) := by decide +kernel
theorem dX8_opensUp_23 : decode cX8_opensUp 23 = .ok (.iload_n 1, 1) := by decide +kernel
theorem dX8_opensUp_24 : decode cX8_opensUp 24 = .ok (.bipush 6, 2) := by decide +kernel
theorem dX8_opensUp_26 : decode cX8_opensUp 26 = .ok (.invokevirtual 43, 3) := by decide +kernel
theorem dX8_opensUp_29 : decode cX8_opensUp 29 = .ok (.ifCond .eq 17, 3) := by decide +kernel
theorem dX8_opensUp_32 : decode cX8_opensUp 32 = .ok (.aload_n 0, 1) := by decide +kernel
theorem dX8_opensUp_33 : decode cX8_opensUp 33 = .ok (.getfield 7, 3) := by decide +kernel
theorem dX8_opensUp_36 : decode cX8_opensUp 36 = .ok (.iload_n 1, 1) := by decide +kernel
theorem dX8_opensUp_37 : decode cX8_opensUp 37 = .ok (.invokestatic 35, 3) := by decide +kernel
theorem dX8_opensUp_40 : decode cX8_opensUp 40 = .ok (.iconst 5, 1) := by decide +kernel
theorem dX8_opensUp_41 : decode cX8_opensUp 41 = .ok (.iadd, 1) := by decide +kernel
theorem dX8_opensUp_42 : decode cX8_opensUp 42 = .ok (.iaload, 1) := by decide +kernel
theorem dX8_opensUp_43 : decode cX8_opensUp 43 = .ok (.goto 4, 3) := by decide +kernel
theorem dX8_opensUp_46 : decode cX8_opensUp 46 = .ok (.iconst 0, 1) := by decide +kernel
theorem dX8_opensUp_47 : decode cX8_opensUp 47 = .ok (.iastore, 1) := by decide +kernel
theorem dX8_opensUp_48 : decode cX8_opensUp 48 = .ok (.iinc 1 1, 3) := by decide +kernel
theorem dX8_opensUp_51 : decode cX8_opensUp 51 = .ok (.goto (-49), 3) := by decide +kernel
theorem dX8_opensUp_54 : decode cX8_opensUp 54 = .ok (.aload_n 0, 1) := by decide +kernel
theorem dX8_opensUp_55 : decode cX8_opensUp 55 = .ok (.iconst 5, 1) := by decide +kernel
theorem dX8_opensUp_56 : decode cX8_opensUp 56 = .ok (.invokevirtual 121, 3) := by decide +kernel
theorem dX8_opensUp_59 : decode cX8_opensUp 59 = .ok (.istore_n 1, 1) := by decide +kernel
theorem dX8_opensUp_60 : decode cX8_opensUp 60 = .ok (.iload_n 1, 1) := by decide +kernel
theorem dX8_opensUp_61 : decode cX8_opensUp 61 = .ok (.invokestatic 124, 3) := by decide +kernel
theorem dX8_opensUp_64 : decode cX8_opensUp 64 = .ok (.iconst 2, 1) := by decide +kernel
theorem dX8_opensUp_65 : decode cX8_opensUp 65 = .ok (.if_icmp .ge 15, 3) := by decide +kernel
theorem dX8_opensUp_68 : decode cX8_opensUp 68 = .ok (.aload_n 0, 1) := by decide +kernel
theorem dX8_opensUp_69 : decode cX8_opensUp 69 = .ok (.bipush (-5), 2) := by decide +kernel
theorem dX8_opensUp_71 : decode cX8_opensUp 71 = .ok (.iconst 0, 1) := by decide +kernel
theorem dX8_opensUp_72 : decode cX8_opensUp 72 = .ok (.iconst 0, 1) := by decide +kernel
theorem dX8_opensUp_73 : decode cX8_opensUp 73 = .ok (.iload_n 1, 1) := by decide +kernel
theorem dX8_opensUp_74 : decode cX8_opensUp 74 = .ok (.invokevirtual 127, 3) := by decide +kernel
theorem dX8_opensUp_77 : decode cX8_opensUp 77 = .ok (.bipush (-5), 2) := by decide +kernel
theorem dX8_opensUp_79 : decode cX8_opensUp 79 = .ok (.ireturn, 1) := by decide +kernel
theorem dX8_opensUp_80 : decode cX8_opensUp 80 = .ok (.aload_n 0, 1) := by decide +kernel
theorem dX8_opensUp_81 : decode cX8_opensUp 81 = .ok (.getfield 7, 3) := by decide +kernel
theorem dX8_opensUp_84 : decode cX8_opensUp 84 = .ok (.iconst 0, 1) := by decide +kernel
theorem dX8_opensUp_85 : decode cX8_opensUp 85 = .ok (.iconst 2, 1) := by decide +kernel
theorem dX8_opensUp_86 : decode cX8_opensUp 86 = .ok (.iastore, 1) := by decide +kernel
theorem dX8_opensUp_87 : decode cX8_opensUp 87 = .ok (.iload_n 1, 1) := by decide +kernel
theorem dX8_opensUp_88 : decode cX8_opensUp 88 = .ok (.invokestatic 124, 3) := by decide +kernel
theorem dX8_opensUp_91 : decode cX8_opensUp 91 = .ok (.ireturn, 1) := by decide +kernel
theorem dX8_beginOpening_0 : decode cX8_beginOpening 0 = .ok (.aload_n 0, 1) := by decide +kernel
theorem dX8_beginOpening_1 : decode cX8_beginOpening 1 = .ok (.getfield 7, 3) := by decide +kernel
theorem dX8_beginOpening_4 : decode cX8_beginOpening 4 = .ok (.iconst 0, 1) := by decide +kernel
theorem dX8_beginOpening_5 : decode cX8_beginOpening 5 = .ok (.iaload, 1) := by decide +kernel
theorem dX8_beginOpening_6 : decode cX8_beginOpening 6 = .ok (.iconst 1, 1) := by decide +kernel
theorem dX8_beginOpening_7 : decode cX8_beginOpening 7 = .ok (.if_icmp .eq 6, 3) := by decide +kernel
theorem dX8_beginOpening_10 : decode cX8_beginOpening 10 = .ok (.bipush (-2), 2) := by decide +kernel
theorem dX8_beginOpening_12 : decode cX8_beginOpening 12 = .ok (.ireturn, 1) := by decide +kernel
theorem dX8_beginOpening_13 : decode cX8_beginOpening 13 = .ok (.aload_n 0, 1) := by decide +kernel
theorem dX8_beginOpening_14 : decode cX8_beginOpening 14 = .ok (.invokevirtual 48, 3) := by decide +kernel
theorem dX8_beginOpening_17 : decode cX8_beginOpening 17 = .ok (.aload_n 0, 1) := by decide +kernel
theorem dX8_beginOpening_18 : decode cX8_beginOpening 18 = .ok (.invokevirtual 131, 3) := by decide +kernel
theorem dX8_beginOpening_21 : decode cX8_beginOpening 21 = .ok (.ireturn, 1) := by decide +kernel
theorem dX8_open_0 : decode cX8_open 0 = .ok (.aload_n 0, 1) := by decide +kernel
theorem dX8_open_1 : decode cX8_open 1 = .ok (.iload_n 1, 1) := by decide +kernel
theorem dX8_open_2 : decode cX8_open 2 = .ok (.invokevirtual 39, 3) := by decide +kernel
theorem dX8_open_5 : decode cX8_open 5 = .ok (.ifCond .ne 5, 3) := by decide +kernel
theorem dX8_open_8 : decode cX8_open 8 = .ok (.iconst (-1), 1) := by decide +kernel
theorem dX8_open_9 : decode cX8_open 9 = .ok (.ireturn, 1) := by decide +kernel
theorem dX8_open_10 : decode cX8_open 10 = .ok (.aload_n 0, 1) := by decide +kernel
theorem dX8_open_11 : decode cX8_open 11 = .ok (.getfield 7, 3) := by decide +kernel
theorem dX8_open_14 : decode cX8_open 14 = .ok (.iconst 0, 1) := by decide +kernel
theorem dX8_open_15 : decode cX8_open 15 = .ok (.iaload, 1) := by decide +kernel
theorem dX8_open_16 : decode cX8_open 16 = .ok (.iconst 2, 1) := by decide +kernel
theorem dX8_open_17 : decode cX8_open 17 = .ok (.if_icmp .ne 22, 3) := by decide +kernel
theorem dX8_open_20 : decode cX8_open 20 = .ok (.aload_n 0, 1) := by decide +kernel
theorem dX8_open_21 : decode cX8_open 21 = .ok (.iload_n 1, 1) := by decide +kernel
theorem dX8_open_22 : decode cX8_open 22 = .ok (.iconst 5, 1) := by decide +kernel
theorem dX8_open_23 : decode cX8_open 23 = .ok (.invokevirtual 43, 3) := by decide +kernel
theorem dX8_open_26 : decode cX8_open 26 = .ok (.ifCond .eq 13, 3) := by decide +kernel
theorem dX8_open_29 : decode cX8_open 29 = .ok (.aload_n 0, 1) := by decide +kernel
theorem dX8_open_30 : decode cX8_open 30 = .ok (.iload_n 1, 1) := by decide +kernel
theorem dX8_open_31 : decode cX8_open 31 = .ok (.bipush 7, 2) := by decide +kernel
theorem dX8_open_33 : decode cX8_open 33 = .ok (.invokevirtual 43, 3) := by decide +kernel
theorem dX8_open_36 : decode cX8_open 36 = .ok (.ifCond .eq 6, 3) := by decide +kernel
theorem dX8_open_39 : decode cX8_open 39 = .ok (.bipush (-2), 2) := by decide +kernel
theorem dX8_open_41 : decode cX8_open 41 = .ok (.ireturn, 1) := by decide +kernel
theorem dX8_open_42 : decode cX8_open 42 = .ok (.aload_n 0, 1) := by decide +kernel
theorem dX8_open_43 : decode cX8_open 43 = .ok (.invokevirtual 48, 3) := by decide +kernel
theorem dX8_open_46 : decode cX8_open 46 = .ok (.aload_n 0, 1) := by decide +kernel
theorem dX8_open_47 : decode cX8_open 47 = .ok (.getfield 7, 3) := by decide +kernel
theorem dX8_open_50 : decode cX8_open 50 = .ok (.iload_n 1, 1) := by decide +kernel
theorem dX8_open_51 : decode cX8_open 51 = .ok (.invokestatic 35, 3) := by decide +kernel
theorem dX8_open_54 : decode cX8_open 54 = .ok (.bipush 9, 2) := by decide +kernel
theorem dX8_open_56 : decode cX8_open 56 = .ok (.iadd, 1) := by decide +kernel
theorem dX8_open_57 : decode cX8_open 57 = .ok (.iaload, 1) := by decide +kernel
theorem dX8_open_58 : decode cX8_open 58 = .ok (.iload_n 2, 1) := by decide +kernel
theorem dX8_open_59 : decode cX8_open 59 = .ok (.if_icmp .ne 23, 3) := by decide +kernel
theorem dX8_open_62 : decode cX8_open 62 = .ok (.aload_n 0, 1) := by decide +kernel
theorem dX8_open_63 : decode cX8_open 63 = .ok (.getfield 7, 3) := by decide +kernel
theorem dX8_open_66 : decode cX8_open 66 = .ok (.iload_n 1, 1) := by decide +kernel
theorem dX8_open_67 : decode cX8_open 67 = .ok (.invokestatic 35, 3) := by decide +kernel
theorem dX8_open_70 : decode cX8_open 70 = .ok (.bipush 10, 2) := by decide +kernel
theorem dX8_open_72 : decode cX8_open 72 = .ok (.iadd, 1) := by decide +kernel
theorem dX8_open_73 : decode cX8_open 73 = .ok (.iaload, 1) := by decide +kernel
theorem dX8_open_74 : decode cX8_open 74 = .ok (.iload_n 3, 1) := by decide +kernel
theorem dX8_open_75 : decode cX8_open 75 = .ok (.if_icmp .ne 7, 3) := by decide +kernel
theorem dX8_open_78 : decode cX8_open 78 = .ok (.iconst 1, 1) := by decide +kernel
theorem dX8_open_79 : decode cX8_open 79 = .ok (.goto 4, 3) := by decide +kernel
theorem dX8_open_82 : decode cX8_open 82 = .ok (.iconst 0, 1) := by decide +kernel
theorem dX8_open_83 : decode cX8_open 83 = .ok (.istore 4, 2) := by decide +kernel
theorem dX8_open_85 : decode cX8_open 85 = .ok (.aload_n 0, 1) := by decide +kernel
theorem dX8_open_86 : decode cX8_open 86 = .ok (.getfield 7, 3) := by decide +kernel
theorem dX8_open_89 : decode cX8_open 89 = .ok (.iload_n 1, 1) := by decide +kernel
theorem dX8_open_90 : decode cX8_open 90 = .ok (.invokestatic 35, 3) := by decide +kernel
theorem dX8_open_93 : decode cX8_open 93 = .ok (.bipush 7, 2) := by decide +kernel
theorem dX8_open_95 : decode cX8_open 95 = .ok (.iadd, 1) := by decide +kernel
theorem dX8_open_96 : decode cX8_open 96 = .ok (.iload 4, 2) := by decide +kernel
theorem dX8_open_98 : decode cX8_open 98 = .ok (.ifCond .eq 7, 3) := by decide +kernel
theorem dX8_open_101 : decode cX8_open 101 = .ok (.iconst 1, 1) := by decide +kernel
theorem dX8_open_102 : decode cX8_open 102 = .ok (.goto 4, 3) := by decide +kernel
theorem dX8_open_105 : decode cX8_open 105 = .ok (.iconst 0, 1) := by decide +kernel
theorem dX8_open_106 : decode cX8_open 106 = .ok (.iastore, 1) := by decide +kernel
theorem dX8_open_107 : decode cX8_open 107 = .ok (.iload 4, 2) := by decide +kernel
theorem dX8_open_109 : decode cX8_open 109 = .ok (.ifCond .eq 7, 3) := by decide +kernel
theorem dX8_open_112 : decode cX8_open 112 = .ok (.iconst 1, 1) := by decide +kernel
theorem dX8_open_113 : decode cX8_open 113 = .ok (.goto 4, 3) := by decide +kernel
theorem dX8_open_116 : decode cX8_open 116 = .ok (.iconst 0, 1) := by decide +kernel
theorem dX8_open_117 : decode cX8_open 117 = .ok (.ireturn, 1) := by decide +kernel
theorem dX8_takesSecrets_0 : decode cX8_takesSecrets 0 = .ok (.iconst 0, 1) := by decide +kernel
theorem dX8_takesSecrets_1 : decode cX8_takesSecrets 1 = .ok (.istore_n 1, 1) := by decide +kernel
theorem dX8_takesSecrets_2 : decode cX8_takesSecrets 2 = .ok (.iload_n 1, 1) := by decide +kernel
theorem dX8_takesSecrets_3 : decode cX8_takesSecrets 3 = .ok (.aload_n 0, 1) := by decide +kernel
theorem dX8_takesSecrets_4 : decode cX8_takesSecrets 4 = .ok (.getfield 7, 3) := by decide +kernel
theorem dX8_takesSecrets_7 : decode cX8_takesSecrets 7 = .ok (.iconst 4, 1) := by decide +kernel
theorem dX8_takesSecrets_8 : decode cX8_takesSecrets 8 = .ok (.iaload, 1) := by decide +kernel
theorem dX8_takesSecrets_9 : decode cX8_takesSecrets 9 = .ok (.if_icmp .ge 27, 3) := by decide +kernel
theorem dX8_takesSecrets_12 : decode cX8_takesSecrets 12 = .ok (.aload_n 0, 1) := by decide +kernel
theorem dX8_takesSecrets_13 : decode cX8_takesSecrets 13 = .ok (.getfield 16, 3) := by decide +kernel
theorem dX8_takesSecrets_16 : decode cX8_takesSecrets 16 = .ok (.iload_n 1, 1) := by decide +kernel
theorem dX8_takesSecrets_17 : decode cX8_takesSecrets 17 = .ok (.aload_n 0, 1) := by decide +kernel
theorem dX8_takesSecrets_18 : decode cX8_takesSecrets 18 = .ok (.getfield 7, 3) := by decide +kernel
theorem dX8_takesSecrets_21 : decode cX8_takesSecrets 21 = .ok (.iload_n 1, 1) := by decide +kernel
theorem dX8_takesSecrets_22 : decode cX8_takesSecrets 22 = .ok (.invokestatic 35, 3) := by decide +kernel
theorem dX8_takesSecrets_25 : decode cX8_takesSecrets 25 = .ok (.bipush 9, 2) := by decide +kernel
theorem dX8_takesSecrets_27 : decode cX8_takesSecrets 27 = .ok (.iadd, 1) := by decide +kernel
theorem dX8_takesSecrets_28 : decode cX8_takesSecrets 28 = .ok (.iaload, 1) := by decide +kernel
theorem dX8_takesSecrets_29 : decode cX8_takesSecrets 29 = .ok (.iastore, 1) := by decide +kernel
theorem dX8_takesSecrets_30 : decode cX8_takesSecrets 30 = .ok (.iinc 1 1, 3) := by decide +kernel
theorem dX8_takesSecrets_33 : decode cX8_takesSecrets 33 = .ok (.goto (-31), 3) := by decide +kernel
theorem dX8_takesSecrets_36 : decode cX8_takesSecrets 36 = .ok (.return_, 1) := by decide +kernel
theorem dX8_rightOnes_0 : decode cX8_rightOnes 0 = .ok (.iconst 0, 1) := by decide +kernel
theorem dX8_rightOnes_1 : decode cX8_rightOnes 1 = .ok (.istore_n 3, 1) := by decide +kernel
theorem dX8_rightOnes_2 : decode cX8_rightOnes 2 = .ok (.iconst 0, 1) := by decide +kernel
theorem dX8_rightOnes_3 : decode cX8_rightOnes 3 = .ok (.istore 4, 2) := by decide +kernel
theorem dX8_rightOnes_5 : decode cX8_rightOnes 5 = .ok (.iload 4, 2) := by decide +kernel
theorem dX8_rightOnes_7 : decode cX8_rightOnes 7 = .ok (.aload_n 0, 1) := by decide +kernel
theorem dX8_rightOnes_8 : decode cX8_rightOnes 8 = .ok (.getfield 7, 3) := by decide +kernel
theorem dX8_rightOnes_11 : decode cX8_rightOnes 11 = .ok (.iconst 4, 1) := by decide +kernel
theorem dX8_rightOnes_12 : decode cX8_rightOnes 12 = .ok (.iaload, 1) := by decide +kernel
theorem dX8_rightOnes_13 : decode cX8_rightOnes 13 = .ok (.if_icmp .ge 37, 3) := by decide +kernel
theorem dX8_rightOnes_16 : decode cX8_rightOnes 16 = .ok (.iload_n 3, 1) := by decide +kernel
theorem dX8_rightOnes_17 : decode cX8_rightOnes 17 = .ok (.iload_n 2, 1) := by decide +kernel
theorem dX8_rightOnes_18 : decode cX8_rightOnes 18 = .ok (.iload 4, 2) := by decide +kernel
theorem dX8_rightOnes_20 : decode cX8_rightOnes 20 = .ok (.ishr, 1) := by decide +kernel
theorem dX8_rightOnes_21 : decode cX8_rightOnes 21 = .ok (.iconst 1, 1) := by decide +kernel
theorem dX8_rightOnes_22 : decode cX8_rightOnes 22 = .ok (.iand, 1) := by decide +kernel
theorem dX8_rightOnes_23 : decode cX8_rightOnes 23 = .ok (.iconst 1, 1) := by decide +kernel
theorem dX8_rightOnes_24 : decode cX8_rightOnes 24 = .ok (.if_icmp .ne 17, 3) := by decide +kernel
theorem dX8_rightOnes_27 : decode cX8_rightOnes 27 = .ok (.aload_n 0, 1) := by decide +kernel
theorem dX8_rightOnes_28 : decode cX8_rightOnes 28 = .ok (.iload_n 1, 1) := by decide +kernel
theorem dX8_rightOnes_29 : decode cX8_rightOnes 29 = .ok (.iload 4, 2) := by decide +kernel
theorem dX8_rightOnes_31 : decode cX8_rightOnes 31 = .ok (.invokevirtual 112, 3) := by decide +kernel
theorem dX8_rightOnes_34 : decode cX8_rightOnes 34 = .ok (.ifCond .eq 7, 3) := by decide +kernel
theorem dX8_rightOnes_37 : decode cX8_rightOnes 37 = .ok (.iconst 1, 1) := by decide +kernel
theorem dX8_rightOnes_38 : decode cX8_rightOnes 38 = .ok (.goto 4, 3) := by decide +kernel
theorem dX8_rightOnes_41 : decode cX8_rightOnes 41 = .ok (.iconst 0, 1) := by decide +kernel
theorem dX8_rightOnes_42 : decode cX8_rightOnes 42 = .ok (.iadd, 1) := by decide +kernel
theorem dX8_rightOnes_43 : decode cX8_rightOnes 43 = .ok (.istore_n 3, 1) := by decide +kernel
theorem dX8_rightOnes_44 : decode cX8_rightOnes 44 = .ok (.iinc 4 1, 3) := by decide +kernel
theorem dX8_rightOnes_47 : decode cX8_rightOnes 47 = .ok (.goto (-42), 3) := by decide +kernel
theorem dX8_rightOnes_50 : decode cX8_rightOnes 50 = .ok (.iload_n 3, 1) := by decide +kernel
theorem dX8_rightOnes_51 : decode cX8_rightOnes 51 = .ok (.ireturn, 1) := by decide +kernel
theorem dX8_outputOf_0 : decode cX8_outputOf 0 = .ok (.aload_n 0, 1) := by decide +kernel
theorem dX8_outputOf_1 : decode cX8_outputOf 1 = .ok (.getfield 7, 3) := by decide +kernel
theorem dX8_outputOf_4 : decode cX8_outputOf 4 = .ok (.iconst 3, 1) := by decide +kernel
theorem dX8_outputOf_5 : decode cX8_outputOf 5 = .ok (.iaload, 1) := by decide +kernel
theorem dX8_outputOf_6 : decode cX8_outputOf 6 = .ok (.istore_n 2, 1) := by decide +kernel
theorem dX8_outputOf_7 : decode cX8_outputOf 7 = .ok (.aload_n 0, 1) := by decide +kernel
theorem dX8_outputOf_8 : decode cX8_outputOf 8 = .ok (.iconst 0, 1) := by decide +kernel
theorem dX8_outputOf_9 : decode cX8_outputOf 9 = .ok (.putfield 134, 3) := by decide +kernel
theorem dX8_outputOf_12 : decode cX8_outputOf 12 = .ok (.iconst 0, 1) := by decide +kernel
theorem dX8_outputOf_13 : decode cX8_outputOf 13 = .ok (.istore_n 3, 1) := by decide +kernel
theorem dX8_outputOf_14 : decode cX8_outputOf 14 = .ok (.iload_n 3, 1) := by decide +kernel
theorem dX8_outputOf_15 : decode cX8_outputOf 15 = .ok (.aload_n 0, 1) := by decide +kernel
theorem dX8_outputOf_16 : decode cX8_outputOf 16 = .ok (.getfield 7, 3) := by decide +kernel
theorem dX8_outputOf_19 : decode cX8_outputOf 19 = .ok (.iconst 4, 1) := by decide +kernel
theorem dX8_outputOf_20 : decode cX8_outputOf 20 = .ok (.iaload, 1) := by decide +kernel
theorem dX8_outputOf_21 : decode cX8_outputOf 21 = .ok (.if_icmp .ge 110, 3) := by decide +kernel
theorem dX8_outputOf_24 : decode cX8_outputOf 24 = .ok (.aload_n 0, 1) := by decide +kernel
theorem dX8_outputOf_25 : decode cX8_outputOf 25 = .ok (.iload_n 3, 1) := by decide +kernel
theorem dX8_outputOf_26 : decode cX8_outputOf 26 = .ok (.iconst 5, 1) := by decide +kernel
theorem dX8_outputOf_27 : decode cX8_outputOf 27 = .ok (.invokevirtual 43, 3) := by decide +kernel
theorem dX8_outputOf_30 : decode cX8_outputOf 30 = .ok (.ifCond .eq 95, 3) := by decide +kernel
theorem dX8_outputOf_33 : decode cX8_outputOf 33 = .ok (.iload_n 1, 1) := by decide +kernel
theorem dX8_outputOf_34 : decode cX8_outputOf 34 = .ok (.iload_n 3, 1) := by decide +kernel
theorem dX8_outputOf_35 : decode cX8_outputOf 35 = .ok (.ishr, 1) := by decide +kernel
theorem dX8_outputOf_36 : decode cX8_outputOf 36 = .ok (.iconst 1, 1) := by decide +kernel
theorem dX8_outputOf_37 : decode cX8_outputOf 37 = .ok (.iand, 1) := by decide +kernel
theorem dX8_outputOf_38 : decode cX8_outputOf 38 = .ok (.iconst 1, 1) := by decide +kernel
theorem dX8_outputOf_39 : decode cX8_outputOf 39 = .ok (.if_icmp .ne 7, 3) := by decide +kernel
theorem dX8_outputOf_42 : decode cX8_outputOf 42 = .ok (.iconst 1, 1) := by decide +kernel
theorem dX8_outputOf_43 : decode cX8_outputOf 43 = .ok (.goto 4, 3) := by decide +kernel
theorem dX8_outputOf_46 : decode cX8_outputOf 46 = .ok (.iconst 0, 1) := by decide +kernel
theorem dX8_outputOf_47 : decode cX8_outputOf 47 = .ok (.istore 4, 2) := by decide +kernel
theorem dX8_outputOf_49 : decode cX8_outputOf 49 = .ok (.aload_n 0, 1) := by decide +kernel
theorem dX8_outputOf_50 : decode cX8_outputOf 50 = .ok (.aload_n 0, 1) := by decide +kernel
theorem dX8_outputOf_51 : decode cX8_outputOf 51 = .ok (.getfield 134, 3) := by decide +kernel
theorem dX8_outputOf_54 : decode cX8_outputOf 54 = .ok (.ifCond .ne 34, 3) := by decide +kernel
theorem dX8_outputOf_57 : decode cX8_outputOf 57 = .ok (.iload 4, 2) := by decide +kernel
theorem dX8_outputOf_59 : decode cX8_outputOf 59 = .ok (.ifCond .ne 33, 3) := by decide +kernel
theorem dX8_outputOf_62 : decode cX8_outputOf 62 = .ok (.aload_n 0, 1) := by decide +kernel
theorem dX8_outputOf_63 : decode cX8_outputOf 63 = .ok (.getfield 7, 3) := by decide +kernel
theorem dX8_outputOf_66 : decode cX8_outputOf 66 = .ok (.iconst 5, 1) := by decide +kernel
theorem dX8_outputOf_67 : decode cX8_outputOf 67 = .ok (.iaload, 1) := by decide +kernel
theorem dX8_outputOf_68 : decode cX8_outputOf 68 = .ok (.iconst 1, 1) := by decide +kernel
theorem dX8_outputOf_69 : decode cX8_outputOf 69 = .ok (.if_icmp .ne 23, 3) := by decide +kernel
theorem dX8_outputOf_72 : decode cX8_outputOf 72 = .ok (.aload_n 0, 1) := by decide +kernel
theorem dX8_outputOf_73 : decode cX8_outputOf 73 = .ok (.iload_n 3, 1) := by decide +kernel
theorem dX8_outputOf_74 : decode cX8_outputOf 74 = .ok (.iload_n 1, 1) := by decide +kernel
theorem dX8_outputOf_75 : decode cX8_outputOf 75 = .ok (.invokevirtual 138, 3) := by decide +kernel
theorem dX8_outputOf_78 : decode cX8_outputOf 78 = .ok (.aload_n 0, 1) := by decide +kernel
theorem dX8_outputOf_79 : decode cX8_outputOf 79 = .ok (.getfield 7, 3) := by decide +kernel
theorem dX8_outputOf_82 : decode cX8_outputOf 82 = .ok (.bipush 6, 2) := by decide +kernel
theorem dX8_outputOf_84 : decode cX8_outputOf 84 = .ok (.iaload, 1) := by decide +kernel
theorem dX8_outputOf_85 : decode cX8_outputOf 85 = .ok (.if_icmp .ge 7, 3) := by decide +kernel
theorem dX8_outputOf_88 : decode cX8_outputOf 88 = .ok (.iconst 1, 1) := by decide +kernel
theorem dX8_outputOf_89 : decode cX8_outputOf 89 = .ok (.goto 4, 3) := by decide +kernel
theorem dX8_outputOf_92 : decode cX8_outputOf 92 = .ok (.iconst 0, 1) := by decide +kernel
theorem dX8_outputOf_93 : decode cX8_outputOf 93 = .ok (.putfield 134, 3) := by decide +kernel
theorem dX8_outputOf_96 : decode cX8_outputOf 96 = .ok (.iload_n 2, 1) := by decide +kernel
theorem dX8_outputOf_97 : decode cX8_outputOf 97 = .ok (.iload 4, 2) := by decide +kernel
theorem dX8_outputOf_99 : decode cX8_outputOf 99 = .ok (.ifCond .ne 12, 3) := by decide +kernel
theorem dX8_outputOf_102 : decode cX8_outputOf 102 = .ok (.aload_n 0, 1) := by decide +kernel
theorem dX8_outputOf_103 : decode cX8_outputOf 103 = .ok (.getfield 7, 3) := by decide +kernel
theorem dX8_outputOf_106 : decode cX8_outputOf 106 = .ok (.iconst 5, 1) := by decide +kernel
theorem dX8_outputOf_107 : decode cX8_outputOf 107 = .ok (.iaload, 1) := by decide +kernel
theorem dX8_outputOf_108 : decode cX8_outputOf 108 = .ok (.ifCond .eq 12, 3) := by decide +kernel
theorem dX8_outputOf_111 : decode cX8_outputOf 111 = .ok (.aload_n 0, 1) := by decide +kernel
theorem dX8_outputOf_112 : decode cX8_outputOf 112 = .ok (.getfield 16, 3) := by decide +kernel
theorem dX8_outputOf_115 : decode cX8_outputOf 115 = .ok (.iload_n 3, 1) := by decide +kernel
theorem dX8_outputOf_116 : decode cX8_outputOf 116 = .ok (.iaload, 1) := by decide +kernel
theorem dX8_outputOf_117 : decode cX8_outputOf 117 = .ok (.goto 4, 3) := by decide +kernel
theorem dX8_outputOf_120 : decode cX8_outputOf 120 = .ok (.iconst 0, 1) := by decide +kernel
theorem dX8_outputOf_121 : decode cX8_outputOf 121 = .ok (.invokestatic 66, 3) := by decide +kernel
theorem dX8_outputOf_124 : decode cX8_outputOf 124 = .ok (.istore_n 2, 1) := by decide +kernel
theorem dX8_outputOf_125 : decode cX8_outputOf 125 = .ok (.iinc 3 1, 3) := by decide +kernel
theorem dX8_outputOf_128 : decode cX8_outputOf 128 = .ok (.goto (-114), 3) := by decide +kernel
theorem dX8_outputOf_131 : decode cX8_outputOf 131 = .ok (.iload_n 2, 1) := by decide +kernel
theorem dX8_outputOf_132 : decode cX8_outputOf 132 = .ok (.ireturn, 1) := by decide +kernel
theorem dX8_coinOf_0 : decode cX8_coinOf 0 = .ok (.aload_n 0, 1) := by decide +kernel
theorem dX8_coinOf_1 : decode cX8_coinOf 1 = .ok (.invokevirtual 141, 3) := by decide +kernel
theorem dX8_coinOf_4 : decode cX8_coinOf 4 = .ok (.aload_n 0, 1) := by decide +kernel
theorem dX8_coinOf_5 : decode cX8_coinOf 5 = .ok (.iload_n 1, 1) := by decide +kernel
theorem dX8_coinOf_6 : decode cX8_coinOf 6 = .ok (.invokevirtual 144, 3) := by decide +kernel
theorem dX8_coinOf_9 : decode cX8_coinOf 9 = .ok (.istore_n 2, 1) := by decide +kernel
theorem dX8_coinOf_10 : decode cX8_coinOf 10 = .ok (.aload_n 0, 1) := by decide +kernel
theorem dX8_coinOf_11 : decode cX8_coinOf 11 = .ok (.getfield 134, 3) := by decide +kernel
theorem dX8_coinOf_14 : decode cX8_coinOf 14 = .ok (.ifCond .eq 8, 3) := by decide +kernel
theorem dX8_coinOf_17 : decode cX8_coinOf 17 = .ok (.bipush (-5), 2) := by decide +kernel
theorem dX8_coinOf_19 : decode cX8_coinOf 19 = .ok (.goto 6, 3) := by decide +kernel
theorem dX8_coinOf_22 : decode cX8_coinOf 22 = .ok (.iload_n 2, 1) := by decide +kernel
theorem dX8_coinOf_23 : decode cX8_coinOf 23 = .ok (.iconst 1, 1) := by decide +kernel
theorem dX8_coinOf_24 : decode cX8_coinOf 24 = .ok (.iand, 1) := by decide +kernel
theorem dX8_coinOf_25 : decode cX8_coinOf 25 = .ok (.ireturn, 1) := by decide +kernel
theorem dX8_closes_0 : decode cX8_closes 0 = .ok (.aload_n 0, 1) := by decide +kernel
theorem dX8_closes_1 : decode cX8_closes 1 = .ok (.invokevirtual 141, 3) := by decide +kernel
theorem dX8_closes_4 : decode cX8_closes 4 = .ok (.aload_n 0, 1) := by decide +kernel
theorem dX8_closes_5 : decode cX8_closes 5 = .ok (.iconst 5, 1) := by decide +kernel
theorem dX8_closes_6 : decode cX8_closes 6 = .ok (.invokevirtual 121, 3) := by decide +kernel
theorem dX8_closes_9 : decode cX8_closes 9 = .ok (.istore_n 1, 1) := by decide +kernel
theorem dX8_closes_10 : decode cX8_closes 10 = .ok (.aload_n 0, 1) := by decide +kernel
theorem dX8_closes_11 : decode cX8_closes 11 = .ok (.bipush 7, 2) := by decide +kernel
theorem dX8_closes_13 : decode cX8_closes 13 = .ok (.invokevirtual 121, 3) := by decide +kernel
theorem dX8_closes_16 : decode cX8_closes 16 = .ok (.iload_n 1, 1) := by decide +kernel
theorem dX8_closes_17 : decode cX8_closes 17 = .ok (.iand, 1) := by decide +kernel
theorem dX8_closes_18 : decode cX8_closes 18 = .ok (.istore_n 2, 1) := by decide +kernel
theorem dX8_closes_19 : decode cX8_closes 19 = .ok (.aload_n 0, 1) := by decide +kernel
theorem dX8_closes_20 : decode cX8_closes 20 = .ok (.iload_n 2, 1) := by decide +kernel
theorem dX8_closes_21 : decode cX8_closes 21 = .ok (.invokevirtual 144, 3) := by decide +kernel
theorem dX8_closes_24 : decode cX8_closes 24 = .ok (.istore_n 3, 1) := by decide +kernel
theorem dX8_closes_25 : decode cX8_closes 25 = .ok (.aload_n 0, 1) := by decide +kernel
theorem dX8_closes_26 : decode cX8_closes 26 = .ok (.getfield 134, 3) := by decide +kernel
theorem dX8_closes_29 : decode cX8_closes 29 = .ok (.istore 4, 2) := by decide +kernel
theorem dX8_closes_31 : decode cX8_closes 31 = .ok (.iconst 0, 1) := by decide +kernel
theorem dX8_closes_32 : decode cX8_closes 32 = .ok (.istore 5, 2) := by decide +kernel
theorem dX8_closes_34 : decode cX8_closes 34 = .ok (.iload 5, 2) := by decide +kernel
theorem dX8_closes_36 : decode cX8_closes 36 = .ok (.aload_n 0, 1) := by decide +kernel
theorem dX8_closes_37 : decode cX8_closes 37 = .ok (.getfield 7, 3) := by decide +kernel
theorem dX8_closes_40 : decode cX8_closes 40 = .ok (.iconst 4, 1) := by decide +kernel
theorem dX8_closes_41 : decode cX8_closes 41 = .ok (.iaload, 1) := by decide +kernel
theorem dX8_closes_42 : decode cX8_closes 42 = .ok (.if_icmp .ge 97, 3) := by decide +kernel
theorem dX8_closes_45 : decode cX8_closes 45 = .ok (.iload_n 1, 1) := by decide +kernel
theorem dX8_closes_46 : decode cX8_closes 46 = .ok (.iload 5, 2) := by decide +kernel
theorem dX8_closes_48 : decode cX8_closes 48 = .ok (.ishr, 1) := by decide +kernel
theorem dX8_closes_49 : decode cX8_closes 49 = .ok (.iconst 1, 1) := by decide +kernel
theorem dX8_closes_50 : decode cX8_closes 50 = .ok (.iand, 1) := by decide +kernel
theorem dX8_closes_51 : decode cX8_closes 51 = .ok (.iconst 1, 1) := by decide +kernel
theorem dX8_closes_52 : decode cX8_closes 52 = .ok (.if_icmp .ne 81, 3) := by decide +kernel
theorem dX8_closes_55 : decode cX8_closes 55 = .ok (.iload_n 2, 1) := by decide +kernel
theorem dX8_closes_56 : decode cX8_closes 56 = .ok (.iload 5, 2) := by decide +kernel
theorem dX8_closes_58 : decode cX8_closes 58 = .ok (.ishr, 1) := by decide +kernel
theorem dX8_closes_59 : decode cX8_closes 59 = .ok (.iconst 1, 1) := by decide +kernel
theorem dX8_closes_60 : decode cX8_closes 60 = .ok (.iand, 1) := by decide +kernel
theorem dX8_closes_61 : decode cX8_closes 61 = .ok (.iconst 1, 1) := by decide +kernel
theorem dX8_closes_62 : decode cX8_closes 62 = .ok (.if_icmp .ne 7, 3) := by decide +kernel
theorem dX8_closes_65 : decode cX8_closes 65 = .ok (.iconst 1, 1) := by decide +kernel
theorem dX8_closes_66 : decode cX8_closes 66 = .ok (.goto 4, 3) := by decide +kernel
theorem dX8_closes_69 : decode cX8_closes 69 = .ok (.iconst 0, 1) := by decide +kernel
theorem dX8_closes_70 : decode cX8_closes 70 = .ok (.istore 6, 2) := by decide +kernel
theorem dX8_closes_72 : decode cX8_closes 72 = .ok (.aload_n 0, 1) := by decide +kernel
theorem dX8_closes_73 : decode cX8_closes 73 = .ok (.getfield 7, 3) := by decide +kernel
theorem dX8_closes_76 : decode cX8_closes 76 = .ok (.iload 5, 2) := by decide +kernel
theorem dX8_closes_78 : decode cX8_closes 78 = .ok (.invokestatic 35, 3) := by decide +kernel
theorem dX8_closes_81 : decode cX8_closes 81 = .ok (.iconst 1, 1) := by decide +kernel
theorem dX8_closes_82 : decode cX8_closes 82 = .ok (.iadd, 1) := by decide +kernel
theorem dX8_closes_83 : decode cX8_closes 83 = .ok (.dup2, 1) := by decide +kernel
theorem dX8_closes_84 : decode cX8_closes 84 = .ok (.iaload, 1) := by decide +kernel
theorem dX8_closes_85 : decode cX8_closes 85 = .ok (.iload 6, 2) := by decide +kernel
theorem dX8_closes_87 : decode cX8_closes 87 = .ok (.ifCond .eq 7, 3) := by decide +kernel
theorem dX8_closes_90 : decode cX8_closes 90 = .ok (.iconst 1, 1) := by decide +kernel
theorem dX8_closes_91 : decode cX8_closes 91 = .ok (.goto 4, 3) := by decide +kernel
theorem dX8_closes_94 : decode cX8_closes 94 = .ok (.iconst 0, 1) := by decide +kernel
theorem dX8_closes_95 : decode cX8_closes 95 = .ok (.iadd, 1) := by decide +kernel
theorem dX8_closes_96 : decode cX8_closes 96 = .ok (.iastore, 1) := by decide +kernel
theorem dX8_closes_97 : decode cX8_closes 97 = .ok (.aload_n 0, 1) := by decide +kernel
theorem dX8_closes_98 : decode cX8_closes 98 = .ok (.getfield 7, 3) := by decide +kernel
theorem dX8_closes_101 : decode cX8_closes 101 = .ok (.iload 5, 2) := by decide +kernel
theorem dX8_closes_103 : decode cX8_closes 103 = .ok (.invokestatic 35, 3) := by decide +kernel
theorem dX8_closes_106 : decode cX8_closes 106 = .ok (.iconst 2, 1) := by decide +kernel
theorem dX8_closes_107 : decode cX8_closes 107 = .ok (.iadd, 1) := by decide +kernel
theorem dX8_closes_108 : decode cX8_closes 108 = .ok (.dup2, 1) := by decide +kernel
theorem dX8_closes_109 : decode cX8_closes 109 = .ok (.iaload, 1) := by decide +kernel
theorem dX8_closes_110 : decode cX8_closes 110 = .ok (.iload 6, 2) := by decide +kernel
theorem dX8_closes_112 : decode cX8_closes 112 = .ok (.ifCond .eq 7, 3) := by decide +kernel
theorem dX8_closes_115 : decode cX8_closes 115 = .ok (.iconst 0, 1) := by decide +kernel
theorem dX8_closes_116 : decode cX8_closes 116 = .ok (.goto 4, 3) := by decide +kernel
theorem dX8_closes_119 : decode cX8_closes 119 = .ok (.iconst 1, 1) := by decide +kernel
theorem dX8_closes_120 : decode cX8_closes 120 = .ok (.iadd, 1) := by decide +kernel
theorem dX8_closes_121 : decode cX8_closes 121 = .ok (.iastore, 1) := by decide +kernel
theorem dX8_closes_122 : decode cX8_closes 122 = .ok (.iload 6, 2) := by decide +kernel
theorem dX8_closes_124 : decode cX8_closes 124 = .ok (.ifCond .ne 9, 3) := by decide +kernel
theorem dX8_closes_127 : decode cX8_closes 127 = .ok (.aload_n 0, 1) := by decide +kernel
theorem dX8_closes_128 : decode cX8_closes 128 = .ok (.iload 5, 2) := by decide +kernel
theorem dX8_closes_130 : decode cX8_closes 130 = .ok (.invokevirtual 115, 3) := by decide +kernel
theorem dX8_closes_133 : decode cX8_closes 133 = .ok (.iinc 5 1, 3) := by decide +kernel
theorem dX8_closes_136 : decode cX8_closes 136 = .ok (.goto (-102), 3) := by decide +kernel
theorem dX8_closes_139 : decode cX8_closes 139 = .ok (.iload_n 2, 1) := by decide +kernel
theorem dX8_closes_140 : decode cX8_closes 140 = .ok (.invokestatic 124, 3) := by decide +kernel
theorem dX8_closes_143 : decode cX8_closes 143 = .ok (.istore 5, 2) := by decide +kernel
theorem dX8_closes_145 : decode cX8_closes 145 = .ok (.iload 4, 2) := by decide +kernel
theorem dX8_closes_147 : decode cX8_closes 147 = .ok (.ifCond .ne 84, 3) := by decide +kernel
theorem dX8_closes_150 : decode cX8_closes 150 = .ok (.iload 5, 2) := by decide +kernel
theorem dX8_closes_152 : decode cX8_closes 152 = .ok (.ifCond .le 79, 3) := by decide +kernel
theorem dX8_closes_155 : decode cX8_closes 155 = .ok (.aload_n 0, 1) := by decide +kernel
theorem dX8_closes_156 : decode cX8_closes 156 = .ok (.getfield 7, 3) := by decide +kernel
theorem dX8_closes_159 : decode cX8_closes 159 = .ok (.iconst 2, 1) := by decide +kernel
theorem dX8_closes_160 : decode cX8_closes 160 = .ok (.iaload, 1) := by decide +kernel
theorem dX8_closes_161 : decode cX8_closes 161 = .ok (.iload 5, 2) := by decide +kernel
theorem dX8_closes_163 : decode cX8_closes 163 = .ok (.idiv, 1) := by decide +kernel
theorem dX8_closes_164 : decode cX8_closes 164 = .ok (.istore 6, 2) := by decide +kernel
theorem dX8_closes_166 : decode cX8_closes 166 = .ok (.iconst 0, 1) := by decide +kernel
theorem dX8_closes_167 : decode cX8_closes 167 = .ok (.istore 7, 2) := by decide +kernel
theorem dX8_closes_169 : decode cX8_closes 169 = .ok (.iload 7, 2) := by decide +kernel
theorem dX8_closes_171 : decode cX8_closes 171 = .ok (.aload_n 0, 1) := by decide +kernel
theorem dX8_closes_172 : decode cX8_closes 172 = .ok (.getfield 7, 3) := by decide +kernel
theorem dX8_closes_175 : decode cX8_closes 175 = .ok (.iconst 4, 1) := by decide +kernel
theorem dX8_closes_176 : decode cX8_closes 176 = .ok (.iaload, 1) := by decide +kernel
theorem dX8_closes_177 : decode cX8_closes 177 = .ok (.if_icmp .ge 40, 3) := by decide +kernel
theorem dX8_closes_180 : decode cX8_closes 180 = .ok (.aload_n 0, 1) := by decide +kernel
theorem dX8_closes_181 : decode cX8_closes 181 = .ok (.getfield 7, 3) := by decide +kernel
theorem dX8_closes_184 : decode cX8_closes 184 = .ok (.iload 7, 2) := by decide +kernel
theorem dX8_closes_186 : decode cX8_closes 186 = .ok (.invokestatic 35, 3) := by decide +kernel
theorem dX8_closes_189 : decode cX8_closes 189 = .ok (.iconst 0, 1) := by decide +kernel
theorem dX8_closes_190 : decode cX8_closes 190 = .ok (.iadd, 1) := by decide +kernel
theorem dX8_closes_191 : decode cX8_closes 191 = .ok (.dup2, 1) := by decide +kernel
theorem dX8_closes_192 : decode cX8_closes 192 = .ok (.iaload, 1) := by decide +kernel
theorem dX8_closes_193 : decode cX8_closes 193 = .ok (.iload_n 2, 1) := by decide +kernel
theorem dX8_closes_194 : decode cX8_closes 194 = .ok (.iload 7, 2) := by decide +kernel
theorem dX8_closes_196 : decode cX8_closes 196 = .ok (.ishr, 1) := by decide +kernel
theorem dX8_closes_197 : decode cX8_closes 197 = .ok (.iconst 1, 1) := by decide +kernel
theorem dX8_closes_198 : decode cX8_closes 198 = .ok (.iand, 1) := by decide +kernel
theorem dX8_closes_199 : decode cX8_closes 199 = .ok (.iconst 1, 1) := by decide +kernel
theorem dX8_closes_200 : decode cX8_closes 200 = .ok (.if_icmp .ne 8, 3) := by decide +kernel
theorem dX8_closes_203 : decode cX8_closes 203 = .ok (.iload 6, 2) := by decide +kernel
theorem dX8_closes_205 : decode cX8_closes 205 = .ok (.goto 4, 3) := by decide +kernel
theorem dX8_closes_208 : decode cX8_closes 208 = .ok (.iconst 0, 1) := by decide +kernel
theorem dX8_closes_209 : decode cX8_closes 209 = .ok (.iadd, 1) := by decide +kernel
theorem dX8_closes_210 : decode cX8_closes 210 = .ok (.iastore, 1) := by decide +kernel
theorem dX8_closes_211 : decode cX8_closes 211 = .ok (.iinc 7 1, 3) := by decide +kernel
theorem dX8_closes_214 : decode cX8_closes 214 = .ok (.goto (-45), 3) := by decide +kernel
theorem dX8_closes_217 : decode cX8_closes 217 = .ok (.aload_n 0, 1) := by decide +kernel
theorem dX8_closes_218 : decode cX8_closes 218 = .ok (.getfield 7, 3) := by decide +kernel
theorem dX8_closes_221 : decode cX8_closes 221 = .ok (.iconst 2, 1) := by decide +kernel
theorem dX8_closes_222 : decode cX8_closes 222 = .ok (.dup2, 1) := by decide +kernel
theorem dX8_closes_223 : decode cX8_closes 223 = .ok (.iaload, 1) := by decide +kernel
theorem dX8_closes_224 : decode cX8_closes 224 = .ok (.iload 6, 2) := by decide +kernel
theorem dX8_closes_226 : decode cX8_closes 226 = .ok (.iload 5, 2) := by decide +kernel
theorem dX8_closes_228 : decode cX8_closes 228 = .ok (.imul, 1) := by decide +kernel
theorem dX8_closes_229 : decode cX8_closes 229 = .ok (.isub, 1) := by decide +kernel
theorem dX8_closes_230 : decode cX8_closes 230 = .ok (.iastore, 1) := by decide +kernel
theorem dX8_closes_231 : decode cX8_closes 231 = .ok (.aload_n 0, 1) := by decide +kernel
theorem dX8_closes_232 : decode cX8_closes 232 = .ok (.iload 4, 2) := by decide +kernel
theorem dX8_closes_234 : decode cX8_closes 234 = .ok (.ifCond .eq 8, 3) := by decide +kernel
theorem dX8_closes_237 : decode cX8_closes 237 = .ok (.bipush (-5), 2) := by decide +kernel
theorem dX8_closes_239 : decode cX8_closes 239 = .ok (.goto 6, 3) := by decide +kernel
theorem dX8_closes_242 : decode cX8_closes 242 = .ok (.iload_n 3, 1) := by decide +kernel
theorem dX8_closes_243 : decode cX8_closes 243 = .ok (.iconst 1, 1) := by decide +kernel
theorem dX8_closes_244 : decode cX8_closes 244 = .ok (.iand, 1) := by decide +kernel
theorem dX8_closes_245 : decode cX8_closes 245 = .ok (.iload 4, 2) := by decide +kernel
theorem dX8_closes_247 : decode cX8_closes 247 = .ok (.ifCond .eq 7, 3) := by decide +kernel
theorem dX8_closes_250 : decode cX8_closes 250 = .ok (.iconst 0, 1) := by decide +kernel
theorem dX8_closes_251 : decode cX8_closes 251 = .ok (.goto 4, 3) := by decide +kernel
theorem dX8_closes_254 : decode cX8_closes 254 = .ok (.iload_n 3, 1) := by decide +kernel
theorem dX8_closes_255 : decode cX8_closes 255 = .ok (.iload 5, 2) := by decide +kernel
theorem dX8_closes_257 : decode cX8_closes 257 = .ok (.iload_n 1, 1) := by decide +kernel
theorem dX8_closes_258 : decode cX8_closes 258 = .ok (.invokevirtual 127, 3) := by decide +kernel
theorem dX8_closes_261 : decode cX8_closes 261 = .ok (.iload 4, 2) := by decide +kernel
theorem dX8_closes_263 : decode cX8_closes 263 = .ok (.ifCond .eq 8, 3) := by decide +kernel
theorem dX8_closes_266 : decode cX8_closes 266 = .ok (.bipush (-5), 2) := by decide +kernel
theorem dX8_closes_268 : decode cX8_closes 268 = .ok (.goto 6, 3) := by decide +kernel
theorem dX8_closes_271 : decode cX8_closes 271 = .ok (.iload_n 3, 1) := by decide +kernel
theorem dX8_closes_272 : decode cX8_closes 272 = .ok (.iconst 1, 1) := by decide +kernel
theorem dX8_closes_273 : decode cX8_closes 273 = .ok (.iand, 1) := by decide +kernel
theorem dX8_closes_274 : decode cX8_closes 274 = .ok (.ireturn, 1) := by decide +kernel
theorem dX8_close_0 : decode cX8_close 0 = .ok (.aload_n 0, 1) := by decide +kernel
theorem dX8_close_1 : decode cX8_close 1 = .ok (.getfield 7, 3) := by decide +kernel
theorem dX8_close_4 : decode cX8_close 4 = .ok (.iconst 0, 1) := by decide +kernel
theorem dX8_close_5 : decode cX8_close 5 = .ok (.iaload, 1) := by decide +kernel
theorem dX8_close_6 : decode cX8_close 6 = .ok (.iconst 2, 1) := by decide +kernel
theorem dX8_close_7 : decode cX8_close 7 = .ok (.if_icmp .eq 6, 3) := by decide +kernel
theorem dX8_close_10 : decode cX8_close 10 = .ok (.bipush (-2), 2) := by decide +kernel
theorem dX8_close_12 : decode cX8_close 12 = .ok (.ireturn, 1) := by decide +kernel
theorem dX8_close_13 : decode cX8_close 13 = .ok (.aload_n 0, 1) := by decide +kernel
theorem dX8_close_14 : decode cX8_close 14 = .ok (.invokevirtual 48, 3) := by decide +kernel
theorem dX8_close_17 : decode cX8_close 17 = .ok (.aload_n 0, 1) := by decide +kernel
theorem dX8_close_18 : decode cX8_close 18 = .ok (.invokevirtual 147, 3) := by decide +kernel
theorem dX8_close_21 : decode cX8_close 21 = .ok (.ireturn, 1) := by decide +kernel
theorem dX8_nextMember_0 : decode cX8_nextMember 0 = .ok (.aload_n 0, 1) := by decide +kernel
theorem dX8_nextMember_1 : decode cX8_nextMember 1 = .ok (.iconst 5, 1) := by decide +kernel
theorem dX8_nextMember_2 : decode cX8_nextMember 2 = .ok (.invokevirtual 121, 3) := by decide +kernel
theorem dX8_nextMember_5 : decode cX8_nextMember 5 = .ok (.istore_n 2, 1) := by decide +kernel
theorem dX8_nextMember_6 : decode cX8_nextMember 6 = .ok (.iload_n 1, 1) := by decide +kernel
theorem dX8_nextMember_7 : decode cX8_nextMember 7 = .ok (.iconst 1, 1) := by decide +kernel
theorem dX8_nextMember_8 : decode cX8_nextMember 8 = .ok (.iadd, 1) := by decide +kernel
theorem dX8_nextMember_9 : decode cX8_nextMember 9 = .ok (.bipush 8, 2) := by decide +kernel
theorem dX8_nextMember_11 : decode cX8_nextMember 11 = .ok (.irem, 1) := by decide +kernel
theorem dX8_nextMember_12 : decode cX8_nextMember 12 = .ok (.istore_n 3, 1) := by decide +kernel
theorem dX8_nextMember_13 : decode cX8_nextMember 13 = .ok (.iconst 0, 1) := by decide +kernel
theorem dX8_nextMember_14 : decode cX8_nextMember 14 = .ok (.istore 4, 2) := by decide +kernel
theorem dX8_nextMember_16 : decode cX8_nextMember 16 = .ok (.iload 4, 2) := by decide +kernel
theorem dX8_nextMember_18 : decode cX8_nextMember 18 = .ok (.bipush 8, 2) := by decide +kernel
theorem dX8_nextMember_20 : decode cX8_nextMember 20 = .ok (.if_icmp .ge 24, 3) := by decide +kernel
theorem dX8_nextMember_23 : decode cX8_nextMember 23 = .ok (.iload_n 2, 1) := by decide +kernel
theorem dX8_nextMember_24 : decode cX8_nextMember 24 = .ok (.iload_n 3, 1) := by decide +kernel
theorem dX8_nextMember_25 : decode cX8_nextMember 25 = .ok (.ishr, 1) := by decide +kernel
theorem dX8_nextMember_26 : decode cX8_nextMember 26 = .ok (.iconst 1, 1) := by decide +kernel
theorem dX8_nextMember_27 : decode cX8_nextMember 27 = .ok (.iand, 1) := by decide +kernel
theorem dX8_nextMember_28 : decode cX8_nextMember 28 = .ok (.ifCond .ne 16, 3) := by decide +kernel
theorem dX8_nextMember_31 : decode cX8_nextMember 31 = .ok (.iload_n 3, 1) := by decide +kernel
theorem dX8_nextMember_32 : decode cX8_nextMember 32 = .ok (.iconst 1, 1) := by decide +kernel
theorem dX8_nextMember_33 : decode cX8_nextMember 33 = .ok (.iadd, 1) := by decide +kernel
theorem dX8_nextMember_34 : decode cX8_nextMember 34 = .ok (.bipush 8, 2) := by decide +kernel
theorem dX8_nextMember_36 : decode cX8_nextMember 36 = .ok (.irem, 1) := by decide +kernel
theorem dX8_nextMember_37 : decode cX8_nextMember 37 = .ok (.istore_n 3, 1) := by decide +kernel
theorem dX8_nextMember_38 : decode cX8_nextMember 38 = .ok (.iinc 4 1, 3) := by decide +kernel
theorem dX8_nextMember_41 : decode cX8_nextMember 41 = .ok (.goto (-25), 3) := by decide +kernel
theorem dX8_nextMember_44 : decode cX8_nextMember 44 = .ok (.iload_n 3, 1) := by decide +kernel
theorem dX8_nextMember_45 : decode cX8_nextMember 45 = .ok (.ireturn, 1) := by decide +kernel
theorem dX8_plays_0 : decode cX8_plays 0 = .ok (.iload_n 1, 1) := by decide +kernel
theorem dX8_plays_1 : decode cX8_plays 1 = .ok (.istore_n 2, 1) := by decide +kernel
theorem dX8_plays_2 : decode cX8_plays 2 = .ok (.iconst 0, 1) := by decide +kernel
theorem dX8_plays_3 : decode cX8_plays 3 = .ok (.istore_n 3, 1) := by decide +kernel
theorem dX8_plays_4 : decode cX8_plays 4 = .ok (.iload_n 3, 1) := by decide +kernel
theorem dX8_plays_5 : decode cX8_plays 5 = .ok (.aload_n 0, 1) := by decide +kernel
theorem dX8_plays_6 : decode cX8_plays 6 = .ok (.getfield 7, 3) := by decide +kernel
theorem dX8_plays_9 : decode cX8_plays 9 = .ok (.iconst 4, 1) := by decide +kernel
theorem dX8_plays_10 : decode cX8_plays 10 = .ok (.iaload, 1) := by decide +kernel
theorem dX8_plays_11 : decode cX8_plays 11 = .ok (.if_icmp .ge 69, 3) := by decide +kernel
theorem dX8_plays_14 : decode cX8_plays 14 = .ok (.aload_n 0, 1) := by decide +kernel
theorem dX8_plays_15 : decode cX8_plays 15 = .ok (.iload_n 3, 1) := by decide +kernel
theorem dX8_plays_16 : decode cX8_plays 16 = .ok (.iconst 5, 1) := by decide +kernel
theorem dX8_plays_17 : decode cX8_plays 17 = .ok (.invokevirtual 43, 3) := by decide +kernel
theorem dX8_plays_20 : decode cX8_plays 20 = .ok (.ifCond .eq 54, 3) := by decide +kernel
theorem dX8_plays_23 : decode cX8_plays 23 = .ok (.aload_n 0, 1) := by decide +kernel
theorem dX8_plays_24 : decode cX8_plays 24 = .ok (.iload_n 2, 1) := by decide +kernel
theorem dX8_plays_25 : decode cX8_plays 25 = .ok (.putfield 28, 3) := by decide +kernel
theorem dX8_plays_28 : decode cX8_plays 28 = .ok (.aload_n 0, 1) := by decide +kernel
theorem dX8_plays_29 : decode cX8_plays 29 = .ok (.invokevirtual 69, 3) := by decide +kernel
theorem dX8_plays_32 : decode cX8_plays 32 = .ok (.sipush 1019, 3) := by decide +kernel
theorem dX8_plays_35 : decode cX8_plays 35 = .ok (.irem, 1) := by decide +kernel
theorem dX8_plays_36 : decode cX8_plays 36 = .ok (.istore 4, 2) := by decide +kernel
theorem dX8_plays_38 : decode cX8_plays 38 = .ok (.aload_n 0, 1) := by decide +kernel
theorem dX8_plays_39 : decode cX8_plays 39 = .ok (.invokevirtual 69, 3) := by decide +kernel
theorem dX8_plays_42 : decode cX8_plays 42 = .ok (.istore 5, 2) := by decide +kernel
theorem dX8_plays_44 : decode cX8_plays 44 = .ok (.aload_n 0, 1) := by decide +kernel
theorem dX8_plays_45 : decode cX8_plays 45 = .ok (.getfield 28, 3) := by decide +kernel
theorem dX8_plays_48 : decode cX8_plays 48 = .ok (.istore_n 2, 1) := by decide +kernel
theorem dX8_plays_49 : decode cX8_plays 49 = .ok (.aload_n 0, 1) := by decide +kernel
theorem dX8_plays_50 : decode cX8_plays 50 = .ok (.iload_n 3, 1) := by decide +kernel
theorem dX8_plays_51 : decode cX8_plays 51 = .ok (.aload_n 0, 1) := by decide +kernel
theorem dX8_plays_52 : decode cX8_plays 52 = .ok (.iload 4, 2) := by decide +kernel
theorem dX8_plays_54 : decode cX8_plays 54 = .ok (.iload 5, 2) := by decide +kernel
theorem dX8_plays_56 : decode cX8_plays 56 = .ok (.invokevirtual 76, 3) := by decide +kernel
theorem dX8_plays_59 : decode cX8_plays 59 = .ok (.invokevirtual 89, 3) := by decide +kernel
theorem dX8_plays_62 : decode cX8_plays 62 = .ok (.ifCond .ne 12, 3) := by decide +kernel
theorem dX8_plays_65 : decode cX8_plays 65 = .ok (.aload_n 0, 1) := by decide +kernel
theorem dX8_plays_66 : decode cX8_plays 66 = .ok (.iload_n 3, 1) := by decide +kernel
theorem dX8_plays_67 : decode cX8_plays 67 = .ok (.iload 4, 2) := by decide +kernel
theorem dX8_plays_69 : decode cX8_plays 69 = .ok (.iload 5, 2) := by decide +kernel
theorem dX8_plays_71 : decode cX8_plays 71 = .ok (.invokevirtual 92, 3) := by decide +kernel
theorem dX8_plays_74 : decode cX8_plays 74 = .ok (.iinc 3 1, 3) := by decide +kernel
theorem dX8_plays_77 : decode cX8_plays 77 = .ok (.goto (-73), 3) := by decide +kernel
theorem dX8_plays_80 : decode cX8_plays 80 = .ok (.return_, 1) := by decide +kernel
theorem dX8_cheats_0 : decode cX8_cheats 0 = .ok (.iconst 0, 1) := by decide +kernel
theorem dX8_cheats_1 : decode cX8_cheats 1 = .ok (.istore_n 1, 1) := by decide +kernel
theorem dX8_cheats_2 : decode cX8_cheats 2 = .ok (.iload_n 1, 1) := by decide +kernel
theorem dX8_cheats_3 : decode cX8_cheats 3 = .ok (.aload_n 0, 1) := by decide +kernel
theorem dX8_cheats_4 : decode cX8_cheats 4 = .ok (.getfield 7, 3) := by decide +kernel
theorem dX8_cheats_7 : decode cX8_cheats 7 = .ok (.iconst 4, 1) := by decide +kernel
theorem dX8_cheats_8 : decode cX8_cheats 8 = .ok (.iaload, 1) := by decide +kernel
theorem dX8_cheats_9 : decode cX8_cheats 9 = .ok (.if_icmp .ge 43, 3) := by decide +kernel
theorem dX8_cheats_12 : decode cX8_cheats 12 = .ok (.aload_n 0, 1) := by decide +kernel
theorem dX8_cheats_13 : decode cX8_cheats 13 = .ok (.iload_n 1, 1) := by decide +kernel
theorem dX8_cheats_14 : decode cX8_cheats 14 = .ok (.invokevirtual 100, 3) := by decide +kernel
theorem dX8_cheats_17 : decode cX8_cheats 17 = .ok (.ifCond .eq 29, 3) := by decide +kernel
theorem dX8_cheats_20 : decode cX8_cheats 20 = .ok (.aload_n 0, 1) := by decide +kernel
theorem dX8_cheats_21 : decode cX8_cheats 21 = .ok (.getfield 7, 3) := by decide +kernel
theorem dX8_cheats_24 : decode cX8_cheats 24 = .ok (.iload_n 1, 1) := by decide +kernel
theorem dX8_cheats_25 : decode cX8_cheats 25 = .ok (.invokestatic 35, 3) := by decide +kernel
theorem dX8_cheats_28 : decode cX8_cheats 28 = .ok (.iconst 4, 1) := by decide +kernel
theorem dX8_cheats_29 : decode cX8_cheats 29 = .ok (.iadd, 1) := by decide +kernel
theorem dX8_cheats_30 : decode cX8_cheats 30 = .ok (.iaload, 1) := by decide +kernel
theorem dX8_cheats_31 : decode cX8_cheats 31 = .ok (.iconst 3, 1) := by decide +kernel
theorem dX8_cheats_32 : decode cX8_cheats 32 = .ok (.if_icmp .ne 14, 3) := by decide +kernel
theorem dX8_cheats_35 : decode cX8_cheats 35 = .ok (.aload_n 0, 1) := by decide +kernel
theorem dX8_cheats_36 : decode cX8_cheats 36 = .ok (.iload_n 1, 1) := by decide +kernel
theorem dX8_cheats_37 : decode cX8_cheats 37 = .ok (.aload_n 0, 1) := by decide +kernel
theorem dX8_cheats_38 : decode cX8_cheats 38 = .ok (.iload_n 1, 1) := by decide +kernel
theorem dX8_cheats_39 : decode cX8_cheats 39 = .ok (.invokevirtual 150, 3) := by decide +kernel
theorem dX8_cheats_42 : decode cX8_cheats 42 = .ok (.iconst 1, 1) := by decide +kernel
theorem dX8_cheats_43 : decode cX8_cheats 43 = .ok (.invokevirtual 109, 3) := by decide +kernel
theorem dX8_cheats_46 : decode cX8_cheats 46 = .ok (.iinc 1 1, 3) := by decide +kernel
theorem dX8_cheats_49 : decode cX8_cheats 49 = .ok (.goto (-47), 3) := by decide +kernel
theorem dX8_cheats_52 : decode cX8_cheats 52 = .ok (.iconst 0, 1) := by decide +kernel
theorem dX8_cheats_53 : decode cX8_cheats 53 = .ok (.istore_n 1, 1) := by decide +kernel
theorem dX8_cheats_54 : decode cX8_cheats 54 = .ok (.iload_n 1, 1) := by decide +kernel
theorem dX8_cheats_55 : decode cX8_cheats 55 = .ok (.aload_n 0, 1) := by decide +kernel
theorem dX8_cheats_56 : decode cX8_cheats 56 = .ok (.getfield 7, 3) := by decide +kernel
theorem dX8_cheats_59 : decode cX8_cheats 59 = .ok (.iconst 4, 1) := by decide +kernel
theorem dX8_cheats_60 : decode cX8_cheats 60 = .ok (.iaload, 1) := by decide +kernel
theorem dX8_cheats_61 : decode cX8_cheats 61 = .ok (.if_icmp .ge 57, 3) := by decide +kernel
theorem dX8_cheats_64 : decode cX8_cheats 64 = .ok (.iconst 0, 1) := by decide +kernel
theorem dX8_cheats_65 : decode cX8_cheats 65 = .ok (.istore_n 2, 1) := by decide +kernel
theorem dX8_cheats_66 : decode cX8_cheats 66 = .ok (.iload_n 2, 1) := by decide +kernel
theorem dX8_cheats_67 : decode cX8_cheats 67 = .ok (.aload_n 0, 1) := by decide +kernel
theorem dX8_cheats_68 : decode cX8_cheats 68 = .ok (.getfield 7, 3) := by decide +kernel
theorem dX8_cheats_71 : decode cX8_cheats 71 = .ok (.iconst 4, 1) := by decide +kernel
theorem dX8_cheats_72 : decode cX8_cheats 72 = .ok (.iaload, 1) := by decide +kernel
theorem dX8_cheats_73 : decode cX8_cheats 73 = .ok (.if_icmp .ge 39, 3) := by decide +kernel
theorem dX8_cheats_76 : decode cX8_cheats 76 = .ok (.iload_n 2, 1) := by decide +kernel
theorem dX8_cheats_77 : decode cX8_cheats 77 = .ok (.iload_n 1, 1) := by decide +kernel
theorem dX8_cheats_78 : decode cX8_cheats 78 = .ok (.if_icmp .eq 28, 3) := by decide +kernel
theorem dX8_cheats_81 : decode cX8_cheats 81 = .ok (.aload_n 0, 1) := by decide +kernel
theorem dX8_cheats_82 : decode cX8_cheats 82 = .ok (.iload_n 2, 1) := by decide +kernel
theorem dX8_cheats_83 : decode cX8_cheats 83 = .ok (.iload_n 1, 1) := by decide +kernel
theorem dX8_cheats_84 : decode cX8_cheats 84 = .ok (.invokevirtual 106, 3) := by decide +kernel
theorem dX8_cheats_87 : decode cX8_cheats 87 = .ok (.ifCond .eq 19, 3) := by decide +kernel
theorem dX8_cheats_90 : decode cX8_cheats 90 = .ok (.aload_n 0, 1) := by decide +kernel
theorem dX8_cheats_91 : decode cX8_cheats 91 = .ok (.iload_n 2, 1) := by decide +kernel
theorem dX8_cheats_92 : decode cX8_cheats 92 = .ok (.iload_n 1, 1) := by decide +kernel
theorem dX8_cheats_93 : decode cX8_cheats 93 = .ok (.invokevirtual 112, 3) := by decide +kernel
theorem dX8_cheats_96 : decode cX8_cheats 96 = .ok (.ifCond .ne 10, 3) := by decide +kernel
theorem dX8_cheats_99 : decode cX8_cheats 99 = .ok (.aload_n 0, 1) := by decide +kernel
theorem dX8_cheats_100 : decode cX8_cheats 100 = .ok (.iload_n 1, 1) := by decide +kernel
theorem dX8_cheats_101 : decode cX8_cheats 101 = .ok (.iload_n 2, 1) := by decide +kernel
theorem dX8_cheats_102 : decode cX8_cheats 102 = .ok (.invokevirtual 118, 3) := by decide +kernel
theorem dX8_cheats_105 : decode cX8_cheats 105 = .ok (.istore_n 3, 1) := by decide +kernel
theorem dX8_cheats_106 : decode cX8_cheats 106 = .ok (.iinc 2 1, 3) := by decide +kernel
theorem dX8_cheats_109 : decode cX8_cheats 109 = .ok (.goto (-43), 3) := by decide +kernel
theorem dX8_cheats_112 : decode cX8_cheats 112 = .ok (.iinc 1 1, 3) := by decide +kernel
theorem dX8_cheats_115 : decode cX8_cheats 115 = .ok (.goto (-61), 3) := by decide +kernel
theorem dX8_cheats_118 : decode cX8_cheats 118 = .ok (.return_, 1) := by decide +kernel
theorem dX8_decides_0 : decode cX8_decides 0 = .ok (.iconst 0, 1) := by decide +kernel
theorem dX8_decides_1 : decode cX8_decides 1 = .ok (.istore_n 1, 1) := by decide +kernel
theorem dX8_decides_2 : decode cX8_decides 2 = .ok (.iload_n 1, 1) := by decide +kernel
theorem dX8_decides_3 : decode cX8_decides 3 = .ok (.aload_n 0, 1) := by decide +kernel
theorem dX8_decides_4 : decode cX8_decides 4 = .ok (.getfield 7, 3) := by decide +kernel
theorem dX8_decides_7 : decode cX8_decides 7 = .ok (.iconst 4, 1) := by decide +kernel
theorem dX8_decides_8 : decode cX8_decides 8 = .ok (.iaload, 1) := by decide +kernel
theorem dX8_decides_9 : decode cX8_decides 9 = .ok (.if_icmp .ge 56, 3) := by decide +kernel
theorem dX8_decides_12 : decode cX8_decides 12 = .ok (.aload_n 0, 1) := by decide +kernel
theorem dX8_decides_13 : decode cX8_decides 13 = .ok (.getfield 7, 3) := by decide +kernel
theorem dX8_decides_16 : decode cX8_decides 16 = .ok (.iload_n 1, 1) := by decide +kernel
theorem dX8_decides_17 : decode cX8_decides 17 = .ok (.invokestatic 35, 3) := by decide +kernel
theorem dX8_decides_20 : decode cX8_decides 20 = .ok (.iconst 4, 1) := by decide +kernel
theorem dX8_decides_21 : decode cX8_decides 21 = .ok (.iadd, 1) := by decide +kernel
theorem dX8_decides_22 : decode cX8_decides 22 = .ok (.iaload, 1) := by decide +kernel
theorem dX8_decides_23 : decode cX8_decides 23 = .ok (.istore_n 2, 1) := by decide +kernel
theorem dX8_decides_24 : decode cX8_decides 24 = .ok (.aload_n 0, 1) := by decide +kernel
theorem dX8_decides_25 : decode cX8_decides 25 = .ok (.getfield 7, 3) := by decide +kernel
theorem dX8_decides_28 : decode cX8_decides 28 = .ok (.iload_n 1, 1) := by decide +kernel
theorem dX8_decides_29 : decode cX8_decides 29 = .ok (.invokestatic 35, 3) := by decide +kernel
theorem dX8_decides_32 : decode cX8_decides 32 = .ok (.bipush 7, 2) := by decide +kernel
theorem dX8_decides_34 : decode cX8_decides 34 = .ok (.iadd, 1) := by decide +kernel
theorem dX8_decides_35 : decode cX8_decides 35 = .ok (.aload_n 0, 1) := by decide +kernel
theorem dX8_decides_36 : decode cX8_decides 36 = .ok (.iload_n 1, 1) := by decide +kernel
theorem dX8_decides_37 : decode cX8_decides 37 = .ok (.iconst 5, 1) := by decide +kernel
theorem dX8_decides_38 : decode cX8_decides 38 = .ok (.invokevirtual 43, 3) := by decide +kernel
theorem dX8_decides_41 : decode cX8_decides 41 = .ok (.ifCond .eq 16, 3) := by decide +kernel
theorem dX8_decides_44 : decode cX8_decides 44 = .ok (.iload_n 2, 1) := by decide +kernel
theorem dX8_decides_45 : decode cX8_decides 45 = .ok (.ifCond .eq 8, 3) := by decide +kernel
theorem dX8_decides_48 : decode cX8_decides 48 = .ok (.iload_n 2, 1) := by decide +kernel
theorem dX8_decides_49 : decode cX8_decides 49 = .ok (.iconst 3, 1) := by decide +kernel
theorem dX8_decides_50 : decode cX8_decides 50 = .ok (.if_icmp .ne 7, 3) := by decide +kernel
theorem dX8_decides_53 : decode cX8_decides 53 = .ok (.iconst 1, 1) := by decide +kernel
theorem dX8_decides_54 : decode cX8_decides 54 = .ok (.goto 4, 3) := by decide +kernel
theorem dX8_decides_57 : decode cX8_decides 57 = .ok (.iconst 0, 1) := by decide +kernel
theorem dX8_decides_58 : decode cX8_decides 58 = .ok (.iastore, 1) := by decide +kernel
theorem dX8_decides_59 : decode cX8_decides 59 = .ok (.iinc 1 1, 3) := by decide +kernel
theorem dX8_decides_62 : decode cX8_decides 62 = .ok (.goto (-60), 3) := by decide +kernel
theorem dX8_decides_65 : decode cX8_decides 65 = .ok (.iconst 0, 1) := by decide +kernel
theorem dX8_decides_66 : decode cX8_decides 66 = .ok (.istore_n 1, 1) := by decide +kernel
theorem dX8_decides_67 : decode cX8_decides 67 = .ok (.iload_n 1, 1) := by decide +kernel
theorem dX8_decides_68 : decode cX8_decides 68 = .ok (.aload_n 0, 1) := by decide +kernel
theorem dX8_decides_69 : decode cX8_decides 69 = .ok (.getfield 7, 3) := by decide +kernel
theorem dX8_decides_72 : decode cX8_decides 72 = .ok (.iconst 4, 1) := by decide +kernel
theorem dX8_decides_73 : decode cX8_decides 73 = .ok (.iaload, 1) := by decide +kernel
theorem dX8_decides_74 : decode cX8_decides 74 = .ok (.if_icmp .ge 95, 3) := by decide +kernel
theorem dX8_decides_77 : decode cX8_decides 77 = .ok (.aload_n 0, 1) := by decide +kernel
theorem dX8_decides_78 : decode cX8_decides 78 = .ok (.iload_n 1, 1) := by decide +kernel
theorem dX8_decides_79 : decode cX8_decides 79 = .ok (.iconst 5, 1) := by decide +kernel
theorem dX8_decides_80 : decode cX8_decides 80 = .ok (.invokevirtual 43, 3) := by decide +kernel
theorem dX8_decides_83 : decode cX8_decides 83 = .ok (.ifCond .eq 80, 3) := by decide +kernel
theorem dX8_decides_86 : decode cX8_decides 86 = .ok (.aload_n 0, 1) := by decide +kernel
theorem dX8_decides_87 : decode cX8_decides 87 = .ok (.getfield 7, 3) := by decide +kernel
theorem dX8_decides_90 : decode cX8_decides 90 = .ok (.iload_n 1, 1) := by decide +kernel
theorem dX8_decides_91 : decode cX8_decides 91 = .ok (.invokestatic 35, 3) := by decide +kernel
theorem dX8_decides_94 : decode cX8_decides 94 = .ok (.iconst 4, 1) := by decide +kernel
theorem dX8_decides_95 : decode cX8_decides 95 = .ok (.iadd, 1) := by decide +kernel
theorem dX8_decides_96 : decode cX8_decides 96 = .ok (.iaload, 1) := by decide +kernel
theorem dX8_decides_97 : decode cX8_decides 97 = .ok (.iconst 2, 1) := by decide +kernel
theorem dX8_decides_98 : decode cX8_decides 98 = .ok (.if_icmp .ne 65, 3) := by decide +kernel
theorem dX8_decides_101 : decode cX8_decides 101 = .ok (.aload_n 0, 1) := by decide +kernel
theorem dX8_decides_102 : decode cX8_decides 102 = .ok (.bipush 7, 2) := by decide +kernel
theorem dX8_decides_104 : decode cX8_decides 104 = .ok (.invokevirtual 121, 3) := by decide +kernel
theorem dX8_decides_107 : decode cX8_decides 107 = .ok (.aload_n 0, 1) := by decide +kernel
theorem dX8_decides_108 : decode cX8_decides 108 = .ok (.iconst 5, 1) := by decide +kernel
theorem dX8_decides_109 : decode cX8_decides 109 = .ok (.invokevirtual 121, 3) := by decide +kernel
theorem dX8_decides_112 : decode cX8_decides 112 = .ok (.iand, 1) := by decide +kernel
theorem dX8_decides_113 : decode cX8_decides 113 = .ok (.istore_n 2, 1) := by decide +kernel
theorem dX8_decides_114 : decode cX8_decides 114 = .ok (.aload_n 0, 1) := by decide +kernel
theorem dX8_decides_115 : decode cX8_decides 115 = .ok (.iload_n 2, 1) := by decide +kernel
theorem dX8_decides_116 : decode cX8_decides 116 = .ok (.invokevirtual 153, 3) := by decide +kernel
theorem dX8_decides_119 : decode cX8_decides 119 = .ok (.iconst 1, 1) := by decide +kernel
theorem dX8_decides_120 : decode cX8_decides 120 = .ok (.if_icmp .ne 20, 3) := by decide +kernel
theorem dX8_decides_123 : decode cX8_decides 123 = .ok (.aload_n 0, 1) := by decide +kernel
theorem dX8_decides_124 : decode cX8_decides 124 = .ok (.iload_n 2, 1) := by decide +kernel
theorem dX8_decides_125 : decode cX8_decides 125 = .ok (.iconst 1, 1) := by decide +kernel
theorem dX8_decides_126 : decode cX8_decides 126 = .ok (.iload_n 1, 1) := by decide +kernel
theorem dX8_decides_127 : decode cX8_decides 127 = .ok (.ishl, 1) := by decide +kernel
theorem dX8_decides_128 : decode cX8_decides 128 = .ok (.ior, 1) := by decide +kernel
theorem dX8_decides_129 : decode cX8_decides 129 = .ok (.invokevirtual 153, 3) := by decide +kernel
theorem dX8_decides_132 : decode cX8_decides 132 = .ok (.iconst 1, 1) := by decide +kernel
theorem dX8_decides_133 : decode cX8_decides 133 = .ok (.if_icmp .eq 7, 3) := by decide +kernel
theorem dX8_decides_136 : decode cX8_decides 136 = .ok (.iconst 1, 1) := by decide +kernel
theorem dX8_decides_137 : decode cX8_decides 137 = .ok (.goto 4, 3) := by decide +kernel
theorem dX8_decides_140 : decode cX8_decides 140 = .ok (.iconst 0, 1) := by decide +kernel
theorem dX8_decides_141 : decode cX8_decides 141 = .ok (.istore_n 3, 1) := by decide +kernel
theorem dX8_decides_142 : decode cX8_decides 142 = .ok (.aload_n 0, 1) := by decide +kernel
theorem dX8_decides_143 : decode cX8_decides 143 = .ok (.getfield 7, 3) := by decide +kernel
theorem dX8_decides_146 : decode cX8_decides 146 = .ok (.iload_n 1, 1) := by decide +kernel
theorem dX8_decides_147 : decode cX8_decides 147 = .ok (.invokestatic 35, 3) := by decide +kernel
theorem dX8_decides_150 : decode cX8_decides 150 = .ok (.bipush 7, 2) := by decide +kernel
theorem dX8_decides_152 : decode cX8_decides 152 = .ok (.iadd, 1) := by decide +kernel
theorem dX8_decides_153 : decode cX8_decides 153 = .ok (.iload_n 3, 1) := by decide +kernel
theorem dX8_decides_154 : decode cX8_decides 154 = .ok (.ifCond .eq 7, 3) := by decide +kernel
theorem dX8_decides_157 : decode cX8_decides 157 = .ok (.iconst 0, 1) := by decide +kernel
theorem dX8_decides_158 : decode cX8_decides 158 = .ok (.goto 4, 3) := by decide +kernel
theorem dX8_decides_161 : decode cX8_decides 161 = .ok (.iconst 1, 1) := by decide +kernel
theorem dX8_decides_162 : decode cX8_decides 162 = .ok (.iastore, 1) := by decide +kernel
theorem dX8_decides_163 : decode cX8_decides 163 = .ok (.iinc 1 1, 3) := by decide +kernel
theorem dX8_decides_166 : decode cX8_decides 166 = .ok (.goto (-99), 3) := by decide +kernel
theorem dX8_decides_169 : decode cX8_decides 169 = .ok (.return_, 1) := by decide +kernel
theorem dX8_play_0 : decode cX8_play 0 = .ok (.aload_n 0, 1) := by decide +kernel
theorem dX8_play_1 : decode cX8_play 1 = .ok (.invokevirtual 59, 3) := by decide +kernel
theorem dX8_play_4 : decode cX8_play 4 = .ok (.ifCond .ne 6, 3) := by decide +kernel
theorem dX8_play_7 : decode cX8_play 7 = .ok (.bipush (-2), 2) := by decide +kernel
theorem dX8_play_9 : decode cX8_play 9 = .ok (.ireturn, 1) := by decide +kernel
theorem dX8_play_10 : decode cX8_play 10 = .ok (.aload_n 0, 1) := by decide +kernel
theorem dX8_play_11 : decode cX8_play 11 = .ok (.invokevirtual 48, 3) := by decide +kernel
theorem dX8_play_14 : decode cX8_play 14 = .ok (.aload_n 0, 1) := by decide +kernel
theorem dX8_play_15 : decode cX8_play 15 = .ok (.invokevirtual 63, 3) := by decide +kernel
theorem dX8_play_18 : decode cX8_play 18 = .ok (.aload_n 0, 1) := by decide +kernel
theorem dX8_play_19 : decode cX8_play 19 = .ok (.iload_n 1, 1) := by decide +kernel
theorem dX8_play_20 : decode cX8_play 20 = .ok (.invokevirtual 156, 3) := by decide +kernel
theorem dX8_play_23 : decode cX8_play 23 = .ok (.aload_n 0, 1) := by decide +kernel
theorem dX8_play_24 : decode cX8_play 24 = .ok (.getfield 7, 3) := by decide +kernel
theorem dX8_play_27 : decode cX8_play 27 = .ok (.iconst 5, 1) := by decide +kernel
theorem dX8_play_28 : decode cX8_play 28 = .ok (.iaload, 1) := by decide +kernel
theorem dX8_play_29 : decode cX8_play 29 = .ok (.iconst 1, 1) := by decide +kernel
theorem dX8_play_30 : decode cX8_play 30 = .ok (.if_icmp .ne 7, 3) := by decide +kernel
theorem dX8_play_33 : decode cX8_play 33 = .ok (.aload_n 0, 1) := by decide +kernel
theorem dX8_play_34 : decode cX8_play 34 = .ok (.invokevirtual 159, 3) := by decide +kernel
theorem dX8_play_37 : decode cX8_play 37 = .ok (.aload_n 0, 1) := by decide +kernel
theorem dX8_play_38 : decode cX8_play 38 = .ok (.invokevirtual 131, 3) := by decide +kernel
theorem dX8_play_41 : decode cX8_play 41 = .ok (.bipush (-5), 2) := by decide +kernel
theorem dX8_play_43 : decode cX8_play 43 = .ok (.if_icmp .ne 6, 3) := by decide +kernel
theorem dX8_play_46 : decode cX8_play 46 = .ok (.bipush (-5), 2) := by decide +kernel
theorem dX8_play_48 : decode cX8_play 48 = .ok (.ireturn, 1) := by decide +kernel
theorem dX8_play_49 : decode cX8_play 49 = .ok (.aload_n 0, 1) := by decide +kernel
theorem dX8_play_50 : decode cX8_play 50 = .ok (.invokevirtual 162, 3) := by decide +kernel
theorem dX8_play_53 : decode cX8_play 53 = .ok (.aload_n 0, 1) := by decide +kernel
theorem dX8_play_54 : decode cX8_play 54 = .ok (.invokevirtual 147, 3) := by decide +kernel
theorem dX8_play_57 : decode cX8_play 57 = .ok (.ireturn, 1) := by decide +kernel
theorem dX8_phase_0 : decode cX8_phase 0 = .ok (.aload_n 0, 1) := by decide +kernel
theorem dX8_phase_1 : decode cX8_phase 1 = .ok (.getfield 7, 3) := by decide +kernel
theorem dX8_phase_4 : decode cX8_phase 4 = .ok (.iconst 0, 1) := by decide +kernel
theorem dX8_phase_5 : decode cX8_phase 5 = .ok (.iaload, 1) := by decide +kernel
theorem dX8_phase_6 : decode cX8_phase 6 = .ok (.ireturn, 1) := by decide +kernel
theorem dX8_setNumber_0 : decode cX8_setNumber 0 = .ok (.aload_n 0, 1) := by decide +kernel
theorem dX8_setNumber_1 : decode cX8_setNumber 1 = .ok (.iconst 5, 1) := by decide +kernel
theorem dX8_setNumber_2 : decode cX8_setNumber 2 = .ok (.invokevirtual 121, 3) := by decide +kernel
theorem dX8_setNumber_5 : decode cX8_setNumber 5 = .ok (.istore_n 2, 1) := by decide +kernel
theorem dX8_setNumber_6 : decode cX8_setNumber 6 = .ok (.iload_n 1, 1) := by decide +kernel
theorem dX8_setNumber_7 : decode cX8_setNumber 7 = .ok (.ifCond .ne 7, 3) := by decide +kernel
theorem dX8_setNumber_10 : decode cX8_setNumber 10 = .ok (.iload_n 2, 1) := by decide +kernel
theorem dX8_setNumber_11 : decode cX8_setNumber 11 = .ok (.goto 41, 3) := by decide +kernel
theorem dX8_setNumber_14 : decode cX8_setNumber 14 = .ok (.iload_n 1, 1) := by decide +kernel
theorem dX8_setNumber_15 : decode cX8_setNumber 15 = .ok (.iconst 1, 1) := by decide +kernel
theorem dX8_setNumber_16 : decode cX8_setNumber 16 = .ok (.if_icmp .ne 14, 3) := by decide +kernel
theorem dX8_setNumber_19 : decode cX8_setNumber 19 = .ok (.iload_n 2, 1) := by decide +kernel
theorem dX8_setNumber_20 : decode cX8_setNumber 20 = .ok (.aload_n 0, 1) := by decide +kernel
theorem dX8_setNumber_21 : decode cX8_setNumber 21 = .ok (.bipush 6, 2) := by decide +kernel
theorem dX8_setNumber_23 : decode cX8_setNumber 23 = .ok (.invokevirtual 121, 3) := by decide +kernel
theorem dX8_setNumber_26 : decode cX8_setNumber 26 = .ok (.iand, 1) := by decide +kernel
theorem dX8_setNumber_27 : decode cX8_setNumber 27 = .ok (.goto 25, 3) := by decide +kernel
theorem dX8_setNumber_30 : decode cX8_setNumber 30 = .ok (.iload_n 1, 1) := by decide +kernel
theorem dX8_setNumber_31 : decode cX8_setNumber 31 = .ok (.iconst 2, 1) := by decide +kernel
theorem dX8_setNumber_32 : decode cX8_setNumber 32 = .ok (.if_icmp .ne 14, 3) := by decide +kernel
theorem dX8_setNumber_35 : decode cX8_setNumber 35 = .ok (.iload_n 2, 1) := by decide +kernel
theorem dX8_setNumber_36 : decode cX8_setNumber 36 = .ok (.aload_n 0, 1) := by decide +kernel
theorem dX8_setNumber_37 : decode cX8_setNumber 37 = .ok (.bipush 7, 2) := by decide +kernel
theorem dX8_setNumber_39 : decode cX8_setNumber 39 = .ok (.invokevirtual 121, 3) := by decide +kernel
theorem dX8_setNumber_42 : decode cX8_setNumber 42 = .ok (.iand, 1) := by decide +kernel
theorem dX8_setNumber_43 : decode cX8_setNumber 43 = .ok (.goto 9, 3) := by decide +kernel
theorem dX8_setNumber_46 : decode cX8_setNumber 46 = .ok (.aload_n 0, 1) := by decide +kernel
theorem dX8_setNumber_47 : decode cX8_setNumber 47 = .ok (.bipush 8, 2) := by decide +kernel
theorem dX8_setNumber_49 : decode cX8_setNumber 49 = .ok (.invokevirtual 121, 3) := by decide +kernel
theorem dX8_setNumber_52 : decode cX8_setNumber 52 = .ok (.ireturn, 1) := by decide +kernel
theorem dX8_set_0 : decode cX8_set 0 = .ok (.iload_n 1, 1) := by decide +kernel
theorem dX8_set_1 : decode cX8_set 1 = .ok (.iconst 0, 1) := by decide +kernel
theorem dX8_set_2 : decode cX8_set 2 = .ok (.iconst 3, 1) := by decide +kernel
theorem dX8_set_3 : decode cX8_set 3 = .ok (.invokestatic 31, 3) := by decide +kernel
theorem dX8_set_6 : decode cX8_set 6 = .ok (.ifCond .ne 7, 3) := by decide +kernel
theorem dX8_set_9 : decode cX8_set 9 = .ok (.iconst (-1), 1) := by decide +kernel
theorem dX8_set_10 : decode cX8_set 10 = .ok (.goto 22, 3) := by decide +kernel
theorem dX8_set_13 : decode cX8_set 13 = .ok (.aload_n 0, 1) := by decide +kernel
theorem dX8_set_14 : decode cX8_set 14 = .ok (.getfield 7, 3) := by decide +kernel
theorem dX8_set_17 : decode cX8_set 17 = .ok (.iconst 0, 1) := by decide +kernel
theorem dX8_set_18 : decode cX8_set 18 = .ok (.iaload, 1) := by decide +kernel
theorem dX8_set_19 : decode cX8_set 19 = .ok (.ifCond .ne 8, 3) := by decide +kernel
theorem dX8_set_22 : decode cX8_set 22 = .ok (.bipush (-2), 2) := by decide +kernel
theorem dX8_set_24 : decode cX8_set 24 = .ok (.goto 8, 3) := by decide +kernel
theorem dX8_set_27 : decode cX8_set 27 = .ok (.aload_n 0, 1) := by decide +kernel
theorem dX8_set_28 : decode cX8_set 28 = .ok (.iload_n 1, 1) := by decide +kernel
theorem dX8_set_29 : decode cX8_set 29 = .ok (.invokevirtual 165, 3) := by decide +kernel
theorem dX8_set_32 : decode cX8_set 32 = .ok (.ireturn, 1) := by decide +kernel
theorem dX8_isIn_0 : decode cX8_isIn 0 = .ok (.aload_n 0, 1) := by decide +kernel
theorem dX8_isIn_1 : decode cX8_isIn 1 = .ok (.getfield 7, 3) := by decide +kernel
theorem dX8_isIn_4 : decode cX8_isIn 4 = .ok (.iconst 0, 1) := by decide +kernel
theorem dX8_isIn_5 : decode cX8_isIn 5 = .ok (.iaload, 1) := by decide +kernel
theorem dX8_isIn_6 : decode cX8_isIn 6 = .ok (.ifCond .eq 26, 3) := by decide +kernel
theorem dX8_isIn_9 : decode cX8_isIn 9 = .ok (.aload_n 0, 1) := by decide +kernel
theorem dX8_isIn_10 : decode cX8_isIn 10 = .ok (.iload_n 1, 1) := by decide +kernel
theorem dX8_isIn_11 : decode cX8_isIn 11 = .ok (.iconst 5, 1) := by decide +kernel
theorem dX8_isIn_12 : decode cX8_isIn 12 = .ok (.invokevirtual 43, 3) := by decide +kernel
theorem dX8_isIn_15 : decode cX8_isIn 15 = .ok (.ifCond .eq 17, 3) := by decide +kernel
theorem dX8_isIn_18 : decode cX8_isIn 18 = .ok (.aload_n 0, 1) := by decide +kernel
theorem dX8_isIn_19 : decode cX8_isIn 19 = .ok (.iload_n 1, 1) := by decide +kernel
theorem dX8_isIn_20 : decode cX8_isIn 20 = .ok (.bipush 6, 2) := by decide +kernel
theorem dX8_isIn_22 : decode cX8_isIn 22 = .ok (.invokevirtual 43, 3) := by decide +kernel
theorem dX8_isIn_25 : decode cX8_isIn 25 = .ok (.ifCond .eq 7, 3) := by decide +kernel
theorem dX8_isIn_28 : decode cX8_isIn 28 = .ok (.iconst 1, 1) := by decide +kernel
theorem dX8_isIn_29 : decode cX8_isIn 29 = .ok (.goto 4, 3) := by decide +kernel
theorem dX8_isIn_32 : decode cX8_isIn 32 = .ok (.iconst 0, 1) := by decide +kernel
theorem dX8_isIn_33 : decode cX8_isIn 33 = .ok (.ireturn, 1) := by decide +kernel
theorem dX8_digest_0 : decode cX8_digest 0 = .ok (.aload_n 0, 1) := by decide +kernel
theorem dX8_digest_1 : decode cX8_digest 1 = .ok (.iload_n 1, 1) := by decide +kernel
theorem dX8_digest_2 : decode cX8_digest 2 = .ok (.invokevirtual 39, 3) := by decide +kernel
theorem dX8_digest_5 : decode cX8_digest 5 = .ok (.ifCond .ne 7, 3) := by decide +kernel
theorem dX8_digest_8 : decode cX8_digest 8 = .ok (.iconst (-1), 1) := by decide +kernel
theorem dX8_digest_9 : decode cX8_digest 9 = .ok (.goto 31, 3) := by decide +kernel
theorem dX8_digest_12 : decode cX8_digest 12 = .ok (.aload_n 0, 1) := by decide +kernel
theorem dX8_digest_13 : decode cX8_digest 13 = .ok (.iload_n 1, 1) := by decide +kernel
theorem dX8_digest_14 : decode cX8_digest 14 = .ok (.invokevirtual 168, 3) := by decide +kernel
theorem dX8_digest_17 : decode cX8_digest 17 = .ok (.ifCond .eq 21, 3) := by decide +kernel
theorem dX8_digest_20 : decode cX8_digest 20 = .ok (.aload_n 0, 1) := by decide +kernel
theorem dX8_digest_21 : decode cX8_digest 21 = .ok (.getfield 7, 3) := by decide +kernel
theorem dX8_digest_24 : decode cX8_digest 24 = .ok (.iload_n 1, 1) := by decide +kernel
theorem dX8_digest_25 : decode cX8_digest 25 = .ok (.invokestatic 35, 3) := by decide +kernel
theorem dX8_digest_28 : decode cX8_digest 28 = .ok (.bipush 11, 2) := by decide +kernel
theorem dX8_digest_30 : decode cX8_digest 30 = .ok (.iadd, 1) := by decide +kernel
theorem dX8_digest_31 : decode cX8_digest 31 = .ok (.iaload, 1) := by decide +kernel
theorem dX8_digest_32 : decode cX8_digest 32 = .ok (.ldc 96, 2) := by decide +kernel
theorem dX8_digest_34 : decode cX8_digest 34 = .ok (.iand, 1) := by decide +kernel
theorem dX8_digest_35 : decode cX8_digest 35 = .ok (.goto 5, 3) := by decide +kernel
theorem dX8_digest_38 : decode cX8_digest 38 = .ok (.bipush (-9), 2) := by decide +kernel
theorem dX8_digest_40 : decode cX8_digest 40 = .ok (.ireturn, 1) := by decide +kernel
theorem dX8_share_0 : decode cX8_share 0 = .ok (.aload_n 0, 1) := by decide +kernel
theorem dX8_share_1 : decode cX8_share 1 = .ok (.iload_n 1, 1) := by decide +kernel
theorem dX8_share_2 : decode cX8_share 2 = .ok (.invokevirtual 39, 3) := by decide +kernel
theorem dX8_share_5 : decode cX8_share 5 = .ok (.ifCond .eq 11, 3) := by decide +kernel
theorem dX8_share_8 : decode cX8_share 8 = .ok (.aload_n 0, 1) := by decide +kernel
theorem dX8_share_9 : decode cX8_share 9 = .ok (.iload_n 2, 1) := by decide +kernel
theorem dX8_share_10 : decode cX8_share 10 = .ok (.invokevirtual 39, 3) := by decide +kernel
theorem dX8_share_13 : decode cX8_share 13 = .ok (.ifCond .ne 7, 3) := by decide +kernel
theorem dX8_share_16 : decode cX8_share 16 = .ok (.iconst (-1), 1) := by decide +kernel
theorem dX8_share_17 : decode cX8_share 17 = .ok (.goto 23, 3) := by decide +kernel
theorem dX8_share_20 : decode cX8_share 20 = .ok (.aload_n 0, 1) := by decide +kernel
theorem dX8_share_21 : decode cX8_share 21 = .ok (.iload_n 1, 1) := by decide +kernel
theorem dX8_share_22 : decode cX8_share 22 = .ok (.iload_n 2, 1) := by decide +kernel
theorem dX8_share_23 : decode cX8_share 23 = .ok (.invokevirtual 106, 3) := by decide +kernel
theorem dX8_share_26 : decode cX8_share 26 = .ok (.ifCond .eq 12, 3) := by decide +kernel
theorem dX8_share_29 : decode cX8_share 29 = .ok (.aload_n 0, 1) := by decide +kernel
theorem dX8_share_30 : decode cX8_share 30 = .ok (.iload_n 1, 1) := by decide +kernel
theorem dX8_share_31 : decode cX8_share 31 = .ok (.iload_n 2, 1) := by decide +kernel
theorem dX8_share_32 : decode cX8_share 32 = .ok (.invokevirtual 103, 3) := by decide +kernel
theorem dX8_share_35 : decode cX8_share 35 = .ok (.goto 5, 3) := by decide +kernel
theorem dX8_share_38 : decode cX8_share 38 = .ok (.bipush (-9), 2) := by decide +kernel
theorem dX8_share_40 : decode cX8_share 40 = .ok (.ireturn, 1) := by decide +kernel
theorem dX8_isRight_0 : decode cX8_isRight 0 = .ok (.aload_n 0, 1) := by decide +kernel
theorem dX8_isRight_1 : decode cX8_isRight 1 = .ok (.iload_n 1, 1) := by decide +kernel
theorem dX8_isRight_2 : decode cX8_isRight 2 = .ok (.invokevirtual 39, 3) := by decide +kernel
theorem dX8_isRight_5 : decode cX8_isRight 5 = .ok (.ifCond .eq 11, 3) := by decide +kernel
theorem dX8_isRight_8 : decode cX8_isRight 8 = .ok (.aload_n 0, 1) := by decide +kernel
theorem dX8_isRight_9 : decode cX8_isRight 9 = .ok (.iload_n 2, 1) := by decide +kernel
theorem dX8_isRight_10 : decode cX8_isRight 10 = .ok (.invokevirtual 39, 3) := by decide +kernel
theorem dX8_isRight_13 : decode cX8_isRight 13 = .ok (.ifCond .ne 7, 3) := by decide +kernel
theorem dX8_isRight_16 : decode cX8_isRight 16 = .ok (.iconst (-1), 1) := by decide +kernel
theorem dX8_isRight_17 : decode cX8_isRight 17 = .ok (.goto 31, 3) := by decide +kernel
theorem dX8_isRight_20 : decode cX8_isRight 20 = .ok (.aload_n 0, 1) := by decide +kernel
theorem dX8_isRight_21 : decode cX8_isRight 21 = .ok (.iload_n 1, 1) := by decide +kernel
theorem dX8_isRight_22 : decode cX8_isRight 22 = .ok (.iload_n 2, 1) := by decide +kernel
theorem dX8_isRight_23 : decode cX8_isRight 23 = .ok (.invokevirtual 106, 3) := by decide +kernel
theorem dX8_isRight_26 : decode cX8_isRight 26 = .ok (.ifCond .ne 8, 3) := by decide +kernel
theorem dX8_isRight_29 : decode cX8_isRight 29 = .ok (.bipush (-9), 2) := by decide +kernel
theorem dX8_isRight_31 : decode cX8_isRight 31 = .ok (.goto 17, 3) := by decide +kernel
theorem dX8_isRight_34 : decode cX8_isRight 34 = .ok (.aload_n 0, 1) := by decide +kernel
theorem dX8_isRight_35 : decode cX8_isRight 35 = .ok (.iload_n 1, 1) := by decide +kernel
theorem dX8_isRight_36 : decode cX8_isRight 36 = .ok (.iload_n 2, 1) := by decide +kernel
theorem dX8_isRight_37 : decode cX8_isRight 37 = .ok (.invokevirtual 112, 3) := by decide +kernel
theorem dX8_isRight_40 : decode cX8_isRight 40 = .ok (.ifCond .eq 7, 3) := by decide +kernel
theorem dX8_isRight_43 : decode cX8_isRight 43 = .ok (.iconst 1, 1) := by decide +kernel
theorem dX8_isRight_44 : decode cX8_isRight 44 = .ok (.goto 4, 3) := by decide +kernel
theorem dX8_isRight_47 : decode cX8_isRight 47 = .ok (.iconst 0, 1) := by decide +kernel
theorem dX8_isRight_48 : decode cX8_isRight 48 = .ok (.ireturn, 1) := by decide +kernel
theorem dX8_check_0 : decode cX8_check 0 = .ok (.aload_n 0, 1) := by decide +kernel
theorem dX8_check_1 : decode cX8_check 1 = .ok (.iload_n 1, 1) := by decide +kernel
theorem dX8_check_2 : decode cX8_check 2 = .ok (.invokevirtual 39, 3) := by decide +kernel
theorem dX8_check_5 : decode cX8_check 5 = .ok (.ifCond .eq 7, 3) := by decide +kernel
theorem dX8_check_8 : decode cX8_check 8 = .ok (.iload_n 2, 1) := by decide +kernel
theorem dX8_check_9 : decode cX8_check 9 = .ok (.ifCond .ge 5, 3) := by decide +kernel
theorem dX8_check_12 : decode cX8_check 12 = .ok (.iconst (-1), 1) := by decide +kernel
theorem dX8_check_13 : decode cX8_check 13 = .ok (.ireturn, 1) := by decide +kernel
theorem dX8_check_14 : decode cX8_check 14 = .ok (.aload_n 0, 1) := by decide +kernel
theorem dX8_check_15 : decode cX8_check 15 = .ok (.iload_n 1, 1) := by decide +kernel
theorem dX8_check_16 : decode cX8_check 16 = .ok (.invokevirtual 100, 3) := by decide +kernel
theorem dX8_check_19 : decode cX8_check 19 = .ok (.ifCond .eq 14, 3) := by decide +kernel
theorem dX8_check_22 : decode cX8_check 22 = .ok (.iload_n 2, 1) := by decide +kernel
theorem dX8_check_23 : decode cX8_check 23 = .ok (.aload_n 0, 1) := by decide +kernel
theorem dX8_check_24 : decode cX8_check 24 = .ok (.getfield 7, 3) := by decide +kernel
theorem dX8_check_27 : decode cX8_check 27 = .ok (.bipush 6, 2) := by decide +kernel
theorem dX8_check_29 : decode cX8_check 29 = .ok (.iaload, 1) := by decide +kernel
theorem dX8_check_30 : decode cX8_check 30 = .ok (.if_icmp .lt 6, 3) := by decide +kernel
theorem dX8_check_33 : decode cX8_check 33 = .ok (.bipush (-9), 2) := by decide +kernel
theorem dX8_check_35 : decode cX8_check 35 = .ok (.ireturn, 1) := by decide +kernel
theorem dX8_check_36 : decode cX8_check 36 = .ok (.iconst 1, 1) := by decide +kernel
theorem dX8_check_37 : decode cX8_check 37 = .ok (.istore_n 3, 1) := by decide +kernel
theorem dX8_check_38 : decode cX8_check 38 = .ok (.iconst 0, 1) := by decide +kernel
theorem dX8_check_39 : decode cX8_check 39 = .ok (.istore 4, 2) := by decide +kernel
theorem dX8_check_41 : decode cX8_check 41 = .ok (.iload 4, 2) := by decide +kernel
theorem dX8_check_43 : decode cX8_check 43 = .ok (.aload_n 0, 1) := by decide +kernel
theorem dX8_check_44 : decode cX8_check 44 = .ok (.getfield 7, 3) := by decide +kernel
theorem dX8_check_47 : decode cX8_check 47 = .ok (.iload_n 1, 1) := by decide +kernel
theorem dX8_check_48 : decode cX8_check 48 = .ok (.invokestatic 35, 3) := by decide +kernel
theorem dX8_check_51 : decode cX8_check 51 = .ok (.bipush 14, 2) := by decide +kernel
theorem dX8_check_53 : decode cX8_check 53 = .ok (.iadd, 1) := by decide +kernel
theorem dX8_check_54 : decode cX8_check 54 = .ok (.iload_n 2, 1) := by decide +kernel
theorem dX8_check_55 : decode cX8_check 55 = .ok (.iadd, 1) := by decide +kernel
theorem dX8_check_56 : decode cX8_check 56 = .ok (.iaload, 1) := by decide +kernel
theorem dX8_check_57 : decode cX8_check 57 = .ok (.if_icmp .ge 17, 3) := by decide +kernel
theorem dX8_check_60 : decode cX8_check 60 = .ok (.iload_n 3, 1) := by decide +kernel
theorem dX8_check_61 : decode cX8_check 61 = .ok (.iconst 4, 1) := by decide +kernel
theorem dX8_check_62 : decode cX8_check 62 = .ok (.imul, 1) := by decide +kernel
theorem dX8_check_63 : decode cX8_check 63 = .ok (.sipush 2039, 3) := by decide +kernel
theorem dX8_check_66 : decode cX8_check 66 = .ok (.irem, 1) := by decide +kernel
theorem dX8_check_67 : decode cX8_check 67 = .ok (.istore_n 3, 1) := by decide +kernel
theorem dX8_check_68 : decode cX8_check 68 = .ok (.iinc 4 1, 3) := by decide +kernel
theorem dX8_check_71 : decode cX8_check 71 = .ok (.goto (-30), 3) := by decide +kernel
theorem dX8_check_74 : decode cX8_check 74 = .ok (.iload_n 3, 1) := by decide +kernel
theorem dX8_check_75 : decode cX8_check 75 = .ok (.ireturn, 1) := by decide +kernel
theorem dX8_inverse_0 : decode cX8_inverse 0 = .ok (.iconst 1, 1) := by decide +kernel
theorem dX8_inverse_1 : decode cX8_inverse 1 = .ok (.istore_n 1, 1) := by decide +kernel
theorem dX8_inverse_2 : decode cX8_inverse 2 = .ok (.iload_n 1, 1) := by decide +kernel
theorem dX8_inverse_3 : decode cX8_inverse 3 = .ok (.sipush 1019, 3) := by decide +kernel
theorem dX8_inverse_6 : decode cX8_inverse 6 = .ok (.if_icmp .ge 32, 3) := by decide +kernel
theorem dX8_inverse_9 : decode cX8_inverse 9 = .ok (.iload_n 0, 1) := by decide +kernel
theorem dX8_inverse_10 : decode cX8_inverse 10 = .ok (.sipush 1019, 3) := by decide +kernel
theorem dX8_inverse_13 : decode cX8_inverse 13 = .ok (.irem, 1) := by decide +kernel
theorem dX8_inverse_14 : decode cX8_inverse 14 = .ok (.sipush 1019, 3) := by decide +kernel
theorem dX8_inverse_17 : decode cX8_inverse 17 = .ok (.iadd, 1) := by decide +kernel
theorem dX8_inverse_18 : decode cX8_inverse 18 = .ok (.sipush 1019, 3) := by decide +kernel
theorem dX8_inverse_21 : decode cX8_inverse 21 = .ok (.irem, 1) := by decide +kernel
theorem dX8_inverse_22 : decode cX8_inverse 22 = .ok (.iload_n 1, 1) := by decide +kernel
theorem dX8_inverse_23 : decode cX8_inverse 23 = .ok (.imul, 1) := by decide +kernel
theorem dX8_inverse_24 : decode cX8_inverse 24 = .ok (.sipush 1019, 3) := by decide +kernel
theorem dX8_inverse_27 : decode cX8_inverse 27 = .ok (.irem, 1) := by decide +kernel
theorem dX8_inverse_28 : decode cX8_inverse 28 = .ok (.iconst 1, 1) := by decide +kernel
theorem dX8_inverse_29 : decode cX8_inverse 29 = .ok (.if_icmp .eq 9, 3) := by decide +kernel
theorem dX8_inverse_32 : decode cX8_inverse 32 = .ok (.iinc 1 1, 3) := by decide +kernel
theorem dX8_inverse_35 : decode cX8_inverse 35 = .ok (.goto (-33), 3) := by decide +kernel
theorem dX8_inverse_38 : decode cX8_inverse 38 = .ok (.iload_n 1, 1) := by decide +kernel
theorem dX8_inverse_39 : decode cX8_inverse 39 = .ok (.ireturn, 1) := by decide +kernel
theorem dX8_recover_0 : decode cX8_recover 0 = .ok (.aload_n 0, 1) := by decide +kernel
theorem dX8_recover_1 : decode cX8_recover 1 = .ok (.iload_n 1, 1) := by decide +kernel
theorem dX8_recover_2 : decode cX8_recover 2 = .ok (.invokevirtual 39, 3) := by decide +kernel
theorem dX8_recover_5 : decode cX8_recover 5 = .ok (.ifCond .eq 14, 3) := by decide +kernel
theorem dX8_recover_8 : decode cX8_recover 8 = .ok (.iload_n 2, 1) := by decide +kernel
theorem dX8_recover_9 : decode cX8_recover 9 = .ok (.iconst 0, 1) := by decide +kernel
theorem dX8_recover_10 : decode cX8_recover 10 = .ok (.sipush 255, 3) := by decide +kernel
theorem dX8_recover_13 : decode cX8_recover 13 = .ok (.invokestatic 31, 3) := by decide +kernel
theorem dX8_recover_16 : decode cX8_recover 16 = .ok (.ifCond .ne 5, 3) := by decide +kernel
theorem dX8_recover_19 : decode cX8_recover 19 = .ok (.iconst (-1), 1) := by decide +kernel
theorem dX8_recover_20 : decode cX8_recover 20 = .ok (.ireturn, 1) := by decide +kernel
theorem dX8_recover_21 : decode cX8_recover 21 = .ok (.iload_n 2, 1) := by decide +kernel
theorem dX8_recover_22 : decode cX8_recover 22 = .ok (.aload_n 0, 1) := by decide +kernel
theorem dX8_recover_23 : decode cX8_recover 23 = .ok (.iconst 5, 1) := by decide +kernel
theorem dX8_recover_24 : decode cX8_recover 24 = .ok (.invokevirtual 121, 3) := by decide +kernel
theorem dX8_recover_27 : decode cX8_recover 27 = .ok (.iand, 1) := by decide +kernel
theorem dX8_recover_28 : decode cX8_recover 28 = .ok (.istore_n 3, 1) := by decide +kernel
theorem dX8_recover_29 : decode cX8_recover 29 = .ok (.aload_n 0, 1) := by decide +kernel
theorem dX8_recover_30 : decode cX8_recover 30 = .ok (.iload_n 1, 1) := by decide +kernel
theorem dX8_recover_31 : decode cX8_recover 31 = .ok (.invokevirtual 100, 3) := by decide +kernel
theorem dX8_recover_34 : decode cX8_recover 34 = .ok (.ifCond .eq 17, 3) := by decide +kernel
theorem dX8_recover_37 : decode cX8_recover 37 = .ok (.iload_n 3, 1) := by decide +kernel
theorem dX8_recover_38 : decode cX8_recover 38 = .ok (.invokestatic 124, 3) := by decide +kernel
theorem dX8_recover_41 : decode cX8_recover 41 = .ok (.aload_n 0, 1) := by decide +kernel
theorem dX8_recover_42 : decode cX8_recover 42 = .ok (.getfield 7, 3) := by decide +kernel
theorem dX8_recover_45 : decode cX8_recover 45 = .ok (.bipush 6, 2) := by decide +kernel
theorem dX8_recover_47 : decode cX8_recover 47 = .ok (.iaload, 1) := by decide +kernel
theorem dX8_recover_48 : decode cX8_recover 48 = .ok (.if_icmp .ge 6, 3) := by decide +kernel
theorem dX8_recover_51 : decode cX8_recover 51 = .ok (.bipush (-9), 2) := by decide +kernel
theorem dX8_recover_53 : decode cX8_recover 53 = .ok (.ireturn, 1) := by decide +kernel
theorem dX8_recover_54 : decode cX8_recover 54 = .ok (.iload_n 3, 1) := by decide +kernel
theorem dX8_recover_55 : decode cX8_recover 55 = .ok (.invokestatic 124, 3) := by decide +kernel
theorem dX8_recover_58 : decode cX8_recover 58 = .ok (.aload_n 0, 1) := by decide +kernel
theorem dX8_recover_59 : decode cX8_recover 59 = .ok (.getfield 7, 3) := by decide +kernel
theorem dX8_recover_62 : decode cX8_recover 62 = .ok (.bipush 6, 2) := by decide +kernel
theorem dX8_recover_64 : decode cX8_recover 64 = .ok (.iaload, 1) := by decide +kernel
theorem dX8_recover_65 : decode cX8_recover 65 = .ok (.if_icmp .le 34, 3) := by decide +kernel
theorem dX8_recover_68 : decode cX8_recover 68 = .ok (.bipush 7, 2) := by decide +kernel
theorem dX8_recover_70 : decode cX8_recover 70 = .ok (.istore 4, 2) := by decide +kernel
theorem dX8_recover_72 : decode cX8_recover 72 = .ok (.iload_n 3, 1) := by decide +kernel
theorem dX8_recover_73 : decode cX8_recover 73 = .ok (.iload 4, 2) := by decide +kernel
theorem dX8_recover_75 : decode cX8_recover 75 = .ok (.ishr, 1) := by decide +kernel
theorem dX8_recover_76 : decode cX8_recover 76 = .ok (.iconst 1, 1) := by decide +kernel
theorem dX8_recover_77 : decode cX8_recover 77 = .ok (.iand, 1) := by decide +kernel
theorem dX8_recover_78 : decode cX8_recover 78 = .ok (.ifCond .ne 9, 3) := by decide +kernel
theorem dX8_recover_81 : decode cX8_recover 81 = .ok (.iinc 4 (-1), 3) := by decide +kernel
theorem dX8_recover_84 : decode cX8_recover 84 = .ok (.goto (-12), 3) := by decide +kernel
theorem dX8_recover_87 : decode cX8_recover 87 = .ok (.iload_n 3, 1) := by decide +kernel
theorem dX8_recover_88 : decode cX8_recover 88 = .ok (.iconst 1, 1) := by decide +kernel
theorem dX8_recover_89 : decode cX8_recover 89 = .ok (.iload 4, 2) := by decide +kernel
theorem dX8_recover_91 : decode cX8_recover 91 = .ok (.ishl, 1) := by decide +kernel
theorem dX8_recover_92 : decode cX8_recover 92 = .ok (.iconst (-1), 1) := by decide +kernel
theorem dX8_recover_93 : decode cX8_recover 93 = .ok (.ixor, 1) := by decide +kernel
theorem dX8_recover_94 : decode cX8_recover 94 = .ok (.iand, 1) := by decide +kernel
theorem dX8_recover_95 : decode cX8_recover 95 = .ok (.istore_n 3, 1) := by decide +kernel
theorem dX8_recover_96 : decode cX8_recover 96 = .ok (.goto (-42), 3) := by decide +kernel
theorem dX8_recover_99 : decode cX8_recover 99 = .ok (.iconst 0, 1) := by decide +kernel
theorem dX8_recover_100 : decode cX8_recover 100 = .ok (.istore 4, 2) := by decide +kernel
theorem dX8_recover_102 : decode cX8_recover 102 = .ok (.iconst 0, 1) := by decide +kernel
theorem dX8_recover_103 : decode cX8_recover 103 = .ok (.istore 5, 2) := by decide +kernel
theorem dX8_recover_105 : decode cX8_recover 105 = .ok (.iload 5, 2) := by decide +kernel
theorem dX8_recover_107 : decode cX8_recover 107 = .ok (.bipush 8, 2) := by decide +kernel
theorem dX8_recover_109 : decode cX8_recover 109 = .ok (.if_icmp .ge 102, 3) := by decide +kernel
theorem dX8_recover_112 : decode cX8_recover 112 = .ok (.iload_n 3, 1) := by decide +kernel
theorem dX8_recover_113 : decode cX8_recover 113 = .ok (.iload 5, 2) := by decide +kernel
theorem dX8_recover_115 : decode cX8_recover 115 = .ok (.ishr, 1) := by decide +kernel
theorem dX8_recover_116 : decode cX8_recover 116 = .ok (.iconst 1, 1) := by decide +kernel
theorem dX8_recover_117 : decode cX8_recover 117 = .ok (.iand, 1) := by decide +kernel
theorem dX8_recover_118 : decode cX8_recover 118 = .ok (.iconst 1, 1) := by decide +kernel
theorem dX8_recover_119 : decode cX8_recover 119 = .ok (.if_icmp .ne 13, 3) := by decide +kernel
theorem dX8_recover_122 : decode cX8_recover 122 = .ok (.aload_n 0, 1) := by decide +kernel
theorem dX8_recover_123 : decode cX8_recover 123 = .ok (.iload_n 1, 1) := by decide +kernel
theorem dX8_recover_124 : decode cX8_recover 124 = .ok (.iload 5, 2) := by decide +kernel
theorem dX8_recover_126 : decode cX8_recover 126 = .ok (.invokevirtual 103, 3) := by decide +kernel
theorem dX8_recover_129 : decode cX8_recover 129 = .ok (.goto 4, 3) := by decide +kernel
theorem dX8_recover_132 : decode cX8_recover 132 = .ok (.iconst 0, 1) := by decide +kernel
theorem dX8_recover_133 : decode cX8_recover 133 = .ok (.istore 6, 2) := by decide +kernel
theorem dX8_recover_135 : decode cX8_recover 135 = .ok (.iconst 0, 1) := by decide +kernel
theorem dX8_recover_136 : decode cX8_recover 136 = .ok (.istore 7, 2) := by decide +kernel
theorem dX8_recover_138 : decode cX8_recover 138 = .ok (.iload 7, 2) := by decide +kernel
theorem dX8_recover_140 : decode cX8_recover 140 = .ok (.bipush 8, 2) := by decide +kernel
theorem dX8_recover_142 : decode cX8_recover 142 = .ok (.if_icmp .ge 52, 3) := by decide +kernel
theorem dX8_recover_145 : decode cX8_recover 145 = .ok (.iload 7, 2) := by decide +kernel
theorem dX8_recover_147 : decode cX8_recover 147 = .ok (.iload 5, 2) := by decide +kernel
theorem dX8_recover_149 : decode cX8_recover 149 = .ok (.if_icmp .eq 39, 3) := by decide +kernel
theorem dX8_recover_152 : decode cX8_recover 152 = .ok (.iload_n 3, 1) := by decide +kernel
theorem dX8_recover_153 : decode cX8_recover 153 = .ok (.iload 7, 2) := by decide +kernel
theorem dX8_recover_155 : decode cX8_recover 155 = .ok (.ishr, 1) := by decide +kernel
theorem dX8_recover_156 : decode cX8_recover 156 = .ok (.iconst 1, 1) := by decide +kernel
theorem dX8_recover_157 : decode cX8_recover 157 = .ok (.iand, 1) := by decide +kernel
theorem dX8_recover_158 : decode cX8_recover 158 = .ok (.iconst 1, 1) := by decide +kernel
theorem dX8_recover_159 : decode cX8_recover 159 = .ok (.if_icmp .ne 29, 3) := by decide +kernel
theorem dX8_recover_162 : decode cX8_recover 162 = .ok (.iload 6, 2) := by decide +kernel
theorem dX8_recover_164 : decode cX8_recover 164 = .ok (.iload 7, 2) := by decide +kernel
theorem dX8_recover_166 : decode cX8_recover 166 = .ok (.iconst 1, 1) := by decide +kernel
theorem dX8_recover_167 : decode cX8_recover 167 = .ok (.iadd, 1) := by decide +kernel
theorem dX8_recover_168 : decode cX8_recover 168 = .ok (.imul, 1) := by decide +kernel
theorem dX8_recover_169 : decode cX8_recover 169 = .ok (.sipush 1019, 3) := by decide +kernel
theorem dX8_recover_172 : decode cX8_recover 172 = .ok (.irem, 1) := by decide +kernel
theorem dX8_recover_173 : decode cX8_recover 173 = .ok (.iload 7, 2) := by decide +kernel
theorem dX8_recover_175 : decode cX8_recover 175 = .ok (.iload 5, 2) := by decide +kernel
theorem dX8_recover_177 : decode cX8_recover 177 = .ok (.isub, 1) := by decide +kernel
theorem dX8_recover_178 : decode cX8_recover 178 = .ok (.invokestatic 171, 3) := by decide +kernel
theorem dX8_recover_181 : decode cX8_recover 181 = .ok (.imul, 1) := by decide +kernel
theorem dX8_recover_182 : decode cX8_recover 182 = .ok (.sipush 1019, 3) := by decide +kernel
theorem dX8_recover_185 : decode cX8_recover 185 = .ok (.irem, 1) := by decide +kernel
theorem dX8_recover_186 : decode cX8_recover 186 = .ok (.istore 6, 2) := by decide +kernel
theorem dX8_recover_188 : decode cX8_recover 188 = .ok (.iinc 7 1, 3) := by decide +kernel
theorem dX8_recover_191 : decode cX8_recover 191 = .ok (.goto (-53), 3) := by decide +kernel
theorem dX8_recover_194 : decode cX8_recover 194 = .ok (.iload 4, 2) := by decide +kernel
theorem dX8_recover_196 : decode cX8_recover 196 = .ok (.iload 6, 2) := by decide +kernel
theorem dX8_recover_198 : decode cX8_recover 198 = .ok (.iadd, 1) := by decide +kernel
theorem dX8_recover_199 : decode cX8_recover 199 = .ok (.sipush 1019, 3) := by decide +kernel
theorem dX8_recover_202 : decode cX8_recover 202 = .ok (.irem, 1) := by decide +kernel
theorem dX8_recover_203 : decode cX8_recover 203 = .ok (.istore 4, 2) := by decide +kernel
theorem dX8_recover_205 : decode cX8_recover 205 = .ok (.iinc 5 1, 3) := by decide +kernel
theorem dX8_recover_208 : decode cX8_recover 208 = .ok (.goto (-103), 3) := by decide +kernel
theorem dX8_recover_211 : decode cX8_recover 211 = .ok (.iload 4, 2) := by decide +kernel
theorem dX8_recover_213 : decode cX8_recover 213 = .ok (.ireturn, 1) := by decide +kernel
theorem dX8_lock_0 : decode cX8_lock 0 = .ok (.aload_n 0, 1) := by decide +kernel
theorem dX8_lock_1 : decode cX8_lock 1 = .ok (.iload_n 1, 1) := by decide +kernel
theorem dX8_lock_2 : decode cX8_lock 2 = .ok (.invokevirtual 39, 3) := by decide +kernel
theorem dX8_lock_5 : decode cX8_lock 5 = .ok (.ifCond .eq 12, 3) := by decide +kernel
theorem dX8_lock_8 : decode cX8_lock 8 = .ok (.iload_n 2, 1) := by decide +kernel
theorem dX8_lock_9 : decode cX8_lock 9 = .ok (.iconst 0, 1) := by decide +kernel
theorem dX8_lock_10 : decode cX8_lock 10 = .ok (.iconst 1, 1) := by decide +kernel
theorem dX8_lock_11 : decode cX8_lock 11 = .ok (.invokestatic 31, 3) := by decide +kernel
theorem dX8_lock_14 : decode cX8_lock 14 = .ok (.ifCond .ne 5, 3) := by decide +kernel
theorem dX8_lock_17 : decode cX8_lock 17 = .ok (.iconst (-1), 1) := by decide +kernel
theorem dX8_lock_18 : decode cX8_lock 18 = .ok (.ireturn, 1) := by decide +kernel
theorem dX8_lock_19 : decode cX8_lock 19 = .ok (.aload_n 0, 1) := by decide +kernel
theorem dX8_lock_20 : decode cX8_lock 20 = .ok (.getfield 7, 3) := by decide +kernel
theorem dX8_lock_23 : decode cX8_lock 23 = .ok (.iconst 5, 1) := by decide +kernel
theorem dX8_lock_24 : decode cX8_lock 24 = .ok (.iaload, 1) := by decide +kernel
theorem dX8_lock_25 : decode cX8_lock 25 = .ok (.iconst 2, 1) := by decide +kernel
theorem dX8_lock_26 : decode cX8_lock 26 = .ok (.if_icmp .ne 35, 3) := by decide +kernel
theorem dX8_lock_29 : decode cX8_lock 29 = .ok (.aload_n 0, 1) := by decide +kernel
theorem dX8_lock_30 : decode cX8_lock 30 = .ok (.iload_n 1, 1) := by decide +kernel
theorem dX8_lock_31 : decode cX8_lock 31 = .ok (.invokevirtual 168, 3) := by decide +kernel
theorem dX8_lock_34 : decode cX8_lock 34 = .ok (.ifCond .eq 27, 3) := by decide +kernel
theorem dX8_lock_37 : decode cX8_lock 37 = .ok (.aload_n 0, 1) := by decide +kernel
theorem dX8_lock_38 : decode cX8_lock 38 = .ok (.getfield 7, 3) := by decide +kernel
theorem dX8_lock_41 : decode cX8_lock 41 = .ok (.iload_n 1, 1) := by decide +kernel
theorem dX8_lock_42 : decode cX8_lock 42 = .ok (.invokestatic 35, 3) := by decide +kernel
theorem dX8_lock_45 : decode cX8_lock 45 = .ok (.iload_n 2, 1) := by decide +kernel
theorem dX8_lock_46 : decode cX8_lock 46 = .ok (.ifCond .ne 8, 3) := by decide +kernel
theorem dX8_lock_49 : decode cX8_lock 49 = .ok (.bipush 12, 2) := by decide +kernel
theorem dX8_lock_51 : decode cX8_lock 51 = .ok (.goto 5, 3) := by decide +kernel
theorem dX8_lock_54 : decode cX8_lock 54 = .ok (.bipush 13, 2) := by decide +kernel
theorem dX8_lock_56 : decode cX8_lock 56 = .ok (.iadd, 1) := by decide +kernel
theorem dX8_lock_57 : decode cX8_lock 57 = .ok (.iaload, 1) := by decide +kernel
theorem dX8_lock_58 : decode cX8_lock 58 = .ok (.goto 5, 3) := by decide +kernel
theorem dX8_lock_61 : decode cX8_lock 61 = .ok (.bipush (-9), 2) := by decide +kernel
theorem dX8_lock_63 : decode cX8_lock 63 = .ok (.ireturn, 1) := by decide +kernel
theorem dX8_mayJoin_0 : decode cX8_mayJoin 0 = .ok (.aload_n 0, 1) := by decide +kernel
theorem dX8_mayJoin_1 : decode cX8_mayJoin 1 = .ok (.iconst 5, 1) := by decide +kernel
theorem dX8_mayJoin_2 : decode cX8_mayJoin 2 = .ok (.invokevirtual 121, 3) := by decide +kernel
theorem dX8_mayJoin_5 : decode cX8_mayJoin 5 = .ok (.aload_n 0, 1) := by decide +kernel
theorem dX8_mayJoin_6 : decode cX8_mayJoin 6 = .ok (.bipush 7, 2) := by decide +kernel
theorem dX8_mayJoin_8 : decode cX8_mayJoin 8 = .ok (.invokevirtual 121, 3) := by decide +kernel
theorem dX8_mayJoin_11 : decode cX8_mayJoin 11 = .ok (.iconst (-1), 1) := by decide +kernel
theorem dX8_mayJoin_12 : decode cX8_mayJoin 12 = .ok (.ixor, 1) := by decide +kernel
theorem dX8_mayJoin_13 : decode cX8_mayJoin 13 = .ok (.iand, 1) := by decide +kernel
theorem dX8_mayJoin_14 : decode cX8_mayJoin 14 = .ok (.istore_n 2, 1) := by decide +kernel
theorem dX8_mayJoin_15 : decode cX8_mayJoin 15 = .ok (.aload_n 0, 1) := by decide +kernel
theorem dX8_mayJoin_16 : decode cX8_mayJoin 16 = .ok (.getfield 7, 3) := by decide +kernel
theorem dX8_mayJoin_19 : decode cX8_mayJoin 19 = .ok (.iconst 0, 1) := by decide +kernel
theorem dX8_mayJoin_20 : decode cX8_mayJoin 20 = .ok (.iaload, 1) := by decide +kernel
theorem dX8_mayJoin_21 : decode cX8_mayJoin 21 = .ok (.iconst 2, 1) := by decide +kernel
theorem dX8_mayJoin_22 : decode cX8_mayJoin 22 = .ok (.if_icmp .ne 15, 3) := by decide +kernel
theorem dX8_mayJoin_25 : decode cX8_mayJoin 25 = .ok (.iload_n 1, 1) := by decide +kernel
theorem dX8_mayJoin_26 : decode cX8_mayJoin 26 = .ok (.iload_n 2, 1) := by decide +kernel
theorem dX8_mayJoin_27 : decode cX8_mayJoin 27 = .ok (.iconst (-1), 1) := by decide +kernel
theorem dX8_mayJoin_28 : decode cX8_mayJoin 28 = .ok (.ixor, 1) := by decide +kernel
theorem dX8_mayJoin_29 : decode cX8_mayJoin 29 = .ok (.iand, 1) := by decide +kernel
theorem dX8_mayJoin_30 : decode cX8_mayJoin 30 = .ok (.ifCond .ne 7, 3) := by decide +kernel
theorem dX8_mayJoin_33 : decode cX8_mayJoin 33 = .ok (.iconst 1, 1) := by decide +kernel
theorem dX8_mayJoin_34 : decode cX8_mayJoin 34 = .ok (.goto 4, 3) := by decide +kernel
theorem dX8_mayJoin_37 : decode cX8_mayJoin 37 = .ok (.iconst 0, 1) := by decide +kernel
theorem dX8_mayJoin_38 : decode cX8_mayJoin 38 = .ok (.ireturn, 1) := by decide +kernel
theorem dX8_results_0 : decode cX8_results 0 = .ok (.iload_n 1, 1) := by decide +kernel
theorem dX8_results_1 : decode cX8_results 1 = .ok (.iconst 0, 1) := by decide +kernel
theorem dX8_results_2 : decode cX8_results 2 = .ok (.sipush 255, 3) := by decide +kernel
theorem dX8_results_5 : decode cX8_results 5 = .ok (.invokestatic 31, 3) := by decide +kernel
theorem dX8_results_8 : decode cX8_results 8 = .ok (.ifCond .ne 5, 3) := by decide +kernel
theorem dX8_results_11 : decode cX8_results 11 = .ok (.iconst (-1), 1) := by decide +kernel
theorem dX8_results_12 : decode cX8_results 12 = .ok (.ireturn, 1) := by decide +kernel
theorem dX8_results_13 : decode cX8_results 13 = .ok (.aload_n 0, 1) := by decide +kernel
theorem dX8_results_14 : decode cX8_results 14 = .ok (.iload_n 1, 1) := by decide +kernel
theorem dX8_results_15 : decode cX8_results 15 = .ok (.invokevirtual 174, 3) := by decide +kernel
theorem dX8_results_18 : decode cX8_results 18 = .ok (.ifCond .ne 6, 3) := by decide +kernel
theorem dX8_results_21 : decode cX8_results 21 = .ok (.bipush (-2), 2) := by decide +kernel
theorem dX8_results_23 : decode cX8_results 23 = .ok (.ireturn, 1) := by decide +kernel
theorem dX8_results_24 : decode cX8_results 24 = .ok (.aload_n 0, 1) := by decide +kernel
theorem dX8_results_25 : decode cX8_results 25 = .ok (.invokevirtual 141, 3) := by decide +kernel
theorem dX8_results_28 : decode cX8_results 28 = .ok (.aload_n 0, 1) := by decide +kernel
theorem dX8_results_29 : decode cX8_results 29 = .ok (.iconst 5, 1) := by decide +kernel
theorem dX8_results_30 : decode cX8_results 30 = .ok (.invokevirtual 121, 3) := by decide +kernel
theorem dX8_results_33 : decode cX8_results 33 = .ok (.istore_n 2, 1) := by decide +kernel
theorem dX8_results_34 : decode cX8_results 34 = .ok (.iconst 0, 1) := by decide +kernel
theorem dX8_results_35 : decode cX8_results 35 = .ok (.istore_n 3, 1) := by decide +kernel
theorem dX8_results_36 : decode cX8_results 36 = .ok (.iconst 0, 1) := by decide +kernel
theorem dX8_results_37 : decode cX8_results 37 = .ok (.istore 4, 2) := by decide +kernel
theorem dX8_results_39 : decode cX8_results 39 = .ok (.iconst 0, 1) := by decide +kernel
theorem dX8_results_40 : decode cX8_results 40 = .ok (.istore 5, 2) := by decide +kernel
theorem dX8_results_42 : decode cX8_results 42 = .ok (.iload 5, 2) := by decide +kernel
theorem dX8_results_44 : decode cX8_results 44 = .ok (.sipush 256, 3) := by decide +kernel
theorem dX8_results_47 : decode cX8_results 47 = .ok (.if_icmp .ge 116, 3) := by decide +kernel
theorem dX8_results_50 : decode cX8_results 50 = .ok (.iload 5, 2) := by decide +kernel
theorem dX8_results_52 : decode cX8_results 52 = .ok (.iload_n 1, 1) := by decide +kernel
theorem dX8_results_53 : decode cX8_results 53 = .ok (.iconst (-1), 1) := by decide +kernel
theorem dX8_results_54 : decode cX8_results 54 = .ok (.ixor, 1) := by decide +kernel
theorem dX8_results_55 : decode cX8_results 55 = .ok (.iand, 1) := by decide +kernel
theorem dX8_results_56 : decode cX8_results 56 = .ok (.ifCond .ne 101, 3) := by decide +kernel
theorem dX8_results_59 : decode cX8_results 59 = .ok (.aload_n 0, 1) := by decide +kernel
theorem dX8_results_60 : decode cX8_results 60 = .ok (.iload_n 2, 1) := by decide +kernel
theorem dX8_results_61 : decode cX8_results 61 = .ok (.iload_n 1, 1) := by decide +kernel
theorem dX8_results_62 : decode cX8_results 62 = .ok (.iconst (-1), 1) := by decide +kernel
theorem dX8_results_63 : decode cX8_results 63 = .ok (.ixor, 1) := by decide +kernel
theorem dX8_results_64 : decode cX8_results 64 = .ok (.iand, 1) := by decide +kernel
theorem dX8_results_65 : decode cX8_results 65 = .ok (.iload 5, 2) := by decide +kernel
theorem dX8_results_67 : decode cX8_results 67 = .ok (.ior, 1) := by decide +kernel
theorem dX8_results_68 : decode cX8_results 68 = .ok (.invokevirtual 144, 3) := by decide +kernel
theorem dX8_results_71 : decode cX8_results 71 = .ok (.istore 6, 2) := by decide +kernel
theorem dX8_results_73 : decode cX8_results 73 = .ok (.aload_n 0, 1) := by decide +kernel
theorem dX8_results_74 : decode cX8_results 74 = .ok (.getfield 134, 3) := by decide +kernel
theorem dX8_results_77 : decode cX8_results 77 = .ok (.ifCond .ne 7, 3) := by decide +kernel
theorem dX8_results_80 : decode cX8_results 80 = .ok (.iconst 1, 1) := by decide +kernel
theorem dX8_results_81 : decode cX8_results 81 = .ok (.goto 4, 3) := by decide +kernel
theorem dX8_results_84 : decode cX8_results 84 = .ok (.iconst 0, 1) := by decide +kernel
theorem dX8_results_85 : decode cX8_results 85 = .ok (.istore 7, 2) := by decide +kernel
theorem dX8_results_87 : decode cX8_results 87 = .ok (.aload_n 0, 1) := by decide +kernel
theorem dX8_results_88 : decode cX8_results 88 = .ok (.getfield 134, 3) := by decide +kernel
theorem dX8_results_91 : decode cX8_results 91 = .ok (.ifCond .eq 7, 3) := by decide +kernel
theorem dX8_results_94 : decode cX8_results 94 = .ok (.iconst 1, 1) := by decide +kernel
theorem dX8_results_95 : decode cX8_results 95 = .ok (.goto 5, 3) := by decide +kernel
theorem dX8_results_98 : decode cX8_results 98 = .ok (.iload 4, 2) := by decide +kernel
theorem dX8_results_100 : decode cX8_results 100 = .ok (.istore 4, 2) := by decide +kernel
theorem dX8_results_102 : decode cX8_results 102 = .ok (.iconst 0, 1) := by decide +kernel
theorem dX8_results_103 : decode cX8_results 103 = .ok (.istore 8, 2) := by decide +kernel
theorem dX8_results_105 : decode cX8_results 105 = .ok (.iload 8, 2) := by decide +kernel
theorem dX8_results_107 : decode cX8_results 107 = .ok (.iload_n 3, 1) := by decide +kernel
theorem dX8_results_108 : decode cX8_results 108 = .ok (.if_icmp .ge 33, 3) := by decide +kernel
theorem dX8_results_111 : decode cX8_results 111 = .ok (.iload 7, 2) := by decide +kernel
theorem dX8_results_113 : decode cX8_results 113 = .ok (.ifCond .eq 28, 3) := by decide +kernel
theorem dX8_results_116 : decode cX8_results 116 = .ok (.aload_n 0, 1) := by decide +kernel
theorem dX8_results_117 : decode cX8_results 117 = .ok (.getfield 19, 3) := by decide +kernel
theorem dX8_results_120 : decode cX8_results 120 = .ok (.iload 8, 2) := by decide +kernel
theorem dX8_results_122 : decode cX8_results 122 = .ok (.iaload, 1) := by decide +kernel
theorem dX8_results_123 : decode cX8_results 123 = .ok (.iload 6, 2) := by decide +kernel
theorem dX8_results_125 : decode cX8_results 125 = .ok (.if_icmp .eq 7, 3) := by decide +kernel
theorem dX8_results_128 : decode cX8_results 128 = .ok (.iconst 1, 1) := by decide +kernel
theorem dX8_results_129 : decode cX8_results 129 = .ok (.goto 4, 3) := by decide +kernel
theorem dX8_results_132 : decode cX8_results 132 = .ok (.iconst 0, 1) := by decide +kernel
theorem dX8_results_133 : decode cX8_results 133 = .ok (.istore 7, 2) := by decide +kernel
theorem dX8_results_135 : decode cX8_results 135 = .ok (.iinc 8 1, 3) := by decide +kernel
theorem dX8_results_138 : decode cX8_results 138 = .ok (.goto (-33), 3) := by decide +kernel
theorem dX8_results_141 : decode cX8_results 141 = .ok (.iload 7, 2) := by decide +kernel
theorem dX8_results_143 : decode cX8_results 143 = .ok (.ifCond .eq 14, 3) := by decide +kernel
theorem dX8_results_146 : decode cX8_results 146 = .ok (.aload_n 0, 1) := by decide +kernel
theorem dX8_results_147 : decode cX8_results 147 = .ok (.getfield 19, 3) := by decide +kernel
theorem dX8_results_150 : decode cX8_results 150 = .ok (.iload_n 3, 1) := by decide +kernel
theorem dX8_results_151 : decode cX8_results 151 = .ok (.iload 6, 2) := by decide +kernel
theorem dX8_results_153 : decode cX8_results 153 = .ok (.iastore, 1) := by decide +kernel
theorem dX8_results_154 : decode cX8_results 154 = .ok (.iinc 3 1, 3) := by decide +kernel
theorem dX8_results_157 : decode cX8_results 157 = .ok (.iinc 5 1, 3) := by decide +kernel
theorem dX8_results_160 : decode cX8_results 160 = .ok (.goto (-118), 3) := by decide +kernel
theorem dX8_results_163 : decode cX8_results 163 = .ok (.iload_n 3, 1) := by decide +kernel
theorem dX8_results_164 : decode cX8_results 164 = .ok (.iload 4, 2) := by decide +kernel
theorem dX8_results_166 : decode cX8_results 166 = .ok (.iadd, 1) := by decide +kernel
theorem dX8_results_167 : decode cX8_results 167 = .ok (.ireturn, 1) := by decide +kernel
theorem dX8_forces_0 : decode cX8_forces 0 = .ok (.aload_n 0, 1) := by decide +kernel
theorem dX8_forces_1 : decode cX8_forces 1 = .ok (.iconst 5, 1) := by decide +kernel
theorem dX8_forces_2 : decode cX8_forces 2 = .ok (.invokevirtual 121, 3) := by decide +kernel
theorem dX8_forces_5 : decode cX8_forces 5 = .ok (.iload_n 1, 1) := by decide +kernel
theorem dX8_forces_6 : decode cX8_forces 6 = .ok (.iconst (-1), 1) := by decide +kernel
theorem dX8_forces_7 : decode cX8_forces 7 = .ok (.ixor, 1) := by decide +kernel
theorem dX8_forces_8 : decode cX8_forces 8 = .ok (.iand, 1) := by decide +kernel
theorem dX8_forces_9 : decode cX8_forces 9 = .ok (.istore_n 3, 1) := by decide +kernel
theorem dX8_forces_10 : decode cX8_forces 10 = .ok (.iconst 0, 1) := by decide +kernel
theorem dX8_forces_11 : decode cX8_forces 11 = .ok (.istore 4, 2) := by decide +kernel
theorem dX8_forces_13 : decode cX8_forces 13 = .ok (.iload 4, 2) := by decide +kernel
theorem dX8_forces_15 : decode cX8_forces 15 = .ok (.sipush 256, 3) := by decide +kernel
theorem dX8_forces_18 : decode cX8_forces 18 = .ok (.if_icmp .ge 45, 3) := by decide +kernel
theorem dX8_forces_21 : decode cX8_forces 21 = .ok (.iload 4, 2) := by decide +kernel
theorem dX8_forces_23 : decode cX8_forces 23 = .ok (.iload_n 1, 1) := by decide +kernel
theorem dX8_forces_24 : decode cX8_forces 24 = .ok (.iconst (-1), 1) := by decide +kernel
theorem dX8_forces_25 : decode cX8_forces 25 = .ok (.ixor, 1) := by decide +kernel
theorem dX8_forces_26 : decode cX8_forces 26 = .ok (.iand, 1) := by decide +kernel
theorem dX8_forces_27 : decode cX8_forces 27 = .ok (.ifCond .ne 30, 3) := by decide +kernel
theorem dX8_forces_30 : decode cX8_forces 30 = .ok (.aload_n 0, 1) := by decide +kernel
theorem dX8_forces_31 : decode cX8_forces 31 = .ok (.iload_n 3, 1) := by decide +kernel
theorem dX8_forces_32 : decode cX8_forces 32 = .ok (.iload 4, 2) := by decide +kernel
theorem dX8_forces_34 : decode cX8_forces 34 = .ok (.ior, 1) := by decide +kernel
theorem dX8_forces_35 : decode cX8_forces 35 = .ok (.invokevirtual 144, 3) := by decide +kernel
theorem dX8_forces_38 : decode cX8_forces 38 = .ok (.istore 5, 2) := by decide +kernel
theorem dX8_forces_40 : decode cX8_forces 40 = .ok (.aload_n 0, 1) := by decide +kernel
theorem dX8_forces_41 : decode cX8_forces 41 = .ok (.getfield 134, 3) := by decide +kernel
theorem dX8_forces_44 : decode cX8_forces 44 = .ok (.ifCond .ne 13, 3) := by decide +kernel
theorem dX8_forces_47 : decode cX8_forces 47 = .ok (.iload 5, 2) := by decide +kernel
theorem dX8_forces_49 : decode cX8_forces 49 = .ok (.iconst 1, 1) := by decide +kernel
theorem dX8_forces_50 : decode cX8_forces 50 = .ok (.iand, 1) := by decide +kernel
theorem dX8_forces_51 : decode cX8_forces 51 = .ok (.iload_n 2, 1) := by decide +kernel
theorem dX8_forces_52 : decode cX8_forces 52 = .ok (.if_icmp .ne 5, 3) := by decide +kernel
theorem dX8_forces_55 : decode cX8_forces 55 = .ok (.iconst 1, 1) := by decide +kernel
theorem dX8_forces_56 : decode cX8_forces 56 = .ok (.ireturn, 1) := by decide +kernel
theorem dX8_forces_57 : decode cX8_forces 57 = .ok (.iinc 4 1, 3) := by decide +kernel
theorem dX8_forces_60 : decode cX8_forces 60 = .ok (.goto (-47), 3) := by decide +kernel
theorem dX8_forces_63 : decode cX8_forces 63 = .ok (.iconst 0, 1) := by decide +kernel
theorem dX8_forces_64 : decode cX8_forces 64 = .ok (.ireturn, 1) := by decide +kernel
theorem dX8_canForce_0 : decode cX8_canForce 0 = .ok (.iload_n 1, 1) := by decide +kernel
theorem dX8_canForce_1 : decode cX8_canForce 1 = .ok (.iconst 0, 1) := by decide +kernel
theorem dX8_canForce_2 : decode cX8_canForce 2 = .ok (.sipush 255, 3) := by decide +kernel
theorem dX8_canForce_5 : decode cX8_canForce 5 = .ok (.invokestatic 31, 3) := by decide +kernel
theorem dX8_canForce_8 : decode cX8_canForce 8 = .ok (.ifCond .eq 12, 3) := by decide +kernel
theorem dX8_canForce_11 : decode cX8_canForce 11 = .ok (.iload_n 2, 1) := by decide +kernel
theorem dX8_canForce_12 : decode cX8_canForce 12 = .ok (.iconst 0, 1) := by decide +kernel
theorem dX8_canForce_13 : decode cX8_canForce 13 = .ok (.iconst 1, 1) := by decide +kernel
theorem dX8_canForce_14 : decode cX8_canForce 14 = .ok (.invokestatic 31, 3) := by decide +kernel
theorem dX8_canForce_17 : decode cX8_canForce 17 = .ok (.ifCond .ne 5, 3) := by decide +kernel
theorem dX8_canForce_20 : decode cX8_canForce 20 = .ok (.iconst (-1), 1) := by decide +kernel
theorem dX8_canForce_21 : decode cX8_canForce 21 = .ok (.ireturn, 1) := by decide +kernel
theorem dX8_canForce_22 : decode cX8_canForce 22 = .ok (.aload_n 0, 1) := by decide +kernel
theorem dX8_canForce_23 : decode cX8_canForce 23 = .ok (.iload_n 1, 1) := by decide +kernel
theorem dX8_canForce_24 : decode cX8_canForce 24 = .ok (.invokevirtual 174, 3) := by decide +kernel
theorem dX8_canForce_27 : decode cX8_canForce 27 = .ok (.ifCond .ne 6, 3) := by decide +kernel
theorem dX8_canForce_30 : decode cX8_canForce 30 = .ok (.bipush (-2), 2) := by decide +kernel
theorem dX8_canForce_32 : decode cX8_canForce 32 = .ok (.ireturn, 1) := by decide +kernel
theorem dX8_canForce_33 : decode cX8_canForce 33 = .ok (.aload_n 0, 1) := by decide +kernel
theorem dX8_canForce_34 : decode cX8_canForce 34 = .ok (.invokevirtual 141, 3) := by decide +kernel
theorem dX8_canForce_37 : decode cX8_canForce 37 = .ok (.aload_n 0, 1) := by decide +kernel
theorem dX8_canForce_38 : decode cX8_canForce 38 = .ok (.iload_n 1, 1) := by decide +kernel
theorem dX8_canForce_39 : decode cX8_canForce 39 = .ok (.iload_n 2, 1) := by decide +kernel
theorem dX8_canForce_40 : decode cX8_canForce 40 = .ok (.invokevirtual 177, 3) := by decide +kernel
theorem dX8_canForce_43 : decode cX8_canForce 43 = .ok (.ifCond .eq 7, 3) := by decide +kernel
theorem dX8_canForce_46 : decode cX8_canForce 46 = .ok (.iconst 1, 1) := by decide +kernel
theorem dX8_canForce_47 : decode cX8_canForce 47 = .ok (.goto 4, 3) := by decide +kernel
theorem dX8_canForce_50 : decode cX8_canForce 50 = .ok (.iconst 0, 1) := by decide +kernel
theorem dX8_canForce_51 : decode cX8_canForce 51 = .ok (.ireturn, 1) := by decide +kernel
theorem dX8_bias_0 : decode cX8_bias 0 = .ok (.iload_n 1, 1) := by decide +kernel
theorem dX8_bias_1 : decode cX8_bias 1 = .ok (.iconst 0, 1) := by decide +kernel
theorem dX8_bias_2 : decode cX8_bias 2 = .ok (.sipush 255, 3) := by decide +kernel
theorem dX8_bias_5 : decode cX8_bias 5 = .ok (.invokestatic 31, 3) := by decide +kernel
theorem dX8_bias_8 : decode cX8_bias 8 = .ok (.ifCond .eq 12, 3) := by decide +kernel
theorem dX8_bias_11 : decode cX8_bias 11 = .ok (.iload_n 2, 1) := by decide +kernel
theorem dX8_bias_12 : decode cX8_bias 12 = .ok (.iconst 1, 1) := by decide +kernel
theorem dX8_bias_13 : decode cX8_bias 13 = .ok (.iconst 4, 1) := by decide +kernel
theorem dX8_bias_14 : decode cX8_bias 14 = .ok (.invokestatic 31, 3) := by decide +kernel
theorem dX8_bias_17 : decode cX8_bias 17 = .ok (.ifCond .ne 5, 3) := by decide +kernel
theorem dX8_bias_20 : decode cX8_bias 20 = .ok (.iconst (-1), 1) := by decide +kernel
theorem dX8_bias_21 : decode cX8_bias 21 = .ok (.ireturn, 1) := by decide +kernel
theorem dX8_bias_22 : decode cX8_bias 22 = .ok (.aload_n 0, 1) := by decide +kernel
theorem dX8_bias_23 : decode cX8_bias 23 = .ok (.iload_n 1, 1) := by decide +kernel
theorem dX8_bias_24 : decode cX8_bias 24 = .ok (.invokevirtual 174, 3) := by decide +kernel
theorem dX8_bias_27 : decode cX8_bias 27 = .ok (.ifCond .ne 6, 3) := by decide +kernel
theorem dX8_bias_30 : decode cX8_bias 30 = .ok (.bipush (-2), 2) := by decide +kernel
theorem dX8_bias_32 : decode cX8_bias 32 = .ok (.ireturn, 1) := by decide +kernel
theorem dX8_bias_33 : decode cX8_bias 33 = .ok (.aload_n 0, 1) := by decide +kernel
theorem dX8_bias_34 : decode cX8_bias 34 = .ok (.iconst 5, 1) := by decide +kernel
theorem dX8_bias_35 : decode cX8_bias 35 = .ok (.invokevirtual 121, 3) := by decide +kernel
theorem dX8_bias_38 : decode cX8_bias 38 = .ok (.iload_n 1, 1) := by decide +kernel
theorem dX8_bias_39 : decode cX8_bias 39 = .ok (.iconst (-1), 1) := by decide +kernel
theorem dX8_bias_40 : decode cX8_bias 40 = .ok (.ixor, 1) := by decide +kernel
theorem dX8_bias_41 : decode cX8_bias 41 = .ok (.iand, 1) := by decide +kernel
theorem dX8_bias_42 : decode cX8_bias 42 = .ok (.istore_n 3, 1) := by decide +kernel
theorem dX8_bias_43 : decode cX8_bias 43 = .ok (.iload_n 2, 1) := by decide +kernel
theorem dX8_bias_44 : decode cX8_bias 44 = .ok (.iload_n 3, 1) := by decide +kernel
theorem dX8_bias_45 : decode cX8_bias 45 = .ok (.invokestatic 124, 3) := by decide +kernel
theorem dX8_bias_48 : decode cX8_bias 48 = .ok (.imul, 1) := by decide +kernel
theorem dX8_bias_49 : decode cX8_bias 49 = .ok (.istore 4, 2) := by decide +kernel
theorem dX8_bias_51 : decode cX8_bias 51 = .ok (.iload 4, 2) := by decide +kernel
theorem dX8_bias_53 : decode cX8_bias 53 = .ok (.bipush 12, 2) := by decide +kernel
theorem dX8_bias_55 : decode cX8_bias 55 = .ok (.if_icmp .le 6, 3) := by decide +kernel
theorem dX8_bias_58 : decode cX8_bias 58 = .ok (.bipush (-3), 2) := by decide +kernel
theorem dX8_bias_60 : decode cX8_bias 60 = .ok (.ireturn, 1) := by decide +kernel
theorem dX8_bias_61 : decode cX8_bias 61 = .ok (.iconst 0, 1) := by decide +kernel
theorem dX8_bias_62 : decode cX8_bias 62 = .ok (.istore 5, 2) := by decide +kernel
theorem dX8_bias_64 : decode cX8_bias 64 = .ok (.iconst 0, 1) := by decide +kernel
theorem dX8_bias_65 : decode cX8_bias 65 = .ok (.istore 6, 2) := by decide +kernel
theorem dX8_bias_67 : decode cX8_bias 67 = .ok (.iload 6, 2) := by decide +kernel
theorem dX8_bias_69 : decode cX8_bias 69 = .ok (.iconst 1, 1) := by decide +kernel
theorem dX8_bias_70 : decode cX8_bias 70 = .ok (.iload 4, 2) := by decide +kernel
theorem dX8_bias_72 : decode cX8_bias 72 = .ok (.ishl, 1) := by decide +kernel
theorem dX8_bias_73 : decode cX8_bias 73 = .ok (.if_icmp .ge 83, 3) := by decide +kernel
theorem dX8_bias_76 : decode cX8_bias 76 = .ok (.aload_n 0, 1) := by decide +kernel
theorem dX8_bias_77 : decode cX8_bias 77 = .ok (.invokevirtual 141, 3) := by decide +kernel
theorem dX8_bias_80 : decode cX8_bias 80 = .ok (.iload 6, 2) := by decide +kernel
theorem dX8_bias_82 : decode cX8_bias 82 = .ok (.istore 7, 2) := by decide +kernel
theorem dX8_bias_84 : decode cX8_bias 84 = .ok (.iconst 0, 1) := by decide +kernel
theorem dX8_bias_85 : decode cX8_bias 85 = .ok (.istore 8, 2) := by decide +kernel
theorem dX8_bias_87 : decode cX8_bias 87 = .ok (.iload 8, 2) := by decide +kernel
theorem dX8_bias_89 : decode cX8_bias 89 = .ok (.bipush 8, 2) := by decide +kernel
theorem dX8_bias_91 : decode cX8_bias 91 = .ok (.if_icmp .ge 40, 3) := by decide +kernel
theorem dX8_bias_94 : decode cX8_bias 94 = .ok (.iload_n 3, 1) := by decide +kernel
theorem dX8_bias_95 : decode cX8_bias 95 = .ok (.iload 8, 2) := by decide +kernel
theorem dX8_bias_97 : decode cX8_bias 97 = .ok (.ishr, 1) := by decide +kernel
theorem dX8_bias_98 : decode cX8_bias 98 = .ok (.iconst 1, 1) := by decide +kernel
theorem dX8_bias_99 : decode cX8_bias 99 = .ok (.iand, 1) := by decide +kernel
theorem dX8_bias_100 : decode cX8_bias 100 = .ok (.iconst 1, 1) := by decide +kernel
theorem dX8_bias_101 : decode cX8_bias 101 = .ok (.if_icmp .ne 24, 3) := by decide +kernel
theorem dX8_bias_104 : decode cX8_bias 104 = .ok (.aload_n 0, 1) := by decide +kernel
theorem dX8_bias_105 : decode cX8_bias 105 = .ok (.getfield 16, 3) := by decide +kernel
theorem dX8_bias_108 : decode cX8_bias 108 = .ok (.iload 8, 2) := by decide +kernel
theorem dX8_bias_110 : decode cX8_bias 110 = .ok (.iload 7, 2) := by decide +kernel
theorem dX8_bias_112 : decode cX8_bias 112 = .ok (.iconst 1, 1) := by decide +kernel
theorem dX8_bias_113 : decode cX8_bias 113 = .ok (.iload_n 2, 1) := by decide +kernel
theorem dX8_bias_114 : decode cX8_bias 114 = .ok (.ishl, 1) := by decide +kernel
theorem dX8_bias_115 : decode cX8_bias 115 = .ok (.iconst 1, 1) := by decide +kernel
theorem dX8_bias_116 : decode cX8_bias 116 = .ok (.isub, 1) := by decide +kernel
theorem dX8_bias_117 : decode cX8_bias 117 = .ok (.iand, 1) := by decide +kernel
theorem dX8_bias_118 : decode cX8_bias 118 = .ok (.iastore, 1) := by decide +kernel
theorem dX8_bias_119 : decode cX8_bias 119 = .ok (.iload 7, 2) := by decide +kernel
theorem dX8_bias_121 : decode cX8_bias 121 = .ok (.iload_n 2, 1) := by decide +kernel
theorem dX8_bias_122 : decode cX8_bias 122 = .ok (.ishr, 1) := by decide +kernel
theorem dX8_bias_123 : decode cX8_bias 123 = .ok (.istore 7, 2) := by decide +kernel
theorem dX8_bias_125 : decode cX8_bias 125 = .ok (.iinc 8 1, 3) := by decide +kernel
theorem dX8_bias_128 : decode cX8_bias 128 = .ok (.goto (-41), 3) := by decide +kernel
theorem dX8_bias_131 : decode cX8_bias 131 = .ok (.iload 5, 2) := by decide +kernel
theorem dX8_bias_133 : decode cX8_bias 133 = .ok (.aload_n 0, 1) := by decide +kernel
theorem dX8_bias_134 : decode cX8_bias 134 = .ok (.iload_n 1, 1) := by decide +kernel
theorem dX8_bias_135 : decode cX8_bias 135 = .ok (.iconst 1, 1) := by decide +kernel
theorem dX8_bias_136 : decode cX8_bias 136 = .ok (.invokevirtual 177, 3) := by decide +kernel
theorem dX8_bias_139 : decode cX8_bias 139 = .ok (.ifCond .eq 7, 3) := by decide +kernel
theorem dX8_bias_142 : decode cX8_bias 142 = .ok (.iconst 1, 1) := by decide +kernel
theorem dX8_bias_143 : decode cX8_bias 143 = .ok (.goto 4, 3) := by decide +kernel
theorem dX8_bias_146 : decode cX8_bias 146 = .ok (.iconst 0, 1) := by decide +kernel
theorem dX8_bias_147 : decode cX8_bias 147 = .ok (.iadd, 1) := by decide +kernel
theorem dX8_bias_148 : decode cX8_bias 148 = .ok (.istore 5, 2) := by decide +kernel
theorem dX8_bias_150 : decode cX8_bias 150 = .ok (.iinc 6 1, 3) := by decide +kernel
theorem dX8_bias_153 : decode cX8_bias 153 = .ok (.goto (-86), 3) := by decide +kernel
theorem dX8_bias_156 : decode cX8_bias 156 = .ok (.iload 5, 2) := by decide +kernel
theorem dX8_bias_158 : decode cX8_bias 158 = .ok (.ireturn, 1) := by decide +kernel
theorem dX8_squares_0 : decode cX8_squares 0 = .ok (.iload_n 0, 1) := by decide +kernel
theorem dX8_squares_1 : decode cX8_squares 1 = .ok (.i2l, 1) := by decide +kernel
theorem dX8_squares_2 : decode cX8_squares 2 = .ok (.ldc2_w 180, 3) := by decide +kernel
theorem dX8_squares_5 : decode cX8_squares 5 = .ok (.lrem, 1) := by decide +kernel
theorem dX8_squares_6 : decode cX8_squares 6 = .ok (.lstore_n 2, 1) := by decide +kernel
theorem dX8_squares_7 : decode cX8_squares 7 = .ok (.iconst 0, 1) := by decide +kernel
theorem dX8_squares_8 : decode cX8_squares 8 = .ok (.istore 4, 2) := by decide +kernel
theorem dX8_squares_10 : decode cX8_squares 10 = .ok (.iload 4, 2) := by decide +kernel
theorem dX8_squares_12 : decode cX8_squares 12 = .ok (.iload_n 1, 1) := by decide +kernel
theorem dX8_squares_13 : decode cX8_squares 13 = .ok (.if_icmp .ge 17, 3) := by decide +kernel
theorem dX8_squares_16 : decode cX8_squares 16 = .ok (.lload_n 2, 1) := by decide +kernel
theorem dX8_squares_17 : decode cX8_squares 17 = .ok (.lload_n 2, 1) := by decide +kernel
theorem dX8_squares_18 : decode cX8_squares 18 = .ok (.lmul, 1) := by decide +kernel
theorem dX8_squares_19 : decode cX8_squares 19 = .ok (.ldc2_w 180, 3) := by decide +kernel
theorem dX8_squares_22 : decode cX8_squares 22 = .ok (.lrem, 1) := by decide +kernel
theorem dX8_squares_23 : decode cX8_squares 23 = .ok (.lstore_n 2, 1) := by decide +kernel
theorem dX8_squares_24 : decode cX8_squares 24 = .ok (.iinc 4 1, 3) := by decide +kernel
theorem dX8_squares_27 : decode cX8_squares 27 = .ok (.goto (-17), 3) := by decide +kernel
theorem dX8_squares_30 : decode cX8_squares 30 = .ok (.lload_n 2, 1) := by decide +kernel
theorem dX8_squares_31 : decode cX8_squares 31 = .ok (.lreturn, 1) := by decide +kernel
theorem dX8_power_0 : decode cX8_power 0 = .ok (.lconst 1, 1) := by decide +kernel
theorem dX8_power_1 : decode cX8_power 1 = .ok (.lload 4, 2) := by decide +kernel
theorem dX8_power_3 : decode cX8_power 3 = .ok (.lrem, 1) := by decide +kernel
theorem dX8_power_4 : decode cX8_power 4 = .ok (.lstore 6, 2) := by decide +kernel
theorem dX8_power_6 : decode cX8_power 6 = .ok (.lload_n 0, 1) := by decide +kernel
theorem dX8_power_7 : decode cX8_power 7 = .ok (.lload 4, 2) := by decide +kernel
theorem dX8_power_9 : decode cX8_power 9 = .ok (.lrem, 1) := by decide +kernel
theorem dX8_power_10 : decode cX8_power 10 = .ok (.lstore 8, 2) := by decide +kernel
theorem dX8_power_12 : decode cX8_power 12 = .ok (.lload_n 2, 1) := by decide +kernel
theorem dX8_power_13 : decode cX8_power 13 = .ok (.lstore 10, 2) := by decide +kernel
theorem dX8_power_15 : decode cX8_power 15 = .ok (.lload 10, 2) := by decide +kernel
theorem dX8_power_17 : decode cX8_power 17 = .ok (.lconst 0, 1) := by decide +kernel
theorem dX8_power_18 : decode cX8_power 18 = .ok (.lcmp, 1) := by decide +kernel
theorem dX8_power_19 : decode cX8_power 19 = .ok (.ifCond .le 50, 3) := by decide +kernel
theorem dX8_power_22 : decode cX8_power 22 = .ok (.lload 10, 2) := by decide +kernel
theorem dX8_power_24 : decode cX8_power 24 = .ok (.ldc2_w 182, 3) := by decide +kernel
theorem dX8_power_27 : decode cX8_power 27 = .ok (.lrem, 1) := by decide +kernel
theorem dX8_power_28 : decode cX8_power 28 = .ok (.lconst 1, 1) := by decide +kernel
theorem dX8_power_29 : decode cX8_power 29 = .ok (.lcmp, 1) := by decide +kernel
theorem dX8_power_30 : decode cX8_power 30 = .ok (.ifCond .ne 14, 3) := by decide +kernel
theorem dX8_power_33 : decode cX8_power 33 = .ok (.lload 6, 2) := by decide +kernel
theorem dX8_power_35 : decode cX8_power 35 = .ok (.lload 8, 2) := by decide +kernel
theorem dX8_power_37 : decode cX8_power 37 = .ok (.lmul, 1) := by decide +kernel
theorem dX8_power_38 : decode cX8_power 38 = .ok (.lload 4, 2) := by decide +kernel
theorem dX8_power_40 : decode cX8_power 40 = .ok (.lrem, 1) := by decide +kernel
theorem dX8_power_41 : decode cX8_power 41 = .ok (.goto 5, 3) := by decide +kernel
theorem dX8_power_44 : decode cX8_power 44 = .ok (.lload 6, 2) := by decide +kernel
theorem dX8_power_46 : decode cX8_power 46 = .ok (.lstore 6, 2) := by decide +kernel
theorem dX8_power_48 : decode cX8_power 48 = .ok (.lload 8, 2) := by decide +kernel
theorem dX8_power_50 : decode cX8_power 50 = .ok (.lload 8, 2) := by decide +kernel
theorem dX8_power_52 : decode cX8_power 52 = .ok (.lmul, 1) := by decide +kernel
theorem dX8_power_53 : decode cX8_power 53 = .ok (.lload 4, 2) := by decide +kernel
theorem dX8_power_55 : decode cX8_power 55 = .ok (.lrem, 1) := by decide +kernel
theorem dX8_power_56 : decode cX8_power 56 = .ok (.lstore 8, 2) := by decide +kernel
theorem dX8_power_58 : decode cX8_power 58 = .ok (.lload 10, 2) := by decide +kernel
theorem dX8_power_60 : decode cX8_power 60 = .ok (.ldc2_w 182, 3) := by decide +kernel
theorem dX8_power_63 : decode cX8_power 63 = .ok (.ldiv, 1) := by decide +kernel
theorem dX8_power_64 : decode cX8_power 64 = .ok (.lstore 10, 2) := by decide +kernel
theorem dX8_power_66 : decode cX8_power 66 = .ok (.goto (-51), 3) := by decide +kernel
theorem dX8_power_69 : decode cX8_power 69 = .ok (.lload 6, 2) := by decide +kernel
theorem dX8_power_71 : decode cX8_power 71 = .ok (.lreturn, 1) := by decide +kernel
theorem dX8_isPrime_0 : decode cX8_isPrime 0 = .ok (.iload_n 0, 1) := by decide +kernel
theorem dX8_isPrime_1 : decode cX8_isPrime 1 = .ok (.iconst 1, 1) := by decide +kernel
theorem dX8_isPrime_2 : decode cX8_isPrime 2 = .ok (.if_icmp .le 7, 3) := by decide +kernel
theorem dX8_isPrime_5 : decode cX8_isPrime 5 = .ok (.iconst 1, 1) := by decide +kernel
theorem dX8_isPrime_6 : decode cX8_isPrime 6 = .ok (.goto 4, 3) := by decide +kernel
theorem dX8_isPrime_9 : decode cX8_isPrime 9 = .ok (.iconst 0, 1) := by decide +kernel
theorem dX8_isPrime_10 : decode cX8_isPrime 10 = .ok (.istore_n 1, 1) := by decide +kernel
theorem dX8_isPrime_11 : decode cX8_isPrime 11 = .ok (.iconst 2, 1) := by decide +kernel
theorem dX8_isPrime_12 : decode cX8_isPrime 12 = .ok (.istore_n 2, 1) := by decide +kernel
theorem dX8_isPrime_13 : decode cX8_isPrime 13 = .ok (.iload_n 2, 1) := by decide +kernel
theorem dX8_isPrime_14 : decode cX8_isPrime 14 = .ok (.iload_n 2, 1) := by decide +kernel
theorem dX8_isPrime_15 : decode cX8_isPrime 15 = .ok (.imul, 1) := by decide +kernel
theorem dX8_isPrime_16 : decode cX8_isPrime 16 = .ok (.iload_n 0, 1) := by decide +kernel
theorem dX8_isPrime_17 : decode cX8_isPrime 17 = .ok (.if_icmp .gt 25, 3) := by decide +kernel
theorem dX8_isPrime_20 : decode cX8_isPrime 20 = .ok (.iload_n 1, 1) := by decide +kernel
theorem dX8_isPrime_21 : decode cX8_isPrime 21 = .ok (.ifCond .eq 21, 3) := by decide +kernel
theorem dX8_isPrime_24 : decode cX8_isPrime 24 = .ok (.iload_n 0, 1) := by decide +kernel
theorem dX8_isPrime_25 : decode cX8_isPrime 25 = .ok (.iload_n 2, 1) := by decide +kernel
theorem dX8_isPrime_26 : decode cX8_isPrime 26 = .ok (.irem, 1) := by decide +kernel
theorem dX8_isPrime_27 : decode cX8_isPrime 27 = .ok (.ifCond .eq 7, 3) := by decide +kernel
theorem dX8_isPrime_30 : decode cX8_isPrime 30 = .ok (.iconst 1, 1) := by decide +kernel
theorem dX8_isPrime_31 : decode cX8_isPrime 31 = .ok (.goto 4, 3) := by decide +kernel
theorem dX8_isPrime_34 : decode cX8_isPrime 34 = .ok (.iconst 0, 1) := by decide +kernel
theorem dX8_isPrime_35 : decode cX8_isPrime 35 = .ok (.istore_n 1, 1) := by decide +kernel
theorem dX8_isPrime_36 : decode cX8_isPrime 36 = .ok (.iinc 2 1, 3) := by decide +kernel
theorem dX8_isPrime_39 : decode cX8_isPrime 39 = .ok (.goto (-26), 3) := by decide +kernel
theorem dX8_isPrime_42 : decode cX8_isPrime 42 = .ok (.iload_n 1, 1) := by decide +kernel
theorem dX8_isPrime_43 : decode cX8_isPrime 43 = .ok (.ireturn, 1) := by decide +kernel
theorem dX8_primeFor_0 : decode cX8_primeFor 0 = .ok (.sipush 257, 3) := by decide +kernel
theorem dX8_primeFor_3 : decode cX8_primeFor 3 = .ok (.bipush 19, 2) := by decide +kernel
theorem dX8_primeFor_5 : decode cX8_primeFor 5 = .ok (.iload_n 0, 1) := by decide +kernel
theorem dX8_primeFor_6 : decode cX8_primeFor 6 = .ok (.invokestatic 66, 3) := by decide +kernel
theorem dX8_primeFor_9 : decode cX8_primeFor 9 = .ok (.iload_n 1, 1) := by decide +kernel
theorem dX8_primeFor_10 : decode cX8_primeFor 10 = .ok (.invokestatic 66, 3) := by decide +kernel
theorem dX8_primeFor_13 : decode cX8_primeFor 13 = .ok (.bipush 22, 2) := by decide +kernel
theorem dX8_primeFor_15 : decode cX8_primeFor 15 = .ok (.iushr, 1) := by decide +kernel
theorem dX8_primeFor_16 : decode cX8_primeFor 16 = .ok (.iadd, 1) := by decide +kernel
theorem dX8_primeFor_17 : decode cX8_primeFor 17 = .ok (.istore_n 2, 1) := by decide +kernel
theorem dX8_primeFor_18 : decode cX8_primeFor 18 = .ok (.iload_n 2, 1) := by decide +kernel
theorem dX8_primeFor_19 : decode cX8_primeFor 19 = .ok (.invokestatic 184, 3) := by decide +kernel
theorem dX8_primeFor_22 : decode cX8_primeFor 22 = .ok (.ifCond .ne 9, 3) := by decide +kernel
theorem dX8_primeFor_25 : decode cX8_primeFor 25 = .ok (.iinc 2 1, 3) := by decide +kernel
theorem dX8_primeFor_28 : decode cX8_primeFor 28 = .ok (.goto (-10), 3) := by decide +kernel
theorem dX8_primeFor_31 : decode cX8_primeFor 31 = .ok (.iload_n 2, 1) := by decide +kernel
theorem dX8_primeFor_32 : decode cX8_primeFor 32 = .ok (.ireturn, 1) := by decide +kernel
theorem dX8_isSlow_0 : decode cX8_isSlow 0 = .ok (.iload_n 0, 1) := by decide +kernel
theorem dX8_isSlow_1 : decode cX8_isSlow 1 = .ok (.iconst 2, 1) := by decide +kernel
theorem dX8_isSlow_2 : decode cX8_isSlow 2 = .ok (.ldc 187, 2) := by decide +kernel
theorem dX8_isSlow_4 : decode cX8_isSlow 4 = .ok (.invokestatic 31, 3) := by decide +kernel
theorem dX8_isSlow_7 : decode cX8_isSlow 7 = .ok (.ifCond .eq 18, 3) := by decide +kernel
theorem dX8_isSlow_10 : decode cX8_isSlow 10 = .ok (.iload_n 1, 1) := by decide +kernel
theorem dX8_isSlow_11 : decode cX8_isSlow 11 = .ok (.iconst 0, 1) := by decide +kernel
theorem dX8_isSlow_12 : decode cX8_isSlow 12 = .ok (.sipush 5000, 3) := by decide +kernel
theorem dX8_isSlow_15 : decode cX8_isSlow 15 = .ok (.invokestatic 31, 3) := by decide +kernel
theorem dX8_isSlow_18 : decode cX8_isSlow 18 = .ok (.ifCond .eq 7, 3) := by decide +kernel
theorem dX8_isSlow_21 : decode cX8_isSlow 21 = .ok (.iconst 1, 1) := by decide +kernel
theorem dX8_isSlow_22 : decode cX8_isSlow 22 = .ok (.goto 4, 3) := by decide +kernel
theorem dX8_isSlow_25 : decode cX8_isSlow 25 = .ok (.iconst 0, 1) := by decide +kernel
theorem dX8_isSlow_26 : decode cX8_isSlow 26 = .ok (.ireturn, 1) := by decide +kernel
theorem dX8_slow_0 : decode cX8_slow 0 = .ok (.iload_n 1, 1) := by decide +kernel
theorem dX8_slow_1 : decode cX8_slow 1 = .ok (.iload_n 2, 1) := by decide +kernel
theorem dX8_slow_2 : decode cX8_slow 2 = .ok (.invokestatic 188, 3) := by decide +kernel
theorem dX8_slow_5 : decode cX8_slow 5 = .ok (.ifCond .eq 12, 3) := by decide +kernel
theorem dX8_slow_8 : decode cX8_slow 8 = .ok (.iload_n 1, 1) := by decide +kernel
theorem dX8_slow_9 : decode cX8_slow 9 = .ok (.iload_n 2, 1) := by decide +kernel
theorem dX8_slow_10 : decode cX8_slow 10 = .ok (.invokestatic 83, 3) := by decide +kernel
theorem dX8_slow_13 : decode cX8_slow 13 = .ok (.l2i, 1) := by decide +kernel
theorem dX8_slow_14 : decode cX8_slow 14 = .ok (.goto 4, 3) := by decide +kernel
theorem dX8_slow_17 : decode cX8_slow 17 = .ok (.iconst (-1), 1) := by decide +kernel
theorem dX8_slow_18 : decode cX8_slow 18 = .ok (.ireturn, 1) := by decide +kernel
theorem dX8_quick_0 : decode cX8_quick 0 = .ok (.iload_n 1, 1) := by decide +kernel
theorem dX8_quick_1 : decode cX8_quick 1 = .ok (.iconst 2, 1) := by decide +kernel
theorem dX8_quick_2 : decode cX8_quick 2 = .ok (.sipush 7906, 3) := by decide +kernel
theorem dX8_quick_5 : decode cX8_quick 5 = .ok (.invokestatic 31, 3) := by decide +kernel
theorem dX8_quick_8 : decode cX8_quick 8 = .ok (.ifCond .eq 13, 3) := by decide +kernel
theorem dX8_quick_11 : decode cX8_quick 11 = .ok (.iload_n 2, 1) := by decide +kernel
theorem dX8_quick_12 : decode cX8_quick 12 = .ok (.iconst 0, 1) := by decide +kernel
theorem dX8_quick_13 : decode cX8_quick 13 = .ok (.ldc 191, 2) := by decide +kernel
theorem dX8_quick_15 : decode cX8_quick 15 = .ok (.invokestatic 31, 3) := by decide +kernel
theorem dX8_quick_18 : decode cX8_quick 18 = .ok (.ifCond .ne 5, 3) := by decide +kernel
theorem dX8_quick_21 : decode cX8_quick 21 = .ok (.iconst (-1), 1) := by decide +kernel
theorem dX8_quick_22 : decode cX8_quick 22 = .ok (.ireturn, 1) := by decide +kernel
theorem dX8_quick_23 : decode cX8_quick 23 = .ok (.ldc2_w 192, 3) := by decide +kernel
theorem dX8_quick_26 : decode cX8_quick 26 = .ok (.lstore_n 3, 1) := by decide +kernel
theorem dX8_quick_27 : decode cX8_quick 27 = .ok (.iload_n 1, 1) := by decide +kernel
theorem dX8_quick_28 : decode cX8_quick 28 = .ok (.i2l, 1) := by decide +kernel
theorem dX8_quick_29 : decode cX8_quick 29 = .ok (.ldc2_w 182, 3) := by decide +kernel
theorem dX8_quick_32 : decode cX8_quick 32 = .ok (.iload_n 2, 1) := by decide +kernel
theorem dX8_quick_33 : decode cX8_quick 33 = .ok (.i2l, 1) := by decide +kernel
theorem dX8_quick_34 : decode cX8_quick 34 = .ok (.lload_n 3, 1) := by decide +kernel
theorem dX8_quick_35 : decode cX8_quick 35 = .ok (.invokestatic 194, 3) := by decide +kernel
theorem dX8_quick_38 : decode cX8_quick 38 = .ok (.ldc2_w 180, 3) := by decide +kernel
theorem dX8_quick_41 : decode cX8_quick 41 = .ok (.invokestatic 194, 3) := by decide +kernel
theorem dX8_quick_44 : decode cX8_quick 44 = .ok (.l2i, 1) := by decide +kernel
theorem dX8_quick_45 : decode cX8_quick 45 = .ok (.ireturn, 1) := by decide +kernel
theorem dX8_prime_0 : decode cX8_prime 0 = .ok (.iload_n 1, 1) := by decide +kernel
theorem dX8_prime_1 : decode cX8_prime 1 = .ok (.iload_n 2, 1) := by decide +kernel
theorem dX8_prime_2 : decode cX8_prime 2 = .ok (.invokestatic 188, 3) := by decide +kernel
theorem dX8_prime_5 : decode cX8_prime 5 = .ok (.ifCond .eq 16, 3) := by decide +kernel
theorem dX8_prime_8 : decode cX8_prime 8 = .ok (.iload_n 1, 1) := by decide +kernel
theorem dX8_prime_9 : decode cX8_prime 9 = .ok (.iload_n 1, 1) := by decide +kernel
theorem dX8_prime_10 : decode cX8_prime 10 = .ok (.iload_n 2, 1) := by decide +kernel
theorem dX8_prime_11 : decode cX8_prime 11 = .ok (.invokestatic 83, 3) := by decide +kernel
theorem dX8_prime_14 : decode cX8_prime 14 = .ok (.l2i, 1) := by decide +kernel
theorem dX8_prime_15 : decode cX8_prime 15 = .ok (.invokestatic 198, 3) := by decide +kernel
theorem dX8_prime_18 : decode cX8_prime 18 = .ok (.goto 4, 3) := by decide +kernel
theorem dX8_prime_21 : decode cX8_prime 21 = .ok (.iconst (-1), 1) := by decide +kernel
theorem dX8_prime_22 : decode cX8_prime 22 = .ok (.ireturn, 1) := by decide +kernel
theorem dX8_proof_0 : decode cX8_proof 0 = .ok (.iload_n 1, 1) := by decide +kernel
theorem dX8_proof_1 : decode cX8_proof 1 = .ok (.iload_n 2, 1) := by decide +kernel
theorem dX8_proof_2 : decode cX8_proof 2 = .ok (.invokestatic 188, 3) := by decide +kernel
theorem dX8_proof_5 : decode cX8_proof 5 = .ok (.ifCond .ne 5, 3) := by decide +kernel
theorem dX8_proof_8 : decode cX8_proof 8 = .ok (.iconst (-1), 1) := by decide +kernel
theorem dX8_proof_9 : decode cX8_proof 9 = .ok (.ireturn, 1) := by decide +kernel
theorem dX8_proof_10 : decode cX8_proof 10 = .ok (.iload_n 1, 1) := by decide +kernel
theorem dX8_proof_11 : decode cX8_proof 11 = .ok (.iload_n 1, 1) := by decide +kernel
theorem dX8_proof_12 : decode cX8_proof 12 = .ok (.iload_n 2, 1) := by decide +kernel
theorem dX8_proof_13 : decode cX8_proof 13 = .ok (.invokestatic 83, 3) := by decide +kernel
theorem dX8_proof_16 : decode cX8_proof 16 = .ok (.l2i, 1) := by decide +kernel
theorem dX8_proof_17 : decode cX8_proof 17 = .ok (.invokestatic 198, 3) := by decide +kernel
theorem dX8_proof_20 : decode cX8_proof 20 = .ok (.istore_n 3, 1) := by decide +kernel
theorem dX8_proof_21 : decode cX8_proof 21 = .ok (.lconst 1, 1) := by decide +kernel
theorem dX8_proof_22 : decode cX8_proof 22 = .ok (.lstore 4, 2) := by decide +kernel
theorem dX8_proof_24 : decode cX8_proof 24 = .ok (.lconst 1, 1) := by decide +kernel
theorem dX8_proof_25 : decode cX8_proof 25 = .ok (.lstore 6, 2) := by decide +kernel
theorem dX8_proof_27 : decode cX8_proof 27 = .ok (.iconst 0, 1) := by decide +kernel
theorem dX8_proof_28 : decode cX8_proof 28 = .ok (.istore 8, 2) := by decide +kernel
theorem dX8_proof_30 : decode cX8_proof 30 = .ok (.iload 8, 2) := by decide +kernel
theorem dX8_proof_32 : decode cX8_proof 32 = .ok (.iload_n 2, 1) := by decide +kernel
theorem dX8_proof_33 : decode cX8_proof 33 = .ok (.if_icmp .ge 54, 3) := by decide +kernel
theorem dX8_proof_36 : decode cX8_proof 36 = .ok (.lload 4, 2) := by decide +kernel
theorem dX8_proof_38 : decode cX8_proof 38 = .ok (.ldc2_w 182, 3) := by decide +kernel
theorem dX8_proof_41 : decode cX8_proof 41 = .ok (.lmul, 1) := by decide +kernel
theorem dX8_proof_42 : decode cX8_proof 42 = .ok (.lstore 4, 2) := by decide +kernel
theorem dX8_proof_44 : decode cX8_proof 44 = .ok (.lload 6, 2) := by decide +kernel
theorem dX8_proof_46 : decode cX8_proof 46 = .ok (.lload 6, 2) := by decide +kernel
theorem dX8_proof_48 : decode cX8_proof 48 = .ok (.lmul, 1) := by decide +kernel
theorem dX8_proof_49 : decode cX8_proof 49 = .ok (.ldc2_w 180, 3) := by decide +kernel
theorem dX8_proof_52 : decode cX8_proof 52 = .ok (.lrem, 1) := by decide +kernel
theorem dX8_proof_53 : decode cX8_proof 53 = .ok (.lstore 6, 2) := by decide +kernel
theorem dX8_proof_55 : decode cX8_proof 55 = .ok (.lload 4, 2) := by decide +kernel
theorem dX8_proof_57 : decode cX8_proof 57 = .ok (.iload_n 3, 1) := by decide +kernel
theorem dX8_proof_58 : decode cX8_proof 58 = .ok (.i2l, 1) := by decide +kernel
theorem dX8_proof_59 : decode cX8_proof 59 = .ok (.lcmp, 1) := by decide +kernel
theorem dX8_proof_60 : decode cX8_proof 60 = .ok (.ifCond .lt 21, 3) := by decide +kernel
theorem dX8_proof_63 : decode cX8_proof 63 = .ok (.lload 4, 2) := by decide +kernel
theorem dX8_proof_65 : decode cX8_proof 65 = .ok (.iload_n 3, 1) := by decide +kernel
theorem dX8_proof_66 : decode cX8_proof 66 = .ok (.i2l, 1) := by decide +kernel
theorem dX8_proof_67 : decode cX8_proof 67 = .ok (.lsub, 1) := by decide +kernel
theorem dX8_proof_68 : decode cX8_proof 68 = .ok (.lstore 4, 2) := by decide +kernel
theorem dX8_proof_70 : decode cX8_proof 70 = .ok (.lload 6, 2) := by decide +kernel
theorem dX8_proof_72 : decode cX8_proof 72 = .ok (.iload_n 1, 1) := by decide +kernel
theorem dX8_proof_73 : decode cX8_proof 73 = .ok (.i2l, 1) := by decide +kernel
theorem dX8_proof_74 : decode cX8_proof 74 = .ok (.lmul, 1) := by decide +kernel
theorem dX8_proof_75 : decode cX8_proof 75 = .ok (.ldc2_w 180, 3) := by decide +kernel
theorem dX8_proof_78 : decode cX8_proof 78 = .ok (.lrem, 1) := by decide +kernel
theorem dX8_proof_79 : decode cX8_proof 79 = .ok (.lstore 6, 2) := by decide +kernel
theorem dX8_proof_81 : decode cX8_proof 81 = .ok (.iinc 8 1, 3) := by decide +kernel
theorem dX8_proof_84 : decode cX8_proof 84 = .ok (.goto (-54), 3) := by decide +kernel
theorem dX8_proof_87 : decode cX8_proof 87 = .ok (.lload 6, 2) := by decide +kernel
theorem dX8_proof_89 : decode cX8_proof 89 = .ok (.l2i, 1) := by decide +kernel
theorem dX8_proof_90 : decode cX8_proof 90 = .ok (.ireturn, 1) := by decide +kernel
theorem dX8_accepts_0 : decode cX8_accepts 0 = .ok (.iload_n 1, 1) := by decide +kernel
theorem dX8_accepts_1 : decode cX8_accepts 1 = .ok (.iconst 2, 1) := by decide +kernel
theorem dX8_accepts_2 : decode cX8_accepts 2 = .ok (.ldc 187, 2) := by decide +kernel
theorem dX8_accepts_4 : decode cX8_accepts 4 = .ok (.invokestatic 31, 3) := by decide +kernel
theorem dX8_accepts_7 : decode cX8_accepts 7 = .ok (.ifCond .eq 34, 3) := by decide +kernel
theorem dX8_accepts_10 : decode cX8_accepts 10 = .ok (.iload_n 2, 1) := by decide +kernel
theorem dX8_accepts_11 : decode cX8_accepts 11 = .ok (.iconst 0, 1) := by decide +kernel
theorem dX8_accepts_12 : decode cX8_accepts 12 = .ok (.ldc 191, 2) := by decide +kernel
theorem dX8_accepts_14 : decode cX8_accepts 14 = .ok (.invokestatic 31, 3) := by decide +kernel
theorem dX8_accepts_17 : decode cX8_accepts 17 = .ok (.ifCond .eq 24, 3) := by decide +kernel
theorem dX8_accepts_20 : decode cX8_accepts 20 = .ok (.iload_n 3, 1) := by decide +kernel
theorem dX8_accepts_21 : decode cX8_accepts 21 = .ok (.iconst 0, 1) := by decide +kernel
theorem dX8_accepts_22 : decode cX8_accepts 22 = .ok (.ldc 201, 2) := by decide +kernel
theorem dX8_accepts_24 : decode cX8_accepts 24 = .ok (.invokestatic 31, 3) := by decide +kernel
theorem dX8_accepts_27 : decode cX8_accepts 27 = .ok (.ifCond .eq 14, 3) := by decide +kernel
theorem dX8_accepts_30 : decode cX8_accepts 30 = .ok (.iload 4, 2) := by decide +kernel
theorem dX8_accepts_32 : decode cX8_accepts 32 = .ok (.iconst 0, 1) := by decide +kernel
theorem dX8_accepts_33 : decode cX8_accepts 33 = .ok (.ldc 201, 2) := by decide +kernel
theorem dX8_accepts_35 : decode cX8_accepts 35 = .ok (.invokestatic 31, 3) := by decide +kernel
theorem dX8_accepts_38 : decode cX8_accepts 38 = .ok (.ifCond .ne 5, 3) := by decide +kernel
theorem dX8_accepts_41 : decode cX8_accepts 41 = .ok (.iconst (-1), 1) := by decide +kernel
theorem dX8_accepts_42 : decode cX8_accepts 42 = .ok (.ireturn, 1) := by decide +kernel
theorem dX8_accepts_43 : decode cX8_accepts 43 = .ok (.iload_n 1, 1) := by decide +kernel
theorem dX8_accepts_44 : decode cX8_accepts 44 = .ok (.iload_n 3, 1) := by decide +kernel
theorem dX8_accepts_45 : decode cX8_accepts 45 = .ok (.invokestatic 198, 3) := by decide +kernel
theorem dX8_accepts_48 : decode cX8_accepts 48 = .ok (.istore 5, 2) := by decide +kernel
theorem dX8_accepts_50 : decode cX8_accepts 50 = .ok (.iload 4, 2) := by decide +kernel
theorem dX8_accepts_52 : decode cX8_accepts 52 = .ok (.i2l, 1) := by decide +kernel
theorem dX8_accepts_53 : decode cX8_accepts 53 = .ok (.iload 5, 2) := by decide +kernel
theorem dX8_accepts_55 : decode cX8_accepts 55 = .ok (.i2l, 1) := by decide +kernel
theorem dX8_accepts_56 : decode cX8_accepts 56 = .ok (.ldc2_w 180, 3) := by decide +kernel
theorem dX8_accepts_59 : decode cX8_accepts 59 = .ok (.invokestatic 194, 3) := by decide +kernel
theorem dX8_accepts_62 : decode cX8_accepts 62 = .ok (.iload_n 1, 1) := by decide +kernel
theorem dX8_accepts_63 : decode cX8_accepts 63 = .ok (.i2l, 1) := by decide +kernel
theorem dX8_accepts_64 : decode cX8_accepts 64 = .ok (.ldc2_w 182, 3) := by decide +kernel
theorem dX8_accepts_67 : decode cX8_accepts 67 = .ok (.iload_n 2, 1) := by decide +kernel
theorem dX8_accepts_68 : decode cX8_accepts 68 = .ok (.i2l, 1) := by decide +kernel
theorem dX8_accepts_69 : decode cX8_accepts 69 = .ok (.iload 5, 2) := by decide +kernel
theorem dX8_accepts_71 : decode cX8_accepts 71 = .ok (.i2l, 1) := by decide +kernel
theorem dX8_accepts_72 : decode cX8_accepts 72 = .ok (.invokestatic 194, 3) := by decide +kernel
theorem dX8_accepts_75 : decode cX8_accepts 75 = .ok (.ldc2_w 180, 3) := by decide +kernel
theorem dX8_accepts_78 : decode cX8_accepts 78 = .ok (.invokestatic 194, 3) := by decide +kernel
theorem dX8_accepts_81 : decode cX8_accepts 81 = .ok (.lmul, 1) := by decide +kernel
theorem dX8_accepts_82 : decode cX8_accepts 82 = .ok (.ldc2_w 180, 3) := by decide +kernel
theorem dX8_accepts_85 : decode cX8_accepts 85 = .ok (.lrem, 1) := by decide +kernel
theorem dX8_accepts_86 : decode cX8_accepts 86 = .ok (.iload_n 3, 1) := by decide +kernel
theorem dX8_accepts_87 : decode cX8_accepts 87 = .ok (.i2l, 1) := by decide +kernel
theorem dX8_accepts_88 : decode cX8_accepts 88 = .ok (.lcmp, 1) := by decide +kernel
theorem dX8_accepts_89 : decode cX8_accepts 89 = .ok (.ifCond .ne 7, 3) := by decide +kernel
theorem dX8_accepts_92 : decode cX8_accepts 92 = .ok (.iconst 1, 1) := by decide +kernel
theorem dX8_accepts_93 : decode cX8_accepts 93 = .ok (.goto 4, 3) := by decide +kernel
theorem dX8_accepts_96 : decode cX8_accepts 96 = .ok (.iconst 0, 1) := by decide +kernel
theorem dX8_accepts_97 : decode cX8_accepts 97 = .ok (.ireturn, 1) := by decide +kernel
theorem dX8_account_0 : decode cX8_account 0 = .ok (.aload_n 0, 1) := by decide +kernel
theorem dX8_account_1 : decode cX8_account 1 = .ok (.iload_n 1, 1) := by decide +kernel
theorem dX8_account_2 : decode cX8_account 2 = .ok (.invokevirtual 39, 3) := by decide +kernel
theorem dX8_account_5 : decode cX8_account 5 = .ok (.ifCond .eq 26, 3) := by decide +kernel
theorem dX8_account_8 : decode cX8_account 8 = .ok (.iload_n 2, 1) := by decide +kernel
theorem dX8_account_9 : decode cX8_account 9 = .ok (.iconst 0, 1) := by decide +kernel
theorem dX8_account_10 : decode cX8_account 10 = .ok (.iconst 4, 1) := by decide +kernel
theorem dX8_account_11 : decode cX8_account 11 = .ok (.invokestatic 31, 3) := by decide +kernel
theorem dX8_account_14 : decode cX8_account 14 = .ok (.ifCond .eq 17, 3) := by decide +kernel
theorem dX8_account_17 : decode cX8_account 17 = .ok (.aload_n 0, 1) := by decide +kernel
theorem dX8_account_18 : decode cX8_account 18 = .ok (.getfield 7, 3) := by decide +kernel
theorem dX8_account_21 : decode cX8_account 21 = .ok (.iload_n 1, 1) := by decide +kernel
theorem dX8_account_22 : decode cX8_account 22 = .ok (.invokestatic 35, 3) := by decide +kernel
theorem dX8_account_25 : decode cX8_account 25 = .ok (.iload_n 2, 1) := by decide +kernel
theorem dX8_account_26 : decode cX8_account 26 = .ok (.iadd, 1) := by decide +kernel
theorem dX8_account_27 : decode cX8_account 27 = .ok (.iaload, 1) := by decide +kernel
theorem dX8_account_28 : decode cX8_account 28 = .ok (.goto 4, 3) := by decide +kernel
theorem dX8_account_31 : decode cX8_account 31 = .ok (.iconst (-1), 1) := by decide +kernel
theorem dX8_account_32 : decode cX8_account 32 = .ok (.ireturn, 1) := by decide +kernel
theorem dX8_pot_0 : decode cX8_pot 0 = .ok (.aload_n 0, 1) := by decide +kernel
theorem dX8_pot_1 : decode cX8_pot 1 = .ok (.getfield 7, 3) := by decide +kernel
theorem dX8_pot_4 : decode cX8_pot 4 = .ok (.iconst 2, 1) := by decide +kernel
theorem dX8_pot_5 : decode cX8_pot 5 = .ok (.iaload, 1) := by decide +kernel
theorem dX8_pot_6 : decode cX8_pot 6 = .ok (.ireturn, 1) := by decide +kernel
theorem dX8_rounds_0 : decode cX8_rounds 0 = .ok (.aload_n 0, 1) := by decide +kernel
theorem dX8_rounds_1 : decode cX8_rounds 1 = .ok (.getfield 7, 3) := by decide +kernel
theorem dX8_rounds_4 : decode cX8_rounds 4 = .ok (.iconst 1, 1) := by decide +kernel
theorem dX8_rounds_5 : decode cX8_rounds 5 = .ok (.iaload, 1) := by decide +kernel
theorem dX8_rounds_6 : decode cX8_rounds 6 = .ok (.ireturn, 1) := by decide +kernel
theorem dX8_isKept_0 : decode cX8_isKept 0 = .ok (.iload_n 1, 1) := by decide +kernel
theorem dX8_isKept_1 : decode cX8_isKept 1 = .ok (.ifCond .lt 30, 3) := by decide +kernel
theorem dX8_isKept_4 : decode cX8_isKept 4 = .ok (.iload_n 1, 1) := by decide +kernel
theorem dX8_isKept_5 : decode cX8_isKept 5 = .ok (.aload_n 0, 1) := by decide +kernel
theorem dX8_isKept_6 : decode cX8_isKept 6 = .ok (.getfield 7, 3) := by decide +kernel
theorem dX8_isKept_9 : decode cX8_isKept 9 = .ok (.iconst 1, 1) := by decide +kernel
theorem dX8_isKept_10 : decode cX8_isKept 10 = .ok (.iaload, 1) := by decide +kernel
theorem dX8_isKept_11 : decode cX8_isKept 11 = .ok (.if_icmp .ge 20, 3) := by decide +kernel
theorem dX8_isKept_14 : decode cX8_isKept 14 = .ok (.iload_n 1, 1) := by decide +kernel
theorem dX8_isKept_15 : decode cX8_isKept 15 = .ok (.aload_n 0, 1) := by decide +kernel
theorem dX8_isKept_16 : decode cX8_isKept 16 = .ok (.getfield 7, 3) := by decide +kernel
theorem dX8_isKept_19 : decode cX8_isKept 19 = .ok (.iconst 1, 1) := by decide +kernel
theorem dX8_isKept_20 : decode cX8_isKept 20 = .ok (.iaload, 1) := by decide +kernel
theorem dX8_isKept_21 : decode cX8_isKept 21 = .ok (.bipush 16, 2) := by decide +kernel
theorem dX8_isKept_23 : decode cX8_isKept 23 = .ok (.isub, 1) := by decide +kernel
theorem dX8_isKept_24 : decode cX8_isKept 24 = .ok (.if_icmp .lt 7, 3) := by decide +kernel
theorem dX8_isKept_27 : decode cX8_isKept 27 = .ok (.iconst 1, 1) := by decide +kernel
theorem dX8_isKept_28 : decode cX8_isKept 28 = .ok (.goto 4, 3) := by decide +kernel
theorem dX8_isKept_31 : decode cX8_isKept 31 = .ok (.iconst 0, 1) := by decide +kernel
theorem dX8_isKept_32 : decode cX8_isKept 32 = .ok (.ireturn, 1) := by decide +kernel
theorem dX8_ofRound_0 : decode cX8_ofRound 0 = .ok (.aload_n 0, 1) := by decide +kernel
theorem dX8_ofRound_1 : decode cX8_ofRound 1 = .ok (.getfield 7, 3) := by decide +kernel
theorem dX8_ofRound_4 : decode cX8_ofRound 4 = .ok (.sipush 340, 3) := by decide +kernel
theorem dX8_ofRound_7 : decode cX8_ofRound 7 = .ok (.iconst 5, 1) := by decide +kernel
theorem dX8_ofRound_8 : decode cX8_ofRound 8 = .ok (.iload_n 1, 1) := by decide +kernel
theorem dX8_ofRound_9 : decode cX8_ofRound 9 = .ok (.bipush 16, 2) := by decide +kernel
theorem dX8_ofRound_11 : decode cX8_ofRound 11 = .ok (.irem, 1) := by decide +kernel
theorem dX8_ofRound_12 : decode cX8_ofRound 12 = .ok (.imul, 1) := by decide +kernel
theorem dX8_ofRound_13 : decode cX8_ofRound 13 = .ok (.iadd, 1) := by decide +kernel
theorem dX8_ofRound_14 : decode cX8_ofRound 14 = .ok (.iload_n 2, 1) := by decide +kernel
theorem dX8_ofRound_15 : decode cX8_ofRound 15 = .ok (.iadd, 1) := by decide +kernel
theorem dX8_ofRound_16 : decode cX8_ofRound 16 = .ok (.iaload, 1) := by decide +kernel
theorem dX8_ofRound_17 : decode cX8_ofRound 17 = .ok (.ireturn, 1) := by decide +kernel
theorem dX8_past_0 : decode cX8_past 0 = .ok (.iload_n 1, 1) := by decide +kernel
theorem dX8_past_1 : decode cX8_past 1 = .ok (.ifCond .lt 12, 3) := by decide +kernel
theorem dX8_past_4 : decode cX8_past 4 = .ok (.iload_n 2, 1) := by decide +kernel
theorem dX8_past_5 : decode cX8_past 5 = .ok (.iconst 0, 1) := by decide +kernel
theorem dX8_past_6 : decode cX8_past 6 = .ok (.iconst 4, 1) := by decide +kernel
theorem dX8_past_7 : decode cX8_past 7 = .ok (.invokestatic 31, 3) := by decide +kernel
theorem dX8_past_10 : decode cX8_past 10 = .ok (.ifCond .ne 5, 3) := by decide +kernel
theorem dX8_past_13 : decode cX8_past 13 = .ok (.iconst (-1), 1) := by decide +kernel
theorem dX8_past_14 : decode cX8_past 14 = .ok (.ireturn, 1) := by decide +kernel
theorem dX8_past_15 : decode cX8_past 15 = .ok (.aload_n 0, 1) := by decide +kernel
theorem dX8_past_16 : decode cX8_past 16 = .ok (.iload_n 1, 1) := by decide +kernel
theorem dX8_past_17 : decode cX8_past 17 = .ok (.invokevirtual 202, 3) := by decide +kernel
theorem dX8_past_20 : decode cX8_past 20 = .ok (.ifCond .ne 6, 3) := by decide +kernel
theorem dX8_past_23 : decode cX8_past 23 = .ok (.bipush (-9), 2) := by decide +kernel
theorem dX8_past_25 : decode cX8_past 25 = .ok (.ireturn, 1) := by decide +kernel
theorem dX8_past_26 : decode cX8_past 26 = .ok (.aload_n 0, 1) := by decide +kernel
theorem dX8_past_27 : decode cX8_past 27 = .ok (.iload_n 1, 1) := by decide +kernel
theorem dX8_past_28 : decode cX8_past 28 = .ok (.iconst 0, 1) := by decide +kernel
theorem dX8_past_29 : decode cX8_past 29 = .ok (.invokevirtual 205, 3) := by decide +kernel
theorem dX8_past_32 : decode cX8_past 32 = .ok (.bipush (-5), 2) := by decide +kernel
theorem dX8_past_34 : decode cX8_past 34 = .ok (.if_icmp .ne 7, 3) := by decide +kernel
theorem dX8_past_37 : decode cX8_past 37 = .ok (.iconst 1, 1) := by decide +kernel
theorem dX8_past_38 : decode cX8_past 38 = .ok (.goto 4, 3) := by decide +kernel
theorem dX8_past_41 : decode cX8_past 41 = .ok (.iconst 0, 1) := by decide +kernel
theorem dX8_past_42 : decode cX8_past 42 = .ok (.istore_n 3, 1) := by decide +kernel
theorem dX8_past_43 : decode cX8_past 43 = .ok (.aload_n 0, 1) := by decide +kernel
theorem dX8_past_44 : decode cX8_past 44 = .ok (.iload_n 1, 1) := by decide +kernel
theorem dX8_past_45 : decode cX8_past 45 = .ok (.iconst 1, 1) := by decide +kernel
theorem dX8_past_46 : decode cX8_past 46 = .ok (.invokevirtual 205, 3) := by decide +kernel
theorem dX8_past_49 : decode cX8_past 49 = .ok (.invokestatic 124, 3) := by decide +kernel
theorem dX8_past_52 : decode cX8_past 52 = .ok (.aload_n 0, 1) := by decide +kernel
theorem dX8_past_53 : decode cX8_past 53 = .ok (.iload_n 1, 1) := by decide +kernel
theorem dX8_past_54 : decode cX8_past 54 = .ok (.iconst 2, 1) := by decide +kernel
theorem dX8_past_55 : decode cX8_past 55 = .ok (.invokevirtual 205, 3) := by decide +kernel
theorem dX8_past_58 : decode cX8_past 58 = .ok (.isub, 1) := by decide +kernel
theorem dX8_past_59 : decode cX8_past 59 = .ok (.istore 4, 2) := by decide +kernel
theorem dX8_past_61 : decode cX8_past 61 = .ok (.iload_n 2, 1) := by decide +kernel
theorem dX8_past_62 : decode cX8_past 62 = .ok (.iconst 4, 1) := by decide +kernel
theorem dX8_past_63 : decode cX8_past 63 = .ok (.if_icmp .ne 12, 3) := by decide +kernel
theorem dX8_past_66 : decode cX8_past 66 = .ok (.aload_n 0, 1) := by decide +kernel
theorem dX8_past_67 : decode cX8_past 67 = .ok (.iload_n 1, 1) := by decide +kernel
theorem dX8_past_68 : decode cX8_past 68 = .ok (.iconst 3, 1) := by decide +kernel
theorem dX8_past_69 : decode cX8_past 69 = .ok (.invokevirtual 205, 3) := by decide +kernel
theorem dX8_past_72 : decode cX8_past 72 = .ok (.goto 27, 3) := by decide +kernel
theorem dX8_past_75 : decode cX8_past 75 = .ok (.iload_n 2, 1) := by decide +kernel
theorem dX8_past_76 : decode cX8_past 76 = .ok (.iconst 3, 1) := by decide +kernel
theorem dX8_past_77 : decode cX8_past 77 = .ok (.if_icmp .ne 16, 3) := by decide +kernel
theorem dX8_past_80 : decode cX8_past 80 = .ok (.iload_n 3, 1) := by decide +kernel
theorem dX8_past_81 : decode cX8_past 81 = .ok (.ifCond .eq 7, 3) := by decide +kernel
theorem dX8_past_84 : decode cX8_past 84 = .ok (.iconst 0, 1) := by decide +kernel
theorem dX8_past_85 : decode cX8_past 85 = .ok (.goto 14, 3) := by decide +kernel
theorem dX8_past_88 : decode cX8_past 88 = .ok (.iload 4, 2) := by decide +kernel
theorem dX8_past_90 : decode cX8_past 90 = .ok (.goto 9, 3) := by decide +kernel
theorem dX8_past_93 : decode cX8_past 93 = .ok (.aload_n 0, 1) := by decide +kernel
theorem dX8_past_94 : decode cX8_past 94 = .ok (.iload_n 1, 1) := by decide +kernel
theorem dX8_past_95 : decode cX8_past 95 = .ok (.iload_n 2, 1) := by decide +kernel
theorem dX8_past_96 : decode cX8_past 96 = .ok (.invokevirtual 205, 3) := by decide +kernel
theorem dX8_past_99 : decode cX8_past 99 = .ok (.ireturn, 1) := by decide +kernel
theorem dX8_output_0 : decode cX8_output 0 = .ok (.aload_n 0, 1) := by decide +kernel
theorem dX8_output_1 : decode cX8_output 1 = .ok (.iload_n 1, 1) := by decide +kernel
theorem dX8_output_2 : decode cX8_output 2 = .ok (.invokevirtual 202, 3) := by decide +kernel
theorem dX8_output_5 : decode cX8_output 5 = .ok (.ifCond .eq 12, 3) := by decide +kernel
theorem dX8_output_8 : decode cX8_output 8 = .ok (.aload_n 0, 1) := by decide +kernel
theorem dX8_output_9 : decode cX8_output 9 = .ok (.iload_n 1, 1) := by decide +kernel
theorem dX8_output_10 : decode cX8_output 10 = .ok (.iconst 4, 1) := by decide +kernel
theorem dX8_output_11 : decode cX8_output 11 = .ok (.invokevirtual 205, 3) := by decide +kernel
theorem dX8_output_14 : decode cX8_output 14 = .ok (.goto 4, 3) := by decide +kernel
theorem dX8_output_17 : decode cX8_output 17 = .ok (.iconst 0, 1) := by decide +kernel
theorem dX8_output_18 : decode cX8_output 18 = .ok (.ireturn, 1) := by decide +kernel
theorem dX8_coins_0 : decode cX8_coins 0 = .ok (.iload_n 1, 1) := by decide +kernel
theorem dX8_coins_1 : decode cX8_coins 1 = .ok (.iconst 0, 1) := by decide +kernel
theorem dX8_coins_2 : decode cX8_coins 2 = .ok (.iconst 1, 1) := by decide +kernel
theorem dX8_coins_3 : decode cX8_coins 3 = .ok (.invokestatic 31, 3) := by decide +kernel
theorem dX8_coins_6 : decode cX8_coins 6 = .ok (.ifCond .ne 7, 3) := by decide +kernel
theorem dX8_coins_9 : decode cX8_coins 9 = .ok (.iconst (-1), 1) := by decide +kernel
theorem dX8_coins_10 : decode cX8_coins 10 = .ok (.goto 19, 3) := by decide +kernel
theorem dX8_coins_13 : decode cX8_coins 13 = .ok (.aload_n 0, 1) := by decide +kernel
theorem dX8_coins_14 : decode cX8_coins 14 = .ok (.getfield 7, 3) := by decide +kernel
theorem dX8_coins_17 : decode cX8_coins 17 = .ok (.iload_n 1, 1) := by decide +kernel
theorem dX8_coins_18 : decode cX8_coins 18 = .ok (.ifCond .ne 8, 3) := by decide +kernel
theorem dX8_coins_21 : decode cX8_coins 21 = .ok (.bipush 9, 2) := by decide +kernel
theorem dX8_coins_23 : decode cX8_coins 23 = .ok (.goto 5, 3) := by decide +kernel
theorem dX8_coins_26 : decode cX8_coins 26 = .ok (.bipush 10, 2) := by decide +kernel
theorem dX8_coins_28 : decode cX8_coins 28 = .ok (.iaload, 1) := by decide +kernel
theorem dX8_coins_29 : decode cX8_coins 29 = .ok (.ireturn, 1) := by decide +kernel
theorem dX8_longestRun_0 : decode cX8_longestRun 0 = .ok (.aload_n 0, 1) := by decide +kernel
theorem dX8_longestRun_1 : decode cX8_longestRun 1 = .ok (.getfield 7, 3) := by decide +kernel
theorem dX8_longestRun_4 : decode cX8_longestRun 4 = .ok (.bipush 13, 2) := by decide +kernel
theorem dX8_longestRun_6 : decode cX8_longestRun 6 = .ok (.iaload, 1) := by decide +kernel
theorem dX8_longestRun_7 : decode cX8_longestRun 7 = .ok (.ireturn, 1) := by decide +kernel
theorem dX8_undo_0 : decode cX8_undo 0 = .ok (.aload_n 0, 1) := by decide +kernel
theorem dX8_undo_1 : decode cX8_undo 1 = .ok (.getfield 22, 3) := by decide +kernel
theorem dX8_undo_4 : decode cX8_undo 4 = .ok (.ifCond .ne 6, 3) := by decide +kernel
theorem dX8_undo_7 : decode cX8_undo 7 = .ok (.bipush (-2), 2) := by decide +kernel
theorem dX8_undo_9 : decode cX8_undo 9 = .ok (.ireturn, 1) := by decide +kernel
theorem dX8_undo_10 : decode cX8_undo 10 = .ok (.aload_n 0, 1) := by decide +kernel
theorem dX8_undo_11 : decode cX8_undo 11 = .ok (.dup, 1) := by decide +kernel
theorem dX8_undo_12 : decode cX8_undo 12 = .ok (.getfield 22, 3) := by decide +kernel
theorem dX8_undo_15 : decode cX8_undo 15 = .ok (.iconst 1, 1) := by decide +kernel
theorem dX8_undo_16 : decode cX8_undo 16 = .ok (.isub, 1) := by decide +kernel
theorem dX8_undo_17 : decode cX8_undo 17 = .ok (.putfield 22, 3) := by decide +kernel
theorem dX8_undo_20 : decode cX8_undo 20 = .ok (.iconst 0, 1) := by decide +kernel
theorem dX8_undo_21 : decode cX8_undo 21 = .ok (.istore_n 1, 1) := by decide +kernel
theorem dX8_undo_22 : decode cX8_undo 22 = .ok (.iload_n 1, 1) := by decide +kernel
theorem dX8_undo_23 : decode cX8_undo 23 = .ok (.sipush 420, 3) := by decide +kernel
theorem dX8_undo_26 : decode cX8_undo 26 = .ok (.if_icmp .ge 30, 3) := by decide +kernel
theorem dX8_undo_29 : decode cX8_undo 29 = .ok (.aload_n 0, 1) := by decide +kernel
theorem dX8_undo_30 : decode cX8_undo 30 = .ok (.getfield 7, 3) := by decide +kernel
theorem dX8_undo_33 : decode cX8_undo 33 = .ok (.iload_n 1, 1) := by decide +kernel
theorem dX8_undo_34 : decode cX8_undo 34 = .ok (.aload_n 0, 1) := by decide +kernel
theorem dX8_undo_35 : decode cX8_undo 35 = .ok (.getfield 13, 3) := by decide +kernel
theorem dX8_undo_38 : decode cX8_undo 38 = .ok (.sipush 420, 3) := by decide +kernel
theorem dX8_undo_41 : decode cX8_undo 41 = .ok (.aload_n 0, 1) := by decide +kernel
theorem dX8_undo_42 : decode cX8_undo 42 = .ok (.getfield 22, 3) := by decide +kernel
theorem dX8_undo_45 : decode cX8_undo 45 = .ok (.imul, 1) := by decide +kernel
theorem dX8_undo_46 : decode cX8_undo 46 = .ok (.iload_n 1, 1) := by decide +kernel
theorem dX8_undo_47 : decode cX8_undo 47 = .ok (.iadd, 1) := by decide +kernel
theorem dX8_undo_48 : decode cX8_undo 48 = .ok (.iaload, 1) := by decide +kernel
theorem dX8_undo_49 : decode cX8_undo 49 = .ok (.iastore, 1) := by decide +kernel
theorem dX8_undo_50 : decode cX8_undo 50 = .ok (.iinc 1 1, 3) := by decide +kernel
theorem dX8_undo_53 : decode cX8_undo 53 = .ok (.goto (-31), 3) := by decide +kernel
theorem dX8_undo_56 : decode cX8_undo 56 = .ok (.aload_n 0, 1) := by decide +kernel
theorem dX8_undo_57 : decode cX8_undo 57 = .ok (.getfield 22, 3) := by decide +kernel
theorem dX8_undo_60 : decode cX8_undo 60 = .ok (.ireturn, 1) := by decide +kernel
theorem dX8_fingerprint_0 : decode cX8_fingerprint 0 = .ok (.ldc2_w 208, 3) := by decide +kernel
theorem dX8_fingerprint_3 : decode cX8_fingerprint 3 = .ok (.ldc2_w 208, 3) := by decide +kernel
theorem dX8_fingerprint_6 : decode cX8_fingerprint 6 = .ok (.ldc2_w 208, 3) := by decide +kernel
theorem dX8_fingerprint_9 : decode cX8_fingerprint 9 = .ok (.ldc2_w 210, 3) := by decide +kernel
theorem dX8_fingerprint_12 : decode cX8_fingerprint 12 = .ok (.aload_n 0, 1) := by decide +kernel
theorem dX8_fingerprint_13 : decode cX8_fingerprint 13 = .ok (.getfield 7, 3) := by decide +kernel
theorem dX8_fingerprint_16 : decode cX8_fingerprint 16 = .ok (.iconst 0, 1) := by decide +kernel
theorem dX8_fingerprint_17 : decode cX8_fingerprint 17 = .ok (.iaload, 1) := by decide +kernel
theorem dX8_fingerprint_18 : decode cX8_fingerprint 18 = .ok (.i2l, 1) := by decide +kernel
theorem dX8_fingerprint_19 : decode cX8_fingerprint 19 = .ok (.ladd, 1) := by decide +kernel
theorem dX8_fingerprint_20 : decode cX8_fingerprint 20 = .ok (.lmul, 1) := by decide +kernel
theorem dX8_fingerprint_21 : decode cX8_fingerprint 21 = .ok (.aload_n 0, 1) := by decide +kernel
theorem dX8_fingerprint_22 : decode cX8_fingerprint 22 = .ok (.getfield 7, 3) := by decide +kernel
theorem dX8_fingerprint_25 : decode cX8_fingerprint 25 = .ok (.iconst 1, 1) := by decide +kernel
theorem dX8_fingerprint_26 : decode cX8_fingerprint 26 = .ok (.iaload, 1) := by decide +kernel
theorem dX8_fingerprint_27 : decode cX8_fingerprint 27 = .ok (.i2l, 1) := by decide +kernel
theorem dX8_fingerprint_28 : decode cX8_fingerprint 28 = .ok (.ladd, 1) := by decide +kernel
theorem dX8_fingerprint_29 : decode cX8_fingerprint 29 = .ok (.lmul, 1) := by decide +kernel
theorem dX8_fingerprint_30 : decode cX8_fingerprint 30 = .ok (.aload_n 0, 1) := by decide +kernel
theorem dX8_fingerprint_31 : decode cX8_fingerprint 31 = .ok (.getfield 7, 3) := by decide +kernel
theorem dX8_fingerprint_34 : decode cX8_fingerprint 34 = .ok (.iconst 2, 1) := by decide +kernel
theorem dX8_fingerprint_35 : decode cX8_fingerprint 35 = .ok (.iaload, 1) := by decide +kernel
theorem dX8_fingerprint_36 : decode cX8_fingerprint 36 = .ok (.i2l, 1) := by decide +kernel
theorem dX8_fingerprint_37 : decode cX8_fingerprint 37 = .ok (.ladd, 1) := by decide +kernel
theorem dX8_fingerprint_38 : decode cX8_fingerprint 38 = .ok (.lmul, 1) := by decide +kernel
theorem dX8_fingerprint_39 : decode cX8_fingerprint 39 = .ok (.aload_n 0, 1) := by decide +kernel
theorem dX8_fingerprint_40 : decode cX8_fingerprint 40 = .ok (.getfield 7, 3) := by decide +kernel
theorem dX8_fingerprint_43 : decode cX8_fingerprint 43 = .ok (.iconst 3, 1) := by decide +kernel
theorem dX8_fingerprint_44 : decode cX8_fingerprint 44 = .ok (.iaload, 1) := by decide +kernel
theorem dX8_fingerprint_45 : decode cX8_fingerprint 45 = .ok (.i2l, 1) := by decide +kernel
theorem dX8_fingerprint_46 : decode cX8_fingerprint 46 = .ok (.ladd, 1) := by decide +kernel
theorem dX8_fingerprint_47 : decode cX8_fingerprint 47 = .ok (.lstore_n 1, 1) := by decide +kernel
theorem dX8_fingerprint_48 : decode cX8_fingerprint 48 = .ok (.iconst 0, 1) := by decide +kernel
theorem dX8_fingerprint_49 : decode cX8_fingerprint 49 = .ok (.istore_n 3, 1) := by decide +kernel
theorem dX8_fingerprint_50 : decode cX8_fingerprint 50 = .ok (.iload_n 3, 1) := by decide +kernel
theorem dX8_fingerprint_51 : decode cX8_fingerprint 51 = .ok (.aload_n 0, 1) := by decide +kernel
theorem dX8_fingerprint_52 : decode cX8_fingerprint 52 = .ok (.getfield 7, 3) := by decide +kernel
theorem dX8_fingerprint_55 : decode cX8_fingerprint 55 = .ok (.iconst 4, 1) := by decide +kernel
theorem dX8_fingerprint_56 : decode cX8_fingerprint 56 = .ok (.iaload, 1) := by decide +kernel
theorem dX8_fingerprint_57 : decode cX8_fingerprint 57 = .ok (.if_icmp .ge 44, 3) := by decide +kernel
theorem dX8_fingerprint_60 : decode cX8_fingerprint 60 = .ok (.iconst 0, 1) := by decide +kernel
theorem dX8_fingerprint_61 : decode cX8_fingerprint 61 = .ok (.istore 4, 2) := by decide +kernel
theorem dX8_fingerprint_63 : decode cX8_fingerprint 63 = .ok (.iload 4, 2) := by decide +kernel
theorem dX8_fingerprint_65 : decode cX8_fingerprint 65 = .ok (.iconst 5, 1) := by decide +kernel
theorem dX8_fingerprint_66 : decode cX8_fingerprint 66 = .ok (.if_icmp .ge 29, 3) := by decide +kernel
theorem dX8_fingerprint_69 : decode cX8_fingerprint 69 = .ok (.ldc2_w 208, 3) := by decide +kernel
theorem dX8_fingerprint_72 : decode cX8_fingerprint 72 = .ok (.lload_n 1, 1) := by decide +kernel
theorem dX8_fingerprint_73 : decode cX8_fingerprint 73 = .ok (.lmul, 1) := by decide +kernel
theorem dX8_fingerprint_74 : decode cX8_fingerprint 74 = .ok (.aload_n 0, 1) := by decide +kernel
theorem dX8_fingerprint_75 : decode cX8_fingerprint 75 = .ok (.getfield 7, 3) := by decide +kernel
theorem dX8_fingerprint_78 : decode cX8_fingerprint 78 = .ok (.iload_n 3, 1) := by decide +kernel
theorem dX8_fingerprint_79 : decode cX8_fingerprint 79 = .ok (.invokestatic 35, 3) := by decide +kernel
theorem dX8_fingerprint_82 : decode cX8_fingerprint 82 = .ok (.iload 4, 2) := by decide +kernel
theorem dX8_fingerprint_84 : decode cX8_fingerprint 84 = .ok (.iadd, 1) := by decide +kernel
theorem dX8_fingerprint_85 : decode cX8_fingerprint 85 = .ok (.iaload, 1) := by decide +kernel
theorem dX8_fingerprint_86 : decode cX8_fingerprint 86 = .ok (.i2l, 1) := by decide +kernel
theorem dX8_fingerprint_87 : decode cX8_fingerprint 87 = .ok (.ladd, 1) := by decide +kernel
theorem dX8_fingerprint_88 : decode cX8_fingerprint 88 = .ok (.lstore_n 1, 1) := by decide +kernel
theorem dX8_fingerprint_89 : decode cX8_fingerprint 89 = .ok (.iinc 4 1, 3) := by decide +kernel
theorem dX8_fingerprint_92 : decode cX8_fingerprint 92 = .ok (.goto (-29), 3) := by decide +kernel
theorem dX8_fingerprint_95 : decode cX8_fingerprint 95 = .ok (.iinc 3 1, 3) := by decide +kernel
theorem dX8_fingerprint_98 : decode cX8_fingerprint 98 = .ok (.goto (-48), 3) := by decide +kernel
theorem dX8_fingerprint_101 : decode cX8_fingerprint 101 = .ok (.iconst 0, 1) := by decide +kernel
theorem dX8_fingerprint_102 : decode cX8_fingerprint 102 = .ok (.istore_n 3, 1) := by decide +kernel
theorem dX8_fingerprint_103 : decode cX8_fingerprint 103 = .ok (.iload_n 3, 1) := by decide +kernel
theorem dX8_fingerprint_104 : decode cX8_fingerprint 104 = .ok (.iconst 4, 1) := by decide +kernel
theorem dX8_fingerprint_105 : decode cX8_fingerprint 105 = .ok (.if_icmp .ge 31, 3) := by decide +kernel
theorem dX8_fingerprint_108 : decode cX8_fingerprint 108 = .ok (.aload_n 0, 1) := by decide +kernel
theorem dX8_fingerprint_109 : decode cX8_fingerprint 109 = .ok (.getfield 7, 3) := by decide +kernel
theorem dX8_fingerprint_112 : decode cX8_fingerprint 112 = .ok (.iconst 0, 1) := by decide +kernel
theorem dX8_fingerprint_113 : decode cX8_fingerprint 113 = .ok (.iaload, 1) := by decide +kernel
theorem dX8_fingerprint_114 : decode cX8_fingerprint 114 = .ok (.ifCond .eq 22, 3) := by decide +kernel
theorem dX8_fingerprint_117 : decode cX8_fingerprint 117 = .ok (.ldc2_w 208, 3) := by decide +kernel
theorem dX8_fingerprint_120 : decode cX8_fingerprint 120 = .ok (.lload_n 1, 1) := by decide +kernel
theorem dX8_fingerprint_121 : decode cX8_fingerprint 121 = .ok (.lmul, 1) := by decide +kernel
theorem dX8_fingerprint_122 : decode cX8_fingerprint 122 = .ok (.aload_n 0, 1) := by decide +kernel
theorem dX8_fingerprint_123 : decode cX8_fingerprint 123 = .ok (.iload_n 3, 1) := by decide +kernel
theorem dX8_fingerprint_124 : decode cX8_fingerprint 124 = .ok (.invokevirtual 165, 3) := by decide +kernel
theorem dX8_fingerprint_127 : decode cX8_fingerprint 127 = .ok (.i2l, 1) := by decide +kernel
theorem dX8_fingerprint_128 : decode cX8_fingerprint 128 = .ok (.ladd, 1) := by decide +kernel
theorem dX8_fingerprint_129 : decode cX8_fingerprint 129 = .ok (.lstore_n 1, 1) := by decide +kernel
theorem dX8_fingerprint_130 : decode cX8_fingerprint 130 = .ok (.iinc 3 1, 3) := by decide +kernel
theorem dX8_fingerprint_133 : decode cX8_fingerprint 133 = .ok (.goto (-30), 3) := by decide +kernel
theorem dX8_fingerprint_136 : decode cX8_fingerprint 136 = .ok (.iconst 0, 1) := by decide +kernel
theorem dX8_fingerprint_137 : decode cX8_fingerprint 137 = .ok (.istore_n 3, 1) := by decide +kernel
theorem dX8_fingerprint_138 : decode cX8_fingerprint 138 = .ok (.iload_n 3, 1) := by decide +kernel
theorem dX8_fingerprint_139 : decode cX8_fingerprint 139 = .ok (.aload_n 0, 1) := by decide +kernel
theorem dX8_fingerprint_140 : decode cX8_fingerprint 140 = .ok (.getfield 7, 3) := by decide +kernel
theorem dX8_fingerprint_143 : decode cX8_fingerprint 143 = .ok (.iconst 4, 1) := by decide +kernel
theorem dX8_fingerprint_144 : decode cX8_fingerprint 144 = .ok (.iaload, 1) := by decide +kernel
theorem dX8_fingerprint_145 : decode cX8_fingerprint 145 = .ok (.if_icmp .ge 31, 3) := by decide +kernel
theorem dX8_fingerprint_148 : decode cX8_fingerprint 148 = .ok (.aload_n 0, 1) := by decide +kernel
theorem dX8_fingerprint_149 : decode cX8_fingerprint 149 = .ok (.getfield 7, 3) := by decide +kernel
theorem dX8_fingerprint_152 : decode cX8_fingerprint 152 = .ok (.iconst 0, 1) := by decide +kernel
theorem dX8_fingerprint_153 : decode cX8_fingerprint 153 = .ok (.iaload, 1) := by decide +kernel
theorem dX8_fingerprint_154 : decode cX8_fingerprint 154 = .ok (.ifCond .eq 22, 3) := by decide +kernel
theorem dX8_fingerprint_157 : decode cX8_fingerprint 157 = .ok (.ldc2_w 208, 3) := by decide +kernel
theorem dX8_fingerprint_160 : decode cX8_fingerprint 160 = .ok (.lload_n 1, 1) := by decide +kernel
theorem dX8_fingerprint_161 : decode cX8_fingerprint 161 = .ok (.lmul, 1) := by decide +kernel
theorem dX8_fingerprint_162 : decode cX8_fingerprint 162 = .ok (.aload_n 0, 1) := by decide +kernel
theorem dX8_fingerprint_163 : decode cX8_fingerprint 163 = .ok (.iload_n 3, 1) := by decide +kernel
theorem dX8_fingerprint_164 : decode cX8_fingerprint 164 = .ok (.invokevirtual 212, 3) := by decide +kernel
theorem dX8_fingerprint_167 : decode cX8_fingerprint 167 = .ok (.i2l, 1) := by decide +kernel
theorem dX8_fingerprint_168 : decode cX8_fingerprint 168 = .ok (.ladd, 1) := by decide +kernel
theorem dX8_fingerprint_169 : decode cX8_fingerprint 169 = .ok (.lstore_n 1, 1) := by decide +kernel
theorem dX8_fingerprint_170 : decode cX8_fingerprint 170 = .ok (.iinc 3 1, 3) := by decide +kernel
theorem dX8_fingerprint_173 : decode cX8_fingerprint 173 = .ok (.goto (-35), 3) := by decide +kernel
theorem dX8_fingerprint_176 : decode cX8_fingerprint 176 = .ok (.lload_n 1, 1) := by decide +kernel
theorem dX8_fingerprint_177 : decode cX8_fingerprint 177 = .ok (.lreturn, 1) := by decide +kernel
theorem dJ6_bitCount_0f7a4_0 : decode cJ6_bitCount_0f7a4 0 = .ok (.iload_n 0, 1) := by decide +kernel
theorem dJ6_bitCount_0f7a4_1 : decode cJ6_bitCount_0f7a4 1 = .ok (.iload_n 0, 1) := by decide +kernel
theorem dJ6_bitCount_0f7a4_2 : decode cJ6_bitCount_0f7a4 2 = .ok (.iconst 1, 1) := by decide +kernel
theorem dJ6_bitCount_0f7a4_3 : decode cJ6_bitCount_0f7a4 3 = .ok (.iushr, 1) := by decide +kernel
theorem dJ6_bitCount_0f7a4_4 : decode cJ6_bitCount_0f7a4 4 = .ok (.ldc_w 265, 3) := by decide +kernel
theorem dJ6_bitCount_0f7a4_7 : decode cJ6_bitCount_0f7a4 7 = .ok (.iand, 1) := by decide +kernel
theorem dJ6_bitCount_0f7a4_8 : decode cJ6_bitCount_0f7a4 8 = .ok (.isub, 1) := by decide +kernel
theorem dJ6_bitCount_0f7a4_9 : decode cJ6_bitCount_0f7a4 9 = .ok (.istore_n 0, 1) := by decide +kernel
theorem dJ6_bitCount_0f7a4_10 : decode cJ6_bitCount_0f7a4 10 = .ok (.iload_n 0, 1) := by decide +kernel
theorem dJ6_bitCount_0f7a4_11 : decode cJ6_bitCount_0f7a4 11 = .ok (.ldc_w 266, 3) := by decide +kernel
theorem dJ6_bitCount_0f7a4_14 : decode cJ6_bitCount_0f7a4 14 = .ok (.iand, 1) := by decide +kernel
theorem dJ6_bitCount_0f7a4_15 : decode cJ6_bitCount_0f7a4 15 = .ok (.iload_n 0, 1) := by decide +kernel
theorem dJ6_bitCount_0f7a4_16 : decode cJ6_bitCount_0f7a4 16 = .ok (.iconst 2, 1) := by decide +kernel
theorem dJ6_bitCount_0f7a4_17 : decode cJ6_bitCount_0f7a4 17 = .ok (.iushr, 1) := by decide +kernel
theorem dJ6_bitCount_0f7a4_18 : decode cJ6_bitCount_0f7a4 18 = .ok (.ldc_w 266, 3) := by decide +kernel
theorem dJ6_bitCount_0f7a4_21 : decode cJ6_bitCount_0f7a4 21 = .ok (.iand, 1) := by decide +kernel
theorem dJ6_bitCount_0f7a4_22 : decode cJ6_bitCount_0f7a4 22 = .ok (.iadd, 1) := by decide +kernel
theorem dJ6_bitCount_0f7a4_23 : decode cJ6_bitCount_0f7a4 23 = .ok (.istore_n 0, 1) := by decide +kernel
theorem dJ6_bitCount_0f7a4_24 : decode cJ6_bitCount_0f7a4 24 = .ok (.iload_n 0, 1) := by decide +kernel
theorem dJ6_bitCount_0f7a4_25 : decode cJ6_bitCount_0f7a4 25 = .ok (.iload_n 0, 1) := by decide +kernel
theorem dJ6_bitCount_0f7a4_26 : decode cJ6_bitCount_0f7a4 26 = .ok (.iconst 4, 1) := by decide +kernel
theorem dJ6_bitCount_0f7a4_27 : decode cJ6_bitCount_0f7a4 27 = .ok (.iushr, 1) := by decide +kernel
theorem dJ6_bitCount_0f7a4_28 : decode cJ6_bitCount_0f7a4 28 = .ok (.iadd, 1) := by decide +kernel
theorem dJ6_bitCount_0f7a4_29 : decode cJ6_bitCount_0f7a4 29 = .ok (.ldc_w 267, 3) := by decide +kernel
theorem dJ6_bitCount_0f7a4_32 : decode cJ6_bitCount_0f7a4 32 = .ok (.iand, 1) := by decide +kernel
theorem dJ6_bitCount_0f7a4_33 : decode cJ6_bitCount_0f7a4 33 = .ok (.istore_n 0, 1) := by decide +kernel
theorem dJ6_bitCount_0f7a4_34 : decode cJ6_bitCount_0f7a4 34 = .ok (.iload_n 0, 1) := by decide +kernel
theorem dJ6_bitCount_0f7a4_35 : decode cJ6_bitCount_0f7a4 35 = .ok (.iload_n 0, 1) := by decide +kernel
theorem dJ6_bitCount_0f7a4_36 : decode cJ6_bitCount_0f7a4 36 = .ok (.bipush 8, 2) := by decide +kernel
theorem dJ6_bitCount_0f7a4_38 : decode cJ6_bitCount_0f7a4 38 = .ok (.iushr, 1) := by decide +kernel
theorem dJ6_bitCount_0f7a4_39 : decode cJ6_bitCount_0f7a4 39 = .ok (.iadd, 1) := by decide +kernel
theorem dJ6_bitCount_0f7a4_40 : decode cJ6_bitCount_0f7a4 40 = .ok (.istore_n 0, 1) := by decide +kernel
theorem dJ6_bitCount_0f7a4_41 : decode cJ6_bitCount_0f7a4 41 = .ok (.iload_n 0, 1) := by decide +kernel
theorem dJ6_bitCount_0f7a4_42 : decode cJ6_bitCount_0f7a4 42 = .ok (.iload_n 0, 1) := by decide +kernel
theorem dJ6_bitCount_0f7a4_43 : decode cJ6_bitCount_0f7a4 43 = .ok (.bipush 16, 2) := by decide +kernel
theorem dJ6_bitCount_0f7a4_45 : decode cJ6_bitCount_0f7a4 45 = .ok (.iushr, 1) := by decide +kernel
theorem dJ6_bitCount_0f7a4_46 : decode cJ6_bitCount_0f7a4 46 = .ok (.iadd, 1) := by decide +kernel
theorem dJ6_bitCount_0f7a4_47 : decode cJ6_bitCount_0f7a4 47 = .ok (.istore_n 0, 1) := by decide +kernel
theorem dJ6_bitCount_0f7a4_48 : decode cJ6_bitCount_0f7a4 48 = .ok (.iload_n 0, 1) := by decide +kernel
theorem dJ6_bitCount_0f7a4_49 : decode cJ6_bitCount_0f7a4 49 = .ok (.bipush 63, 2) := by decide +kernel
theorem dJ6_bitCount_0f7a4_51 : decode cJ6_bitCount_0f7a4 51 = .ok (.iand, 1) := by decide +kernel
theorem dJ6_bitCount_0f7a4_52 : decode cJ6_bitCount_0f7a4 52 = .ok (.ireturn, 1) := by decide +kernel
theorem dJ9_max_7cf53_0 : decode cJ9_max_7cf53 0 = .ok (.iload_n 0, 1) := by decide +kernel
theorem dJ9_max_7cf53_1 : decode cJ9_max_7cf53 1 = .ok (.iload_n 1, 1) := by decide +kernel
theorem dJ9_max_7cf53_2 : decode cJ9_max_7cf53 2 = .ok (.if_icmp .lt 7, 3) := by decide +kernel
theorem dJ9_max_7cf53_5 : decode cJ9_max_7cf53 5 = .ok (.iload_n 0, 1) := by decide +kernel
theorem dJ9_max_7cf53_6 : decode cJ9_max_7cf53 6 = .ok (.goto 4, 3) := by decide +kernel
theorem dJ9_max_7cf53_9 : decode cJ9_max_7cf53 9 = .ok (.iload_n 1, 1) := by decide +kernel
theorem dJ9_max_7cf53_10 : decode cJ9_max_7cf53 10 = .ok (.ireturn, 1) := by decide +kernel
theorem dJ9_min_7cf53_0 : decode cJ9_min_7cf53 0 = .ok (.iload_n 0, 1) := by decide +kernel
theorem dJ9_min_7cf53_1 : decode cJ9_min_7cf53 1 = .ok (.iload_n 1, 1) := by decide +kernel
theorem dJ9_min_7cf53_2 : decode cJ9_min_7cf53 2 = .ok (.if_icmp .gt 7, 3) := by decide +kernel
theorem dJ9_min_7cf53_5 : decode cJ9_min_7cf53 5 = .ok (.iload_n 0, 1) := by decide +kernel
theorem dJ9_min_7cf53_6 : decode cJ9_min_7cf53 6 = .ok (.goto 4, 3) := by decide +kernel
theorem dJ9_min_7cf53_9 : decode cJ9_min_7cf53 9 = .ok (.iload_n 1, 1) := by decide +kernel
theorem dJ9_min_7cf53_10 : decode cJ9_min_7cf53 10 = .ok (.ireturn, 1) := by decide +kernel
end
section
abbrev St : Type := Nat → Nat → Int32
abbrev Tc : Type := ClassId × ClassId × ClassId
def kl (j : Nat) : Nat := if j = 0 then 3 else if j = 1 then 9 else if j = 2 then 7 else if j = 3 then 0 else if j = 4 then 7 else if j < 13 then 4 else 7
def km (j : Nat) : Nat := if j = 0 then 5 else if j = 1 then 2 else if j = 2 then 8 else if j = 3 then 1 else if j = 7 then 6 else 7
/-- the kind of the object of number o: its class's place in vwCl, 7 an int row, 8 a row of Lab, 9 a row of Person -/
def kd (o : Nat) : Nat := if o < 145 then kl (o % 29) else km (o - 145)
def ln (o : Nat) : Nat := if o < 145 then (if o % 29 = 4 then 96 else 8) else if o = 147 then 4 else if o = 149 then 256 else if o = 150 then 256 else if o = 151 then 8 else if o = 153 then 420 else if o = 154 then 1680 else if o = 155 then 8 else 256
def nf (c : Nat) : Nat := match c with | 0 => 8 | 1 => 5 | 2 => 2 | 3 => 14 | 4 => 12 | 5 => 3 | _ => 7
def rt (c k o : Nat) : Option Nat := match c, k with
  | 0, 7 => some (o + 1)
  | 1, 0 => some (o + 1)
  | 1, 1 => some (o + 2)
  | 1, 2 => some (o + 3)
  | 2, 0 => some (o + 1)
  | 3, 0 => some (o + 1)
  | 3, 1 => some (o + 2)
  | 3, 2 => some (o + 3)
  | 4, 10 => some (o + 8)
  | 4, 11 => some (o + 16)
  | 5, 0 => some 0
  | 5, 1 => some 146
  | 5, 2 => some 148
  | 6, 0 => some 153
  | 6, 1 => some 154
  | 6, 3 => some 155
  | 6, 6 => some 156
  | _, _ => none
def fv (ad : Nat → Nat) (f : Nat → Int32) (c o k : Nat) : Value := match rt c k o with
  | none => .int (f k)
  | some t => .ref (ad t)
def cel (tc : Tc) (ad : Nat → Nat) (f : Nat → Int32) (o : Nat) : va_E :=
  if kd o < 7 then .inr (kd o, (List.range (nf (kd o))).map (fv ad f (kd o) o))
  else if kd o = 7 then .inl (tc.1, ln o, .inl f)
  else if kd o = 8 then .inl (tc.2.1, ln o, .inr (.inr (.inr (.inr (fun k => some (ad (29 * (f k).toNatClampNeg)))))))
  else .inl (tc.2.2, ln o, .inr (.inr (.inr (.inr (fun k => some (ad (o + 4 + k)))))))
def wl (tc : Tc) (ad : Nat → Nat) (J : St) : va_W := (List.range 157).map fun o => (ad o, cel tc ad (J o) o)
def ur (J : St) (o : Nat) (f : Nat → Int32) : St := fun q => if q = o then f else J q
def u2 (J : St) (o k : Nat) (x : Int32) : St := ur J o (upd (J o) k x)
def cmb (I M : St) : St := fun o => if o < 152 then I o else M (o - 152)
def adok (ad : Nat → Nat) (A : Nat → Prop) : Prop := (∀ i j, i < 157 → j < 157 → ad i = ad j → i = j) ∧ ∀ o, o < 157 → A (ad o)
theorem cmb_lt {I M : St} {o : Nat} (h : o < 152) : cmb I M o = I o := if_pos h
theorem cmb_ge {I M : St} {o : Nat} (h : 152 ≤ o) : cmb I M o = M (o - 152) := if_neg (Nat.not_lt.mpr h)
theorem ur_lt {I M : St} {o : Nat} {f : Nat → Int32} (h : o < 152) : ur (cmb I M) o f = cmb (ur I o f) M := by
  funext q
  by_cases e : q = o
  · subst e
    simp [ur, cmb, h]
  · simp [ur, cmb, e]
theorem ur_ge {I M : St} {o : Nat} {f : Nat → Int32} (h : 152 ≤ o) : ur (cmb I M) o f = cmb I (ur M (o - 152) f) := by
  funext q
  by_cases e : q = o
  · subst e
    simp [ur, cmb, Nat.not_lt.mpr h]
  · by_cases e2 : q < 152
    · simp [ur, cmb, e, e2]
    · have : q - 152 ≠ o - 152 := by omega
      simp [ur, cmb, e, e2, this]
theorem wl_at {tc : Tc} {ad : Nat → Nat} {J : St} {o : Nat} (h : o < 157) : (wl tc ad J)[o]? = some (ad o, cel tc ad (J o) o) := by
  simp [wl, List.getElem?_map, List.getElem?_range h]
theorem wl_len {tc : Tc} {ad : Nat → Nat} {J : St} : (wl tc ad J).length = 157 := by simp [wl]
theorem wl_inv {tc : Tc} {ad : Nat → Nat} {J : St} {o : Nat} {q : Nat × va_E} (h : (wl tc ad J)[o]? = some q) : o < 157 ∧ q = (ad o, cel tc ad (J o) o) := by
  have h1 : o < 157 := by
    have := (List.getElem?_eq_some_iff.mp h).1
    rwa [wl_len] at this
  rw [wl_at h1] at h
  exact ⟨h1, (Option.some.inj h).symm⟩
theorem wl_set {tc : Tc} {ad : Nat → Nat} {J : St} {o : Nat} {f : Nat → Int32} (h : o < 157) : (wl tc ad J).set o (ad o, cel tc ad f o) = wl tc ad (ur J o f) := by
  apply List.ext_getElem?
  intro k
  by_cases hk : k = o
  · subst hk
    rw [List.getElem?_set_self (by rw [wl_len]; exact h), wl_at h]
    simp [ur]
  · rw [List.getElem?_set_ne (Ne.symm hk)]
    by_cases hk2 : k < 157
    · rw [wl_at hk2, wl_at hk2]
      simp [ur, hk]
    · rw [List.getElem?_eq_none (by rw [wl_len]; omega), List.getElem?_eq_none (by rw [wl_len]; omega)]
theorem wl_D {tc : Tc} {ad : Nat → Nat} {A : Nat → Prop} {J : St} (h : adok ad A) : va_D A (wl tc ad J) := by
  refine ⟨fun i j p q hi hj hpq => ?_, fun k q hk => ?_⟩
  · obtain ⟨i1, rfl⟩ := wl_inv hi
    obtain ⟨j1, rfl⟩ := wl_inv hj
    exact h.1 i j i1 j1 hpq
  · obtain ⟨k1, rfl⟩ := wl_inv hk
    exact h.2 k k1
theorem cel_obj {tc : Tc} {ad : Nat → Nat} {f : Nat → Int32} {o ci : Nat} (h : kd o = ci) (h2 : ci < 7) : cel tc ad f o = .inr (ci, (List.range (nf ci)).map (fv ad f ci o)) := by
  subst h
  exact if_pos h2
theorem cel_int {tc : Tc} {ad : Nat → Nat} {f : Nat → Int32} {o : Nat} (h : kd o = 7) : cel tc ad f o = .inl (tc.1, ln o, .inl f) := by
  unfold cel
  rw [h]
  rfl
theorem cel_lab {tc : Tc} {ad : Nat → Nat} {f : Nat → Int32} {o : Nat} (h : kd o = 8) : cel tc ad f o = .inl (tc.2.1, ln o, .inr (.inr (.inr (.inr (fun k => some (ad (29 * (f k).toNatClampNeg))))))) := by
  unfold cel
  rw [h]
  rfl
theorem cel_per {tc : Tc} {ad : Nat → Nat} {f : Nat → Int32} {o : Nat} (h : kd o = 9) : cel tc ad f o = .inl (tc.2.2, ln o, .inr (.inr (.inr (.inr (fun k => some (ad (o + 4 + k))))))) := by
  unfold cel
  rw [h]
  rfl
theorem fs_set {ad : Nat → Nat} {f : Nat → Int32} {c o k n : Nat} {x : Int32} (hrt : rt c k o = none) (hk : k < n) : ((List.range n).map (fv ad f c o)).set k (.int x) = (List.range n).map (fv ad (upd f k x) c o) := by
  apply List.ext_getElem?
  intro j
  by_cases hj : j = k
  · subst hj
    rw [List.getElem?_set_self (by simp [hk]), List.getElem?_map, List.getElem?_range hk]
    simp [fv, hrt, upd]
  · rw [List.getElem?_set_ne (Ne.symm hj), List.getElem?_map, List.getElem?_map]
    by_cases hj2 : j < n
    · rw [List.getElem?_range hj2]
      simp [fv, upd, hj]
    · rw [List.getElem?_eq_none (by simp; omega)]
      rfl
/-! value functions: a checked step, a named value, a call -/
def inb (x : Int32) (n : Nat) : Bool := !(decide (x < 0) || decide (n ≤ x.toNatClampNeg))
def ck {β : Type} (b : Bool) (k : Option β) : Option β := if b = true then k else none
def lb {α β : Type} (a : α) (f : α → β) : β := f a
def ob1 {α β : Type} (x : Option α) (f : α → Option β) : Option β := match x with
  | none => none
  | some a => f a
def ob2 {α γ β : Type} (x : Option (α × γ)) (f : α → γ → Option β) : Option β := match x with
  | none => none
  | some a => f a.1 a.2
def irem (x y : Int32) : Int32 := x - x / y * y
def ishl (x y : Int32) : Int32 := x <<< (y &&& 31)
def ishr (x y : Int32) : Int32 := x >>> (y &&& 31)
def iushr (x y : Int32) : Int32 := (x.toUInt32 >>> (y.toUInt32 &&& Int32.toUInt32 31)).toInt32
def imin (x y : Int32) : Int32 := if y < x then y else x
def imax (x y : Int32) : Int32 := if x < y then y else x
def lrem (x y : Int64) : Int64 := x - x / y * y
theorem inb_in {x : Int32} {n : Nat} (h : inb x n = true) : vp_in x n := by
  simpa [inb, vp_in] using h
theorem inb_lt {x : Int32} {n : Nat} (h : inb x n = true) : x.toNatClampNeg < n := Nat.not_le.mp fun q => inb_in h (Or.inr q)
theorem ck_some {β : Type} {b : Bool} {k : Option β} {r : β} (h : ck b k = some r) : b = true ∧ k = some r := by
  cases b
  · cases h
  · exact ⟨rfl, h⟩
theorem ob1_some {α β : Type} {x : Option α} {f : α → Option β} {r : β} (h : ob1 x f = some r) : ∃ a, x = some a ∧ f a = some r := by
  cases x with
  | none => cases h
  | some a => exact ⟨a, rfl, h⟩
theorem ob2_some {α γ β : Type} {x : Option (α × γ)} {f : α → γ → Option β} {r : β} (h : ob2 x f = some r) : ∃ a b, x = some (a, b) ∧ f a b = some r := by
  cases x with
  | none => cases h
  | some a => exact ⟨a.1, a.2, rfl, h⟩
/-! what holds of a method's state -/
def nwl : List (String × Nat × MethodName × String) := [(RX4, 23, yX0_init, "OwnerlessCoin"), (RX4, 44, yX5_init, "OwnerlessCoin"), (RX7, 25, yX1_init, "OwnerlessCoin"), (RX4, 103, yX7_mix, "OwnerlessCoin"), (RX4, 76, yX7_has, "OwnerlessCoin"), (RX5, 55, yX7_power, "OwnerlessCoin"), (RX5, 59, yX7_stepped, "OwnerlessCoin"), (RX5, 63, yX7_drawn, "OwnerlessCoin"), (RX6, 10, yX7_product, "OwnerlessCoin"), (RX5, 75, yX7_product, "OwnerlessCoin"), (RX2, 47, yX7_has, "OwnerlessCoin"), (RX2, 51, yX7_stepped, "OwnerlessCoin"), (RX2, 55, yX7_drawn, "OwnerlessCoin"), (RX5, 78, yX7_has, "OwnerlessCoin"), (RX1, 70, yX7_has, "OwnerlessCoin"), (RX6, 15, yX7_power, "OwnerlessCoin"), (RX6, 18, yX7_mix, "OwnerlessCoin")]
def kk (D : va_G) (tc : Tc) (U : State) : Prop := va_K D vwCl [(tc.1, .int), (tc.2.1, .object RX4), (tc.2.2, .object RX5)] U ∧ (∀ q ∈ nwl, va_Nw (.methodLinkNest q.1 q.2.1 q.2.2.1 q.2.2.2) U) ∧ va_AO RX4 U ∧ va_AO RX5 U
theorem kk_warm {D : va_G} {tc : Tc} {s U : State} (h : kk D tc s) (hW : s.WarmedH U.vm) : kk D tc U := ⟨va_K.moved hW.alike h.1, fun q hq => va_Nw.warmM hW (h.2.1 q hq), h.2.2.1.moved hW.alike, h.2.2.2.moved hW.alike⟩
theorem kk_same {D : va_G} {tc : Tc} {u U : State} (h : kk D tc u) (e : u.vm = U.vm) : kk D tc U := by
  have ha : u.vm.Alike U.vm := by rw [e]; exact Vm.Alike.refl _
  exact ⟨va_K.moved ha h.1, fun q hq => va_Nw.same rfl e (h.2.1 q hq), h.2.2.1.moved ha, h.2.2.2.moved ha⟩
def cx (p : Program) (s : State) (m : MethodId) (args : Array Value) (c : Code) (cc : ByteArray) (nL : Nat) (own : String) (D : va_G) (tc : Tc) (ad : Nat → Nat) (A : Nat → Prop) : Prop :=
  p.tables.exec = Jvm.exec ∧ c.code = cc ∧ c.maxLocals = nL ∧ s.vm.findClass own = some m.cls ∧ (∀ w ∈ tw, w.before args s = true) ∧ kk D tc s ∧ adok ad A
def cok (ci : Nat) (C : String) (T : u_T) (N : Nat) : Prop := vwCl[ci]? = some (C, T, N) ∧ nf ci = N ∧ ci < 7 ∧ (∀ w ∈ u_ws C T N, w ∈ tw) ∧ (∃ ty : Nat → FieldType, ∀ k, k < N → parseFieldDescriptor (T k).2.2.1 = some (ty k)) ∧ (∀ a, a < N → ∀ b, b < N → a ≠ b → (T a).2.1 ≠ (T b).2.1)
def pre (D : va_G) (tc : Tc) (ad : Nat → Nat) (vals : List Value) (J : St) : Array Value → State → Prop := va_Pc vals (fun U => va_P D vwCl (wl tc ad J) U.heap ∧ kk D tc U)
def qi (D : va_G) (tc : Tc) (ad : Nat → Nat) (A : Nat → Prop) (r : Int32) (J : St) : Array Value → State → Outcome → State → Prop := va_Qi (fun (x : Int32) (_ : Unit) => x = r) (fun _ t => va_P D vwCl (wl tc ad J) t.heap) A
def ql (D : va_G) (tc : Tc) (ad : Nat → Nat) (A : Nat → Prop) (r : Int64) (J : St) : Array Value → State → Outcome → State → Prop := va_Ql (fun (x : Int64) (_ : Unit) => x = r) (fun _ t => va_P D vwCl (wl tc ad J) t.heap) A
def qv (D : va_G) (tc : Tc) (ad : Nat → Nat) (A : Nat → Prop) (J : St) : Array Value → State → Outcome → State → Prop := va_Qv (fun (_ : Unit) => True) (fun _ t => va_P D vwCl (wl tc ad J) t.heap) A
theorem pre_blind {D : va_G} {tc : Tc} {ad : Nat → Nat} {vals : List Value} {J : St} : FrameBlind (pre D tc ad vals J) := by
  intro a U g mk h
  exact ⟨h.1, h.2.1, kk_same h.2.2 rfl⟩
theorem goodIn_tw {ws : List Cond} (h : ∀ w ∈ ws, w ∈ tw) : GoodIn tw ws := fun w hw => ⟨h w hw, good_of_word (List.mem_filter.mp (h w hw)).2⟩


section
variable {p : Program} {l : Launch} {e : Env} {R : Room} {s : State} {m : MethodId} {args : Array Value} {below : List Frame} {meth : Method} {c : Code} {H : Heap} {locs : List Loc} {Q : State → Prop}
variable {cc : ByteArray} {pc nL : Nat} {ls : Array Slot} {rest st0 : List Value} {D : va_G} {tc : Tc} {ad : Nat → Nat} {A : Nat → Prop} {own : String} {I M J J' : St} {β : Type} {r : β}
theorem j_get (hX : cx p s m args c cc nL own D tc ad A) (hP : va_P D vwCl (wl tc ad J) H) {ci N : Nat} {C : String} {T : u_T} (h : cok ci C T N) {o k : Nat} (ho : o < 157) (hkd : kd o = ci) (hk : k < N) {index : Nat} (hq : Cond.fieldLink own index (T k).1 (T k).2.1 (T k).2.2.1 ∈ tw) {v : Value} (hv : fv ad (J o) ci o k = v) (hd : decode cc pc = .ok (.getfield index, 3))
    (kk : W p l e R s m args below meth c H locs 0 0 Q (F0 m (pc + 3) ls (v :: rest))) : W p l e R s m args below meth c H locs 0 0 Q (F0 m pc ls (.ref (ad o) :: rest)) := by
  obtain ⟨h1, h2, h3, h4, h5, h6⟩ := h
  obtain ⟨hx, hb, hml, hown, hts, hK, hA⟩ := hX
  refine va_get (D := D) (ci := ci) (C := C) (T := T) (N := N) (fs := (List.range (nf ci)).map (fv ad (J o) ci o)) hx hb hts h4 hown hK.1 hP o ((wl_at ho).trans (by rw [cel_obj hkd h3])) h1 k hk (hts _ hq) (fun _ h9 => h9) (v := v) ?_ hd kk
  rw [h2, List.getElem?_map, List.getElem?_range hk]
  simp [hv]
theorem j_put (hX : cx p s m args c cc nL own D tc ad A) (hP : va_P D vwCl (wl tc ad J) H) (hS : va_S A s.heap H locs) {ci N : Nat} {C : String} {T : u_T} (h : cok ci C T N) {o k : Nat} (ho : o < 157) (hkd : kd o = ci) (hk : k < N) (hrt : rt ci k o = none) (hf : (T k).2.2.2 = false) {index : Nat} (hq : Cond.fieldLink own index (T k).1 (T k).2.1 (T k).2.2.1 ∈ tw) {ty : FieldType} (hty : parseFieldDescriptor (T k).2.2.1 = some ty) {x : Int32} (hn : narrow ty (.int x) = .int x) (hfit : fits ty (.int x) = true) (hd : decode cc pc = .ok (.putfield index, 3))
    (kk : ∀ (H1 : Heap) (locs1 : List Loc), va_P D vwCl (wl tc ad (ur J o (upd (J o) k x))) H1 → va_S A s.heap H1 locs1 → W p l e R s m args below meth c H1 locs1 0 0 Q (F0 m (pc + 3) ls rest)) : W p l e R s m args below meth c H locs 0 0 Q (F0 m pc ls (.int x :: .ref (ad o) :: rest)) := by
  obtain ⟨h1, h2, h3, h4, ⟨ty0, h5⟩, h6⟩ := h
  obtain ⟨hx, hb, hml, hown, hts, hK, hA⟩ := hX
  refine va_put (D := D) (ci := ci) (C := C) (T := T) (N := N) (fs := (List.range (nf ci)).map (fv ad (J o) ci o)) hx hb hts h4 ty0 h5 h6 hown hK.1 hP (wl_D hA) hS o ((wl_at ho).trans (by rw [cel_obj hkd h3])) h1 k hk (hts _ hq) (fun _ h9 => h9) hf hty hn hfit (by simp [h2, hk]) hd (fun H1 locs1 hP1 _ hS1 => kk H1 locs1 ?_ hS1)
  rw [fs_set hrt (by rw [h2]; exact hk), ← cel_obj (tc := tc) hkd h3, wl_set ho] at hP1
  exact hP1
theorem j_ald (hX : cx p s m args c cc nL own D tc ad A) (hP : va_P D vwCl (wl tc ad J) H) {o n : Nat} (ho : o < 157) (hkd : kd o = 7) (hn : ln o = n) {i : Int32} (hin : inb i n = true) (hd : decode cc pc = .ok (.iaload, 1))
    (kk : W p l e R s m args below meth c H locs 0 0 Q (F0 m (pc + 1) ls (.int (J o i.toNatClampNeg) :: rest))) : W p l e R s m args below meth c H locs 0 0 Q (F0 m pc ls (.int i :: .ref (ad o) :: rest)) := by
  obtain ⟨hx, hb, hml, hown, hts, hK, hA⟩ := hX
  exact va_iald (D := D) hx hb hK.1 hP o 0 (n := n) ((wl_at ho).trans (by rw [cel_int hkd, hn])) rfl (inb_in hin) hd kk
theorem j_ast (hX : cx p s m args c cc nL own D tc ad A) (hP : va_P D vwCl (wl tc ad J) H) (hS : va_S A s.heap H locs) {o n : Nat} (ho : o < 157) (hkd : kd o = 7) (hn : ln o = n) {i x : Int32} (hin : inb i n = true) (hd : decode cc pc = .ok (.iastore, 1))
    (kk : ∀ (H1 : Heap) (locs1 : List Loc), va_P D vwCl (wl tc ad (ur J o (upd (J o) i.toNatClampNeg x))) H1 → va_S A s.heap H1 locs1 → W p l e R s m args below meth c H1 locs1 0 0 Q (F0 m (pc + 1) ls rest)) : W p l e R s m args below meth c H locs 0 0 Q (F0 m pc ls (.int x :: .int i :: .ref (ad o) :: rest)) := by
  obtain ⟨hx, hb, hml, hown, hts, hK, hA⟩ := hX
  refine va_iast (D := D) hx hb hK.1 hP (wl_D hA) hS o 0 (n := n) ((wl_at ho).trans (by rw [cel_int hkd, hn])) rfl (inb_in hin) hd (fun H1 locs1 hP1 _ hS1 => kk H1 locs1 ?_ hS1)
  rw [← hn, ← cel_int (tc := tc) (ad := ad) hkd, wl_set ho] at hP1
  exact hP1
theorem j_ldq (hX : cx p s m args c cc nL own D tc ad A) (hP : va_P D vwCl (wl tc ad J) H) {o : Nat} (ho : o < 157) (hkd : kd o = 9) (hn : ln o = 8) {i : Int32} (hin : inb i 8 = true) (hd : decode cc pc = .ok (.aaload, 1))
    (kk : W p l e R s m args below meth c H locs 0 0 Q (F0 m (pc + 1) ls (.ref (ad (o + 4 + i.toNatClampNeg)) :: rest))) : W p l e R s m args below meth c H locs 0 0 Q (F0 m pc ls (.int i :: .ref (ad o) :: rest)) := by
  obtain ⟨hx, hb, hml, hown, hts, hK, hA⟩ := hX
  exact va_aldq (D := D) hx hb hK.1 hP o 2 (f := fun k => some (ad (o + 4 + k))) (n := 8) (C := RX5) ((wl_at ho).trans (by rw [cel_per hkd, hn])) rfl (inb_in hin) hd kk
theorem j_ldL (hX : cx p s m args c cc nL own D tc ad A) (hP : va_P D vwCl (wl tc ad J) H) {o : Nat} (ho : o < 157) (hkd : kd o = 8) (hn : ln o = 4) {i : Int32} (hin : inb i 4 = true) (hd : decode cc pc = .ok (.aaload, 1))
    (kk : W p l e R s m args below meth c H locs 0 0 Q (F0 m (pc + 1) ls (.ref (ad (29 * (J o i.toNatClampNeg).toNatClampNeg)) :: rest))) : W p l e R s m args below meth c H locs 0 0 Q (F0 m pc ls (.int i :: .ref (ad o) :: rest)) := by
  obtain ⟨hx, hb, hml, hown, hts, hK, hA⟩ := hX
  exact va_aldq (D := D) hx hb hK.1 hP o 1 (f := fun k => some (ad (29 * (J o k).toNatClampNeg))) (n := 4) (C := RX4) ((wl_at ho).trans (by rw [cel_lab hkd, hn])) rfl (inb_in hin) hd kk
theorem kd_lab {n : Nat} (h : n < 5) : kd (29 * n) = 3 := by
  have : ∀ n, n < 5 → kd (29 * n) = 3 := by decide
  exact this n h
theorem j_stL (hX : cx p s m args c cc nL own D tc ad A) (hP : va_P D vwCl (wl tc ad J) H) (hS : va_S A s.heap H locs) {o : Nat} (ho : o < 157) (hkd : kd o = 8) (hn : ln o = 4) {i x : Int32} (hin : inb i 4 = true) (hxn : inb x 5 = true) (hd : decode cc pc = .ok (.aastore, 1))
    (kk : ∀ (H1 : Heap) (locs1 : List Loc), va_P D vwCl (wl tc ad (ur J o (upd (J o) i.toNatClampNeg x))) H1 → va_S A s.heap H1 locs1 → W p l e R s m args below meth c H1 locs1 0 0 Q (F0 m (pc + 1) ls rest)) : W p l e R s m args below meth c H locs 0 0 Q (F0 m pc ls (.ref (ad (29 * x.toNatClampNeg)) :: .int i :: .ref (ad o) :: rest)) := by
  obtain ⟨hx, hb, hml, hown, hts, hK, hA⟩ := hX
  have hx5 := inb_lt hxn
  refine va_astq (D := D) hx hb hK.1 hP (wl_D hA) hS o 1 (29 * x.toNatClampNeg) 3 (r := (RX4, TX4, 14)) (n := 4) (vs := (List.range (nf 3)).map (fv ad (J (29 * x.toNatClampNeg)) 3 (29 * x.toNatClampNeg))) ((wl_at ho).trans (by rw [cel_lab hkd, hn])) rfl ((wl_at (by omega)).trans (by rw [cel_obj (kd_lab hx5) (by decide)])) rfl (inb_in hin) hd (fun H1 locs1 hP1 _ hS1 => kk H1 locs1 ?_ hS1)
  have e : (va_up (fun k => some (ad (29 * (J o k).toNatClampNeg))) i.toNatClampNeg (some (ad (29 * x.toNatClampNeg)))) = (fun k => some (ad (29 * (upd (J o) i.toNatClampNeg x k).toNatClampNeg))) := by
    funext k
    by_cases hk : k = i.toNatClampNeg
    · simp [va_up, upd, hk]
    · simp [va_up, upd, hk]
  rw [e, ← hn, ← cel_lab hkd, wl_set ho] at hP1
  exact hP1
theorem j_len (hX : cx p s m args c cc nL own D tc ad A) (hP : va_P D vwCl (wl tc ad J) H) {o n : Nat} (ho : o < 157) (hkd : kd o = 7) (hn : ln o = n) {v : Int32} (hv : Int32.ofNat n = v) (hd : decode cc pc = .ok (.arraylength, 1))
    (kk : W p l e R s m args below meth c H locs 0 0 Q (F0 m (pc + 1) ls (.int v :: rest))) : W p l e R s m args below meth c H locs 0 0 Q (F0 m pc ls (.ref (ad o) :: rest)) := by
  obtain ⟨hx, hb, hml, hown, hts, hK, hA⟩ := hX
  exact va_alen (D := D) hx hb hK.1 hP o 0 ((wl_at ho).trans (by rw [cel_int hkd])) rfl (by rw [hn]; exact hv) hd kk
theorem j_cpy (hX : cx p s m args c cc nL own D tc ad A) (hP : va_P D vwCl (wl tc ad J) H) (hS : va_S A s.heap H locs) (hsz : ls.size = nL) {index : Nat} (hq : Cond.methodLink own index arraycopyName ∈ tw) (hq1 : Cond.native arraycopyName ∈ tw) (hq2 : Cond.static arraycopyName ∈ tw) (hq3 : Cond.initialized "java/lang/System" ∈ tw) {o0 o1 n : Nat} (h0 : o0 < 157) (k0 : kd o0 = 7) (n0 : ln o0 = n) (h1 : o1 < 157) (k1 : kd o1 = 7) (n1 : ln o1 = n) {x : Int32} (hx1 : ¬ x < 0) (hxn : x.toNatClampNeg = n) (hfr : 1 ≤ R.frames) (hlo : (rest.map fun v => v.category).sum + (nativeFrameWords "java/lang/System" "arraycopy" 5 + 11) ≤ R.locals) (hd : decode cc pc = .ok (.invokestatic index, 3))
    (kk : ∀ (H1 : Heap) (locs1 : List Loc), va_P D vwCl (wl tc ad (ur J o1 (va_cpy (J o0) (J o1) 0 0 n))) H1 → va_S A s.heap H1 locs1 → W p l e R s m args below meth c H1 locs1 0 0 Q (F0 m (pc + 3) ls rest)) : W p l e R s m args below meth c H locs 0 0 Q (F0 m pc ls (.int x :: .int 0 :: .ref (ad o1) :: .int 0 :: .ref (ad o0) :: rest)) := by
  obtain ⟨hx, hb, hml, hown, hts, hK, hA⟩ := hX
  refine va_copyi (D := D) (n0 := n) (n1 := n) (ty := .int) hx hb (hml.trans hsz.symm) hown (hts _ hq) (hts _ hq1) (hts _ hq2) (hts _ hq3) hK.1 hP (wl_D hA) hS o0 o1 0 0 ((wl_at h0).trans (by rw [cel_int k0, n0])) ((wl_at h1).trans (by rw [cel_int k1, n1])) rfl rfl rfl (by decide) (by decide) hx1 (by rw [hxn]; show 0 + n ≤ n; omega) (by rw [hxn]; show 0 + n ≤ n; omega) (fun i _ => rfl) hfr hlo hd (fun H1 locs1 hP1 _ hS1 => kk H1 locs1 ?_ hS1)
  have e : (va_cpy (J o0) (J o1) (0 : Int32).toNatClampNeg (0 : Int32).toNatClampNeg x.toNatClampNeg) = va_cpy (J o0) (J o1) 0 0 n := by rw [hxn]; rfl
  rw [e, ← n1, ← cel_int (tc := tc) (ad := ad) k1, wl_set h1] at hP1
  rw [← n1]
  exact hP1
/-! calls -/
def ys (y : MethodName) (cc : ByteArray) (nL : Nat) (ret : Option FieldType) (k : Nat) : Prop := Cond.code y cc nL ret ∈ tw ∧ Cond.static y ∈ tw ∧ Cond.initialized y.cls ∈ tw ∧ (y.cls ≠ "java/lang/invoke/MethodHandle" ∧ y.cls ≠ "java/lang/invoke/VarHandle" ∧ (parseMethodDescriptor y.desc).map (fun d => d.parameters.length) = some k)
def yv (y : MethodName) (cc : ByteArray) (nL : Nat) (ret : Option FieldType) (k : Nat) (C : String) : Prop := Cond.code y cc nL ret ∈ tw ∧ Cond.instanceMethod y ∈ tw ∧ Cond.selects C y y ∈ tw ∧ Cond.initialized C ∈ tw ∧ (y.cls = C ∧ y.cls ≠ "java/lang/invoke/MethodHandle" ∧ y.cls ≠ "java/lang/invoke/VarHandle" ∧ (parseMethodDescriptor y.desc).map (fun d => d.parameters.length) = some k)
variable {y : MethodName} {cc' : ByteArray} {n' k idx : Nat} {ret : Option FieldType} {rm : Room} {vals : List Value} {Qc : Array Value → State → Outcome → State → Prop}
theorem good_cons (h : Cond.code y cc' n' ret ∈ tw) : ∀ w ∈ Cond.code y cc' n' ret :: tw, w ∈ tw := fun w hw => (List.mem_cons.mp hw).elim (fun q => by rw [q]; exact h) id
theorem j_runS (hX : cx p s m args c cc nL own D tc ad A) (hP : va_P D vwCl (wl tc ad J) H) (hsz : ls.size = nL) (Y : ys y cc' n' ret k) (hM : Met l y (Cond.code y cc' n' ret :: tw) rm (pre D tc ad vals J) Qc 0 0 A) (hrm : rm.cells = 0 ∧ rm.slots = 0) (hq : Cond.methodLink own idx y ∈ tw) (hR : rm.frames + 1 ≤ R.frames ∧ 8 + (n' + 11) + rm.locals ≤ R.locals) (hlen : vals.length = k) (hst : st0 = vals.reverse ++ rest) (hw : (rest.map fun v => v.category).sum ≤ 8) (hd : decode cc pc = .ok (.invokestatic idx, 3)) :
    va_Run p l e R s m args below meth c H locs 0 0 0 0 (F0 m pc ls st0) rest (Qc vals.toArray) A := by
  obtain ⟨hx, hb, hml, hown, hts, hK, hA⟩ := hX
  obtain ⟨y1, y2, y3, y4⟩ := Y
  refine va_runS (As := vals) (rest := rest) ⟨hx, hb, hml, hown, hts⟩ hM (va_cwS k hts (goodIn_tw ?_) rfl hrm.1 hrm.2 y4 hR) ⟨pre_blind, fun U hU hW => ⟨rfl, by rw [hU]; exact hP, kk_warm hK hW⟩⟩ rfl hlen hsz hst (lv_room hw) hd ⟨Nat.zero_le _, Nat.zero_le _⟩
  intro w hw
  rcases List.mem_append.mp hw with h | h
  · simp only [List.mem_cons, List.not_mem_nil, or_false] at h
    rcases h with rfl | rfl | rfl
    · exact hq
    · exact y2
    · exact y3
  · exact good_cons y1 w h
theorem j_runN (hX : cx p s m args c cc nL own D tc ad A) (hP : va_P D vwCl (wl tc ad J) H) (hsz : ls.size = nL) (Y : ys y cc' n' ret k) (hM : Met l y (Cond.code y cc' n' ret :: tw) rm (pre D tc ad vals J) Qc 0 0 A) (hrm : rm.cells = 0 ∧ rm.slots = 0) {host : String} (hq : (own, idx, y, host) ∈ nwl) (hR : rm.frames + 1 ≤ R.frames ∧ 8 + (n' + 11) + rm.locals ≤ R.locals) (hlen : vals.length = k) (hst : st0 = vals.reverse ++ rest) (hw : (rest.map fun v => v.category).sum ≤ 8) (hd : decode cc pc = .ok (.invokestatic idx, 3)) :
    va_Run p l e R s m args below meth c H locs 0 0 0 0 (F0 m pc ls st0) rest (Qc vals.toArray) A := by
  obtain ⟨hx, hb, hml, hown, hts, hK, hA⟩ := hX
  obtain ⟨y1, y2, y3, y4⟩ := Y
  exact va_runSN (As := vals) (rest := rest) (host := host) ⟨hx, hb, hml, hown, hts⟩ hM ⟨va_cnB k hts (goodIn_tw (good_cons y1)) rfl hrm.1 hrm.2 (hK.2.1 _ hq) (hts _ y3) y4 hR, hts _ y2, trivial⟩ ⟨pre_blind, fun U hU hW => ⟨rfl, by rw [hU]; exact hP, kk_warm hK hW⟩⟩ rfl hlen hsz hst (lv_room hw) hd ⟨Nat.zero_le _, Nat.zero_le _⟩
theorem j_runV (hX : cx p s m args c cc nL own D tc ad A) (hP : va_P D vwCl (wl tc ad J) H) (hsz : ls.size = nL) {C : String} (Y : yv y cc' n' ret k C) {ci N o : Nat} {T : u_T} (hC : cok ci C T N) (ho : o < 157) (hkd : kd o = ci) (hM : Met l y (Cond.code y cc' n' ret :: tw) rm (pre D tc ad (.ref (ad o) :: vals) J) Qc 0 0 A) (hrm : rm.cells = 0 ∧ rm.slots = 0) (hq : Cond.methodLink own idx y ∈ tw) (hR : rm.frames + 1 ≤ R.frames ∧ 8 + (n' + 11) + rm.locals ≤ R.locals) (hlen : vals.length = k) (hst : st0 = vals.reverse ++ .ref (ad o) :: rest) (hw : (rest.map fun v => v.category).sum ≤ 8) (hd : decode cc pc = .ok (.invokevirtual idx, 3)) :
    va_Run p l e R s m args below meth c H locs 0 0 0 0 (F0 m pc ls st0) rest (Qc (Value.ref (ad o) :: vals).toArray) A := by
  obtain ⟨hx, hb, hml, hown, hts, hK, hA⟩ := hX
  obtain ⟨y1, y2, y3, y4, y5⟩ := Y
  obtain ⟨c1, c2, c3, -⟩ := hC
  refine va_runV (As := vals) (rest := rest) (C := C) (b := ad o) ⟨hx, hb, hml, hown, hts⟩ hM (cwV k hts (goodIn_tw ?_) rfl hrm.1 hrm.2 y5 hR) ⟨pre_blind, va_recv (q := (C, T, N)) hK.1 hP c1 (q0 := o) ((wl_at ho).trans (by rw [cel_obj hkd c3])), fun U hU hW => ⟨rfl, by rw [hU]; exact hP, kk_warm hK hW⟩⟩ rfl hlen hsz hst (lv_room hw) hd ⟨Nat.zero_le _, Nat.zero_le _⟩
  intro w hw
  rcases List.mem_append.mp hw with h | h
  · simp only [List.mem_cons, List.not_mem_nil, or_false] at h
    rcases h with rfl | rfl | rfl | rfl
    · exact hq
    · exact y2
    · exact y3
    · exact y4
  · exact good_cons y1 w h
theorem j_i {a : Array Value} {r : Int32} (hr : va_Run p l e R s m args below meth c H locs 0 0 0 0 (F0 m pc ls st0) rest (qi D tc ad A r J' a) A) (hS : va_S A s.heap H locs)
    (kk : ∀ (H1 : Heap) (locs1 : List Loc), va_P D vwCl (wl tc ad J') H1 → va_S A s.heap H1 locs1 → W p l e R s m args below meth c H1 locs1 0 0 Q (F0 m (pc + 3) ls (.int r :: rest))) : W p l e R s m args below meth c H locs 0 0 Q (F0 m pc ls st0) :=
  va_calli hr hS (fun _ _ h => h) (fun _ h => h) fun x u t H1 locs1 ht _ hw hB _ _ hS1 => by
    subst hw
    rw [ht] at hB
    exact kk H1 locs1 hB hS1
theorem j_l {a : Array Value} {r : Int64} (hr : va_Run p l e R s m args below meth c H locs 0 0 0 0 (F0 m pc ls st0) rest (ql D tc ad A r J' a) A) (hS : va_S A s.heap H locs)
    (kk : ∀ (H1 : Heap) (locs1 : List Loc), va_P D vwCl (wl tc ad J') H1 → va_S A s.heap H1 locs1 → W p l e R s m args below meth c H1 locs1 0 0 Q (F0 m (pc + 3) ls (.long r :: rest))) : W p l e R s m args below meth c H locs 0 0 Q (F0 m pc ls st0) :=
  va_calll hr hS (fun _ _ h => h) (fun _ h => h) fun x u t H1 locs1 ht _ hw hB _ _ hS1 => by
    subst hw
    rw [ht] at hB
    exact kk H1 locs1 hB hS1
theorem j_v {a : Array Value} (hr : va_Run p l e R s m args below meth c H locs 0 0 0 0 (F0 m pc ls st0) rest (qv D tc ad A J' a) A) (hS : va_S A s.heap H locs)
    (kk : ∀ (H1 : Heap) (locs1 : List Loc), va_P D vwCl (wl tc ad J') H1 → va_S A s.heap H1 locs1 → W p l e R s m args below meth c H1 locs1 0 0 Q (F0 m (pc + 3) ls rest)) : W p l e R s m args below meth c H locs 0 0 Q (F0 m pc ls st0) :=
  va_callv hr hS (fun _ _ h => h) (fun _ h => h) fun u t H1 locs1 ht _ hw hB _ _ hS1 => by
    rw [ht] at hB
    exact kk H1 locs1 hB hS1
theorem j_mmin (hX : cx p s m args c cc nL own D tc ad A) (hsz : ls.size = nL) (hq : Cond.methodLink own idx Lib.Math.min.name ∈ tw) (q1 : Cond.static Lib.Math.min.name ∈ tw) (q2 : Cond.initialized "java/lang/Math" ∈ tw) (q3 : Cond.code Lib.Math.min.name Lib.Math.min.code 2 (some .int) ∈ tw) (hfr : 1 ≤ R.frames) (hlo : (rest.map fun v => v.category).sum + 13 ≤ R.locals) {x y : Int32} (hd : decode cc pc = .ok (.invokestatic idx, 3))
    (kk : W p l e R s m args below meth c H locs 0 0 Q (F0 m (pc + 3) ls (.int (imin x y) :: rest))) : W p l e R s m args below meth c H locs 0 0 Q (F0 m pc ls (.int y :: .int x :: rest)) := by
  obtain ⟨hx, hb, hml, hown, hts, hK, hA⟩ := hX
  exact va_mmin hx hb (hml.trans hsz.symm) hown (hts _ hq) (hts _ q1) (hts _ q2) (hts _ q3) hfr hlo (Nat.zero_le _) (Nat.zero_le _) hd kk
theorem j_mmax (hX : cx p s m args c cc nL own D tc ad A) (hsz : ls.size = nL) (hq : Cond.methodLink own idx Lib.Math.max.name ∈ tw) (q1 : Cond.static Lib.Math.max.name ∈ tw) (q2 : Cond.initialized "java/lang/Math" ∈ tw) (q3 : Cond.code Lib.Math.max.name Lib.Math.max.code 2 (some .int) ∈ tw) (hfr : 1 ≤ R.frames) (hlo : (rest.map fun v => v.category).sum + 13 ≤ R.locals) {x y : Int32} (hd : decode cc pc = .ok (.invokestatic idx, 3))
    (kk : W p l e R s m args below meth c H locs 0 0 Q (F0 m (pc + 3) ls (.int (imax x y) :: rest))) : W p l e R s m args below meth c H locs 0 0 Q (F0 m pc ls (.int y :: .int x :: rest)) := by
  obtain ⟨hx, hb, hml, hown, hts, hK, hA⟩ := hX
  exact va_mmax hx hb (hml.trans hsz.symm) hown (hts _ hq) (hts _ q1) (hts _ q2) (hts _ q3) hfr hlo (Nat.zero_le _) (Nat.zero_le _) hd kk
/-! the ends -/
theorem j_iret (hX : cx p s m args c cc nL own D tc ad A) (hr : meth.sig.returnType = some .int) (hlk : meth.locks = false) (hP : va_P D vwCl (wl tc ad J) H) (hS : va_S A s.heap H locs) {v : Int32} (hd : decode cc pc = .ok (.ireturn, 1)) : W p l e R s m args below meth c H locs 0 0 (MQ below (qi D tc ad A v J) args s 0 0 A) (F0 m pc ls [.int v]) :=
  W.iret (v := v) hX.1 hX.2.1 hr (fun t ht hW => ⟨⟨v, (), rfl, rfl, by show va_P D vwCl (wl tc ad J) t.heap; rw [ht]; exact hP⟩, hS.F ht⟩) hS.2.2 hd hlk
theorem j_zret (hX : cx p s m args c cc nL own D tc ad A) (hr : meth.sig.returnType = some .boolean) (hlk : meth.locks = false) (hP : va_P D vwCl (wl tc ad J) H) (hS : va_S A s.heap H locs) {v : Int32} (hz : v = 0 ∨ v = 1) (hd : decode cc pc = .ok (.ireturn, 1)) : W p l e R s m args below meth c H locs 0 0 (MQ below (qi D tc ad A v J) args s 0 0 A) (F0 m pc ls [.int v]) :=
  W.zret (v := v) hX.1 hX.2.1 hr (by rcases hz with rfl | rfl <;> decide) (fun t ht hW => ⟨⟨v, (), rfl, rfl, by show va_P D vwCl (wl tc ad J) t.heap; rw [ht]; exact hP⟩, hS.F ht⟩) hS.2.2 hd hlk
theorem j_lret (hX : cx p s m args c cc nL own D tc ad A) (hr : meth.sig.returnType = some .long) (hlk : meth.locks = false) (hP : va_P D vwCl (wl tc ad J) H) (hS : va_S A s.heap H locs) {v : Int64} (hd : decode cc pc = .ok (.lreturn, 1)) : W p l e R s m args below meth c H locs 0 0 (MQ below (ql D tc ad A v J) args s 0 0 A) (F0 m pc ls [.long v]) :=
  W.lret (v := v) hX.1 hX.2.1 hr (fun t ht hW => ⟨⟨v, (), rfl, rfl, by show va_P D vwCl (wl tc ad J) t.heap; rw [ht]; exact hP⟩, hS.F ht⟩) hS.2.2 hd hlk
theorem j_vret (hX : cx p s m args c cc nL own D tc ad A) (hr : meth.sig.returnType = none) (hlk : meth.locks = false) (hP : va_P D vwCl (wl tc ad J) H) (hS : va_S A s.heap H locs) (hd : decode cc pc = .ok (.return_, 1)) : W p l e R s m args below meth c H locs 0 0 (MQ below (qv D tc ad A J) args s 0 0 A) (F0 m pc ls []) :=
  W.vret hX.1 hX.2.1 hr (fun t ht hW => ⟨⟨(), rfl, trivial, by show va_P D vwCl (wl tc ad J) t.heap; rw [ht]; exact hP⟩, hS.F ht⟩) hS.2.2 hd hlk
theorem mk_met (hy : plainName y.cls = true) (hown : own = y.cls) (hA : adok ad A) (hn : (lg_sl vals).length ≤ nL)
    (body : ∀ (p : Program) (e : Env) (s : State) (m : MethodId) (below : List Frame) (meth : Method) (c : Code) (ls : Array Slot), cx p s m vals.toArray c cc nL own D tc ad A → meth.sig.returnType = ret → meth.locks = false → lv_has ls nL (lv_args 0 vals) → va_P D vwCl (wl tc ad J) s.heap → va_S A s.heap s.heap [] → W p l e rm s m vals.toArray below meth c s.heap [] 0 0 (MQ below Qc vals.toArray s 0 0 A) (F0 m 0 ls [])) :
    Met l y (Cond.code y cc nL ret :: tw) rm (pre D tc ad vals J) Qc 0 0 A := by
  refine Met.ofW (cc := cc) (maxL := nL) (ret := ret) hy rfl ?_
  intro p e s m args below meth c s₁ B hml hv
  obtain ⟨rfl, hP, hK⟩ := hv
  have hts := atoms_spec (ws := Cond.code y cc nL ret :: tw) B.pre
  have hl := lv_entry vals (n := nL) hn
  rw [lg_entry_eq]
  exact body p e s m below meth c _ ⟨B.exec, B.bytes, hml, by rw [hown]; exact findClass_of_methodNamed B.named, fun w hw => hts w (List.mem_cons_of_mem _ hw), hK, hA⟩ B.returns B.notSynchronized hl hP va_S.rf
/-! named values -/
theorem x_let {x : Int32} {f : Int32 → Option β} (h : lb x f = some r) (k : ∀ y : Int32, f y = some r → W p l e R s m args below meth c H locs 0 0 Q (F0 m pc ls (.int y :: rest))) : W p l e R s m args below meth c H locs 0 0 Q (F0 m pc ls (.int x :: rest)) := k x h
theorem x_letL {x : Int64} {f : Int64 → Option β} (h : lb x f = some r) (k : ∀ y : Int64, f y = some r → W p l e R s m args below meth c H locs 0 0 Q (F0 m pc ls (.long y :: rest))) : W p l e R s m args below meth c H locs 0 0 Q (F0 m pc ls (.long x :: rest)) := k x h


theorem r_get (hX : cx p s m args c cc nL own D tc ad A) (hP : va_P D vwCl (wl tc ad (cmb I M)) H) {ci N : Nat} {C : String} {T : u_T} (h : cok ci C T N) (k : Nat) {o : Nat} (ho : o < 152) (hkd : kd o = ci) (hk : k < N) (hrt : rt ci k o = none) {index : Nat} (hq : Cond.fieldLink own index (T k).1 (T k).2.1 (T k).2.2.1 ∈ tw) (hd : decode cc pc = .ok (.getfield index, 3))
    (kk : W p l e R s m args below meth c H locs 0 0 Q (F0 m (pc + 3) ls (.int (I o k) :: rest))) : W p l e R s m args below meth c H locs 0 0 Q (F0 m pc ls (.ref (ad o) :: rest)) :=
  j_get hX hP h (Nat.lt_trans ho (by decide)) hkd hk hq (by simp only [fv, hrt]; rw [cmb_lt ho]) hd kk
theorem r_getq (hX : cx p s m args c cc nL own D tc ad A) (hP : va_P D vwCl (wl tc ad (cmb I M)) H) {ci N : Nat} {C : String} {T : u_T} (h : cok ci C T N) (k : Nat) {o t : Nat} (ho : o < 152) (hkd : kd o = ci) (hk : k < N) (hrt : rt ci k o = some t) {index : Nat} (hq : Cond.fieldLink own index (T k).1 (T k).2.1 (T k).2.2.1 ∈ tw) (hd : decode cc pc = .ok (.getfield index, 3))
    (kk : W p l e R s m args below meth c H locs 0 0 Q (F0 m (pc + 3) ls (.ref (ad t) :: rest))) : W p l e R s m args below meth c H locs 0 0 Q (F0 m pc ls (.ref (ad o) :: rest)) :=
  j_get hX hP h (Nat.lt_trans ho (by decide)) hkd hk hq (by simp only [fv, hrt]) hd kk
theorem r_put {f : St → Option β} (hX : cx p s m args c cc nL own D tc ad A) (hP : va_P D vwCl (wl tc ad (cmb I M)) H) (hS : va_S A s.heap H locs) {ci N : Nat} {C : String} {T : u_T} (h : cok ci C T N) (k : Nat) {o : Nat} {x : Int32} (hf0 : lb (u2 I o k x) f = some r) (ho : o < 152) (hkd : kd o = ci) (hk : k < N) (hrt : rt ci k o = none) (hf : (T k).2.2.2 = false) {index : Nat} (hq : Cond.fieldLink own index (T k).1 (T k).2.1 (T k).2.2.1 ∈ tw) (hty : parseFieldDescriptor (T k).2.2.1 = some .int) (hd : decode cc pc = .ok (.putfield index, 3))
    (kk : ∀ (I1 : St) (H1 : Heap) (locs1 : List Loc), f I1 = some r → va_P D vwCl (wl tc ad (cmb I1 M)) H1 → va_S A s.heap H1 locs1 → W p l e R s m args below meth c H1 locs1 0 0 Q (F0 m (pc + 3) ls rest)) : W p l e R s m args below meth c H locs 0 0 Q (F0 m pc ls (.int x :: .ref (ad o) :: rest)) := by
  refine j_put hX hP hS h (Nat.lt_trans ho (by decide)) hkd hk hrt hf hq hty (vp_nar_int x) rfl hd (fun H1 locs1 hP1 hS1 => kk (u2 I o k x) H1 locs1 hf0 ?_ hS1)
  rw [ur_lt ho, cmb_lt ho] at hP1
  exact hP1
theorem r_putZ {f : St → Option β} (hX : cx p s m args c cc nL own D tc ad A) (hP : va_P D vwCl (wl tc ad (cmb I M)) H) (hS : va_S A s.heap H locs) {ci N : Nat} {C : String} {T : u_T} (h : cok ci C T N) (k : Nat) {o : Nat} {x : Int32} (hz : x = 0 ∨ x = 1) (hf0 : lb (u2 I o k x) f = some r) (ho : o < 152) (hkd : kd o = ci) (hk : k < N) (hrt : rt ci k o = none) (hf : (T k).2.2.2 = false) {index : Nat} (hq : Cond.fieldLink own index (T k).1 (T k).2.1 (T k).2.2.1 ∈ tw) (hty : parseFieldDescriptor (T k).2.2.1 = some .boolean) (hd : decode cc pc = .ok (.putfield index, 3))
    (kk : ∀ (I1 : St) (H1 : Heap) (locs1 : List Loc), f I1 = some r → va_P D vwCl (wl tc ad (cmb I1 M)) H1 → va_S A s.heap H1 locs1 → W p l e R s m args below meth c H1 locs1 0 0 Q (F0 m (pc + 3) ls rest)) : W p l e R s m args below meth c H locs 0 0 Q (F0 m pc ls (.int x :: .ref (ad o) :: rest)) := by
  refine j_put hX hP hS h (Nat.lt_trans ho (by decide)) hkd hk hrt hf hq hty (by rcases hz with rfl | rfl <;> decide) (by rcases hz with rfl | rfl <;> decide) hd (fun H1 locs1 hP1 hS1 => kk (u2 I o k x) H1 locs1 hf0 ?_ hS1)
  rw [ur_lt ho, cmb_lt ho] at hP1
  exact hP1
theorem r_ald (hX : cx p s m args c cc nL own D tc ad A) (hP : va_P D vwCl (wl tc ad (cmb I M)) H) {o n : Nat} {i : Int32} {K : Option β} (h : ck (inb i n) K = some r) (ho : o < 152) (hkd : kd o = 7) (hn : ln o = n) (hd : decode cc pc = .ok (.iaload, 1))
    (kk : K = some r → W p l e R s m args below meth c H locs 0 0 Q (F0 m (pc + 1) ls (.int (I o i.toNatClampNeg) :: rest))) : W p l e R s m args below meth c H locs 0 0 Q (F0 m pc ls (.int i :: .ref (ad o) :: rest)) := by
  obtain ⟨h1, h2⟩ := ck_some h
  have k2 := kk h2
  refine j_ald hX hP (Nat.lt_trans ho (by decide)) hkd hn h1 hd ?_
  rw [cmb_lt ho]
  exact k2
theorem r_ast {f : St → Option β} (hX : cx p s m args c cc nL own D tc ad A) (hP : va_P D vwCl (wl tc ad (cmb I M)) H) (hS : va_S A s.heap H locs) {o n : Nat} {i x : Int32} (h : ck (inb i n) (lb (u2 I o i.toNatClampNeg x) f) = some r) (ho : o < 152) (hkd : kd o = 7) (hn : ln o = n) (hd : decode cc pc = .ok (.iastore, 1))
    (kk : ∀ (I1 : St) (H1 : Heap) (locs1 : List Loc), f I1 = some r → va_P D vwCl (wl tc ad (cmb I1 M)) H1 → va_S A s.heap H1 locs1 → W p l e R s m args below meth c H1 locs1 0 0 Q (F0 m (pc + 1) ls rest)) : W p l e R s m args below meth c H locs 0 0 Q (F0 m pc ls (.int x :: .int i :: .ref (ad o) :: rest)) := by
  obtain ⟨h1, h2⟩ := ck_some h
  refine j_ast hX hP hS (Nat.lt_trans ho (by decide)) hkd hn h1 hd (fun H1 locs1 hP1 hS1 => kk (u2 I o i.toNatClampNeg x) H1 locs1 h2 ?_ hS1)
  rw [ur_lt ho, cmb_lt ho] at hP1
  exact hP1


theorem m_get (hX : cx p s m args c cc nL own D tc ad A) (hP : va_P D vwCl (wl tc ad (cmb I M)) H) {ci N : Nat} {C : String} {T : u_T} (h : cok ci C T N) (k : Nat) {o : Nat} (ho : 152 ≤ o) (ho2 : o < 157) (hkd : kd o = ci) (hk : k < N) (hrt : rt ci k o = none) {index : Nat} (hq : Cond.fieldLink own index (T k).1 (T k).2.1 (T k).2.2.1 ∈ tw) (hd : decode cc pc = .ok (.getfield index, 3))
    (kk : W p l e R s m args below meth c H locs 0 0 Q (F0 m (pc + 3) ls (.int (M (o - 152) k) :: rest))) : W p l e R s m args below meth c H locs 0 0 Q (F0 m pc ls (.ref (ad o) :: rest)) :=
  j_get hX hP h ho2 hkd hk hq (by simp only [fv, hrt]; rw [cmb_ge ho]) hd kk
theorem m_getq (hX : cx p s m args c cc nL own D tc ad A) (hP : va_P D vwCl (wl tc ad (cmb I M)) H) {ci N : Nat} {C : String} {T : u_T} (h : cok ci C T N) (k : Nat) {o t : Nat} (ho : 152 ≤ o) (ho2 : o < 157) (hkd : kd o = ci) (hk : k < N) (hrt : rt ci k o = some t) {index : Nat} (hq : Cond.fieldLink own index (T k).1 (T k).2.1 (T k).2.2.1 ∈ tw) (hd : decode cc pc = .ok (.getfield index, 3))
    (kk : W p l e R s m args below meth c H locs 0 0 Q (F0 m (pc + 3) ls (.ref (ad t) :: rest))) : W p l e R s m args below meth c H locs 0 0 Q (F0 m pc ls (.ref (ad o) :: rest)) :=
  j_get hX hP h ho2 hkd hk hq (by simp only [fv, hrt]) hd kk
theorem m_put {f : St → Option β} (hX : cx p s m args c cc nL own D tc ad A) (hP : va_P D vwCl (wl tc ad (cmb I M)) H) (hS : va_S A s.heap H locs) {ci N : Nat} {C : String} {T : u_T} (h : cok ci C T N) (k : Nat) {o : Nat} {x : Int32} (hf0 : lb (u2 M (o - 152) k x) f = some r) (ho : 152 ≤ o) (ho2 : o < 157) (hkd : kd o = ci) (hk : k < N) (hrt : rt ci k o = none) (hf : (T k).2.2.2 = false) {index : Nat} (hq : Cond.fieldLink own index (T k).1 (T k).2.1 (T k).2.2.1 ∈ tw) (hty : parseFieldDescriptor (T k).2.2.1 = some .int) (hd : decode cc pc = .ok (.putfield index, 3))
    (kk : ∀ (M1 : St) (H1 : Heap) (locs1 : List Loc), f M1 = some r → va_P D vwCl (wl tc ad (cmb I M1)) H1 → va_S A s.heap H1 locs1 → W p l e R s m args below meth c H1 locs1 0 0 Q (F0 m (pc + 3) ls rest)) : W p l e R s m args below meth c H locs 0 0 Q (F0 m pc ls (.int x :: .ref (ad o) :: rest)) := by
  refine j_put hX hP hS h ho2 hkd hk hrt hf hq hty (vp_nar_int x) rfl hd (fun H1 locs1 hP1 hS1 => kk (u2 M (o - 152) k x) H1 locs1 hf0 ?_ hS1)
  rw [ur_ge ho, cmb_ge ho] at hP1
  exact hP1
theorem m_putZ {f : St → Option β} (hX : cx p s m args c cc nL own D tc ad A) (hP : va_P D vwCl (wl tc ad (cmb I M)) H) (hS : va_S A s.heap H locs) {ci N : Nat} {C : String} {T : u_T} (h : cok ci C T N) (k : Nat) {o : Nat} {x : Int32} (hz : x = 0 ∨ x = 1) (hf0 : lb (u2 M (o - 152) k x) f = some r) (ho : 152 ≤ o) (ho2 : o < 157) (hkd : kd o = ci) (hk : k < N) (hrt : rt ci k o = none) (hf : (T k).2.2.2 = false) {index : Nat} (hq : Cond.fieldLink own index (T k).1 (T k).2.1 (T k).2.2.1 ∈ tw) (hty : parseFieldDescriptor (T k).2.2.1 = some .boolean) (hd : decode cc pc = .ok (.putfield index, 3))
    (kk : ∀ (M1 : St) (H1 : Heap) (locs1 : List Loc), f M1 = some r → va_P D vwCl (wl tc ad (cmb I M1)) H1 → va_S A s.heap H1 locs1 → W p l e R s m args below meth c H1 locs1 0 0 Q (F0 m (pc + 3) ls rest)) : W p l e R s m args below meth c H locs 0 0 Q (F0 m pc ls (.int x :: .ref (ad o) :: rest)) := by
  refine j_put hX hP hS h ho2 hkd hk hrt hf hq hty (by rcases hz with rfl | rfl <;> decide) (by rcases hz with rfl | rfl <;> decide) hd (fun H1 locs1 hP1 hS1 => kk (u2 M (o - 152) k x) H1 locs1 hf0 ?_ hS1)
  rw [ur_ge ho, cmb_ge ho] at hP1
  exact hP1
theorem m_ald (hX : cx p s m args c cc nL own D tc ad A) (hP : va_P D vwCl (wl tc ad (cmb I M)) H) {o n : Nat} {i : Int32} {K : Option β} (h : ck (inb i n) K = some r) (ho : 152 ≤ o) (ho2 : o < 157) (hkd : kd o = 7) (hn : ln o = n) (hd : decode cc pc = .ok (.iaload, 1))
    (kk : K = some r → W p l e R s m args below meth c H locs 0 0 Q (F0 m (pc + 1) ls (.int (M (o - 152) i.toNatClampNeg) :: rest))) : W p l e R s m args below meth c H locs 0 0 Q (F0 m pc ls (.int i :: .ref (ad o) :: rest)) := by
  obtain ⟨h1, h2⟩ := ck_some h
  have k2 := kk h2
  refine j_ald hX hP ho2 hkd hn h1 hd ?_
  rw [cmb_ge ho]
  exact k2
theorem m_ast {f : St → Option β} (hX : cx p s m args c cc nL own D tc ad A) (hP : va_P D vwCl (wl tc ad (cmb I M)) H) (hS : va_S A s.heap H locs) {o n : Nat} {i x : Int32} (h : ck (inb i n) (lb (u2 M (o - 152) i.toNatClampNeg x) f) = some r) (ho : 152 ≤ o) (ho2 : o < 157) (hkd : kd o = 7) (hn : ln o = n) (hd : decode cc pc = .ok (.iastore, 1))
    (kk : ∀ (M1 : St) (H1 : Heap) (locs1 : List Loc), f M1 = some r → va_P D vwCl (wl tc ad (cmb I M1)) H1 → va_S A s.heap H1 locs1 → W p l e R s m args below meth c H1 locs1 0 0 Q (F0 m (pc + 1) ls rest)) : W p l e R s m args below meth c H locs 0 0 Q (F0 m pc ls (.int x :: .int i :: .ref (ad o) :: rest)) := by
  obtain ⟨h1, h2⟩ := ck_some h
  refine j_ast hX hP hS ho2 hkd hn h1 hd (fun H1 locs1 hP1 hS1 => kk (u2 M (o - 152) i.toNatClampNeg x) H1 locs1 h2 ?_ hS1)
  rw [ur_ge ho, cmb_ge ho] at hP1
  exact hP1


theorem r_ldq (hX : cx p s m args c cc nL own D tc ad A) (hP : va_P D vwCl (wl tc ad (cmb I M)) H) {o : Nat} {i : Int32} {K : Option β} (h : ck (inb i 8) K = some r) (ho : o < 157) (hkd : kd o = 9) (hn : ln o = 8) (hd : decode cc pc = .ok (.aaload, 1))
    (kk : i.toNatClampNeg < 8 → K = some r → W p l e R s m args below meth c H locs 0 0 Q (F0 m (pc + 1) ls (.ref (ad (o + 4 + i.toNatClampNeg)) :: rest))) : W p l e R s m args below meth c H locs 0 0 Q (F0 m pc ls (.int i :: .ref (ad o) :: rest)) := by
  obtain ⟨h1, h2⟩ := ck_some h
  exact j_ldq hX hP ho hkd hn h1 hd (kk (inb_lt h1) h2)
theorem r_ldL (hX : cx p s m args c cc nL own D tc ad A) (hP : va_P D vwCl (wl tc ad (cmb I M)) H) {o : Nat} {i : Int32} {K : Option β} (h : ck (inb i 4) K = some r) (ho : o < 152) (hkd : kd o = 8) (hn : ln o = 4) (hd : decode cc pc = .ok (.aaload, 1))
    (kk : K = some r → W p l e R s m args below meth c H locs 0 0 Q (F0 m (pc + 1) ls (.ref (ad (29 * (I o i.toNatClampNeg).toNatClampNeg)) :: rest))) : W p l e R s m args below meth c H locs 0 0 Q (F0 m pc ls (.int i :: .ref (ad o) :: rest)) := by
  obtain ⟨h1, h2⟩ := ck_some h
  have k2 := kk h2
  refine j_ldL hX hP (Nat.lt_trans ho (by decide)) hkd hn h1 hd ?_
  rw [cmb_lt ho]
  exact k2
theorem r_stL {f : St → Option β} (hX : cx p s m args c cc nL own D tc ad A) (hP : va_P D vwCl (wl tc ad (cmb I M)) H) (hS : va_S A s.heap H locs) {o : Nat} {i x : Int32} (h : ck (inb i 4) (ck (inb x 5) (lb (u2 I o i.toNatClampNeg x) f)) = some r) (ho : o < 152) (hkd : kd o = 8) (hn : ln o = 4) (hd : decode cc pc = .ok (.aastore, 1))
    (kk : ∀ (I1 : St) (H1 : Heap) (locs1 : List Loc), f I1 = some r → va_P D vwCl (wl tc ad (cmb I1 M)) H1 → va_S A s.heap H1 locs1 → W p l e R s m args below meth c H1 locs1 0 0 Q (F0 m (pc + 1) ls rest)) : W p l e R s m args below meth c H locs 0 0 Q (F0 m pc ls (.ref (ad (29 * x.toNatClampNeg)) :: .int i :: .ref (ad o) :: rest)) := by
  obtain ⟨h1, h2⟩ := ck_some h
  obtain ⟨h3, h4⟩ := ck_some h2
  refine j_stL hX hP hS (Nat.lt_trans ho (by decide)) hkd hn h1 h3 hd (fun H1 locs1 hP1 hS1 => kk (u2 I o i.toNatClampNeg x) H1 locs1 h4 ?_ hS1)
  rw [ur_lt ho, cmb_lt ho] at hP1
  exact hP1
theorem r_cpy {f : St → Option β} (hX : cx p s m args c cc nL own D tc ad A) (hP : va_P D vwCl (wl tc ad (cmb I M)) H) (hS : va_S A s.heap H locs) (hsz : ls.size = nL) {o0 o1 n : Nat} (h : lb (ur I o1 (va_cpy (I o0) (I o1) 0 0 n)) f = some r) {index : Nat} (hq : Cond.methodLink own index arraycopyName ∈ tw) (hq1 : Cond.native arraycopyName ∈ tw) (hq2 : Cond.static arraycopyName ∈ tw) (hq3 : Cond.initialized "java/lang/System" ∈ tw) (h0 : o0 < 152) (k0 : kd o0 = 7) (n0 : ln o0 = n) (h1 : o1 < 152) (k1 : kd o1 = 7) (n1 : ln o1 = n) {x : Int32} (hx1 : ¬ x < 0) (hxn : x.toNatClampNeg = n) (hfr : 1 ≤ R.frames) (hlo : (rest.map fun v => v.category).sum + (nativeFrameWords "java/lang/System" "arraycopy" 5 + 11) ≤ R.locals) (hd : decode cc pc = .ok (.invokestatic index, 3))
    (kk : ∀ (I1 : St) (H1 : Heap) (locs1 : List Loc), f I1 = some r → va_P D vwCl (wl tc ad (cmb I1 M)) H1 → va_S A s.heap H1 locs1 → W p l e R s m args below meth c H1 locs1 0 0 Q (F0 m (pc + 3) ls rest)) : W p l e R s m args below meth c H locs 0 0 Q (F0 m pc ls (.int x :: .int 0 :: .ref (ad o1) :: .int 0 :: .ref (ad o0) :: rest)) := by
  refine j_cpy hX hP hS hsz hq hq1 hq2 hq3 (Nat.lt_trans h0 (by decide)) k0 n0 (Nat.lt_trans h1 (by decide)) k1 n1 hx1 hxn hfr hlo hd (fun H1 locs1 hP1 hS1 => kk (ur I o1 (va_cpy (I o0) (I o1) 0 0 n)) H1 locs1 h ?_ hS1)
  rw [ur_lt h1, cmb_lt h1, cmb_lt h0] at hP1
  exact hP1

theorem x_if_eq {x : Int32} {X Y : Option β} {off : Int} {tgt : Nat} (hexec : p.tables.exec = Jvm.exec) (hb : c.code = cc) (hdg : decode cc pc = .ok (.ifCond .eq off, 3)) (ht : (pc : Int) + off = (tgt : Int)) (h : (if x = 0 then X else Y) = some r)
    (kt : x = 0 → X = some r → W p l e R s m args below meth c H locs 0 0 Q (F0 m tgt ls rest)) (kf : ¬ x = 0 → Y = some r → W p l e R s m args below meth c H locs 0 0 Q (F0 m (pc + 3) ls rest)) : W p l e R s m args below meth c H locs 0 0 Q (F0 m pc ls (.int x :: rest)) :=
  lv_if_eq hexec hb hdg ht (fun q => kt q ((if_pos q).symm.trans h)) (fun q => kf q ((if_neg q).symm.trans h))
theorem x_icmp_eq {x y : Int32} {X Y : Option β} {off : Int} {tgt : Nat} (hexec : p.tables.exec = Jvm.exec) (hb : c.code = cc) (hdg : decode cc pc = .ok (.if_icmp .eq off, 3)) (ht : (pc : Int) + off = (tgt : Int)) (h : (if x = y then X else Y) = some r)
    (kt : x = y → X = some r → W p l e R s m args below meth c H locs 0 0 Q (F0 m tgt ls rest)) (kf : ¬ x = y → Y = some r → W p l e R s m args below meth c H locs 0 0 Q (F0 m (pc + 3) ls rest)) : W p l e R s m args below meth c H locs 0 0 Q (F0 m pc ls (.int y :: .int x :: rest)) :=
  lv_icmp_eq hexec hb hdg ht (fun q => kt q ((if_pos q).symm.trans h)) (fun q => kf q ((if_neg q).symm.trans h))
theorem x_if_ne {x : Int32} {X Y : Option β} {off : Int} {tgt : Nat} (hexec : p.tables.exec = Jvm.exec) (hb : c.code = cc) (hdg : decode cc pc = .ok (.ifCond .ne off, 3)) (ht : (pc : Int) + off = (tgt : Int)) (h : (if x = 0 then X else Y) = some r)
    (kt : ¬ x = 0 → Y = some r → W p l e R s m args below meth c H locs 0 0 Q (F0 m tgt ls rest)) (kf : x = 0 → X = some r → W p l e R s m args below meth c H locs 0 0 Q (F0 m (pc + 3) ls rest)) : W p l e R s m args below meth c H locs 0 0 Q (F0 m pc ls (.int x :: rest)) :=
  lv_if_ne hexec hb hdg ht (fun q => kt q ((if_neg q).symm.trans h)) (fun q => kf q ((if_pos q).symm.trans h))
theorem x_icmp_ne {x y : Int32} {X Y : Option β} {off : Int} {tgt : Nat} (hexec : p.tables.exec = Jvm.exec) (hb : c.code = cc) (hdg : decode cc pc = .ok (.if_icmp .ne off, 3)) (ht : (pc : Int) + off = (tgt : Int)) (h : (if x = y then X else Y) = some r)
    (kt : ¬ x = y → Y = some r → W p l e R s m args below meth c H locs 0 0 Q (F0 m tgt ls rest)) (kf : x = y → X = some r → W p l e R s m args below meth c H locs 0 0 Q (F0 m (pc + 3) ls rest)) : W p l e R s m args below meth c H locs 0 0 Q (F0 m pc ls (.int y :: .int x :: rest)) :=
  lv_icmp_ne hexec hb hdg ht (fun q => kt q ((if_neg q).symm.trans h)) (fun q => kf q ((if_pos q).symm.trans h))
theorem x_if_lt {x : Int32} {X Y : Option β} {off : Int} {tgt : Nat} (hexec : p.tables.exec = Jvm.exec) (hb : c.code = cc) (hdg : decode cc pc = .ok (.ifCond .lt off, 3)) (ht : (pc : Int) + off = (tgt : Int)) (h : (if x < 0 then X else Y) = some r)
    (kt : x < 0 → X = some r → W p l e R s m args below meth c H locs 0 0 Q (F0 m tgt ls rest)) (kf : ¬ x < 0 → Y = some r → W p l e R s m args below meth c H locs 0 0 Q (F0 m (pc + 3) ls rest)) : W p l e R s m args below meth c H locs 0 0 Q (F0 m pc ls (.int x :: rest)) :=
  lv_if_lt hexec hb hdg ht (fun q => kt q ((if_pos q).symm.trans h)) (fun q => kf q ((if_neg q).symm.trans h))
theorem x_icmp_lt {x y : Int32} {X Y : Option β} {off : Int} {tgt : Nat} (hexec : p.tables.exec = Jvm.exec) (hb : c.code = cc) (hdg : decode cc pc = .ok (.if_icmp .lt off, 3)) (ht : (pc : Int) + off = (tgt : Int)) (h : (if x < y then X else Y) = some r)
    (kt : x < y → X = some r → W p l e R s m args below meth c H locs 0 0 Q (F0 m tgt ls rest)) (kf : ¬ x < y → Y = some r → W p l e R s m args below meth c H locs 0 0 Q (F0 m (pc + 3) ls rest)) : W p l e R s m args below meth c H locs 0 0 Q (F0 m pc ls (.int y :: .int x :: rest)) :=
  lv_icmp_lt hexec hb hdg ht (fun q => kt q ((if_pos q).symm.trans h)) (fun q => kf q ((if_neg q).symm.trans h))
theorem x_if_ge {x : Int32} {X Y : Option β} {off : Int} {tgt : Nat} (hexec : p.tables.exec = Jvm.exec) (hb : c.code = cc) (hdg : decode cc pc = .ok (.ifCond .ge off, 3)) (ht : (pc : Int) + off = (tgt : Int)) (h : (if 0 ≤ x then X else Y) = some r)
    (kt : 0 ≤ x → X = some r → W p l e R s m args below meth c H locs 0 0 Q (F0 m tgt ls rest)) (kf : ¬ 0 ≤ x → Y = some r → W p l e R s m args below meth c H locs 0 0 Q (F0 m (pc + 3) ls rest)) : W p l e R s m args below meth c H locs 0 0 Q (F0 m pc ls (.int x :: rest)) :=
  lv_if_ge hexec hb hdg ht (fun q => kt q ((if_pos q).symm.trans h)) (fun q => kf q ((if_neg q).symm.trans h))
theorem x_icmp_ge {x y : Int32} {X Y : Option β} {off : Int} {tgt : Nat} (hexec : p.tables.exec = Jvm.exec) (hb : c.code = cc) (hdg : decode cc pc = .ok (.if_icmp .ge off, 3)) (ht : (pc : Int) + off = (tgt : Int)) (h : (if y ≤ x then X else Y) = some r)
    (kt : y ≤ x → X = some r → W p l e R s m args below meth c H locs 0 0 Q (F0 m tgt ls rest)) (kf : ¬ y ≤ x → Y = some r → W p l e R s m args below meth c H locs 0 0 Q (F0 m (pc + 3) ls rest)) : W p l e R s m args below meth c H locs 0 0 Q (F0 m pc ls (.int y :: .int x :: rest)) :=
  lv_icmp_ge hexec hb hdg ht (fun q => kt q ((if_pos q).symm.trans h)) (fun q => kf q ((if_neg q).symm.trans h))
theorem x_if_gt {x : Int32} {X Y : Option β} {off : Int} {tgt : Nat} (hexec : p.tables.exec = Jvm.exec) (hb : c.code = cc) (hdg : decode cc pc = .ok (.ifCond .gt off, 3)) (ht : (pc : Int) + off = (tgt : Int)) (h : (if 0 < x then X else Y) = some r)
    (kt : 0 < x → X = some r → W p l e R s m args below meth c H locs 0 0 Q (F0 m tgt ls rest)) (kf : ¬ 0 < x → Y = some r → W p l e R s m args below meth c H locs 0 0 Q (F0 m (pc + 3) ls rest)) : W p l e R s m args below meth c H locs 0 0 Q (F0 m pc ls (.int x :: rest)) :=
  lv_if_gt hexec hb hdg ht (fun q => kt q ((if_pos q).symm.trans h)) (fun q => kf q ((if_neg q).symm.trans h))
theorem x_icmp_gt {x y : Int32} {X Y : Option β} {off : Int} {tgt : Nat} (hexec : p.tables.exec = Jvm.exec) (hb : c.code = cc) (hdg : decode cc pc = .ok (.if_icmp .gt off, 3)) (ht : (pc : Int) + off = (tgt : Int)) (h : (if y < x then X else Y) = some r)
    (kt : y < x → X = some r → W p l e R s m args below meth c H locs 0 0 Q (F0 m tgt ls rest)) (kf : ¬ y < x → Y = some r → W p l e R s m args below meth c H locs 0 0 Q (F0 m (pc + 3) ls rest)) : W p l e R s m args below meth c H locs 0 0 Q (F0 m pc ls (.int y :: .int x :: rest)) :=
  lv_icmp_gt hexec hb hdg ht (fun q => kt q ((if_pos q).symm.trans h)) (fun q => kf q ((if_neg q).symm.trans h))
theorem x_if_le {x : Int32} {X Y : Option β} {off : Int} {tgt : Nat} (hexec : p.tables.exec = Jvm.exec) (hb : c.code = cc) (hdg : decode cc pc = .ok (.ifCond .le off, 3)) (ht : (pc : Int) + off = (tgt : Int)) (h : (if x ≤ 0 then X else Y) = some r)
    (kt : x ≤ 0 → X = some r → W p l e R s m args below meth c H locs 0 0 Q (F0 m tgt ls rest)) (kf : ¬ x ≤ 0 → Y = some r → W p l e R s m args below meth c H locs 0 0 Q (F0 m (pc + 3) ls rest)) : W p l e R s m args below meth c H locs 0 0 Q (F0 m pc ls (.int x :: rest)) :=
  lv_if_le hexec hb hdg ht (fun q => kt q ((if_pos q).symm.trans h)) (fun q => kf q ((if_neg q).symm.trans h))
theorem x_icmp_le {x y : Int32} {X Y : Option β} {off : Int} {tgt : Nat} (hexec : p.tables.exec = Jvm.exec) (hb : c.code = cc) (hdg : decode cc pc = .ok (.if_icmp .le off, 3)) (ht : (pc : Int) + off = (tgt : Int)) (h : (if x ≤ y then X else Y) = some r)
    (kt : x ≤ y → X = some r → W p l e R s m args below meth c H locs 0 0 Q (F0 m tgt ls rest)) (kf : ¬ x ≤ y → Y = some r → W p l e R s m args below meth c H locs 0 0 Q (F0 m (pc + 3) ls rest)) : W p l e R s m args below meth c H locs 0 0 Q (F0 m pc ls (.int y :: .int x :: rest)) :=
  lv_icmp_le hexec hb hdg ht (fun q => kt q ((if_pos q).symm.trans h)) (fun q => kf q ((if_neg q).symm.trans h))
end
theorem tw_f0 : ∀ w ∈ u_ws RX0 TX0 8, w ∈ tw := by decide +kernel
theorem cok0 : cok 0 RX0 TX0 8 := ⟨rfl, rfl, by decide, tw_f0, ⟨tyX0, tyX0_ok⟩, nmX0⟩
theorem tw_f1 : ∀ w ∈ u_ws RX1 TX1 5, w ∈ tw := by decide +kernel
theorem cok1 : cok 1 RX1 TX1 5 := ⟨rfl, rfl, by decide, tw_f1, ⟨tyX1, tyX1_ok⟩, nmX1⟩
theorem tw_f2 : ∀ w ∈ u_ws RX3 TX3 2, w ∈ tw := by decide +kernel
theorem cok2 : cok 2 RX3 TX3 2 := ⟨rfl, rfl, by decide, tw_f2, ⟨tyX3, tyX3_ok⟩, nmX3⟩
theorem tw_f3 : ∀ w ∈ u_ws RX4 TX4 14, w ∈ tw := by decide +kernel
theorem cok3 : cok 3 RX4 TX4 14 := ⟨rfl, rfl, by decide, tw_f3, ⟨tyX4, tyX4_ok⟩, nmX4⟩
theorem tw_f4 : ∀ w ∈ u_ws RX5 TX5 12, w ∈ tw := by decide +kernel
theorem cok4 : cok 4 RX5 TX5 12 := ⟨rfl, rfl, by decide, tw_f4, ⟨tyX5, tyX5_ok⟩, nmX5⟩
theorem tw_f5 : ∀ w ∈ u_ws RX7 TX7 3, w ∈ tw := by decide +kernel
theorem cok5 : cok 5 RX7 TX7 3 := ⟨rfl, rfl, by decide, tw_f5, ⟨tyX7, tyX7_ok⟩, nmX7⟩
theorem tw_f6 : ∀ w ∈ u_ws RX8 TX8 7, w ∈ tw := by decide +kernel
theorem cok6 : cok 6 RX8 TX8 7 := ⟨rfl, rfl, by decide, tw_f6, ⟨tyX8, tyX8_ok⟩, nmX8⟩
theorem nw0 : ((RX4, 23, yX0_init, "OwnerlessCoin") ∈ nwl) := List.mem_of_getElem? (i := 0) rfl
theorem nw1 : ((RX4, 44, yX5_init, "OwnerlessCoin") ∈ nwl) := List.mem_of_getElem? (i := 1) rfl
theorem nw2 : ((RX7, 25, yX1_init, "OwnerlessCoin") ∈ nwl) := List.mem_of_getElem? (i := 2) rfl
theorem nw3 : ((RX4, 103, yX7_mix, "OwnerlessCoin") ∈ nwl) := List.mem_of_getElem? (i := 3) rfl
theorem nw4 : ((RX4, 76, yX7_has, "OwnerlessCoin") ∈ nwl) := List.mem_of_getElem? (i := 4) rfl
theorem nw5 : ((RX5, 55, yX7_power, "OwnerlessCoin") ∈ nwl) := List.mem_of_getElem? (i := 5) rfl
theorem nw6 : ((RX5, 59, yX7_stepped, "OwnerlessCoin") ∈ nwl) := List.mem_of_getElem? (i := 6) rfl
theorem nw7 : ((RX5, 63, yX7_drawn, "OwnerlessCoin") ∈ nwl) := List.mem_of_getElem? (i := 7) rfl
theorem nw8 : ((RX6, 10, yX7_product, "OwnerlessCoin") ∈ nwl) := List.mem_of_getElem? (i := 8) rfl
theorem nw9 : ((RX5, 75, yX7_product, "OwnerlessCoin") ∈ nwl) := List.mem_of_getElem? (i := 9) rfl
theorem nw10 : ((RX2, 47, yX7_has, "OwnerlessCoin") ∈ nwl) := List.mem_of_getElem? (i := 10) rfl
theorem nw11 : ((RX2, 51, yX7_stepped, "OwnerlessCoin") ∈ nwl) := List.mem_of_getElem? (i := 11) rfl
theorem nw12 : ((RX2, 55, yX7_drawn, "OwnerlessCoin") ∈ nwl) := List.mem_of_getElem? (i := 12) rfl
theorem nw13 : ((RX5, 78, yX7_has, "OwnerlessCoin") ∈ nwl) := List.mem_of_getElem? (i := 13) rfl
theorem nw14 : ((RX1, 70, yX7_has, "OwnerlessCoin") ∈ nwl) := List.mem_of_getElem? (i := 14) rfl
theorem nw15 : ((RX6, 15, yX7_power, "OwnerlessCoin") ∈ nwl) := List.mem_of_getElem? (i := 15) rfl
theorem nw16 : ((RX6, 18, yX7_mix, "OwnerlessCoin") ∈ nwl) := List.mem_of_getElem? (i := 16) rfl
end
section
theorem kc_bm9 : (Int8.ofInt (-9)).toInt32 = (-9) := by decide
theorem kc_bm5 : (Int8.ofInt (-5)).toInt32 = (-5) := by decide
theorem kc_bm4 : (Int8.ofInt (-4)).toInt32 = (-4) := by decide
theorem kc_bm3 : (Int8.ofInt (-3)).toInt32 = (-3) := by decide
theorem kc_bm2 : (Int8.ofInt (-2)).toInt32 = (-2) := by decide
theorem kc_b6 : (Int8.ofInt (6)).toInt32 = (6) := by decide
theorem kc_b7 : (Int8.ofInt (7)).toInt32 = (7) := by decide
theorem kc_b8 : (Int8.ofInt (8)).toInt32 = (8) := by decide
theorem kc_b9 : (Int8.ofInt (9)).toInt32 = (9) := by decide
theorem kc_b10 : (Int8.ofInt (10)).toInt32 = (10) := by decide
theorem kc_b11 : (Int8.ofInt (11)).toInt32 = (11) := by decide
theorem kc_b12 : (Int8.ofInt (12)).toInt32 = (12) := by decide
theorem kc_b13 : (Int8.ofInt (13)).toInt32 = (13) := by decide
theorem kc_b14 : (Int8.ofInt (14)).toInt32 = (14) := by decide
theorem kc_b15 : (Int8.ofInt (15)).toInt32 = (15) := by decide
theorem kc_b16 : (Int8.ofInt (16)).toInt32 = (16) := by decide
theorem kc_b17 : (Int8.ofInt (17)).toInt32 = (17) := by decide
theorem kc_b19 : (Int8.ofInt (19)).toInt32 = (19) := by decide
theorem kc_b20 : (Int8.ofInt (20)).toInt32 = (20) := by decide
theorem kc_b22 : (Int8.ofInt (22)).toInt32 = (22) := by decide
theorem kc_b30 : (Int8.ofInt (30)).toInt32 = (30) := by decide
theorem kc_b40 : (Int8.ofInt (40)).toInt32 = (40) := by decide
theorem kc_b63 : (Int8.ofInt (63)).toInt32 = (63) := by decide
theorem kc_b96 : (Int8.ofInt (96)).toInt32 = (96) := by decide
theorem kc_im1 : Int32.ofInt (-1) = (-1) := by decide
theorem kc_i0 : Int32.ofInt (0) = (0) := by decide
theorem kc_i1 : Int32.ofInt (1) = (1) := by decide
theorem kc_i2 : Int32.ofInt (2) = (2) := by decide
theorem kc_i3 : Int32.ofInt (3) = (3) := by decide
theorem kc_i4 : Int32.ofInt (4) = (4) := by decide
theorem kc_i5 : Int32.ofInt (5) = (5) := by decide
theorem kc_s255 : (Int16.ofInt (255)).toInt32 = (255) := by decide
theorem kc_s256 : (Int16.ofInt (256)).toInt32 = (256) := by decide
theorem kc_s257 : (Int16.ofInt (257)).toInt32 = (257) := by decide
theorem kc_s340 : (Int16.ofInt (340)).toInt32 = (340) := by decide
theorem kc_s420 : (Int16.ofInt (420)).toInt32 = (420) := by decide
theorem kc_s1000 : (Int16.ofInt (1000)).toInt32 = (1000) := by decide
theorem kc_s1017 : (Int16.ofInt (1017)).toInt32 = (1017) := by decide
theorem kc_s1018 : (Int16.ofInt (1018)).toInt32 = (1018) := by decide
theorem kc_s1019 : (Int16.ofInt (1019)).toInt32 = (1019) := by decide
theorem kc_s1260 : (Int16.ofInt (1260)).toInt32 = (1260) := by decide
theorem kc_s2039 : (Int16.ofInt (2039)).toInt32 = (2039) := by decide
theorem kc_s5000 : (Int16.ofInt (5000)).toInt32 = (5000) := by decide
theorem kc_s7906 : (Int16.ofInt (7906)).toInt32 = (7906) := by decide
theorem kc_s12345 : (Int16.ofInt (12345)).toInt32 = (12345) := by decide
theorem sl_0 : 0 < 152 := by decide
theorem sl_1 : 1 < 152 := by decide
theorem sl_2 : 2 < 152 := by decide
theorem sl_3 : 3 < 152 := by decide
theorem sl_4 : 4 < 152 := by decide
theorem sl_145 : 145 < 152 := by decide
theorem sl_146 : 146 < 152 := by decide
theorem sl_147 : 147 < 152 := by decide
theorem sl_148 : 148 < 152 := by decide
theorem sl_149 : 149 < 152 := by decide
theorem sl_150 : 150 < 152 := by decide
theorem sl_151 : 151 < 152 := by decide
theorem sk_0 : kd 0 = 3 := by decide
theorem sk_1 : kd 1 = 9 := by decide
theorem sk_2 : kd 2 = 7 := by decide
theorem sk_3 : kd 3 = 0 := by decide
theorem sk_4 : kd 4 = 7 := by decide
theorem sk_145 : kd 145 = 5 := by decide
theorem sk_146 : kd 146 = 2 := by decide
theorem sk_147 : kd 147 = 8 := by decide
theorem sk_148 : kd 148 = 1 := by decide
theorem sk_149 : kd 149 = 7 := by decide
theorem sk_150 : kd 150 = 7 := by decide
theorem sk_151 : kd 151 = 7 := by decide
theorem sk_152 : kd 152 = 6 := by decide
theorem sk_153 : kd 153 = 7 := by decide
theorem sk_154 : kd 154 = 7 := by decide
theorem sk_155 : kd 155 = 7 := by decide
theorem sk_156 : kd 156 = 7 := by decide
theorem sn_1 : ln 1 = 8 := by decide
theorem sn_2 : ln 2 = 8 := by decide
theorem sn_4 : ln 4 = 96 := by decide
theorem sn_147 : ln 147 = 4 := by decide
theorem sn_149 : ln 149 = 256 := by decide
theorem sn_150 : ln 150 = 256 := by decide
theorem sn_151 : ln 151 = 8 := by decide
theorem sn_153 : ln 153 = 420 := by decide
theorem sn_154 : ln 154 = 1680 := by decide
theorem sn_155 : ln 155 = 8 := by decide
theorem sn_156 : ln 156 = 256 := by decide
theorem sge_152 : 152 ≤ 152 := by decide
theorem s157_152 : 152 < 157 := by decide
theorem sge_153 : 152 ≤ 153 := by decide
theorem s157_153 : 153 < 157 := by decide
theorem sge_154 : 152 ≤ 154 := by decide
theorem s157_154 : 154 < 157 := by decide
theorem sge_155 : 152 ≤ 155 := by decide
theorem s157_155 : 155 < 157 := by decide
theorem sge_156 : 152 ≤ 156 := by decide
theorem s157_156 : 156 < 157 := by decide
def nz (y : Int32) : Bool := !(decide (y = 0))
def nzL (y : Int64) : Bool := !(decide (y = 0))
def isB (x : Int32) : Bool := decide (x = 0) || decide (x = 1)
theorem nz_ne {y : Int32} (h : nz y = true) : ¬ y = 0 := by simpa [nz] using h
theorem nzL_ne {y : Int64} (h : nzL y = true) : ¬ y = 0 := by simpa [nzL] using h
theorem isB_or {x : Int32} (h : isB x = true) : x = 0 ∨ x = 1 := by simpa [isB] using h
theorem lt157 {o : Nat} (h : o < 152) : o < 157 := by omega
def isP (o : Nat) : Bool := decide (o < 145) && decide (5 ≤ o % 29) && decide (o % 29 < 13)
def isL (o : Nat) : Bool := decide (o < 145) && decide (o % 29 = 0)
def isC (o : Nat) : Bool := decide (o < 145) && decide (o % 29 = 3)
def isA (o : Nat) : Bool := decide (o = 2) || decide (o = 151)
theorem co_lt {P Q : Nat → Bool} (h : ∀ o, o < 145 → P o = true → Q o = true) {o : Nat} (h1 : P o = true) (h2 : P o = true → o < 145) : Q o = true := h o (h2 h1) h1
theorem isP_145 {o : Nat} (h : isP o = true) : o < 145 := by
  simp only [isP, Bool.and_eq_true, decide_eq_true_eq] at h
  exact h.1.1
theorem isL_145 {o : Nat} (h : isL o = true) : o < 145 := by
  simp only [isL, Bool.and_eq_true, decide_eq_true_eq] at h
  exact h.1
theorem isC_145 {o : Nat} (h : isC o = true) : o < 145 := by
  simp only [isC, Bool.and_eq_true, decide_eq_true_eq] at h
  exact h.1
theorem isP_all : ∀ o, o < 145 → isP o = true → kd o = 4 ∧ kd (o + 8) = 7 ∧ ln (o + 8) = 8 ∧ kd (o + 16) = 7 ∧ ln (o + 16) = 8 ∧ o + 8 < 152 ∧ o + 16 < 152 := by decide +kernel
theorem isL_all : ∀ o, o < 145 → isL o = true → kd o = 3 ∧ kd (o + 1) = 9 ∧ ln (o + 1) = 8 ∧ kd (o + 2) = 7 ∧ ln (o + 2) = 8 ∧ kd (o + 3) = 0 ∧ kd (o + 3 + 1) = 7 ∧ ln (o + 3 + 1) = 96 ∧ isC (o + 3) = true ∧ o + 1 < 152 ∧ o + 2 < 152 ∧ o + 3 < 152 ∧ o + 3 + 1 < 152 := by decide +kernel
theorem isC_all : ∀ o, o < 145 → isC o = true → kd o = 0 ∧ kd (o + 1) = 7 ∧ ln (o + 1) = 96 ∧ o + 1 < 152 := by decide +kernel
theorem isL_per : ∀ o, o < 145 → ∀ n, n < 8 → isL o = true → isP (o + 5 + n) = true := by decide +kernel
theorem isP_lt {o : Nat} (h : isP o = true) : o < 152 := Nat.lt_trans (isP_145 h) (by decide)
theorem isP_kd {o : Nat} (h : isP o = true) : kd o = 4 := (isP_all o (isP_145 h) h).1
theorem isP8_lt {o : Nat} (h : isP o = true) : o + 8 < 152 := (isP_all o (isP_145 h) h).2.2.2.2.2.1
theorem isP8_kd {o : Nat} (h : isP o = true) : kd (o + 8) = 7 := (isP_all o (isP_145 h) h).2.1
theorem isP8_ln {o : Nat} (h : isP o = true) : ln (o + 8) = 8 := (isP_all o (isP_145 h) h).2.2.1
theorem isP16_lt {o : Nat} (h : isP o = true) : o + 16 < 152 := (isP_all o (isP_145 h) h).2.2.2.2.2.2
theorem isP16_kd {o : Nat} (h : isP o = true) : kd (o + 16) = 7 := (isP_all o (isP_145 h) h).2.2.2.1
theorem isP16_ln {o : Nat} (h : isP o = true) : ln (o + 16) = 8 := (isP_all o (isP_145 h) h).2.2.2.2.1
theorem isL_lt {o : Nat} (h : isL o = true) : o < 152 := Nat.lt_trans (isL_145 h) (by decide)
theorem isL_kd {o : Nat} (h : isL o = true) : kd o = 3 := (isL_all o (isL_145 h) h).1
theorem isL1_kd {o : Nat} (h : isL o = true) : kd (o + 1) = 9 := (isL_all o (isL_145 h) h).2.1
theorem isL1_ln {o : Nat} (h : isL o = true) : ln (o + 1) = 8 := (isL_all o (isL_145 h) h).2.2.1
theorem isL2_kd {o : Nat} (h : isL o = true) : kd (o + 2) = 7 := (isL_all o (isL_145 h) h).2.2.2.1
theorem isL2_ln {o : Nat} (h : isL o = true) : ln (o + 2) = 8 := (isL_all o (isL_145 h) h).2.2.2.2.1
theorem isL3_kd {o : Nat} (h : isL o = true) : kd (o + 3) = 0 := (isL_all o (isL_145 h) h).2.2.2.2.2.1
theorem isL4_kd {o : Nat} (h : isL o = true) : kd (o + 3 + 1) = 7 := (isL_all o (isL_145 h) h).2.2.2.2.2.2.1
theorem isL4_ln {o : Nat} (h : isL o = true) : ln (o + 3 + 1) = 96 := (isL_all o (isL_145 h) h).2.2.2.2.2.2.2.1
theorem isL_C {o : Nat} (h : isL o = true) : isC (o + 3) = true := (isL_all o (isL_145 h) h).2.2.2.2.2.2.2.2.1
theorem isL1_lt {o : Nat} (h : isL o = true) : o + 1 < 152 := (isL_all o (isL_145 h) h).2.2.2.2.2.2.2.2.2.1
theorem isL2_lt {o : Nat} (h : isL o = true) : o + 2 < 152 := (isL_all o (isL_145 h) h).2.2.2.2.2.2.2.2.2.2.1
theorem isL3_lt {o : Nat} (h : isL o = true) : o + 3 < 152 := (isL_all o (isL_145 h) h).2.2.2.2.2.2.2.2.2.2.2.1
theorem isL4_lt {o : Nat} (h : isL o = true) : o + 3 + 1 < 152 := (isL_all o (isL_145 h) h).2.2.2.2.2.2.2.2.2.2.2.2
theorem isC_lt {o : Nat} (h : isC o = true) : o < 152 := Nat.lt_trans (isC_145 h) (by decide)
theorem isC_kd {o : Nat} (h : isC o = true) : kd o = 0 := (isC_all o (isC_145 h) h).1
theorem isC1_kd {o : Nat} (h : isC o = true) : kd (o + 1) = 7 := (isC_all o (isC_145 h) h).2.1
theorem isC1_ln {o : Nat} (h : isC o = true) : ln (o + 1) = 96 := (isC_all o (isC_145 h) h).2.2.1
theorem isC1_lt {o : Nat} (h : isC o = true) : o + 1 < 152 := (isC_all o (isC_145 h) h).2.2.2
theorem isA_or {o : Nat} (h : isA o = true) : o = 2 ∨ o = 151 := by simpa [isA] using h
theorem isA_lt {o : Nat} (h : isA o = true) : o < 152 := by rcases isA_or h with rfl | rfl <;> decide
theorem isA_kd {o : Nat} (h : isA o = true) : kd o = 7 := by rcases isA_or h with rfl | rfl <;> decide
theorem isA_ln {o : Nat} (h : isA o = true) : ln o = 8 := by rcases isA_or h with rfl | rfl <;> decide
theorem isP_of {n : Nat} (h : n < 8) : isP (5 + n) = true := by
  have : ∀ n, n < 8 → isP (5 + n) = true := by decide
  exact this n h
theorem isL_P {o n : Nat} (h : isL o = true) (h2 : n < 8) : isP (o + 5 + n) = true := isL_per o (isL_145 h) n h2 h
theorem isL_of {x : Int32} (h : inb x 5 = true) : isL (29 * x.toNatClampNeg) = true := by
  have : ∀ n, n < 5 → isL (29 * n) = true := by decide
  exact this _ (inb_lt h)
theorem sw_out3 {x : Int32} (h0 : ¬ x = 0) (h1 : ¬ x = 1) (h2 : ¬ x = 2) : x.toInt < 0 ∨ 2 < x.toInt := by
  have a0 := lv_neT (a := 0) h0 (by decide)
  have a1 := lv_neT (a := 1) h1 (by decide)
  have a2 := lv_neT (a := 2) h2 (by decide)
  omega
theorem sw_out4 {x : Int32} (h0 : ¬ x = 0) (h1 : ¬ x = 1) (h2 : ¬ x = 2) (h3 : ¬ x = 3) : x.toInt < 0 ∨ 3 < x.toInt := by
  have a0 := lv_neT (a := 0) h0 (by decide)
  have a1 := lv_neT (a := 1) h1 (by decide)
  have a2 := lv_neT (a := 2) h2 (by decide)
  have a3 := lv_neT (a := 3) h3 (by decide)
  omega

noncomputable def f_X7_isWithin_b15 (t0 : Int32) : Option (Int32) :=
  ck (isB t0) <|
  some t0
noncomputable def f_X7_isWithin_b14 : Option (Int32) :=
  f_X7_isWithin_b15 0
noncomputable def f_X7_isWithin (v0 : Int32) (v1 : Int32) (v2 : Int32) : Option (Int32) :=
  if v0 < v1 then
    f_X7_isWithin_b14
  else
    if v2 < v0 then
      f_X7_isWithin_b14
    else
      f_X7_isWithin_b15 1
noncomputable def f_X3_dropOldest_l9 : Nat → Int32 → Int32 → St → Option (St)
  | 0, _, _, _ => none
  | n + 1, w1, v2, I =>
    if 4 ≤ v2 then
      ck (inb 3 4) <| ck (inb w1 5) <| lb (u2 I 147 (3 : Int32).toNatClampNeg w1) fun I2 =>
      lb (u2 I2 146 1 3) fun I3 =>
      some I3
    else
      lb (v2 - 1) fun x4 =>
      ck (inb v2 4) <| lb (I 147 v2.toNatClampNeg) fun x5 => ck (inb x5 5) <|
      ck (inb x4 4) <| ck (inb x5 5) <| lb (u2 I 147 x4.toNatClampNeg x5) fun I7 =>
      f_X3_dropOldest_l9 n w1 (v2 + 1) I7
noncomputable def f_X3_dropOldest (I : St) : Option (St) :=
  ck (inb 0 4) <| lb (I 147 (0 : Int32).toNatClampNeg) fun x8 => ck (inb x8 5) <|
  f_X3_dropOldest_l9 10000 x8 1 I
noncomputable def f_X5_copy (o0 : Nat) (o1 : Nat) (I : St) : Option (St) :=
  ck (isP o0) <|
  ck (isP o1) <|
  lb (u2 I o0 0 (I o1 0)) fun I1 =>
  lb (u2 I1 o0 1 (I1 o1 1)) fun I2 =>
  lb (u2 I2 o0 2 (I2 o1 2)) fun I3 =>
  lb (u2 I3 o0 3 (I3 o1 3)) fun I4 =>
  lb (u2 I4 o0 4 (I4 o1 4)) fun I5 =>
  lb (u2 I5 o0 5 (I5 o1 5)) fun I6 =>
  lb (u2 I6 o0 6 (I6 o1 6)) fun I7 =>
  lb (u2 I7 o0 7 (I7 o1 7)) fun I8 =>
  lb (u2 I8 o0 8 (I8 o1 8)) fun I9 =>
  lb (u2 I9 o0 9 (I9 o1 9)) fun I10 =>
  lb (ur I10 (o0 + 8) (va_cpy (I10 (o1 + 8)) (I10 (o0 + 8)) 0 0 8)) fun I11 =>
  lb (ur I11 (o0 + 16) (va_cpy (I11 (o1 + 16)) (I11 (o0 + 16)) 0 0 8)) fun I12 =>
  some I12
noncomputable def f_X0_copy (o0 : Nat) (o1 : Nat) (I : St) : Option (St) :=
  ck (isC o0) <|
  ck (isC o1) <|
  lb (u2 I o0 0 (I o1 0)) fun I1 =>
  lb (u2 I1 o0 1 (I1 o1 1)) fun I2 =>
  lb (u2 I2 o0 2 (I2 o1 2)) fun I3 =>
  lb (u2 I3 o0 3 (I3 o1 3)) fun I4 =>
  lb (u2 I4 o0 4 (I4 o1 4)) fun I5 =>
  lb (u2 I5 o0 5 (I5 o1 5)) fun I6 =>
  lb (u2 I6 o0 6 (I6 o1 6)) fun I7 =>
  lb (ur I7 (o0 + 1) (va_cpy (I7 (o1 + 1)) (I7 (o0 + 1)) 0 0 96)) fun I8 =>
  some I8
noncomputable def f_X4_copy_l2 (o0 : Nat) (o1 : Nat) : Nat → Int32 → St → Option (St)
  | 0, _, _ => none
  | n + 1, v2, I =>
    if 8 ≤ v2 then
      lb (ur I (o0 + 2) (va_cpy (I (o1 + 2)) (I (o0 + 2)) 0 0 8)) fun I2 =>
      ob1 (f_X0_copy (o0 + 3) (o1 + 3) I2) fun I4 =>
      lb (u2 I4 o0 3 (I4 o1 3)) fun I5 =>
      lb (u2 I5 o0 4 (I5 o1 4)) fun I6 =>
      lb (u2 I6 o0 5 (I6 o1 5)) fun I7 =>
      lb (u2 I7 o0 6 (I7 o1 6)) fun I8 =>
      lb (u2 I8 o0 7 (I8 o1 7)) fun I9 =>
      lb (u2 I9 o0 8 (I9 o1 8)) fun I10 =>
      lb (u2 I10 o0 9 (I10 o1 9)) fun I11 =>
      lb (u2 I11 o0 10 (I11 o1 10)) fun I12 =>
      lb (u2 I12 o0 11 (I12 o1 11)) fun I13 =>
      lb (u2 I13 o0 12 (I13 o1 12)) fun I14 =>
      lb (u2 I14 o0 13 (I14 o1 13)) fun I15 =>
      some I15
    else
      ck (inb v2 8) <|
      ck (inb v2 8) <|
      ob1 (f_X5_copy (o0 + 5 + v2.toNatClampNeg) (o1 + 5 + v2.toNatClampNeg) I) fun I19 =>
      f_X4_copy_l2 o0 o1 n (v2 + 1) I19
noncomputable def f_X4_copy (o0 : Nat) (o1 : Nat) (I : St) : Option (St) :=
  ck (isL o0) <|
  ck (isL o1) <|
  f_X4_copy_l2 o0 o1 10000 0 I
noncomputable def f_X3_remember_b12 (I : St) : Option (St) :=
  lb (I 146 1) fun x1 =>
  ck (inb x1 4) <| lb (I 147 x1.toNatClampNeg) fun x2 => ck (inb x2 5) <|
  ob1 (f_X4_copy (29 * x2.toNatClampNeg) 0 I) fun I5 =>
  lb (I5 146 1) fun x6 =>
  lb (u2 I5 146 1 (x6 + 1)) fun I7 =>
  some I7
noncomputable def f_X3_remember (I : St) : Option (St) :=
  lb (I 146 1) fun x8 =>
  if x8 < 4 then
    f_X3_remember_b12 I
  else
    ob1 (f_X3_dropOldest I) fun I11 =>
    f_X3_remember_b12 I11
noncomputable def f_X4_admit (v1 : Int32) (I : St) : Option (Int32 × St) :=
  lb (I 0 3) fun x1 =>
  if x1 < 8 then
    lb (I 0 3) fun x3 =>
    ck (inb x3 8) <|
    lb (u2 I (5 + x3.toNatClampNeg) 0 v1) fun I5 =>
    lb (I5 0 3) fun x6 =>
    lb (u2 I5 0 3 (x6 + 1)) fun I7 =>
    lb (I7 0 3) fun x8 =>
    some (x8 - 1, I7)
  else
    some ((-3), I)
noncomputable def f_X7_addParticipant (v1 : Int32) (I : St) : Option (Int32 × St) :=
  ob1 (f_X7_isWithin v1 0 1000000) fun r2 =>
  if r2 = 0 then
    some ((-1), I)
  else
    if (I 0 9) = 0 then
      lb (I 0 3) fun x5 =>
      if x5 < 8 then
        ob1 (f_X3_remember I) fun I8 =>
        ob2 (f_X4_admit v1 I8) fun r11 I10 =>
        some (r11, I10)
      else
        some ((-3), I)
    else
      some ((-2), I)
noncomputable def f_X4_isParticipant_b23 (t0 : Int32) (I : St) : Option (Int32) :=
  ck (isB t0) <|
  some t0
noncomputable def f_X4_isParticipant_b22 (I : St) : Option (Int32) :=
  f_X4_isParticipant_b23 0 I
noncomputable def f_X4_isParticipant (v1 : Int32) (I : St) : Option (Int32) :=
  if v1 < 0 then
    f_X4_isParticipant_b22 I
  else
    if (I 0 3) ≤ v1 then
      f_X4_isParticipant_b22 I
    else
      if 8 ≤ v1 then
        f_X4_isParticipant_b22 I
      else
        f_X4_isParticipant_b23 1 I
noncomputable def f_X7_behave_b20 (I : St) : Option (Int32 × St) :=
  some ((-1), I)
noncomputable def f_X7_behave (v1 : Int32) (v2 : Int32) (I : St) : Option (Int32 × St) :=
  ob1 (f_X4_isParticipant v1 I) fun r2 =>
  if r2 = 0 then
    f_X7_behave_b20 I
  else
    ob1 (f_X7_isWithin v2 0 3) fun r5 =>
    if r5 = 0 then
      f_X7_behave_b20 I
    else
      ob1 (f_X3_remember I) fun I8 =>
      ck (inb v1 8) <|
      lb (I8 (5 + v1.toNatClampNeg) 1) fun x10 =>
      ck (inb v1 8) <|
      lb (u2 I8 (5 + v1.toNatClampNeg) 1 v2) fun I12 =>
      some (x10, I12)
noncomputable def f_X7_settingError_b27 (t0 : Int32) (I : St) : Option (Int32) :=
  some t0
noncomputable def f_X7_settingError (v1 : Int32) (v2 : Int32) (v3 : Int32) (I : St) : Option (Int32) :=
  ob1 (f_X7_isWithin v1 v2 v3) fun r2 =>
  if r2 = 0 then
    some ((-1))
  else
    if (I 0 9) = 0 then
      f_X7_settingError_b27 0 I
    else
      f_X7_settingError_b27 ((-2)) I
noncomputable def f_X7_setMethod (v1 : Int32) (I : St) : Option (Int32 × St) :=
  ob1 (f_X7_settingError v1 0 2 I) fun r2 =>
  if 0 ≤ r2 then
    ob1 (f_X3_remember I) fun I5 =>
    lb (I5 0 5) fun x6 =>
    lb (u2 I5 0 5 v1) fun I7 =>
    some (x6, I7)
  else
    some (r2, I)
noncomputable def f_X7_setThreshold (v1 : Int32) (I : St) : Option (Int32 × St) :=
  ob1 (f_X7_settingError v1 1 8 I) fun r2 =>
  if 0 ≤ r2 then
    ob1 (f_X3_remember I) fun I5 =>
    lb (I5 0 6) fun x6 =>
    lb (u2 I5 0 6 v1) fun I7 =>
    some (x6, I7)
  else
    some (r2, I)
noncomputable def f_X7_setFine (v1 : Int32) (I : St) : Option (Int32 × St) :=
  ob1 (f_X7_settingError v1 0 1000 I) fun r2 =>
  if 0 ≤ r2 then
    ob1 (f_X3_remember I) fun I5 =>
    lb (I5 0 7) fun x6 =>
    lb (u2 I5 0 7 v1) fun I7 =>
    some (x6, I7)
  else
    some (r2, I)
noncomputable def f_X7_setDelay (v1 : Int32) (I : St) : Option (Int32 × St) :=
  ob1 (f_X7_settingError v1 1 5000 I) fun r2 =>
  if 0 ≤ r2 then
    ob1 (f_X3_remember I) fun I5 =>
    lb (I5 0 8) fun x6 =>
    lb (u2 I5 0 8 v1) fun I7 =>
    some (x6, I7)
  else
    some (r2, I)
noncomputable def f_X4_ableToPay_b40 (K4 : Int32 → Int32 → St → Option (Int32)) (v1 : Int32) (v2 : Int32) (I : St) : Option (Int32) :=
  K4 v1 (v2 + 1) I
noncomputable def f_X4_ableToPay_l4 : Nat → Int32 → Int32 → St → Option (Int32)
  | 0, _, _, _ => none
  | n + 1, v1, v2, I =>
    if 8 ≤ v2 then
      some v1
    else
      if (I 0 3) ≤ v2 then
        f_X4_ableToPay_b40 (f_X4_ableToPay_l4 n) v1 v2 I
      else
        ck (inb v2 8) <|
        lb (I (5 + v2.toNatClampNeg) 0) fun x4 =>
        if x4 < (I 0 7) then
          f_X4_ableToPay_b40 (f_X4_ableToPay_l4 n) v1 v2 I
        else
          lb (v1 ||| (ishl 1 v2)) fun x6 =>
          f_X4_ableToPay_b40 (f_X4_ableToPay_l4 n) x6 v2 I
noncomputable def f_X4_ableToPay (I : St) : Option (Int32) :=
  f_X4_ableToPay_l4 10000 0 0 I
noncomputable def f_J6_bitCount_0f7a4 (v0 : Int32) : Option (Int32) :=
  lb (iushr v0 1) fun x1 =>
  lb (v0 - (x1 &&& 1431655765)) fun x2 =>
  lb (x2 &&& 858993459) fun x3 =>
  lb (iushr x2 2) fun x4 =>
  lb (x3 + (x4 &&& 858993459)) fun x5 =>
  lb (x5 + (iushr x5 4)) fun x6 =>
  lb (x6 &&& 252645135) fun x7 =>
  lb (x7 + (iushr x7 8)) fun x8 =>
  lb (x8 + (iushr x8 16)) fun x9 =>
  some (x9 &&& 63)
noncomputable def f_X4_canStart_b41 (t0 : Int32) (I : St) : Option (Int32) :=
  ck (isB t0) <|
  some t0
noncomputable def f_X4_canStart_b36 (I : St) : Option (Int32) :=
  f_X4_canStart_b41 1 I
noncomputable def f_X4_canStart_b40 (I : St) : Option (Int32) :=
  f_X4_canStart_b41 0 I
noncomputable def f_X4_canStart (I : St) : Option (Int32) :=
  ob1 (f_X4_ableToPay I) fun r2 =>
  ob1 (f_J6_bitCount_0f7a4 r2) fun r4 =>
  if (I 0 9) = 0 then
    if r4 < 2 then
      f_X4_canStart_b40 I
    else
      lb (I 0 5) fun x7 =>
      if x7 = 1 then
        if r4 < (I 0 6) then
          f_X4_canStart_b40 I
        else
          f_X4_canStart_b36 I
      else
        f_X4_canStart_b36 I
  else
    f_X4_canStart_b40 I
noncomputable def f_X4_start (I : St) : Option (St) :=
  lb (u2 I 0 9 1) fun I1 =>
  ob1 (f_X4_ableToPay I1) fun r3 =>
  lb (u2 I1 0 10 r3) fun I4 =>
  lb (u2 I4 0 11 0) fun I5 =>
  lb (u2 I5 0 12 0) fun I6 =>
  lb (u2 I6 0 13 0) fun I7 =>
  some I7
noncomputable def f_X7_begin (I : St) : Option (Int32 × St) :=
  ob1 (f_X4_canStart I) fun r2 =>
  if r2 = 0 then
    some ((-2), I)
  else
    ob1 (f_X3_remember I) fun I5 =>
    ob1 (f_X4_start I5) fun I7 =>
    some (I7 3 0, I7)
noncomputable def f_X7_has_b14 (t0 : Int32) : Option (Int32) :=
  ck (isB t0) <|
  some t0
noncomputable def f_X7_has (v0 : Int32) (v1 : Int32) : Option (Int32) :=
  lb (iushr v0 v1) fun x1 =>
  lb (x1 &&& 1) fun x2 =>
  if x2 = 1 then
    f_X7_has_b14 1
  else
    f_X7_has_b14 0
noncomputable def f_X7_mix (v0 : Int32) (v1 : Int32) : Option (Int32) :=
  lb (v0 ^^^ v1) fun x1 =>
  lb (x1 * ((-1640531535))) fun x2 =>
  some (x2 ^^^ (iushr x2 15))
noncomputable def f_X4_digestOf (v1 : Int32) (v2 : Int32) (I : St) : Option (Int32) :=
  ob1 (f_X7_mix 17 (I 3 0)) fun r2 =>
  ob1 (f_X7_mix r2 v1) fun r4 =>
  ob1 (f_X7_mix r4 v2) fun r6 =>
  some r6
noncomputable def f_X4_isTaken_b34 (K2 : Int32 → Int32 → St → Option (Int32)) (v1 : Int32) (v2 : Int32) (I : St) : Option (Int32) :=
  K2 v1 (v2 + 1) I
noncomputable def f_X4_isTaken_l2 : Nat → Int32 → Int32 → St → Option (Int32)
  | 0, _, _, _ => none
  | n + 1, v1, v2, I =>
    if 8 ≤ v2 then
      some 0
    else
      lb (I 0 11) fun x2 =>
      ob1 (f_X7_has x2 v2) fun r4 =>
      if r4 = 0 then
        f_X4_isTaken_b34 (f_X4_isTaken_l2 n) v1 v2 I
      else
        ck (inb v2 8) <|
        lb (I (5 + v2.toNatClampNeg) 6) fun x7 =>
        if x7 = v1 then
          some 1
        else
          f_X4_isTaken_b34 (f_X4_isTaken_l2 n) v1 v2 I
noncomputable def f_X4_isTaken (v1 : Int32) (I : St) : Option (Int32) :=
  f_X4_isTaken_l2 10000 v1 0 I
noncomputable def f_X7_product (v0 : Int32) (v1 : Int32) (v2 : Int32) : Option (Int32) :=
  if 1 ≤ v2 then
    lb (v0.toInt64) fun y2 =>
    lb (y2 * (v1.toInt64)) fun y3 =>
    ck (nzL (v2.toInt64)) <|
    some ((lrem y3 (v2.toInt64)).toInt32)
  else
    some 0
noncomputable def f_X7_power_b34 (K6 : Int32 → Int32 → Int32 → Int32 → Int32 → Option (Int32)) (v0 : Int32) (v1 : Int32) (v2 : Int32) (v3 : Int32) (v4 : Int32) : Option (Int32) :=
  K6 v0 v1 v2 v3 (v4 + (-1))
noncomputable def f_X7_power_l6 : Nat → Int32 → Int32 → Int32 → Int32 → Int32 → Option (Int32)
  | 0, _, _, _, _, _ => none
  | n + 1, v0, v1, v2, v3, v4 =>
    if v4 < 0 then
      some v3
    else
      ob1 (f_X7_product v3 v3 v2) fun r3 =>
      ob1 (f_X7_has v1 v4) fun r5 =>
      if r5 = 0 then
        f_X7_power_b34 (f_X7_power_l6 n) v0 v1 v2 r3 v4
      else
        ob1 (f_X7_product r3 v0 v2) fun r8 =>
        f_X7_power_b34 (f_X7_power_l6 n) v0 v1 v2 r8 v4
noncomputable def f_X7_power (v0 : Int32) (v1 : Int32) (v2 : Int32) : Option (Int32) :=
  f_X7_power_l6 10000 v0 v1 v2 1 30
noncomputable def f_X7_stepped (v0 : Int32) : Option (Int32) :=
  lb (1103515245 * v0) fun x1 =>
  some (x1 + 12345)
noncomputable def f_X7_drawn (v0 : Int32) : Option (Int32) :=
  some (iushr v0 16)
noncomputable def f_X5_deal_l64 (o0 : Nat) (K32 : Int32 → Int32 → Int32 → Int32 → St → Option (St)) : Nat → Int32 → Int32 → Int32 → Int32 → Int32 → St → Option (St)
  | 0, _, _, _, _, _, _ => none
  | n + 1, v2, v3, v4, v5, v6, I =>
    if 8 ≤ v6 then
      ob1 (f_X7_stepped v3) fun r3 =>
      ob1 (f_X7_drawn r3) fun r5 =>
      lb (irem r5 1019) fun x6 =>
      K32 v2 r3 x6 (v5 + 1) I
    else
      ck (inb v6 8) <|
      lb (I (o0 + 8) v6.toNatClampNeg) fun x7 =>
      lb (v6 + 1) fun x8 =>
      ob1 (f_X7_power x8 v5 1019) fun r10 =>
      lb (x7 + (v4 * r10)) fun x11 =>
      ck (inb v6 8) <| lb (u2 I (o0 + 8) v6.toNatClampNeg (irem x11 1019)) fun I12 =>
      f_X5_deal_l64 o0 K32 n v2 v3 v4 v5 (v6 + 1) I12
noncomputable def f_X5_deal_b132 (o0 : Nat) (I : St) : Option (St) :=
  lb (u2 I o0 9 255) fun I13 =>
  some I13
noncomputable def f_X5_deal_l32 (o0 : Nat) : Nat → Int32 → Int32 → Int32 → Int32 → St → Option (St)
  | 0, _, _, _, _, _ => none
  | n + 1, v2, v3, v4, v5, I =>
    if v2 ≤ v5 then
      f_X5_deal_b132 o0 I
    else
      if 8 ≤ v5 then
        f_X5_deal_b132 o0 I
      else
        ob1 (f_X7_power 4 v4 2039) fun r17 =>
        ck (inb v5 8) <| lb (u2 I (o0 + 16) v5.toNatClampNeg r17) fun I18 =>
        f_X5_deal_l64 o0 (f_X5_deal_l32 o0 n) 10000 v2 v3 v4 v5 0 I18
noncomputable def f_X5_deal_l2 (o0 : Nat) : Nat → Int32 → Int32 → Int32 → St → Option (St)
  | 0, _, _, _, _ => none
  | n + 1, v1, v2, v3, I =>
    if 8 ≤ v3 then
      lb (I o0 5) fun x20 =>
      f_X5_deal_l32 o0 10000 v2 x20 v1 0 I
    else
      ck (inb v3 8) <| lb (u2 I (o0 + 8) v3.toNatClampNeg 0) fun I21 =>
      f_X5_deal_l2 o0 n v1 v2 (v3 + 1) I21
noncomputable def f_X5_deal (o0 : Nat) (v1 : Int32) (v2 : Int32) (I : St) : Option (St) :=
  ck (isP o0) <|
  f_X5_deal_l2 o0 10000 v1 v2 0 I
noncomputable def f_X6_value_l7 : Nat → Int32 → Int32 → Int32 → Option (Int32)
  | 0, _, _, _ => none
  | n + 1, v1, v2, v3 =>
    if v1 ≤ v3 then
      some v2
    else
      ob1 (f_X7_product v2 v2 62615533) fun r3 =>
      f_X6_value_l7 n v1 r3 (v3 + 1)
noncomputable def f_X6_value (v0 : Int32) (v1 : Int32) : Option (Int32) :=
  lb (irem v0 62615533) fun x4 =>
  f_X6_value_l7 10000 v1 x4 0
noncomputable def f_X5_putLock (o0 : Nat) (v1 : Int32) (v2 : Int32) (I : St) : Option (St) :=
  ck (isP o0) <|
  ob1 (f_X7_stepped (I o0 5)) fun r2 =>
  ob1 (f_X7_drawn r2) fun r4 =>
  lb (u2 I o0 7 (2 + (irem r4 1000))) fun I5 =>
  lb (I5 o0 7) fun x6 =>
  ob1 (f_X6_value x6 v2) fun r8 =>
  lb (v1 + r8) fun x9 =>
  lb (u2 I5 o0 8 (irem x9 1019)) fun I10 =>
  some I10
noncomputable def f_X4_accept_b80 (I : St) : Option (St) :=
  some I
noncomputable def f_X4_accept_b62 (v2 : Int32) (w4 : Nat) (I : St) : Option (St) :=
  lb (I 0 5) fun x1 =>
  if x1 = 2 then
    ob1 (f_X5_putLock w4 v2 (I 0 8) I) fun I4 =>
    f_X4_accept_b80 I4
  else
    f_X4_accept_b80 I
noncomputable def f_X4_accept (v1 : Int32) (v2 : Int32) (v3 : Int32) (I : St) : Option (St) :=
  ck (inb v1 8) <|
  ck (inb v1 8) <| lb (u2 I 2 v1.toNatClampNeg v2) fun I6 =>
  lb (u2 I6 (5 + v1.toNatClampNeg) 5 v3) fun I7 =>
  ob1 (f_X4_digestOf v2 v3 I7) fun r9 =>
  lb (u2 I7 (5 + v1.toNatClampNeg) 6 r9) fun I10 =>
  lb (I10 0 11) fun x11 =>
  lb (u2 I10 0 11 (x11 ||| (ishl 1 v1))) fun I12 =>
  lb (I12 0 5) fun x13 =>
  if x13 = 1 then
    ob1 (f_X5_deal (5 + v1.toNatClampNeg) v2 (I12 0 6) I12) fun I16 =>
    f_X4_accept_b62 v2 (5 + v1.toNatClampNeg) I16
  else
    f_X4_accept_b62 v2 (5 + v1.toNatClampNeg) I12
noncomputable def f_X7_commit_b22 (I : St) : Option (Int32 × St) :=
  some ((-1), I)
noncomputable def f_X7_commit_b63 (I : St) : Option (Int32 × St) :=
  some ((-2), I)
noncomputable def f_X7_commit (v1 : Int32) (v2 : Int32) (v3 : Int32) (I : St) : Option (Int32 × St) :=
  ob1 (f_X4_isParticipant v1 I) fun r2 =>
  if r2 = 0 then
    f_X7_commit_b22 I
  else
    ob1 (f_X7_isWithin v2 0 1018) fun r5 =>
    if r5 = 0 then
      f_X7_commit_b22 I
    else
      lb (I 0 9) fun x7 =>
      if x7 = 1 then
        lb (I 0 10) fun x9 =>
        ob1 (f_X7_has x9 v1) fun r11 =>
        if r11 = 0 then
          f_X7_commit_b63 I
        else
          lb (I 0 11) fun x13 =>
          ob1 (f_X7_has x13 v1) fun r15 =>
          if r15 = 0 then
            ob1 (f_X4_digestOf v2 v3 I) fun r18 =>
            ob1 (f_X4_isTaken r18 I) fun r20 =>
            if r20 = 0 then
              ob1 (f_X3_remember I) fun I23 =>
              ob1 (f_X4_accept v1 v2 v3 I23) fun I25 =>
              some (r18 &&& 1073741823, I25)
            else
              some ((-4), I)
          else
            f_X7_commit_b63 I
      else
        f_X7_commit_b63 I
noncomputable def f_X4_isCommitted_b23 (t0 : Int32) (I : St) : Option (Int32) :=
  ck (isB t0) <|
  some t0
noncomputable def f_X4_isCommitted_b22 (I : St) : Option (Int32) :=
  f_X4_isCommitted_b23 0 I
noncomputable def f_X4_isCommitted (v1 : Int32) (I : St) : Option (Int32) :=
  if (I 0 9) = 0 then
    f_X4_isCommitted_b22 I
  else
    lb (I 0 11) fun x2 =>
    ob1 (f_X7_has x2 v1) fun r4 =>
    if r4 = 0 then
      f_X4_isCommitted_b22 I
    else
      f_X4_isCommitted_b23 1 I
noncomputable def f_X4_hasDealt_b21 (t0 : Int32) (I : St) : Option (Int32) :=
  ck (isB t0) <|
  some t0
noncomputable def f_X4_hasDealt_b20 (I : St) : Option (Int32) :=
  f_X4_hasDealt_b21 0 I
noncomputable def f_X4_hasDealt (v1 : Int32) (I : St) : Option (Int32) :=
  lb (I 0 5) fun x1 =>
  if x1 = 1 then
    ob1 (f_X4_isCommitted v1 I) fun r4 =>
    if r4 = 0 then
      f_X4_hasDealt_b20 I
    else
      f_X4_hasDealt_b21 1 I
  else
    f_X4_hasDealt_b20 I
noncomputable def f_X4_hasShare_b24 (t0 : Int32) (I : St) : Option (Int32) :=
  ck (isB t0) <|
  some t0
noncomputable def f_X4_hasShare_b23 (I : St) : Option (Int32) :=
  f_X4_hasShare_b24 0 I
noncomputable def f_X4_hasShare (v1 : Int32) (v2 : Int32) (I : St) : Option (Int32) :=
  ob1 (f_X4_hasDealt v1 I) fun r2 =>
  if r2 = 0 then
    f_X4_hasShare_b23 I
  else
    lb (I 0 10) fun x4 =>
    ob1 (f_X7_has x4 v2) fun r6 =>
    if r6 = 0 then
      f_X4_hasShare_b23 I
    else
      f_X4_hasShare_b24 1 I
noncomputable def f_X5_provenPower_b41 (o0 : Nat) (K6 : Int32 → Int32 → Int32 → Int32 → St → Option (Int32)) (v1 : Int32) (v2 : Int32) (v3 : Int32) (v4 : Int32) (I : St) : Option (Int32) :=
  K6 v1 v2 v3 (v4 + (-1)) I
noncomputable def f_X5_provenPower_l6 (o0 : Nat) : Nat → Int32 → Int32 → Int32 → Int32 → St → Option (Int32)
  | 0, _, _, _, _, _ => none
  | n + 1, v1, v2, v3, v4, I =>
    if v4 < 0 then
      some v3
    else
      if v2 ≤ v4 then
        f_X5_provenPower_b41 o0 (f_X5_provenPower_l6 o0 n) v1 v2 v3 v4 I
      else
        lb (v1 + 1) fun x3 =>
        ob1 (f_X7_power v3 x3 2039) fun r5 =>
        ck (inb v4 8) <|
        lb (I (o0 + 16) v4.toNatClampNeg) fun x6 =>
        ob1 (f_X7_product r5 x6 2039) fun r8 =>
        f_X5_provenPower_b41 o0 (f_X5_provenPower_l6 o0 n) v1 v2 r8 v4 I
noncomputable def f_X5_provenPower (o0 : Nat) (v1 : Int32) (v2 : Int32) (I : St) : Option (Int32) :=
  ck (isP o0) <|
  f_X5_provenPower_l6 o0 10000 v1 v2 1 7 I
noncomputable def f_X5_changeShare_b66 (o0 : Nat) (I : St) : Option (St) :=
  some I
noncomputable def f_X5_changeShare (o0 : Nat) (v1 : Int32) (v2 : Int32) (v3 : Int32) (I : St) : Option (St) :=
  ck (isP o0) <|
  ck (inb v1 8) <|
  lb (I (o0 + 8) v1.toNatClampNeg) fun x1 =>
  lb (x1 + v2) fun x2 =>
  ck (inb v1 8) <| lb (u2 I (o0 + 8) v1.toNatClampNeg (irem x2 1019)) fun I3 =>
  lb (I3 o0 9) fun x4 =>
  lb (ishl 1 v1) fun x5 =>
  lb (u2 I3 o0 9 (x4 &&& (x5 ^^^ ((-1))))) fun I6 =>
  ck (inb v1 8) <|
  lb (I6 (o0 + 8) v1.toNatClampNeg) fun x7 =>
  ob1 (f_X7_power 4 x7 2039) fun r9 =>
  ob1 (f_X5_provenPower o0 v1 v3 I6) fun r11 =>
  if r9 = r11 then
    lb (I6 o0 9) fun x13 =>
    lb (u2 I6 o0 9 (x13 ||| (ishl 1 v1))) fun I14 =>
    f_X5_changeShare_b66 o0 I14
  else
    f_X5_changeShare_b66 o0 I6
noncomputable def f_X7_spoil_b33 (I : St) : Option (Int32 × St) :=
  some ((-1), I)
noncomputable def f_X7_spoil (v1 : Int32) (v2 : Int32) (v3 : Int32) (I : St) : Option (Int32 × St) :=
  ob1 (f_X4_isParticipant v1 I) fun r2 =>
  if r2 = 0 then
    f_X7_spoil_b33 I
  else
    ob1 (f_X4_isParticipant v2 I) fun r5 =>
    if r5 = 0 then
      f_X7_spoil_b33 I
    else
      ob1 (f_X7_isWithin v3 1 1018) fun r8 =>
      if r8 = 0 then
        f_X7_spoil_b33 I
      else
        ob1 (f_X4_hasShare v1 v2 I) fun r11 =>
        if r11 = 0 then
          some ((-9), I)
        else
          ob1 (f_X3_remember I) fun I14 =>
          ck (inb v1 8) <|
          ob1 (f_X5_changeShare (5 + v1.toNatClampNeg) v2 v3 (I14 0 6) I14) fun I17 =>
          ck (inb v1 8) <|
          ck (inb v2 8) <|
          some (I17 (5 + v1.toNatClampNeg + 8) v2.toNatClampNeg, I17)
noncomputable def f_X4_payFine (v1 : Int32) (I : St) : Option (St) :=
  lb (I 0 7) fun x1 =>
  ck (inb v1 8) <|
  lb (imin x1 (I (5 + v1.toNatClampNeg) 0)) fun x3 =>
  ck (inb v1 8) <|
  lb (I (5 + v1.toNatClampNeg) 0) fun x5 =>
  lb (u2 I (5 + v1.toNatClampNeg) 0 (x5 - x3)) fun I6 =>
  lb (I6 0 4) fun x7 =>
  lb (u2 I6 0 4 (x7 + x3)) fun I8 =>
  some I8
noncomputable def f_X4_expel (v1 : Int32) (I : St) : Option (St) :=
  ob1 (f_X4_payFine v1 I) fun I2 =>
  ck (inb v1 8) <|
  lb (I2 (5 + v1.toNatClampNeg) 4) fun x4 =>
  lb (u2 I2 (5 + v1.toNatClampNeg) 4 (x4 + 1)) fun I5 =>
  lb (I5 0 13) fun x6 =>
  lb (u2 I5 0 13 (x6 ||| (ishl 1 v1))) fun I7 =>
  lb (I7 0 10) fun x8 =>
  lb (ishl 1 v1) fun x9 =>
  lb (u2 I7 0 10 (x8 &&& (x9 ^^^ ((-1))))) fun I10 =>
  lb (I10 0 11) fun x11 =>
  lb (ishl 1 v1) fun x12 =>
  lb (u2 I10 0 11 (x11 &&& (x12 ^^^ ((-1))))) fun I13 =>
  some I13
noncomputable def f_X7_complain_b27 (I : St) : Option (Int32 × St) :=
  some ((-1), I)
noncomputable def f_X7_complain (v1 : Int32) (v2 : Int32) (I : St) : Option (Int32 × St) :=
  ob1 (f_X4_isParticipant v1 I) fun r2 =>
  if r2 = 0 then
    f_X7_complain_b27 I
  else
    ob1 (f_X4_isParticipant v2 I) fun r5 =>
    if r5 = 0 then
      f_X7_complain_b27 I
    else
      if v1 = v2 then
        f_X7_complain_b27 I
      else
        lb (I 0 9) fun x8 =>
        if x8 = 1 then
          ob1 (f_X4_hasShare v2 v1 I) fun r11 =>
          if r11 = 0 then
            some ((-9), I)
          else
            ob1 (f_X3_remember I) fun I14 =>
            ck (inb v2 8) <|
            lb (I14 (5 + v2.toNatClampNeg) 9) fun x16 =>
            ob1 (f_X7_has x16 v1) fun r18 =>
            if r18 = 0 then
              ob1 (f_X4_expel v2 I14) fun I21 =>
              some (1, I21)
            else
              ob1 (f_X4_payFine v1 I14) fun I23 =>
              some (0, I23)
        else
          some ((-2), I)
noncomputable def f_X0_put (v1 : Int32) (v2 : Int32) (v3 : Int32) (v4 : Int32) (v5 : Int32) (v6 : Int32) (I : St) : Option (St) :=
  lb (I 3 0) fun x1 =>
  lb (irem x1 16) fun x2 =>
  lb (x2 * 6) fun x3 =>
  ck (inb x3 96) <| lb (u2 I 4 x3.toNatClampNeg v1) fun I4 =>
  lb (x3 + 1) fun x5 =>
  ck (inb x5 96) <| lb (u2 I4 4 x5.toNatClampNeg v2) fun I6 =>
  lb (x3 + 2) fun x7 =>
  ck (inb x7 96) <| lb (u2 I6 4 x7.toNatClampNeg v3) fun I8 =>
  lb (x3 + 3) fun x9 =>
  ck (inb x9 96) <| lb (u2 I8 4 x9.toNatClampNeg v4) fun I10 =>
  lb (x3 + 4) fun x11 =>
  ck (inb x11 96) <| lb (u2 I10 4 x11.toNatClampNeg v5) fun I12 =>
  lb (x3 + 5) fun x13 =>
  ck (inb x13 96) <| lb (u2 I12 4 x13.toNatClampNeg v6) fun I14 =>
  lb (I14 3 0) fun x15 =>
  lb (u2 I14 3 0 (x15 + 1)) fun I16 =>
  some I16
noncomputable def f_X0_addFailure (v1 : Int32) (v2 : Int32) (v3 : Int32) (I : St) : Option (St) :=
  ob1 (f_X0_put ((-5)) v1 v2 0 v3 0 I) fun I2 =>
  lb (u2 I2 3 5 0) fun I3 =>
  some I3
noncomputable def f_X4_startOpening (I : St) : Option (Int32 × St) :=
  lb (u2 I 0 10 (I 0 11)) fun I1 =>
  ob1 (f_J6_bitCount_0f7a4 (I1 0 10)) fun r3 =>
  if 2 ≤ r3 then
    lb (u2 I1 0 9 2) fun I5 =>
    some (r3, I5)
  else
    lb (I1 0 10) fun x6 =>
    ob1 (f_X0_addFailure x6 0 (I1 0 5) I1) fun I8 =>
    lb (u2 I8 0 9 0) fun I9 =>
    some ((-5), I9)
noncomputable def f_X7_beginOpening (I : St) : Option (Int32 × St) :=
  lb (I 0 9) fun x1 =>
  if x1 = 1 then
    ob1 (f_X3_remember I) fun I4 =>
    ob2 (f_X4_startOpening I4) fun r7 I6 =>
    some (r7, I6)
  else
    some ((-2), I)
noncomputable def f_X7_open_b52 (I : St) : Option (Int32 × St) :=
  some ((-2), I)
noncomputable def f_X7_open_b95 (I : St) : Option (Int32 × St) :=
  some (0, I)
noncomputable def f_X7_open (v1 : Int32) (v2 : Int32) (v3 : Int32) (I : St) : Option (Int32 × St) :=
  ob1 (f_X4_isParticipant v1 I) fun r2 =>
  if r2 = 0 then
    some ((-1), I)
  else
    lb (I 0 9) fun x4 =>
    if x4 = 2 then
      lb (I 0 10) fun x6 =>
      ob1 (f_X7_has x6 v1) fun r8 =>
      if r8 = 0 then
        f_X7_open_b52 I
      else
        lb (I 0 12) fun x10 =>
        ob1 (f_X7_has x10 v1) fun r12 =>
        if r12 = 0 then
          ob1 (f_X3_remember I) fun I15 =>
          ck (inb v1 8) <|
          lb (I15 2 v1.toNatClampNeg) fun x16 =>
          if x16 = v2 then
            ck (inb v1 8) <|
            lb (I15 (5 + v1.toNatClampNeg) 5) fun x19 =>
            if x19 = v3 then
              lb (I15 0 12) fun x21 =>
              lb (u2 I15 0 12 (x21 ||| (ishl 1 v1))) fun I22 =>
              some (1, I22)
            else
              f_X7_open_b95 I15
          else
            f_X7_open_b95 I15
        else
          f_X7_open_b52 I
    else
      f_X7_open_b52 I
noncomputable def f_X4_canRecoverAll_b46 (K2 : Int32 → Int32 → St → Option (Int32)) (v1 : Int32) (v2 : Int32) (I : St) : Option (Int32) :=
  K2 v1 (v2 + 1) I
noncomputable def f_X4_canRecoverAll_l2 : Nat → Int32 → Int32 → St → Option (Int32)
  | 0, _, _, _ => none
  | n + 1, v1, v2, I =>
    if 8 ≤ v2 then
      some 1
    else
      lb (I 0 10) fun x2 =>
      lb (x2 &&& (v1 ^^^ ((-1)))) fun x3 =>
      ob1 (f_X7_has x3 v2) fun r5 =>
      if r5 = 0 then
        f_X4_canRecoverAll_b46 (f_X4_canRecoverAll_l2 n) v1 v2 I
      else
        ck (inb v2 8) <|
        ob1 (f_J6_bitCount_0f7a4 (v1 &&& (I (5 + v2.toNatClampNeg) 9))) fun r9 =>
        if (I 0 6) ≤ r9 then
          f_X4_canRecoverAll_b46 (f_X4_canRecoverAll_l2 n) v1 v2 I
        else
          some 0
noncomputable def f_X4_canRecoverAll (v1 : Int32) (I : St) : Option (Int32) :=
  f_X4_canRecoverAll_l2 10000 v1 0 I
noncomputable def f_X4_countedIf_b27 (I : St) : Option (Int32) :=
  some (I 0 10)
noncomputable def f_X4_countedIf (v1 : Int32) (I : St) : Option (Int32) :=
  if (I 0 5) = 0 then
    some v1
  else
    lb (I 0 5) fun x2 =>
    if x2 = 1 then
      ob1 (f_X4_canRecoverAll v1 I) fun r5 =>
      if r5 = 0 then
        some ((-1))
      else
        f_X4_countedIf_b27 I
    else
      f_X4_countedIf_b27 I
noncomputable def f_X4_chargeOrCredit_b68 (K2 : Int32 → St → Option (St)) (v1 : Int32) (I : St) : Option (St) :=
  K2 (v1 + 1) I
noncomputable def f_X4_chargeOrCredit_l2 : Nat → Int32 → St → Option (St)
  | 0, _, _ => none
  | n + 1, v1, I =>
    if 8 ≤ v1 then
      some I
    else
      lb (I 0 12) fun x2 =>
      ob1 (f_X7_has x2 v1) fun r4 =>
      if r4 = 0 then
        lb (I 0 10) fun x6 =>
        ob1 (f_X7_has x6 v1) fun r8 =>
        if r8 = 0 then
          f_X4_chargeOrCredit_b68 (f_X4_chargeOrCredit_l2 n) v1 I
        else
          ck (inb v1 8) <|
          lb (I (5 + v1.toNatClampNeg) 3) fun x11 =>
          lb (u2 I (5 + v1.toNatClampNeg) 3 (x11 + 1)) fun I12 =>
          ob1 (f_X4_payFine v1 I12) fun I14 =>
          f_X4_chargeOrCredit_b68 (f_X4_chargeOrCredit_l2 n) v1 I14
      else
        ck (inb v1 8) <|
        lb (I (5 + v1.toNatClampNeg) 2) fun x16 =>
        lb (u2 I (5 + v1.toNatClampNeg) 2 (x16 + 1)) fun I17 =>
        f_X4_chargeOrCredit_b68 (f_X4_chargeOrCredit_l2 n) v1 I17
noncomputable def f_X4_chargeOrCredit (I : St) : Option (St) :=
  f_X4_chargeOrCredit_l2 10000 0 I
noncomputable def f_X4_mixed_b59 (o1 : Nat) (K11 : Int32 → Int32 → Int32 → St → Option (Int32)) (v2 : Int32) (v3 : Int32) (v4 : Int32) (I : St) : Option (Int32) :=
  K11 v2 v3 (v4 + 1) I
noncomputable def f_X4_mixed_b55 (o1 : Nat) (K11 : Int32 → Int32 → Int32 → St → Option (Int32)) (v2 : Int32) (v4 : Int32) (t0 : Int32) (t1 : Int32) (I : St) : Option (Int32) :=
  ob1 (f_X7_mix t0 t1) fun r2 =>
  f_X4_mixed_b59 o1 K11 v2 r2 v4 I
noncomputable def f_X4_mixed_b65 (o1 : Nat) (v3 : Int32) (I : St) : Option (Int32) :=
  some v3
noncomputable def f_X4_mixed_l11 (o1 : Nat) : Nat → Int32 → Int32 → Int32 → St → Option (Int32)
  | 0, _, _, _, _ => none
  | n + 1, v2, v3, v4, I =>
    if 8 ≤ v4 then
      f_X4_mixed_b65 o1 v3 I
    else
      if 8 ≤ v4 then
        f_X4_mixed_b65 o1 v3 I
      else
        lb (I 0 10) fun x5 =>
        ob1 (f_X7_has x5 v4) fun r7 =>
        if r7 = 0 then
          f_X4_mixed_b59 o1 (f_X4_mixed_l11 o1 n) v2 v3 v4 I
        else
          ob1 (f_X7_has v2 v4) fun r10 =>
          if r10 = 0 then
            f_X4_mixed_b55 o1 (f_X4_mixed_l11 o1 n) v2 v4 v3 0 I
          else
            ck (inb v4 8) <|
            f_X4_mixed_b55 o1 (f_X4_mixed_l11 o1 n) v2 v4 v3 (I o1 v4.toNatClampNeg) I
noncomputable def f_X4_mixed (o1 : Nat) (v2 : Int32) (I : St) : Option (Int32) :=
  ck (isA o1) <|
  lb (I 3 1) fun x12 =>
  f_X4_mixed_l11 o1 10000 v2 x12 0 I
noncomputable def f_X0_addOutput_b80 (v5 : Int32) (t1 : Int32) (I : St) : Option (St) :=
  lb (u2 I 3 5 t1) fun I1 =>
  lb (u2 I1 3 6 v5) fun I2 =>
  lb (I2 3 4) fun x3 =>
  lb (u2 I2 3 4 (imax x3 (I2 3 5))) fun I4 =>
  some I4
noncomputable def f_X0_addOutput_b60 (v5 : Int32) (I : St) : Option (St) :=
  lb (I 3 6) fun x5 =>
  if x5 = v5 then
    lb (I 3 5) fun x7 =>
    f_X0_addOutput_b80 v5 (x7 + 1) I
  else
    f_X0_addOutput_b80 v5 1 I
noncomputable def f_X0_addOutput (v1 : Int32) (v2 : Int32) (v3 : Int32) (v4 : Int32) (I : St) : Option (St) :=
  lb (v1 &&& 1) fun x8 =>
  ob1 (f_J6_bitCount_0f7a4 v2) fun r10 =>
  lb (r10 - v3) fun x11 =>
  ob1 (f_X0_put x8 v2 v3 x11 v4 v1 I) fun I13 =>
  lb (u2 I13 3 1 v1) fun I14 =>
  if x8 = 1 then
    lb (I14 3 3) fun x18 =>
    lb (u2 I14 3 3 (x18 + 1)) fun I19 =>
    f_X0_addOutput_b60 x8 I19
  else
    lb (I14 3 2) fun x16 =>
    lb (u2 I14 3 2 (x16 + 1)) fun I17 =>
    f_X0_addOutput_b60 x8 I17
noncomputable def f_X4_sharePot_b56 (K14 : Int32 → Int32 → St → Option (St)) (v2 : Int32) (v3 : Int32) (I : St) : Option (St) :=
  K14 v2 (v3 + 1) I
noncomputable def f_X4_sharePot_l14 : Nat → Int32 → Int32 → St → Option (St)
  | 0, _, _, _ => none
  | n + 1, v2, v3, I =>
    if 8 ≤ v3 then
      some I
    else
      lb (I 0 12) fun x2 =>
      ob1 (f_X7_has x2 v3) fun r4 =>
      if r4 = 0 then
        f_X4_sharePot_b56 (f_X4_sharePot_l14 n) v2 v3 I
      else
        ck (inb v3 8) <|
        lb (I (5 + v3.toNatClampNeg) 0) fun x7 =>
        lb (u2 I (5 + v3.toNatClampNeg) 0 (x7 + v2)) fun I8 =>
        lb (I8 0 4) fun x9 =>
        lb (u2 I8 0 4 (x9 - v2)) fun I10 =>
        f_X4_sharePot_b56 (f_X4_sharePot_l14 n) v2 v3 I10
noncomputable def f_X4_sharePot (v1 : Int32) (I : St) : Option (St) :=
  if v1 = 0 then
    some I
  else
    lb (I 0 4) fun x12 =>
    ck (nz v1) <|
    lb (x12 / v1) fun x14 =>
    f_X4_sharePot_l14 10000 x14 0 I
noncomputable def f_X4_finish (I : St) : Option (Int32 × St) :=
  ob1 (f_X4_countedIf (I 0 12) I) fun r2 =>
  ob1 (f_X4_chargeOrCredit I) fun I4 =>
  lb (u2 I4 0 9 0) fun I5 =>
  ob1 (f_J6_bitCount_0f7a4 (I5 0 12)) fun r7 =>
  if r2 = ((-1)) then
    lb (I5 0 10) fun x16 =>
    ob1 (f_X0_addFailure x16 r7 (I5 0 5) I5) fun I18 =>
    some ((-5), I18)
  else
    ob1 (f_X4_mixed 2 r2 I5) fun r10 =>
    lb (I5 0 10) fun x11 =>
    ob1 (f_X0_addOutput r10 x11 r7 (I5 0 5) I5) fun I13 =>
    ob1 (f_X4_sharePot r7 I13) fun I15 =>
    some (r10 &&& 1, I15)
noncomputable def f_X7_close (I : St) : Option (Int32 × St) :=
  lb (I 0 9) fun x1 =>
  if x1 = 2 then
    ob1 (f_X3_remember I) fun I4 =>
    ob2 (f_X4_finish I4) fun r7 I6 =>
    some (r7, I6)
  else
    some ((-2), I)
noncomputable def f_X2_commitAll_b71 (K4 : Int32 → Int32 → St → Option (St)) (v2 : Int32) (v3 : Int32) (I : St) : Option (St) :=
  K4 v2 (v3 + 1) I
noncomputable def f_X2_commitAll_l4 : Nat → Int32 → Int32 → St → Option (St)
  | 0, _, _, _ => none
  | n + 1, v2, v3, I =>
    if 8 ≤ v3 then
      some I
    else
      lb (I 0 10) fun x2 =>
      ob1 (f_X7_has x2 v3) fun r4 =>
      if r4 = 0 then
        f_X2_commitAll_b71 (f_X2_commitAll_l4 n) v2 v3 I
      else
        ob1 (f_X7_stepped v2) fun r7 =>
        ob1 (f_X7_drawn r7) fun r9 =>
        lb (irem r9 1019) fun x10 =>
        ob1 (f_X7_stepped r7) fun r12 =>
        ob1 (f_X7_drawn r12) fun r14 =>
        ob1 (f_X4_digestOf x10 r14 I) fun r16 =>
        ob1 (f_X4_isTaken r16 I) fun r18 =>
        if r18 = 0 then
          ob1 (f_X4_accept v3 x10 r14 I) fun I21 =>
          f_X2_commitAll_b71 (f_X2_commitAll_l4 n) r12 v3 I21
        else
          f_X2_commitAll_b71 (f_X2_commitAll_l4 n) r12 v3 I
noncomputable def f_X2_commitAll (v1 : Int32) (I : St) : Option (St) :=
  f_X2_commitAll_l4 10000 v1 0 I
noncomputable def f_X2_memberAfter_l2 : Nat → Int32 → Int32 → St → Option (Int32)
  | 0, _, _, _ => none
  | n + 1, v1, v2, I =>
    if 8 ≤ v2 then
      some v1
    else
      lb (v1 + v2) fun x2 =>
      lb (irem x2 8) fun x3 =>
      lb (I 0 10) fun x4 =>
      ob1 (f_X7_has x4 x3) fun r6 =>
      if r6 = 0 then
        f_X2_memberAfter_l2 n v1 (v2 + 1) I
      else
        some x3
noncomputable def f_X2_memberAfter (v1 : Int32) (I : St) : Option (Int32) :=
  f_X2_memberAfter_l2 10000 v1 1 I
noncomputable def f_X2_cheat_b51 (K2 : Int32 → St → Option (St)) (v1 : Int32) (I : St) : Option (St) :=
  K2 (v1 + 1) I
noncomputable def f_X2_cheat_l2 : Nat → Int32 → St → Option (St)
  | 0, _, _ => none
  | n + 1, v1, I =>
    if 8 ≤ v1 then
      some I
    else
      lb (I 0 11) fun x2 =>
      ob1 (f_X7_has x2 v1) fun r4 =>
      if r4 = 0 then
        f_X2_cheat_b51 (f_X2_cheat_l2 n) v1 I
      else
        ck (inb v1 8) <|
        lb (I (5 + v1.toNatClampNeg) 1) fun x7 =>
        if x7 = 3 then
          ck (inb v1 8) <|
          ob1 (f_X2_memberAfter v1 I) fun r11 =>
          ob1 (f_X5_changeShare (5 + v1.toNatClampNeg) r11 1 (I 0 6) I) fun I13 =>
          f_X2_cheat_b51 (f_X2_cheat_l2 n) v1 I13
        else
          f_X2_cheat_b51 (f_X2_cheat_l2 n) v1 I
noncomputable def f_X2_cheat (I : St) : Option (St) :=
  f_X2_cheat_l2 10000 0 I
noncomputable def f_X2_complainAll_b64 (K2 : Int32 → St → Option (St)) (K10 : Int32 → Int32 → St → Option (St)) (v1 : Int32) (v2 : Int32) (I : St) : Option (St) :=
  K10 v1 (v2 + 1) I
noncomputable def f_X2_complainAll_l10 (K2 : Int32 → St → Option (St)) : Nat → Int32 → Int32 → St → Option (St)
  | 0, _, _, _ => none
  | n + 1, v1, v2, I =>
    if 8 ≤ v2 then
      K2 (v1 + 1) I
    else
      if v1 = v2 then
        f_X2_complainAll_b64 K2 (f_X2_complainAll_l10 K2 n) v1 v2 I
      else
        lb (I 0 10) fun x3 =>
        ob1 (f_X7_has x3 v1) fun r5 =>
        if r5 = 0 then
          f_X2_complainAll_b64 K2 (f_X2_complainAll_l10 K2 n) v1 v2 I
        else
          lb (I 0 11) fun x7 =>
          ob1 (f_X7_has x7 v2) fun r9 =>
          if r9 = 0 then
            f_X2_complainAll_b64 K2 (f_X2_complainAll_l10 K2 n) v1 v2 I
          else
            ck (inb v2 8) <|
            lb (I (5 + v2.toNatClampNeg) 9) fun x12 =>
            ob1 (f_X7_has x12 v1) fun r14 =>
            if r14 = 0 then
              ob1 (f_X4_expel v2 I) fun I17 =>
              f_X2_complainAll_b64 K2 (f_X2_complainAll_l10 K2 n) v1 v2 I17
            else
              f_X2_complainAll_b64 K2 (f_X2_complainAll_l10 K2 n) v1 v2 I
noncomputable def f_X2_complainAll_l2 : Nat → Int32 → St → Option (St)
  | 0, _, _ => none
  | n + 1, v1, I =>
    if 8 ≤ v1 then
      some I
    else
      f_X2_complainAll_l10 (f_X2_complainAll_l2 n) 10000 v1 0 I
noncomputable def f_X2_complainAll (I : St) : Option (St) :=
  f_X2_complainAll_l2 10000 0 I
noncomputable def f_X2_openHonest_b50 (K2 : Int32 → St → Option (St)) (v1 : Int32) (I : St) : Option (St) :=
  K2 (v1 + 1) I
noncomputable def f_X2_openHonest_b38 (K2 : Int32 → St → Option (St)) (v1 : Int32) (I : St) : Option (St) :=
  lb (I 0 12) fun x1 =>
  lb (u2 I 0 12 (x1 ||| (ishl 1 v1))) fun I2 =>
  f_X2_openHonest_b50 K2 v1 I2
noncomputable def f_X2_openHonest_l2 : Nat → Int32 → St → Option (St)
  | 0, _, _ => none
  | n + 1, v1, I =>
    if 8 ≤ v1 then
      some I
    else
      ck (inb v1 8) <|
      lb (I (5 + v1.toNatClampNeg) 1) fun x5 =>
      lb (I 0 10) fun x6 =>
      ob1 (f_X7_has x6 v1) fun r8 =>
      if r8 = 0 then
        f_X2_openHonest_b50 (f_X2_openHonest_l2 n) v1 I
      else
        if x5 = 0 then
          f_X2_openHonest_b38 (f_X2_openHonest_l2 n) v1 I
        else
          if x5 = 3 then
            f_X2_openHonest_b38 (f_X2_openHonest_l2 n) v1 I
          else
            f_X2_openHonest_b50 (f_X2_openHonest_l2 n) v1 I
noncomputable def f_X2_openHonest (I : St) : Option (St) :=
  f_X2_openHonest_l2 10000 0 I
noncomputable def f_X2_givesOne_b31 (t0 : Int32) (I : St) : Option (Int32) :=
  ck (isB t0) <|
  some t0
noncomputable def f_X2_givesOne_b30 (I : St) : Option (Int32) :=
  f_X2_givesOne_b31 0 I
noncomputable def f_X2_givesOne (v1 : Int32) (I : St) : Option (Int32) :=
  ob1 (f_X4_countedIf v1 I) fun r2 =>
  if r2 = ((-1)) then
    f_X2_givesOne_b30 I
  else
    ob1 (f_X4_mixed 2 r2 I) fun r5 =>
    lb (r5 &&& 1) fun x6 =>
    if x6 = 1 then
      f_X2_givesOne_b31 1 I
    else
      f_X2_givesOne_b30 I
noncomputable def f_X2_openSelfish_b65 (K2 : Int32 → St → Option (St)) (v1 : Int32) (I : St) : Option (St) :=
  K2 (v1 + 1) I
noncomputable def f_X2_openSelfish_b60 (K2 : Int32 → St → Option (St)) (v1 : Int32) (v2 : Int32) (I : St) : Option (St) :=
  lb (u2 I 0 12 v2) fun I1 =>
  f_X2_openSelfish_b65 K2 v1 I1
noncomputable def f_X2_openSelfish_l2 : Nat → Int32 → St → Option (St)
  | 0, _, _ => none
  | n + 1, v1, I =>
    if 8 ≤ v1 then
      some I
    else
      lb (I 0 10) fun x3 =>
      ob1 (f_X7_has x3 v1) fun r5 =>
      if r5 = 0 then
        f_X2_openSelfish_b65 (f_X2_openSelfish_l2 n) v1 I
      else
        ck (inb v1 8) <|
        lb (I (5 + v1.toNatClampNeg) 1) fun x8 =>
        if x8 = 2 then
          lb (I 0 12) fun x10 =>
          lb (x10 ||| (ishl 1 v1)) fun x11 =>
          ob1 (f_X2_givesOne (I 0 12) I) fun r13 =>
          if r13 = 0 then
            f_X2_openSelfish_b60 (f_X2_openSelfish_l2 n) v1 x11 I
          else
            ob1 (f_X2_givesOne x11 I) fun r16 =>
            if r16 = 0 then
              f_X2_openSelfish_b65 (f_X2_openSelfish_l2 n) v1 I
            else
              f_X2_openSelfish_b60 (f_X2_openSelfish_l2 n) v1 x11 I
        else
          f_X2_openSelfish_b65 (f_X2_openSelfish_l2 n) v1 I
noncomputable def f_X2_openSelfish (I : St) : Option (St) :=
  f_X2_openSelfish_l2 10000 0 I
noncomputable def f_X2_playRound_b25 (I : St) : Option (Int32 × St) :=
  ob2 (f_X4_startOpening I) fun r3 I2 =>
  if r3 = ((-5)) then
    some ((-5), I2)
  else
    ob1 (f_X2_openHonest I2) fun I6 =>
    ob1 (f_X2_openSelfish I6) fun I8 =>
    ob2 (f_X4_finish I8) fun r11 I10 =>
    some (r11, I10)
noncomputable def f_X2_playRound (v1 : Int32) (I : St) : Option (Int32 × St) :=
  ob1 (f_X4_start I) fun I13 =>
  ob1 (f_X2_commitAll v1 I13) fun I15 =>
  lb (I15 0 5) fun x16 =>
  if x16 = 1 then
    ob1 (f_X2_cheat I15) fun I19 =>
    ob1 (f_X2_complainAll I19) fun I21 =>
    f_X2_playRound_b25 I21
  else
    f_X2_playRound_b25 I15
noncomputable def f_X7_play (v1 : Int32) (I : St) : Option (Int32 × St) :=
  ob1 (f_X4_canStart I) fun r2 =>
  if r2 = 0 then
    some ((-2), I)
  else
    ob1 (f_X3_remember I) fun I5 =>
    ob2 (f_X2_playRound v1 I5) fun r8 I7 =>
    some (r8, I7)
noncomputable def f_X7_phase (I : St) : Option (Int32) :=
  some (I 0 9)
noncomputable def f_X7_set (v1 : Int32) (I : St) : Option (Int32) :=
  ob1 (f_X7_isWithin v1 0 3) fun r2 =>
  if r2 = 0 then
    some ((-1))
  else
    if (I 0 9) = 0 then
      some ((-2))
    else
      if v1 = 0 then
        some (I 0 10)
      else
        if v1 = 1 then
          some (I 0 11)
        else
          if v1 = 2 then
            some (I 0 12)
          else
            some (I 0 13)
noncomputable def f_X7_digest (v1 : Int32) (I : St) : Option (Int32) :=
  ob1 (f_X4_isParticipant v1 I) fun r2 =>
  if r2 = 0 then
    some ((-1))
  else
    ob1 (f_X4_isCommitted v1 I) fun r5 =>
    if r5 = 0 then
      some ((-9))
    else
      ck (inb v1 8) <|
      lb (I (5 + v1.toNatClampNeg) 6) fun x8 =>
      some (x8 &&& 1073741823)
noncomputable def f_X7_share_b22 (I : St) : Option (Int32) :=
  some ((-1))
noncomputable def f_X7_share (v1 : Int32) (v2 : Int32) (I : St) : Option (Int32) :=
  ob1 (f_X4_isParticipant v1 I) fun r2 =>
  if r2 = 0 then
    f_X7_share_b22 I
  else
    ob1 (f_X4_isParticipant v2 I) fun r5 =>
    if r5 = 0 then
      f_X7_share_b22 I
    else
      ob1 (f_X4_hasShare v1 v2 I) fun r8 =>
      if r8 = 0 then
        some ((-9))
      else
        ck (inb v1 8) <|
        ck (inb v2 8) <|
        some (I (5 + v1.toNatClampNeg + 8) v2.toNatClampNeg)
noncomputable def f_X7_isRight_b22 (I : St) : Option (Int32) :=
  some ((-1))
noncomputable def f_X7_isRight_b63 (t0 : Int32) (I : St) : Option (Int32) :=
  some t0
noncomputable def f_X7_isRight (v1 : Int32) (v2 : Int32) (I : St) : Option (Int32) :=
  ob1 (f_X4_isParticipant v1 I) fun r2 =>
  if r2 = 0 then
    f_X7_isRight_b22 I
  else
    ob1 (f_X4_isParticipant v2 I) fun r5 =>
    if r5 = 0 then
      f_X7_isRight_b22 I
    else
      ob1 (f_X4_hasShare v1 v2 I) fun r8 =>
      if r8 = 0 then
        some ((-9))
      else
        ck (inb v1 8) <|
        lb (I (5 + v1.toNatClampNeg) 9) fun x11 =>
        ob1 (f_X7_has x11 v2) fun r13 =>
        if r13 = 0 then
          f_X7_isRight_b63 0 I
        else
          f_X7_isRight_b63 1 I
noncomputable def f_X7_check_b15 (I : St) : Option (Int32) :=
  some ((-1))
noncomputable def f_X7_check_b45 (I : St) : Option (Int32) :=
  some ((-9))
noncomputable def f_X7_check (v1 : Int32) (v2 : Int32) (I : St) : Option (Int32) :=
  ob1 (f_X4_isParticipant v1 I) fun r2 =>
  if r2 = 0 then
    f_X7_check_b15 I
  else
    if 0 ≤ v2 then
      ob1 (f_X4_hasDealt v1 I) fun r6 =>
      if r6 = 0 then
        f_X7_check_b45 I
      else
        if (I 0 6) ≤ v2 then
          f_X7_check_b45 I
        else
          if v2 < 8 then
            ck (inb v1 8) <|
            ck (inb v2 8) <|
            some (I (5 + v1.toNatClampNeg + 16) v2.toNatClampNeg)
          else
            f_X7_check_b45 I
    else
      f_X7_check_b15 I
noncomputable def f_X7_smallest_b32 (K4 : Int32 → Int32 → Int32 → Int32 → Option (Int32)) (v0 : Int32) (v1 : Int32) (v2 : Int32) (v3 : Int32) : Option (Int32) :=
  K4 v0 v1 v2 (v3 + 1)
noncomputable def f_X7_smallest_l4 : Nat → Int32 → Int32 → Int32 → Int32 → Option (Int32)
  | 0, _, _, _, _ => none
  | n + 1, v0, v1, v2, v3 =>
    if 8 ≤ v3 then
      some v2
    else
      ob1 (f_X7_has v0 v3) fun r3 =>
      if r3 = 0 then
        f_X7_smallest_b32 (f_X7_smallest_l4 n) v0 v1 v2 v3
      else
        ob1 (f_J6_bitCount_0f7a4 v2) fun r6 =>
        if v1 ≤ r6 then
          f_X7_smallest_b32 (f_X7_smallest_l4 n) v0 v1 v2 v3
        else
          lb (v2 ||| (ishl 1 v3)) fun x8 =>
          f_X7_smallest_b32 (f_X7_smallest_l4 n) v0 v1 x8 v3
noncomputable def f_X7_smallest (v0 : Int32) (v1 : Int32) : Option (Int32) :=
  f_X7_smallest_l4 10000 v0 v1 0 0
noncomputable def f_X5_weight_b61 (K7 : Int32 → Int32 → Int32 → Int32 → Int32 → Option (Int32)) (v0 : Int32) (v1 : Int32) (v2 : Int32) (v3 : Int32) (v4 : Int32) : Option (Int32) :=
  K7 v0 v1 v2 v3 (v4 + 1)
noncomputable def f_X5_weight_l7 : Nat → Int32 → Int32 → Int32 → Int32 → Int32 → Option (Int32)
  | 0, _, _, _, _, _ => none
  | n + 1, v0, v1, v2, v3, v4 =>
    if 8 ≤ v4 then
      ob1 (f_X7_power v3 1017 1019) fun r3 =>
      ob1 (f_X7_product v2 r3 1019) fun r5 =>
      some r5
    else
      if v4 = v0 then
        f_X5_weight_b61 (f_X5_weight_l7 n) v0 v1 v2 v3 v4
      else
        ob1 (f_X7_has v1 v4) fun r8 =>
        if r8 = 0 then
          f_X5_weight_b61 (f_X5_weight_l7 n) v0 v1 v2 v3 v4
        else
          lb (v4 + 1) fun x10 =>
          ob1 (f_X7_product v2 x10 1019) fun r12 =>
          lb (v4 - v0) fun x13 =>
          lb (x13 + 1019) fun x14 =>
          lb (irem x14 1019) fun x15 =>
          ob1 (f_X7_product v3 x15 1019) fun r17 =>
          f_X5_weight_b61 (f_X5_weight_l7 n) v0 v1 r12 r17 v4
noncomputable def f_X5_weight (v0 : Int32) (v1 : Int32) : Option (Int32) :=
  f_X5_weight_l7 10000 v0 v1 1 1 0
noncomputable def f_X5_valueAtZero_b42 (o0 : Nat) (K4 : Int32 → Int32 → Int32 → St → Option (Int32)) (v1 : Int32) (v2 : Int32) (v3 : Int32) (I : St) : Option (Int32) :=
  K4 v1 v2 (v3 + 1) I
noncomputable def f_X5_valueAtZero_l4 (o0 : Nat) : Nat → Int32 → Int32 → Int32 → St → Option (Int32)
  | 0, _, _, _, _ => none
  | n + 1, v1, v2, v3, I =>
    if 8 ≤ v3 then
      some v2
    else
      ob1 (f_X7_has v1 v3) fun r3 =>
      if r3 = 0 then
        f_X5_valueAtZero_b42 o0 (f_X5_valueAtZero_l4 o0 n) v1 v2 v3 I
      else
        ck (inb v3 8) <|
        lb (I (o0 + 8) v3.toNatClampNeg) fun x5 =>
        ob1 (f_X5_weight v3 v1) fun r7 =>
        ob1 (f_X7_product x5 r7 1019) fun r9 =>
        lb (v2 + r9) fun x10 =>
        lb (irem x10 1019) fun x11 =>
        f_X5_valueAtZero_b42 o0 (f_X5_valueAtZero_l4 o0 n) v1 x11 v3 I
noncomputable def f_X5_valueAtZero (o0 : Nat) (v1 : Int32) (I : St) : Option (Int32) :=
  ck (isP o0) <|
  f_X5_valueAtZero_l4 o0 10000 v1 0 0 I
noncomputable def f_X7_recover_b22 (I : St) : Option (Int32) :=
  some ((-1))
noncomputable def f_X7_recover_b59 (I : St) : Option (Int32) :=
  some ((-9))
noncomputable def f_X7_recover (v1 : Int32) (v2 : Int32) (I : St) : Option (Int32) :=
  ob1 (f_X4_isParticipant v1 I) fun r2 =>
  if r2 = 0 then
    f_X7_recover_b22 I
  else
    ob1 (f_X7_isWithin v2 0 255) fun r5 =>
    if r5 = 0 then
      f_X7_recover_b22 I
    else
      lb (v2 &&& (I 0 10)) fun x7 =>
      ob1 (f_X4_hasDealt v1 I) fun r9 =>
      if r9 = 0 then
        f_X7_recover_b59 I
      else
        ob1 (f_J6_bitCount_0f7a4 x7) fun r12 =>
        if (I 0 6) ≤ r12 then
          ck (inb v1 8) <|
          ob1 (f_X7_smallest x7 (I 0 6)) fun r16 =>
          ob1 (f_X5_valueAtZero (5 + v1.toNatClampNeg) r16 I) fun r18 =>
          some r18
        else
          f_X7_recover_b59 I
noncomputable def f_X7_lock_b20 (I : St) : Option (Int32) :=
  some ((-1))
noncomputable def f_X7_lock_b44 (I : St) : Option (Int32) :=
  some ((-9))
noncomputable def f_X7_lock_b78 (t0 : Int32) (I : St) : Option (Int32) :=
  some t0
noncomputable def f_X7_lock (v1 : Int32) (v2 : Int32) (I : St) : Option (Int32) :=
  ob1 (f_X4_isParticipant v1 I) fun r2 =>
  if r2 = 0 then
    f_X7_lock_b20 I
  else
    ob1 (f_X7_isWithin v2 0 1) fun r5 =>
    if r5 = 0 then
      f_X7_lock_b20 I
    else
      lb (I 0 5) fun x7 =>
      if x7 = 2 then
        ob1 (f_X4_isCommitted v1 I) fun r10 =>
        if r10 = 0 then
          f_X7_lock_b44 I
        else
          if v2 = 0 then
            ck (inb v1 8) <|
            f_X7_lock_b78 (I (5 + v1.toNatClampNeg) 7) I
          else
            ck (inb v1 8) <|
            f_X7_lock_b78 (I (5 + v1.toNatClampNeg) 8) I
      else
        f_X7_lock_b44 I
noncomputable def f_X4_canConspire_b31 (t0 : Int32) (I : St) : Option (Int32) :=
  ck (isB t0) <|
  some t0
noncomputable def f_X4_canConspire_b30 (I : St) : Option (Int32) :=
  f_X4_canConspire_b31 0 I
noncomputable def f_X4_canConspire (v1 : Int32) (I : St) : Option (Int32) :=
  lb (I 0 9) fun x1 =>
  if x1 = 2 then
    lb (I 0 10) fun x3 =>
    lb (I 0 12) fun x4 =>
    lb (x3 &&& (x4 ^^^ ((-1)))) fun x5 =>
    if (v1 &&& (x5 ^^^ ((-1)))) = 0 then
      f_X4_canConspire_b31 1 I
    else
      f_X4_canConspire_b30 I
  else
    f_X4_canConspire_b30 I
noncomputable def f_X1_add_b87 (I : St) : Option (St) :=
  some I
noncomputable def f_X1_add_b50 (v1 : Int32) (t0 : Int32) (I : St) : Option (St) :=
  if t0 = 0 then
    lb (I 148 3) fun x2 =>
    if 256 ≤ x2 then
      f_X1_add_b87 I
    else
      lb (I 148 3) fun x4 =>
      ck (inb x4 256) <| lb (u2 I 149 x4.toNatClampNeg v1) fun I5 =>
      lb (I5 148 3) fun x6 =>
      lb (u2 I5 148 3 (x6 + 1)) fun I7 =>
      f_X1_add_b87 I7
  else
    f_X1_add_b87 I
noncomputable def f_X1_add_b49 (v1 : Int32) (I : St) : Option (St) :=
  f_X1_add_b50 v1 0 I
noncomputable def f_X1_add (v1 : Int32) (I : St) : Option (St) :=
  if v1 = ((-1)) then
    lb (u2 I 148 4 1) fun I16 =>
    some I16
  else
    if (I 148 3) ≤ 0 then
      f_X1_add_b49 v1 I
    else
      lb (I 148 3) fun x10 =>
      if 256 < x10 then
        f_X1_add_b49 v1 I
      else
        lb (I 148 3) fun x12 =>
        lb (x12 - 1) fun x13 =>
        ck (inb x13 256) <|
        lb (I 149 x13.toNatClampNeg) fun x14 =>
        if x14 = v1 then
          f_X1_add_b50 v1 1 I
        else
          f_X1_add_b49 v1 I
noncomputable def f_X1_gather_b51 (K22 : Int32 → Int32 → Int32 → St → Option (St)) (v2 : Int32) (v3 : Int32) (v4 : Int32) (I : St) : Option (St) :=
  K22 v2 v3 (v4 + 1) I
noncomputable def f_X1_gather_l22 : Nat → Int32 → Int32 → Int32 → St → Option (St)
  | 0, _, _, _, _ => none
  | n + 1, v2, v3, v4, I =>
    if 256 ≤ v4 then
      some I
    else
      if (v4 &&& (v2 ^^^ ((-1)))) = 0 then
        ob1 (f_X4_countedIf (v3 ||| v4) I) fun r4 =>
        ob1 (f_X1_add r4 I) fun I6 =>
        f_X1_gather_b51 (f_X1_gather_l22 n) v2 v3 v4 I6
      else
        f_X1_gather_b51 (f_X1_gather_l22 n) v2 v3 v4 I
noncomputable def f_X1_gather (v2 : Int32) (I : St) : Option (St) :=
  lb (u2 I 148 3 0) fun I7 =>
  lb (u2 I7 148 4 0) fun I8 =>
  lb (I8 0 10) fun x9 =>
  lb (x9 &&& (v2 ^^^ ((-1)))) fun x10 =>
  f_X1_gather_l22 10000 v2 x10 0 I8
noncomputable def f_X1_isNew_l2 : Nat → Int32 → Int32 → St → Option (Int32)
  | 0, _, _, _ => none
  | n + 1, v1, v2, I =>
    if v1 ≤ v2 then
      some 1
    else
      ck (inb v2 256) <|
      lb (I 150 v2.toNatClampNeg) fun x2 =>
      ck (inb v1 256) <|
      if x2 = (I 150 v1.toNatClampNeg) then
        some 0
      else
        f_X1_isNew_l2 n v1 (v2 + 1) I
noncomputable def f_X1_isNew (v1 : Int32) (I : St) : Option (Int32) :=
  f_X1_isNew_l2 10000 v1 0 I
noncomputable def f_X1_countResults_b63 (K15 : Int32 → Int32 → St → Option (Int32 × St)) (v2 : Int32) (v3 : Int32) (I : St) : Option (Int32 × St) :=
  K15 v2 (v3 + 1) I
noncomputable def f_X1_countResults_b69 (v2 : Int32) (I : St) : Option (Int32 × St) :=
  some (v2, I)
noncomputable def f_X1_countResults_l15 : Nat → Int32 → Int32 → St → Option (Int32 × St)
  | 0, _, _, _ => none
  | n + 1, v2, v3, I =>
    if (I 148 3) ≤ v3 then
      f_X1_countResults_b69 v2 I
    else
      if 256 ≤ v3 then
        f_X1_countResults_b69 v2 I
      else
        ck (inb v3 256) <|
        ob1 (f_X4_mixed 2 (I 149 v3.toNatClampNeg) I) fun r4 =>
        ck (inb v3 256) <| lb (u2 I 150 v3.toNatClampNeg r4) fun I5 =>
        ob1 (f_X1_isNew v3 I5) fun r7 =>
        if r7 = 0 then
          f_X1_countResults_b63 (f_X1_countResults_l15 n) v2 v3 I5
        else
          f_X1_countResults_b63 (f_X1_countResults_l15 n) (v2 + 1) v3 I5
noncomputable def f_X1_countResults_b12 (t0 : Int32) (I : St) : Option (Int32 × St) :=
  f_X1_countResults_l15 10000 t0 0 I
noncomputable def f_X1_countResults (I : St) : Option (Int32 × St) :=
  if (I 148 4) = 0 then
    f_X1_countResults_b12 0 I
  else
    f_X1_countResults_b12 1 I
noncomputable def f_X7_results (v1 : Int32) (I : St) : Option (Int32 × St) :=
  ob1 (f_X7_isWithin v1 0 255) fun r2 =>
  if r2 = 0 then
    some ((-1), I)
  else
    ob1 (f_X4_canConspire v1 I) fun r5 =>
    if r5 = 0 then
      some ((-2), I)
    else
      ob1 (f_X1_gather v1 I) fun I8 =>
      ob2 (f_X1_countResults I8) fun r11 I10 =>
      some (r11, I10)
noncomputable def f_X1_reaches_b48 (o2 : Nat) (I : St) : Option (Int32) :=
  some 0
noncomputable def f_X1_reaches_l3 (o2 : Nat) : Nat → Int32 → Int32 → St → Option (Int32)
  | 0, _, _, _ => none
  | n + 1, v3, v4, I =>
    if (I 148 3) ≤ v4 then
      f_X1_reaches_b48 o2 I
    else
      if 256 ≤ v4 then
        f_X1_reaches_b48 o2 I
      else
        ck (inb v4 256) <|
        ob1 (f_X4_mixed o2 (I 149 v4.toNatClampNeg) I) fun r4 =>
        lb (r4 &&& 1) fun x5 =>
        if x5 = v3 then
          some 1
        else
          f_X1_reaches_l3 o2 n v3 (v4 + 1) I
noncomputable def f_X1_reaches (o2 : Nat) (v3 : Int32) (I : St) : Option (Int32) :=
  ck (isA o2) <|
  f_X1_reaches_l3 o2 10000 v3 0 I
noncomputable def f_X7_canForce_b20 (I : St) : Option (Int32 × St) :=
  some ((-1), I)
noncomputable def f_X7_canForce_b75 (t0 : Int32) (I : St) : Option (Int32 × St) :=
  some (t0, I)
noncomputable def f_X7_canForce (v1 : Int32) (v2 : Int32) (I : St) : Option (Int32 × St) :=
  ob1 (f_X7_isWithin v1 0 255) fun r2 =>
  if r2 = 0 then
    f_X7_canForce_b20 I
  else
    ob1 (f_X7_isWithin v2 0 1) fun r5 =>
    if r5 = 0 then
      f_X7_canForce_b20 I
    else
      ob1 (f_X4_canConspire v1 I) fun r8 =>
      if r8 = 0 then
        some ((-2), I)
      else
        ob1 (f_X1_gather v1 I) fun I11 =>
        ob1 (f_X1_reaches 2 v2 I11) fun r13 =>
        if r13 = 0 then
          f_X7_canForce_b75 0 I11
        else
          f_X7_canForce_b75 1 I11
noncomputable def f_X1_spread_b43 (K6 : Int32 → Int32 → Int32 → Int32 → St → Option (St)) (v2 : Int32) (v3 : Int32) (v4 : Int32) (v5 : Int32) (I : St) : Option (St) :=
  K6 v2 v3 v4 (v5 + 1) I
noncomputable def f_X1_spread_l6 : Nat → Int32 → Int32 → Int32 → Int32 → St → Option (St)
  | 0, _, _, _, _, _ => none
  | n + 1, v2, v3, v4, v5, I =>
    if 8 ≤ v5 then
      some I
    else
      ob1 (f_X7_has v2 v5) fun r3 =>
      if r3 = 0 then
        f_X1_spread_b43 (f_X1_spread_l6 n) v2 v3 v4 v5 I
      else
        lb (ishl 1 v3) fun x5 =>
        ck (inb v5 8) <| lb (u2 I 151 v5.toNatClampNeg (v4 &&& (x5 - 1))) fun I6 =>
        lb (iushr v4 v3) fun x7 =>
        f_X1_spread_b43 (f_X1_spread_l6 n) v2 v3 x7 v5 I6
noncomputable def f_X1_spread (v1 : Int32) (v2 : Int32) (v3 : Int32) (I : St) : Option (St) :=
  f_X1_spread_l6 10000 v2 v3 v1 0 I
noncomputable def f_X1_countForced_b62 (K31 : Int32 → Int32 → Int32 → Int32 → Int32 → St → Option (Int32 × St)) (v2 : Int32) (v3 : Int32) (v4 : Int32) (v5 : Int32) (v6 : Int32) (I : St) : Option (Int32 × St) :=
  K31 v2 v3 v4 v5 (v6 + 1) I
noncomputable def f_X1_countForced_l31 : Nat → Int32 → Int32 → Int32 → Int32 → Int32 → St → Option (Int32 × St)
  | 0, _, _, _, _, _, _ => none
  | n + 1, v2, v3, v4, v5, v6, I =>
    if v4 ≤ v6 then
      some (v5, I)
    else
      ob1 (f_X1_spread v6 v2 v3 I) fun I3 =>
      ob1 (f_X1_reaches 151 1 I3) fun r5 =>
      if r5 = 0 then
        f_X1_countForced_b62 (f_X1_countForced_l31 n) v2 v3 v4 v5 v6 I3
      else
        f_X1_countForced_b62 (f_X1_countForced_l31 n) v2 v3 v4 (v5 + 1) v6 I3
noncomputable def f_X1_countForced (v2 : Int32) (v3 : Int32) (I : St) : Option (Int32 × St) :=
  lb (ur I 151 (va_cpy (I 2) (I 151) 0 0 8)) fun I7 =>
  ob1 (f_J6_bitCount_0f7a4 v2) fun r9 =>
  lb (ishl 1 (v3 * r9)) fun x10 =>
  f_X1_countForced_l31 10000 v2 v3 x10 0 0 I7
noncomputable def f_X7_bias_b20 (I : St) : Option (Int32 × St) :=
  some ((-1), I)
noncomputable def f_X7_bias (v1 : Int32) (v2 : Int32) (I : St) : Option (Int32 × St) :=
  ob1 (f_X7_isWithin v1 0 255) fun r2 =>
  if r2 = 0 then
    f_X7_bias_b20 I
  else
    ob1 (f_X7_isWithin v2 1 4) fun r5 =>
    if r5 = 0 then
      f_X7_bias_b20 I
    else
      ob1 (f_X4_canConspire v1 I) fun r8 =>
      if r8 = 0 then
        some ((-2), I)
      else
        lb (I 0 10) fun x10 =>
        lb (x10 &&& (v1 ^^^ ((-1)))) fun x11 =>
        ob1 (f_J6_bitCount_0f7a4 x11) fun r13 =>
        lb (v2 * r13) fun x14 =>
        if x14 ≤ 12 then
          ob1 (f_X1_gather v1 I) fun I17 =>
          ob2 (f_X1_countForced x11 v2 I17) fun r20 I19 =>
          some (r20, I19)
        else
          some ((-3), I)
noncomputable def f_X7_isSlowTask_b26 (t0 : Int32) : Option (Int32) :=
  ck (isB t0) <|
  some t0
noncomputable def f_X7_isSlowTask_b25 : Option (Int32) :=
  f_X7_isSlowTask_b26 0
noncomputable def f_X7_isSlowTask (v0 : Int32) (v1 : Int32) : Option (Int32) :=
  ob1 (f_X7_isWithin v0 2 100000) fun r2 =>
  if r2 = 0 then
    f_X7_isSlowTask_b25
  else
    ob1 (f_X7_isWithin v1 0 5000) fun r5 =>
    if r5 = 0 then
      f_X7_isSlowTask_b25
    else
      f_X7_isSlowTask_b26 1
noncomputable def f_X7_slow (v1 : Int32) (v2 : Int32) : Option (Int32) :=
  ob1 (f_X7_isSlowTask v1 v2) fun r2 =>
  if r2 = 0 then
    some ((-1))
  else
    ob1 (f_X6_value v1 v2) fun r5 =>
    some r5
noncomputable def f_X6_valueByFactors (v0 : Int32) (v1 : Int32) : Option (Int32) :=
  ob1 (f_X7_power 2 v1 62599708) fun r2 =>
  ob1 (f_X7_power v0 r2 62615533) fun r4 =>
  some r4
noncomputable def f_X7_quick_b21 : Option (Int32) :=
  some ((-1))
noncomputable def f_X7_quick (v1 : Int32) (v2 : Int32) : Option (Int32) :=
  ob1 (f_X7_isWithin v1 2 7906) fun r2 =>
  if r2 = 0 then
    f_X7_quick_b21
  else
    ob1 (f_X7_isWithin v2 0 1000000000) fun r5 =>
    if r5 = 0 then
      f_X7_quick_b21
    else
      ob1 (f_X6_valueByFactors v1 v2) fun r8 =>
      some r8
noncomputable def f_X6_isPrime_b33 (t0 : Int32) : Option (Int32) :=
  ck (isB t0) <|
  some t0
noncomputable def f_X6_isPrime_l2 : Nat → Int32 → Int32 → Option (Int32)
  | 0, _, _ => none
  | n + 1, v0, v1 =>
    lb (v1 * v1) fun x1 =>
    if v0 < x1 then
      if v0 < 2 then
        f_X6_isPrime_b33 0
      else
        f_X6_isPrime_b33 1
    else
      ck (nz v1) <|
      if (irem v0 v1) = 0 then
        some 0
      else
        f_X6_isPrime_l2 n v0 (v1 + 1)
noncomputable def f_X6_isPrime (v0 : Int32) : Option (Int32) :=
  f_X6_isPrime_l2 10000 v0 2
noncomputable def f_X6_leastPrime_l2 : Nat → Int32 → Int32 → Option (Int32)
  | 0, _, _ => none
  | n + 1, v0, v1 =>
    if (2 * v0) ≤ v1 then
      some v0
    else
      ob1 (f_X6_isPrime v1) fun r3 =>
      if r3 = 0 then
        f_X6_leastPrime_l2 n v0 (v1 + 1)
      else
        some v1
noncomputable def f_X6_leastPrime (v0 : Int32) : Option (Int32) :=
  f_X6_leastPrime_l2 10000 v0 v0
noncomputable def f_X6_challenge (v0 : Int32) (v1 : Int32) : Option (Int32) :=
  ob1 (f_X7_mix 19 v0) fun r2 =>
  ob1 (f_X7_mix r2 v1) fun r4 =>
  ob1 (f_X6_leastPrime (257 + (iushr r4 22))) fun r6 =>
  some r6
noncomputable def f_X7_prime (v1 : Int32) (v2 : Int32) : Option (Int32) :=
  ob1 (f_X7_isSlowTask v1 v2) fun r2 =>
  if r2 = 0 then
    some ((-1))
  else
    ob1 (f_X6_value v1 v2) fun r5 =>
    ob1 (f_X6_challenge v1 r5) fun r7 =>
    some r7
noncomputable def f_X6_evidence_b48 (K8 : Int32 → Int32 → Int32 → Int32 → Int32 → Int32 → Option (Int32)) (v0 : Int32) (v1 : Int32) (v2 : Int32) (v3 : Int32) (v4 : Int32) (v5 : Int32) : Option (Int32) :=
  K8 v0 v1 v2 v3 v4 (v5 + 1)
noncomputable def f_X6_evidence_l8 : Nat → Int32 → Int32 → Int32 → Int32 → Int32 → Int32 → Option (Int32)
  | 0, _, _, _, _, _, _ => none
  | n + 1, v0, v1, v2, v3, v4, v5 =>
    if v1 ≤ v5 then
      some v3
    else
      ob1 (f_X7_product v3 v3 62615533) fun r3 =>
      lb (2 * v4) fun x4 =>
      if x4 < v2 then
        f_X6_evidence_b48 (f_X6_evidence_l8 n) v0 v1 v2 r3 x4 v5
      else
        lb (x4 - v2) fun x6 =>
        ob1 (f_X7_product r3 v0 62615533) fun r8 =>
        f_X6_evidence_b48 (f_X6_evidence_l8 n) v0 v1 v2 r8 x6 v5
noncomputable def f_X6_evidence (v0 : Int32) (v1 : Int32) (v2 : Int32) : Option (Int32) :=
  f_X6_evidence_l8 10000 v0 v1 v2 1 1 0
noncomputable def f_X7_proof (v1 : Int32) (v2 : Int32) : Option (Int32) :=
  ob1 (f_X7_isSlowTask v1 v2) fun r2 =>
  if r2 = 0 then
    some ((-1))
  else
    ob1 (f_X6_value v1 v2) fun r5 =>
    ob1 (f_X6_challenge v1 r5) fun r7 =>
    ob1 (f_X6_evidence v1 v2 r7) fun r9 =>
    some r9
noncomputable def f_X6_isProven_b46 (t0 : Int32) : Option (Int32) :=
  ck (isB t0) <|
  some t0
noncomputable def f_X6_isProven (v0 : Int32) (v1 : Int32) (v2 : Int32) (v3 : Int32) : Option (Int32) :=
  ob1 (f_X6_challenge v0 v2) fun r2 =>
  ob1 (f_X7_power 2 v1 r2) fun r4 =>
  ob1 (f_X7_power v3 r2 62615533) fun r6 =>
  ob1 (f_X7_power v0 r4 62615533) fun r8 =>
  ob1 (f_X7_product r6 r8 62615533) fun r10 =>
  if r10 = v2 then
    f_X6_isProven_b46 1
  else
    f_X6_isProven_b46 0
noncomputable def f_X7_accepts_b41 : Option (Int32) :=
  some ((-1))
noncomputable def f_X7_accepts_b59 (t0 : Int32) : Option (Int32) :=
  some t0
noncomputable def f_X7_accepts (v1 : Int32) (v2 : Int32) (v3 : Int32) (v4 : Int32) : Option (Int32) :=
  ob1 (f_X7_isWithin v1 2 100000) fun r2 =>
  if r2 = 0 then
    f_X7_accepts_b41
  else
    ob1 (f_X7_isWithin v2 0 1000000000) fun r5 =>
    if r5 = 0 then
      f_X7_accepts_b41
    else
      ob1 (f_X7_isWithin v3 0 62615532) fun r8 =>
      if r8 = 0 then
        f_X7_accepts_b41
      else
        ob1 (f_X7_isWithin v4 0 62615532) fun r11 =>
        if r11 = 0 then
          f_X7_accepts_b41
        else
          ob1 (f_X6_isProven v1 v2 v3 v4) fun r14 =>
          if r14 = 0 then
            f_X7_accepts_b59 0
          else
            f_X7_accepts_b59 1
noncomputable def f_X7_account_b20 (I : St) : Option (Int32) :=
  some ((-1))
noncomputable def f_X7_account (v1 : Int32) (v2 : Int32) (I : St) : Option (Int32) :=
  ob1 (f_X4_isParticipant v1 I) fun r2 =>
  if r2 = 0 then
    f_X7_account_b20 I
  else
    ob1 (f_X7_isWithin v2 0 4) fun r5 =>
    if r5 = 0 then
      f_X7_account_b20 I
    else
      ck (inb v1 8) <|
      if v2 = 0 then
        some (I (5 + v1.toNatClampNeg) 0)
      else
        if v2 = 1 then
          some (I (5 + v1.toNatClampNeg) 2)
        else
          if v2 = 2 then
            some (I (5 + v1.toNatClampNeg) 3)
          else
            if v2 = 3 then
              some (I (5 + v1.toNatClampNeg) 4)
            else
              some (I (5 + v1.toNatClampNeg) 1)
noncomputable def f_X7_pot (I : St) : Option (Int32) :=
  some (I 0 4)
noncomputable def f_X7_rounds (I : St) : Option (Int32) :=
  some (I 3 0)
noncomputable def f_X0_keeps_b28 (t0 : Int32) (I : St) : Option (Int32) :=
  ck (isB t0) <|
  some t0
noncomputable def f_X0_keeps_b27 (I : St) : Option (Int32) :=
  f_X0_keeps_b28 0 I
noncomputable def f_X0_keeps (v1 : Int32) (I : St) : Option (Int32) :=
  if v1 < 0 then
    f_X0_keeps_b27 I
  else
    if (I 3 0) ≤ v1 then
      f_X0_keeps_b27 I
    else
      lb (I 3 0) fun x3 =>
      if v1 < (x3 - 16) then
        f_X0_keeps_b27 I
      else
        f_X0_keeps_b28 1 I
noncomputable def f_X0_entry (v1 : Int32) (v2 : Int32) (I : St) : Option (Int32) :=
  lb (irem v1 16) fun x1 =>
  lb (x1 * 6) fun x2 =>
  lb (x2 + v2) fun x3 =>
  ck (inb x3 96) <|
  some (I 4 x3.toNatClampNeg)
noncomputable def f_X7_past_b13 (I : St) : Option (Int32) :=
  some ((-1))
noncomputable def f_X7_past (v1 : Int32) (v2 : Int32) (I : St) : Option (Int32) :=
  if v1 < 0 then
    f_X7_past_b13 I
  else
    ob1 (f_X7_isWithin v2 0 4) fun r3 =>
    if r3 = 0 then
      f_X7_past_b13 I
    else
      ob1 (f_X0_keeps v1 I) fun r6 =>
      if r6 = 0 then
        some ((-9))
      else
        ob1 (f_X0_entry v1 v2 I) fun r9 =>
        some r9
noncomputable def f_X7_output (v1 : Int32) (I : St) : Option (Int32) :=
  ob1 (f_X0_keeps v1 I) fun r2 =>
  if r2 = 0 then
    some 0
  else
    ob1 (f_X0_entry v1 5 I) fun r5 =>
    some r5
noncomputable def f_X7_coins_b39 (t0 : Int32) (I : St) : Option (Int32) :=
  some t0
noncomputable def f_X7_coins (v1 : Int32) (I : St) : Option (Int32) :=
  ob1 (f_X7_isWithin v1 0 1) fun r2 =>
  if r2 = 0 then
    some ((-1))
  else
    if v1 = 1 then
      f_X7_coins_b39 (I 3 3) I
    else
      f_X7_coins_b39 (I 3 2) I
noncomputable def f_X7_longestRun (I : St) : Option (Int32) :=
  some (I 3 4)
noncomputable def f_X3_restore_b16 (I : St) : Option (St) :=
  some I
noncomputable def f_X3_restore (I : St) : Option (St) :=
  lb (I 146 1) fun x1 =>
  if x1 < 1 then
    f_X3_restore_b16 I
  else
    lb (I 146 1) fun x3 =>
    if x3 ≤ 4 then
      lb (I 146 1) fun x5 =>
      lb (u2 I 146 1 (x5 - 1)) fun I6 =>
      lb (I6 146 1) fun x7 =>
      ck (inb x7 4) <| lb (I6 147 x7.toNatClampNeg) fun x8 => ck (inb x8 5) <|
      ob1 (f_X4_copy 0 (29 * x8.toNatClampNeg) I6) fun I11 =>
      some I11
    else
      f_X3_restore_b16 I
noncomputable def f_X7_undo (I : St) : Option (Int32 × St) :=
  if (I 146 1) = 0 then
    some ((-2), I)
  else
    ob1 (f_X3_restore I) fun I3 =>
    some (I3 146 1, I3)
noncomputable def f_X7_fingerprint_l74 (K60 : Int64 → Int32 → St → Option (Int64)) : Nat → Int64 → Int32 → Int32 → St → Option (Int64)
  | 0, _, _, _, _ => none
  | n + 1, v1, v3, v4, I =>
    if 4 < v4 then
      K60 v1 (v3 + 1) I
    else
      lb (31 * v1) fun y2 =>
      ob1 (f_X7_account v3 v4 I) fun r4 =>
      lb (y2 + (r4.toInt64)) fun y5 =>
      f_X7_fingerprint_l74 K60 n y5 v3 (v4 + 1) I
noncomputable def f_X7_fingerprint_l147 : Nat → Int64 → Int32 → St → Option (Int64)
  | 0, _, _, _ => none
  | n + 1, v1, v3, I =>
    if (I 0 3) ≤ v3 then
      some v1
    else
      lb (31 * v1) fun y7 =>
      ob1 (f_X7_digest v3 I) fun r9 =>
      lb (y7 + (r9.toInt64)) fun y10 =>
      f_X7_fingerprint_l147 n y10 (v3 + 1) I
noncomputable def f_X7_fingerprint_l121 : Nat → Int64 → Int32 → St → Option (Int64)
  | 0, _, _, _ => none
  | n + 1, v1, v3, I =>
    if 3 < v3 then
      f_X7_fingerprint_l147 10000 v1 0 I
    else
      lb (31 * v1) fun y12 =>
      ob1 (f_X7_set v3 I) fun r14 =>
      lb (y12 + (r14.toInt64)) fun y15 =>
      f_X7_fingerprint_l121 n y15 (v3 + 1) I
noncomputable def f_X7_fingerprint_l60 : Nat → Int64 → Int32 → St → Option (Int64)
  | 0, _, _, _ => none
  | n + 1, v1, v3, I =>
    if (I 0 3) ≤ v3 then
      if (I 0 9) = 0 then
        some v1
      else
        f_X7_fingerprint_l121 10000 v1 0 I
    else
      f_X7_fingerprint_l74 (f_X7_fingerprint_l60 n) 10000 v1 v3 0 I
noncomputable def f_X7_fingerprint (I : St) : Option (Int64) :=
  lb (31 * 23) fun y18 =>
  ob1 (f_X7_phase I) fun r20 =>
  lb (y18 + (r20.toInt64)) fun y21 =>
  lb (31 * y21) fun y22 =>
  ob1 (f_X7_rounds I) fun r24 =>
  lb (y22 + (r24.toInt64)) fun y25 =>
  lb (31 * y25) fun y26 =>
  ob1 (f_X7_pot I) fun r28 =>
  lb (y26 + (r28.toInt64)) fun y29 =>
  lb (31 * y29) fun y30 =>
  lb (y30 + ((I 3 1).toInt64)) fun y31 =>
  f_X7_fingerprint_l60 10000 y31 0 I
noncomputable def f_X8_in_b15 (t0 : Int32) : Option (Int32) :=
  ck (isB t0) <|
  some t0
noncomputable def f_X8_in_b14 : Option (Int32) :=
  f_X8_in_b15 0
noncomputable def f_X8_in (v0 : Int32) (v1 : Int32) (v2 : Int32) : Option (Int32) :=
  if v0 < v1 then
    f_X8_in_b14
  else
    if v2 < v0 then
      f_X8_in_b14
    else
      f_X8_in_b15 1
noncomputable def f_X8_act_l51 : Nat → Int32 → St → Option (St)
  | 0, _, _ => none
  | n + 1, v1, M =>
    if 420 ≤ v1 then
      lb (M 0 2) fun x2 =>
      lb (u2 M 0 2 (x2 + 1)) fun M3 =>
      some M3
    else
      lb (420 * (M 0 2)) fun x4 =>
      lb (x4 + v1) fun x5 =>
      ck (inb v1 420) <|
      ck (inb x5 1680) <| lb (u2 M 2 x5.toNatClampNeg (M 1 v1.toNatClampNeg)) fun M6 =>
      f_X8_act_l51 n (v1 + 1) M6
noncomputable def f_X8_act_b49 (M : St) : Option (St) :=
  f_X8_act_l51 10000 0 M
noncomputable def f_X8_act_l10 : Nat → Int32 → St → Option (St)
  | 0, _, _ => none
  | n + 1, v1, M =>
    if 1260 ≤ v1 then
      lb (M 0 2) fun x8 =>
      lb (u2 M 0 2 (x8 - 1)) fun M9 =>
      f_X8_act_b49 M9
    else
      lb (v1 + 420) fun x10 =>
      ck (inb x10 1680) <|
      ck (inb v1 1680) <| lb (u2 M 2 v1.toNatClampNeg (M 2 x10.toNatClampNeg)) fun M11 =>
      f_X8_act_l10 n (v1 + 1) M11
noncomputable def f_X8_act (M : St) : Option (St) :=
  lb (M 0 2) fun x12 =>
  if x12 = 4 then
    f_X8_act_l10 10000 0 M
  else
    f_X8_act_b49 M
noncomputable def f_X8_mix (v0 : Int32) (v1 : Int32) : Option (Int32) :=
  lb (v0 ^^^ v1) fun x1 =>
  lb (x1 * ((-1640531535))) fun x2 =>
  some (x2 ^^^ (iushr x2 15))
noncomputable def f_X8_draw (M : St) : Option (Int32 × St) :=
  lb (1103515245 * (M 0 5)) fun x1 =>
  lb (u2 M 0 5 (x1 + 12345)) fun M2 =>
  lb (M2 0 5) fun x3 =>
  some (iushr x3 16, M2)
noncomputable def f_X8_person (v0 : Int32) : Option (Int32) :=
  some (20 + (40 * v0))
noncomputable def f_X8_isPerson (v1 : Int32) (M : St) : Option (Int32) :=
  ck (inb 4 420) <|
  lb (M 1 (4 : Int32).toNatClampNeg) fun x1 =>
  ob1 (f_X8_in v1 0 (x1 - 1)) fun r3 =>
  ck (isB r3) <|
  some r3
noncomputable def f_X8_has_b20 (t0 : Int32) (M : St) : Option (Int32) :=
  ck (isB t0) <|
  some t0
noncomputable def f_X8_has (v1 : Int32) (v2 : Int32) (M : St) : Option (Int32) :=
  ob1 (f_X8_person v1) fun r2 =>
  lb (r2 + v2) fun x3 =>
  ck (inb x3 420) <|
  lb (M 1 x3.toNatClampNeg) fun x4 =>
  if x4 = 1 then
    f_X8_has_b20 1 M
  else
    f_X8_has_b20 0 M
noncomputable def f_X8_isMember_b22 (t0 : Int32) (M : St) : Option (Int32) :=
  ck (isB t0) <|
  some t0
noncomputable def f_X8_isMember_b21 (M : St) : Option (Int32) :=
  f_X8_isMember_b22 0 M
noncomputable def f_X8_isMember (v1 : Int32) (M : St) : Option (Int32) :=
  ob1 (f_X8_isPerson v1 M) fun r2 =>
  if r2 = 0 then
    f_X8_isMember_b21 M
  else
    ob1 (f_X8_has v1 5 M) fun r5 =>
    if r5 = 0 then
      f_X8_isMember_b21 M
    else
      f_X8_isMember_b22 1 M
noncomputable def f_X8_setOf_b31 (K4 : Int32 → Int32 → Int32 → St → Option (Int32)) (v1 : Int32) (v3 : Int32) (t0 : Int32) (t1 : Int32) (M : St) : Option (Int32) :=
  lb (t0 ||| t1) fun x1 =>
  K4 v1 x1 (v3 + 1) M
noncomputable def f_X8_setOf_l4 : Nat → Int32 → Int32 → Int32 → St → Option (Int32)
  | 0, _, _, _, _ => none
  | n + 1, v1, v2, v3, M =>
    ck (inb 4 420) <|
    if (M 1 (4 : Int32).toNatClampNeg) ≤ v3 then
      some v2
    else
      ob1 (f_X8_has v3 v1 M) fun r4 =>
      if r4 = 0 then
        f_X8_setOf_b31 (f_X8_setOf_l4 n) v1 v3 v2 0 M
      else
        f_X8_setOf_b31 (f_X8_setOf_l4 n) v1 v3 v2 (ishl 1 v3) M
noncomputable def f_X8_setOf (v1 : Int32) (M : St) : Option (Int32) :=
  f_X8_setOf_l4 10000 v1 0 0 M
noncomputable def f_X8_countOf_l4 : Nat → Int32 → Int32 → Int32 → Option (Int32)
  | 0, _, _, _ => none
  | n + 1, v0, v1, v2 =>
    if 8 ≤ v2 then
      some v1
    else
      lb (ishr v0 v2) fun x2 =>
      lb (v1 + (x2 &&& 1)) fun x3 =>
      f_X8_countOf_l4 n v0 x3 (v2 + 1)
noncomputable def f_X8_countOf (v0 : Int32) : Option (Int32) :=
  f_X8_countOf_l4 10000 v0 0 0
noncomputable def f_X8_pays_b42 (v1 : Int32) (t0 : Int32) (M : St) : Option (St) :=
  ob1 (f_X8_person v1) fun r2 =>
  lb (r2 + 0) fun x3 =>
  ck (inb x3 420) <|
  lb (M 1 x3.toNatClampNeg) fun x4 =>
  ck (inb x3 420) <| lb (u2 M 1 x3.toNatClampNeg (x4 - t0)) fun M5 =>
  ck (inb 2 420) <|
  lb (M5 1 (2 : Int32).toNatClampNeg) fun x6 =>
  ck (inb 2 420) <| lb (u2 M5 1 (2 : Int32).toNatClampNeg (x6 + t0)) fun M7 =>
  some M7
noncomputable def f_X8_pays (v1 : Int32) (M : St) : Option (St) :=
  ob1 (f_X8_person v1) fun r9 =>
  lb (r9 + 0) fun x10 =>
  ck (inb x10 420) <|
  lb (M 1 x10.toNatClampNeg) fun x11 =>
  ck (inb 7 420) <|
  if (M 1 (7 : Int32).toNatClampNeg) ≤ x11 then
    ck (inb 7 420) <|
    f_X8_pays_b42 v1 (M 1 (7 : Int32).toNatClampNeg) M
  else
    ob1 (f_X8_person v1) fun r14 =>
    lb (r14 + 0) fun x15 =>
    ck (inb x15 420) <|
    f_X8_pays_b42 v1 (M 1 x15.toNatClampNeg) M
noncomputable def f_X8_addParticipant (v1 : Int32) (M : St) : Option (Int32 × St) :=
  ob1 (f_X8_in v1 0 1000000) fun r2 =>
  if r2 = 0 then
    some ((-1), M)
  else
    ck (inb 0 420) <|
    if (M 1 (0 : Int32).toNatClampNeg) = 0 then
      ck (inb 4 420) <|
      lb (M 1 (4 : Int32).toNatClampNeg) fun x5 =>
      if x5 = 8 then
        some ((-3), M)
      else
        ob1 (f_X8_act M) fun M8 =>
        ck (inb 4 420) <|
        ob1 (f_X8_person (M8 1 (4 : Int32).toNatClampNeg)) fun r10 =>
        lb (r10 + 0) fun x11 =>
        ck (inb x11 420) <| lb (u2 M8 1 x11.toNatClampNeg v1) fun M12 =>
        ck (inb 4 420) <|
        lb (M12 1 (4 : Int32).toNatClampNeg) fun x13 =>
        ck (inb 4 420) <| lb (u2 M12 1 (4 : Int32).toNatClampNeg (x13 + 1)) fun M14 =>
        ck (inb 4 420) <|
        lb (M14 1 (4 : Int32).toNatClampNeg) fun x15 =>
        some (x15 - 1, M14)
    else
      some ((-2), M)
noncomputable def f_X8_sets (v1 : Int32) (v2 : Int32) (M : St) : Option (Int32 × St) :=
  ob1 (f_X8_act M) fun M2 =>
  ck (inb v1 420) <|
  lb (M2 1 v1.toNatClampNeg) fun x3 =>
  ck (inb v1 420) <| lb (u2 M2 1 v1.toNatClampNeg v2) fun M4 =>
  some (x3, M4)
noncomputable def f_X8_behave_b32 (t0 : Int32) (M : St) : Option (Int32 × St) :=
  some (t0, M)
noncomputable def f_X8_behave_b31 (M : St) : Option (Int32 × St) :=
  f_X8_behave_b32 ((-1)) M
noncomputable def f_X8_behave (v1 : Int32) (v2 : Int32) (M : St) : Option (Int32 × St) :=
  ob1 (f_X8_isPerson v1 M) fun r2 =>
  if r2 = 0 then
    f_X8_behave_b31 M
  else
    ob1 (f_X8_in v2 0 3) fun r5 =>
    if r5 = 0 then
      f_X8_behave_b31 M
    else
      ob1 (f_X8_person v1) fun r8 =>
      lb (r8 + 4) fun x9 =>
      ob2 (f_X8_sets x9 v2 M) fun r12 M11 =>
      f_X8_behave_b32 r12 M11
noncomputable def f_X8_settles_b34 (t0 : Int32) (M : St) : Option (Int32 × St) :=
  some (t0, M)
noncomputable def f_X8_settles (v1 : Int32) (v2 : Int32) (v3 : Int32) (v4 : Int32) (M : St) : Option (Int32 × St) :=
  ob1 (f_X8_in v2 v3 v4) fun r2 =>
  if r2 = 0 then
    f_X8_settles_b34 ((-1)) M
  else
    ck (inb 0 420) <|
    if (M 1 (0 : Int32).toNatClampNeg) = 0 then
      ob2 (f_X8_sets v1 v2 M) fun r7 M6 =>
      f_X8_settles_b34 r7 M6
    else
      f_X8_settles_b34 ((-2)) M
noncomputable def f_X8_setMethod (v1 : Int32) (M : St) : Option (Int32 × St) :=
  ob2 (f_X8_settles 5 v1 0 2 M) fun r3 M2 =>
  some (r3, M2)
noncomputable def f_X8_setThreshold (v1 : Int32) (M : St) : Option (Int32 × St) :=
  ob2 (f_X8_settles 6 v1 1 8 M) fun r3 M2 =>
  some (r3, M2)
noncomputable def f_X8_setFine (v1 : Int32) (M : St) : Option (Int32 × St) :=
  ob2 (f_X8_settles 7 v1 0 1000 M) fun r3 M2 =>
  some (r3, M2)
noncomputable def f_X8_setDelay (v1 : Int32) (M : St) : Option (Int32 × St) :=
  ob2 (f_X8_settles 8 v1 1 5000 M) fun r3 M2 =>
  some (r3, M2)
noncomputable def f_X8_mayBegin_b41 (K4 : Int32 → Int32 → St → Option (Int32)) (v2 : Int32) (t0 : Int32) (t1 : Int32) (M : St) : Option (Int32) :=
  lb (t0 + t1) fun x1 =>
  K4 x1 (v2 + 1) M
noncomputable def f_X8_mayBegin_b89 (t0 : Int32) (M : St) : Option (Int32) :=
  ck (isB t0) <|
  some t0
noncomputable def f_X8_mayBegin_b84 (M : St) : Option (Int32) :=
  f_X8_mayBegin_b89 1 M
noncomputable def f_X8_mayBegin_b88 (M : St) : Option (Int32) :=
  f_X8_mayBegin_b89 0 M
noncomputable def f_X8_mayBegin_l4 : Nat → Int32 → Int32 → St → Option (Int32)
  | 0, _, _, _ => none
  | n + 1, v1, v2, M =>
    ck (inb 4 420) <|
    if (M 1 (4 : Int32).toNatClampNeg) ≤ v2 then
      ck (inb 0 420) <|
      if (M 1 (0 : Int32).toNatClampNeg) = 0 then
        if v1 < 2 then
          f_X8_mayBegin_b88 M
        else
          ck (inb 5 420) <|
          lb (M 1 (5 : Int32).toNatClampNeg) fun x5 =>
          if x5 = 1 then
            ck (inb 6 420) <|
            if v1 < (M 1 (6 : Int32).toNatClampNeg) then
              f_X8_mayBegin_b88 M
            else
              f_X8_mayBegin_b84 M
          else
            f_X8_mayBegin_b84 M
      else
        f_X8_mayBegin_b88 M
    else
      ob1 (f_X8_person v2) fun r9 =>
      lb (r9 + 0) fun x10 =>
      ck (inb x10 420) <|
      lb (M 1 x10.toNatClampNeg) fun x11 =>
      ck (inb 7 420) <|
      if x11 < (M 1 (7 : Int32).toNatClampNeg) then
        f_X8_mayBegin_b41 (f_X8_mayBegin_l4 n) v2 v1 0 M
      else
        f_X8_mayBegin_b41 (f_X8_mayBegin_l4 n) v2 v1 1 M
noncomputable def f_X8_mayBegin (M : St) : Option (Int32) :=
  f_X8_mayBegin_l4 10000 0 0 M
noncomputable def f_X8_begins_b54 (K9 : Int32 → St → Option (St)) (v1 : Int32) (v2 : Int32) (t1 : Int32) (t2 : Int32) (M : St) : Option (St) :=
  ck (inb t1 420) <| lb (u2 M 1 t1.toNatClampNeg t2) fun M1 =>
  lb (v2 + 6) fun x2 =>
  ck (inb x2 420) <| lb (u2 M1 1 x2.toNatClampNeg 0) fun M3 =>
  lb (v2 + 7) fun x4 =>
  ck (inb x4 420) <| lb (u2 M3 1 x4.toNatClampNeg 0) fun M5 =>
  lb (v2 + 8) fun x6 =>
  ck (inb x6 420) <| lb (u2 M5 1 x6.toNatClampNeg 0) fun M7 =>
  K9 (v1 + 1) M7
noncomputable def f_X8_begins_l9 : Nat → Int32 → St → Option (St)
  | 0, _, _ => none
  | n + 1, v1, M =>
    ck (inb 4 420) <|
    if (M 1 (4 : Int32).toNatClampNeg) ≤ v1 then
      some M
    else
      ob1 (f_X8_person v1) fun r10 =>
      lb (r10 + 5) fun x11 =>
      lb (r10 + 0) fun x12 =>
      ck (inb x12 420) <|
      lb (M 1 x12.toNatClampNeg) fun x13 =>
      ck (inb 7 420) <|
      if x13 < (M 1 (7 : Int32).toNatClampNeg) then
        f_X8_begins_b54 (f_X8_begins_l9 n) v1 r10 x11 0 M
      else
        f_X8_begins_b54 (f_X8_begins_l9 n) v1 r10 x11 1 M
noncomputable def f_X8_begins (M : St) : Option (St) :=
  ck (inb 0 420) <| lb (u2 M 1 (0 : Int32).toNatClampNeg 1) fun M15 =>
  f_X8_begins_l9 10000 0 M15
noncomputable def f_X8_begin (M : St) : Option (Int32 × St) :=
  ob1 (f_X8_mayBegin M) fun r2 =>
  if r2 = 0 then
    some ((-2), M)
  else
    ob1 (f_X8_act M) fun M5 =>
    ob1 (f_X8_begins M5) fun M7 =>
    ck (inb 1 420) <|
    some (M7 1 (1 : Int32).toNatClampNeg, M7)
noncomputable def f_X8_digestOf (v1 : Int32) (v2 : Int32) (M : St) : Option (Int32) :=
  ck (inb 1 420) <|
  ob1 (f_X8_mix 17 (M 1 (1 : Int32).toNatClampNeg)) fun r2 =>
  ob1 (f_X8_mix r2 v1) fun r4 =>
  ob1 (f_X8_mix r4 v2) fun r6 =>
  some r6
noncomputable def f_X8_isCopy_b69 (K5 : Int32 → Int32 → Int32 → Int32 → St → Option (Int32)) (v1 : Int32) (v2 : Int32) (v4 : Int32) (t0 : Int32) (M : St) : Option (Int32) :=
  K5 v1 v2 t0 (v4 + 1) M
noncomputable def f_X8_isCopy_b64 (K5 : Int32 → Int32 → Int32 → Int32 → St → Option (Int32)) (v1 : Int32) (v2 : Int32) (v4 : Int32) (M : St) : Option (Int32) :=
  f_X8_isCopy_b69 K5 v1 v2 v4 1 M
noncomputable def f_X8_isCopy_b68 (K5 : Int32 → Int32 → Int32 → Int32 → St → Option (Int32)) (v1 : Int32) (v2 : Int32) (v4 : Int32) (M : St) : Option (Int32) :=
  f_X8_isCopy_b69 K5 v1 v2 v4 0 M
noncomputable def f_X8_isCopy_l5 : Nat → Int32 → Int32 → Int32 → Int32 → St → Option (Int32)
  | 0, _, _, _, _, _ => none
  | n + 1, v1, v2, v3, v4, M =>
    ck (inb 4 420) <|
    if (M 1 (4 : Int32).toNatClampNeg) ≤ v4 then
      ck (isB v3) <|
      some v3
    else
      if v3 = 0 then
        if v4 = v1 then
          f_X8_isCopy_b68 (f_X8_isCopy_l5 n) v1 v2 v4 M
        else
          ob1 (f_X8_has v4 5 M) fun r5 =>
          if r5 = 0 then
            f_X8_isCopy_b68 (f_X8_isCopy_l5 n) v1 v2 v4 M
          else
            ob1 (f_X8_has v4 6 M) fun r8 =>
            if r8 = 0 then
              f_X8_isCopy_b68 (f_X8_isCopy_l5 n) v1 v2 v4 M
            else
              ob1 (f_X8_person v4) fun r11 =>
              lb (r11 + 11) fun x12 =>
              ck (inb x12 420) <|
              lb (M 1 x12.toNatClampNeg) fun x13 =>
              if x13 = v2 then
                f_X8_isCopy_b64 (f_X8_isCopy_l5 n) v1 v2 v4 M
              else
                f_X8_isCopy_b68 (f_X8_isCopy_l5 n) v1 v2 v4 M
      else
        f_X8_isCopy_b64 (f_X8_isCopy_l5 n) v1 v2 v4 M
noncomputable def f_X8_isCopy (v1 : Int32) (v2 : Int32) (M : St) : Option (Int32) :=
  f_X8_isCopy_l5 10000 v1 v2 0 0 M
noncomputable def f_X8_valueAt_l13 : Nat → Int32 → Int32 → Int32 → Int32 → St → Option (Int32)
  | 0, _, _, _, _, _ => none
  | n + 1, v1, v2, v3, v4, M =>
    if v4 < 0 then
      some v3
    else
      lb (v3 * v2) fun x2 =>
      ob1 (f_X8_person v1) fun r4 =>
      lb (r4 + 14) fun x5 =>
      lb (x5 + v4) fun x6 =>
      ck (inb x6 420) <|
      lb (x2 + (M 1 x6.toNatClampNeg)) fun x7 =>
      lb (irem x7 1019) fun x8 =>
      f_X8_valueAt_l13 n v1 v2 x8 (v4 + (-1)) M
noncomputable def f_X8_valueAt (v1 : Int32) (v2 : Int32) (M : St) : Option (Int32) :=
  ck (inb 6 420) <|
  lb (M 1 (6 : Int32).toNatClampNeg) fun x9 =>
  lb (x9 - 1) fun x10 =>
  f_X8_valueAt_l13 10000 v1 v2 0 x10 M
noncomputable def f_X8_deals_l76 : Nat → Int32 → Int32 → Int32 → St → Option (St)
  | 0, _, _, _, _ => none
  | n + 1, v1, v2, v3, M =>
    if 8 ≤ v3 then
      some M
    else
      lb (v2 + 22) fun x2 =>
      lb (x2 + v3) fun x3 =>
      ob1 (f_X8_valueAt v1 (v3 + 1) M) fun r5 =>
      ck (inb x3 420) <| lb (u2 M 1 x3.toNatClampNeg r5) fun M6 =>
      f_X8_deals_l76 n v1 v2 (v3 + 1) M6
noncomputable def f_X8_deals_l38 : Nat → Int32 → Int32 → Int32 → St → Option (St)
  | 0, _, _, _, _ => none
  | n + 1, v1, v2, v3, M =>
    ck (inb 6 420) <|
    if (M 1 (6 : Int32).toNatClampNeg) ≤ v3 then
      f_X8_deals_l76 10000 v1 v2 0 M
    else
      lb (v2 + 14) fun x8 =>
      lb (x8 + v3) fun x9 =>
      ob2 (f_X8_draw M) fun r12 M11 =>
      ck (inb x9 420) <| lb (u2 M11 1 x9.toNatClampNeg (irem r12 1019)) fun M13 =>
      f_X8_deals_l38 n v1 v2 (v3 + 1) M13
noncomputable def f_X8_deals (v1 : Int32) (M : St) : Option (St) :=
  ob1 (f_X8_person v1) fun r15 =>
  lb (r15 + 10) fun x16 =>
  ck (inb x16 420) <|
  lb (u2 M 0 5 (M 1 x16.toNatClampNeg)) fun M17 =>
  lb (r15 + 14) fun x18 =>
  lb (r15 + 9) fun x19 =>
  ck (inb x19 420) <|
  ck (inb x18 420) <| lb (u2 M17 1 x18.toNatClampNeg (M17 1 x19.toNatClampNeg)) fun M20 =>
  f_X8_deals_l38 10000 v1 r15 1 M20
noncomputable def f_X8_squares_l10 : Nat → Int32 → Int64 → Int32 → Option (Int64)
  | 0, _, _, _ => none
  | n + 1, v1, v2, v4 =>
    if v1 ≤ v4 then
      some v2
    else
      lb (v2 * v2) fun y2 =>
      lb (lrem y2 62615533) fun y3 =>
      f_X8_squares_l10 n v1 y3 (v4 + 1)
noncomputable def f_X8_squares (v0 : Int32) (v1 : Int32) : Option (Int64) :=
  lb (v0.toInt64) fun y4 =>
  lb (lrem y4 62615533) fun y5 =>
  f_X8_squares_l10 10000 v1 y5 0
noncomputable def f_X8_commits_b146 (M : St) : Option (St) :=
  some M
noncomputable def f_X8_commits (v1 : Int32) (v2 : Int32) (v3 : Int32) (M : St) : Option (St) :=
  ob1 (f_X8_person v1) fun r2 =>
  lb (r2 + 6) fun x3 =>
  ck (inb x3 420) <| lb (u2 M 1 x3.toNatClampNeg 1) fun M4 =>
  lb (r2 + 9) fun x5 =>
  ck (inb x5 420) <| lb (u2 M4 1 x5.toNatClampNeg v2) fun M6 =>
  lb (r2 + 10) fun x7 =>
  ck (inb x7 420) <| lb (u2 M6 1 x7.toNatClampNeg v3) fun M8 =>
  lb (r2 + 11) fun x9 =>
  ob1 (f_X8_digestOf v2 v3 M8) fun r11 =>
  ck (inb x9 420) <| lb (u2 M8 1 x9.toNatClampNeg r11) fun M12 =>
  ck (inb 5 420) <|
  lb (M12 1 (5 : Int32).toNatClampNeg) fun x13 =>
  if x13 = 1 then
    ob1 (f_X8_deals v1 M12) fun M32 =>
    f_X8_commits_b146 M32
  else
    ck (inb 5 420) <|
    lb (M12 1 (5 : Int32).toNatClampNeg) fun x15 =>
    if x15 = 2 then
      lb (u2 M12 0 5 v3) fun M17 =>
      lb (r2 + 12) fun x18 =>
      ob2 (f_X8_draw M17) fun r21 M20 =>
      ck (inb x18 420) <| lb (u2 M20 1 x18.toNatClampNeg (2 + (irem r21 1000))) fun M22 =>
      lb (r2 + 13) fun x23 =>
      lb (v2.toInt64) fun y24 =>
      lb (r2 + 12) fun x25 =>
      ck (inb x25 420) <|
      lb (M22 1 x25.toNatClampNeg) fun x26 =>
      ck (inb 8 420) <|
      ob1 (f_X8_squares x26 (M22 1 (8 : Int32).toNatClampNeg)) fun r28 =>
      lb (y24 + r28) fun y29 =>
      ck (inb x23 420) <| lb (u2 M22 1 x23.toNatClampNeg ((lrem y29 1019).toInt32)) fun M30 =>
      f_X8_commits_b146 M30
    else
      f_X8_commits_b146 M12
noncomputable def f_X8_commit_b19 (M : St) : Option (Int32 × St) :=
  some ((-1), M)
noncomputable def f_X8_commit_b50 (M : St) : Option (Int32 × St) :=
  some ((-2), M)
noncomputable def f_X8_commit (v1 : Int32) (v2 : Int32) (v3 : Int32) (M : St) : Option (Int32 × St) :=
  ob1 (f_X8_isPerson v1 M) fun r2 =>
  if r2 = 0 then
    f_X8_commit_b19 M
  else
    ob1 (f_X8_in v2 0 1018) fun r5 =>
    if r5 = 0 then
      f_X8_commit_b19 M
    else
      ck (inb 0 420) <|
      lb (M 1 (0 : Int32).toNatClampNeg) fun x7 =>
      if x7 = 1 then
        ob1 (f_X8_has v1 5 M) fun r10 =>
        if r10 = 0 then
          f_X8_commit_b50 M
        else
          ob1 (f_X8_has v1 6 M) fun r13 =>
          if r13 = 0 then
            ob1 (f_X8_digestOf v2 v3 M) fun r16 =>
            ob1 (f_X8_isCopy v1 r16 M) fun r18 =>
            if r18 = 0 then
              ob1 (f_X8_act M) fun M21 =>
              ob1 (f_X8_commits v1 v2 v3 M21) fun M23 =>
              ob1 (f_X8_person v1) fun r25 =>
              lb (r25 + 11) fun x26 =>
              ck (inb x26 420) <|
              lb (M23 1 x26.toNatClampNeg) fun x27 =>
              some (x27 &&& 1073741823, M23)
            else
              some ((-4), M)
          else
            f_X8_commit_b50 M
      else
        f_X8_commit_b50 M
noncomputable def f_X8_hasShares_b42 (t0 : Int32) (M : St) : Option (Int32) :=
  ck (isB t0) <|
  some t0
noncomputable def f_X8_hasShares_b41 (M : St) : Option (Int32) :=
  f_X8_hasShares_b42 0 M
noncomputable def f_X8_hasShares (v1 : Int32) (M : St) : Option (Int32) :=
  ck (inb 0 420) <|
  if (M 1 (0 : Int32).toNatClampNeg) = 0 then
    f_X8_hasShares_b41 M
  else
    ck (inb 5 420) <|
    lb (M 1 (5 : Int32).toNatClampNeg) fun x2 =>
    if x2 = 1 then
      ob1 (f_X8_isMember v1 M) fun r5 =>
      if r5 = 0 then
        f_X8_hasShares_b41 M
      else
        ob1 (f_X8_has v1 6 M) fun r8 =>
        if r8 = 0 then
          f_X8_hasShares_b41 M
        else
          f_X8_hasShares_b42 1 M
    else
      f_X8_hasShares_b41 M
noncomputable def f_X8_hasShare_b21 (t0 : Int32) (M : St) : Option (Int32) :=
  ck (isB t0) <|
  some t0
noncomputable def f_X8_hasShare_b20 (M : St) : Option (Int32) :=
  f_X8_hasShare_b21 0 M
noncomputable def f_X8_hasShare (v1 : Int32) (v2 : Int32) (M : St) : Option (Int32) :=
  ob1 (f_X8_hasShares v1 M) fun r2 =>
  if r2 = 0 then
    f_X8_hasShare_b20 M
  else
    ob1 (f_X8_isMember v2 M) fun r5 =>
    if r5 = 0 then
      f_X8_hasShare_b20 M
    else
      f_X8_hasShare_b21 1 M
noncomputable def f_X8_shareOf (v1 : Int32) (v2 : Int32) (M : St) : Option (Int32) :=
  ob1 (f_X8_person v1) fun r2 =>
  lb (r2 + 22) fun x3 =>
  lb (x3 + v2) fun x4 =>
  ck (inb x4 420) <|
  some (M 1 x4.toNatClampNeg)
noncomputable def f_X8_isGood_b22 (t0 : Int32) (M : St) : Option (Int32) :=
  ck (isB t0) <|
  some t0
noncomputable def f_X8_isGood (v1 : Int32) (v2 : Int32) (M : St) : Option (Int32) :=
  ob1 (f_X8_shareOf v1 v2 M) fun r2 =>
  ob1 (f_X8_valueAt v1 (v2 + 1) M) fun r4 =>
  if r2 = r4 then
    f_X8_isGood_b22 1 M
  else
    f_X8_isGood_b22 0 M
noncomputable def f_X8_spoils (v1 : Int32) (v2 : Int32) (v3 : Int32) (M : St) : Option (St) :=
  ob1 (f_X8_person v1) fun r2 =>
  lb (r2 + 22) fun x3 =>
  lb (x3 + v2) fun x4 =>
  ob1 (f_X8_shareOf v1 v2 M) fun r6 =>
  lb (r6 + v3) fun x7 =>
  ck (inb x4 420) <| lb (u2 M 1 x4.toNatClampNeg (irem x7 1019)) fun M8 =>
  some M8
noncomputable def f_X8_spoil_b27 (M : St) : Option (Int32 × St) :=
  some ((-1), M)
noncomputable def f_X8_spoil (v1 : Int32) (v2 : Int32) (v3 : Int32) (M : St) : Option (Int32 × St) :=
  ob1 (f_X8_isPerson v1 M) fun r2 =>
  if r2 = 0 then
    f_X8_spoil_b27 M
  else
    ob1 (f_X8_isPerson v2 M) fun r5 =>
    if r5 = 0 then
      f_X8_spoil_b27 M
    else
      ob1 (f_X8_in v3 1 1018) fun r8 =>
      if r8 = 0 then
        f_X8_spoil_b27 M
      else
        ob1 (f_X8_hasShare v1 v2 M) fun r11 =>
        if r11 = 0 then
          some ((-9), M)
        else
          ob1 (f_X8_act M) fun M14 =>
          ob1 (f_X8_spoils v1 v2 v3 M14) fun M16 =>
          ob1 (f_X8_shareOf v1 v2 M16) fun r18 =>
          some (r18, M16)
noncomputable def f_X8_complains (v1 : Int32) (v2 : Int32) (M : St) : Option (Int32 × St) :=
  ob1 (f_X8_isGood v2 v1 M) fun r2 =>
  if r2 = 0 then
    ob1 (f_X8_pays v2 M) fun M5 =>
    ob1 (f_X8_person v2) fun r7 =>
    lb (r7 + 5) fun x8 =>
    ck (inb x8 420) <| lb (u2 M5 1 x8.toNatClampNeg 0) fun M9 =>
    ob1 (f_X8_person v2) fun r11 =>
    lb (r11 + 8) fun x12 =>
    ck (inb x12 420) <| lb (u2 M9 1 x12.toNatClampNeg 1) fun M13 =>
    ob1 (f_X8_person v2) fun r15 =>
    lb (r15 + 3) fun x16 =>
    ck (inb x16 420) <|
    lb (M13 1 x16.toNatClampNeg) fun x17 =>
    ck (inb x16 420) <| lb (u2 M13 1 x16.toNatClampNeg (x17 + 1)) fun M18 =>
    some (1, M18)
  else
    ob1 (f_X8_pays v1 M) fun M20 =>
    some (0, M20)
noncomputable def f_X8_complain_b21 (M : St) : Option (Int32 × St) :=
  some ((-1), M)
noncomputable def f_X8_complain (v1 : Int32) (v2 : Int32) (M : St) : Option (Int32 × St) :=
  ob1 (f_X8_isPerson v1 M) fun r2 =>
  if r2 = 0 then
    f_X8_complain_b21 M
  else
    ob1 (f_X8_isPerson v2 M) fun r5 =>
    if r5 = 0 then
      f_X8_complain_b21 M
    else
      if v1 = v2 then
        f_X8_complain_b21 M
      else
        ck (inb 0 420) <|
        lb (M 1 (0 : Int32).toNatClampNeg) fun x8 =>
        if x8 = 1 then
          ob1 (f_X8_hasShare v2 v1 M) fun r11 =>
          if r11 = 0 then
            some ((-9), M)
          else
            ob1 (f_X8_act M) fun M14 =>
            ob2 (f_X8_complains v1 v2 M14) fun r17 M16 =>
            some (r17, M16)
        else
          some ((-2), M)
noncomputable def f_X8_ends_b246 (t1 : Int32) (t2 : Int32) (M : St) : Option (St) :=
  ck (inb t1 420) <| lb (u2 M 1 t1.toNatClampNeg t2) fun M1 =>
  some M1
noncomputable def f_X8_ends_b225 (v1 : Int32) (v2 : Int32) (t1 : Int32) (t2 : Int32) (t3 : Int32) (M : St) : Option (St) :=
  ck (inb t1 420) <| lb (u2 M 1 t1.toNatClampNeg (t2 + t3)) fun M2 =>
  if 0 ≤ v1 then
    f_X8_ends_b246 3 v2 M2
  else
    ck (inb 3 420) <|
    f_X8_ends_b246 3 (M2 1 (3 : Int32).toNatClampNeg) M2
noncomputable def f_X8_ends_b205 (v1 : Int32) (v2 : Int32) (t1 : Int32) (t2 : Int32) (t3 : Int32) (M : St) : Option (St) :=
  ck (inb t1 420) <| lb (u2 M 1 t1.toNatClampNeg (t2 + t3)) fun M4 =>
  ck (inb 10 420) <|
  lb (M4 1 (10 : Int32).toNatClampNeg) fun x5 =>
  if v1 = 1 then
    f_X8_ends_b225 v1 v2 10 x5 1 M4
  else
    f_X8_ends_b225 v1 v2 10 x5 0 M4
noncomputable def f_X8_ends_b187 (v1 : Int32) (v2 : Int32) (t1 : Int32) (t2 : Int32) (M : St) : Option (St) :=
  ck (inb t1 420) <| lb (u2 M 1 t1.toNatClampNeg t2) fun M7 =>
  ck (inb 9 420) <|
  lb (M7 1 (9 : Int32).toNatClampNeg) fun x8 =>
  if v1 = 0 then
    f_X8_ends_b205 v1 v2 9 x8 1 M7
  else
    f_X8_ends_b205 v1 v2 9 x8 0 M7
noncomputable def f_X8_ends_b138 (v1 : Int32) (v2 : Int32) (t1 : Int32) (t2 : Int32) (M : St) : Option (St) :=
  ck (inb t1 420) <| lb (u2 M 1 t1.toNatClampNeg t2) fun M10 =>
  ck (inb 12 420) <| lb (u2 M10 1 (12 : Int32).toNatClampNeg v1) fun M11 =>
  ck (inb 11 420) <|
  lb (M11 1 (11 : Int32).toNatClampNeg) fun x12 =>
  ck (inb 13 420) <|
  if x12 ≤ (M11 1 (13 : Int32).toNatClampNeg) then
    ck (inb 13 420) <|
    f_X8_ends_b187 v1 v2 13 (M11 1 (13 : Int32).toNatClampNeg) M11
  else
    ck (inb 11 420) <|
    f_X8_ends_b187 v1 v2 13 (M11 1 (11 : Int32).toNatClampNeg) M11
noncomputable def f_X8_ends_b137 (v1 : Int32) (v2 : Int32) (t1 : Int32) (M : St) : Option (St) :=
  f_X8_ends_b138 v1 v2 t1 1 M
noncomputable def f_X8_ends (v1 : Int32) (v2 : Int32) (v3 : Int32) (v4 : Int32) (M : St) : Option (St) :=
  ck (inb 1 420) <|
  lb (M 1 (1 : Int32).toNatClampNeg) fun x14 =>
  lb (340 + (5 * (irem x14 16))) fun x15 =>
  lb (x15 + 0) fun x16 =>
  ck (inb x16 420) <| lb (u2 M 1 x16.toNatClampNeg v1) fun M17 =>
  lb (x15 + 1) fun x18 =>
  ck (inb x18 420) <| lb (u2 M17 1 x18.toNatClampNeg v4) fun M19 =>
  lb (x15 + 2) fun x20 =>
  ck (inb x20 420) <| lb (u2 M19 1 x20.toNatClampNeg v3) fun M21 =>
  lb (x15 + 3) fun x22 =>
  ck (inb 5 420) <|
  ck (inb x22 420) <| lb (u2 M21 1 x22.toNatClampNeg (M21 1 (5 : Int32).toNatClampNeg)) fun M23 =>
  lb (x15 + 4) fun x24 =>
  ck (inb x24 420) <| lb (u2 M23 1 x24.toNatClampNeg v2) fun M25 =>
  ck (inb 1 420) <|
  lb (M25 1 (1 : Int32).toNatClampNeg) fun x26 =>
  ck (inb 1 420) <| lb (u2 M25 1 (1 : Int32).toNatClampNeg (x26 + 1)) fun M27 =>
  ck (inb 0 420) <| lb (u2 M27 1 (0 : Int32).toNatClampNeg 0) fun M28 =>
  if 0 ≤ v1 then
    ck (inb 11 420) <|
    if (M28 1 (11 : Int32).toNatClampNeg) ≤ 0 then
      f_X8_ends_b137 v1 v2 11 M28
    else
      ck (inb 12 420) <|
      lb (M28 1 (12 : Int32).toNatClampNeg) fun x31 =>
      if x31 = v1 then
        ck (inb 11 420) <|
        lb (M28 1 (11 : Int32).toNatClampNeg) fun x33 =>
        f_X8_ends_b138 v1 v2 11 (x33 + 1) M28
      else
        f_X8_ends_b137 v1 v2 11 M28
  else
    f_X8_ends_b138 v1 v2 11 0 M28
noncomputable def f_X8_opensUp_b47 (K2 : Int32 → St → Option (Int32 × St)) (v1 : Int32) (t1 : Int32) (t2 : Int32) (M : St) : Option (Int32 × St) :=
  ck (inb t1 420) <| lb (u2 M 1 t1.toNatClampNeg t2) fun M1 =>
  K2 (v1 + 1) M1
noncomputable def f_X8_opensUp_l2 : Nat → Int32 → St → Option (Int32 × St)
  | 0, _, _ => none
  | n + 1, v1, M =>
    ck (inb 4 420) <|
    if (M 1 (4 : Int32).toNatClampNeg) ≤ v1 then
      ob1 (f_X8_setOf 5 M) fun r4 =>
      ob1 (f_X8_countOf r4) fun r6 =>
      if 2 ≤ r6 then
        ck (inb 0 420) <| lb (u2 M 1 (0 : Int32).toNatClampNeg 2) fun M8 =>
        ob1 (f_X8_countOf r4) fun r10 =>
        some (r10, M8)
      else
        ob1 (f_X8_ends ((-5)) 0 0 r4 M) fun M12 =>
        some ((-5), M12)
    else
      ob1 (f_X8_person v1) fun r14 =>
      lb (r14 + 5) fun x15 =>
      ob1 (f_X8_has v1 6 M) fun r17 =>
      if r17 = 0 then
        f_X8_opensUp_b47 (f_X8_opensUp_l2 n) v1 x15 0 M
      else
        ob1 (f_X8_person v1) fun r20 =>
        lb (r20 + 5) fun x21 =>
        ck (inb x21 420) <|
        f_X8_opensUp_b47 (f_X8_opensUp_l2 n) v1 x15 (M 1 x21.toNatClampNeg) M
noncomputable def f_X8_opensUp (M : St) : Option (Int32 × St) :=
  f_X8_opensUp_l2 10000 0 M
noncomputable def f_X8_beginOpening (M : St) : Option (Int32 × St) :=
  ck (inb 0 420) <|
  lb (M 1 (0 : Int32).toNatClampNeg) fun x1 =>
  if x1 = 1 then
    ob1 (f_X8_act M) fun M4 =>
    ob2 (f_X8_opensUp M4) fun r7 M6 =>
    some (r7, M6)
  else
    some ((-2), M)
noncomputable def f_X8_open_b39 (M : St) : Option (Int32 × St) :=
  some ((-2), M)
noncomputable def f_X8_open_b117 (t0 : Int32) (M : St) : Option (Int32 × St) :=
  some (t0, M)
noncomputable def f_X8_open_b106 (v4 : Int32) (t1 : Int32) (t2 : Int32) (M : St) : Option (Int32 × St) :=
  ck (inb t1 420) <| lb (u2 M 1 t1.toNatClampNeg t2) fun M1 =>
  if v4 = 0 then
    f_X8_open_b117 0 M1
  else
    f_X8_open_b117 1 M1
noncomputable def f_X8_open_b83 (v1 : Int32) (t0 : Int32) (M : St) : Option (Int32 × St) :=
  ob1 (f_X8_person v1) fun r4 =>
  lb (r4 + 7) fun x5 =>
  if t0 = 0 then
    f_X8_open_b106 t0 x5 0 M
  else
    f_X8_open_b106 t0 x5 1 M
noncomputable def f_X8_open_b82 (v1 : Int32) (M : St) : Option (Int32 × St) :=
  f_X8_open_b83 v1 0 M
noncomputable def f_X8_open (v1 : Int32) (v2 : Int32) (v3 : Int32) (M : St) : Option (Int32 × St) :=
  ob1 (f_X8_isPerson v1 M) fun r8 =>
  if r8 = 0 then
    some ((-1), M)
  else
    ck (inb 0 420) <|
    lb (M 1 (0 : Int32).toNatClampNeg) fun x10 =>
    if x10 = 2 then
      ob1 (f_X8_has v1 5 M) fun r13 =>
      if r13 = 0 then
        f_X8_open_b39 M
      else
        ob1 (f_X8_has v1 7 M) fun r16 =>
        if r16 = 0 then
          ob1 (f_X8_act M) fun M19 =>
          ob1 (f_X8_person v1) fun r21 =>
          lb (r21 + 9) fun x22 =>
          ck (inb x22 420) <|
          lb (M19 1 x22.toNatClampNeg) fun x23 =>
          if x23 = v2 then
            ob1 (f_X8_person v1) fun r26 =>
            lb (r26 + 10) fun x27 =>
            ck (inb x27 420) <|
            lb (M19 1 x27.toNatClampNeg) fun x28 =>
            if x28 = v3 then
              f_X8_open_b83 v1 1 M19
            else
              f_X8_open_b82 v1 M19
          else
            f_X8_open_b82 v1 M19
        else
          f_X8_open_b39 M
    else
      f_X8_open_b39 M
noncomputable def f_X8_takesSecrets_l2 : Nat → Int32 → St → Option (St)
  | 0, _, _ => none
  | n + 1, v1, M =>
    ck (inb 4 420) <|
    if (M 1 (4 : Int32).toNatClampNeg) ≤ v1 then
      some M
    else
      ob1 (f_X8_person v1) fun r3 =>
      lb (r3 + 9) fun x4 =>
      ck (inb x4 420) <|
      ck (inb v1 8) <| lb (u2 M 3 v1.toNatClampNeg (M 1 x4.toNatClampNeg)) fun M5 =>
      f_X8_takesSecrets_l2 n (v1 + 1) M5
noncomputable def f_X8_takesSecrets (M : St) : Option (St) :=
  f_X8_takesSecrets_l2 10000 0 M
noncomputable def f_X8_rightOnes_b42 (K5 : Int32 → Int32 → Int32 → Int32 → St → Option (Int32)) (v1 : Int32) (v2 : Int32) (v4 : Int32) (t0 : Int32) (t1 : Int32) (M : St) : Option (Int32) :=
  lb (t0 + t1) fun x1 =>
  K5 v1 v2 x1 (v4 + 1) M
noncomputable def f_X8_rightOnes_b41 (K5 : Int32 → Int32 → Int32 → Int32 → St → Option (Int32)) (v1 : Int32) (v2 : Int32) (v4 : Int32) (t0 : Int32) (M : St) : Option (Int32) :=
  f_X8_rightOnes_b42 K5 v1 v2 v4 t0 0 M
noncomputable def f_X8_rightOnes_l5 : Nat → Int32 → Int32 → Int32 → Int32 → St → Option (Int32)
  | 0, _, _, _, _, _ => none
  | n + 1, v1, v2, v3, v4, M =>
    ck (inb 4 420) <|
    if (M 1 (4 : Int32).toNatClampNeg) ≤ v4 then
      some v3
    else
      lb (ishr v2 v4) fun x3 =>
      lb (x3 &&& 1) fun x4 =>
      if x4 = 1 then
        ob1 (f_X8_isGood v1 v4 M) fun r7 =>
        if r7 = 0 then
          f_X8_rightOnes_b41 (f_X8_rightOnes_l5 n) v1 v2 v4 v3 M
        else
          f_X8_rightOnes_b42 (f_X8_rightOnes_l5 n) v1 v2 v4 v3 1 M
      else
        f_X8_rightOnes_b41 (f_X8_rightOnes_l5 n) v1 v2 v4 v3 M
noncomputable def f_X8_rightOnes (v1 : Int32) (v2 : Int32) (M : St) : Option (Int32) :=
  f_X8_rightOnes_l5 10000 v1 v2 0 0 M
noncomputable def f_X8_outputOf_b125 (K14 : Int32 → Int32 → Int32 → St → Option (Int32 × St)) (v1 : Int32) (v2 : Int32) (v3 : Int32) (M : St) : Option (Int32 × St) :=
  K14 v1 v2 (v3 + 1) M
noncomputable def f_X8_outputOf_b121 (K14 : Int32 → Int32 → Int32 → St → Option (Int32 × St)) (v1 : Int32) (v3 : Int32) (t0 : Int32) (t1 : Int32) (M : St) : Option (Int32 × St) :=
  ob1 (f_X8_mix t0 t1) fun r2 =>
  f_X8_outputOf_b125 K14 v1 r2 v3 M
noncomputable def f_X8_outputOf_b111 (K14 : Int32 → Int32 → Int32 → St → Option (Int32 × St)) (v1 : Int32) (v3 : Int32) (t0 : Int32) (M : St) : Option (Int32 × St) :=
  ck (inb v3 8) <|
  f_X8_outputOf_b121 K14 v1 v3 t0 (M 3 v3.toNatClampNeg) M
noncomputable def f_X8_outputOf_b93 (K14 : Int32 → Int32 → Int32 → St → Option (Int32 × St)) (v1 : Int32) (v2 : Int32) (v3 : Int32) (v4 : Int32) (t1 : Int32) (M : St) : Option (Int32 × St) :=
  ck (isB t1) <|
  lb (u2 M 0 4 t1) fun M3 =>
  if v4 = 0 then
    ck (inb 5 420) <|
    if (M3 1 (5 : Int32).toNatClampNeg) = 0 then
      f_X8_outputOf_b121 K14 v1 v3 v2 0 M3
    else
      f_X8_outputOf_b111 K14 v1 v3 v2 M3
  else
    f_X8_outputOf_b111 K14 v1 v3 v2 M3
noncomputable def f_X8_outputOf_b88 (K14 : Int32 → Int32 → Int32 → St → Option (Int32 × St)) (v1 : Int32) (v2 : Int32) (v3 : Int32) (v4 : Int32) (M : St) : Option (Int32 × St) :=
  f_X8_outputOf_b93 K14 v1 v2 v3 v4 1 M
noncomputable def f_X8_outputOf_b92 (K14 : Int32 → Int32 → Int32 → St → Option (Int32 × St)) (v1 : Int32) (v2 : Int32) (v3 : Int32) (v4 : Int32) (M : St) : Option (Int32 × St) :=
  f_X8_outputOf_b93 K14 v1 v2 v3 v4 0 M
noncomputable def f_X8_outputOf_b47 (K14 : Int32 → Int32 → Int32 → St → Option (Int32 × St)) (v1 : Int32) (v2 : Int32) (v3 : Int32) (t0 : Int32) (M : St) : Option (Int32 × St) :=
  if (M 0 4) = 0 then
    if t0 = 0 then
      ck (inb 5 420) <|
      lb (M 1 (5 : Int32).toNatClampNeg) fun x9 =>
      if x9 = 1 then
        ob1 (f_X8_rightOnes v3 v1 M) fun r12 =>
        ck (inb 6 420) <|
        if (M 1 (6 : Int32).toNatClampNeg) ≤ r12 then
          f_X8_outputOf_b92 K14 v1 v2 v3 t0 M
        else
          f_X8_outputOf_b88 K14 v1 v2 v3 t0 M
      else
        f_X8_outputOf_b92 K14 v1 v2 v3 t0 M
    else
      f_X8_outputOf_b92 K14 v1 v2 v3 t0 M
  else
    f_X8_outputOf_b88 K14 v1 v2 v3 t0 M
noncomputable def f_X8_outputOf_l14 : Nat → Int32 → Int32 → Int32 → St → Option (Int32 × St)
  | 0, _, _, _, _ => none
  | n + 1, v1, v2, v3, M =>
    ck (inb 4 420) <|
    if (M 1 (4 : Int32).toNatClampNeg) ≤ v3 then
      some (v2, M)
    else
      ob1 (f_X8_has v3 5 M) fun r16 =>
      if r16 = 0 then
        f_X8_outputOf_b125 (f_X8_outputOf_l14 n) v1 v2 v3 M
      else
        lb (ishr v1 v3) fun x18 =>
        lb (x18 &&& 1) fun x19 =>
        if x19 = 1 then
          f_X8_outputOf_b47 (f_X8_outputOf_l14 n) v1 v2 v3 1 M
        else
          f_X8_outputOf_b47 (f_X8_outputOf_l14 n) v1 v2 v3 0 M
noncomputable def f_X8_outputOf (v1 : Int32) (M : St) : Option (Int32 × St) :=
  ck (inb 3 420) <|
  lb (M 1 (3 : Int32).toNatClampNeg) fun x21 =>
  lb (u2 M 0 4 0) fun M22 =>
  f_X8_outputOf_l14 10000 v1 x21 0 M22
noncomputable def f_X8_coinOf_b25 (t0 : Int32) (M : St) : Option (Int32 × St) :=
  some (t0, M)
noncomputable def f_X8_coinOf (v1 : Int32) (M : St) : Option (Int32 × St) :=
  ob1 (f_X8_takesSecrets M) fun M2 =>
  ob2 (f_X8_outputOf v1 M2) fun r5 M4 =>
  if (M4 0 4) = 0 then
    f_X8_coinOf_b25 (r5 &&& 1) M4
  else
    f_X8_coinOf_b25 ((-5)) M4
noncomputable def f_X8_closes_b133 (K34 : Int32 → Int32 → Int32 → Int32 → Int32 → St → Option (Int32 × St)) (v1 : Int32) (v2 : Int32) (v3 : Int32) (v4 : Int32) (v5 : Int32) (M : St) : Option (Int32 × St) :=
  K34 v1 v2 v3 v4 (v5 + 1) M
noncomputable def f_X8_closes_b120 (K34 : Int32 → Int32 → Int32 → Int32 → Int32 → St → Option (Int32 × St)) (v1 : Int32) (v2 : Int32) (v3 : Int32) (v4 : Int32) (v5 : Int32) (v6 : Int32) (t1 : Int32) (t2 : Int32) (t3 : Int32) (M : St) : Option (Int32 × St) :=
  ck (inb t1 420) <| lb (u2 M 1 t1.toNatClampNeg (t2 + t3)) fun M1 =>
  if v6 = 0 then
    ob1 (f_X8_pays v5 M1) fun M4 =>
    f_X8_closes_b133 K34 v1 v2 v3 v4 v5 M4
  else
    f_X8_closes_b133 K34 v1 v2 v3 v4 v5 M1
noncomputable def f_X8_closes_b95 (K34 : Int32 → Int32 → Int32 → Int32 → Int32 → St → Option (Int32 × St)) (v1 : Int32) (v2 : Int32) (v3 : Int32) (v4 : Int32) (v5 : Int32) (v6 : Int32) (t1 : Int32) (t2 : Int32) (t3 : Int32) (M : St) : Option (Int32 × St) :=
  ck (inb t1 420) <| lb (u2 M 1 t1.toNatClampNeg (t2 + t3)) fun M5 =>
  ob1 (f_X8_person v5) fun r7 =>
  lb (r7 + 2) fun x8 =>
  ck (inb x8 420) <|
  lb (M5 1 x8.toNatClampNeg) fun x9 =>
  if v6 = 0 then
    f_X8_closes_b120 K34 v1 v2 v3 v4 v5 v6 x8 x9 1 M5
  else
    f_X8_closes_b120 K34 v1 v2 v3 v4 v5 v6 x8 x9 0 M5
noncomputable def f_X8_closes_b70 (K34 : Int32 → Int32 → Int32 → Int32 → Int32 → St → Option (Int32 × St)) (v1 : Int32) (v2 : Int32) (v3 : Int32) (v4 : Int32) (v5 : Int32) (t0 : Int32) (M : St) : Option (Int32 × St) :=
  ob1 (f_X8_person v5) fun r12 =>
  lb (r12 + 1) fun x13 =>
  ck (inb x13 420) <|
  lb (M 1 x13.toNatClampNeg) fun x14 =>
  if t0 = 0 then
    f_X8_closes_b95 K34 v1 v2 v3 v4 v5 t0 x13 x14 0 M
  else
    f_X8_closes_b95 K34 v1 v2 v3 v4 v5 t0 x13 x14 1 M
noncomputable def f_X8_closes_b209 (K169 : Int32 → Int32 → Int32 → Int32 → Int32 → Int32 → Int32 → St → Option (Int32 × St)) (v1 : Int32) (v2 : Int32) (v3 : Int32) (v4 : Int32) (v5 : Int32) (v6 : Int32) (v7 : Int32) (t1 : Int32) (t2 : Int32) (t3 : Int32) (M : St) : Option (Int32 × St) :=
  ck (inb t1 420) <| lb (u2 M 1 t1.toNatClampNeg (t2 + t3)) fun M16 =>
  K169 v1 v2 v3 v4 v5 v6 (v7 + 1) M16
noncomputable def f_X8_closes_b274 (t0 : Int32) (M : St) : Option (Int32 × St) :=
  some (t0, M)
noncomputable def f_X8_closes_b255 (v1 : Int32) (v3 : Int32) (v4 : Int32) (v5 : Int32) (t1 : Int32) (t2 : Int32) (M : St) : Option (Int32 × St) :=
  ob1 (f_X8_ends t1 t2 v5 v1 M) fun M18 =>
  if v4 = 0 then
    f_X8_closes_b274 (v3 &&& 1) M18
  else
    f_X8_closes_b274 ((-5)) M18
noncomputable def f_X8_closes_b245 (v1 : Int32) (v3 : Int32) (v4 : Int32) (v5 : Int32) (t1 : Int32) (M : St) : Option (Int32 × St) :=
  if v4 = 0 then
    f_X8_closes_b255 v1 v3 v4 v5 t1 v3 M
  else
    f_X8_closes_b255 v1 v3 v4 v5 t1 0 M
noncomputable def f_X8_closes_b231 (v1 : Int32) (v3 : Int32) (v4 : Int32) (v5 : Int32) (M : St) : Option (Int32 × St) :=
  if v4 = 0 then
    f_X8_closes_b245 v1 v3 v4 v5 (v3 &&& 1) M
  else
    f_X8_closes_b245 v1 v3 v4 v5 ((-5)) M
noncomputable def f_X8_closes_l169 : Nat → Int32 → Int32 → Int32 → Int32 → Int32 → Int32 → Int32 → St → Option (Int32 × St)
  | 0, _, _, _, _, _, _, _, _ => none
  | n + 1, v1, v2, v3, v4, v5, v6, v7, M =>
    ck (inb 4 420) <|
    if (M 1 (4 : Int32).toNatClampNeg) ≤ v7 then
      ck (inb 2 420) <|
      lb (M 1 (2 : Int32).toNatClampNeg) fun x23 =>
      ck (inb 2 420) <| lb (u2 M 1 (2 : Int32).toNatClampNeg (x23 - (v6 * v5))) fun M24 =>
      f_X8_closes_b231 v1 v3 v4 v5 M24
    else
      ob1 (f_X8_person v7) fun r26 =>
      lb (r26 + 0) fun x27 =>
      ck (inb x27 420) <|
      lb (M 1 x27.toNatClampNeg) fun x28 =>
      lb (ishr v2 v7) fun x29 =>
      lb (x29 &&& 1) fun x30 =>
      if x30 = 1 then
        f_X8_closes_b209 (f_X8_closes_l169 n) v1 v2 v3 v4 v5 v6 v7 x27 x28 v6 M
      else
        f_X8_closes_b209 (f_X8_closes_l169 n) v1 v2 v3 v4 v5 v6 v7 x27 x28 0 M
noncomputable def f_X8_closes_l34 : Nat → Int32 → Int32 → Int32 → Int32 → Int32 → St → Option (Int32 × St)
  | 0, _, _, _, _, _, _ => none
  | n + 1, v1, v2, v3, v4, v5, M =>
    ck (inb 4 420) <|
    if (M 1 (4 : Int32).toNatClampNeg) ≤ v5 then
      ob1 (f_X8_countOf v2) fun r34 =>
      if v4 = 0 then
        if r34 ≤ 0 then
          f_X8_closes_b231 v1 v3 v4 r34 M
        else
          ck (inb 2 420) <|
          lb (M 1 (2 : Int32).toNatClampNeg) fun x37 =>
          ck (nz r34) <|
          lb (x37 / r34) fun x39 =>
          f_X8_closes_l169 10000 v1 v2 v3 v4 r34 x39 0 M
      else
        f_X8_closes_b231 v1 v3 v4 r34 M
    else
      lb (ishr v1 v5) fun x40 =>
      lb (x40 &&& 1) fun x41 =>
      if x41 = 1 then
        lb (ishr v2 v5) fun x43 =>
        lb (x43 &&& 1) fun x44 =>
        if x44 = 1 then
          f_X8_closes_b70 (f_X8_closes_l34 n) v1 v2 v3 v4 v5 1 M
        else
          f_X8_closes_b70 (f_X8_closes_l34 n) v1 v2 v3 v4 v5 0 M
      else
        f_X8_closes_b133 (f_X8_closes_l34 n) v1 v2 v3 v4 v5 M
noncomputable def f_X8_closes (M : St) : Option (Int32 × St) :=
  ob1 (f_X8_takesSecrets M) fun M47 =>
  ob1 (f_X8_setOf 5 M47) fun r49 =>
  ob1 (f_X8_setOf 7 M47) fun r51 =>
  lb (r51 &&& r49) fun x52 =>
  ob2 (f_X8_outputOf x52 M47) fun r55 M54 =>
  lb (M54 0 4) fun x56 =>
  f_X8_closes_l34 10000 r49 x52 r55 x56 0 M54
noncomputable def f_X8_close (M : St) : Option (Int32 × St) :=
  ck (inb 0 420) <|
  lb (M 1 (0 : Int32).toNatClampNeg) fun x1 =>
  if x1 = 2 then
    ob1 (f_X8_act M) fun M4 =>
    ob2 (f_X8_closes M4) fun r7 M6 =>
    some (r7, M6)
  else
    some ((-2), M)
noncomputable def f_X8_nextMember_b44 (v3 : Int32) (M : St) : Option (Int32) :=
  some v3
noncomputable def f_X8_nextMember_l16 : Nat → Int32 → Int32 → Int32 → St → Option (Int32)
  | 0, _, _, _, _ => none
  | n + 1, v2, v3, v4, M =>
    if 8 ≤ v4 then
      f_X8_nextMember_b44 v3 M
    else
      lb (ishr v2 v3) fun x2 =>
      if (x2 &&& 1) = 0 then
        lb (v3 + 1) fun x4 =>
        lb (irem x4 8) fun x5 =>
        f_X8_nextMember_l16 n v2 x5 (v4 + 1) M
      else
        f_X8_nextMember_b44 v3 M
noncomputable def f_X8_nextMember (v1 : Int32) (M : St) : Option (Int32) :=
  ob1 (f_X8_setOf 5 M) fun r7 =>
  lb (v1 + 1) fun x8 =>
  lb (irem x8 8) fun x9 =>
  f_X8_nextMember_l16 10000 r7 x9 0 M
noncomputable def f_X8_plays_b74 (K4 : Int32 → Int32 → St → Option (St)) (v2 : Int32) (v3 : Int32) (M : St) : Option (St) :=
  K4 v2 (v3 + 1) M
noncomputable def f_X8_plays_l4 : Nat → Int32 → Int32 → St → Option (St)
  | 0, _, _, _ => none
  | n + 1, v2, v3, M =>
    ck (inb 4 420) <|
    if (M 1 (4 : Int32).toNatClampNeg) ≤ v3 then
      some M
    else
      ob1 (f_X8_has v3 5 M) fun r3 =>
      if r3 = 0 then
        f_X8_plays_b74 (f_X8_plays_l4 n) v2 v3 M
      else
        lb (u2 M 0 5 v2) fun M5 =>
        ob2 (f_X8_draw M5) fun r8 M7 =>
        lb (irem r8 1019) fun x9 =>
        ob2 (f_X8_draw M7) fun r12 M11 =>
        lb (M11 0 5) fun x13 =>
        ob1 (f_X8_digestOf x9 r12 M11) fun r15 =>
        ob1 (f_X8_isCopy v3 r15 M11) fun r17 =>
        if r17 = 0 then
          ob1 (f_X8_commits v3 x9 r12 M11) fun M20 =>
          f_X8_plays_b74 (f_X8_plays_l4 n) x13 v3 M20
        else
          f_X8_plays_b74 (f_X8_plays_l4 n) x13 v3 M11
noncomputable def f_X8_plays (v1 : Int32) (M : St) : Option (St) :=
  f_X8_plays_l4 10000 v1 0 M
noncomputable def f_X8_cheats_b46 (K2 : Int32 → St → Option (St)) (v1 : Int32) (M : St) : Option (St) :=
  K2 (v1 + 1) M
noncomputable def f_X8_cheats_b106 (K54 : Int32 → St → Option (St)) (K66 : Int32 → Int32 → St → Option (St)) (v1 : Int32) (v2 : Int32) (M : St) : Option (St) :=
  K66 v1 (v2 + 1) M
noncomputable def f_X8_cheats_l66 (K54 : Int32 → St → Option (St)) : Nat → Int32 → Int32 → St → Option (St)
  | 0, _, _, _ => none
  | n + 1, v1, v2, M =>
    ck (inb 4 420) <|
    if (M 1 (4 : Int32).toNatClampNeg) ≤ v2 then
      K54 (v1 + 1) M
    else
      if v2 = v1 then
        f_X8_cheats_b106 K54 (f_X8_cheats_l66 K54 n) v1 v2 M
      else
        ob1 (f_X8_hasShare v2 v1 M) fun r4 =>
        if r4 = 0 then
          f_X8_cheats_b106 K54 (f_X8_cheats_l66 K54 n) v1 v2 M
        else
          ob1 (f_X8_isGood v2 v1 M) fun r7 =>
          if r7 = 0 then
            ob2 (f_X8_complains v1 v2 M) fun r11 M10 =>
            f_X8_cheats_b106 K54 (f_X8_cheats_l66 K54 n) v1 v2 M10
          else
            f_X8_cheats_b106 K54 (f_X8_cheats_l66 K54 n) v1 v2 M
noncomputable def f_X8_cheats_l54 : Nat → Int32 → St → Option (St)
  | 0, _, _ => none
  | n + 1, v1, M =>
    ck (inb 4 420) <|
    if (M 1 (4 : Int32).toNatClampNeg) ≤ v1 then
      some M
    else
      f_X8_cheats_l66 (f_X8_cheats_l54 n) 10000 v1 0 M
noncomputable def f_X8_cheats_l2 : Nat → Int32 → St → Option (St)
  | 0, _, _ => none
  | n + 1, v1, M =>
    ck (inb 4 420) <|
    if (M 1 (4 : Int32).toNatClampNeg) ≤ v1 then
      f_X8_cheats_l54 10000 0 M
    else
      ob1 (f_X8_hasShares v1 M) fun r15 =>
      if r15 = 0 then
        f_X8_cheats_b46 (f_X8_cheats_l2 n) v1 M
      else
        ob1 (f_X8_person v1) fun r18 =>
        lb (r18 + 4) fun x19 =>
        ck (inb x19 420) <|
        lb (M 1 x19.toNatClampNeg) fun x20 =>
        if x20 = 3 then
          ob1 (f_X8_nextMember v1 M) fun r23 =>
          ob1 (f_X8_spoils v1 r23 1 M) fun M25 =>
          f_X8_cheats_b46 (f_X8_cheats_l2 n) v1 M25
        else
          f_X8_cheats_b46 (f_X8_cheats_l2 n) v1 M
noncomputable def f_X8_cheats (M : St) : Option (St) :=
  f_X8_cheats_l2 10000 0 M
noncomputable def f_X8_decides_b58 (K2 : Int32 → St → Option (St)) (v1 : Int32) (t1 : Int32) (t2 : Int32) (M : St) : Option (St) :=
  ck (inb t1 420) <| lb (u2 M 1 t1.toNatClampNeg t2) fun M1 =>
  K2 (v1 + 1) M1
noncomputable def f_X8_decides_b53 (K2 : Int32 → St → Option (St)) (v1 : Int32) (t1 : Int32) (M : St) : Option (St) :=
  f_X8_decides_b58 K2 v1 t1 1 M
noncomputable def f_X8_decides_b57 (K2 : Int32 → St → Option (St)) (v1 : Int32) (t1 : Int32) (M : St) : Option (St) :=
  f_X8_decides_b58 K2 v1 t1 0 M
noncomputable def f_X8_decides_b163 (K67 : Int32 → St → Option (St)) (v1 : Int32) (M : St) : Option (St) :=
  K67 (v1 + 1) M
noncomputable def f_X8_decides_b162 (K67 : Int32 → St → Option (St)) (v1 : Int32) (t1 : Int32) (t2 : Int32) (M : St) : Option (St) :=
  ck (inb t1 420) <| lb (u2 M 1 t1.toNatClampNeg t2) fun M2 =>
  f_X8_decides_b163 K67 v1 M2
noncomputable def f_X8_decides_b141 (K67 : Int32 → St → Option (St)) (v1 : Int32) (t0 : Int32) (M : St) : Option (St) :=
  ob1 (f_X8_person v1) fun r4 =>
  lb (r4 + 7) fun x5 =>
  if t0 = 0 then
    f_X8_decides_b162 K67 v1 x5 1 M
  else
    f_X8_decides_b162 K67 v1 x5 0 M
noncomputable def f_X8_decides_b140 (K67 : Int32 → St → Option (St)) (v1 : Int32) (M : St) : Option (St) :=
  f_X8_decides_b141 K67 v1 0 M
noncomputable def f_X8_decides_l67 : Nat → Int32 → St → Option (St)
  | 0, _, _ => none
  | n + 1, v1, M =>
    ck (inb 4 420) <|
    if (M 1 (4 : Int32).toNatClampNeg) ≤ v1 then
      some M
    else
      ob1 (f_X8_has v1 5 M) fun r9 =>
      if r9 = 0 then
        f_X8_decides_b163 (f_X8_decides_l67 n) v1 M
      else
        ob1 (f_X8_person v1) fun r12 =>
        lb (r12 + 4) fun x13 =>
        ck (inb x13 420) <|
        lb (M 1 x13.toNatClampNeg) fun x14 =>
        if x14 = 2 then
          ob1 (f_X8_setOf 7 M) fun r17 =>
          ob1 (f_X8_setOf 5 M) fun r19 =>
          lb (r17 &&& r19) fun x20 =>
          ob2 (f_X8_coinOf x20 M) fun r23 M22 =>
          if r23 = 1 then
            ob2 (f_X8_coinOf (x20 ||| (ishl 1 v1)) M22) fun r27 M26 =>
            if r27 = 1 then
              f_X8_decides_b140 (f_X8_decides_l67 n) v1 M26
            else
              f_X8_decides_b141 (f_X8_decides_l67 n) v1 1 M26
          else
            f_X8_decides_b140 (f_X8_decides_l67 n) v1 M22
        else
          f_X8_decides_b163 (f_X8_decides_l67 n) v1 M
noncomputable def f_X8_decides_l2 : Nat → Int32 → St → Option (St)
  | 0, _, _ => none
  | n + 1, v1, M =>
    ck (inb 4 420) <|
    if (M 1 (4 : Int32).toNatClampNeg) ≤ v1 then
      f_X8_decides_l67 10000 0 M
    else
      ob1 (f_X8_person v1) fun r31 =>
      lb (r31 + 4) fun x32 =>
      ck (inb x32 420) <|
      lb (M 1 x32.toNatClampNeg) fun x33 =>
      ob1 (f_X8_person v1) fun r35 =>
      lb (r35 + 7) fun x36 =>
      ob1 (f_X8_has v1 5 M) fun r38 =>
      if r38 = 0 then
        f_X8_decides_b57 (f_X8_decides_l2 n) v1 x36 M
      else
        if x33 = 0 then
          f_X8_decides_b53 (f_X8_decides_l2 n) v1 x36 M
        else
          if x33 = 3 then
            f_X8_decides_b53 (f_X8_decides_l2 n) v1 x36 M
          else
            f_X8_decides_b57 (f_X8_decides_l2 n) v1 x36 M
noncomputable def f_X8_decides (M : St) : Option (St) :=
  f_X8_decides_l2 10000 0 M
noncomputable def f_X8_play_b37 (M : St) : Option (Int32 × St) :=
  ob2 (f_X8_opensUp M) fun r3 M2 =>
  if r3 = ((-5)) then
    some ((-5), M2)
  else
    ob1 (f_X8_decides M2) fun M6 =>
    ob2 (f_X8_closes M6) fun r9 M8 =>
    some (r9, M8)
noncomputable def f_X8_play (v1 : Int32) (M : St) : Option (Int32 × St) :=
  ob1 (f_X8_mayBegin M) fun r11 =>
  if r11 = 0 then
    some ((-2), M)
  else
    ob1 (f_X8_act M) fun M14 =>
    ob1 (f_X8_begins M14) fun M16 =>
    ob1 (f_X8_plays v1 M16) fun M18 =>
    ck (inb 5 420) <|
    lb (M18 1 (5 : Int32).toNatClampNeg) fun x19 =>
    if x19 = 1 then
      ob1 (f_X8_cheats M18) fun M22 =>
      f_X8_play_b37 M22
    else
      f_X8_play_b37 M18
noncomputable def f_X8_phase (M : St) : Option (Int32) :=
  ck (inb 0 420) <|
  some (M 1 (0 : Int32).toNatClampNeg)
noncomputable def f_X8_setNumber_b52 (t0 : Int32) (M : St) : Option (Int32) :=
  some t0
noncomputable def f_X8_setNumber (v1 : Int32) (M : St) : Option (Int32) :=
  ob1 (f_X8_setOf 5 M) fun r2 =>
  if v1 = 0 then
    f_X8_setNumber_b52 r2 M
  else
    if v1 = 1 then
      ob1 (f_X8_setOf 6 M) fun r11 =>
      f_X8_setNumber_b52 (r2 &&& r11) M
    else
      if v1 = 2 then
        ob1 (f_X8_setOf 7 M) fun r9 =>
        f_X8_setNumber_b52 (r2 &&& r9) M
      else
        ob1 (f_X8_setOf 8 M) fun r7 =>
        f_X8_setNumber_b52 r7 M
noncomputable def f_X8_set_b32 (t0 : Int32) (M : St) : Option (Int32) :=
  some t0
noncomputable def f_X8_set (v1 : Int32) (M : St) : Option (Int32) :=
  ob1 (f_X8_in v1 0 3) fun r2 =>
  if r2 = 0 then
    f_X8_set_b32 ((-1)) M
  else
    ck (inb 0 420) <|
    if (M 1 (0 : Int32).toNatClampNeg) = 0 then
      f_X8_set_b32 ((-2)) M
    else
      ob1 (f_X8_setNumber v1 M) fun r6 =>
      f_X8_set_b32 r6 M
noncomputable def f_X8_isIn_b33 (t0 : Int32) (M : St) : Option (Int32) :=
  ck (isB t0) <|
  some t0
noncomputable def f_X8_isIn_b32 (M : St) : Option (Int32) :=
  f_X8_isIn_b33 0 M
noncomputable def f_X8_isIn (v1 : Int32) (M : St) : Option (Int32) :=
  ck (inb 0 420) <|
  if (M 1 (0 : Int32).toNatClampNeg) = 0 then
    f_X8_isIn_b32 M
  else
    ob1 (f_X8_has v1 5 M) fun r3 =>
    if r3 = 0 then
      f_X8_isIn_b32 M
    else
      ob1 (f_X8_has v1 6 M) fun r6 =>
      if r6 = 0 then
        f_X8_isIn_b32 M
      else
        f_X8_isIn_b33 1 M
noncomputable def f_X8_digest_b40 (t0 : Int32) (M : St) : Option (Int32) :=
  some t0
noncomputable def f_X8_digest (v1 : Int32) (M : St) : Option (Int32) :=
  ob1 (f_X8_isPerson v1 M) fun r2 =>
  if r2 = 0 then
    f_X8_digest_b40 ((-1)) M
  else
    ob1 (f_X8_isIn v1 M) fun r5 =>
    if r5 = 0 then
      f_X8_digest_b40 ((-9)) M
    else
      ob1 (f_X8_person v1) fun r8 =>
      lb (r8 + 11) fun x9 =>
      ck (inb x9 420) <|
      lb (M 1 x9.toNatClampNeg) fun x10 =>
      f_X8_digest_b40 (x10 &&& 1073741823) M
noncomputable def f_X8_share_b40 (t0 : Int32) (M : St) : Option (Int32) :=
  some t0
noncomputable def f_X8_share_b16 (M : St) : Option (Int32) :=
  f_X8_share_b40 ((-1)) M
noncomputable def f_X8_share (v1 : Int32) (v2 : Int32) (M : St) : Option (Int32) :=
  ob1 (f_X8_isPerson v1 M) fun r2 =>
  if r2 = 0 then
    f_X8_share_b16 M
  else
    ob1 (f_X8_isPerson v2 M) fun r5 =>
    if r5 = 0 then
      f_X8_share_b16 M
    else
      ob1 (f_X8_hasShare v1 v2 M) fun r8 =>
      if r8 = 0 then
        f_X8_share_b40 ((-9)) M
      else
        ob1 (f_X8_shareOf v1 v2 M) fun r11 =>
        f_X8_share_b40 r11 M
noncomputable def f_X8_isRight_b48 (t0 : Int32) (M : St) : Option (Int32) :=
  some t0
noncomputable def f_X8_isRight_b16 (M : St) : Option (Int32) :=
  f_X8_isRight_b48 ((-1)) M
noncomputable def f_X8_isRight (v1 : Int32) (v2 : Int32) (M : St) : Option (Int32) :=
  ob1 (f_X8_isPerson v1 M) fun r2 =>
  if r2 = 0 then
    f_X8_isRight_b16 M
  else
    ob1 (f_X8_isPerson v2 M) fun r5 =>
    if r5 = 0 then
      f_X8_isRight_b16 M
    else
      ob1 (f_X8_hasShare v1 v2 M) fun r8 =>
      if r8 = 0 then
        f_X8_isRight_b48 ((-9)) M
      else
        ob1 (f_X8_isGood v1 v2 M) fun r11 =>
        if r11 = 0 then
          f_X8_isRight_b48 0 M
        else
          f_X8_isRight_b48 1 M
noncomputable def f_X8_check_b12 (M : St) : Option (Int32) :=
  some ((-1))
noncomputable def f_X8_check_b33 (M : St) : Option (Int32) :=
  some ((-9))
noncomputable def f_X8_check_l41 : Nat → Int32 → Int32 → Int32 → Int32 → St → Option (Int32)
  | 0, _, _, _, _, _ => none
  | n + 1, v1, v2, v3, v4, M =>
    ob1 (f_X8_person v1) fun r2 =>
    lb (r2 + 14) fun x3 =>
    lb (x3 + v2) fun x4 =>
    ck (inb x4 420) <|
    if (M 1 x4.toNatClampNeg) ≤ v4 then
      some v3
    else
      lb (v3 * 4) fun x6 =>
      lb (irem x6 2039) fun x7 =>
      f_X8_check_l41 n v1 v2 x7 (v4 + 1) M
noncomputable def f_X8_check (v1 : Int32) (v2 : Int32) (M : St) : Option (Int32) :=
  ob1 (f_X8_isPerson v1 M) fun r9 =>
  if r9 = 0 then
    f_X8_check_b12 M
  else
    if 0 ≤ v2 then
      ob1 (f_X8_hasShares v1 M) fun r13 =>
      if r13 = 0 then
        f_X8_check_b33 M
      else
        ck (inb 6 420) <|
        if v2 < (M 1 (6 : Int32).toNatClampNeg) then
          f_X8_check_l41 10000 v1 v2 1 0 M
        else
          f_X8_check_b33 M
    else
      f_X8_check_b12 M
noncomputable def f_X8_inverse_b38 (v1 : Int32) : Option (Int32) :=
  some v1
noncomputable def f_X8_inverse_l2 : Nat → Int32 → Int32 → Option (Int32)
  | 0, _, _ => none
  | n + 1, v0, v1 =>
    if 1019 ≤ v1 then
      f_X8_inverse_b38 v1
    else
      lb (irem v0 1019) fun x2 =>
      lb (x2 + 1019) fun x3 =>
      lb (irem x3 1019) fun x4 =>
      lb (x4 * v1) fun x5 =>
      lb (irem x5 1019) fun x6 =>
      if x6 = 1 then
        f_X8_inverse_b38 v1
      else
        f_X8_inverse_l2 n v0 (v1 + 1)
noncomputable def f_X8_inverse (v0 : Int32) : Option (Int32) :=
  f_X8_inverse_l2 10000 v0 1
noncomputable def f_X8_recover_b19 (M : St) : Option (Int32) :=
  some ((-1))
noncomputable def f_X8_recover_b51 (M : St) : Option (Int32) :=
  some ((-9))
noncomputable def f_X8_recover_l72 (K54 : Int32 → Int32 → St → Option (Int32)) : Nat → Int32 → Int32 → Int32 → St → Option (Int32)
  | 0, _, _, _, _ => none
  | n + 1, v1, v3, v4, M =>
    lb (ishr v3 v4) fun x1 =>
    if (x1 &&& 1) = 0 then
      f_X8_recover_l72 K54 n v1 v3 (v4 + (-1)) M
    else
      lb (ishl 1 v4) fun x3 =>
      lb (v3 &&& (x3 ^^^ ((-1)))) fun x4 =>
      K54 v1 x4 M
noncomputable def f_X8_recover_b188 (K105 : Int32 → Int32 → Int32 → Int32 → St → Option (Int32)) (K138 : Int32 → Int32 → Int32 → Int32 → Int32 → Int32 → St → Option (Int32)) (v1 : Int32) (v3 : Int32) (v4 : Int32) (v5 : Int32) (v6 : Int32) (v7 : Int32) (M : St) : Option (Int32) :=
  K138 v1 v3 v4 v5 v6 (v7 + 1) M
noncomputable def f_X8_recover_l138 (K105 : Int32 → Int32 → Int32 → Int32 → St → Option (Int32)) : Nat → Int32 → Int32 → Int32 → Int32 → Int32 → Int32 → St → Option (Int32)
  | 0, _, _, _, _, _, _, _ => none
  | n + 1, v1, v3, v4, v5, v6, v7, M =>
    if 8 ≤ v7 then
      lb (v4 + v6) fun x6 =>
      lb (irem x6 1019) fun x7 =>
      K105 v1 v3 x7 (v5 + 1) M
    else
      if v7 = v5 then
        f_X8_recover_b188 K105 (f_X8_recover_l138 K105 n) v1 v3 v4 v5 v6 v7 M
      else
        lb (ishr v3 v7) fun x9 =>
        lb (x9 &&& 1) fun x10 =>
        if x10 = 1 then
          lb (v6 * (v7 + 1)) fun x12 =>
          lb (irem x12 1019) fun x13 =>
          ob1 (f_X8_inverse (v7 - v5)) fun r15 =>
          lb (x13 * r15) fun x16 =>
          lb (irem x16 1019) fun x17 =>
          f_X8_recover_b188 K105 (f_X8_recover_l138 K105 n) v1 v3 v4 v5 x17 v7 M
        else
          f_X8_recover_b188 K105 (f_X8_recover_l138 K105 n) v1 v3 v4 v5 v6 v7 M
noncomputable def f_X8_recover_b133 (K105 : Int32 → Int32 → Int32 → Int32 → St → Option (Int32)) (v1 : Int32) (v3 : Int32) (v4 : Int32) (v5 : Int32) (t0 : Int32) (M : St) : Option (Int32) :=
  f_X8_recover_l138 K105 10000 v1 v3 v4 v5 t0 0 M
noncomputable def f_X8_recover_l105 : Nat → Int32 → Int32 → Int32 → Int32 → St → Option (Int32)
  | 0, _, _, _, _, _ => none
  | n + 1, v1, v3, v4, v5, M =>
    if 8 ≤ v5 then
      some v4
    else
      lb (ishr v3 v5) fun x19 =>
      lb (x19 &&& 1) fun x20 =>
      if x20 = 1 then
        ob1 (f_X8_shareOf v1 v5 M) fun r23 =>
        f_X8_recover_b133 (f_X8_recover_l105 n) v1 v3 v4 v5 r23 M
      else
        f_X8_recover_b133 (f_X8_recover_l105 n) v1 v3 v4 v5 0 M
noncomputable def f_X8_recover_l54 : Nat → Int32 → Int32 → St → Option (Int32)
  | 0, _, _, _ => none
  | n + 1, v1, v3, M =>
    ob1 (f_X8_countOf v3) fun r25 =>
    ck (inb 6 420) <|
    if r25 ≤ (M 1 (6 : Int32).toNatClampNeg) then
      f_X8_recover_l105 10000 v1 v3 0 0 M
    else
      f_X8_recover_l72 (f_X8_recover_l54 n) 10000 v1 v3 7 M
noncomputable def f_X8_recover (v1 : Int32) (v2 : Int32) (M : St) : Option (Int32) :=
  ob1 (f_X8_isPerson v1 M) fun r28 =>
  if r28 = 0 then
    f_X8_recover_b19 M
  else
    ob1 (f_X8_in v2 0 255) fun r31 =>
    if r31 = 0 then
      f_X8_recover_b19 M
    else
      ob1 (f_X8_setOf 5 M) fun r34 =>
      lb (v2 &&& r34) fun x35 =>
      ob1 (f_X8_hasShares v1 M) fun r37 =>
      if r37 = 0 then
        f_X8_recover_b51 M
      else
        ob1 (f_X8_countOf x35) fun r40 =>
        ck (inb 6 420) <|
        if (M 1 (6 : Int32).toNatClampNeg) ≤ r40 then
          f_X8_recover_l54 10000 v1 x35 M
        else
          f_X8_recover_b51 M
noncomputable def f_X8_lock_b17 (M : St) : Option (Int32) :=
  some ((-1))
noncomputable def f_X8_lock_b63 (t0 : Int32) (M : St) : Option (Int32) :=
  some t0
noncomputable def f_X8_lock_b56 (t1 : Int32) (t2 : Int32) (M : St) : Option (Int32) :=
  lb (t1 + t2) fun x1 =>
  ck (inb x1 420) <|
  f_X8_lock_b63 (M 1 x1.toNatClampNeg) M
noncomputable def f_X8_lock_b61 (M : St) : Option (Int32) :=
  f_X8_lock_b63 ((-9)) M
noncomputable def f_X8_lock (v1 : Int32) (v2 : Int32) (M : St) : Option (Int32) :=
  ob1 (f_X8_isPerson v1 M) fun r3 =>
  if r3 = 0 then
    f_X8_lock_b17 M
  else
    ob1 (f_X8_in v2 0 1) fun r6 =>
    if r6 = 0 then
      f_X8_lock_b17 M
    else
      ck (inb 5 420) <|
      lb (M 1 (5 : Int32).toNatClampNeg) fun x8 =>
      if x8 = 2 then
        ob1 (f_X8_isIn v1 M) fun r11 =>
        if r11 = 0 then
          f_X8_lock_b61 M
        else
          ob1 (f_X8_person v1) fun r14 =>
          if v2 = 0 then
            f_X8_lock_b56 r14 12 M
          else
            f_X8_lock_b56 r14 13 M
      else
        f_X8_lock_b61 M
noncomputable def f_X8_mayJoin_b38 (t0 : Int32) (M : St) : Option (Int32) :=
  ck (isB t0) <|
  some t0
noncomputable def f_X8_mayJoin_b37 (M : St) : Option (Int32) :=
  f_X8_mayJoin_b38 0 M
noncomputable def f_X8_mayJoin (v1 : Int32) (M : St) : Option (Int32) :=
  ob1 (f_X8_setOf 5 M) fun r2 =>
  ob1 (f_X8_setOf 7 M) fun r4 =>
  lb (r2 &&& (r4 ^^^ ((-1)))) fun x5 =>
  ck (inb 0 420) <|
  lb (M 1 (0 : Int32).toNatClampNeg) fun x6 =>
  if x6 = 2 then
    if (v1 &&& (x5 ^^^ ((-1)))) = 0 then
      f_X8_mayJoin_b38 1 M
    else
      f_X8_mayJoin_b37 M
  else
    f_X8_mayJoin_b37 M
noncomputable def f_X8_results_b133 (K42 : Int32 → Int32 → Int32 → Int32 → Int32 → St → Option (Int32 × St)) (K105 : Int32 → Int32 → Int32 → Int32 → Int32 → Int32 → Int32 → Int32 → St → Option (Int32 × St)) (v1 : Int32) (v2 : Int32) (v3 : Int32) (v4 : Int32) (v5 : Int32) (v6 : Int32) (v8 : Int32) (t0 : Int32) (M : St) : Option (Int32 × St) :=
  K105 v1 v2 v3 v4 v5 v6 t0 (v8 + 1) M
noncomputable def f_X8_results_b157 (K42 : Int32 → Int32 → Int32 → Int32 → Int32 → St → Option (Int32 × St)) (v1 : Int32) (v2 : Int32) (v3 : Int32) (v4 : Int32) (v5 : Int32) (M : St) : Option (Int32 × St) :=
  K42 v1 v2 v3 v4 (v5 + 1) M
noncomputable def f_X8_results_b141 (K42 : Int32 → Int32 → Int32 → Int32 → Int32 → St → Option (Int32 × St)) (v1 : Int32) (v2 : Int32) (v3 : Int32) (v4 : Int32) (v5 : Int32) (v6 : Int32) (v7 : Int32) (M : St) : Option (Int32 × St) :=
  if v7 = 0 then
    f_X8_results_b157 K42 v1 v2 v3 v4 v5 M
  else
    ck (inb v3 256) <| lb (u2 M 4 v3.toNatClampNeg v6) fun M2 =>
    f_X8_results_b157 K42 v1 v2 (v3 + 1) v4 v5 M2
noncomputable def f_X8_results_l105 (K42 : Int32 → Int32 → Int32 → Int32 → Int32 → St → Option (Int32 × St)) : Nat → Int32 → Int32 → Int32 → Int32 → Int32 → Int32 → Int32 → Int32 → St → Option (Int32 × St)
  | 0, _, _, _, _, _, _, _, _, _ => none
  | n + 1, v1, v2, v3, v4, v5, v6, v7, v8, M =>
    if v3 ≤ v8 then
      f_X8_results_b141 K42 v1 v2 v3 v4 v5 v6 v7 M
    else
      if v7 = 0 then
        f_X8_results_b141 K42 v1 v2 v3 v4 v5 v6 v7 M
      else
        ck (inb v8 256) <|
        lb (M 4 v8.toNatClampNeg) fun x5 =>
        if x5 = v6 then
          f_X8_results_b133 K42 (f_X8_results_l105 K42 n) v1 v2 v3 v4 v5 v6 v8 0 M
        else
          f_X8_results_b133 K42 (f_X8_results_l105 K42 n) v1 v2 v3 v4 v5 v6 v8 1 M
noncomputable def f_X8_results_b100 (K42 : Int32 → Int32 → Int32 → Int32 → Int32 → St → Option (Int32 × St)) (v1 : Int32) (v2 : Int32) (v3 : Int32) (v5 : Int32) (v6 : Int32) (v7 : Int32) (t0 : Int32) (M : St) : Option (Int32 × St) :=
  f_X8_results_l105 K42 10000 v1 v2 v3 t0 v5 v6 v7 0 M
noncomputable def f_X8_results_b85 (K42 : Int32 → Int32 → Int32 → Int32 → Int32 → St → Option (Int32 × St)) (v1 : Int32) (v2 : Int32) (v3 : Int32) (v4 : Int32) (v5 : Int32) (v6 : Int32) (t0 : Int32) (M : St) : Option (Int32 × St) :=
  if (M 0 4) = 0 then
    f_X8_results_b100 K42 v1 v2 v3 v5 v6 t0 v4 M
  else
    f_X8_results_b100 K42 v1 v2 v3 v5 v6 t0 1 M
noncomputable def f_X8_results_l42 : Nat → Int32 → Int32 → Int32 → Int32 → Int32 → St → Option (Int32 × St)
  | 0, _, _, _, _, _, _ => none
  | n + 1, v1, v2, v3, v4, v5, M =>
    if 256 ≤ v5 then
      some (v3 + v4, M)
    else
      if (v5 &&& (v1 ^^^ ((-1)))) = 0 then
        lb (v2 &&& (v1 ^^^ ((-1)))) fun x10 =>
        ob2 (f_X8_outputOf (x10 ||| v5) M) fun r13 M12 =>
        if (M12 0 4) = 0 then
          f_X8_results_b85 (f_X8_results_l42 n) v1 v2 v3 v4 v5 r13 1 M12
        else
          f_X8_results_b85 (f_X8_results_l42 n) v1 v2 v3 v4 v5 r13 0 M12
      else
        f_X8_results_b157 (f_X8_results_l42 n) v1 v2 v3 v4 v5 M
noncomputable def f_X8_results (v1 : Int32) (M : St) : Option (Int32 × St) :=
  ob1 (f_X8_in v1 0 255) fun r16 =>
  if r16 = 0 then
    some ((-1), M)
  else
    ob1 (f_X8_mayJoin v1 M) fun r19 =>
    if r19 = 0 then
      some ((-2), M)
    else
      ob1 (f_X8_takesSecrets M) fun M22 =>
      ob1 (f_X8_setOf 5 M22) fun r24 =>
      f_X8_results_l42 10000 v1 r24 0 0 0 M22
noncomputable def f_X8_forces_b57 (K13 : Int32 → Int32 → Int32 → Int32 → St → Option (Int32 × St)) (v1 : Int32) (v2 : Int32) (v3 : Int32) (v4 : Int32) (M : St) : Option (Int32 × St) :=
  K13 v1 v2 v3 (v4 + 1) M
noncomputable def f_X8_forces_l13 : Nat → Int32 → Int32 → Int32 → Int32 → St → Option (Int32 × St)
  | 0, _, _, _, _, _ => none
  | n + 1, v1, v2, v3, v4, M =>
    if 256 ≤ v4 then
      some (0, M)
    else
      if (v4 &&& (v1 ^^^ ((-1)))) = 0 then
        ob2 (f_X8_outputOf (v3 ||| v4) M) fun r5 M4 =>
        if (M4 0 4) = 0 then
          lb (r5 &&& 1) fun x7 =>
          if x7 = v2 then
            some (1, M4)
          else
            f_X8_forces_b57 (f_X8_forces_l13 n) v1 v2 v3 v4 M4
        else
          f_X8_forces_b57 (f_X8_forces_l13 n) v1 v2 v3 v4 M4
      else
        f_X8_forces_b57 (f_X8_forces_l13 n) v1 v2 v3 v4 M
noncomputable def f_X8_forces (v1 : Int32) (v2 : Int32) (M : St) : Option (Int32 × St) :=
  ob1 (f_X8_setOf 5 M) fun r10 =>
  lb (r10 &&& (v1 ^^^ ((-1)))) fun x11 =>
  f_X8_forces_l13 10000 v1 v2 x11 0 M
noncomputable def f_X8_canForce_b20 (M : St) : Option (Int32 × St) :=
  some ((-1), M)
noncomputable def f_X8_canForce_b51 (t0 : Int32) (M : St) : Option (Int32 × St) :=
  some (t0, M)
noncomputable def f_X8_canForce (v1 : Int32) (v2 : Int32) (M : St) : Option (Int32 × St) :=
  ob1 (f_X8_in v1 0 255) fun r2 =>
  if r2 = 0 then
    f_X8_canForce_b20 M
  else
    ob1 (f_X8_in v2 0 1) fun r5 =>
    if r5 = 0 then
      f_X8_canForce_b20 M
    else
      ob1 (f_X8_mayJoin v1 M) fun r8 =>
      if r8 = 0 then
        some ((-2), M)
      else
        ob1 (f_X8_takesSecrets M) fun M11 =>
        ob2 (f_X8_forces v1 v2 M11) fun r14 M13 =>
        if r14 = 0 then
          f_X8_canForce_b51 0 M13
        else
          f_X8_canForce_b51 1 M13
noncomputable def f_X8_bias_b20 (M : St) : Option (Int32 × St) :=
  some ((-1), M)
noncomputable def f_X8_bias_b125 (K67 : Int32 → Int32 → Int32 → Int32 → Int32 → Int32 → St → Option (Int32 × St)) (K87 : Int32 → Int32 → Int32 → Int32 → Int32 → Int32 → Int32 → Int32 → St → Option (Int32 × St)) (v1 : Int32) (v2 : Int32) (v3 : Int32) (v4 : Int32) (v5 : Int32) (v6 : Int32) (v7 : Int32) (v8 : Int32) (M : St) : Option (Int32 × St) :=
  K87 v1 v2 v3 v4 v5 v6 v7 (v8 + 1) M
noncomputable def f_X8_bias_b147 (K67 : Int32 → Int32 → Int32 → Int32 → Int32 → Int32 → St → Option (Int32 × St)) (v1 : Int32) (v2 : Int32) (v3 : Int32) (v4 : Int32) (v6 : Int32) (t0 : Int32) (t1 : Int32) (M : St) : Option (Int32 × St) :=
  lb (t0 + t1) fun x1 =>
  K67 v1 v2 v3 v4 x1 (v6 + 1) M
noncomputable def f_X8_bias_l87 (K67 : Int32 → Int32 → Int32 → Int32 → Int32 → Int32 → St → Option (Int32 × St)) : Nat → Int32 → Int32 → Int32 → Int32 → Int32 → Int32 → Int32 → Int32 → St → Option (Int32 × St)
  | 0, _, _, _, _, _, _, _, _, _ => none
  | n + 1, v1, v2, v3, v4, v5, v6, v7, v8, M =>
    if 8 ≤ v8 then
      ob2 (f_X8_forces v1 1 M) fun r5 M4 =>
      if r5 = 0 then
        f_X8_bias_b147 K67 v1 v2 v3 v4 v6 v5 0 M4
      else
        f_X8_bias_b147 K67 v1 v2 v3 v4 v6 v5 1 M4
    else
      lb (ishr v3 v8) fun x7 =>
      lb (x7 &&& 1) fun x8 =>
      if x8 = 1 then
        lb (ishl 1 v2) fun x10 =>
        ck (inb v8 8) <| lb (u2 M 3 v8.toNatClampNeg (v7 &&& (x10 - 1))) fun M11 =>
        lb (ishr v7 v2) fun x12 =>
        f_X8_bias_b125 K67 (f_X8_bias_l87 K67 n) v1 v2 v3 v4 v5 v6 x12 v8 M11
      else
        f_X8_bias_b125 K67 (f_X8_bias_l87 K67 n) v1 v2 v3 v4 v5 v6 v7 v8 M
noncomputable def f_X8_bias_l67 : Nat → Int32 → Int32 → Int32 → Int32 → Int32 → Int32 → St → Option (Int32 × St)
  | 0, _, _, _, _, _, _, _ => none
  | n + 1, v1, v2, v3, v4, v5, v6, M =>
    if (ishl 1 v4) ≤ v6 then
      some (v5, M)
    else
      ob1 (f_X8_takesSecrets M) fun M15 =>
      f_X8_bias_l87 (f_X8_bias_l67 n) 10000 v1 v2 v3 v4 v5 v6 v6 0 M15
noncomputable def f_X8_bias (v1 : Int32) (v2 : Int32) (M : St) : Option (Int32 × St) :=
  ob1 (f_X8_in v1 0 255) fun r17 =>
  if r17 = 0 then
    f_X8_bias_b20 M
  else
    ob1 (f_X8_in v2 1 4) fun r20 =>
    if r20 = 0 then
      f_X8_bias_b20 M
    else
      ob1 (f_X8_mayJoin v1 M) fun r23 =>
      if r23 = 0 then
        some ((-2), M)
      else
        ob1 (f_X8_setOf 5 M) fun r26 =>
        lb (r26 &&& (v1 ^^^ ((-1)))) fun x27 =>
        ob1 (f_X8_countOf x27) fun r29 =>
        lb (v2 * r29) fun x30 =>
        if x30 ≤ 12 then
          f_X8_bias_l67 10000 v1 v2 x27 x30 0 0 M
        else
          some ((-3), M)
noncomputable def f_X8_power_b46 (K15 : Int64 → Int64 → Int64 → Int64 → Option (Int64)) (v4 : Int64) (v8 : Int64) (v10 : Int64) (t0 : Int64) : Option (Int64) :=
  lb (v8 * v8) fun y1 =>
  ck (nzL v4) <|
  lb (lrem y1 v4) fun y3 =>
  lb (v10 / 2) fun y4 =>
  K15 v4 t0 y3 y4
noncomputable def f_X8_power_l15 : Nat → Int64 → Int64 → Int64 → Int64 → Option (Int64)
  | 0, _, _, _, _ => none
  | n + 1, v4, v6, v8, v10 =>
    if (lg_cmp v10 0) ≤ 0 then
      some v6
    else
      lb (lrem v10 2) fun y6 =>
      if (lg_cmp y6 1) = 0 then
        lb (v6 * v8) fun y8 =>
        ck (nzL v4) <|
        f_X8_power_b46 (f_X8_power_l15 n) v4 v8 v10 (lrem y8 v4)
      else
        f_X8_power_b46 (f_X8_power_l15 n) v4 v8 v10 v6
noncomputable def f_X8_power (v0 : Int64) (v2 : Int64) (v4 : Int64) : Option (Int64) :=
  ck (nzL v4) <|
  lb (lrem 1 v4) fun y11 =>
  ck (nzL v4) <|
  lb (lrem v0 v4) fun y13 =>
  f_X8_power_l15 10000 v4 y11 y13 v2
noncomputable def f_X8_isPrime_b35 (K13 : Int32 → Int32 → Int32 → Option (Int32)) (v0 : Int32) (v2 : Int32) (t0 : Int32) : Option (Int32) :=
  K13 v0 t0 (v2 + 1)
noncomputable def f_X8_isPrime_b42 (v1 : Int32) : Option (Int32) :=
  ck (isB v1) <|
  some v1
noncomputable def f_X8_isPrime_l13 : Nat → Int32 → Int32 → Int32 → Option (Int32)
  | 0, _, _, _ => none
  | n + 1, v0, v1, v2 =>
    lb (v2 * v2) fun x1 =>
    if v0 < x1 then
      f_X8_isPrime_b42 v1
    else
      if v1 = 0 then
        f_X8_isPrime_b42 v1
      else
        ck (nz v2) <|
        if (irem v0 v2) = 0 then
          f_X8_isPrime_b35 (f_X8_isPrime_l13 n) v0 v2 0
        else
          f_X8_isPrime_b35 (f_X8_isPrime_l13 n) v0 v2 1
noncomputable def f_X8_isPrime_b10 (v0 : Int32) (t0 : Int32) : Option (Int32) :=
  f_X8_isPrime_l13 10000 v0 t0 2
noncomputable def f_X8_isPrime (v0 : Int32) : Option (Int32) :=
  if v0 ≤ 1 then
    f_X8_isPrime_b10 v0 0
  else
    f_X8_isPrime_b10 v0 1
noncomputable def f_X8_primeFor_l18 : Nat → Int32 → Option (Int32)
  | 0, _ => none
  | n + 1, v2 =>
    ob1 (f_X8_isPrime v2) fun r2 =>
    if r2 = 0 then
      f_X8_primeFor_l18 n (v2 + 1)
    else
      some v2
noncomputable def f_X8_primeFor (v0 : Int32) (v1 : Int32) : Option (Int32) :=
  ob1 (f_X8_mix 19 v0) fun r5 =>
  ob1 (f_X8_mix r5 v1) fun r7 =>
  lb (257 + (iushr r7 22)) fun x8 =>
  f_X8_primeFor_l18 10000 x8
noncomputable def f_X8_isSlow_b26 (t0 : Int32) : Option (Int32) :=
  ck (isB t0) <|
  some t0
noncomputable def f_X8_isSlow_b25 : Option (Int32) :=
  f_X8_isSlow_b26 0
noncomputable def f_X8_isSlow (v0 : Int32) (v1 : Int32) : Option (Int32) :=
  ob1 (f_X8_in v0 2 100000) fun r2 =>
  if r2 = 0 then
    f_X8_isSlow_b25
  else
    ob1 (f_X8_in v1 0 5000) fun r5 =>
    if r5 = 0 then
      f_X8_isSlow_b25
    else
      f_X8_isSlow_b26 1
noncomputable def f_X8_slow_b18 (t0 : Int32) : Option (Int32) :=
  some t0
noncomputable def f_X8_slow (v1 : Int32) (v2 : Int32) : Option (Int32) :=
  ob1 (f_X8_isSlow v1 v2) fun r2 =>
  if r2 = 0 then
    f_X8_slow_b18 ((-1))
  else
    ob1 (f_X8_squares v1 v2) fun r5 =>
    f_X8_slow_b18 (r5.toInt32)
noncomputable def f_X8_quick_b21 : Option (Int32) :=
  some ((-1))
noncomputable def f_X8_quick (v1 : Int32) (v2 : Int32) : Option (Int32) :=
  ob1 (f_X8_in v1 2 7906) fun r2 =>
  if r2 = 0 then
    f_X8_quick_b21
  else
    ob1 (f_X8_in v2 0 1000000000) fun r5 =>
    if r5 = 0 then
      f_X8_quick_b21
    else
      lb (v1.toInt64) fun y7 =>
      lb (v2.toInt64) fun y8 =>
      ob1 (f_X8_power 2 y8 62599708) fun r10 =>
      ob1 (f_X8_power y7 r10 62615533) fun r12 =>
      some (r12.toInt32)
noncomputable def f_X8_prime_b22 (t0 : Int32) : Option (Int32) :=
  some t0
noncomputable def f_X8_prime (v1 : Int32) (v2 : Int32) : Option (Int32) :=
  ob1 (f_X8_isSlow v1 v2) fun r2 =>
  if r2 = 0 then
    f_X8_prime_b22 ((-1))
  else
    ob1 (f_X8_squares v1 v2) fun r5 =>
    ob1 (f_X8_primeFor v1 (r5.toInt32)) fun r7 =>
    f_X8_prime_b22 r7
noncomputable def f_X8_proof_b81 (K30 : Int32 → Int32 → Int32 → Int64 → Int64 → Int32 → Option (Int32)) (v1 : Int32) (v2 : Int32) (v3 : Int32) (v4 : Int64) (v6 : Int64) (v8 : Int32) : Option (Int32) :=
  K30 v1 v2 v3 v4 v6 (v8 + 1)
noncomputable def f_X8_proof_l30 : Nat → Int32 → Int32 → Int32 → Int64 → Int64 → Int32 → Option (Int32)
  | 0, _, _, _, _, _, _ => none
  | n + 1, v1, v2, v3, v4, v6, v8 =>
    if v2 ≤ v8 then
      some (v6.toInt32)
    else
      lb (v4 * 2) fun y2 =>
      lb (v6 * v6) fun y3 =>
      lb (lrem y3 62615533) fun y4 =>
      if (lg_cmp y2 (v3.toInt64)) < 0 then
        f_X8_proof_b81 (f_X8_proof_l30 n) v1 v2 v3 y2 y4 v8
      else
        lb (y2 - (v3.toInt64)) fun y6 =>
        lb (y4 * (v1.toInt64)) fun y7 =>
        lb (lrem y7 62615533) fun y8 =>
        f_X8_proof_b81 (f_X8_proof_l30 n) v1 v2 v3 y6 y8 v8
noncomputable def f_X8_proof (v1 : Int32) (v2 : Int32) : Option (Int32) :=
  ob1 (f_X8_isSlow v1 v2) fun r10 =>
  if r10 = 0 then
    some ((-1))
  else
    ob1 (f_X8_squares v1 v2) fun r13 =>
    ob1 (f_X8_primeFor v1 (r13.toInt32)) fun r15 =>
    f_X8_proof_l30 10000 v1 v2 r15 1 1 0
noncomputable def f_X8_accepts_b41 : Option (Int32) :=
  some ((-1))
noncomputable def f_X8_accepts_b97 (t0 : Int32) : Option (Int32) :=
  some t0
noncomputable def f_X8_accepts (v1 : Int32) (v2 : Int32) (v3 : Int32) (v4 : Int32) : Option (Int32) :=
  ob1 (f_X8_in v1 2 100000) fun r2 =>
  if r2 = 0 then
    f_X8_accepts_b41
  else
    ob1 (f_X8_in v2 0 1000000000) fun r5 =>
    if r5 = 0 then
      f_X8_accepts_b41
    else
      ob1 (f_X8_in v3 0 62615532) fun r8 =>
      if r8 = 0 then
        f_X8_accepts_b41
      else
        ob1 (f_X8_in v4 0 62615532) fun r11 =>
        if r11 = 0 then
          f_X8_accepts_b41
        else
          ob1 (f_X8_primeFor v1 v3) fun r14 =>
          lb (v4.toInt64) fun y15 =>
          lb (r14.toInt64) fun y16 =>
          ob1 (f_X8_power y15 y16 62615533) fun r18 =>
          lb (v1.toInt64) fun y19 =>
          lb (v2.toInt64) fun y20 =>
          ob1 (f_X8_power 2 y20 (r14.toInt64)) fun r22 =>
          ob1 (f_X8_power y19 r22 62615533) fun r24 =>
          lb (r18 * r24) fun y25 =>
          lb (lrem y25 62615533) fun y26 =>
          if (lg_cmp y26 (v3.toInt64)) = 0 then
            f_X8_accepts_b97 1
          else
            f_X8_accepts_b97 0
noncomputable def f_X8_account_b32 (t0 : Int32) (M : St) : Option (Int32) :=
  some t0
noncomputable def f_X8_account_b31 (M : St) : Option (Int32) :=
  f_X8_account_b32 ((-1)) M
noncomputable def f_X8_account (v1 : Int32) (v2 : Int32) (M : St) : Option (Int32) :=
  ob1 (f_X8_isPerson v1 M) fun r2 =>
  if r2 = 0 then
    f_X8_account_b31 M
  else
    ob1 (f_X8_in v2 0 4) fun r5 =>
    if r5 = 0 then
      f_X8_account_b31 M
    else
      ob1 (f_X8_person v1) fun r8 =>
      lb (r8 + v2) fun x9 =>
      ck (inb x9 420) <|
      f_X8_account_b32 (M 1 x9.toNatClampNeg) M
noncomputable def f_X8_pot (M : St) : Option (Int32) :=
  ck (inb 2 420) <|
  some (M 1 (2 : Int32).toNatClampNeg)
noncomputable def f_X8_rounds (M : St) : Option (Int32) :=
  ck (inb 1 420) <|
  some (M 1 (1 : Int32).toNatClampNeg)
noncomputable def f_X8_isKept_b32 (t0 : Int32) (M : St) : Option (Int32) :=
  ck (isB t0) <|
  some t0
noncomputable def f_X8_isKept_b31 (M : St) : Option (Int32) :=
  f_X8_isKept_b32 0 M
noncomputable def f_X8_isKept (v1 : Int32) (M : St) : Option (Int32) :=
  if v1 < 0 then
    f_X8_isKept_b31 M
  else
    ck (inb 1 420) <|
    if (M 1 (1 : Int32).toNatClampNeg) ≤ v1 then
      f_X8_isKept_b31 M
    else
      ck (inb 1 420) <|
      lb (M 1 (1 : Int32).toNatClampNeg) fun x3 =>
      if v1 < (x3 - 16) then
        f_X8_isKept_b31 M
      else
        f_X8_isKept_b32 1 M
noncomputable def f_X8_ofRound (v1 : Int32) (v2 : Int32) (M : St) : Option (Int32) :=
  lb (340 + (5 * (irem v1 16))) fun x1 =>
  lb (x1 + v2) fun x2 =>
  ck (inb x2 420) <|
  some (M 1 x2.toNatClampNeg)
noncomputable def f_X8_past_b13 (M : St) : Option (Int32) :=
  some ((-1))
noncomputable def f_X8_past_b99 (t0 : Int32) (M : St) : Option (Int32) :=
  some t0
noncomputable def f_X8_past_b42 (v1 : Int32) (v2 : Int32) (t0 : Int32) (M : St) : Option (Int32) :=
  ob1 (f_X8_ofRound v1 1 M) fun r2 =>
  ob1 (f_X8_countOf r2) fun r4 =>
  ob1 (f_X8_ofRound v1 2 M) fun r6 =>
  lb (r4 - r6) fun x7 =>
  if v2 = 4 then
    ob1 (f_X8_ofRound v1 3 M) fun r14 =>
    f_X8_past_b99 r14 M
  else
    if v2 = 3 then
      if t0 = 0 then
        f_X8_past_b99 x7 M
      else
        f_X8_past_b99 0 M
    else
      ob1 (f_X8_ofRound v1 v2 M) fun r11 =>
      f_X8_past_b99 r11 M
noncomputable def f_X8_past (v1 : Int32) (v2 : Int32) (M : St) : Option (Int32) :=
  if v1 < 0 then
    f_X8_past_b13 M
  else
    ob1 (f_X8_in v2 0 4) fun r17 =>
    if r17 = 0 then
      f_X8_past_b13 M
    else
      ob1 (f_X8_isKept v1 M) fun r20 =>
      if r20 = 0 then
        some ((-9))
      else
        ob1 (f_X8_ofRound v1 0 M) fun r23 =>
        if r23 = ((-5)) then
          f_X8_past_b42 v1 v2 1 M
        else
          f_X8_past_b42 v1 v2 0 M
noncomputable def f_X8_output_b18 (t0 : Int32) (M : St) : Option (Int32) :=
  some t0
noncomputable def f_X8_output (v1 : Int32) (M : St) : Option (Int32) :=
  ob1 (f_X8_isKept v1 M) fun r2 =>
  if r2 = 0 then
    f_X8_output_b18 0 M
  else
    ob1 (f_X8_ofRound v1 4 M) fun r5 =>
    f_X8_output_b18 r5 M
noncomputable def f_X8_coins_b29 (t0 : Int32) (M : St) : Option (Int32) :=
  some t0
noncomputable def f_X8_coins_b28 (t1 : Int32) (M : St) : Option (Int32) :=
  ck (inb t1 420) <|
  f_X8_coins_b29 (M 1 t1.toNatClampNeg) M
noncomputable def f_X8_coins (v1 : Int32) (M : St) : Option (Int32) :=
  ob1 (f_X8_in v1 0 1) fun r2 =>
  if r2 = 0 then
    f_X8_coins_b29 ((-1)) M
  else
    if v1 = 0 then
      f_X8_coins_b28 9 M
    else
      f_X8_coins_b28 10 M
noncomputable def f_X8_longestRun (M : St) : Option (Int32) :=
  ck (inb 13 420) <|
  some (M 1 (13 : Int32).toNatClampNeg)
noncomputable def f_X8_undo_l22 : Nat → Int32 → St → Option (Int32 × St)
  | 0, _, _ => none
  | n + 1, v1, M =>
    if 420 ≤ v1 then
      some (M 0 2, M)
    else
      lb (420 * (M 0 2)) fun x2 =>
      lb (x2 + v1) fun x3 =>
      ck (inb x3 1680) <|
      ck (inb v1 420) <| lb (u2 M 1 v1.toNatClampNeg (M 2 x3.toNatClampNeg)) fun M4 =>
      f_X8_undo_l22 n (v1 + 1) M4
noncomputable def f_X8_undo (M : St) : Option (Int32 × St) :=
  if (M 0 2) = 0 then
    some ((-2), M)
  else
    lb (M 0 2) fun x6 =>
    lb (u2 M 0 2 (x6 - 1)) fun M7 =>
    f_X8_undo_l22 10000 0 M7
noncomputable def f_X8_fingerprint_l63 (K50 : Int64 → Int32 → St → Option (Int64)) : Nat → Int64 → Int32 → Int32 → St → Option (Int64)
  | 0, _, _, _, _ => none
  | n + 1, v1, v3, v4, M =>
    if 5 ≤ v4 then
      K50 v1 (v3 + 1) M
    else
      lb (31 * v1) fun y2 =>
      ob1 (f_X8_person v3) fun r4 =>
      lb (r4 + v4) fun x5 =>
      ck (inb x5 420) <|
      lb (y2 + ((M 1 x5.toNatClampNeg).toInt64)) fun y6 =>
      f_X8_fingerprint_l63 K50 n y6 v3 (v4 + 1) M
noncomputable def f_X8_fingerprint_b176 (v1 : Int64) (M : St) : Option (Int64) :=
  some v1
noncomputable def f_X8_fingerprint_l138 : Nat → Int64 → Int32 → St → Option (Int64)
  | 0, _, _, _ => none
  | n + 1, v1, v3, M =>
    ck (inb 4 420) <|
    if (M 1 (4 : Int32).toNatClampNeg) ≤ v3 then
      f_X8_fingerprint_b176 v1 M
    else
      ck (inb 0 420) <|
      if (M 1 (0 : Int32).toNatClampNeg) = 0 then
        f_X8_fingerprint_b176 v1 M
      else
        lb (31 * v1) fun y9 =>
        ob1 (f_X8_digest v3 M) fun r11 =>
        lb (y9 + (r11.toInt64)) fun y12 =>
        f_X8_fingerprint_l138 n y12 (v3 + 1) M
noncomputable def f_X8_fingerprint_b136 (v1 : Int64) (M : St) : Option (Int64) :=
  f_X8_fingerprint_l138 10000 v1 0 M
noncomputable def f_X8_fingerprint_l103 : Nat → Int64 → Int32 → St → Option (Int64)
  | 0, _, _, _ => none
  | n + 1, v1, v3, M =>
    if 4 ≤ v3 then
      f_X8_fingerprint_b136 v1 M
    else
      ck (inb 0 420) <|
      if (M 1 (0 : Int32).toNatClampNeg) = 0 then
        f_X8_fingerprint_b136 v1 M
      else
        lb (31 * v1) fun y15 =>
        ob1 (f_X8_setNumber v3 M) fun r17 =>
        lb (y15 + (r17.toInt64)) fun y18 =>
        f_X8_fingerprint_l103 n y18 (v3 + 1) M
noncomputable def f_X8_fingerprint_l50 : Nat → Int64 → Int32 → St → Option (Int64)
  | 0, _, _, _ => none
  | n + 1, v1, v3, M =>
    ck (inb 4 420) <|
    if (M 1 (4 : Int32).toNatClampNeg) ≤ v3 then
      f_X8_fingerprint_l103 10000 v1 0 M
    else
      f_X8_fingerprint_l63 (f_X8_fingerprint_l50 n) 10000 v1 v3 0 M
noncomputable def f_X8_fingerprint (M : St) : Option (Int64) :=
  ck (inb 0 420) <|
  lb (31 * (713 + ((M 1 (0 : Int32).toNatClampNeg).toInt64))) fun y20 =>
  ck (inb 1 420) <|
  lb (31 * (y20 + ((M 1 (1 : Int32).toNatClampNeg).toInt64))) fun y21 =>
  ck (inb 2 420) <|
  lb (31 * (y21 + ((M 1 (2 : Int32).toNatClampNeg).toInt64))) fun y22 =>
  ck (inb 3 420) <|
  lb (y22 + ((M 1 (3 : Int32).toNatClampNeg).toInt64)) fun y23 =>
  f_X8_fingerprint_l50 10000 y23 0 M
end
section
/-! plain facts about value functions, ints by their numbers, sets of eight -/
theorem ob1_s {α β : Type} (a : α) (f : α → Option β) : ob1 (some a) f = f a := rfl
theorem ob2_s {α γ β : Type} (a : α) (b : γ) (f : α → γ → Option β) : ob2 (some (a, b)) f = f a b := rfl
theorem ck_t {β : Type} (k : Option β) : ck true k = k := rfl
theorem lb_e {α β : Type} (a : α) (f : α → β) : lb a f = f a := rfl
theorem u2_ap (I : St) (o k : Nat) (x : Int32) (o' k' : Nat) : u2 I o k x o' k' = if o' = o then (if k' = k then x else I o k') else I o' k' := by
  unfold u2 ur
  by_cases h : o' = o
  · rw [if_pos h, if_pos h]; rfl
  · rw [if_neg h, if_neg h]
theorem u2_row (I : St) (o k : Nat) (x : Int32) : u2 I o k x o = upd (I o) k x := if_pos rfl
theorem u2_off (I : St) (o k : Nat) (x : Int32) {q : Nat} (h : q ≠ o) : u2 I o k x q = I q := if_neg h
theorem ur_ap (I : St) (o : Nat) (f : Nat → Int32) (o' : Nat) : ur I o f o' = if o' = o then f else I o' := rfl
theorem upd_ap (f : Nat → Int32) (k : Nat) (x : Int32) (j : Nat) : upd f k x j = if j = k then x else f j := rfl
theorem lit_nI (n : Nat) : (OfNat.ofNat n : Int32) = nI n := rfl
theorem inb_nI {n N : Nat} (h : n < N) (hN : N < 2 ^ 31) : inb (nI n) N = true := by
  have h1 := nI_pos (n := n) (by omega)
  have h2 := nI_clamp (n := n) (by omega)
  simp [inb, h1, h2, h]
theorem inb_no {n N : Nat} (h : N ≤ n) (hN : n < 2 ^ 31) : inb (nI n) N = false := by
  have h2 := nI_clamp (n := n) hN
  simp [inb, h2, h]
theorem irem_nI {a b : Nat} (ha : a < 2 ^ 31) (h0 : 0 < b) (hb : b < 2 ^ 31) : irem (nI a) (nI b) = nI (a % b) := pk_rem ha h0 hb
theorem and_nI (a b : Nat) : nI a &&& nI b = nI (a &&& b) := by
  apply Int32.toBitVec_inj.1
  show BitVec.ofNat 32 a &&& BitVec.ofNat 32 b = BitVec.ofNat 32 (a &&& b)
  apply BitVec.eq_of_getLsbD_eq
  intro i hi
  simp [hi]
theorem or_nI (a b : Nat) : nI a ||| nI b = nI (a ||| b) := by
  apply Int32.toBitVec_inj.1
  show BitVec.ofNat 32 a ||| BitVec.ofNat 32 b = BitVec.ofNat 32 (a ||| b)
  apply BitVec.eq_of_getLsbD_eq
  intro i hi
  simp [hi]
theorem xor_nI (a b : Nat) : nI a ^^^ nI b = nI (a ^^^ b) := by
  apply Int32.toBitVec_inj.1
  show BitVec.ofNat 32 a ^^^ BitVec.ofNat 32 b = BitVec.ofNat 32 (a ^^^ b)
  apply BitVec.eq_of_getLsbD_eq
  intro i hi
  simp [hi]
theorem cnt_u : ∀ k, k < 32 → (((nI k).toUInt32 &&& Int32.toUInt32 31).toBitVec % 32).toNat = k := by decide +kernel
theorem cnt_s : ∀ k, k < 32 → ((nI k &&& 31).toBitVec.smod 32).toNat = k := by decide +kernel
theorem iushr_nI {a k : Nat} (ha : a < 2 ^ 32) (hk : k < 32) : iushr (nI a) (nI k) = nI (a / 2 ^ k) := pk_ushrN ha _ k (cnt_u k hk)
theorem ishr_nI {a k : Nat} (ha : a < 2 ^ 31) (hk : k < 32) : ishr (nI a) (nI k) = nI (a / 2 ^ k) := pk_shrN ha _ k (cnt_s k hk)
theorem ishl_nI {a k : Nat} (hk : k < 32) (ha : a * 2 ^ k < 2 ^ 32) : ishl (nI a) (nI k) = nI (a * 2 ^ k) := pk_shlN _ k (cnt_s k hk) ha
theorem of32 (x : Int32) : ∃ n, n < 2 ^ 32 ∧ x = nI n := ⟨x.toBitVec.toNat, x.toBitVec.isLt, Int32.toBitVec_inj.mp (by show _ = BitVec.ofNat 32 _; simp)⟩
/-- a number within, or not -/
theorem rng (x : Int32) {n : Nat} (hn : n < 2 ^ 31) : (∃ k, k < n ∧ x = nI k) ∨ x < 0 ∨ nI n ≤ x := by
  rcases pk_ix x hn with h | h | ⟨j, h1, h2⟩
  · exact Or.inr (Or.inl h)
  · exact Or.inr (Or.inr h)
  · exact Or.inl ⟨j, h1, h2⟩
/-! sets of eight -/
def bn (f : Nat → Bool) : Nat := (if f 0 then 1 else 0) + ((if f 1 then 2 else 0) + ((if f 2 then 4 else 0) + ((if f 3 then 8 else 0) + ((if f 4 then 16 else 0) + ((if f 5 then 32 else 0) + ((if f 6 then 64 else 0) + (if f 7 then 128 else 0)))))))
def bs (f : Nat → Bool) : Int32 := nI (bn f)
theorem bn_lt (f : Nat → Bool) : bn f < 256 := by
  unfold bn
  repeat' split
  all_goals omega
theorem bn_of : ∀ s, s < 256 → bn (fun p => s.testBit p) = s := by decide +kernel
theorem bn_congr {f g : Nat → Bool} (h : ∀ p, p < 8 → f p = g p) : bn f = bn g := by
  unfold bn
  rw [h 0 (by decide), h 1 (by decide), h 2 (by decide), h 3 (by decide), h 4 (by decide), h 5 (by decide), h 6 (by decide), h 7 (by decide)]
theorem bn_b : ∀ (b0 b1 b2 b3 b4 b5 b6 b7 : Bool), ∀ p, p < 8 → (bn (fun p => match p with | 0 => b0 | 1 => b1 | 2 => b2 | 3 => b3 | 4 => b4 | 5 => b5 | 6 => b6 | _ => b7)).testBit p = (match p with | 0 => b0 | 1 => b1 | 2 => b2 | 3 => b3 | 4 => b4 | 5 => b5 | 6 => b6 | _ => b7) := by decide +kernel
theorem bn_tb (f : Nat → Bool) {p : Nat} (hp : p < 8) : (bn f).testBit p = f p := by
  have e : ∀ q, q < 8 → f q = (fun p => match p with | 0 => f 0 | 1 => f 1 | 2 => f 2 | 3 => f 3 | 4 => f 4 | 5 => f 5 | 6 => f 6 | _ => f 7) q := by
    intro q hq
    match q, hq with
    | 0, _ => rfl
    | 1, _ => rfl
    | 2, _ => rfl
    | 3, _ => rfl
    | 4, _ => rfl
    | 5, _ => rfl
    | 6, _ => rfl
    | 7, _ => rfl
  rw [bn_congr e, e p hp]
  exact bn_b _ _ _ _ _ _ _ _ p hp
theorem bn_inj {f g : Nat → Bool} (h : bn f = bn g) : ∀ p, p < 8 → f p = g p := fun p hp => by rw [← bn_tb f hp, h, bn_tb g hp]
theorem bn_eq {f : Nat → Bool} {s : Nat} (hs : s < 256) (h : ∀ p, p < 8 → s.testBit p = f p) : s = bn f := by
  rw [← bn_of s hs]
  exact bn_congr h
theorem bs_congr {f g : Nat → Bool} (h : ∀ p, p < 8 → f p = g p) : bs f = bs g := congrArg nI (bn_congr h)
theorem bs_has (f : Nat → Bool) {k : Nat} (hk : k < 8) : iushr (bs f) (nI k) &&& 1 = if f k then 1 else 0 := by
  have : ∀ s, s < 256 → ∀ k, k < 8 → iushr (nI s) (nI k) &&& 1 = if s.testBit k then 1 else 0 := by decide +kernel
  rw [bs, this _ (bn_lt f) k hk, bn_tb f hk]
theorem bs_hasS (f : Nat → Bool) {k : Nat} (hk : k < 8) : ishr (bs f) (nI k) &&& 1 = if f k then 1 else 0 := by
  have : ∀ s, s < 256 → ∀ k, k < 8 → ishr (nI s) (nI k) &&& 1 = if s.testBit k then 1 else 0 := by decide +kernel
  rw [bs, this _ (bn_lt f) k hk, bn_tb f hk]
theorem bs_or (f g : Nat → Bool) : bs f ||| bs g = bs (fun p => f p || g p) := by
  rw [bs, bs, or_nI]
  refine congrArg nI (bn_eq (Nat.or_lt_two_pow (n := 8) (bn_lt f) (bn_lt g)) fun p hp => ?_)
  rw [Nat.testBit_or, bn_tb f hp, bn_tb g hp]
theorem bs_and (f g : Nat → Bool) : bs f &&& bs g = bs (fun p => f p && g p) := by
  rw [bs, bs, and_nI]
  refine congrArg nI (bn_eq (Nat.and_lt_two_pow (n := 8) _ (bn_lt g)) fun p hp => ?_)
  rw [Nat.testBit_and, bn_tb f hp, bn_tb g hp]
theorem bs_one {k : Nat} (hk : k < 8) : ishl 1 (nI k) = bs (fun p => decide (p = k)) := by
  have : ∀ k, k < 8 → ishl 1 (nI k) = bs (fun p => decide (p = k)) := by decide +kernel
  exact this k hk
theorem bs_nm : ∀ s, s < 256 → ∀ t, t < 256 → nI s &&& (nI t ^^^ (-1)) = nI (s &&& (255 ^^^ t)) := by
  intro s hs t ht
  have e : (-1 : Int32) = nI 4294967295 := by decide
  rw [e, xor_nI, and_nI]
  refine congrArg nI (Nat.eq_of_testBit_eq fun i => ?_)
  rw [Nat.testBit_and, Nat.testBit_and, Nat.testBit_xor, Nat.testBit_xor]
  by_cases hi : i < 8
  · have h1 : Nat.testBit 4294967295 i = true := by
      have : ∀ i, i < 8 → Nat.testBit 4294967295 i = true := by decide
      exact this i hi
    have h2 : Nat.testBit 255 i = true := by
      have : ∀ i, i < 8 → Nat.testBit 255 i = true := by decide
      exact this i hi
    rw [h1, h2]
    cases Nat.testBit t i <;> rfl
  · have h3 : s.testBit i = false := Nat.testBit_lt_two_pow (Nat.lt_of_lt_of_le hs (by
      have := Nat.pow_le_pow_right (n := 2) (by decide) (Nat.not_lt.mp hi)
      omega))
    rw [h3]; rfl
theorem bs_andn (f g : Nat → Bool) : bs f &&& (bs g ^^^ (-1)) = bs (fun p => f p && !g p) := by
  rw [bs, bs, bs_nm _ (bn_lt f) _ (bn_lt g)]
  refine congrArg nI (bn_eq (Nat.lt_of_le_of_lt Nat.and_le_left (bn_lt f)) fun p hp => ?_)
  have h2 : Nat.testBit 255 p = true := by
    have : ∀ i, i < 8 → Nat.testBit 255 i = true := by decide
    exact this p hp
  rw [Nat.testBit_and, Nat.testBit_xor, h2, bn_tb f hp, bn_tb g hp]
  cases g p <;> simp
def cnt8 (f : Nat → Bool) : Nat := (if f 0 then 1 else 0) + ((if f 1 then 1 else 0) + ((if f 2 then 1 else 0) + ((if f 3 then 1 else 0) + ((if f 4 then 1 else 0) + ((if f 5 then 1 else 0) + ((if f 6 then 1 else 0) + (if f 7 then 1 else 0)))))))
theorem cnt8_congr {f g : Nat → Bool} (h : ∀ p, p < 8 → f p = g p) : cnt8 f = cnt8 g := by
  unfold cnt8
  rw [h 0 (by decide), h 1 (by decide), h 2 (by decide), h 3 (by decide), h 4 (by decide), h 5 (by decide), h 6 (by decide), h 7 (by decide)]
theorem cnt8_le (f : Nat → Bool) : cnt8 f ≤ 8 := by
  unfold cnt8
  repeat' split
  all_goals omega
theorem bitCount_bs (f : Nat → Bool) : f_J6_bitCount_0f7a4 (bs f) = some (nI (cnt8 f)) := by
  have : ∀ s, s < 256 → f_J6_bitCount_0f7a4 (nI s) = some (nI (cnt8 (fun p => s.testBit p))) := by
    simp only [f_J6_bitCount_0f7a4, lb_e, Option.some.injEq]
    decide +kernel
  rw [bs, this _ (bn_lt f)]
  exact congrArg (fun z => some (nI z)) (cnt8_congr fun p hp => bn_tb f hp)
theorem bs_zero : (0 : Int32) = bs (fun _ => false) := by decide
theorem bs_inj {f g : Nat → Bool} : bs f = bs g ↔ ∀ p, p < 8 → f p = g p := by
  refine ⟨fun h => bn_inj ?_, bs_congr⟩
  exact (nI_eq (Nat.lt_trans (bn_lt f) (by decide)) (Nat.lt_trans (bn_lt g) (by decide))).mp h
theorem bs_in (c : Int32) : (∃ f : Nat → Bool, c = bs f) ∨ c < 0 ∨ nI 256 ≤ c := by
  rcases rng c (n := 256) (by decide) with ⟨k, h1, h2⟩ | h
  · exact Or.inl ⟨fun p => k.testBit p, by rw [h2, bs, bn_of k h1]⟩
  · exact Or.inr h
/-! a fold over the numbers from i on, d of them -/
def fo {σ : Type} (step : Nat → σ → σ) : Nat → Nat → σ → σ
  | 0, _, s => s
  | d + 1, i, s => fo step d (i + 1) (step i s)
theorem fo_congr {σ : Type} {f g : Nat → σ → σ} : ∀ (d i : Nat) (s : σ), (∀ j, i ≤ j → j < i + d → ∀ s, f j s = g j s) → fo f d i s = fo g d i s
  | 0, _, _, _ => rfl
  | d + 1, i, s, h => by
    show fo f d (i + 1) (f i s) = fo g d (i + 1) (g i s)
    rw [h i (Nat.le_refl _) (by omega), fo_congr d (i + 1) _ (fun j h1 h2 => h j (by omega) (by omega))]
theorem fo_add {σ : Type} (f : Nat → σ → σ) : ∀ (a b i : Nat) (s : σ), fo f (a + b) i s = fo f b (i + a) (fo f a i s)
  | 0, b, i, s => by rw [Nat.zero_add]; rfl
  | a + 1, b, i, s => by
    rw [show a + 1 + b = (a + b) + 1 by omega]
    show fo f (a + b) (i + 1) (f i s) = fo f b (i + (a + 1)) (fo f a (i + 1) (f i s))
    rw [fo_add f a b (i + 1), show i + 1 + a = i + (a + 1) by omega]
theorem fo_id {σ : Type} (f : Nat → σ → σ) : ∀ (d i : Nat) (s : σ), (∀ j, i ≤ j → j < i + d → ∀ s, f j s = s) → fo f d i s = s
  | 0, _, _, _ => rfl
  | d + 1, i, s, h => by
    show fo f d (i + 1) (f i s) = s
    rw [h i (Nat.le_refl _) (by omega), fo_id f d (i + 1) _ (fun j h1 h2 => h j (by omega) (by omega))]
/-- the set of the numbers below n with a property, put together bit by bit -/
theorem fo_set (f : Nat → Bool) : fo (fun p s => if f p then s ||| ishl 1 (nI p) else s) 8 0 0 = bs f := by
  have key : ∀ d i, i + d = 8 → fo (fun p s => if f p then s ||| ishl 1 (nI p) else s) d i (bs (fun p => decide (p < i) && f p)) = bs f := by
    intro d
    induction d with
    | zero =>
      intro i h
      exact bs_congr fun p hp => by simp [show p < i by omega]
    | succ d ih =>
      intro i h
      have e : (fun p s => if f p then s ||| ishl 1 (nI p) else s) i (bs (fun p => decide (p < i) && f p)) = bs (fun p => decide (p < i + 1) && f p) := by
        by_cases hf : f i = true
        · show (if f i then _ else _) = _
          rw [if_pos hf, bs_one (by omega), bs_or]
          refine bs_congr fun p _ => ?_
          by_cases h1 : p = i
          · subst h1; simp [hf]
          · have : (p < i + 1) ↔ p < i := by omega
            simp [h1, this]
        · show (if f i then _ else _) = _
          rw [if_neg hf]
          refine bs_congr fun p _ => ?_
          by_cases h1 : p = i
          · subst h1; simp at hf; simp [hf]
          · have : (p < i + 1) ↔ p < i := by omega
            simp [this]
      show fo _ d (i + 1) _ = _
      rw [e]
      exact ih (i + 1) (by omega)
  have h0 := key 8 0 rfl
  rwa [show bs (fun p => decide (p < 0) && f p) = 0 from by rw [bs_zero]; exact bs_congr fun p _ => by simp] at h0
end
section
/-! closed facts, truth values, the relation between the class's lab and the model's row -/
theorem ib_0 : inb 0 420 = true := by decide
theorem ib_1 : inb 1 420 = true := by decide
theorem ib_2 : inb 2 420 = true := by decide
theorem ib_3 : inb 3 420 = true := by decide
theorem ib_4 : inb 4 420 = true := by decide
theorem ib_5 : inb 5 420 = true := by decide
theorem ib_6 : inb 6 420 = true := by decide
theorem ib_7 : inb 7 420 = true := by decide
theorem ib_8 : inb 8 420 = true := by decide
theorem ib_9 : inb 9 420 = true := by decide
theorem ib_10 : inb 10 420 = true := by decide
theorem ib_11 : inb 11 420 = true := by decide
theorem ib_12 : inb 12 420 = true := by decide
theorem ib_13 : inb 13 420 = true := by decide
theorem ib3_4 : inb 3 4 = true := by decide
theorem ib0_4 : inb 0 4 = true := by decide
theorem cl_0 : (0 : Int32).toNatClampNeg = 0 := by decide
theorem cl_1 : (1 : Int32).toNatClampNeg = 1 := by decide
theorem cl_2 : (2 : Int32).toNatClampNeg = 2 := by decide
theorem cl_3 : (3 : Int32).toNatClampNeg = 3 := by decide
theorem cl_4 : (4 : Int32).toNatClampNeg = 4 := by decide
theorem cl_5 : (5 : Int32).toNatClampNeg = 5 := by decide
theorem cl_6 : (6 : Int32).toNatClampNeg = 6 := by decide
theorem cl_7 : (7 : Int32).toNatClampNeg = 7 := by decide
theorem cl_8 : (8 : Int32).toNatClampNeg = 8 := by decide
theorem cl_9 : (9 : Int32).toNatClampNeg = 9 := by decide
theorem cl_10 : (10 : Int32).toNatClampNeg = 10 := by decide
theorem cl_11 : (11 : Int32).toNatClampNeg = 11 := by decide
theorem cl_12 : (12 : Int32).toNatClampNeg = 12 := by decide
theorem cl_13 : (13 : Int32).toNatClampNeg = 13 := by decide
def b2 (b : Bool) : Int32 := if b = true then 1 else 0
theorem b2_eq0 (b : Bool) : (b2 b = 0) = (b = false) := by cases b <;> simp [b2]
theorem b2_eq1 (b : Bool) : (b2 b = 1) = (b = true) := by cases b <;> simp [b2]
theorem isB_b2 (b : Bool) : isB (b2 b) = true := by cases b <;> rfl
theorem isB_0 : isB 0 = true := by decide
theorem isB_1 : isB 1 = true := by decide
theorem b2_if (b : Bool) : (if b = true then (1 : Int32) else 0) = b2 b := rfl
theorem b2_t : b2 true = 1 := rfl
theorem b2_f : b2 false = 0 := rfl
def wi (x lo hi : Int32) : Bool := !decide (x < lo) && !decide (hi < x)
theorem e_isWithin (x lo hi : Int32) : f_X7_isWithin x lo hi = some (b2 (wi x lo hi)) := by
  simp only [f_X7_isWithin_b15, f_X7_isWithin_b14, f_X7_isWithin, wi]
  by_cases h1 : x < lo
  · simp [h1, isB_0, ck_t, b2]
  · by_cases h2 : hi < x
    · simp [h1, h2, isB_0, ck_t, b2]
    · simp [h1, h2, isB_1, ck_t, b2]
theorem e_in (x lo hi : Int32) : f_X8_in x lo hi = some (b2 (wi x lo hi)) := by
  simp only [f_X8_in_b15, f_X8_in_b14, f_X8_in, wi]
  by_cases h1 : x < lo
  · simp [h1, isB_0, ck_t, b2]
  · by_cases h2 : hi < x
    · simp [h1, h2, isB_0, ck_t, b2]
    · simp [h1, h2, isB_1, ck_t, b2]
theorem e_has (f : Nat → Bool) {k : Nat} (hk : k < 8) : f_X7_has (bs f) (nI k) = some (b2 (f k)) := by
  simp only [f_X7_has_b14, f_X7_has, ob1_s, ob2_s, ck_t, lb_e, bs_has f hk]
  cases f k <;> simp [isB_0, isB_1, ck_t, b2]
/-- x is the number of one of the first m -/
def pers (m : Nat) (x : Int32) : Bool := decide (0 ≤ x.toInt ∧ x.toInt < m)
theorem pers_ex {m : Nat} (hm : m ≤ 8) {x : Int32} (h : pers m x = true) : ∃ k, k < m ∧ x = nI k := by
  simp only [pers, decide_eq_true_eq] at h
  refine ⟨x.toInt.toNat, by omega, ?_⟩
  apply Int32.toInt_inj.mp
  rw [nI_toInt (by omega)]
  omega
theorem pers_nI {m k : Nat} (hk : k < 2 ^ 31) : pers m (nI k) = decide (k < m) := by
  unfold pers
  rw [nI_toInt hk]
  by_cases h : k < m
  · simp [h]
  · simp [h]
theorem e_isPart {m : Nat} (hm : m ≤ 8) {I : St} (h : I 0 3 = nI m) (x : Int32) : f_X4_isParticipant x I = some (b2 (pers m x)) := by
  have z : (0 : Int32).toInt = 0 := by decide
  have z8 : (8 : Int32).toInt = 8 := by decide
  have zm : (nI m).toInt = m := nI_toInt (by omega)
  simp only [f_X4_isParticipant_b23, f_X4_isParticipant_b22, f_X4_isParticipant, h, pers]
  by_cases h1 : x < 0
  · have := Int32.lt_iff_toInt_lt.mp h1
    have e : ¬ (0 ≤ x.toInt ∧ x.toInt < (m : Int)) := by omega
    simp [h1, isB_0, ck_t, b2, e]
  · by_cases h2 : nI m ≤ x
    · have := Int32.le_iff_toInt_le.mp h2
      have e : ¬ (0 ≤ x.toInt ∧ x.toInt < (m : Int)) := by omega
      simp [h1, h2, isB_0, ck_t, b2, e]
    · have g1 : ¬ x.toInt < (0 : Int32).toInt := fun q => h1 (Int32.lt_iff_toInt_lt.mpr q)
      have g2 : ¬ (nI m).toInt ≤ x.toInt := fun q => h2 (Int32.le_iff_toInt_le.mpr q)
      have h3 : ¬ (8 : Int32) ≤ x := fun q => by
        have := Int32.le_iff_toInt_le.mp q
        omega
      have e : (0 ≤ x.toInt ∧ x.toInt < (m : Int)) := by omega
      simp [h1, h2, h3, isB_1, ck_t, b2, e]
theorem e_isPerson {m : Nat} (hm : m ≤ 8) {M : St} (h : M 1 4 = nI m) (x : Int32) : f_X8_isPerson x M = some (b2 (pers m x)) := by
  have z : (0 : Int32).toInt = 0 := by decide
  have zm : (nI m - 1).toInt = (m : Int) - 1 := by
    have := pk_sub_toInt (a := m) (b := 1) (by omega) (by omega)
    exact this
  simp only [f_X8_isPerson, ib_0, ib_1, ib_2, ib_3, ib_4, ib_5, ib_6, ib_7, ib_8, ib_9, ib_10, ib_11, ib_12, ib_13, ib3_4, ib0_4, cl_0, cl_1, cl_2, cl_3, cl_4, cl_5, cl_6, cl_7, cl_8, cl_9, cl_10, cl_11, cl_12, cl_13, ob1_s, ob2_s, ck_t, lb_e, h, e_in, isB_b2]
  refine congrArg (fun z => some (b2 z)) ?_
  unfold wi pers
  by_cases h1 : x < 0
  · have := Int32.lt_iff_toInt_lt.mp h1
    have e : ¬ (0 ≤ x.toInt ∧ x.toInt < (m : Int)) := by omega
    simp [h1, e]
  · have g1 : ¬ x.toInt < (0 : Int32).toInt := fun q => h1 (Int32.lt_iff_toInt_lt.mpr q)
    by_cases h2 : nI m - 1 < x
    · have := Int32.lt_iff_toInt_lt.mp h2
      have e : ¬ (0 ≤ x.toInt ∧ x.toInt < (m : Int)) := by omega
      simp [h2, e]
    · have g2 : ¬ (nI m - 1).toInt < x.toInt := fun q => h2 (Int32.lt_iff_toInt_lt.mpr q)
      have e : (0 ≤ x.toInt ∧ x.toInt < (m : Int)) := by omega
      simp [h1, h2, e]
theorem e_person (p : Nat) : f_X8_person (nI p) = some (nI (20 + 40 * p)) := by
  simp only [f_X8_person, lit_nI, pk_mul, nI_add]
theorem e_mhas {p w : Nat} (hp : p < 8) (hw : w < 40) (M : St) : f_X8_has (nI p) (nI w) M = some (b2 (decide (M 1 (20 + 40 * p + w) = 1))) := by
  have i1 : inb (nI (20 + 40 * p + w)) 420 = true := inb_nI (by omega) (by decide)
  have i2 : (nI (20 + 40 * p + w)).toNatClampNeg = 20 + 40 * p + w := nI_clamp (by omega)
  simp only [f_X8_has_b20, f_X8_has, e_person, ob1_s, ob2_s, ck_t, lb_e, nI_add, i1, i2, isB_0, isB_1]
  by_cases h : M 1 (20 + 40 * p + w) = 1 <;> simp [h, b2]
/-- a flag of one of the first m -/
def fl (m : Nat) (v : Nat → Int32) (w p : Nat) : Bool := decide (p < m) && decide (v (20 + 40 * p + w) = 1)
/-- the model's place of a place of the class's lab -/
def pr (j k : Nat) : Option Nat :=
  if j = 0 then (if k = 3 then some 4 else if k = 4 then some 2 else if k = 5 then some 5 else if k = 6 then some 6 else if k = 7 then some 7 else if k = 8 then some 8 else if k = 9 then some 0 else none)
  else if j = 2 then (if k < 8 then some (20 + 40 * k + 9) else none)
  else if j = 3 then (if k = 0 then some 1 else if k = 1 then some 3 else if k = 2 then some 9 else if k = 3 then some 10 else if k = 4 then some 13 else if k = 5 then some 11 else none)
  else if j = 4 then (if k < 96 then (if k % 6 = 0 then some (340 + 5 * (k / 6)) else if k % 6 = 1 then some (340 + 5 * (k / 6) + 1) else if k % 6 = 2 then some (340 + 5 * (k / 6) + 2) else if k % 6 = 4 then some (340 + 5 * (k / 6) + 3) else if k % 6 = 5 then some (340 + 5 * (k / 6) + 4) else none) else none)
  else if 5 ≤ j ∧ j < 13 then (if k = 0 then some (20 + 40 * (j - 5) + 0) else if k = 1 then some (20 + 40 * (j - 5) + 4) else if k = 2 then some (20 + 40 * (j - 5) + 1) else if k = 3 then some (20 + 40 * (j - 5) + 2) else if k = 4 then some (20 + 40 * (j - 5) + 3) else if k = 5 then some (20 + 40 * (j - 5) + 10) else if k = 6 then some (20 + 40 * (j - 5) + 11) else if k = 7 then some (20 + 40 * (j - 5) + 12) else if k = 8 then some (20 + 40 * (j - 5) + 13) else none)
  else if 13 ≤ j ∧ j < 21 then (if k < 8 then some (20 + 40 * (j - 13) + 22 + k) else none)
  else none
/-- the class's place of a model's place -/
def ip (i : Nat) : Option (Nat × Nat) :=
  if i < 20 then (if i = 0 then some (0, 9) else if i = 1 then some (3, 0) else if i = 2 then some (0, 4) else if i = 3 then some (3, 1) else if i = 4 then some (0, 3) else if i = 5 then some (0, 5) else if i = 6 then some (0, 6) else if i = 7 then some (0, 7) else if i = 8 then some (0, 8) else if i = 9 then some (3, 2) else if i = 10 then some (3, 3) else if i = 11 then some (3, 5) else if i = 13 then some (3, 4) else none)
  else if i < 340 then
    (if (i - 20) % 40 = 0 then some (5 + (i - 20) / 40, 0) else if (i - 20) % 40 = 4 then some (5 + (i - 20) / 40, 1) else if (i - 20) % 40 = 1 then some (5 + (i - 20) / 40, 2) else if (i - 20) % 40 = 2 then some (5 + (i - 20) / 40, 3) else if (i - 20) % 40 = 3 then some (5 + (i - 20) / 40, 4) else if (i - 20) % 40 = 10 then some (5 + (i - 20) / 40, 5) else if (i - 20) % 40 = 11 then some (5 + (i - 20) / 40, 6) else if (i - 20) % 40 = 12 then some (5 + (i - 20) / 40, 7) else if (i - 20) % 40 = 13 then some (5 + (i - 20) / 40, 8) else if (i - 20) % 40 = 9 then some (2, (i - 20) / 40) else if 22 ≤ (i - 20) % 40 ∧ (i - 20) % 40 < 30 then some (13 + (i - 20) / 40, (i - 20) % 40 - 22) else none)
  else if i < 420 then (if (i - 340) % 5 = 0 then some (4, 6 * ((i - 340) / 5)) else if (i - 340) % 5 = 1 then some (4, 6 * ((i - 340) / 5) + 1) else if (i - 340) % 5 = 2 then some (4, 6 * ((i - 340) / 5) + 2) else if (i - 340) % 5 = 3 then some (4, 6 * ((i - 340) / 5) + 4) else some (4, 6 * ((i - 340) / 5) + 5))
  else none
theorem pr_ip_all : ∀ j, j < 29 → ∀ k, k < 96 → (match pr j k with | none => true | some i => decide (i < 420) && decide (ip i = some (j, k))) = true := by decide +kernel
theorem pr_out {j k : Nat} (h : 29 ≤ j ∨ 96 ≤ k) : pr j k = none := by
  rcases h with h | h
  · unfold pr
    rw [if_neg (by omega), if_neg (by omega), if_neg (by omega), if_neg (by omega), if_neg (by omega), if_neg (by omega)]
  · unfold pr
    simp [show ¬ k = 0 by omega, show ¬ k = 1 by omega, show ¬ k = 2 by omega, show ¬ k = 3 by omega, show ¬ k = 4 by omega, show ¬ k = 5 by omega, show ¬ k = 6 by omega, show ¬ k = 7 by omega, show ¬ k = 8 by omega, show ¬ k = 9 by omega, show ¬ k < 8 by omega, show ¬ k < 96 by omega]
theorem pr_dom {j k i : Nat} (h : pr j k = some i) : j < 29 ∧ k < 96 := by
  refine ⟨Nat.lt_of_not_le fun q => ?_, Nat.lt_of_not_le fun q => ?_⟩
  · rw [pr_out (Or.inl q)] at h; cases h
  · rw [pr_out (Or.inr q)] at h; cases h
theorem pr_ip {j k i : Nat} (h : pr j k = some i) : i < 420 ∧ ip i = some (j, k) := by
  obtain ⟨h1, h2⟩ := pr_dom h
  have := pr_ip_all j h1 k h2
  rw [h] at this
  simpa using this
def LE (L : St) (v : Nat → Int32) : Prop := ∀ j k i, pr j k = some i → L j k = v i
theorem LE_set {L : St} {v : Nat → Int32} (h : LE L v) {j k i : Nat} (hp : pr j k = some i) (x : Int32) : LE (u2 L j k x) (upd v i x) := by
  intro j' k' i' h'
  rw [u2_ap, upd_ap]
  have e1 := (pr_ip hp).2
  have e2 := (pr_ip h').2
  by_cases hi : i' = i
  · subst hi
    rw [e1] at e2
    cases e2
    simp
  · rw [if_neg hi]
    by_cases hj : j' = j
    · rw [if_pos hj]
      by_cases hk : k' = k
      · subst hj; subst hk
        rw [hp] at h'
        cases h'
        exact absurd rfl hi
      · rw [if_neg hk]
        subst hj
        exact h _ _ _ h'
    · rw [if_neg hj]
      exact h _ _ _ h'
theorem LE_cls {L : St} {v : Nat → Int32} (h : LE L v) {j k : Nat} (hp : pr j k = none) (x : Int32) : LE (u2 L j k x) v := by
  intro j' k' i' h'
  rw [u2_ap]
  by_cases hj : j' = j
  · rw [if_pos hj]
    by_cases hk : k' = k
    · subst hj; subst hk
      rw [hp] at h'
      cases h'
    · rw [if_neg hk]
      subst hj
      exact h _ _ _ h'
  · rw [if_neg hj]
    exact h _ _ _ h'
theorem LE_mod {L : St} {v : Nat → Int32} (h : LE L v) {i : Nat} (hp : ip i = none) (x : Int32) : LE L (upd v i x) := by
  intro j' k' i' h'
  rw [upd_ap]
  by_cases hi : i' = i
  · subst hi
    rw [(pr_ip h').2] at hp
    cases hp
  · rw [if_neg hi]
    exact h _ _ _ h'
theorem LE_far {L L' : St} {v : Nat → Int32} (h : LE L v) (hL : ∀ o, o < 29 → L' o = L o) : LE L' v := fun j k i hp => by rw [hL j (pr_dom hp).1]; exact h j k i hp
theorem prS (s : Nat) (h : s < 16) : pr 4 (6 * s) = some (340 + 5 * s) ∧ pr 4 (6 * s + 1) = some (340 + 5 * s + 1) ∧ pr 4 (6 * s + 2) = some (340 + 5 * s + 2) ∧ pr 4 (6 * s + 3) = none ∧ pr 4 (6 * s + 4) = some (340 + 5 * s + 3) ∧ pr 4 (6 * s + 5) = some (340 + 5 * s + 4) := by
  have : ∀ s, s < 16 → pr 4 (6 * s) = some (340 + 5 * s) ∧ pr 4 (6 * s + 1) = some (340 + 5 * s + 1) ∧ pr 4 (6 * s + 2) = some (340 + 5 * s + 2) ∧ pr 4 (6 * s + 3) = none ∧ pr 4 (6 * s + 4) = some (340 + 5 * s + 3) ∧ pr 4 (6 * s + 5) = some (340 + 5 * s + 4) := by decide
  exact this s h
theorem prP (p : Nat) (h : p < 8) : pr (5 + p) 0 = some (20 + 40 * p + 0) ∧ pr (5 + p) 1 = some (20 + 40 * p + 4) ∧ pr (5 + p) 2 = some (20 + 40 * p + 1) ∧ pr (5 + p) 3 = some (20 + 40 * p + 2) ∧ pr (5 + p) 4 = some (20 + 40 * p + 3) ∧ pr (5 + p) 5 = some (20 + 40 * p + 10) ∧ pr (5 + p) 6 = some (20 + 40 * p + 11) ∧ pr (5 + p) 7 = some (20 + 40 * p + 12) ∧ pr (5 + p) 8 = some (20 + 40 * p + 13) ∧ pr (5 + p) 9 = none ∧ pr 2 p = some (20 + 40 * p + 9) := by
  have : ∀ p, p < 8 → pr (5 + p) 0 = some (20 + 40 * p + 0) ∧ pr (5 + p) 1 = some (20 + 40 * p + 4) ∧ pr (5 + p) 2 = some (20 + 40 * p + 1) ∧ pr (5 + p) 3 = some (20 + 40 * p + 2) ∧ pr (5 + p) 4 = some (20 + 40 * p + 3) ∧ pr (5 + p) 5 = some (20 + 40 * p + 10) ∧ pr (5 + p) 6 = some (20 + 40 * p + 11) ∧ pr (5 + p) 7 = some (20 + 40 * p + 12) ∧ pr (5 + p) 8 = some (20 + 40 * p + 13) ∧ pr (5 + p) 9 = none ∧ pr 2 p = some (20 + 40 * p + 9) := by decide
  exact this p h
theorem prSh (p j : Nat) (h : p < 8) (hj : j < 8) : pr (5 + p + 8) j = some (20 + 40 * p + 22 + j) := by
  have : ∀ p, p < 8 → ∀ j, j < 8 → pr (5 + p + 8) j = some (20 + 40 * p + 22 + j) := by decide
  exact this p h j hj
/-- the polynomial by Horner's rule, from the highest of d coefficients down -/
def hq (c : Nat → Nat) (x : Nat) : Nat → Nat → Nat
  | 0, s => s
  | d + 1, s => hq c x d ((s * x + c d) % 1019)
def co (v : Nat → Int32) (p k : Nat) : Nat := (v (20 + 40 * p + 14 + k)).toNatClampNeg
/-- share j of p is what the polynomial says -/
def gd (t : Nat) (v : Nat → Int32) (p j : Nat) : Bool := decide (v (20 + 40 * p + 22 + j) = nI (hq (co v p) (j + 1) t 0))
/-- what has been dealt by p -/
def DL (t : Nat) (L : St) (v : Nat → Int32) (p : Nat) : Prop :=
  (∀ k, k < t → ∃ c, c < 1019 ∧ v (20 + 40 * p + 14 + k) = nI c ∧ L (5 + p + 16) k = nI (4 ^ c % 2039)) ∧ (∀ j, j < 8 → ∃ s, s < 1019 ∧ v (20 + 40 * p + 22 + j) = nI s) ∧ L (5 + p) 9 = bs (gd t v p)
/-- the round that is going on -/
def RP (m t : Nat) (L : St) (v : Nat → Int32) : Prop :=
  L 0 10 = bs (fl m v 5) ∧ L 0 11 = bs (fun p => fl m v 5 p && fl m v 6 p) ∧ L 0 12 = bs (fun p => fl m v 5 p && fl m v 7 p) ∧ L 0 13 = bs (fl m v 8) ∧ (v 0 = 1 → ∀ p, p < 8 → fl m v 7 p = false) ∧ (v 0 = 2 → ∀ p, p < 8 → fl m v 5 p = true → fl m v 6 p = true) ∧ (v 5 = 1 → ∀ p, p < 8 → fl m v 5 p = true → fl m v 6 p = true → DL t L v p)
/-- bounds -/
def WV (m e t n : Nat) (v : Nat → Int32) : Prop :=
  m ≤ 8 ∧ v 4 = nI m ∧ e ≤ n ∧ v 1 = nI e ∧ 1 ≤ t ∧ t ≤ 8 ∧ v 6 = nI t ∧ (v 0 = 0 ∨ v 0 = 1 ∨ v 0 = 2) ∧ (v 5 = 0 ∨ v 5 = 1 ∨ v 5 = 2) ∧ (∃ d, d ≤ 5000 ∧ v 8 = nI d) ∧ (∃ r, r ≤ e ∧ v 11 = nI r)
/-- the class's entries that the model works out -/
def UN (L : St) (v : Nat → Int32) : Prop := ∀ s, s < 16 → ∃ f : Nat → Bool, v (340 + 5 * s + 1) = bs f ∧ L 4 (6 * s + 3) = if v (340 + 5 * s) = -5 then 0 else nI (cnt8 f) - v (340 + 5 * s + 2)
def LR (n : Nat) (L : St) (v : Nat → Int32) : Prop := ∃ m e t, LE L v ∧ WV m e t n v ∧ UN L v ∧ (v 11 = 0 ∨ L 3 6 = v 12) ∧ (v 0 ≠ 0 → RP m t L v)
end
section
/-! copying a lab, slot by slot -/
def cpS (o0 o1 : Nat) (I0 : St) (S : Nat → Nat → Bool) : St := fun o k => if o0 ≤ o ∧ o < o0 + 29 ∧ S (o - o0) k = true then I0 (o1 + (o - o0)) k else I0 o k
def ad1 (S : Nat → Nat → Bool) (j k : Nat) : Nat → Nat → Bool := fun j' k' => S j' k' || (decide (j' = j) && decide (k' = k))
def adn (S : Nat → Nat → Bool) (j n : Nat) : Nat → Nat → Bool := fun j' k' => S j' k' || (decide (j' = j) && decide (k' < n))
theorem cp_src {o0 o1 : Nat} (hd : o1 + 29 ≤ o0 ∨ o0 + 29 ≤ o1) (I0 : St) (S : Nat → Nat → Bool) {j : Nat} (hj : j < 29) : cpS o0 o1 I0 S (o1 + j) = I0 (o1 + j) := by
  funext k
  exact if_neg (by omega)
theorem cp_1 {o0 o1 : Nat} (hd : o1 + 29 ≤ o0 ∨ o0 + 29 ≤ o1) (I0 : St) (S : Nat → Nat → Bool) {j : Nat} (hj : j < 29) (k : Nat) : u2 (cpS o0 o1 I0 S) (o0 + j) k (cpS o0 o1 I0 S (o1 + j) k) = cpS o0 o1 I0 (ad1 S j k) := by
  rw [cp_src hd I0 S hj]
  funext o' k'
  rw [u2_ap]
  by_cases h1 : o' = o0 + j
  · subst h1
    rw [if_pos rfl]
    have e : o0 + j - o0 = j := by omega
    by_cases h2 : k' = k
    · subst h2
      rw [if_pos rfl]
      unfold cpS ad1
      rw [if_pos (by rw [e]; exact ⟨by omega, by omega, by simp⟩), e]
    · rw [if_neg h2]
      unfold cpS ad1
      simp [h2]
  · rw [if_neg h1]
    unfold cpS ad1
    by_cases h3 : o0 ≤ o'
    · have : ¬ o' - o0 = j := by omega
      simp [this]
    · simp [h3]
theorem cp_n {o0 o1 : Nat} (hd : o1 + 29 ≤ o0 ∨ o0 + 29 ≤ o1) (I0 : St) (S : Nat → Nat → Bool) {j : Nat} (hj : j < 29) (n : Nat) : ur (cpS o0 o1 I0 S) (o0 + j) (va_cpy (cpS o0 o1 I0 S (o1 + j)) (cpS o0 o1 I0 S (o0 + j)) 0 0 n) = cpS o0 o1 I0 (adn S j n) := by
  rw [cp_src hd I0 S hj]
  funext o' k'
  rw [ur_ap]
  by_cases h1 : o' = o0 + j
  · subst h1
    rw [if_pos rfl]
    have e : o0 + j - o0 = j := by omega
    by_cases h2 : k' < n
    · rw [pk_cpy_in (Nat.zero_le _) (by omega)]
      unfold cpS adn
      rw [if_pos (by rw [e]; exact ⟨by omega, by omega, by simp [h2]⟩), e]
      simp
    · rw [pk_cpy_out (Or.inr (by omega))]
      unfold cpS adn
      simp [h2]
  · rw [if_neg h1]
    unfold cpS adn
    by_cases h3 : o0 ≤ o'
    · have : ¬ o' - o0 = j := by omega
      simp [this]
    · simp [h3]
def padd (p : Nat) (S : Nat → Nat → Bool) : Nat → Nat → Bool :=
  adn (adn (ad1 (ad1 (ad1 (ad1 (ad1 (ad1 (ad1 (ad1 (ad1 (ad1 S (5 + p) 0) (5 + p) 1) (5 + p) 2) (5 + p) 3) (5 + p) 4) (5 + p) 5) (5 + p) 6) (5 + p) 7) (5 + p) 8) (5 + p) 9) (5 + p + 8) 8) (5 + p + 16) 8
theorem e_pcopy {b0 b1 : Nat} (h0 : b0 < 5) (h1 : b1 < 5) (hne : b0 ≠ b1) (I0 : St) (S : Nat → Nat → Bool) {p : Nat} (hp : p < 8) : f_X5_copy (29 * b0 + 5 + p) (29 * b1 + 5 + p) (cpS (29 * b0) (29 * b1) I0 S) = some (cpS (29 * b0) (29 * b1) I0 (padd p S)) := by
  have hd : 29 * b1 + 29 ≤ 29 * b0 ∨ 29 * b0 + 29 ≤ 29 * b1 := by omega
  have l0 : isL (29 * b0) = true := by have : ∀ n, n < 5 → isL (29 * n) = true := by decide
                                       exact this b0 h0
  have l1 : isL (29 * b1) = true := by have : ∀ n, n < 5 → isL (29 * n) = true := by decide
                                       exact this b1 h1
  have p0 := isL_P l0 hp
  have p1 := isL_P l1 hp
  have r0 : ∀ S k, u2 (cpS (29 * b0) (29 * b1) I0 S) (29 * b0 + 5 + p) k (cpS (29 * b0) (29 * b1) I0 S (29 * b1 + 5 + p) k) = cpS (29 * b0) (29 * b1) I0 (ad1 S (5 + p) k) := fun S k => by
    rw [Nat.add_assoc, Nat.add_assoc]
    exact cp_1 hd I0 S (by omega) k
  have r8 : ∀ S, ur (cpS (29 * b0) (29 * b1) I0 S) (29 * b0 + 5 + p + 8) (va_cpy (cpS (29 * b0) (29 * b1) I0 S (29 * b1 + 5 + p + 8)) (cpS (29 * b0) (29 * b1) I0 S (29 * b0 + 5 + p + 8)) 0 0 8) = cpS (29 * b0) (29 * b1) I0 (adn S (5 + p + 8) 8) := fun S => by
    have := cp_n hd I0 S (j := 5 + p + 8) (by omega) 8
    rwa [show 29 * b0 + (5 + p + 8) = 29 * b0 + 5 + p + 8 by omega, show 29 * b1 + (5 + p + 8) = 29 * b1 + 5 + p + 8 by omega] at this
  have r16 : ∀ S, ur (cpS (29 * b0) (29 * b1) I0 S) (29 * b0 + 5 + p + 16) (va_cpy (cpS (29 * b0) (29 * b1) I0 S (29 * b1 + 5 + p + 16)) (cpS (29 * b0) (29 * b1) I0 S (29 * b0 + 5 + p + 16)) 0 0 8) = cpS (29 * b0) (29 * b1) I0 (adn S (5 + p + 16) 8) := fun S => by
    have := cp_n hd I0 S (j := 5 + p + 16) (by omega) 8
    rwa [show 29 * b0 + (5 + p + 16) = 29 * b0 + 5 + p + 16 by omega, show 29 * b1 + (5 + p + 16) = 29 * b1 + 5 + p + 16 by omega] at this
  simp only [f_X5_copy, p0, p1, ob1_s, ob2_s, ck_t, lb_e, r0, r8, r16]
  rfl
def cadd (S : Nat → Nat → Bool) : Nat → Nat → Bool :=
  adn (ad1 (ad1 (ad1 (ad1 (ad1 (ad1 (ad1 S 3 0) 3 1) 3 2) 3 3) 3 4) 3 5) 3 6) 4 96
theorem e_ccopy {b0 b1 : Nat} (h0 : b0 < 5) (h1 : b1 < 5) (hne : b0 ≠ b1) (I0 : St) (S : Nat → Nat → Bool) : f_X0_copy (29 * b0 + 3) (29 * b1 + 3) (cpS (29 * b0) (29 * b1) I0 S) = some (cpS (29 * b0) (29 * b1) I0 (cadd S)) := by
  have hd : 29 * b1 + 29 ≤ 29 * b0 ∨ 29 * b0 + 29 ≤ 29 * b1 := by omega
  have l0 : isL (29 * b0) = true := by have : ∀ n, n < 5 → isL (29 * n) = true := by decide
                                       exact this b0 h0
  have l1 : isL (29 * b1) = true := by have : ∀ n, n < 5 → isL (29 * n) = true := by decide
                                       exact this b1 h1
  have p0 := isL_C l0
  have p1 := isL_C l1
  have r0 : ∀ S k, u2 (cpS (29 * b0) (29 * b1) I0 S) (29 * b0 + 3) k (cpS (29 * b0) (29 * b1) I0 S (29 * b1 + 3) k) = cpS (29 * b0) (29 * b1) I0 (ad1 S 3 k) := fun S k => cp_1 hd I0 S (by omega) k
  have r8 : ∀ S, ur (cpS (29 * b0) (29 * b1) I0 S) (29 * b0 + 3 + 1) (va_cpy (cpS (29 * b0) (29 * b1) I0 S (29 * b1 + 3 + 1)) (cpS (29 * b0) (29 * b1) I0 S (29 * b0 + 3 + 1)) 0 0 96) = cpS (29 * b0) (29 * b1) I0 (adn S 4 96) := fun S => by
    exact cp_n hd I0 S (j := 4) (by omega) 96
  simp only [f_X0_copy, p0, p1, ob1_s, ob2_s, ck_t, lb_e, r0, r8]
  rfl
def ladd (S : Nat → Nat → Bool) : Nat → Nat → Bool :=
  ad1 (ad1 (ad1 (ad1 (ad1 (ad1 (ad1 (ad1 (ad1 (ad1 (ad1 (cadd (adn S 2 8)) 0 3) 0 4) 0 5) 0 6) 0 7) 0 8) 0 9) 0 10) 0 11) 0 12) 0 13
theorem e_lcopy {b0 b1 : Nat} (h0 : b0 < 5) (h1 : b1 < 5) (hne : b0 ≠ b1) (I0 : St) : ∀ (d i F : Nat) (S : Nat → Nat → Bool), i + d = 8 → d < F → f_X4_copy_l2 (29 * b0) (29 * b1) F (nI i) (cpS (29 * b0) (29 * b1) I0 S) = some (cpS (29 * b0) (29 * b1) I0 (ladd (fo padd d i S))) := by
  have hd : 29 * b1 + 29 ≤ 29 * b0 ∨ 29 * b0 + 29 ≤ 29 * b1 := by omega
  intro d
  induction d with
  | zero =>
    intro i F S hi hF
    obtain ⟨F, rfl⟩ : ∃ g, F = g + 1 := ⟨F - 1, by omega⟩
    have e8 : (8 : Int32) ≤ nI i := by
      rw [show (8 : Int32) = nI 8 from rfl]
      exact nI_le (by omega) (by omega)
    have r0 : ∀ S k, u2 (cpS (29 * b0) (29 * b1) I0 S) (29 * b0) k (cpS (29 * b0) (29 * b1) I0 S (29 * b1) k) = cpS (29 * b0) (29 * b1) I0 (ad1 S 0 k) := fun S k => cp_1 hd I0 S (j := 0) (by omega) k
    have r2 : ∀ S, ur (cpS (29 * b0) (29 * b1) I0 S) (29 * b0 + 2) (va_cpy (cpS (29 * b0) (29 * b1) I0 S (29 * b1 + 2)) (cpS (29 * b0) (29 * b1) I0 S (29 * b0 + 2)) 0 0 8) = cpS (29 * b0) (29 * b1) I0 (adn S 2 8) := fun S => cp_n hd I0 S (j := 2) (by omega) 8
    rw [f_X4_copy_l2, if_pos e8]
    simp only [ob1_s, ob2_s, ck_t, lb_e, r2, e_ccopy h0 h1 hne, r0]
    rfl
  | succ d ih =>
    intro i F S hi hF
    obtain ⟨F, rfl⟩ : ∃ g, F = g + 1 := ⟨F - 1, by omega⟩
    have e8 : ¬ (8 : Int32) ≤ nI i := by
      rw [show (8 : Int32) = nI 8 from rfl]
      exact nI_ge (by omega) (by omega)
    have i8 : inb (nI i) 8 = true := inb_nI (by omega) (by decide)
    rw [f_X4_copy_l2, if_neg e8]
    simp only [i8, ob1_s, ob2_s, ck_t, lb_e, nI_clamp (n := i) (by omega), e_pcopy h0 h1 hne I0 S (p := i) (by omega), nI_1]
    rw [ih (i + 1) F _ (by omega) (by omega)]
    rfl
/-- the slots that count -/
def kv (j k : Nat) : Bool := if j = 0 then decide (3 ≤ k) && decide (k < 14) else if j = 1 then false else if j = 2 then decide (k < 8) else if j = 3 then decide (k < 7) else if j = 4 then decide (k < 96) else if j < 13 then decide (k < 10) else decide (j < 29) && decide (k < 8)
theorem kv_all : ∀ j, j < 29 → ∀ k, k < 96 → kv j k = true → ladd (fo padd 8 0 (fun _ _ => false)) j k = true := by decide +kernel
theorem kv_lt {j k : Nat} (h : kv j k = true) : j < 29 ∧ k < 96 := by
  unfold kv at h
  repeat' split at h
  all_goals simp at h
  all_goals omega
theorem e_copy {b0 b1 : Nat} (h0 : b0 < 5) (h1 : b1 < 5) (hne : b0 ≠ b1) (I : St) : ∃ I', f_X4_copy (29 * b0) (29 * b1) I = some I' ∧ (∀ j k, kv j k = true → I' (29 * b0 + j) k = I (29 * b1 + j) k) ∧ (∀ o, (o < 29 * b0 ∨ 29 * b0 + 29 ≤ o) → I' o = I o) := by
  have l0 : isL (29 * b0) = true := by have : ∀ n, n < 5 → isL (29 * n) = true := by decide
                                       exact this b0 h0
  have l1 : isL (29 * b1) = true := by have : ∀ n, n < 5 → isL (29 * n) = true := by decide
                                       exact this b1 h1
  have e0 : cpS (29 * b0) (29 * b1) I (fun _ _ => false) = I := by
    funext o k
    simp [cpS]
  have h := e_lcopy h0 h1 hne I 8 0 10000 (fun _ _ => false) rfl (by decide)
  rw [e0] at h
  refine ⟨_, by simp only [f_X4_copy, l0, l1, ck_t]; exact h, fun j k hk => ?_, fun o ho => ?_⟩
  · obtain ⟨hj, hk2⟩ := kv_lt hk
    have e : 29 * b0 + j - 29 * b0 = j := by omega
    unfold cpS
    rw [if_pos (by rw [e]; exact ⟨by omega, by omega, kv_all j hj k hk2 hk⟩), e]
  · funext k
    unfold cpS
    exact if_neg (by omega)
/-! the relation looks at no other slots -/
theorem pr_kv {j k i : Nat} (h : pr j k = some i) : kv j k = true := by
  have : ∀ j, j < 29 → ∀ k, k < 96 → (match pr j k with | none => true | some _ => kv j k) = true := by decide +kernel
  obtain ⟨h1, h2⟩ := pr_dom h
  have := this j h1 k h2
  rw [h] at this
  exact this
theorem hq_congr {c c' : Nat → Nat} (x : Nat) : ∀ (d s : Nat), (∀ k, k < d → c' k = c k) → hq c' x d s = hq c x d s := by
  intro d
  induction d with
  | zero => intro s _; rfl
  | succ d ih =>
    intro s h
    unfold hq
    rw [h d (by omega)]
    exact ih _ (fun k hk => h k (by omega))
theorem gd_congr {t : Nat} (ht : t ≤ 8) {v v' : Nat → Int32} {p j : Nat} (hj : j < 8) (h : ∀ k, 14 ≤ k → k < 30 → v' (20 + 40 * p + k) = v (20 + 40 * p + k)) : gd t v' p j = gd t v p j := by
  have e1 : v' (20 + 40 * p + 22 + j) = v (20 + 40 * p + 22 + j) := by
    have := h (22 + j) (by omega) (by omega)
    rwa [← Nat.add_assoc] at this
  have e2 : hq (co v' p) (j + 1) t 0 = hq (co v p) (j + 1) t 0 := hq_congr _ _ _ (fun k hk => by
    have := h (14 + k) (by omega) (by omega)
    rw [← Nat.add_assoc] at this
    exact congrArg Int32.toNatClampNeg this)
  unfold gd
  rw [e1, e2]
theorem DL_congr {t : Nat} {L L' : St} {v v' : Nat → Int32} {p : Nat} (hp : p < 8) (ht : t ≤ 8) (hL : ∀ j k, kv j k = true → L' j k = L j k) (hv : ∀ i, i < 420 → v' i = v i) (h : DL t L v p) : DL t L' v' p := by
  obtain ⟨h1, h2, h3⟩ := h
  have k1 : ∀ k, k < t → L' (5 + p + 16) k = L (5 + p + 16) k := fun k hk => hL _ _ (by
    have : ∀ p, p < 8 → ∀ k, k < 8 → kv (5 + p + 16) k = true := by decide
    exact this p hp k (by omega))
  have k2 : L' (5 + p) 9 = L (5 + p) 9 := hL _ _ (by
    have : ∀ p, p < 8 → kv (5 + p) 9 = true := by decide
    exact this p hp)
  have ec : ∀ k, k < 8 → v' (20 + 40 * p + 14 + k) = v (20 + 40 * p + 14 + k) := fun k hk => hv _ (by omega)
  have es : ∀ k, k < 8 → v' (20 + 40 * p + 22 + k) = v (20 + 40 * p + 22 + k) := fun k hk => hv _ (by omega)
  refine ⟨fun k hk => ?_, fun j hj => ?_, ?_⟩
  · obtain ⟨c, c1, c2, c3⟩ := h1 k hk
    exact ⟨c, c1, by rw [ec k (by omega)]; exact c2, by rw [k1 k hk]; exact c3⟩
  · obtain ⟨s, s1, s2⟩ := h2 j hj
    exact ⟨s, s1, by rw [es j hj]; exact s2⟩
  · rw [k2, h3]
    exact bs_congr fun j hj => (gd_congr ht hj (fun k _ _ => hv _ (by omega))).symm
theorem fl_congr {m : Nat} (hm : m ≤ 8) {v v' : Nat → Int32} (hv : ∀ i, i < 420 → v' i = v i) {w : Nat} (hw : w < 40) (p : Nat) : fl m v' w p = fl m v w p := by
  unfold fl
  by_cases h : p < m
  · rw [hv _ (by omega)]
  · simp [h]
theorem LR_congr {n : Nat} {L L' : St} {v v' : Nat → Int32} (hL : ∀ j k, kv j k = true → L' j k = L j k) (hv : ∀ i, i < 420 → v' i = v i) (h : LR n L v) : LR n L' v' := by
  obtain ⟨m, e, t, h1, h2, h3, h4, h5⟩ := h
  obtain ⟨w1, w2, w3, w4, w5, w6, w7, w8, w9, w10, w11⟩ := id h2
  refine ⟨m, e, t, fun j k i hp => ?_, ?_, fun s hs => ?_, ?_, fun hph => ?_⟩
  · rw [hL j k (pr_kv hp), hv i (pr_ip hp).1]
    exact h1 j k i hp
  · unfold WV
    rw [hv 4 (by decide), hv 1 (by decide), hv 6 (by decide), hv 0 (by decide), hv 5 (by decide), hv 8 (by decide), hv 11 (by decide)]
    exact h2
  · obtain ⟨f, f1, f2⟩ := h3 s hs
    refine ⟨f, by rw [hv _ (by omega)]; exact f1, ?_⟩
    rw [hL 4 (6 * s + 3) (by
      have : ∀ s, s < 16 → kv 4 (6 * s + 3) = true := by decide
      exact this s hs), hv _ (by omega), hv _ (by omega)]
    exact f2
  · rw [hv 11 (by decide), hv 12 (by decide), hL 3 6 (by decide)]
    exact h4
  · rw [hv 0 (by decide)] at hph
    obtain ⟨r1, r2, r3, r4, r5, r6, r7⟩ := h5 hph
    have e5 := fl_congr w1 hv (w := 5) (by decide)
    have e6 := fl_congr w1 hv (w := 6) (by decide)
    have e7 := fl_congr w1 hv (w := 7) (by decide)
    have e8 := fl_congr w1 hv (w := 8) (by decide)
    refine ⟨?_, ?_, ?_, ?_, ?_, ?_, ?_⟩
    · rw [hL 0 10 (by decide), r1]; exact bs_congr fun p _ => (e5 p).symm
    · rw [hL 0 11 (by decide), r2]; exact bs_congr fun p _ => by rw [e5, e6]
    · rw [hL 0 12 (by decide), r3]; exact bs_congr fun p _ => by rw [e5, e7]
    · rw [hL 0 13 (by decide), r4]; exact bs_congr fun p _ => (e8 p).symm
    · rw [hv 0 (by decide)]; intro q p hp; rw [e7]; exact r5 q p hp
    · rw [hv 0 (by decide)]; intro q p hp; rw [e5, e6]; exact r6 q p hp
    · rw [hv 5 (by decide)]; intro q p hp; rw [e5, e6]; exact fun a b => DL_congr hp w6 hL hv (r7 q p hp a b)
theorem LR_mono {n n' : Nat} {L : St} {v : Nat → Int32} (h : LR n L v) (hn : n ≤ n') : LR n' L v := by
  obtain ⟨m, e, t, h1, ⟨w1, w2, w3, w4⟩, h3⟩ := h
  exact ⟨m, e, t, h1, ⟨w1, w2, Nat.le_trans w3 hn, w4⟩, h3⟩
end
