-- ===== PART A: goes FIRST, ahead of the names: the tables' words, and 'selects' of the private methods out of them =====
/-- a private method of a class that the tables say can be made, by its rows of tables_1 -/
def lw_okq (q : MethodName × Nat) : Prop := (q.1.cls ≠ "java/lang/invoke/MethodHandle" ∧ q.1.cls ≠ "java/lang/invoke/VarHandle") ∧ Cond.instantiable q.1.cls q.2 ∈ tables_1 ∧ Cond.privateMethod q.1 ∈ tables_1 ∧ Cond.instanceMethod q.1 ∈ tables_1
theorem lw_p0 : lw_okq (⟨"OwnerlessCoin$History", "dropOldest", "()V"⟩, 2) := ⟨⟨by decide +kernel, by decide +kernel⟩, List.mem_of_getElem? (i := 198) (by decide +kernel), List.mem_of_getElem? (i := 259) (by decide +kernel), List.mem_of_getElem? (i := 260) (by decide +kernel)⟩
theorem lw_p1 : lw_okq (⟨"OwnerlessCoin", "settingError", "(III)I"⟩, 3) := ⟨⟨by decide +kernel, by decide +kernel⟩, List.mem_of_getElem? (i := 14) (by decide +kernel), List.mem_of_getElem? (i := 296) (by decide +kernel), List.mem_of_getElem? (i := 297) (by decide +kernel)⟩
theorem lw_p2 : lw_okq (⟨"OwnerlessCoin$Lab", "ableToPay", "()I"⟩, 14) := ⟨⟨by decide +kernel, by decide +kernel⟩, List.mem_of_getElem? (i := 22) (by decide +kernel), List.mem_of_getElem? (i := 320) (by decide +kernel), List.mem_of_getElem? (i := 321) (by decide +kernel)⟩
theorem lw_p3 : lw_okq (⟨"OwnerlessCoin$Person", "provenPower", "(II)I"⟩, 12) := ⟨⟨by decide +kernel, by decide +kernel⟩, List.mem_of_getElem? (i := 68) (by decide +kernel), List.mem_of_getElem? (i := 406) (by decide +kernel), List.mem_of_getElem? (i := 407) (by decide +kernel)⟩
theorem lw_p4 : lw_okq (⟨"OwnerlessCoin$Chronicle", "put", "(IIIIII)V"⟩, 8) := ⟨⟨by decide +kernel, by decide +kernel⟩, List.mem_of_getElem? (i := 30) (by decide +kernel), List.mem_of_getElem? (i := 439) (by decide +kernel), List.mem_of_getElem? (i := 440) (by decide +kernel)⟩
theorem lw_p5 : lw_okq (⟨"OwnerlessCoin$Lab", "canRecoverAll", "(I)Z"⟩, 14) := ⟨⟨by decide +kernel, by decide +kernel⟩, List.mem_of_getElem? (i := 22) (by decide +kernel), List.mem_of_getElem? (i := 459) (by decide +kernel), List.mem_of_getElem? (i := 460) (by decide +kernel)⟩
theorem lw_p6 : lw_okq (⟨"OwnerlessCoin$Lab", "chargeOrCredit", "()V"⟩, 14) := ⟨⟨by decide +kernel, by decide +kernel⟩, List.mem_of_getElem? (i := 22) (by decide +kernel), List.mem_of_getElem? (i := 463) (by decide +kernel), List.mem_of_getElem? (i := 464) (by decide +kernel)⟩
theorem lw_p7 : lw_okq (⟨"OwnerlessCoin$Lab", "sharePot", "(I)V"⟩, 14) := ⟨⟨by decide +kernel, by decide +kernel⟩, List.mem_of_getElem? (i := 22) (by decide +kernel), List.mem_of_getElem? (i := 479) (by decide +kernel), List.mem_of_getElem? (i := 480) (by decide +kernel)⟩
theorem lw_p8 : lw_okq (⟨"OwnerlessCoin$Coalition", "add", "(I)V"⟩, 5) := ⟨⟨by decide +kernel, by decide +kernel⟩, List.mem_of_getElem? (i := 215) (by decide +kernel), List.mem_of_getElem? (i := 583) (by decide +kernel), List.mem_of_getElem? (i := 584) (by decide +kernel)⟩
theorem lw_p9 : lw_okq (⟨"OwnerlessCoin$Coalition", "isNew", "(I)Z"⟩, 5) := ⟨⟨by decide +kernel, by decide +kernel⟩, List.mem_of_getElem? (i := 215) (by decide +kernel), List.mem_of_getElem? (i := 592) (by decide +kernel), List.mem_of_getElem? (i := 593) (by decide +kernel)⟩
theorem lw_p10 : lw_okq (⟨"OwnerlessCoin$Coalition", "spread", "(III)V"⟩, 5) := ⟨⟨by decide +kernel, by decide +kernel⟩, List.mem_of_getElem? (i := 215) (by decide +kernel), List.mem_of_getElem? (i := 614) (by decide +kernel), List.mem_of_getElem? (i := 615) (by decide +kernel)⟩
theorem lw_p11 : lw_okq (⟨"OwnerlessCoinModel", "act", "()V"⟩, 7) := ⟨⟨by decide +kernel, by decide +kernel⟩, List.mem_of_getElem? (i := 725) (by decide +kernel), List.mem_of_getElem? (i := 761) (by decide +kernel), List.mem_of_getElem? (i := 762) (by decide +kernel)⟩
theorem lw_p12 : lw_okq (⟨"OwnerlessCoinModel", "isPerson", "(I)Z"⟩, 7) := ⟨⟨by decide +kernel, by decide +kernel⟩, List.mem_of_getElem? (i := 725) (by decide +kernel), List.mem_of_getElem? (i := 772) (by decide +kernel), List.mem_of_getElem? (i := 773) (by decide +kernel)⟩
theorem lw_p13 : lw_okq (⟨"OwnerlessCoinModel", "sets", "(II)I"⟩, 7) := ⟨⟨by decide +kernel, by decide +kernel⟩, List.mem_of_getElem? (i := 725) (by decide +kernel), List.mem_of_getElem? (i := 776) (by decide +kernel), List.mem_of_getElem? (i := 777) (by decide +kernel)⟩
theorem lw_p14 : lw_okq (⟨"OwnerlessCoinModel", "settles", "(IIII)I"⟩, 7) := ⟨⟨by decide +kernel, by decide +kernel⟩, List.mem_of_getElem? (i := 725) (by decide +kernel), List.mem_of_getElem? (i := 784) (by decide +kernel), List.mem_of_getElem? (i := 785) (by decide +kernel)⟩
theorem lw_p15 : lw_okq (⟨"OwnerlessCoinModel", "mayBegin", "()Z"⟩, 7) := ⟨⟨by decide +kernel, by decide +kernel⟩, List.mem_of_getElem? (i := 725) (by decide +kernel), List.mem_of_getElem? (i := 804) (by decide +kernel), List.mem_of_getElem? (i := 805) (by decide +kernel)⟩
def lw_privs_1 : List (MethodName × Nat) := [(⟨"OwnerlessCoin$History", "dropOldest", "()V"⟩, 2), (⟨"OwnerlessCoin", "settingError", "(III)I"⟩, 3), (⟨"OwnerlessCoin$Lab", "ableToPay", "()I"⟩, 14), (⟨"OwnerlessCoin$Person", "provenPower", "(II)I"⟩, 12), (⟨"OwnerlessCoin$Chronicle", "put", "(IIIIII)V"⟩, 8), (⟨"OwnerlessCoin$Lab", "canRecoverAll", "(I)Z"⟩, 14), (⟨"OwnerlessCoin$Lab", "chargeOrCredit", "()V"⟩, 14), (⟨"OwnerlessCoin$Lab", "sharePot", "(I)V"⟩, 14), (⟨"OwnerlessCoin$Coalition", "add", "(I)V"⟩, 5), (⟨"OwnerlessCoin$Coalition", "isNew", "(I)Z"⟩, 5), (⟨"OwnerlessCoin$Coalition", "spread", "(III)V"⟩, 5), (⟨"OwnerlessCoinModel", "act", "()V"⟩, 7), (⟨"OwnerlessCoinModel", "isPerson", "(I)Z"⟩, 7), (⟨"OwnerlessCoinModel", "sets", "(II)I"⟩, 7), (⟨"OwnerlessCoinModel", "settles", "(IIII)I"⟩, 7), (⟨"OwnerlessCoinModel", "mayBegin", "()Z"⟩, 7)]
theorem lw_r1 : ∀ q ∈ lw_privs_1, lw_okq q := List.forall_mem_cons.mpr ⟨lw_p0, List.forall_mem_cons.mpr ⟨lw_p1, List.forall_mem_cons.mpr ⟨lw_p2, List.forall_mem_cons.mpr ⟨lw_p3, List.forall_mem_cons.mpr ⟨lw_p4, List.forall_mem_cons.mpr ⟨lw_p5, List.forall_mem_cons.mpr ⟨lw_p6, List.forall_mem_cons.mpr ⟨lw_p7, List.forall_mem_cons.mpr ⟨lw_p8, List.forall_mem_cons.mpr ⟨lw_p9, List.forall_mem_cons.mpr ⟨lw_p10, List.forall_mem_cons.mpr ⟨lw_p11, List.forall_mem_cons.mpr ⟨lw_p12, List.forall_mem_cons.mpr ⟨lw_p13, List.forall_mem_cons.mpr ⟨lw_p14, List.forall_mem_cons.mpr ⟨lw_p15, fun _ h => absurd h List.not_mem_nil⟩⟩⟩⟩⟩⟩⟩⟩⟩⟩⟩⟩⟩⟩⟩⟩
theorem lw_p16 : lw_okq (⟨"OwnerlessCoinModel", "begins", "()V"⟩, 7) := ⟨⟨by decide +kernel, by decide +kernel⟩, List.mem_of_getElem? (i := 725) (by decide +kernel), List.mem_of_getElem? (i := 808) (by decide +kernel), List.mem_of_getElem? (i := 809) (by decide +kernel)⟩
theorem lw_p17 : lw_okq (⟨"OwnerlessCoinModel", "has", "(II)Z"⟩, 7) := ⟨⟨by decide +kernel, by decide +kernel⟩, List.mem_of_getElem? (i := 725) (by decide +kernel), List.mem_of_getElem? (i := 816) (by decide +kernel), List.mem_of_getElem? (i := 817) (by decide +kernel)⟩
theorem lw_p18 : lw_okq (⟨"OwnerlessCoinModel", "digestOf", "(II)I"⟩, 7) := ⟨⟨by decide +kernel, by decide +kernel⟩, List.mem_of_getElem? (i := 725) (by decide +kernel), List.mem_of_getElem? (i := 820) (by decide +kernel), List.mem_of_getElem? (i := 821) (by decide +kernel)⟩
theorem lw_p19 : lw_okq (⟨"OwnerlessCoinModel", "isCopy", "(II)Z"⟩, 7) := ⟨⟨by decide +kernel, by decide +kernel⟩, List.mem_of_getElem? (i := 725) (by decide +kernel), List.mem_of_getElem? (i := 828) (by decide +kernel), List.mem_of_getElem? (i := 829) (by decide +kernel)⟩
theorem lw_p20 : lw_okq (⟨"OwnerlessCoinModel", "commits", "(III)V"⟩, 7) := ⟨⟨by decide +kernel, by decide +kernel⟩, List.mem_of_getElem? (i := 725) (by decide +kernel), List.mem_of_getElem? (i := 832) (by decide +kernel), List.mem_of_getElem? (i := 833) (by decide +kernel)⟩
theorem lw_p21 : lw_okq (⟨"OwnerlessCoinModel", "deals", "(I)V"⟩, 7) := ⟨⟨by decide +kernel, by decide +kernel⟩, List.mem_of_getElem? (i := 725) (by decide +kernel), List.mem_of_getElem? (i := 836) (by decide +kernel), List.mem_of_getElem? (i := 837) (by decide +kernel)⟩
theorem lw_p22 : lw_okq (⟨"OwnerlessCoinModel", "draw", "()I"⟩, 7) := ⟨⟨by decide +kernel, by decide +kernel⟩, List.mem_of_getElem? (i := 725) (by decide +kernel), List.mem_of_getElem? (i := 840) (by decide +kernel), List.mem_of_getElem? (i := 841) (by decide +kernel)⟩
theorem lw_p23 : lw_okq (⟨"OwnerlessCoinModel", "valueAt", "(II)I"⟩, 7) := ⟨⟨by decide +kernel, by decide +kernel⟩, List.mem_of_getElem? (i := 725) (by decide +kernel), List.mem_of_getElem? (i := 845) (by decide +kernel), List.mem_of_getElem? (i := 846) (by decide +kernel)⟩
theorem lw_p24 : lw_okq (⟨"OwnerlessCoinModel", "hasShare", "(II)Z"⟩, 7) := ⟨⟨by decide +kernel, by decide +kernel⟩, List.mem_of_getElem? (i := 725) (by decide +kernel), List.mem_of_getElem? (i := 859) (by decide +kernel), List.mem_of_getElem? (i := 860) (by decide +kernel)⟩
theorem lw_p25 : lw_okq (⟨"OwnerlessCoinModel", "hasShares", "(I)Z"⟩, 7) := ⟨⟨by decide +kernel, by decide +kernel⟩, List.mem_of_getElem? (i := 725) (by decide +kernel), List.mem_of_getElem? (i := 863) (by decide +kernel), List.mem_of_getElem? (i := 864) (by decide +kernel)⟩
theorem lw_p26 : lw_okq (⟨"OwnerlessCoinModel", "isMember", "(I)Z"⟩, 7) := ⟨⟨by decide +kernel, by decide +kernel⟩, List.mem_of_getElem? (i := 725) (by decide +kernel), List.mem_of_getElem? (i := 867) (by decide +kernel), List.mem_of_getElem? (i := 868) (by decide +kernel)⟩
theorem lw_p27 : lw_okq (⟨"OwnerlessCoinModel", "spoils", "(III)V"⟩, 7) := ⟨⟨by decide +kernel, by decide +kernel⟩, List.mem_of_getElem? (i := 725) (by decide +kernel), List.mem_of_getElem? (i := 871) (by decide +kernel), List.mem_of_getElem? (i := 872) (by decide +kernel)⟩
theorem lw_p28 : lw_okq (⟨"OwnerlessCoinModel", "shareOf", "(II)I"⟩, 7) := ⟨⟨by decide +kernel, by decide +kernel⟩, List.mem_of_getElem? (i := 725) (by decide +kernel), List.mem_of_getElem? (i := 875) (by decide +kernel), List.mem_of_getElem? (i := 876) (by decide +kernel)⟩
theorem lw_p29 : lw_okq (⟨"OwnerlessCoinModel", "complains", "(II)I"⟩, 7) := ⟨⟨by decide +kernel, by decide +kernel⟩, List.mem_of_getElem? (i := 725) (by decide +kernel), List.mem_of_getElem? (i := 883) (by decide +kernel), List.mem_of_getElem? (i := 884) (by decide +kernel)⟩
theorem lw_p30 : lw_okq (⟨"OwnerlessCoinModel", "isGood", "(II)Z"⟩, 7) := ⟨⟨by decide +kernel, by decide +kernel⟩, List.mem_of_getElem? (i := 725) (by decide +kernel), List.mem_of_getElem? (i := 887) (by decide +kernel), List.mem_of_getElem? (i := 888) (by decide +kernel)⟩
theorem lw_p31 : lw_okq (⟨"OwnerlessCoinModel", "pays", "(I)V"⟩, 7) := ⟨⟨by decide +kernel, by decide +kernel⟩, List.mem_of_getElem? (i := 725) (by decide +kernel), List.mem_of_getElem? (i := 891) (by decide +kernel), List.mem_of_getElem? (i := 892) (by decide +kernel)⟩
def lw_privs_2 : List (MethodName × Nat) := [(⟨"OwnerlessCoinModel", "begins", "()V"⟩, 7), (⟨"OwnerlessCoinModel", "has", "(II)Z"⟩, 7), (⟨"OwnerlessCoinModel", "digestOf", "(II)I"⟩, 7), (⟨"OwnerlessCoinModel", "isCopy", "(II)Z"⟩, 7), (⟨"OwnerlessCoinModel", "commits", "(III)V"⟩, 7), (⟨"OwnerlessCoinModel", "deals", "(I)V"⟩, 7), (⟨"OwnerlessCoinModel", "draw", "()I"⟩, 7), (⟨"OwnerlessCoinModel", "valueAt", "(II)I"⟩, 7), (⟨"OwnerlessCoinModel", "hasShare", "(II)Z"⟩, 7), (⟨"OwnerlessCoinModel", "hasShares", "(I)Z"⟩, 7), (⟨"OwnerlessCoinModel", "isMember", "(I)Z"⟩, 7), (⟨"OwnerlessCoinModel", "spoils", "(III)V"⟩, 7), (⟨"OwnerlessCoinModel", "shareOf", "(II)I"⟩, 7), (⟨"OwnerlessCoinModel", "complains", "(II)I"⟩, 7), (⟨"OwnerlessCoinModel", "isGood", "(II)Z"⟩, 7), (⟨"OwnerlessCoinModel", "pays", "(I)V"⟩, 7)]
theorem lw_r2 : ∀ q ∈ lw_privs_2, lw_okq q := List.forall_mem_cons.mpr ⟨lw_p16, List.forall_mem_cons.mpr ⟨lw_p17, List.forall_mem_cons.mpr ⟨lw_p18, List.forall_mem_cons.mpr ⟨lw_p19, List.forall_mem_cons.mpr ⟨lw_p20, List.forall_mem_cons.mpr ⟨lw_p21, List.forall_mem_cons.mpr ⟨lw_p22, List.forall_mem_cons.mpr ⟨lw_p23, List.forall_mem_cons.mpr ⟨lw_p24, List.forall_mem_cons.mpr ⟨lw_p25, List.forall_mem_cons.mpr ⟨lw_p26, List.forall_mem_cons.mpr ⟨lw_p27, List.forall_mem_cons.mpr ⟨lw_p28, List.forall_mem_cons.mpr ⟨lw_p29, List.forall_mem_cons.mpr ⟨lw_p30, List.forall_mem_cons.mpr ⟨lw_p31, fun _ h => absurd h List.not_mem_nil⟩⟩⟩⟩⟩⟩⟩⟩⟩⟩⟩⟩⟩⟩⟩⟩
theorem lw_p32 : lw_okq (⟨"OwnerlessCoinModel", "opensUp", "()I"⟩, 7) := ⟨⟨by decide +kernel, by decide +kernel⟩, List.mem_of_getElem? (i := 725) (by decide +kernel), List.mem_of_getElem? (i := 899) (by decide +kernel), List.mem_of_getElem? (i := 900) (by decide +kernel)⟩
theorem lw_p33 : lw_okq (⟨"OwnerlessCoinModel", "setOf", "(I)I"⟩, 7) := ⟨⟨by decide +kernel, by decide +kernel⟩, List.mem_of_getElem? (i := 725) (by decide +kernel), List.mem_of_getElem? (i := 903) (by decide +kernel), List.mem_of_getElem? (i := 904) (by decide +kernel)⟩
theorem lw_p34 : lw_okq (⟨"OwnerlessCoinModel", "ends", "(IIII)V"⟩, 7) := ⟨⟨by decide +kernel, by decide +kernel⟩, List.mem_of_getElem? (i := 725) (by decide +kernel), List.mem_of_getElem? (i := 910) (by decide +kernel), List.mem_of_getElem? (i := 911) (by decide +kernel)⟩
theorem lw_p35 : lw_okq (⟨"OwnerlessCoinModel", "closes", "()I"⟩, 7) := ⟨⟨by decide +kernel, by decide +kernel⟩, List.mem_of_getElem? (i := 725) (by decide +kernel), List.mem_of_getElem? (i := 922) (by decide +kernel), List.mem_of_getElem? (i := 923) (by decide +kernel)⟩
theorem lw_p36 : lw_okq (⟨"OwnerlessCoinModel", "takesSecrets", "()V"⟩, 7) := ⟨⟨by decide +kernel, by decide +kernel⟩, List.mem_of_getElem? (i := 725) (by decide +kernel), List.mem_of_getElem? (i := 926) (by decide +kernel), List.mem_of_getElem? (i := 927) (by decide +kernel)⟩
theorem lw_p37 : lw_okq (⟨"OwnerlessCoinModel", "outputOf", "(I)I"⟩, 7) := ⟨⟨by decide +kernel, by decide +kernel⟩, List.mem_of_getElem? (i := 725) (by decide +kernel), List.mem_of_getElem? (i := 930) (by decide +kernel), List.mem_of_getElem? (i := 931) (by decide +kernel)⟩
theorem lw_p38 : lw_okq (⟨"OwnerlessCoinModel", "rightOnes", "(II)I"⟩, 7) := ⟨⟨by decide +kernel, by decide +kernel⟩, List.mem_of_getElem? (i := 725) (by decide +kernel), List.mem_of_getElem? (i := 934) (by decide +kernel), List.mem_of_getElem? (i := 935) (by decide +kernel)⟩
theorem lw_p39 : lw_okq (⟨"OwnerlessCoinModel", "plays", "(I)V"⟩, 7) := ⟨⟨by decide +kernel, by decide +kernel⟩, List.mem_of_getElem? (i := 725) (by decide +kernel), List.mem_of_getElem? (i := 942) (by decide +kernel), List.mem_of_getElem? (i := 943) (by decide +kernel)⟩
theorem lw_p40 : lw_okq (⟨"OwnerlessCoinModel", "cheats", "()V"⟩, 7) := ⟨⟨by decide +kernel, by decide +kernel⟩, List.mem_of_getElem? (i := 725) (by decide +kernel), List.mem_of_getElem? (i := 946) (by decide +kernel), List.mem_of_getElem? (i := 947) (by decide +kernel)⟩
theorem lw_p41 : lw_okq (⟨"OwnerlessCoinModel", "nextMember", "(I)I"⟩, 7) := ⟨⟨by decide +kernel, by decide +kernel⟩, List.mem_of_getElem? (i := 725) (by decide +kernel), List.mem_of_getElem? (i := 950) (by decide +kernel), List.mem_of_getElem? (i := 951) (by decide +kernel)⟩
theorem lw_p42 : lw_okq (⟨"OwnerlessCoinModel", "decides", "()V"⟩, 7) := ⟨⟨by decide +kernel, by decide +kernel⟩, List.mem_of_getElem? (i := 725) (by decide +kernel), List.mem_of_getElem? (i := 954) (by decide +kernel), List.mem_of_getElem? (i := 955) (by decide +kernel)⟩
theorem lw_p43 : lw_okq (⟨"OwnerlessCoinModel", "coinOf", "(I)I"⟩, 7) := ⟨⟨by decide +kernel, by decide +kernel⟩, List.mem_of_getElem? (i := 725) (by decide +kernel), List.mem_of_getElem? (i := 958) (by decide +kernel), List.mem_of_getElem? (i := 959) (by decide +kernel)⟩
theorem lw_p44 : lw_okq (⟨"OwnerlessCoinModel", "setNumber", "(I)I"⟩, 7) := ⟨⟨by decide +kernel, by decide +kernel⟩, List.mem_of_getElem? (i := 725) (by decide +kernel), List.mem_of_getElem? (i := 970) (by decide +kernel), List.mem_of_getElem? (i := 971) (by decide +kernel)⟩
theorem lw_p45 : lw_okq (⟨"OwnerlessCoinModel", "isIn", "(I)Z"⟩, 7) := ⟨⟨by decide +kernel, by decide +kernel⟩, List.mem_of_getElem? (i := 725) (by decide +kernel), List.mem_of_getElem? (i := 978) (by decide +kernel), List.mem_of_getElem? (i := 979) (by decide +kernel)⟩
theorem lw_p46 : lw_okq (⟨"OwnerlessCoinModel", "mayJoin", "(I)Z"⟩, 7) := ⟨⟨by decide +kernel, by decide +kernel⟩, List.mem_of_getElem? (i := 725) (by decide +kernel), List.mem_of_getElem? (i := 1009) (by decide +kernel), List.mem_of_getElem? (i := 1010) (by decide +kernel)⟩
theorem lw_p47 : lw_okq (⟨"OwnerlessCoinModel", "forces", "(II)Z"⟩, 7) := ⟨⟨by decide +kernel, by decide +kernel⟩, List.mem_of_getElem? (i := 725) (by decide +kernel), List.mem_of_getElem? (i := 1017) (by decide +kernel), List.mem_of_getElem? (i := 1018) (by decide +kernel)⟩
def lw_privs_3 : List (MethodName × Nat) := [(⟨"OwnerlessCoinModel", "opensUp", "()I"⟩, 7), (⟨"OwnerlessCoinModel", "setOf", "(I)I"⟩, 7), (⟨"OwnerlessCoinModel", "ends", "(IIII)V"⟩, 7), (⟨"OwnerlessCoinModel", "closes", "()I"⟩, 7), (⟨"OwnerlessCoinModel", "takesSecrets", "()V"⟩, 7), (⟨"OwnerlessCoinModel", "outputOf", "(I)I"⟩, 7), (⟨"OwnerlessCoinModel", "rightOnes", "(II)I"⟩, 7), (⟨"OwnerlessCoinModel", "plays", "(I)V"⟩, 7), (⟨"OwnerlessCoinModel", "cheats", "()V"⟩, 7), (⟨"OwnerlessCoinModel", "nextMember", "(I)I"⟩, 7), (⟨"OwnerlessCoinModel", "decides", "()V"⟩, 7), (⟨"OwnerlessCoinModel", "coinOf", "(I)I"⟩, 7), (⟨"OwnerlessCoinModel", "setNumber", "(I)I"⟩, 7), (⟨"OwnerlessCoinModel", "isIn", "(I)Z"⟩, 7), (⟨"OwnerlessCoinModel", "mayJoin", "(I)Z"⟩, 7), (⟨"OwnerlessCoinModel", "forces", "(II)Z"⟩, 7)]
theorem lw_r3 : ∀ q ∈ lw_privs_3, lw_okq q := List.forall_mem_cons.mpr ⟨lw_p32, List.forall_mem_cons.mpr ⟨lw_p33, List.forall_mem_cons.mpr ⟨lw_p34, List.forall_mem_cons.mpr ⟨lw_p35, List.forall_mem_cons.mpr ⟨lw_p36, List.forall_mem_cons.mpr ⟨lw_p37, List.forall_mem_cons.mpr ⟨lw_p38, List.forall_mem_cons.mpr ⟨lw_p39, List.forall_mem_cons.mpr ⟨lw_p40, List.forall_mem_cons.mpr ⟨lw_p41, List.forall_mem_cons.mpr ⟨lw_p42, List.forall_mem_cons.mpr ⟨lw_p43, List.forall_mem_cons.mpr ⟨lw_p44, List.forall_mem_cons.mpr ⟨lw_p45, List.forall_mem_cons.mpr ⟨lw_p46, List.forall_mem_cons.mpr ⟨lw_p47, fun _ h => absurd h List.not_mem_nil⟩⟩⟩⟩⟩⟩⟩⟩⟩⟩⟩⟩⟩⟩⟩⟩
theorem lw_p48 : lw_okq (⟨"OwnerlessCoinModel", "isKept", "(I)Z"⟩, 7) := ⟨⟨by decide +kernel, by decide +kernel⟩, List.mem_of_getElem? (i := 725) (by decide +kernel), List.mem_of_getElem? (i := 1078) (by decide +kernel), List.mem_of_getElem? (i := 1079) (by decide +kernel)⟩
theorem lw_p49 : lw_okq (⟨"OwnerlessCoinModel", "ofRound", "(II)I"⟩, 7) := ⟨⟨by decide +kernel, by decide +kernel⟩, List.mem_of_getElem? (i := 725) (by decide +kernel), List.mem_of_getElem? (i := 1082) (by decide +kernel), List.mem_of_getElem? (i := 1083) (by decide +kernel)⟩
def lw_privs_4 : List (MethodName × Nat) := [(⟨"OwnerlessCoinModel", "isKept", "(I)Z"⟩, 7), (⟨"OwnerlessCoinModel", "ofRound", "(II)I"⟩, 7)]
theorem lw_r4 : ∀ q ∈ lw_privs_4, lw_okq q := List.forall_mem_cons.mpr ⟨lw_p48, List.forall_mem_cons.mpr ⟨lw_p49, fun _ h => absurd h List.not_mem_nil⟩⟩
def lw_privs : List (MethodName × Nat) := lw_privs_1 ++ (lw_privs_2 ++ (lw_privs_3 ++ (lw_privs_4)))
def lw_tbl : List Cond := k2_sels lw_privs ++ tables_1
theorem lw_privs_ok : ∀ q ∈ lw_privs, lw_okq q := by
  show ∀ q ∈ lw_privs_1 ++ (lw_privs_2 ++ (lw_privs_3 ++ (lw_privs_4))), lw_okq q
  exact List.forall_mem_append.mpr ⟨lw_r1, List.forall_mem_append.mpr ⟨lw_r2, List.forall_mem_append.mpr ⟨lw_r3, lw_r4⟩⟩⟩

def RX0 : String := "OwnerlessCoin$Chronicle"
def TX0 : u_T := fun k => match k with
  | 0 => ("OwnerlessCoin$Chronicle", "ended", "I", false)
  | 1 => ("OwnerlessCoin$Chronicle", "latestOutput", "I", false)
  | 2 => ("OwnerlessCoin$Chronicle", "zeros", "I", false)
  | 3 => ("OwnerlessCoin$Chronicle", "ones", "I", false)
  | 4 => ("OwnerlessCoin$Chronicle", "longest", "I", false)
  | 5 => ("OwnerlessCoin$Chronicle", "run", "I", false)
  | 6 => ("OwnerlessCoin$Chronicle", "runCoin", "I", false)
  | _ => ("OwnerlessCoin$Chronicle", "entries", "[I", true)
def tyX0 : Nat → FieldType := fun k => match k with
  | 0 => .int
  | 1 => .int
  | 2 => .int
  | 3 => .int
  | 4 => .int
  | 5 => .int
  | 6 => .int
  | _ => .array .int
abbrev wsX00 : List Cond := u_ws RX0 TX0 8
theorem nmX0 : ∀ a, a < 8 → ∀ b, b < 8 → a ≠ b → (TX0 a).2.1 ≠ (TX0 b).2.1 := by decide +kernel
theorem tyX0_ok : ∀ k, k < 8 → parseFieldDescriptor (TX0 k).2.2.1 = some (tyX0 k) := by decide +kernel
abbrev cX0_init : ByteArray := prog_2_method_1_code
def yX0_init : MethodName := ⟨RX0, "<init>", "()V"⟩
abbrev cX0_copy : ByteArray := prog_2_method_2_code
def yX0_copy : MethodName := ⟨RX0, "copy", "(LOwnerlessCoin$Chronicle;)V"⟩
abbrev cX0_keeps : ByteArray := prog_2_method_3_code
def yX0_keeps : MethodName := ⟨RX0, "keeps", "(I)Z"⟩
abbrev cX0_entry : ByteArray := prog_2_method_4_code
def yX0_entry : MethodName := ⟨RX0, "entry", "(II)I"⟩
abbrev cX0_addFailure : ByteArray := prog_2_method_5_code
def yX0_addFailure : MethodName := ⟨RX0, "addFailure", "(III)V"⟩
abbrev cX0_addOutput : ByteArray := prog_2_method_6_code
def yX0_addOutput : MethodName := ⟨RX0, "addOutput", "(IIII)V"⟩
abbrev cX0_put : ByteArray := prog_2_method_7_code
def yX0_put : MethodName := ⟨RX0, "put", "(IIIIII)V"⟩
def RX1 : String := "OwnerlessCoin$Coalition"
def TX1 : u_T := fun k => match k with
  | 0 => ("OwnerlessCoin$Coalition", "counted", "[I", true)
  | 1 => ("OwnerlessCoin$Coalition", "outputs", "[I", true)
  | 2 => ("OwnerlessCoin$Coalition", "secrets", "[I", true)
  | 3 => ("OwnerlessCoin$Coalition", "size", "I", false)
  | _ => ("OwnerlessCoin$Coalition", "canFail", "Z", false)
def tyX1 : Nat → FieldType := fun k => match k with
  | 0 => .array .int
  | 1 => .array .int
  | 2 => .array .int
  | 3 => .int
  | _ => .boolean
abbrev wsX10 : List Cond := u_ws RX1 TX1 5
theorem nmX1 : ∀ a, a < 5 → ∀ b, b < 5 → a ≠ b → (TX1 a).2.1 ≠ (TX1 b).2.1 := by decide +kernel
theorem tyX1_ok : ∀ k, k < 5 → parseFieldDescriptor (TX1 k).2.2.1 = some (tyX1 k) := by decide +kernel
abbrev cX1_init : ByteArray := prog_3_method_1_code
def yX1_init : MethodName := ⟨RX1, "<init>", "()V"⟩
abbrev cX1_gather : ByteArray := prog_3_method_2_code
def yX1_gather : MethodName := ⟨RX1, "gather", "(LOwnerlessCoin$Lab;I)V"⟩
abbrev cX1_add : ByteArray := prog_3_method_3_code
def yX1_add : MethodName := ⟨RX1, "add", "(I)V"⟩
abbrev cX1_countResults : ByteArray := prog_3_method_4_code
def yX1_countResults : MethodName := ⟨RX1, "countResults", "(LOwnerlessCoin$Lab;)I"⟩
abbrev cX1_isNew : ByteArray := prog_3_method_5_code
def yX1_isNew : MethodName := ⟨RX1, "isNew", "(I)Z"⟩
abbrev cX1_reaches : ByteArray := prog_3_method_6_code
def yX1_reaches : MethodName := ⟨RX1, "reaches", "(LOwnerlessCoin$Lab;[II)Z"⟩
abbrev cX1_countForced : ByteArray := prog_3_method_7_code
def yX1_countForced : MethodName := ⟨RX1, "countForced", "(LOwnerlessCoin$Lab;II)I"⟩
abbrev cX1_spread : ByteArray := prog_3_method_8_code
def yX1_spread : MethodName := ⟨RX1, "spread", "(III)V"⟩
def RX2 : String := "OwnerlessCoin$Game"
def TX2 : u_T := fun k => match k with
  | _ => ("", "", "", false)
def tyX2 : Nat → FieldType := fun k => match k with
  | _ => .int
abbrev wsX20 : List Cond := u_ws RX2 TX2 0
theorem nmX2 : ∀ a, a < 0 → ∀ b, b < 0 → a ≠ b → (TX2 a).2.1 ≠ (TX2 b).2.1 := by decide +kernel
theorem tyX2_ok : ∀ k, k < 0 → parseFieldDescriptor (TX2 k).2.2.1 = some (tyX2 k) := by decide +kernel
abbrev cX2_playRound : ByteArray := prog_4_method_2_code
def yX2_playRound : MethodName := ⟨RX2, "playRound", "(LOwnerlessCoin$Lab;I)I"⟩
abbrev cX2_commitAll : ByteArray := prog_4_method_3_code
def yX2_commitAll : MethodName := ⟨RX2, "commitAll", "(LOwnerlessCoin$Lab;I)V"⟩
abbrev cX2_cheat : ByteArray := prog_4_method_4_code
def yX2_cheat : MethodName := ⟨RX2, "cheat", "(LOwnerlessCoin$Lab;)V"⟩
abbrev cX2_memberAfter : ByteArray := prog_4_method_5_code
def yX2_memberAfter : MethodName := ⟨RX2, "memberAfter", "(LOwnerlessCoin$Lab;I)I"⟩
abbrev cX2_complainAll : ByteArray := prog_4_method_6_code
def yX2_complainAll : MethodName := ⟨RX2, "complainAll", "(LOwnerlessCoin$Lab;)V"⟩
abbrev cX2_openHonest : ByteArray := prog_4_method_7_code
def yX2_openHonest : MethodName := ⟨RX2, "openHonest", "(LOwnerlessCoin$Lab;)V"⟩
abbrev cX2_openSelfish : ByteArray := prog_4_method_8_code
def yX2_openSelfish : MethodName := ⟨RX2, "openSelfish", "(LOwnerlessCoin$Lab;)V"⟩
abbrev cX2_givesOne : ByteArray := prog_4_method_9_code
def yX2_givesOne : MethodName := ⟨RX2, "givesOne", "(LOwnerlessCoin$Lab;I)Z"⟩
def RX3 : String := "OwnerlessCoin$History"
def TX3 : u_T := fun k => match k with
  | 0 => ("OwnerlessCoin$History", "states", "[LOwnerlessCoin$Lab;", true)
  | _ => ("OwnerlessCoin$History", "size", "I", false)
def tyX3 : Nat → FieldType := fun k => match k with
  | 0 => .array (.object "OwnerlessCoin$Lab")
  | _ => .int
abbrev wsX30 : List Cond := u_ws RX3 TX3 2
theorem nmX3 : ∀ a, a < 2 → ∀ b, b < 2 → a ≠ b → (TX3 a).2.1 ≠ (TX3 b).2.1 := by decide +kernel
theorem tyX3_ok : ∀ k, k < 2 → parseFieldDescriptor (TX3 k).2.2.1 = some (tyX3 k) := by decide +kernel
abbrev cX3_init : ByteArray := prog_5_method_1_code
def yX3_init : MethodName := ⟨RX3, "<init>", "()V"⟩
abbrev cX3_remember : ByteArray := prog_5_method_2_code
def yX3_remember : MethodName := ⟨RX3, "remember", "(LOwnerlessCoin$Lab;)V"⟩
abbrev cX3_dropOldest : ByteArray := prog_5_method_3_code
def yX3_dropOldest : MethodName := ⟨RX3, "dropOldest", "()V"⟩
abbrev cX3_restore : ByteArray := prog_5_method_4_code
def yX3_restore : MethodName := ⟨RX3, "restore", "(LOwnerlessCoin$Lab;)V"⟩
def RX4 : String := "OwnerlessCoin$Lab"
def TX4 : u_T := fun k => match k with
  | 0 => ("OwnerlessCoin$Lab", "people", "[LOwnerlessCoin$Person;", true)
  | 1 => ("OwnerlessCoin$Lab", "secrets", "[I", true)
  | 2 => ("OwnerlessCoin$Lab", "chronicle", "LOwnerlessCoin$Chronicle;", true)
  | 3 => ("OwnerlessCoin$Lab", "count", "I", false)
  | 4 => ("OwnerlessCoin$Lab", "pot", "I", false)
  | 5 => ("OwnerlessCoin$Lab", "method", "I", false)
  | 6 => ("OwnerlessCoin$Lab", "threshold", "I", false)
  | 7 => ("OwnerlessCoin$Lab", "fine", "I", false)
  | 8 => ("OwnerlessCoin$Lab", "delay", "I", false)
  | 9 => ("OwnerlessCoin$Lab", "phase", "I", false)
  | 10 => ("OwnerlessCoin$Lab", "members", "I", false)
  | 11 => ("OwnerlessCoin$Lab", "committed", "I", false)
  | 12 => ("OwnerlessCoin$Lab", "opened", "I", false)
  | _ => ("OwnerlessCoin$Lab", "expelled", "I", false)
def tyX4 : Nat → FieldType := fun k => match k with
  | 0 => .array (.object "OwnerlessCoin$Person")
  | 1 => .array .int
  | 2 => .object "OwnerlessCoin$Chronicle"
  | 3 => .int
  | 4 => .int
  | 5 => .int
  | 6 => .int
  | 7 => .int
  | 8 => .int
  | 9 => .int
  | 10 => .int
  | 11 => .int
  | 12 => .int
  | _ => .int
abbrev wsX40 : List Cond := u_ws RX4 TX4 14
theorem nmX4 : ∀ a, a < 14 → ∀ b, b < 14 → a ≠ b → (TX4 a).2.1 ≠ (TX4 b).2.1 := by decide +kernel
theorem tyX4_ok : ∀ k, k < 14 → parseFieldDescriptor (TX4 k).2.2.1 = some (tyX4 k) := by decide +kernel
abbrev cX4_init : ByteArray := prog_6_method_1_code
def yX4_init : MethodName := ⟨RX4, "<init>", "()V"⟩
abbrev cX4_copy : ByteArray := prog_6_method_2_code
def yX4_copy : MethodName := ⟨RX4, "copy", "(LOwnerlessCoin$Lab;)V"⟩
abbrev cX4_isParticipant : ByteArray := prog_6_method_3_code
def yX4_isParticipant : MethodName := ⟨RX4, "isParticipant", "(I)Z"⟩
abbrev cX4_isCommitted : ByteArray := prog_6_method_4_code
def yX4_isCommitted : MethodName := ⟨RX4, "isCommitted", "(I)Z"⟩
abbrev cX4_hasDealt : ByteArray := prog_6_method_5_code
def yX4_hasDealt : MethodName := ⟨RX4, "hasDealt", "(I)Z"⟩
abbrev cX4_hasShare : ByteArray := prog_6_method_6_code
def yX4_hasShare : MethodName := ⟨RX4, "hasShare", "(II)Z"⟩
abbrev cX4_canConspire : ByteArray := prog_6_method_7_code
def yX4_canConspire : MethodName := ⟨RX4, "canConspire", "(I)Z"⟩
abbrev cX4_admit : ByteArray := prog_6_method_8_code
/-- the method that a word 'instanceMethod' of the Statement's tables names -/
def nm_of : Option Cond → MethodName
  | some (Cond.instanceMethod y) => y
  | _ => ⟨"", "", ""⟩
def yX4_admit : MethodName := nm_of tables_1_2[40]?
abbrev cX4_canStart : ByteArray := prog_6_method_9_code
def yX4_canStart : MethodName := ⟨RX4, "canStart", "()Z"⟩
abbrev cX4_ableToPay : ByteArray := prog_6_method_10_code
def yX4_ableToPay : MethodName := ⟨RX4, "ableToPay", "()I"⟩
abbrev cX4_start : ByteArray := prog_6_method_11_code
def yX4_start : MethodName := ⟨RX4, "start", "()V"⟩
abbrev cX4_digestOf : ByteArray := prog_6_method_12_code
def yX4_digestOf : MethodName := ⟨RX4, "digestOf", "(II)I"⟩
abbrev cX4_isTaken : ByteArray := prog_6_method_13_code
def yX4_isTaken : MethodName := ⟨RX4, "isTaken", "(I)Z"⟩
abbrev cX4_accept : ByteArray := prog_6_method_14_code
def yX4_accept : MethodName := ⟨RX4, "accept", "(III)V"⟩
abbrev cX4_payFine : ByteArray := prog_6_method_15_code
def yX4_payFine : MethodName := ⟨RX4, "payFine", "(I)V"⟩
abbrev cX4_expel : ByteArray := prog_6_method_16_code
def yX4_expel : MethodName := ⟨RX4, "expel", "(I)V"⟩
abbrev cX4_startOpening : ByteArray := prog_6_method_17_code
def yX4_startOpening : MethodName := ⟨RX4, "startOpening", "()I"⟩
abbrev cX4_finish : ByteArray := prog_6_method_18_code
def yX4_finish : MethodName := ⟨RX4, "finish", "()I"⟩
abbrev cX4_chargeOrCredit : ByteArray := prog_6_method_19_code
def yX4_chargeOrCredit : MethodName := ⟨RX4, "chargeOrCredit", "()V"⟩
abbrev cX4_sharePot : ByteArray := prog_6_method_20_code
def yX4_sharePot : MethodName := ⟨RX4, "sharePot", "(I)V"⟩
abbrev cX4_countedIf : ByteArray := prog_6_method_21_code
def yX4_countedIf : MethodName := ⟨RX4, "countedIf", "(I)I"⟩
abbrev cX4_canRecoverAll : ByteArray := prog_6_method_22_code
def yX4_canRecoverAll : MethodName := ⟨RX4, "canRecoverAll", "(I)Z"⟩
abbrev cX4_mixed : ByteArray := prog_6_method_23_code
def yX4_mixed : MethodName := ⟨RX4, "mixed", "([II)I"⟩
def RX5 : String := "OwnerlessCoin$Person"
def TX5 : u_T := fun k => match k with
  | 0 => ("OwnerlessCoin$Person", "balance", "I", false)
  | 1 => ("OwnerlessCoin$Person", "behavior", "I", false)
  | 2 => ("OwnerlessCoin$Person", "roundsOpened", "I", false)
  | 3 => ("OwnerlessCoin$Person", "roundsWithheld", "I", false)
  | 4 => ("OwnerlessCoin$Person", "roundsExpelled", "I", false)
  | 5 => ("OwnerlessCoin$Person", "nonce", "I", false)
  | 6 => ("OwnerlessCoin$Person", "digest", "I", false)
  | 7 => ("OwnerlessCoin$Person", "lockBase", "I", false)
  | 8 => ("OwnerlessCoin$Person", "lockNumber", "I", false)
  | 9 => ("OwnerlessCoin$Person", "rightHolders", "I", false)
  | 10 => ("OwnerlessCoin$Person", "shares", "[I", true)
  | _ => ("OwnerlessCoin$Person", "checks", "[I", true)
def tyX5 : Nat → FieldType := fun k => match k with
  | 0 => .int
  | 1 => .int
  | 2 => .int
  | 3 => .int
  | 4 => .int
  | 5 => .int
  | 6 => .int
  | 7 => .int
  | 8 => .int
  | 9 => .int
  | 10 => .array .int
  | _ => .array .int
abbrev wsX50 : List Cond := u_ws RX5 TX5 12
theorem nmX5 : ∀ a, a < 12 → ∀ b, b < 12 → a ≠ b → (TX5 a).2.1 ≠ (TX5 b).2.1 := by decide +kernel
theorem tyX5_ok : ∀ k, k < 12 → parseFieldDescriptor (TX5 k).2.2.1 = some (tyX5 k) := by decide +kernel
abbrev cX5_init : ByteArray := prog_7_method_1_code
def yX5_init : MethodName := ⟨RX5, "<init>", "()V"⟩
abbrev cX5_copy : ByteArray := prog_7_method_2_code
def yX5_copy : MethodName := ⟨RX5, "copy", "(LOwnerlessCoin$Person;)V"⟩
abbrev cX5_deal : ByteArray := prog_7_method_3_code
def yX5_deal : MethodName := ⟨RX5, "deal", "(II)V"⟩
abbrev cX5_putLock : ByteArray := prog_7_method_4_code
def yX5_putLock : MethodName := ⟨RX5, "putLock", "(II)V"⟩
abbrev cX5_changeShare : ByteArray := prog_7_method_5_code
def yX5_changeShare : MethodName := ⟨RX5, "changeShare", "(III)V"⟩
abbrev cX5_provenPower : ByteArray := prog_7_method_6_code
def yX5_provenPower : MethodName := ⟨RX5, "provenPower", "(II)I"⟩
abbrev cX5_valueAtZero : ByteArray := prog_7_method_7_code
def yX5_valueAtZero : MethodName := ⟨RX5, "valueAtZero", "(I)I"⟩
abbrev cX5_weight : ByteArray := prog_7_method_8_code
def yX5_weight : MethodName := ⟨RX5, "weight", "(II)I"⟩
def RX6 : String := "OwnerlessCoin$SlowWork"
def TX6 : u_T := fun k => match k with
  | _ => ("", "", "", false)
def tyX6 : Nat → FieldType := fun k => match k with
  | _ => .int
abbrev wsX60 : List Cond := u_ws RX6 TX6 0
theorem nmX6 : ∀ a, a < 0 → ∀ b, b < 0 → a ≠ b → (TX6 a).2.1 ≠ (TX6 b).2.1 := by decide +kernel
theorem tyX6_ok : ∀ k, k < 0 → parseFieldDescriptor (TX6 k).2.2.1 = some (tyX6 k) := by decide +kernel
abbrev cX6_value : ByteArray := prog_8_method_2_code
def yX6_value : MethodName := ⟨RX6, "value", "(II)I"⟩
abbrev cX6_valueByFactors : ByteArray := prog_8_method_3_code
def yX6_valueByFactors : MethodName := ⟨RX6, "valueByFactors", "(II)I"⟩
abbrev cX6_challenge : ByteArray := prog_8_method_4_code
def yX6_challenge : MethodName := ⟨RX6, "challenge", "(II)I"⟩
abbrev cX6_evidence : ByteArray := prog_8_method_5_code
def yX6_evidence : MethodName := ⟨RX6, "evidence", "(III)I"⟩
abbrev cX6_isProven : ByteArray := prog_8_method_6_code
def yX6_isProven : MethodName := ⟨RX6, "isProven", "(IIII)Z"⟩
abbrev cX6_leastPrime : ByteArray := prog_8_method_7_code
def yX6_leastPrime : MethodName := ⟨RX6, "leastPrime", "(I)I"⟩
abbrev cX6_isPrime : ByteArray := prog_8_method_8_code
def yX6_isPrime : MethodName := ⟨RX6, "isPrime", "(I)Z"⟩
def RX7 : String := "OwnerlessCoin"
def TX7 : u_T := fun k => match k with
  | 0 => ("OwnerlessCoin", "lab", "LOwnerlessCoin$Lab;", true)
  | 1 => ("OwnerlessCoin", "history", "LOwnerlessCoin$History;", true)
  | _ => ("OwnerlessCoin", "coalitions", "LOwnerlessCoin$Coalition;", true)
def tyX7 : Nat → FieldType := fun k => match k with
  | 0 => .object "OwnerlessCoin$Lab"
  | 1 => .object "OwnerlessCoin$History"
  | _ => .object "OwnerlessCoin$Coalition"
abbrev wsX70 : List Cond := u_ws RX7 TX7 3
theorem nmX7 : ∀ a, a < 3 → ∀ b, b < 3 → a ≠ b → (TX7 a).2.1 ≠ (TX7 b).2.1 := by decide +kernel
theorem tyX7_ok : ∀ k, k < 3 → parseFieldDescriptor (TX7 k).2.2.1 = some (tyX7 k) := by decide +kernel
abbrev cX7_init : ByteArray := prog_1_method_1_code
def yX7_init : MethodName := ⟨RX7, "<init>", "()V"⟩
abbrev cX7_addParticipant : ByteArray := prog_1_method_2_code
def yX7_addParticipant : MethodName := ⟨RX7, "addParticipant", "(I)I"⟩
abbrev cX7_behave : ByteArray := prog_1_method_3_code
def yX7_behave : MethodName := ⟨RX7, "behave", "(II)I"⟩
abbrev cX7_setMethod : ByteArray := prog_1_method_4_code
def yX7_setMethod : MethodName := ⟨RX7, "setMethod", "(I)I"⟩
abbrev cX7_setThreshold : ByteArray := prog_1_method_5_code
def yX7_setThreshold : MethodName := ⟨RX7, "setThreshold", "(I)I"⟩
abbrev cX7_setFine : ByteArray := prog_1_method_6_code
def yX7_setFine : MethodName := ⟨RX7, "setFine", "(I)I"⟩
abbrev cX7_setDelay : ByteArray := prog_1_method_7_code
def yX7_setDelay : MethodName := ⟨RX7, "setDelay", "(I)I"⟩
abbrev cX7_settingError : ByteArray := prog_1_method_8_code
def yX7_settingError : MethodName := ⟨RX7, "settingError", "(III)I"⟩
abbrev cX7_begin : ByteArray := prog_1_method_9_code
def yX7_begin : MethodName := ⟨RX7, "begin", "()I"⟩
abbrev cX7_commit : ByteArray := prog_1_method_10_code
def yX7_commit : MethodName := ⟨RX7, "commit", "(III)I"⟩
abbrev cX7_spoil : ByteArray := prog_1_method_11_code
def yX7_spoil : MethodName := ⟨RX7, "spoil", "(III)I"⟩
abbrev cX7_complain : ByteArray := prog_1_method_12_code
def yX7_complain : MethodName := ⟨RX7, "complain", "(II)I"⟩
abbrev cX7_beginOpening : ByteArray := prog_1_method_13_code
def yX7_beginOpening : MethodName := ⟨RX7, "beginOpening", "()I"⟩
abbrev cX7_open : ByteArray := prog_1_method_14_code
def yX7_open : MethodName := ⟨RX7, "open", "(III)I"⟩
abbrev cX7_close : ByteArray := prog_1_method_15_code
def yX7_close : MethodName := ⟨RX7, "close", "()I"⟩
abbrev cX7_play : ByteArray := prog_1_method_16_code
def yX7_play : MethodName := ⟨RX7, "play", "(I)I"⟩
abbrev cX7_phase : ByteArray := prog_1_method_17_code
def yX7_phase : MethodName := ⟨RX7, "phase", "()I"⟩
abbrev cX7_set : ByteArray := prog_1_method_18_code
def yX7_set : MethodName := ⟨RX7, "set", "(I)I"⟩
abbrev cX7_digest : ByteArray := prog_1_method_19_code
def yX7_digest : MethodName := ⟨RX7, "digest", "(I)I"⟩
abbrev cX7_share : ByteArray := prog_1_method_20_code
def yX7_share : MethodName := ⟨RX7, "share", "(II)I"⟩
abbrev cX7_isRight : ByteArray := prog_1_method_21_code
def yX7_isRight : MethodName := ⟨RX7, "isRight", "(II)I"⟩
abbrev cX7_check : ByteArray := prog_1_method_22_code
def yX7_check : MethodName := ⟨RX7, "check", "(II)I"⟩
abbrev cX7_recover : ByteArray := prog_1_method_23_code
def yX7_recover : MethodName := ⟨RX7, "recover", "(II)I"⟩
abbrev cX7_lock : ByteArray := prog_1_method_24_code
def yX7_lock : MethodName := ⟨RX7, "lock", "(II)I"⟩
abbrev cX7_results : ByteArray := prog_1_method_25_code
def yX7_results : MethodName := ⟨RX7, "results", "(I)I"⟩
abbrev cX7_canForce : ByteArray := prog_1_method_26_code
def yX7_canForce : MethodName := ⟨RX7, "canForce", "(II)I"⟩
abbrev cX7_bias : ByteArray := prog_1_method_27_code
def yX7_bias : MethodName := ⟨RX7, "bias", "(II)I"⟩
abbrev cX7_slow : ByteArray := prog_1_method_28_code
def yX7_slow : MethodName := ⟨RX7, "slow", "(II)I"⟩
abbrev cX7_quick : ByteArray := prog_1_method_29_code
def yX7_quick : MethodName := ⟨RX7, "quick", "(II)I"⟩
abbrev cX7_prime : ByteArray := prog_1_method_30_code
def yX7_prime : MethodName := ⟨RX7, "prime", "(II)I"⟩
abbrev cX7_proof : ByteArray := prog_1_method_31_code
def yX7_proof : MethodName := ⟨RX7, "proof", "(II)I"⟩
abbrev cX7_accepts : ByteArray := prog_1_method_32_code
def yX7_accepts : MethodName := ⟨RX7, "accepts", "(IIII)I"⟩
abbrev cX7_account : ByteArray := prog_1_method_33_code
def yX7_account : MethodName := ⟨RX7, "account", "(II)I"⟩
abbrev cX7_pot : ByteArray := prog_1_method_34_code
def yX7_pot : MethodName := ⟨RX7, "pot", "()I"⟩
abbrev cX7_rounds : ByteArray := prog_1_method_35_code
def yX7_rounds : MethodName := ⟨RX7, "rounds", "()I"⟩
abbrev cX7_past : ByteArray := prog_1_method_36_code
def yX7_past : MethodName := ⟨RX7, "past", "(II)I"⟩
abbrev cX7_output : ByteArray := prog_1_method_37_code
def yX7_output : MethodName := ⟨RX7, "output", "(I)I"⟩
abbrev cX7_coins : ByteArray := prog_1_method_38_code
def yX7_coins : MethodName := ⟨RX7, "coins", "(I)I"⟩
abbrev cX7_longestRun : ByteArray := prog_1_method_39_code
def yX7_longestRun : MethodName := ⟨RX7, "longestRun", "()I"⟩
abbrev cX7_undo : ByteArray := prog_1_method_40_code
def yX7_undo : MethodName := ⟨RX7, "undo", "()I"⟩
abbrev cX7_fingerprint : ByteArray := prog_1_method_41_code
def yX7_fingerprint : MethodName := ⟨RX7, "fingerprint", "()J"⟩
abbrev cX7_isWithin : ByteArray := prog_1_method_42_code
def yX7_isWithin : MethodName := ⟨RX7, "isWithin", "(III)Z"⟩
abbrev cX7_isSlowTask : ByteArray := prog_1_method_43_code
def yX7_isSlowTask : MethodName := ⟨RX7, "isSlowTask", "(II)Z"⟩
abbrev cX7_has : ByteArray := prog_1_method_44_code
def yX7_has : MethodName := ⟨RX7, "has", "(II)Z"⟩
abbrev cX7_smallest : ByteArray := prog_1_method_45_code
def yX7_smallest : MethodName := ⟨RX7, "smallest", "(II)I"⟩
abbrev cX7_mix : ByteArray := prog_1_method_46_code
def yX7_mix : MethodName := ⟨RX7, "mix", "(II)I"⟩
abbrev cX7_stepped : ByteArray := prog_1_method_47_code
def yX7_stepped : MethodName := ⟨RX7, "stepped", "(I)I"⟩
abbrev cX7_drawn : ByteArray := prog_1_method_48_code
def yX7_drawn : MethodName := ⟨RX7, "drawn", "(I)I"⟩
abbrev cX7_product : ByteArray := prog_1_method_49_code
def yX7_product : MethodName := ⟨RX7, "product", "(III)I"⟩
abbrev cX7_power : ByteArray := prog_1_method_50_code
def yX7_power : MethodName := ⟨RX7, "power", "(III)I"⟩
def RX8 : String := "OwnerlessCoinModel"
def TX8 : u_T := fun k => match k with
  | 0 => ("OwnerlessCoinModel", "v", "[I", true)
  | 1 => ("OwnerlessCoinModel", "past", "[I", true)
  | 2 => ("OwnerlessCoinModel", "pastMany", "I", false)
  | 3 => ("OwnerlessCoinModel", "tried", "[I", true)
  | 4 => ("OwnerlessCoinModel", "fails", "Z", false)
  | 5 => ("OwnerlessCoinModel", "drawn", "I", false)
  | _ => ("OwnerlessCoinModel", "outputs", "[I", true)
def tyX8 : Nat → FieldType := fun k => match k with
  | 0 => .array .int
  | 1 => .array .int
  | 2 => .int
  | 3 => .array .int
  | 4 => .boolean
  | 5 => .int
  | _ => .array .int
abbrev wsX80 : List Cond := u_ws RX8 TX8 7
theorem nmX8 : ∀ a, a < 7 → ∀ b, b < 7 → a ≠ b → (TX8 a).2.1 ≠ (TX8 b).2.1 := by decide +kernel
theorem tyX8_ok : ∀ k, k < 7 → parseFieldDescriptor (TX8 k).2.2.1 = some (tyX8 k) := by decide +kernel
abbrev cX8_init : ByteArray := prog_10_method_1_code
def yX8_init : MethodName := ⟨RX8, "<init>", "()V"⟩
abbrev cX8_in : ByteArray := prog_10_method_3_code
def yX8_in : MethodName := ⟨RX8, "in", "(III)Z"⟩
abbrev cX8_act : ByteArray := prog_10_method_4_code
def yX8_act : MethodName := ⟨RX8, "act", "()V"⟩
abbrev cX8_mix : ByteArray := prog_10_method_5_code
def yX8_mix : MethodName := ⟨RX8, "mix", "(II)I"⟩
abbrev cX8_draw : ByteArray := prog_10_method_6_code
def yX8_draw : MethodName := ⟨RX8, "draw", "()I"⟩
abbrev cX8_person : ByteArray := prog_10_method_7_code
def yX8_person : MethodName := ⟨RX8, "person", "(I)I"⟩
abbrev cX8_isPerson : ByteArray := prog_10_method_8_code
def yX8_isPerson : MethodName := ⟨RX8, "isPerson", "(I)Z"⟩
abbrev cX8_has : ByteArray := prog_10_method_9_code
def yX8_has : MethodName := ⟨RX8, "has", "(II)Z"⟩
abbrev cX8_isMember : ByteArray := prog_10_method_10_code
def yX8_isMember : MethodName := ⟨RX8, "isMember", "(I)Z"⟩
abbrev cX8_setOf : ByteArray := prog_10_method_11_code
def yX8_setOf : MethodName := ⟨RX8, "setOf", "(I)I"⟩
abbrev cX8_countOf : ByteArray := prog_10_method_12_code
def yX8_countOf : MethodName := ⟨RX8, "countOf", "(I)I"⟩
abbrev cX8_pays : ByteArray := prog_10_method_13_code
def yX8_pays : MethodName := ⟨RX8, "pays", "(I)V"⟩
abbrev cX8_addParticipant : ByteArray := prog_10_method_14_code
def yX8_addParticipant : MethodName := ⟨RX8, "addParticipant", "(I)I"⟩
abbrev cX8_sets : ByteArray := prog_10_method_15_code
def yX8_sets : MethodName := ⟨RX8, "sets", "(II)I"⟩
abbrev cX8_behave : ByteArray := prog_10_method_16_code
def yX8_behave : MethodName := ⟨RX8, "behave", "(II)I"⟩
abbrev cX8_settles : ByteArray := prog_10_method_17_code
def yX8_settles : MethodName := ⟨RX8, "settles", "(IIII)I"⟩
abbrev cX8_setMethod : ByteArray := prog_10_method_18_code
def yX8_setMethod : MethodName := ⟨RX8, "setMethod", "(I)I"⟩
abbrev cX8_setThreshold : ByteArray := prog_10_method_19_code
def yX8_setThreshold : MethodName := ⟨RX8, "setThreshold", "(I)I"⟩
abbrev cX8_setFine : ByteArray := prog_10_method_20_code
def yX8_setFine : MethodName := ⟨RX8, "setFine", "(I)I"⟩
abbrev cX8_setDelay : ByteArray := prog_10_method_21_code
def yX8_setDelay : MethodName := ⟨RX8, "setDelay", "(I)I"⟩
abbrev cX8_mayBegin : ByteArray := prog_10_method_22_code
def yX8_mayBegin : MethodName := ⟨RX8, "mayBegin", "()Z"⟩
abbrev cX8_begins : ByteArray := prog_10_method_23_code
def yX8_begins : MethodName := ⟨RX8, "begins", "()V"⟩
abbrev cX8_begin : ByteArray := prog_10_method_24_code
def yX8_begin : MethodName := ⟨RX8, "begin", "()I"⟩
abbrev cX8_digestOf : ByteArray := prog_10_method_25_code
def yX8_digestOf : MethodName := ⟨RX8, "digestOf", "(II)I"⟩
abbrev cX8_isCopy : ByteArray := prog_10_method_26_code
def yX8_isCopy : MethodName := ⟨RX8, "isCopy", "(II)Z"⟩
abbrev cX8_valueAt : ByteArray := prog_10_method_27_code
def yX8_valueAt : MethodName := ⟨RX8, "valueAt", "(II)I"⟩
abbrev cX8_deals : ByteArray := prog_10_method_28_code
def yX8_deals : MethodName := ⟨RX8, "deals", "(I)V"⟩
abbrev cX8_commits : ByteArray := prog_10_method_29_code
def yX8_commits : MethodName := ⟨RX8, "commits", "(III)V"⟩
abbrev cX8_commit : ByteArray := prog_10_method_30_code
def yX8_commit : MethodName := ⟨RX8, "commit", "(III)I"⟩
abbrev cX8_hasShares : ByteArray := prog_10_method_31_code
def yX8_hasShares : MethodName := ⟨RX8, "hasShares", "(I)Z"⟩
abbrev cX8_hasShare : ByteArray := prog_10_method_32_code
def yX8_hasShare : MethodName := ⟨RX8, "hasShare", "(II)Z"⟩
abbrev cX8_shareOf : ByteArray := prog_10_method_33_code
def yX8_shareOf : MethodName := ⟨RX8, "shareOf", "(II)I"⟩
abbrev cX8_isGood : ByteArray := prog_10_method_34_code
def yX8_isGood : MethodName := ⟨RX8, "isGood", "(II)Z"⟩
abbrev cX8_spoils : ByteArray := prog_10_method_35_code
def yX8_spoils : MethodName := ⟨RX8, "spoils", "(III)V"⟩
abbrev cX8_spoil : ByteArray := prog_10_method_36_code
def yX8_spoil : MethodName := ⟨RX8, "spoil", "(III)I"⟩
abbrev cX8_complains : ByteArray := prog_10_method_37_code
def yX8_complains : MethodName := ⟨RX8, "complains", "(II)I"⟩
abbrev cX8_complain : ByteArray := prog_10_method_38_code
def yX8_complain : MethodName := ⟨RX8, "complain", "(II)I"⟩
abbrev cX8_ends : ByteArray := prog_10_method_39_code
def yX8_ends : MethodName := ⟨RX8, "ends", "(IIII)V"⟩
abbrev cX8_opensUp : ByteArray := prog_10_method_40_code
def yX8_opensUp : MethodName := ⟨RX8, "opensUp", "()I"⟩
abbrev cX8_beginOpening : ByteArray := prog_10_method_41_code
def yX8_beginOpening : MethodName := ⟨RX8, "beginOpening", "()I"⟩
abbrev cX8_open : ByteArray := prog_10_method_42_code
def yX8_open : MethodName := ⟨RX8, "open", "(III)I"⟩
abbrev cX8_takesSecrets : ByteArray := prog_10_method_43_code
def yX8_takesSecrets : MethodName := ⟨RX8, "takesSecrets", "()V"⟩
abbrev cX8_rightOnes : ByteArray := prog_10_method_44_code
def yX8_rightOnes : MethodName := ⟨RX8, "rightOnes", "(II)I"⟩
abbrev cX8_outputOf : ByteArray := prog_10_method_45_code
def yX8_outputOf : MethodName := ⟨RX8, "outputOf", "(I)I"⟩
abbrev cX8_coinOf : ByteArray := prog_10_method_46_code
def yX8_coinOf : MethodName := ⟨RX8, "coinOf", "(I)I"⟩
abbrev cX8_closes : ByteArray := prog_10_method_47_code
def yX8_closes : MethodName := ⟨RX8, "closes", "()I"⟩
abbrev cX8_close : ByteArray := prog_10_method_48_code
def yX8_close : MethodName := ⟨RX8, "close", "()I"⟩
abbrev cX8_nextMember : ByteArray := prog_10_method_49_code
def yX8_nextMember : MethodName := ⟨RX8, "nextMember", "(I)I"⟩
abbrev cX8_plays : ByteArray := prog_10_method_50_code
def yX8_plays : MethodName := ⟨RX8, "plays", "(I)V"⟩
abbrev cX8_cheats : ByteArray := prog_10_method_51_code
def yX8_cheats : MethodName := ⟨RX8, "cheats", "()V"⟩
abbrev cX8_decides : ByteArray := prog_10_method_52_code
def yX8_decides : MethodName := ⟨RX8, "decides", "()V"⟩
abbrev cX8_play : ByteArray := prog_10_method_53_code
def yX8_play : MethodName := ⟨RX8, "play", "(I)I"⟩
abbrev cX8_phase : ByteArray := prog_10_method_54_code
def yX8_phase : MethodName := ⟨RX8, "phase", "()I"⟩
abbrev cX8_setNumber : ByteArray := prog_10_method_55_code
def yX8_setNumber : MethodName := ⟨RX8, "setNumber", "(I)I"⟩
abbrev cX8_set : ByteArray := prog_10_method_56_code
def yX8_set : MethodName := ⟨RX8, "set", "(I)I"⟩
abbrev cX8_isIn : ByteArray := prog_10_method_57_code
def yX8_isIn : MethodName := ⟨RX8, "isIn", "(I)Z"⟩
abbrev cX8_digest : ByteArray := prog_10_method_58_code
def yX8_digest : MethodName := ⟨RX8, "digest", "(I)I"⟩
abbrev cX8_share : ByteArray := prog_10_method_59_code
def yX8_share : MethodName := ⟨RX8, "share", "(II)I"⟩
abbrev cX8_isRight : ByteArray := prog_10_method_60_code
def yX8_isRight : MethodName := ⟨RX8, "isRight", "(II)I"⟩
abbrev cX8_check : ByteArray := prog_10_method_61_code
def yX8_check : MethodName := ⟨RX8, "check", "(II)I"⟩
abbrev cX8_inverse : ByteArray := prog_10_method_62_code
def yX8_inverse : MethodName := ⟨RX8, "inverse", "(I)I"⟩
abbrev cX8_recover : ByteArray := prog_10_method_63_code
def yX8_recover : MethodName := ⟨RX8, "recover", "(II)I"⟩
abbrev cX8_lock : ByteArray := prog_10_method_64_code
def yX8_lock : MethodName := ⟨RX8, "lock", "(II)I"⟩
abbrev cX8_mayJoin : ByteArray := prog_10_method_65_code
def yX8_mayJoin : MethodName := ⟨RX8, "mayJoin", "(I)Z"⟩
abbrev cX8_results : ByteArray := prog_10_method_66_code
def yX8_results : MethodName := ⟨RX8, "results", "(I)I"⟩
abbrev cX8_forces : ByteArray := prog_10_method_67_code
def yX8_forces : MethodName := ⟨RX8, "forces", "(II)Z"⟩
abbrev cX8_canForce : ByteArray := prog_10_method_68_code
def yX8_canForce : MethodName := ⟨RX8, "canForce", "(II)I"⟩
abbrev cX8_bias : ByteArray := prog_10_method_69_code
def yX8_bias : MethodName := ⟨RX8, "bias", "(II)I"⟩
abbrev cX8_squares : ByteArray := prog_10_method_70_code
def yX8_squares : MethodName := ⟨RX8, "squares", "(II)J"⟩
abbrev cX8_power : ByteArray := prog_10_method_71_code
def yX8_power : MethodName := ⟨RX8, "power", "(JJJ)J"⟩
abbrev cX8_isPrime : ByteArray := prog_10_method_72_code
def yX8_isPrime : MethodName := ⟨RX8, "isPrime", "(I)Z"⟩
abbrev cX8_primeFor : ByteArray := prog_10_method_73_code
def yX8_primeFor : MethodName := ⟨RX8, "primeFor", "(II)I"⟩
abbrev cX8_isSlow : ByteArray := prog_10_method_74_code
def yX8_isSlow : MethodName := ⟨RX8, "isSlow", "(II)Z"⟩
abbrev cX8_slow : ByteArray := prog_10_method_75_code
def yX8_slow : MethodName := ⟨RX8, "slow", "(II)I"⟩
abbrev cX8_quick : ByteArray := prog_10_method_76_code
def yX8_quick : MethodName := ⟨RX8, "quick", "(II)I"⟩
abbrev cX8_prime : ByteArray := prog_10_method_77_code
def yX8_prime : MethodName := ⟨RX8, "prime", "(II)I"⟩
abbrev cX8_proof : ByteArray := prog_10_method_78_code
def yX8_proof : MethodName := ⟨RX8, "proof", "(II)I"⟩
abbrev cX8_accepts : ByteArray := prog_10_method_79_code
def yX8_accepts : MethodName := ⟨RX8, "accepts", "(IIII)I"⟩
abbrev cX8_account : ByteArray := prog_10_method_80_code
def yX8_account : MethodName := ⟨RX8, "account", "(II)I"⟩
abbrev cX8_pot : ByteArray := prog_10_method_81_code
def yX8_pot : MethodName := ⟨RX8, "pot", "()I"⟩
abbrev cX8_rounds : ByteArray := prog_10_method_82_code
def yX8_rounds : MethodName := ⟨RX8, "rounds", "()I"⟩
abbrev cX8_isKept : ByteArray := prog_10_method_83_code
def yX8_isKept : MethodName := ⟨RX8, "isKept", "(I)Z"⟩
abbrev cX8_ofRound : ByteArray := prog_10_method_84_code
def yX8_ofRound : MethodName := ⟨RX8, "ofRound", "(II)I"⟩
abbrev cX8_past : ByteArray := prog_10_method_85_code
def yX8_past : MethodName := ⟨RX8, "past", "(II)I"⟩
abbrev cX8_output : ByteArray := prog_10_method_86_code
def yX8_output : MethodName := ⟨RX8, "output", "(I)I"⟩
abbrev cX8_coins : ByteArray := prog_10_method_87_code
def yX8_coins : MethodName := ⟨RX8, "coins", "(I)I"⟩
abbrev cX8_longestRun : ByteArray := prog_10_method_88_code
def yX8_longestRun : MethodName := ⟨RX8, "longestRun", "()I"⟩
abbrev cX8_undo : ByteArray := prog_10_method_89_code
def yX8_undo : MethodName := ⟨RX8, "undo", "()I"⟩
abbrev cX8_fingerprint : ByteArray := prog_10_method_90_code
def yX8_fingerprint : MethodName := ⟨RX8, "fingerprint", "()J"⟩
def RJ6 : String := "java/lang/Integer"
def TJ6 : u_T := fun k => match k with
  | _ => ("", "", "", false)
def tyJ6 : Nat → FieldType := fun k => match k with
  | _ => .int
abbrev wsJ60 : List Cond := u_ws RJ6 TJ6 0
theorem nmJ6 : ∀ a, a < 0 → ∀ b, b < 0 → a ≠ b → (TJ6 a).2.1 ≠ (TJ6 b).2.1 := by decide +kernel
theorem tyJ6_ok : ∀ k, k < 0 → parseFieldDescriptor (TJ6 k).2.2.1 = some (tyJ6 k) := by decide +kernel
abbrev cJ6_bitCount_0f7a4 : ByteArray := prog_11_method_49_code
def yJ6_bitCount_0f7a4 : MethodName := ⟨RJ6, "bitCount", "(I)I"⟩
def RJ9 : String := "java/lang/Math"
def TJ9 : u_T := fun k => match k with
  | _ => ("", "", "", false)
def tyJ9 : Nat → FieldType := fun k => match k with
  | _ => .int
abbrev wsJ90 : List Cond := u_ws RJ9 TJ9 0
theorem nmJ9 : ∀ a, a < 0 → ∀ b, b < 0 → a ≠ b → (TJ9 a).2.1 ≠ (TJ9 b).2.1 := by decide +kernel
theorem tyJ9_ok : ∀ k, k < 0 → parseFieldDescriptor (TJ9 k).2.2.1 = some (tyJ9 k) := by decide +kernel
abbrev cJ9_max_7cf53 : ByteArray := prog_12_method_65_code
def yJ9_max_7cf53 : MethodName := ⟨RJ9, "max", "(II)I"⟩
abbrev cJ9_min_7cf53 : ByteArray := prog_12_method_69_code
def yJ9_min_7cf53 : MethodName := ⟨RJ9, "min", "(II)I"⟩
def RJ10 : String := "java/lang/System"
def TJ10 : u_T := fun k => match k with
  | _ => ("", "", "", false)
def tyJ10 : Nat → FieldType := fun k => match k with
  | _ => .int
abbrev wsJ100 : List Cond := u_ws RJ10 TJ10 0
theorem nmJ10 : ∀ a, a < 0 → ∀ b, b < 0 → a ≠ b → (TJ10 a).2.1 ≠ (TJ10 b).2.1 := by decide +kernel
theorem tyJ10_ok : ∀ k, k < 0 → parseFieldDescriptor (TJ10 k).2.2.1 = some (tyJ10 k) := by decide +kernel
def RL : String := "OwnerlessCoinLaw"
abbrev cL_law : ByteArray := code
def yL_law : MethodName := ⟨RL, "law", "([I)Z"⟩
abbrev vwCl : List vw_C := [(RX0, TX0, 8), (RX1, TX1, 5), (RX3, TX3, 2), (RX4, TX4, 14), (RX5, TX5, 12), (RX7, TX7, 3), (RX8, TX8, 7)]
