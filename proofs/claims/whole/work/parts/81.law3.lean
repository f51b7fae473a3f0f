section
variable {p : Program} {l : Launch} {e : Env} {s : State} {m : MethodId} {below : List Frame} {meth : Method} {c : Code} {b L : Nat} {xs : Nat → Int32} {D : va_G} {tc : Tc} {ad : Nat → Nat} {K S : Nat} {Q : State → Prop}
set_option maxHeartbeats 4000000 in
set_option maxRecDepth 100000 in
/-- quick -/
theorem k_26 (X : LX p s m c b L xs D tc ad K S) : CS p l e s m below meth c b L xs D tc ad K S Q 922 := by
  intro n i I M H locs ls hl hi hn h hP hS kd
  have hX := X.1
  have hx := hX.1
  have hb := hX.2.1
  have hA := hX.2.2.2.2.2.2
  obtain ⟨r, e1, e2⟩ := s_quick  (xs (i + 1)) (xs (i + 2))
  refine lv_aload_n hx hb dL_law_922 rfl (lv_at hl 1 rfl) ?_
  refine k_arg X hl hS 1 kc_i1 (by omega) dL_law_923 dL_law_924 dL_law_925 dL_law_926 dL_law_927 ?_
  refine k_arg X hl hS 2 kc_i2 (by omega) dL_law_928 dL_law_929 dL_law_930 dL_law_931 dL_law_932 ?_
  refine k_i (k_runV (vals := [.int (xs (i + 1)), .int (xs (i + 2))]) (rest := []) hX hP hl.1 Y_X7_quick cok5 (lt157 sl_145) sk_145 (c_X7_quick hA e1) ⟨rfl, rfl⟩ q678 ⟨Nat.le_of_ble_eq_true rfl, Nat.le_of_ble_eq_true rfl⟩ rfl rfl (Nat.le_of_ble_eq_true rfl) X.2.2.2.2 dL_law_933) hS (fun H locs hP hS => ?_)
  refine lv_aload_n hx hb dL_law_936 rfl (lv_at hl 2 rfl) ?_
  refine k_arg X hl hS 1 kc_i1 (by omega) dL_law_937 dL_law_938 dL_law_939 dL_law_940 dL_law_941 ?_
  refine k_arg X hl hS 2 kc_i2 (by omega) dL_law_942 dL_law_943 dL_law_944 dL_law_945 dL_law_946 ?_
  refine k_i (k_runV (vals := [.int (xs (i + 1)), .int (xs (i + 2))]) (rest := [.int r]) hX hP hl.1 Y_X8_quick cok6 s157_152 sk_152 (c_X8_quick hA e2) ⟨rfl, rfl⟩ q1082 ⟨Nat.le_of_ble_eq_true rfl, Nat.le_of_ble_eq_true rfl⟩ rfl rfl (Nat.le_of_ble_eq_true rfl) X.2.2.2.2 dL_law_947) hS (fun H locs hP hS => ?_)
  refine lv_icmp_eq (tgt := 1252) hx hb dL_law_950 (by decide) (fun _ => kd n I M H locs (by omega) h hP hS) (fun q => absurd rfl q)
set_option maxHeartbeats 4000000 in
set_option maxRecDepth 100000 in
/-- prime -/
theorem k_27 (X : LX p s m c b L xs D tc ad K S) : CS p l e s m below meth c b L xs D tc ad K S Q 955 := by
  intro n i I M H locs ls hl hi hn h hP hS kd
  have hX := X.1
  have hx := hX.1
  have hb := hX.2.1
  have hA := hX.2.2.2.2.2.2
  obtain ⟨r, e1, e2⟩ := s_prime  (xs (i + 1)) (xs (i + 2))
  refine lv_aload_n hx hb dL_law_955 rfl (lv_at hl 1 rfl) ?_
  refine k_arg X hl hS 1 kc_i1 (by omega) dL_law_956 dL_law_957 dL_law_958 dL_law_959 dL_law_960 ?_
  refine k_arg X hl hS 2 kc_i2 (by omega) dL_law_961 dL_law_962 dL_law_963 dL_law_964 dL_law_965 ?_
  refine k_i (k_runV (vals := [.int (xs (i + 1)), .int (xs (i + 2))]) (rest := []) hX hP hl.1 Y_X7_prime cok5 (lt157 sl_145) sk_145 (c_X7_prime hA e1) ⟨rfl, rfl⟩ q688 ⟨Nat.le_of_ble_eq_true rfl, Nat.le_of_ble_eq_true rfl⟩ rfl rfl (Nat.le_of_ble_eq_true rfl) X.2.2.2.2 dL_law_966) hS (fun H locs hP hS => ?_)
  refine lv_aload_n hx hb dL_law_969 rfl (lv_at hl 2 rfl) ?_
  refine k_arg X hl hS 1 kc_i1 (by omega) dL_law_970 dL_law_971 dL_law_972 dL_law_973 dL_law_974 ?_
  refine k_arg X hl hS 2 kc_i2 (by omega) dL_law_975 dL_law_976 dL_law_977 dL_law_978 dL_law_979 ?_
  refine k_i (k_runV (vals := [.int (xs (i + 1)), .int (xs (i + 2))]) (rest := [.int r]) hX hP hl.1 Y_X8_prime cok6 s157_152 sk_152 (c_X8_prime hA e2) ⟨rfl, rfl⟩ q1092 ⟨Nat.le_of_ble_eq_true rfl, Nat.le_of_ble_eq_true rfl⟩ rfl rfl (Nat.le_of_ble_eq_true rfl) X.2.2.2.2 dL_law_980) hS (fun H locs hP hS => ?_)
  refine lv_icmp_eq (tgt := 1252) hx hb dL_law_983 (by decide) (fun _ => kd n I M H locs (by omega) h hP hS) (fun q => absurd rfl q)
set_option maxHeartbeats 4000000 in
set_option maxRecDepth 100000 in
/-- proof -/
theorem k_28 (X : LX p s m c b L xs D tc ad K S) : CS p l e s m below meth c b L xs D tc ad K S Q 988 := by
  intro n i I M H locs ls hl hi hn h hP hS kd
  have hX := X.1
  have hx := hX.1
  have hb := hX.2.1
  have hA := hX.2.2.2.2.2.2
  obtain ⟨r, e1, e2⟩ := s_proof  (xs (i + 1)) (xs (i + 2))
  refine lv_aload_n hx hb dL_law_988 rfl (lv_at hl 1 rfl) ?_
  refine k_arg X hl hS 1 kc_i1 (by omega) dL_law_989 dL_law_990 dL_law_991 dL_law_992 dL_law_993 ?_
  refine k_arg X hl hS 2 kc_i2 (by omega) dL_law_994 dL_law_995 dL_law_996 dL_law_997 dL_law_998 ?_
  refine k_i (k_runV (vals := [.int (xs (i + 1)), .int (xs (i + 2))]) (rest := []) hX hP hl.1 Y_X7_proof cok5 (lt157 sl_145) sk_145 (c_X7_proof hA e1) ⟨rfl, rfl⟩ q702 ⟨Nat.le_of_ble_eq_true rfl, Nat.le_of_ble_eq_true rfl⟩ rfl rfl (Nat.le_of_ble_eq_true rfl) X.2.2.2.2 dL_law_999) hS (fun H locs hP hS => ?_)
  refine lv_aload_n hx hb dL_law_1002 rfl (lv_at hl 2 rfl) ?_
  refine k_arg X hl hS 1 kc_i1 (by omega) dL_law_1003 dL_law_1004 dL_law_1005 dL_law_1006 dL_law_1007 ?_
  refine k_arg X hl hS 2 kc_i2 (by omega) dL_law_1008 dL_law_1009 dL_law_1010 dL_law_1011 dL_law_1012 ?_
  refine k_i (k_runV (vals := [.int (xs (i + 1)), .int (xs (i + 2))]) (rest := [.int r]) hX hP hl.1 Y_X8_proof cok6 s157_152 sk_152 (c_X8_proof hA e2) ⟨rfl, rfl⟩ q1102 ⟨Nat.le_of_ble_eq_true rfl, Nat.le_of_ble_eq_true rfl⟩ rfl rfl (Nat.le_of_ble_eq_true rfl) X.2.2.2.2 dL_law_1013) hS (fun H locs hP hS => ?_)
  refine lv_icmp_eq (tgt := 1252) hx hb dL_law_1016 (by decide) (fun _ => kd n I M H locs (by omega) h hP hS) (fun q => absurd rfl q)
set_option maxHeartbeats 4000000 in
set_option maxRecDepth 100000 in
/-- accepts -/
theorem k_29 (X : LX p s m c b L xs D tc ad K S) : CS p l e s m below meth c b L xs D tc ad K S Q 1021 := by
  intro n i I M H locs ls hl hi hn h hP hS kd
  have hX := X.1
  have hx := hX.1
  have hb := hX.2.1
  have hA := hX.2.2.2.2.2.2
  obtain ⟨r, e1, e2⟩ := s_accepts  (xs (i + 1)) (xs (i + 2)) (xs (i + 3)) (xs (i + 4))
  refine lv_aload_n hx hb dL_law_1021 rfl (lv_at hl 1 rfl) ?_
  refine k_arg X hl hS 1 kc_i1 (by omega) dL_law_1022 dL_law_1023 dL_law_1024 dL_law_1025 dL_law_1026 ?_
  refine k_arg X hl hS 2 kc_i2 (by omega) dL_law_1027 dL_law_1028 dL_law_1029 dL_law_1030 dL_law_1031 ?_
  refine k_arg X hl hS 3 kc_i3 (by omega) dL_law_1032 dL_law_1033 dL_law_1034 dL_law_1035 dL_law_1036 ?_
  refine k_arg X hl hS 4 kc_i4 (by omega) dL_law_1037 dL_law_1038 dL_law_1039 dL_law_1040 dL_law_1041 ?_
  refine k_i (k_runV (vals := [.int (xs (i + 1)), .int (xs (i + 2)), .int (xs (i + 3)), .int (xs (i + 4))]) (rest := []) hX hP hl.1 Y_X7_accepts cok5 (lt157 sl_145) sk_145 (c_X7_accepts hA e1) ⟨rfl, rfl⟩ q709 ⟨Nat.le_of_ble_eq_true rfl, Nat.le_of_ble_eq_true rfl⟩ rfl rfl (Nat.le_of_ble_eq_true rfl) X.2.2.2.2 dL_law_1042) hS (fun H locs hP hS => ?_)
  refine lv_aload_n hx hb dL_law_1045 rfl (lv_at hl 2 rfl) ?_
  refine k_arg X hl hS 1 kc_i1 (by omega) dL_law_1046 dL_law_1047 dL_law_1048 dL_law_1049 dL_law_1050 ?_
  refine k_arg X hl hS 2 kc_i2 (by omega) dL_law_1051 dL_law_1052 dL_law_1053 dL_law_1054 dL_law_1055 ?_
  refine k_arg X hl hS 3 kc_i3 (by omega) dL_law_1056 dL_law_1057 dL_law_1058 dL_law_1059 dL_law_1060 ?_
  refine k_arg X hl hS 4 kc_i4 (by omega) dL_law_1061 dL_law_1062 dL_law_1063 dL_law_1064 dL_law_1065 ?_
  refine k_i (k_runV (vals := [.int (xs (i + 1)), .int (xs (i + 2)), .int (xs (i + 3)), .int (xs (i + 4))]) (rest := [.int r]) hX hP hl.1 Y_X8_accepts cok6 s157_152 sk_152 (c_X8_accepts hA e2) ⟨rfl, rfl⟩ q1106 ⟨Nat.le_of_ble_eq_true rfl, Nat.le_of_ble_eq_true rfl⟩ rfl rfl (Nat.le_of_ble_eq_true rfl) X.2.2.2.2 dL_law_1066) hS (fun H locs hP hS => ?_)
  refine lv_icmp_eq (tgt := 1252) hx hb dL_law_1069 (by decide) (fun _ => kd n I M H locs (by omega) h hP hS) (fun q => absurd rfl q)
set_option maxHeartbeats 4000000 in
set_option maxRecDepth 100000 in
/-- account -/
theorem k_30 (X : LX p s m c b L xs D tc ad K S) : CS p l e s m below meth c b L xs D tc ad K S Q 1074 := by
  intro n i I M H locs ls hl hi hn h hP hS kd
  have hX := X.1
  have hx := hX.1
  have hb := hX.2.1
  have hA := hX.2.2.2.2.2.2
  obtain ⟨r, e1, e2⟩ := s_account h (xs (i + 1)) (xs (i + 2))
  refine lv_aload_n hx hb dL_law_1074 rfl (lv_at hl 1 rfl) ?_
  refine k_arg X hl hS 1 kc_i1 (by omega) dL_law_1075 dL_law_1076 dL_law_1077 dL_law_1078 dL_law_1079 ?_
  refine k_arg X hl hS 2 kc_i2 (by omega) dL_law_1080 dL_law_1081 dL_law_1082 dL_law_1083 dL_law_1084 ?_
  refine k_i (k_runV (vals := [.int (xs (i + 1)), .int (xs (i + 2))]) (rest := []) hX hP hl.1 Y_X7_account cok5 (lt157 sl_145) sk_145 (c_X7_account hA e1) ⟨rfl, rfl⟩ q718 ⟨Nat.le_of_ble_eq_true rfl, Nat.le_of_ble_eq_true rfl⟩ rfl rfl (Nat.le_of_ble_eq_true rfl) X.2.2.2.2 dL_law_1085) hS (fun H locs hP hS => ?_)
  refine lv_aload_n hx hb dL_law_1088 rfl (lv_at hl 2 rfl) ?_
  refine k_arg X hl hS 1 kc_i1 (by omega) dL_law_1089 dL_law_1090 dL_law_1091 dL_law_1092 dL_law_1093 ?_
  refine k_arg X hl hS 2 kc_i2 (by omega) dL_law_1094 dL_law_1095 dL_law_1096 dL_law_1097 dL_law_1098 ?_
  refine k_i (k_runV (vals := [.int (xs (i + 1)), .int (xs (i + 2))]) (rest := [.int r]) hX hP hl.1 Y_X8_account cok6 s157_152 sk_152 (c_X8_account hA e2) ⟨rfl, rfl⟩ q1111 ⟨Nat.le_of_ble_eq_true rfl, Nat.le_of_ble_eq_true rfl⟩ rfl rfl (Nat.le_of_ble_eq_true rfl) X.2.2.2.2 dL_law_1099) hS (fun H locs hP hS => ?_)
  refine lv_icmp_eq (tgt := 1252) hx hb dL_law_1102 (by decide) (fun _ => kd n I M H locs (by omega) h hP hS) (fun q => absurd rfl q)
set_option maxHeartbeats 4000000 in
set_option maxRecDepth 100000 in
/-- pot -/
theorem k_31 (X : LX p s m c b L xs D tc ad K S) : CS p l e s m below meth c b L xs D tc ad K S Q 1107 := by
  intro n i I M H locs ls hl hi hn h hP hS kd
  have hX := X.1
  have hx := hX.1
  have hb := hX.2.1
  have hA := hX.2.2.2.2.2.2
  obtain ⟨r, e1, e2⟩ := s_pot h
  refine lv_aload_n hx hb dL_law_1107 rfl (lv_at hl 1 rfl) ?_
  refine k_i (k_runV (vals := []) (rest := []) hX hP hl.1 Y_X7_pot cok5 (lt157 sl_145) sk_145 (c_X7_pot hA e1) ⟨rfl, rfl⟩ q722 ⟨Nat.le_of_ble_eq_true rfl, Nat.le_of_ble_eq_true rfl⟩ rfl rfl (Nat.le_of_ble_eq_true rfl) X.2.2.2.2 dL_law_1108) hS (fun H locs hP hS => ?_)
  refine lv_aload_n hx hb dL_law_1111 rfl (lv_at hl 2 rfl) ?_
  refine k_i (k_runV (vals := []) (rest := [.int r]) hX hP hl.1 Y_X8_pot cok6 s157_152 sk_152 (c_X8_pot hA e2) ⟨rfl, rfl⟩ q1115 ⟨Nat.le_of_ble_eq_true rfl, Nat.le_of_ble_eq_true rfl⟩ rfl rfl (Nat.le_of_ble_eq_true rfl) X.2.2.2.2 dL_law_1112) hS (fun H locs hP hS => ?_)
  refine lv_icmp_eq (tgt := 1252) hx hb dL_law_1115 (by decide) (fun _ => kd n I M H locs (by omega) h hP hS) (fun q => absurd rfl q)
set_option maxHeartbeats 4000000 in
set_option maxRecDepth 100000 in
/-- rounds -/
theorem k_32 (X : LX p s m c b L xs D tc ad K S) : CS p l e s m below meth c b L xs D tc ad K S Q 1120 := by
  intro n i I M H locs ls hl hi hn h hP hS kd
  have hX := X.1
  have hx := hX.1
  have hb := hX.2.1
  have hA := hX.2.2.2.2.2.2
  obtain ⟨r, e1, e2⟩ := s_rounds h
  refine lv_aload_n hx hb dL_law_1120 rfl (lv_at hl 1 rfl) ?_
  refine k_i (k_runV (vals := []) (rest := []) hX hP hl.1 Y_X7_rounds cok5 (lt157 sl_145) sk_145 (c_X7_rounds hA e1) ⟨rfl, rfl⟩ q726 ⟨Nat.le_of_ble_eq_true rfl, Nat.le_of_ble_eq_true rfl⟩ rfl rfl (Nat.le_of_ble_eq_true rfl) X.2.2.2.2 dL_law_1121) hS (fun H locs hP hS => ?_)
  refine lv_aload_n hx hb dL_law_1124 rfl (lv_at hl 2 rfl) ?_
  refine k_i (k_runV (vals := []) (rest := [.int r]) hX hP hl.1 Y_X8_rounds cok6 s157_152 sk_152 (c_X8_rounds hA e2) ⟨rfl, rfl⟩ q1119 ⟨Nat.le_of_ble_eq_true rfl, Nat.le_of_ble_eq_true rfl⟩ rfl rfl (Nat.le_of_ble_eq_true rfl) X.2.2.2.2 dL_law_1125) hS (fun H locs hP hS => ?_)
  refine lv_icmp_eq (tgt := 1252) hx hb dL_law_1128 (by decide) (fun _ => kd n I M H locs (by omega) h hP hS) (fun q => absurd rfl q)
set_option maxHeartbeats 4000000 in
set_option maxRecDepth 100000 in
/-- past -/
theorem k_33 (X : LX p s m c b L xs D tc ad K S) : CS p l e s m below meth c b L xs D tc ad K S Q 1133 := by
  intro n i I M H locs ls hl hi hn h hP hS kd
  have hX := X.1
  have hx := hX.1
  have hb := hX.2.1
  have hA := hX.2.2.2.2.2.2
  obtain ⟨r, e1, e2⟩ := s_past hn h (xs (i + 1)) (xs (i + 2))
  refine lv_aload_n hx hb dL_law_1133 rfl (lv_at hl 1 rfl) ?_
  refine k_arg X hl hS 1 kc_i1 (by omega) dL_law_1134 dL_law_1135 dL_law_1136 dL_law_1137 dL_law_1138 ?_
  refine k_arg X hl hS 2 kc_i2 (by omega) dL_law_1139 dL_law_1140 dL_law_1141 dL_law_1142 dL_law_1143 ?_
  refine k_i (k_runV (vals := [.int (xs (i + 1)), .int (xs (i + 2))]) (rest := []) hX hP hl.1 Y_X7_past cok5 (lt157 sl_145) sk_145 (c_X7_past hA e1) ⟨rfl, rfl⟩ q730 ⟨Nat.le_of_ble_eq_true rfl, Nat.le_of_ble_eq_true rfl⟩ rfl rfl (Nat.le_of_ble_eq_true rfl) X.2.2.2.2 dL_law_1144) hS (fun H locs hP hS => ?_)
  refine lv_aload_n hx hb dL_law_1147 rfl (lv_at hl 2 rfl) ?_
  refine k_arg X hl hS 1 kc_i1 (by omega) dL_law_1148 dL_law_1149 dL_law_1150 dL_law_1151 dL_law_1152 ?_
  refine k_arg X hl hS 2 kc_i2 (by omega) dL_law_1153 dL_law_1154 dL_law_1155 dL_law_1156 dL_law_1157 ?_
  refine k_i (k_runV (vals := [.int (xs (i + 1)), .int (xs (i + 2))]) (rest := [.int r]) hX hP hl.1 Y_X8_past cok6 s157_152 sk_152 (c_X8_past hA e2) ⟨rfl, rfl⟩ q1123 ⟨Nat.le_of_ble_eq_true rfl, Nat.le_of_ble_eq_true rfl⟩ rfl rfl (Nat.le_of_ble_eq_true rfl) X.2.2.2.2 dL_law_1158) hS (fun H locs hP hS => ?_)
  refine lv_icmp_eq (tgt := 1252) hx hb dL_law_1161 (by decide) (fun _ => kd n I M H locs (by omega) h hP hS) (fun q => absurd rfl q)
set_option maxHeartbeats 4000000 in
set_option maxRecDepth 100000 in
/-- output -/
theorem k_34 (X : LX p s m c b L xs D tc ad K S) : CS p l e s m below meth c b L xs D tc ad K S Q 1166 := by
  intro n i I M H locs ls hl hi hn h hP hS kd
  have hX := X.1
  have hx := hX.1
  have hb := hX.2.1
  have hA := hX.2.2.2.2.2.2
  obtain ⟨r, e1, e2⟩ := s_output hn h (xs (i + 1))
  refine lv_aload_n hx hb dL_law_1166 rfl (lv_at hl 1 rfl) ?_
  refine k_arg X hl hS 1 kc_i1 (by omega) dL_law_1167 dL_law_1168 dL_law_1169 dL_law_1170 dL_law_1171 ?_
  refine k_i (k_runV (vals := [.int (xs (i + 1))]) (rest := []) hX hP hl.1 Y_X7_output cok5 (lt157 sl_145) sk_145 (c_X7_output hA e1) ⟨rfl, rfl⟩ q742 ⟨Nat.le_of_ble_eq_true rfl, Nat.le_of_ble_eq_true rfl⟩ rfl rfl (Nat.le_of_ble_eq_true rfl) X.2.2.2.2 dL_law_1172) hS (fun H locs hP hS => ?_)
  refine lv_aload_n hx hb dL_law_1175 rfl (lv_at hl 2 rfl) ?_
  refine k_arg X hl hS 1 kc_i1 (by omega) dL_law_1176 dL_law_1177 dL_law_1178 dL_law_1179 dL_law_1180 ?_
  refine k_i (k_runV (vals := [.int (xs (i + 1))]) (rest := [.int r]) hX hP hl.1 Y_X8_output cok6 s157_152 sk_152 (c_X8_output hA e2) ⟨rfl, rfl⟩ q1135 ⟨Nat.le_of_ble_eq_true rfl, Nat.le_of_ble_eq_true rfl⟩ rfl rfl (Nat.le_of_ble_eq_true rfl) X.2.2.2.2 dL_law_1181) hS (fun H locs hP hS => ?_)
  refine lv_icmp_eq (tgt := 1252) hx hb dL_law_1184 (by decide) (fun _ => kd n I M H locs (by omega) h hP hS) (fun q => absurd rfl q)
set_option maxHeartbeats 4000000 in
set_option maxRecDepth 100000 in
/-- coins -/
theorem k_35 (X : LX p s m c b L xs D tc ad K S) : CS p l e s m below meth c b L xs D tc ad K S Q 1189 := by
  intro n i I M H locs ls hl hi hn h hP hS kd
  have hX := X.1
  have hx := hX.1
  have hb := hX.2.1
  have hA := hX.2.2.2.2.2.2
  obtain ⟨r, e1, e2⟩ := s_coins h (xs (i + 1))
  refine lv_aload_n hx hb dL_law_1189 rfl (lv_at hl 1 rfl) ?_
  refine k_arg X hl hS 1 kc_i1 (by omega) dL_law_1190 dL_law_1191 dL_law_1192 dL_law_1193 dL_law_1194 ?_
  refine k_i (k_runV (vals := [.int (xs (i + 1))]) (rest := []) hX hP hl.1 Y_X7_coins cok5 (lt157 sl_145) sk_145 (c_X7_coins hA e1) ⟨rfl, rfl⟩ q746 ⟨Nat.le_of_ble_eq_true rfl, Nat.le_of_ble_eq_true rfl⟩ rfl rfl (Nat.le_of_ble_eq_true rfl) X.2.2.2.2 dL_law_1195) hS (fun H locs hP hS => ?_)
  refine lv_aload_n hx hb dL_law_1198 rfl (lv_at hl 2 rfl) ?_
  refine k_arg X hl hS 1 kc_i1 (by omega) dL_law_1199 dL_law_1200 dL_law_1201 dL_law_1202 dL_law_1203 ?_
  refine k_i (k_runV (vals := [.int (xs (i + 1))]) (rest := [.int r]) hX hP hl.1 Y_X8_coins cok6 s157_152 sk_152 (c_X8_coins hA e2) ⟨rfl, rfl⟩ q1139 ⟨Nat.le_of_ble_eq_true rfl, Nat.le_of_ble_eq_true rfl⟩ rfl rfl (Nat.le_of_ble_eq_true rfl) X.2.2.2.2 dL_law_1204) hS (fun H locs hP hS => ?_)
  refine lv_icmp_eq (tgt := 1252) hx hb dL_law_1207 (by decide) (fun _ => kd n I M H locs (by omega) h hP hS) (fun q => absurd rfl q)
set_option maxHeartbeats 4000000 in
set_option maxRecDepth 100000 in
/-- longestRun -/
theorem k_36 (X : LX p s m c b L xs D tc ad K S) : CS p l e s m below meth c b L xs D tc ad K S Q 1212 := by
  intro n i I M H locs ls hl hi hn h hP hS kd
  have hX := X.1
  have hx := hX.1
  have hb := hX.2.1
  have hA := hX.2.2.2.2.2.2
  obtain ⟨r, e1, e2⟩ := s_longestRun h
  refine lv_aload_n hx hb dL_law_1212 rfl (lv_at hl 1 rfl) ?_
  refine k_i (k_runV (vals := []) (rest := []) hX hP hl.1 Y_X7_longestRun cok5 (lt157 sl_145) sk_145 (c_X7_longestRun hA e1) ⟨rfl, rfl⟩ q750 ⟨Nat.le_of_ble_eq_true rfl, Nat.le_of_ble_eq_true rfl⟩ rfl rfl (Nat.le_of_ble_eq_true rfl) X.2.2.2.2 dL_law_1213) hS (fun H locs hP hS => ?_)
  refine lv_aload_n hx hb dL_law_1216 rfl (lv_at hl 2 rfl) ?_
  refine k_i (k_runV (vals := []) (rest := [.int r]) hX hP hl.1 Y_X8_longestRun cok6 s157_152 sk_152 (c_X8_longestRun hA e2) ⟨rfl, rfl⟩ q1143 ⟨Nat.le_of_ble_eq_true rfl, Nat.le_of_ble_eq_true rfl⟩ rfl rfl (Nat.le_of_ble_eq_true rfl) X.2.2.2.2 dL_law_1217) hS (fun H locs hP hS => ?_)
  refine lv_icmp_eq (tgt := 1252) hx hb dL_law_1220 (by decide) (fun _ => kd n I M H locs (by omega) h hP hS) (fun q => absurd rfl q)
set_option maxHeartbeats 4000000 in
set_option maxRecDepth 100000 in
/-- undo -/
theorem k_37 (X : LX p s m c b L xs D tc ad K S) : CS p l e s m below meth c b L xs D tc ad K S Q 1225 := by
  intro n i I M H locs ls hl hi hn h hP hS kd
  have hX := X.1
  have hx := hX.1
  have hb := hX.2.1
  have hA := hX.2.2.2.2.2.2
  obtain ⟨r, I1, M1, e1, e2, h1⟩ := s_undo h
  refine lv_aload_n hx hb dL_law_1225 rfl (lv_at hl 1 rfl) ?_
  refine k_i (k_runV (vals := []) (rest := []) hX hP hl.1 Y_X7_undo cok5 (lt157 sl_145) sk_145 (c_X7_undo hA e1) ⟨rfl, rfl⟩ q754 ⟨Nat.le_of_ble_eq_true rfl, Nat.le_of_ble_eq_true rfl⟩ rfl rfl (Nat.le_of_ble_eq_true rfl) X.2.2.2.2 dL_law_1226) hS (fun H locs hP hS => ?_)
  refine lv_aload_n hx hb dL_law_1229 rfl (lv_at hl 2 rfl) ?_
  refine k_i (k_runV (vals := []) (rest := [.int r]) hX hP hl.1 Y_X8_undo cok6 s157_152 sk_152 (c_X8_undo hA e2) ⟨rfl, rfl⟩ q1147 ⟨Nat.le_of_ble_eq_true rfl, Nat.le_of_ble_eq_true rfl⟩ rfl rfl (Nat.le_of_ble_eq_true rfl) X.2.2.2.2 dL_law_1230) hS (fun H locs hP hS => ?_)
  refine lv_icmp_eq (tgt := 1252) hx hb dL_law_1233 (by decide) (fun _ => kd _ I1 M1 H locs (by omega) h1 hP hS) (fun q => absurd rfl q)
set_option maxHeartbeats 4000000 in
set_option maxRecDepth 100000 in
/-- fingerprint -/
theorem k_38 (X : LX p s m c b L xs D tc ad K S) : CS p l e s m below meth c b L xs D tc ad K S Q 1238 := by
  intro n i I M H locs ls hl hi hn h hP hS kd
  have hX := X.1
  have hx := hX.1
  have hb := hX.2.1
  have hA := hX.2.2.2.2.2.2
  obtain ⟨r, e1, e2⟩ := s_fingerprint h
  refine lv_aload_n hx hb dL_law_1238 rfl (lv_at hl 1 rfl) ?_
  refine k_l (k_runV (vals := []) (rest := []) hX hP hl.1 Y_X7_fingerprint cok5 (lt157 sl_145) sk_145 (c_X7_fingerprint hA e1) ⟨rfl, rfl⟩ q762 ⟨Nat.le_of_ble_eq_true rfl, Nat.le_of_ble_eq_true rfl⟩ rfl rfl (Nat.le_of_ble_eq_true rfl) X.2.2.2.2 dL_law_1239) hS (fun H locs hP hS => ?_)
  refine lv_aload_n hx hb dL_law_1242 rfl (lv_at hl 2 rfl) ?_
  refine k_l (k_runV (vals := []) (rest := [.long r]) hX hP hl.1 Y_X8_fingerprint cok6 s157_152 sk_152 (c_X8_fingerprint hA e2) ⟨rfl, rfl⟩ q1151 ⟨Nat.le_of_ble_eq_true rfl, Nat.le_of_ble_eq_true rfl⟩ rfl rfl (Nat.le_of_ble_eq_true rfl) X.2.2.2.2 dL_law_1243) hS (fun H locs hP hS => ?_)
  refine W.lcmp hx hb dL_law_1246 ?_
  refine lv_if_eq (tgt := 1252) hx hb dL_law_1247 (by decide) (fun _ => kd n I M H locs (by omega) h hP hS) (fun q => absurd (k_cmp r) q)
end
