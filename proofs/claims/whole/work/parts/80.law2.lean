section
variable {p : Program} {l : Launch} {e : Env} {s : State} {m : MethodId} {below : List Frame} {meth : Method} {c : Code} {b L : Nat} {xs : Nat → Int32} {D : va_G} {tc : Tc} {ad : Nat → Nat} {K S : Nat} {Q : State → Prop}
set_option maxHeartbeats 4000000 in
set_option maxRecDepth 100000 in
/-- play -/
theorem k_13 (X : LX p s m c b L xs D tc ad K S) : CS p l e s m below meth c b L xs D tc ad K S Q 553 := by
  intro n i I M H locs ls hl hi hn h hP hS kd
  have hX := X.1
  have hx := hX.1
  have hb := hX.2.1
  have hA := hX.2.2.2.2.2.2
  obtain ⟨r, I1, M1, e1, e2, h1⟩ := s_play h hn (xs (i + 1))
  refine lv_aload_n hx hb dL_law_553 rfl (lv_at hl 1 rfl) ?_
  refine k_arg X hl hS 1 kc_i1 (by omega) dL_law_554 dL_law_555 dL_law_556 dL_law_557 dL_law_558 ?_
  refine k_i (k_runV (vals := [.int (xs (i + 1))]) (rest := []) hX hP hl.1 Y_X7_play cok5 (lt157 sl_145) sk_145 (c_X7_play hA e1) ⟨rfl, rfl⟩ q532 ⟨Nat.le_of_ble_eq_true rfl, Nat.le_of_ble_eq_true rfl⟩ rfl rfl (Nat.le_of_ble_eq_true rfl) X.2.2.2.2 dL_law_559) hS (fun H locs hP hS => ?_)
  refine lv_aload_n hx hb dL_law_562 rfl (lv_at hl 2 rfl) ?_
  refine k_arg X hl hS 1 kc_i1 (by omega) dL_law_563 dL_law_564 dL_law_565 dL_law_566 dL_law_567 ?_
  refine k_i (k_runV (vals := [.int (xs (i + 1))]) (rest := [.int r]) hX hP hl.1 Y_X8_play cok6 s157_152 sk_152 (c_X8_play hA e2) ⟨rfl, rfl⟩ q987 ⟨Nat.le_of_ble_eq_true rfl, Nat.le_of_ble_eq_true rfl⟩ rfl rfl (Nat.le_of_ble_eq_true rfl) X.2.2.2.2 dL_law_568) hS (fun H locs hP hS => ?_)
  refine lv_icmp_eq (tgt := 1252) hx hb dL_law_571 (by decide) (fun _ => kd _ I1 M1 H locs (by omega) h1 hP hS) (fun q => absurd rfl q)
set_option maxHeartbeats 4000000 in
set_option maxRecDepth 100000 in
/-- phase -/
theorem k_14 (X : LX p s m c b L xs D tc ad K S) : CS p l e s m below meth c b L xs D tc ad K S Q 576 := by
  intro n i I M H locs ls hl hi hn h hP hS kd
  have hX := X.1
  have hx := hX.1
  have hb := hX.2.1
  have hA := hX.2.2.2.2.2.2
  obtain ⟨r, e1, e2⟩ := s_phase h
  refine lv_aload_n hx hb dL_law_576 rfl (lv_at hl 1 rfl) ?_
  refine k_i (k_runV (vals := []) (rest := []) hX hP hl.1 Y_X7_phase cok5 (lt157 sl_145) sk_145 (c_X7_phase hA e1) ⟨rfl, rfl⟩ q573 ⟨Nat.le_of_ble_eq_true rfl, Nat.le_of_ble_eq_true rfl⟩ rfl rfl (Nat.le_of_ble_eq_true rfl) X.2.2.2.2 dL_law_577) hS (fun H locs hP hS => ?_)
  refine lv_aload_n hx hb dL_law_580 rfl (lv_at hl 2 rfl) ?_
  refine k_i (k_runV (vals := []) (rest := [.int r]) hX hP hl.1 Y_X8_phase cok6 s157_152 sk_152 (c_X8_phase hA e2) ⟨rfl, rfl⟩ q1011 ⟨Nat.le_of_ble_eq_true rfl, Nat.le_of_ble_eq_true rfl⟩ rfl rfl (Nat.le_of_ble_eq_true rfl) X.2.2.2.2 dL_law_581) hS (fun H locs hP hS => ?_)
  refine lv_icmp_eq (tgt := 1252) hx hb dL_law_584 (by decide) (fun _ => kd n I M H locs (by omega) h hP hS) (fun q => absurd rfl q)
set_option maxHeartbeats 4000000 in
set_option maxRecDepth 100000 in
/-- set -/
theorem k_15 (X : LX p s m c b L xs D tc ad K S) : CS p l e s m below meth c b L xs D tc ad K S Q 589 := by
  intro n i I M H locs ls hl hi hn h hP hS kd
  have hX := X.1
  have hx := hX.1
  have hb := hX.2.1
  have hA := hX.2.2.2.2.2.2
  obtain ⟨r, e1, e2⟩ := s_set h (xs (i + 1))
  refine lv_aload_n hx hb dL_law_589 rfl (lv_at hl 1 rfl) ?_
  refine k_arg X hl hS 1 kc_i1 (by omega) dL_law_590 dL_law_591 dL_law_592 dL_law_593 dL_law_594 ?_
  refine k_i (k_runV (vals := [.int (xs (i + 1))]) (rest := []) hX hP hl.1 Y_X7_set cok5 (lt157 sl_145) sk_145 (c_X7_set hA e1) ⟨rfl, rfl⟩ q577 ⟨Nat.le_of_ble_eq_true rfl, Nat.le_of_ble_eq_true rfl⟩ rfl rfl (Nat.le_of_ble_eq_true rfl) X.2.2.2.2 dL_law_595) hS (fun H locs hP hS => ?_)
  refine lv_aload_n hx hb dL_law_598 rfl (lv_at hl 2 rfl) ?_
  refine k_arg X hl hS 1 kc_i1 (by omega) dL_law_599 dL_law_600 dL_law_601 dL_law_602 dL_law_603 ?_
  refine k_i (k_runV (vals := [.int (xs (i + 1))]) (rest := [.int r]) hX hP hl.1 Y_X8_set cok6 s157_152 sk_152 (c_X8_set hA e2) ⟨rfl, rfl⟩ q1015 ⟨Nat.le_of_ble_eq_true rfl, Nat.le_of_ble_eq_true rfl⟩ rfl rfl (Nat.le_of_ble_eq_true rfl) X.2.2.2.2 dL_law_604) hS (fun H locs hP hS => ?_)
  refine lv_icmp_eq (tgt := 1252) hx hb dL_law_607 (by decide) (fun _ => kd n I M H locs (by omega) h hP hS) (fun q => absurd rfl q)
set_option maxHeartbeats 4000000 in
set_option maxRecDepth 100000 in
/-- digest -/
theorem k_16 (X : LX p s m c b L xs D tc ad K S) : CS p l e s m below meth c b L xs D tc ad K S Q 612 := by
  intro n i I M H locs ls hl hi hn h hP hS kd
  have hX := X.1
  have hx := hX.1
  have hb := hX.2.1
  have hA := hX.2.2.2.2.2.2
  obtain ⟨r, e1, e2⟩ := s_digest h (xs (i + 1))
  refine lv_aload_n hx hb dL_law_612 rfl (lv_at hl 1 rfl) ?_
  refine k_arg X hl hS 1 kc_i1 (by omega) dL_law_613 dL_law_614 dL_law_615 dL_law_616 dL_law_617 ?_
  refine k_i (k_runV (vals := [.int (xs (i + 1))]) (rest := []) hX hP hl.1 Y_X7_digest cok5 (lt157 sl_145) sk_145 (c_X7_digest hA e1) ⟨rfl, rfl⟩ q581 ⟨Nat.le_of_ble_eq_true rfl, Nat.le_of_ble_eq_true rfl⟩ rfl rfl (Nat.le_of_ble_eq_true rfl) X.2.2.2.2 dL_law_618) hS (fun H locs hP hS => ?_)
  refine lv_aload_n hx hb dL_law_621 rfl (lv_at hl 2 rfl) ?_
  refine k_arg X hl hS 1 kc_i1 (by omega) dL_law_622 dL_law_623 dL_law_624 dL_law_625 dL_law_626 ?_
  refine k_i (k_runV (vals := [.int (xs (i + 1))]) (rest := [.int r]) hX hP hl.1 Y_X8_digest cok6 s157_152 sk_152 (c_X8_digest hA e2) ⟨rfl, rfl⟩ q1023 ⟨Nat.le_of_ble_eq_true rfl, Nat.le_of_ble_eq_true rfl⟩ rfl rfl (Nat.le_of_ble_eq_true rfl) X.2.2.2.2 dL_law_627) hS (fun H locs hP hS => ?_)
  refine lv_icmp_eq (tgt := 1252) hx hb dL_law_630 (by decide) (fun _ => kd n I M H locs (by omega) h hP hS) (fun q => absurd rfl q)
set_option maxHeartbeats 4000000 in
set_option maxRecDepth 100000 in
/-- share -/
theorem k_17 (X : LX p s m c b L xs D tc ad K S) : CS p l e s m below meth c b L xs D tc ad K S Q 635 := by
  intro n i I M H locs ls hl hi hn h hP hS kd
  have hX := X.1
  have hx := hX.1
  have hb := hX.2.1
  have hA := hX.2.2.2.2.2.2
  obtain ⟨r, e1, e2⟩ := s_share h (xs (i + 1)) (xs (i + 2))
  refine lv_aload_n hx hb dL_law_635 rfl (lv_at hl 1 rfl) ?_
  refine k_arg X hl hS 1 kc_i1 (by omega) dL_law_636 dL_law_637 dL_law_638 dL_law_639 dL_law_640 ?_
  refine k_arg X hl hS 2 kc_i2 (by omega) dL_law_641 dL_law_642 dL_law_643 dL_law_644 dL_law_645 ?_
  refine k_i (k_runV (vals := [.int (xs (i + 1)), .int (xs (i + 2))]) (rest := []) hX hP hl.1 Y_X7_share cok5 (lt157 sl_145) sk_145 (c_X7_share hA e1) ⟨rfl, rfl⟩ q586 ⟨Nat.le_of_ble_eq_true rfl, Nat.le_of_ble_eq_true rfl⟩ rfl rfl (Nat.le_of_ble_eq_true rfl) X.2.2.2.2 dL_law_646) hS (fun H locs hP hS => ?_)
  refine lv_aload_n hx hb dL_law_649 rfl (lv_at hl 2 rfl) ?_
  refine k_arg X hl hS 1 kc_i1 (by omega) dL_law_650 dL_law_651 dL_law_652 dL_law_653 dL_law_654 ?_
  refine k_arg X hl hS 2 kc_i2 (by omega) dL_law_655 dL_law_656 dL_law_657 dL_law_658 dL_law_659 ?_
  refine k_i (k_runV (vals := [.int (xs (i + 1)), .int (xs (i + 2))]) (rest := [.int r]) hX hP hl.1 Y_X8_share cok6 s157_152 sk_152 (c_X8_share hA e2) ⟨rfl, rfl⟩ q1031 ⟨Nat.le_of_ble_eq_true rfl, Nat.le_of_ble_eq_true rfl⟩ rfl rfl (Nat.le_of_ble_eq_true rfl) X.2.2.2.2 dL_law_660) hS (fun H locs hP hS => ?_)
  refine lv_icmp_eq (tgt := 1252) hx hb dL_law_663 (by decide) (fun _ => kd n I M H locs (by omega) h hP hS) (fun q => absurd rfl q)
set_option maxHeartbeats 4000000 in
set_option maxRecDepth 100000 in
/-- isRight -/
theorem k_18 (X : LX p s m c b L xs D tc ad K S) : CS p l e s m below meth c b L xs D tc ad K S Q 668 := by
  intro n i I M H locs ls hl hi hn h hP hS kd
  have hX := X.1
  have hx := hX.1
  have hb := hX.2.1
  have hA := hX.2.2.2.2.2.2
  obtain ⟨r, e1, e2⟩ := s_isRight h (xs (i + 1)) (xs (i + 2))
  refine lv_aload_n hx hb dL_law_668 rfl (lv_at hl 1 rfl) ?_
  refine k_arg X hl hS 1 kc_i1 (by omega) dL_law_669 dL_law_670 dL_law_671 dL_law_672 dL_law_673 ?_
  refine k_arg X hl hS 2 kc_i2 (by omega) dL_law_674 dL_law_675 dL_law_676 dL_law_677 dL_law_678 ?_
  refine k_i (k_runV (vals := [.int (xs (i + 1)), .int (xs (i + 2))]) (rest := []) hX hP hl.1 Y_X7_isRight cok5 (lt157 sl_145) sk_145 (c_X7_isRight hA e1) ⟨rfl, rfl⟩ q590 ⟨Nat.le_of_ble_eq_true rfl, Nat.le_of_ble_eq_true rfl⟩ rfl rfl (Nat.le_of_ble_eq_true rfl) X.2.2.2.2 dL_law_679) hS (fun H locs hP hS => ?_)
  refine lv_aload_n hx hb dL_law_682 rfl (lv_at hl 2 rfl) ?_
  refine k_arg X hl hS 1 kc_i1 (by omega) dL_law_683 dL_law_684 dL_law_685 dL_law_686 dL_law_687 ?_
  refine k_arg X hl hS 2 kc_i2 (by omega) dL_law_688 dL_law_689 dL_law_690 dL_law_691 dL_law_692 ?_
  refine k_i (k_runV (vals := [.int (xs (i + 1)), .int (xs (i + 2))]) (rest := [.int r]) hX hP hl.1 Y_X8_isRight cok6 s157_152 sk_152 (c_X8_isRight hA e2) ⟨rfl, rfl⟩ q1035 ⟨Nat.le_of_ble_eq_true rfl, Nat.le_of_ble_eq_true rfl⟩ rfl rfl (Nat.le_of_ble_eq_true rfl) X.2.2.2.2 dL_law_693) hS (fun H locs hP hS => ?_)
  refine lv_icmp_eq (tgt := 1252) hx hb dL_law_696 (by decide) (fun _ => kd n I M H locs (by omega) h hP hS) (fun q => absurd rfl q)
set_option maxHeartbeats 4000000 in
set_option maxRecDepth 100000 in
/-- check -/
theorem k_19 (X : LX p s m c b L xs D tc ad K S) : CS p l e s m below meth c b L xs D tc ad K S Q 701 := by
  intro n i I M H locs ls hl hi hn h hP hS kd
  have hX := X.1
  have hx := hX.1
  have hb := hX.2.1
  have hA := hX.2.2.2.2.2.2
  obtain ⟨r, e1, e2⟩ := s_check h (xs (i + 1)) (xs (i + 2))
  refine lv_aload_n hx hb dL_law_701 rfl (lv_at hl 1 rfl) ?_
  refine k_arg X hl hS 1 kc_i1 (by omega) dL_law_702 dL_law_703 dL_law_704 dL_law_705 dL_law_706 ?_
  refine k_arg X hl hS 2 kc_i2 (by omega) dL_law_707 dL_law_708 dL_law_709 dL_law_710 dL_law_711 ?_
  refine k_i (k_runV (vals := [.int (xs (i + 1)), .int (xs (i + 2))]) (rest := []) hX hP hl.1 Y_X7_check cok5 (lt157 sl_145) sk_145 (c_X7_check hA e1) ⟨rfl, rfl⟩ q594 ⟨Nat.le_of_ble_eq_true rfl, Nat.le_of_ble_eq_true rfl⟩ rfl rfl (Nat.le_of_ble_eq_true rfl) X.2.2.2.2 dL_law_712) hS (fun H locs hP hS => ?_)
  refine lv_aload_n hx hb dL_law_715 rfl (lv_at hl 2 rfl) ?_
  refine k_arg X hl hS 1 kc_i1 (by omega) dL_law_716 dL_law_717 dL_law_718 dL_law_719 dL_law_720 ?_
  refine k_arg X hl hS 2 kc_i2 (by omega) dL_law_721 dL_law_722 dL_law_723 dL_law_724 dL_law_725 ?_
  refine k_i (k_runV (vals := [.int (xs (i + 1)), .int (xs (i + 2))]) (rest := [.int r]) hX hP hl.1 Y_X8_check cok6 s157_152 sk_152 (c_X8_check hA e2) ⟨rfl, rfl⟩ q1039 ⟨Nat.le_of_ble_eq_true rfl, Nat.le_of_ble_eq_true rfl⟩ rfl rfl (Nat.le_of_ble_eq_true rfl) X.2.2.2.2 dL_law_726) hS (fun H locs hP hS => ?_)
  refine lv_icmp_eq (tgt := 1252) hx hb dL_law_729 (by decide) (fun _ => kd n I M H locs (by omega) h hP hS) (fun q => absurd rfl q)
set_option maxHeartbeats 4000000 in
set_option maxRecDepth 100000 in
/-- recover -/
theorem k_20 (X : LX p s m c b L xs D tc ad K S) : CS p l e s m below meth c b L xs D tc ad K S Q 734 := by
  intro n i I M H locs ls hl hi hn h hP hS kd
  have hX := X.1
  have hx := hX.1
  have hb := hX.2.1
  have hA := hX.2.2.2.2.2.2
  obtain ⟨r, e1, e2⟩ := s_recover h (xs (i + 1)) (xs (i + 2))
  refine lv_aload_n hx hb dL_law_734 rfl (lv_at hl 1 rfl) ?_
  refine k_arg X hl hS 1 kc_i1 (by omega) dL_law_735 dL_law_736 dL_law_737 dL_law_738 dL_law_739 ?_
  refine k_arg X hl hS 2 kc_i2 (by omega) dL_law_740 dL_law_741 dL_law_742 dL_law_743 dL_law_744 ?_
  refine k_i (k_runV (vals := [.int (xs (i + 1)), .int (xs (i + 2))]) (rest := []) hX hP hl.1 Y_X7_recover cok5 (lt157 sl_145) sk_145 (c_X7_recover hA e1) ⟨rfl, rfl⟩ q599 ⟨Nat.le_of_ble_eq_true rfl, Nat.le_of_ble_eq_true rfl⟩ rfl rfl (Nat.le_of_ble_eq_true rfl) X.2.2.2.2 dL_law_745) hS (fun H locs hP hS => ?_)
  refine lv_aload_n hx hb dL_law_748 rfl (lv_at hl 2 rfl) ?_
  refine k_arg X hl hS 1 kc_i1 (by omega) dL_law_749 dL_law_750 dL_law_751 dL_law_752 dL_law_753 ?_
  refine k_arg X hl hS 2 kc_i2 (by omega) dL_law_754 dL_law_755 dL_law_756 dL_law_757 dL_law_758 ?_
  refine k_i (k_runV (vals := [.int (xs (i + 1)), .int (xs (i + 2))]) (rest := [.int r]) hX hP hl.1 Y_X8_recover cok6 s157_152 sk_152 (c_X8_recover hA e2) ⟨rfl, rfl⟩ q1043 ⟨Nat.le_of_ble_eq_true rfl, Nat.le_of_ble_eq_true rfl⟩ rfl rfl (Nat.le_of_ble_eq_true rfl) X.2.2.2.2 dL_law_759) hS (fun H locs hP hS => ?_)
  refine lv_icmp_eq (tgt := 1252) hx hb dL_law_762 (by decide) (fun _ => kd n I M H locs (by omega) h hP hS) (fun q => absurd rfl q)
set_option maxHeartbeats 4000000 in
set_option maxRecDepth 100000 in
/-- lock -/
theorem k_21 (X : LX p s m c b L xs D tc ad K S) : CS p l e s m below meth c b L xs D tc ad K S Q 767 := by
  intro n i I M H locs ls hl hi hn h hP hS kd
  have hX := X.1
  have hx := hX.1
  have hb := hX.2.1
  have hA := hX.2.2.2.2.2.2
  obtain ⟨r, e1, e2⟩ := s_lock h (xs (i + 1)) (xs (i + 2))
  refine lv_aload_n hx hb dL_law_767 rfl (lv_at hl 1 rfl) ?_
  refine k_arg X hl hS 1 kc_i1 (by omega) dL_law_768 dL_law_769 dL_law_770 dL_law_771 dL_law_772 ?_
  refine k_arg X hl hS 2 kc_i2 (by omega) dL_law_773 dL_law_774 dL_law_775 dL_law_776 dL_law_777 ?_
  refine k_i (k_runV (vals := [.int (xs (i + 1)), .int (xs (i + 2))]) (rest := []) hX hP hl.1 Y_X7_lock cok5 (lt157 sl_145) sk_145 (c_X7_lock hA e1) ⟨rfl, rfl⟩ q615 ⟨Nat.le_of_ble_eq_true rfl, Nat.le_of_ble_eq_true rfl⟩ rfl rfl (Nat.le_of_ble_eq_true rfl) X.2.2.2.2 dL_law_778) hS (fun H locs hP hS => ?_)
  refine lv_aload_n hx hb dL_law_781 rfl (lv_at hl 2 rfl) ?_
  refine k_arg X hl hS 1 kc_i1 (by omega) dL_law_782 dL_law_783 dL_law_784 dL_law_785 dL_law_786 ?_
  refine k_arg X hl hS 2 kc_i2 (by omega) dL_law_787 dL_law_788 dL_law_789 dL_law_790 dL_law_791 ?_
  refine k_i (k_runV (vals := [.int (xs (i + 1)), .int (xs (i + 2))]) (rest := [.int r]) hX hP hl.1 Y_X8_lock cok6 s157_152 sk_152 (c_X8_lock hA e2) ⟨rfl, rfl⟩ q1050 ⟨Nat.le_of_ble_eq_true rfl, Nat.le_of_ble_eq_true rfl⟩ rfl rfl (Nat.le_of_ble_eq_true rfl) X.2.2.2.2 dL_law_792) hS (fun H locs hP hS => ?_)
  refine lv_icmp_eq (tgt := 1252) hx hb dL_law_795 (by decide) (fun _ => kd n I M H locs (by omega) h hP hS) (fun q => absurd rfl q)
set_option maxHeartbeats 4000000 in
set_option maxRecDepth 100000 in
/-- results -/
theorem k_22 (X : LX p s m c b L xs D tc ad K S) : CS p l e s m below meth c b L xs D tc ad K S Q 800 := by
  intro n i I M H locs ls hl hi hn h hP hS kd
  have hX := X.1
  have hx := hX.1
  have hb := hX.2.1
  have hA := hX.2.2.2.2.2.2
  obtain ⟨r, I1, M1, e1, e2, h1⟩ := s_results h (xs (i + 1))
  refine lv_aload_n hx hb dL_law_800 rfl (lv_at hl 1 rfl) ?_
  refine k_arg X hl hS 1 kc_i1 (by omega) dL_law_801 dL_law_802 dL_law_803 dL_law_804 dL_law_805 ?_
  refine k_i (k_runV (vals := [.int (xs (i + 1))]) (rest := []) hX hP hl.1 Y_X7_results cok5 (lt157 sl_145) sk_145 (c_X7_results hA e1) ⟨rfl, rfl⟩ q619 ⟨Nat.le_of_ble_eq_true rfl, Nat.le_of_ble_eq_true rfl⟩ rfl rfl (Nat.le_of_ble_eq_true rfl) X.2.2.2.2 dL_law_806) hS (fun H locs hP hS => ?_)
  refine lv_aload_n hx hb dL_law_809 rfl (lv_at hl 2 rfl) ?_
  refine k_arg X hl hS 1 kc_i1 (by omega) dL_law_810 dL_law_811 dL_law_812 dL_law_813 dL_law_814 ?_
  refine k_i (k_runV (vals := [.int (xs (i + 1))]) (rest := [.int r]) hX hP hl.1 Y_X8_results cok6 s157_152 sk_152 (c_X8_results hA e2) ⟨rfl, rfl⟩ q1054 ⟨Nat.le_of_ble_eq_true rfl, Nat.le_of_ble_eq_true rfl⟩ rfl rfl (Nat.le_of_ble_eq_true rfl) X.2.2.2.2 dL_law_815) hS (fun H locs hP hS => ?_)
  refine lv_icmp_eq (tgt := 1252) hx hb dL_law_818 (by decide) (fun _ => kd _ I1 M1 H locs (by omega) h1 hP hS) (fun q => absurd rfl q)
set_option maxHeartbeats 4000000 in
set_option maxRecDepth 100000 in
/-- canForce -/
theorem k_23 (X : LX p s m c b L xs D tc ad K S) : CS p l e s m below meth c b L xs D tc ad K S Q 823 := by
  intro n i I M H locs ls hl hi hn h hP hS kd
  have hX := X.1
  have hx := hX.1
  have hb := hX.2.1
  have hA := hX.2.2.2.2.2.2
  obtain ⟨r, I1, M1, e1, e2, h1⟩ := s_canForce h (xs (i + 1)) (xs (i + 2))
  refine lv_aload_n hx hb dL_law_823 rfl (lv_at hl 1 rfl) ?_
  refine k_arg X hl hS 1 kc_i1 (by omega) dL_law_824 dL_law_825 dL_law_826 dL_law_827 dL_law_828 ?_
  refine k_arg X hl hS 2 kc_i2 (by omega) dL_law_829 dL_law_830 dL_law_831 dL_law_832 dL_law_833 ?_
  refine k_i (k_runV (vals := [.int (xs (i + 1)), .int (xs (i + 2))]) (rest := []) hX hP hl.1 Y_X7_canForce cok5 (lt157 sl_145) sk_145 (c_X7_canForce hA e1) ⟨rfl, rfl⟩ q645 ⟨Nat.le_of_ble_eq_true rfl, Nat.le_of_ble_eq_true rfl⟩ rfl rfl (Nat.le_of_ble_eq_true rfl) X.2.2.2.2 dL_law_834) hS (fun H locs hP hS => ?_)
  refine lv_aload_n hx hb dL_law_837 rfl (lv_at hl 2 rfl) ?_
  refine k_arg X hl hS 1 kc_i1 (by omega) dL_law_838 dL_law_839 dL_law_840 dL_law_841 dL_law_842 ?_
  refine k_arg X hl hS 2 kc_i2 (by omega) dL_law_843 dL_law_844 dL_law_845 dL_law_846 dL_law_847 ?_
  refine k_i (k_runV (vals := [.int (xs (i + 1)), .int (xs (i + 2))]) (rest := [.int r]) hX hP hl.1 Y_X8_canForce cok6 s157_152 sk_152 (c_X8_canForce hA e2) ⟨rfl, rfl⟩ q1062 ⟨Nat.le_of_ble_eq_true rfl, Nat.le_of_ble_eq_true rfl⟩ rfl rfl (Nat.le_of_ble_eq_true rfl) X.2.2.2.2 dL_law_848) hS (fun H locs hP hS => ?_)
  refine lv_icmp_eq (tgt := 1252) hx hb dL_law_851 (by decide) (fun _ => kd _ I1 M1 H locs (by omega) h1 hP hS) (fun q => absurd rfl q)
set_option maxHeartbeats 4000000 in
set_option maxRecDepth 100000 in
/-- bias -/
theorem k_24 (X : LX p s m c b L xs D tc ad K S) : CS p l e s m below meth c b L xs D tc ad K S Q 856 := by
  intro n i I M H locs ls hl hi hn h hP hS kd
  have hX := X.1
  have hx := hX.1
  have hb := hX.2.1
  have hA := hX.2.2.2.2.2.2
  obtain ⟨r, I1, M1, e1, e2, h1⟩ := s_bias h (xs (i + 1)) (xs (i + 2))
  refine lv_aload_n hx hb dL_law_856 rfl (lv_at hl 1 rfl) ?_
  refine k_arg X hl hS 1 kc_i1 (by omega) dL_law_857 dL_law_858 dL_law_859 dL_law_860 dL_law_861 ?_
  refine k_arg X hl hS 2 kc_i2 (by omega) dL_law_862 dL_law_863 dL_law_864 dL_law_865 dL_law_866 ?_
  refine k_i (k_runV (vals := [.int (xs (i + 1)), .int (xs (i + 2))]) (rest := []) hX hP hl.1 Y_X7_bias cok5 (lt157 sl_145) sk_145 (c_X7_bias hA e1) ⟨rfl, rfl⟩ q653 ⟨Nat.le_of_ble_eq_true rfl, Nat.le_of_ble_eq_true rfl⟩ rfl rfl (Nat.le_of_ble_eq_true rfl) X.2.2.2.2 dL_law_867) hS (fun H locs hP hS => ?_)
  refine lv_aload_n hx hb dL_law_870 rfl (lv_at hl 2 rfl) ?_
  refine k_arg X hl hS 1 kc_i1 (by omega) dL_law_871 dL_law_872 dL_law_873 dL_law_874 dL_law_875 ?_
  refine k_arg X hl hS 2 kc_i2 (by omega) dL_law_876 dL_law_877 dL_law_878 dL_law_879 dL_law_880 ?_
  refine k_i (k_runV (vals := [.int (xs (i + 1)), .int (xs (i + 2))]) (rest := [.int r]) hX hP hl.1 Y_X8_bias cok6 s157_152 sk_152 (c_X8_bias hA e2) ⟨rfl, rfl⟩ q1070 ⟨Nat.le_of_ble_eq_true rfl, Nat.le_of_ble_eq_true rfl⟩ rfl rfl (Nat.le_of_ble_eq_true rfl) X.2.2.2.2 dL_law_881) hS (fun H locs hP hS => ?_)
  refine lv_icmp_eq (tgt := 1252) hx hb dL_law_884 (by decide) (fun _ => kd _ I1 M1 H locs (by omega) h1 hP hS) (fun q => absurd rfl q)
set_option maxHeartbeats 4000000 in
set_option maxRecDepth 100000 in
/-- slow -/
theorem k_25 (X : LX p s m c b L xs D tc ad K S) : CS p l e s m below meth c b L xs D tc ad K S Q 889 := by
  intro n i I M H locs ls hl hi hn h hP hS kd
  have hX := X.1
  have hx := hX.1
  have hb := hX.2.1
  have hA := hX.2.2.2.2.2.2
  obtain ⟨r, e1, e2⟩ := s_slow  (xs (i + 1)) (xs (i + 2))
  refine lv_aload_n hx hb dL_law_889 rfl (lv_at hl 1 rfl) ?_
  refine k_arg X hl hS 1 kc_i1 (by omega) dL_law_890 dL_law_891 dL_law_892 dL_law_893 dL_law_894 ?_
  refine k_arg X hl hS 2 kc_i2 (by omega) dL_law_895 dL_law_896 dL_law_897 dL_law_898 dL_law_899 ?_
  refine k_i (k_runV (vals := [.int (xs (i + 1)), .int (xs (i + 2))]) (rest := []) hX hP hl.1 Y_X7_slow cok5 (lt157 sl_145) sk_145 (c_X7_slow hA e1) ⟨rfl, rfl⟩ q669 ⟨Nat.le_of_ble_eq_true rfl, Nat.le_of_ble_eq_true rfl⟩ rfl rfl (Nat.le_of_ble_eq_true rfl) X.2.2.2.2 dL_law_900) hS (fun H locs hP hS => ?_)
  refine lv_aload_n hx hb dL_law_903 rfl (lv_at hl 2 rfl) ?_
  refine k_arg X hl hS 1 kc_i1 (by omega) dL_law_904 dL_law_905 dL_law_906 dL_law_907 dL_law_908 ?_
  refine k_arg X hl hS 2 kc_i2 (by omega) dL_law_909 dL_law_910 dL_law_911 dL_law_912 dL_law_913 ?_
  refine k_i (k_runV (vals := [.int (xs (i + 1)), .int (xs (i + 2))]) (rest := [.int r]) hX hP hl.1 Y_X8_slow cok6 s157_152 sk_152 (c_X8_slow hA e2) ⟨rfl, rfl⟩ q1074 ⟨Nat.le_of_ble_eq_true rfl, Nat.le_of_ble_eq_true rfl⟩ rfl rfl (Nat.le_of_ble_eq_true rfl) X.2.2.2.2 dL_law_914) hS (fun H locs hP hS => ?_)
  refine lv_icmp_eq (tgt := 1252) hx hb dL_law_917 (by decide) (fun _ => kd n I M H locs (by omega) h hP hS) (fun q => absurd rfl q)
end
