/-! the loops of the law -/
section
variable {p : Program} {l : Launch} {e : Env} {s : State} {m : MethodId} {below : List Frame} {meth : Method} {c : Code} {b L : Nat} {xs : Nat → Int32} {D : va_G} {tc : Tc} {ad : Nat → Nat} {K S : Nat} {Q : State → Prop}
set_option maxHeartbeats 4000000 in
set_option maxRecDepth 100000 in
theorem k_loop2 (X : LX p s m c b L xs D tc ad K S) {n paid : Nat} (n6 : n ≤ 6) (n2 : 2 ≤ n)
    (kx : ∀ (H : Heap) (locs : List Loc) (ls : Array Slot), va_S (fun q : Nat => s.heap.size ≤ q) s.heap H locs → W p l e room_1 s m #[Value.ref b] below meth c H locs K S Q (F0 m 185 ls [.int 1])) :
    ∀ (d k : Nat), k + d = 24 → ∀ (I : St) (H : Heap) (locs : List Loc) (ls : Array Slot), lv_has ls 8 [(0, .ref b), (1, .ref (ad 145)), (2, .int (nI n)), (3, .long (lN paid)), (5, .int (nI k))] → IV (2 * k) n paid I → va_P D vwCl (wl tc ad I) H → va_S (fun q : Nat => s.heap.size ≤ q) s.heap H locs → W p l e room_1 s m #[Value.ref b] below meth c H locs K S Q (F0 m 106 ls []) := by
  have hx := X.1.1
  have hb := X.1.2.1
  have hA := X.1.2.2.2.2.2.2
  intro d
  induction d with
  | zero =>
    intro k hk I H locs ls hl h hP hS
    have k24 : k = 24 := by omega
    subst k24
    refine lv_iload hx hb dL_law_106 (lv_at hl 4 rfl) ?_
    refine lv_bipush (v := 24) hx hb dL_law_108 (by decide) ?_
    refine lv_icmp_ge (tgt := 180) hx hb dL_law_110 (by decide) (fun _ => ?_) (fun q => absurd (show (24 : Int32) ≤ nI 24 by decide) q)
    refine lv_aload_n hx hb dL_law_180 rfl (lv_at hl 1 rfl) ?_
    refine lv_iload_n hx hb dL_law_181 rfl (lv_at hl 2 rfl) ?_
    refine k_i (k_runS (vals := [.ref (ad 145), .int (nI n)]) (rest := []) X.1 hP hl.1 Y_L_fails (c_L_fails (M := I) hA (L_fails h (by decide))) ⟨rfl, rfl⟩ q306 ⟨Nat.le_of_ble_eq_true rfl, Nat.le_of_ble_eq_true rfl⟩ rfl rfl (Nat.le_of_ble_eq_true rfl) X.2.2.2.2 dL_law_182) hS (fun H locs hP hS => ?_)
    exact kx H locs ls hS
  | succ d ih =>
    intro k hk I H locs ls hl h hP hS
    refine lv_iload hx hb dL_law_106 (lv_at hl 4 rfl) ?_
    refine lv_bipush (v := 24) hx hb dL_law_108 (by decide) ?_
    refine lv_icmp_ge (tgt := 180) hx hb dL_law_110 (by decide) (fun q => absurd q (nI_ge (b := 24) (by omega) (by decide))) (fun _ => ?_)
    refine lv_aload_n hx hb dL_law_113 rfl (lv_at hl 0 rfl) ?_
    refine lv_iconst (v := 2) hx hb dL_law_114 kc_i2 ?_
    refine lv_iload hx hb dL_law_115 (lv_at hl 4 rfl) ?_
    refine lv_iadd hx hb dL_law_117 ?_
    rw [show (2 : Int32) + nI k = nI (2 + k) from nI_add 2 k]
    refine k_cell X (k := 2 + k) (by omega) hP hS hl.1 (Nat.le_of_ble_eq_true rfl) dL_law_118 (fun x H locs hP hS => ?_)
    refine lv_istore (lv' := [(6, .int x), (0, .ref b), (1, .ref (ad 145)), (2, .int (nI n)), (3, .long (lN paid)), (5, .int (nI k))]) hx hb dL_law_121 hl (Nat.le_of_ble_eq_true rfl) rfl (fun ls hl => ?_)
    refine lv_iload hx hb dL_law_123 (lv_at hl 0 rfl) ?_
    refine lv_bipush (v := 24) hx hb dL_law_125 (by decide) ?_
    refine lv_ishr hx hb dL_law_127 ?_
    refine lv_iload_n hx hb dL_law_128 rfl (lv_at hl 3 rfl) ?_
    obtain ⟨j1, j1n, j1e⟩ := e_up (ishr x 24) (k := n) (by omega) (by omega)
    refine k_up X j1e hP hS hl.1 (Nat.le_of_ble_eq_true rfl) dL_law_129 (fun H locs hP hS => ?_)
    refine lv_istore (lv' := [(7, .int (nI j1)), (6, .int x), (0, .ref b), (1, .ref (ad 145)), (2, .int (nI n)), (3, .long (lN paid)), (5, .int (nI k))]) hx hb dL_law_132 hl (Nat.le_of_ble_eq_true rfl) rfl (fun ls hl => ?_)
    refine lv_aload_n hx hb dL_law_134 rfl (lv_at hl 3 rfl) ?_
    refine lv_iload hx hb dL_law_135 (lv_at hl 0 rfl) ?_
    refine lv_iload hx hb dL_law_137 (lv_at hl 1 rfl) ?_
    refine lv_bipush (v := 20) hx hb dL_law_139 (by decide) ?_
    refine lv_ishr hx hb dL_law_141 ?_
    refine lv_iload_n hx hb dL_law_142 rfl (lv_at hl 4 rfl) ?_
    obtain ⟨j2, j2n, j2e⟩ := e_up (ishr x 20) (k := n) (by omega) (by omega)
    refine k_up X j2e hP hS hl.1 (rest := [.int (nI j1), .ref (ad 145)]) (Nat.le_of_ble_eq_true rfl) dL_law_143 (fun H locs hP hS => ?_)
    refine lv_iload hx hb dL_law_146 (lv_at hl 1 rfl) ?_
    refine lv_iload_n hx hb dL_law_148 rfl (lv_at hl 4 rfl) ?_
    obtain ⟨I', e1, h'⟩ := L_steps h (by omega) j1n j2n x
    refine k_i (k_runS (vals := [.ref (ad 145), .int (nI j1), .int (nI j2), .int x, .int (nI n)]) (rest := []) X.1 hP hl.1 Y_L_steps (c_L_steps (M := I) hA e1) ⟨rfl, rfl⟩ q646 ⟨Nat.le_of_ble_eq_true rfl, Nat.le_of_ble_eq_true rfl⟩ rfl rfl (Nat.le_of_ble_eq_true rfl) X.2.2.2.2 dL_law_149) hS (fun H locs hP hS => ?_)
    refine lv_if_eq (tgt := 172) hx hb dL_law_152 (by decide) (fun q => absurd q (by decide)) (fun _ => ?_)
    refine lv_aload_n hx hb dL_law_155 rfl (lv_at hl 3 rfl) ?_
    refine lv_iload_n hx hb dL_law_156 rfl (lv_at hl 4 rfl) ?_
    refine k_i (k_runS (vals := [.ref (ad 145), .int (nI n)]) (rest := []) X.1 hP hl.1 Y_L_sets (c_L_sets (I := I') (M := I') hA (L_sets h' (by omega))) ⟨rfl, rfl⟩ q626 ⟨Nat.le_of_ble_eq_true rfl, Nat.le_of_ble_eq_true rfl⟩ rfl rfl (Nat.le_of_ble_eq_true rfl) X.2.2.2.2 dL_law_157) hS (fun H locs hP hS => ?_)
    refine lv_if_eq (tgt := 172) hx hb dL_law_160 (by decide) (fun q => absurd q (by decide)) (fun _ => ?_)
    refine lv_aload_n hx hb dL_law_163 rfl (lv_at hl 3 rfl) ?_
    refine lv_iload_n hx hb dL_law_164 rfl (lv_at hl 4 rfl) ?_
    refine lv_lload_n hx hb dL_law_165 rfl (lv_at hl 5 rfl) ?_
    refine k_i (k_runS (vals := [.ref (ad 145), .int (nI n), .long (lN paid)]) (rest := []) X.1 hP hl.1 Y_L_accounts (c_L_accounts (I := I') (M := I') hA (L_accounts h' (by omega))) ⟨rfl, rfl⟩ q629 ⟨Nat.le_of_ble_eq_true rfl, Nat.le_of_ble_eq_true rfl⟩ rfl rfl (Nat.le_of_ble_eq_true rfl) X.2.2.2.2 dL_law_166) hS (fun H locs hP hS => ?_)
    refine lv_if_ne (tgt := 174) hx hb dL_law_169 (by decide) (fun _ => ?_) (fun q => absurd q (by decide))
    refine lv_iinc (v := nI (k + 1)) (lv' := [(5, .int (nI (k + 1))), (7, .int (nI j1)), (6, .int x), (0, .ref b), (1, .ref (ad 145)), (2, .int (nI n)), (3, .long (lN paid))]) hx hb dL_law_174 hl (k := 6) rfl (nI_1 k) (Nat.le_of_ble_eq_true rfl) rfl (fun ls hl => ?_)
    refine lv_goto (tgt := 106) hx hb dL_law_177 (by decide) ?_
    exact ih (k + 1) (by omega) I' H locs ls (lv_sub hl [3, 4, 5, 6, 0] rfl) (h'.mono (by omega)) hP hS
set_option maxHeartbeats 4000000 in
set_option maxRecDepth 100000 in
theorem k_loop1 (X : LX p s m c b L xs D tc ad K S) {n : Nat} (n6 : n ≤ 6) (n2 : 2 ≤ n)
    (kx : ∀ (H : Heap) (locs : List Loc) (ls : Array Slot), va_S (fun q : Nat => s.heap.size ≤ q) s.heap H locs → W p l e room_1 s m #[Value.ref b] below meth c H locs K S Q (F0 m 185 ls [.int 1])) :
    ∀ (d k paid : Nat), k + d = n → paid ≤ 200 * k → ∀ (I : St) (H : Heap) (locs : List Loc) (ls : Array Slot), lv_has ls 8 [(0, .ref b), (1, .ref (ad 145)), (2, .int (nI n)), (3, .long (lN paid)), (5, .int (nI k))] → SU k paid I → va_P D vwCl (wl tc ad I) H → va_S (fun q : Nat => s.heap.size ≤ q) s.heap H locs → W p l e room_1 s m #[Value.ref b] below meth c H locs K S Q (F0 m 25 ls []) := by
  have hx := X.1.1
  have hb := X.1.2.1
  have hA := X.1.2.2.2.2.2.2
  intro d
  induction d with
  | zero =>
    intro k paid hk hpd I H locs ls hl h hP hS
    have kn : k = n := by omega
    subst kn
    refine lv_iload hx hb dL_law_25 (lv_at hl 4 rfl) ?_
    refine lv_iload_n hx hb dL_law_27 rfl (lv_at hl 2 rfl) ?_
    refine lv_icmp_ge (tgt := 74) hx hb dL_law_28 (by decide) (fun _ => ?_) (fun q => absurd (nI_le (Nat.le_refl k) (by omega)) q)
    refine lv_aload_n hx hb dL_law_74 rfl (lv_at hl 1 rfl) ?_
    refine lv_aload_n hx hb dL_law_75 rfl (lv_at hl 0 rfl) ?_
    refine lv_iconst (v := nI 1) hx hb dL_law_76 (by decide) ?_
    refine k_cell X (k := 1) (by decide) hP hS hl.1 (Nat.le_of_ble_eq_true rfl) dL_law_77 (fun x H locs hP hS => ?_)
    refine lv_bipush (v := nI 40) hx hb dL_law_80 (by decide) ?_
    obtain ⟨f, fn, fe⟩ := e_up x (k := 40) (by decide) (by decide)
    refine k_up X fe hP hS hl.1 (rest := [.ref (ad 145)]) (Nat.le_of_ble_eq_true rfl) dL_law_82 (fun H locs hP hS => ?_)
    obtain ⟨I', e1, h'⟩ := SU_fine h n2 n6 fn
    refine k_i (k_runV (vals := [.int (nI f)]) (rest := []) X.1 hP hl.1 Y_X7_setFine cok5 (lt157 sl_145) sk_145 (c_X7_setFine (M := I) hA e1) ⟨rfl, rfl⟩ q290 ⟨Nat.le_of_ble_eq_true rfl, Nat.le_of_ble_eq_true rfl⟩ rfl rfl (Nat.le_of_ble_eq_true rfl) X.2.2.2.2 dL_law_85) hS (fun H locs hP hS => ?_)
    refine lv_bipush (v := 10) hx hb dL_law_88 (by decide) ?_
    refine lv_icmp_ne (tgt := 101) hx hb dL_law_90 (by decide) (fun q => absurd rfl q) (fun _ => ?_)
    refine lv_aload_n hx hb dL_law_93 rfl (lv_at hl 1 rfl) ?_
    refine lv_iload_n hx hb dL_law_94 rfl (lv_at hl 2 rfl) ?_
    refine k_i (k_runS (vals := [.ref (ad 145), .int (nI k)]) (rest := []) X.1 hP hl.1 Y_L_fails (c_L_fails (I := I') (M := I') hA (L_fails h' (by decide))) ⟨rfl, rfl⟩ q306 ⟨Nat.le_of_ble_eq_true rfl, Nat.le_of_ble_eq_true rfl⟩ rfl rfl (Nat.le_of_ble_eq_true rfl) X.2.2.2.2 dL_law_95) hS (fun H locs hP hS => ?_)
    refine lv_if_ne (tgt := 103) hx hb dL_law_98 (by decide) (fun _ => ?_) (fun q => absurd q (by decide))
    refine lv_iconst (v := nI 0) hx hb dL_law_103 (by decide) ?_
    refine lv_istore (lv' := [(5, .int (nI 0)), (0, .ref b), (1, .ref (ad 145)), (2, .int (nI k)), (3, .long (lN paid))]) hx hb dL_law_104 hl (Nat.le_of_ble_eq_true rfl) rfl (fun ls hl => ?_)
    exact k_loop2 X n6 n2 kx 24 0 rfl I' H locs ls (lv_sub hl [1, 2, 3, 4, 0] rfl) h' hP hS
  | succ d ih =>
    intro k paid hk hpd I H locs ls hl h hP hS
    refine lv_iload hx hb dL_law_25 (lv_at hl 4 rfl) ?_
    refine lv_iload_n hx hb dL_law_27 rfl (lv_at hl 2 rfl) ?_
    refine lv_icmp_ge (tgt := 74) hx hb dL_law_28 (by decide) (fun q => absurd q (nI_ge (by omega) (by omega))) (fun _ => ?_)
    refine lv_aload_n hx hb dL_law_31 rfl (lv_at hl 0 rfl) ?_
    refine lv_iconst (v := nI 0) hx hb dL_law_32 (by decide) ?_
    refine k_cell X (k := 0) (by decide) hP hS hl.1 (Nat.le_of_ble_eq_true rfl) dL_law_33 (fun x H locs hP hS => ?_)
    refine lv_iconst (v := 3) hx hb dL_law_36 kc_i3 ?_
    refine lv_iload hx hb dL_law_37 (lv_at hl 4 rfl) ?_
    refine lv_iadd hx hb dL_law_39 ?_
    refine lv_ishr hx hb dL_law_40 ?_
    refine lv_sipush (v := nI 200) hx hb dL_law_41 (by decide) ?_
    obtain ⟨q, qn, qe⟩ := e_up (ishr x (3 + nI k)) (k := 200) (by decide) (by decide)
    refine k_up X qe hP hS hl.1 (Nat.le_of_ble_eq_true rfl) dL_law_44 (fun H locs hP hS => ?_)
    refine lv_istore (lv' := [(6, .int (nI q)), (0, .ref b), (1, .ref (ad 145)), (2, .int (nI n)), (3, .long (lN paid)), (5, .int (nI k))]) hx hb dL_law_47 hl (Nat.le_of_ble_eq_true rfl) rfl (fun ls hl => ?_)
    refine lv_lload_n hx hb dL_law_49 rfl (lv_at hl 4 rfl) ?_
    refine lv_iload hx hb dL_law_50 (lv_at hl 0 rfl) ?_
    refine lv_i2l (v := lN q) hx hb dL_law_52 (nI_l (by omega)) ?_
    refine lv_ladd hx hb dL_law_53 ?_
    rw [lN_add]
    refine lv_lstore_n (lv' := [(3, .long (lN (paid + q))), (6, .int (nI q)), (0, .ref b), (1, .ref (ad 145)), (2, .int (nI n)), (5, .int (nI k))]) hx hb dL_law_54 rfl hl (Nat.le_of_ble_eq_true rfl) rfl (fun ls hl => ?_)
    refine lv_aload_n hx hb dL_law_55 rfl (lv_at hl 3 rfl) ?_
    refine lv_iload hx hb dL_law_56 (lv_at hl 1 rfl) ?_
    obtain ⟨I', e1, h'⟩ := SU_add h (by omega) qn hpd
    refine k_i (k_runV (vals := [.int (nI q)]) (rest := []) X.1 hP hl.1 Y_X7_addParticipant cok5 (lt157 sl_145) sk_145 (c_X7_addParticipant (M := I) hA e1) ⟨rfl, rfl⟩ q253 ⟨Nat.le_of_ble_eq_true rfl, Nat.le_of_ble_eq_true rfl⟩ rfl rfl (Nat.le_of_ble_eq_true rfl) X.2.2.2.2 dL_law_58) hS (fun H locs hP hS => ?_)
    refine lv_iload hx hb dL_law_61 (lv_at hl 5 rfl) ?_
    refine lv_icmp_eq (tgt := 68) hx hb dL_law_63 (by decide) (fun _ => ?_) (fun q => absurd rfl q)
    refine lv_iinc (v := nI (k + 1)) (lv' := [(5, .int (nI (k + 1))), (3, .long (lN (paid + q))), (6, .int (nI q)), (0, .ref b), (1, .ref (ad 145)), (2, .int (nI n))]) hx hb dL_law_68 hl (k := 5) rfl (nI_1 k) (Nat.le_of_ble_eq_true rfl) rfl (fun ls hl => ?_)
    refine lv_goto (tgt := 25) hx hb dL_law_71 (by decide) ?_
    exact ih (k + 1) (paid + q) (by omega) (by omega) I' H locs ls (lv_sub hl [3, 4, 5, 1, 0] rfl) h' hP hS
end
