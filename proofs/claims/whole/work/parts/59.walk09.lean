/-! OwnerlessCoinModel.commits(III)V -/
def rm_X8_commits : Room := { frames := 3, cells := 0, slots := 0, locals := 67 }
theorem Y_X8_commits : yv yX8_commits cX8_commits 5 none 3 RX8 := ⟨q884, q883, q20, q57, by decide +kernel⟩
set_option maxHeartbeats 4000000 in
set_option maxRecDepth 100000 in
theorem t_X8_commits_b146 {p : Program} {l : Launch} {e : Env} {s : State} {m : MethodId} {args : Array Value} {below : List Frame} {meth : Method} {c : Code} {D : va_G} {tc : Tc} {ad : Nat → Nat} {A : Nat → Prop} {I : St} {II : St} (hX : cx p s m args c cX8_commits 5 RX8 D tc ad A) (hr : meth.sig.returnType = none) (hlk : meth.locks = false) : ∀ (M : St), f_X8_commits_b146 M = some II → ∀ (H : Heap) (locs : List Loc) (ls : Array Slot), va_P D vwCl (wl tc ad (cmb I M)) H → va_S A s.heap H locs → lv_has ls 5 [] → W p l e rm_X8_commits s m args below meth c H locs 0 0 (MQ below (qv D tc ad A (cmb I II)) args s 0 0 A) (F0 m 146 ls []) := by
  intro M h H locs ls hP hS hl
  unfold f_X8_commits_b146 at h
  have hx := hX.1
  have hb := hX.2.1
  have hown := hX.2.2.2.1
  have hts := hX.2.2.2.2.1
  have hA := hX.2.2.2.2.2.2
  cases h
  exact j_vret hX hr hlk hP hS dX8_commits_146
set_option maxHeartbeats 4000000 in
set_option maxRecDepth 100000 in
theorem c_X8_commits {l : Launch} {D : va_G} {tc : Tc} {ad : Nat → Nat} {A : Nat → Prop} (hA : adok ad A) {I M : St} {v1 : Int32} {v2 : Int32} {v3 : Int32} {II : St} (h : f_X8_commits v1 v2 v3 M = some II) : Met l yX8_commits (Cond.code yX8_commits cX8_commits 5 none :: tw) rm_X8_commits (pre D tc ad [.ref (ad 152), .int v1, .int v2, .int v3] (cmb I M)) (qv D tc ad A (cmb I II)) 0 0 A := by
  unfold f_X8_commits at h
  refine mk_met (own := RX8) (by decide +kernel) rfl hA (Nat.le_of_ble_eq_true rfl) ?_
  intro p e s m below meth c ls hX hr hlk hl hP hS
  have hl : lv_has ls 5 [(0, .ref (ad 152)), (1, .int v1), (2, .int v2), (3, .int v3)] := hl
  have hx := hX.1
  have hb := hX.2.1
  have hown := hX.2.2.2.1
  have hts := hX.2.2.2.2.1
  refine lv_iload_n hx hb dX8_commits_0 rfl (lv_at hl 1 rfl) ?_
  obtain ⟨r2, e1, h⟩ := ob1_some h
  refine j_i (j_runS (rest := []) hX hP hl.1 Y_X8_person (c_X8_person hA e1) ⟨rfl, rfl⟩ q814 ⟨Nat.le_of_ble_eq_true rfl, Nat.le_of_ble_eq_true rfl⟩ rfl rfl (Nat.le_of_ble_eq_true rfl) dX8_commits_1) hS (fun H locs hP hS => ?_)
  refine lv_istore (lv' := [(4, .int r2), (0, .ref (ad 152)), (1, .int v1), (2, .int v2), (3, .int v3)]) hx hb dX8_commits_4 hl (Nat.le_of_ble_eq_true rfl) rfl (fun ls hl => ?_)
  refine lv_aload_n hx hb dX8_commits_6 rfl (lv_at hl 1 rfl) ?_
  refine m_getq (t := 153) hX hP cok6 0 sge_152 s157_152 sk_152 (by decide) rfl q780 dX8_commits_7 ?_
  refine lv_iload hx hb dX8_commits_10 (lv_at hl 0 rfl) ?_
  refine lv_bipush (v := 6) hx hb dX8_commits_12 kc_b6 ?_
  refine lv_iadd hx hb dX8_commits_14 ?_
  refine x_let h (fun x3 h => ?_)
  refine lv_iconst (v := 1) hx hb dX8_commits_15 kc_i1 ?_
  refine m_ast hX hP hS h (sge_153) s157_153 sk_153 sn_153 dX8_commits_16 (fun M4 H locs h hP hS => ?_)
  refine lv_aload_n hx hb dX8_commits_17 rfl (lv_at hl 1 rfl) ?_
  refine m_getq (t := 153) hX hP cok6 0 sge_152 s157_152 sk_152 (by decide) rfl q780 dX8_commits_18 ?_
  refine lv_iload hx hb dX8_commits_21 (lv_at hl 0 rfl) ?_
  refine lv_bipush (v := 9) hx hb dX8_commits_23 kc_b9 ?_
  refine lv_iadd hx hb dX8_commits_25 ?_
  refine x_let h (fun x5 h => ?_)
  refine lv_iload_n hx hb dX8_commits_26 rfl (lv_at hl 3 rfl) ?_
  refine m_ast hX hP hS h (sge_153) s157_153 sk_153 sn_153 dX8_commits_27 (fun M6 H locs h hP hS => ?_)
  refine lv_aload_n hx hb dX8_commits_28 rfl (lv_at hl 1 rfl) ?_
  refine m_getq (t := 153) hX hP cok6 0 sge_152 s157_152 sk_152 (by decide) rfl q780 dX8_commits_29 ?_
  refine lv_iload hx hb dX8_commits_32 (lv_at hl 0 rfl) ?_
  refine lv_bipush (v := 10) hx hb dX8_commits_34 kc_b10 ?_
  refine lv_iadd hx hb dX8_commits_36 ?_
  refine x_let h (fun x7 h => ?_)
  refine lv_iload_n hx hb dX8_commits_37 rfl (lv_at hl 4 rfl) ?_
  refine m_ast hX hP hS h (sge_153) s157_153 sk_153 sn_153 dX8_commits_38 (fun M8 H locs h hP hS => ?_)
  refine lv_aload_n hx hb dX8_commits_39 rfl (lv_at hl 1 rfl) ?_
  refine m_getq (t := 153) hX hP cok6 0 sge_152 s157_152 sk_152 (by decide) rfl q780 dX8_commits_40 ?_
  refine lv_iload hx hb dX8_commits_43 (lv_at hl 0 rfl) ?_
  refine lv_bipush (v := 11) hx hb dX8_commits_45 kc_b11 ?_
  refine lv_iadd hx hb dX8_commits_47 ?_
  refine x_let h (fun x9 h => ?_)
  refine lv_aload_n hx hb dX8_commits_48 rfl (lv_at hl 1 rfl) ?_
  refine lv_iload_n hx hb dX8_commits_49 rfl (lv_at hl 3 rfl) ?_
  refine lv_iload_n hx hb dX8_commits_50 rfl (lv_at hl 4 rfl) ?_
  obtain ⟨r11, e10, h⟩ := ob1_some h
  refine j_i (j_runV (rest := [.int x9, .ref (ad 153)]) hX hP hl.1 Y_X8_digestOf cok6 (s157_152) sk_152 (c_X8_digestOf hA e10) ⟨rfl, rfl⟩ q869 ⟨Nat.le_of_ble_eq_true rfl, Nat.le_of_ble_eq_true rfl⟩ rfl rfl (Nat.le_of_ble_eq_true rfl) dX8_commits_51) hS (fun H locs hP hS => ?_)
  refine m_ast hX hP hS h (sge_153) s157_153 sk_153 sn_153 dX8_commits_54 (fun M12 H locs h hP hS => ?_)
  refine lv_aload_n hx hb dX8_commits_55 rfl (lv_at hl 1 rfl) ?_
  refine m_getq (t := 153) hX hP cok6 0 sge_152 s157_152 sk_152 (by decide) rfl q780 dX8_commits_56 ?_
  refine lv_iconst (v := 5) hx hb dX8_commits_59 kc_i5 ?_
  refine m_ald hX hP h (sge_153) s157_153 sk_153 sn_153 dX8_commits_60 (fun h => ?_)
  refine x_let h (fun x13 h => ?_)
  refine lv_iconst (v := 1) hx hb dX8_commits_61 kc_i1 ?_
  refine x_icmp_ne (tgt := 73) hx hb dX8_commits_62 (by decide) h (fun c14 h => ?_) (fun c14 h => ?_)
  · refine lv_aload_n hx hb dX8_commits_73 rfl (lv_at hl 1 rfl) ?_
    refine m_getq (t := 153) hX hP cok6 0 sge_152 s157_152 sk_152 (by decide) rfl q780 dX8_commits_74 ?_
    refine lv_iconst (v := 5) hx hb dX8_commits_77 kc_i5 ?_
    refine m_ald hX hP h (sge_153) s157_153 sk_153 sn_153 dX8_commits_78 (fun h => ?_)
    refine x_let h (fun x15 h => ?_)
    refine lv_iconst (v := 2) hx hb dX8_commits_79 kc_i2 ?_
    refine x_icmp_ne (tgt := 146) hx hb dX8_commits_80 (by decide) h (fun c16 h => ?_) (fun c16 h => ?_)
    · exact t_X8_commits_b146 hX hr hlk  _ h _ _ _ hP hS (lv_sub hl [] rfl)
    · refine lv_aload_n hx hb dX8_commits_83 rfl (lv_at hl 1 rfl) ?_
      refine lv_iload_n hx hb dX8_commits_84 rfl (lv_at hl 4 rfl) ?_
      refine m_put hX hP hS cok6 5 h sge_152 s157_152 sk_152 (by decide) rfl rfl q785 rfl dX8_commits_85 (fun M17 H locs h hP hS => ?_)
      refine lv_aload_n hx hb dX8_commits_88 rfl (lv_at hl 1 rfl) ?_
      refine m_getq (t := 153) hX hP cok6 0 sge_152 s157_152 sk_152 (by decide) rfl q780 dX8_commits_89 ?_
      refine lv_iload hx hb dX8_commits_92 (lv_at hl 0 rfl) ?_
      refine lv_bipush (v := 12) hx hb dX8_commits_94 kc_b12 ?_
      refine lv_iadd hx hb dX8_commits_96 ?_
      refine x_let h (fun x18 h => ?_)
      refine lv_iconst (v := 2) hx hb dX8_commits_97 kc_i2 ?_
      refine lv_aload_n hx hb dX8_commits_98 rfl (lv_at hl 1 rfl) ?_
      obtain ⟨r21, M20, e19, h⟩ := ob2_some h
      refine j_i (j_runV (rest := [.int 2, .int x18, .ref (ad 153)]) hX hP hl.1 Y_X8_draw cok6 (s157_152) sk_152 (c_X8_draw hA e19) ⟨rfl, rfl⟩ q889 ⟨Nat.le_of_ble_eq_true rfl, Nat.le_of_ble_eq_true rfl⟩ rfl rfl (Nat.le_of_ble_eq_true rfl) dX8_commits_99) hS (fun H locs hP hS => ?_)
      refine lv_sipush (v := 1000) hx hb dX8_commits_102 kc_s1000 ?_
      refine lv_irem hx hb dX8_commits_105 (by decide) ?_
      refine lv_iadd hx hb dX8_commits_106 ?_
      refine m_ast hX hP hS h (sge_153) s157_153 sk_153 sn_153 dX8_commits_107 (fun M22 H locs h hP hS => ?_)
      refine lv_aload_n hx hb dX8_commits_108 rfl (lv_at hl 1 rfl) ?_
      refine m_getq (t := 153) hX hP cok6 0 sge_152 s157_152 sk_152 (by decide) rfl q780 dX8_commits_109 ?_
      refine lv_iload hx hb dX8_commits_112 (lv_at hl 0 rfl) ?_
      refine lv_bipush (v := 13) hx hb dX8_commits_114 kc_b13 ?_
      refine lv_iadd hx hb dX8_commits_116 ?_
      refine x_let h (fun x23 h => ?_)
      refine lv_iload_n hx hb dX8_commits_117 rfl (lv_at hl 3 rfl) ?_
      refine lv_i2l (v := v2.toInt64) hx hb dX8_commits_118 rfl ?_
      refine x_letL h (fun y24 h => ?_)
      refine lv_aload_n hx hb dX8_commits_119 rfl (lv_at hl 1 rfl) ?_
      refine m_getq (t := 153) hX hP cok6 0 sge_152 s157_152 sk_152 (by decide) rfl q780 dX8_commits_120 ?_
      refine lv_iload hx hb dX8_commits_123 (lv_at hl 0 rfl) ?_
      refine lv_bipush (v := 12) hx hb dX8_commits_125 kc_b12 ?_
      refine lv_iadd hx hb dX8_commits_127 ?_
      refine x_let h (fun x25 h => ?_)
      refine m_ald hX hP h (sge_153) s157_153 sk_153 sn_153 dX8_commits_128 (fun h => ?_)
      refine x_let h (fun x26 h => ?_)
      refine lv_aload_n hx hb dX8_commits_129 rfl (lv_at hl 1 rfl) ?_
      refine m_getq (t := 153) hX hP cok6 0 sge_152 s157_152 sk_152 (by decide) rfl q780 dX8_commits_130 ?_
      refine lv_bipush (v := 8) hx hb dX8_commits_133 kc_b8 ?_
      refine m_ald hX hP h (sge_153) s157_153 sk_153 sn_153 dX8_commits_135 (fun h => ?_)
      obtain ⟨r28, e27, h⟩ := ob1_some h
      refine j_l (j_runS (rest := [.long y24, .int x23, .ref (ad 153)]) hX hP hl.1 Y_X8_squares (c_X8_squares hA e27) ⟨rfl, rfl⟩ q898 ⟨Nat.le_of_ble_eq_true rfl, Nat.le_of_ble_eq_true rfl⟩ rfl rfl (Nat.le_of_ble_eq_true rfl) dX8_commits_136) hS (fun H locs hP hS => ?_)
      refine lv_ladd hx hb dX8_commits_139 ?_
      refine x_letL h (fun y29 h => ?_)
      refine lv_ldc2 (v := 1019) hx hb hown (hts _ q902) dX8_commits_140 ?_
      refine lv_lrem hx hb dX8_commits_143 (by decide) ?_
      refine lv_l2i (v := (lrem y29 1019).toInt32) hx hb dX8_commits_144 rfl ?_
      refine m_ast hX hP hS h (sge_153) s157_153 sk_153 sn_153 dX8_commits_145 (fun M30 H locs h hP hS => ?_)
      exact t_X8_commits_b146 hX hr hlk  _ h _ _ _ hP hS (lv_sub hl [] rfl)
  · refine lv_aload_n hx hb dX8_commits_65 rfl (lv_at hl 1 rfl) ?_
    refine lv_iload_n hx hb dX8_commits_66 rfl (lv_at hl 2 rfl) ?_
    obtain ⟨M32, e31, h⟩ := ob1_some h
    refine j_v (j_runV (rest := []) hX hP hl.1 Y_X8_deals cok6 (s157_152) sk_152 (c_X8_deals hA e31) ⟨rfl, rfl⟩ q885 ⟨Nat.le_of_ble_eq_true rfl, Nat.le_of_ble_eq_true rfl⟩ rfl rfl (Nat.le_of_ble_eq_true rfl) dX8_commits_67) hS (fun H locs hP hS => ?_)
    refine lv_goto (tgt := 146) hx hb dX8_commits_70 (by decide) ?_
    exact t_X8_commits_b146 hX hr hlk  _ h _ _ _ hP hS (lv_sub hl [] rfl)
/-! OwnerlessCoinModel.commit(III)I -/
def rm_X8_commit : Room := { frames := 4, cells := 0, slots := 0, locals := 91 }
theorem Y_X8_commit : yv yX8_commit cX8_commit 4 (some .int) 3 RX8 := ⟨q864, q862, q863, q57, by decide +kernel⟩
set_option maxHeartbeats 4000000 in
set_option maxRecDepth 100000 in
theorem t_X8_commit_b19 {p : Program} {l : Launch} {e : Env} {s : State} {m : MethodId} {args : Array Value} {below : List Frame} {meth : Method} {c : Code} {D : va_G} {tc : Tc} {ad : Nat → Nat} {A : Nat → Prop} {I : St} {rr : Int32} {II : St} (hX : cx p s m args c cX8_commit 4 RX8 D tc ad A) (hr : meth.sig.returnType = some .int) (hlk : meth.locks = false) : ∀ (M : St), f_X8_commit_b19 M = some (rr, II) → ∀ (H : Heap) (locs : List Loc) (ls : Array Slot), va_P D vwCl (wl tc ad (cmb I M)) H → va_S A s.heap H locs → lv_has ls 4 [] → W p l e rm_X8_commit s m args below meth c H locs 0 0 (MQ below (qi D tc ad A rr (cmb I II)) args s 0 0 A) (F0 m 19 ls []) := by
  intro M h H locs ls hP hS hl
  unfold f_X8_commit_b19 at h
  have hx := hX.1
  have hb := hX.2.1
  have hown := hX.2.2.2.1
  have hts := hX.2.2.2.2.1
  have hA := hX.2.2.2.2.2.2
  refine lv_iconst (v := (-1)) hx hb dX8_commit_19 kc_im1 ?_
  cases h
  exact j_iret hX hr hlk hP hS dX8_commit_20
set_option maxHeartbeats 4000000 in
set_option maxRecDepth 100000 in
theorem t_X8_commit_b50 {p : Program} {l : Launch} {e : Env} {s : State} {m : MethodId} {args : Array Value} {below : List Frame} {meth : Method} {c : Code} {D : va_G} {tc : Tc} {ad : Nat → Nat} {A : Nat → Prop} {I : St} {rr : Int32} {II : St} (hX : cx p s m args c cX8_commit 4 RX8 D tc ad A) (hr : meth.sig.returnType = some .int) (hlk : meth.locks = false) : ∀ (M : St), f_X8_commit_b50 M = some (rr, II) → ∀ (H : Heap) (locs : List Loc) (ls : Array Slot), va_P D vwCl (wl tc ad (cmb I M)) H → va_S A s.heap H locs → lv_has ls 4 [] → W p l e rm_X8_commit s m args below meth c H locs 0 0 (MQ below (qi D tc ad A rr (cmb I II)) args s 0 0 A) (F0 m 50 ls []) := by
  intro M h H locs ls hP hS hl
  unfold f_X8_commit_b50 at h
  have hx := hX.1
  have hb := hX.2.1
  have hown := hX.2.2.2.1
  have hts := hX.2.2.2.2.1
  have hA := hX.2.2.2.2.2.2
  refine lv_bipush (v := (-2)) hx hb dX8_commit_50 kc_bm2 ?_
  cases h
  exact j_iret hX hr hlk hP hS dX8_commit_52
set_option maxHeartbeats 4000000 in
set_option maxRecDepth 100000 in
theorem c_X8_commit {l : Launch} {D : va_G} {tc : Tc} {ad : Nat → Nat} {A : Nat → Prop} (hA : adok ad A) {I M : St} {v1 : Int32} {v2 : Int32} {v3 : Int32} {rr : Int32} {II : St} (h : f_X8_commit v1 v2 v3 M = some (rr, II)) : Met l yX8_commit (Cond.code yX8_commit cX8_commit 4 (some .int) :: tw) rm_X8_commit (pre D tc ad [.ref (ad 152), .int v1, .int v2, .int v3] (cmb I M)) (qi D tc ad A rr (cmb I II)) 0 0 A := by
  unfold f_X8_commit at h
  refine mk_met (own := RX8) (by decide +kernel) rfl hA (Nat.le_of_ble_eq_true rfl) ?_
  intro p e s m below meth c ls hX hr hlk hl hP hS
  have hl : lv_has ls 4 [(0, .ref (ad 152)), (1, .int v1), (2, .int v2), (3, .int v3)] := hl
  have hx := hX.1
  have hb := hX.2.1
  have hown := hX.2.2.2.1
  have hts := hX.2.2.2.2.1
  refine lv_aload_n hx hb dX8_commit_0 rfl (lv_at hl 0 rfl) ?_
  refine lv_iload_n hx hb dX8_commit_1 rfl (lv_at hl 1 rfl) ?_
  obtain ⟨r2, e1, h⟩ := ob1_some h
  refine j_i (j_runV (rest := []) hX hP hl.1 Y_X8_isPerson cok6 (s157_152) sk_152 (c_X8_isPerson hA e1) ⟨rfl, rfl⟩ q821 ⟨Nat.le_of_ble_eq_true rfl, Nat.le_of_ble_eq_true rfl⟩ rfl rfl (Nat.le_of_ble_eq_true rfl) dX8_commit_2) hS (fun H locs hP hS => ?_)
  refine x_if_eq (tgt := 19) hx hb dX8_commit_5 (by decide) h (fun c3 h => ?_) (fun c3 h => ?_)
  · exact t_X8_commit_b19 hX hr hlk  _ h _ _ _ hP hS (lv_sub hl [] rfl)
  · refine lv_iload_n hx hb dX8_commit_8 rfl (lv_at hl 2 rfl) ?_
    refine lv_iconst (v := 0) hx hb dX8_commit_9 kc_i0 ?_
    refine lv_sipush (v := 1018) hx hb dX8_commit_10 kc_s1018 ?_
    obtain ⟨r5, e4, h⟩ := ob1_some h
    refine j_i (j_runS (rest := []) hX hP hl.1 Y_X8_in (c_X8_in hA e4) ⟨rfl, rfl⟩ q807 ⟨Nat.le_of_ble_eq_true rfl, Nat.le_of_ble_eq_true rfl⟩ rfl rfl (Nat.le_of_ble_eq_true rfl) dX8_commit_13) hS (fun H locs hP hS => ?_)
    refine x_if_ne (tgt := 21) hx hb dX8_commit_16 (by decide) h (fun c6 h => ?_) (fun c6 h => ?_)
    · refine lv_aload_n hx hb dX8_commit_21 rfl (lv_at hl 0 rfl) ?_
      refine m_getq (t := 153) hX hP cok6 0 sge_152 s157_152 sk_152 (by decide) rfl q780 dX8_commit_22 ?_
      refine lv_iconst (v := 0) hx hb dX8_commit_25 kc_i0 ?_
      refine m_ald hX hP h (sge_153) s157_153 sk_153 sn_153 dX8_commit_26 (fun h => ?_)
      refine x_let h (fun x7 h => ?_)
      refine lv_iconst (v := 1) hx hb dX8_commit_27 kc_i1 ?_
      refine x_icmp_ne (tgt := 50) hx hb dX8_commit_28 (by decide) h (fun c8 h => ?_) (fun c8 h => ?_)
      · exact t_X8_commit_b50 hX hr hlk  _ h _ _ _ hP hS (lv_sub hl [] rfl)
      · refine lv_aload_n hx hb dX8_commit_31 rfl (lv_at hl 0 rfl) ?_
        refine lv_iload_n hx hb dX8_commit_32 rfl (lv_at hl 1 rfl) ?_
        refine lv_iconst (v := 5) hx hb dX8_commit_33 kc_i5 ?_
        obtain ⟨r10, e9, h⟩ := ob1_some h
        refine j_i (j_runV (rest := []) hX hP hl.1 Y_X8_has cok6 (s157_152) sk_152 (c_X8_has hA e9) ⟨rfl, rfl⟩ q865 ⟨Nat.le_of_ble_eq_true rfl, Nat.le_of_ble_eq_true rfl⟩ rfl rfl (Nat.le_of_ble_eq_true rfl) dX8_commit_34) hS (fun H locs hP hS => ?_)
        refine x_if_eq (tgt := 50) hx hb dX8_commit_37 (by decide) h (fun c11 h => ?_) (fun c11 h => ?_)
        · exact t_X8_commit_b50 hX hr hlk  _ h _ _ _ hP hS (lv_sub hl [] rfl)
        · refine lv_aload_n hx hb dX8_commit_40 rfl (lv_at hl 0 rfl) ?_
          refine lv_iload_n hx hb dX8_commit_41 rfl (lv_at hl 1 rfl) ?_
          refine lv_bipush (v := 6) hx hb dX8_commit_42 kc_b6 ?_
          obtain ⟨r13, e12, h⟩ := ob1_some h
          refine j_i (j_runV (rest := []) hX hP hl.1 Y_X8_has cok6 (s157_152) sk_152 (c_X8_has hA e12) ⟨rfl, rfl⟩ q865 ⟨Nat.le_of_ble_eq_true rfl, Nat.le_of_ble_eq_true rfl⟩ rfl rfl (Nat.le_of_ble_eq_true rfl) dX8_commit_44) hS (fun H locs hP hS => ?_)
          refine x_if_eq (tgt := 53) hx hb dX8_commit_47 (by decide) h (fun c14 h => ?_) (fun c14 h => ?_)
          · refine lv_aload_n hx hb dX8_commit_53 rfl (lv_at hl 0 rfl) ?_
            refine lv_iload_n hx hb dX8_commit_54 rfl (lv_at hl 1 rfl) ?_
            refine lv_aload_n hx hb dX8_commit_55 rfl (lv_at hl 0 rfl) ?_
            refine lv_iload_n hx hb dX8_commit_56 rfl (lv_at hl 2 rfl) ?_
            refine lv_iload_n hx hb dX8_commit_57 rfl (lv_at hl 3 rfl) ?_
            obtain ⟨r16, e15, h⟩ := ob1_some h
            refine j_i (j_runV (rest := [.int v1, .ref (ad 152)]) hX hP hl.1 Y_X8_digestOf cok6 (s157_152) sk_152 (c_X8_digestOf hA e15) ⟨rfl, rfl⟩ q869 ⟨Nat.le_of_ble_eq_true rfl, Nat.le_of_ble_eq_true rfl⟩ rfl rfl (Nat.le_of_ble_eq_true rfl) dX8_commit_58) hS (fun H locs hP hS => ?_)
            obtain ⟨r18, e17, h⟩ := ob1_some h
            refine j_i (j_runV (rest := []) hX hP hl.1 Y_X8_isCopy cok6 (s157_152) sk_152 (c_X8_isCopy hA e17) ⟨rfl, rfl⟩ q877 ⟨Nat.le_of_ble_eq_true rfl, Nat.le_of_ble_eq_true rfl⟩ rfl rfl (Nat.le_of_ble_eq_true rfl) dX8_commit_61) hS (fun H locs hP hS => ?_)
            refine x_if_eq (tgt := 70) hx hb dX8_commit_64 (by decide) h (fun c19 h => ?_) (fun c19 h => ?_)
            · refine lv_aload_n hx hb dX8_commit_70 rfl (lv_at hl 0 rfl) ?_
              obtain ⟨M21, e20, h⟩ := ob1_some h
              refine j_v (j_runV (rest := []) hX hP hl.1 Y_X8_act cok6 (s157_152) sk_152 (c_X8_act hA e20) ⟨rfl, rfl⟩ q810 ⟨Nat.le_of_ble_eq_true rfl, Nat.le_of_ble_eq_true rfl⟩ rfl rfl (Nat.le_of_ble_eq_true rfl) dX8_commit_71) hS (fun H locs hP hS => ?_)
              refine lv_aload_n hx hb dX8_commit_74 rfl (lv_at hl 0 rfl) ?_
              refine lv_iload_n hx hb dX8_commit_75 rfl (lv_at hl 1 rfl) ?_
              refine lv_iload_n hx hb dX8_commit_76 rfl (lv_at hl 2 rfl) ?_
              refine lv_iload_n hx hb dX8_commit_77 rfl (lv_at hl 3 rfl) ?_
              obtain ⟨M23, e22, h⟩ := ob1_some h
              refine j_v (j_runV (rest := []) hX hP hl.1 Y_X8_commits cok6 (s157_152) sk_152 (c_X8_commits hA e22) ⟨rfl, rfl⟩ q881 ⟨Nat.le_of_ble_eq_true rfl, Nat.le_of_ble_eq_true rfl⟩ rfl rfl (Nat.le_of_ble_eq_true rfl) dX8_commit_78) hS (fun H locs hP hS => ?_)
              refine lv_aload_n hx hb dX8_commit_81 rfl (lv_at hl 0 rfl) ?_
              refine m_getq (t := 153) hX hP cok6 0 sge_152 s157_152 sk_152 (by decide) rfl q780 dX8_commit_82 ?_
              refine lv_iload_n hx hb dX8_commit_85 rfl (lv_at hl 1 rfl) ?_
              obtain ⟨r25, e24, h⟩ := ob1_some h
              refine j_i (j_runS (rest := [.ref (ad 153)]) hX hP hl.1 Y_X8_person (c_X8_person hA e24) ⟨rfl, rfl⟩ q814 ⟨Nat.le_of_ble_eq_true rfl, Nat.le_of_ble_eq_true rfl⟩ rfl rfl (Nat.le_of_ble_eq_true rfl) dX8_commit_86) hS (fun H locs hP hS => ?_)
              refine lv_bipush (v := 11) hx hb dX8_commit_89 kc_b11 ?_
              refine lv_iadd hx hb dX8_commit_91 ?_
              refine x_let h (fun x26 h => ?_)
              refine m_ald hX hP h (sge_153) s157_153 sk_153 sn_153 dX8_commit_92 (fun h => ?_)
              refine x_let h (fun x27 h => ?_)
              refine lv_ldc (v := 1073741823) hx hb hown (hts _ q903) dX8_commit_93 ?_
              refine lv_iand hx hb dX8_commit_95 ?_
              cases h
              exact j_iret hX hr hlk hP hS dX8_commit_96
            · refine lv_bipush (v := (-4)) hx hb dX8_commit_67 kc_bm4 ?_
              cases h
              exact j_iret hX hr hlk hP hS dX8_commit_69
          · exact t_X8_commit_b50 hX hr hlk  _ h _ _ _ hP hS (lv_sub hl [] rfl)
    · exact t_X8_commit_b19 hX hr hlk  _ h _ _ _ hP hS (lv_sub hl [] rfl)
/-! OwnerlessCoinModel.hasShares(I)Z -/
def rm_X8_hasShares : Room := { frames := 3, cells := 0, slots := 0, locals := 64 }
theorem Y_X8_hasShares : yv yX8_hasShares cX8_hasShares 2 (some .boolean) 1 RX8 := ⟨q915, q914, q25, q57, by decide +kernel⟩
set_option maxHeartbeats 4000000 in
set_option maxRecDepth 100000 in
theorem t_X8_hasShares_b42 {p : Program} {l : Launch} {e : Env} {s : State} {m : MethodId} {args : Array Value} {below : List Frame} {meth : Method} {c : Code} {D : va_G} {tc : Tc} {ad : Nat → Nat} {A : Nat → Prop} {I : St} {rr : Int32} (hX : cx p s m args c cX8_hasShares 2 RX8 D tc ad A) (hr : meth.sig.returnType = some .boolean) (hlk : meth.locks = false) : ∀ (t0 : Int32) (M : St), f_X8_hasShares_b42 t0 M = some rr → ∀ (H : Heap) (locs : List Loc) (ls : Array Slot), va_P D vwCl (wl tc ad (cmb I M)) H → va_S A s.heap H locs → lv_has ls 2 [] → W p l e rm_X8_hasShares s m args below meth c H locs 0 0 (MQ below (qi D tc ad A rr (cmb I M)) args s 0 0 A) (F0 m 42 ls [.int t0]) := by
  intro t0 M h H locs ls hP hS hl
  unfold f_X8_hasShares_b42 at h
  have hx := hX.1
  have hb := hX.2.1
  have hown := hX.2.2.2.1
  have hts := hX.2.2.2.2.1
  have hA := hX.2.2.2.2.2.2
  obtain ⟨gz, h⟩ := ck_some h
  cases h
  exact j_zret hX hr hlk hP hS (isB_or gz) dX8_hasShares_42
set_option maxHeartbeats 4000000 in
set_option maxRecDepth 100000 in
theorem t_X8_hasShares_b41 {p : Program} {l : Launch} {e : Env} {s : State} {m : MethodId} {args : Array Value} {below : List Frame} {meth : Method} {c : Code} {D : va_G} {tc : Tc} {ad : Nat → Nat} {A : Nat → Prop} {I : St} {rr : Int32} (hX : cx p s m args c cX8_hasShares 2 RX8 D tc ad A) (hr : meth.sig.returnType = some .boolean) (hlk : meth.locks = false) : ∀ (M : St), f_X8_hasShares_b41 M = some rr → ∀ (H : Heap) (locs : List Loc) (ls : Array Slot), va_P D vwCl (wl tc ad (cmb I M)) H → va_S A s.heap H locs → lv_has ls 2 [] → W p l e rm_X8_hasShares s m args below meth c H locs 0 0 (MQ below (qi D tc ad A rr (cmb I M)) args s 0 0 A) (F0 m 41 ls []) := by
  intro M h H locs ls hP hS hl
  unfold f_X8_hasShares_b41 at h
  have hx := hX.1
  have hb := hX.2.1
  have hown := hX.2.2.2.1
  have hts := hX.2.2.2.2.1
  have hA := hX.2.2.2.2.2.2
  refine lv_iconst (v := 0) hx hb dX8_hasShares_41 kc_i0 ?_
  exact t_X8_hasShares_b42 hX hr hlk  _ _ h _ _ _ hP hS (lv_sub hl [] rfl)
set_option maxHeartbeats 4000000 in
set_option maxRecDepth 100000 in
theorem c_X8_hasShares {l : Launch} {D : va_G} {tc : Tc} {ad : Nat → Nat} {A : Nat → Prop} (hA : adok ad A) {I M : St} {v1 : Int32} {rr : Int32} (h : f_X8_hasShares v1 M = some rr) : Met l yX8_hasShares (Cond.code yX8_hasShares cX8_hasShares 2 (some .boolean) :: tw) rm_X8_hasShares (pre D tc ad [.ref (ad 152), .int v1] (cmb I M)) (qi D tc ad A rr (cmb I M)) 0 0 A := by
  unfold f_X8_hasShares at h
  refine mk_met (own := RX8) (by decide +kernel) rfl hA (Nat.le_of_ble_eq_true rfl) ?_
  intro p e s m below meth c ls hX hr hlk hl hP hS
  have hl : lv_has ls 2 [(0, .ref (ad 152)), (1, .int v1)] := hl
  have hx := hX.1
  have hb := hX.2.1
  have hown := hX.2.2.2.1
  have hts := hX.2.2.2.2.1
  refine lv_aload_n hx hb dX8_hasShares_0 rfl (lv_at hl 0 rfl) ?_
  refine m_getq (t := 153) hX hP cok6 0 sge_152 s157_152 sk_152 (by decide) rfl q780 dX8_hasShares_1 ?_
  refine lv_iconst (v := 0) hx hb dX8_hasShares_4 kc_i0 ?_
  refine m_ald hX hP h (sge_153) s157_153 sk_153 sn_153 dX8_hasShares_5 (fun h => ?_)
  refine x_if_eq (tgt := 41) hx hb dX8_hasShares_6 (by decide) h (fun c1 h => ?_) (fun c1 h => ?_)
  · exact t_X8_hasShares_b41 hX hr hlk  _ h _ _ _ hP hS (lv_sub hl [] rfl)
  · refine lv_aload_n hx hb dX8_hasShares_9 rfl (lv_at hl 0 rfl) ?_
    refine m_getq (t := 153) hX hP cok6 0 sge_152 s157_152 sk_152 (by decide) rfl q780 dX8_hasShares_10 ?_
    refine lv_iconst (v := 5) hx hb dX8_hasShares_13 kc_i5 ?_
    refine m_ald hX hP h (sge_153) s157_153 sk_153 sn_153 dX8_hasShares_14 (fun h => ?_)
    refine x_let h (fun x2 h => ?_)
    refine lv_iconst (v := 1) hx hb dX8_hasShares_15 kc_i1 ?_
    refine x_icmp_ne (tgt := 41) hx hb dX8_hasShares_16 (by decide) h (fun c3 h => ?_) (fun c3 h => ?_)
    · exact t_X8_hasShares_b41 hX hr hlk  _ h _ _ _ hP hS (lv_sub hl [] rfl)
    · refine lv_aload_n hx hb dX8_hasShares_19 rfl (lv_at hl 0 rfl) ?_
      refine lv_iload_n hx hb dX8_hasShares_20 rfl (lv_at hl 1 rfl) ?_
      obtain ⟨r5, e4, h⟩ := ob1_some h
      refine j_i (j_runV (rest := []) hX hP hl.1 Y_X8_isMember cok6 (s157_152) sk_152 (c_X8_isMember hA e4) ⟨rfl, rfl⟩ q916 ⟨Nat.le_of_ble_eq_true rfl, Nat.le_of_ble_eq_true rfl⟩ rfl rfl (Nat.le_of_ble_eq_true rfl) dX8_hasShares_21) hS (fun H locs hP hS => ?_)
      refine x_if_eq (tgt := 41) hx hb dX8_hasShares_24 (by decide) h (fun c6 h => ?_) (fun c6 h => ?_)
      · exact t_X8_hasShares_b41 hX hr hlk  _ h _ _ _ hP hS (lv_sub hl [] rfl)
      · refine lv_aload_n hx hb dX8_hasShares_27 rfl (lv_at hl 0 rfl) ?_
        refine lv_iload_n hx hb dX8_hasShares_28 rfl (lv_at hl 1 rfl) ?_
        refine lv_bipush (v := 6) hx hb dX8_hasShares_29 kc_b6 ?_
        obtain ⟨r8, e7, h⟩ := ob1_some h
        refine j_i (j_runV (rest := []) hX hP hl.1 Y_X8_has cok6 (s157_152) sk_152 (c_X8_has hA e7) ⟨rfl, rfl⟩ q865 ⟨Nat.le_of_ble_eq_true rfl, Nat.le_of_ble_eq_true rfl⟩ rfl rfl (Nat.le_of_ble_eq_true rfl) dX8_hasShares_31) hS (fun H locs hP hS => ?_)
        refine x_if_eq (tgt := 41) hx hb dX8_hasShares_34 (by decide) h (fun c9 h => ?_) (fun c9 h => ?_)
        · exact t_X8_hasShares_b41 hX hr hlk  _ h _ _ _ hP hS (lv_sub hl [] rfl)
        · refine lv_iconst (v := 1) hx hb dX8_hasShares_37 kc_i1 ?_
          refine lv_goto (tgt := 42) hx hb dX8_hasShares_38 (by decide) ?_
          exact t_X8_hasShares_b42 hX hr hlk  _ _ h _ _ _ hP hS (lv_sub hl [] rfl)
/-! OwnerlessCoinModel.hasShare(II)Z -/
def rm_X8_hasShare : Room := { frames := 4, cells := 0, slots := 0, locals := 85 }
theorem Y_X8_hasShare : yv yX8_hasShare cX8_hasShare 3 (some .boolean) 2 RX8 := ⟨q911, q910, q24, q57, by decide +kernel⟩
set_option maxHeartbeats 4000000 in
set_option maxRecDepth 100000 in
theorem t_X8_hasShare_b21 {p : Program} {l : Launch} {e : Env} {s : State} {m : MethodId} {args : Array Value} {below : List Frame} {meth : Method} {c : Code} {D : va_G} {tc : Tc} {ad : Nat → Nat} {A : Nat → Prop} {I : St} {rr : Int32} (hX : cx p s m args c cX8_hasShare 3 RX8 D tc ad A) (hr : meth.sig.returnType = some .boolean) (hlk : meth.locks = false) : ∀ (t0 : Int32) (M : St), f_X8_hasShare_b21 t0 M = some rr → ∀ (H : Heap) (locs : List Loc) (ls : Array Slot), va_P D vwCl (wl tc ad (cmb I M)) H → va_S A s.heap H locs → lv_has ls 3 [] → W p l e rm_X8_hasShare s m args below meth c H locs 0 0 (MQ below (qi D tc ad A rr (cmb I M)) args s 0 0 A) (F0 m 21 ls [.int t0]) := by
  intro t0 M h H locs ls hP hS hl
  unfold f_X8_hasShare_b21 at h
  have hx := hX.1
  have hb := hX.2.1
  have hown := hX.2.2.2.1
  have hts := hX.2.2.2.2.1
  have hA := hX.2.2.2.2.2.2
  obtain ⟨gz, h⟩ := ck_some h
  cases h
  exact j_zret hX hr hlk hP hS (isB_or gz) dX8_hasShare_21
set_option maxHeartbeats 4000000 in
set_option maxRecDepth 100000 in
theorem t_X8_hasShare_b20 {p : Program} {l : Launch} {e : Env} {s : State} {m : MethodId} {args : Array Value} {below : List Frame} {meth : Method} {c : Code} {D : va_G} {tc : Tc} {ad : Nat → Nat} {A : Nat → Prop} {I : St} {rr : Int32} (hX : cx p s m args c cX8_hasShare 3 RX8 D tc ad A) (hr : meth.sig.returnType = some .boolean) (hlk : meth.locks = false) : ∀ (M : St), f_X8_hasShare_b20 M = some rr → ∀ (H : Heap) (locs : List Loc) (ls : Array Slot), va_P D vwCl (wl tc ad (cmb I M)) H → va_S A s.heap H locs → lv_has ls 3 [] → W p l e rm_X8_hasShare s m args below meth c H locs 0 0 (MQ below (qi D tc ad A rr (cmb I M)) args s 0 0 A) (F0 m 20 ls []) := by
  intro M h H locs ls hP hS hl
  unfold f_X8_hasShare_b20 at h
  have hx := hX.1
  have hb := hX.2.1
  have hown := hX.2.2.2.1
  have hts := hX.2.2.2.2.1
  have hA := hX.2.2.2.2.2.2
  refine lv_iconst (v := 0) hx hb dX8_hasShare_20 kc_i0 ?_
  exact t_X8_hasShare_b21 hX hr hlk  _ _ h _ _ _ hP hS (lv_sub hl [] rfl)
set_option maxHeartbeats 4000000 in
set_option maxRecDepth 100000 in
theorem c_X8_hasShare {l : Launch} {D : va_G} {tc : Tc} {ad : Nat → Nat} {A : Nat → Prop} (hA : adok ad A) {I M : St} {v1 : Int32} {v2 : Int32} {rr : Int32} (h : f_X8_hasShare v1 v2 M = some rr) : Met l yX8_hasShare (Cond.code yX8_hasShare cX8_hasShare 3 (some .boolean) :: tw) rm_X8_hasShare (pre D tc ad [.ref (ad 152), .int v1, .int v2] (cmb I M)) (qi D tc ad A rr (cmb I M)) 0 0 A := by
  unfold f_X8_hasShare at h
  refine mk_met (own := RX8) (by decide +kernel) rfl hA (Nat.le_of_ble_eq_true rfl) ?_
  intro p e s m below meth c ls hX hr hlk hl hP hS
  have hl : lv_has ls 3 [(0, .ref (ad 152)), (1, .int v1), (2, .int v2)] := hl
  have hx := hX.1
  have hb := hX.2.1
  have hown := hX.2.2.2.1
  have hts := hX.2.2.2.2.1
  refine lv_aload_n hx hb dX8_hasShare_0 rfl (lv_at hl 0 rfl) ?_
  refine lv_iload_n hx hb dX8_hasShare_1 rfl (lv_at hl 1 rfl) ?_
  obtain ⟨r2, e1, h⟩ := ob1_some h
  refine j_i (j_runV (rest := []) hX hP hl.1 Y_X8_hasShares cok6 (s157_152) sk_152 (c_X8_hasShares hA e1) ⟨rfl, rfl⟩ q912 ⟨Nat.le_of_ble_eq_true rfl, Nat.le_of_ble_eq_true rfl⟩ rfl rfl (Nat.le_of_ble_eq_true rfl) dX8_hasShare_2) hS (fun H locs hP hS => ?_)
  refine x_if_eq (tgt := 20) hx hb dX8_hasShare_5 (by decide) h (fun c3 h => ?_) (fun c3 h => ?_)
  · exact t_X8_hasShare_b20 hX hr hlk  _ h _ _ _ hP hS (lv_sub hl [] rfl)
  · refine lv_aload_n hx hb dX8_hasShare_8 rfl (lv_at hl 0 rfl) ?_
    refine lv_iload_n hx hb dX8_hasShare_9 rfl (lv_at hl 2 rfl) ?_
    obtain ⟨r5, e4, h⟩ := ob1_some h
    refine j_i (j_runV (rest := []) hX hP hl.1 Y_X8_isMember cok6 (s157_152) sk_152 (c_X8_isMember hA e4) ⟨rfl, rfl⟩ q916 ⟨Nat.le_of_ble_eq_true rfl, Nat.le_of_ble_eq_true rfl⟩ rfl rfl (Nat.le_of_ble_eq_true rfl) dX8_hasShare_10) hS (fun H locs hP hS => ?_)
    refine x_if_eq (tgt := 20) hx hb dX8_hasShare_13 (by decide) h (fun c6 h => ?_) (fun c6 h => ?_)
    · exact t_X8_hasShare_b20 hX hr hlk  _ h _ _ _ hP hS (lv_sub hl [] rfl)
    · refine lv_iconst (v := 1) hx hb dX8_hasShare_16 kc_i1 ?_
      refine lv_goto (tgt := 21) hx hb dX8_hasShare_17 (by decide) ?_
      exact t_X8_hasShare_b21 hX hr hlk  _ _ h _ _ _ hP hS (lv_sub hl [] rfl)
/-! OwnerlessCoinModel.shareOf(II)I -/
def rm_X8_shareOf : Room := { frames := 1, cells := 0, slots := 0, locals := 20 }
theorem Y_X8_shareOf : yv yX8_shareOf cX8_shareOf 3 (some .int) 2 RX8 := ⟨q927, q926, q28, q57, by decide +kernel⟩
set_option maxHeartbeats 4000000 in
set_option maxRecDepth 100000 in
theorem c_X8_shareOf {l : Launch} {D : va_G} {tc : Tc} {ad : Nat → Nat} {A : Nat → Prop} (hA : adok ad A) {I M : St} {v1 : Int32} {v2 : Int32} {rr : Int32} (h : f_X8_shareOf v1 v2 M = some rr) : Met l yX8_shareOf (Cond.code yX8_shareOf cX8_shareOf 3 (some .int) :: tw) rm_X8_shareOf (pre D tc ad [.ref (ad 152), .int v1, .int v2] (cmb I M)) (qi D tc ad A rr (cmb I M)) 0 0 A := by
  unfold f_X8_shareOf at h
  refine mk_met (own := RX8) (by decide +kernel) rfl hA (Nat.le_of_ble_eq_true rfl) ?_
  intro p e s m below meth c ls hX hr hlk hl hP hS
  have hl : lv_has ls 3 [(0, .ref (ad 152)), (1, .int v1), (2, .int v2)] := hl
  have hx := hX.1
  have hb := hX.2.1
  have hown := hX.2.2.2.1
  have hts := hX.2.2.2.2.1
  refine lv_aload_n hx hb dX8_shareOf_0 rfl (lv_at hl 0 rfl) ?_
  refine m_getq (t := 153) hX hP cok6 0 sge_152 s157_152 sk_152 (by decide) rfl q780 dX8_shareOf_1 ?_
  refine lv_iload_n hx hb dX8_shareOf_4 rfl (lv_at hl 1 rfl) ?_
  obtain ⟨r2, e1, h⟩ := ob1_some h
  refine j_i (j_runS (rest := [.ref (ad 153)]) hX hP hl.1 Y_X8_person (c_X8_person hA e1) ⟨rfl, rfl⟩ q814 ⟨Nat.le_of_ble_eq_true rfl, Nat.le_of_ble_eq_true rfl⟩ rfl rfl (Nat.le_of_ble_eq_true rfl) dX8_shareOf_5) hS (fun H locs hP hS => ?_)
  refine lv_bipush (v := 22) hx hb dX8_shareOf_8 kc_b22 ?_
  refine lv_iadd hx hb dX8_shareOf_10 ?_
  refine x_let h (fun x3 h => ?_)
  refine lv_iload_n hx hb dX8_shareOf_11 rfl (lv_at hl 2 rfl) ?_
  refine lv_iadd hx hb dX8_shareOf_12 ?_
  refine x_let h (fun x4 h => ?_)
  refine m_ald hX hP h (sge_153) s157_153 sk_153 sn_153 dX8_shareOf_13 (fun h => ?_)
  cases h
  exact j_iret hX hr hlk hP hS dX8_shareOf_14
/-! OwnerlessCoinModel.isGood(II)Z -/
def rm_X8_isGood : Room := { frames := 2, cells := 0, slots := 0, locals := 44 }
theorem Y_X8_isGood : yv yX8_isGood cX8_isGood 3 (some .boolean) 2 RX8 := ⟨q939, q938, q30, q57, by decide +kernel⟩
set_option maxHeartbeats 4000000 in
set_option maxRecDepth 100000 in
theorem t_X8_isGood_b22 {p : Program} {l : Launch} {e : Env} {s : State} {m : MethodId} {args : Array Value} {below : List Frame} {meth : Method} {c : Code} {D : va_G} {tc : Tc} {ad : Nat → Nat} {A : Nat → Prop} {I : St} {rr : Int32} (hX : cx p s m args c cX8_isGood 3 RX8 D tc ad A) (hr : meth.sig.returnType = some .boolean) (hlk : meth.locks = false) : ∀ (t0 : Int32) (M : St), f_X8_isGood_b22 t0 M = some rr → ∀ (H : Heap) (locs : List Loc) (ls : Array Slot), va_P D vwCl (wl tc ad (cmb I M)) H → va_S A s.heap H locs → lv_has ls 3 [] → W p l e rm_X8_isGood s m args below meth c H locs 0 0 (MQ below (qi D tc ad A rr (cmb I M)) args s 0 0 A) (F0 m 22 ls [.int t0]) := by
  intro t0 M h H locs ls hP hS hl
  unfold f_X8_isGood_b22 at h
  have hx := hX.1
  have hb := hX.2.1
  have hown := hX.2.2.2.1
  have hts := hX.2.2.2.2.1
  have hA := hX.2.2.2.2.2.2
  obtain ⟨gz, h⟩ := ck_some h
  cases h
  exact j_zret hX hr hlk hP hS (isB_or gz) dX8_isGood_22
set_option maxHeartbeats 4000000 in
set_option maxRecDepth 100000 in
theorem c_X8_isGood {l : Launch} {D : va_G} {tc : Tc} {ad : Nat → Nat} {A : Nat → Prop} (hA : adok ad A) {I M : St} {v1 : Int32} {v2 : Int32} {rr : Int32} (h : f_X8_isGood v1 v2 M = some rr) : Met l yX8_isGood (Cond.code yX8_isGood cX8_isGood 3 (some .boolean) :: tw) rm_X8_isGood (pre D tc ad [.ref (ad 152), .int v1, .int v2] (cmb I M)) (qi D tc ad A rr (cmb I M)) 0 0 A := by
  unfold f_X8_isGood at h
  refine mk_met (own := RX8) (by decide +kernel) rfl hA (Nat.le_of_ble_eq_true rfl) ?_
  intro p e s m below meth c ls hX hr hlk hl hP hS
  have hl : lv_has ls 3 [(0, .ref (ad 152)), (1, .int v1), (2, .int v2)] := hl
  have hx := hX.1
  have hb := hX.2.1
  have hown := hX.2.2.2.1
  have hts := hX.2.2.2.2.1
  refine lv_aload_n hx hb dX8_isGood_0 rfl (lv_at hl 0 rfl) ?_
  refine lv_iload_n hx hb dX8_isGood_1 rfl (lv_at hl 1 rfl) ?_
  refine lv_iload_n hx hb dX8_isGood_2 rfl (lv_at hl 2 rfl) ?_
  obtain ⟨r2, e1, h⟩ := ob1_some h
  refine j_i (j_runV (rest := []) hX hP hl.1 Y_X8_shareOf cok6 (s157_152) sk_152 (c_X8_shareOf hA e1) ⟨rfl, rfl⟩ q924 ⟨Nat.le_of_ble_eq_true rfl, Nat.le_of_ble_eq_true rfl⟩ rfl rfl (Nat.le_of_ble_eq_true rfl) dX8_isGood_3) hS (fun H locs hP hS => ?_)
  refine lv_aload_n hx hb dX8_isGood_6 rfl (lv_at hl 0 rfl) ?_
  refine lv_iload_n hx hb dX8_isGood_7 rfl (lv_at hl 1 rfl) ?_
  refine lv_iload_n hx hb dX8_isGood_8 rfl (lv_at hl 2 rfl) ?_
  refine lv_iconst (v := 1) hx hb dX8_isGood_9 kc_i1 ?_
  refine lv_iadd hx hb dX8_isGood_10 ?_
  obtain ⟨r4, e3, h⟩ := ob1_some h
  refine j_i (j_runV (rest := [.int r2]) hX hP hl.1 Y_X8_valueAt cok6 (s157_152) sk_152 (c_X8_valueAt hA e3) ⟨rfl, rfl⟩ q894 ⟨Nat.le_of_ble_eq_true rfl, Nat.le_of_ble_eq_true rfl⟩ rfl rfl (Nat.le_of_ble_eq_true rfl) dX8_isGood_11) hS (fun H locs hP hS => ?_)
  refine x_icmp_ne (tgt := 21) hx hb dX8_isGood_14 (by decide) h (fun c5 h => ?_) (fun c5 h => ?_)
  · refine lv_iconst (v := 0) hx hb dX8_isGood_21 kc_i0 ?_
    exact t_X8_isGood_b22 hX hr hlk  _ _ h _ _ _ hP hS (lv_sub hl [] rfl)
  · refine lv_iconst (v := 1) hx hb dX8_isGood_17 kc_i1 ?_
    refine lv_goto (tgt := 22) hx hb dX8_isGood_18 (by decide) ?_
    exact t_X8_isGood_b22 hX hr hlk  _ _ h _ _ _ hP hS (lv_sub hl [] rfl)
/-! OwnerlessCoinModel.spoils(III)V -/
def rm_X8_spoils : Room := { frames := 2, cells := 0, slots := 0, locals := 42 }
theorem Y_X8_spoils : yv yX8_spoils cX8_spoils 4 none 3 RX8 := ⟨q923, q922, q27, q57, by decide +kernel⟩
set_option maxHeartbeats 4000000 in
set_option maxRecDepth 100000 in
theorem c_X8_spoils {l : Launch} {D : va_G} {tc : Tc} {ad : Nat → Nat} {A : Nat → Prop} (hA : adok ad A) {I M : St} {v1 : Int32} {v2 : Int32} {v3 : Int32} {II : St} (h : f_X8_spoils v1 v2 v3 M = some II) : Met l yX8_spoils (Cond.code yX8_spoils cX8_spoils 4 none :: tw) rm_X8_spoils (pre D tc ad [.ref (ad 152), .int v1, .int v2, .int v3] (cmb I M)) (qv D tc ad A (cmb I II)) 0 0 A := by
  unfold f_X8_spoils at h
  refine mk_met (own := RX8) (by decide +kernel) rfl hA (Nat.le_of_ble_eq_true rfl) ?_
  intro p e s m below meth c ls hX hr hlk hl hP hS
  have hl : lv_has ls 4 [(0, .ref (ad 152)), (1, .int v1), (2, .int v2), (3, .int v3)] := hl
  have hx := hX.1
  have hb := hX.2.1
  have hown := hX.2.2.2.1
  have hts := hX.2.2.2.2.1
  refine lv_aload_n hx hb dX8_spoils_0 rfl (lv_at hl 0 rfl) ?_
  refine m_getq (t := 153) hX hP cok6 0 sge_152 s157_152 sk_152 (by decide) rfl q780 dX8_spoils_1 ?_
  refine lv_iload_n hx hb dX8_spoils_4 rfl (lv_at hl 1 rfl) ?_
  obtain ⟨r2, e1, h⟩ := ob1_some h
  refine j_i (j_runS (rest := [.ref (ad 153)]) hX hP hl.1 Y_X8_person (c_X8_person hA e1) ⟨rfl, rfl⟩ q814 ⟨Nat.le_of_ble_eq_true rfl, Nat.le_of_ble_eq_true rfl⟩ rfl rfl (Nat.le_of_ble_eq_true rfl) dX8_spoils_5) hS (fun H locs hP hS => ?_)
  refine lv_bipush (v := 22) hx hb dX8_spoils_8 kc_b22 ?_
  refine lv_iadd hx hb dX8_spoils_10 ?_
  refine x_let h (fun x3 h => ?_)
  refine lv_iload_n hx hb dX8_spoils_11 rfl (lv_at hl 2 rfl) ?_
  refine lv_iadd hx hb dX8_spoils_12 ?_
  refine x_let h (fun x4 h => ?_)
  refine lv_aload_n hx hb dX8_spoils_13 rfl (lv_at hl 0 rfl) ?_
  refine lv_iload_n hx hb dX8_spoils_14 rfl (lv_at hl 1 rfl) ?_
  refine lv_iload_n hx hb dX8_spoils_15 rfl (lv_at hl 2 rfl) ?_
  obtain ⟨r6, e5, h⟩ := ob1_some h
  refine j_i (j_runV (rest := [.int x4, .ref (ad 153)]) hX hP hl.1 Y_X8_shareOf cok6 (s157_152) sk_152 (c_X8_shareOf hA e5) ⟨rfl, rfl⟩ q924 ⟨Nat.le_of_ble_eq_true rfl, Nat.le_of_ble_eq_true rfl⟩ rfl rfl (Nat.le_of_ble_eq_true rfl) dX8_spoils_16) hS (fun H locs hP hS => ?_)
  refine lv_iload_n hx hb dX8_spoils_19 rfl (lv_at hl 3 rfl) ?_
  refine lv_iadd hx hb dX8_spoils_20 ?_
  refine x_let h (fun x7 h => ?_)
  refine lv_sipush (v := 1019) hx hb dX8_spoils_21 kc_s1019 ?_
  refine lv_irem hx hb dX8_spoils_24 (by decide) ?_
  refine m_ast hX hP hS h (sge_153) s157_153 sk_153 sn_153 dX8_spoils_25 (fun M8 H locs h hP hS => ?_)
  cases h
  exact j_vret hX hr hlk hP hS dX8_spoils_26
/-! OwnerlessCoinModel.spoil(III)I -/
def rm_X8_spoil : Room := { frames := 5, cells := 0, slots := 0, locals := 107 }
theorem Y_X8_spoil : yv yX8_spoil cX8_spoil 4 (some .int) 3 RX8 := ⟨q907, q905, q906, q57, by decide +kernel⟩
set_option maxHeartbeats 4000000 in
set_option maxRecDepth 100000 in
theorem t_X8_spoil_b27 {p : Program} {l : Launch} {e : Env} {s : State} {m : MethodId} {args : Array Value} {below : List Frame} {meth : Method} {c : Code} {D : va_G} {tc : Tc} {ad : Nat → Nat} {A : Nat → Prop} {I : St} {rr : Int32} {II : St} (hX : cx p s m args c cX8_spoil 4 RX8 D tc ad A) (hr : meth.sig.returnType = some .int) (hlk : meth.locks = false) : ∀ (M : St), f_X8_spoil_b27 M = some (rr, II) → ∀ (H : Heap) (locs : List Loc) (ls : Array Slot), va_P D vwCl (wl tc ad (cmb I M)) H → va_S A s.heap H locs → lv_has ls 4 [] → W p l e rm_X8_spoil s m args below meth c H locs 0 0 (MQ below (qi D tc ad A rr (cmb I II)) args s 0 0 A) (F0 m 27 ls []) := by
  intro M h H locs ls hP hS hl
  unfold f_X8_spoil_b27 at h
  have hx := hX.1
  have hb := hX.2.1
  have hown := hX.2.2.2.1
  have hts := hX.2.2.2.2.1
  have hA := hX.2.2.2.2.2.2
  refine lv_iconst (v := (-1)) hx hb dX8_spoil_27 kc_im1 ?_
  cases h
  exact j_iret hX hr hlk hP hS dX8_spoil_28
set_option maxHeartbeats 4000000 in
set_option maxRecDepth 100000 in
theorem c_X8_spoil {l : Launch} {D : va_G} {tc : Tc} {ad : Nat → Nat} {A : Nat → Prop} (hA : adok ad A) {I M : St} {v1 : Int32} {v2 : Int32} {v3 : Int32} {rr : Int32} {II : St} (h : f_X8_spoil v1 v2 v3 M = some (rr, II)) : Met l yX8_spoil (Cond.code yX8_spoil cX8_spoil 4 (some .int) :: tw) rm_X8_spoil (pre D tc ad [.ref (ad 152), .int v1, .int v2, .int v3] (cmb I M)) (qi D tc ad A rr (cmb I II)) 0 0 A := by
  unfold f_X8_spoil at h
  refine mk_met (own := RX8) (by decide +kernel) rfl hA (Nat.le_of_ble_eq_true rfl) ?_
  intro p e s m below meth c ls hX hr hlk hl hP hS
  have hl : lv_has ls 4 [(0, .ref (ad 152)), (1, .int v1), (2, .int v2), (3, .int v3)] := hl
  have hx := hX.1
  have hb := hX.2.1
  have hown := hX.2.2.2.1
  have hts := hX.2.2.2.2.1
  refine lv_aload_n hx hb dX8_spoil_0 rfl (lv_at hl 0 rfl) ?_
  refine lv_iload_n hx hb dX8_spoil_1 rfl (lv_at hl 1 rfl) ?_
  obtain ⟨r2, e1, h⟩ := ob1_some h
  refine j_i (j_runV (rest := []) hX hP hl.1 Y_X8_isPerson cok6 (s157_152) sk_152 (c_X8_isPerson hA e1) ⟨rfl, rfl⟩ q821 ⟨Nat.le_of_ble_eq_true rfl, Nat.le_of_ble_eq_true rfl⟩ rfl rfl (Nat.le_of_ble_eq_true rfl) dX8_spoil_2) hS (fun H locs hP hS => ?_)
  refine x_if_eq (tgt := 27) hx hb dX8_spoil_5 (by decide) h (fun c3 h => ?_) (fun c3 h => ?_)
  · exact t_X8_spoil_b27 hX hr hlk  _ h _ _ _ hP hS (lv_sub hl [] rfl)
  · refine lv_aload_n hx hb dX8_spoil_8 rfl (lv_at hl 0 rfl) ?_
    refine lv_iload_n hx hb dX8_spoil_9 rfl (lv_at hl 2 rfl) ?_
    obtain ⟨r5, e4, h⟩ := ob1_some h
    refine j_i (j_runV (rest := []) hX hP hl.1 Y_X8_isPerson cok6 (s157_152) sk_152 (c_X8_isPerson hA e4) ⟨rfl, rfl⟩ q821 ⟨Nat.le_of_ble_eq_true rfl, Nat.le_of_ble_eq_true rfl⟩ rfl rfl (Nat.le_of_ble_eq_true rfl) dX8_spoil_10) hS (fun H locs hP hS => ?_)
    refine x_if_eq (tgt := 27) hx hb dX8_spoil_13 (by decide) h (fun c6 h => ?_) (fun c6 h => ?_)
    · exact t_X8_spoil_b27 hX hr hlk  _ h _ _ _ hP hS (lv_sub hl [] rfl)
    · refine lv_iload_n hx hb dX8_spoil_16 rfl (lv_at hl 3 rfl) ?_
      refine lv_iconst (v := 1) hx hb dX8_spoil_17 kc_i1 ?_
      refine lv_sipush (v := 1018) hx hb dX8_spoil_18 kc_s1018 ?_
      obtain ⟨r8, e7, h⟩ := ob1_some h
      refine j_i (j_runS (rest := []) hX hP hl.1 Y_X8_in (c_X8_in hA e7) ⟨rfl, rfl⟩ q807 ⟨Nat.le_of_ble_eq_true rfl, Nat.le_of_ble_eq_true rfl⟩ rfl rfl (Nat.le_of_ble_eq_true rfl) dX8_spoil_21) hS (fun H locs hP hS => ?_)
      refine x_if_ne (tgt := 29) hx hb dX8_spoil_24 (by decide) h (fun c9 h => ?_) (fun c9 h => ?_)
      · refine lv_aload_n hx hb dX8_spoil_29 rfl (lv_at hl 0 rfl) ?_
        refine lv_iload_n hx hb dX8_spoil_30 rfl (lv_at hl 1 rfl) ?_
        refine lv_iload_n hx hb dX8_spoil_31 rfl (lv_at hl 2 rfl) ?_
        obtain ⟨r11, e10, h⟩ := ob1_some h
        refine j_i (j_runV (rest := []) hX hP hl.1 Y_X8_hasShare cok6 (s157_152) sk_152 (c_X8_hasShare hA e10) ⟨rfl, rfl⟩ q908 ⟨Nat.le_of_ble_eq_true rfl, Nat.le_of_ble_eq_true rfl⟩ rfl rfl (Nat.le_of_ble_eq_true rfl) dX8_spoil_32) hS (fun H locs hP hS => ?_)
        refine x_if_ne (tgt := 41) hx hb dX8_spoil_35 (by decide) h (fun c12 h => ?_) (fun c12 h => ?_)
        · refine lv_aload_n hx hb dX8_spoil_41 rfl (lv_at hl 0 rfl) ?_
          obtain ⟨M14, e13, h⟩ := ob1_some h
          refine j_v (j_runV (rest := []) hX hP hl.1 Y_X8_act cok6 (s157_152) sk_152 (c_X8_act hA e13) ⟨rfl, rfl⟩ q810 ⟨Nat.le_of_ble_eq_true rfl, Nat.le_of_ble_eq_true rfl⟩ rfl rfl (Nat.le_of_ble_eq_true rfl) dX8_spoil_42) hS (fun H locs hP hS => ?_)
          refine lv_aload_n hx hb dX8_spoil_45 rfl (lv_at hl 0 rfl) ?_
          refine lv_iload_n hx hb dX8_spoil_46 rfl (lv_at hl 1 rfl) ?_
          refine lv_iload_n hx hb dX8_spoil_47 rfl (lv_at hl 2 rfl) ?_
          refine lv_iload_n hx hb dX8_spoil_48 rfl (lv_at hl 3 rfl) ?_
          obtain ⟨M16, e15, h⟩ := ob1_some h
          refine j_v (j_runV (rest := []) hX hP hl.1 Y_X8_spoils cok6 (s157_152) sk_152 (c_X8_spoils hA e15) ⟨rfl, rfl⟩ q920 ⟨Nat.le_of_ble_eq_true rfl, Nat.le_of_ble_eq_true rfl⟩ rfl rfl (Nat.le_of_ble_eq_true rfl) dX8_spoil_49) hS (fun H locs hP hS => ?_)
          refine lv_aload_n hx hb dX8_spoil_52 rfl (lv_at hl 0 rfl) ?_
          refine lv_iload_n hx hb dX8_spoil_53 rfl (lv_at hl 1 rfl) ?_
          refine lv_iload_n hx hb dX8_spoil_54 rfl (lv_at hl 2 rfl) ?_
          obtain ⟨r18, e17, h⟩ := ob1_some h
          refine j_i (j_runV (rest := []) hX hP hl.1 Y_X8_shareOf cok6 (s157_152) sk_152 (c_X8_shareOf hA e17) ⟨rfl, rfl⟩ q924 ⟨Nat.le_of_ble_eq_true rfl, Nat.le_of_ble_eq_true rfl⟩ rfl rfl (Nat.le_of_ble_eq_true rfl) dX8_spoil_55) hS (fun H locs hP hS => ?_)
          cases h
          exact j_iret hX hr hlk hP hS dX8_spoil_58
        · refine lv_bipush (v := (-9)) hx hb dX8_spoil_38 kc_bm9 ?_
          cases h
          exact j_iret hX hr hlk hP hS dX8_spoil_40
      · exact t_X8_spoil_b27 hX hr hlk  _ h _ _ _ hP hS (lv_sub hl [] rfl)
/-! OwnerlessCoinModel.complains(II)I -/
def rm_X8_complains : Room := { frames := 3, cells := 0, slots := 0, locals := 66 }
theorem Y_X8_complains : yv yX8_complains cX8_complains 3 (some .int) 2 RX8 := ⟨q935, q934, q29, q57, by decide +kernel⟩
set_option maxHeartbeats 4000000 in
set_option maxRecDepth 100000 in
theorem c_X8_complains {l : Launch} {D : va_G} {tc : Tc} {ad : Nat → Nat} {A : Nat → Prop} (hA : adok ad A) {I M : St} {v1 : Int32} {v2 : Int32} {rr : Int32} {II : St} (h : f_X8_complains v1 v2 M = some (rr, II)) : Met l yX8_complains (Cond.code yX8_complains cX8_complains 3 (some .int) :: tw) rm_X8_complains (pre D tc ad [.ref (ad 152), .int v1, .int v2] (cmb I M)) (qi D tc ad A rr (cmb I II)) 0 0 A := by
  unfold f_X8_complains at h
  refine mk_met (own := RX8) (by decide +kernel) rfl hA (Nat.le_of_ble_eq_true rfl) ?_
  intro p e s m below meth c ls hX hr hlk hl hP hS
  have hl : lv_has ls 3 [(0, .ref (ad 152)), (1, .int v1), (2, .int v2)] := hl
  have hx := hX.1
  have hb := hX.2.1
  have hown := hX.2.2.2.1
  have hts := hX.2.2.2.2.1
  refine lv_aload_n hx hb dX8_complains_0 rfl (lv_at hl 0 rfl) ?_
  refine lv_iload_n hx hb dX8_complains_1 rfl (lv_at hl 2 rfl) ?_
  refine lv_iload_n hx hb dX8_complains_2 rfl (lv_at hl 1 rfl) ?_
  obtain ⟨r2, e1, h⟩ := ob1_some h
  refine j_i (j_runV (rest := []) hX hP hl.1 Y_X8_isGood cok6 (s157_152) sk_152 (c_X8_isGood hA e1) ⟨rfl, rfl⟩ q936 ⟨Nat.le_of_ble_eq_true rfl, Nat.le_of_ble_eq_true rfl⟩ rfl rfl (Nat.le_of_ble_eq_true rfl) dX8_complains_3) hS (fun H locs hP hS => ?_)
  refine x_if_eq (tgt := 16) hx hb dX8_complains_6 (by decide) h (fun c3 h => ?_) (fun c3 h => ?_)
  · refine lv_aload_n hx hb dX8_complains_16 rfl (lv_at hl 0 rfl) ?_
    refine lv_iload_n hx hb dX8_complains_17 rfl (lv_at hl 2 rfl) ?_
    obtain ⟨M5, e4, h⟩ := ob1_some h
    refine j_v (j_runV (rest := []) hX hP hl.1 Y_X8_pays cok6 (s157_152) sk_152 (c_X8_pays hA e4) ⟨rfl, rfl⟩ q940 ⟨Nat.le_of_ble_eq_true rfl, Nat.le_of_ble_eq_true rfl⟩ rfl rfl (Nat.le_of_ble_eq_true rfl) dX8_complains_18) hS (fun H locs hP hS => ?_)
    refine lv_aload_n hx hb dX8_complains_21 rfl (lv_at hl 0 rfl) ?_
    refine m_getq (t := 153) hX hP cok6 0 sge_152 s157_152 sk_152 (by decide) rfl q780 dX8_complains_22 ?_
    refine lv_iload_n hx hb dX8_complains_25 rfl (lv_at hl 2 rfl) ?_
    obtain ⟨r7, e6, h⟩ := ob1_some h
    refine j_i (j_runS (rest := [.ref (ad 153)]) hX hP hl.1 Y_X8_person (c_X8_person hA e6) ⟨rfl, rfl⟩ q814 ⟨Nat.le_of_ble_eq_true rfl, Nat.le_of_ble_eq_true rfl⟩ rfl rfl (Nat.le_of_ble_eq_true rfl) dX8_complains_26) hS (fun H locs hP hS => ?_)
    refine lv_iconst (v := 5) hx hb dX8_complains_29 kc_i5 ?_
    refine lv_iadd hx hb dX8_complains_30 ?_
    refine x_let h (fun x8 h => ?_)
    refine lv_iconst (v := 0) hx hb dX8_complains_31 kc_i0 ?_
    refine m_ast hX hP hS h (sge_153) s157_153 sk_153 sn_153 dX8_complains_32 (fun M9 H locs h hP hS => ?_)
    refine lv_aload_n hx hb dX8_complains_33 rfl (lv_at hl 0 rfl) ?_
    refine m_getq (t := 153) hX hP cok6 0 sge_152 s157_152 sk_152 (by decide) rfl q780 dX8_complains_34 ?_
    refine lv_iload_n hx hb dX8_complains_37 rfl (lv_at hl 2 rfl) ?_
    obtain ⟨r11, e10, h⟩ := ob1_some h
    refine j_i (j_runS (rest := [.ref (ad 153)]) hX hP hl.1 Y_X8_person (c_X8_person hA e10) ⟨rfl, rfl⟩ q814 ⟨Nat.le_of_ble_eq_true rfl, Nat.le_of_ble_eq_true rfl⟩ rfl rfl (Nat.le_of_ble_eq_true rfl) dX8_complains_38) hS (fun H locs hP hS => ?_)
    refine lv_bipush (v := 8) hx hb dX8_complains_41 kc_b8 ?_
    refine lv_iadd hx hb dX8_complains_43 ?_
    refine x_let h (fun x12 h => ?_)
    refine lv_iconst (v := 1) hx hb dX8_complains_44 kc_i1 ?_
    refine m_ast hX hP hS h (sge_153) s157_153 sk_153 sn_153 dX8_complains_45 (fun M13 H locs h hP hS => ?_)
    refine lv_aload_n hx hb dX8_complains_46 rfl (lv_at hl 0 rfl) ?_
    refine m_getq (t := 153) hX hP cok6 0 sge_152 s157_152 sk_152 (by decide) rfl q780 dX8_complains_47 ?_
    refine lv_iload_n hx hb dX8_complains_50 rfl (lv_at hl 2 rfl) ?_
    obtain ⟨r15, e14, h⟩ := ob1_some h
    refine j_i (j_runS (rest := [.ref (ad 153)]) hX hP hl.1 Y_X8_person (c_X8_person hA e14) ⟨rfl, rfl⟩ q814 ⟨Nat.le_of_ble_eq_true rfl, Nat.le_of_ble_eq_true rfl⟩ rfl rfl (Nat.le_of_ble_eq_true rfl) dX8_complains_51) hS (fun H locs hP hS => ?_)
    refine lv_iconst (v := 3) hx hb dX8_complains_54 kc_i3 ?_
    refine lv_iadd hx hb dX8_complains_55 ?_
    refine x_let h (fun x16 h => ?_)
    refine lv_dup2_11 hx hb dX8_complains_56 rfl rfl ?_
    refine m_ald hX hP h (sge_153) s157_153 sk_153 sn_153 dX8_complains_57 (fun h => ?_)
    refine x_let h (fun x17 h => ?_)
    refine lv_iconst (v := 1) hx hb dX8_complains_58 kc_i1 ?_
    refine lv_iadd hx hb dX8_complains_59 ?_
    refine m_ast hX hP hS h (sge_153) s157_153 sk_153 sn_153 dX8_complains_60 (fun M18 H locs h hP hS => ?_)
    refine lv_iconst (v := 1) hx hb dX8_complains_61 kc_i1 ?_
    cases h
    exact j_iret hX hr hlk hP hS dX8_complains_62
  · refine lv_aload_n hx hb dX8_complains_9 rfl (lv_at hl 0 rfl) ?_
    refine lv_iload_n hx hb dX8_complains_10 rfl (lv_at hl 1 rfl) ?_
    obtain ⟨M20, e19, h⟩ := ob1_some h
    refine j_v (j_runV (rest := []) hX hP hl.1 Y_X8_pays cok6 (s157_152) sk_152 (c_X8_pays hA e19) ⟨rfl, rfl⟩ q940 ⟨Nat.le_of_ble_eq_true rfl, Nat.le_of_ble_eq_true rfl⟩ rfl rfl (Nat.le_of_ble_eq_true rfl) dX8_complains_11) hS (fun H locs hP hS => ?_)
    refine lv_iconst (v := 0) hx hb dX8_complains_14 kc_i0 ?_
    cases h
    exact j_iret hX hr hlk hP hS dX8_complains_15
/-! OwnerlessCoinModel.complain(II)I -/
def rm_X8_complain : Room := { frames := 5, cells := 0, slots := 0, locals := 107 }
theorem Y_X8_complain : yv yX8_complain cX8_complain 3 (some .int) 2 RX8 := ⟨q931, q929, q930, q57, by decide +kernel⟩
set_option maxHeartbeats 4000000 in
set_option maxRecDepth 100000 in
theorem t_X8_complain_b21 {p : Program} {l : Launch} {e : Env} {s : State} {m : MethodId} {args : Array Value} {below : List Frame} {meth : Method} {c : Code} {D : va_G} {tc : Tc} {ad : Nat → Nat} {A : Nat → Prop} {I : St} {rr : Int32} {II : St} (hX : cx p s m args c cX8_complain 3 RX8 D tc ad A) (hr : meth.sig.returnType = some .int) (hlk : meth.locks = false) : ∀ (M : St), f_X8_complain_b21 M = some (rr, II) → ∀ (H : Heap) (locs : List Loc) (ls : Array Slot), va_P D vwCl (wl tc ad (cmb I M)) H → va_S A s.heap H locs → lv_has ls 3 [] → W p l e rm_X8_complain s m args below meth c H locs 0 0 (MQ below (qi D tc ad A rr (cmb I II)) args s 0 0 A) (F0 m 21 ls []) := by
  intro M h H locs ls hP hS hl
  unfold f_X8_complain_b21 at h
  have hx := hX.1
  have hb := hX.2.1
  have hown := hX.2.2.2.1
  have hts := hX.2.2.2.2.1
  have hA := hX.2.2.2.2.2.2
  refine lv_iconst (v := (-1)) hx hb dX8_complain_21 kc_im1 ?_
  cases h
  exact j_iret hX hr hlk hP hS dX8_complain_22
set_option maxHeartbeats 4000000 in
set_option maxRecDepth 100000 in
theorem c_X8_complain {l : Launch} {D : va_G} {tc : Tc} {ad : Nat → Nat} {A : Nat → Prop} (hA : adok ad A) {I M : St} {v1 : Int32} {v2 : Int32} {rr : Int32} {II : St} (h : f_X8_complain v1 v2 M = some (rr, II)) : Met l yX8_complain (Cond.code yX8_complain cX8_complain 3 (some .int) :: tw) rm_X8_complain (pre D tc ad [.ref (ad 152), .int v1, .int v2] (cmb I M)) (qi D tc ad A rr (cmb I II)) 0 0 A := by
  unfold f_X8_complain at h
  refine mk_met (own := RX8) (by decide +kernel) rfl hA (Nat.le_of_ble_eq_true rfl) ?_
  intro p e s m below meth c ls hX hr hlk hl hP hS
  have hl : lv_has ls 3 [(0, .ref (ad 152)), (1, .int v1), (2, .int v2)] := hl
  have hx := hX.1
  have hb := hX.2.1
  have hown := hX.2.2.2.1
  have hts := hX.2.2.2.2.1
  refine lv_aload_n hx hb dX8_complain_0 rfl (lv_at hl 0 rfl) ?_
  refine lv_iload_n hx hb dX8_complain_1 rfl (lv_at hl 1 rfl) ?_
  obtain ⟨r2, e1, h⟩ := ob1_some h
  refine j_i (j_runV (rest := []) hX hP hl.1 Y_X8_isPerson cok6 (s157_152) sk_152 (c_X8_isPerson hA e1) ⟨rfl, rfl⟩ q821 ⟨Nat.le_of_ble_eq_true rfl, Nat.le_of_ble_eq_true rfl⟩ rfl rfl (Nat.le_of_ble_eq_true rfl) dX8_complain_2) hS (fun H locs hP hS => ?_)
  refine x_if_eq (tgt := 21) hx hb dX8_complain_5 (by decide) h (fun c3 h => ?_) (fun c3 h => ?_)
  · exact t_X8_complain_b21 hX hr hlk  _ h _ _ _ hP hS (lv_sub hl [] rfl)
  · refine lv_aload_n hx hb dX8_complain_8 rfl (lv_at hl 0 rfl) ?_
    refine lv_iload_n hx hb dX8_complain_9 rfl (lv_at hl 2 rfl) ?_
    obtain ⟨r5, e4, h⟩ := ob1_some h
    refine j_i (j_runV (rest := []) hX hP hl.1 Y_X8_isPerson cok6 (s157_152) sk_152 (c_X8_isPerson hA e4) ⟨rfl, rfl⟩ q821 ⟨Nat.le_of_ble_eq_true rfl, Nat.le_of_ble_eq_true rfl⟩ rfl rfl (Nat.le_of_ble_eq_true rfl) dX8_complain_10) hS (fun H locs hP hS => ?_)
    refine x_if_eq (tgt := 21) hx hb dX8_complain_13 (by decide) h (fun c6 h => ?_) (fun c6 h => ?_)
    · exact t_X8_complain_b21 hX hr hlk  _ h _ _ _ hP hS (lv_sub hl [] rfl)
    · refine lv_iload_n hx hb dX8_complain_16 rfl (lv_at hl 1 rfl) ?_
      refine lv_iload_n hx hb dX8_complain_17 rfl (lv_at hl 2 rfl) ?_
      refine x_icmp_ne (tgt := 23) hx hb dX8_complain_18 (by decide) h (fun c7 h => ?_) (fun c7 h => ?_)
      · refine lv_aload_n hx hb dX8_complain_23 rfl (lv_at hl 0 rfl) ?_
        refine m_getq (t := 153) hX hP cok6 0 sge_152 s157_152 sk_152 (by decide) rfl q780 dX8_complain_24 ?_
        refine lv_iconst (v := 0) hx hb dX8_complain_27 kc_i0 ?_
        refine m_ald hX hP h (sge_153) s157_153 sk_153 sn_153 dX8_complain_28 (fun h => ?_)
        refine x_let h (fun x8 h => ?_)
        refine lv_iconst (v := 1) hx hb dX8_complain_29 kc_i1 ?_
        refine x_icmp_eq (tgt := 36) hx hb dX8_complain_30 (by decide) h (fun c9 h => ?_) (fun c9 h => ?_)
        · refine lv_aload_n hx hb dX8_complain_36 rfl (lv_at hl 0 rfl) ?_
          refine lv_iload_n hx hb dX8_complain_37 rfl (lv_at hl 2 rfl) ?_
          refine lv_iload_n hx hb dX8_complain_38 rfl (lv_at hl 1 rfl) ?_
          obtain ⟨r11, e10, h⟩ := ob1_some h
          refine j_i (j_runV (rest := []) hX hP hl.1 Y_X8_hasShare cok6 (s157_152) sk_152 (c_X8_hasShare hA e10) ⟨rfl, rfl⟩ q908 ⟨Nat.le_of_ble_eq_true rfl, Nat.le_of_ble_eq_true rfl⟩ rfl rfl (Nat.le_of_ble_eq_true rfl) dX8_complain_39) hS (fun H locs hP hS => ?_)
          refine x_if_ne (tgt := 48) hx hb dX8_complain_42 (by decide) h (fun c12 h => ?_) (fun c12 h => ?_)
          · refine lv_aload_n hx hb dX8_complain_48 rfl (lv_at hl 0 rfl) ?_
            obtain ⟨M14, e13, h⟩ := ob1_some h
            refine j_v (j_runV (rest := []) hX hP hl.1 Y_X8_act cok6 (s157_152) sk_152 (c_X8_act hA e13) ⟨rfl, rfl⟩ q810 ⟨Nat.le_of_ble_eq_true rfl, Nat.le_of_ble_eq_true rfl⟩ rfl rfl (Nat.le_of_ble_eq_true rfl) dX8_complain_49) hS (fun H locs hP hS => ?_)
            refine lv_aload_n hx hb dX8_complain_52 rfl (lv_at hl 0 rfl) ?_
            refine lv_iload_n hx hb dX8_complain_53 rfl (lv_at hl 1 rfl) ?_
            refine lv_iload_n hx hb dX8_complain_54 rfl (lv_at hl 2 rfl) ?_
            obtain ⟨r17, M16, e15, h⟩ := ob2_some h
            refine j_i (j_runV (rest := []) hX hP hl.1 Y_X8_complains cok6 (s157_152) sk_152 (c_X8_complains hA e15) ⟨rfl, rfl⟩ q932 ⟨Nat.le_of_ble_eq_true rfl, Nat.le_of_ble_eq_true rfl⟩ rfl rfl (Nat.le_of_ble_eq_true rfl) dX8_complain_55) hS (fun H locs hP hS => ?_)
            cases h
            exact j_iret hX hr hlk hP hS dX8_complain_58
          · refine lv_bipush (v := (-9)) hx hb dX8_complain_45 kc_bm9 ?_
            cases h
            exact j_iret hX hr hlk hP hS dX8_complain_47
        · refine lv_bipush (v := (-2)) hx hb dX8_complain_33 kc_bm2 ?_
          cases h
          exact j_iret hX hr hlk hP hS dX8_complain_35
      · exact t_X8_complain_b21 hX hr hlk  _ h _ _ _ hP hS (lv_sub hl [] rfl)
/-! OwnerlessCoinModel.ends(IIII)V -/
def rm_X8_ends : Room := { frames := 0, cells := 0, slots := 0, locals := 0 }
theorem Y_X8_ends : yv yX8_ends cX8_ends 6 none 4 RX8 := ⟨q962, q961, q34, q57, by decide +kernel⟩
set_option maxHeartbeats 4000000 in
set_option maxRecDepth 100000 in
theorem t_X8_ends_b246 {p : Program} {l : Launch} {e : Env} {s : State} {m : MethodId} {args : Array Value} {below : List Frame} {meth : Method} {c : Code} {D : va_G} {tc : Tc} {ad : Nat → Nat} {A : Nat → Prop} {I : St} {II : St} (hX : cx p s m args c cX8_ends 6 RX8 D tc ad A) (hr : meth.sig.returnType = none) (hlk : meth.locks = false) : ∀ (t1 : Int32) (t2 : Int32) (M : St), f_X8_ends_b246 t1 t2 M = some II → ∀ (H : Heap) (locs : List Loc) (ls : Array Slot), va_P D vwCl (wl tc ad (cmb I M)) H → va_S A s.heap H locs → lv_has ls 6 [] → W p l e rm_X8_ends s m args below meth c H locs 0 0 (MQ below (qv D tc ad A (cmb I II)) args s 0 0 A) (F0 m 246 ls [.int t2, .int t1, .ref (ad 153)]) := by
  intro t1 t2 M h H locs ls hP hS hl
  unfold f_X8_ends_b246 at h
  have hx := hX.1
  have hb := hX.2.1
  have hown := hX.2.2.2.1
  have hts := hX.2.2.2.2.1
  have hA := hX.2.2.2.2.2.2
  refine m_ast hX hP hS h (sge_153) s157_153 sk_153 sn_153 dX8_ends_246 (fun M1 H locs h hP hS => ?_)
  cases h
  exact j_vret hX hr hlk hP hS dX8_ends_247
set_option maxHeartbeats 4000000 in
set_option maxRecDepth 100000 in
theorem t_X8_ends_b225 {p : Program} {l : Launch} {e : Env} {s : State} {m : MethodId} {args : Array Value} {below : List Frame} {meth : Method} {c : Code} {D : va_G} {tc : Tc} {ad : Nat → Nat} {A : Nat → Prop} {I : St} {II : St} (hX : cx p s m args c cX8_ends 6 RX8 D tc ad A) (hr : meth.sig.returnType = none) (hlk : meth.locks = false) : ∀ (v1 : Int32) (v2 : Int32) (t1 : Int32) (t2 : Int32) (t3 : Int32) (M : St), f_X8_ends_b225 v1 v2 t1 t2 t3 M = some II → ∀ (H : Heap) (locs : List Loc) (ls : Array Slot), va_P D vwCl (wl tc ad (cmb I M)) H → va_S A s.heap H locs → lv_has ls 6 [(0, .ref (ad 152)), (1, .int v1), (2, .int v2)] → W p l e rm_X8_ends s m args below meth c H locs 0 0 (MQ below (qv D tc ad A (cmb I II)) args s 0 0 A) (F0 m 225 ls [.int t3, .int t2, .int t1, .ref (ad 153)]) := by
  intro v1 v2 t1 t2 t3 M h H locs ls hP hS hl
  unfold f_X8_ends_b225 at h
  have hx := hX.1
  have hb := hX.2.1
  have hown := hX.2.2.2.1
  have hts := hX.2.2.2.2.1
  have hA := hX.2.2.2.2.2.2
  refine lv_iadd hx hb dX8_ends_225 ?_
  refine m_ast hX hP hS h (sge_153) s157_153 sk_153 sn_153 dX8_ends_226 (fun M2 H locs h hP hS => ?_)
  refine lv_aload_n hx hb dX8_ends_227 rfl (lv_at hl 0 rfl) ?_
  refine m_getq (t := 153) hX hP cok6 0 sge_152 s157_152 sk_152 (by decide) rfl q780 dX8_ends_228 ?_
  refine lv_iconst (v := 3) hx hb dX8_ends_231 kc_i3 ?_
  refine lv_iload_n hx hb dX8_ends_232 rfl (lv_at hl 1 rfl) ?_
  refine x_if_ge (tgt := 245) hx hb dX8_ends_233 (by decide) h (fun c3 h => ?_) (fun c3 h => ?_)
  · refine lv_iload_n hx hb dX8_ends_245 rfl (lv_at hl 2 rfl) ?_
    exact t_X8_ends_b246 hX hr hlk  _ _ _ h _ _ _ hP hS (lv_sub hl [] rfl)
  · refine lv_aload_n hx hb dX8_ends_236 rfl (lv_at hl 0 rfl) ?_
    refine m_getq (t := 153) hX hP cok6 0 sge_152 s157_152 sk_152 (by decide) rfl q780 dX8_ends_237 ?_
    refine lv_iconst (v := 3) hx hb dX8_ends_240 kc_i3 ?_
    refine m_ald hX hP h (sge_153) s157_153 sk_153 sn_153 dX8_ends_241 (fun h => ?_)
    refine lv_goto (tgt := 246) hx hb dX8_ends_242 (by decide) ?_
    exact t_X8_ends_b246 hX hr hlk  _ _ _ h _ _ _ hP hS (lv_sub hl [] rfl)
set_option maxHeartbeats 4000000 in
set_option maxRecDepth 100000 in
theorem t_X8_ends_b205 {p : Program} {l : Launch} {e : Env} {s : State} {m : MethodId} {args : Array Value} {below : List Frame} {meth : Method} {c : Code} {D : va_G} {tc : Tc} {ad : Nat → Nat} {A : Nat → Prop} {I : St} {II : St} (hX : cx p s m args c cX8_ends 6 RX8 D tc ad A) (hr : meth.sig.returnType = none) (hlk : meth.locks = false) : ∀ (v1 : Int32) (v2 : Int32) (t1 : Int32) (t2 : Int32) (t3 : Int32) (M : St), f_X8_ends_b205 v1 v2 t1 t2 t3 M = some II → ∀ (H : Heap) (locs : List Loc) (ls : Array Slot), va_P D vwCl (wl tc ad (cmb I M)) H → va_S A s.heap H locs → lv_has ls 6 [(0, .ref (ad 152)), (1, .int v1), (2, .int v2)] → W p l e rm_X8_ends s m args below meth c H locs 0 0 (MQ below (qv D tc ad A (cmb I II)) args s 0 0 A) (F0 m 205 ls [.int t3, .int t2, .int t1, .ref (ad 153)]) := by
  intro v1 v2 t1 t2 t3 M h H locs ls hP hS hl
  unfold f_X8_ends_b205 at h
  have hx := hX.1
  have hb := hX.2.1
  have hown := hX.2.2.2.1
  have hts := hX.2.2.2.2.1
  have hA := hX.2.2.2.2.2.2
  refine lv_iadd hx hb dX8_ends_205 ?_
  refine m_ast hX hP hS h (sge_153) s157_153 sk_153 sn_153 dX8_ends_206 (fun M4 H locs h hP hS => ?_)
  refine lv_aload_n hx hb dX8_ends_207 rfl (lv_at hl 0 rfl) ?_
  refine m_getq (t := 153) hX hP cok6 0 sge_152 s157_152 sk_152 (by decide) rfl q780 dX8_ends_208 ?_
  refine lv_bipush (v := 10) hx hb dX8_ends_211 kc_b10 ?_
  refine lv_dup2_11 hx hb dX8_ends_213 rfl rfl ?_
  refine m_ald hX hP h (sge_153) s157_153 sk_153 sn_153 dX8_ends_214 (fun h => ?_)
  refine x_let h (fun x5 h => ?_)
  refine lv_iload_n hx hb dX8_ends_215 rfl (lv_at hl 1 rfl) ?_
  refine lv_iconst (v := 1) hx hb dX8_ends_216 kc_i1 ?_
  refine x_icmp_ne (tgt := 224) hx hb dX8_ends_217 (by decide) h (fun c6 h => ?_) (fun c6 h => ?_)
  · refine lv_iconst (v := 0) hx hb dX8_ends_224 kc_i0 ?_
    exact t_X8_ends_b225 hX hr hlk  _ _ _ _ _ _ h _ _ _ hP hS (lv_sub hl [0, 1, 2] rfl)
  · refine lv_iconst (v := 1) hx hb dX8_ends_220 kc_i1 ?_
    refine lv_goto (tgt := 225) hx hb dX8_ends_221 (by decide) ?_
    exact t_X8_ends_b225 hX hr hlk  _ _ _ _ _ _ h _ _ _ hP hS (lv_sub hl [0, 1, 2] rfl)
set_option maxHeartbeats 4000000 in
set_option maxRecDepth 100000 in
theorem t_X8_ends_b187 {p : Program} {l : Launch} {e : Env} {s : State} {m : MethodId} {args : Array Value} {below : List Frame} {meth : Method} {c : Code} {D : va_G} {tc : Tc} {ad : Nat → Nat} {A : Nat → Prop} {I : St} {II : St} (hX : cx p s m args c cX8_ends 6 RX8 D tc ad A) (hr : meth.sig.returnType = none) (hlk : meth.locks = false) : ∀ (v1 : Int32) (v2 : Int32) (t1 : Int32) (t2 : Int32) (M : St), f_X8_ends_b187 v1 v2 t1 t2 M = some II → ∀ (H : Heap) (locs : List Loc) (ls : Array Slot), va_P D vwCl (wl tc ad (cmb I M)) H → va_S A s.heap H locs → lv_has ls 6 [(0, .ref (ad 152)), (1, .int v1), (2, .int v2)] → W p l e rm_X8_ends s m args below meth c H locs 0 0 (MQ below (qv D tc ad A (cmb I II)) args s 0 0 A) (F0 m 187 ls [.int t2, .int t1, .ref (ad 153)]) := by
  intro v1 v2 t1 t2 M h H locs ls hP hS hl
  unfold f_X8_ends_b187 at h
  have hx := hX.1
  have hb := hX.2.1
  have hown := hX.2.2.2.1
  have hts := hX.2.2.2.2.1
  have hA := hX.2.2.2.2.2.2
  refine m_ast hX hP hS h (sge_153) s157_153 sk_153 sn_153 dX8_ends_187 (fun M7 H locs h hP hS => ?_)
  refine lv_aload_n hx hb dX8_ends_188 rfl (lv_at hl 0 rfl) ?_
  refine m_getq (t := 153) hX hP cok6 0 sge_152 s157_152 sk_152 (by decide) rfl q780 dX8_ends_189 ?_
  refine lv_bipush (v := 9) hx hb dX8_ends_192 kc_b9 ?_
  refine lv_dup2_11 hx hb dX8_ends_194 rfl rfl ?_
  refine m_ald hX hP h (sge_153) s157_153 sk_153 sn_153 dX8_ends_195 (fun h => ?_)
  refine x_let h (fun x8 h => ?_)
  refine lv_iload_n hx hb dX8_ends_196 rfl (lv_at hl 1 rfl) ?_
  refine x_if_ne (tgt := 204) hx hb dX8_ends_197 (by decide) h (fun c9 h => ?_) (fun c9 h => ?_)
  · refine lv_iconst (v := 0) hx hb dX8_ends_204 kc_i0 ?_
    exact t_X8_ends_b205 hX hr hlk  _ _ _ _ _ _ h _ _ _ hP hS (lv_sub hl [0, 1, 2] rfl)
  · refine lv_iconst (v := 1) hx hb dX8_ends_200 kc_i1 ?_
    refine lv_goto (tgt := 205) hx hb dX8_ends_201 (by decide) ?_
    exact t_X8_ends_b205 hX hr hlk  _ _ _ _ _ _ h _ _ _ hP hS (lv_sub hl [0, 1, 2] rfl)
set_option maxHeartbeats 4000000 in
set_option maxRecDepth 100000 in
theorem t_X8_ends_b138 {p : Program} {l : Launch} {e : Env} {s : State} {m : MethodId} {args : Array Value} {below : List Frame} {meth : Method} {c : Code} {D : va_G} {tc : Tc} {ad : Nat → Nat} {A : Nat → Prop} {I : St} {II : St} (hX : cx p s m args c cX8_ends 6 RX8 D tc ad A) (hr : meth.sig.returnType = none) (hlk : meth.locks = false) : ∀ (v1 : Int32) (v2 : Int32) (t1 : Int32) (t2 : Int32) (M : St), f_X8_ends_b138 v1 v2 t1 t2 M = some II → ∀ (H : Heap) (locs : List Loc) (ls : Array Slot), va_P D vwCl (wl tc ad (cmb I M)) H → va_S A s.heap H locs → lv_has ls 6 [(0, .ref (ad 152)), (1, .int v1), (2, .int v2)] → W p l e rm_X8_ends s m args below meth c H locs 0 0 (MQ below (qv D tc ad A (cmb I II)) args s 0 0 A) (F0 m 138 ls [.int t2, .int t1, .ref (ad 153)]) := by
  intro v1 v2 t1 t2 M h H locs ls hP hS hl
  unfold f_X8_ends_b138 at h
  have hx := hX.1
  have hb := hX.2.1
  have hown := hX.2.2.2.1
  have hts := hX.2.2.2.2.1
  have hA := hX.2.2.2.2.2.2
  refine m_ast hX hP hS h (sge_153) s157_153 sk_153 sn_153 dX8_ends_138 (fun M10 H locs h hP hS => ?_)
  refine lv_aload_n hx hb dX8_ends_139 rfl (lv_at hl 0 rfl) ?_
  refine m_getq (t := 153) hX hP cok6 0 sge_152 s157_152 sk_152 (by decide) rfl q780 dX8_ends_140 ?_
  refine lv_bipush (v := 12) hx hb dX8_ends_143 kc_b12 ?_
  refine lv_iload_n hx hb dX8_ends_145 rfl (lv_at hl 1 rfl) ?_
  refine m_ast hX hP hS h (sge_153) s157_153 sk_153 sn_153 dX8_ends_146 (fun M11 H locs h hP hS => ?_)
  refine lv_aload_n hx hb dX8_ends_147 rfl (lv_at hl 0 rfl) ?_
  refine m_getq (t := 153) hX hP cok6 0 sge_152 s157_152 sk_152 (by decide) rfl q780 dX8_ends_148 ?_
  refine lv_bipush (v := 13) hx hb dX8_ends_151 kc_b13 ?_
  refine lv_aload_n hx hb dX8_ends_153 rfl (lv_at hl 0 rfl) ?_
  refine m_getq (t := 153) hX hP cok6 0 sge_152 s157_152 sk_152 (by decide) rfl q780 dX8_ends_154 ?_
  refine lv_bipush (v := 11) hx hb dX8_ends_157 kc_b11 ?_
  refine m_ald hX hP h (sge_153) s157_153 sk_153 sn_153 dX8_ends_159 (fun h => ?_)
  refine x_let h (fun x12 h => ?_)
  refine lv_aload_n hx hb dX8_ends_160 rfl (lv_at hl 0 rfl) ?_
  refine m_getq (t := 153) hX hP cok6 0 sge_152 s157_152 sk_152 (by decide) rfl q780 dX8_ends_161 ?_
  refine lv_bipush (v := 13) hx hb dX8_ends_164 kc_b13 ?_
  refine m_ald hX hP h (sge_153) s157_153 sk_153 sn_153 dX8_ends_166 (fun h => ?_)
  refine x_icmp_le (tgt := 180) hx hb dX8_ends_167 (by decide) h (fun c13 h => ?_) (fun c13 h => ?_)
  · refine lv_aload_n hx hb dX8_ends_180 rfl (lv_at hl 0 rfl) ?_
    refine m_getq (t := 153) hX hP cok6 0 sge_152 s157_152 sk_152 (by decide) rfl q780 dX8_ends_181 ?_
    refine lv_bipush (v := 13) hx hb dX8_ends_184 kc_b13 ?_
    refine m_ald hX hP h (sge_153) s157_153 sk_153 sn_153 dX8_ends_186 (fun h => ?_)
    exact t_X8_ends_b187 hX hr hlk  _ _ _ _ _ h _ _ _ hP hS (lv_sub hl [0, 1, 2] rfl)
  · refine lv_aload_n hx hb dX8_ends_170 rfl (lv_at hl 0 rfl) ?_
    refine m_getq (t := 153) hX hP cok6 0 sge_152 s157_152 sk_152 (by decide) rfl q780 dX8_ends_171 ?_
    refine lv_bipush (v := 11) hx hb dX8_ends_174 kc_b11 ?_
    refine m_ald hX hP h (sge_153) s157_153 sk_153 sn_153 dX8_ends_176 (fun h => ?_)
    refine lv_goto (tgt := 187) hx hb dX8_ends_177 (by decide) ?_
    exact t_X8_ends_b187 hX hr hlk  _ _ _ _ _ h _ _ _ hP hS (lv_sub hl [0, 1, 2] rfl)
set_option maxHeartbeats 4000000 in
set_option maxRecDepth 100000 in
theorem t_X8_ends_b137 {p : Program} {l : Launch} {e : Env} {s : State} {m : MethodId} {args : Array Value} {below : List Frame} {meth : Method} {c : Code} {D : va_G} {tc : Tc} {ad : Nat → Nat} {A : Nat → Prop} {I : St} {II : St} (hX : cx p s m args c cX8_ends 6 RX8 D tc ad A) (hr : meth.sig.returnType = none) (hlk : meth.locks = false) : ∀ (v1 : Int32) (v2 : Int32) (t1 : Int32) (M : St), f_X8_ends_b137 v1 v2 t1 M = some II → ∀ (H : Heap) (locs : List Loc) (ls : Array Slot), va_P D vwCl (wl tc ad (cmb I M)) H → va_S A s.heap H locs → lv_has ls 6 [(0, .ref (ad 152)), (1, .int v1), (2, .int v2)] → W p l e rm_X8_ends s m args below meth c H locs 0 0 (MQ below (qv D tc ad A (cmb I II)) args s 0 0 A) (F0 m 137 ls [.int t1, .ref (ad 153)]) := by
  intro v1 v2 t1 M h H locs ls hP hS hl
  unfold f_X8_ends_b137 at h
  have hx := hX.1
  have hb := hX.2.1
  have hown := hX.2.2.2.1
  have hts := hX.2.2.2.2.1
  have hA := hX.2.2.2.2.2.2
  refine lv_iconst (v := 1) hx hb dX8_ends_137 kc_i1 ?_
  exact t_X8_ends_b138 hX hr hlk  _ _ _ _ _ h _ _ _ hP hS (lv_sub hl [0, 1, 2] rfl)
set_option maxHeartbeats 4000000 in
set_option maxRecDepth 100000 in
theorem c_X8_ends {l : Launch} {D : va_G} {tc : Tc} {ad : Nat → Nat} {A : Nat → Prop} (hA : adok ad A) {I M : St} {v1 : Int32} {v2 : Int32} {v3 : Int32} {v4 : Int32} {II : St} (h : f_X8_ends v1 v2 v3 v4 M = some II) : Met l yX8_ends (Cond.code yX8_ends cX8_ends 6 none :: tw) rm_X8_ends (pre D tc ad [.ref (ad 152), .int v1, .int v2, .int v3, .int v4] (cmb I M)) (qv D tc ad A (cmb I II)) 0 0 A := by
  unfold f_X8_ends at h
  refine mk_met (own := RX8) (by decide +kernel) rfl hA (Nat.le_of_ble_eq_true rfl) ?_
  intro p e s m below meth c ls hX hr hlk hl hP hS
  have hl : lv_has ls 6 [(0, .ref (ad 152)), (1, .int v1), (2, .int v2), (3, .int v3), (4, .int v4)] := hl
  have hx := hX.1
  have hb := hX.2.1
  have hown := hX.2.2.2.1
  have hts := hX.2.2.2.2.1
  refine lv_sipush (v := 340) hx hb dX8_ends_0 kc_s340 ?_
  refine lv_iconst (v := 5) hx hb dX8_ends_3 kc_i5 ?_
  refine lv_aload_n hx hb dX8_ends_4 rfl (lv_at hl 0 rfl) ?_
  refine m_getq (t := 153) hX hP cok6 0 sge_152 s157_152 sk_152 (by decide) rfl q780 dX8_ends_5 ?_
  refine lv_iconst (v := 1) hx hb dX8_ends_8 kc_i1 ?_
  refine m_ald hX hP h (sge_153) s157_153 sk_153 sn_153 dX8_ends_9 (fun h => ?_)
  refine x_let h (fun x14 h => ?_)
  refine lv_bipush (v := 16) hx hb dX8_ends_10 kc_b16 ?_
  refine lv_irem hx hb dX8_ends_12 (by decide) ?_
  refine lv_imul hx hb dX8_ends_13 ?_
  refine lv_iadd hx hb dX8_ends_14 ?_
  refine x_let h (fun x15 h => ?_)
  refine lv_istore (lv' := [(5, .int x15), (0, .ref (ad 152)), (1, .int v1), (2, .int v2), (3, .int v3), (4, .int v4)]) hx hb dX8_ends_15 hl (Nat.le_of_ble_eq_true rfl) rfl (fun ls hl => ?_)
  refine lv_aload_n hx hb dX8_ends_17 rfl (lv_at hl 1 rfl) ?_
  refine m_getq (t := 153) hX hP cok6 0 sge_152 s157_152 sk_152 (by decide) rfl q780 dX8_ends_18 ?_
  refine lv_iload hx hb dX8_ends_21 (lv_at hl 0 rfl) ?_
  refine lv_iconst (v := 0) hx hb dX8_ends_23 kc_i0 ?_
  refine lv_iadd hx hb dX8_ends_24 ?_
  refine x_let h (fun x16 h => ?_)
  refine lv_iload_n hx hb dX8_ends_25 rfl (lv_at hl 2 rfl) ?_
  refine m_ast hX hP hS h (sge_153) s157_153 sk_153 sn_153 dX8_ends_26 (fun M17 H locs h hP hS => ?_)
  refine lv_aload_n hx hb dX8_ends_27 rfl (lv_at hl 1 rfl) ?_
  refine m_getq (t := 153) hX hP cok6 0 sge_152 s157_152 sk_152 (by decide) rfl q780 dX8_ends_28 ?_
  refine lv_iload hx hb dX8_ends_31 (lv_at hl 0 rfl) ?_
  refine lv_iconst (v := 1) hx hb dX8_ends_33 kc_i1 ?_
  refine lv_iadd hx hb dX8_ends_34 ?_
  refine x_let h (fun x18 h => ?_)
  refine lv_iload hx hb dX8_ends_35 (lv_at hl 5 rfl) ?_
  refine m_ast hX hP hS h (sge_153) s157_153 sk_153 sn_153 dX8_ends_37 (fun M19 H locs h hP hS => ?_)
  refine lv_aload_n hx hb dX8_ends_38 rfl (lv_at hl 1 rfl) ?_
  refine m_getq (t := 153) hX hP cok6 0 sge_152 s157_152 sk_152 (by decide) rfl q780 dX8_ends_39 ?_
  refine lv_iload hx hb dX8_ends_42 (lv_at hl 0 rfl) ?_
  refine lv_iconst (v := 2) hx hb dX8_ends_44 kc_i2 ?_
  refine lv_iadd hx hb dX8_ends_45 ?_
  refine x_let h (fun x20 h => ?_)
  refine lv_iload_n hx hb dX8_ends_46 rfl (lv_at hl 4 rfl) ?_
  refine m_ast hX hP hS h (sge_153) s157_153 sk_153 sn_153 dX8_ends_47 (fun M21 H locs h hP hS => ?_)
  refine lv_aload_n hx hb dX8_ends_48 rfl (lv_at hl 1 rfl) ?_
  refine m_getq (t := 153) hX hP cok6 0 sge_152 s157_152 sk_152 (by decide) rfl q780 dX8_ends_49 ?_
  refine lv_iload hx hb dX8_ends_52 (lv_at hl 0 rfl) ?_
  refine lv_iconst (v := 3) hx hb dX8_ends_54 kc_i3 ?_
  refine lv_iadd hx hb dX8_ends_55 ?_
  refine x_let h (fun x22 h => ?_)
  refine lv_aload_n hx hb dX8_ends_56 rfl (lv_at hl 1 rfl) ?_
  refine m_getq (t := 153) hX hP cok6 0 sge_152 s157_152 sk_152 (by decide) rfl q780 dX8_ends_57 ?_
  refine lv_iconst (v := 5) hx hb dX8_ends_60 kc_i5 ?_
  refine m_ald hX hP h (sge_153) s157_153 sk_153 sn_153 dX8_ends_61 (fun h => ?_)
  refine m_ast hX hP hS h (sge_153) s157_153 sk_153 sn_153 dX8_ends_62 (fun M23 H locs h hP hS => ?_)
  refine lv_aload_n hx hb dX8_ends_63 rfl (lv_at hl 1 rfl) ?_
  refine m_getq (t := 153) hX hP cok6 0 sge_152 s157_152 sk_152 (by decide) rfl q780 dX8_ends_64 ?_
  refine lv_iload hx hb dX8_ends_67 (lv_at hl 0 rfl) ?_
  refine lv_iconst (v := 4) hx hb dX8_ends_69 kc_i4 ?_
  refine lv_iadd hx hb dX8_ends_70 ?_
  refine x_let h (fun x24 h => ?_)
  refine lv_iload_n hx hb dX8_ends_71 rfl (lv_at hl 3 rfl) ?_
  refine m_ast hX hP hS h (sge_153) s157_153 sk_153 sn_153 dX8_ends_72 (fun M25 H locs h hP hS => ?_)
  refine lv_aload_n hx hb dX8_ends_73 rfl (lv_at hl 1 rfl) ?_
  refine m_getq (t := 153) hX hP cok6 0 sge_152 s157_152 sk_152 (by decide) rfl q780 dX8_ends_74 ?_
  refine lv_iconst (v := 1) hx hb dX8_ends_77 kc_i1 ?_
  refine lv_dup2_11 hx hb dX8_ends_78 rfl rfl ?_
  refine m_ald hX hP h (sge_153) s157_153 sk_153 sn_153 dX8_ends_79 (fun h => ?_)
  refine x_let h (fun x26 h => ?_)
  refine lv_iconst (v := 1) hx hb dX8_ends_80 kc_i1 ?_
  refine lv_iadd hx hb dX8_ends_81 ?_
  refine m_ast hX hP hS h (sge_153) s157_153 sk_153 sn_153 dX8_ends_82 (fun M27 H locs h hP hS => ?_)
  refine lv_aload_n hx hb dX8_ends_83 rfl (lv_at hl 1 rfl) ?_
  refine m_getq (t := 153) hX hP cok6 0 sge_152 s157_152 sk_152 (by decide) rfl q780 dX8_ends_84 ?_
  refine lv_iconst (v := 0) hx hb dX8_ends_87 kc_i0 ?_
  refine lv_iconst (v := 0) hx hb dX8_ends_88 kc_i0 ?_
  refine m_ast hX hP hS h (sge_153) s157_153 sk_153 sn_153 dX8_ends_89 (fun M28 H locs h hP hS => ?_)
  refine lv_aload_n hx hb dX8_ends_90 rfl (lv_at hl 1 rfl) ?_
  refine m_getq (t := 153) hX hP cok6 0 sge_152 s157_152 sk_152 (by decide) rfl q780 dX8_ends_91 ?_
  refine lv_bipush (v := 11) hx hb dX8_ends_94 kc_b11 ?_
  refine lv_iload_n hx hb dX8_ends_96 rfl (lv_at hl 2 rfl) ?_
  refine x_if_ge (tgt := 104) hx hb dX8_ends_97 (by decide) h (fun c29 h => ?_) (fun c29 h => ?_)
  · refine lv_aload_n hx hb dX8_ends_104 rfl (lv_at hl 1 rfl) ?_
    refine m_getq (t := 153) hX hP cok6 0 sge_152 s157_152 sk_152 (by decide) rfl q780 dX8_ends_105 ?_
    refine lv_bipush (v := 11) hx hb dX8_ends_108 kc_b11 ?_
    refine m_ald hX hP h (sge_153) s157_153 sk_153 sn_153 dX8_ends_110 (fun h => ?_)
    refine x_if_le (tgt := 137) hx hb dX8_ends_111 (by decide) h (fun c30 h => ?_) (fun c30 h => ?_)
    · exact t_X8_ends_b137 hX hr hlk  _ _ _ _ h _ _ _ hP hS (lv_sub hl [1, 2, 3] rfl)
    · refine lv_aload_n hx hb dX8_ends_114 rfl (lv_at hl 1 rfl) ?_
      refine m_getq (t := 153) hX hP cok6 0 sge_152 s157_152 sk_152 (by decide) rfl q780 dX8_ends_115 ?_
      refine lv_bipush (v := 12) hx hb dX8_ends_118 kc_b12 ?_
      refine m_ald hX hP h (sge_153) s157_153 sk_153 sn_153 dX8_ends_120 (fun h => ?_)
      refine x_let h (fun x31 h => ?_)
      refine lv_iload_n hx hb dX8_ends_121 rfl (lv_at hl 2 rfl) ?_
      refine x_icmp_ne (tgt := 137) hx hb dX8_ends_122 (by decide) h (fun c32 h => ?_) (fun c32 h => ?_)
      · exact t_X8_ends_b137 hX hr hlk  _ _ _ _ h _ _ _ hP hS (lv_sub hl [1, 2, 3] rfl)
      · refine lv_aload_n hx hb dX8_ends_125 rfl (lv_at hl 1 rfl) ?_
        refine m_getq (t := 153) hX hP cok6 0 sge_152 s157_152 sk_152 (by decide) rfl q780 dX8_ends_126 ?_
        refine lv_bipush (v := 11) hx hb dX8_ends_129 kc_b11 ?_
        refine m_ald hX hP h (sge_153) s157_153 sk_153 sn_153 dX8_ends_131 (fun h => ?_)
        refine x_let h (fun x33 h => ?_)
        refine lv_iconst (v := 1) hx hb dX8_ends_132 kc_i1 ?_
        refine lv_iadd hx hb dX8_ends_133 ?_
        refine lv_goto (tgt := 138) hx hb dX8_ends_134 (by decide) ?_
        exact t_X8_ends_b138 hX hr hlk  _ _ _ _ _ h _ _ _ hP hS (lv_sub hl [1, 2, 3] rfl)
  · refine lv_iconst (v := 0) hx hb dX8_ends_100 kc_i0 ?_
    refine lv_goto (tgt := 138) hx hb dX8_ends_101 (by decide) ?_
    exact t_X8_ends_b138 hX hr hlk  _ _ _ _ _ h _ _ _ hP hS (lv_sub hl [1, 2, 3] rfl)
