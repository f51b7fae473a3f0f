/-! OwnerlessCoinModel.sets(II)I -/
def rm_X8_sets : Room := { frames := 1, cells := 0, slots := 0, locals := 21 }
theorem Y_X8_sets : yv yX8_sets cX8_sets 4 (some .int) 2 RX8 := ⟨q828, q827, q13, q57, by decide +kernel⟩
set_option maxHeartbeats 4000000 in
set_option maxRecDepth 100000 in
theorem c_X8_sets {l : Launch} {D : va_G} {tc : Tc} {ad : Nat → Nat} {A : Nat → Prop} (hA : adok ad A) {I M : St} {v1 : Int32} {v2 : Int32} {rr : Int32} {II : St} (h : f_X8_sets v1 v2 M = some (rr, II)) : Met l yX8_sets (Cond.code yX8_sets cX8_sets 4 (some .int) :: tw) rm_X8_sets (pre D tc ad [.ref (ad 152), .int v1, .int v2] (cmb I M)) (qi D tc ad A rr (cmb I II)) 0 0 A := by
  unfold f_X8_sets at h
  refine mk_met (own := RX8) (by decide +kernel) rfl hA (Nat.le_of_ble_eq_true rfl) ?_
  intro p e s m below meth c ls hX hr hlk hl hP hS
  have hl : lv_has ls 4 [(0, .ref (ad 152)), (1, .int v1), (2, .int v2)] := hl
  have hx := hX.1
  have hb := hX.2.1
  have hown := hX.2.2.2.1
  have hts := hX.2.2.2.2.1
  refine lv_aload_n hx hb dX8_sets_0 rfl (lv_at hl 0 rfl) ?_
  obtain ⟨M2, e1, h⟩ := ob1_some h
  refine j_v (j_runV (rest := []) hX hP hl.1 Y_X8_act cok6 (s157_152) sk_152 (c_X8_act hA e1) ⟨rfl, rfl⟩ q810 ⟨Nat.le_of_ble_eq_true rfl, Nat.le_of_ble_eq_true rfl⟩ rfl rfl (Nat.le_of_ble_eq_true rfl) dX8_sets_1) hS (fun H locs hP hS => ?_)
  refine lv_aload_n hx hb dX8_sets_4 rfl (lv_at hl 0 rfl) ?_
  refine m_getq (t := 153) hX hP cok6 0 sge_152 s157_152 sk_152 (by decide) rfl q780 dX8_sets_5 ?_
  refine lv_iload_n hx hb dX8_sets_8 rfl (lv_at hl 1 rfl) ?_
  refine m_ald hX hP h (sge_153) s157_153 sk_153 sn_153 dX8_sets_9 (fun h => ?_)
  refine x_let h (fun x3 h => ?_)
  refine lv_istore_n (lv' := [(3, .int x3), (0, .ref (ad 152)), (1, .int v1), (2, .int v2)]) hx hb dX8_sets_10 rfl hl (Nat.le_of_ble_eq_true rfl) rfl (fun ls hl => ?_)
  refine lv_aload_n hx hb dX8_sets_11 rfl (lv_at hl 1 rfl) ?_
  refine m_getq (t := 153) hX hP cok6 0 sge_152 s157_152 sk_152 (by decide) rfl q780 dX8_sets_12 ?_
  refine lv_iload_n hx hb dX8_sets_15 rfl (lv_at hl 2 rfl) ?_
  refine lv_iload_n hx hb dX8_sets_16 rfl (lv_at hl 3 rfl) ?_
  refine m_ast hX hP hS h (sge_153) s157_153 sk_153 sn_153 dX8_sets_17 (fun M4 H locs h hP hS => ?_)
  refine lv_iload_n hx hb dX8_sets_18 rfl (lv_at hl 0 rfl) ?_
  cases h
  exact j_iret hX hr hlk hP hS dX8_sets_19
/-! OwnerlessCoinModel.behave(II)I -/
def rm_X8_behave : Room := { frames := 2, cells := 0, slots := 0, locals := 44 }
theorem Y_X8_behave : yv yX8_behave cX8_behave 3 (some .int) 2 RX8 := ⟨q820, q818, q819, q57, by decide +kernel⟩
set_option maxHeartbeats 4000000 in
set_option maxRecDepth 100000 in
theorem t_X8_behave_b32 {p : Program} {l : Launch} {e : Env} {s : State} {m : MethodId} {args : Array Value} {below : List Frame} {meth : Method} {c : Code} {D : va_G} {tc : Tc} {ad : Nat → Nat} {A : Nat → Prop} {I : St} {rr : Int32} {II : St} (hX : cx p s m args c cX8_behave 3 RX8 D tc ad A) (hr : meth.sig.returnType = some .int) (hlk : meth.locks = false) : ∀ (t0 : Int32) (M : St), f_X8_behave_b32 t0 M = some (rr, II) → ∀ (H : Heap) (locs : List Loc) (ls : Array Slot), va_P D vwCl (wl tc ad (cmb I M)) H → va_S A s.heap H locs → lv_has ls 3 [] → W p l e rm_X8_behave s m args below meth c H locs 0 0 (MQ below (qi D tc ad A rr (cmb I II)) args s 0 0 A) (F0 m 32 ls [.int t0]) := by
  intro t0 M h H locs ls hP hS hl
  unfold f_X8_behave_b32 at h
  have hx := hX.1
  have hb := hX.2.1
  have hown := hX.2.2.2.1
  have hts := hX.2.2.2.2.1
  have hA := hX.2.2.2.2.2.2
  cases h
  exact j_iret hX hr hlk hP hS dX8_behave_32
set_option maxHeartbeats 4000000 in
set_option maxRecDepth 100000 in
theorem t_X8_behave_b31 {p : Program} {l : Launch} {e : Env} {s : State} {m : MethodId} {args : Array Value} {below : List Frame} {meth : Method} {c : Code} {D : va_G} {tc : Tc} {ad : Nat → Nat} {A : Nat → Prop} {I : St} {rr : Int32} {II : St} (hX : cx p s m args c cX8_behave 3 RX8 D tc ad A) (hr : meth.sig.returnType = some .int) (hlk : meth.locks = false) : ∀ (M : St), f_X8_behave_b31 M = some (rr, II) → ∀ (H : Heap) (locs : List Loc) (ls : Array Slot), va_P D vwCl (wl tc ad (cmb I M)) H → va_S A s.heap H locs → lv_has ls 3 [] → W p l e rm_X8_behave s m args below meth c H locs 0 0 (MQ below (qi D tc ad A rr (cmb I II)) args s 0 0 A) (F0 m 31 ls []) := by
  intro M h H locs ls hP hS hl
  unfold f_X8_behave_b31 at h
  have hx := hX.1
  have hb := hX.2.1
  have hown := hX.2.2.2.1
  have hts := hX.2.2.2.2.1
  have hA := hX.2.2.2.2.2.2
  refine lv_iconst (v := (-1)) hx hb dX8_behave_31 kc_im1 ?_
  exact t_X8_behave_b32 hX hr hlk  _ _ h _ _ _ hP hS (lv_sub hl [] rfl)
set_option maxHeartbeats 4000000 in
set_option maxRecDepth 100000 in
theorem c_X8_behave {l : Launch} {D : va_G} {tc : Tc} {ad : Nat → Nat} {A : Nat → Prop} (hA : adok ad A) {I M : St} {v1 : Int32} {v2 : Int32} {rr : Int32} {II : St} (h : f_X8_behave v1 v2 M = some (rr, II)) : Met l yX8_behave (Cond.code yX8_behave cX8_behave 3 (some .int) :: tw) rm_X8_behave (pre D tc ad [.ref (ad 152), .int v1, .int v2] (cmb I M)) (qi D tc ad A rr (cmb I II)) 0 0 A := by
  unfold f_X8_behave at h
  refine mk_met (own := RX8) (by decide +kernel) rfl hA (Nat.le_of_ble_eq_true rfl) ?_
  intro p e s m below meth c ls hX hr hlk hl hP hS
  have hl : lv_has ls 3 [(0, .ref (ad 152)), (1, .int v1), (2, .int v2)] := hl
  have hx := hX.1
  have hb := hX.2.1
  have hown := hX.2.2.2.1
  have hts := hX.2.2.2.2.1
  refine lv_aload_n hx hb dX8_behave_0 rfl (lv_at hl 0 rfl) ?_
  refine lv_iload_n hx hb dX8_behave_1 rfl (lv_at hl 1 rfl) ?_
  obtain ⟨r2, e1, h⟩ := ob1_some h
  refine j_i (j_runV (rest := []) hX hP hl.1 Y_X8_isPerson cok6 (s157_152) sk_152 (c_X8_isPerson hA e1) ⟨rfl, rfl⟩ q821 ⟨Nat.le_of_ble_eq_true rfl, Nat.le_of_ble_eq_true rfl⟩ rfl rfl (Nat.le_of_ble_eq_true rfl) dX8_behave_2) hS (fun H locs hP hS => ?_)
  refine x_if_eq (tgt := 31) hx hb dX8_behave_5 (by decide) h (fun c3 h => ?_) (fun c3 h => ?_)
  · exact t_X8_behave_b31 hX hr hlk  _ h _ _ _ hP hS (lv_sub hl [] rfl)
  · refine lv_iload_n hx hb dX8_behave_8 rfl (lv_at hl 2 rfl) ?_
    refine lv_iconst (v := 0) hx hb dX8_behave_9 kc_i0 ?_
    refine lv_iconst (v := 3) hx hb dX8_behave_10 kc_i3 ?_
    obtain ⟨r5, e4, h⟩ := ob1_some h
    refine j_i (j_runS (rest := []) hX hP hl.1 Y_X8_in (c_X8_in hA e4) ⟨rfl, rfl⟩ q807 ⟨Nat.le_of_ble_eq_true rfl, Nat.le_of_ble_eq_true rfl⟩ rfl rfl (Nat.le_of_ble_eq_true rfl) dX8_behave_11) hS (fun H locs hP hS => ?_)
    refine x_if_eq (tgt := 31) hx hb dX8_behave_14 (by decide) h (fun c6 h => ?_) (fun c6 h => ?_)
    · exact t_X8_behave_b31 hX hr hlk  _ h _ _ _ hP hS (lv_sub hl [] rfl)
    · refine lv_aload_n hx hb dX8_behave_17 rfl (lv_at hl 0 rfl) ?_
      refine lv_iload_n hx hb dX8_behave_18 rfl (lv_at hl 1 rfl) ?_
      obtain ⟨r8, e7, h⟩ := ob1_some h
      refine j_i (j_runS (rest := [.ref (ad 152)]) hX hP hl.1 Y_X8_person (c_X8_person hA e7) ⟨rfl, rfl⟩ q814 ⟨Nat.le_of_ble_eq_true rfl, Nat.le_of_ble_eq_true rfl⟩ rfl rfl (Nat.le_of_ble_eq_true rfl) dX8_behave_19) hS (fun H locs hP hS => ?_)
      refine lv_iconst (v := 4) hx hb dX8_behave_22 kc_i4 ?_
      refine lv_iadd hx hb dX8_behave_23 ?_
      refine x_let h (fun x9 h => ?_)
      refine lv_iload_n hx hb dX8_behave_24 rfl (lv_at hl 2 rfl) ?_
      obtain ⟨r12, M11, e10, h⟩ := ob2_some h
      refine j_i (j_runV (rest := []) hX hP hl.1 Y_X8_sets cok6 (s157_152) sk_152 (c_X8_sets hA e10) ⟨rfl, rfl⟩ q825 ⟨Nat.le_of_ble_eq_true rfl, Nat.le_of_ble_eq_true rfl⟩ rfl rfl (Nat.le_of_ble_eq_true rfl) dX8_behave_25) hS (fun H locs hP hS => ?_)
      refine lv_goto (tgt := 32) hx hb dX8_behave_28 (by decide) ?_
      exact t_X8_behave_b32 hX hr hlk  _ _ h _ _ _ hP hS (lv_sub hl [] rfl)
/-! OwnerlessCoinModel.settles(IIII)I -/
def rm_X8_settles : Room := { frames := 2, cells := 0, slots := 0, locals := 44 }
theorem Y_X8_settles : yv yX8_settles cX8_settles 5 (some .int) 4 RX8 := ⟨q836, q835, q14, q57, by decide +kernel⟩
set_option maxHeartbeats 4000000 in
set_option maxRecDepth 100000 in
theorem t_X8_settles_b34 {p : Program} {l : Launch} {e : Env} {s : State} {m : MethodId} {args : Array Value} {below : List Frame} {meth : Method} {c : Code} {D : va_G} {tc : Tc} {ad : Nat → Nat} {A : Nat → Prop} {I : St} {rr : Int32} {II : St} (hX : cx p s m args c cX8_settles 5 RX8 D tc ad A) (hr : meth.sig.returnType = some .int) (hlk : meth.locks = false) : ∀ (t0 : Int32) (M : St), f_X8_settles_b34 t0 M = some (rr, II) → ∀ (H : Heap) (locs : List Loc) (ls : Array Slot), va_P D vwCl (wl tc ad (cmb I M)) H → va_S A s.heap H locs → lv_has ls 5 [] → W p l e rm_X8_settles s m args below meth c H locs 0 0 (MQ below (qi D tc ad A rr (cmb I II)) args s 0 0 A) (F0 m 34 ls [.int t0]) := by
  intro t0 M h H locs ls hP hS hl
  unfold f_X8_settles_b34 at h
  have hx := hX.1
  have hb := hX.2.1
  have hown := hX.2.2.2.1
  have hts := hX.2.2.2.2.1
  have hA := hX.2.2.2.2.2.2
  cases h
  exact j_iret hX hr hlk hP hS dX8_settles_34
set_option maxHeartbeats 4000000 in
set_option maxRecDepth 100000 in
theorem c_X8_settles {l : Launch} {D : va_G} {tc : Tc} {ad : Nat → Nat} {A : Nat → Prop} (hA : adok ad A) {I M : St} {v1 : Int32} {v2 : Int32} {v3 : Int32} {v4 : Int32} {rr : Int32} {II : St} (h : f_X8_settles v1 v2 v3 v4 M = some (rr, II)) : Met l yX8_settles (Cond.code yX8_settles cX8_settles 5 (some .int) :: tw) rm_X8_settles (pre D tc ad [.ref (ad 152), .int v1, .int v2, .int v3, .int v4] (cmb I M)) (qi D tc ad A rr (cmb I II)) 0 0 A := by
  unfold f_X8_settles at h
  refine mk_met (own := RX8) (by decide +kernel) rfl hA (Nat.le_of_ble_eq_true rfl) ?_
  intro p e s m below meth c ls hX hr hlk hl hP hS
  have hl : lv_has ls 5 [(0, .ref (ad 152)), (1, .int v1), (2, .int v2), (3, .int v3), (4, .int v4)] := hl
  have hx := hX.1
  have hb := hX.2.1
  have hown := hX.2.2.2.1
  have hts := hX.2.2.2.2.1
  refine lv_iload_n hx hb dX8_settles_0 rfl (lv_at hl 2 rfl) ?_
  refine lv_iload_n hx hb dX8_settles_1 rfl (lv_at hl 3 rfl) ?_
  refine lv_iload hx hb dX8_settles_2 (lv_at hl 4 rfl) ?_
  obtain ⟨r2, e1, h⟩ := ob1_some h
  refine j_i (j_runS (rest := []) hX hP hl.1 Y_X8_in (c_X8_in hA e1) ⟨rfl, rfl⟩ q807 ⟨Nat.le_of_ble_eq_true rfl, Nat.le_of_ble_eq_true rfl⟩ rfl rfl (Nat.le_of_ble_eq_true rfl) dX8_settles_4) hS (fun H locs hP hS => ?_)
  refine x_if_ne (tgt := 14) hx hb dX8_settles_7 (by decide) h (fun c3 h => ?_) (fun c3 h => ?_)
  · refine lv_aload_n hx hb dX8_settles_14 rfl (lv_at hl 0 rfl) ?_
    refine m_getq (t := 153) hX hP cok6 0 sge_152 s157_152 sk_152 (by decide) rfl q780 dX8_settles_15 ?_
    refine lv_iconst (v := 0) hx hb dX8_settles_18 kc_i0 ?_
    refine m_ald hX hP h (sge_153) s157_153 sk_153 sn_153 dX8_settles_19 (fun h => ?_)
    refine x_if_eq (tgt := 28) hx hb dX8_settles_20 (by decide) h (fun c4 h => ?_) (fun c4 h => ?_)
    · refine lv_aload_n hx hb dX8_settles_28 rfl (lv_at hl 0 rfl) ?_
      refine lv_iload_n hx hb dX8_settles_29 rfl (lv_at hl 1 rfl) ?_
      refine lv_iload_n hx hb dX8_settles_30 rfl (lv_at hl 2 rfl) ?_
      obtain ⟨r7, M6, e5, h⟩ := ob2_some h
      refine j_i (j_runV (rest := []) hX hP hl.1 Y_X8_sets cok6 (s157_152) sk_152 (c_X8_sets hA e5) ⟨rfl, rfl⟩ q825 ⟨Nat.le_of_ble_eq_true rfl, Nat.le_of_ble_eq_true rfl⟩ rfl rfl (Nat.le_of_ble_eq_true rfl) dX8_settles_31) hS (fun H locs hP hS => ?_)
      exact t_X8_settles_b34 hX hr hlk  _ _ h _ _ _ hP hS (lv_sub hl [] rfl)
    · refine lv_bipush (v := (-2)) hx hb dX8_settles_23 kc_bm2 ?_
      refine lv_goto (tgt := 34) hx hb dX8_settles_25 (by decide) ?_
      exact t_X8_settles_b34 hX hr hlk  _ _ h _ _ _ hP hS (lv_sub hl [] rfl)
  · refine lv_iconst (v := (-1)) hx hb dX8_settles_10 kc_im1 ?_
    refine lv_goto (tgt := 34) hx hb dX8_settles_11 (by decide) ?_
    exact t_X8_settles_b34 hX hr hlk  _ _ h _ _ _ hP hS (lv_sub hl [] rfl)
/-! OwnerlessCoinModel.setMethod(I)I -/
def rm_X8_setMethod : Room := { frames := 3, cells := 0, slots := 0, locals := 68 }
theorem Y_X8_setMethod : yv yX8_setMethod cX8_setMethod 2 (some .int) 1 RX8 := ⟨q832, q830, q831, q57, by decide +kernel⟩
set_option maxHeartbeats 4000000 in
set_option maxRecDepth 100000 in
theorem c_X8_setMethod {l : Launch} {D : va_G} {tc : Tc} {ad : Nat → Nat} {A : Nat → Prop} (hA : adok ad A) {I M : St} {v1 : Int32} {rr : Int32} {II : St} (h : f_X8_setMethod v1 M = some (rr, II)) : Met l yX8_setMethod (Cond.code yX8_setMethod cX8_setMethod 2 (some .int) :: tw) rm_X8_setMethod (pre D tc ad [.ref (ad 152), .int v1] (cmb I M)) (qi D tc ad A rr (cmb I II)) 0 0 A := by
  unfold f_X8_setMethod at h
  refine mk_met (own := RX8) (by decide +kernel) rfl hA (Nat.le_of_ble_eq_true rfl) ?_
  intro p e s m below meth c ls hX hr hlk hl hP hS
  have hl : lv_has ls 2 [(0, .ref (ad 152)), (1, .int v1)] := hl
  have hx := hX.1
  have hb := hX.2.1
  have hown := hX.2.2.2.1
  have hts := hX.2.2.2.2.1
  refine lv_aload_n hx hb dX8_setMethod_0 rfl (lv_at hl 0 rfl) ?_
  refine lv_iconst (v := 5) hx hb dX8_setMethod_1 kc_i5 ?_
  refine lv_iload_n hx hb dX8_setMethod_2 rfl (lv_at hl 1 rfl) ?_
  refine lv_iconst (v := 0) hx hb dX8_setMethod_3 kc_i0 ?_
  refine lv_iconst (v := 2) hx hb dX8_setMethod_4 kc_i2 ?_
  obtain ⟨r3, M2, e1, h⟩ := ob2_some h
  refine j_i (j_runV (rest := []) hX hP hl.1 Y_X8_settles cok6 (s157_152) sk_152 (c_X8_settles hA e1) ⟨rfl, rfl⟩ q833 ⟨Nat.le_of_ble_eq_true rfl, Nat.le_of_ble_eq_true rfl⟩ rfl rfl (Nat.le_of_ble_eq_true rfl) dX8_setMethod_5) hS (fun H locs hP hS => ?_)
  cases h
  exact j_iret hX hr hlk hP hS dX8_setMethod_8
/-! OwnerlessCoinModel.setThreshold(I)I -/
def rm_X8_setThreshold : Room := { frames := 3, cells := 0, slots := 0, locals := 68 }
theorem Y_X8_setThreshold : yv yX8_setThreshold cX8_setThreshold 2 (some .int) 1 RX8 := ⟨q840, q838, q839, q57, by decide +kernel⟩
set_option maxHeartbeats 4000000 in
set_option maxRecDepth 100000 in
theorem c_X8_setThreshold {l : Launch} {D : va_G} {tc : Tc} {ad : Nat → Nat} {A : Nat → Prop} (hA : adok ad A) {I M : St} {v1 : Int32} {rr : Int32} {II : St} (h : f_X8_setThreshold v1 M = some (rr, II)) : Met l yX8_setThreshold (Cond.code yX8_setThreshold cX8_setThreshold 2 (some .int) :: tw) rm_X8_setThreshold (pre D tc ad [.ref (ad 152), .int v1] (cmb I M)) (qi D tc ad A rr (cmb I II)) 0 0 A := by
  unfold f_X8_setThreshold at h
  refine mk_met (own := RX8) (by decide +kernel) rfl hA (Nat.le_of_ble_eq_true rfl) ?_
  intro p e s m below meth c ls hX hr hlk hl hP hS
  have hl : lv_has ls 2 [(0, .ref (ad 152)), (1, .int v1)] := hl
  have hx := hX.1
  have hb := hX.2.1
  have hown := hX.2.2.2.1
  have hts := hX.2.2.2.2.1
  refine lv_aload_n hx hb dX8_setThreshold_0 rfl (lv_at hl 0 rfl) ?_
  refine lv_bipush (v := 6) hx hb dX8_setThreshold_1 kc_b6 ?_
  refine lv_iload_n hx hb dX8_setThreshold_3 rfl (lv_at hl 1 rfl) ?_
  refine lv_iconst (v := 1) hx hb dX8_setThreshold_4 kc_i1 ?_
  refine lv_bipush (v := 8) hx hb dX8_setThreshold_5 kc_b8 ?_
  obtain ⟨r3, M2, e1, h⟩ := ob2_some h
  refine j_i (j_runV (rest := []) hX hP hl.1 Y_X8_settles cok6 (s157_152) sk_152 (c_X8_settles hA e1) ⟨rfl, rfl⟩ q833 ⟨Nat.le_of_ble_eq_true rfl, Nat.le_of_ble_eq_true rfl⟩ rfl rfl (Nat.le_of_ble_eq_true rfl) dX8_setThreshold_7) hS (fun H locs hP hS => ?_)
  cases h
  exact j_iret hX hr hlk hP hS dX8_setThreshold_10
/-! OwnerlessCoinModel.setFine(I)I -/
def rm_X8_setFine : Room := { frames := 3, cells := 0, slots := 0, locals := 68 }
theorem Y_X8_setFine : yv yX8_setFine cX8_setFine 2 (some .int) 1 RX8 := ⟨q844, q842, q843, q57, by decide +kernel⟩
set_option maxHeartbeats 4000000 in
set_option maxRecDepth 100000 in
theorem c_X8_setFine {l : Launch} {D : va_G} {tc : Tc} {ad : Nat → Nat} {A : Nat → Prop} (hA : adok ad A) {I M : St} {v1 : Int32} {rr : Int32} {II : St} (h : f_X8_setFine v1 M = some (rr, II)) : Met l yX8_setFine (Cond.code yX8_setFine cX8_setFine 2 (some .int) :: tw) rm_X8_setFine (pre D tc ad [.ref (ad 152), .int v1] (cmb I M)) (qi D tc ad A rr (cmb I II)) 0 0 A := by
  unfold f_X8_setFine at h
  refine mk_met (own := RX8) (by decide +kernel) rfl hA (Nat.le_of_ble_eq_true rfl) ?_
  intro p e s m below meth c ls hX hr hlk hl hP hS
  have hl : lv_has ls 2 [(0, .ref (ad 152)), (1, .int v1)] := hl
  have hx := hX.1
  have hb := hX.2.1
  have hown := hX.2.2.2.1
  have hts := hX.2.2.2.2.1
  refine lv_aload_n hx hb dX8_setFine_0 rfl (lv_at hl 0 rfl) ?_
  refine lv_bipush (v := 7) hx hb dX8_setFine_1 kc_b7 ?_
  refine lv_iload_n hx hb dX8_setFine_3 rfl (lv_at hl 1 rfl) ?_
  refine lv_iconst (v := 0) hx hb dX8_setFine_4 kc_i0 ?_
  refine lv_sipush (v := 1000) hx hb dX8_setFine_5 kc_s1000 ?_
  obtain ⟨r3, M2, e1, h⟩ := ob2_some h
  refine j_i (j_runV (rest := []) hX hP hl.1 Y_X8_settles cok6 (s157_152) sk_152 (c_X8_settles hA e1) ⟨rfl, rfl⟩ q833 ⟨Nat.le_of_ble_eq_true rfl, Nat.le_of_ble_eq_true rfl⟩ rfl rfl (Nat.le_of_ble_eq_true rfl) dX8_setFine_8) hS (fun H locs hP hS => ?_)
  cases h
  exact j_iret hX hr hlk hP hS dX8_setFine_11
/-! OwnerlessCoinModel.setDelay(I)I -/
def rm_X8_setDelay : Room := { frames := 3, cells := 0, slots := 0, locals := 68 }
theorem Y_X8_setDelay : yv yX8_setDelay cX8_setDelay 2 (some .int) 1 RX8 := ⟨q848, q846, q847, q57, by decide +kernel⟩
set_option maxHeartbeats 4000000 in
set_option maxRecDepth 100000 in
theorem c_X8_setDelay {l : Launch} {D : va_G} {tc : Tc} {ad : Nat → Nat} {A : Nat → Prop} (hA : adok ad A) {I M : St} {v1 : Int32} {rr : Int32} {II : St} (h : f_X8_setDelay v1 M = some (rr, II)) : Met l yX8_setDelay (Cond.code yX8_setDelay cX8_setDelay 2 (some .int) :: tw) rm_X8_setDelay (pre D tc ad [.ref (ad 152), .int v1] (cmb I M)) (qi D tc ad A rr (cmb I II)) 0 0 A := by
  unfold f_X8_setDelay at h
  refine mk_met (own := RX8) (by decide +kernel) rfl hA (Nat.le_of_ble_eq_true rfl) ?_
  intro p e s m below meth c ls hX hr hlk hl hP hS
  have hl : lv_has ls 2 [(0, .ref (ad 152)), (1, .int v1)] := hl
  have hx := hX.1
  have hb := hX.2.1
  have hown := hX.2.2.2.1
  have hts := hX.2.2.2.2.1
  refine lv_aload_n hx hb dX8_setDelay_0 rfl (lv_at hl 0 rfl) ?_
  refine lv_bipush (v := 8) hx hb dX8_setDelay_1 kc_b8 ?_
  refine lv_iload_n hx hb dX8_setDelay_3 rfl (lv_at hl 1 rfl) ?_
  refine lv_iconst (v := 1) hx hb dX8_setDelay_4 kc_i1 ?_
  refine lv_sipush (v := 5000) hx hb dX8_setDelay_5 kc_s5000 ?_
  obtain ⟨r3, M2, e1, h⟩ := ob2_some h
  refine j_i (j_runV (rest := []) hX hP hl.1 Y_X8_settles cok6 (s157_152) sk_152 (c_X8_settles hA e1) ⟨rfl, rfl⟩ q833 ⟨Nat.le_of_ble_eq_true rfl, Nat.le_of_ble_eq_true rfl⟩ rfl rfl (Nat.le_of_ble_eq_true rfl) dX8_setDelay_8) hS (fun H locs hP hS => ?_)
  cases h
  exact j_iret hX hr hlk hP hS dX8_setDelay_11
/-! OwnerlessCoinModel.mayBegin()Z -/
def rm_X8_mayBegin : Room := { frames := 1, cells := 0, slots := 0, locals := 20 }
theorem Y_X8_mayBegin : yv yX8_mayBegin cX8_mayBegin 3 (some .boolean) 0 RX8 := ⟨q856, q855, q15, q57, by decide +kernel⟩
set_option maxHeartbeats 4000000 in
set_option maxRecDepth 100000 in
theorem t_X8_mayBegin_b41 {p : Program} {l : Launch} {e : Env} {s : State} {m : MethodId} {args : Array Value} {below : List Frame} {meth : Method} {c : Code} {D : va_G} {tc : Tc} {ad : Nat → Nat} {A : Nat → Prop} {I : St} {rr : Int32} (hX : cx p s m args c cX8_mayBegin 3 RX8 D tc ad A) (hr : meth.sig.returnType = some .boolean) (hlk : meth.locks = false) {K4 : Int32 → Int32 → St → Option (Int32)} (hK4 : ∀ (v1 : Int32) (v2 : Int32) (M : St), K4 v1 v2 M = some rr → ∀ (H : Heap) (locs : List Loc) (ls : Array Slot), va_P D vwCl (wl tc ad (cmb I M)) H → va_S A s.heap H locs → lv_has ls 3 [(0, .ref (ad 152)), (1, .int v1), (2, .int v2)] → W p l e rm_X8_mayBegin s m args below meth c H locs 0 0 (MQ below (qi D tc ad A rr (cmb I M)) args s 0 0 A) (F0 m 4 ls [])) : ∀ (v2 : Int32) (t0 : Int32) (t1 : Int32) (M : St), f_X8_mayBegin_b41 K4 v2 t0 t1 M = some rr → ∀ (H : Heap) (locs : List Loc) (ls : Array Slot), va_P D vwCl (wl tc ad (cmb I M)) H → va_S A s.heap H locs → lv_has ls 3 [(0, .ref (ad 152)), (2, .int v2)] → W p l e rm_X8_mayBegin s m args below meth c H locs 0 0 (MQ below (qi D tc ad A rr (cmb I M)) args s 0 0 A) (F0 m 41 ls [.int t1, .int t0]) := by
  intro v2 t0 t1 M h H locs ls hP hS hl
  unfold f_X8_mayBegin_b41 at h
  have hx := hX.1
  have hb := hX.2.1
  have hown := hX.2.2.2.1
  have hts := hX.2.2.2.2.1
  have hA := hX.2.2.2.2.2.2
  refine lv_iadd hx hb dX8_mayBegin_41 ?_
  refine x_let h (fun x1 h => ?_)
  refine lv_istore_n (lv' := [(1, .int x1), (0, .ref (ad 152)), (2, .int v2)]) hx hb dX8_mayBegin_42 rfl hl (Nat.le_of_ble_eq_true rfl) rfl (fun ls hl => ?_)
  refine lv_iinc (v := (v2 + 1)) (lv' := [(2, .int (v2 + 1)), (1, .int x1), (0, .ref (ad 152))]) hx hb dX8_mayBegin_43 hl (k := 2) rfl rfl (Nat.le_of_ble_eq_true rfl) rfl (fun ls hl => ?_)
  refine lv_goto (tgt := 4) hx hb dX8_mayBegin_46 (by decide) ?_
  exact hK4 _ _ _ h _ _ _ hP hS (lv_sub hl [2, 1, 0] rfl)
set_option maxHeartbeats 4000000 in
set_option maxRecDepth 100000 in
theorem t_X8_mayBegin_b89 {p : Program} {l : Launch} {e : Env} {s : State} {m : MethodId} {args : Array Value} {below : List Frame} {meth : Method} {c : Code} {D : va_G} {tc : Tc} {ad : Nat → Nat} {A : Nat → Prop} {I : St} {rr : Int32} (hX : cx p s m args c cX8_mayBegin 3 RX8 D tc ad A) (hr : meth.sig.returnType = some .boolean) (hlk : meth.locks = false) : ∀ (t0 : Int32) (M : St), f_X8_mayBegin_b89 t0 M = some rr → ∀ (H : Heap) (locs : List Loc) (ls : Array Slot), va_P D vwCl (wl tc ad (cmb I M)) H → va_S A s.heap H locs → lv_has ls 3 [] → W p l e rm_X8_mayBegin s m args below meth c H locs 0 0 (MQ below (qi D tc ad A rr (cmb I M)) args s 0 0 A) (F0 m 89 ls [.int t0]) := by
  intro t0 M h H locs ls hP hS hl
  unfold f_X8_mayBegin_b89 at h
  have hx := hX.1
  have hb := hX.2.1
  have hown := hX.2.2.2.1
  have hts := hX.2.2.2.2.1
  have hA := hX.2.2.2.2.2.2
  obtain ⟨gz, h⟩ := ck_some h
  cases h
  exact j_zret hX hr hlk hP hS (isB_or gz) dX8_mayBegin_89
set_option maxHeartbeats 4000000 in
set_option maxRecDepth 100000 in
theorem t_X8_mayBegin_b84 {p : Program} {l : Launch} {e : Env} {s : State} {m : MethodId} {args : Array Value} {below : List Frame} {meth : Method} {c : Code} {D : va_G} {tc : Tc} {ad : Nat → Nat} {A : Nat → Prop} {I : St} {rr : Int32} (hX : cx p s m args c cX8_mayBegin 3 RX8 D tc ad A) (hr : meth.sig.returnType = some .boolean) (hlk : meth.locks = false) : ∀ (M : St), f_X8_mayBegin_b84 M = some rr → ∀ (H : Heap) (locs : List Loc) (ls : Array Slot), va_P D vwCl (wl tc ad (cmb I M)) H → va_S A s.heap H locs → lv_has ls 3 [] → W p l e rm_X8_mayBegin s m args below meth c H locs 0 0 (MQ below (qi D tc ad A rr (cmb I M)) args s 0 0 A) (F0 m 84 ls []) := by
  intro M h H locs ls hP hS hl
  unfold f_X8_mayBegin_b84 at h
  have hx := hX.1
  have hb := hX.2.1
  have hown := hX.2.2.2.1
  have hts := hX.2.2.2.2.1
  have hA := hX.2.2.2.2.2.2
  refine lv_iconst (v := 1) hx hb dX8_mayBegin_84 kc_i1 ?_
  refine lv_goto (tgt := 89) hx hb dX8_mayBegin_85 (by decide) ?_
  exact t_X8_mayBegin_b89 hX hr hlk  _ _ h _ _ _ hP hS (lv_sub hl [] rfl)
set_option maxHeartbeats 4000000 in
set_option maxRecDepth 100000 in
theorem t_X8_mayBegin_b88 {p : Program} {l : Launch} {e : Env} {s : State} {m : MethodId} {args : Array Value} {below : List Frame} {meth : Method} {c : Code} {D : va_G} {tc : Tc} {ad : Nat → Nat} {A : Nat → Prop} {I : St} {rr : Int32} (hX : cx p s m args c cX8_mayBegin 3 RX8 D tc ad A) (hr : meth.sig.returnType = some .boolean) (hlk : meth.locks = false) : ∀ (M : St), f_X8_mayBegin_b88 M = some rr → ∀ (H : Heap) (locs : List Loc) (ls : Array Slot), va_P D vwCl (wl tc ad (cmb I M)) H → va_S A s.heap H locs → lv_has ls 3 [] → W p l e rm_X8_mayBegin s m args below meth c H locs 0 0 (MQ below (qi D tc ad A rr (cmb I M)) args s 0 0 A) (F0 m 88 ls []) := by
  intro M h H locs ls hP hS hl
  unfold f_X8_mayBegin_b88 at h
  have hx := hX.1
  have hb := hX.2.1
  have hown := hX.2.2.2.1
  have hts := hX.2.2.2.2.1
  have hA := hX.2.2.2.2.2.2
  refine lv_iconst (v := 0) hx hb dX8_mayBegin_88 kc_i0 ?_
  exact t_X8_mayBegin_b89 hX hr hlk  _ _ h _ _ _ hP hS (lv_sub hl [] rfl)
set_option maxHeartbeats 4000000 in
set_option maxRecDepth 100000 in
theorem t_X8_mayBegin_l4 {p : Program} {l : Launch} {e : Env} {s : State} {m : MethodId} {args : Array Value} {below : List Frame} {meth : Method} {c : Code} {D : va_G} {tc : Tc} {ad : Nat → Nat} {A : Nat → Prop} {I : St} {rr : Int32} (hX : cx p s m args c cX8_mayBegin 3 RX8 D tc ad A) (hr : meth.sig.returnType = some .boolean) (hlk : meth.locks = false) : ∀ (n : Nat), ∀ (v1 : Int32) (v2 : Int32) (M : St), f_X8_mayBegin_l4 n v1 v2 M = some rr → ∀ (H : Heap) (locs : List Loc) (ls : Array Slot), va_P D vwCl (wl tc ad (cmb I M)) H → va_S A s.heap H locs → lv_has ls 3 [(0, .ref (ad 152)), (1, .int v1), (2, .int v2)] → W p l e rm_X8_mayBegin s m args below meth c H locs 0 0 (MQ below (qi D tc ad A rr (cmb I M)) args s 0 0 A) (F0 m 4 ls []) := by
  intro n
  induction n with
  | zero =>
    intro _ _ _ h
    cases h
  | succ n ih =>
    intro v1 v2 M h H locs ls hP hS hl
    rw [f_X8_mayBegin_l4] at h
    have hx := hX.1
    have hb := hX.2.1
    have hown := hX.2.2.2.1
    have hts := hX.2.2.2.2.1
    have hA := hX.2.2.2.2.2.2
    refine lv_iload_n hx hb dX8_mayBegin_4 rfl (lv_at hl 2 rfl) ?_
    refine lv_aload_n hx hb dX8_mayBegin_5 rfl (lv_at hl 0 rfl) ?_
    refine m_getq (t := 153) hX hP cok6 0 sge_152 s157_152 sk_152 (by decide) rfl q780 dX8_mayBegin_6 ?_
    refine lv_iconst (v := 4) hx hb dX8_mayBegin_9 kc_i4 ?_
    refine m_ald hX hP h (sge_153) s157_153 sk_153 sn_153 dX8_mayBegin_10 (fun h => ?_)
    refine x_icmp_ge (tgt := 49) hx hb dX8_mayBegin_11 (by decide) h (fun c2 h => ?_) (fun c2 h => ?_)
    · refine lv_aload_n hx hb dX8_mayBegin_49 rfl (lv_at hl 0 rfl) ?_
      refine m_getq (t := 153) hX hP cok6 0 sge_152 s157_152 sk_152 (by decide) rfl q780 dX8_mayBegin_50 ?_
      refine lv_iconst (v := 0) hx hb dX8_mayBegin_53 kc_i0 ?_
      refine m_ald hX hP h (sge_153) s157_153 sk_153 sn_153 dX8_mayBegin_54 (fun h => ?_)
      refine x_if_ne (tgt := 88) hx hb dX8_mayBegin_55 (by decide) h (fun c3 h => ?_) (fun c3 h => ?_)
      · exact t_X8_mayBegin_b88 hX hr hlk  _ h _ _ _ hP hS (lv_sub hl [] rfl)
      · refine lv_iload_n hx hb dX8_mayBegin_58 rfl (lv_at hl 1 rfl) ?_
        refine lv_iconst (v := 2) hx hb dX8_mayBegin_59 kc_i2 ?_
        refine x_icmp_lt (tgt := 88) hx hb dX8_mayBegin_60 (by decide) h (fun c4 h => ?_) (fun c4 h => ?_)
        · exact t_X8_mayBegin_b88 hX hr hlk  _ h _ _ _ hP hS (lv_sub hl [] rfl)
        · refine lv_aload_n hx hb dX8_mayBegin_63 rfl (lv_at hl 0 rfl) ?_
          refine m_getq (t := 153) hX hP cok6 0 sge_152 s157_152 sk_152 (by decide) rfl q780 dX8_mayBegin_64 ?_
          refine lv_iconst (v := 5) hx hb dX8_mayBegin_67 kc_i5 ?_
          refine m_ald hX hP h (sge_153) s157_153 sk_153 sn_153 dX8_mayBegin_68 (fun h => ?_)
          refine x_let h (fun x5 h => ?_)
          refine lv_iconst (v := 1) hx hb dX8_mayBegin_69 kc_i1 ?_
          refine x_icmp_ne (tgt := 84) hx hb dX8_mayBegin_70 (by decide) h (fun c6 h => ?_) (fun c6 h => ?_)
          · exact t_X8_mayBegin_b84 hX hr hlk  _ h _ _ _ hP hS (lv_sub hl [] rfl)
          · refine lv_iload_n hx hb dX8_mayBegin_73 rfl (lv_at hl 1 rfl) ?_
            refine lv_aload_n hx hb dX8_mayBegin_74 rfl (lv_at hl 0 rfl) ?_
            refine m_getq (t := 153) hX hP cok6 0 sge_152 s157_152 sk_152 (by decide) rfl q780 dX8_mayBegin_75 ?_
            refine lv_bipush (v := 6) hx hb dX8_mayBegin_78 kc_b6 ?_
            refine m_ald hX hP h (sge_153) s157_153 sk_153 sn_153 dX8_mayBegin_80 (fun h => ?_)
            refine x_icmp_lt (tgt := 88) hx hb dX8_mayBegin_81 (by decide) h (fun c7 h => ?_) (fun c7 h => ?_)
            · exact t_X8_mayBegin_b88 hX hr hlk  _ h _ _ _ hP hS (lv_sub hl [] rfl)
            · exact t_X8_mayBegin_b84 hX hr hlk  _ h _ _ _ hP hS (lv_sub hl [] rfl)
    · refine lv_iload_n hx hb dX8_mayBegin_14 rfl (lv_at hl 1 rfl) ?_
      refine lv_aload_n hx hb dX8_mayBegin_15 rfl (lv_at hl 0 rfl) ?_
      refine m_getq (t := 153) hX hP cok6 0 sge_152 s157_152 sk_152 (by decide) rfl q780 dX8_mayBegin_16 ?_
      refine lv_iload_n hx hb dX8_mayBegin_19 rfl (lv_at hl 2 rfl) ?_
      obtain ⟨r9, e8, h⟩ := ob1_some h
      refine j_i (j_runS (rest := [.ref (ad 153), .int v1]) hX hP hl.1 Y_X8_person (c_X8_person hA e8) ⟨rfl, rfl⟩ q814 ⟨Nat.le_of_ble_eq_true rfl, Nat.le_of_ble_eq_true rfl⟩ rfl rfl (Nat.le_of_ble_eq_true rfl) dX8_mayBegin_20) hS (fun H locs hP hS => ?_)
      refine lv_iconst (v := 0) hx hb dX8_mayBegin_23 kc_i0 ?_
      refine lv_iadd hx hb dX8_mayBegin_24 ?_
      refine x_let h (fun x10 h => ?_)
      refine m_ald hX hP h (sge_153) s157_153 sk_153 sn_153 dX8_mayBegin_25 (fun h => ?_)
      refine x_let h (fun x11 h => ?_)
      refine lv_aload_n hx hb dX8_mayBegin_26 rfl (lv_at hl 0 rfl) ?_
      refine m_getq (t := 153) hX hP cok6 0 sge_152 s157_152 sk_152 (by decide) rfl q780 dX8_mayBegin_27 ?_
      refine lv_bipush (v := 7) hx hb dX8_mayBegin_30 kc_b7 ?_
      refine m_ald hX hP h (sge_153) s157_153 sk_153 sn_153 dX8_mayBegin_32 (fun h => ?_)
      refine x_icmp_lt (tgt := 40) hx hb dX8_mayBegin_33 (by decide) h (fun c12 h => ?_) (fun c12 h => ?_)
      · refine lv_iconst (v := 0) hx hb dX8_mayBegin_40 kc_i0 ?_
        exact t_X8_mayBegin_b41 hX hr hlk ih _ _ _ _ h _ _ _ hP hS (lv_sub hl [0, 2] rfl)
      · refine lv_iconst (v := 1) hx hb dX8_mayBegin_36 kc_i1 ?_
        refine lv_goto (tgt := 41) hx hb dX8_mayBegin_37 (by decide) ?_
        exact t_X8_mayBegin_b41 hX hr hlk ih _ _ _ _ h _ _ _ hP hS (lv_sub hl [0, 2] rfl)
set_option maxHeartbeats 4000000 in
set_option maxRecDepth 100000 in
theorem c_X8_mayBegin {l : Launch} {D : va_G} {tc : Tc} {ad : Nat → Nat} {A : Nat → Prop} (hA : adok ad A) {I M : St}  {rr : Int32} (h : f_X8_mayBegin M = some rr) : Met l yX8_mayBegin (Cond.code yX8_mayBegin cX8_mayBegin 3 (some .boolean) :: tw) rm_X8_mayBegin (pre D tc ad [.ref (ad 152)] (cmb I M)) (qi D tc ad A rr (cmb I M)) 0 0 A := by
  unfold f_X8_mayBegin at h
  refine mk_met (own := RX8) (by decide +kernel) rfl hA (Nat.le_of_ble_eq_true rfl) ?_
  intro p e s m below meth c ls hX hr hlk hl hP hS
  have hl : lv_has ls 3 [(0, .ref (ad 152))] := hl
  have hx := hX.1
  have hb := hX.2.1
  have hown := hX.2.2.2.1
  have hts := hX.2.2.2.2.1
  refine lv_iconst (v := 0) hx hb dX8_mayBegin_0 kc_i0 ?_
  refine lv_istore_n (lv' := [(1, .int 0), (0, .ref (ad 152))]) hx hb dX8_mayBegin_1 rfl hl (Nat.le_of_ble_eq_true rfl) rfl (fun ls hl => ?_)
  refine lv_iconst (v := 0) hx hb dX8_mayBegin_2 kc_i0 ?_
  refine lv_istore_n (lv' := [(2, .int 0), (1, .int 0), (0, .ref (ad 152))]) hx hb dX8_mayBegin_3 rfl hl (Nat.le_of_ble_eq_true rfl) rfl (fun ls hl => ?_)
  exact t_X8_mayBegin_l4 hX hr hlk  10000 _ _ _ h _ _ _ hP hS (lv_sub hl [2, 1, 0] rfl)
/-! OwnerlessCoinModel.begins()V -/
def rm_X8_begins : Room := { frames := 1, cells := 0, slots := 0, locals := 20 }
theorem Y_X8_begins : yv yX8_begins cX8_begins 3 none 0 RX8 := ⟨q860, q859, q16, q57, by decide +kernel⟩
set_option maxHeartbeats 4000000 in
set_option maxRecDepth 100000 in
theorem t_X8_begins_b54 {p : Program} {l : Launch} {e : Env} {s : State} {m : MethodId} {args : Array Value} {below : List Frame} {meth : Method} {c : Code} {D : va_G} {tc : Tc} {ad : Nat → Nat} {A : Nat → Prop} {I : St} {II : St} (hX : cx p s m args c cX8_begins 3 RX8 D tc ad A) (hr : meth.sig.returnType = none) (hlk : meth.locks = false) {K9 : Int32 → St → Option (St)} (hK9 : ∀ (v1 : Int32) (M : St), K9 v1 M = some II → ∀ (H : Heap) (locs : List Loc) (ls : Array Slot), va_P D vwCl (wl tc ad (cmb I M)) H → va_S A s.heap H locs → lv_has ls 3 [(0, .ref (ad 152)), (1, .int v1)] → W p l e rm_X8_begins s m args below meth c H locs 0 0 (MQ below (qv D tc ad A (cmb I II)) args s 0 0 A) (F0 m 9 ls [])) : ∀ (v1 : Int32) (v2 : Int32) (t1 : Int32) (t2 : Int32) (M : St), f_X8_begins_b54 K9 v1 v2 t1 t2 M = some II → ∀ (H : Heap) (locs : List Loc) (ls : Array Slot), va_P D vwCl (wl tc ad (cmb I M)) H → va_S A s.heap H locs → lv_has ls 3 [(0, .ref (ad 152)), (1, .int v1), (2, .int v2)] → W p l e rm_X8_begins s m args below meth c H locs 0 0 (MQ below (qv D tc ad A (cmb I II)) args s 0 0 A) (F0 m 54 ls [.int t2, .int t1, .ref (ad 153)]) := by
  intro v1 v2 t1 t2 M h H locs ls hP hS hl
  unfold f_X8_begins_b54 at h
  have hx := hX.1
  have hb := hX.2.1
  have hown := hX.2.2.2.1
  have hts := hX.2.2.2.2.1
  have hA := hX.2.2.2.2.2.2
  refine m_ast hX hP hS h (sge_153) s157_153 sk_153 sn_153 dX8_begins_54 (fun M1 H locs h hP hS => ?_)
  refine lv_aload_n hx hb dX8_begins_55 rfl (lv_at hl 0 rfl) ?_
  refine m_getq (t := 153) hX hP cok6 0 sge_152 s157_152 sk_152 (by decide) rfl q780 dX8_begins_56 ?_
  refine lv_iload_n hx hb dX8_begins_59 rfl (lv_at hl 2 rfl) ?_
  refine lv_bipush (v := 6) hx hb dX8_begins_60 kc_b6 ?_
  refine lv_iadd hx hb dX8_begins_62 ?_
  refine x_let h (fun x2 h => ?_)
  refine lv_iconst (v := 0) hx hb dX8_begins_63 kc_i0 ?_
  refine m_ast hX hP hS h (sge_153) s157_153 sk_153 sn_153 dX8_begins_64 (fun M3 H locs h hP hS => ?_)
  refine lv_aload_n hx hb dX8_begins_65 rfl (lv_at hl 0 rfl) ?_
  refine m_getq (t := 153) hX hP cok6 0 sge_152 s157_152 sk_152 (by decide) rfl q780 dX8_begins_66 ?_
  refine lv_iload_n hx hb dX8_begins_69 rfl (lv_at hl 2 rfl) ?_
  refine lv_bipush (v := 7) hx hb dX8_begins_70 kc_b7 ?_
  refine lv_iadd hx hb dX8_begins_72 ?_
  refine x_let h (fun x4 h => ?_)
  refine lv_iconst (v := 0) hx hb dX8_begins_73 kc_i0 ?_
  refine m_ast hX hP hS h (sge_153) s157_153 sk_153 sn_153 dX8_begins_74 (fun M5 H locs h hP hS => ?_)
  refine lv_aload_n hx hb dX8_begins_75 rfl (lv_at hl 0 rfl) ?_
  refine m_getq (t := 153) hX hP cok6 0 sge_152 s157_152 sk_152 (by decide) rfl q780 dX8_begins_76 ?_
  refine lv_iload_n hx hb dX8_begins_79 rfl (lv_at hl 2 rfl) ?_
  refine lv_bipush (v := 8) hx hb dX8_begins_80 kc_b8 ?_
  refine lv_iadd hx hb dX8_begins_82 ?_
  refine x_let h (fun x6 h => ?_)
  refine lv_iconst (v := 0) hx hb dX8_begins_83 kc_i0 ?_
  refine m_ast hX hP hS h (sge_153) s157_153 sk_153 sn_153 dX8_begins_84 (fun M7 H locs h hP hS => ?_)
  refine lv_iinc (v := (v1 + 1)) (lv' := [(1, .int (v1 + 1)), (0, .ref (ad 152)), (2, .int v2)]) hx hb dX8_begins_85 hl (k := 1) rfl rfl (Nat.le_of_ble_eq_true rfl) rfl (fun ls hl => ?_)
  refine lv_goto (tgt := 9) hx hb dX8_begins_88 (by decide) ?_
  exact hK9 _ _ h _ _ _ hP hS (lv_sub hl [1, 0] rfl)
set_option maxHeartbeats 4000000 in
set_option maxRecDepth 100000 in
theorem t_X8_begins_l9 {p : Program} {l : Launch} {e : Env} {s : State} {m : MethodId} {args : Array Value} {below : List Frame} {meth : Method} {c : Code} {D : va_G} {tc : Tc} {ad : Nat → Nat} {A : Nat → Prop} {I : St} {II : St} (hX : cx p s m args c cX8_begins 3 RX8 D tc ad A) (hr : meth.sig.returnType = none) (hlk : meth.locks = false) : ∀ (n : Nat), ∀ (v1 : Int32) (M : St), f_X8_begins_l9 n v1 M = some II → ∀ (H : Heap) (locs : List Loc) (ls : Array Slot), va_P D vwCl (wl tc ad (cmb I M)) H → va_S A s.heap H locs → lv_has ls 3 [(0, .ref (ad 152)), (1, .int v1)] → W p l e rm_X8_begins s m args below meth c H locs 0 0 (MQ below (qv D tc ad A (cmb I II)) args s 0 0 A) (F0 m 9 ls []) := by
  intro n
  induction n with
  | zero =>
    intro _ _ h
    cases h
  | succ n ih =>
    intro v1 M h H locs ls hP hS hl
    rw [f_X8_begins_l9] at h
    have hx := hX.1
    have hb := hX.2.1
    have hown := hX.2.2.2.1
    have hts := hX.2.2.2.2.1
    have hA := hX.2.2.2.2.2.2
    refine lv_iload_n hx hb dX8_begins_9 rfl (lv_at hl 1 rfl) ?_
    refine lv_aload_n hx hb dX8_begins_10 rfl (lv_at hl 0 rfl) ?_
    refine m_getq (t := 153) hX hP cok6 0 sge_152 s157_152 sk_152 (by decide) rfl q780 dX8_begins_11 ?_
    refine lv_iconst (v := 4) hx hb dX8_begins_14 kc_i4 ?_
    refine m_ald hX hP h (sge_153) s157_153 sk_153 sn_153 dX8_begins_15 (fun h => ?_)
    refine x_icmp_ge (tgt := 91) hx hb dX8_begins_16 (by decide) h (fun c8 h => ?_) (fun c8 h => ?_)
    · cases h
      exact j_vret hX hr hlk hP hS dX8_begins_91
    · refine lv_iload_n hx hb dX8_begins_19 rfl (lv_at hl 1 rfl) ?_
      obtain ⟨r10, e9, h⟩ := ob1_some h
      refine j_i (j_runS (rest := []) hX hP hl.1 Y_X8_person (c_X8_person hA e9) ⟨rfl, rfl⟩ q814 ⟨Nat.le_of_ble_eq_true rfl, Nat.le_of_ble_eq_true rfl⟩ rfl rfl (Nat.le_of_ble_eq_true rfl) dX8_begins_20) hS (fun H locs hP hS => ?_)
      refine lv_istore_n (lv' := [(2, .int r10), (0, .ref (ad 152)), (1, .int v1)]) hx hb dX8_begins_23 rfl hl (Nat.le_of_ble_eq_true rfl) rfl (fun ls hl => ?_)
      refine lv_aload_n hx hb dX8_begins_24 rfl (lv_at hl 1 rfl) ?_
      refine m_getq (t := 153) hX hP cok6 0 sge_152 s157_152 sk_152 (by decide) rfl q780 dX8_begins_25 ?_
      refine lv_iload_n hx hb dX8_begins_28 rfl (lv_at hl 0 rfl) ?_
      refine lv_iconst (v := 5) hx hb dX8_begins_29 kc_i5 ?_
      refine lv_iadd hx hb dX8_begins_30 ?_
      refine x_let h (fun x11 h => ?_)
      refine lv_aload_n hx hb dX8_begins_31 rfl (lv_at hl 1 rfl) ?_
      refine m_getq (t := 153) hX hP cok6 0 sge_152 s157_152 sk_152 (by decide) rfl q780 dX8_begins_32 ?_
      refine lv_iload_n hx hb dX8_begins_35 rfl (lv_at hl 0 rfl) ?_
      refine lv_iconst (v := 0) hx hb dX8_begins_36 kc_i0 ?_
      refine lv_iadd hx hb dX8_begins_37 ?_
      refine x_let h (fun x12 h => ?_)
      refine m_ald hX hP h (sge_153) s157_153 sk_153 sn_153 dX8_begins_38 (fun h => ?_)
      refine x_let h (fun x13 h => ?_)
      refine lv_aload_n hx hb dX8_begins_39 rfl (lv_at hl 1 rfl) ?_
      refine m_getq (t := 153) hX hP cok6 0 sge_152 s157_152 sk_152 (by decide) rfl q780 dX8_begins_40 ?_
      refine lv_bipush (v := 7) hx hb dX8_begins_43 kc_b7 ?_
      refine m_ald hX hP h (sge_153) s157_153 sk_153 sn_153 dX8_begins_45 (fun h => ?_)
      refine x_icmp_lt (tgt := 53) hx hb dX8_begins_46 (by decide) h (fun c14 h => ?_) (fun c14 h => ?_)
      · refine lv_iconst (v := 0) hx hb dX8_begins_53 kc_i0 ?_
        exact t_X8_begins_b54 hX hr hlk ih _ _ _ _ _ h _ _ _ hP hS (lv_sub hl [1, 2, 0] rfl)
      · refine lv_iconst (v := 1) hx hb dX8_begins_49 kc_i1 ?_
        refine lv_goto (tgt := 54) hx hb dX8_begins_50 (by decide) ?_
        exact t_X8_begins_b54 hX hr hlk ih _ _ _ _ _ h _ _ _ hP hS (lv_sub hl [1, 2, 0] rfl)
set_option maxHeartbeats 4000000 in
set_option maxRecDepth 100000 in
theorem c_X8_begins {l : Launch} {D : va_G} {tc : Tc} {ad : Nat → Nat} {A : Nat → Prop} (hA : adok ad A) {I M : St}  {II : St} (h : f_X8_begins M = some II) : Met l yX8_begins (Cond.code yX8_begins cX8_begins 3 none :: tw) rm_X8_begins (pre D tc ad [.ref (ad 152)] (cmb I M)) (qv D tc ad A (cmb I II)) 0 0 A := by
  unfold f_X8_begins at h
  refine mk_met (own := RX8) (by decide +kernel) rfl hA (Nat.le_of_ble_eq_true rfl) ?_
  intro p e s m below meth c ls hX hr hlk hl hP hS
  have hl : lv_has ls 3 [(0, .ref (ad 152))] := hl
  have hx := hX.1
  have hb := hX.2.1
  have hown := hX.2.2.2.1
  have hts := hX.2.2.2.2.1
  refine lv_aload_n hx hb dX8_begins_0 rfl (lv_at hl 0 rfl) ?_
  refine m_getq (t := 153) hX hP cok6 0 sge_152 s157_152 sk_152 (by decide) rfl q780 dX8_begins_1 ?_
  refine lv_iconst (v := 0) hx hb dX8_begins_4 kc_i0 ?_
  refine lv_iconst (v := 1) hx hb dX8_begins_5 kc_i1 ?_
  refine m_ast hX hP hS h (sge_153) s157_153 sk_153 sn_153 dX8_begins_6 (fun M15 H locs h hP hS => ?_)
  refine lv_iconst (v := 0) hx hb dX8_begins_7 kc_i0 ?_
  refine lv_istore_n (lv' := [(1, .int 0), (0, .ref (ad 152))]) hx hb dX8_begins_8 rfl hl (Nat.le_of_ble_eq_true rfl) rfl (fun ls hl => ?_)
  exact t_X8_begins_l9 hX hr hlk  10000 _ _ h _ _ _ hP hS (lv_sub hl [1, 0] rfl)
/-! OwnerlessCoinModel.begin()I -/
def rm_X8_begin : Room := { frames := 2, cells := 0, slots := 0, locals := 42 }
theorem Y_X8_begin : yv yX8_begin cX8_begin 1 (some .int) 0 RX8 := ⟨q852, q850, q851, q57, by decide +kernel⟩
set_option maxHeartbeats 4000000 in
set_option maxRecDepth 100000 in
theorem c_X8_begin {l : Launch} {D : va_G} {tc : Tc} {ad : Nat → Nat} {A : Nat → Prop} (hA : adok ad A) {I M : St}  {rr : Int32} {II : St} (h : f_X8_begin M = some (rr, II)) : Met l yX8_begin (Cond.code yX8_begin cX8_begin 1 (some .int) :: tw) rm_X8_begin (pre D tc ad [.ref (ad 152)] (cmb I M)) (qi D tc ad A rr (cmb I II)) 0 0 A := by
  unfold f_X8_begin at h
  refine mk_met (own := RX8) (by decide +kernel) rfl hA (Nat.le_of_ble_eq_true rfl) ?_
  intro p e s m below meth c ls hX hr hlk hl hP hS
  have hl : lv_has ls 1 [(0, .ref (ad 152))] := hl
  have hx := hX.1
  have hb := hX.2.1
  have hown := hX.2.2.2.1
  have hts := hX.2.2.2.2.1
  refine lv_aload_n hx hb dX8_begin_0 rfl (lv_at hl 0 rfl) ?_
  obtain ⟨r2, e1, h⟩ := ob1_some h
  refine j_i (j_runV (rest := []) hX hP hl.1 Y_X8_mayBegin cok6 (s157_152) sk_152 (c_X8_mayBegin hA e1) ⟨rfl, rfl⟩ q853 ⟨Nat.le_of_ble_eq_true rfl, Nat.le_of_ble_eq_true rfl⟩ rfl rfl (Nat.le_of_ble_eq_true rfl) dX8_begin_1) hS (fun H locs hP hS => ?_)
  refine x_if_ne (tgt := 10) hx hb dX8_begin_4 (by decide) h (fun c3 h => ?_) (fun c3 h => ?_)
  · refine lv_aload_n hx hb dX8_begin_10 rfl (lv_at hl 0 rfl) ?_
    obtain ⟨M5, e4, h⟩ := ob1_some h
    refine j_v (j_runV (rest := []) hX hP hl.1 Y_X8_act cok6 (s157_152) sk_152 (c_X8_act hA e4) ⟨rfl, rfl⟩ q810 ⟨Nat.le_of_ble_eq_true rfl, Nat.le_of_ble_eq_true rfl⟩ rfl rfl (Nat.le_of_ble_eq_true rfl) dX8_begin_11) hS (fun H locs hP hS => ?_)
    refine lv_aload_n hx hb dX8_begin_14 rfl (lv_at hl 0 rfl) ?_
    obtain ⟨M7, e6, h⟩ := ob1_some h
    refine j_v (j_runV (rest := []) hX hP hl.1 Y_X8_begins cok6 (s157_152) sk_152 (c_X8_begins hA e6) ⟨rfl, rfl⟩ q857 ⟨Nat.le_of_ble_eq_true rfl, Nat.le_of_ble_eq_true rfl⟩ rfl rfl (Nat.le_of_ble_eq_true rfl) dX8_begin_15) hS (fun H locs hP hS => ?_)
    refine lv_aload_n hx hb dX8_begin_18 rfl (lv_at hl 0 rfl) ?_
    refine m_getq (t := 153) hX hP cok6 0 sge_152 s157_152 sk_152 (by decide) rfl q780 dX8_begin_19 ?_
    refine lv_iconst (v := 1) hx hb dX8_begin_22 kc_i1 ?_
    refine m_ald hX hP h (sge_153) s157_153 sk_153 sn_153 dX8_begin_23 (fun h => ?_)
    cases h
    exact j_iret hX hr hlk hP hS dX8_begin_24
  · refine lv_bipush (v := (-2)) hx hb dX8_begin_7 kc_bm2 ?_
    cases h
    exact j_iret hX hr hlk hP hS dX8_begin_9
/-! OwnerlessCoinModel.digestOf(II)I -/
def rm_X8_digestOf : Room := { frames := 1, cells := 0, slots := 0, locals := 22 }
theorem Y_X8_digestOf : yv yX8_digestOf cX8_digestOf 3 (some .int) 2 RX8 := ⟨q872, q871, q18, q57, by decide +kernel⟩
set_option maxHeartbeats 4000000 in
set_option maxRecDepth 100000 in
theorem c_X8_digestOf {l : Launch} {D : va_G} {tc : Tc} {ad : Nat → Nat} {A : Nat → Prop} (hA : adok ad A) {I M : St} {v1 : Int32} {v2 : Int32} {rr : Int32} (h : f_X8_digestOf v1 v2 M = some rr) : Met l yX8_digestOf (Cond.code yX8_digestOf cX8_digestOf 3 (some .int) :: tw) rm_X8_digestOf (pre D tc ad [.ref (ad 152), .int v1, .int v2] (cmb I M)) (qi D tc ad A rr (cmb I M)) 0 0 A := by
  unfold f_X8_digestOf at h
  refine mk_met (own := RX8) (by decide +kernel) rfl hA (Nat.le_of_ble_eq_true rfl) ?_
  intro p e s m below meth c ls hX hr hlk hl hP hS
  have hl : lv_has ls 3 [(0, .ref (ad 152)), (1, .int v1), (2, .int v2)] := hl
  have hx := hX.1
  have hb := hX.2.1
  have hown := hX.2.2.2.1
  have hts := hX.2.2.2.2.1
  refine lv_bipush (v := 17) hx hb dX8_digestOf_0 kc_b17 ?_
  refine lv_aload_n hx hb dX8_digestOf_2 rfl (lv_at hl 0 rfl) ?_
  refine m_getq (t := 153) hX hP cok6 0 sge_152 s157_152 sk_152 (by decide) rfl q780 dX8_digestOf_3 ?_
  refine lv_iconst (v := 1) hx hb dX8_digestOf_6 kc_i1 ?_
  refine m_ald hX hP h (sge_153) s157_153 sk_153 sn_153 dX8_digestOf_7 (fun h => ?_)
  obtain ⟨r2, e1, h⟩ := ob1_some h
  refine j_i (j_runS (rest := []) hX hP hl.1 Y_X8_mix (c_X8_mix hA e1) ⟨rfl, rfl⟩ q873 ⟨Nat.le_of_ble_eq_true rfl, Nat.le_of_ble_eq_true rfl⟩ rfl rfl (Nat.le_of_ble_eq_true rfl) dX8_digestOf_8) hS (fun H locs hP hS => ?_)
  refine lv_iload_n hx hb dX8_digestOf_11 rfl (lv_at hl 1 rfl) ?_
  obtain ⟨r4, e3, h⟩ := ob1_some h
  refine j_i (j_runS (rest := []) hX hP hl.1 Y_X8_mix (c_X8_mix hA e3) ⟨rfl, rfl⟩ q873 ⟨Nat.le_of_ble_eq_true rfl, Nat.le_of_ble_eq_true rfl⟩ rfl rfl (Nat.le_of_ble_eq_true rfl) dX8_digestOf_12) hS (fun H locs hP hS => ?_)
  refine lv_iload_n hx hb dX8_digestOf_15 rfl (lv_at hl 2 rfl) ?_
  obtain ⟨r6, e5, h⟩ := ob1_some h
  refine j_i (j_runS (rest := []) hX hP hl.1 Y_X8_mix (c_X8_mix hA e5) ⟨rfl, rfl⟩ q873 ⟨Nat.le_of_ble_eq_true rfl, Nat.le_of_ble_eq_true rfl⟩ rfl rfl (Nat.le_of_ble_eq_true rfl) dX8_digestOf_16) hS (fun H locs hP hS => ?_)
  cases h
  exact j_iret hX hr hlk hP hS dX8_digestOf_19
/-! OwnerlessCoinModel.isCopy(II)Z -/
def rm_X8_isCopy : Room := { frames := 2, cells := 0, slots := 0, locals := 42 }
theorem Y_X8_isCopy : yv yX8_isCopy cX8_isCopy 5 (some .boolean) 2 RX8 := ⟨q880, q879, q19, q57, by decide +kernel⟩
set_option maxHeartbeats 4000000 in
set_option maxRecDepth 100000 in
theorem t_X8_isCopy_b69 {p : Program} {l : Launch} {e : Env} {s : State} {m : MethodId} {args : Array Value} {below : List Frame} {meth : Method} {c : Code} {D : va_G} {tc : Tc} {ad : Nat → Nat} {A : Nat → Prop} {I : St} {rr : Int32} (hX : cx p s m args c cX8_isCopy 5 RX8 D tc ad A) (hr : meth.sig.returnType = some .boolean) (hlk : meth.locks = false) {K5 : Int32 → Int32 → Int32 → Int32 → St → Option (Int32)} (hK5 : ∀ (v1 : Int32) (v2 : Int32) (v3 : Int32) (v4 : Int32) (M : St), K5 v1 v2 v3 v4 M = some rr → ∀ (H : Heap) (locs : List Loc) (ls : Array Slot), va_P D vwCl (wl tc ad (cmb I M)) H → va_S A s.heap H locs → lv_has ls 5 [(0, .ref (ad 152)), (1, .int v1), (2, .int v2), (3, .int v3), (4, .int v4)] → W p l e rm_X8_isCopy s m args below meth c H locs 0 0 (MQ below (qi D tc ad A rr (cmb I M)) args s 0 0 A) (F0 m 5 ls [])) : ∀ (v1 : Int32) (v2 : Int32) (v4 : Int32) (t0 : Int32) (M : St), f_X8_isCopy_b69 K5 v1 v2 v4 t0 M = some rr → ∀ (H : Heap) (locs : List Loc) (ls : Array Slot), va_P D vwCl (wl tc ad (cmb I M)) H → va_S A s.heap H locs → lv_has ls 5 [(0, .ref (ad 152)), (1, .int v1), (2, .int v2), (4, .int v4)] → W p l e rm_X8_isCopy s m args below meth c H locs 0 0 (MQ below (qi D tc ad A rr (cmb I M)) args s 0 0 A) (F0 m 69 ls [.int t0]) := by
  intro v1 v2 v4 t0 M h H locs ls hP hS hl
  unfold f_X8_isCopy_b69 at h
  have hx := hX.1
  have hb := hX.2.1
  have hown := hX.2.2.2.1
  have hts := hX.2.2.2.2.1
  have hA := hX.2.2.2.2.2.2
  refine lv_istore_n (lv' := [(3, .int t0), (0, .ref (ad 152)), (1, .int v1), (2, .int v2), (4, .int v4)]) hx hb dX8_isCopy_69 rfl hl (Nat.le_of_ble_eq_true rfl) rfl (fun ls hl => ?_)
  refine lv_iinc (v := (v4 + 1)) (lv' := [(4, .int (v4 + 1)), (3, .int t0), (0, .ref (ad 152)), (1, .int v1), (2, .int v2)]) hx hb dX8_isCopy_70 hl (k := 4) rfl rfl (Nat.le_of_ble_eq_true rfl) rfl (fun ls hl => ?_)
  refine lv_goto (tgt := 5) hx hb dX8_isCopy_73 (by decide) ?_
  exact hK5 _ _ _ _ _ h _ _ _ hP hS (lv_sub hl [2, 3, 4, 1, 0] rfl)
set_option maxHeartbeats 4000000 in
set_option maxRecDepth 100000 in
theorem t_X8_isCopy_b64 {p : Program} {l : Launch} {e : Env} {s : State} {m : MethodId} {args : Array Value} {below : List Frame} {meth : Method} {c : Code} {D : va_G} {tc : Tc} {ad : Nat → Nat} {A : Nat → Prop} {I : St} {rr : Int32} (hX : cx p s m args c cX8_isCopy 5 RX8 D tc ad A) (hr : meth.sig.returnType = some .boolean) (hlk : meth.locks = false) {K5 : Int32 → Int32 → Int32 → Int32 → St → Option (Int32)} (hK5 : ∀ (v1 : Int32) (v2 : Int32) (v3 : Int32) (v4 : Int32) (M : St), K5 v1 v2 v3 v4 M = some rr → ∀ (H : Heap) (locs : List Loc) (ls : Array Slot), va_P D vwCl (wl tc ad (cmb I M)) H → va_S A s.heap H locs → lv_has ls 5 [(0, .ref (ad 152)), (1, .int v1), (2, .int v2), (3, .int v3), (4, .int v4)] → W p l e rm_X8_isCopy s m args below meth c H locs 0 0 (MQ below (qi D tc ad A rr (cmb I M)) args s 0 0 A) (F0 m 5 ls [])) : ∀ (v1 : Int32) (v2 : Int32) (v4 : Int32) (M : St), f_X8_isCopy_b64 K5 v1 v2 v4 M = some rr → ∀ (H : Heap) (locs : List Loc) (ls : Array Slot), va_P D vwCl (wl tc ad (cmb I M)) H → va_S A s.heap H locs → lv_has ls 5 [(0, .ref (ad 152)), (1, .int v1), (2, .int v2), (4, .int v4)] → W p l e rm_X8_isCopy s m args below meth c H locs 0 0 (MQ below (qi D tc ad A rr (cmb I M)) args s 0 0 A) (F0 m 64 ls []) := by
  intro v1 v2 v4 M h H locs ls hP hS hl
  unfold f_X8_isCopy_b64 at h
  have hx := hX.1
  have hb := hX.2.1
  have hown := hX.2.2.2.1
  have hts := hX.2.2.2.2.1
  have hA := hX.2.2.2.2.2.2
  refine lv_iconst (v := 1) hx hb dX8_isCopy_64 kc_i1 ?_
  refine lv_goto (tgt := 69) hx hb dX8_isCopy_65 (by decide) ?_
  exact t_X8_isCopy_b69 hX hr hlk hK5 _ _ _ _ _ h _ _ _ hP hS (lv_sub hl [0, 1, 2, 3] rfl)
set_option maxHeartbeats 4000000 in
set_option maxRecDepth 100000 in
theorem t_X8_isCopy_b68 {p : Program} {l : Launch} {e : Env} {s : State} {m : MethodId} {args : Array Value} {below : List Frame} {meth : Method} {c : Code} {D : va_G} {tc : Tc} {ad : Nat → Nat} {A : Nat → Prop} {I : St} {rr : Int32} (hX : cx p s m args c cX8_isCopy 5 RX8 D tc ad A) (hr : meth.sig.returnType = some .boolean) (hlk : meth.locks = false) {K5 : Int32 → Int32 → Int32 → Int32 → St → Option (Int32)} (hK5 : ∀ (v1 : Int32) (v2 : Int32) (v3 : Int32) (v4 : Int32) (M : St), K5 v1 v2 v3 v4 M = some rr → ∀ (H : Heap) (locs : List Loc) (ls : Array Slot), va_P D vwCl (wl tc ad (cmb I M)) H → va_S A s.heap H locs → lv_has ls 5 [(0, .ref (ad 152)), (1, .int v1), (2, .int v2), (3, .int v3), (4, .int v4)] → W p l e rm_X8_isCopy s m args below meth c H locs 0 0 (MQ below (qi D tc ad A rr (cmb I M)) args s 0 0 A) (F0 m 5 ls [])) : ∀ (v1 : Int32) (v2 : Int32) (v4 : Int32) (M : St), f_X8_isCopy_b68 K5 v1 v2 v4 M = some rr → ∀ (H : Heap) (locs : List Loc) (ls : Array Slot), va_P D vwCl (wl tc ad (cmb I M)) H → va_S A s.heap H locs → lv_has ls 5 [(0, .ref (ad 152)), (1, .int v1), (2, .int v2), (4, .int v4)] → W p l e rm_X8_isCopy s m args below meth c H locs 0 0 (MQ below (qi D tc ad A rr (cmb I M)) args s 0 0 A) (F0 m 68 ls []) := by
  intro v1 v2 v4 M h H locs ls hP hS hl
  unfold f_X8_isCopy_b68 at h
  have hx := hX.1
  have hb := hX.2.1
  have hown := hX.2.2.2.1
  have hts := hX.2.2.2.2.1
  have hA := hX.2.2.2.2.2.2
  refine lv_iconst (v := 0) hx hb dX8_isCopy_68 kc_i0 ?_
  exact t_X8_isCopy_b69 hX hr hlk hK5 _ _ _ _ _ h _ _ _ hP hS (lv_sub hl [0, 1, 2, 3] rfl)
set_option maxHeartbeats 4000000 in
set_option maxRecDepth 100000 in
theorem t_X8_isCopy_l5 {p : Program} {l : Launch} {e : Env} {s : State} {m : MethodId} {args : Array Value} {below : List Frame} {meth : Method} {c : Code} {D : va_G} {tc : Tc} {ad : Nat → Nat} {A : Nat → Prop} {I : St} {rr : Int32} (hX : cx p s m args c cX8_isCopy 5 RX8 D tc ad A) (hr : meth.sig.returnType = some .boolean) (hlk : meth.locks = false) : ∀ (n : Nat), ∀ (v1 : Int32) (v2 : Int32) (v3 : Int32) (v4 : Int32) (M : St), f_X8_isCopy_l5 n v1 v2 v3 v4 M = some rr → ∀ (H : Heap) (locs : List Loc) (ls : Array Slot), va_P D vwCl (wl tc ad (cmb I M)) H → va_S A s.heap H locs → lv_has ls 5 [(0, .ref (ad 152)), (1, .int v1), (2, .int v2), (3, .int v3), (4, .int v4)] → W p l e rm_X8_isCopy s m args below meth c H locs 0 0 (MQ below (qi D tc ad A rr (cmb I M)) args s 0 0 A) (F0 m 5 ls []) := by
  intro n
  induction n with
  | zero =>
    intro _ _ _ _ _ h
    cases h
  | succ n ih =>
    intro v1 v2 v3 v4 M h H locs ls hP hS hl
    rw [f_X8_isCopy_l5] at h
    have hx := hX.1
    have hb := hX.2.1
    have hown := hX.2.2.2.1
    have hts := hX.2.2.2.2.1
    have hA := hX.2.2.2.2.2.2
    refine lv_iload hx hb dX8_isCopy_5 (lv_at hl 4 rfl) ?_
    refine lv_aload_n hx hb dX8_isCopy_7 rfl (lv_at hl 0 rfl) ?_
    refine m_getq (t := 153) hX hP cok6 0 sge_152 s157_152 sk_152 (by decide) rfl q780 dX8_isCopy_8 ?_
    refine lv_iconst (v := 4) hx hb dX8_isCopy_11 kc_i4 ?_
    refine m_ald hX hP h (sge_153) s157_153 sk_153 sn_153 dX8_isCopy_12 (fun h => ?_)
    refine x_icmp_ge (tgt := 76) hx hb dX8_isCopy_13 (by decide) h (fun c1 h => ?_) (fun c1 h => ?_)
    · refine lv_iload_n hx hb dX8_isCopy_76 rfl (lv_at hl 3 rfl) ?_
      obtain ⟨gz, h⟩ := ck_some h
      cases h
      exact j_zret hX hr hlk hP hS (isB_or gz) dX8_isCopy_77
    · refine lv_iload_n hx hb dX8_isCopy_16 rfl (lv_at hl 3 rfl) ?_
      refine x_if_ne (tgt := 64) hx hb dX8_isCopy_17 (by decide) h (fun c2 h => ?_) (fun c2 h => ?_)
      · exact t_X8_isCopy_b64 hX hr hlk ih _ _ _ _ h _ _ _ hP hS (lv_sub hl [0, 1, 2, 4] rfl)
      · refine lv_iload hx hb dX8_isCopy_20 (lv_at hl 4 rfl) ?_
        refine lv_iload_n hx hb dX8_isCopy_22 rfl (lv_at hl 1 rfl) ?_
        refine x_icmp_eq (tgt := 68) hx hb dX8_isCopy_23 (by decide) h (fun c3 h => ?_) (fun c3 h => ?_)
        · exact t_X8_isCopy_b68 hX hr hlk ih _ _ _ _ h _ _ _ hP hS (lv_sub hl [0, 1, 2, 4] rfl)
        · refine lv_aload_n hx hb dX8_isCopy_26 rfl (lv_at hl 0 rfl) ?_
          refine lv_iload hx hb dX8_isCopy_27 (lv_at hl 4 rfl) ?_
          refine lv_iconst (v := 5) hx hb dX8_isCopy_29 kc_i5 ?_
          obtain ⟨r5, e4, h⟩ := ob1_some h
          refine j_i (j_runV (rest := []) hX hP hl.1 Y_X8_has cok6 (s157_152) sk_152 (c_X8_has hA e4) ⟨rfl, rfl⟩ q865 ⟨Nat.le_of_ble_eq_true rfl, Nat.le_of_ble_eq_true rfl⟩ rfl rfl (Nat.le_of_ble_eq_true rfl) dX8_isCopy_30) hS (fun H locs hP hS => ?_)
          refine x_if_eq (tgt := 68) hx hb dX8_isCopy_33 (by decide) h (fun c6 h => ?_) (fun c6 h => ?_)
          · exact t_X8_isCopy_b68 hX hr hlk ih _ _ _ _ h _ _ _ hP hS (lv_sub hl [0, 1, 2, 4] rfl)
          · refine lv_aload_n hx hb dX8_isCopy_36 rfl (lv_at hl 0 rfl) ?_
            refine lv_iload hx hb dX8_isCopy_37 (lv_at hl 4 rfl) ?_
            refine lv_bipush (v := 6) hx hb dX8_isCopy_39 kc_b6 ?_
            obtain ⟨r8, e7, h⟩ := ob1_some h
            refine j_i (j_runV (rest := []) hX hP hl.1 Y_X8_has cok6 (s157_152) sk_152 (c_X8_has hA e7) ⟨rfl, rfl⟩ q865 ⟨Nat.le_of_ble_eq_true rfl, Nat.le_of_ble_eq_true rfl⟩ rfl rfl (Nat.le_of_ble_eq_true rfl) dX8_isCopy_41) hS (fun H locs hP hS => ?_)
            refine x_if_eq (tgt := 68) hx hb dX8_isCopy_44 (by decide) h (fun c9 h => ?_) (fun c9 h => ?_)
            · exact t_X8_isCopy_b68 hX hr hlk ih _ _ _ _ h _ _ _ hP hS (lv_sub hl [0, 1, 2, 4] rfl)
            · refine lv_aload_n hx hb dX8_isCopy_47 rfl (lv_at hl 0 rfl) ?_
              refine m_getq (t := 153) hX hP cok6 0 sge_152 s157_152 sk_152 (by decide) rfl q780 dX8_isCopy_48 ?_
              refine lv_iload hx hb dX8_isCopy_51 (lv_at hl 4 rfl) ?_
              obtain ⟨r11, e10, h⟩ := ob1_some h
              refine j_i (j_runS (rest := [.ref (ad 153)]) hX hP hl.1 Y_X8_person (c_X8_person hA e10) ⟨rfl, rfl⟩ q814 ⟨Nat.le_of_ble_eq_true rfl, Nat.le_of_ble_eq_true rfl⟩ rfl rfl (Nat.le_of_ble_eq_true rfl) dX8_isCopy_53) hS (fun H locs hP hS => ?_)
              refine lv_bipush (v := 11) hx hb dX8_isCopy_56 kc_b11 ?_
              refine lv_iadd hx hb dX8_isCopy_58 ?_
              refine x_let h (fun x12 h => ?_)
              refine m_ald hX hP h (sge_153) s157_153 sk_153 sn_153 dX8_isCopy_59 (fun h => ?_)
              refine x_let h (fun x13 h => ?_)
              refine lv_iload_n hx hb dX8_isCopy_60 rfl (lv_at hl 2 rfl) ?_
              refine x_icmp_ne (tgt := 68) hx hb dX8_isCopy_61 (by decide) h (fun c14 h => ?_) (fun c14 h => ?_)
              · exact t_X8_isCopy_b68 hX hr hlk ih _ _ _ _ h _ _ _ hP hS (lv_sub hl [0, 1, 2, 4] rfl)
              · exact t_X8_isCopy_b64 hX hr hlk ih _ _ _ _ h _ _ _ hP hS (lv_sub hl [0, 1, 2, 4] rfl)
set_option maxHeartbeats 4000000 in
set_option maxRecDepth 100000 in
theorem c_X8_isCopy {l : Launch} {D : va_G} {tc : Tc} {ad : Nat → Nat} {A : Nat → Prop} (hA : adok ad A) {I M : St} {v1 : Int32} {v2 : Int32} {rr : Int32} (h : f_X8_isCopy v1 v2 M = some rr) : Met l yX8_isCopy (Cond.code yX8_isCopy cX8_isCopy 5 (some .boolean) :: tw) rm_X8_isCopy (pre D tc ad [.ref (ad 152), .int v1, .int v2] (cmb I M)) (qi D tc ad A rr (cmb I M)) 0 0 A := by
  unfold f_X8_isCopy at h
  refine mk_met (own := RX8) (by decide +kernel) rfl hA (Nat.le_of_ble_eq_true rfl) ?_
  intro p e s m below meth c ls hX hr hlk hl hP hS
  have hl : lv_has ls 5 [(0, .ref (ad 152)), (1, .int v1), (2, .int v2)] := hl
  have hx := hX.1
  have hb := hX.2.1
  have hown := hX.2.2.2.1
  have hts := hX.2.2.2.2.1
  refine lv_iconst (v := 0) hx hb dX8_isCopy_0 kc_i0 ?_
  refine lv_istore_n (lv' := [(3, .int 0), (0, .ref (ad 152)), (1, .int v1), (2, .int v2)]) hx hb dX8_isCopy_1 rfl hl (Nat.le_of_ble_eq_true rfl) rfl (fun ls hl => ?_)
  refine lv_iconst (v := 0) hx hb dX8_isCopy_2 kc_i0 ?_
  refine lv_istore (lv' := [(4, .int 0), (3, .int 0), (0, .ref (ad 152)), (1, .int v1), (2, .int v2)]) hx hb dX8_isCopy_3 hl (Nat.le_of_ble_eq_true rfl) rfl (fun ls hl => ?_)
  exact t_X8_isCopy_l5 hX hr hlk  10000 _ _ _ _ _ h _ _ _ hP hS (lv_sub hl [2, 3, 4, 1, 0] rfl)
/-! OwnerlessCoinModel.valueAt(II)I -/
def rm_X8_valueAt : Room := { frames := 1, cells := 0, slots := 0, locals := 20 }
theorem Y_X8_valueAt : yv yX8_valueAt cX8_valueAt 5 (some .int) 2 RX8 := ⟨q897, q896, q23, q57, by decide +kernel⟩
set_option maxHeartbeats 4000000 in
set_option maxRecDepth 100000 in
theorem t_X8_valueAt_l13 {p : Program} {l : Launch} {e : Env} {s : State} {m : MethodId} {args : Array Value} {below : List Frame} {meth : Method} {c : Code} {D : va_G} {tc : Tc} {ad : Nat → Nat} {A : Nat → Prop} {I : St} {rr : Int32} (hX : cx p s m args c cX8_valueAt 5 RX8 D tc ad A) (hr : meth.sig.returnType = some .int) (hlk : meth.locks = false) : ∀ (n : Nat), ∀ (v1 : Int32) (v2 : Int32) (v3 : Int32) (v4 : Int32) (M : St), f_X8_valueAt_l13 n v1 v2 v3 v4 M = some rr → ∀ (H : Heap) (locs : List Loc) (ls : Array Slot), va_P D vwCl (wl tc ad (cmb I M)) H → va_S A s.heap H locs → lv_has ls 5 [(0, .ref (ad 152)), (1, .int v1), (2, .int v2), (3, .int v3), (4, .int v4)] → W p l e rm_X8_valueAt s m args below meth c H locs 0 0 (MQ below (qi D tc ad A rr (cmb I M)) args s 0 0 A) (F0 m 13 ls []) := by
  intro n
  induction n with
  | zero =>
    intro _ _ _ _ _ h
    cases h
  | succ n ih =>
    intro v1 v2 v3 v4 M h H locs ls hP hS hl
    rw [f_X8_valueAt_l13] at h
    have hx := hX.1
    have hb := hX.2.1
    have hown := hX.2.2.2.1
    have hts := hX.2.2.2.2.1
    have hA := hX.2.2.2.2.2.2
    refine lv_iload hx hb dX8_valueAt_13 (lv_at hl 4 rfl) ?_
    refine x_if_lt (tgt := 48) hx hb dX8_valueAt_15 (by decide) h (fun c1 h => ?_) (fun c1 h => ?_)
    · refine lv_iload_n hx hb dX8_valueAt_48 rfl (lv_at hl 3 rfl) ?_
      cases h
      exact j_iret hX hr hlk hP hS dX8_valueAt_49
    · refine lv_iload_n hx hb dX8_valueAt_18 rfl (lv_at hl 3 rfl) ?_
      refine lv_iload_n hx hb dX8_valueAt_19 rfl (lv_at hl 2 rfl) ?_
      refine lv_imul hx hb dX8_valueAt_20 ?_
      refine x_let h (fun x2 h => ?_)
      refine lv_aload_n hx hb dX8_valueAt_21 rfl (lv_at hl 0 rfl) ?_
      refine m_getq (t := 153) hX hP cok6 0 sge_152 s157_152 sk_152 (by decide) rfl q780 dX8_valueAt_22 ?_
      refine lv_iload_n hx hb dX8_valueAt_25 rfl (lv_at hl 1 rfl) ?_
      obtain ⟨r4, e3, h⟩ := ob1_some h
      refine j_i (j_runS (rest := [.ref (ad 153), .int x2]) hX hP hl.1 Y_X8_person (c_X8_person hA e3) ⟨rfl, rfl⟩ q814 ⟨Nat.le_of_ble_eq_true rfl, Nat.le_of_ble_eq_true rfl⟩ rfl rfl (Nat.le_of_ble_eq_true rfl) dX8_valueAt_26) hS (fun H locs hP hS => ?_)
      refine lv_bipush (v := 14) hx hb dX8_valueAt_29 kc_b14 ?_
      refine lv_iadd hx hb dX8_valueAt_31 ?_
      refine x_let h (fun x5 h => ?_)
      refine lv_iload hx hb dX8_valueAt_32 (lv_at hl 4 rfl) ?_
      refine lv_iadd hx hb dX8_valueAt_34 ?_
      refine x_let h (fun x6 h => ?_)
      refine m_ald hX hP h (sge_153) s157_153 sk_153 sn_153 dX8_valueAt_35 (fun h => ?_)
      refine lv_iadd hx hb dX8_valueAt_36 ?_
      refine x_let h (fun x7 h => ?_)
      refine lv_sipush (v := 1019) hx hb dX8_valueAt_37 kc_s1019 ?_
      refine lv_irem hx hb dX8_valueAt_40 (by decide) ?_
      refine x_let h (fun x8 h => ?_)
      refine lv_istore_n (lv' := [(3, .int x8), (0, .ref (ad 152)), (1, .int v1), (2, .int v2), (4, .int v4)]) hx hb dX8_valueAt_41 rfl hl (Nat.le_of_ble_eq_true rfl) rfl (fun ls hl => ?_)
      refine lv_iinc (v := (v4 + (-1))) (lv' := [(4, .int (v4 + (-1))), (3, .int x8), (0, .ref (ad 152)), (1, .int v1), (2, .int v2)]) hx hb dX8_valueAt_42 hl (k := 4) rfl rfl (Nat.le_of_ble_eq_true rfl) rfl (fun ls hl => ?_)
      refine lv_goto (tgt := 13) hx hb dX8_valueAt_45 (by decide) ?_
      exact ih _ _ _ _ _ h _ _ _ hP hS (lv_sub hl [2, 3, 4, 1, 0] rfl)
set_option maxHeartbeats 4000000 in
set_option maxRecDepth 100000 in
theorem c_X8_valueAt {l : Launch} {D : va_G} {tc : Tc} {ad : Nat → Nat} {A : Nat → Prop} (hA : adok ad A) {I M : St} {v1 : Int32} {v2 : Int32} {rr : Int32} (h : f_X8_valueAt v1 v2 M = some rr) : Met l yX8_valueAt (Cond.code yX8_valueAt cX8_valueAt 5 (some .int) :: tw) rm_X8_valueAt (pre D tc ad [.ref (ad 152), .int v1, .int v2] (cmb I M)) (qi D tc ad A rr (cmb I M)) 0 0 A := by
  unfold f_X8_valueAt at h
  refine mk_met (own := RX8) (by decide +kernel) rfl hA (Nat.le_of_ble_eq_true rfl) ?_
  intro p e s m below meth c ls hX hr hlk hl hP hS
  have hl : lv_has ls 5 [(0, .ref (ad 152)), (1, .int v1), (2, .int v2)] := hl
  have hx := hX.1
  have hb := hX.2.1
  have hown := hX.2.2.2.1
  have hts := hX.2.2.2.2.1
  refine lv_iconst (v := 0) hx hb dX8_valueAt_0 kc_i0 ?_
  refine lv_istore_n (lv' := [(3, .int 0), (0, .ref (ad 152)), (1, .int v1), (2, .int v2)]) hx hb dX8_valueAt_1 rfl hl (Nat.le_of_ble_eq_true rfl) rfl (fun ls hl => ?_)
  refine lv_aload_n hx hb dX8_valueAt_2 rfl (lv_at hl 1 rfl) ?_
  refine m_getq (t := 153) hX hP cok6 0 sge_152 s157_152 sk_152 (by decide) rfl q780 dX8_valueAt_3 ?_
  refine lv_bipush (v := 6) hx hb dX8_valueAt_6 kc_b6 ?_
  refine m_ald hX hP h (sge_153) s157_153 sk_153 sn_153 dX8_valueAt_8 (fun h => ?_)
  refine x_let h (fun x9 h => ?_)
  refine lv_iconst (v := 1) hx hb dX8_valueAt_9 kc_i1 ?_
  refine lv_isub hx hb dX8_valueAt_10 ?_
  refine x_let h (fun x10 h => ?_)
  refine lv_istore (lv' := [(4, .int x10), (3, .int 0), (0, .ref (ad 152)), (1, .int v1), (2, .int v2)]) hx hb dX8_valueAt_11 hl (Nat.le_of_ble_eq_true rfl) rfl (fun ls hl => ?_)
  exact t_X8_valueAt_l13 hX hr hlk  10000 _ _ _ _ _ h _ _ _ hP hS (lv_sub hl [2, 3, 4, 1, 0] rfl)
/-! OwnerlessCoinModel.deals(I)V -/
def rm_X8_deals : Room := { frames := 2, cells := 0, slots := 0, locals := 44 }
theorem Y_X8_deals : yv yX8_deals cX8_deals 4 none 1 RX8 := ⟨q888, q887, q21, q57, by decide +kernel⟩
set_option maxHeartbeats 4000000 in
set_option maxRecDepth 100000 in
theorem t_X8_deals_l76 {p : Program} {l : Launch} {e : Env} {s : State} {m : MethodId} {args : Array Value} {below : List Frame} {meth : Method} {c : Code} {D : va_G} {tc : Tc} {ad : Nat → Nat} {A : Nat → Prop} {I : St} {II : St} (hX : cx p s m args c cX8_deals 4 RX8 D tc ad A) (hr : meth.sig.returnType = none) (hlk : meth.locks = false) : ∀ (n : Nat), ∀ (v1 : Int32) (v2 : Int32) (v3 : Int32) (M : St), f_X8_deals_l76 n v1 v2 v3 M = some II → ∀ (H : Heap) (locs : List Loc) (ls : Array Slot), va_P D vwCl (wl tc ad (cmb I M)) H → va_S A s.heap H locs → lv_has ls 4 [(0, .ref (ad 152)), (1, .int v1), (2, .int v2), (3, .int v3)] → W p l e rm_X8_deals s m args below meth c H locs 0 0 (MQ below (qv D tc ad A (cmb I II)) args s 0 0 A) (F0 m 76 ls []) := by
  intro n
  induction n with
  | zero =>
    intro _ _ _ _ h
    cases h
  | succ n ih =>
    intro v1 v2 v3 M h H locs ls hP hS hl
    rw [f_X8_deals_l76] at h
    have hx := hX.1
    have hb := hX.2.1
    have hown := hX.2.2.2.1
    have hts := hX.2.2.2.2.1
    have hA := hX.2.2.2.2.2.2
    refine lv_iload_n hx hb dX8_deals_76 rfl (lv_at hl 3 rfl) ?_
    refine lv_bipush (v := 8) hx hb dX8_deals_77 kc_b8 ?_
    refine x_icmp_ge (tgt := 107) hx hb dX8_deals_79 (by decide) h (fun c1 h => ?_) (fun c1 h => ?_)
    · cases h
      exact j_vret hX hr hlk hP hS dX8_deals_107
    · refine lv_aload_n hx hb dX8_deals_82 rfl (lv_at hl 0 rfl) ?_
      refine m_getq (t := 153) hX hP cok6 0 sge_152 s157_152 sk_152 (by decide) rfl q780 dX8_deals_83 ?_
      refine lv_iload_n hx hb dX8_deals_86 rfl (lv_at hl 2 rfl) ?_
      refine lv_bipush (v := 22) hx hb dX8_deals_87 kc_b22 ?_
      refine lv_iadd hx hb dX8_deals_89 ?_
      refine x_let h (fun x2 h => ?_)
      refine lv_iload_n hx hb dX8_deals_90 rfl (lv_at hl 3 rfl) ?_
      refine lv_iadd hx hb dX8_deals_91 ?_
      refine x_let h (fun x3 h => ?_)
      refine lv_aload_n hx hb dX8_deals_92 rfl (lv_at hl 0 rfl) ?_
      refine lv_iload_n hx hb dX8_deals_93 rfl (lv_at hl 1 rfl) ?_
      refine lv_iload_n hx hb dX8_deals_94 rfl (lv_at hl 3 rfl) ?_
      refine lv_iconst (v := 1) hx hb dX8_deals_95 kc_i1 ?_
      refine lv_iadd hx hb dX8_deals_96 ?_
      obtain ⟨r5, e4, h⟩ := ob1_some h
      refine j_i (j_runV (rest := [.int x3, .ref (ad 153)]) hX hP hl.1 Y_X8_valueAt cok6 (s157_152) sk_152 (c_X8_valueAt hA e4) ⟨rfl, rfl⟩ q894 ⟨Nat.le_of_ble_eq_true rfl, Nat.le_of_ble_eq_true rfl⟩ rfl rfl (Nat.le_of_ble_eq_true rfl) dX8_deals_97) hS (fun H locs hP hS => ?_)
      refine m_ast hX hP hS h (sge_153) s157_153 sk_153 sn_153 dX8_deals_100 (fun M6 H locs h hP hS => ?_)
      refine lv_iinc (v := (v3 + 1)) (lv' := [(3, .int (v3 + 1)), (0, .ref (ad 152)), (1, .int v1), (2, .int v2)]) hx hb dX8_deals_101 hl (k := 3) rfl rfl (Nat.le_of_ble_eq_true rfl) rfl (fun ls hl => ?_)
      refine lv_goto (tgt := 76) hx hb dX8_deals_104 (by decide) ?_
      exact ih _ _ _ _ h _ _ _ hP hS (lv_sub hl [1, 2, 3, 0] rfl)
set_option maxHeartbeats 4000000 in
set_option maxRecDepth 100000 in
theorem t_X8_deals_l38 {p : Program} {l : Launch} {e : Env} {s : State} {m : MethodId} {args : Array Value} {below : List Frame} {meth : Method} {c : Code} {D : va_G} {tc : Tc} {ad : Nat → Nat} {A : Nat → Prop} {I : St} {II : St} (hX : cx p s m args c cX8_deals 4 RX8 D tc ad A) (hr : meth.sig.returnType = none) (hlk : meth.locks = false) : ∀ (n : Nat), ∀ (v1 : Int32) (v2 : Int32) (v3 : Int32) (M : St), f_X8_deals_l38 n v1 v2 v3 M = some II → ∀ (H : Heap) (locs : List Loc) (ls : Array Slot), va_P D vwCl (wl tc ad (cmb I M)) H → va_S A s.heap H locs → lv_has ls 4 [(0, .ref (ad 152)), (1, .int v1), (2, .int v2), (3, .int v3)] → W p l e rm_X8_deals s m args below meth c H locs 0 0 (MQ below (qv D tc ad A (cmb I II)) args s 0 0 A) (F0 m 38 ls []) := by
  intro n
  induction n with
  | zero =>
    intro _ _ _ _ h
    cases h
  | succ n ih =>
    intro v1 v2 v3 M h H locs ls hP hS hl
    rw [f_X8_deals_l38] at h
    have hx := hX.1
    have hb := hX.2.1
    have hown := hX.2.2.2.1
    have hts := hX.2.2.2.2.1
    have hA := hX.2.2.2.2.2.2
    refine lv_iload_n hx hb dX8_deals_38 rfl (lv_at hl 3 rfl) ?_
    refine lv_aload_n hx hb dX8_deals_39 rfl (lv_at hl 0 rfl) ?_
    refine m_getq (t := 153) hX hP cok6 0 sge_152 s157_152 sk_152 (by decide) rfl q780 dX8_deals_40 ?_
    refine lv_bipush (v := 6) hx hb dX8_deals_43 kc_b6 ?_
    refine m_ald hX hP h (sge_153) s157_153 sk_153 sn_153 dX8_deals_45 (fun h => ?_)
    refine x_icmp_ge (tgt := 74) hx hb dX8_deals_46 (by decide) h (fun c7 h => ?_) (fun c7 h => ?_)
    · refine lv_iconst (v := 0) hx hb dX8_deals_74 kc_i0 ?_
      refine lv_istore_n (lv' := [(3, .int 0), (0, .ref (ad 152)), (1, .int v1), (2, .int v2)]) hx hb dX8_deals_75 rfl hl (Nat.le_of_ble_eq_true rfl) rfl (fun ls hl => ?_)
      exact t_X8_deals_l76 hX hr hlk  10000 _ _ _ _ h _ _ _ hP hS (lv_sub hl [1, 2, 3, 0] rfl)
    · refine lv_aload_n hx hb dX8_deals_49 rfl (lv_at hl 0 rfl) ?_
      refine m_getq (t := 153) hX hP cok6 0 sge_152 s157_152 sk_152 (by decide) rfl q780 dX8_deals_50 ?_
      refine lv_iload_n hx hb dX8_deals_53 rfl (lv_at hl 2 rfl) ?_
      refine lv_bipush (v := 14) hx hb dX8_deals_54 kc_b14 ?_
      refine lv_iadd hx hb dX8_deals_56 ?_
      refine x_let h (fun x8 h => ?_)
      refine lv_iload_n hx hb dX8_deals_57 rfl (lv_at hl 3 rfl) ?_
      refine lv_iadd hx hb dX8_deals_58 ?_
      refine x_let h (fun x9 h => ?_)
      refine lv_aload_n hx hb dX8_deals_59 rfl (lv_at hl 0 rfl) ?_
      obtain ⟨r12, M11, e10, h⟩ := ob2_some h
      refine j_i (j_runV (rest := [.int x9, .ref (ad 153)]) hX hP hl.1 Y_X8_draw cok6 (s157_152) sk_152 (c_X8_draw hA e10) ⟨rfl, rfl⟩ q889 ⟨Nat.le_of_ble_eq_true rfl, Nat.le_of_ble_eq_true rfl⟩ rfl rfl (Nat.le_of_ble_eq_true rfl) dX8_deals_60) hS (fun H locs hP hS => ?_)
      refine lv_sipush (v := 1019) hx hb dX8_deals_63 kc_s1019 ?_
      refine lv_irem hx hb dX8_deals_66 (by decide) ?_
      refine m_ast hX hP hS h (sge_153) s157_153 sk_153 sn_153 dX8_deals_67 (fun M13 H locs h hP hS => ?_)
      refine lv_iinc (v := (v3 + 1)) (lv' := [(3, .int (v3 + 1)), (0, .ref (ad 152)), (1, .int v1), (2, .int v2)]) hx hb dX8_deals_68 hl (k := 3) rfl rfl (Nat.le_of_ble_eq_true rfl) rfl (fun ls hl => ?_)
      refine lv_goto (tgt := 38) hx hb dX8_deals_71 (by decide) ?_
      exact ih _ _ _ _ h _ _ _ hP hS (lv_sub hl [1, 2, 3, 0] rfl)
set_option maxHeartbeats 4000000 in
set_option maxRecDepth 100000 in
theorem c_X8_deals {l : Launch} {D : va_G} {tc : Tc} {ad : Nat → Nat} {A : Nat → Prop} (hA : adok ad A) {I M : St} {v1 : Int32} {II : St} (h : f_X8_deals v1 M = some II) : Met l yX8_deals (Cond.code yX8_deals cX8_deals 4 none :: tw) rm_X8_deals (pre D tc ad [.ref (ad 152), .int v1] (cmb I M)) (qv D tc ad A (cmb I II)) 0 0 A := by
  unfold f_X8_deals at h
  refine mk_met (own := RX8) (by decide +kernel) rfl hA (Nat.le_of_ble_eq_true rfl) ?_
  intro p e s m below meth c ls hX hr hlk hl hP hS
  have hl : lv_has ls 4 [(0, .ref (ad 152)), (1, .int v1)] := hl
  have hx := hX.1
  have hb := hX.2.1
  have hown := hX.2.2.2.1
  have hts := hX.2.2.2.2.1
  refine lv_iload_n hx hb dX8_deals_0 rfl (lv_at hl 1 rfl) ?_
  obtain ⟨r15, e14, h⟩ := ob1_some h
  refine j_i (j_runS (rest := []) hX hP hl.1 Y_X8_person (c_X8_person hA e14) ⟨rfl, rfl⟩ q814 ⟨Nat.le_of_ble_eq_true rfl, Nat.le_of_ble_eq_true rfl⟩ rfl rfl (Nat.le_of_ble_eq_true rfl) dX8_deals_1) hS (fun H locs hP hS => ?_)
  refine lv_istore_n (lv' := [(2, .int r15), (0, .ref (ad 152)), (1, .int v1)]) hx hb dX8_deals_4 rfl hl (Nat.le_of_ble_eq_true rfl) rfl (fun ls hl => ?_)
  refine lv_aload_n hx hb dX8_deals_5 rfl (lv_at hl 1 rfl) ?_
  refine lv_aload_n hx hb dX8_deals_6 rfl (lv_at hl 1 rfl) ?_
  refine m_getq (t := 153) hX hP cok6 0 sge_152 s157_152 sk_152 (by decide) rfl q780 dX8_deals_7 ?_
  refine lv_iload_n hx hb dX8_deals_10 rfl (lv_at hl 0 rfl) ?_
  refine lv_bipush (v := 10) hx hb dX8_deals_11 kc_b10 ?_
  refine lv_iadd hx hb dX8_deals_13 ?_
  refine x_let h (fun x16 h => ?_)
  refine m_ald hX hP h (sge_153) s157_153 sk_153 sn_153 dX8_deals_14 (fun h => ?_)
  refine m_put hX hP hS cok6 5 h sge_152 s157_152 sk_152 (by decide) rfl rfl q785 rfl dX8_deals_15 (fun M17 H locs h hP hS => ?_)
  refine lv_aload_n hx hb dX8_deals_18 rfl (lv_at hl 1 rfl) ?_
  refine m_getq (t := 153) hX hP cok6 0 sge_152 s157_152 sk_152 (by decide) rfl q780 dX8_deals_19 ?_
  refine lv_iload_n hx hb dX8_deals_22 rfl (lv_at hl 0 rfl) ?_
  refine lv_bipush (v := 14) hx hb dX8_deals_23 kc_b14 ?_
  refine lv_iadd hx hb dX8_deals_25 ?_
  refine x_let h (fun x18 h => ?_)
  refine lv_aload_n hx hb dX8_deals_26 rfl (lv_at hl 1 rfl) ?_
  refine m_getq (t := 153) hX hP cok6 0 sge_152 s157_152 sk_152 (by decide) rfl q780 dX8_deals_27 ?_
  refine lv_iload_n hx hb dX8_deals_30 rfl (lv_at hl 0 rfl) ?_
  refine lv_bipush (v := 9) hx hb dX8_deals_31 kc_b9 ?_
  refine lv_iadd hx hb dX8_deals_33 ?_
  refine x_let h (fun x19 h => ?_)
  refine m_ald hX hP h (sge_153) s157_153 sk_153 sn_153 dX8_deals_34 (fun h => ?_)
  refine m_ast hX hP hS h (sge_153) s157_153 sk_153 sn_153 dX8_deals_35 (fun M20 H locs h hP hS => ?_)
  refine lv_iconst (v := 1) hx hb dX8_deals_36 kc_i1 ?_
  refine lv_istore_n (lv' := [(3, .int 1), (2, .int r15), (0, .ref (ad 152)), (1, .int v1)]) hx hb dX8_deals_37 rfl hl (Nat.le_of_ble_eq_true rfl) rfl (fun ls hl => ?_)
  exact t_X8_deals_l38 hX hr hlk  10000 _ _ _ _ h _ _ _ hP hS (lv_sub hl [2, 3, 1, 0] rfl)
/-! OwnerlessCoinModel.squares(II)J -/
def rm_X8_squares : Room := { frames := 0, cells := 0, slots := 0, locals := 0 }
theorem Y_X8_squares : ys yX8_squares cX8_squares 5 (some .long) 2 := ⟨q900, q899, q57, by decide +kernel⟩
set_option maxHeartbeats 4000000 in
set_option maxRecDepth 100000 in
theorem t_X8_squares_l10 {p : Program} {l : Launch} {e : Env} {s : State} {m : MethodId} {args : Array Value} {below : List Frame} {meth : Method} {c : Code} {D : va_G} {tc : Tc} {ad : Nat → Nat} {A : Nat → Prop} {J : St} {rr : Int64} (hX : cx p s m args c cX8_squares 5 RX8 D tc ad A) (hr : meth.sig.returnType = some .long) (hlk : meth.locks = false) : ∀ (n : Nat), ∀ (v1 : Int32) (v2 : Int64) (v4 : Int32), f_X8_squares_l10 n v1 v2 v4 = some rr → ∀ (H : Heap) (locs : List Loc) (ls : Array Slot), va_P D vwCl (wl tc ad J) H → va_S A s.heap H locs → lv_has ls 5 [(1, .int v1), (2, .long v2), (4, .int v4)] → W p l e rm_X8_squares s m args below meth c H locs 0 0 (MQ below (ql D tc ad A rr J) args s 0 0 A) (F0 m 10 ls []) := by
  intro n
  induction n with
  | zero =>
    intro _ _ _ h
    cases h
  | succ n ih =>
    intro v1 v2 v4 h H locs ls hP hS hl
    rw [f_X8_squares_l10] at h
    have hx := hX.1
    have hb := hX.2.1
    have hown := hX.2.2.2.1
    have hts := hX.2.2.2.2.1
    have hA := hX.2.2.2.2.2.2
    refine lv_iload hx hb dX8_squares_10 (lv_at hl 2 rfl) ?_
    refine lv_iload_n hx hb dX8_squares_12 rfl (lv_at hl 0 rfl) ?_
    refine x_icmp_ge (tgt := 30) hx hb dX8_squares_13 (by decide) h (fun c1 h => ?_) (fun c1 h => ?_)
    · refine lv_lload_n hx hb dX8_squares_30 rfl (lv_at hl 1 rfl) ?_
      cases h
      exact j_lret hX hr hlk hP hS dX8_squares_31
    · refine lv_lload_n hx hb dX8_squares_16 rfl (lv_at hl 1 rfl) ?_
      refine lv_lload_n hx hb dX8_squares_17 rfl (lv_at hl 1 rfl) ?_
      refine lv_lmul hx hb dX8_squares_18 ?_
      refine x_letL h (fun y2 h => ?_)
      refine lv_ldc2 (v := 62615533) hx hb hown (hts _ q901) dX8_squares_19 ?_
      refine lv_lrem hx hb dX8_squares_22 (by decide) ?_
      refine x_letL h (fun y3 h => ?_)
      refine lv_lstore_n (lv' := [(2, .long y3), (1, .int v1), (4, .int v4)]) hx hb dX8_squares_23 rfl hl (Nat.le_of_ble_eq_true rfl) rfl (fun ls hl => ?_)
      refine lv_iinc (v := (v4 + 1)) (lv' := [(4, .int (v4 + 1)), (2, .long y3), (1, .int v1)]) hx hb dX8_squares_24 hl (k := 2) rfl rfl (Nat.le_of_ble_eq_true rfl) rfl (fun ls hl => ?_)
      refine lv_goto (tgt := 10) hx hb dX8_squares_27 (by decide) ?_
      exact ih _ _ _ h _ _ _ hP hS (lv_sub hl [2, 1, 0] rfl)
set_option maxHeartbeats 4000000 in
set_option maxRecDepth 100000 in
theorem c_X8_squares {l : Launch} {D : va_G} {tc : Tc} {ad : Nat → Nat} {A : Nat → Prop} (hA : adok ad A) {J : St} {v0 : Int32} {v1 : Int32} {rr : Int64} (h : f_X8_squares v0 v1 = some rr) : Met l yX8_squares (Cond.code yX8_squares cX8_squares 5 (some .long) :: tw) rm_X8_squares (pre D tc ad [.int v0, .int v1] J) (ql D tc ad A rr J) 0 0 A := by
  unfold f_X8_squares at h
  refine mk_met (own := RX8) (by decide +kernel) rfl hA (Nat.le_of_ble_eq_true rfl) ?_
  intro p e s m below meth c ls hX hr hlk hl hP hS
  have hl : lv_has ls 5 [(0, .int v0), (1, .int v1)] := hl
  have hx := hX.1
  have hb := hX.2.1
  have hown := hX.2.2.2.1
  have hts := hX.2.2.2.2.1
  refine lv_iload_n hx hb dX8_squares_0 rfl (lv_at hl 0 rfl) ?_
  refine lv_i2l (v := v0.toInt64) hx hb dX8_squares_1 rfl ?_
  refine x_letL h (fun y4 h => ?_)
  refine lv_ldc2 (v := 62615533) hx hb hown (hts _ q901) dX8_squares_2 ?_
  refine lv_lrem hx hb dX8_squares_5 (by decide) ?_
  refine x_letL h (fun y5 h => ?_)
  refine lv_lstore_n (lv' := [(2, .long y5), (0, .int v0), (1, .int v1)]) hx hb dX8_squares_6 rfl hl (Nat.le_of_ble_eq_true rfl) rfl (fun ls hl => ?_)
  refine lv_iconst (v := 0) hx hb dX8_squares_7 kc_i0 ?_
  refine lv_istore (lv' := [(4, .int 0), (2, .long y5), (0, .int v0), (1, .int v1)]) hx hb dX8_squares_8 hl (Nat.le_of_ble_eq_true rfl) rfl (fun ls hl => ?_)
  exact t_X8_squares_l10 hX hr hlk  10000 _ _ _ h _ _ _ hP hS (lv_sub hl [3, 1, 0] rfl)
