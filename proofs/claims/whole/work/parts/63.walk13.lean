/-! OwnerlessCoinModel.forces(II)Z -/
def rm_X8_forces : Room := { frames := 5, cells := 0, slots := 0, locals := 114 }
theorem Y_X8_forces : yv yX8_forces cX8_forces 6 (some .boolean) 2 RX8 := ⟨q1069, q1068, q47, q57, by decide +kernel⟩
set_option maxHeartbeats 4000000 in
set_option maxRecDepth 100000 in
theorem t_X8_forces_b57 {p : Program} {l : Launch} {e : Env} {s : State} {m : MethodId} {args : Array Value} {below : List Frame} {meth : Method} {c : Code} {D : va_G} {tc : Tc} {ad : Nat → Nat} {A : Nat → Prop} {I : St} {rr : Int32} {II : St} (hX : cx p s m args c cX8_forces 6 RX8 D tc ad A) (hr : meth.sig.returnType = some .boolean) (hlk : meth.locks = false) {K13 : Int32 → Int32 → Int32 → Int32 → St → Option (Int32 × St)} (hK13 : ∀ (v1 : Int32) (v2 : Int32) (v3 : Int32) (v4 : Int32) (M : St), K13 v1 v2 v3 v4 M = some (rr, II) → ∀ (H : Heap) (locs : List Loc) (ls : Array Slot), va_P D vwCl (wl tc ad (cmb I M)) H → va_S A s.heap H locs → lv_has ls 6 [(0, .ref (ad 152)), (1, .int v1), (2, .int v2), (3, .int v3), (4, .int v4)] → W p l e rm_X8_forces s m args below meth c H locs 0 0 (MQ below (qi D tc ad A rr (cmb I II)) args s 0 0 A) (F0 m 13 ls [])) : ∀ (v1 : Int32) (v2 : Int32) (v3 : Int32) (v4 : Int32) (M : St), f_X8_forces_b57 K13 v1 v2 v3 v4 M = some (rr, II) → ∀ (H : Heap) (locs : List Loc) (ls : Array Slot), va_P D vwCl (wl tc ad (cmb I M)) H → va_S A s.heap H locs → lv_has ls 6 [(0, .ref (ad 152)), (1, .int v1), (2, .int v2), (3, .int v3), (4, .int v4)] → W p l e rm_X8_forces s m args below meth c H locs 0 0 (MQ below (qi D tc ad A rr (cmb I II)) args s 0 0 A) (F0 m 57 ls []) := by
  intro v1 v2 v3 v4 M h H locs ls hP hS hl
  unfold f_X8_forces_b57 at h
  have hx := hX.1
  have hb := hX.2.1
  have hown := hX.2.2.2.1
  have hts := hX.2.2.2.2.1
  have hA := hX.2.2.2.2.2.2
  refine lv_iinc (v := (v4 + 1)) (lv' := [(4, .int (v4 + 1)), (0, .ref (ad 152)), (1, .int v1), (2, .int v2), (3, .int v3)]) hx hb dX8_forces_57 hl (k := 4) rfl rfl (Nat.le_of_ble_eq_true rfl) rfl (fun ls hl => ?_)
  refine lv_goto (tgt := 13) hx hb dX8_forces_60 (by decide) ?_
  exact hK13 _ _ _ _ _ h _ _ _ hP hS (lv_sub hl [1, 2, 3, 4, 0] rfl)
set_option maxHeartbeats 4000000 in
set_option maxRecDepth 100000 in
theorem t_X8_forces_l13 {p : Program} {l : Launch} {e : Env} {s : State} {m : MethodId} {args : Array Value} {below : List Frame} {meth : Method} {c : Code} {D : va_G} {tc : Tc} {ad : Nat → Nat} {A : Nat → Prop} {I : St} {rr : Int32} {II : St} (hX : cx p s m args c cX8_forces 6 RX8 D tc ad A) (hr : meth.sig.returnType = some .boolean) (hlk : meth.locks = false) : ∀ (n : Nat), ∀ (v1 : Int32) (v2 : Int32) (v3 : Int32) (v4 : Int32) (M : St), f_X8_forces_l13 n v1 v2 v3 v4 M = some (rr, II) → ∀ (H : Heap) (locs : List Loc) (ls : Array Slot), va_P D vwCl (wl tc ad (cmb I M)) H → va_S A s.heap H locs → lv_has ls 6 [(0, .ref (ad 152)), (1, .int v1), (2, .int v2), (3, .int v3), (4, .int v4)] → W p l e rm_X8_forces s m args below meth c H locs 0 0 (MQ below (qi D tc ad A rr (cmb I II)) args s 0 0 A) (F0 m 13 ls []) := by
  intro n
  induction n with
  | zero =>
    intro _ _ _ _ _ h
    cases h
  | succ n ih =>
    intro v1 v2 v3 v4 M h H locs ls hP hS hl
    rw [f_X8_forces_l13] at h
    have hx := hX.1
    have hb := hX.2.1
    have hown := hX.2.2.2.1
    have hts := hX.2.2.2.2.1
    have hA := hX.2.2.2.2.2.2
    refine lv_iload hx hb dX8_forces_13 (lv_at hl 4 rfl) ?_
    refine lv_sipush (v := 256) hx hb dX8_forces_15 kc_s256 ?_
    refine x_icmp_ge (tgt := 63) hx hb dX8_forces_18 (by decide) h (fun c1 h => ?_) (fun c1 h => ?_)
    · refine lv_iconst (v := 0) hx hb dX8_forces_63 kc_i0 ?_
      cases h
      exact j_zret hX hr hlk hP hS (Or.inl rfl) dX8_forces_64
    · refine lv_iload hx hb dX8_forces_21 (lv_at hl 4 rfl) ?_
      refine lv_iload_n hx hb dX8_forces_23 rfl (lv_at hl 1 rfl) ?_
      refine lv_iconst (v := (-1)) hx hb dX8_forces_24 kc_im1 ?_
      refine lv_ixor hx hb dX8_forces_25 ?_
      refine lv_iand hx hb dX8_forces_26 ?_
      refine x_if_ne (tgt := 57) hx hb dX8_forces_27 (by decide) h (fun c2 h => ?_) (fun c2 h => ?_)
      · exact t_X8_forces_b57 hX hr hlk ih _ _ _ _ _ h _ _ _ hP hS (lv_sub hl [0, 1, 2, 3, 4] rfl)
      · refine lv_aload_n hx hb dX8_forces_30 rfl (lv_at hl 0 rfl) ?_
        refine lv_iload_n hx hb dX8_forces_31 rfl (lv_at hl 3 rfl) ?_
        refine lv_iload hx hb dX8_forces_32 (lv_at hl 4 rfl) ?_
        refine lv_ior hx hb dX8_forces_34 ?_
        obtain ⟨r5, M4, e3, h⟩ := ob2_some h
        refine j_i (j_runV (rest := []) hX hP hl.1 Y_X8_outputOf cok6 (s157_152) sk_152 (c_X8_outputOf hA e3) ⟨rfl, rfl⟩ q979 ⟨Nat.le_of_ble_eq_true rfl, Nat.le_of_ble_eq_true rfl⟩ rfl rfl (Nat.le_of_ble_eq_true rfl) dX8_forces_35) hS (fun H locs hP hS => ?_)
        refine lv_istore (lv' := [(5, .int r5), (0, .ref (ad 152)), (1, .int v1), (2, .int v2), (3, .int v3), (4, .int v4)]) hx hb dX8_forces_38 hl (Nat.le_of_ble_eq_true rfl) rfl (fun ls hl => ?_)
        refine lv_aload_n hx hb dX8_forces_40 rfl (lv_at hl 1 rfl) ?_
        refine m_get hX hP cok6 4 sge_152 s157_152 sk_152 (by decide) rfl q784 dX8_forces_41 ?_
        refine x_if_ne (tgt := 57) hx hb dX8_forces_44 (by decide) h (fun c6 h => ?_) (fun c6 h => ?_)
        · exact t_X8_forces_b57 hX hr hlk ih _ _ _ _ _ h _ _ _ hP hS (lv_sub hl [1, 2, 3, 4, 5] rfl)
        · refine lv_iload hx hb dX8_forces_47 (lv_at hl 0 rfl) ?_
          refine lv_iconst (v := 1) hx hb dX8_forces_49 kc_i1 ?_
          refine lv_iand hx hb dX8_forces_50 ?_
          refine x_let h (fun x7 h => ?_)
          refine lv_iload_n hx hb dX8_forces_51 rfl (lv_at hl 3 rfl) ?_
          refine x_icmp_ne (tgt := 57) hx hb dX8_forces_52 (by decide) h (fun c8 h => ?_) (fun c8 h => ?_)
          · exact t_X8_forces_b57 hX hr hlk ih _ _ _ _ _ h _ _ _ hP hS (lv_sub hl [1, 2, 3, 4, 5] rfl)
          · refine lv_iconst (v := 1) hx hb dX8_forces_55 kc_i1 ?_
            cases h
            exact j_zret hX hr hlk hP hS (Or.inr rfl) dX8_forces_56
set_option maxHeartbeats 4000000 in
set_option maxRecDepth 100000 in
theorem c_X8_forces {l : Launch} {D : va_G} {tc : Tc} {ad : Nat → Nat} {A : Nat → Prop} (hA : adok ad A) {I M : St} {v1 : Int32} {v2 : Int32} {rr : Int32} {II : St} (h : f_X8_forces v1 v2 M = some (rr, II)) : Met l yX8_forces (Cond.code yX8_forces cX8_forces 6 (some .boolean) :: tw) rm_X8_forces (pre D tc ad [.ref (ad 152), .int v1, .int v2] (cmb I M)) (qi D tc ad A rr (cmb I II)) 0 0 A := by
  unfold f_X8_forces at h
  refine mk_met (own := RX8) (by decide +kernel) rfl hA (Nat.le_of_ble_eq_true rfl) ?_
  intro p e s m below meth c ls hX hr hlk hl hP hS
  have hl : lv_has ls 6 [(0, .ref (ad 152)), (1, .int v1), (2, .int v2)] := hl
  have hx := hX.1
  have hb := hX.2.1
  have hown := hX.2.2.2.1
  have hts := hX.2.2.2.2.1
  refine lv_aload_n hx hb dX8_forces_0 rfl (lv_at hl 0 rfl) ?_
  refine lv_iconst (v := 5) hx hb dX8_forces_1 kc_i5 ?_
  obtain ⟨r10, e9, h⟩ := ob1_some h
  refine j_i (j_runV (rest := []) hX hP hl.1 Y_X8_setOf cok6 (s157_152) sk_152 (c_X8_setOf hA e9) ⟨rfl, rfl⟩ q952 ⟨Nat.le_of_ble_eq_true rfl, Nat.le_of_ble_eq_true rfl⟩ rfl rfl (Nat.le_of_ble_eq_true rfl) dX8_forces_2) hS (fun H locs hP hS => ?_)
  refine lv_iload_n hx hb dX8_forces_5 rfl (lv_at hl 1 rfl) ?_
  refine lv_iconst (v := (-1)) hx hb dX8_forces_6 kc_im1 ?_
  refine lv_ixor hx hb dX8_forces_7 ?_
  refine lv_iand hx hb dX8_forces_8 ?_
  refine x_let h (fun x11 h => ?_)
  refine lv_istore_n (lv' := [(3, .int x11), (0, .ref (ad 152)), (1, .int v1), (2, .int v2)]) hx hb dX8_forces_9 rfl hl (Nat.le_of_ble_eq_true rfl) rfl (fun ls hl => ?_)
  refine lv_iconst (v := 0) hx hb dX8_forces_10 kc_i0 ?_
  refine lv_istore (lv' := [(4, .int 0), (3, .int x11), (0, .ref (ad 152)), (1, .int v1), (2, .int v2)]) hx hb dX8_forces_11 hl (Nat.le_of_ble_eq_true rfl) rfl (fun ls hl => ?_)
  exact t_X8_forces_l13 hX hr hlk  10000 _ _ _ _ _ h _ _ _ hP hS (lv_sub hl [2, 3, 4, 1, 0] rfl)
/-! OwnerlessCoinModel.canForce(II)I -/
def rm_X8_canForce : Room := { frames := 6, cells := 0, slots := 0, locals := 139 }
theorem Y_X8_canForce : yv yX8_canForce cX8_canForce 3 (some .int) 2 RX8 := ⟨q1065, q1063, q1064, q57, by decide +kernel⟩
set_option maxHeartbeats 4000000 in
set_option maxRecDepth 100000 in
theorem t_X8_canForce_b20 {p : Program} {l : Launch} {e : Env} {s : State} {m : MethodId} {args : Array Value} {below : List Frame} {meth : Method} {c : Code} {D : va_G} {tc : Tc} {ad : Nat → Nat} {A : Nat → Prop} {I : St} {rr : Int32} {II : St} (hX : cx p s m args c cX8_canForce 3 RX8 D tc ad A) (hr : meth.sig.returnType = some .int) (hlk : meth.locks = false) : ∀ (M : St), f_X8_canForce_b20 M = some (rr, II) → ∀ (H : Heap) (locs : List Loc) (ls : Array Slot), va_P D vwCl (wl tc ad (cmb I M)) H → va_S A s.heap H locs → lv_has ls 3 [] → W p l e rm_X8_canForce s m args below meth c H locs 0 0 (MQ below (qi D tc ad A rr (cmb I II)) args s 0 0 A) (F0 m 20 ls []) := by
  intro M h H locs ls hP hS hl
  unfold f_X8_canForce_b20 at h
  have hx := hX.1
  have hb := hX.2.1
  have hown := hX.2.2.2.1
  have hts := hX.2.2.2.2.1
  have hA := hX.2.2.2.2.2.2
  refine lv_iconst (v := (-1)) hx hb dX8_canForce_20 kc_im1 ?_
  cases h
  exact j_iret hX hr hlk hP hS dX8_canForce_21
set_option maxHeartbeats 4000000 in
set_option maxRecDepth 100000 in
theorem t_X8_canForce_b51 {p : Program} {l : Launch} {e : Env} {s : State} {m : MethodId} {args : Array Value} {below : List Frame} {meth : Method} {c : Code} {D : va_G} {tc : Tc} {ad : Nat → Nat} {A : Nat → Prop} {I : St} {rr : Int32} {II : St} (hX : cx p s m args c cX8_canForce 3 RX8 D tc ad A) (hr : meth.sig.returnType = some .int) (hlk : meth.locks = false) : ∀ (t0 : Int32) (M : St), f_X8_canForce_b51 t0 M = some (rr, II) → ∀ (H : Heap) (locs : List Loc) (ls : Array Slot), va_P D vwCl (wl tc ad (cmb I M)) H → va_S A s.heap H locs → lv_has ls 3 [] → W p l e rm_X8_canForce s m args below meth c H locs 0 0 (MQ below (qi D tc ad A rr (cmb I II)) args s 0 0 A) (F0 m 51 ls [.int t0]) := by
  intro t0 M h H locs ls hP hS hl
  unfold f_X8_canForce_b51 at h
  have hx := hX.1
  have hb := hX.2.1
  have hown := hX.2.2.2.1
  have hts := hX.2.2.2.2.1
  have hA := hX.2.2.2.2.2.2
  cases h
  exact j_iret hX hr hlk hP hS dX8_canForce_51
set_option maxHeartbeats 4000000 in
set_option maxRecDepth 100000 in
theorem c_X8_canForce {l : Launch} {D : va_G} {tc : Tc} {ad : Nat → Nat} {A : Nat → Prop} (hA : adok ad A) {I M : St} {v1 : Int32} {v2 : Int32} {rr : Int32} {II : St} (h : f_X8_canForce v1 v2 M = some (rr, II)) : Met l yX8_canForce (Cond.code yX8_canForce cX8_canForce 3 (some .int) :: tw) rm_X8_canForce (pre D tc ad [.ref (ad 152), .int v1, .int v2] (cmb I M)) (qi D tc ad A rr (cmb I II)) 0 0 A := by
  unfold f_X8_canForce at h
  refine mk_met (own := RX8) (by decide +kernel) rfl hA (Nat.le_of_ble_eq_true rfl) ?_
  intro p e s m below meth c ls hX hr hlk hl hP hS
  have hl : lv_has ls 3 [(0, .ref (ad 152)), (1, .int v1), (2, .int v2)] := hl
  have hx := hX.1
  have hb := hX.2.1
  have hown := hX.2.2.2.1
  have hts := hX.2.2.2.2.1
  refine lv_iload_n hx hb dX8_canForce_0 rfl (lv_at hl 1 rfl) ?_
  refine lv_iconst (v := 0) hx hb dX8_canForce_1 kc_i0 ?_
  refine lv_sipush (v := 255) hx hb dX8_canForce_2 kc_s255 ?_
  obtain ⟨r2, e1, h⟩ := ob1_some h
  refine j_i (j_runS (rest := []) hX hP hl.1 Y_X8_in (c_X8_in hA e1) ⟨rfl, rfl⟩ q807 ⟨Nat.le_of_ble_eq_true rfl, Nat.le_of_ble_eq_true rfl⟩ rfl rfl (Nat.le_of_ble_eq_true rfl) dX8_canForce_5) hS (fun H locs hP hS => ?_)
  refine x_if_eq (tgt := 20) hx hb dX8_canForce_8 (by decide) h (fun c3 h => ?_) (fun c3 h => ?_)
  · exact t_X8_canForce_b20 hX hr hlk  _ h _ _ _ hP hS (lv_sub hl [] rfl)
  · refine lv_iload_n hx hb dX8_canForce_11 rfl (lv_at hl 2 rfl) ?_
    refine lv_iconst (v := 0) hx hb dX8_canForce_12 kc_i0 ?_
    refine lv_iconst (v := 1) hx hb dX8_canForce_13 kc_i1 ?_
    obtain ⟨r5, e4, h⟩ := ob1_some h
    refine j_i (j_runS (rest := []) hX hP hl.1 Y_X8_in (c_X8_in hA e4) ⟨rfl, rfl⟩ q807 ⟨Nat.le_of_ble_eq_true rfl, Nat.le_of_ble_eq_true rfl⟩ rfl rfl (Nat.le_of_ble_eq_true rfl) dX8_canForce_14) hS (fun H locs hP hS => ?_)
    refine x_if_ne (tgt := 22) hx hb dX8_canForce_17 (by decide) h (fun c6 h => ?_) (fun c6 h => ?_)
    · refine lv_aload_n hx hb dX8_canForce_22 rfl (lv_at hl 0 rfl) ?_
      refine lv_iload_n hx hb dX8_canForce_23 rfl (lv_at hl 1 rfl) ?_
      obtain ⟨r8, e7, h⟩ := ob1_some h
      refine j_i (j_runV (rest := []) hX hP hl.1 Y_X8_mayJoin cok6 (s157_152) sk_152 (c_X8_mayJoin hA e7) ⟨rfl, rfl⟩ q1058 ⟨Nat.le_of_ble_eq_true rfl, Nat.le_of_ble_eq_true rfl⟩ rfl rfl (Nat.le_of_ble_eq_true rfl) dX8_canForce_24) hS (fun H locs hP hS => ?_)
      refine x_if_ne (tgt := 33) hx hb dX8_canForce_27 (by decide) h (fun c9 h => ?_) (fun c9 h => ?_)
      · refine lv_aload_n hx hb dX8_canForce_33 rfl (lv_at hl 0 rfl) ?_
        obtain ⟨M11, e10, h⟩ := ob1_some h
        refine j_v (j_runV (rest := []) hX hP hl.1 Y_X8_takesSecrets cok6 (s157_152) sk_152 (c_X8_takesSecrets hA e10) ⟨rfl, rfl⟩ q975 ⟨Nat.le_of_ble_eq_true rfl, Nat.le_of_ble_eq_true rfl⟩ rfl rfl (Nat.le_of_ble_eq_true rfl) dX8_canForce_34) hS (fun H locs hP hS => ?_)
        refine lv_aload_n hx hb dX8_canForce_37 rfl (lv_at hl 0 rfl) ?_
        refine lv_iload_n hx hb dX8_canForce_38 rfl (lv_at hl 1 rfl) ?_
        refine lv_iload_n hx hb dX8_canForce_39 rfl (lv_at hl 2 rfl) ?_
        obtain ⟨r14, M13, e12, h⟩ := ob2_some h
        refine j_i (j_runV (rest := []) hX hP hl.1 Y_X8_forces cok6 (s157_152) sk_152 (c_X8_forces hA e12) ⟨rfl, rfl⟩ q1066 ⟨Nat.le_of_ble_eq_true rfl, Nat.le_of_ble_eq_true rfl⟩ rfl rfl (Nat.le_of_ble_eq_true rfl) dX8_canForce_40) hS (fun H locs hP hS => ?_)
        refine x_if_eq (tgt := 50) hx hb dX8_canForce_43 (by decide) h (fun c15 h => ?_) (fun c15 h => ?_)
        · refine lv_iconst (v := 0) hx hb dX8_canForce_50 kc_i0 ?_
          exact t_X8_canForce_b51 hX hr hlk  _ _ h _ _ _ hP hS (lv_sub hl [] rfl)
        · refine lv_iconst (v := 1) hx hb dX8_canForce_46 kc_i1 ?_
          refine lv_goto (tgt := 51) hx hb dX8_canForce_47 (by decide) ?_
          exact t_X8_canForce_b51 hX hr hlk  _ _ h _ _ _ hP hS (lv_sub hl [] rfl)
      · refine lv_bipush (v := (-2)) hx hb dX8_canForce_30 kc_bm2 ?_
        cases h
        exact j_iret hX hr hlk hP hS dX8_canForce_32
    · exact t_X8_canForce_b20 hX hr hlk  _ h _ _ _ hP hS (lv_sub hl [] rfl)
/-! OwnerlessCoinModel.bias(II)I -/
def rm_X8_bias : Room := { frames := 6, cells := 0, slots := 0, locals := 139 }
theorem Y_X8_bias : yv yX8_bias cX8_bias 9 (some .int) 2 RX8 := ⟨q1073, q1071, q1072, q57, by decide +kernel⟩
set_option maxHeartbeats 4000000 in
set_option maxRecDepth 100000 in
theorem t_X8_bias_b20 {p : Program} {l : Launch} {e : Env} {s : State} {m : MethodId} {args : Array Value} {below : List Frame} {meth : Method} {c : Code} {D : va_G} {tc : Tc} {ad : Nat → Nat} {A : Nat → Prop} {I : St} {rr : Int32} {II : St} (hX : cx p s m args c cX8_bias 9 RX8 D tc ad A) (hr : meth.sig.returnType = some .int) (hlk : meth.locks = false) : ∀ (M : St), f_X8_bias_b20 M = some (rr, II) → ∀ (H : Heap) (locs : List Loc) (ls : Array Slot), va_P D vwCl (wl tc ad (cmb I M)) H → va_S A s.heap H locs → lv_has ls 9 [] → W p l e rm_X8_bias s m args below meth c H locs 0 0 (MQ below (qi D tc ad A rr (cmb I II)) args s 0 0 A) (F0 m 20 ls []) := by
  intro M h H locs ls hP hS hl
  unfold f_X8_bias_b20 at h
  have hx := hX.1
  have hb := hX.2.1
  have hown := hX.2.2.2.1
  have hts := hX.2.2.2.2.1
  have hA := hX.2.2.2.2.2.2
  refine lv_iconst (v := (-1)) hx hb dX8_bias_20 kc_im1 ?_
  cases h
  exact j_iret hX hr hlk hP hS dX8_bias_21
set_option maxHeartbeats 4000000 in
set_option maxRecDepth 100000 in
theorem t_X8_bias_b125 {p : Program} {l : Launch} {e : Env} {s : State} {m : MethodId} {args : Array Value} {below : List Frame} {meth : Method} {c : Code} {D : va_G} {tc : Tc} {ad : Nat → Nat} {A : Nat → Prop} {I : St} {rr : Int32} {II : St} (hX : cx p s m args c cX8_bias 9 RX8 D tc ad A) (hr : meth.sig.returnType = some .int) (hlk : meth.locks = false) {K67 : Int32 → Int32 → Int32 → Int32 → Int32 → Int32 → St → Option (Int32 × St)} (hK67 : ∀ (v1 : Int32) (v2 : Int32) (v3 : Int32) (v4 : Int32) (v5 : Int32) (v6 : Int32) (M : St), K67 v1 v2 v3 v4 v5 v6 M = some (rr, II) → ∀ (H : Heap) (locs : List Loc) (ls : Array Slot), va_P D vwCl (wl tc ad (cmb I M)) H → va_S A s.heap H locs → lv_has ls 9 [(0, .ref (ad 152)), (1, .int v1), (2, .int v2), (3, .int v3), (4, .int v4), (5, .int v5), (6, .int v6)] → W p l e rm_X8_bias s m args below meth c H locs 0 0 (MQ below (qi D tc ad A rr (cmb I II)) args s 0 0 A) (F0 m 67 ls [])) {K87 : Int32 → Int32 → Int32 → Int32 → Int32 → Int32 → Int32 → Int32 → St → Option (Int32 × St)} (hK87 : ∀ (v1 : Int32) (v2 : Int32) (v3 : Int32) (v4 : Int32) (v5 : Int32) (v6 : Int32) (v7 : Int32) (v8 : Int32) (M : St), K87 v1 v2 v3 v4 v5 v6 v7 v8 M = some (rr, II) → ∀ (H : Heap) (locs : List Loc) (ls : Array Slot), va_P D vwCl (wl tc ad (cmb I M)) H → va_S A s.heap H locs → lv_has ls 9 [(0, .ref (ad 152)), (1, .int v1), (2, .int v2), (3, .int v3), (4, .int v4), (5, .int v5), (6, .int v6), (7, .int v7), (8, .int v8)] → W p l e rm_X8_bias s m args below meth c H locs 0 0 (MQ below (qi D tc ad A rr (cmb I II)) args s 0 0 A) (F0 m 87 ls [])) : ∀ (v1 : Int32) (v2 : Int32) (v3 : Int32) (v4 : Int32) (v5 : Int32) (v6 : Int32) (v7 : Int32) (v8 : Int32) (M : St), f_X8_bias_b125 K67 K87 v1 v2 v3 v4 v5 v6 v7 v8 M = some (rr, II) → ∀ (H : Heap) (locs : List Loc) (ls : Array Slot), va_P D vwCl (wl tc ad (cmb I M)) H → va_S A s.heap H locs → lv_has ls 9 [(0, .ref (ad 152)), (1, .int v1), (2, .int v2), (3, .int v3), (4, .int v4), (5, .int v5), (6, .int v6), (7, .int v7), (8, .int v8)] → W p l e rm_X8_bias s m args below meth c H locs 0 0 (MQ below (qi D tc ad A rr (cmb I II)) args s 0 0 A) (F0 m 125 ls []) := by
  intro v1 v2 v3 v4 v5 v6 v7 v8 M h H locs ls hP hS hl
  unfold f_X8_bias_b125 at h
  have hx := hX.1
  have hb := hX.2.1
  have hown := hX.2.2.2.1
  have hts := hX.2.2.2.2.1
  have hA := hX.2.2.2.2.2.2
  refine lv_iinc (v := (v8 + 1)) (lv' := [(8, .int (v8 + 1)), (0, .ref (ad 152)), (1, .int v1), (2, .int v2), (3, .int v3), (4, .int v4), (5, .int v5), (6, .int v6), (7, .int v7)]) hx hb dX8_bias_125 hl (k := 8) rfl rfl (Nat.le_of_ble_eq_true rfl) rfl (fun ls hl => ?_)
  refine lv_goto (tgt := 87) hx hb dX8_bias_128 (by decide) ?_
  exact hK87 _ _ _ _ _ _ _ _ _ h _ _ _ hP hS (lv_sub hl [1, 2, 3, 4, 5, 6, 7, 8, 0] rfl)
set_option maxHeartbeats 4000000 in
set_option maxRecDepth 100000 in
theorem t_X8_bias_b147 {p : Program} {l : Launch} {e : Env} {s : State} {m : MethodId} {args : Array Value} {below : List Frame} {meth : Method} {c : Code} {D : va_G} {tc : Tc} {ad : Nat → Nat} {A : Nat → Prop} {I : St} {rr : Int32} {II : St} (hX : cx p s m args c cX8_bias 9 RX8 D tc ad A) (hr : meth.sig.returnType = some .int) (hlk : meth.locks = false) {K67 : Int32 → Int32 → Int32 → Int32 → Int32 → Int32 → St → Option (Int32 × St)} (hK67 : ∀ (v1 : Int32) (v2 : Int32) (v3 : Int32) (v4 : Int32) (v5 : Int32) (v6 : Int32) (M : St), K67 v1 v2 v3 v4 v5 v6 M = some (rr, II) → ∀ (H : Heap) (locs : List Loc) (ls : Array Slot), va_P D vwCl (wl tc ad (cmb I M)) H → va_S A s.heap H locs → lv_has ls 9 [(0, .ref (ad 152)), (1, .int v1), (2, .int v2), (3, .int v3), (4, .int v4), (5, .int v5), (6, .int v6)] → W p l e rm_X8_bias s m args below meth c H locs 0 0 (MQ below (qi D tc ad A rr (cmb I II)) args s 0 0 A) (F0 m 67 ls [])) : ∀ (v1 : Int32) (v2 : Int32) (v3 : Int32) (v4 : Int32) (v6 : Int32) (t0 : Int32) (t1 : Int32) (M : St), f_X8_bias_b147 K67 v1 v2 v3 v4 v6 t0 t1 M = some (rr, II) → ∀ (H : Heap) (locs : List Loc) (ls : Array Slot), va_P D vwCl (wl tc ad (cmb I M)) H → va_S A s.heap H locs → lv_has ls 9 [(0, .ref (ad 152)), (1, .int v1), (2, .int v2), (3, .int v3), (4, .int v4), (6, .int v6)] → W p l e rm_X8_bias s m args below meth c H locs 0 0 (MQ below (qi D tc ad A rr (cmb I II)) args s 0 0 A) (F0 m 147 ls [.int t1, .int t0]) := by
  intro v1 v2 v3 v4 v6 t0 t1 M h H locs ls hP hS hl
  unfold f_X8_bias_b147 at h
  have hx := hX.1
  have hb := hX.2.1
  have hown := hX.2.2.2.1
  have hts := hX.2.2.2.2.1
  have hA := hX.2.2.2.2.2.2
  refine lv_iadd hx hb dX8_bias_147 ?_
  refine x_let h (fun x1 h => ?_)
  refine lv_istore (lv' := [(5, .int x1), (0, .ref (ad 152)), (1, .int v1), (2, .int v2), (3, .int v3), (4, .int v4), (6, .int v6)]) hx hb dX8_bias_148 hl (Nat.le_of_ble_eq_true rfl) rfl (fun ls hl => ?_)
  refine lv_iinc (v := (v6 + 1)) (lv' := [(6, .int (v6 + 1)), (5, .int x1), (0, .ref (ad 152)), (1, .int v1), (2, .int v2), (3, .int v3), (4, .int v4)]) hx hb dX8_bias_150 hl (k := 6) rfl rfl (Nat.le_of_ble_eq_true rfl) rfl (fun ls hl => ?_)
  refine lv_goto (tgt := 67) hx hb dX8_bias_153 (by decide) ?_
  exact hK67 _ _ _ _ _ _ _ h _ _ _ hP hS (lv_sub hl [2, 3, 4, 5, 6, 1, 0] rfl)
set_option maxHeartbeats 4000000 in
set_option maxRecDepth 100000 in
theorem t_X8_bias_l87 {p : Program} {l : Launch} {e : Env} {s : State} {m : MethodId} {args : Array Value} {below : List Frame} {meth : Method} {c : Code} {D : va_G} {tc : Tc} {ad : Nat → Nat} {A : Nat → Prop} {I : St} {rr : Int32} {II : St} (hX : cx p s m args c cX8_bias 9 RX8 D tc ad A) (hr : meth.sig.returnType = some .int) (hlk : meth.locks = false) {K67 : Int32 → Int32 → Int32 → Int32 → Int32 → Int32 → St → Option (Int32 × St)} (hK67 : ∀ (v1 : Int32) (v2 : Int32) (v3 : Int32) (v4 : Int32) (v5 : Int32) (v6 : Int32) (M : St), K67 v1 v2 v3 v4 v5 v6 M = some (rr, II) → ∀ (H : Heap) (locs : List Loc) (ls : Array Slot), va_P D vwCl (wl tc ad (cmb I M)) H → va_S A s.heap H locs → lv_has ls 9 [(0, .ref (ad 152)), (1, .int v1), (2, .int v2), (3, .int v3), (4, .int v4), (5, .int v5), (6, .int v6)] → W p l e rm_X8_bias s m args below meth c H locs 0 0 (MQ below (qi D tc ad A rr (cmb I II)) args s 0 0 A) (F0 m 67 ls [])) : ∀ (n : Nat), ∀ (v1 : Int32) (v2 : Int32) (v3 : Int32) (v4 : Int32) (v5 : Int32) (v6 : Int32) (v7 : Int32) (v8 : Int32) (M : St), f_X8_bias_l87 K67 n v1 v2 v3 v4 v5 v6 v7 v8 M = some (rr, II) → ∀ (H : Heap) (locs : List Loc) (ls : Array Slot), va_P D vwCl (wl tc ad (cmb I M)) H → va_S A s.heap H locs → lv_has ls 9 [(0, .ref (ad 152)), (1, .int v1), (2, .int v2), (3, .int v3), (4, .int v4), (5, .int v5), (6, .int v6), (7, .int v7), (8, .int v8)] → W p l e rm_X8_bias s m args below meth c H locs 0 0 (MQ below (qi D tc ad A rr (cmb I II)) args s 0 0 A) (F0 m 87 ls []) := by
  intro n
  induction n with
  | zero =>
    intro _ _ _ _ _ _ _ _ _ h
    cases h
  | succ n ih =>
    intro v1 v2 v3 v4 v5 v6 v7 v8 M h H locs ls hP hS hl
    rw [f_X8_bias_l87] at h
    have hx := hX.1
    have hb := hX.2.1
    have hown := hX.2.2.2.1
    have hts := hX.2.2.2.2.1
    have hA := hX.2.2.2.2.2.2
    refine lv_iload hx hb dX8_bias_87 (lv_at hl 8 rfl) ?_
    refine lv_bipush (v := 8) hx hb dX8_bias_89 kc_b8 ?_
    refine x_icmp_ge (tgt := 131) hx hb dX8_bias_91 (by decide) h (fun c2 h => ?_) (fun c2 h => ?_)
    · refine lv_iload hx hb dX8_bias_131 (lv_at hl 5 rfl) ?_
      refine lv_aload_n hx hb dX8_bias_133 rfl (lv_at hl 0 rfl) ?_
      refine lv_iload_n hx hb dX8_bias_134 rfl (lv_at hl 1 rfl) ?_
      refine lv_iconst (v := 1) hx hb dX8_bias_135 kc_i1 ?_
      obtain ⟨r5, M4, e3, h⟩ := ob2_some h
      refine j_i (j_runV (rest := [.int v5]) hX hP hl.1 Y_X8_forces cok6 (s157_152) sk_152 (c_X8_forces hA e3) ⟨rfl, rfl⟩ q1066 ⟨Nat.le_of_ble_eq_true rfl, Nat.le_of_ble_eq_true rfl⟩ rfl rfl (Nat.le_of_ble_eq_true rfl) dX8_bias_136) hS (fun H locs hP hS => ?_)
      refine x_if_eq (tgt := 146) hx hb dX8_bias_139 (by decide) h (fun c6 h => ?_) (fun c6 h => ?_)
      · refine lv_iconst (v := 0) hx hb dX8_bias_146 kc_i0 ?_
        exact t_X8_bias_b147 hX hr hlk hK67 _ _ _ _ _ _ _ _ h _ _ _ hP hS (lv_sub hl [0, 1, 2, 3, 4, 6] rfl)
      · refine lv_iconst (v := 1) hx hb dX8_bias_142 kc_i1 ?_
        refine lv_goto (tgt := 147) hx hb dX8_bias_143 (by decide) ?_
        exact t_X8_bias_b147 hX hr hlk hK67 _ _ _ _ _ _ _ _ h _ _ _ hP hS (lv_sub hl [0, 1, 2, 3, 4, 6] rfl)
    · refine lv_iload_n hx hb dX8_bias_94 rfl (lv_at hl 3 rfl) ?_
      refine lv_iload hx hb dX8_bias_95 (lv_at hl 8 rfl) ?_
      refine lv_ishr hx hb dX8_bias_97 ?_
      refine x_let h (fun x7 h => ?_)
      refine lv_iconst (v := 1) hx hb dX8_bias_98 kc_i1 ?_
      refine lv_iand hx hb dX8_bias_99 ?_
      refine x_let h (fun x8 h => ?_)
      refine lv_iconst (v := 1) hx hb dX8_bias_100 kc_i1 ?_
      refine x_icmp_ne (tgt := 125) hx hb dX8_bias_101 (by decide) h (fun c9 h => ?_) (fun c9 h => ?_)
      · exact t_X8_bias_b125 hX hr hlk hK67 ih _ _ _ _ _ _ _ _ _ h _ _ _ hP hS (lv_sub hl [0, 1, 2, 3, 4, 5, 6, 7, 8] rfl)
      · refine lv_aload_n hx hb dX8_bias_104 rfl (lv_at hl 0 rfl) ?_
        refine m_getq (t := 155) hX hP cok6 3 sge_152 s157_152 sk_152 (by decide) rfl q783 dX8_bias_105 ?_
        refine lv_iload hx hb dX8_bias_108 (lv_at hl 8 rfl) ?_
        refine lv_iload hx hb dX8_bias_110 (lv_at hl 7 rfl) ?_
        refine lv_iconst (v := 1) hx hb dX8_bias_112 kc_i1 ?_
        refine lv_iload_n hx hb dX8_bias_113 rfl (lv_at hl 2 rfl) ?_
        refine lv_ishl hx hb dX8_bias_114 ?_
        refine x_let h (fun x10 h => ?_)
        refine lv_iconst (v := 1) hx hb dX8_bias_115 kc_i1 ?_
        refine lv_isub hx hb dX8_bias_116 ?_
        refine lv_iand hx hb dX8_bias_117 ?_
        refine m_ast hX hP hS h (sge_155) s157_155 sk_155 sn_155 dX8_bias_118 (fun M11 H locs h hP hS => ?_)
        refine lv_iload hx hb dX8_bias_119 (lv_at hl 7 rfl) ?_
        refine lv_iload_n hx hb dX8_bias_121 rfl (lv_at hl 2 rfl) ?_
        refine lv_ishr hx hb dX8_bias_122 ?_
        refine x_let h (fun x12 h => ?_)
        refine lv_istore (lv' := [(7, .int x12), (0, .ref (ad 152)), (1, .int v1), (2, .int v2), (3, .int v3), (4, .int v4), (5, .int v5), (6, .int v6), (8, .int v8)]) hx hb dX8_bias_123 hl (Nat.le_of_ble_eq_true rfl) rfl (fun ls hl => ?_)
        exact t_X8_bias_b125 hX hr hlk hK67 ih _ _ _ _ _ _ _ _ _ h _ _ _ hP hS (lv_sub hl [1, 2, 3, 4, 5, 6, 7, 0, 8] rfl)
set_option maxHeartbeats 4000000 in
set_option maxRecDepth 100000 in
theorem t_X8_bias_l67 {p : Program} {l : Launch} {e : Env} {s : State} {m : MethodId} {args : Array Value} {below : List Frame} {meth : Method} {c : Code} {D : va_G} {tc : Tc} {ad : Nat → Nat} {A : Nat → Prop} {I : St} {rr : Int32} {II : St} (hX : cx p s m args c cX8_bias 9 RX8 D tc ad A) (hr : meth.sig.returnType = some .int) (hlk : meth.locks = false) : ∀ (n : Nat), ∀ (v1 : Int32) (v2 : Int32) (v3 : Int32) (v4 : Int32) (v5 : Int32) (v6 : Int32) (M : St), f_X8_bias_l67 n v1 v2 v3 v4 v5 v6 M = some (rr, II) → ∀ (H : Heap) (locs : List Loc) (ls : Array Slot), va_P D vwCl (wl tc ad (cmb I M)) H → va_S A s.heap H locs → lv_has ls 9 [(0, .ref (ad 152)), (1, .int v1), (2, .int v2), (3, .int v3), (4, .int v4), (5, .int v5), (6, .int v6)] → W p l e rm_X8_bias s m args below meth c H locs 0 0 (MQ below (qi D tc ad A rr (cmb I II)) args s 0 0 A) (F0 m 67 ls []) := by
  intro n
  induction n with
  | zero =>
    intro _ _ _ _ _ _ _ h
    cases h
  | succ n ih =>
    intro v1 v2 v3 v4 v5 v6 M h H locs ls hP hS hl
    rw [f_X8_bias_l67] at h
    have hx := hX.1
    have hb := hX.2.1
    have hown := hX.2.2.2.1
    have hts := hX.2.2.2.2.1
    have hA := hX.2.2.2.2.2.2
    refine lv_iload hx hb dX8_bias_67 (lv_at hl 6 rfl) ?_
    refine lv_iconst (v := 1) hx hb dX8_bias_69 kc_i1 ?_
    refine lv_iload hx hb dX8_bias_70 (lv_at hl 4 rfl) ?_
    refine lv_ishl hx hb dX8_bias_72 ?_
    refine x_icmp_ge (tgt := 156) hx hb dX8_bias_73 (by decide) h (fun c13 h => ?_) (fun c13 h => ?_)
    · refine lv_iload hx hb dX8_bias_156 (lv_at hl 5 rfl) ?_
      cases h
      exact j_iret hX hr hlk hP hS dX8_bias_158
    · refine lv_aload_n hx hb dX8_bias_76 rfl (lv_at hl 0 rfl) ?_
      obtain ⟨M15, e14, h⟩ := ob1_some h
      refine j_v (j_runV (rest := []) hX hP hl.1 Y_X8_takesSecrets cok6 (s157_152) sk_152 (c_X8_takesSecrets hA e14) ⟨rfl, rfl⟩ q975 ⟨Nat.le_of_ble_eq_true rfl, Nat.le_of_ble_eq_true rfl⟩ rfl rfl (Nat.le_of_ble_eq_true rfl) dX8_bias_77) hS (fun H locs hP hS => ?_)
      refine lv_iload hx hb dX8_bias_80 (lv_at hl 6 rfl) ?_
      refine lv_istore (lv' := [(7, .int v6), (0, .ref (ad 152)), (1, .int v1), (2, .int v2), (3, .int v3), (4, .int v4), (5, .int v5), (6, .int v6)]) hx hb dX8_bias_82 hl (Nat.le_of_ble_eq_true rfl) rfl (fun ls hl => ?_)
      refine lv_iconst (v := 0) hx hb dX8_bias_84 kc_i0 ?_
      refine lv_istore (lv' := [(8, .int 0), (7, .int v6), (0, .ref (ad 152)), (1, .int v1), (2, .int v2), (3, .int v3), (4, .int v4), (5, .int v5), (6, .int v6)]) hx hb dX8_bias_85 hl (Nat.le_of_ble_eq_true rfl) rfl (fun ls hl => ?_)
      exact t_X8_bias_l87 hX hr hlk ih 10000 _ _ _ _ _ _ _ _ _ h _ _ _ hP hS (lv_sub hl [2, 3, 4, 5, 6, 7, 8, 1, 0] rfl)
set_option maxHeartbeats 4000000 in
set_option maxRecDepth 100000 in
theorem c_X8_bias {l : Launch} {D : va_G} {tc : Tc} {ad : Nat → Nat} {A : Nat → Prop} (hA : adok ad A) {I M : St} {v1 : Int32} {v2 : Int32} {rr : Int32} {II : St} (h : f_X8_bias v1 v2 M = some (rr, II)) : Met l yX8_bias (Cond.code yX8_bias cX8_bias 9 (some .int) :: tw) rm_X8_bias (pre D tc ad [.ref (ad 152), .int v1, .int v2] (cmb I M)) (qi D tc ad A rr (cmb I II)) 0 0 A := by
  unfold f_X8_bias at h
  refine mk_met (own := RX8) (by decide +kernel) rfl hA (Nat.le_of_ble_eq_true rfl) ?_
  intro p e s m below meth c ls hX hr hlk hl hP hS
  have hl : lv_has ls 9 [(0, .ref (ad 152)), (1, .int v1), (2, .int v2)] := hl
  have hx := hX.1
  have hb := hX.2.1
  have hown := hX.2.2.2.1
  have hts := hX.2.2.2.2.1
  refine lv_iload_n hx hb dX8_bias_0 rfl (lv_at hl 1 rfl) ?_
  refine lv_iconst (v := 0) hx hb dX8_bias_1 kc_i0 ?_
  refine lv_sipush (v := 255) hx hb dX8_bias_2 kc_s255 ?_
  obtain ⟨r17, e16, h⟩ := ob1_some h
  refine j_i (j_runS (rest := []) hX hP hl.1 Y_X8_in (c_X8_in hA e16) ⟨rfl, rfl⟩ q807 ⟨Nat.le_of_ble_eq_true rfl, Nat.le_of_ble_eq_true rfl⟩ rfl rfl (Nat.le_of_ble_eq_true rfl) dX8_bias_5) hS (fun H locs hP hS => ?_)
  refine x_if_eq (tgt := 20) hx hb dX8_bias_8 (by decide) h (fun c18 h => ?_) (fun c18 h => ?_)
  · exact t_X8_bias_b20 hX hr hlk  _ h _ _ _ hP hS (lv_sub hl [] rfl)
  · refine lv_iload_n hx hb dX8_bias_11 rfl (lv_at hl 2 rfl) ?_
    refine lv_iconst (v := 1) hx hb dX8_bias_12 kc_i1 ?_
    refine lv_iconst (v := 4) hx hb dX8_bias_13 kc_i4 ?_
    obtain ⟨r20, e19, h⟩ := ob1_some h
    refine j_i (j_runS (rest := []) hX hP hl.1 Y_X8_in (c_X8_in hA e19) ⟨rfl, rfl⟩ q807 ⟨Nat.le_of_ble_eq_true rfl, Nat.le_of_ble_eq_true rfl⟩ rfl rfl (Nat.le_of_ble_eq_true rfl) dX8_bias_14) hS (fun H locs hP hS => ?_)
    refine x_if_ne (tgt := 22) hx hb dX8_bias_17 (by decide) h (fun c21 h => ?_) (fun c21 h => ?_)
    · refine lv_aload_n hx hb dX8_bias_22 rfl (lv_at hl 0 rfl) ?_
      refine lv_iload_n hx hb dX8_bias_23 rfl (lv_at hl 1 rfl) ?_
      obtain ⟨r23, e22, h⟩ := ob1_some h
      refine j_i (j_runV (rest := []) hX hP hl.1 Y_X8_mayJoin cok6 (s157_152) sk_152 (c_X8_mayJoin hA e22) ⟨rfl, rfl⟩ q1058 ⟨Nat.le_of_ble_eq_true rfl, Nat.le_of_ble_eq_true rfl⟩ rfl rfl (Nat.le_of_ble_eq_true rfl) dX8_bias_24) hS (fun H locs hP hS => ?_)
      refine x_if_ne (tgt := 33) hx hb dX8_bias_27 (by decide) h (fun c24 h => ?_) (fun c24 h => ?_)
      · refine lv_aload_n hx hb dX8_bias_33 rfl (lv_at hl 0 rfl) ?_
        refine lv_iconst (v := 5) hx hb dX8_bias_34 kc_i5 ?_
        obtain ⟨r26, e25, h⟩ := ob1_some h
        refine j_i (j_runV (rest := []) hX hP hl.1 Y_X8_setOf cok6 (s157_152) sk_152 (c_X8_setOf hA e25) ⟨rfl, rfl⟩ q952 ⟨Nat.le_of_ble_eq_true rfl, Nat.le_of_ble_eq_true rfl⟩ rfl rfl (Nat.le_of_ble_eq_true rfl) dX8_bias_35) hS (fun H locs hP hS => ?_)
        refine lv_iload_n hx hb dX8_bias_38 rfl (lv_at hl 1 rfl) ?_
        refine lv_iconst (v := (-1)) hx hb dX8_bias_39 kc_im1 ?_
        refine lv_ixor hx hb dX8_bias_40 ?_
        refine lv_iand hx hb dX8_bias_41 ?_
        refine x_let h (fun x27 h => ?_)
        refine lv_istore_n (lv' := [(3, .int x27), (0, .ref (ad 152)), (1, .int v1), (2, .int v2)]) hx hb dX8_bias_42 rfl hl (Nat.le_of_ble_eq_true rfl) rfl (fun ls hl => ?_)
        refine lv_iload_n hx hb dX8_bias_43 rfl (lv_at hl 3 rfl) ?_
        refine lv_iload_n hx hb dX8_bias_44 rfl (lv_at hl 0 rfl) ?_
        obtain ⟨r29, e28, h⟩ := ob1_some h
        refine j_i (j_runS (rest := [.int v2]) hX hP hl.1 Y_X8_countOf (c_X8_countOf hA e28) ⟨rfl, rfl⟩ q956 ⟨Nat.le_of_ble_eq_true rfl, Nat.le_of_ble_eq_true rfl⟩ rfl rfl (Nat.le_of_ble_eq_true rfl) dX8_bias_45) hS (fun H locs hP hS => ?_)
        refine lv_imul hx hb dX8_bias_48 ?_
        refine x_let h (fun x30 h => ?_)
        refine lv_istore (lv' := [(4, .int x30), (3, .int x27), (0, .ref (ad 152)), (1, .int v1), (2, .int v2)]) hx hb dX8_bias_49 hl (Nat.le_of_ble_eq_true rfl) rfl (fun ls hl => ?_)
        refine lv_iload hx hb dX8_bias_51 (lv_at hl 0 rfl) ?_
        refine lv_bipush (v := 12) hx hb dX8_bias_53 kc_b12 ?_
        refine x_icmp_le (tgt := 61) hx hb dX8_bias_55 (by decide) h (fun c31 h => ?_) (fun c31 h => ?_)
        · refine lv_iconst (v := 0) hx hb dX8_bias_61 kc_i0 ?_
          refine lv_istore (lv' := [(5, .int 0), (4, .int x30), (3, .int x27), (0, .ref (ad 152)), (1, .int v1), (2, .int v2)]) hx hb dX8_bias_62 hl (Nat.le_of_ble_eq_true rfl) rfl (fun ls hl => ?_)
          refine lv_iconst (v := 0) hx hb dX8_bias_64 kc_i0 ?_
          refine lv_istore (lv' := [(6, .int 0), (5, .int 0), (4, .int x30), (3, .int x27), (0, .ref (ad 152)), (1, .int v1), (2, .int v2)]) hx hb dX8_bias_65 hl (Nat.le_of_ble_eq_true rfl) rfl (fun ls hl => ?_)
          exact t_X8_bias_l67 hX hr hlk  10000 _ _ _ _ _ _ _ h _ _ _ hP hS (lv_sub hl [4, 5, 6, 3, 2, 1, 0] rfl)
        · refine lv_bipush (v := (-3)) hx hb dX8_bias_58 kc_bm3 ?_
          cases h
          exact j_iret hX hr hlk hP hS dX8_bias_60
      · refine lv_bipush (v := (-2)) hx hb dX8_bias_30 kc_bm2 ?_
        cases h
        exact j_iret hX hr hlk hP hS dX8_bias_32
    · exact t_X8_bias_b20 hX hr hlk  _ h _ _ _ hP hS (lv_sub hl [] rfl)
/-! OwnerlessCoinModel.power(JJJ)J -/
def rm_X8_power : Room := { frames := 0, cells := 0, slots := 0, locals := 0 }
theorem Y_X8_power : ys yX8_power cX8_power 12 (some .long) 3 := ⟨q1091, q1090, q57, by decide +kernel⟩
set_option maxHeartbeats 4000000 in
set_option maxRecDepth 100000 in
theorem t_X8_power_b46 {p : Program} {l : Launch} {e : Env} {s : State} {m : MethodId} {args : Array Value} {below : List Frame} {meth : Method} {c : Code} {D : va_G} {tc : Tc} {ad : Nat → Nat} {A : Nat → Prop} {J : St} {rr : Int64} (hX : cx p s m args c cX8_power 12 RX8 D tc ad A) (hr : meth.sig.returnType = some .long) (hlk : meth.locks = false) {K15 : Int64 → Int64 → Int64 → Int64 → Option (Int64)} (hK15 : ∀ (v4 : Int64) (v6 : Int64) (v8 : Int64) (v10 : Int64), K15 v4 v6 v8 v10 = some rr → ∀ (H : Heap) (locs : List Loc) (ls : Array Slot), va_P D vwCl (wl tc ad J) H → va_S A s.heap H locs → lv_has ls 12 [(4, .long v4), (6, .long v6), (8, .long v8), (10, .long v10)] → W p l e rm_X8_power s m args below meth c H locs 0 0 (MQ below (ql D tc ad A rr J) args s 0 0 A) (F0 m 15 ls [])) : ∀ (v4 : Int64) (v8 : Int64) (v10 : Int64) (t0 : Int64), f_X8_power_b46 K15 v4 v8 v10 t0 = some rr → ∀ (H : Heap) (locs : List Loc) (ls : Array Slot), va_P D vwCl (wl tc ad J) H → va_S A s.heap H locs → lv_has ls 12 [(4, .long v4), (8, .long v8), (10, .long v10)] → W p l e rm_X8_power s m args below meth c H locs 0 0 (MQ below (ql D tc ad A rr J) args s 0 0 A) (F0 m 46 ls [.long t0]) := by
  intro v4 v8 v10 t0 h H locs ls hP hS hl
  unfold f_X8_power_b46 at h
  have hx := hX.1
  have hb := hX.2.1
  have hown := hX.2.2.2.1
  have hts := hX.2.2.2.2.1
  have hA := hX.2.2.2.2.2.2
  refine lv_lstore (lv' := [(6, .long t0), (4, .long v4), (8, .long v8), (10, .long v10)]) hx hb dX8_power_46 hl (Nat.le_of_ble_eq_true rfl) rfl (fun ls hl => ?_)
  refine lv_lload hx hb dX8_power_48 (lv_at hl 2 rfl) ?_
  refine lv_lload hx hb dX8_power_50 (lv_at hl 2 rfl) ?_
  refine lv_lmul hx hb dX8_power_52 ?_
  refine x_letL h (fun y1 h => ?_)
  refine lv_lload hx hb dX8_power_53 (lv_at hl 1 rfl) ?_
  obtain ⟨g2, h⟩ := ck_some h
  refine lv_lrem hx hb dX8_power_55 (nzL_ne g2) ?_
  refine x_letL h (fun y3 h => ?_)
  refine lv_lstore (lv' := [(8, .long y3), (6, .long t0), (4, .long v4), (10, .long v10)]) hx hb dX8_power_56 hl (Nat.le_of_ble_eq_true rfl) rfl (fun ls hl => ?_)
  refine lv_lload hx hb dX8_power_58 (lv_at hl 3 rfl) ?_
  refine lv_ldc2 (v := 2) hx hb hown (hts _ q1088) dX8_power_60 ?_
  refine lv_ldiv hx hb dX8_power_63 (by decide) ?_
  refine x_letL h (fun y4 h => ?_)
  refine lv_lstore (lv' := [(10, .long y4), (8, .long y3), (6, .long t0), (4, .long v4)]) hx hb dX8_power_64 hl (Nat.le_of_ble_eq_true rfl) rfl (fun ls hl => ?_)
  refine lv_goto (tgt := 15) hx hb dX8_power_66 (by decide) ?_
  exact hK15 _ _ _ _ h _ _ _ hP hS (lv_sub hl [3, 2, 1, 0] rfl)
set_option maxHeartbeats 4000000 in
set_option maxRecDepth 100000 in
theorem t_X8_power_l15 {p : Program} {l : Launch} {e : Env} {s : State} {m : MethodId} {args : Array Value} {below : List Frame} {meth : Method} {c : Code} {D : va_G} {tc : Tc} {ad : Nat → Nat} {A : Nat → Prop} {J : St} {rr : Int64} (hX : cx p s m args c cX8_power 12 RX8 D tc ad A) (hr : meth.sig.returnType = some .long) (hlk : meth.locks = false) : ∀ (n : Nat), ∀ (v4 : Int64) (v6 : Int64) (v8 : Int64) (v10 : Int64), f_X8_power_l15 n v4 v6 v8 v10 = some rr → ∀ (H : Heap) (locs : List Loc) (ls : Array Slot), va_P D vwCl (wl tc ad J) H → va_S A s.heap H locs → lv_has ls 12 [(4, .long v4), (6, .long v6), (8, .long v8), (10, .long v10)] → W p l e rm_X8_power s m args below meth c H locs 0 0 (MQ below (ql D tc ad A rr J) args s 0 0 A) (F0 m 15 ls []) := by
  intro n
  induction n with
  | zero =>
    intro _ _ _ _ h
    cases h
  | succ n ih =>
    intro v4 v6 v8 v10 h H locs ls hP hS hl
    rw [f_X8_power_l15] at h
    have hx := hX.1
    have hb := hX.2.1
    have hown := hX.2.2.2.1
    have hts := hX.2.2.2.2.1
    have hA := hX.2.2.2.2.2.2
    refine lv_lload hx hb dX8_power_15 (lv_at hl 3 rfl) ?_
    refine lv_lconst (v := 0) hx hb dX8_power_17 (by decide) ?_
    refine W.lcmp hx hb dX8_power_18 ?_
    refine x_if_le (tgt := 69) hx hb dX8_power_19 (by decide) h (fun c5 h => ?_) (fun c5 h => ?_)
    · refine lv_lload hx hb dX8_power_69 (lv_at hl 1 rfl) ?_
      cases h
      exact j_lret hX hr hlk hP hS dX8_power_71
    · refine lv_lload hx hb dX8_power_22 (lv_at hl 3 rfl) ?_
      refine lv_ldc2 (v := 2) hx hb hown (hts _ q1088) dX8_power_24 ?_
      refine lv_lrem hx hb dX8_power_27 (by decide) ?_
      refine x_letL h (fun y6 h => ?_)
      refine lv_lconst (v := 1) hx hb dX8_power_28 (by decide) ?_
      refine W.lcmp hx hb dX8_power_29 ?_
      refine x_if_ne (tgt := 44) hx hb dX8_power_30 (by decide) h (fun c7 h => ?_) (fun c7 h => ?_)
      · refine lv_lload hx hb dX8_power_44 (lv_at hl 1 rfl) ?_
        exact t_X8_power_b46 hX hr hlk ih _ _ _ _ h _ _ _ hP hS (lv_sub hl [0, 2, 3] rfl)
      · refine lv_lload hx hb dX8_power_33 (lv_at hl 1 rfl) ?_
        refine lv_lload hx hb dX8_power_35 (lv_at hl 2 rfl) ?_
        refine lv_lmul hx hb dX8_power_37 ?_
        refine x_letL h (fun y8 h => ?_)
        refine lv_lload hx hb dX8_power_38 (lv_at hl 0 rfl) ?_
        obtain ⟨g9, h⟩ := ck_some h
        refine lv_lrem hx hb dX8_power_40 (nzL_ne g9) ?_
        refine lv_goto (tgt := 46) hx hb dX8_power_41 (by decide) ?_
        exact t_X8_power_b46 hX hr hlk ih _ _ _ _ h _ _ _ hP hS (lv_sub hl [0, 2, 3] rfl)
set_option maxHeartbeats 4000000 in
set_option maxRecDepth 100000 in
theorem c_X8_power {l : Launch} {D : va_G} {tc : Tc} {ad : Nat → Nat} {A : Nat → Prop} (hA : adok ad A) {J : St} {v0 : Int64} {v2 : Int64} {v4 : Int64} {rr : Int64} (h : f_X8_power v0 v2 v4 = some rr) : Met l yX8_power (Cond.code yX8_power cX8_power 12 (some .long) :: tw) rm_X8_power (pre D tc ad [.long v0, .long v2, .long v4] J) (ql D tc ad A rr J) 0 0 A := by
  unfold f_X8_power at h
  refine mk_met (own := RX8) (by decide +kernel) rfl hA (Nat.le_of_ble_eq_true rfl) ?_
  intro p e s m below meth c ls hX hr hlk hl hP hS
  have hl : lv_has ls 12 [(0, .long v0), (2, .long v2), (4, .long v4)] := hl
  have hx := hX.1
  have hb := hX.2.1
  have hown := hX.2.2.2.1
  have hts := hX.2.2.2.2.1
  refine lv_lconst (v := 1) hx hb dX8_power_0 (by decide) ?_
  refine lv_lload hx hb dX8_power_1 (lv_at hl 2 rfl) ?_
  obtain ⟨g10, h⟩ := ck_some h
  refine lv_lrem hx hb dX8_power_3 (nzL_ne g10) ?_
  refine x_letL h (fun y11 h => ?_)
  refine lv_lstore (lv' := [(6, .long y11), (0, .long v0), (2, .long v2), (4, .long v4)]) hx hb dX8_power_4 hl (Nat.le_of_ble_eq_true rfl) rfl (fun ls hl => ?_)
  refine lv_lload_n hx hb dX8_power_6 rfl (lv_at hl 1 rfl) ?_
  refine lv_lload hx hb dX8_power_7 (lv_at hl 3 rfl) ?_
  obtain ⟨g12, h⟩ := ck_some h
  refine lv_lrem hx hb dX8_power_9 (nzL_ne g12) ?_
  refine x_letL h (fun y13 h => ?_)
  refine lv_lstore (lv' := [(8, .long y13), (6, .long y11), (0, .long v0), (2, .long v2), (4, .long v4)]) hx hb dX8_power_10 hl (Nat.le_of_ble_eq_true rfl) rfl (fun ls hl => ?_)
  refine lv_lload_n hx hb dX8_power_12 rfl (lv_at hl 3 rfl) ?_
  refine lv_lstore (lv' := [(10, .long v2), (8, .long y13), (6, .long y11), (0, .long v0), (2, .long v2), (4, .long v4)]) hx hb dX8_power_13 hl (Nat.le_of_ble_eq_true rfl) rfl (fun ls hl => ?_)
  exact t_X8_power_l15 hX hr hlk  10000 _ _ _ _ h _ _ _ hP hS (lv_sub hl [5, 2, 1, 0] rfl)
/-! OwnerlessCoinModel.isPrime(I)Z -/
def rm_X8_isPrime : Room := { frames := 0, cells := 0, slots := 0, locals := 0 }
theorem Y_X8_isPrime : ys yX8_isPrime cX8_isPrime 3 (some .boolean) 1 := ⟨q1101, q1100, q57, by decide +kernel⟩
set_option maxHeartbeats 4000000 in
set_option maxRecDepth 100000 in
theorem t_X8_isPrime_b35 {p : Program} {l : Launch} {e : Env} {s : State} {m : MethodId} {args : Array Value} {below : List Frame} {meth : Method} {c : Code} {D : va_G} {tc : Tc} {ad : Nat → Nat} {A : Nat → Prop} {J : St} {rr : Int32} (hX : cx p s m args c cX8_isPrime 3 RX8 D tc ad A) (hr : meth.sig.returnType = some .boolean) (hlk : meth.locks = false) {K13 : Int32 → Int32 → Int32 → Option (Int32)} (hK13 : ∀ (v0 : Int32) (v1 : Int32) (v2 : Int32), K13 v0 v1 v2 = some rr → ∀ (H : Heap) (locs : List Loc) (ls : Array Slot), va_P D vwCl (wl tc ad J) H → va_S A s.heap H locs → lv_has ls 3 [(0, .int v0), (1, .int v1), (2, .int v2)] → W p l e rm_X8_isPrime s m args below meth c H locs 0 0 (MQ below (qi D tc ad A rr J) args s 0 0 A) (F0 m 13 ls [])) : ∀ (v0 : Int32) (v2 : Int32) (t0 : Int32), f_X8_isPrime_b35 K13 v0 v2 t0 = some rr → ∀ (H : Heap) (locs : List Loc) (ls : Array Slot), va_P D vwCl (wl tc ad J) H → va_S A s.heap H locs → lv_has ls 3 [(0, .int v0), (2, .int v2)] → W p l e rm_X8_isPrime s m args below meth c H locs 0 0 (MQ below (qi D tc ad A rr J) args s 0 0 A) (F0 m 35 ls [.int t0]) := by
  intro v0 v2 t0 h H locs ls hP hS hl
  unfold f_X8_isPrime_b35 at h
  have hx := hX.1
  have hb := hX.2.1
  have hown := hX.2.2.2.1
  have hts := hX.2.2.2.2.1
  have hA := hX.2.2.2.2.2.2
  refine lv_istore_n (lv' := [(1, .int t0), (0, .int v0), (2, .int v2)]) hx hb dX8_isPrime_35 rfl hl (Nat.le_of_ble_eq_true rfl) rfl (fun ls hl => ?_)
  refine lv_iinc (v := (v2 + 1)) (lv' := [(2, .int (v2 + 1)), (1, .int t0), (0, .int v0)]) hx hb dX8_isPrime_36 hl (k := 2) rfl rfl (Nat.le_of_ble_eq_true rfl) rfl (fun ls hl => ?_)
  refine lv_goto (tgt := 13) hx hb dX8_isPrime_39 (by decide) ?_
  exact hK13 _ _ _ h _ _ _ hP hS (lv_sub hl [2, 1, 0] rfl)
set_option maxHeartbeats 4000000 in
set_option maxRecDepth 100000 in
theorem t_X8_isPrime_b42 {p : Program} {l : Launch} {e : Env} {s : State} {m : MethodId} {args : Array Value} {below : List Frame} {meth : Method} {c : Code} {D : va_G} {tc : Tc} {ad : Nat → Nat} {A : Nat → Prop} {J : St} {rr : Int32} (hX : cx p s m args c cX8_isPrime 3 RX8 D tc ad A) (hr : meth.sig.returnType = some .boolean) (hlk : meth.locks = false) : ∀ (v1 : Int32), f_X8_isPrime_b42 v1 = some rr → ∀ (H : Heap) (locs : List Loc) (ls : Array Slot), va_P D vwCl (wl tc ad J) H → va_S A s.heap H locs → lv_has ls 3 [(1, .int v1)] → W p l e rm_X8_isPrime s m args below meth c H locs 0 0 (MQ below (qi D tc ad A rr J) args s 0 0 A) (F0 m 42 ls []) := by
  intro v1 h H locs ls hP hS hl
  unfold f_X8_isPrime_b42 at h
  have hx := hX.1
  have hb := hX.2.1
  have hown := hX.2.2.2.1
  have hts := hX.2.2.2.2.1
  have hA := hX.2.2.2.2.2.2
  refine lv_iload_n hx hb dX8_isPrime_42 rfl (lv_at hl 0 rfl) ?_
  obtain ⟨gz, h⟩ := ck_some h
  cases h
  exact j_zret hX hr hlk hP hS (isB_or gz) dX8_isPrime_43
set_option maxHeartbeats 4000000 in
set_option maxRecDepth 100000 in
theorem t_X8_isPrime_l13 {p : Program} {l : Launch} {e : Env} {s : State} {m : MethodId} {args : Array Value} {below : List Frame} {meth : Method} {c : Code} {D : va_G} {tc : Tc} {ad : Nat → Nat} {A : Nat → Prop} {J : St} {rr : Int32} (hX : cx p s m args c cX8_isPrime 3 RX8 D tc ad A) (hr : meth.sig.returnType = some .boolean) (hlk : meth.locks = false) : ∀ (n : Nat), ∀ (v0 : Int32) (v1 : Int32) (v2 : Int32), f_X8_isPrime_l13 n v0 v1 v2 = some rr → ∀ (H : Heap) (locs : List Loc) (ls : Array Slot), va_P D vwCl (wl tc ad J) H → va_S A s.heap H locs → lv_has ls 3 [(0, .int v0), (1, .int v1), (2, .int v2)] → W p l e rm_X8_isPrime s m args below meth c H locs 0 0 (MQ below (qi D tc ad A rr J) args s 0 0 A) (F0 m 13 ls []) := by
  intro n
  induction n with
  | zero =>
    intro _ _ _ h
    cases h
  | succ n ih =>
    intro v0 v1 v2 h H locs ls hP hS hl
    rw [f_X8_isPrime_l13] at h
    have hx := hX.1
    have hb := hX.2.1
    have hown := hX.2.2.2.1
    have hts := hX.2.2.2.2.1
    have hA := hX.2.2.2.2.2.2
    refine lv_iload_n hx hb dX8_isPrime_13 rfl (lv_at hl 2 rfl) ?_
    refine lv_iload_n hx hb dX8_isPrime_14 rfl (lv_at hl 2 rfl) ?_
    refine lv_imul hx hb dX8_isPrime_15 ?_
    refine x_let h (fun x1 h => ?_)
    refine lv_iload_n hx hb dX8_isPrime_16 rfl (lv_at hl 0 rfl) ?_
    refine x_icmp_gt (tgt := 42) hx hb dX8_isPrime_17 (by decide) h (fun c2 h => ?_) (fun c2 h => ?_)
    · exact t_X8_isPrime_b42 hX hr hlk  _ h _ _ _ hP hS (lv_sub hl [1] rfl)
    · refine lv_iload_n hx hb dX8_isPrime_20 rfl (lv_at hl 1 rfl) ?_
      refine x_if_eq (tgt := 42) hx hb dX8_isPrime_21 (by decide) h (fun c3 h => ?_) (fun c3 h => ?_)
      · exact t_X8_isPrime_b42 hX hr hlk  _ h _ _ _ hP hS (lv_sub hl [1] rfl)
      · refine lv_iload_n hx hb dX8_isPrime_24 rfl (lv_at hl 0 rfl) ?_
        refine lv_iload_n hx hb dX8_isPrime_25 rfl (lv_at hl 2 rfl) ?_
        obtain ⟨g4, h⟩ := ck_some h
        refine lv_irem hx hb dX8_isPrime_26 (nz_ne g4) ?_
        refine x_if_eq (tgt := 34) hx hb dX8_isPrime_27 (by decide) h (fun c5 h => ?_) (fun c5 h => ?_)
        · refine lv_iconst (v := 0) hx hb dX8_isPrime_34 kc_i0 ?_
          exact t_X8_isPrime_b35 hX hr hlk ih _ _ _ h _ _ _ hP hS (lv_sub hl [0, 2] rfl)
        · refine lv_iconst (v := 1) hx hb dX8_isPrime_30 kc_i1 ?_
          refine lv_goto (tgt := 35) hx hb dX8_isPrime_31 (by decide) ?_
          exact t_X8_isPrime_b35 hX hr hlk ih _ _ _ h _ _ _ hP hS (lv_sub hl [0, 2] rfl)
set_option maxHeartbeats 4000000 in
set_option maxRecDepth 100000 in
theorem t_X8_isPrime_b10 {p : Program} {l : Launch} {e : Env} {s : State} {m : MethodId} {args : Array Value} {below : List Frame} {meth : Method} {c : Code} {D : va_G} {tc : Tc} {ad : Nat → Nat} {A : Nat → Prop} {J : St} {rr : Int32} (hX : cx p s m args c cX8_isPrime 3 RX8 D tc ad A) (hr : meth.sig.returnType = some .boolean) (hlk : meth.locks = false) : ∀ (v0 : Int32) (t0 : Int32), f_X8_isPrime_b10 v0 t0 = some rr → ∀ (H : Heap) (locs : List Loc) (ls : Array Slot), va_P D vwCl (wl tc ad J) H → va_S A s.heap H locs → lv_has ls 3 [(0, .int v0)] → W p l e rm_X8_isPrime s m args below meth c H locs 0 0 (MQ below (qi D tc ad A rr J) args s 0 0 A) (F0 m 10 ls [.int t0]) := by
  intro v0 t0 h H locs ls hP hS hl
  unfold f_X8_isPrime_b10 at h
  have hx := hX.1
  have hb := hX.2.1
  have hown := hX.2.2.2.1
  have hts := hX.2.2.2.2.1
  have hA := hX.2.2.2.2.2.2
  refine lv_istore_n (lv' := [(1, .int t0), (0, .int v0)]) hx hb dX8_isPrime_10 rfl hl (Nat.le_of_ble_eq_true rfl) rfl (fun ls hl => ?_)
  refine lv_iconst (v := 2) hx hb dX8_isPrime_11 kc_i2 ?_
  refine lv_istore_n (lv' := [(2, .int 2), (1, .int t0), (0, .int v0)]) hx hb dX8_isPrime_12 rfl hl (Nat.le_of_ble_eq_true rfl) rfl (fun ls hl => ?_)
  exact t_X8_isPrime_l13 hX hr hlk  10000 _ _ _ h _ _ _ hP hS (lv_sub hl [2, 1, 0] rfl)
set_option maxHeartbeats 4000000 in
set_option maxRecDepth 100000 in
theorem c_X8_isPrime {l : Launch} {D : va_G} {tc : Tc} {ad : Nat → Nat} {A : Nat → Prop} (hA : adok ad A) {J : St} {v0 : Int32} {rr : Int32} (h : f_X8_isPrime v0 = some rr) : Met l yX8_isPrime (Cond.code yX8_isPrime cX8_isPrime 3 (some .boolean) :: tw) rm_X8_isPrime (pre D tc ad [.int v0] J) (qi D tc ad A rr J) 0 0 A := by
  unfold f_X8_isPrime at h
  refine mk_met (own := RX8) (by decide +kernel) rfl hA (Nat.le_of_ble_eq_true rfl) ?_
  intro p e s m below meth c ls hX hr hlk hl hP hS
  have hl : lv_has ls 3 [(0, .int v0)] := hl
  have hx := hX.1
  have hb := hX.2.1
  have hown := hX.2.2.2.1
  have hts := hX.2.2.2.2.1
  refine lv_iload_n hx hb dX8_isPrime_0 rfl (lv_at hl 0 rfl) ?_
  refine lv_iconst (v := 1) hx hb dX8_isPrime_1 kc_i1 ?_
  refine x_icmp_le (tgt := 9) hx hb dX8_isPrime_2 (by decide) h (fun c6 h => ?_) (fun c6 h => ?_)
  · refine lv_iconst (v := 0) hx hb dX8_isPrime_9 kc_i0 ?_
    exact t_X8_isPrime_b10 hX hr hlk  _ _ h _ _ _ hP hS (lv_sub hl [0] rfl)
  · refine lv_iconst (v := 1) hx hb dX8_isPrime_5 kc_i1 ?_
    refine lv_goto (tgt := 10) hx hb dX8_isPrime_6 (by decide) ?_
    exact t_X8_isPrime_b10 hX hr hlk  _ _ h _ _ _ hP hS (lv_sub hl [0] rfl)
/-! OwnerlessCoinModel.primeFor(II)I -/
def rm_X8_primeFor : Room := { frames := 1, cells := 0, slots := 0, locals := 22 }
theorem Y_X8_primeFor : ys yX8_primeFor cX8_primeFor 3 (some .int) 2 := ⟨q1098, q1097, q57, by decide +kernel⟩
set_option maxHeartbeats 4000000 in
set_option maxRecDepth 100000 in
theorem t_X8_primeFor_l18 {p : Program} {l : Launch} {e : Env} {s : State} {m : MethodId} {args : Array Value} {below : List Frame} {meth : Method} {c : Code} {D : va_G} {tc : Tc} {ad : Nat → Nat} {A : Nat → Prop} {J : St} {rr : Int32} (hX : cx p s m args c cX8_primeFor 3 RX8 D tc ad A) (hr : meth.sig.returnType = some .int) (hlk : meth.locks = false) : ∀ (n : Nat), ∀ (v2 : Int32), f_X8_primeFor_l18 n v2 = some rr → ∀ (H : Heap) (locs : List Loc) (ls : Array Slot), va_P D vwCl (wl tc ad J) H → va_S A s.heap H locs → lv_has ls 3 [(2, .int v2)] → W p l e rm_X8_primeFor s m args below meth c H locs 0 0 (MQ below (qi D tc ad A rr J) args s 0 0 A) (F0 m 18 ls []) := by
  intro n
  induction n with
  | zero =>
    intro _ h
    cases h
  | succ n ih =>
    intro v2 h H locs ls hP hS hl
    rw [f_X8_primeFor_l18] at h
    have hx := hX.1
    have hb := hX.2.1
    have hown := hX.2.2.2.1
    have hts := hX.2.2.2.2.1
    have hA := hX.2.2.2.2.2.2
    refine lv_iload_n hx hb dX8_primeFor_18 rfl (lv_at hl 0 rfl) ?_
    obtain ⟨r2, e1, h⟩ := ob1_some h
    refine j_i (j_runS (rest := []) hX hP hl.1 Y_X8_isPrime (c_X8_isPrime hA e1) ⟨rfl, rfl⟩ q1099 ⟨Nat.le_of_ble_eq_true rfl, Nat.le_of_ble_eq_true rfl⟩ rfl rfl (Nat.le_of_ble_eq_true rfl) dX8_primeFor_19) hS (fun H locs hP hS => ?_)
    refine x_if_ne (tgt := 31) hx hb dX8_primeFor_22 (by decide) h (fun c3 h => ?_) (fun c3 h => ?_)
    · refine lv_iload_n hx hb dX8_primeFor_31 rfl (lv_at hl 0 rfl) ?_
      cases h
      exact j_iret hX hr hlk hP hS dX8_primeFor_32
    · refine lv_iinc (v := (v2 + 1)) (lv' := [(2, .int (v2 + 1))]) hx hb dX8_primeFor_25 hl (k := 0) rfl rfl (Nat.le_of_ble_eq_true rfl) rfl (fun ls hl => ?_)
      refine lv_goto (tgt := 18) hx hb dX8_primeFor_28 (by decide) ?_
      exact ih _ h _ _ _ hP hS (lv_sub hl [0] rfl)
set_option maxHeartbeats 4000000 in
set_option maxRecDepth 100000 in
theorem c_X8_primeFor {l : Launch} {D : va_G} {tc : Tc} {ad : Nat → Nat} {A : Nat → Prop} (hA : adok ad A) {J : St} {v0 : Int32} {v1 : Int32} {rr : Int32} (h : f_X8_primeFor v0 v1 = some rr) : Met l yX8_primeFor (Cond.code yX8_primeFor cX8_primeFor 3 (some .int) :: tw) rm_X8_primeFor (pre D tc ad [.int v0, .int v1] J) (qi D tc ad A rr J) 0 0 A := by
  unfold f_X8_primeFor at h
  refine mk_met (own := RX8) (by decide +kernel) rfl hA (Nat.le_of_ble_eq_true rfl) ?_
  intro p e s m below meth c ls hX hr hlk hl hP hS
  have hl : lv_has ls 3 [(0, .int v0), (1, .int v1)] := hl
  have hx := hX.1
  have hb := hX.2.1
  have hown := hX.2.2.2.1
  have hts := hX.2.2.2.2.1
  refine lv_sipush (v := 257) hx hb dX8_primeFor_0 kc_s257 ?_
  refine lv_bipush (v := 19) hx hb dX8_primeFor_3 kc_b19 ?_
  refine lv_iload_n hx hb dX8_primeFor_5 rfl (lv_at hl 0 rfl) ?_
  obtain ⟨r5, e4, h⟩ := ob1_some h
  refine j_i (j_runS (rest := [.int 257]) hX hP hl.1 Y_X8_mix (c_X8_mix hA e4) ⟨rfl, rfl⟩ q873 ⟨Nat.le_of_ble_eq_true rfl, Nat.le_of_ble_eq_true rfl⟩ rfl rfl (Nat.le_of_ble_eq_true rfl) dX8_primeFor_6) hS (fun H locs hP hS => ?_)
  refine lv_iload_n hx hb dX8_primeFor_9 rfl (lv_at hl 1 rfl) ?_
  obtain ⟨r7, e6, h⟩ := ob1_some h
  refine j_i (j_runS (rest := [.int 257]) hX hP hl.1 Y_X8_mix (c_X8_mix hA e6) ⟨rfl, rfl⟩ q873 ⟨Nat.le_of_ble_eq_true rfl, Nat.le_of_ble_eq_true rfl⟩ rfl rfl (Nat.le_of_ble_eq_true rfl) dX8_primeFor_10) hS (fun H locs hP hS => ?_)
  refine lv_bipush (v := 22) hx hb dX8_primeFor_13 kc_b22 ?_
  refine lv_iushr (v := iushr r7 22) hx hb dX8_primeFor_15 rfl ?_
  refine lv_iadd hx hb dX8_primeFor_16 ?_
  refine x_let h (fun x8 h => ?_)
  refine lv_istore_n (lv' := [(2, .int x8), (0, .int v0), (1, .int v1)]) hx hb dX8_primeFor_17 rfl hl (Nat.le_of_ble_eq_true rfl) rfl (fun ls hl => ?_)
  exact t_X8_primeFor_l18 hX hr hlk  10000 _ h _ _ _ hP hS (lv_sub hl [0] rfl)
/-! OwnerlessCoinModel.isSlow(II)Z -/
def rm_X8_isSlow : Room := { frames := 1, cells := 0, slots := 0, locals := 22 }
theorem Y_X8_isSlow : ys yX8_isSlow cX8_isSlow 2 (some .boolean) 2 := ⟨q1080, q1079, q57, by decide +kernel⟩
set_option maxHeartbeats 4000000 in
set_option maxRecDepth 100000 in
theorem t_X8_isSlow_b26 {p : Program} {l : Launch} {e : Env} {s : State} {m : MethodId} {args : Array Value} {below : List Frame} {meth : Method} {c : Code} {D : va_G} {tc : Tc} {ad : Nat → Nat} {A : Nat → Prop} {J : St} {rr : Int32} (hX : cx p s m args c cX8_isSlow 2 RX8 D tc ad A) (hr : meth.sig.returnType = some .boolean) (hlk : meth.locks = false) : ∀ (t0 : Int32), f_X8_isSlow_b26 t0 = some rr → ∀ (H : Heap) (locs : List Loc) (ls : Array Slot), va_P D vwCl (wl tc ad J) H → va_S A s.heap H locs → lv_has ls 2 [] → W p l e rm_X8_isSlow s m args below meth c H locs 0 0 (MQ below (qi D tc ad A rr J) args s 0 0 A) (F0 m 26 ls [.int t0]) := by
  intro t0 h H locs ls hP hS hl
  unfold f_X8_isSlow_b26 at h
  have hx := hX.1
  have hb := hX.2.1
  have hown := hX.2.2.2.1
  have hts := hX.2.2.2.2.1
  have hA := hX.2.2.2.2.2.2
  obtain ⟨gz, h⟩ := ck_some h
  cases h
  exact j_zret hX hr hlk hP hS (isB_or gz) dX8_isSlow_26
set_option maxHeartbeats 4000000 in
set_option maxRecDepth 100000 in
theorem t_X8_isSlow_b25 {p : Program} {l : Launch} {e : Env} {s : State} {m : MethodId} {args : Array Value} {below : List Frame} {meth : Method} {c : Code} {D : va_G} {tc : Tc} {ad : Nat → Nat} {A : Nat → Prop} {J : St} {rr : Int32} (hX : cx p s m args c cX8_isSlow 2 RX8 D tc ad A) (hr : meth.sig.returnType = some .boolean) (hlk : meth.locks = false) : f_X8_isSlow_b25 = some rr → ∀ (H : Heap) (locs : List Loc) (ls : Array Slot), va_P D vwCl (wl tc ad J) H → va_S A s.heap H locs → lv_has ls 2 [] → W p l e rm_X8_isSlow s m args below meth c H locs 0 0 (MQ below (qi D tc ad A rr J) args s 0 0 A) (F0 m 25 ls []) := by
  intro  h H locs ls hP hS hl
  unfold f_X8_isSlow_b25 at h
  have hx := hX.1
  have hb := hX.2.1
  have hown := hX.2.2.2.1
  have hts := hX.2.2.2.2.1
  have hA := hX.2.2.2.2.2.2
  refine lv_iconst (v := 0) hx hb dX8_isSlow_25 kc_i0 ?_
  exact t_X8_isSlow_b26 hX hr hlk  _ h _ _ _ hP hS (lv_sub hl [] rfl)
set_option maxHeartbeats 4000000 in
set_option maxRecDepth 100000 in
theorem c_X8_isSlow {l : Launch} {D : va_G} {tc : Tc} {ad : Nat → Nat} {A : Nat → Prop} (hA : adok ad A) {J : St} {v0 : Int32} {v1 : Int32} {rr : Int32} (h : f_X8_isSlow v0 v1 = some rr) : Met l yX8_isSlow (Cond.code yX8_isSlow cX8_isSlow 2 (some .boolean) :: tw) rm_X8_isSlow (pre D tc ad [.int v0, .int v1] J) (qi D tc ad A rr J) 0 0 A := by
  unfold f_X8_isSlow at h
  refine mk_met (own := RX8) (by decide +kernel) rfl hA (Nat.le_of_ble_eq_true rfl) ?_
  intro p e s m below meth c ls hX hr hlk hl hP hS
  have hl : lv_has ls 2 [(0, .int v0), (1, .int v1)] := hl
  have hx := hX.1
  have hb := hX.2.1
  have hown := hX.2.2.2.1
  have hts := hX.2.2.2.2.1
  refine lv_iload_n hx hb dX8_isSlow_0 rfl (lv_at hl 0 rfl) ?_
  refine lv_iconst (v := 2) hx hb dX8_isSlow_1 kc_i2 ?_
  refine lv_ldc (v := 100000) hx hb hown (hts _ q1081) dX8_isSlow_2 ?_
  obtain ⟨r2, e1, h⟩ := ob1_some h
  refine j_i (j_runS (rest := []) hX hP hl.1 Y_X8_in (c_X8_in hA e1) ⟨rfl, rfl⟩ q807 ⟨Nat.le_of_ble_eq_true rfl, Nat.le_of_ble_eq_true rfl⟩ rfl rfl (Nat.le_of_ble_eq_true rfl) dX8_isSlow_4) hS (fun H locs hP hS => ?_)
  refine x_if_eq (tgt := 25) hx hb dX8_isSlow_7 (by decide) h (fun c3 h => ?_) (fun c3 h => ?_)
  · exact t_X8_isSlow_b25 hX hr hlk   h _ _ _ hP hS (lv_sub hl [] rfl)
  · refine lv_iload_n hx hb dX8_isSlow_10 rfl (lv_at hl 1 rfl) ?_
    refine lv_iconst (v := 0) hx hb dX8_isSlow_11 kc_i0 ?_
    refine lv_sipush (v := 5000) hx hb dX8_isSlow_12 kc_s5000 ?_
    obtain ⟨r5, e4, h⟩ := ob1_some h
    refine j_i (j_runS (rest := []) hX hP hl.1 Y_X8_in (c_X8_in hA e4) ⟨rfl, rfl⟩ q807 ⟨Nat.le_of_ble_eq_true rfl, Nat.le_of_ble_eq_true rfl⟩ rfl rfl (Nat.le_of_ble_eq_true rfl) dX8_isSlow_15) hS (fun H locs hP hS => ?_)
    refine x_if_eq (tgt := 25) hx hb dX8_isSlow_18 (by decide) h (fun c6 h => ?_) (fun c6 h => ?_)
    · exact t_X8_isSlow_b25 hX hr hlk   h _ _ _ hP hS (lv_sub hl [] rfl)
    · refine lv_iconst (v := 1) hx hb dX8_isSlow_21 kc_i1 ?_
      refine lv_goto (tgt := 26) hx hb dX8_isSlow_22 (by decide) ?_
      exact t_X8_isSlow_b26 hX hr hlk  _ h _ _ _ hP hS (lv_sub hl [] rfl)
/-! OwnerlessCoinModel.slow(II)I -/
def rm_X8_slow : Room := { frames := 2, cells := 0, slots := 0, locals := 43 }
theorem Y_X8_slow : yv yX8_slow cX8_slow 3 (some .int) 2 RX8 := ⟨q1077, q1075, q1076, q57, by decide +kernel⟩
set_option maxHeartbeats 4000000 in
set_option maxRecDepth 100000 in
theorem t_X8_slow_b18 {p : Program} {l : Launch} {e : Env} {s : State} {m : MethodId} {args : Array Value} {below : List Frame} {meth : Method} {c : Code} {D : va_G} {tc : Tc} {ad : Nat → Nat} {A : Nat → Prop} {J : St} {rr : Int32} (hX : cx p s m args c cX8_slow 3 RX8 D tc ad A) (hr : meth.sig.returnType = some .int) (hlk : meth.locks = false) : ∀ (t0 : Int32), f_X8_slow_b18 t0 = some rr → ∀ (H : Heap) (locs : List Loc) (ls : Array Slot), va_P D vwCl (wl tc ad J) H → va_S A s.heap H locs → lv_has ls 3 [] → W p l e rm_X8_slow s m args below meth c H locs 0 0 (MQ below (qi D tc ad A rr J) args s 0 0 A) (F0 m 18 ls [.int t0]) := by
  intro t0 h H locs ls hP hS hl
  unfold f_X8_slow_b18 at h
  have hx := hX.1
  have hb := hX.2.1
  have hown := hX.2.2.2.1
  have hts := hX.2.2.2.2.1
  have hA := hX.2.2.2.2.2.2
  cases h
  exact j_iret hX hr hlk hP hS dX8_slow_18
set_option maxHeartbeats 4000000 in
set_option maxRecDepth 100000 in
theorem c_X8_slow {l : Launch} {D : va_G} {tc : Tc} {ad : Nat → Nat} {A : Nat → Prop} (hA : adok ad A) {J : St} {v1 : Int32} {v2 : Int32} {rr : Int32} (h : f_X8_slow v1 v2 = some rr) : Met l yX8_slow (Cond.code yX8_slow cX8_slow 3 (some .int) :: tw) rm_X8_slow (pre D tc ad [.ref (ad 152), .int v1, .int v2] J) (qi D tc ad A rr J) 0 0 A := by
  unfold f_X8_slow at h
  refine mk_met (own := RX8) (by decide +kernel) rfl hA (Nat.le_of_ble_eq_true rfl) ?_
  intro p e s m below meth c ls hX hr hlk hl hP hS
  have hl : lv_has ls 3 [(0, .ref (ad 152)), (1, .int v1), (2, .int v2)] := hl
  have hx := hX.1
  have hb := hX.2.1
  have hown := hX.2.2.2.1
  have hts := hX.2.2.2.2.1
  refine lv_iload_n hx hb dX8_slow_0 rfl (lv_at hl 1 rfl) ?_
  refine lv_iload_n hx hb dX8_slow_1 rfl (lv_at hl 2 rfl) ?_
  obtain ⟨r2, e1, h⟩ := ob1_some h
  refine j_i (j_runS (rest := []) hX hP hl.1 Y_X8_isSlow (c_X8_isSlow hA e1) ⟨rfl, rfl⟩ q1078 ⟨Nat.le_of_ble_eq_true rfl, Nat.le_of_ble_eq_true rfl⟩ rfl rfl (Nat.le_of_ble_eq_true rfl) dX8_slow_2) hS (fun H locs hP hS => ?_)
  refine x_if_eq (tgt := 17) hx hb dX8_slow_5 (by decide) h (fun c3 h => ?_) (fun c3 h => ?_)
  · refine lv_iconst (v := (-1)) hx hb dX8_slow_17 kc_im1 ?_
    exact t_X8_slow_b18 hX hr hlk  _ h _ _ _ hP hS (lv_sub hl [] rfl)
  · refine lv_iload_n hx hb dX8_slow_8 rfl (lv_at hl 1 rfl) ?_
    refine lv_iload_n hx hb dX8_slow_9 rfl (lv_at hl 2 rfl) ?_
    obtain ⟨r5, e4, h⟩ := ob1_some h
    refine j_l (j_runS (rest := []) hX hP hl.1 Y_X8_squares (c_X8_squares hA e4) ⟨rfl, rfl⟩ q898 ⟨Nat.le_of_ble_eq_true rfl, Nat.le_of_ble_eq_true rfl⟩ rfl rfl (Nat.le_of_ble_eq_true rfl) dX8_slow_10) hS (fun H locs hP hS => ?_)
    refine lv_l2i (v := r5.toInt32) hx hb dX8_slow_13 rfl ?_
    refine lv_goto (tgt := 18) hx hb dX8_slow_14 (by decide) ?_
    exact t_X8_slow_b18 hX hr hlk  _ h _ _ _ hP hS (lv_sub hl [] rfl)
/-! OwnerlessCoinModel.quick(II)I -/
def rm_X8_quick : Room := { frames := 1, cells := 0, slots := 0, locals := 31 }
theorem Y_X8_quick : yv yX8_quick cX8_quick 5 (some .int) 2 RX8 := ⟨q1085, q1083, q1084, q57, by decide +kernel⟩
set_option maxHeartbeats 4000000 in
set_option maxRecDepth 100000 in
theorem t_X8_quick_b21 {p : Program} {l : Launch} {e : Env} {s : State} {m : MethodId} {args : Array Value} {below : List Frame} {meth : Method} {c : Code} {D : va_G} {tc : Tc} {ad : Nat → Nat} {A : Nat → Prop} {J : St} {rr : Int32} (hX : cx p s m args c cX8_quick 5 RX8 D tc ad A) (hr : meth.sig.returnType = some .int) (hlk : meth.locks = false) : f_X8_quick_b21 = some rr → ∀ (H : Heap) (locs : List Loc) (ls : Array Slot), va_P D vwCl (wl tc ad J) H → va_S A s.heap H locs → lv_has ls 5 [] → W p l e rm_X8_quick s m args below meth c H locs 0 0 (MQ below (qi D tc ad A rr J) args s 0 0 A) (F0 m 21 ls []) := by
  intro  h H locs ls hP hS hl
  unfold f_X8_quick_b21 at h
  have hx := hX.1
  have hb := hX.2.1
  have hown := hX.2.2.2.1
  have hts := hX.2.2.2.2.1
  have hA := hX.2.2.2.2.2.2
  refine lv_iconst (v := (-1)) hx hb dX8_quick_21 kc_im1 ?_
  cases h
  exact j_iret hX hr hlk hP hS dX8_quick_22
set_option maxHeartbeats 4000000 in
set_option maxRecDepth 100000 in
theorem c_X8_quick {l : Launch} {D : va_G} {tc : Tc} {ad : Nat → Nat} {A : Nat → Prop} (hA : adok ad A) {J : St} {v1 : Int32} {v2 : Int32} {rr : Int32} (h : f_X8_quick v1 v2 = some rr) : Met l yX8_quick (Cond.code yX8_quick cX8_quick 5 (some .int) :: tw) rm_X8_quick (pre D tc ad [.ref (ad 152), .int v1, .int v2] J) (qi D tc ad A rr J) 0 0 A := by
  unfold f_X8_quick at h
  refine mk_met (own := RX8) (by decide +kernel) rfl hA (Nat.le_of_ble_eq_true rfl) ?_
  intro p e s m below meth c ls hX hr hlk hl hP hS
  have hl : lv_has ls 5 [(0, .ref (ad 152)), (1, .int v1), (2, .int v2)] := hl
  have hx := hX.1
  have hb := hX.2.1
  have hown := hX.2.2.2.1
  have hts := hX.2.2.2.2.1
  refine lv_iload_n hx hb dX8_quick_0 rfl (lv_at hl 1 rfl) ?_
  refine lv_iconst (v := 2) hx hb dX8_quick_1 kc_i2 ?_
  refine lv_sipush (v := 7906) hx hb dX8_quick_2 kc_s7906 ?_
  obtain ⟨r2, e1, h⟩ := ob1_some h
  refine j_i (j_runS (rest := []) hX hP hl.1 Y_X8_in (c_X8_in hA e1) ⟨rfl, rfl⟩ q807 ⟨Nat.le_of_ble_eq_true rfl, Nat.le_of_ble_eq_true rfl⟩ rfl rfl (Nat.le_of_ble_eq_true rfl) dX8_quick_5) hS (fun H locs hP hS => ?_)
  refine x_if_eq (tgt := 21) hx hb dX8_quick_8 (by decide) h (fun c3 h => ?_) (fun c3 h => ?_)
  · exact t_X8_quick_b21 hX hr hlk   h _ _ _ hP hS (lv_sub hl [] rfl)
  · refine lv_iload_n hx hb dX8_quick_11 rfl (lv_at hl 2 rfl) ?_
    refine lv_iconst (v := 0) hx hb dX8_quick_12 kc_i0 ?_
    refine lv_ldc (v := 1000000000) hx hb hown (hts _ q1086) dX8_quick_13 ?_
    obtain ⟨r5, e4, h⟩ := ob1_some h
    refine j_i (j_runS (rest := []) hX hP hl.1 Y_X8_in (c_X8_in hA e4) ⟨rfl, rfl⟩ q807 ⟨Nat.le_of_ble_eq_true rfl, Nat.le_of_ble_eq_true rfl⟩ rfl rfl (Nat.le_of_ble_eq_true rfl) dX8_quick_15) hS (fun H locs hP hS => ?_)
    refine x_if_ne (tgt := 23) hx hb dX8_quick_18 (by decide) h (fun c6 h => ?_) (fun c6 h => ?_)
    · refine lv_ldc2 (v := 62599708) hx hb hown (hts _ q1087) dX8_quick_23 ?_
      refine lv_lstore_n (lv' := [(3, .long 62599708), (0, .ref (ad 152)), (1, .int v1), (2, .int v2)]) hx hb dX8_quick_26 rfl hl (Nat.le_of_ble_eq_true rfl) rfl (fun ls hl => ?_)
      refine lv_iload_n hx hb dX8_quick_27 rfl (lv_at hl 2 rfl) ?_
      refine lv_i2l (v := v1.toInt64) hx hb dX8_quick_28 rfl ?_
      refine x_letL h (fun y7 h => ?_)
      refine lv_ldc2 (v := 2) hx hb hown (hts _ q1088) dX8_quick_29 ?_
      refine lv_iload_n hx hb dX8_quick_32 rfl (lv_at hl 3 rfl) ?_
      refine lv_i2l (v := v2.toInt64) hx hb dX8_quick_33 rfl ?_
      refine x_letL h (fun y8 h => ?_)
      refine lv_lload_n hx hb dX8_quick_34 rfl (lv_at hl 0 rfl) ?_
      obtain ⟨r10, e9, h⟩ := ob1_some h
      refine j_l (j_runS (rest := [.long y7]) hX hP hl.1 Y_X8_power (c_X8_power hA e9) ⟨rfl, rfl⟩ q1089 ⟨Nat.le_of_ble_eq_true rfl, Nat.le_of_ble_eq_true rfl⟩ rfl rfl (Nat.le_of_ble_eq_true rfl) dX8_quick_35) hS (fun H locs hP hS => ?_)
      refine lv_ldc2 (v := 62615533) hx hb hown (hts _ q901) dX8_quick_38 ?_
      obtain ⟨r12, e11, h⟩ := ob1_some h
      refine j_l (j_runS (rest := []) hX hP hl.1 Y_X8_power (c_X8_power hA e11) ⟨rfl, rfl⟩ q1089 ⟨Nat.le_of_ble_eq_true rfl, Nat.le_of_ble_eq_true rfl⟩ rfl rfl (Nat.le_of_ble_eq_true rfl) dX8_quick_41) hS (fun H locs hP hS => ?_)
      refine lv_l2i (v := r12.toInt32) hx hb dX8_quick_44 rfl ?_
      cases h
      exact j_iret hX hr hlk hP hS dX8_quick_45
    · exact t_X8_quick_b21 hX hr hlk   h _ _ _ hP hS (lv_sub hl [] rfl)
/-! OwnerlessCoinModel.prime(II)I -/
def rm_X8_prime : Room := { frames := 2, cells := 0, slots := 0, locals := 44 }
theorem Y_X8_prime : yv yX8_prime cX8_prime 3 (some .int) 2 RX8 := ⟨q1095, q1093, q1094, q57, by decide +kernel⟩
set_option maxHeartbeats 4000000 in
set_option maxRecDepth 100000 in
theorem t_X8_prime_b22 {p : Program} {l : Launch} {e : Env} {s : State} {m : MethodId} {args : Array Value} {below : List Frame} {meth : Method} {c : Code} {D : va_G} {tc : Tc} {ad : Nat → Nat} {A : Nat → Prop} {J : St} {rr : Int32} (hX : cx p s m args c cX8_prime 3 RX8 D tc ad A) (hr : meth.sig.returnType = some .int) (hlk : meth.locks = false) : ∀ (t0 : Int32), f_X8_prime_b22 t0 = some rr → ∀ (H : Heap) (locs : List Loc) (ls : Array Slot), va_P D vwCl (wl tc ad J) H → va_S A s.heap H locs → lv_has ls 3 [] → W p l e rm_X8_prime s m args below meth c H locs 0 0 (MQ below (qi D tc ad A rr J) args s 0 0 A) (F0 m 22 ls [.int t0]) := by
  intro t0 h H locs ls hP hS hl
  unfold f_X8_prime_b22 at h
  have hx := hX.1
  have hb := hX.2.1
  have hown := hX.2.2.2.1
  have hts := hX.2.2.2.2.1
  have hA := hX.2.2.2.2.2.2
  cases h
  exact j_iret hX hr hlk hP hS dX8_prime_22
set_option maxHeartbeats 4000000 in
set_option maxRecDepth 100000 in
theorem c_X8_prime {l : Launch} {D : va_G} {tc : Tc} {ad : Nat → Nat} {A : Nat → Prop} (hA : adok ad A) {J : St} {v1 : Int32} {v2 : Int32} {rr : Int32} (h : f_X8_prime v1 v2 = some rr) : Met l yX8_prime (Cond.code yX8_prime cX8_prime 3 (some .int) :: tw) rm_X8_prime (pre D tc ad [.ref (ad 152), .int v1, .int v2] J) (qi D tc ad A rr J) 0 0 A := by
  unfold f_X8_prime at h
  refine mk_met (own := RX8) (by decide +kernel) rfl hA (Nat.le_of_ble_eq_true rfl) ?_
  intro p e s m below meth c ls hX hr hlk hl hP hS
  have hl : lv_has ls 3 [(0, .ref (ad 152)), (1, .int v1), (2, .int v2)] := hl
  have hx := hX.1
  have hb := hX.2.1
  have hown := hX.2.2.2.1
  have hts := hX.2.2.2.2.1
  refine lv_iload_n hx hb dX8_prime_0 rfl (lv_at hl 1 rfl) ?_
  refine lv_iload_n hx hb dX8_prime_1 rfl (lv_at hl 2 rfl) ?_
  obtain ⟨r2, e1, h⟩ := ob1_some h
  refine j_i (j_runS (rest := []) hX hP hl.1 Y_X8_isSlow (c_X8_isSlow hA e1) ⟨rfl, rfl⟩ q1078 ⟨Nat.le_of_ble_eq_true rfl, Nat.le_of_ble_eq_true rfl⟩ rfl rfl (Nat.le_of_ble_eq_true rfl) dX8_prime_2) hS (fun H locs hP hS => ?_)
  refine x_if_eq (tgt := 21) hx hb dX8_prime_5 (by decide) h (fun c3 h => ?_) (fun c3 h => ?_)
  · refine lv_iconst (v := (-1)) hx hb dX8_prime_21 kc_im1 ?_
    exact t_X8_prime_b22 hX hr hlk  _ h _ _ _ hP hS (lv_sub hl [] rfl)
  · refine lv_iload_n hx hb dX8_prime_8 rfl (lv_at hl 1 rfl) ?_
    refine lv_iload_n hx hb dX8_prime_9 rfl (lv_at hl 1 rfl) ?_
    refine lv_iload_n hx hb dX8_prime_10 rfl (lv_at hl 2 rfl) ?_
    obtain ⟨r5, e4, h⟩ := ob1_some h
    refine j_l (j_runS (rest := [.int v1]) hX hP hl.1 Y_X8_squares (c_X8_squares hA e4) ⟨rfl, rfl⟩ q898 ⟨Nat.le_of_ble_eq_true rfl, Nat.le_of_ble_eq_true rfl⟩ rfl rfl (Nat.le_of_ble_eq_true rfl) dX8_prime_11) hS (fun H locs hP hS => ?_)
    refine lv_l2i (v := r5.toInt32) hx hb dX8_prime_14 rfl ?_
    obtain ⟨r7, e6, h⟩ := ob1_some h
    refine j_i (j_runS (rest := []) hX hP hl.1 Y_X8_primeFor (c_X8_primeFor hA e6) ⟨rfl, rfl⟩ q1096 ⟨Nat.le_of_ble_eq_true rfl, Nat.le_of_ble_eq_true rfl⟩ rfl rfl (Nat.le_of_ble_eq_true rfl) dX8_prime_15) hS (fun H locs hP hS => ?_)
    refine lv_goto (tgt := 22) hx hb dX8_prime_18 (by decide) ?_
    exact t_X8_prime_b22 hX hr hlk  _ h _ _ _ hP hS (lv_sub hl [] rfl)
/-! OwnerlessCoinModel.proof(II)I -/
def rm_X8_proof : Room := { frames := 2, cells := 0, slots := 0, locals := 44 }
theorem Y_X8_proof : yv yX8_proof cX8_proof 9 (some .int) 2 RX8 := ⟨q1105, q1103, q1104, q57, by decide +kernel⟩
set_option maxHeartbeats 4000000 in
set_option maxRecDepth 100000 in
theorem t_X8_proof_b81 {p : Program} {l : Launch} {e : Env} {s : State} {m : MethodId} {args : Array Value} {below : List Frame} {meth : Method} {c : Code} {D : va_G} {tc : Tc} {ad : Nat → Nat} {A : Nat → Prop} {J : St} {rr : Int32} (hX : cx p s m args c cX8_proof 9 RX8 D tc ad A) (hr : meth.sig.returnType = some .int) (hlk : meth.locks = false) {K30 : Int32 → Int32 → Int32 → Int64 → Int64 → Int32 → Option (Int32)} (hK30 : ∀ (v1 : Int32) (v2 : Int32) (v3 : Int32) (v4 : Int64) (v6 : Int64) (v8 : Int32), K30 v1 v2 v3 v4 v6 v8 = some rr → ∀ (H : Heap) (locs : List Loc) (ls : Array Slot), va_P D vwCl (wl tc ad J) H → va_S A s.heap H locs → lv_has ls 9 [(1, .int v1), (2, .int v2), (3, .int v3), (4, .long v4), (6, .long v6), (8, .int v8)] → W p l e rm_X8_proof s m args below meth c H locs 0 0 (MQ below (qi D tc ad A rr J) args s 0 0 A) (F0 m 30 ls [])) : ∀ (v1 : Int32) (v2 : Int32) (v3 : Int32) (v4 : Int64) (v6 : Int64) (v8 : Int32), f_X8_proof_b81 K30 v1 v2 v3 v4 v6 v8 = some rr → ∀ (H : Heap) (locs : List Loc) (ls : Array Slot), va_P D vwCl (wl tc ad J) H → va_S A s.heap H locs → lv_has ls 9 [(1, .int v1), (2, .int v2), (3, .int v3), (4, .long v4), (6, .long v6), (8, .int v8)] → W p l e rm_X8_proof s m args below meth c H locs 0 0 (MQ below (qi D tc ad A rr J) args s 0 0 A) (F0 m 81 ls []) := by
  intro v1 v2 v3 v4 v6 v8 h H locs ls hP hS hl
  unfold f_X8_proof_b81 at h
  have hx := hX.1
  have hb := hX.2.1
  have hown := hX.2.2.2.1
  have hts := hX.2.2.2.2.1
  have hA := hX.2.2.2.2.2.2
  refine lv_iinc (v := (v8 + 1)) (lv' := [(8, .int (v8 + 1)), (1, .int v1), (2, .int v2), (3, .int v3), (4, .long v4), (6, .long v6)]) hx hb dX8_proof_81 hl (k := 5) rfl rfl (Nat.le_of_ble_eq_true rfl) rfl (fun ls hl => ?_)
  refine lv_goto (tgt := 30) hx hb dX8_proof_84 (by decide) ?_
  exact hK30 _ _ _ _ _ _ h _ _ _ hP hS (lv_sub hl [1, 2, 3, 4, 5, 0] rfl)
set_option maxHeartbeats 4000000 in
set_option maxRecDepth 100000 in
theorem t_X8_proof_l30 {p : Program} {l : Launch} {e : Env} {s : State} {m : MethodId} {args : Array Value} {below : List Frame} {meth : Method} {c : Code} {D : va_G} {tc : Tc} {ad : Nat → Nat} {A : Nat → Prop} {J : St} {rr : Int32} (hX : cx p s m args c cX8_proof 9 RX8 D tc ad A) (hr : meth.sig.returnType = some .int) (hlk : meth.locks = false) : ∀ (n : Nat), ∀ (v1 : Int32) (v2 : Int32) (v3 : Int32) (v4 : Int64) (v6 : Int64) (v8 : Int32), f_X8_proof_l30 n v1 v2 v3 v4 v6 v8 = some rr → ∀ (H : Heap) (locs : List Loc) (ls : Array Slot), va_P D vwCl (wl tc ad J) H → va_S A s.heap H locs → lv_has ls 9 [(1, .int v1), (2, .int v2), (3, .int v3), (4, .long v4), (6, .long v6), (8, .int v8)] → W p l e rm_X8_proof s m args below meth c H locs 0 0 (MQ below (qi D tc ad A rr J) args s 0 0 A) (F0 m 30 ls []) := by
  intro n
  induction n with
  | zero =>
    intro _ _ _ _ _ _ h
    cases h
  | succ n ih =>
    intro v1 v2 v3 v4 v6 v8 h H locs ls hP hS hl
    rw [f_X8_proof_l30] at h
    have hx := hX.1
    have hb := hX.2.1
    have hown := hX.2.2.2.1
    have hts := hX.2.2.2.2.1
    have hA := hX.2.2.2.2.2.2
    refine lv_iload hx hb dX8_proof_30 (lv_at hl 5 rfl) ?_
    refine lv_iload_n hx hb dX8_proof_32 rfl (lv_at hl 1 rfl) ?_
    refine x_icmp_ge (tgt := 87) hx hb dX8_proof_33 (by decide) h (fun c1 h => ?_) (fun c1 h => ?_)
    · refine lv_lload hx hb dX8_proof_87 (lv_at hl 4 rfl) ?_
      refine lv_l2i (v := v6.toInt32) hx hb dX8_proof_89 rfl ?_
      cases h
      exact j_iret hX hr hlk hP hS dX8_proof_90
    · refine lv_lload hx hb dX8_proof_36 (lv_at hl 3 rfl) ?_
      refine lv_ldc2 (v := 2) hx hb hown (hts _ q1088) dX8_proof_38 ?_
      refine lv_lmul hx hb dX8_proof_41 ?_
      refine x_letL h (fun y2 h => ?_)
      refine lv_lstore (lv' := [(4, .long y2), (1, .int v1), (2, .int v2), (3, .int v3), (6, .long v6), (8, .int v8)]) hx hb dX8_proof_42 hl (Nat.le_of_ble_eq_true rfl) rfl (fun ls hl => ?_)
      refine lv_lload hx hb dX8_proof_44 (lv_at hl 4 rfl) ?_
      refine lv_lload hx hb dX8_proof_46 (lv_at hl 4 rfl) ?_
      refine lv_lmul hx hb dX8_proof_48 ?_
      refine x_letL h (fun y3 h => ?_)
      refine lv_ldc2 (v := 62615533) hx hb hown (hts _ q901) dX8_proof_49 ?_
      refine lv_lrem hx hb dX8_proof_52 (by decide) ?_
      refine x_letL h (fun y4 h => ?_)
      refine lv_lstore (lv' := [(6, .long y4), (4, .long y2), (1, .int v1), (2, .int v2), (3, .int v3), (8, .int v8)]) hx hb dX8_proof_53 hl (Nat.le_of_ble_eq_true rfl) rfl (fun ls hl => ?_)
      refine lv_lload hx hb dX8_proof_55 (lv_at hl 1 rfl) ?_
      refine lv_iload_n hx hb dX8_proof_57 rfl (lv_at hl 4 rfl) ?_
      refine lv_i2l (v := v3.toInt64) hx hb dX8_proof_58 rfl ?_
      refine W.lcmp hx hb dX8_proof_59 ?_
      refine x_if_lt (tgt := 81) hx hb dX8_proof_60 (by decide) h (fun c5 h => ?_) (fun c5 h => ?_)
      · exact t_X8_proof_b81 hX hr hlk ih _ _ _ _ _ _ h _ _ _ hP hS (lv_sub hl [2, 3, 4, 1, 0, 5] rfl)
      · refine lv_lload hx hb dX8_proof_63 (lv_at hl 1 rfl) ?_
        refine lv_iload_n hx hb dX8_proof_65 rfl (lv_at hl 4 rfl) ?_
        refine lv_i2l (v := v3.toInt64) hx hb dX8_proof_66 rfl ?_
        refine lv_lsub hx hb dX8_proof_67 ?_
        refine x_letL h (fun y6 h => ?_)
        refine lv_lstore (lv' := [(4, .long y6), (6, .long y4), (1, .int v1), (2, .int v2), (3, .int v3), (8, .int v8)]) hx hb dX8_proof_68 hl (Nat.le_of_ble_eq_true rfl) rfl (fun ls hl => ?_)
        refine lv_lload hx hb dX8_proof_70 (lv_at hl 1 rfl) ?_
        refine lv_iload_n hx hb dX8_proof_72 rfl (lv_at hl 2 rfl) ?_
        refine lv_i2l (v := v1.toInt64) hx hb dX8_proof_73 rfl ?_
        refine lv_lmul hx hb dX8_proof_74 ?_
        refine x_letL h (fun y7 h => ?_)
        refine lv_ldc2 (v := 62615533) hx hb hown (hts _ q901) dX8_proof_75 ?_
        refine lv_lrem hx hb dX8_proof_78 (by decide) ?_
        refine x_letL h (fun y8 h => ?_)
        refine lv_lstore (lv' := [(6, .long y8), (4, .long y6), (1, .int v1), (2, .int v2), (3, .int v3), (8, .int v8)]) hx hb dX8_proof_79 hl (Nat.le_of_ble_eq_true rfl) rfl (fun ls hl => ?_)
        exact t_X8_proof_b81 hX hr hlk ih _ _ _ _ _ _ h _ _ _ hP hS (lv_sub hl [2, 3, 4, 1, 0, 5] rfl)
set_option maxHeartbeats 4000000 in
set_option maxRecDepth 100000 in
theorem c_X8_proof {l : Launch} {D : va_G} {tc : Tc} {ad : Nat → Nat} {A : Nat → Prop} (hA : adok ad A) {J : St} {v1 : Int32} {v2 : Int32} {rr : Int32} (h : f_X8_proof v1 v2 = some rr) : Met l yX8_proof (Cond.code yX8_proof cX8_proof 9 (some .int) :: tw) rm_X8_proof (pre D tc ad [.ref (ad 152), .int v1, .int v2] J) (qi D tc ad A rr J) 0 0 A := by
  unfold f_X8_proof at h
  refine mk_met (own := RX8) (by decide +kernel) rfl hA (Nat.le_of_ble_eq_true rfl) ?_
  intro p e s m below meth c ls hX hr hlk hl hP hS
  have hl : lv_has ls 9 [(0, .ref (ad 152)), (1, .int v1), (2, .int v2)] := hl
  have hx := hX.1
  have hb := hX.2.1
  have hown := hX.2.2.2.1
  have hts := hX.2.2.2.2.1
  refine lv_iload_n hx hb dX8_proof_0 rfl (lv_at hl 1 rfl) ?_
  refine lv_iload_n hx hb dX8_proof_1 rfl (lv_at hl 2 rfl) ?_
  obtain ⟨r10, e9, h⟩ := ob1_some h
  refine j_i (j_runS (rest := []) hX hP hl.1 Y_X8_isSlow (c_X8_isSlow hA e9) ⟨rfl, rfl⟩ q1078 ⟨Nat.le_of_ble_eq_true rfl, Nat.le_of_ble_eq_true rfl⟩ rfl rfl (Nat.le_of_ble_eq_true rfl) dX8_proof_2) hS (fun H locs hP hS => ?_)
  refine x_if_ne (tgt := 10) hx hb dX8_proof_5 (by decide) h (fun c11 h => ?_) (fun c11 h => ?_)
  · refine lv_iload_n hx hb dX8_proof_10 rfl (lv_at hl 1 rfl) ?_
    refine lv_iload_n hx hb dX8_proof_11 rfl (lv_at hl 1 rfl) ?_
    refine lv_iload_n hx hb dX8_proof_12 rfl (lv_at hl 2 rfl) ?_
    obtain ⟨r13, e12, h⟩ := ob1_some h
    refine j_l (j_runS (rest := [.int v1]) hX hP hl.1 Y_X8_squares (c_X8_squares hA e12) ⟨rfl, rfl⟩ q898 ⟨Nat.le_of_ble_eq_true rfl, Nat.le_of_ble_eq_true rfl⟩ rfl rfl (Nat.le_of_ble_eq_true rfl) dX8_proof_13) hS (fun H locs hP hS => ?_)
    refine lv_l2i (v := r13.toInt32) hx hb dX8_proof_16 rfl ?_
    obtain ⟨r15, e14, h⟩ := ob1_some h
    refine j_i (j_runS (rest := []) hX hP hl.1 Y_X8_primeFor (c_X8_primeFor hA e14) ⟨rfl, rfl⟩ q1096 ⟨Nat.le_of_ble_eq_true rfl, Nat.le_of_ble_eq_true rfl⟩ rfl rfl (Nat.le_of_ble_eq_true rfl) dX8_proof_17) hS (fun H locs hP hS => ?_)
    refine lv_istore_n (lv' := [(3, .int r15), (0, .ref (ad 152)), (1, .int v1), (2, .int v2)]) hx hb dX8_proof_20 rfl hl (Nat.le_of_ble_eq_true rfl) rfl (fun ls hl => ?_)
    refine lv_lconst (v := 1) hx hb dX8_proof_21 (by decide) ?_
    refine lv_lstore (lv' := [(4, .long 1), (3, .int r15), (0, .ref (ad 152)), (1, .int v1), (2, .int v2)]) hx hb dX8_proof_22 hl (Nat.le_of_ble_eq_true rfl) rfl (fun ls hl => ?_)
    refine lv_lconst (v := 1) hx hb dX8_proof_24 (by decide) ?_
    refine lv_lstore (lv' := [(6, .long 1), (4, .long 1), (3, .int r15), (0, .ref (ad 152)), (1, .int v1), (2, .int v2)]) hx hb dX8_proof_25 hl (Nat.le_of_ble_eq_true rfl) rfl (fun ls hl => ?_)
    refine lv_iconst (v := 0) hx hb dX8_proof_27 kc_i0 ?_
    refine lv_istore (lv' := [(8, .int 0), (6, .long 1), (4, .long 1), (3, .int r15), (0, .ref (ad 152)), (1, .int v1), (2, .int v2)]) hx hb dX8_proof_28 hl (Nat.le_of_ble_eq_true rfl) rfl (fun ls hl => ?_)
    exact t_X8_proof_l30 hX hr hlk  10000 _ _ _ _ _ _ h _ _ _ hP hS (lv_sub hl [5, 6, 3, 2, 1, 0] rfl)
  · refine lv_iconst (v := (-1)) hx hb dX8_proof_8 kc_im1 ?_
    cases h
    exact j_iret hX hr hlk hP hS dX8_proof_9
