/-! OwnerlessCoinModel.accepts(IIII)I -/
def rm_X8_accepts : Room := { frames := 2, cells := 0, slots := 0, locals := 44 }
theorem Y_X8_accepts : yv yX8_accepts cX8_accepts 6 (some .int) 4 RX8 := ⟨q1109, q1107, q1108, q57, by decide +kernel⟩
set_option maxHeartbeats 4000000 in
set_option maxRecDepth 100000 in
theorem t_X8_accepts_b41 {p : Program} {l : Launch} {e : Env} {s : State} {m : MethodId} {args : Array Value} {below : List Frame} {meth : Method} {c : Code} {D : va_G} {tc : Tc} {ad : Nat → Nat} {A : Nat → Prop} {J : St} {rr : Int32} (hX : cx p s m args c cX8_accepts 6 RX8 D tc ad A) (hr : meth.sig.returnType = some .int) (hlk : meth.locks = false) : f_X8_accepts_b41 = some rr → ∀ (H : Heap) (locs : List Loc) (ls : Array Slot), va_P D vwCl (wl tc ad J) H → va_S A s.heap H locs → lv_has ls 6 [] → W p l e rm_X8_accepts s m args below meth c H locs 0 0 (MQ below (qi D tc ad A rr J) args s 0 0 A) (F0 m 41 ls []) := by
  intro  h H locs ls hP hS hl
  unfold f_X8_accepts_b41 at h
  have hx := hX.1
  have hb := hX.2.1
  have hown := hX.2.2.2.1
  have hts := hX.2.2.2.2.1
  have hA := hX.2.2.2.2.2.2
  refine lv_iconst (v := (-1)) hx hb dX8_accepts_41 kc_im1 ?_
  cases h
  exact j_iret hX hr hlk hP hS dX8_accepts_42
set_option maxHeartbeats 4000000 in
set_option maxRecDepth 100000 in
theorem t_X8_accepts_b97 {p : Program} {l : Launch} {e : Env} {s : State} {m : MethodId} {args : Array Value} {below : List Frame} {meth : Method} {c : Code} {D : va_G} {tc : Tc} {ad : Nat → Nat} {A : Nat → Prop} {J : St} {rr : Int32} (hX : cx p s m args c cX8_accepts 6 RX8 D tc ad A) (hr : meth.sig.returnType = some .int) (hlk : meth.locks = false) : ∀ (t0 : Int32), f_X8_accepts_b97 t0 = some rr → ∀ (H : Heap) (locs : List Loc) (ls : Array Slot), va_P D vwCl (wl tc ad J) H → va_S A s.heap H locs → lv_has ls 6 [] → W p l e rm_X8_accepts s m args below meth c H locs 0 0 (MQ below (qi D tc ad A rr J) args s 0 0 A) (F0 m 97 ls [.int t0]) := by
  intro t0 h H locs ls hP hS hl
  unfold f_X8_accepts_b97 at h
  have hx := hX.1
  have hb := hX.2.1
  have hown := hX.2.2.2.1
  have hts := hX.2.2.2.2.1
  have hA := hX.2.2.2.2.2.2
  cases h
  exact j_iret hX hr hlk hP hS dX8_accepts_97
set_option maxHeartbeats 4000000 in
set_option maxRecDepth 100000 in
theorem c_X8_accepts {l : Launch} {D : va_G} {tc : Tc} {ad : Nat → Nat} {A : Nat → Prop} (hA : adok ad A) {J : St} {v1 : Int32} {v2 : Int32} {v3 : Int32} {v4 : Int32} {rr : Int32} (h : f_X8_accepts v1 v2 v3 v4 = some rr) : Met l yX8_accepts (Cond.code yX8_accepts cX8_accepts 6 (some .int) :: tw) rm_X8_accepts (pre D tc ad [.ref (ad 152), .int v1, .int v2, .int v3, .int v4] J) (qi D tc ad A rr J) 0 0 A := by
  unfold f_X8_accepts at h
  refine mk_met (own := RX8) (by decide +kernel) rfl hA (Nat.le_of_ble_eq_true rfl) ?_
  intro p e s m below meth c ls hX hr hlk hl hP hS
  have hl : lv_has ls 6 [(0, .ref (ad 152)), (1, .int v1), (2, .int v2), (3, .int v3), (4, .int v4)] := hl
  have hx := hX.1
  have hb := hX.2.1
  have hown := hX.2.2.2.1
  have hts := hX.2.2.2.2.1
  refine lv_iload_n hx hb dX8_accepts_0 rfl (lv_at hl 1 rfl) ?_
  refine lv_iconst (v := 2) hx hb dX8_accepts_1 kc_i2 ?_
  refine lv_ldc (v := 100000) hx hb hown (hts _ q1081) dX8_accepts_2 ?_
  obtain ⟨r2, e1, h⟩ := ob1_some h
  refine j_i (j_runS (rest := []) hX hP hl.1 Y_X8_in (c_X8_in hA e1) ⟨rfl, rfl⟩ q807 ⟨Nat.le_of_ble_eq_true rfl, Nat.le_of_ble_eq_true rfl⟩ rfl rfl (Nat.le_of_ble_eq_true rfl) dX8_accepts_4) hS (fun H locs hP hS => ?_)
  refine x_if_eq (tgt := 41) hx hb dX8_accepts_7 (by decide) h (fun c3 h => ?_) (fun c3 h => ?_)
  · exact t_X8_accepts_b41 hX hr hlk   h _ _ _ hP hS (lv_sub hl [] rfl)
  · refine lv_iload_n hx hb dX8_accepts_10 rfl (lv_at hl 2 rfl) ?_
    refine lv_iconst (v := 0) hx hb dX8_accepts_11 kc_i0 ?_
    refine lv_ldc (v := 1000000000) hx hb hown (hts _ q1086) dX8_accepts_12 ?_
    obtain ⟨r5, e4, h⟩ := ob1_some h
    refine j_i (j_runS (rest := []) hX hP hl.1 Y_X8_in (c_X8_in hA e4) ⟨rfl, rfl⟩ q807 ⟨Nat.le_of_ble_eq_true rfl, Nat.le_of_ble_eq_true rfl⟩ rfl rfl (Nat.le_of_ble_eq_true rfl) dX8_accepts_14) hS (fun H locs hP hS => ?_)
    refine x_if_eq (tgt := 41) hx hb dX8_accepts_17 (by decide) h (fun c6 h => ?_) (fun c6 h => ?_)
    · exact t_X8_accepts_b41 hX hr hlk   h _ _ _ hP hS (lv_sub hl [] rfl)
    · refine lv_iload_n hx hb dX8_accepts_20 rfl (lv_at hl 3 rfl) ?_
      refine lv_iconst (v := 0) hx hb dX8_accepts_21 kc_i0 ?_
      refine lv_ldc (v := 62615532) hx hb hown (hts _ q1110) dX8_accepts_22 ?_
      obtain ⟨r8, e7, h⟩ := ob1_some h
      refine j_i (j_runS (rest := []) hX hP hl.1 Y_X8_in (c_X8_in hA e7) ⟨rfl, rfl⟩ q807 ⟨Nat.le_of_ble_eq_true rfl, Nat.le_of_ble_eq_true rfl⟩ rfl rfl (Nat.le_of_ble_eq_true rfl) dX8_accepts_24) hS (fun H locs hP hS => ?_)
      refine x_if_eq (tgt := 41) hx hb dX8_accepts_27 (by decide) h (fun c9 h => ?_) (fun c9 h => ?_)
      · exact t_X8_accepts_b41 hX hr hlk   h _ _ _ hP hS (lv_sub hl [] rfl)
      · refine lv_iload hx hb dX8_accepts_30 (lv_at hl 4 rfl) ?_
        refine lv_iconst (v := 0) hx hb dX8_accepts_32 kc_i0 ?_
        refine lv_ldc (v := 62615532) hx hb hown (hts _ q1110) dX8_accepts_33 ?_
        obtain ⟨r11, e10, h⟩ := ob1_some h
        refine j_i (j_runS (rest := []) hX hP hl.1 Y_X8_in (c_X8_in hA e10) ⟨rfl, rfl⟩ q807 ⟨Nat.le_of_ble_eq_true rfl, Nat.le_of_ble_eq_true rfl⟩ rfl rfl (Nat.le_of_ble_eq_true rfl) dX8_accepts_35) hS (fun H locs hP hS => ?_)
        refine x_if_ne (tgt := 43) hx hb dX8_accepts_38 (by decide) h (fun c12 h => ?_) (fun c12 h => ?_)
        · refine lv_iload_n hx hb dX8_accepts_43 rfl (lv_at hl 1 rfl) ?_
          refine lv_iload_n hx hb dX8_accepts_44 rfl (lv_at hl 3 rfl) ?_
          obtain ⟨r14, e13, h⟩ := ob1_some h
          refine j_i (j_runS (rest := []) hX hP hl.1 Y_X8_primeFor (c_X8_primeFor hA e13) ⟨rfl, rfl⟩ q1096 ⟨Nat.le_of_ble_eq_true rfl, Nat.le_of_ble_eq_true rfl⟩ rfl rfl (Nat.le_of_ble_eq_true rfl) dX8_accepts_45) hS (fun H locs hP hS => ?_)
          refine lv_istore (lv' := [(5, .int r14), (0, .ref (ad 152)), (1, .int v1), (2, .int v2), (3, .int v3), (4, .int v4)]) hx hb dX8_accepts_48 hl (Nat.le_of_ble_eq_true rfl) rfl (fun ls hl => ?_)
          refine lv_iload hx hb dX8_accepts_50 (lv_at hl 5 rfl) ?_
          refine lv_i2l (v := v4.toInt64) hx hb dX8_accepts_52 rfl ?_
          refine x_letL h (fun y15 h => ?_)
          refine lv_iload hx hb dX8_accepts_53 (lv_at hl 0 rfl) ?_
          refine lv_i2l (v := r14.toInt64) hx hb dX8_accepts_55 rfl ?_
          refine x_letL h (fun y16 h => ?_)
          refine lv_ldc2 (v := 62615533) hx hb hown (hts _ q901) dX8_accepts_56 ?_
          obtain ⟨r18, e17, h⟩ := ob1_some h
          refine j_l (j_runS (rest := []) hX hP hl.1 Y_X8_power (c_X8_power hA e17) ⟨rfl, rfl⟩ q1089 ⟨Nat.le_of_ble_eq_true rfl, Nat.le_of_ble_eq_true rfl⟩ rfl rfl (Nat.le_of_ble_eq_true rfl) dX8_accepts_59) hS (fun H locs hP hS => ?_)
          refine lv_iload_n hx hb dX8_accepts_62 rfl (lv_at hl 2 rfl) ?_
          refine lv_i2l (v := v1.toInt64) hx hb dX8_accepts_63 rfl ?_
          refine x_letL h (fun y19 h => ?_)
          refine lv_ldc2 (v := 2) hx hb hown (hts _ q1088) dX8_accepts_64 ?_
          refine lv_iload_n hx hb dX8_accepts_67 rfl (lv_at hl 3 rfl) ?_
          refine lv_i2l (v := v2.toInt64) hx hb dX8_accepts_68 rfl ?_
          refine x_letL h (fun y20 h => ?_)
          refine lv_iload hx hb dX8_accepts_69 (lv_at hl 0 rfl) ?_
          refine lv_i2l (v := r14.toInt64) hx hb dX8_accepts_71 rfl ?_
          obtain ⟨r22, e21, h⟩ := ob1_some h
          refine j_l (j_runS (rest := [.long y19, .long r18]) hX hP hl.1 Y_X8_power (c_X8_power hA e21) ⟨rfl, rfl⟩ q1089 ⟨Nat.le_of_ble_eq_true rfl, Nat.le_of_ble_eq_true rfl⟩ rfl rfl (Nat.le_of_ble_eq_true rfl) dX8_accepts_72) hS (fun H locs hP hS => ?_)
          refine lv_ldc2 (v := 62615533) hx hb hown (hts _ q901) dX8_accepts_75 ?_
          obtain ⟨r24, e23, h⟩ := ob1_some h
          refine j_l (j_runS (rest := [.long r18]) hX hP hl.1 Y_X8_power (c_X8_power hA e23) ⟨rfl, rfl⟩ q1089 ⟨Nat.le_of_ble_eq_true rfl, Nat.le_of_ble_eq_true rfl⟩ rfl rfl (Nat.le_of_ble_eq_true rfl) dX8_accepts_78) hS (fun H locs hP hS => ?_)
          refine lv_lmul hx hb dX8_accepts_81 ?_
          refine x_letL h (fun y25 h => ?_)
          refine lv_ldc2 (v := 62615533) hx hb hown (hts _ q901) dX8_accepts_82 ?_
          refine lv_lrem hx hb dX8_accepts_85 (by decide) ?_
          refine x_letL h (fun y26 h => ?_)
          refine lv_iload_n hx hb dX8_accepts_86 rfl (lv_at hl 4 rfl) ?_
          refine lv_i2l (v := v3.toInt64) hx hb dX8_accepts_87 rfl ?_
          refine W.lcmp hx hb dX8_accepts_88 ?_
          refine x_if_ne (tgt := 96) hx hb dX8_accepts_89 (by decide) h (fun c27 h => ?_) (fun c27 h => ?_)
          · refine lv_iconst (v := 0) hx hb dX8_accepts_96 kc_i0 ?_
            exact t_X8_accepts_b97 hX hr hlk  _ h _ _ _ hP hS (lv_sub hl [] rfl)
          · refine lv_iconst (v := 1) hx hb dX8_accepts_92 kc_i1 ?_
            refine lv_goto (tgt := 97) hx hb dX8_accepts_93 (by decide) ?_
            exact t_X8_accepts_b97 hX hr hlk  _ h _ _ _ hP hS (lv_sub hl [] rfl)
        · exact t_X8_accepts_b41 hX hr hlk   h _ _ _ hP hS (lv_sub hl [] rfl)
/-! OwnerlessCoinModel.account(II)I -/
def rm_X8_account : Room := { frames := 2, cells := 0, slots := 0, locals := 43 }
theorem Y_X8_account : yv yX8_account cX8_account 3 (some .int) 2 RX8 := ⟨q1114, q1112, q1113, q57, by decide +kernel⟩
set_option maxHeartbeats 4000000 in
set_option maxRecDepth 100000 in
theorem t_X8_account_b32 {p : Program} {l : Launch} {e : Env} {s : State} {m : MethodId} {args : Array Value} {below : List Frame} {meth : Method} {c : Code} {D : va_G} {tc : Tc} {ad : Nat → Nat} {A : Nat → Prop} {I : St} {rr : Int32} (hX : cx p s m args c cX8_account 3 RX8 D tc ad A) (hr : meth.sig.returnType = some .int) (hlk : meth.locks = false) : ∀ (t0 : Int32) (M : St), f_X8_account_b32 t0 M = some rr → ∀ (H : Heap) (locs : List Loc) (ls : Array Slot), va_P D vwCl (wl tc ad (cmb I M)) H → va_S A s.heap H locs → lv_has ls 3 [] → W p l e rm_X8_account s m args below meth c H locs 0 0 (MQ below (qi D tc ad A rr (cmb I M)) args s 0 0 A) (F0 m 32 ls [.int t0]) := by
  intro t0 M h H locs ls hP hS hl
  unfold f_X8_account_b32 at h
  have hx := hX.1
  have hb := hX.2.1
  have hown := hX.2.2.2.1
  have hts := hX.2.2.2.2.1
  have hA := hX.2.2.2.2.2.2
  cases h
  exact j_iret hX hr hlk hP hS dX8_account_32
set_option maxHeartbeats 4000000 in
set_option maxRecDepth 100000 in
theorem t_X8_account_b31 {p : Program} {l : Launch} {e : Env} {s : State} {m : MethodId} {args : Array Value} {below : List Frame} {meth : Method} {c : Code} {D : va_G} {tc : Tc} {ad : Nat → Nat} {A : Nat → Prop} {I : St} {rr : Int32} (hX : cx p s m args c cX8_account 3 RX8 D tc ad A) (hr : meth.sig.returnType = some .int) (hlk : meth.locks = false) : ∀ (M : St), f_X8_account_b31 M = some rr → ∀ (H : Heap) (locs : List Loc) (ls : Array Slot), va_P D vwCl (wl tc ad (cmb I M)) H → va_S A s.heap H locs → lv_has ls 3 [] → W p l e rm_X8_account s m args below meth c H locs 0 0 (MQ below (qi D tc ad A rr (cmb I M)) args s 0 0 A) (F0 m 31 ls []) := by
  intro M h H locs ls hP hS hl
  unfold f_X8_account_b31 at h
  have hx := hX.1
  have hb := hX.2.1
  have hown := hX.2.2.2.1
  have hts := hX.2.2.2.2.1
  have hA := hX.2.2.2.2.2.2
  refine lv_iconst (v := (-1)) hx hb dX8_account_31 kc_im1 ?_
  exact t_X8_account_b32 hX hr hlk  _ _ h _ _ _ hP hS (lv_sub hl [] rfl)
set_option maxHeartbeats 4000000 in
set_option maxRecDepth 100000 in
theorem c_X8_account {l : Launch} {D : va_G} {tc : Tc} {ad : Nat → Nat} {A : Nat → Prop} (hA : adok ad A) {I M : St} {v1 : Int32} {v2 : Int32} {rr : Int32} (h : f_X8_account v1 v2 M = some rr) : Met l yX8_account (Cond.code yX8_account cX8_account 3 (some .int) :: tw) rm_X8_account (pre D tc ad [.ref (ad 152), .int v1, .int v2] (cmb I M)) (qi D tc ad A rr (cmb I M)) 0 0 A := by
  unfold f_X8_account at h
  refine mk_met (own := RX8) (by decide +kernel) rfl hA (Nat.le_of_ble_eq_true rfl) ?_
  intro p e s m below meth c ls hX hr hlk hl hP hS
  have hl : lv_has ls 3 [(0, .ref (ad 152)), (1, .int v1), (2, .int v2)] := hl
  have hx := hX.1
  have hb := hX.2.1
  have hown := hX.2.2.2.1
  have hts := hX.2.2.2.2.1
  refine lv_aload_n hx hb dX8_account_0 rfl (lv_at hl 0 rfl) ?_
  refine lv_iload_n hx hb dX8_account_1 rfl (lv_at hl 1 rfl) ?_
  obtain ⟨r2, e1, h⟩ := ob1_some h
  refine j_i (j_runV (rest := []) hX hP hl.1 Y_X8_isPerson cok6 (s157_152) sk_152 (c_X8_isPerson hA e1) ⟨rfl, rfl⟩ q821 ⟨Nat.le_of_ble_eq_true rfl, Nat.le_of_ble_eq_true rfl⟩ rfl rfl (Nat.le_of_ble_eq_true rfl) dX8_account_2) hS (fun H locs hP hS => ?_)
  refine x_if_eq (tgt := 31) hx hb dX8_account_5 (by decide) h (fun c3 h => ?_) (fun c3 h => ?_)
  · exact t_X8_account_b31 hX hr hlk  _ h _ _ _ hP hS (lv_sub hl [] rfl)
  · refine lv_iload_n hx hb dX8_account_8 rfl (lv_at hl 2 rfl) ?_
    refine lv_iconst (v := 0) hx hb dX8_account_9 kc_i0 ?_
    refine lv_iconst (v := 4) hx hb dX8_account_10 kc_i4 ?_
    obtain ⟨r5, e4, h⟩ := ob1_some h
    refine j_i (j_runS (rest := []) hX hP hl.1 Y_X8_in (c_X8_in hA e4) ⟨rfl, rfl⟩ q807 ⟨Nat.le_of_ble_eq_true rfl, Nat.le_of_ble_eq_true rfl⟩ rfl rfl (Nat.le_of_ble_eq_true rfl) dX8_account_11) hS (fun H locs hP hS => ?_)
    refine x_if_eq (tgt := 31) hx hb dX8_account_14 (by decide) h (fun c6 h => ?_) (fun c6 h => ?_)
    · exact t_X8_account_b31 hX hr hlk  _ h _ _ _ hP hS (lv_sub hl [] rfl)
    · refine lv_aload_n hx hb dX8_account_17 rfl (lv_at hl 0 rfl) ?_
      refine m_getq (t := 153) hX hP cok6 0 sge_152 s157_152 sk_152 (by decide) rfl q780 dX8_account_18 ?_
      refine lv_iload_n hx hb dX8_account_21 rfl (lv_at hl 1 rfl) ?_
      obtain ⟨r8, e7, h⟩ := ob1_some h
      refine j_i (j_runS (rest := [.ref (ad 153)]) hX hP hl.1 Y_X8_person (c_X8_person hA e7) ⟨rfl, rfl⟩ q814 ⟨Nat.le_of_ble_eq_true rfl, Nat.le_of_ble_eq_true rfl⟩ rfl rfl (Nat.le_of_ble_eq_true rfl) dX8_account_22) hS (fun H locs hP hS => ?_)
      refine lv_iload_n hx hb dX8_account_25 rfl (lv_at hl 2 rfl) ?_
      refine lv_iadd hx hb dX8_account_26 ?_
      refine x_let h (fun x9 h => ?_)
      refine m_ald hX hP h (sge_153) s157_153 sk_153 sn_153 dX8_account_27 (fun h => ?_)
      refine lv_goto (tgt := 32) hx hb dX8_account_28 (by decide) ?_
      exact t_X8_account_b32 hX hr hlk  _ _ h _ _ _ hP hS (lv_sub hl [] rfl)
/-! OwnerlessCoinModel.pot()I -/
def rm_X8_pot : Room := { frames := 0, cells := 0, slots := 0, locals := 0 }
theorem Y_X8_pot : yv yX8_pot cX8_pot 1 (some .int) 0 RX8 := ⟨q1118, q1116, q1117, q57, by decide +kernel⟩
set_option maxHeartbeats 4000000 in
set_option maxRecDepth 100000 in
theorem c_X8_pot {l : Launch} {D : va_G} {tc : Tc} {ad : Nat → Nat} {A : Nat → Prop} (hA : adok ad A) {I M : St}  {rr : Int32} (h : f_X8_pot M = some rr) : Met l yX8_pot (Cond.code yX8_pot cX8_pot 1 (some .int) :: tw) rm_X8_pot (pre D tc ad [.ref (ad 152)] (cmb I M)) (qi D tc ad A rr (cmb I M)) 0 0 A := by
  unfold f_X8_pot at h
  refine mk_met (own := RX8) (by decide +kernel) rfl hA (Nat.le_of_ble_eq_true rfl) ?_
  intro p e s m below meth c ls hX hr hlk hl hP hS
  have hl : lv_has ls 1 [(0, .ref (ad 152))] := hl
  have hx := hX.1
  have hb := hX.2.1
  have hown := hX.2.2.2.1
  have hts := hX.2.2.2.2.1
  refine lv_aload_n hx hb dX8_pot_0 rfl (lv_at hl 0 rfl) ?_
  refine m_getq (t := 153) hX hP cok6 0 sge_152 s157_152 sk_152 (by decide) rfl q780 dX8_pot_1 ?_
  refine lv_iconst (v := 2) hx hb dX8_pot_4 kc_i2 ?_
  refine m_ald hX hP h (sge_153) s157_153 sk_153 sn_153 dX8_pot_5 (fun h => ?_)
  cases h
  exact j_iret hX hr hlk hP hS dX8_pot_6
/-! OwnerlessCoinModel.rounds()I -/
def rm_X8_rounds : Room := { frames := 0, cells := 0, slots := 0, locals := 0 }
theorem Y_X8_rounds : yv yX8_rounds cX8_rounds 1 (some .int) 0 RX8 := ⟨q1122, q1120, q1121, q57, by decide +kernel⟩
set_option maxHeartbeats 4000000 in
set_option maxRecDepth 100000 in
theorem c_X8_rounds {l : Launch} {D : va_G} {tc : Tc} {ad : Nat → Nat} {A : Nat → Prop} (hA : adok ad A) {I M : St}  {rr : Int32} (h : f_X8_rounds M = some rr) : Met l yX8_rounds (Cond.code yX8_rounds cX8_rounds 1 (some .int) :: tw) rm_X8_rounds (pre D tc ad [.ref (ad 152)] (cmb I M)) (qi D tc ad A rr (cmb I M)) 0 0 A := by
  unfold f_X8_rounds at h
  refine mk_met (own := RX8) (by decide +kernel) rfl hA (Nat.le_of_ble_eq_true rfl) ?_
  intro p e s m below meth c ls hX hr hlk hl hP hS
  have hl : lv_has ls 1 [(0, .ref (ad 152))] := hl
  have hx := hX.1
  have hb := hX.2.1
  have hown := hX.2.2.2.1
  have hts := hX.2.2.2.2.1
  refine lv_aload_n hx hb dX8_rounds_0 rfl (lv_at hl 0 rfl) ?_
  refine m_getq (t := 153) hX hP cok6 0 sge_152 s157_152 sk_152 (by decide) rfl q780 dX8_rounds_1 ?_
  refine lv_iconst (v := 1) hx hb dX8_rounds_4 kc_i1 ?_
  refine m_ald hX hP h (sge_153) s157_153 sk_153 sn_153 dX8_rounds_5 (fun h => ?_)
  cases h
  exact j_iret hX hr hlk hP hS dX8_rounds_6
/-! OwnerlessCoinModel.isKept(I)Z -/
def rm_X8_isKept : Room := { frames := 0, cells := 0, slots := 0, locals := 0 }
theorem Y_X8_isKept : yv yX8_isKept cX8_isKept 2 (some .boolean) 1 RX8 := ⟨q1130, q1129, q48, q57, by decide +kernel⟩
set_option maxHeartbeats 4000000 in
set_option maxRecDepth 100000 in
theorem t_X8_isKept_b32 {p : Program} {l : Launch} {e : Env} {s : State} {m : MethodId} {args : Array Value} {below : List Frame} {meth : Method} {c : Code} {D : va_G} {tc : Tc} {ad : Nat → Nat} {A : Nat → Prop} {I : St} {rr : Int32} (hX : cx p s m args c cX8_isKept 2 RX8 D tc ad A) (hr : meth.sig.returnType = some .boolean) (hlk : meth.locks = false) : ∀ (t0 : Int32) (M : St), f_X8_isKept_b32 t0 M = some rr → ∀ (H : Heap) (locs : List Loc) (ls : Array Slot), va_P D vwCl (wl tc ad (cmb I M)) H → va_S A s.heap H locs → lv_has ls 2 [] → W p l e rm_X8_isKept s m args below meth c H locs 0 0 (MQ below (qi D tc ad A rr (cmb I M)) args s 0 0 A) (F0 m 32 ls [.int t0]) := by
  intro t0 M h H locs ls hP hS hl
  unfold f_X8_isKept_b32 at h
  have hx := hX.1
  have hb := hX.2.1
  have hown := hX.2.2.2.1
  have hts := hX.2.2.2.2.1
  have hA := hX.2.2.2.2.2.2
  obtain ⟨gz, h⟩ := ck_some h
  cases h
  exact j_zret hX hr hlk hP hS (isB_or gz) dX8_isKept_32
set_option maxHeartbeats 4000000 in
set_option maxRecDepth 100000 in
theorem t_X8_isKept_b31 {p : Program} {l : Launch} {e : Env} {s : State} {m : MethodId} {args : Array Value} {below : List Frame} {meth : Method} {c : Code} {D : va_G} {tc : Tc} {ad : Nat → Nat} {A : Nat → Prop} {I : St} {rr : Int32} (hX : cx p s m args c cX8_isKept 2 RX8 D tc ad A) (hr : meth.sig.returnType = some .boolean) (hlk : meth.locks = false) : ∀ (M : St), f_X8_isKept_b31 M = some rr → ∀ (H : Heap) (locs : List Loc) (ls : Array Slot), va_P D vwCl (wl tc ad (cmb I M)) H → va_S A s.heap H locs → lv_has ls 2 [] → W p l e rm_X8_isKept s m args below meth c H locs 0 0 (MQ below (qi D tc ad A rr (cmb I M)) args s 0 0 A) (F0 m 31 ls []) := by
  intro M h H locs ls hP hS hl
  unfold f_X8_isKept_b31 at h
  have hx := hX.1
  have hb := hX.2.1
  have hown := hX.2.2.2.1
  have hts := hX.2.2.2.2.1
  have hA := hX.2.2.2.2.2.2
  refine lv_iconst (v := 0) hx hb dX8_isKept_31 kc_i0 ?_
  exact t_X8_isKept_b32 hX hr hlk  _ _ h _ _ _ hP hS (lv_sub hl [] rfl)
set_option maxHeartbeats 4000000 in
set_option maxRecDepth 100000 in
theorem c_X8_isKept {l : Launch} {D : va_G} {tc : Tc} {ad : Nat → Nat} {A : Nat → Prop} (hA : adok ad A) {I M : St} {v1 : Int32} {rr : Int32} (h : f_X8_isKept v1 M = some rr) : Met l yX8_isKept (Cond.code yX8_isKept cX8_isKept 2 (some .boolean) :: tw) rm_X8_isKept (pre D tc ad [.ref (ad 152), .int v1] (cmb I M)) (qi D tc ad A rr (cmb I M)) 0 0 A := by
  unfold f_X8_isKept at h
  refine mk_met (own := RX8) (by decide +kernel) rfl hA (Nat.le_of_ble_eq_true rfl) ?_
  intro p e s m below meth c ls hX hr hlk hl hP hS
  have hl : lv_has ls 2 [(0, .ref (ad 152)), (1, .int v1)] := hl
  have hx := hX.1
  have hb := hX.2.1
  have hown := hX.2.2.2.1
  have hts := hX.2.2.2.2.1
  refine lv_iload_n hx hb dX8_isKept_0 rfl (lv_at hl 1 rfl) ?_
  refine x_if_lt (tgt := 31) hx hb dX8_isKept_1 (by decide) h (fun c1 h => ?_) (fun c1 h => ?_)
  · exact t_X8_isKept_b31 hX hr hlk  _ h _ _ _ hP hS (lv_sub hl [] rfl)
  · refine lv_iload_n hx hb dX8_isKept_4 rfl (lv_at hl 1 rfl) ?_
    refine lv_aload_n hx hb dX8_isKept_5 rfl (lv_at hl 0 rfl) ?_
    refine m_getq (t := 153) hX hP cok6 0 sge_152 s157_152 sk_152 (by decide) rfl q780 dX8_isKept_6 ?_
    refine lv_iconst (v := 1) hx hb dX8_isKept_9 kc_i1 ?_
    refine m_ald hX hP h (sge_153) s157_153 sk_153 sn_153 dX8_isKept_10 (fun h => ?_)
    refine x_icmp_ge (tgt := 31) hx hb dX8_isKept_11 (by decide) h (fun c2 h => ?_) (fun c2 h => ?_)
    · exact t_X8_isKept_b31 hX hr hlk  _ h _ _ _ hP hS (lv_sub hl [] rfl)
    · refine lv_iload_n hx hb dX8_isKept_14 rfl (lv_at hl 1 rfl) ?_
      refine lv_aload_n hx hb dX8_isKept_15 rfl (lv_at hl 0 rfl) ?_
      refine m_getq (t := 153) hX hP cok6 0 sge_152 s157_152 sk_152 (by decide) rfl q780 dX8_isKept_16 ?_
      refine lv_iconst (v := 1) hx hb dX8_isKept_19 kc_i1 ?_
      refine m_ald hX hP h (sge_153) s157_153 sk_153 sn_153 dX8_isKept_20 (fun h => ?_)
      refine x_let h (fun x3 h => ?_)
      refine lv_bipush (v := 16) hx hb dX8_isKept_21 kc_b16 ?_
      refine lv_isub hx hb dX8_isKept_23 ?_
      refine x_icmp_lt (tgt := 31) hx hb dX8_isKept_24 (by decide) h (fun c4 h => ?_) (fun c4 h => ?_)
      · exact t_X8_isKept_b31 hX hr hlk  _ h _ _ _ hP hS (lv_sub hl [] rfl)
      · refine lv_iconst (v := 1) hx hb dX8_isKept_27 kc_i1 ?_
        refine lv_goto (tgt := 32) hx hb dX8_isKept_28 (by decide) ?_
        exact t_X8_isKept_b32 hX hr hlk  _ _ h _ _ _ hP hS (lv_sub hl [] rfl)
/-! OwnerlessCoinModel.ofRound(II)I -/
def rm_X8_ofRound : Room := { frames := 0, cells := 0, slots := 0, locals := 0 }
theorem Y_X8_ofRound : yv yX8_ofRound cX8_ofRound 3 (some .int) 2 RX8 := ⟨q1134, q1133, q49, q57, by decide +kernel⟩
set_option maxHeartbeats 4000000 in
set_option maxRecDepth 100000 in
theorem c_X8_ofRound {l : Launch} {D : va_G} {tc : Tc} {ad : Nat → Nat} {A : Nat → Prop} (hA : adok ad A) {I M : St} {v1 : Int32} {v2 : Int32} {rr : Int32} (h : f_X8_ofRound v1 v2 M = some rr) : Met l yX8_ofRound (Cond.code yX8_ofRound cX8_ofRound 3 (some .int) :: tw) rm_X8_ofRound (pre D tc ad [.ref (ad 152), .int v1, .int v2] (cmb I M)) (qi D tc ad A rr (cmb I M)) 0 0 A := by
  unfold f_X8_ofRound at h
  refine mk_met (own := RX8) (by decide +kernel) rfl hA (Nat.le_of_ble_eq_true rfl) ?_
  intro p e s m below meth c ls hX hr hlk hl hP hS
  have hl : lv_has ls 3 [(0, .ref (ad 152)), (1, .int v1), (2, .int v2)] := hl
  have hx := hX.1
  have hb := hX.2.1
  have hown := hX.2.2.2.1
  have hts := hX.2.2.2.2.1
  refine lv_aload_n hx hb dX8_ofRound_0 rfl (lv_at hl 0 rfl) ?_
  refine m_getq (t := 153) hX hP cok6 0 sge_152 s157_152 sk_152 (by decide) rfl q780 dX8_ofRound_1 ?_
  refine lv_sipush (v := 340) hx hb dX8_ofRound_4 kc_s340 ?_
  refine lv_iconst (v := 5) hx hb dX8_ofRound_7 kc_i5 ?_
  refine lv_iload_n hx hb dX8_ofRound_8 rfl (lv_at hl 1 rfl) ?_
  refine lv_bipush (v := 16) hx hb dX8_ofRound_9 kc_b16 ?_
  refine lv_irem hx hb dX8_ofRound_11 (by decide) ?_
  refine lv_imul hx hb dX8_ofRound_12 ?_
  refine lv_iadd hx hb dX8_ofRound_13 ?_
  refine x_let h (fun x1 h => ?_)
  refine lv_iload_n hx hb dX8_ofRound_14 rfl (lv_at hl 2 rfl) ?_
  refine lv_iadd hx hb dX8_ofRound_15 ?_
  refine x_let h (fun x2 h => ?_)
  refine m_ald hX hP h (sge_153) s157_153 sk_153 sn_153 dX8_ofRound_16 (fun h => ?_)
  cases h
  exact j_iret hX hr hlk hP hS dX8_ofRound_17
/-! OwnerlessCoinModel.past(II)I -/
def rm_X8_past : Room := { frames := 1, cells := 0, slots := 0, locals := 22 }
theorem Y_X8_past : yv yX8_past cX8_past 5 (some .int) 2 RX8 := ⟨q1126, q1124, q1125, q57, by decide +kernel⟩
set_option maxHeartbeats 4000000 in
set_option maxRecDepth 100000 in
theorem t_X8_past_b13 {p : Program} {l : Launch} {e : Env} {s : State} {m : MethodId} {args : Array Value} {below : List Frame} {meth : Method} {c : Code} {D : va_G} {tc : Tc} {ad : Nat → Nat} {A : Nat → Prop} {I : St} {rr : Int32} (hX : cx p s m args c cX8_past 5 RX8 D tc ad A) (hr : meth.sig.returnType = some .int) (hlk : meth.locks = false) : ∀ (M : St), f_X8_past_b13 M = some rr → ∀ (H : Heap) (locs : List Loc) (ls : Array Slot), va_P D vwCl (wl tc ad (cmb I M)) H → va_S A s.heap H locs → lv_has ls 5 [] → W p l e rm_X8_past s m args below meth c H locs 0 0 (MQ below (qi D tc ad A rr (cmb I M)) args s 0 0 A) (F0 m 13 ls []) := by
  intro M h H locs ls hP hS hl
  unfold f_X8_past_b13 at h
  have hx := hX.1
  have hb := hX.2.1
  have hown := hX.2.2.2.1
  have hts := hX.2.2.2.2.1
  have hA := hX.2.2.2.2.2.2
  refine lv_iconst (v := (-1)) hx hb dX8_past_13 kc_im1 ?_
  cases h
  exact j_iret hX hr hlk hP hS dX8_past_14
set_option maxHeartbeats 4000000 in
set_option maxRecDepth 100000 in
theorem t_X8_past_b99 {p : Program} {l : Launch} {e : Env} {s : State} {m : MethodId} {args : Array Value} {below : List Frame} {meth : Method} {c : Code} {D : va_G} {tc : Tc} {ad : Nat → Nat} {A : Nat → Prop} {I : St} {rr : Int32} (hX : cx p s m args c cX8_past 5 RX8 D tc ad A) (hr : meth.sig.returnType = some .int) (hlk : meth.locks = false) : ∀ (t0 : Int32) (M : St), f_X8_past_b99 t0 M = some rr → ∀ (H : Heap) (locs : List Loc) (ls : Array Slot), va_P D vwCl (wl tc ad (cmb I M)) H → va_S A s.heap H locs → lv_has ls 5 [] → W p l e rm_X8_past s m args below meth c H locs 0 0 (MQ below (qi D tc ad A rr (cmb I M)) args s 0 0 A) (F0 m 99 ls [.int t0]) := by
  intro t0 M h H locs ls hP hS hl
  unfold f_X8_past_b99 at h
  have hx := hX.1
  have hb := hX.2.1
  have hown := hX.2.2.2.1
  have hts := hX.2.2.2.2.1
  have hA := hX.2.2.2.2.2.2
  cases h
  exact j_iret hX hr hlk hP hS dX8_past_99
set_option maxHeartbeats 4000000 in
set_option maxRecDepth 100000 in
theorem t_X8_past_b42 {p : Program} {l : Launch} {e : Env} {s : State} {m : MethodId} {args : Array Value} {below : List Frame} {meth : Method} {c : Code} {D : va_G} {tc : Tc} {ad : Nat → Nat} {A : Nat → Prop} {I : St} {rr : Int32} (hX : cx p s m args c cX8_past 5 RX8 D tc ad A) (hr : meth.sig.returnType = some .int) (hlk : meth.locks = false) : ∀ (v1 : Int32) (v2 : Int32) (t0 : Int32) (M : St), f_X8_past_b42 v1 v2 t0 M = some rr → ∀ (H : Heap) (locs : List Loc) (ls : Array Slot), va_P D vwCl (wl tc ad (cmb I M)) H → va_S A s.heap H locs → lv_has ls 5 [(0, .ref (ad 152)), (1, .int v1), (2, .int v2)] → W p l e rm_X8_past s m args below meth c H locs 0 0 (MQ below (qi D tc ad A rr (cmb I M)) args s 0 0 A) (F0 m 42 ls [.int t0]) := by
  intro v1 v2 t0 M h H locs ls hP hS hl
  unfold f_X8_past_b42 at h
  have hx := hX.1
  have hb := hX.2.1
  have hown := hX.2.2.2.1
  have hts := hX.2.2.2.2.1
  have hA := hX.2.2.2.2.2.2
  refine lv_istore_n (lv' := [(3, .int t0), (0, .ref (ad 152)), (1, .int v1), (2, .int v2)]) hx hb dX8_past_42 rfl hl (Nat.le_of_ble_eq_true rfl) rfl (fun ls hl => ?_)
  refine lv_aload_n hx hb dX8_past_43 rfl (lv_at hl 1 rfl) ?_
  refine lv_iload_n hx hb dX8_past_44 rfl (lv_at hl 2 rfl) ?_
  refine lv_iconst (v := 1) hx hb dX8_past_45 kc_i1 ?_
  obtain ⟨r2, e1, h⟩ := ob1_some h
  refine j_i (j_runV (rest := []) hX hP hl.1 Y_X8_ofRound cok6 (s157_152) sk_152 (c_X8_ofRound hA e1) ⟨rfl, rfl⟩ q1131 ⟨Nat.le_of_ble_eq_true rfl, Nat.le_of_ble_eq_true rfl⟩ rfl rfl (Nat.le_of_ble_eq_true rfl) dX8_past_46) hS (fun H locs hP hS => ?_)
  obtain ⟨r4, e3, h⟩ := ob1_some h
  refine j_i (j_runS (rest := []) hX hP hl.1 Y_X8_countOf (c_X8_countOf hA e3) ⟨rfl, rfl⟩ q956 ⟨Nat.le_of_ble_eq_true rfl, Nat.le_of_ble_eq_true rfl⟩ rfl rfl (Nat.le_of_ble_eq_true rfl) dX8_past_49) hS (fun H locs hP hS => ?_)
  refine lv_aload_n hx hb dX8_past_52 rfl (lv_at hl 1 rfl) ?_
  refine lv_iload_n hx hb dX8_past_53 rfl (lv_at hl 2 rfl) ?_
  refine lv_iconst (v := 2) hx hb dX8_past_54 kc_i2 ?_
  obtain ⟨r6, e5, h⟩ := ob1_some h
  refine j_i (j_runV (rest := [.int r4]) hX hP hl.1 Y_X8_ofRound cok6 (s157_152) sk_152 (c_X8_ofRound hA e5) ⟨rfl, rfl⟩ q1131 ⟨Nat.le_of_ble_eq_true rfl, Nat.le_of_ble_eq_true rfl⟩ rfl rfl (Nat.le_of_ble_eq_true rfl) dX8_past_55) hS (fun H locs hP hS => ?_)
  refine lv_isub hx hb dX8_past_58 ?_
  refine x_let h (fun x7 h => ?_)
  refine lv_istore (lv' := [(4, .int x7), (3, .int t0), (0, .ref (ad 152)), (1, .int v1), (2, .int v2)]) hx hb dX8_past_59 hl (Nat.le_of_ble_eq_true rfl) rfl (fun ls hl => ?_)
  refine lv_iload_n hx hb dX8_past_61 rfl (lv_at hl 4 rfl) ?_
  refine lv_iconst (v := 4) hx hb dX8_past_62 kc_i4 ?_
  refine x_icmp_ne (tgt := 75) hx hb dX8_past_63 (by decide) h (fun c8 h => ?_) (fun c8 h => ?_)
  · refine lv_iload_n hx hb dX8_past_75 rfl (lv_at hl 4 rfl) ?_
    refine lv_iconst (v := 3) hx hb dX8_past_76 kc_i3 ?_
    refine x_icmp_ne (tgt := 93) hx hb dX8_past_77 (by decide) h (fun c9 h => ?_) (fun c9 h => ?_)
    · refine lv_aload_n hx hb dX8_past_93 rfl (lv_at hl 2 rfl) ?_
      refine lv_iload_n hx hb dX8_past_94 rfl (lv_at hl 3 rfl) ?_
      refine lv_iload_n hx hb dX8_past_95 rfl (lv_at hl 4 rfl) ?_
      obtain ⟨r11, e10, h⟩ := ob1_some h
      refine j_i (j_runV (rest := []) hX hP hl.1 Y_X8_ofRound cok6 (s157_152) sk_152 (c_X8_ofRound hA e10) ⟨rfl, rfl⟩ q1131 ⟨Nat.le_of_ble_eq_true rfl, Nat.le_of_ble_eq_true rfl⟩ rfl rfl (Nat.le_of_ble_eq_true rfl) dX8_past_96) hS (fun H locs hP hS => ?_)
      exact t_X8_past_b99 hX hr hlk  _ _ h _ _ _ hP hS (lv_sub hl [] rfl)
    · refine lv_iload_n hx hb dX8_past_80 rfl (lv_at hl 1 rfl) ?_
      refine x_if_eq (tgt := 88) hx hb dX8_past_81 (by decide) h (fun c12 h => ?_) (fun c12 h => ?_)
      · refine lv_iload hx hb dX8_past_88 (lv_at hl 0 rfl) ?_
        refine lv_goto (tgt := 99) hx hb dX8_past_90 (by decide) ?_
        exact t_X8_past_b99 hX hr hlk  _ _ h _ _ _ hP hS (lv_sub hl [] rfl)
      · refine lv_iconst (v := 0) hx hb dX8_past_84 kc_i0 ?_
        refine lv_goto (tgt := 99) hx hb dX8_past_85 (by decide) ?_
        exact t_X8_past_b99 hX hr hlk  _ _ h _ _ _ hP hS (lv_sub hl [] rfl)
  · refine lv_aload_n hx hb dX8_past_66 rfl (lv_at hl 2 rfl) ?_
    refine lv_iload_n hx hb dX8_past_67 rfl (lv_at hl 3 rfl) ?_
    refine lv_iconst (v := 3) hx hb dX8_past_68 kc_i3 ?_
    obtain ⟨r14, e13, h⟩ := ob1_some h
    refine j_i (j_runV (rest := []) hX hP hl.1 Y_X8_ofRound cok6 (s157_152) sk_152 (c_X8_ofRound hA e13) ⟨rfl, rfl⟩ q1131 ⟨Nat.le_of_ble_eq_true rfl, Nat.le_of_ble_eq_true rfl⟩ rfl rfl (Nat.le_of_ble_eq_true rfl) dX8_past_69) hS (fun H locs hP hS => ?_)
    refine lv_goto (tgt := 99) hx hb dX8_past_72 (by decide) ?_
    exact t_X8_past_b99 hX hr hlk  _ _ h _ _ _ hP hS (lv_sub hl [] rfl)
set_option maxHeartbeats 4000000 in
set_option maxRecDepth 100000 in
theorem c_X8_past {l : Launch} {D : va_G} {tc : Tc} {ad : Nat → Nat} {A : Nat → Prop} (hA : adok ad A) {I M : St} {v1 : Int32} {v2 : Int32} {rr : Int32} (h : f_X8_past v1 v2 M = some rr) : Met l yX8_past (Cond.code yX8_past cX8_past 5 (some .int) :: tw) rm_X8_past (pre D tc ad [.ref (ad 152), .int v1, .int v2] (cmb I M)) (qi D tc ad A rr (cmb I M)) 0 0 A := by
  unfold f_X8_past at h
  refine mk_met (own := RX8) (by decide +kernel) rfl hA (Nat.le_of_ble_eq_true rfl) ?_
  intro p e s m below meth c ls hX hr hlk hl hP hS
  have hl : lv_has ls 5 [(0, .ref (ad 152)), (1, .int v1), (2, .int v2)] := hl
  have hx := hX.1
  have hb := hX.2.1
  have hown := hX.2.2.2.1
  have hts := hX.2.2.2.2.1
  refine lv_iload_n hx hb dX8_past_0 rfl (lv_at hl 1 rfl) ?_
  refine x_if_lt (tgt := 13) hx hb dX8_past_1 (by decide) h (fun c15 h => ?_) (fun c15 h => ?_)
  · exact t_X8_past_b13 hX hr hlk  _ h _ _ _ hP hS (lv_sub hl [] rfl)
  · refine lv_iload_n hx hb dX8_past_4 rfl (lv_at hl 2 rfl) ?_
    refine lv_iconst (v := 0) hx hb dX8_past_5 kc_i0 ?_
    refine lv_iconst (v := 4) hx hb dX8_past_6 kc_i4 ?_
    obtain ⟨r17, e16, h⟩ := ob1_some h
    refine j_i (j_runS (rest := []) hX hP hl.1 Y_X8_in (c_X8_in hA e16) ⟨rfl, rfl⟩ q807 ⟨Nat.le_of_ble_eq_true rfl, Nat.le_of_ble_eq_true rfl⟩ rfl rfl (Nat.le_of_ble_eq_true rfl) dX8_past_7) hS (fun H locs hP hS => ?_)
    refine x_if_ne (tgt := 15) hx hb dX8_past_10 (by decide) h (fun c18 h => ?_) (fun c18 h => ?_)
    · refine lv_aload_n hx hb dX8_past_15 rfl (lv_at hl 0 rfl) ?_
      refine lv_iload_n hx hb dX8_past_16 rfl (lv_at hl 1 rfl) ?_
      obtain ⟨r20, e19, h⟩ := ob1_some h
      refine j_i (j_runV (rest := []) hX hP hl.1 Y_X8_isKept cok6 (s157_152) sk_152 (c_X8_isKept hA e19) ⟨rfl, rfl⟩ q1127 ⟨Nat.le_of_ble_eq_true rfl, Nat.le_of_ble_eq_true rfl⟩ rfl rfl (Nat.le_of_ble_eq_true rfl) dX8_past_17) hS (fun H locs hP hS => ?_)
      refine x_if_ne (tgt := 26) hx hb dX8_past_20 (by decide) h (fun c21 h => ?_) (fun c21 h => ?_)
      · refine lv_aload_n hx hb dX8_past_26 rfl (lv_at hl 0 rfl) ?_
        refine lv_iload_n hx hb dX8_past_27 rfl (lv_at hl 1 rfl) ?_
        refine lv_iconst (v := 0) hx hb dX8_past_28 kc_i0 ?_
        obtain ⟨r23, e22, h⟩ := ob1_some h
        refine j_i (j_runV (rest := []) hX hP hl.1 Y_X8_ofRound cok6 (s157_152) sk_152 (c_X8_ofRound hA e22) ⟨rfl, rfl⟩ q1131 ⟨Nat.le_of_ble_eq_true rfl, Nat.le_of_ble_eq_true rfl⟩ rfl rfl (Nat.le_of_ble_eq_true rfl) dX8_past_29) hS (fun H locs hP hS => ?_)
        refine lv_bipush (v := (-5)) hx hb dX8_past_32 kc_bm5 ?_
        refine x_icmp_ne (tgt := 41) hx hb dX8_past_34 (by decide) h (fun c24 h => ?_) (fun c24 h => ?_)
        · refine lv_iconst (v := 0) hx hb dX8_past_41 kc_i0 ?_
          exact t_X8_past_b42 hX hr hlk  _ _ _ _ h _ _ _ hP hS (lv_sub hl [0, 1, 2] rfl)
        · refine lv_iconst (v := 1) hx hb dX8_past_37 kc_i1 ?_
          refine lv_goto (tgt := 42) hx hb dX8_past_38 (by decide) ?_
          exact t_X8_past_b42 hX hr hlk  _ _ _ _ h _ _ _ hP hS (lv_sub hl [0, 1, 2] rfl)
      · refine lv_bipush (v := (-9)) hx hb dX8_past_23 kc_bm9 ?_
        cases h
        exact j_iret hX hr hlk hP hS dX8_past_25
    · exact t_X8_past_b13 hX hr hlk  _ h _ _ _ hP hS (lv_sub hl [] rfl)
/-! OwnerlessCoinModel.output(I)I -/
def rm_X8_output : Room := { frames := 1, cells := 0, slots := 0, locals := 22 }
theorem Y_X8_output : yv yX8_output cX8_output 2 (some .int) 1 RX8 := ⟨q1138, q1136, q1137, q57, by decide +kernel⟩
set_option maxHeartbeats 4000000 in
set_option maxRecDepth 100000 in
theorem t_X8_output_b18 {p : Program} {l : Launch} {e : Env} {s : State} {m : MethodId} {args : Array Value} {below : List Frame} {meth : Method} {c : Code} {D : va_G} {tc : Tc} {ad : Nat → Nat} {A : Nat → Prop} {I : St} {rr : Int32} (hX : cx p s m args c cX8_output 2 RX8 D tc ad A) (hr : meth.sig.returnType = some .int) (hlk : meth.locks = false) : ∀ (t0 : Int32) (M : St), f_X8_output_b18 t0 M = some rr → ∀ (H : Heap) (locs : List Loc) (ls : Array Slot), va_P D vwCl (wl tc ad (cmb I M)) H → va_S A s.heap H locs → lv_has ls 2 [] → W p l e rm_X8_output s m args below meth c H locs 0 0 (MQ below (qi D tc ad A rr (cmb I M)) args s 0 0 A) (F0 m 18 ls [.int t0]) := by
  intro t0 M h H locs ls hP hS hl
  unfold f_X8_output_b18 at h
  have hx := hX.1
  have hb := hX.2.1
  have hown := hX.2.2.2.1
  have hts := hX.2.2.2.2.1
  have hA := hX.2.2.2.2.2.2
  cases h
  exact j_iret hX hr hlk hP hS dX8_output_18
set_option maxHeartbeats 4000000 in
set_option maxRecDepth 100000 in
theorem c_X8_output {l : Launch} {D : va_G} {tc : Tc} {ad : Nat → Nat} {A : Nat → Prop} (hA : adok ad A) {I M : St} {v1 : Int32} {rr : Int32} (h : f_X8_output v1 M = some rr) : Met l yX8_output (Cond.code yX8_output cX8_output 2 (some .int) :: tw) rm_X8_output (pre D tc ad [.ref (ad 152), .int v1] (cmb I M)) (qi D tc ad A rr (cmb I M)) 0 0 A := by
  unfold f_X8_output at h
  refine mk_met (own := RX8) (by decide +kernel) rfl hA (Nat.le_of_ble_eq_true rfl) ?_
  intro p e s m below meth c ls hX hr hlk hl hP hS
  have hl : lv_has ls 2 [(0, .ref (ad 152)), (1, .int v1)] := hl
  have hx := hX.1
  have hb := hX.2.1
  have hown := hX.2.2.2.1
  have hts := hX.2.2.2.2.1
  refine lv_aload_n hx hb dX8_output_0 rfl (lv_at hl 0 rfl) ?_
  refine lv_iload_n hx hb dX8_output_1 rfl (lv_at hl 1 rfl) ?_
  obtain ⟨r2, e1, h⟩ := ob1_some h
  refine j_i (j_runV (rest := []) hX hP hl.1 Y_X8_isKept cok6 (s157_152) sk_152 (c_X8_isKept hA e1) ⟨rfl, rfl⟩ q1127 ⟨Nat.le_of_ble_eq_true rfl, Nat.le_of_ble_eq_true rfl⟩ rfl rfl (Nat.le_of_ble_eq_true rfl) dX8_output_2) hS (fun H locs hP hS => ?_)
  refine x_if_eq (tgt := 17) hx hb dX8_output_5 (by decide) h (fun c3 h => ?_) (fun c3 h => ?_)
  · refine lv_iconst (v := 0) hx hb dX8_output_17 kc_i0 ?_
    exact t_X8_output_b18 hX hr hlk  _ _ h _ _ _ hP hS (lv_sub hl [] rfl)
  · refine lv_aload_n hx hb dX8_output_8 rfl (lv_at hl 0 rfl) ?_
    refine lv_iload_n hx hb dX8_output_9 rfl (lv_at hl 1 rfl) ?_
    refine lv_iconst (v := 4) hx hb dX8_output_10 kc_i4 ?_
    obtain ⟨r5, e4, h⟩ := ob1_some h
    refine j_i (j_runV (rest := []) hX hP hl.1 Y_X8_ofRound cok6 (s157_152) sk_152 (c_X8_ofRound hA e4) ⟨rfl, rfl⟩ q1131 ⟨Nat.le_of_ble_eq_true rfl, Nat.le_of_ble_eq_true rfl⟩ rfl rfl (Nat.le_of_ble_eq_true rfl) dX8_output_11) hS (fun H locs hP hS => ?_)
    refine lv_goto (tgt := 18) hx hb dX8_output_14 (by decide) ?_
    exact t_X8_output_b18 hX hr hlk  _ _ h _ _ _ hP hS (lv_sub hl [] rfl)
/-! OwnerlessCoinModel.coins(I)I -/
def rm_X8_coins : Room := { frames := 1, cells := 0, slots := 0, locals := 22 }
theorem Y_X8_coins : yv yX8_coins cX8_coins 2 (some .int) 1 RX8 := ⟨q1142, q1140, q1141, q57, by decide +kernel⟩
set_option maxHeartbeats 4000000 in
set_option maxRecDepth 100000 in
theorem t_X8_coins_b29 {p : Program} {l : Launch} {e : Env} {s : State} {m : MethodId} {args : Array Value} {below : List Frame} {meth : Method} {c : Code} {D : va_G} {tc : Tc} {ad : Nat → Nat} {A : Nat → Prop} {I : St} {rr : Int32} (hX : cx p s m args c cX8_coins 2 RX8 D tc ad A) (hr : meth.sig.returnType = some .int) (hlk : meth.locks = false) : ∀ (t0 : Int32) (M : St), f_X8_coins_b29 t0 M = some rr → ∀ (H : Heap) (locs : List Loc) (ls : Array Slot), va_P D vwCl (wl tc ad (cmb I M)) H → va_S A s.heap H locs → lv_has ls 2 [] → W p l e rm_X8_coins s m args below meth c H locs 0 0 (MQ below (qi D tc ad A rr (cmb I M)) args s 0 0 A) (F0 m 29 ls [.int t0]) := by
  intro t0 M h H locs ls hP hS hl
  unfold f_X8_coins_b29 at h
  have hx := hX.1
  have hb := hX.2.1
  have hown := hX.2.2.2.1
  have hts := hX.2.2.2.2.1
  have hA := hX.2.2.2.2.2.2
  cases h
  exact j_iret hX hr hlk hP hS dX8_coins_29
set_option maxHeartbeats 4000000 in
set_option maxRecDepth 100000 in
theorem t_X8_coins_b28 {p : Program} {l : Launch} {e : Env} {s : State} {m : MethodId} {args : Array Value} {below : List Frame} {meth : Method} {c : Code} {D : va_G} {tc : Tc} {ad : Nat → Nat} {A : Nat → Prop} {I : St} {rr : Int32} (hX : cx p s m args c cX8_coins 2 RX8 D tc ad A) (hr : meth.sig.returnType = some .int) (hlk : meth.locks = false) : ∀ (t1 : Int32) (M : St), f_X8_coins_b28 t1 M = some rr → ∀ (H : Heap) (locs : List Loc) (ls : Array Slot), va_P D vwCl (wl tc ad (cmb I M)) H → va_S A s.heap H locs → lv_has ls 2 [] → W p l e rm_X8_coins s m args below meth c H locs 0 0 (MQ below (qi D tc ad A rr (cmb I M)) args s 0 0 A) (F0 m 28 ls [.int t1, .ref (ad 153)]) := by
  intro t1 M h H locs ls hP hS hl
  unfold f_X8_coins_b28 at h
  have hx := hX.1
  have hb := hX.2.1
  have hown := hX.2.2.2.1
  have hts := hX.2.2.2.2.1
  have hA := hX.2.2.2.2.2.2
  refine m_ald hX hP h (sge_153) s157_153 sk_153 sn_153 dX8_coins_28 (fun h => ?_)
  exact t_X8_coins_b29 hX hr hlk  _ _ h _ _ _ hP hS (lv_sub hl [] rfl)
set_option maxHeartbeats 4000000 in
set_option maxRecDepth 100000 in
theorem c_X8_coins {l : Launch} {D : va_G} {tc : Tc} {ad : Nat → Nat} {A : Nat → Prop} (hA : adok ad A) {I M : St} {v1 : Int32} {rr : Int32} (h : f_X8_coins v1 M = some rr) : Met l yX8_coins (Cond.code yX8_coins cX8_coins 2 (some .int) :: tw) rm_X8_coins (pre D tc ad [.ref (ad 152), .int v1] (cmb I M)) (qi D tc ad A rr (cmb I M)) 0 0 A := by
  unfold f_X8_coins at h
  refine mk_met (own := RX8) (by decide +kernel) rfl hA (Nat.le_of_ble_eq_true rfl) ?_
  intro p e s m below meth c ls hX hr hlk hl hP hS
  have hl : lv_has ls 2 [(0, .ref (ad 152)), (1, .int v1)] := hl
  have hx := hX.1
  have hb := hX.2.1
  have hown := hX.2.2.2.1
  have hts := hX.2.2.2.2.1
  refine lv_iload_n hx hb dX8_coins_0 rfl (lv_at hl 1 rfl) ?_
  refine lv_iconst (v := 0) hx hb dX8_coins_1 kc_i0 ?_
  refine lv_iconst (v := 1) hx hb dX8_coins_2 kc_i1 ?_
  obtain ⟨r2, e1, h⟩ := ob1_some h
  refine j_i (j_runS (rest := []) hX hP hl.1 Y_X8_in (c_X8_in hA e1) ⟨rfl, rfl⟩ q807 ⟨Nat.le_of_ble_eq_true rfl, Nat.le_of_ble_eq_true rfl⟩ rfl rfl (Nat.le_of_ble_eq_true rfl) dX8_coins_3) hS (fun H locs hP hS => ?_)
  refine x_if_ne (tgt := 13) hx hb dX8_coins_6 (by decide) h (fun c3 h => ?_) (fun c3 h => ?_)
  · refine lv_aload_n hx hb dX8_coins_13 rfl (lv_at hl 0 rfl) ?_
    refine m_getq (t := 153) hX hP cok6 0 sge_152 s157_152 sk_152 (by decide) rfl q780 dX8_coins_14 ?_
    refine lv_iload_n hx hb dX8_coins_17 rfl (lv_at hl 1 rfl) ?_
    refine x_if_ne (tgt := 26) hx hb dX8_coins_18 (by decide) h (fun c4 h => ?_) (fun c4 h => ?_)
    · refine lv_bipush (v := 10) hx hb dX8_coins_26 kc_b10 ?_
      exact t_X8_coins_b28 hX hr hlk  _ _ h _ _ _ hP hS (lv_sub hl [] rfl)
    · refine lv_bipush (v := 9) hx hb dX8_coins_21 kc_b9 ?_
      refine lv_goto (tgt := 28) hx hb dX8_coins_23 (by decide) ?_
      exact t_X8_coins_b28 hX hr hlk  _ _ h _ _ _ hP hS (lv_sub hl [] rfl)
  · refine lv_iconst (v := (-1)) hx hb dX8_coins_9 kc_im1 ?_
    refine lv_goto (tgt := 29) hx hb dX8_coins_10 (by decide) ?_
    exact t_X8_coins_b29 hX hr hlk  _ _ h _ _ _ hP hS (lv_sub hl [] rfl)
/-! OwnerlessCoinModel.longestRun()I -/
def rm_X8_longestRun : Room := { frames := 0, cells := 0, slots := 0, locals := 0 }
theorem Y_X8_longestRun : yv yX8_longestRun cX8_longestRun 1 (some .int) 0 RX8 := ⟨q1146, q1144, q1145, q57, by decide +kernel⟩
set_option maxHeartbeats 4000000 in
set_option maxRecDepth 100000 in
theorem c_X8_longestRun {l : Launch} {D : va_G} {tc : Tc} {ad : Nat → Nat} {A : Nat → Prop} (hA : adok ad A) {I M : St}  {rr : Int32} (h : f_X8_longestRun M = some rr) : Met l yX8_longestRun (Cond.code yX8_longestRun cX8_longestRun 1 (some .int) :: tw) rm_X8_longestRun (pre D tc ad [.ref (ad 152)] (cmb I M)) (qi D tc ad A rr (cmb I M)) 0 0 A := by
  unfold f_X8_longestRun at h
  refine mk_met (own := RX8) (by decide +kernel) rfl hA (Nat.le_of_ble_eq_true rfl) ?_
  intro p e s m below meth c ls hX hr hlk hl hP hS
  have hl : lv_has ls 1 [(0, .ref (ad 152))] := hl
  have hx := hX.1
  have hb := hX.2.1
  have hown := hX.2.2.2.1
  have hts := hX.2.2.2.2.1
  refine lv_aload_n hx hb dX8_longestRun_0 rfl (lv_at hl 0 rfl) ?_
  refine m_getq (t := 153) hX hP cok6 0 sge_152 s157_152 sk_152 (by decide) rfl q780 dX8_longestRun_1 ?_
  refine lv_bipush (v := 13) hx hb dX8_longestRun_4 kc_b13 ?_
  refine m_ald hX hP h (sge_153) s157_153 sk_153 sn_153 dX8_longestRun_6 (fun h => ?_)
  cases h
  exact j_iret hX hr hlk hP hS dX8_longestRun_7
/-! OwnerlessCoinModel.undo()I -/
def rm_X8_undo : Room := { frames := 0, cells := 0, slots := 0, locals := 0 }
theorem Y_X8_undo : yv yX8_undo cX8_undo 2 (some .int) 0 RX8 := ⟨q1150, q1148, q1149, q57, by decide +kernel⟩
set_option maxHeartbeats 4000000 in
set_option maxRecDepth 100000 in
theorem t_X8_undo_l22 {p : Program} {l : Launch} {e : Env} {s : State} {m : MethodId} {args : Array Value} {below : List Frame} {meth : Method} {c : Code} {D : va_G} {tc : Tc} {ad : Nat → Nat} {A : Nat → Prop} {I : St} {rr : Int32} {II : St} (hX : cx p s m args c cX8_undo 2 RX8 D tc ad A) (hr : meth.sig.returnType = some .int) (hlk : meth.locks = false) : ∀ (n : Nat), ∀ (v1 : Int32) (M : St), f_X8_undo_l22 n v1 M = some (rr, II) → ∀ (H : Heap) (locs : List Loc) (ls : Array Slot), va_P D vwCl (wl tc ad (cmb I M)) H → va_S A s.heap H locs → lv_has ls 2 [(0, .ref (ad 152)), (1, .int v1)] → W p l e rm_X8_undo s m args below meth c H locs 0 0 (MQ below (qi D tc ad A rr (cmb I II)) args s 0 0 A) (F0 m 22 ls []) := by
  intro n
  induction n with
  | zero =>
    intro _ _ h
    cases h
  | succ n ih =>
    intro v1 M h H locs ls hP hS hl
    rw [f_X8_undo_l22] at h
    have hx := hX.1
    have hb := hX.2.1
    have hown := hX.2.2.2.1
    have hts := hX.2.2.2.2.1
    have hA := hX.2.2.2.2.2.2
    refine lv_iload_n hx hb dX8_undo_22 rfl (lv_at hl 1 rfl) ?_
    refine lv_sipush (v := 420) hx hb dX8_undo_23 kc_s420 ?_
    refine x_icmp_ge (tgt := 56) hx hb dX8_undo_26 (by decide) h (fun c1 h => ?_) (fun c1 h => ?_)
    · refine lv_aload_n hx hb dX8_undo_56 rfl (lv_at hl 0 rfl) ?_
      refine m_get hX hP cok6 2 sge_152 s157_152 sk_152 (by decide) rfl q782 dX8_undo_57 ?_
      cases h
      exact j_iret hX hr hlk hP hS dX8_undo_60
    · refine lv_aload_n hx hb dX8_undo_29 rfl (lv_at hl 0 rfl) ?_
      refine m_getq (t := 153) hX hP cok6 0 sge_152 s157_152 sk_152 (by decide) rfl q780 dX8_undo_30 ?_
      refine lv_iload_n hx hb dX8_undo_33 rfl (lv_at hl 1 rfl) ?_
      refine lv_aload_n hx hb dX8_undo_34 rfl (lv_at hl 0 rfl) ?_
      refine m_getq (t := 154) hX hP cok6 1 sge_152 s157_152 sk_152 (by decide) rfl q781 dX8_undo_35 ?_
      refine lv_sipush (v := 420) hx hb dX8_undo_38 kc_s420 ?_
      refine lv_aload_n hx hb dX8_undo_41 rfl (lv_at hl 0 rfl) ?_
      refine m_get hX hP cok6 2 sge_152 s157_152 sk_152 (by decide) rfl q782 dX8_undo_42 ?_
      refine lv_imul hx hb dX8_undo_45 ?_
      refine x_let h (fun x2 h => ?_)
      refine lv_iload_n hx hb dX8_undo_46 rfl (lv_at hl 1 rfl) ?_
      refine lv_iadd hx hb dX8_undo_47 ?_
      refine x_let h (fun x3 h => ?_)
      refine m_ald hX hP h (sge_154) s157_154 sk_154 sn_154 dX8_undo_48 (fun h => ?_)
      refine m_ast hX hP hS h (sge_153) s157_153 sk_153 sn_153 dX8_undo_49 (fun M4 H locs h hP hS => ?_)
      refine lv_iinc (v := (v1 + 1)) (lv' := [(1, .int (v1 + 1)), (0, .ref (ad 152))]) hx hb dX8_undo_50 hl (k := 1) rfl rfl (Nat.le_of_ble_eq_true rfl) rfl (fun ls hl => ?_)
      refine lv_goto (tgt := 22) hx hb dX8_undo_53 (by decide) ?_
      exact ih _ _ h _ _ _ hP hS (lv_sub hl [1, 0] rfl)
set_option maxHeartbeats 4000000 in
set_option maxRecDepth 100000 in
theorem c_X8_undo {l : Launch} {D : va_G} {tc : Tc} {ad : Nat → Nat} {A : Nat → Prop} (hA : adok ad A) {I M : St}  {rr : Int32} {II : St} (h : f_X8_undo M = some (rr, II)) : Met l yX8_undo (Cond.code yX8_undo cX8_undo 2 (some .int) :: tw) rm_X8_undo (pre D tc ad [.ref (ad 152)] (cmb I M)) (qi D tc ad A rr (cmb I II)) 0 0 A := by
  unfold f_X8_undo at h
  refine mk_met (own := RX8) (by decide +kernel) rfl hA (Nat.le_of_ble_eq_true rfl) ?_
  intro p e s m below meth c ls hX hr hlk hl hP hS
  have hl : lv_has ls 2 [(0, .ref (ad 152))] := hl
  have hx := hX.1
  have hb := hX.2.1
  have hown := hX.2.2.2.1
  have hts := hX.2.2.2.2.1
  refine lv_aload_n hx hb dX8_undo_0 rfl (lv_at hl 0 rfl) ?_
  refine m_get hX hP cok6 2 sge_152 s157_152 sk_152 (by decide) rfl q782 dX8_undo_1 ?_
  refine x_if_ne (tgt := 10) hx hb dX8_undo_4 (by decide) h (fun c5 h => ?_) (fun c5 h => ?_)
  · refine lv_aload_n hx hb dX8_undo_10 rfl (lv_at hl 0 rfl) ?_
    refine lv_dup hx hb dX8_undo_11 rfl ?_
    refine m_get hX hP cok6 2 sge_152 s157_152 sk_152 (by decide) rfl q782 dX8_undo_12 ?_
    refine x_let h (fun x6 h => ?_)
    refine lv_iconst (v := 1) hx hb dX8_undo_15 kc_i1 ?_
    refine lv_isub hx hb dX8_undo_16 ?_
    refine m_put hX hP hS cok6 2 h sge_152 s157_152 sk_152 (by decide) rfl rfl q782 rfl dX8_undo_17 (fun M7 H locs h hP hS => ?_)
    refine lv_iconst (v := 0) hx hb dX8_undo_20 kc_i0 ?_
    refine lv_istore_n (lv' := [(1, .int 0), (0, .ref (ad 152))]) hx hb dX8_undo_21 rfl hl (Nat.le_of_ble_eq_true rfl) rfl (fun ls hl => ?_)
    exact t_X8_undo_l22 hX hr hlk  10000 _ _ h _ _ _ hP hS (lv_sub hl [1, 0] rfl)
  · refine lv_bipush (v := (-2)) hx hb dX8_undo_7 kc_bm2 ?_
    cases h
    exact j_iret hX hr hlk hP hS dX8_undo_9
/-! OwnerlessCoinModel.fingerprint()J -/
def rm_X8_fingerprint : Room := { frames := 4, cells := 0, slots := 0, locals := 87 }
theorem Y_X8_fingerprint : yv yX8_fingerprint cX8_fingerprint 5 (some .long) 0 RX8 := ⟨q1154, q1152, q1153, q57, by decide +kernel⟩
set_option maxHeartbeats 4000000 in
set_option maxRecDepth 100000 in
theorem t_X8_fingerprint_l63 {p : Program} {l : Launch} {e : Env} {s : State} {m : MethodId} {args : Array Value} {below : List Frame} {meth : Method} {c : Code} {D : va_G} {tc : Tc} {ad : Nat → Nat} {A : Nat → Prop} {I : St} {rr : Int64} (hX : cx p s m args c cX8_fingerprint 5 RX8 D tc ad A) (hr : meth.sig.returnType = some .long) (hlk : meth.locks = false) {K50 : Int64 → Int32 → St → Option (Int64)} (hK50 : ∀ (v1 : Int64) (v3 : Int32) (M : St), K50 v1 v3 M = some rr → ∀ (H : Heap) (locs : List Loc) (ls : Array Slot), va_P D vwCl (wl tc ad (cmb I M)) H → va_S A s.heap H locs → lv_has ls 5 [(0, .ref (ad 152)), (1, .long v1), (3, .int v3)] → W p l e rm_X8_fingerprint s m args below meth c H locs 0 0 (MQ below (ql D tc ad A rr (cmb I M)) args s 0 0 A) (F0 m 50 ls [])) : ∀ (n : Nat), ∀ (v1 : Int64) (v3 : Int32) (v4 : Int32) (M : St), f_X8_fingerprint_l63 K50 n v1 v3 v4 M = some rr → ∀ (H : Heap) (locs : List Loc) (ls : Array Slot), va_P D vwCl (wl tc ad (cmb I M)) H → va_S A s.heap H locs → lv_has ls 5 [(0, .ref (ad 152)), (1, .long v1), (3, .int v3), (4, .int v4)] → W p l e rm_X8_fingerprint s m args below meth c H locs 0 0 (MQ below (ql D tc ad A rr (cmb I M)) args s 0 0 A) (F0 m 63 ls []) := by
  intro n
  induction n with
  | zero =>
    intro _ _ _ _ h
    cases h
  | succ n ih =>
    intro v1 v3 v4 M h H locs ls hP hS hl
    rw [f_X8_fingerprint_l63] at h
    have hx := hX.1
    have hb := hX.2.1
    have hown := hX.2.2.2.1
    have hts := hX.2.2.2.2.1
    have hA := hX.2.2.2.2.2.2
    refine lv_iload hx hb dX8_fingerprint_63 (lv_at hl 3 rfl) ?_
    refine lv_iconst (v := 5) hx hb dX8_fingerprint_65 kc_i5 ?_
    refine x_icmp_ge (tgt := 95) hx hb dX8_fingerprint_66 (by decide) h (fun c1 h => ?_) (fun c1 h => ?_)
    · refine lv_iinc (v := (v3 + 1)) (lv' := [(3, .int (v3 + 1)), (0, .ref (ad 152)), (1, .long v1), (4, .int v4)]) hx hb dX8_fingerprint_95 hl (k := 2) rfl rfl (Nat.le_of_ble_eq_true rfl) rfl (fun ls hl => ?_)
      refine lv_goto (tgt := 50) hx hb dX8_fingerprint_98 (by decide) ?_
      exact hK50 _ _ _ h _ _ _ hP hS (lv_sub hl [1, 2, 0] rfl)
    · refine lv_ldc2 (v := 31) hx hb hown (hts _ q1155) dX8_fingerprint_69 ?_
      refine lv_lload_n hx hb dX8_fingerprint_72 rfl (lv_at hl 1 rfl) ?_
      refine lv_lmul hx hb dX8_fingerprint_73 ?_
      refine x_letL h (fun y2 h => ?_)
      refine lv_aload_n hx hb dX8_fingerprint_74 rfl (lv_at hl 0 rfl) ?_
      refine m_getq (t := 153) hX hP cok6 0 sge_152 s157_152 sk_152 (by decide) rfl q780 dX8_fingerprint_75 ?_
      refine lv_iload_n hx hb dX8_fingerprint_78 rfl (lv_at hl 2 rfl) ?_
      obtain ⟨r4, e3, h⟩ := ob1_some h
      refine j_i (j_runS (rest := [.ref (ad 153), .long y2]) hX hP hl.1 Y_X8_person (c_X8_person hA e3) ⟨rfl, rfl⟩ q814 ⟨Nat.le_of_ble_eq_true rfl, Nat.le_of_ble_eq_true rfl⟩ rfl rfl (Nat.le_of_ble_eq_true rfl) dX8_fingerprint_79) hS (fun H locs hP hS => ?_)
      refine lv_iload hx hb dX8_fingerprint_82 (lv_at hl 3 rfl) ?_
      refine lv_iadd hx hb dX8_fingerprint_84 ?_
      refine x_let h (fun x5 h => ?_)
      refine m_ald hX hP h (sge_153) s157_153 sk_153 sn_153 dX8_fingerprint_85 (fun h => ?_)
      refine lv_i2l (v := (M 1 x5.toNatClampNeg).toInt64) hx hb dX8_fingerprint_86 rfl ?_
      refine lv_ladd hx hb dX8_fingerprint_87 ?_
      refine x_letL h (fun y6 h => ?_)
      refine lv_lstore_n (lv' := [(1, .long y6), (0, .ref (ad 152)), (3, .int v3), (4, .int v4)]) hx hb dX8_fingerprint_88 rfl hl (Nat.le_of_ble_eq_true rfl) rfl (fun ls hl => ?_)
      refine lv_iinc (v := (v4 + 1)) (lv' := [(4, .int (v4 + 1)), (1, .long y6), (0, .ref (ad 152)), (3, .int v3)]) hx hb dX8_fingerprint_89 hl (k := 3) rfl rfl (Nat.le_of_ble_eq_true rfl) rfl (fun ls hl => ?_)
      refine lv_goto (tgt := 63) hx hb dX8_fingerprint_92 (by decide) ?_
      exact ih _ _ _ _ h _ _ _ hP hS (lv_sub hl [2, 1, 3, 0] rfl)
set_option maxHeartbeats 4000000 in
set_option maxRecDepth 100000 in
theorem t_X8_fingerprint_b176 {p : Program} {l : Launch} {e : Env} {s : State} {m : MethodId} {args : Array Value} {below : List Frame} {meth : Method} {c : Code} {D : va_G} {tc : Tc} {ad : Nat → Nat} {A : Nat → Prop} {I : St} {rr : Int64} (hX : cx p s m args c cX8_fingerprint 5 RX8 D tc ad A) (hr : meth.sig.returnType = some .long) (hlk : meth.locks = false) : ∀ (v1 : Int64) (M : St), f_X8_fingerprint_b176 v1 M = some rr → ∀ (H : Heap) (locs : List Loc) (ls : Array Slot), va_P D vwCl (wl tc ad (cmb I M)) H → va_S A s.heap H locs → lv_has ls 5 [(1, .long v1)] → W p l e rm_X8_fingerprint s m args below meth c H locs 0 0 (MQ below (ql D tc ad A rr (cmb I M)) args s 0 0 A) (F0 m 176 ls []) := by
  intro v1 M h H locs ls hP hS hl
  unfold f_X8_fingerprint_b176 at h
  have hx := hX.1
  have hb := hX.2.1
  have hown := hX.2.2.2.1
  have hts := hX.2.2.2.2.1
  have hA := hX.2.2.2.2.2.2
  refine lv_lload_n hx hb dX8_fingerprint_176 rfl (lv_at hl 0 rfl) ?_
  cases h
  exact j_lret hX hr hlk hP hS dX8_fingerprint_177
set_option maxHeartbeats 4000000 in
set_option maxRecDepth 100000 in
theorem t_X8_fingerprint_l138 {p : Program} {l : Launch} {e : Env} {s : State} {m : MethodId} {args : Array Value} {below : List Frame} {meth : Method} {c : Code} {D : va_G} {tc : Tc} {ad : Nat → Nat} {A : Nat → Prop} {I : St} {rr : Int64} (hX : cx p s m args c cX8_fingerprint 5 RX8 D tc ad A) (hr : meth.sig.returnType = some .long) (hlk : meth.locks = false) : ∀ (n : Nat), ∀ (v1 : Int64) (v3 : Int32) (M : St), f_X8_fingerprint_l138 n v1 v3 M = some rr → ∀ (H : Heap) (locs : List Loc) (ls : Array Slot), va_P D vwCl (wl tc ad (cmb I M)) H → va_S A s.heap H locs → lv_has ls 5 [(0, .ref (ad 152)), (1, .long v1), (3, .int v3)] → W p l e rm_X8_fingerprint s m args below meth c H locs 0 0 (MQ below (ql D tc ad A rr (cmb I M)) args s 0 0 A) (F0 m 138 ls []) := by
  intro n
  induction n with
  | zero =>
    intro _ _ _ h
    cases h
  | succ n ih =>
    intro v1 v3 M h H locs ls hP hS hl
    rw [f_X8_fingerprint_l138] at h
    have hx := hX.1
    have hb := hX.2.1
    have hown := hX.2.2.2.1
    have hts := hX.2.2.2.2.1
    have hA := hX.2.2.2.2.2.2
    refine lv_iload_n hx hb dX8_fingerprint_138 rfl (lv_at hl 2 rfl) ?_
    refine lv_aload_n hx hb dX8_fingerprint_139 rfl (lv_at hl 0 rfl) ?_
    refine m_getq (t := 153) hX hP cok6 0 sge_152 s157_152 sk_152 (by decide) rfl q780 dX8_fingerprint_140 ?_
    refine lv_iconst (v := 4) hx hb dX8_fingerprint_143 kc_i4 ?_
    refine m_ald hX hP h (sge_153) s157_153 sk_153 sn_153 dX8_fingerprint_144 (fun h => ?_)
    refine x_icmp_ge (tgt := 176) hx hb dX8_fingerprint_145 (by decide) h (fun c7 h => ?_) (fun c7 h => ?_)
    · exact t_X8_fingerprint_b176 hX hr hlk  _ _ h _ _ _ hP hS (lv_sub hl [1] rfl)
    · refine lv_aload_n hx hb dX8_fingerprint_148 rfl (lv_at hl 0 rfl) ?_
      refine m_getq (t := 153) hX hP cok6 0 sge_152 s157_152 sk_152 (by decide) rfl q780 dX8_fingerprint_149 ?_
      refine lv_iconst (v := 0) hx hb dX8_fingerprint_152 kc_i0 ?_
      refine m_ald hX hP h (sge_153) s157_153 sk_153 sn_153 dX8_fingerprint_153 (fun h => ?_)
      refine x_if_eq (tgt := 176) hx hb dX8_fingerprint_154 (by decide) h (fun c8 h => ?_) (fun c8 h => ?_)
      · exact t_X8_fingerprint_b176 hX hr hlk  _ _ h _ _ _ hP hS (lv_sub hl [1] rfl)
      · refine lv_ldc2 (v := 31) hx hb hown (hts _ q1155) dX8_fingerprint_157 ?_
        refine lv_lload_n hx hb dX8_fingerprint_160 rfl (lv_at hl 1 rfl) ?_
        refine lv_lmul hx hb dX8_fingerprint_161 ?_
        refine x_letL h (fun y9 h => ?_)
        refine lv_aload_n hx hb dX8_fingerprint_162 rfl (lv_at hl 0 rfl) ?_
        refine lv_iload_n hx hb dX8_fingerprint_163 rfl (lv_at hl 2 rfl) ?_
        obtain ⟨r11, e10, h⟩ := ob1_some h
        refine j_i (j_runV (rest := [.long y9]) hX hP hl.1 Y_X8_digest cok6 (s157_152) sk_152 (c_X8_digest hA e10) ⟨rfl, rfl⟩ q1157 ⟨Nat.le_of_ble_eq_true rfl, Nat.le_of_ble_eq_true rfl⟩ rfl rfl (Nat.le_of_ble_eq_true rfl) dX8_fingerprint_164) hS (fun H locs hP hS => ?_)
        refine lv_i2l (v := r11.toInt64) hx hb dX8_fingerprint_167 rfl ?_
        refine lv_ladd hx hb dX8_fingerprint_168 ?_
        refine x_letL h (fun y12 h => ?_)
        refine lv_lstore_n (lv' := [(1, .long y12), (0, .ref (ad 152)), (3, .int v3)]) hx hb dX8_fingerprint_169 rfl hl (Nat.le_of_ble_eq_true rfl) rfl (fun ls hl => ?_)
        refine lv_iinc (v := (v3 + 1)) (lv' := [(3, .int (v3 + 1)), (1, .long y12), (0, .ref (ad 152))]) hx hb dX8_fingerprint_170 hl (k := 2) rfl rfl (Nat.le_of_ble_eq_true rfl) rfl (fun ls hl => ?_)
        refine lv_goto (tgt := 138) hx hb dX8_fingerprint_173 (by decide) ?_
        exact ih _ _ _ h _ _ _ hP hS (lv_sub hl [2, 1, 0] rfl)
set_option maxHeartbeats 4000000 in
set_option maxRecDepth 100000 in
theorem t_X8_fingerprint_b136 {p : Program} {l : Launch} {e : Env} {s : State} {m : MethodId} {args : Array Value} {below : List Frame} {meth : Method} {c : Code} {D : va_G} {tc : Tc} {ad : Nat → Nat} {A : Nat → Prop} {I : St} {rr : Int64} (hX : cx p s m args c cX8_fingerprint 5 RX8 D tc ad A) (hr : meth.sig.returnType = some .long) (hlk : meth.locks = false) : ∀ (v1 : Int64) (M : St), f_X8_fingerprint_b136 v1 M = some rr → ∀ (H : Heap) (locs : List Loc) (ls : Array Slot), va_P D vwCl (wl tc ad (cmb I M)) H → va_S A s.heap H locs → lv_has ls 5 [(0, .ref (ad 152)), (1, .long v1)] → W p l e rm_X8_fingerprint s m args below meth c H locs 0 0 (MQ below (ql D tc ad A rr (cmb I M)) args s 0 0 A) (F0 m 136 ls []) := by
  intro v1 M h H locs ls hP hS hl
  unfold f_X8_fingerprint_b136 at h
  have hx := hX.1
  have hb := hX.2.1
  have hown := hX.2.2.2.1
  have hts := hX.2.2.2.2.1
  have hA := hX.2.2.2.2.2.2
  refine lv_iconst (v := 0) hx hb dX8_fingerprint_136 kc_i0 ?_
  refine lv_istore_n (lv' := [(3, .int 0), (0, .ref (ad 152)), (1, .long v1)]) hx hb dX8_fingerprint_137 rfl hl (Nat.le_of_ble_eq_true rfl) rfl (fun ls hl => ?_)
  exact t_X8_fingerprint_l138 hX hr hlk  10000 _ _ _ h _ _ _ hP hS (lv_sub hl [1, 2, 0] rfl)
set_option maxHeartbeats 4000000 in
set_option maxRecDepth 100000 in
theorem t_X8_fingerprint_l103 {p : Program} {l : Launch} {e : Env} {s : State} {m : MethodId} {args : Array Value} {below : List Frame} {meth : Method} {c : Code} {D : va_G} {tc : Tc} {ad : Nat → Nat} {A : Nat → Prop} {I : St} {rr : Int64} (hX : cx p s m args c cX8_fingerprint 5 RX8 D tc ad A) (hr : meth.sig.returnType = some .long) (hlk : meth.locks = false) : ∀ (n : Nat), ∀ (v1 : Int64) (v3 : Int32) (M : St), f_X8_fingerprint_l103 n v1 v3 M = some rr → ∀ (H : Heap) (locs : List Loc) (ls : Array Slot), va_P D vwCl (wl tc ad (cmb I M)) H → va_S A s.heap H locs → lv_has ls 5 [(0, .ref (ad 152)), (1, .long v1), (3, .int v3)] → W p l e rm_X8_fingerprint s m args below meth c H locs 0 0 (MQ below (ql D tc ad A rr (cmb I M)) args s 0 0 A) (F0 m 103 ls []) := by
  intro n
  induction n with
  | zero =>
    intro _ _ _ h
    cases h
  | succ n ih =>
    intro v1 v3 M h H locs ls hP hS hl
    rw [f_X8_fingerprint_l103] at h
    have hx := hX.1
    have hb := hX.2.1
    have hown := hX.2.2.2.1
    have hts := hX.2.2.2.2.1
    have hA := hX.2.2.2.2.2.2
    refine lv_iload_n hx hb dX8_fingerprint_103 rfl (lv_at hl 2 rfl) ?_
    refine lv_iconst (v := 4) hx hb dX8_fingerprint_104 kc_i4 ?_
    refine x_icmp_ge (tgt := 136) hx hb dX8_fingerprint_105 (by decide) h (fun c13 h => ?_) (fun c13 h => ?_)
    · exact t_X8_fingerprint_b136 hX hr hlk  _ _ h _ _ _ hP hS (lv_sub hl [0, 1] rfl)
    · refine lv_aload_n hx hb dX8_fingerprint_108 rfl (lv_at hl 0 rfl) ?_
      refine m_getq (t := 153) hX hP cok6 0 sge_152 s157_152 sk_152 (by decide) rfl q780 dX8_fingerprint_109 ?_
      refine lv_iconst (v := 0) hx hb dX8_fingerprint_112 kc_i0 ?_
      refine m_ald hX hP h (sge_153) s157_153 sk_153 sn_153 dX8_fingerprint_113 (fun h => ?_)
      refine x_if_eq (tgt := 136) hx hb dX8_fingerprint_114 (by decide) h (fun c14 h => ?_) (fun c14 h => ?_)
      · exact t_X8_fingerprint_b136 hX hr hlk  _ _ h _ _ _ hP hS (lv_sub hl [0, 1] rfl)
      · refine lv_ldc2 (v := 31) hx hb hown (hts _ q1155) dX8_fingerprint_117 ?_
        refine lv_lload_n hx hb dX8_fingerprint_120 rfl (lv_at hl 1 rfl) ?_
        refine lv_lmul hx hb dX8_fingerprint_121 ?_
        refine x_letL h (fun y15 h => ?_)
        refine lv_aload_n hx hb dX8_fingerprint_122 rfl (lv_at hl 0 rfl) ?_
        refine lv_iload_n hx hb dX8_fingerprint_123 rfl (lv_at hl 2 rfl) ?_
        obtain ⟨r17, e16, h⟩ := ob1_some h
        refine j_i (j_runV (rest := [.long y15]) hX hP hl.1 Y_X8_setNumber cok6 (s157_152) sk_152 (c_X8_setNumber hA e16) ⟨rfl, rfl⟩ q1019 ⟨Nat.le_of_ble_eq_true rfl, Nat.le_of_ble_eq_true rfl⟩ rfl rfl (Nat.le_of_ble_eq_true rfl) dX8_fingerprint_124) hS (fun H locs hP hS => ?_)
        refine lv_i2l (v := r17.toInt64) hx hb dX8_fingerprint_127 rfl ?_
        refine lv_ladd hx hb dX8_fingerprint_128 ?_
        refine x_letL h (fun y18 h => ?_)
        refine lv_lstore_n (lv' := [(1, .long y18), (0, .ref (ad 152)), (3, .int v3)]) hx hb dX8_fingerprint_129 rfl hl (Nat.le_of_ble_eq_true rfl) rfl (fun ls hl => ?_)
        refine lv_iinc (v := (v3 + 1)) (lv' := [(3, .int (v3 + 1)), (1, .long y18), (0, .ref (ad 152))]) hx hb dX8_fingerprint_130 hl (k := 2) rfl rfl (Nat.le_of_ble_eq_true rfl) rfl (fun ls hl => ?_)
        refine lv_goto (tgt := 103) hx hb dX8_fingerprint_133 (by decide) ?_
        exact ih _ _ _ h _ _ _ hP hS (lv_sub hl [2, 1, 0] rfl)
set_option maxHeartbeats 4000000 in
set_option maxRecDepth 100000 in
theorem t_X8_fingerprint_l50 {p : Program} {l : Launch} {e : Env} {s : State} {m : MethodId} {args : Array Value} {below : List Frame} {meth : Method} {c : Code} {D : va_G} {tc : Tc} {ad : Nat → Nat} {A : Nat → Prop} {I : St} {rr : Int64} (hX : cx p s m args c cX8_fingerprint 5 RX8 D tc ad A) (hr : meth.sig.returnType = some .long) (hlk : meth.locks = false) : ∀ (n : Nat), ∀ (v1 : Int64) (v3 : Int32) (M : St), f_X8_fingerprint_l50 n v1 v3 M = some rr → ∀ (H : Heap) (locs : List Loc) (ls : Array Slot), va_P D vwCl (wl tc ad (cmb I M)) H → va_S A s.heap H locs → lv_has ls 5 [(0, .ref (ad 152)), (1, .long v1), (3, .int v3)] → W p l e rm_X8_fingerprint s m args below meth c H locs 0 0 (MQ below (ql D tc ad A rr (cmb I M)) args s 0 0 A) (F0 m 50 ls []) := by
  intro n
  induction n with
  | zero =>
    intro _ _ _ h
    cases h
  | succ n ih =>
    intro v1 v3 M h H locs ls hP hS hl
    rw [f_X8_fingerprint_l50] at h
    have hx := hX.1
    have hb := hX.2.1
    have hown := hX.2.2.2.1
    have hts := hX.2.2.2.2.1
    have hA := hX.2.2.2.2.2.2
    refine lv_iload_n hx hb dX8_fingerprint_50 rfl (lv_at hl 2 rfl) ?_
    refine lv_aload_n hx hb dX8_fingerprint_51 rfl (lv_at hl 0 rfl) ?_
    refine m_getq (t := 153) hX hP cok6 0 sge_152 s157_152 sk_152 (by decide) rfl q780 dX8_fingerprint_52 ?_
    refine lv_iconst (v := 4) hx hb dX8_fingerprint_55 kc_i4 ?_
    refine m_ald hX hP h (sge_153) s157_153 sk_153 sn_153 dX8_fingerprint_56 (fun h => ?_)
    refine x_icmp_ge (tgt := 101) hx hb dX8_fingerprint_57 (by decide) h (fun c19 h => ?_) (fun c19 h => ?_)
    · refine lv_iconst (v := 0) hx hb dX8_fingerprint_101 kc_i0 ?_
      refine lv_istore_n (lv' := [(3, .int 0), (0, .ref (ad 152)), (1, .long v1)]) hx hb dX8_fingerprint_102 rfl hl (Nat.le_of_ble_eq_true rfl) rfl (fun ls hl => ?_)
      exact t_X8_fingerprint_l103 hX hr hlk  10000 _ _ _ h _ _ _ hP hS (lv_sub hl [1, 2, 0] rfl)
    · refine lv_iconst (v := 0) hx hb dX8_fingerprint_60 kc_i0 ?_
      refine lv_istore (lv' := [(4, .int 0), (0, .ref (ad 152)), (1, .long v1), (3, .int v3)]) hx hb dX8_fingerprint_61 hl (Nat.le_of_ble_eq_true rfl) rfl (fun ls hl => ?_)
      exact t_X8_fingerprint_l63 hX hr hlk ih 10000 _ _ _ _ h _ _ _ hP hS (lv_sub hl [1, 2, 3, 0] rfl)
set_option maxHeartbeats 4000000 in
set_option maxRecDepth 100000 in
theorem c_X8_fingerprint {l : Launch} {D : va_G} {tc : Tc} {ad : Nat → Nat} {A : Nat → Prop} (hA : adok ad A) {I M : St}  {rr : Int64} (h : f_X8_fingerprint M = some rr) : Met l yX8_fingerprint (Cond.code yX8_fingerprint cX8_fingerprint 5 (some .long) :: tw) rm_X8_fingerprint (pre D tc ad [.ref (ad 152)] (cmb I M)) (ql D tc ad A rr (cmb I M)) 0 0 A := by
  unfold f_X8_fingerprint at h
  refine mk_met (own := RX8) (by decide +kernel) rfl hA (Nat.le_of_ble_eq_true rfl) ?_
  intro p e s m below meth c ls hX hr hlk hl hP hS
  have hl : lv_has ls 5 [(0, .ref (ad 152))] := hl
  have hx := hX.1
  have hb := hX.2.1
  have hown := hX.2.2.2.1
  have hts := hX.2.2.2.2.1
  refine lv_ldc2 (v := 31) hx hb hown (hts _ q1155) dX8_fingerprint_0 ?_
  refine lv_ldc2 (v := 31) hx hb hown (hts _ q1155) dX8_fingerprint_3 ?_
  refine lv_ldc2 (v := 31) hx hb hown (hts _ q1155) dX8_fingerprint_6 ?_
  refine lv_ldc2 (v := 713) hx hb hown (hts _ q1156) dX8_fingerprint_9 ?_
  refine lv_aload_n hx hb dX8_fingerprint_12 rfl (lv_at hl 0 rfl) ?_
  refine m_getq (t := 153) hX hP cok6 0 sge_152 s157_152 sk_152 (by decide) rfl q780 dX8_fingerprint_13 ?_
  refine lv_iconst (v := 0) hx hb dX8_fingerprint_16 kc_i0 ?_
  refine m_ald hX hP h (sge_153) s157_153 sk_153 sn_153 dX8_fingerprint_17 (fun h => ?_)
  refine lv_i2l (v := (M 1 (0 : Int32).toNatClampNeg).toInt64) hx hb dX8_fingerprint_18 rfl ?_
  refine lv_ladd hx hb dX8_fingerprint_19 ?_
  refine lv_lmul hx hb dX8_fingerprint_20 ?_
  refine x_letL h (fun y20 h => ?_)
  refine lv_aload_n hx hb dX8_fingerprint_21 rfl (lv_at hl 0 rfl) ?_
  refine m_getq (t := 153) hX hP cok6 0 sge_152 s157_152 sk_152 (by decide) rfl q780 dX8_fingerprint_22 ?_
  refine lv_iconst (v := 1) hx hb dX8_fingerprint_25 kc_i1 ?_
  refine m_ald hX hP h (sge_153) s157_153 sk_153 sn_153 dX8_fingerprint_26 (fun h => ?_)
  refine lv_i2l (v := (M 1 (1 : Int32).toNatClampNeg).toInt64) hx hb dX8_fingerprint_27 rfl ?_
  refine lv_ladd hx hb dX8_fingerprint_28 ?_
  refine lv_lmul hx hb dX8_fingerprint_29 ?_
  refine x_letL h (fun y21 h => ?_)
  refine lv_aload_n hx hb dX8_fingerprint_30 rfl (lv_at hl 0 rfl) ?_
  refine m_getq (t := 153) hX hP cok6 0 sge_152 s157_152 sk_152 (by decide) rfl q780 dX8_fingerprint_31 ?_
  refine lv_iconst (v := 2) hx hb dX8_fingerprint_34 kc_i2 ?_
  refine m_ald hX hP h (sge_153) s157_153 sk_153 sn_153 dX8_fingerprint_35 (fun h => ?_)
  refine lv_i2l (v := (M 1 (2 : Int32).toNatClampNeg).toInt64) hx hb dX8_fingerprint_36 rfl ?_
  refine lv_ladd hx hb dX8_fingerprint_37 ?_
  refine lv_lmul hx hb dX8_fingerprint_38 ?_
  refine x_letL h (fun y22 h => ?_)
  refine lv_aload_n hx hb dX8_fingerprint_39 rfl (lv_at hl 0 rfl) ?_
  refine m_getq (t := 153) hX hP cok6 0 sge_152 s157_152 sk_152 (by decide) rfl q780 dX8_fingerprint_40 ?_
  refine lv_iconst (v := 3) hx hb dX8_fingerprint_43 kc_i3 ?_
  refine m_ald hX hP h (sge_153) s157_153 sk_153 sn_153 dX8_fingerprint_44 (fun h => ?_)
  refine lv_i2l (v := (M 1 (3 : Int32).toNatClampNeg).toInt64) hx hb dX8_fingerprint_45 rfl ?_
  refine lv_ladd hx hb dX8_fingerprint_46 ?_
  refine x_letL h (fun y23 h => ?_)
  refine lv_lstore_n (lv' := [(1, .long y23), (0, .ref (ad 152))]) hx hb dX8_fingerprint_47 rfl hl (Nat.le_of_ble_eq_true rfl) rfl (fun ls hl => ?_)
  refine lv_iconst (v := 0) hx hb dX8_fingerprint_48 kc_i0 ?_
  refine lv_istore_n (lv' := [(3, .int 0), (1, .long y23), (0, .ref (ad 152))]) hx hb dX8_fingerprint_49 rfl hl (Nat.le_of_ble_eq_true rfl) rfl (fun ls hl => ?_)
  exact t_X8_fingerprint_l50 hX hr hlk  10000 _ _ _ h _ _ _ hP hS (lv_sub hl [2, 1, 0] rfl)
