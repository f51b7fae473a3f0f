/-! java/lang/Integer.bitCount(I)I -/
def rm_J6_bitCount_0f7a4 : Room := { frames := 0, cells := 0, slots := 0, locals := 0 }
theorem Y_J6_bitCount_0f7a4 : ys yJ6_bitCount_0f7a4 cJ6_bitCount_0f7a4 1 (some .int) 1 := ⟨q480, q479, q21, by decide +kernel⟩
set_option maxHeartbeats 4000000 in
set_option maxRecDepth 100000 in
theorem c_J6_bitCount_0f7a4 {l : Launch} {D : va_G} {tc : Tc} {ad : Nat → Nat} {A : Nat → Prop} (hA : adok ad A) {J : St} {v0 : Int32} {rr : Int32} (h : f_J6_bitCount_0f7a4 v0 = some rr) : Met l yJ6_bitCount_0f7a4 (Cond.code yJ6_bitCount_0f7a4 cJ6_bitCount_0f7a4 1 (some .int) :: tw) rm_J6_bitCount_0f7a4 (pre D tc ad [.int v0] J) (qi D tc ad A rr J) 0 0 A := by
  unfold f_J6_bitCount_0f7a4 at h
  refine mk_met (own := RJ6) (by decide +kernel) rfl hA (Nat.le_of_ble_eq_true rfl) ?_
  intro p e s m below meth c ls hX hr hlk hl hP hS
  have hl : lv_has ls 1 [(0, .int v0)] := hl
  have hx := hX.1
  have hb := hX.2.1
  have hown := hX.2.2.2.1
  have hts := hX.2.2.2.2.1
  refine lv_iload_n hx hb dJ6_bitCount_0f7a4_0 rfl (lv_at hl 0 rfl) ?_
  refine lv_iload_n hx hb dJ6_bitCount_0f7a4_1 rfl (lv_at hl 0 rfl) ?_
  refine lv_iconst (v := 1) hx hb dJ6_bitCount_0f7a4_2 kc_i1 ?_
  refine lv_iushr (v := iushr v0 1) hx hb dJ6_bitCount_0f7a4_3 rfl ?_
  refine x_let h (fun x1 h => ?_)
  refine lv_ldcw (v := 1431655765) hx hb hown (hts _ q481) dJ6_bitCount_0f7a4_4 ?_
  refine lv_iand hx hb dJ6_bitCount_0f7a4_7 ?_
  refine lv_isub hx hb dJ6_bitCount_0f7a4_8 ?_
  refine x_let h (fun x2 h => ?_)
  refine lv_istore_n (lv' := [(0, .int x2)]) hx hb dJ6_bitCount_0f7a4_9 rfl hl (Nat.le_of_ble_eq_true rfl) rfl (fun ls hl => ?_)
  refine lv_iload_n hx hb dJ6_bitCount_0f7a4_10 rfl (lv_at hl 0 rfl) ?_
  refine lv_ldcw (v := 858993459) hx hb hown (hts _ q482) dJ6_bitCount_0f7a4_11 ?_
  refine lv_iand hx hb dJ6_bitCount_0f7a4_14 ?_
  refine x_let h (fun x3 h => ?_)
  refine lv_iload_n hx hb dJ6_bitCount_0f7a4_15 rfl (lv_at hl 0 rfl) ?_
  refine lv_iconst (v := 2) hx hb dJ6_bitCount_0f7a4_16 kc_i2 ?_
  refine lv_iushr (v := iushr x2 2) hx hb dJ6_bitCount_0f7a4_17 rfl ?_
  refine x_let h (fun x4 h => ?_)
  refine lv_ldcw (v := 858993459) hx hb hown (hts _ q482) dJ6_bitCount_0f7a4_18 ?_
  refine lv_iand hx hb dJ6_bitCount_0f7a4_21 ?_
  refine lv_iadd hx hb dJ6_bitCount_0f7a4_22 ?_
  refine x_let h (fun x5 h => ?_)
  refine lv_istore_n (lv' := [(0, .int x5)]) hx hb dJ6_bitCount_0f7a4_23 rfl hl (Nat.le_of_ble_eq_true rfl) rfl (fun ls hl => ?_)
  refine lv_iload_n hx hb dJ6_bitCount_0f7a4_24 rfl (lv_at hl 0 rfl) ?_
  refine lv_iload_n hx hb dJ6_bitCount_0f7a4_25 rfl (lv_at hl 0 rfl) ?_
  refine lv_iconst (v := 4) hx hb dJ6_bitCount_0f7a4_26 kc_i4 ?_
  refine lv_iushr (v := iushr x5 4) hx hb dJ6_bitCount_0f7a4_27 rfl ?_
  refine lv_iadd hx hb dJ6_bitCount_0f7a4_28 ?_
  refine x_let h (fun x6 h => ?_)
  refine lv_ldcw (v := 252645135) hx hb hown (hts _ q483) dJ6_bitCount_0f7a4_29 ?_
  refine lv_iand hx hb dJ6_bitCount_0f7a4_32 ?_
  refine x_let h (fun x7 h => ?_)
  refine lv_istore_n (lv' := [(0, .int x7)]) hx hb dJ6_bitCount_0f7a4_33 rfl hl (Nat.le_of_ble_eq_true rfl) rfl (fun ls hl => ?_)
  refine lv_iload_n hx hb dJ6_bitCount_0f7a4_34 rfl (lv_at hl 0 rfl) ?_
  refine lv_iload_n hx hb dJ6_bitCount_0f7a4_35 rfl (lv_at hl 0 rfl) ?_
  refine lv_bipush (v := 8) hx hb dJ6_bitCount_0f7a4_36 kc_b8 ?_
  refine lv_iushr (v := iushr x7 8) hx hb dJ6_bitCount_0f7a4_38 rfl ?_
  refine lv_iadd hx hb dJ6_bitCount_0f7a4_39 ?_
  refine x_let h (fun x8 h => ?_)
  refine lv_istore_n (lv' := [(0, .int x8)]) hx hb dJ6_bitCount_0f7a4_40 rfl hl (Nat.le_of_ble_eq_true rfl) rfl (fun ls hl => ?_)
  refine lv_iload_n hx hb dJ6_bitCount_0f7a4_41 rfl (lv_at hl 0 rfl) ?_
  refine lv_iload_n hx hb dJ6_bitCount_0f7a4_42 rfl (lv_at hl 0 rfl) ?_
  refine lv_bipush (v := 16) hx hb dJ6_bitCount_0f7a4_43 kc_b16 ?_
  refine lv_iushr (v := iushr x8 16) hx hb dJ6_bitCount_0f7a4_45 rfl ?_
  refine lv_iadd hx hb dJ6_bitCount_0f7a4_46 ?_
  refine x_let h (fun x9 h => ?_)
  refine lv_istore_n (lv' := [(0, .int x9)]) hx hb dJ6_bitCount_0f7a4_47 rfl hl (Nat.le_of_ble_eq_true rfl) rfl (fun ls hl => ?_)
  refine lv_iload_n hx hb dJ6_bitCount_0f7a4_48 rfl (lv_at hl 0 rfl) ?_
  refine lv_bipush (v := 63) hx hb dJ6_bitCount_0f7a4_49 kc_b63 ?_
  refine lv_iand hx hb dJ6_bitCount_0f7a4_51 ?_
  cases h
  exact j_iret hX hr hlk hP hS dJ6_bitCount_0f7a4_52
/-! OwnerlessCoin$Lab.canStart()Z -/
def rm_X4_canStart : Room := { frames := 1, cells := 0, slots := 0, locals := 22 }
theorem Y_X4_canStart : yv yX4_canStart cX4_canStart 2 (some .boolean) 0 RX4 := ⟨q576, q574, q575, q13, by decide +kernel⟩
set_option maxHeartbeats 4000000 in
set_option maxRecDepth 100000 in
theorem t_X4_canStart_b41 {p : Program} {l : Launch} {e : Env} {s : State} {m : MethodId} {args : Array Value} {below : List Frame} {meth : Method} {c : Code} {D : va_G} {tc : Tc} {ad : Nat → Nat} {A : Nat → Prop} {M : St} {rr : Int32} (hX : cx p s m args c cX4_canStart 2 RX4 D tc ad A) (hr : meth.sig.returnType = some .boolean) (hlk : meth.locks = false) : ∀ (t0 : Int32) (I : St), f_X4_canStart_b41 t0 I = some rr → ∀ (H : Heap) (locs : List Loc) (ls : Array Slot), va_P D vwCl (wl tc ad (cmb I M)) H → va_S A s.heap H locs → lv_has ls 2 [] → W p l e rm_X4_canStart s m args below meth c H locs 0 0 (MQ below (qi D tc ad A rr (cmb I M)) args s 0 0 A) (F0 m 41 ls [.int t0]) := by
  intro t0 I h H locs ls hP hS hl
  unfold f_X4_canStart_b41 at h
  have hx := hX.1
  have hb := hX.2.1
  have hown := hX.2.2.2.1
  have hts := hX.2.2.2.2.1
  have hA := hX.2.2.2.2.2.2
  obtain ⟨gz, h⟩ := ck_some h
  cases h
  exact j_zret hX hr hlk hP hS (isB_or gz) dX4_canStart_41
set_option maxHeartbeats 4000000 in
set_option maxRecDepth 100000 in
theorem t_X4_canStart_b36 {p : Program} {l : Launch} {e : Env} {s : State} {m : MethodId} {args : Array Value} {below : List Frame} {meth : Method} {c : Code} {D : va_G} {tc : Tc} {ad : Nat → Nat} {A : Nat → Prop} {M : St} {rr : Int32} (hX : cx p s m args c cX4_canStart 2 RX4 D tc ad A) (hr : meth.sig.returnType = some .boolean) (hlk : meth.locks = false) : ∀ (I : St), f_X4_canStart_b36 I = some rr → ∀ (H : Heap) (locs : List Loc) (ls : Array Slot), va_P D vwCl (wl tc ad (cmb I M)) H → va_S A s.heap H locs → lv_has ls 2 [] → W p l e rm_X4_canStart s m args below meth c H locs 0 0 (MQ below (qi D tc ad A rr (cmb I M)) args s 0 0 A) (F0 m 36 ls []) := by
  intro I h H locs ls hP hS hl
  unfold f_X4_canStart_b36 at h
  have hx := hX.1
  have hb := hX.2.1
  have hown := hX.2.2.2.1
  have hts := hX.2.2.2.2.1
  have hA := hX.2.2.2.2.2.2
  refine lv_iconst (v := 1) hx hb dX4_canStart_36 kc_i1 ?_
  refine lv_goto (tgt := 41) hx hb dX4_canStart_37 (by decide) ?_
  exact t_X4_canStart_b41 hX hr hlk  _ _ h _ _ _ hP hS (lv_sub hl [] rfl)
set_option maxHeartbeats 4000000 in
set_option maxRecDepth 100000 in
theorem t_X4_canStart_b40 {p : Program} {l : Launch} {e : Env} {s : State} {m : MethodId} {args : Array Value} {below : List Frame} {meth : Method} {c : Code} {D : va_G} {tc : Tc} {ad : Nat → Nat} {A : Nat → Prop} {M : St} {rr : Int32} (hX : cx p s m args c cX4_canStart 2 RX4 D tc ad A) (hr : meth.sig.returnType = some .boolean) (hlk : meth.locks = false) : ∀ (I : St), f_X4_canStart_b40 I = some rr → ∀ (H : Heap) (locs : List Loc) (ls : Array Slot), va_P D vwCl (wl tc ad (cmb I M)) H → va_S A s.heap H locs → lv_has ls 2 [] → W p l e rm_X4_canStart s m args below meth c H locs 0 0 (MQ below (qi D tc ad A rr (cmb I M)) args s 0 0 A) (F0 m 40 ls []) := by
  intro I h H locs ls hP hS hl
  unfold f_X4_canStart_b40 at h
  have hx := hX.1
  have hb := hX.2.1
  have hown := hX.2.2.2.1
  have hts := hX.2.2.2.2.1
  have hA := hX.2.2.2.2.2.2
  refine lv_iconst (v := 0) hx hb dX4_canStart_40 kc_i0 ?_
  exact t_X4_canStart_b41 hX hr hlk  _ _ h _ _ _ hP hS (lv_sub hl [] rfl)
set_option maxHeartbeats 4000000 in
set_option maxRecDepth 100000 in
theorem c_X4_canStart {l : Launch} {D : va_G} {tc : Tc} {ad : Nat → Nat} {A : Nat → Prop} (hA : adok ad A) {I M : St}  {rr : Int32} (h : f_X4_canStart I = some rr) : Met l yX4_canStart (Cond.code yX4_canStart cX4_canStart 2 (some .boolean) :: tw) rm_X4_canStart (pre D tc ad [.ref (ad 0)] (cmb I M)) (qi D tc ad A rr (cmb I M)) 0 0 A := by
  unfold f_X4_canStart at h
  refine mk_met (own := RX4) (by decide +kernel) rfl hA (Nat.le_of_ble_eq_true rfl) ?_
  intro p e s m below meth c ls hX hr hlk hl hP hS
  have hl : lv_has ls 2 [(0, .ref (ad 0))] := hl
  have hx := hX.1
  have hb := hX.2.1
  have hown := hX.2.2.2.1
  have hts := hX.2.2.2.2.1
  refine lv_aload_n hx hb dX4_canStart_0 rfl (lv_at hl 0 rfl) ?_
  obtain ⟨r2, e1, h⟩ := ob1_some h
  refine j_i (j_runV (rest := []) hX hP hl.1 Y_X4_ableToPay cok3 (lt157 sl_0) sk_0 (c_X4_ableToPay hA e1) ⟨rfl, rfl⟩ q577 ⟨Nat.le_of_ble_eq_true rfl, Nat.le_of_ble_eq_true rfl⟩ rfl rfl (Nat.le_of_ble_eq_true rfl) dX4_canStart_1) hS (fun H locs hP hS => ?_)
  obtain ⟨r4, e3, h⟩ := ob1_some h
  refine j_i (j_runS (rest := []) hX hP hl.1 Y_J6_bitCount_0f7a4 (c_J6_bitCount_0f7a4 hA e3) ⟨rfl, rfl⟩ q478 ⟨Nat.le_of_ble_eq_true rfl, Nat.le_of_ble_eq_true rfl⟩ rfl rfl (Nat.le_of_ble_eq_true rfl) dX4_canStart_4) hS (fun H locs hP hS => ?_)
  refine lv_istore_n (lv' := [(1, .int r4), (0, .ref (ad 0))]) hx hb dX4_canStart_7 rfl hl (Nat.le_of_ble_eq_true rfl) rfl (fun ls hl => ?_)
  refine lv_aload_n hx hb dX4_canStart_8 rfl (lv_at hl 1 rfl) ?_
  refine r_get hX hP cok3 9 sl_0 sk_0 (by decide) rfl q161 dX4_canStart_9 ?_
  refine x_if_ne (tgt := 40) hx hb dX4_canStart_12 (by decide) h (fun c5 h => ?_) (fun c5 h => ?_)
  · exact t_X4_canStart_b40 hX hr hlk  _ h _ _ _ hP hS (lv_sub hl [] rfl)
  · refine lv_iload_n hx hb dX4_canStart_15 rfl (lv_at hl 0 rfl) ?_
    refine lv_iconst (v := 2) hx hb dX4_canStart_16 kc_i2 ?_
    refine x_icmp_lt (tgt := 40) hx hb dX4_canStart_17 (by decide) h (fun c6 h => ?_) (fun c6 h => ?_)
    · exact t_X4_canStart_b40 hX hr hlk  _ h _ _ _ hP hS (lv_sub hl [] rfl)
    · refine lv_aload_n hx hb dX4_canStart_20 rfl (lv_at hl 1 rfl) ?_
      refine r_get hX hP cok3 5 sl_0 sk_0 (by decide) rfl q151 dX4_canStart_21 ?_
      refine x_let h (fun x7 h => ?_)
      refine lv_iconst (v := 1) hx hb dX4_canStart_24 kc_i1 ?_
      refine x_icmp_ne (tgt := 36) hx hb dX4_canStart_25 (by decide) h (fun c8 h => ?_) (fun c8 h => ?_)
      · exact t_X4_canStart_b36 hX hr hlk  _ h _ _ _ hP hS (lv_sub hl [] rfl)
      · refine lv_iload_n hx hb dX4_canStart_28 rfl (lv_at hl 0 rfl) ?_
        refine lv_aload_n hx hb dX4_canStart_29 rfl (lv_at hl 1 rfl) ?_
        refine r_get hX hP cok3 6 sl_0 sk_0 (by decide) rfl q154 dX4_canStart_30 ?_
        refine x_icmp_lt (tgt := 40) hx hb dX4_canStart_33 (by decide) h (fun c9 h => ?_) (fun c9 h => ?_)
        · exact t_X4_canStart_b40 hX hr hlk  _ h _ _ _ hP hS (lv_sub hl [] rfl)
        · exact t_X4_canStart_b36 hX hr hlk  _ h _ _ _ hP hS (lv_sub hl [] rfl)
/-! OwnerlessCoin$Lab.start()V -/
def rm_X4_start : Room := { frames := 1, cells := 0, slots := 0, locals := 22 }
theorem Y_X4_start : yv yX4_start cX4_start 1 none 0 RX4 := ⟨q584, q582, q583, q13, by decide +kernel⟩
set_option maxHeartbeats 4000000 in
set_option maxRecDepth 100000 in
theorem c_X4_start {l : Launch} {D : va_G} {tc : Tc} {ad : Nat → Nat} {A : Nat → Prop} (hA : adok ad A) {I M : St}  {II : St} (h : f_X4_start I = some II) : Met l yX4_start (Cond.code yX4_start cX4_start 1 none :: tw) rm_X4_start (pre D tc ad [.ref (ad 0)] (cmb I M)) (qv D tc ad A (cmb II M)) 0 0 A := by
  unfold f_X4_start at h
  refine mk_met (own := RX4) (by decide +kernel) rfl hA (Nat.le_of_ble_eq_true rfl) ?_
  intro p e s m below meth c ls hX hr hlk hl hP hS
  have hl : lv_has ls 1 [(0, .ref (ad 0))] := hl
  have hx := hX.1
  have hb := hX.2.1
  have hown := hX.2.2.2.1
  have hts := hX.2.2.2.2.1
  refine lv_aload_n hx hb dX4_start_0 rfl (lv_at hl 0 rfl) ?_
  refine lv_iconst (v := 1) hx hb dX4_start_1 kc_i1 ?_
  refine r_put hX hP hS cok3 9 h sl_0 sk_0 (by decide) rfl rfl q161 rfl dX4_start_2 (fun I1 H locs h hP hS => ?_)
  refine lv_aload_n hx hb dX4_start_5 rfl (lv_at hl 0 rfl) ?_
  refine lv_aload_n hx hb dX4_start_6 rfl (lv_at hl 0 rfl) ?_
  obtain ⟨r3, e2, h⟩ := ob1_some h
  refine j_i (j_runV (rest := [.ref (ad 0)]) hX hP hl.1 Y_X4_ableToPay cok3 (lt157 sl_0) sk_0 (c_X4_ableToPay hA e2) ⟨rfl, rfl⟩ q577 ⟨Nat.le_of_ble_eq_true rfl, Nat.le_of_ble_eq_true rfl⟩ rfl rfl (Nat.le_of_ble_eq_true rfl) dX4_start_7) hS (fun H locs hP hS => ?_)
  refine r_put hX hP hS cok3 10 h sl_0 sk_0 (by decide) rfl rfl q164 rfl dX4_start_10 (fun I4 H locs h hP hS => ?_)
  refine lv_aload_n hx hb dX4_start_13 rfl (lv_at hl 0 rfl) ?_
  refine lv_iconst (v := 0) hx hb dX4_start_14 kc_i0 ?_
  refine r_put hX hP hS cok3 11 h sl_0 sk_0 (by decide) rfl rfl q167 rfl dX4_start_15 (fun I5 H locs h hP hS => ?_)
  refine lv_aload_n hx hb dX4_start_18 rfl (lv_at hl 0 rfl) ?_
  refine lv_iconst (v := 0) hx hb dX4_start_19 kc_i0 ?_
  refine r_put hX hP hS cok3 12 h sl_0 sk_0 (by decide) rfl rfl q170 rfl dX4_start_20 (fun I6 H locs h hP hS => ?_)
  refine lv_aload_n hx hb dX4_start_23 rfl (lv_at hl 0 rfl) ?_
  refine lv_iconst (v := 0) hx hb dX4_start_24 kc_i0 ?_
  refine r_put hX hP hS cok3 13 h sl_0 sk_0 (by decide) rfl rfl q173 rfl dX4_start_25 (fun I7 H locs h hP hS => ?_)
  cases h
  exact j_vret hX hr hlk hP hS dX4_start_28
/-! OwnerlessCoin.begin()I -/
def rm_X7_begin : Room := { frames := 4, cells := 0, slots := 0, locals := 94 }
theorem Y_X7_begin : yv yX7_begin cX7_begin 1 (some .int) 0 RX7 := ⟨q572, q570, q571, q12, by decide +kernel⟩
set_option maxHeartbeats 4000000 in
set_option maxRecDepth 100000 in
theorem c_X7_begin {l : Launch} {D : va_G} {tc : Tc} {ad : Nat → Nat} {A : Nat → Prop} (hA : adok ad A) {I M : St}  {rr : Int32} {II : St} (h : f_X7_begin I = some (rr, II)) : Met l yX7_begin (Cond.code yX7_begin cX7_begin 1 (some .int) :: tw) rm_X7_begin (pre D tc ad [.ref (ad 145)] (cmb I M)) (qi D tc ad A rr (cmb II M)) 0 0 A := by
  unfold f_X7_begin at h
  refine mk_met (own := RX7) (by decide +kernel) rfl hA (Nat.le_of_ble_eq_true rfl) ?_
  intro p e s m below meth c ls hX hr hlk hl hP hS
  have hl : lv_has ls 1 [(0, .ref (ad 145))] := hl
  have hx := hX.1
  have hb := hX.2.1
  have hown := hX.2.2.2.1
  have hts := hX.2.2.2.2.1
  refine lv_aload_n hx hb dX7_begin_0 rfl (lv_at hl 0 rfl) ?_
  refine r_getq (t := 0) hX hP cok5 0 sl_145 sk_145 (by decide) rfl q243 dX7_begin_1 ?_
  obtain ⟨r2, e1, h⟩ := ob1_some h
  refine j_i (j_runV (rest := []) hX hP hl.1 Y_X4_canStart cok3 (lt157 sl_0) sk_0 (c_X4_canStart hA e1) ⟨rfl, rfl⟩ q573 ⟨Nat.le_of_ble_eq_true rfl, Nat.le_of_ble_eq_true rfl⟩ rfl rfl (Nat.le_of_ble_eq_true rfl) dX7_begin_4) hS (fun H locs hP hS => ?_)
  refine x_if_ne (tgt := 13) hx hb dX7_begin_7 (by decide) h (fun c3 h => ?_) (fun c3 h => ?_)
  · refine lv_aload_n hx hb dX7_begin_13 rfl (lv_at hl 0 rfl) ?_
    refine r_getq (t := 146) hX hP cok5 1 sl_145 sk_145 (by decide) rfl q244 dX7_begin_14 ?_
    refine lv_aload_n hx hb dX7_begin_17 rfl (lv_at hl 0 rfl) ?_
    refine r_getq (t := 0) hX hP cok5 0 sl_145 sk_145 (by decide) rfl q243 dX7_begin_18 ?_
    obtain ⟨I5, e4, h⟩ := ob1_some h
    refine j_v (j_runV (rest := []) hX hP hl.1 Y_X3_remember cok2 (lt157 sl_146) sk_146 (c_X3_remember hA e4) ⟨rfl, rfl⟩ q261 ⟨Nat.le_of_ble_eq_true rfl, Nat.le_of_ble_eq_true rfl⟩ rfl rfl (Nat.le_of_ble_eq_true rfl) dX7_begin_21) hS (fun H locs hP hS => ?_)
    refine lv_aload_n hx hb dX7_begin_24 rfl (lv_at hl 0 rfl) ?_
    refine r_getq (t := 0) hX hP cok5 0 sl_145 sk_145 (by decide) rfl q243 dX7_begin_25 ?_
    obtain ⟨I7, e6, h⟩ := ob1_some h
    refine j_v (j_runV (rest := []) hX hP hl.1 Y_X4_start cok3 (lt157 sl_0) sk_0 (c_X4_start hA e6) ⟨rfl, rfl⟩ q581 ⟨Nat.le_of_ble_eq_true rfl, Nat.le_of_ble_eq_true rfl⟩ rfl rfl (Nat.le_of_ble_eq_true rfl) dX7_begin_28) hS (fun H locs hP hS => ?_)
    refine lv_aload_n hx hb dX7_begin_31 rfl (lv_at hl 0 rfl) ?_
    refine r_getq (t := 0) hX hP cok5 0 sl_145 sk_145 (by decide) rfl q243 dX7_begin_32 ?_
    refine r_getq (t := 3) hX hP cok3 2 sl_0 sk_0 (by decide) rfl q146 dX7_begin_35 ?_
    refine r_get hX hP cok0 0 sl_3 sk_3 (by decide) rfl q46 dX7_begin_38 ?_
    cases h
    exact j_iret hX hr hlk hP hS dX7_begin_41
  · refine lv_bipush (v := (-2)) hx hb dX7_begin_10 kc_bm2 ?_
    cases h
    exact j_iret hX hr hlk hP hS dX7_begin_12
/-! OwnerlessCoin.has(II)Z -/
def rm_X7_has : Room := { frames := 0, cells := 0, slots := 0, locals := 0 }
theorem Y_X7_has : ys yX7_has cX7_has 2 (some .boolean) 2 := ⟨q349, q348, q12, by decide +kernel⟩
set_option maxHeartbeats 4000000 in
set_option maxRecDepth 100000 in
theorem t_X7_has_b14 {p : Program} {l : Launch} {e : Env} {s : State} {m : MethodId} {args : Array Value} {below : List Frame} {meth : Method} {c : Code} {D : va_G} {tc : Tc} {ad : Nat → Nat} {A : Nat → Prop} {J : St} {rr : Int32} (hX : cx p s m args c cX7_has 2 RX7 D tc ad A) (hr : meth.sig.returnType = some .boolean) (hlk : meth.locks = false) : ∀ (t0 : Int32), f_X7_has_b14 t0 = some rr → ∀ (H : Heap) (locs : List Loc) (ls : Array Slot), va_P D vwCl (wl tc ad J) H → va_S A s.heap H locs → lv_has ls 2 [] → W p l e rm_X7_has s m args below meth c H locs 0 0 (MQ below (qi D tc ad A rr J) args s 0 0 A) (F0 m 14 ls [.int t0]) := by
  intro t0 h H locs ls hP hS hl
  unfold f_X7_has_b14 at h
  have hx := hX.1
  have hb := hX.2.1
  have hown := hX.2.2.2.1
  have hts := hX.2.2.2.2.1
  have hA := hX.2.2.2.2.2.2
  obtain ⟨gz, h⟩ := ck_some h
  cases h
  exact j_zret hX hr hlk hP hS (isB_or gz) dX7_has_14
set_option maxHeartbeats 4000000 in
set_option maxRecDepth 100000 in
theorem c_X7_has {l : Launch} {D : va_G} {tc : Tc} {ad : Nat → Nat} {A : Nat → Prop} (hA : adok ad A) {J : St} {v0 : Int32} {v1 : Int32} {rr : Int32} (h : f_X7_has v0 v1 = some rr) : Met l yX7_has (Cond.code yX7_has cX7_has 2 (some .boolean) :: tw) rm_X7_has (pre D tc ad [.int v0, .int v1] J) (qi D tc ad A rr J) 0 0 A := by
  unfold f_X7_has at h
  refine mk_met (own := RX7) (by decide +kernel) rfl hA (Nat.le_of_ble_eq_true rfl) ?_
  intro p e s m below meth c ls hX hr hlk hl hP hS
  have hl : lv_has ls 2 [(0, .int v0), (1, .int v1)] := hl
  have hx := hX.1
  have hb := hX.2.1
  have hown := hX.2.2.2.1
  have hts := hX.2.2.2.2.1
  refine lv_iload_n hx hb dX7_has_0 rfl (lv_at hl 0 rfl) ?_
  refine lv_iload_n hx hb dX7_has_1 rfl (lv_at hl 1 rfl) ?_
  refine lv_iushr (v := iushr v0 v1) hx hb dX7_has_2 rfl ?_
  refine x_let h (fun x1 h => ?_)
  refine lv_iconst (v := 1) hx hb dX7_has_3 kc_i1 ?_
  refine lv_iand hx hb dX7_has_4 ?_
  refine x_let h (fun x2 h => ?_)
  refine lv_iconst (v := 1) hx hb dX7_has_5 kc_i1 ?_
  refine x_icmp_ne (tgt := 13) hx hb dX7_has_6 (by decide) h (fun c3 h => ?_) (fun c3 h => ?_)
  · refine lv_iconst (v := 0) hx hb dX7_has_13 kc_i0 ?_
    exact t_X7_has_b14 hX hr hlk  _ h _ _ _ hP hS (lv_sub hl [] rfl)
  · refine lv_iconst (v := 1) hx hb dX7_has_9 kc_i1 ?_
    refine lv_goto (tgt := 14) hx hb dX7_has_10 (by decide) ?_
    exact t_X7_has_b14 hX hr hlk  _ h _ _ _ hP hS (lv_sub hl [] rfl)
/-! OwnerlessCoin.mix(II)I -/
def rm_X7_mix : Room := { frames := 0, cells := 0, slots := 0, locals := 0 }
theorem Y_X7_mix : ys yX7_mix cX7_mix 3 (some .int) 2 := ⟨q378, q377, q12, by decide +kernel⟩
set_option maxHeartbeats 4000000 in
set_option maxRecDepth 100000 in
theorem c_X7_mix {l : Launch} {D : va_G} {tc : Tc} {ad : Nat → Nat} {A : Nat → Prop} (hA : adok ad A) {J : St} {v0 : Int32} {v1 : Int32} {rr : Int32} (h : f_X7_mix v0 v1 = some rr) : Met l yX7_mix (Cond.code yX7_mix cX7_mix 3 (some .int) :: tw) rm_X7_mix (pre D tc ad [.int v0, .int v1] J) (qi D tc ad A rr J) 0 0 A := by
  unfold f_X7_mix at h
  refine mk_met (own := RX7) (by decide +kernel) rfl hA (Nat.le_of_ble_eq_true rfl) ?_
  intro p e s m below meth c ls hX hr hlk hl hP hS
  have hl : lv_has ls 3 [(0, .int v0), (1, .int v1)] := hl
  have hx := hX.1
  have hb := hX.2.1
  have hown := hX.2.2.2.1
  have hts := hX.2.2.2.2.1
  refine lv_iload_n hx hb dX7_mix_0 rfl (lv_at hl 0 rfl) ?_
  refine lv_iload_n hx hb dX7_mix_1 rfl (lv_at hl 1 rfl) ?_
  refine lv_ixor hx hb dX7_mix_2 ?_
  refine x_let h (fun x1 h => ?_)
  refine lv_ldcw (v := (-1640531535)) hx hb hown (hts _ q379) dX7_mix_3 ?_
  refine lv_imul hx hb dX7_mix_6 ?_
  refine x_let h (fun x2 h => ?_)
  refine lv_istore_n (lv' := [(2, .int x2), (0, .int v0), (1, .int v1)]) hx hb dX7_mix_7 rfl hl (Nat.le_of_ble_eq_true rfl) rfl (fun ls hl => ?_)
  refine lv_iload_n hx hb dX7_mix_8 rfl (lv_at hl 0 rfl) ?_
  refine lv_iload_n hx hb dX7_mix_9 rfl (lv_at hl 0 rfl) ?_
  refine lv_bipush (v := 15) hx hb dX7_mix_10 kc_b15 ?_
  refine lv_iushr (v := iushr x2 15) hx hb dX7_mix_12 rfl ?_
  refine lv_ixor hx hb dX7_mix_13 ?_
  cases h
  exact j_iret hX hr hlk hP hS dX7_mix_14
/-! OwnerlessCoin$Lab.digestOf(II)I -/
def rm_X4_digestOf : Room := { frames := 1, cells := 0, slots := 0, locals := 22 }
theorem Y_X4_digestOf : yv yX4_digestOf cX4_digestOf 3 (some .int) 2 RX4 := ⟨q375, q373, q374, q13, by decide +kernel⟩
set_option maxHeartbeats 4000000 in
set_option maxRecDepth 100000 in
theorem c_X4_digestOf {l : Launch} {D : va_G} {tc : Tc} {ad : Nat → Nat} {A : Nat → Prop} (hA : adok ad A) {I M : St} {v1 : Int32} {v2 : Int32} {rr : Int32} (h : f_X4_digestOf v1 v2 I = some rr) : Met l yX4_digestOf (Cond.code yX4_digestOf cX4_digestOf 3 (some .int) :: tw) rm_X4_digestOf (pre D tc ad [.ref (ad 0), .int v1, .int v2] (cmb I M)) (qi D tc ad A rr (cmb I M)) 0 0 A := by
  unfold f_X4_digestOf at h
  refine mk_met (own := RX4) (by decide +kernel) rfl hA (Nat.le_of_ble_eq_true rfl) ?_
  intro p e s m below meth c ls hX hr hlk hl hP hS
  have hl : lv_has ls 3 [(0, .ref (ad 0)), (1, .int v1), (2, .int v2)] := hl
  have hx := hX.1
  have hb := hX.2.1
  have hown := hX.2.2.2.1
  have hts := hX.2.2.2.2.1
  refine lv_bipush (v := 17) hx hb dX4_digestOf_0 kc_b17 ?_
  refine lv_aload_n hx hb dX4_digestOf_2 rfl (lv_at hl 0 rfl) ?_
  refine r_getq (t := 3) hX hP cok3 2 sl_0 sk_0 (by decide) rfl q145 dX4_digestOf_3 ?_
  refine r_get hX hP cok0 0 sl_3 sk_3 (by decide) rfl q47 dX4_digestOf_6 ?_
  obtain ⟨r2, e1, h⟩ := ob1_some h
  refine j_i (j_runN (rest := []) hX hP hl.1 Y_X7_mix (c_X7_mix hA e1) ⟨rfl, rfl⟩ nw4 ⟨Nat.le_of_ble_eq_true rfl, Nat.le_of_ble_eq_true rfl⟩ rfl rfl (Nat.le_of_ble_eq_true rfl) dX4_digestOf_9) hS (fun H locs hP hS => ?_)
  refine lv_iload_n hx hb dX4_digestOf_12 rfl (lv_at hl 1 rfl) ?_
  obtain ⟨r4, e3, h⟩ := ob1_some h
  refine j_i (j_runN (rest := []) hX hP hl.1 Y_X7_mix (c_X7_mix hA e3) ⟨rfl, rfl⟩ nw4 ⟨Nat.le_of_ble_eq_true rfl, Nat.le_of_ble_eq_true rfl⟩ rfl rfl (Nat.le_of_ble_eq_true rfl) dX4_digestOf_13) hS (fun H locs hP hS => ?_)
  refine lv_iload_n hx hb dX4_digestOf_16 rfl (lv_at hl 2 rfl) ?_
  obtain ⟨r6, e5, h⟩ := ob1_some h
  refine j_i (j_runN (rest := []) hX hP hl.1 Y_X7_mix (c_X7_mix hA e5) ⟨rfl, rfl⟩ nw4 ⟨Nat.le_of_ble_eq_true rfl, Nat.le_of_ble_eq_true rfl⟩ rfl rfl (Nat.le_of_ble_eq_true rfl) dX4_digestOf_17) hS (fun H locs hP hS => ?_)
  cases h
  exact j_iret hX hr hlk hP hS dX4_digestOf_20
/-! OwnerlessCoin$Lab.isTaken(I)Z -/
def rm_X4_isTaken : Room := { frames := 1, cells := 0, slots := 0, locals := 21 }
theorem Y_X4_isTaken : yv yX4_isTaken cX4_isTaken 3 (some .boolean) 1 RX4 := ⟨q383, q381, q382, q13, by decide +kernel⟩
set_option maxHeartbeats 4000000 in
set_option maxRecDepth 100000 in
theorem t_X4_isTaken_b34 {p : Program} {l : Launch} {e : Env} {s : State} {m : MethodId} {args : Array Value} {below : List Frame} {meth : Method} {c : Code} {D : va_G} {tc : Tc} {ad : Nat → Nat} {A : Nat → Prop} {M : St} {rr : Int32} (hX : cx p s m args c cX4_isTaken 3 RX4 D tc ad A) (hr : meth.sig.returnType = some .boolean) (hlk : meth.locks = false) {K2 : Int32 → Int32 → St → Option (Int32)} (hK2 : ∀ (v1 : Int32) (v2 : Int32) (I : St), K2 v1 v2 I = some rr → ∀ (H : Heap) (locs : List Loc) (ls : Array Slot), va_P D vwCl (wl tc ad (cmb I M)) H → va_S A s.heap H locs → lv_has ls 3 [(0, .ref (ad 0)), (1, .int v1), (2, .int v2)] → W p l e rm_X4_isTaken s m args below meth c H locs 0 0 (MQ below (qi D tc ad A rr (cmb I M)) args s 0 0 A) (F0 m 2 ls [])) : ∀ (v1 : Int32) (v2 : Int32) (I : St), f_X4_isTaken_b34 K2 v1 v2 I = some rr → ∀ (H : Heap) (locs : List Loc) (ls : Array Slot), va_P D vwCl (wl tc ad (cmb I M)) H → va_S A s.heap H locs → lv_has ls 3 [(0, .ref (ad 0)), (1, .int v1), (2, .int v2)] → W p l e rm_X4_isTaken s m args below meth c H locs 0 0 (MQ below (qi D tc ad A rr (cmb I M)) args s 0 0 A) (F0 m 34 ls []) := by
  intro v1 v2 I h H locs ls hP hS hl
  unfold f_X4_isTaken_b34 at h
  have hx := hX.1
  have hb := hX.2.1
  have hown := hX.2.2.2.1
  have hts := hX.2.2.2.2.1
  have hA := hX.2.2.2.2.2.2
  refine lv_iinc (v := (v2 + 1)) (lv' := [(2, .int (v2 + 1)), (0, .ref (ad 0)), (1, .int v1)]) hx hb dX4_isTaken_34 hl (k := 2) rfl rfl (Nat.le_of_ble_eq_true rfl) rfl (fun ls hl => ?_)
  refine lv_goto (tgt := 2) hx hb dX4_isTaken_37 (by decide) ?_
  exact hK2 _ _ _ h _ _ _ hP hS (lv_sub hl [1, 2, 0] rfl)
set_option maxHeartbeats 4000000 in
set_option maxRecDepth 100000 in
theorem t_X4_isTaken_l2 {p : Program} {l : Launch} {e : Env} {s : State} {m : MethodId} {args : Array Value} {below : List Frame} {meth : Method} {c : Code} {D : va_G} {tc : Tc} {ad : Nat → Nat} {A : Nat → Prop} {M : St} {rr : Int32} (hX : cx p s m args c cX4_isTaken 3 RX4 D tc ad A) (hr : meth.sig.returnType = some .boolean) (hlk : meth.locks = false) : ∀ (n : Nat), ∀ (v1 : Int32) (v2 : Int32) (I : St), f_X4_isTaken_l2 n v1 v2 I = some rr → ∀ (H : Heap) (locs : List Loc) (ls : Array Slot), va_P D vwCl (wl tc ad (cmb I M)) H → va_S A s.heap H locs → lv_has ls 3 [(0, .ref (ad 0)), (1, .int v1), (2, .int v2)] → W p l e rm_X4_isTaken s m args below meth c H locs 0 0 (MQ below (qi D tc ad A rr (cmb I M)) args s 0 0 A) (F0 m 2 ls []) := by
  intro n
  induction n with
  | zero =>
    intro _ _ _ h
    cases h
  | succ n ih =>
    intro v1 v2 I h H locs ls hP hS hl
    rw [f_X4_isTaken_l2] at h
    have hx := hX.1
    have hb := hX.2.1
    have hown := hX.2.2.2.1
    have hts := hX.2.2.2.2.1
    have hA := hX.2.2.2.2.2.2
    refine lv_iload_n hx hb dX4_isTaken_2 rfl (lv_at hl 2 rfl) ?_
    refine lv_bipush (v := 8) hx hb dX4_isTaken_3 kc_b8 ?_
    refine x_icmp_ge (tgt := 40) hx hb dX4_isTaken_5 (by decide) h (fun c1 h => ?_) (fun c1 h => ?_)
    · refine lv_iconst (v := 0) hx hb dX4_isTaken_40 kc_i0 ?_
      cases h
      exact j_zret hX hr hlk hP hS (Or.inl rfl) dX4_isTaken_41
    · refine lv_aload_n hx hb dX4_isTaken_8 rfl (lv_at hl 0 rfl) ?_
      refine r_get hX hP cok3 11 sl_0 sk_0 (by decide) rfl q167 dX4_isTaken_9 ?_
      refine x_let h (fun x2 h => ?_)
      refine lv_iload_n hx hb dX4_isTaken_12 rfl (lv_at hl 2 rfl) ?_
      obtain ⟨r4, e3, h⟩ := ob1_some h
      refine j_i (j_runN (rest := []) hX hP hl.1 Y_X7_has (c_X7_has hA e3) ⟨rfl, rfl⟩ nw3 ⟨Nat.le_of_ble_eq_true rfl, Nat.le_of_ble_eq_true rfl⟩ rfl rfl (Nat.le_of_ble_eq_true rfl) dX4_isTaken_13) hS (fun H locs hP hS => ?_)
      refine x_if_eq (tgt := 34) hx hb dX4_isTaken_16 (by decide) h (fun c5 h => ?_) (fun c5 h => ?_)
      · exact t_X4_isTaken_b34 hX hr hlk ih _ _ _ h _ _ _ hP hS (lv_sub hl [0, 1, 2] rfl)
      · refine lv_aload_n hx hb dX4_isTaken_19 rfl (lv_at hl 0 rfl) ?_
        refine r_getq (t := 1) hX hP cok3 0 sl_0 sk_0 (by decide) rfl q138 dX4_isTaken_20 ?_
        refine lv_iload_n hx hb dX4_isTaken_23 rfl (lv_at hl 2 rfl) ?_
        refine r_ldq hX hP h (lt157 sl_1) sk_1 sn_1 dX4_isTaken_24 (fun g6 h => ?_)
        refine r_get hX hP cok4 6 (isP_lt (isP_of g6)) (isP_kd (isP_of g6)) (by decide) rfl q102 dX4_isTaken_25 ?_
        refine x_let h (fun x7 h => ?_)
        refine lv_iload_n hx hb dX4_isTaken_28 rfl (lv_at hl 1 rfl) ?_
        refine x_icmp_ne (tgt := 34) hx hb dX4_isTaken_29 (by decide) h (fun c8 h => ?_) (fun c8 h => ?_)
        · exact t_X4_isTaken_b34 hX hr hlk ih _ _ _ h _ _ _ hP hS (lv_sub hl [0, 1, 2] rfl)
        · refine lv_iconst (v := 1) hx hb dX4_isTaken_32 kc_i1 ?_
          cases h
          exact j_zret hX hr hlk hP hS (Or.inr rfl) dX4_isTaken_33
set_option maxHeartbeats 4000000 in
set_option maxRecDepth 100000 in
theorem c_X4_isTaken {l : Launch} {D : va_G} {tc : Tc} {ad : Nat → Nat} {A : Nat → Prop} (hA : adok ad A) {I M : St} {v1 : Int32} {rr : Int32} (h : f_X4_isTaken v1 I = some rr) : Met l yX4_isTaken (Cond.code yX4_isTaken cX4_isTaken 3 (some .boolean) :: tw) rm_X4_isTaken (pre D tc ad [.ref (ad 0), .int v1] (cmb I M)) (qi D tc ad A rr (cmb I M)) 0 0 A := by
  unfold f_X4_isTaken at h
  refine mk_met (own := RX4) (by decide +kernel) rfl hA (Nat.le_of_ble_eq_true rfl) ?_
  intro p e s m below meth c ls hX hr hlk hl hP hS
  have hl : lv_has ls 3 [(0, .ref (ad 0)), (1, .int v1)] := hl
  have hx := hX.1
  have hb := hX.2.1
  have hown := hX.2.2.2.1
  have hts := hX.2.2.2.2.1
  refine lv_iconst (v := 0) hx hb dX4_isTaken_0 kc_i0 ?_
  refine lv_istore_n (lv' := [(2, .int 0), (0, .ref (ad 0)), (1, .int v1)]) hx hb dX4_isTaken_1 rfl hl (Nat.le_of_ble_eq_true rfl) rfl (fun ls hl => ?_)
  exact t_X4_isTaken_l2 hX hr hlk  10000 _ _ _ h _ _ _ hP hS (lv_sub hl [1, 2, 0] rfl)
/-! OwnerlessCoin.product(III)I -/
def rm_X7_product : Room := { frames := 0, cells := 0, slots := 0, locals := 0 }
theorem Y_X7_product : ys yX7_product cX7_product 3 (some .int) 3 := ⟨q398, q397, q12, by decide +kernel⟩
set_option maxHeartbeats 4000000 in
set_option maxRecDepth 100000 in
theorem c_X7_product {l : Launch} {D : va_G} {tc : Tc} {ad : Nat → Nat} {A : Nat → Prop} (hA : adok ad A) {J : St} {v0 : Int32} {v1 : Int32} {v2 : Int32} {rr : Int32} (h : f_X7_product v0 v1 v2 = some rr) : Met l yX7_product (Cond.code yX7_product cX7_product 3 (some .int) :: tw) rm_X7_product (pre D tc ad [.int v0, .int v1, .int v2] J) (qi D tc ad A rr J) 0 0 A := by
  unfold f_X7_product at h
  refine mk_met (own := RX7) (by decide +kernel) rfl hA (Nat.le_of_ble_eq_true rfl) ?_
  intro p e s m below meth c ls hX hr hlk hl hP hS
  have hl : lv_has ls 3 [(0, .int v0), (1, .int v1), (2, .int v2)] := hl
  have hx := hX.1
  have hb := hX.2.1
  have hown := hX.2.2.2.1
  have hts := hX.2.2.2.2.1
  refine lv_iload_n hx hb dX7_product_0 rfl (lv_at hl 2 rfl) ?_
  refine lv_iconst (v := 1) hx hb dX7_product_1 kc_i1 ?_
  refine x_icmp_ge (tgt := 7) hx hb dX7_product_2 (by decide) h (fun c1 h => ?_) (fun c1 h => ?_)
  · refine lv_iload_n hx hb dX7_product_7 rfl (lv_at hl 0 rfl) ?_
    refine lv_i2l (v := v0.toInt64) hx hb dX7_product_8 rfl ?_
    refine x_letL h (fun y2 h => ?_)
    refine lv_iload_n hx hb dX7_product_9 rfl (lv_at hl 1 rfl) ?_
    refine lv_i2l (v := v1.toInt64) hx hb dX7_product_10 rfl ?_
    refine lv_lmul hx hb dX7_product_11 ?_
    refine x_letL h (fun y3 h => ?_)
    refine lv_iload_n hx hb dX7_product_12 rfl (lv_at hl 2 rfl) ?_
    refine lv_i2l (v := v2.toInt64) hx hb dX7_product_13 rfl ?_
    obtain ⟨g4, h⟩ := ck_some h
    refine lv_lrem hx hb dX7_product_14 (nzL_ne g4) ?_
    refine lv_l2i (v := (lrem y3 (v2.toInt64)).toInt32) hx hb dX7_product_15 rfl ?_
    cases h
    exact j_iret hX hr hlk hP hS dX7_product_16
  · refine lv_iconst (v := 0) hx hb dX7_product_5 kc_i0 ?_
    cases h
    exact j_iret hX hr hlk hP hS dX7_product_6
/-! OwnerlessCoin.power(III)I -/
def rm_X7_power : Room := { frames := 1, cells := 0, slots := 0, locals := 22 }
theorem Y_X7_power : ys yX7_power cX7_power 5 (some .int) 3 := ⟨q395, q394, q12, by decide +kernel⟩
set_option maxHeartbeats 4000000 in
set_option maxRecDepth 100000 in
theorem t_X7_power_b34 {p : Program} {l : Launch} {e : Env} {s : State} {m : MethodId} {args : Array Value} {below : List Frame} {meth : Method} {c : Code} {D : va_G} {tc : Tc} {ad : Nat → Nat} {A : Nat → Prop} {J : St} {rr : Int32} (hX : cx p s m args c cX7_power 5 RX7 D tc ad A) (hr : meth.sig.returnType = some .int) (hlk : meth.locks = false) {K6 : Int32 → Int32 → Int32 → Int32 → Int32 → Option (Int32)} (hK6 : ∀ (v0 : Int32) (v1 : Int32) (v2 : Int32) (v3 : Int32) (v4 : Int32), K6 v0 v1 v2 v3 v4 = some rr → ∀ (H : Heap) (locs : List Loc) (ls : Array Slot), va_P D vwCl (wl tc ad J) H → va_S A s.heap H locs → lv_has ls 5 [(0, .int v0), (1, .int v1), (2, .int v2), (3, .int v3), (4, .int v4)] → W p l e rm_X7_power s m args below meth c H locs 0 0 (MQ below (qi D tc ad A rr J) args s 0 0 A) (F0 m 6 ls [])) : ∀ (v0 : Int32) (v1 : Int32) (v2 : Int32) (v3 : Int32) (v4 : Int32), f_X7_power_b34 K6 v0 v1 v2 v3 v4 = some rr → ∀ (H : Heap) (locs : List Loc) (ls : Array Slot), va_P D vwCl (wl tc ad J) H → va_S A s.heap H locs → lv_has ls 5 [(0, .int v0), (1, .int v1), (2, .int v2), (3, .int v3), (4, .int v4)] → W p l e rm_X7_power s m args below meth c H locs 0 0 (MQ below (qi D tc ad A rr J) args s 0 0 A) (F0 m 34 ls []) := by
  intro v0 v1 v2 v3 v4 h H locs ls hP hS hl
  unfold f_X7_power_b34 at h
  have hx := hX.1
  have hb := hX.2.1
  have hown := hX.2.2.2.1
  have hts := hX.2.2.2.2.1
  have hA := hX.2.2.2.2.2.2
  refine lv_iinc (v := (v4 + (-1))) (lv' := [(4, .int (v4 + (-1))), (0, .int v0), (1, .int v1), (2, .int v2), (3, .int v3)]) hx hb dX7_power_34 hl (k := 4) rfl rfl (Nat.le_of_ble_eq_true rfl) rfl (fun ls hl => ?_)
  refine lv_goto (tgt := 6) hx hb dX7_power_37 (by decide) ?_
  exact hK6 _ _ _ _ _ h _ _ _ hP hS (lv_sub hl [1, 2, 3, 4, 0] rfl)
set_option maxHeartbeats 4000000 in
set_option maxRecDepth 100000 in
theorem t_X7_power_l6 {p : Program} {l : Launch} {e : Env} {s : State} {m : MethodId} {args : Array Value} {below : List Frame} {meth : Method} {c : Code} {D : va_G} {tc : Tc} {ad : Nat → Nat} {A : Nat → Prop} {J : St} {rr : Int32} (hX : cx p s m args c cX7_power 5 RX7 D tc ad A) (hr : meth.sig.returnType = some .int) (hlk : meth.locks = false) : ∀ (n : Nat), ∀ (v0 : Int32) (v1 : Int32) (v2 : Int32) (v3 : Int32) (v4 : Int32), f_X7_power_l6 n v0 v1 v2 v3 v4 = some rr → ∀ (H : Heap) (locs : List Loc) (ls : Array Slot), va_P D vwCl (wl tc ad J) H → va_S A s.heap H locs → lv_has ls 5 [(0, .int v0), (1, .int v1), (2, .int v2), (3, .int v3), (4, .int v4)] → W p l e rm_X7_power s m args below meth c H locs 0 0 (MQ below (qi D tc ad A rr J) args s 0 0 A) (F0 m 6 ls []) := by
  intro n
  induction n with
  | zero =>
    intro _ _ _ _ _ h
    cases h
  | succ n ih =>
    intro v0 v1 v2 v3 v4 h H locs ls hP hS hl
    rw [f_X7_power_l6] at h
    have hx := hX.1
    have hb := hX.2.1
    have hown := hX.2.2.2.1
    have hts := hX.2.2.2.2.1
    have hA := hX.2.2.2.2.2.2
    refine lv_iload hx hb dX7_power_6 (lv_at hl 4 rfl) ?_
    refine x_if_lt (tgt := 40) hx hb dX7_power_8 (by decide) h (fun c1 h => ?_) (fun c1 h => ?_)
    · refine lv_iload_n hx hb dX7_power_40 rfl (lv_at hl 3 rfl) ?_
      cases h
      exact j_iret hX hr hlk hP hS dX7_power_41
    · refine lv_iload_n hx hb dX7_power_11 rfl (lv_at hl 3 rfl) ?_
      refine lv_iload_n hx hb dX7_power_12 rfl (lv_at hl 3 rfl) ?_
      refine lv_iload_n hx hb dX7_power_13 rfl (lv_at hl 2 rfl) ?_
      obtain ⟨r3, e2, h⟩ := ob1_some h
      refine j_i (j_runS (rest := []) hX hP hl.1 Y_X7_product (c_X7_product hA e2) ⟨rfl, rfl⟩ q396 ⟨Nat.le_of_ble_eq_true rfl, Nat.le_of_ble_eq_true rfl⟩ rfl rfl (Nat.le_of_ble_eq_true rfl) dX7_power_14) hS (fun H locs hP hS => ?_)
      refine lv_istore_n (lv' := [(3, .int r3), (0, .int v0), (1, .int v1), (2, .int v2), (4, .int v4)]) hx hb dX7_power_17 rfl hl (Nat.le_of_ble_eq_true rfl) rfl (fun ls hl => ?_)
      refine lv_iload_n hx hb dX7_power_18 rfl (lv_at hl 2 rfl) ?_
      refine lv_iload hx hb dX7_power_19 (lv_at hl 4 rfl) ?_
      obtain ⟨r5, e4, h⟩ := ob1_some h
      refine j_i (j_runS (rest := []) hX hP hl.1 Y_X7_has (c_X7_has hA e4) ⟨rfl, rfl⟩ q371 ⟨Nat.le_of_ble_eq_true rfl, Nat.le_of_ble_eq_true rfl⟩ rfl rfl (Nat.le_of_ble_eq_true rfl) dX7_power_21) hS (fun H locs hP hS => ?_)
      refine x_if_eq (tgt := 34) hx hb dX7_power_24 (by decide) h (fun c6 h => ?_) (fun c6 h => ?_)
      · exact t_X7_power_b34 hX hr hlk ih _ _ _ _ _ h _ _ _ hP hS (lv_sub hl [1, 2, 3, 0, 4] rfl)
      · refine lv_iload_n hx hb dX7_power_27 rfl (lv_at hl 0 rfl) ?_
        refine lv_iload_n hx hb dX7_power_28 rfl (lv_at hl 1 rfl) ?_
        refine lv_iload_n hx hb dX7_power_29 rfl (lv_at hl 3 rfl) ?_
        obtain ⟨r8, e7, h⟩ := ob1_some h
        refine j_i (j_runS (rest := []) hX hP hl.1 Y_X7_product (c_X7_product hA e7) ⟨rfl, rfl⟩ q396 ⟨Nat.le_of_ble_eq_true rfl, Nat.le_of_ble_eq_true rfl⟩ rfl rfl (Nat.le_of_ble_eq_true rfl) dX7_power_30) hS (fun H locs hP hS => ?_)
        refine lv_istore_n (lv' := [(3, .int r8), (0, .int v0), (1, .int v1), (2, .int v2), (4, .int v4)]) hx hb dX7_power_33 rfl hl (Nat.le_of_ble_eq_true rfl) rfl (fun ls hl => ?_)
        exact t_X7_power_b34 hX hr hlk ih _ _ _ _ _ h _ _ _ hP hS (lv_sub hl [1, 2, 3, 0, 4] rfl)
set_option maxHeartbeats 4000000 in
set_option maxRecDepth 100000 in
theorem c_X7_power {l : Launch} {D : va_G} {tc : Tc} {ad : Nat → Nat} {A : Nat → Prop} (hA : adok ad A) {J : St} {v0 : Int32} {v1 : Int32} {v2 : Int32} {rr : Int32} (h : f_X7_power v0 v1 v2 = some rr) : Met l yX7_power (Cond.code yX7_power cX7_power 5 (some .int) :: tw) rm_X7_power (pre D tc ad [.int v0, .int v1, .int v2] J) (qi D tc ad A rr J) 0 0 A := by
  unfold f_X7_power at h
  refine mk_met (own := RX7) (by decide +kernel) rfl hA (Nat.le_of_ble_eq_true rfl) ?_
  intro p e s m below meth c ls hX hr hlk hl hP hS
  have hl : lv_has ls 5 [(0, .int v0), (1, .int v1), (2, .int v2)] := hl
  have hx := hX.1
  have hb := hX.2.1
  have hown := hX.2.2.2.1
  have hts := hX.2.2.2.2.1
  refine lv_iconst (v := 1) hx hb dX7_power_0 kc_i1 ?_
  refine lv_istore_n (lv' := [(3, .int 1), (0, .int v0), (1, .int v1), (2, .int v2)]) hx hb dX7_power_1 rfl hl (Nat.le_of_ble_eq_true rfl) rfl (fun ls hl => ?_)
  refine lv_bipush (v := 30) hx hb dX7_power_2 kc_b30 ?_
  refine lv_istore (lv' := [(4, .int 30), (3, .int 1), (0, .int v0), (1, .int v1), (2, .int v2)]) hx hb dX7_power_4 hl (Nat.le_of_ble_eq_true rfl) rfl (fun ls hl => ?_)
  exact t_X7_power_l6 hX hr hlk  10000 _ _ _ _ _ h _ _ _ hP hS (lv_sub hl [2, 3, 4, 1, 0] rfl)
/-! OwnerlessCoin.stepped(I)I -/
def rm_X7_stepped : Room := { frames := 0, cells := 0, slots := 0, locals := 0 }
theorem Y_X7_stepped : ys yX7_stepped cX7_stepped 1 (some .int) 1 := ⟨q401, q400, q12, by decide +kernel⟩
set_option maxHeartbeats 4000000 in
set_option maxRecDepth 100000 in
theorem c_X7_stepped {l : Launch} {D : va_G} {tc : Tc} {ad : Nat → Nat} {A : Nat → Prop} (hA : adok ad A) {J : St} {v0 : Int32} {rr : Int32} (h : f_X7_stepped v0 = some rr) : Met l yX7_stepped (Cond.code yX7_stepped cX7_stepped 1 (some .int) :: tw) rm_X7_stepped (pre D tc ad [.int v0] J) (qi D tc ad A rr J) 0 0 A := by
  unfold f_X7_stepped at h
  refine mk_met (own := RX7) (by decide +kernel) rfl hA (Nat.le_of_ble_eq_true rfl) ?_
  intro p e s m below meth c ls hX hr hlk hl hP hS
  have hl : lv_has ls 1 [(0, .int v0)] := hl
  have hx := hX.1
  have hb := hX.2.1
  have hown := hX.2.2.2.1
  have hts := hX.2.2.2.2.1
  refine lv_ldcw (v := 1103515245) hx hb hown (hts _ q402) dX7_stepped_0 ?_
  refine lv_iload_n hx hb dX7_stepped_3 rfl (lv_at hl 0 rfl) ?_
  refine lv_imul hx hb dX7_stepped_4 ?_
  refine x_let h (fun x1 h => ?_)
  refine lv_sipush (v := 12345) hx hb dX7_stepped_5 kc_s12345 ?_
  refine lv_iadd hx hb dX7_stepped_8 ?_
  cases h
  exact j_iret hX hr hlk hP hS dX7_stepped_9
/-! OwnerlessCoin.drawn(I)I -/
def rm_X7_drawn : Room := { frames := 0, cells := 0, slots := 0, locals := 0 }
theorem Y_X7_drawn : ys yX7_drawn cX7_drawn 1 (some .int) 1 := ⟨q405, q404, q12, by decide +kernel⟩
set_option maxHeartbeats 4000000 in
set_option maxRecDepth 100000 in
theorem c_X7_drawn {l : Launch} {D : va_G} {tc : Tc} {ad : Nat → Nat} {A : Nat → Prop} (hA : adok ad A) {J : St} {v0 : Int32} {rr : Int32} (h : f_X7_drawn v0 = some rr) : Met l yX7_drawn (Cond.code yX7_drawn cX7_drawn 1 (some .int) :: tw) rm_X7_drawn (pre D tc ad [.int v0] J) (qi D tc ad A rr J) 0 0 A := by
  unfold f_X7_drawn at h
  refine mk_met (own := RX7) (by decide +kernel) rfl hA (Nat.le_of_ble_eq_true rfl) ?_
  intro p e s m below meth c ls hX hr hlk hl hP hS
  have hl : lv_has ls 1 [(0, .int v0)] := hl
  have hx := hX.1
  have hb := hX.2.1
  have hown := hX.2.2.2.1
  have hts := hX.2.2.2.2.1
  refine lv_iload_n hx hb dX7_drawn_0 rfl (lv_at hl 0 rfl) ?_
  refine lv_bipush (v := 16) hx hb dX7_drawn_1 kc_b16 ?_
  refine lv_iushr (v := iushr v0 16) hx hb dX7_drawn_3 rfl ?_
  cases h
  exact j_iret hX hr hlk hP hS dX7_drawn_4
/-! OwnerlessCoin$Person.deal(II)V -/
def rm_X5_deal : Room := { frames := 2, cells := 0, slots := 0, locals := 46 }
theorem Y_X5_deal : yv yX5_deal cX5_deal 7 none 2 RX5 := ⟨q392, q390, q391, q15, by decide +kernel⟩
set_option maxHeartbeats 4000000 in
set_option maxRecDepth 100000 in
theorem t_X5_deal_l64 {p : Program} {l : Launch} {e : Env} {s : State} {m : MethodId} {args : Array Value} {below : List Frame} {meth : Method} {c : Code} {D : va_G} {tc : Tc} {ad : Nat → Nat} {A : Nat → Prop} {M : St} {o0 : Nat} {II : St} (hX : cx p s m args c cX5_deal 7 RX5 D tc ad A) (hr : meth.sig.returnType = none) (hlk : meth.locks = false) (ho0 : isP o0 = true) {K32 : Int32 → Int32 → Int32 → Int32 → St → Option (St)} (hK32 : ∀ (v2 : Int32) (v3 : Int32) (v4 : Int32) (v5 : Int32) (I : St), K32 v2 v3 v4 v5 I = some II → ∀ (H : Heap) (locs : List Loc) (ls : Array Slot), va_P D vwCl (wl tc ad (cmb I M)) H → va_S A s.heap H locs → lv_has ls 7 [(0, .ref (ad o0)), (2, .int v2), (3, .int v3), (4, .int v4), (5, .int v5)] → W p l e rm_X5_deal s m args below meth c H locs 0 0 (MQ below (qv D tc ad A (cmb II M)) args s 0 0 A) (F0 m 32 ls [])) : ∀ (n : Nat), ∀ (v2 : Int32) (v3 : Int32) (v4 : Int32) (v5 : Int32) (v6 : Int32) (I : St), f_X5_deal_l64 o0 K32 n v2 v3 v4 v5 v6 I = some II → ∀ (H : Heap) (locs : List Loc) (ls : Array Slot), va_P D vwCl (wl tc ad (cmb I M)) H → va_S A s.heap H locs → lv_has ls 7 [(0, .ref (ad o0)), (2, .int v2), (3, .int v3), (4, .int v4), (5, .int v5), (6, .int v6)] → W p l e rm_X5_deal s m args below meth c H locs 0 0 (MQ below (qv D tc ad A (cmb II M)) args s 0 0 A) (F0 m 64 ls []) := by
  intro n
  induction n with
  | zero =>
    intro _ _ _ _ _ _ h
    cases h
  | succ n ih =>
    intro v2 v3 v4 v5 v6 I h H locs ls hP hS hl
    rw [f_X5_deal_l64] at h
    have hx := hX.1
    have hb := hX.2.1
    have hown := hX.2.2.2.1
    have hts := hX.2.2.2.2.1
    have hA := hX.2.2.2.2.2.2
    refine lv_iload hx hb dX5_deal_64 (lv_at hl 5 rfl) ?_
    refine lv_bipush (v := 8) hx hb dX5_deal_66 kc_b8 ?_
    refine x_icmp_ge (tgt := 111) hx hb dX5_deal_68 (by decide) h (fun c1 h => ?_) (fun c1 h => ?_)
    · refine lv_iload_n hx hb dX5_deal_111 rfl (lv_at hl 2 rfl) ?_
      obtain ⟨r3, e2, h⟩ := ob1_some h
      refine j_i (j_runN (rest := []) hX hP hl.1 Y_X7_stepped (c_X7_stepped hA e2) ⟨rfl, rfl⟩ nw6 ⟨Nat.le_of_ble_eq_true rfl, Nat.le_of_ble_eq_true rfl⟩ rfl rfl (Nat.le_of_ble_eq_true rfl) dX5_deal_112) hS (fun H locs hP hS => ?_)
      refine lv_istore_n (lv' := [(3, .int r3), (0, .ref (ad o0)), (2, .int v2), (4, .int v4), (5, .int v5), (6, .int v6)]) hx hb dX5_deal_115 rfl hl (Nat.le_of_ble_eq_true rfl) rfl (fun ls hl => ?_)
      refine lv_iload_n hx hb dX5_deal_116 rfl (lv_at hl 0 rfl) ?_
      obtain ⟨r5, e4, h⟩ := ob1_some h
      refine j_i (j_runN (rest := []) hX hP hl.1 Y_X7_drawn (c_X7_drawn hA e4) ⟨rfl, rfl⟩ nw7 ⟨Nat.le_of_ble_eq_true rfl, Nat.le_of_ble_eq_true rfl⟩ rfl rfl (Nat.le_of_ble_eq_true rfl) dX5_deal_117) hS (fun H locs hP hS => ?_)
      refine lv_sipush (v := 1019) hx hb dX5_deal_120 kc_s1019 ?_
      refine lv_irem hx hb dX5_deal_123 (by decide) ?_
      refine x_let h (fun x6 h => ?_)
      refine lv_istore (lv' := [(4, .int x6), (3, .int r3), (0, .ref (ad o0)), (2, .int v2), (5, .int v5), (6, .int v6)]) hx hb dX5_deal_124 hl (Nat.le_of_ble_eq_true rfl) rfl (fun ls hl => ?_)
      refine lv_iinc (v := (v5 + 1)) (lv' := [(5, .int (v5 + 1)), (4, .int x6), (3, .int r3), (0, .ref (ad o0)), (2, .int v2), (6, .int v6)]) hx hb dX5_deal_126 hl (k := 4) rfl rfl (Nat.le_of_ble_eq_true rfl) rfl (fun ls hl => ?_)
      refine lv_goto (tgt := 32) hx hb dX5_deal_129 (by decide) ?_
      exact hK32 _ _ _ _ _ h _ _ _ hP hS (lv_sub hl [3, 4, 2, 1, 0] rfl)
    · refine lv_aload_n hx hb dX5_deal_71 rfl (lv_at hl 0 rfl) ?_
      refine r_getq (t := o0 + 8) hX hP cok4 10 (isP_lt ho0) (isP_kd ho0) (by decide) rfl q110 dX5_deal_72 ?_
      refine lv_iload hx hb dX5_deal_75 (lv_at hl 5 rfl) ?_
      refine lv_aload_n hx hb dX5_deal_77 rfl (lv_at hl 0 rfl) ?_
      refine r_getq (t := o0 + 8) hX hP cok4 10 (isP_lt ho0) (isP_kd ho0) (by decide) rfl q110 dX5_deal_78 ?_
      refine lv_iload hx hb dX5_deal_81 (lv_at hl 5 rfl) ?_
      refine r_ald hX hP h (isP8_lt ho0) (isP8_kd ho0) (isP8_ln ho0) dX5_deal_83 (fun h => ?_)
      refine x_let h (fun x7 h => ?_)
      refine lv_iload hx hb dX5_deal_84 (lv_at hl 3 rfl) ?_
      refine lv_iload hx hb dX5_deal_86 (lv_at hl 5 rfl) ?_
      refine lv_iconst (v := 1) hx hb dX5_deal_88 kc_i1 ?_
      refine lv_iadd hx hb dX5_deal_89 ?_
      refine x_let h (fun x8 h => ?_)
      refine lv_iload hx hb dX5_deal_90 (lv_at hl 4 rfl) ?_
      refine lv_sipush (v := 1019) hx hb dX5_deal_92 kc_s1019 ?_
      obtain ⟨r10, e9, h⟩ := ob1_some h
      refine j_i (j_runN (rest := [.int v4, .int x7, .int v6, .ref (ad (o0 + 8))]) hX hP hl.1 Y_X7_power (c_X7_power hA e9) ⟨rfl, rfl⟩ nw5 ⟨Nat.le_of_ble_eq_true rfl, Nat.le_of_ble_eq_true rfl⟩ rfl rfl (Nat.le_of_ble_eq_true rfl) dX5_deal_95) hS (fun H locs hP hS => ?_)
      refine lv_imul hx hb dX5_deal_98 ?_
      refine lv_iadd hx hb dX5_deal_99 ?_
      refine x_let h (fun x11 h => ?_)
      refine lv_sipush (v := 1019) hx hb dX5_deal_100 kc_s1019 ?_
      refine lv_irem hx hb dX5_deal_103 (by decide) ?_
      refine r_ast hX hP hS h (isP8_lt ho0) (isP8_kd ho0) (isP8_ln ho0) dX5_deal_104 (fun I12 H locs h hP hS => ?_)
      refine lv_iinc (v := (v6 + 1)) (lv' := [(6, .int (v6 + 1)), (0, .ref (ad o0)), (2, .int v2), (3, .int v3), (4, .int v4), (5, .int v5)]) hx hb dX5_deal_105 hl (k := 5) rfl rfl (Nat.le_of_ble_eq_true rfl) rfl (fun ls hl => ?_)
      refine lv_goto (tgt := 64) hx hb dX5_deal_108 (by decide) ?_
      exact ih _ _ _ _ _ _ h _ _ _ hP hS (lv_sub hl [1, 2, 3, 4, 5, 0] rfl)
set_option maxHeartbeats 4000000 in
set_option maxRecDepth 100000 in
theorem t_X5_deal_b132 {p : Program} {l : Launch} {e : Env} {s : State} {m : MethodId} {args : Array Value} {below : List Frame} {meth : Method} {c : Code} {D : va_G} {tc : Tc} {ad : Nat → Nat} {A : Nat → Prop} {M : St} {o0 : Nat} {II : St} (hX : cx p s m args c cX5_deal 7 RX5 D tc ad A) (hr : meth.sig.returnType = none) (hlk : meth.locks = false) (ho0 : isP o0 = true) : ∀ (I : St), f_X5_deal_b132 o0 I = some II → ∀ (H : Heap) (locs : List Loc) (ls : Array Slot), va_P D vwCl (wl tc ad (cmb I M)) H → va_S A s.heap H locs → lv_has ls 7 [(0, .ref (ad o0))] → W p l e rm_X5_deal s m args below meth c H locs 0 0 (MQ below (qv D tc ad A (cmb II M)) args s 0 0 A) (F0 m 132 ls []) := by
  intro I h H locs ls hP hS hl
  unfold f_X5_deal_b132 at h
  have hx := hX.1
  have hb := hX.2.1
  have hown := hX.2.2.2.1
  have hts := hX.2.2.2.2.1
  have hA := hX.2.2.2.2.2.2
  refine lv_aload_n hx hb dX5_deal_132 rfl (lv_at hl 0 rfl) ?_
  refine lv_sipush (v := 255) hx hb dX5_deal_133 kc_s255 ?_
  refine r_put hX hP hS cok4 9 h (isP_lt ho0) (isP_kd ho0) (by decide) rfl rfl q106 rfl dX5_deal_136 (fun I13 H locs h hP hS => ?_)
  cases h
  exact j_vret hX hr hlk hP hS dX5_deal_139
set_option maxHeartbeats 4000000 in
set_option maxRecDepth 100000 in
theorem t_X5_deal_l32 {p : Program} {l : Launch} {e : Env} {s : State} {m : MethodId} {args : Array Value} {below : List Frame} {meth : Method} {c : Code} {D : va_G} {tc : Tc} {ad : Nat → Nat} {A : Nat → Prop} {M : St} {o0 : Nat} {II : St} (hX : cx p s m args c cX5_deal 7 RX5 D tc ad A) (hr : meth.sig.returnType = none) (hlk : meth.locks = false) (ho0 : isP o0 = true) : ∀ (n : Nat), ∀ (v2 : Int32) (v3 : Int32) (v4 : Int32) (v5 : Int32) (I : St), f_X5_deal_l32 o0 n v2 v3 v4 v5 I = some II → ∀ (H : Heap) (locs : List Loc) (ls : Array Slot), va_P D vwCl (wl tc ad (cmb I M)) H → va_S A s.heap H locs → lv_has ls 7 [(0, .ref (ad o0)), (2, .int v2), (3, .int v3), (4, .int v4), (5, .int v5)] → W p l e rm_X5_deal s m args below meth c H locs 0 0 (MQ below (qv D tc ad A (cmb II M)) args s 0 0 A) (F0 m 32 ls []) := by
  intro n
  induction n with
  | zero =>
    intro _ _ _ _ _ h
    cases h
  | succ n ih =>
    intro v2 v3 v4 v5 I h H locs ls hP hS hl
    rw [f_X5_deal_l32] at h
    have hx := hX.1
    have hb := hX.2.1
    have hown := hX.2.2.2.1
    have hts := hX.2.2.2.2.1
    have hA := hX.2.2.2.2.2.2
    refine lv_iload hx hb dX5_deal_32 (lv_at hl 4 rfl) ?_
    refine lv_iload_n hx hb dX5_deal_34 rfl (lv_at hl 1 rfl) ?_
    refine x_icmp_ge (tgt := 132) hx hb dX5_deal_35 (by decide) h (fun c14 h => ?_) (fun c14 h => ?_)
    · exact t_X5_deal_b132 hX hr hlk ho0  _ h _ _ _ hP hS (lv_sub hl [0] rfl)
    · refine lv_iload hx hb dX5_deal_38 (lv_at hl 4 rfl) ?_
      refine lv_bipush (v := 8) hx hb dX5_deal_40 kc_b8 ?_
      refine x_icmp_ge (tgt := 132) hx hb dX5_deal_42 (by decide) h (fun c15 h => ?_) (fun c15 h => ?_)
      · exact t_X5_deal_b132 hX hr hlk ho0  _ h _ _ _ hP hS (lv_sub hl [0] rfl)
      · refine lv_aload_n hx hb dX5_deal_45 rfl (lv_at hl 0 rfl) ?_
        refine r_getq (t := o0 + 16) hX hP cok4 11 (isP_lt ho0) (isP_kd ho0) (by decide) rfl q112 dX5_deal_46 ?_
        refine lv_iload hx hb dX5_deal_49 (lv_at hl 4 rfl) ?_
        refine lv_iconst (v := 4) hx hb dX5_deal_51 kc_i4 ?_
        refine lv_iload hx hb dX5_deal_52 (lv_at hl 3 rfl) ?_
        refine lv_sipush (v := 2039) hx hb dX5_deal_54 kc_s2039 ?_
        obtain ⟨r17, e16, h⟩ := ob1_some h
        refine j_i (j_runN (rest := [.int v5, .ref (ad (o0 + 16))]) hX hP hl.1 Y_X7_power (c_X7_power hA e16) ⟨rfl, rfl⟩ nw5 ⟨Nat.le_of_ble_eq_true rfl, Nat.le_of_ble_eq_true rfl⟩ rfl rfl (Nat.le_of_ble_eq_true rfl) dX5_deal_57) hS (fun H locs hP hS => ?_)
        refine r_ast hX hP hS h (isP16_lt ho0) (isP16_kd ho0) (isP16_ln ho0) dX5_deal_60 (fun I18 H locs h hP hS => ?_)
        refine lv_iconst (v := 0) hx hb dX5_deal_61 kc_i0 ?_
        refine lv_istore (lv' := [(6, .int 0), (0, .ref (ad o0)), (2, .int v2), (3, .int v3), (4, .int v4), (5, .int v5)]) hx hb dX5_deal_62 hl (Nat.le_of_ble_eq_true rfl) rfl (fun ls hl => ?_)
        exact t_X5_deal_l64 hX hr hlk ho0 ih 10000 _ _ _ _ _ _ h _ _ _ hP hS (lv_sub hl [1, 2, 3, 4, 5, 0] rfl)
set_option maxHeartbeats 4000000 in
set_option maxRecDepth 100000 in
theorem t_X5_deal_l2 {p : Program} {l : Launch} {e : Env} {s : State} {m : MethodId} {args : Array Value} {below : List Frame} {meth : Method} {c : Code} {D : va_G} {tc : Tc} {ad : Nat → Nat} {A : Nat → Prop} {M : St} {o0 : Nat} {II : St} (hX : cx p s m args c cX5_deal 7 RX5 D tc ad A) (hr : meth.sig.returnType = none) (hlk : meth.locks = false) (ho0 : isP o0 = true) : ∀ (n : Nat), ∀ (v1 : Int32) (v2 : Int32) (v3 : Int32) (I : St), f_X5_deal_l2 o0 n v1 v2 v3 I = some II → ∀ (H : Heap) (locs : List Loc) (ls : Array Slot), va_P D vwCl (wl tc ad (cmb I M)) H → va_S A s.heap H locs → lv_has ls 7 [(0, .ref (ad o0)), (1, .int v1), (2, .int v2), (3, .int v3)] → W p l e rm_X5_deal s m args below meth c H locs 0 0 (MQ below (qv D tc ad A (cmb II M)) args s 0 0 A) (F0 m 2 ls []) := by
  intro n
  induction n with
  | zero =>
    intro _ _ _ _ h
    cases h
  | succ n ih =>
    intro v1 v2 v3 I h H locs ls hP hS hl
    rw [f_X5_deal_l2] at h
    have hx := hX.1
    have hb := hX.2.1
    have hown := hX.2.2.2.1
    have hts := hX.2.2.2.2.1
    have hA := hX.2.2.2.2.2.2
    refine lv_iload_n hx hb dX5_deal_2 rfl (lv_at hl 3 rfl) ?_
    refine lv_bipush (v := 8) hx hb dX5_deal_3 kc_b8 ?_
    refine x_icmp_ge (tgt := 21) hx hb dX5_deal_5 (by decide) h (fun c19 h => ?_) (fun c19 h => ?_)
    · refine lv_aload_n hx hb dX5_deal_21 rfl (lv_at hl 0 rfl) ?_
      refine r_get hX hP cok4 5 (isP_lt ho0) (isP_kd ho0) (by decide) rfl q98 dX5_deal_22 ?_
      refine x_let h (fun x20 h => ?_)
      refine lv_istore_n (lv' := [(3, .int x20), (0, .ref (ad o0)), (1, .int v1), (2, .int v2)]) hx hb dX5_deal_25 rfl hl (Nat.le_of_ble_eq_true rfl) rfl (fun ls hl => ?_)
      refine lv_iload_n hx hb dX5_deal_26 rfl (lv_at hl 2 rfl) ?_
      refine lv_istore (lv' := [(4, .int v1), (3, .int x20), (0, .ref (ad o0)), (1, .int v1), (2, .int v2)]) hx hb dX5_deal_27 hl (Nat.le_of_ble_eq_true rfl) rfl (fun ls hl => ?_)
      refine lv_iconst (v := 0) hx hb dX5_deal_29 kc_i0 ?_
      refine lv_istore (lv' := [(5, .int 0), (4, .int v1), (3, .int x20), (0, .ref (ad o0)), (1, .int v1), (2, .int v2)]) hx hb dX5_deal_30 hl (Nat.le_of_ble_eq_true rfl) rfl (fun ls hl => ?_)
      exact t_X5_deal_l32 hX hr hlk ho0  10000 _ _ _ _ _ h _ _ _ hP hS (lv_sub hl [3, 5, 2, 1, 0] rfl)
    · refine lv_aload_n hx hb dX5_deal_8 rfl (lv_at hl 0 rfl) ?_
      refine r_getq (t := o0 + 8) hX hP cok4 10 (isP_lt ho0) (isP_kd ho0) (by decide) rfl q110 dX5_deal_9 ?_
      refine lv_iload_n hx hb dX5_deal_12 rfl (lv_at hl 3 rfl) ?_
      refine lv_iconst (v := 0) hx hb dX5_deal_13 kc_i0 ?_
      refine r_ast hX hP hS h (isP8_lt ho0) (isP8_kd ho0) (isP8_ln ho0) dX5_deal_14 (fun I21 H locs h hP hS => ?_)
      refine lv_iinc (v := (v3 + 1)) (lv' := [(3, .int (v3 + 1)), (0, .ref (ad o0)), (1, .int v1), (2, .int v2)]) hx hb dX5_deal_15 hl (k := 3) rfl rfl (Nat.le_of_ble_eq_true rfl) rfl (fun ls hl => ?_)
      refine lv_goto (tgt := 2) hx hb dX5_deal_18 (by decide) ?_
      exact ih _ _ _ _ h _ _ _ hP hS (lv_sub hl [1, 2, 3, 0] rfl)
set_option maxHeartbeats 4000000 in
set_option maxRecDepth 100000 in
theorem c_X5_deal {l : Launch} {D : va_G} {tc : Tc} {ad : Nat → Nat} {A : Nat → Prop} (hA : adok ad A) {I M : St} {o0 : Nat} {v1 : Int32} {v2 : Int32} {II : St} (h : f_X5_deal o0 v1 v2 I = some II) : Met l yX5_deal (Cond.code yX5_deal cX5_deal 7 none :: tw) rm_X5_deal (pre D tc ad [.ref (ad o0), .int v1, .int v2] (cmb I M)) (qv D tc ad A (cmb II M)) 0 0 A := by
  unfold f_X5_deal at h
  obtain ⟨ho0, h⟩ := ck_some h
  refine mk_met (own := RX5) (by decide +kernel) rfl hA (Nat.le_of_ble_eq_true rfl) ?_
  intro p e s m below meth c ls hX hr hlk hl hP hS
  have hl : lv_has ls 7 [(0, .ref (ad o0)), (1, .int v1), (2, .int v2)] := hl
  have hx := hX.1
  have hb := hX.2.1
  have hown := hX.2.2.2.1
  have hts := hX.2.2.2.2.1
  refine lv_iconst (v := 0) hx hb dX5_deal_0 kc_i0 ?_
  refine lv_istore_n (lv' := [(3, .int 0), (0, .ref (ad o0)), (1, .int v1), (2, .int v2)]) hx hb dX5_deal_1 rfl hl (Nat.le_of_ble_eq_true rfl) rfl (fun ls hl => ?_)
  exact t_X5_deal_l2 hX hr hlk ho0  10000 _ _ _ _ h _ _ _ hP hS (lv_sub hl [1, 2, 3, 0] rfl)
/-! OwnerlessCoin$SlowWork.value(II)I -/
def rm_X6_value : Room := { frames := 1, cells := 0, slots := 0, locals := 22 }
theorem Y_X6_value : ys yX6_value cX6_value 4 (some .int) 2 := ⟨q412, q411, q19, by decide +kernel⟩
set_option maxHeartbeats 4000000 in
set_option maxRecDepth 100000 in
theorem t_X6_value_l7 {p : Program} {l : Launch} {e : Env} {s : State} {m : MethodId} {args : Array Value} {below : List Frame} {meth : Method} {c : Code} {D : va_G} {tc : Tc} {ad : Nat → Nat} {A : Nat → Prop} {J : St} {rr : Int32} (hX : cx p s m args c cX6_value 4 RX6 D tc ad A) (hr : meth.sig.returnType = some .int) (hlk : meth.locks = false) : ∀ (n : Nat), ∀ (v1 : Int32) (v2 : Int32) (v3 : Int32), f_X6_value_l7 n v1 v2 v3 = some rr → ∀ (H : Heap) (locs : List Loc) (ls : Array Slot), va_P D vwCl (wl tc ad J) H → va_S A s.heap H locs → lv_has ls 4 [(1, .int v1), (2, .int v2), (3, .int v3)] → W p l e rm_X6_value s m args below meth c H locs 0 0 (MQ below (qi D tc ad A rr J) args s 0 0 A) (F0 m 7 ls []) := by
  intro n
  induction n with
  | zero =>
    intro _ _ _ h
    cases h
  | succ n ih =>
    intro v1 v2 v3 h H locs ls hP hS hl
    rw [f_X6_value_l7] at h
    have hx := hX.1
    have hb := hX.2.1
    have hown := hX.2.2.2.1
    have hts := hX.2.2.2.2.1
    have hA := hX.2.2.2.2.2.2
    refine lv_iload_n hx hb dX6_value_7 rfl (lv_at hl 2 rfl) ?_
    refine lv_iload_n hx hb dX6_value_8 rfl (lv_at hl 0 rfl) ?_
    refine x_icmp_ge (tgt := 26) hx hb dX6_value_9 (by decide) h (fun c1 h => ?_) (fun c1 h => ?_)
    · refine lv_iload_n hx hb dX6_value_26 rfl (lv_at hl 1 rfl) ?_
      cases h
      exact j_iret hX hr hlk hP hS dX6_value_27
    · refine lv_iload_n hx hb dX6_value_12 rfl (lv_at hl 1 rfl) ?_
      refine lv_iload_n hx hb dX6_value_13 rfl (lv_at hl 1 rfl) ?_
      refine lv_ldc (v := 62615533) hx hb hown (hts _ q413) dX6_value_14 ?_
      obtain ⟨r3, e2, h⟩ := ob1_some h
      refine j_i (j_runN (rest := []) hX hP hl.1 Y_X7_product (c_X7_product hA e2) ⟨rfl, rfl⟩ nw8 ⟨Nat.le_of_ble_eq_true rfl, Nat.le_of_ble_eq_true rfl⟩ rfl rfl (Nat.le_of_ble_eq_true rfl) dX6_value_16) hS (fun H locs hP hS => ?_)
      refine lv_istore_n (lv' := [(2, .int r3), (1, .int v1), (3, .int v3)]) hx hb dX6_value_19 rfl hl (Nat.le_of_ble_eq_true rfl) rfl (fun ls hl => ?_)
      refine lv_iinc (v := (v3 + 1)) (lv' := [(3, .int (v3 + 1)), (2, .int r3), (1, .int v1)]) hx hb dX6_value_20 hl (k := 2) rfl rfl (Nat.le_of_ble_eq_true rfl) rfl (fun ls hl => ?_)
      refine lv_goto (tgt := 7) hx hb dX6_value_23 (by decide) ?_
      exact ih _ _ _ h _ _ _ hP hS (lv_sub hl [2, 1, 0] rfl)
set_option maxHeartbeats 4000000 in
set_option maxRecDepth 100000 in
theorem c_X6_value {l : Launch} {D : va_G} {tc : Tc} {ad : Nat → Nat} {A : Nat → Prop} (hA : adok ad A) {J : St} {v0 : Int32} {v1 : Int32} {rr : Int32} (h : f_X6_value v0 v1 = some rr) : Met l yX6_value (Cond.code yX6_value cX6_value 4 (some .int) :: tw) rm_X6_value (pre D tc ad [.int v0, .int v1] J) (qi D tc ad A rr J) 0 0 A := by
  unfold f_X6_value at h
  refine mk_met (own := RX6) (by decide +kernel) rfl hA (Nat.le_of_ble_eq_true rfl) ?_
  intro p e s m below meth c ls hX hr hlk hl hP hS
  have hl : lv_has ls 4 [(0, .int v0), (1, .int v1)] := hl
  have hx := hX.1
  have hb := hX.2.1
  have hown := hX.2.2.2.1
  have hts := hX.2.2.2.2.1
  refine lv_iload_n hx hb dX6_value_0 rfl (lv_at hl 0 rfl) ?_
  refine lv_ldc (v := 62615533) hx hb hown (hts _ q413) dX6_value_1 ?_
  refine lv_irem hx hb dX6_value_3 (by decide) ?_
  refine x_let h (fun x4 h => ?_)
  refine lv_istore_n (lv' := [(2, .int x4), (0, .int v0), (1, .int v1)]) hx hb dX6_value_4 rfl hl (Nat.le_of_ble_eq_true rfl) rfl (fun ls hl => ?_)
  refine lv_iconst (v := 0) hx hb dX6_value_5 kc_i0 ?_
  refine lv_istore_n (lv' := [(3, .int 0), (2, .int x4), (0, .int v0), (1, .int v1)]) hx hb dX6_value_6 rfl hl (Nat.le_of_ble_eq_true rfl) rfl (fun ls hl => ?_)
  exact t_X6_value_l7 hX hr hlk  10000 _ _ _ h _ _ _ hP hS (lv_sub hl [3, 1, 0] rfl)
/-! OwnerlessCoin$Person.putLock(II)V -/
def rm_X5_putLock : Room := { frames := 2, cells := 0, slots := 0, locals := 45 }
theorem Y_X5_putLock : yv yX5_putLock cX5_putLock 3 none 2 RX5 := ⟨q409, q407, q408, q15, by decide +kernel⟩
set_option maxHeartbeats 4000000 in
set_option maxRecDepth 100000 in
theorem c_X5_putLock {l : Launch} {D : va_G} {tc : Tc} {ad : Nat → Nat} {A : Nat → Prop} (hA : adok ad A) {I M : St} {o0 : Nat} {v1 : Int32} {v2 : Int32} {II : St} (h : f_X5_putLock o0 v1 v2 I = some II) : Met l yX5_putLock (Cond.code yX5_putLock cX5_putLock 3 none :: tw) rm_X5_putLock (pre D tc ad [.ref (ad o0), .int v1, .int v2] (cmb I M)) (qv D tc ad A (cmb II M)) 0 0 A := by
  unfold f_X5_putLock at h
  obtain ⟨ho0, h⟩ := ck_some h
  refine mk_met (own := RX5) (by decide +kernel) rfl hA (Nat.le_of_ble_eq_true rfl) ?_
  intro p e s m below meth c ls hX hr hlk hl hP hS
  have hl : lv_has ls 3 [(0, .ref (ad o0)), (1, .int v1), (2, .int v2)] := hl
  have hx := hX.1
  have hb := hX.2.1
  have hown := hX.2.2.2.1
  have hts := hX.2.2.2.2.1
  refine lv_aload_n hx hb dX5_putLock_0 rfl (lv_at hl 0 rfl) ?_
  refine lv_iconst (v := 2) hx hb dX5_putLock_1 kc_i2 ?_
  refine lv_aload_n hx hb dX5_putLock_2 rfl (lv_at hl 0 rfl) ?_
  refine r_get hX hP cok4 5 (isP_lt ho0) (isP_kd ho0) (by decide) rfl q98 dX5_putLock_3 ?_
  obtain ⟨r2, e1, h⟩ := ob1_some h
  refine j_i (j_runN (rest := [.int 2, .ref (ad o0)]) hX hP hl.1 Y_X7_stepped (c_X7_stepped hA e1) ⟨rfl, rfl⟩ nw6 ⟨Nat.le_of_ble_eq_true rfl, Nat.le_of_ble_eq_true rfl⟩ rfl rfl (Nat.le_of_ble_eq_true rfl) dX5_putLock_6) hS (fun H locs hP hS => ?_)
  obtain ⟨r4, e3, h⟩ := ob1_some h
  refine j_i (j_runN (rest := [.int 2, .ref (ad o0)]) hX hP hl.1 Y_X7_drawn (c_X7_drawn hA e3) ⟨rfl, rfl⟩ nw7 ⟨Nat.le_of_ble_eq_true rfl, Nat.le_of_ble_eq_true rfl⟩ rfl rfl (Nat.le_of_ble_eq_true rfl) dX5_putLock_9) hS (fun H locs hP hS => ?_)
  refine lv_sipush (v := 1000) hx hb dX5_putLock_12 kc_s1000 ?_
  refine lv_irem hx hb dX5_putLock_15 (by decide) ?_
  refine lv_iadd hx hb dX5_putLock_16 ?_
  refine r_put hX hP hS cok4 7 h (isP_lt ho0) (isP_kd ho0) (by decide) rfl rfl q104 rfl dX5_putLock_17 (fun I5 H locs h hP hS => ?_)
  refine lv_aload_n hx hb dX5_putLock_20 rfl (lv_at hl 0 rfl) ?_
  refine lv_iload_n hx hb dX5_putLock_21 rfl (lv_at hl 1 rfl) ?_
  refine lv_aload_n hx hb dX5_putLock_22 rfl (lv_at hl 0 rfl) ?_
  refine r_get hX hP cok4 7 (isP_lt ho0) (isP_kd ho0) (by decide) rfl q104 dX5_putLock_23 ?_
  refine x_let h (fun x6 h => ?_)
  refine lv_iload_n hx hb dX5_putLock_26 rfl (lv_at hl 2 rfl) ?_
  obtain ⟨r8, e7, h⟩ := ob1_some h
  refine j_i (j_runS (rest := [.int v1, .ref (ad o0)]) hX hP hl.1 Y_X6_value (c_X6_value hA e7) ⟨rfl, rfl⟩ q410 ⟨Nat.le_of_ble_eq_true rfl, Nat.le_of_ble_eq_true rfl⟩ rfl rfl (Nat.le_of_ble_eq_true rfl) dX5_putLock_27) hS (fun H locs hP hS => ?_)
  refine lv_iadd hx hb dX5_putLock_30 ?_
  refine x_let h (fun x9 h => ?_)
  refine lv_sipush (v := 1019) hx hb dX5_putLock_31 kc_s1019 ?_
  refine lv_irem hx hb dX5_putLock_34 (by decide) ?_
  refine r_put hX hP hS cok4 8 h (isP_lt ho0) (isP_kd ho0) (by decide) rfl rfl q105 rfl dX5_putLock_35 (fun I10 H locs h hP hS => ?_)
  cases h
  exact j_vret hX hr hlk hP hS dX5_putLock_38
/-! OwnerlessCoin$Lab.accept(III)V -/
def rm_X4_accept : Room := { frames := 3, cells := 0, slots := 0, locals := 72 }
theorem Y_X4_accept : yv yX4_accept cX4_accept 5 none 3 RX4 := ⟨q387, q385, q386, q13, by decide +kernel⟩
set_option maxHeartbeats 4000000 in
set_option maxRecDepth 100000 in
theorem t_X4_accept_b80 {p : Program} {l : Launch} {e : Env} {s : State} {m : MethodId} {args : Array Value} {below : List Frame} {meth : Method} {c : Code} {D : va_G} {tc : Tc} {ad : Nat → Nat} {A : Nat → Prop} {M : St} {II : St} (hX : cx p s m args c cX4_accept 5 RX4 D tc ad A) (hr : meth.sig.returnType = none) (hlk : meth.locks = false) : ∀ (I : St), f_X4_accept_b80 I = some II → ∀ (H : Heap) (locs : List Loc) (ls : Array Slot), va_P D vwCl (wl tc ad (cmb I M)) H → va_S A s.heap H locs → lv_has ls 5 [] → W p l e rm_X4_accept s m args below meth c H locs 0 0 (MQ below (qv D tc ad A (cmb II M)) args s 0 0 A) (F0 m 80 ls []) := by
  intro I h H locs ls hP hS hl
  unfold f_X4_accept_b80 at h
  have hx := hX.1
  have hb := hX.2.1
  have hown := hX.2.2.2.1
  have hts := hX.2.2.2.2.1
  have hA := hX.2.2.2.2.2.2
  cases h
  exact j_vret hX hr hlk hP hS dX4_accept_80
set_option maxHeartbeats 4000000 in
set_option maxRecDepth 100000 in
theorem t_X4_accept_b62 {p : Program} {l : Launch} {e : Env} {s : State} {m : MethodId} {args : Array Value} {below : List Frame} {meth : Method} {c : Code} {D : va_G} {tc : Tc} {ad : Nat → Nat} {A : Nat → Prop} {M : St} {II : St} (hX : cx p s m args c cX4_accept 5 RX4 D tc ad A) (hr : meth.sig.returnType = none) (hlk : meth.locks = false) : ∀ (v2 : Int32) (w4 : Nat) (I : St), isP w4 = true → f_X4_accept_b62 v2 w4 I = some II → ∀ (H : Heap) (locs : List Loc) (ls : Array Slot), va_P D vwCl (wl tc ad (cmb I M)) H → va_S A s.heap H locs → lv_has ls 5 [(0, .ref (ad 0)), (2, .int v2), (4, .ref (ad w4))] → W p l e rm_X4_accept s m args below meth c H locs 0 0 (MQ below (qv D tc ad A (cmb II M)) args s 0 0 A) (F0 m 62 ls []) := by
  intro v2 w4 I hw4 h H locs ls hP hS hl
  unfold f_X4_accept_b62 at h
  have hx := hX.1
  have hb := hX.2.1
  have hown := hX.2.2.2.1
  have hts := hX.2.2.2.2.1
  have hA := hX.2.2.2.2.2.2
  refine lv_aload_n hx hb dX4_accept_62 rfl (lv_at hl 0 rfl) ?_
  refine r_get hX hP cok3 5 sl_0 sk_0 (by decide) rfl q151 dX4_accept_63 ?_
  refine x_let h (fun x1 h => ?_)
  refine lv_iconst (v := 2) hx hb dX4_accept_66 kc_i2 ?_
  refine x_icmp_ne (tgt := 80) hx hb dX4_accept_67 (by decide) h (fun c2 h => ?_) (fun c2 h => ?_)
  · exact t_X4_accept_b80 hX hr hlk  _ h _ _ _ hP hS (lv_sub hl [] rfl)
  · refine lv_aload hx hb dX4_accept_70 (lv_at hl 2 rfl) ?_
    refine lv_iload_n hx hb dX4_accept_72 rfl (lv_at hl 1 rfl) ?_
    refine lv_aload_n hx hb dX4_accept_73 rfl (lv_at hl 0 rfl) ?_
    refine r_get hX hP cok3 8 sl_0 sk_0 (by decide) rfl q159 dX4_accept_74 ?_
    obtain ⟨I4, e3, h⟩ := ob1_some h
    refine j_v (j_runV (rest := []) hX hP hl.1 Y_X5_putLock cok4 (lt157 (isP_lt hw4)) (isP_kd hw4) (c_X5_putLock hA e3) ⟨rfl, rfl⟩ q406 ⟨Nat.le_of_ble_eq_true rfl, Nat.le_of_ble_eq_true rfl⟩ rfl rfl (Nat.le_of_ble_eq_true rfl) dX4_accept_77) hS (fun H locs hP hS => ?_)
    exact t_X4_accept_b80 hX hr hlk  _ h _ _ _ hP hS (lv_sub hl [] rfl)
set_option maxHeartbeats 4000000 in
set_option maxRecDepth 100000 in
theorem c_X4_accept {l : Launch} {D : va_G} {tc : Tc} {ad : Nat → Nat} {A : Nat → Prop} (hA : adok ad A) {I M : St} {v1 : Int32} {v2 : Int32} {v3 : Int32} {II : St} (h : f_X4_accept v1 v2 v3 I = some II) : Met l yX4_accept (Cond.code yX4_accept cX4_accept 5 none :: tw) rm_X4_accept (pre D tc ad [.ref (ad 0), .int v1, .int v2, .int v3] (cmb I M)) (qv D tc ad A (cmb II M)) 0 0 A := by
  unfold f_X4_accept at h
  refine mk_met (own := RX4) (by decide +kernel) rfl hA (Nat.le_of_ble_eq_true rfl) ?_
  intro p e s m below meth c ls hX hr hlk hl hP hS
  have hl : lv_has ls 5 [(0, .ref (ad 0)), (1, .int v1), (2, .int v2), (3, .int v3)] := hl
  have hx := hX.1
  have hb := hX.2.1
  have hown := hX.2.2.2.1
  have hts := hX.2.2.2.2.1
  refine lv_aload_n hx hb dX4_accept_0 rfl (lv_at hl 0 rfl) ?_
  refine r_getq (t := 1) hX hP cok3 0 sl_0 sk_0 (by decide) rfl q138 dX4_accept_1 ?_
  refine lv_iload_n hx hb dX4_accept_4 rfl (lv_at hl 1 rfl) ?_
  refine r_ldq hX hP h (lt157 sl_1) sk_1 sn_1 dX4_accept_5 (fun g5 h => ?_)
  refine lv_astore (lv' := [(4, .ref (ad (5 + v1.toNatClampNeg))), (0, .ref (ad 0)), (1, .int v1), (2, .int v2), (3, .int v3)]) hx hb dX4_accept_6 hl (Nat.le_of_ble_eq_true rfl) rfl (fun ls hl => ?_)
  refine lv_aload_n hx hb dX4_accept_8 rfl (lv_at hl 1 rfl) ?_
  refine r_getq (t := 2) hX hP cok3 1 sl_0 sk_0 (by decide) rfl q141 dX4_accept_9 ?_
  refine lv_iload_n hx hb dX4_accept_12 rfl (lv_at hl 2 rfl) ?_
  refine lv_iload_n hx hb dX4_accept_13 rfl (lv_at hl 3 rfl) ?_
  refine r_ast hX hP hS h sl_2 sk_2 sn_2 dX4_accept_14 (fun I6 H locs h hP hS => ?_)
  refine lv_aload hx hb dX4_accept_15 (lv_at hl 0 rfl) ?_
  refine lv_iload_n hx hb dX4_accept_17 rfl (lv_at hl 4 rfl) ?_
  refine r_put hX hP hS cok4 5 h (isP_lt (isP_of g5)) (isP_kd (isP_of g5)) (by decide) rfl rfl q99 rfl dX4_accept_18 (fun I7 H locs h hP hS => ?_)
  refine lv_aload hx hb dX4_accept_21 (lv_at hl 0 rfl) ?_
  refine lv_aload_n hx hb dX4_accept_23 rfl (lv_at hl 1 rfl) ?_
  refine lv_iload_n hx hb dX4_accept_24 rfl (lv_at hl 3 rfl) ?_
  refine lv_iload_n hx hb dX4_accept_25 rfl (lv_at hl 4 rfl) ?_
  obtain ⟨r9, e8, h⟩ := ob1_some h
  refine j_i (j_runV (rest := [.ref (ad (5 + v1.toNatClampNeg))]) hX hP hl.1 Y_X4_digestOf cok3 (lt157 sl_0) sk_0 (c_X4_digestOf hA e8) ⟨rfl, rfl⟩ q388 ⟨Nat.le_of_ble_eq_true rfl, Nat.le_of_ble_eq_true rfl⟩ rfl rfl (Nat.le_of_ble_eq_true rfl) dX4_accept_26) hS (fun H locs hP hS => ?_)
  refine r_put hX hP hS cok4 6 h (isP_lt (isP_of g5)) (isP_kd (isP_of g5)) (by decide) rfl rfl q102 rfl dX4_accept_29 (fun I10 H locs h hP hS => ?_)
  refine lv_aload_n hx hb dX4_accept_32 rfl (lv_at hl 1 rfl) ?_
  refine lv_dup hx hb dX4_accept_33 rfl ?_
  refine r_get hX hP cok3 11 sl_0 sk_0 (by decide) rfl q167 dX4_accept_34 ?_
  refine x_let h (fun x11 h => ?_)
  refine lv_iconst (v := 1) hx hb dX4_accept_37 kc_i1 ?_
  refine lv_iload_n hx hb dX4_accept_38 rfl (lv_at hl 2 rfl) ?_
  refine lv_ishl hx hb dX4_accept_39 ?_
  refine lv_ior hx hb dX4_accept_40 ?_
  refine r_put hX hP hS cok3 11 h sl_0 sk_0 (by decide) rfl rfl q167 rfl dX4_accept_41 (fun I12 H locs h hP hS => ?_)
  refine lv_aload_n hx hb dX4_accept_44 rfl (lv_at hl 1 rfl) ?_
  refine r_get hX hP cok3 5 sl_0 sk_0 (by decide) rfl q151 dX4_accept_45 ?_
  refine x_let h (fun x13 h => ?_)
  refine lv_iconst (v := 1) hx hb dX4_accept_48 kc_i1 ?_
  refine x_icmp_ne (tgt := 62) hx hb dX4_accept_49 (by decide) h (fun c14 h => ?_) (fun c14 h => ?_)
  · exact t_X4_accept_b62 hX hr hlk  _ _ _ (isP_of g5) h _ _ _ hP hS (lv_sub hl [1, 3, 0] rfl)
  · refine lv_aload hx hb dX4_accept_52 (lv_at hl 0 rfl) ?_
    refine lv_iload_n hx hb dX4_accept_54 rfl (lv_at hl 3 rfl) ?_
    refine lv_aload_n hx hb dX4_accept_55 rfl (lv_at hl 1 rfl) ?_
    refine r_get hX hP cok3 6 sl_0 sk_0 (by decide) rfl q154 dX4_accept_56 ?_
    obtain ⟨I16, e15, h⟩ := ob1_some h
    refine j_v (j_runV (rest := []) hX hP hl.1 Y_X5_deal cok4 (lt157 (isP_lt (isP_of g5))) (isP_kd (isP_of g5)) (c_X5_deal hA e15) ⟨rfl, rfl⟩ q389 ⟨Nat.le_of_ble_eq_true rfl, Nat.le_of_ble_eq_true rfl⟩ rfl rfl (Nat.le_of_ble_eq_true rfl) dX4_accept_59) hS (fun H locs hP hS => ?_)
    exact t_X4_accept_b62 hX hr hlk  _ _ _ (isP_of g5) h _ _ _ hP hS (lv_sub hl [1, 3, 0] rfl)
/-! OwnerlessCoin.commit(III)I -/
def rm_X7_commit : Room := { frames := 4, cells := 0, slots := 0, locals := 96 }
theorem Y_X7_commit : yv yX7_commit cX7_commit 5 (some .int) 3 RX7 := ⟨q370, q368, q369, q12, by decide +kernel⟩
set_option maxHeartbeats 4000000 in
set_option maxRecDepth 100000 in
theorem t_X7_commit_b22 {p : Program} {l : Launch} {e : Env} {s : State} {m : MethodId} {args : Array Value} {below : List Frame} {meth : Method} {c : Code} {D : va_G} {tc : Tc} {ad : Nat → Nat} {A : Nat → Prop} {M : St} {rr : Int32} {II : St} (hX : cx p s m args c cX7_commit 5 RX7 D tc ad A) (hr : meth.sig.returnType = some .int) (hlk : meth.locks = false) : ∀ (I : St), f_X7_commit_b22 I = some (rr, II) → ∀ (H : Heap) (locs : List Loc) (ls : Array Slot), va_P D vwCl (wl tc ad (cmb I M)) H → va_S A s.heap H locs → lv_has ls 5 [] → W p l e rm_X7_commit s m args below meth c H locs 0 0 (MQ below (qi D tc ad A rr (cmb II M)) args s 0 0 A) (F0 m 22 ls []) := by
  intro I h H locs ls hP hS hl
  unfold f_X7_commit_b22 at h
  have hx := hX.1
  have hb := hX.2.1
  have hown := hX.2.2.2.1
  have hts := hX.2.2.2.2.1
  have hA := hX.2.2.2.2.2.2
  refine lv_iconst (v := (-1)) hx hb dX7_commit_22 kc_im1 ?_
  cases h
  exact j_iret hX hr hlk hP hS dX7_commit_23
set_option maxHeartbeats 4000000 in
set_option maxRecDepth 100000 in
theorem t_X7_commit_b63 {p : Program} {l : Launch} {e : Env} {s : State} {m : MethodId} {args : Array Value} {below : List Frame} {meth : Method} {c : Code} {D : va_G} {tc : Tc} {ad : Nat → Nat} {A : Nat → Prop} {M : St} {rr : Int32} {II : St} (hX : cx p s m args c cX7_commit 5 RX7 D tc ad A) (hr : meth.sig.returnType = some .int) (hlk : meth.locks = false) : ∀ (I : St), f_X7_commit_b63 I = some (rr, II) → ∀ (H : Heap) (locs : List Loc) (ls : Array Slot), va_P D vwCl (wl tc ad (cmb I M)) H → va_S A s.heap H locs → lv_has ls 5 [] → W p l e rm_X7_commit s m args below meth c H locs 0 0 (MQ below (qi D tc ad A rr (cmb II M)) args s 0 0 A) (F0 m 63 ls []) := by
  intro I h H locs ls hP hS hl
  unfold f_X7_commit_b63 at h
  have hx := hX.1
  have hb := hX.2.1
  have hown := hX.2.2.2.1
  have hts := hX.2.2.2.2.1
  have hA := hX.2.2.2.2.2.2
  refine lv_bipush (v := (-2)) hx hb dX7_commit_63 kc_bm2 ?_
  cases h
  exact j_iret hX hr hlk hP hS dX7_commit_65
set_option maxHeartbeats 4000000 in
set_option maxRecDepth 100000 in
theorem c_X7_commit {l : Launch} {D : va_G} {tc : Tc} {ad : Nat → Nat} {A : Nat → Prop} (hA : adok ad A) {I M : St} {v1 : Int32} {v2 : Int32} {v3 : Int32} {rr : Int32} {II : St} (h : f_X7_commit v1 v2 v3 I = some (rr, II)) : Met l yX7_commit (Cond.code yX7_commit cX7_commit 5 (some .int) :: tw) rm_X7_commit (pre D tc ad [.ref (ad 145), .int v1, .int v2, .int v3] (cmb I M)) (qi D tc ad A rr (cmb II M)) 0 0 A := by
  unfold f_X7_commit at h
  refine mk_met (own := RX7) (by decide +kernel) rfl hA (Nat.le_of_ble_eq_true rfl) ?_
  intro p e s m below meth c ls hX hr hlk hl hP hS
  have hl : lv_has ls 5 [(0, .ref (ad 145)), (1, .int v1), (2, .int v2), (3, .int v3)] := hl
  have hx := hX.1
  have hb := hX.2.1
  have hown := hX.2.2.2.1
  have hts := hX.2.2.2.2.1
  refine lv_aload_n hx hb dX7_commit_0 rfl (lv_at hl 0 rfl) ?_
  refine r_getq (t := 0) hX hP cok5 0 sl_145 sk_145 (by decide) rfl q243 dX7_commit_1 ?_
  refine lv_iload_n hx hb dX7_commit_4 rfl (lv_at hl 1 rfl) ?_
  obtain ⟨r2, e1, h⟩ := ob1_some h
  refine j_i (j_runV (rest := []) hX hP hl.1 Y_X4_isParticipant cok3 (lt157 sl_0) sk_0 (c_X4_isParticipant hA e1) ⟨rfl, rfl⟩ q331 ⟨Nat.le_of_ble_eq_true rfl, Nat.le_of_ble_eq_true rfl⟩ rfl rfl (Nat.le_of_ble_eq_true rfl) dX7_commit_5) hS (fun H locs hP hS => ?_)
  refine x_if_eq (tgt := 22) hx hb dX7_commit_8 (by decide) h (fun c3 h => ?_) (fun c3 h => ?_)
  · exact t_X7_commit_b22 hX hr hlk  _ h _ _ _ hP hS (lv_sub hl [] rfl)
  · refine lv_iload_n hx hb dX7_commit_11 rfl (lv_at hl 2 rfl) ?_
    refine lv_iconst (v := 0) hx hb dX7_commit_12 kc_i0 ?_
    refine lv_sipush (v := 1018) hx hb dX7_commit_13 kc_s1018 ?_
    obtain ⟨r5, e4, h⟩ := ob1_some h
    refine j_i (j_runS (rest := []) hX hP hl.1 Y_X7_isWithin (c_X7_isWithin hA e4) ⟨rfl, rfl⟩ q258 ⟨Nat.le_of_ble_eq_true rfl, Nat.le_of_ble_eq_true rfl⟩ rfl rfl (Nat.le_of_ble_eq_true rfl) dX7_commit_16) hS (fun H locs hP hS => ?_)
    refine x_if_ne (tgt := 24) hx hb dX7_commit_19 (by decide) h (fun c6 h => ?_) (fun c6 h => ?_)
    · refine lv_aload_n hx hb dX7_commit_24 rfl (lv_at hl 0 rfl) ?_
      refine r_getq (t := 0) hX hP cok5 0 sl_145 sk_145 (by decide) rfl q243 dX7_commit_25 ?_
      refine r_get hX hP cok3 9 sl_0 sk_0 (by decide) rfl q162 dX7_commit_28 ?_
      refine x_let h (fun x7 h => ?_)
      refine lv_iconst (v := 1) hx hb dX7_commit_31 kc_i1 ?_
      refine x_icmp_ne (tgt := 63) hx hb dX7_commit_32 (by decide) h (fun c8 h => ?_) (fun c8 h => ?_)
      · exact t_X7_commit_b63 hX hr hlk  _ h _ _ _ hP hS (lv_sub hl [] rfl)
      · refine lv_aload_n hx hb dX7_commit_35 rfl (lv_at hl 0 rfl) ?_
        refine r_getq (t := 0) hX hP cok5 0 sl_145 sk_145 (by decide) rfl q243 dX7_commit_36 ?_
        refine r_get hX hP cok3 10 sl_0 sk_0 (by decide) rfl q166 dX7_commit_39 ?_
        refine x_let h (fun x9 h => ?_)
        refine lv_iload_n hx hb dX7_commit_42 rfl (lv_at hl 1 rfl) ?_
        obtain ⟨r11, e10, h⟩ := ob1_some h
        refine j_i (j_runS (rest := []) hX hP hl.1 Y_X7_has (c_X7_has hA e10) ⟨rfl, rfl⟩ q371 ⟨Nat.le_of_ble_eq_true rfl, Nat.le_of_ble_eq_true rfl⟩ rfl rfl (Nat.le_of_ble_eq_true rfl) dX7_commit_43) hS (fun H locs hP hS => ?_)
        refine x_if_eq (tgt := 63) hx hb dX7_commit_46 (by decide) h (fun c12 h => ?_) (fun c12 h => ?_)
        · exact t_X7_commit_b63 hX hr hlk  _ h _ _ _ hP hS (lv_sub hl [] rfl)
        · refine lv_aload_n hx hb dX7_commit_49 rfl (lv_at hl 0 rfl) ?_
          refine r_getq (t := 0) hX hP cok5 0 sl_145 sk_145 (by decide) rfl q243 dX7_commit_50 ?_
          refine r_get hX hP cok3 11 sl_0 sk_0 (by decide) rfl q169 dX7_commit_53 ?_
          refine x_let h (fun x13 h => ?_)
          refine lv_iload_n hx hb dX7_commit_56 rfl (lv_at hl 1 rfl) ?_
          obtain ⟨r15, e14, h⟩ := ob1_some h
          refine j_i (j_runS (rest := []) hX hP hl.1 Y_X7_has (c_X7_has hA e14) ⟨rfl, rfl⟩ q371 ⟨Nat.le_of_ble_eq_true rfl, Nat.le_of_ble_eq_true rfl⟩ rfl rfl (Nat.le_of_ble_eq_true rfl) dX7_commit_57) hS (fun H locs hP hS => ?_)
          refine x_if_eq (tgt := 66) hx hb dX7_commit_60 (by decide) h (fun c16 h => ?_) (fun c16 h => ?_)
          · refine lv_aload_n hx hb dX7_commit_66 rfl (lv_at hl 0 rfl) ?_
            refine r_getq (t := 0) hX hP cok5 0 sl_145 sk_145 (by decide) rfl q243 dX7_commit_67 ?_
            refine lv_iload_n hx hb dX7_commit_70 rfl (lv_at hl 2 rfl) ?_
            refine lv_iload_n hx hb dX7_commit_71 rfl (lv_at hl 3 rfl) ?_
            obtain ⟨r18, e17, h⟩ := ob1_some h
            refine j_i (j_runV (rest := []) hX hP hl.1 Y_X4_digestOf cok3 (lt157 sl_0) sk_0 (c_X4_digestOf hA e17) ⟨rfl, rfl⟩ q372 ⟨Nat.le_of_ble_eq_true rfl, Nat.le_of_ble_eq_true rfl⟩ rfl rfl (Nat.le_of_ble_eq_true rfl) dX7_commit_72) hS (fun H locs hP hS => ?_)
            refine lv_istore (lv' := [(4, .int r18), (0, .ref (ad 145)), (1, .int v1), (2, .int v2), (3, .int v3)]) hx hb dX7_commit_75 hl (Nat.le_of_ble_eq_true rfl) rfl (fun ls hl => ?_)
            refine lv_aload_n hx hb dX7_commit_77 rfl (lv_at hl 1 rfl) ?_
            refine r_getq (t := 0) hX hP cok5 0 sl_145 sk_145 (by decide) rfl q243 dX7_commit_78 ?_
            refine lv_iload hx hb dX7_commit_81 (lv_at hl 0 rfl) ?_
            obtain ⟨r20, e19, h⟩ := ob1_some h
            refine j_i (j_runV (rest := []) hX hP hl.1 Y_X4_isTaken cok3 (lt157 sl_0) sk_0 (c_X4_isTaken hA e19) ⟨rfl, rfl⟩ q380 ⟨Nat.le_of_ble_eq_true rfl, Nat.le_of_ble_eq_true rfl⟩ rfl rfl (Nat.le_of_ble_eq_true rfl) dX7_commit_83) hS (fun H locs hP hS => ?_)
            refine x_if_eq (tgt := 92) hx hb dX7_commit_86 (by decide) h (fun c21 h => ?_) (fun c21 h => ?_)
            · refine lv_aload_n hx hb dX7_commit_92 rfl (lv_at hl 1 rfl) ?_
              refine r_getq (t := 146) hX hP cok5 1 sl_145 sk_145 (by decide) rfl q244 dX7_commit_93 ?_
              refine lv_aload_n hx hb dX7_commit_96 rfl (lv_at hl 1 rfl) ?_
              refine r_getq (t := 0) hX hP cok5 0 sl_145 sk_145 (by decide) rfl q243 dX7_commit_97 ?_
              obtain ⟨I23, e22, h⟩ := ob1_some h
              refine j_v (j_runV (rest := []) hX hP hl.1 Y_X3_remember cok2 (lt157 sl_146) sk_146 (c_X3_remember hA e22) ⟨rfl, rfl⟩ q261 ⟨Nat.le_of_ble_eq_true rfl, Nat.le_of_ble_eq_true rfl⟩ rfl rfl (Nat.le_of_ble_eq_true rfl) dX7_commit_100) hS (fun H locs hP hS => ?_)
              refine lv_aload_n hx hb dX7_commit_103 rfl (lv_at hl 1 rfl) ?_
              refine r_getq (t := 0) hX hP cok5 0 sl_145 sk_145 (by decide) rfl q243 dX7_commit_104 ?_
              refine lv_iload_n hx hb dX7_commit_107 rfl (lv_at hl 2 rfl) ?_
              refine lv_iload_n hx hb dX7_commit_108 rfl (lv_at hl 3 rfl) ?_
              refine lv_iload_n hx hb dX7_commit_109 rfl (lv_at hl 4 rfl) ?_
              obtain ⟨I25, e24, h⟩ := ob1_some h
              refine j_v (j_runV (rest := []) hX hP hl.1 Y_X4_accept cok3 (lt157 sl_0) sk_0 (c_X4_accept hA e24) ⟨rfl, rfl⟩ q384 ⟨Nat.le_of_ble_eq_true rfl, Nat.le_of_ble_eq_true rfl⟩ rfl rfl (Nat.le_of_ble_eq_true rfl) dX7_commit_110) hS (fun H locs hP hS => ?_)
              refine lv_iload hx hb dX7_commit_113 (lv_at hl 0 rfl) ?_
              refine lv_ldc (v := 1073741823) hx hb hown (hts _ q350) dX7_commit_115 ?_
              refine lv_iand hx hb dX7_commit_117 ?_
              cases h
              exact j_iret hX hr hlk hP hS dX7_commit_118
            · refine lv_bipush (v := (-4)) hx hb dX7_commit_89 kc_bm4 ?_
              cases h
              exact j_iret hX hr hlk hP hS dX7_commit_91
          · exact t_X7_commit_b63 hX hr hlk  _ h _ _ _ hP hS (lv_sub hl [] rfl)
    · exact t_X7_commit_b22 hX hr hlk  _ h _ _ _ hP hS (lv_sub hl [] rfl)
