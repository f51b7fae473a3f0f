/-! OwnerlessCoin.rounds()I -/
def rm_X7_rounds : Room := { frames := 0, cells := 0, slots := 0, locals := 0 }
theorem Y_X7_rounds : yv yX7_rounds cX7_rounds 1 (some .int) 0 RX7 := ⟨q322, q320, q321, q12, by decide +kernel⟩
set_option maxHeartbeats 4000000 in
set_option maxRecDepth 100000 in
theorem c_X7_rounds {l : Launch} {D : va_G} {tc : Tc} {ad : Nat → Nat} {A : Nat → Prop} (hA : adok ad A) {I M : St}  {rr : Int32} (h : f_X7_rounds I = some rr) : Met l yX7_rounds (Cond.code yX7_rounds cX7_rounds 1 (some .int) :: tw) rm_X7_rounds (pre D tc ad [.ref (ad 145)] (cmb I M)) (qi D tc ad A rr (cmb I M)) 0 0 A := by
  unfold f_X7_rounds at h
  refine mk_met (own := RX7) (by decide +kernel) rfl hA (Nat.le_of_ble_eq_true rfl) ?_
  intro p e s m below meth c ls hX hr hlk hl hP hS
  have hl : lv_has ls 1 [(0, .ref (ad 145))] := hl
  have hx := hX.1
  have hb := hX.2.1
  have hown := hX.2.2.2.1
  have hts := hX.2.2.2.2.1
  refine lv_aload_n hx hb dX7_rounds_0 rfl (lv_at hl 0 rfl) ?_
  refine r_getq (t := 0) hX hP cok5 0 sl_145 sk_145 (by decide) rfl q243 dX7_rounds_1 ?_
  refine r_getq (t := 3) hX hP cok3 2 sl_0 sk_0 (by decide) rfl q146 dX7_rounds_4 ?_
  refine r_get hX hP cok0 0 sl_3 sk_3 (by decide) rfl q46 dX7_rounds_7 ?_
  cases h
  exact j_iret hX hr hlk hP hS dX7_rounds_10
/-! OwnerlessCoin$Chronicle.keeps(I)Z -/
def rm_X0_keeps : Room := { frames := 0, cells := 0, slots := 0, locals := 0 }
theorem Y_X0_keeps : yv yX0_keeps cX0_keeps 2 (some .boolean) 1 RX0 := ⟨q659, q657, q658, q14, by decide +kernel⟩
set_option maxHeartbeats 4000000 in
set_option maxRecDepth 100000 in
theorem t_X0_keeps_b28 {p : Program} {l : Launch} {e : Env} {s : State} {m : MethodId} {args : Array Value} {below : List Frame} {meth : Method} {c : Code} {D : va_G} {tc : Tc} {ad : Nat → Nat} {A : Nat → Prop} {M : St} {rr : Int32} (hX : cx p s m args c cX0_keeps 2 RX0 D tc ad A) (hr : meth.sig.returnType = some .boolean) (hlk : meth.locks = false) : ∀ (t0 : Int32) (I : St), f_X0_keeps_b28 t0 I = some rr → ∀ (H : Heap) (locs : List Loc) (ls : Array Slot), va_P D vwCl (wl tc ad (cmb I M)) H → va_S A s.heap H locs → lv_has ls 2 [] → W p l e rm_X0_keeps s m args below meth c H locs 0 0 (MQ below (qi D tc ad A rr (cmb I M)) args s 0 0 A) (F0 m 28 ls [.int t0]) := by
  intro t0 I h H locs ls hP hS hl
  unfold f_X0_keeps_b28 at h
  have hx := hX.1
  have hb := hX.2.1
  have hown := hX.2.2.2.1
  have hts := hX.2.2.2.2.1
  have hA := hX.2.2.2.2.2.2
  obtain ⟨gz, h⟩ := ck_some h
  cases h
  exact j_zret hX hr hlk hP hS (isB_or gz) dX0_keeps_28
set_option maxHeartbeats 4000000 in
set_option maxRecDepth 100000 in
theorem t_X0_keeps_b27 {p : Program} {l : Launch} {e : Env} {s : State} {m : MethodId} {args : Array Value} {below : List Frame} {meth : Method} {c : Code} {D : va_G} {tc : Tc} {ad : Nat → Nat} {A : Nat → Prop} {M : St} {rr : Int32} (hX : cx p s m args c cX0_keeps 2 RX0 D tc ad A) (hr : meth.sig.returnType = some .boolean) (hlk : meth.locks = false) : ∀ (I : St), f_X0_keeps_b27 I = some rr → ∀ (H : Heap) (locs : List Loc) (ls : Array Slot), va_P D vwCl (wl tc ad (cmb I M)) H → va_S A s.heap H locs → lv_has ls 2 [] → W p l e rm_X0_keeps s m args below meth c H locs 0 0 (MQ below (qi D tc ad A rr (cmb I M)) args s 0 0 A) (F0 m 27 ls []) := by
  intro I h H locs ls hP hS hl
  unfold f_X0_keeps_b27 at h
  have hx := hX.1
  have hb := hX.2.1
  have hown := hX.2.2.2.1
  have hts := hX.2.2.2.2.1
  have hA := hX.2.2.2.2.2.2
  refine lv_iconst (v := 0) hx hb dX0_keeps_27 kc_i0 ?_
  exact t_X0_keeps_b28 hX hr hlk  _ _ h _ _ _ hP hS (lv_sub hl [] rfl)
set_option maxHeartbeats 4000000 in
set_option maxRecDepth 100000 in
theorem c_X0_keeps {l : Launch} {D : va_G} {tc : Tc} {ad : Nat → Nat} {A : Nat → Prop} (hA : adok ad A) {I M : St} {v1 : Int32} {rr : Int32} (h : f_X0_keeps v1 I = some rr) : Met l yX0_keeps (Cond.code yX0_keeps cX0_keeps 2 (some .boolean) :: tw) rm_X0_keeps (pre D tc ad [.ref (ad 3), .int v1] (cmb I M)) (qi D tc ad A rr (cmb I M)) 0 0 A := by
  unfold f_X0_keeps at h
  refine mk_met (own := RX0) (by decide +kernel) rfl hA (Nat.le_of_ble_eq_true rfl) ?_
  intro p e s m below meth c ls hX hr hlk hl hP hS
  have hl : lv_has ls 2 [(0, .ref (ad 3)), (1, .int v1)] := hl
  have hx := hX.1
  have hb := hX.2.1
  have hown := hX.2.2.2.1
  have hts := hX.2.2.2.2.1
  refine lv_iload_n hx hb dX0_keeps_0 rfl (lv_at hl 1 rfl) ?_
  refine x_if_lt (tgt := 27) hx hb dX0_keeps_1 (by decide) h (fun c1 h => ?_) (fun c1 h => ?_)
  · exact t_X0_keeps_b27 hX hr hlk  _ h _ _ _ hP hS (lv_sub hl [] rfl)
  · refine lv_iload_n hx hb dX0_keeps_4 rfl (lv_at hl 1 rfl) ?_
    refine lv_aload_n hx hb dX0_keeps_5 rfl (lv_at hl 0 rfl) ?_
    refine r_get hX hP cok0 0 sl_3 sk_3 (by decide) rfl q45 dX0_keeps_6 ?_
    refine x_icmp_ge (tgt := 27) hx hb dX0_keeps_9 (by decide) h (fun c2 h => ?_) (fun c2 h => ?_)
    · exact t_X0_keeps_b27 hX hr hlk  _ h _ _ _ hP hS (lv_sub hl [] rfl)
    · refine lv_iload_n hx hb dX0_keeps_12 rfl (lv_at hl 1 rfl) ?_
      refine lv_aload_n hx hb dX0_keeps_13 rfl (lv_at hl 0 rfl) ?_
      refine r_get hX hP cok0 0 sl_3 sk_3 (by decide) rfl q45 dX0_keeps_14 ?_
      refine x_let h (fun x3 h => ?_)
      refine lv_bipush (v := 16) hx hb dX0_keeps_17 kc_b16 ?_
      refine lv_isub hx hb dX0_keeps_19 ?_
      refine x_icmp_lt (tgt := 27) hx hb dX0_keeps_20 (by decide) h (fun c4 h => ?_) (fun c4 h => ?_)
      · exact t_X0_keeps_b27 hX hr hlk  _ h _ _ _ hP hS (lv_sub hl [] rfl)
      · refine lv_iconst (v := 1) hx hb dX0_keeps_23 kc_i1 ?_
        refine lv_goto (tgt := 28) hx hb dX0_keeps_24 (by decide) ?_
        exact t_X0_keeps_b28 hX hr hlk  _ _ h _ _ _ hP hS (lv_sub hl [] rfl)
/-! OwnerlessCoin$Chronicle.entry(II)I -/
def rm_X0_entry : Room := { frames := 0, cells := 0, slots := 0, locals := 0 }
theorem Y_X0_entry : yv yX0_entry cX0_entry 3 (some .int) 2 RX0 := ⟨q663, q661, q662, q14, by decide +kernel⟩
set_option maxHeartbeats 4000000 in
set_option maxRecDepth 100000 in
theorem c_X0_entry {l : Launch} {D : va_G} {tc : Tc} {ad : Nat → Nat} {A : Nat → Prop} (hA : adok ad A) {I M : St} {v1 : Int32} {v2 : Int32} {rr : Int32} (h : f_X0_entry v1 v2 I = some rr) : Met l yX0_entry (Cond.code yX0_entry cX0_entry 3 (some .int) :: tw) rm_X0_entry (pre D tc ad [.ref (ad 3), .int v1, .int v2] (cmb I M)) (qi D tc ad A rr (cmb I M)) 0 0 A := by
  unfold f_X0_entry at h
  refine mk_met (own := RX0) (by decide +kernel) rfl hA (Nat.le_of_ble_eq_true rfl) ?_
  intro p e s m below meth c ls hX hr hlk hl hP hS
  have hl : lv_has ls 3 [(0, .ref (ad 3)), (1, .int v1), (2, .int v2)] := hl
  have hx := hX.1
  have hb := hX.2.1
  have hown := hX.2.2.2.1
  have hts := hX.2.2.2.2.1
  refine lv_aload_n hx hb dX0_entry_0 rfl (lv_at hl 0 rfl) ?_
  refine r_getq (t := 4) hX hP cok0 7 sl_3 sk_3 (by decide) rfl q59 dX0_entry_1 ?_
  refine lv_iload_n hx hb dX0_entry_4 rfl (lv_at hl 1 rfl) ?_
  refine lv_bipush (v := 16) hx hb dX0_entry_5 kc_b16 ?_
  refine lv_irem hx hb dX0_entry_7 (by decide) ?_
  refine x_let h (fun x1 h => ?_)
  refine lv_bipush (v := 6) hx hb dX0_entry_8 kc_b6 ?_
  refine lv_imul hx hb dX0_entry_10 ?_
  refine x_let h (fun x2 h => ?_)
  refine lv_iload_n hx hb dX0_entry_11 rfl (lv_at hl 2 rfl) ?_
  refine lv_iadd hx hb dX0_entry_12 ?_
  refine x_let h (fun x3 h => ?_)
  refine r_ald hX hP h sl_4 sk_4 sn_4 dX0_entry_13 (fun h => ?_)
  cases h
  exact j_iret hX hr hlk hP hS dX0_entry_14
/-! OwnerlessCoin.past(II)I -/
def rm_X7_past : Room := { frames := 1, cells := 0, slots := 0, locals := 22 }
theorem Y_X7_past : yv yX7_past cX7_past 3 (some .int) 2 RX7 := ⟨q655, q653, q654, q12, by decide +kernel⟩
set_option maxHeartbeats 4000000 in
set_option maxRecDepth 100000 in
theorem t_X7_past_b13 {p : Program} {l : Launch} {e : Env} {s : State} {m : MethodId} {args : Array Value} {below : List Frame} {meth : Method} {c : Code} {D : va_G} {tc : Tc} {ad : Nat → Nat} {A : Nat → Prop} {M : St} {rr : Int32} (hX : cx p s m args c cX7_past 3 RX7 D tc ad A) (hr : meth.sig.returnType = some .int) (hlk : meth.locks = false) : ∀ (I : St), f_X7_past_b13 I = some rr → ∀ (H : Heap) (locs : List Loc) (ls : Array Slot), va_P D vwCl (wl tc ad (cmb I M)) H → va_S A s.heap H locs → lv_has ls 3 [] → W p l e rm_X7_past s m args below meth c H locs 0 0 (MQ below (qi D tc ad A rr (cmb I M)) args s 0 0 A) (F0 m 13 ls []) := by
  intro I h H locs ls hP hS hl
  unfold f_X7_past_b13 at h
  have hx := hX.1
  have hb := hX.2.1
  have hown := hX.2.2.2.1
  have hts := hX.2.2.2.2.1
  have hA := hX.2.2.2.2.2.2
  refine lv_iconst (v := (-1)) hx hb dX7_past_13 kc_im1 ?_
  cases h
  exact j_iret hX hr hlk hP hS dX7_past_14
set_option maxHeartbeats 4000000 in
set_option maxRecDepth 100000 in
theorem c_X7_past {l : Launch} {D : va_G} {tc : Tc} {ad : Nat → Nat} {A : Nat → Prop} (hA : adok ad A) {I M : St} {v1 : Int32} {v2 : Int32} {rr : Int32} (h : f_X7_past v1 v2 I = some rr) : Met l yX7_past (Cond.code yX7_past cX7_past 3 (some .int) :: tw) rm_X7_past (pre D tc ad [.ref (ad 145), .int v1, .int v2] (cmb I M)) (qi D tc ad A rr (cmb I M)) 0 0 A := by
  unfold f_X7_past at h
  refine mk_met (own := RX7) (by decide +kernel) rfl hA (Nat.le_of_ble_eq_true rfl) ?_
  intro p e s m below meth c ls hX hr hlk hl hP hS
  have hl : lv_has ls 3 [(0, .ref (ad 145)), (1, .int v1), (2, .int v2)] := hl
  have hx := hX.1
  have hb := hX.2.1
  have hown := hX.2.2.2.1
  have hts := hX.2.2.2.2.1
  refine lv_iload_n hx hb dX7_past_0 rfl (lv_at hl 1 rfl) ?_
  refine x_if_lt (tgt := 13) hx hb dX7_past_1 (by decide) h (fun c1 h => ?_) (fun c1 h => ?_)
  · exact t_X7_past_b13 hX hr hlk  _ h _ _ _ hP hS (lv_sub hl [] rfl)
  · refine lv_iload_n hx hb dX7_past_4 rfl (lv_at hl 2 rfl) ?_
    refine lv_iconst (v := 0) hx hb dX7_past_5 kc_i0 ?_
    refine lv_iconst (v := 4) hx hb dX7_past_6 kc_i4 ?_
    obtain ⟨r3, e2, h⟩ := ob1_some h
    refine j_i (j_runS (rest := []) hX hP hl.1 Y_X7_isWithin (c_X7_isWithin hA e2) ⟨rfl, rfl⟩ q258 ⟨Nat.le_of_ble_eq_true rfl, Nat.le_of_ble_eq_true rfl⟩ rfl rfl (Nat.le_of_ble_eq_true rfl) dX7_past_7) hS (fun H locs hP hS => ?_)
    refine x_if_ne (tgt := 15) hx hb dX7_past_10 (by decide) h (fun c4 h => ?_) (fun c4 h => ?_)
    · refine lv_aload_n hx hb dX7_past_15 rfl (lv_at hl 0 rfl) ?_
      refine r_getq (t := 0) hX hP cok5 0 sl_145 sk_145 (by decide) rfl q243 dX7_past_16 ?_
      refine r_getq (t := 3) hX hP cok3 2 sl_0 sk_0 (by decide) rfl q146 dX7_past_19 ?_
      refine lv_iload_n hx hb dX7_past_22 rfl (lv_at hl 1 rfl) ?_
      obtain ⟨r6, e5, h⟩ := ob1_some h
      refine j_i (j_runV (rest := []) hX hP hl.1 Y_X0_keeps cok0 (lt157 sl_3) sk_3 (c_X0_keeps hA e5) ⟨rfl, rfl⟩ q656 ⟨Nat.le_of_ble_eq_true rfl, Nat.le_of_ble_eq_true rfl⟩ rfl rfl (Nat.le_of_ble_eq_true rfl) dX7_past_23) hS (fun H locs hP hS => ?_)
      refine x_if_ne (tgt := 32) hx hb dX7_past_26 (by decide) h (fun c7 h => ?_) (fun c7 h => ?_)
      · refine lv_aload_n hx hb dX7_past_32 rfl (lv_at hl 0 rfl) ?_
        refine r_getq (t := 0) hX hP cok5 0 sl_145 sk_145 (by decide) rfl q243 dX7_past_33 ?_
        refine r_getq (t := 3) hX hP cok3 2 sl_0 sk_0 (by decide) rfl q146 dX7_past_36 ?_
        refine lv_iload_n hx hb dX7_past_39 rfl (lv_at hl 1 rfl) ?_
        refine lv_iload_n hx hb dX7_past_40 rfl (lv_at hl 2 rfl) ?_
        obtain ⟨r9, e8, h⟩ := ob1_some h
        refine j_i (j_runV (rest := []) hX hP hl.1 Y_X0_entry cok0 (lt157 sl_3) sk_3 (c_X0_entry hA e8) ⟨rfl, rfl⟩ q660 ⟨Nat.le_of_ble_eq_true rfl, Nat.le_of_ble_eq_true rfl⟩ rfl rfl (Nat.le_of_ble_eq_true rfl) dX7_past_41) hS (fun H locs hP hS => ?_)
        cases h
        exact j_iret hX hr hlk hP hS dX7_past_44
      · refine lv_bipush (v := (-9)) hx hb dX7_past_29 kc_bm9 ?_
        cases h
        exact j_iret hX hr hlk hP hS dX7_past_31
    · exact t_X7_past_b13 hX hr hlk  _ h _ _ _ hP hS (lv_sub hl [] rfl)
/-! OwnerlessCoin.output(I)I -/
def rm_X7_output : Room := { frames := 1, cells := 0, slots := 0, locals := 22 }
theorem Y_X7_output : yv yX7_output cX7_output 2 (some .int) 1 RX7 := ⟨q667, q665, q666, q12, by decide +kernel⟩
set_option maxHeartbeats 4000000 in
set_option maxRecDepth 100000 in
theorem c_X7_output {l : Launch} {D : va_G} {tc : Tc} {ad : Nat → Nat} {A : Nat → Prop} (hA : adok ad A) {I M : St} {v1 : Int32} {rr : Int32} (h : f_X7_output v1 I = some rr) : Met l yX7_output (Cond.code yX7_output cX7_output 2 (some .int) :: tw) rm_X7_output (pre D tc ad [.ref (ad 145), .int v1] (cmb I M)) (qi D tc ad A rr (cmb I M)) 0 0 A := by
  unfold f_X7_output at h
  refine mk_met (own := RX7) (by decide +kernel) rfl hA (Nat.le_of_ble_eq_true rfl) ?_
  intro p e s m below meth c ls hX hr hlk hl hP hS
  have hl : lv_has ls 2 [(0, .ref (ad 145)), (1, .int v1)] := hl
  have hx := hX.1
  have hb := hX.2.1
  have hown := hX.2.2.2.1
  have hts := hX.2.2.2.2.1
  refine lv_aload_n hx hb dX7_output_0 rfl (lv_at hl 0 rfl) ?_
  refine r_getq (t := 0) hX hP cok5 0 sl_145 sk_145 (by decide) rfl q243 dX7_output_1 ?_
  refine r_getq (t := 3) hX hP cok3 2 sl_0 sk_0 (by decide) rfl q146 dX7_output_4 ?_
  refine lv_iload_n hx hb dX7_output_7 rfl (lv_at hl 1 rfl) ?_
  obtain ⟨r2, e1, h⟩ := ob1_some h
  refine j_i (j_runV (rest := []) hX hP hl.1 Y_X0_keeps cok0 (lt157 sl_3) sk_3 (c_X0_keeps hA e1) ⟨rfl, rfl⟩ q656 ⟨Nat.le_of_ble_eq_true rfl, Nat.le_of_ble_eq_true rfl⟩ rfl rfl (Nat.le_of_ble_eq_true rfl) dX7_output_8) hS (fun H locs hP hS => ?_)
  refine x_if_ne (tgt := 16) hx hb dX7_output_11 (by decide) h (fun c3 h => ?_) (fun c3 h => ?_)
  · refine lv_aload_n hx hb dX7_output_16 rfl (lv_at hl 0 rfl) ?_
    refine r_getq (t := 0) hX hP cok5 0 sl_145 sk_145 (by decide) rfl q243 dX7_output_17 ?_
    refine r_getq (t := 3) hX hP cok3 2 sl_0 sk_0 (by decide) rfl q146 dX7_output_20 ?_
    refine lv_iload_n hx hb dX7_output_23 rfl (lv_at hl 1 rfl) ?_
    refine lv_iconst (v := 5) hx hb dX7_output_24 kc_i5 ?_
    obtain ⟨r5, e4, h⟩ := ob1_some h
    refine j_i (j_runV (rest := []) hX hP hl.1 Y_X0_entry cok0 (lt157 sl_3) sk_3 (c_X0_entry hA e4) ⟨rfl, rfl⟩ q660 ⟨Nat.le_of_ble_eq_true rfl, Nat.le_of_ble_eq_true rfl⟩ rfl rfl (Nat.le_of_ble_eq_true rfl) dX7_output_25) hS (fun H locs hP hS => ?_)
    cases h
    exact j_iret hX hr hlk hP hS dX7_output_28
  · refine lv_iconst (v := 0) hx hb dX7_output_14 kc_i0 ?_
    cases h
    exact j_iret hX hr hlk hP hS dX7_output_15
/-! OwnerlessCoin.coins(I)I -/
def rm_X7_coins : Room := { frames := 1, cells := 0, slots := 0, locals := 22 }
theorem Y_X7_coins : yv yX7_coins cX7_coins 2 (some .int) 1 RX7 := ⟨q641, q639, q640, q12, by decide +kernel⟩
set_option maxHeartbeats 4000000 in
set_option maxRecDepth 100000 in
theorem t_X7_coins_b39 {p : Program} {l : Launch} {e : Env} {s : State} {m : MethodId} {args : Array Value} {below : List Frame} {meth : Method} {c : Code} {D : va_G} {tc : Tc} {ad : Nat → Nat} {A : Nat → Prop} {M : St} {rr : Int32} (hX : cx p s m args c cX7_coins 2 RX7 D tc ad A) (hr : meth.sig.returnType = some .int) (hlk : meth.locks = false) : ∀ (t0 : Int32) (I : St), f_X7_coins_b39 t0 I = some rr → ∀ (H : Heap) (locs : List Loc) (ls : Array Slot), va_P D vwCl (wl tc ad (cmb I M)) H → va_S A s.heap H locs → lv_has ls 2 [] → W p l e rm_X7_coins s m args below meth c H locs 0 0 (MQ below (qi D tc ad A rr (cmb I M)) args s 0 0 A) (F0 m 39 ls [.int t0]) := by
  intro t0 I h H locs ls hP hS hl
  unfold f_X7_coins_b39 at h
  have hx := hX.1
  have hb := hX.2.1
  have hown := hX.2.2.2.1
  have hts := hX.2.2.2.2.1
  have hA := hX.2.2.2.2.2.2
  cases h
  exact j_iret hX hr hlk hP hS dX7_coins_39
set_option maxHeartbeats 4000000 in
set_option maxRecDepth 100000 in
theorem c_X7_coins {l : Launch} {D : va_G} {tc : Tc} {ad : Nat → Nat} {A : Nat → Prop} (hA : adok ad A) {I M : St} {v1 : Int32} {rr : Int32} (h : f_X7_coins v1 I = some rr) : Met l yX7_coins (Cond.code yX7_coins cX7_coins 2 (some .int) :: tw) rm_X7_coins (pre D tc ad [.ref (ad 145), .int v1] (cmb I M)) (qi D tc ad A rr (cmb I M)) 0 0 A := by
  unfold f_X7_coins at h
  refine mk_met (own := RX7) (by decide +kernel) rfl hA (Nat.le_of_ble_eq_true rfl) ?_
  intro p e s m below meth c ls hX hr hlk hl hP hS
  have hl : lv_has ls 2 [(0, .ref (ad 145)), (1, .int v1)] := hl
  have hx := hX.1
  have hb := hX.2.1
  have hown := hX.2.2.2.1
  have hts := hX.2.2.2.2.1
  refine lv_iload_n hx hb dX7_coins_0 rfl (lv_at hl 1 rfl) ?_
  refine lv_iconst (v := 0) hx hb dX7_coins_1 kc_i0 ?_
  refine lv_iconst (v := 1) hx hb dX7_coins_2 kc_i1 ?_
  obtain ⟨r2, e1, h⟩ := ob1_some h
  refine j_i (j_runS (rest := []) hX hP hl.1 Y_X7_isWithin (c_X7_isWithin hA e1) ⟨rfl, rfl⟩ q258 ⟨Nat.le_of_ble_eq_true rfl, Nat.le_of_ble_eq_true rfl⟩ rfl rfl (Nat.le_of_ble_eq_true rfl) dX7_coins_3) hS (fun H locs hP hS => ?_)
  refine x_if_ne (tgt := 11) hx hb dX7_coins_6 (by decide) h (fun c3 h => ?_) (fun c3 h => ?_)
  · refine lv_iload_n hx hb dX7_coins_11 rfl (lv_at hl 1 rfl) ?_
    refine lv_iconst (v := 1) hx hb dX7_coins_12 kc_i1 ?_
    refine x_icmp_ne (tgt := 29) hx hb dX7_coins_13 (by decide) h (fun c4 h => ?_) (fun c4 h => ?_)
    · refine lv_aload_n hx hb dX7_coins_29 rfl (lv_at hl 0 rfl) ?_
      refine r_getq (t := 0) hX hP cok5 0 sl_145 sk_145 (by decide) rfl q243 dX7_coins_30 ?_
      refine r_getq (t := 3) hX hP cok3 2 sl_0 sk_0 (by decide) rfl q146 dX7_coins_33 ?_
      refine r_get hX hP cok0 2 sl_3 sk_3 (by decide) rfl q52 dX7_coins_36 ?_
      exact t_X7_coins_b39 hX hr hlk  _ _ h _ _ _ hP hS (lv_sub hl [] rfl)
    · refine lv_aload_n hx hb dX7_coins_16 rfl (lv_at hl 0 rfl) ?_
      refine r_getq (t := 0) hX hP cok5 0 sl_145 sk_145 (by decide) rfl q243 dX7_coins_17 ?_
      refine r_getq (t := 3) hX hP cok3 2 sl_0 sk_0 (by decide) rfl q146 dX7_coins_20 ?_
      refine r_get hX hP cok0 3 sl_3 sk_3 (by decide) rfl q54 dX7_coins_23 ?_
      refine lv_goto (tgt := 39) hx hb dX7_coins_26 (by decide) ?_
      exact t_X7_coins_b39 hX hr hlk  _ _ h _ _ _ hP hS (lv_sub hl [] rfl)
  · refine lv_iconst (v := (-1)) hx hb dX7_coins_9 kc_im1 ?_
    cases h
    exact j_iret hX hr hlk hP hS dX7_coins_10
/-! OwnerlessCoin.longestRun()I -/
def rm_X7_longestRun : Room := { frames := 0, cells := 0, slots := 0, locals := 0 }
theorem Y_X7_longestRun : yv yX7_longestRun cX7_longestRun 1 (some .int) 0 RX7 := ⟨q645, q643, q644, q12, by decide +kernel⟩
set_option maxHeartbeats 4000000 in
set_option maxRecDepth 100000 in
theorem c_X7_longestRun {l : Launch} {D : va_G} {tc : Tc} {ad : Nat → Nat} {A : Nat → Prop} (hA : adok ad A) {I M : St}  {rr : Int32} (h : f_X7_longestRun I = some rr) : Met l yX7_longestRun (Cond.code yX7_longestRun cX7_longestRun 1 (some .int) :: tw) rm_X7_longestRun (pre D tc ad [.ref (ad 145)] (cmb I M)) (qi D tc ad A rr (cmb I M)) 0 0 A := by
  unfold f_X7_longestRun at h
  refine mk_met (own := RX7) (by decide +kernel) rfl hA (Nat.le_of_ble_eq_true rfl) ?_
  intro p e s m below meth c ls hX hr hlk hl hP hS
  have hl : lv_has ls 1 [(0, .ref (ad 145))] := hl
  have hx := hX.1
  have hb := hX.2.1
  have hown := hX.2.2.2.1
  have hts := hX.2.2.2.2.1
  refine lv_aload_n hx hb dX7_longestRun_0 rfl (lv_at hl 0 rfl) ?_
  refine r_getq (t := 0) hX hP cok5 0 sl_145 sk_145 (by decide) rfl q243 dX7_longestRun_1 ?_
  refine r_getq (t := 3) hX hP cok3 2 sl_0 sk_0 (by decide) rfl q146 dX7_longestRun_4 ?_
  refine r_get hX hP cok0 4 sl_3 sk_3 (by decide) rfl q56 dX7_longestRun_7 ?_
  cases h
  exact j_iret hX hr hlk hP hS dX7_longestRun_10
/-! OwnerlessCoin$History.restore(LOwnerlessCoin$Lab;)V -/
def rm_X3_restore : Room := { frames := 3, cells := 0, slots := 0, locals := 73 }
theorem Y_X3_restore : yv yX3_restore cX3_restore 2 none 1 RX3 := ⟨q675, q673, q674, q16, by decide +kernel⟩
set_option maxHeartbeats 4000000 in
set_option maxRecDepth 100000 in
theorem t_X3_restore_b16 {p : Program} {l : Launch} {e : Env} {s : State} {m : MethodId} {args : Array Value} {below : List Frame} {meth : Method} {c : Code} {D : va_G} {tc : Tc} {ad : Nat → Nat} {A : Nat → Prop} {M : St} {II : St} (hX : cx p s m args c cX3_restore 2 RX3 D tc ad A) (hr : meth.sig.returnType = none) (hlk : meth.locks = false) : ∀ (I : St), f_X3_restore_b16 I = some II → ∀ (H : Heap) (locs : List Loc) (ls : Array Slot), va_P D vwCl (wl tc ad (cmb I M)) H → va_S A s.heap H locs → lv_has ls 2 [] → W p l e rm_X3_restore s m args below meth c H locs 0 0 (MQ below (qv D tc ad A (cmb II M)) args s 0 0 A) (F0 m 16 ls []) := by
  intro I h H locs ls hP hS hl
  unfold f_X3_restore_b16 at h
  have hx := hX.1
  have hb := hX.2.1
  have hown := hX.2.2.2.1
  have hts := hX.2.2.2.2.1
  have hA := hX.2.2.2.2.2.2
  cases h
  exact j_vret hX hr hlk hP hS dX3_restore_16
set_option maxHeartbeats 4000000 in
set_option maxRecDepth 100000 in
theorem c_X3_restore {l : Launch} {D : va_G} {tc : Tc} {ad : Nat → Nat} {A : Nat → Prop} (hA : adok ad A) {I M : St}  {II : St} (h : f_X3_restore I = some II) : Met l yX3_restore (Cond.code yX3_restore cX3_restore 2 none :: tw) rm_X3_restore (pre D tc ad [.ref (ad 146), .ref (ad 0)] (cmb I M)) (qv D tc ad A (cmb II M)) 0 0 A := by
  unfold f_X3_restore at h
  refine mk_met (own := RX3) (by decide +kernel) rfl hA (Nat.le_of_ble_eq_true rfl) ?_
  intro p e s m below meth c ls hX hr hlk hl hP hS
  have hl : lv_has ls 2 [(0, .ref (ad 146)), (1, .ref (ad 0))] := hl
  have hx := hX.1
  have hb := hX.2.1
  have hown := hX.2.2.2.1
  have hts := hX.2.2.2.2.1
  refine lv_aload_n hx hb dX3_restore_0 rfl (lv_at hl 0 rfl) ?_
  refine r_get hX hP cok2 1 sl_146 sk_146 (by decide) rfl q214 dX3_restore_1 ?_
  refine x_let h (fun x1 h => ?_)
  refine lv_iconst (v := 1) hx hb dX3_restore_4 kc_i1 ?_
  refine x_icmp_lt (tgt := 16) hx hb dX3_restore_5 (by decide) h (fun c2 h => ?_) (fun c2 h => ?_)
  · exact t_X3_restore_b16 hX hr hlk  _ h _ _ _ hP hS (lv_sub hl [] rfl)
  · refine lv_aload_n hx hb dX3_restore_8 rfl (lv_at hl 0 rfl) ?_
    refine r_get hX hP cok2 1 sl_146 sk_146 (by decide) rfl q214 dX3_restore_9 ?_
    refine x_let h (fun x3 h => ?_)
    refine lv_iconst (v := 4) hx hb dX3_restore_12 kc_i4 ?_
    refine x_icmp_le (tgt := 17) hx hb dX3_restore_13 (by decide) h (fun c4 h => ?_) (fun c4 h => ?_)
    · refine lv_aload_n hx hb dX3_restore_17 rfl (lv_at hl 0 rfl) ?_
      refine lv_dup hx hb dX3_restore_18 rfl ?_
      refine r_get hX hP cok2 1 sl_146 sk_146 (by decide) rfl q214 dX3_restore_19 ?_
      refine x_let h (fun x5 h => ?_)
      refine lv_iconst (v := 1) hx hb dX3_restore_22 kc_i1 ?_
      refine lv_isub hx hb dX3_restore_23 ?_
      refine r_put hX hP hS cok2 1 h sl_146 sk_146 (by decide) rfl rfl q214 rfl dX3_restore_24 (fun I6 H locs h hP hS => ?_)
      refine lv_aload_n hx hb dX3_restore_27 rfl (lv_at hl 1 rfl) ?_
      refine lv_aload_n hx hb dX3_restore_28 rfl (lv_at hl 0 rfl) ?_
      refine r_getq (t := 147) hX hP cok2 0 sl_146 sk_146 (by decide) rfl q213 dX3_restore_29 ?_
      refine lv_aload_n hx hb dX3_restore_32 rfl (lv_at hl 0 rfl) ?_
      refine r_get hX hP cok2 1 sl_146 sk_146 (by decide) rfl q214 dX3_restore_33 ?_
      refine x_let h (fun x7 h => ?_)
      refine r_ldL hX hP h sl_147 sk_147 sn_147 dX3_restore_36 (fun h => ?_)
      obtain ⟨x8, ex8⟩ : ∃ z, z = I6 147 x7.toNatClampNeg := ⟨_, rfl⟩
      rw [← ex8] at h ⊢
      obtain ⟨g9, h⟩ := ck_some (show ck (inb x8 5) _ = some _ from h)
      obtain ⟨I11, e10, h⟩ := ob1_some h
      refine j_v (j_runV (rest := []) hX hP hl.1 Y_X4_copy cok3 (lt157 sl_0) sk_0 (c_X4_copy hA e10) ⟨rfl, rfl⟩ q269 ⟨Nat.le_of_ble_eq_true rfl, Nat.le_of_ble_eq_true rfl⟩ rfl rfl (Nat.le_of_ble_eq_true rfl) dX3_restore_37) hS (fun H locs hP hS => ?_)
      cases h
      exact j_vret hX hr hlk hP hS dX3_restore_40
    · exact t_X3_restore_b16 hX hr hlk  _ h _ _ _ hP hS (lv_sub hl [] rfl)
/-! OwnerlessCoin.undo()I -/
def rm_X7_undo : Room := { frames := 4, cells := 0, slots := 0, locals := 94 }
theorem Y_X7_undo : yv yX7_undo cX7_undo 1 (some .int) 0 RX7 := ⟨q671, q669, q670, q12, by decide +kernel⟩
set_option maxHeartbeats 4000000 in
set_option maxRecDepth 100000 in
theorem c_X7_undo {l : Launch} {D : va_G} {tc : Tc} {ad : Nat → Nat} {A : Nat → Prop} (hA : adok ad A) {I M : St}  {rr : Int32} {II : St} (h : f_X7_undo I = some (rr, II)) : Met l yX7_undo (Cond.code yX7_undo cX7_undo 1 (some .int) :: tw) rm_X7_undo (pre D tc ad [.ref (ad 145)] (cmb I M)) (qi D tc ad A rr (cmb II M)) 0 0 A := by
  unfold f_X7_undo at h
  refine mk_met (own := RX7) (by decide +kernel) rfl hA (Nat.le_of_ble_eq_true rfl) ?_
  intro p e s m below meth c ls hX hr hlk hl hP hS
  have hl : lv_has ls 1 [(0, .ref (ad 145))] := hl
  have hx := hX.1
  have hb := hX.2.1
  have hown := hX.2.2.2.1
  have hts := hX.2.2.2.2.1
  refine lv_aload_n hx hb dX7_undo_0 rfl (lv_at hl 0 rfl) ?_
  refine r_getq (t := 146) hX hP cok5 1 sl_145 sk_145 (by decide) rfl q244 dX7_undo_1 ?_
  refine r_get hX hP cok2 1 sl_146 sk_146 (by decide) rfl q215 dX7_undo_4 ?_
  refine x_if_ne (tgt := 13) hx hb dX7_undo_7 (by decide) h (fun c1 h => ?_) (fun c1 h => ?_)
  · refine lv_aload_n hx hb dX7_undo_13 rfl (lv_at hl 0 rfl) ?_
    refine r_getq (t := 146) hX hP cok5 1 sl_145 sk_145 (by decide) rfl q244 dX7_undo_14 ?_
    refine lv_aload_n hx hb dX7_undo_17 rfl (lv_at hl 0 rfl) ?_
    refine r_getq (t := 0) hX hP cok5 0 sl_145 sk_145 (by decide) rfl q243 dX7_undo_18 ?_
    obtain ⟨I3, e2, h⟩ := ob1_some h
    refine j_v (j_runV (rest := []) hX hP hl.1 Y_X3_restore cok2 (lt157 sl_146) sk_146 (c_X3_restore hA e2) ⟨rfl, rfl⟩ q672 ⟨Nat.le_of_ble_eq_true rfl, Nat.le_of_ble_eq_true rfl⟩ rfl rfl (Nat.le_of_ble_eq_true rfl) dX7_undo_21) hS (fun H locs hP hS => ?_)
    refine lv_aload_n hx hb dX7_undo_24 rfl (lv_at hl 0 rfl) ?_
    refine r_getq (t := 146) hX hP cok5 1 sl_145 sk_145 (by decide) rfl q244 dX7_undo_25 ?_
    refine r_get hX hP cok2 1 sl_146 sk_146 (by decide) rfl q215 dX7_undo_28 ?_
    cases h
    exact j_iret hX hr hlk hP hS dX7_undo_31
  · refine lv_bipush (v := (-2)) hx hb dX7_undo_10 kc_bm2 ?_
    cases h
    exact j_iret hX hr hlk hP hS dX7_undo_12
/-! OwnerlessCoin.fingerprint()J -/
def rm_X7_fingerprint : Room := { frames := 3, cells := 0, slots := 0, locals := 63 }
theorem Y_X7_fingerprint : yv yX7_fingerprint cX7_fingerprint 5 (some .long) 0 RX7 := ⟨q312, q310, q311, q12, by decide +kernel⟩
set_option maxHeartbeats 4000000 in
set_option maxRecDepth 100000 in
theorem t_X7_fingerprint_l74 {p : Program} {l : Launch} {e : Env} {s : State} {m : MethodId} {args : Array Value} {below : List Frame} {meth : Method} {c : Code} {D : va_G} {tc : Tc} {ad : Nat → Nat} {A : Nat → Prop} {M : St} {rr : Int64} (hX : cx p s m args c cX7_fingerprint 5 RX7 D tc ad A) (hr : meth.sig.returnType = some .long) (hlk : meth.locks = false) {K60 : Int64 → Int32 → St → Option (Int64)} (hK60 : ∀ (v1 : Int64) (v3 : Int32) (I : St), K60 v1 v3 I = some rr → ∀ (H : Heap) (locs : List Loc) (ls : Array Slot), va_P D vwCl (wl tc ad (cmb I M)) H → va_S A s.heap H locs → lv_has ls 5 [(0, .ref (ad 145)), (1, .long v1), (3, .int v3)] → W p l e rm_X7_fingerprint s m args below meth c H locs 0 0 (MQ below (ql D tc ad A rr (cmb I M)) args s 0 0 A) (F0 m 60 ls [])) : ∀ (n : Nat), ∀ (v1 : Int64) (v3 : Int32) (v4 : Int32) (I : St), f_X7_fingerprint_l74 K60 n v1 v3 v4 I = some rr → ∀ (H : Heap) (locs : List Loc) (ls : Array Slot), va_P D vwCl (wl tc ad (cmb I M)) H → va_S A s.heap H locs → lv_has ls 5 [(0, .ref (ad 145)), (1, .long v1), (3, .int v3), (4, .int v4)] → W p l e rm_X7_fingerprint s m args below meth c H locs 0 0 (MQ below (ql D tc ad A rr (cmb I M)) args s 0 0 A) (F0 m 74 ls []) := by
  intro n
  induction n with
  | zero =>
    intro _ _ _ _ h
    cases h
  | succ n ih =>
    intro v1 v3 v4 I h H locs ls hP hS hl
    rw [f_X7_fingerprint_l74] at h
    have hx := hX.1
    have hb := hX.2.1
    have hown := hX.2.2.2.1
    have hts := hX.2.2.2.2.1
    have hA := hX.2.2.2.2.2.2
    refine lv_iload hx hb dX7_fingerprint_74 (lv_at hl 3 rfl) ?_
    refine lv_iconst (v := 4) hx hb dX7_fingerprint_76 kc_i4 ?_
    refine x_icmp_gt (tgt := 101) hx hb dX7_fingerprint_77 (by decide) h (fun c1 h => ?_) (fun c1 h => ?_)
    · refine lv_iinc (v := (v3 + 1)) (lv' := [(3, .int (v3 + 1)), (0, .ref (ad 145)), (1, .long v1), (4, .int v4)]) hx hb dX7_fingerprint_101 hl (k := 2) rfl rfl (Nat.le_of_ble_eq_true rfl) rfl (fun ls hl => ?_)
      refine lv_goto (tgt := 60) hx hb dX7_fingerprint_104 (by decide) ?_
      exact hK60 _ _ _ h _ _ _ hP hS (lv_sub hl [1, 2, 0] rfl)
    · refine lv_ldc2 (v := 31) hx hb hown (hts _ q314) dX7_fingerprint_80 ?_
      refine lv_lload_n hx hb dX7_fingerprint_83 rfl (lv_at hl 1 rfl) ?_
      refine lv_lmul hx hb dX7_fingerprint_84 ?_
      refine x_letL h (fun y2 h => ?_)
      refine lv_aload_n hx hb dX7_fingerprint_85 rfl (lv_at hl 0 rfl) ?_
      refine lv_iload_n hx hb dX7_fingerprint_86 rfl (lv_at hl 2 rfl) ?_
      refine lv_iload hx hb dX7_fingerprint_87 (lv_at hl 3 rfl) ?_
      obtain ⟨r4, e3, h⟩ := ob1_some h
      refine j_i (j_runV (rest := [.long y2]) hX hP hl.1 Y_X7_account cok5 (lt157 sl_145) sk_145 (c_X7_account hA e3) ⟨rfl, rfl⟩ q327 ⟨Nat.le_of_ble_eq_true rfl, Nat.le_of_ble_eq_true rfl⟩ rfl rfl (Nat.le_of_ble_eq_true rfl) dX7_fingerprint_89) hS (fun H locs hP hS => ?_)
      refine lv_i2l (v := r4.toInt64) hx hb dX7_fingerprint_92 rfl ?_
      refine lv_ladd hx hb dX7_fingerprint_93 ?_
      refine x_letL h (fun y5 h => ?_)
      refine lv_lstore_n (lv' := [(1, .long y5), (0, .ref (ad 145)), (3, .int v3), (4, .int v4)]) hx hb dX7_fingerprint_94 rfl hl (Nat.le_of_ble_eq_true rfl) rfl (fun ls hl => ?_)
      refine lv_iinc (v := (v4 + 1)) (lv' := [(4, .int (v4 + 1)), (1, .long y5), (0, .ref (ad 145)), (3, .int v3)]) hx hb dX7_fingerprint_95 hl (k := 3) rfl rfl (Nat.le_of_ble_eq_true rfl) rfl (fun ls hl => ?_)
      refine lv_goto (tgt := 74) hx hb dX7_fingerprint_98 (by decide) ?_
      exact ih _ _ _ _ h _ _ _ hP hS (lv_sub hl [2, 1, 3, 0] rfl)
set_option maxHeartbeats 4000000 in
set_option maxRecDepth 100000 in
theorem t_X7_fingerprint_l147 {p : Program} {l : Launch} {e : Env} {s : State} {m : MethodId} {args : Array Value} {below : List Frame} {meth : Method} {c : Code} {D : va_G} {tc : Tc} {ad : Nat → Nat} {A : Nat → Prop} {M : St} {rr : Int64} (hX : cx p s m args c cX7_fingerprint 5 RX7 D tc ad A) (hr : meth.sig.returnType = some .long) (hlk : meth.locks = false) : ∀ (n : Nat), ∀ (v1 : Int64) (v3 : Int32) (I : St), f_X7_fingerprint_l147 n v1 v3 I = some rr → ∀ (H : Heap) (locs : List Loc) (ls : Array Slot), va_P D vwCl (wl tc ad (cmb I M)) H → va_S A s.heap H locs → lv_has ls 5 [(0, .ref (ad 145)), (1, .long v1), (3, .int v3)] → W p l e rm_X7_fingerprint s m args below meth c H locs 0 0 (MQ below (ql D tc ad A rr (cmb I M)) args s 0 0 A) (F0 m 147 ls []) := by
  intro n
  induction n with
  | zero =>
    intro _ _ _ h
    cases h
  | succ n ih =>
    intro v1 v3 I h H locs ls hP hS hl
    rw [f_X7_fingerprint_l147] at h
    have hx := hX.1
    have hb := hX.2.1
    have hown := hX.2.2.2.1
    have hts := hX.2.2.2.2.1
    have hA := hX.2.2.2.2.2.2
    refine lv_iload_n hx hb dX7_fingerprint_147 rfl (lv_at hl 2 rfl) ?_
    refine lv_aload_n hx hb dX7_fingerprint_148 rfl (lv_at hl 0 rfl) ?_
    refine r_getq (t := 0) hX hP cok5 0 sl_145 sk_145 (by decide) rfl q243 dX7_fingerprint_149 ?_
    refine r_get hX hP cok3 3 sl_0 sk_0 (by decide) rfl q147 dX7_fingerprint_152 ?_
    refine x_icmp_ge (tgt := 177) hx hb dX7_fingerprint_155 (by decide) h (fun c6 h => ?_) (fun c6 h => ?_)
    · refine lv_lload_n hx hb dX7_fingerprint_177 rfl (lv_at hl 1 rfl) ?_
      cases h
      exact j_lret hX hr hlk hP hS dX7_fingerprint_178
    · refine lv_ldc2 (v := 31) hx hb hown (hts _ q314) dX7_fingerprint_158 ?_
      refine lv_lload_n hx hb dX7_fingerprint_161 rfl (lv_at hl 1 rfl) ?_
      refine lv_lmul hx hb dX7_fingerprint_162 ?_
      refine x_letL h (fun y7 h => ?_)
      refine lv_aload_n hx hb dX7_fingerprint_163 rfl (lv_at hl 0 rfl) ?_
      refine lv_iload_n hx hb dX7_fingerprint_164 rfl (lv_at hl 2 rfl) ?_
      obtain ⟨r9, e8, h⟩ := ob1_some h
      refine j_i (j_runV (rest := [.long y7]) hX hP hl.1 Y_X7_digest cok5 (lt157 sl_145) sk_145 (c_X7_digest hA e8) ⟨rfl, rfl⟩ q339 ⟨Nat.le_of_ble_eq_true rfl, Nat.le_of_ble_eq_true rfl⟩ rfl rfl (Nat.le_of_ble_eq_true rfl) dX7_fingerprint_165) hS (fun H locs hP hS => ?_)
      refine lv_i2l (v := r9.toInt64) hx hb dX7_fingerprint_168 rfl ?_
      refine lv_ladd hx hb dX7_fingerprint_169 ?_
      refine x_letL h (fun y10 h => ?_)
      refine lv_lstore_n (lv' := [(1, .long y10), (0, .ref (ad 145)), (3, .int v3)]) hx hb dX7_fingerprint_170 rfl hl (Nat.le_of_ble_eq_true rfl) rfl (fun ls hl => ?_)
      refine lv_iinc (v := (v3 + 1)) (lv' := [(3, .int (v3 + 1)), (1, .long y10), (0, .ref (ad 145))]) hx hb dX7_fingerprint_171 hl (k := 2) rfl rfl (Nat.le_of_ble_eq_true rfl) rfl (fun ls hl => ?_)
      refine lv_goto (tgt := 147) hx hb dX7_fingerprint_174 (by decide) ?_
      exact ih _ _ _ h _ _ _ hP hS (lv_sub hl [2, 1, 0] rfl)
set_option maxHeartbeats 4000000 in
set_option maxRecDepth 100000 in
theorem t_X7_fingerprint_l121 {p : Program} {l : Launch} {e : Env} {s : State} {m : MethodId} {args : Array Value} {below : List Frame} {meth : Method} {c : Code} {D : va_G} {tc : Tc} {ad : Nat → Nat} {A : Nat → Prop} {M : St} {rr : Int64} (hX : cx p s m args c cX7_fingerprint 5 RX7 D tc ad A) (hr : meth.sig.returnType = some .long) (hlk : meth.locks = false) : ∀ (n : Nat), ∀ (v1 : Int64) (v3 : Int32) (I : St), f_X7_fingerprint_l121 n v1 v3 I = some rr → ∀ (H : Heap) (locs : List Loc) (ls : Array Slot), va_P D vwCl (wl tc ad (cmb I M)) H → va_S A s.heap H locs → lv_has ls 5 [(0, .ref (ad 145)), (1, .long v1), (3, .int v3)] → W p l e rm_X7_fingerprint s m args below meth c H locs 0 0 (MQ below (ql D tc ad A rr (cmb I M)) args s 0 0 A) (F0 m 121 ls []) := by
  intro n
  induction n with
  | zero =>
    intro _ _ _ h
    cases h
  | succ n ih =>
    intro v1 v3 I h H locs ls hP hS hl
    rw [f_X7_fingerprint_l121] at h
    have hx := hX.1
    have hb := hX.2.1
    have hown := hX.2.2.2.1
    have hts := hX.2.2.2.2.1
    have hA := hX.2.2.2.2.2.2
    refine lv_iload_n hx hb dX7_fingerprint_121 rfl (lv_at hl 2 rfl) ?_
    refine lv_iconst (v := 3) hx hb dX7_fingerprint_122 kc_i3 ?_
    refine x_icmp_gt (tgt := 145) hx hb dX7_fingerprint_123 (by decide) h (fun c11 h => ?_) (fun c11 h => ?_)
    · refine lv_iconst (v := 0) hx hb dX7_fingerprint_145 kc_i0 ?_
      refine lv_istore_n (lv' := [(3, .int 0), (0, .ref (ad 145)), (1, .long v1)]) hx hb dX7_fingerprint_146 rfl hl (Nat.le_of_ble_eq_true rfl) rfl (fun ls hl => ?_)
      exact t_X7_fingerprint_l147 hX hr hlk  10000 _ _ _ h _ _ _ hP hS (lv_sub hl [1, 2, 0] rfl)
    · refine lv_ldc2 (v := 31) hx hb hown (hts _ q314) dX7_fingerprint_126 ?_
      refine lv_lload_n hx hb dX7_fingerprint_129 rfl (lv_at hl 1 rfl) ?_
      refine lv_lmul hx hb dX7_fingerprint_130 ?_
      refine x_letL h (fun y12 h => ?_)
      refine lv_aload_n hx hb dX7_fingerprint_131 rfl (lv_at hl 0 rfl) ?_
      refine lv_iload_n hx hb dX7_fingerprint_132 rfl (lv_at hl 2 rfl) ?_
      obtain ⟨r14, e13, h⟩ := ob1_some h
      refine j_i (j_runV (rest := [.long y12]) hX hP hl.1 Y_X7_set cok5 (lt157 sl_145) sk_145 (c_X7_set hA e13) ⟨rfl, rfl⟩ q335 ⟨Nat.le_of_ble_eq_true rfl, Nat.le_of_ble_eq_true rfl⟩ rfl rfl (Nat.le_of_ble_eq_true rfl) dX7_fingerprint_133) hS (fun H locs hP hS => ?_)
      refine lv_i2l (v := r14.toInt64) hx hb dX7_fingerprint_136 rfl ?_
      refine lv_ladd hx hb dX7_fingerprint_137 ?_
      refine x_letL h (fun y15 h => ?_)
      refine lv_lstore_n (lv' := [(1, .long y15), (0, .ref (ad 145)), (3, .int v3)]) hx hb dX7_fingerprint_138 rfl hl (Nat.le_of_ble_eq_true rfl) rfl (fun ls hl => ?_)
      refine lv_iinc (v := (v3 + 1)) (lv' := [(3, .int (v3 + 1)), (1, .long y15), (0, .ref (ad 145))]) hx hb dX7_fingerprint_139 hl (k := 2) rfl rfl (Nat.le_of_ble_eq_true rfl) rfl (fun ls hl => ?_)
      refine lv_goto (tgt := 121) hx hb dX7_fingerprint_142 (by decide) ?_
      exact ih _ _ _ h _ _ _ hP hS (lv_sub hl [2, 1, 0] rfl)
set_option maxHeartbeats 4000000 in
set_option maxRecDepth 100000 in
theorem t_X7_fingerprint_l60 {p : Program} {l : Launch} {e : Env} {s : State} {m : MethodId} {args : Array Value} {below : List Frame} {meth : Method} {c : Code} {D : va_G} {tc : Tc} {ad : Nat → Nat} {A : Nat → Prop} {M : St} {rr : Int64} (hX : cx p s m args c cX7_fingerprint 5 RX7 D tc ad A) (hr : meth.sig.returnType = some .long) (hlk : meth.locks = false) : ∀ (n : Nat), ∀ (v1 : Int64) (v3 : Int32) (I : St), f_X7_fingerprint_l60 n v1 v3 I = some rr → ∀ (H : Heap) (locs : List Loc) (ls : Array Slot), va_P D vwCl (wl tc ad (cmb I M)) H → va_S A s.heap H locs → lv_has ls 5 [(0, .ref (ad 145)), (1, .long v1), (3, .int v3)] → W p l e rm_X7_fingerprint s m args below meth c H locs 0 0 (MQ below (ql D tc ad A rr (cmb I M)) args s 0 0 A) (F0 m 60 ls []) := by
  intro n
  induction n with
  | zero =>
    intro _ _ _ h
    cases h
  | succ n ih =>
    intro v1 v3 I h H locs ls hP hS hl
    rw [f_X7_fingerprint_l60] at h
    have hx := hX.1
    have hb := hX.2.1
    have hown := hX.2.2.2.1
    have hts := hX.2.2.2.2.1
    have hA := hX.2.2.2.2.2.2
    refine lv_iload_n hx hb dX7_fingerprint_60 rfl (lv_at hl 2 rfl) ?_
    refine lv_aload_n hx hb dX7_fingerprint_61 rfl (lv_at hl 0 rfl) ?_
    refine r_getq (t := 0) hX hP cok5 0 sl_145 sk_145 (by decide) rfl q243 dX7_fingerprint_62 ?_
    refine r_get hX hP cok3 3 sl_0 sk_0 (by decide) rfl q147 dX7_fingerprint_65 ?_
    refine x_icmp_ge (tgt := 107) hx hb dX7_fingerprint_68 (by decide) h (fun c16 h => ?_) (fun c16 h => ?_)
    · refine lv_aload_n hx hb dX7_fingerprint_107 rfl (lv_at hl 0 rfl) ?_
      refine r_getq (t := 0) hX hP cok5 0 sl_145 sk_145 (by decide) rfl q243 dX7_fingerprint_108 ?_
      refine r_get hX hP cok3 9 sl_0 sk_0 (by decide) rfl q162 dX7_fingerprint_111 ?_
      refine x_if_ne (tgt := 119) hx hb dX7_fingerprint_114 (by decide) h (fun c17 h => ?_) (fun c17 h => ?_)
      · refine lv_iconst (v := 0) hx hb dX7_fingerprint_119 kc_i0 ?_
        refine lv_istore_n (lv' := [(3, .int 0), (0, .ref (ad 145)), (1, .long v1)]) hx hb dX7_fingerprint_120 rfl hl (Nat.le_of_ble_eq_true rfl) rfl (fun ls hl => ?_)
        exact t_X7_fingerprint_l121 hX hr hlk  10000 _ _ _ h _ _ _ hP hS (lv_sub hl [1, 2, 0] rfl)
      · refine lv_lload_n hx hb dX7_fingerprint_117 rfl (lv_at hl 1 rfl) ?_
        cases h
        exact j_lret hX hr hlk hP hS dX7_fingerprint_118
    · refine lv_iconst (v := 0) hx hb dX7_fingerprint_71 kc_i0 ?_
      refine lv_istore (lv' := [(4, .int 0), (0, .ref (ad 145)), (1, .long v1), (3, .int v3)]) hx hb dX7_fingerprint_72 hl (Nat.le_of_ble_eq_true rfl) rfl (fun ls hl => ?_)
      exact t_X7_fingerprint_l74 hX hr hlk ih 10000 _ _ _ _ h _ _ _ hP hS (lv_sub hl [1, 2, 3, 0] rfl)
set_option maxHeartbeats 4000000 in
set_option maxRecDepth 100000 in
theorem c_X7_fingerprint {l : Launch} {D : va_G} {tc : Tc} {ad : Nat → Nat} {A : Nat → Prop} (hA : adok ad A) {I M : St}  {rr : Int64} (h : f_X7_fingerprint I = some rr) : Met l yX7_fingerprint (Cond.code yX7_fingerprint cX7_fingerprint 5 (some .long) :: tw) rm_X7_fingerprint (pre D tc ad [.ref (ad 145)] (cmb I M)) (ql D tc ad A rr (cmb I M)) 0 0 A := by
  unfold f_X7_fingerprint at h
  refine mk_met (own := RX7) (by decide +kernel) rfl hA (Nat.le_of_ble_eq_true rfl) ?_
  intro p e s m below meth c ls hX hr hlk hl hP hS
  have hl : lv_has ls 5 [(0, .ref (ad 145))] := hl
  have hx := hX.1
  have hb := hX.2.1
  have hown := hX.2.2.2.1
  have hts := hX.2.2.2.2.1
  refine lv_ldc2 (v := 23) hx hb hown (hts _ q313) dX7_fingerprint_0 ?_
  refine lv_lstore_n (lv' := [(1, .long 23), (0, .ref (ad 145))]) hx hb dX7_fingerprint_3 rfl hl (Nat.le_of_ble_eq_true rfl) rfl (fun ls hl => ?_)
  refine lv_ldc2 (v := 31) hx hb hown (hts _ q314) dX7_fingerprint_4 ?_
  refine lv_lload_n hx hb dX7_fingerprint_7 rfl (lv_at hl 0 rfl) ?_
  refine lv_lmul hx hb dX7_fingerprint_8 ?_
  refine x_letL h (fun y18 h => ?_)
  refine lv_aload_n hx hb dX7_fingerprint_9 rfl (lv_at hl 1 rfl) ?_
  obtain ⟨r20, e19, h⟩ := ob1_some h
  refine j_i (j_runV (rest := [.long y18]) hX hP hl.1 Y_X7_phase cok5 (lt157 sl_145) sk_145 (c_X7_phase hA e19) ⟨rfl, rfl⟩ q315 ⟨Nat.le_of_ble_eq_true rfl, Nat.le_of_ble_eq_true rfl⟩ rfl rfl (Nat.le_of_ble_eq_true rfl) dX7_fingerprint_10) hS (fun H locs hP hS => ?_)
  refine lv_i2l (v := r20.toInt64) hx hb dX7_fingerprint_13 rfl ?_
  refine lv_ladd hx hb dX7_fingerprint_14 ?_
  refine x_letL h (fun y21 h => ?_)
  refine lv_lstore_n (lv' := [(1, .long y21), (0, .ref (ad 145))]) hx hb dX7_fingerprint_15 rfl hl (Nat.le_of_ble_eq_true rfl) rfl (fun ls hl => ?_)
  refine lv_ldc2 (v := 31) hx hb hown (hts _ q314) dX7_fingerprint_16 ?_
  refine lv_lload_n hx hb dX7_fingerprint_19 rfl (lv_at hl 0 rfl) ?_
  refine lv_lmul hx hb dX7_fingerprint_20 ?_
  refine x_letL h (fun y22 h => ?_)
  refine lv_aload_n hx hb dX7_fingerprint_21 rfl (lv_at hl 1 rfl) ?_
  obtain ⟨r24, e23, h⟩ := ob1_some h
  refine j_i (j_runV (rest := [.long y22]) hX hP hl.1 Y_X7_rounds cok5 (lt157 sl_145) sk_145 (c_X7_rounds hA e23) ⟨rfl, rfl⟩ q319 ⟨Nat.le_of_ble_eq_true rfl, Nat.le_of_ble_eq_true rfl⟩ rfl rfl (Nat.le_of_ble_eq_true rfl) dX7_fingerprint_22) hS (fun H locs hP hS => ?_)
  refine lv_i2l (v := r24.toInt64) hx hb dX7_fingerprint_25 rfl ?_
  refine lv_ladd hx hb dX7_fingerprint_26 ?_
  refine x_letL h (fun y25 h => ?_)
  refine lv_lstore_n (lv' := [(1, .long y25), (0, .ref (ad 145))]) hx hb dX7_fingerprint_27 rfl hl (Nat.le_of_ble_eq_true rfl) rfl (fun ls hl => ?_)
  refine lv_ldc2 (v := 31) hx hb hown (hts _ q314) dX7_fingerprint_28 ?_
  refine lv_lload_n hx hb dX7_fingerprint_31 rfl (lv_at hl 0 rfl) ?_
  refine lv_lmul hx hb dX7_fingerprint_32 ?_
  refine x_letL h (fun y26 h => ?_)
  refine lv_aload_n hx hb dX7_fingerprint_33 rfl (lv_at hl 1 rfl) ?_
  obtain ⟨r28, e27, h⟩ := ob1_some h
  refine j_i (j_runV (rest := [.long y26]) hX hP hl.1 Y_X7_pot cok5 (lt157 sl_145) sk_145 (c_X7_pot hA e27) ⟨rfl, rfl⟩ q323 ⟨Nat.le_of_ble_eq_true rfl, Nat.le_of_ble_eq_true rfl⟩ rfl rfl (Nat.le_of_ble_eq_true rfl) dX7_fingerprint_34) hS (fun H locs hP hS => ?_)
  refine lv_i2l (v := r28.toInt64) hx hb dX7_fingerprint_37 rfl ?_
  refine lv_ladd hx hb dX7_fingerprint_38 ?_
  refine x_letL h (fun y29 h => ?_)
  refine lv_lstore_n (lv' := [(1, .long y29), (0, .ref (ad 145))]) hx hb dX7_fingerprint_39 rfl hl (Nat.le_of_ble_eq_true rfl) rfl (fun ls hl => ?_)
  refine lv_ldc2 (v := 31) hx hb hown (hts _ q314) dX7_fingerprint_40 ?_
  refine lv_lload_n hx hb dX7_fingerprint_43 rfl (lv_at hl 0 rfl) ?_
  refine lv_lmul hx hb dX7_fingerprint_44 ?_
  refine x_letL h (fun y30 h => ?_)
  refine lv_aload_n hx hb dX7_fingerprint_45 rfl (lv_at hl 1 rfl) ?_
  refine r_getq (t := 0) hX hP cok5 0 sl_145 sk_145 (by decide) rfl q243 dX7_fingerprint_46 ?_
  refine r_getq (t := 3) hX hP cok3 2 sl_0 sk_0 (by decide) rfl q146 dX7_fingerprint_49 ?_
  refine r_get hX hP cok0 1 sl_3 sk_3 (by decide) rfl q50 dX7_fingerprint_52 ?_
  refine lv_i2l (v := (I 3 1).toInt64) hx hb dX7_fingerprint_55 rfl ?_
  refine lv_ladd hx hb dX7_fingerprint_56 ?_
  refine x_letL h (fun y31 h => ?_)
  refine lv_lstore_n (lv' := [(1, .long y31), (0, .ref (ad 145))]) hx hb dX7_fingerprint_57 rfl hl (Nat.le_of_ble_eq_true rfl) rfl (fun ls hl => ?_)
  refine lv_iconst (v := 0) hx hb dX7_fingerprint_58 kc_i0 ?_
  refine lv_istore_n (lv' := [(3, .int 0), (1, .long y31), (0, .ref (ad 145))]) hx hb dX7_fingerprint_59 rfl hl (Nat.le_of_ble_eq_true rfl) rfl (fun ls hl => ?_)
  exact t_X7_fingerprint_l60 hX hr hlk  10000 _ _ _ h _ _ _ hP hS (lv_sub hl [2, 1, 0] rfl)
/-! OwnerlessCoinLaw.up(II)I -/
def rm_L_up : Room := { frames := 0, cells := 0, slots := 0, locals := 0 }
theorem Y_L_up : ys yL_up cL_up 2 (some .int) 2 := ⟨q304, q303, q11, by decide +kernel⟩
set_option maxHeartbeats 4000000 in
set_option maxRecDepth 100000 in
theorem c_L_up {l : Launch} {D : va_G} {tc : Tc} {ad : Nat → Nat} {A : Nat → Prop} (hA : adok ad A) {J : St} {v0 : Int32} {v1 : Int32} {rr : Int32} (h : f_L_up v0 v1 = some rr) : Met l yL_up (Cond.code yL_up cL_up 2 (some .int) :: tw) rm_L_up (pre D tc ad [.int v0, .int v1] J) (qi D tc ad A rr J) 0 0 A := by
  unfold f_L_up at h
  refine mk_met (own := RL) (by decide +kernel) rfl hA (Nat.le_of_ble_eq_true rfl) ?_
  intro p e s m below meth c ls hX hr hlk hl hP hS
  have hl : lv_has ls 2 [(0, .int v0), (1, .int v1)] := hl
  have hx := hX.1
  have hb := hX.2.1
  have hown := hX.2.2.2.1
  have hts := hX.2.2.2.2.1
  refine lv_iload_n hx hb dL_up_0 rfl (lv_at hl 0 rfl) ?_
  refine lv_ldc (v := 2147483647) hx hb hown (hts _ q305) dL_up_1 ?_
  refine lv_iand hx hb dL_up_3 ?_
  refine x_let h (fun x1 h => ?_)
  refine lv_iload_n hx hb dL_up_4 rfl (lv_at hl 1 rfl) ?_
  obtain ⟨g2, h⟩ := ck_some h
  refine lv_irem hx hb dL_up_5 (nz_ne g2) ?_
  cases h
  exact j_iret hX hr hlk hP hS dL_up_6
/-! OwnerlessCoinLaw.sum(LOwnerlessCoin;I)J -/
def rm_L_sum : Room := { frames := 2, cells := 0, slots := 0, locals := 45 }
theorem Y_L_sum : ys yL_sum cL_sum 5 (some .long) 2 := ⟨q636, q635, q11, by decide +kernel⟩
set_option maxHeartbeats 4000000 in
set_option maxRecDepth 100000 in
theorem t_L_sum_l9 {p : Program} {l : Launch} {e : Env} {s : State} {m : MethodId} {args : Array Value} {below : List Frame} {meth : Method} {c : Code} {D : va_G} {tc : Tc} {ad : Nat → Nat} {A : Nat → Prop} {M : St} {rr : Int64} (hX : cx p s m args c cL_sum 5 RL D tc ad A) (hr : meth.sig.returnType = some .long) (hlk : meth.locks = false) : ∀ (n : Nat), ∀ (v1 : Int32) (v2 : Int64) (v4 : Int32) (I : St), f_L_sum_l9 n v1 v2 v4 I = some rr → ∀ (H : Heap) (locs : List Loc) (ls : Array Slot), va_P D vwCl (wl tc ad (cmb I M)) H → va_S A s.heap H locs → lv_has ls 5 [(0, .ref (ad 145)), (1, .int v1), (2, .long v2), (4, .int v4)] → W p l e rm_L_sum s m args below meth c H locs 0 0 (MQ below (ql D tc ad A rr (cmb I M)) args s 0 0 A) (F0 m 9 ls []) := by
  intro n
  induction n with
  | zero =>
    intro _ _ _ _ h
    cases h
  | succ n ih =>
    intro v1 v2 v4 I h H locs ls hP hS hl
    rw [f_L_sum_l9] at h
    have hx := hX.1
    have hb := hX.2.1
    have hown := hX.2.2.2.1
    have hts := hX.2.2.2.2.1
    have hA := hX.2.2.2.2.2.2
    refine lv_iload hx hb dL_sum_9 (lv_at hl 3 rfl) ?_
    refine lv_iload_n hx hb dL_sum_11 rfl (lv_at hl 1 rfl) ?_
    refine x_icmp_ge (tgt := 32) hx hb dL_sum_12 (by decide) h (fun c1 h => ?_) (fun c1 h => ?_)
    · refine lv_lload_n hx hb dL_sum_32 rfl (lv_at hl 2 rfl) ?_
      cases h
      exact j_lret hX hr hlk hP hS dL_sum_33
    · refine lv_lload_n hx hb dL_sum_15 rfl (lv_at hl 2 rfl) ?_
      refine lv_aload_n hx hb dL_sum_16 rfl (lv_at hl 0 rfl) ?_
      refine lv_iload hx hb dL_sum_17 (lv_at hl 3 rfl) ?_
      refine lv_iconst (v := 0) hx hb dL_sum_19 kc_i0 ?_
      obtain ⟨r3, e2, h⟩ := ob1_some h
      refine j_i (j_runV (rest := [.long v2]) hX hP hl.1 Y_X7_account cok5 (lt157 sl_145) sk_145 (c_X7_account hA e2) ⟨rfl, rfl⟩ q633 ⟨Nat.le_of_ble_eq_true rfl, Nat.le_of_ble_eq_true rfl⟩ rfl rfl (Nat.le_of_ble_eq_true rfl) dL_sum_20) hS (fun H locs hP hS => ?_)
      refine lv_i2l (v := r3.toInt64) hx hb dL_sum_23 rfl ?_
      refine lv_ladd hx hb dL_sum_24 ?_
      refine x_letL h (fun y4 h => ?_)
      refine lv_lstore_n (lv' := [(2, .long y4), (0, .ref (ad 145)), (1, .int v1), (4, .int v4)]) hx hb dL_sum_25 rfl hl (Nat.le_of_ble_eq_true rfl) rfl (fun ls hl => ?_)
      refine lv_iinc (v := (v4 + 1)) (lv' := [(4, .int (v4 + 1)), (2, .long y4), (0, .ref (ad 145)), (1, .int v1)]) hx hb dL_sum_26 hl (k := 3) rfl rfl (Nat.le_of_ble_eq_true rfl) rfl (fun ls hl => ?_)
      refine lv_goto (tgt := 9) hx hb dL_sum_29 (by decide) ?_
      exact ih _ _ _ _ h _ _ _ hP hS (lv_sub hl [2, 3, 1, 0] rfl)
set_option maxHeartbeats 4000000 in
set_option maxRecDepth 100000 in
theorem c_L_sum {l : Launch} {D : va_G} {tc : Tc} {ad : Nat → Nat} {A : Nat → Prop} (hA : adok ad A) {I M : St} {v1 : Int32} {rr : Int64} (h : f_L_sum v1 I = some rr) : Met l yL_sum (Cond.code yL_sum cL_sum 5 (some .long) :: tw) rm_L_sum (pre D tc ad [.ref (ad 145), .int v1] (cmb I M)) (ql D tc ad A rr (cmb I M)) 0 0 A := by
  unfold f_L_sum at h
  refine mk_met (own := RL) (by decide +kernel) rfl hA (Nat.le_of_ble_eq_true rfl) ?_
  intro p e s m below meth c ls hX hr hlk hl hP hS
  have hl : lv_has ls 5 [(0, .ref (ad 145)), (1, .int v1)] := hl
  have hx := hX.1
  have hb := hX.2.1
  have hown := hX.2.2.2.1
  have hts := hX.2.2.2.2.1
  refine lv_aload_n hx hb dL_sum_0 rfl (lv_at hl 0 rfl) ?_
  obtain ⟨r6, e5, h⟩ := ob1_some h
  refine j_i (j_runV (rest := []) hX hP hl.1 Y_X7_pot cok5 (lt157 sl_145) sk_145 (c_X7_pot hA e5) ⟨rfl, rfl⟩ q637 ⟨Nat.le_of_ble_eq_true rfl, Nat.le_of_ble_eq_true rfl⟩ rfl rfl (Nat.le_of_ble_eq_true rfl) dL_sum_1) hS (fun H locs hP hS => ?_)
  refine lv_i2l (v := r6.toInt64) hx hb dL_sum_4 rfl ?_
  refine x_letL h (fun y7 h => ?_)
  refine lv_lstore_n (lv' := [(2, .long y7), (0, .ref (ad 145)), (1, .int v1)]) hx hb dL_sum_5 rfl hl (Nat.le_of_ble_eq_true rfl) rfl (fun ls hl => ?_)
  refine lv_iconst (v := 0) hx hb dL_sum_6 kc_i0 ?_
  refine lv_istore (lv' := [(4, .int 0), (2, .long y7), (0, .ref (ad 145)), (1, .int v1)]) hx hb dL_sum_7 hl (Nat.le_of_ble_eq_true rfl) rfl (fun ls hl => ?_)
  exact t_L_sum_l9 hX hr hlk  10000 _ _ _ _ h _ _ _ hP hS (lv_sub hl [2, 3, 1, 0] rfl)
/-! OwnerlessCoinLaw.fails(LOwnerlessCoin;I)Z -/
def rm_L_fails : Room := { frames := 7, cells := 0, slots := 0, locals := 163 }
theorem Y_L_fails : ys yL_fails cL_fails 5 (some .boolean) 2 := ⟨q308, q307, q11, by decide +kernel⟩
set_option maxHeartbeats 4000000 in
set_option maxRecDepth 100000 in
theorem t_L_fails_b305 {p : Program} {l : Launch} {e : Env} {s : State} {m : MethodId} {args : Array Value} {below : List Frame} {meth : Method} {c : Code} {D : va_G} {tc : Tc} {ad : Nat → Nat} {A : Nat → Prop} {M : St} {rr : Int32} {II : St} (hX : cx p s m args c cL_fails 5 RL D tc ad A) (hr : meth.sig.returnType = some .boolean) (hlk : meth.locks = false) : ∀ (t0 : Int32) (I : St), f_L_fails_b305 t0 I = some (rr, II) → ∀ (H : Heap) (locs : List Loc) (ls : Array Slot), va_P D vwCl (wl tc ad (cmb I M)) H → va_S A s.heap H locs → lv_has ls 5 [] → W p l e rm_L_fails s m args below meth c H locs 0 0 (MQ below (qi D tc ad A rr (cmb II M)) args s 0 0 A) (F0 m 305 ls [.int t0]) := by
  intro t0 I h H locs ls hP hS hl
  unfold f_L_fails_b305 at h
  have hx := hX.1
  have hb := hX.2.1
  have hown := hX.2.2.2.1
  have hts := hX.2.2.2.2.1
  have hA := hX.2.2.2.2.2.2
  obtain ⟨gz, h⟩ := ck_some h
  cases h
  exact j_zret hX hr hlk hP hS (isB_or gz) dL_fails_305
set_option maxHeartbeats 4000000 in
set_option maxRecDepth 100000 in
theorem t_L_fails_b304 {p : Program} {l : Launch} {e : Env} {s : State} {m : MethodId} {args : Array Value} {below : List Frame} {meth : Method} {c : Code} {D : va_G} {tc : Tc} {ad : Nat → Nat} {A : Nat → Prop} {M : St} {rr : Int32} {II : St} (hX : cx p s m args c cL_fails 5 RL D tc ad A) (hr : meth.sig.returnType = some .boolean) (hlk : meth.locks = false) : ∀ (I : St), f_L_fails_b304 I = some (rr, II) → ∀ (H : Heap) (locs : List Loc) (ls : Array Slot), va_P D vwCl (wl tc ad (cmb I M)) H → va_S A s.heap H locs → lv_has ls 5 [] → W p l e rm_L_fails s m args below meth c H locs 0 0 (MQ below (qi D tc ad A rr (cmb II M)) args s 0 0 A) (F0 m 304 ls []) := by
  intro I h H locs ls hP hS hl
  unfold f_L_fails_b304 at h
  have hx := hX.1
  have hb := hX.2.1
  have hown := hX.2.2.2.1
  have hts := hX.2.2.2.2.1
  have hA := hX.2.2.2.2.2.2
  refine lv_iconst (v := 0) hx hb dL_fails_304 kc_i0 ?_
  exact t_L_fails_b305 hX hr hlk  _ _ h _ _ _ hP hS (lv_sub hl [] rfl)
set_option maxHeartbeats 4000000 in
set_option maxRecDepth 100000 in
theorem t_L_fails_b284 {p : Program} {l : Launch} {e : Env} {s : State} {m : MethodId} {args : Array Value} {below : List Frame} {meth : Method} {c : Code} {D : va_G} {tc : Tc} {ad : Nat → Nat} {A : Nat → Prop} {M : St} {rr : Int32} {II : St} (hX : cx p s m args c cL_fails 5 RL D tc ad A) (hr : meth.sig.returnType = some .boolean) (hlk : meth.locks = false) : ∀ (v2 : Int64) (t0 : Int32) (I : St), f_L_fails_b284 v2 t0 I = some (rr, II) → ∀ (H : Heap) (locs : List Loc) (ls : Array Slot), va_P D vwCl (wl tc ad (cmb I M)) H → va_S A s.heap H locs → lv_has ls 5 [(0, .ref (ad 145)), (2, .long v2)] → W p l e rm_L_fails s m args below meth c H locs 0 0 (MQ below (qi D tc ad A rr (cmb II M)) args s 0 0 A) (F0 m 284 ls [.int t0]) := by
  intro v2 t0 I h H locs ls hP hS hl
  unfold f_L_fails_b284 at h
  have hx := hX.1
  have hb := hX.2.1
  have hown := hX.2.2.2.1
  have hts := hX.2.2.2.2.1
  have hA := hX.2.2.2.2.2.2
  refine lv_istore (lv' := [(4, .int t0), (0, .ref (ad 145)), (2, .long v2)]) hx hb dL_fails_284 hl (Nat.le_of_ble_eq_true rfl) rfl (fun ls hl => ?_)
  refine lv_iload hx hb dL_fails_286 (lv_at hl 0 rfl) ?_
  refine x_if_eq (tgt := 304) hx hb dL_fails_288 (by decide) h (fun c1 h => ?_) (fun c1 h => ?_)
  · exact t_L_fails_b304 hX hr hlk  _ h _ _ _ hP hS (lv_sub hl [] rfl)
  · refine lv_aload_n hx hb dL_fails_291 rfl (lv_at hl 1 rfl) ?_
    obtain ⟨r3, e2, h⟩ := ob1_some h
    refine j_l (j_runV (rest := []) hX hP hl.1 Y_X7_fingerprint cok5 (lt157 sl_145) sk_145 (c_X7_fingerprint hA e2) ⟨rfl, rfl⟩ q309 ⟨Nat.le_of_ble_eq_true rfl, Nat.le_of_ble_eq_true rfl⟩ rfl rfl (Nat.le_of_ble_eq_true rfl) dL_fails_292) hS (fun H locs hP hS => ?_)
    refine lv_lload_n hx hb dL_fails_295 rfl (lv_at hl 2 rfl) ?_
    refine W.lcmp hx hb dL_fails_296 ?_
    refine x_if_ne (tgt := 304) hx hb dL_fails_297 (by decide) h (fun c4 h => ?_) (fun c4 h => ?_)
    · exact t_L_fails_b304 hX hr hlk  _ h _ _ _ hP hS (lv_sub hl [] rfl)
    · refine lv_iconst (v := 1) hx hb dL_fails_300 kc_i1 ?_
      refine lv_goto (tgt := 305) hx hb dL_fails_301 (by decide) ?_
      exact t_L_fails_b305 hX hr hlk  _ _ h _ _ _ hP hS (lv_sub hl [] rfl)
set_option maxHeartbeats 4000000 in
set_option maxRecDepth 100000 in
theorem t_L_fails_b279 {p : Program} {l : Launch} {e : Env} {s : State} {m : MethodId} {args : Array Value} {below : List Frame} {meth : Method} {c : Code} {D : va_G} {tc : Tc} {ad : Nat → Nat} {A : Nat → Prop} {M : St} {rr : Int32} {II : St} (hX : cx p s m args c cL_fails 5 RL D tc ad A) (hr : meth.sig.returnType = some .boolean) (hlk : meth.locks = false) : ∀ (v2 : Int64) (I : St), f_L_fails_b279 v2 I = some (rr, II) → ∀ (H : Heap) (locs : List Loc) (ls : Array Slot), va_P D vwCl (wl tc ad (cmb I M)) H → va_S A s.heap H locs → lv_has ls 5 [(0, .ref (ad 145)), (2, .long v2)] → W p l e rm_L_fails s m args below meth c H locs 0 0 (MQ below (qi D tc ad A rr (cmb II M)) args s 0 0 A) (F0 m 279 ls []) := by
  intro v2 I h H locs ls hP hS hl
  unfold f_L_fails_b279 at h
  have hx := hX.1
  have hb := hX.2.1
  have hown := hX.2.2.2.1
  have hts := hX.2.2.2.2.1
  have hA := hX.2.2.2.2.2.2
  refine lv_iconst (v := 1) hx hb dL_fails_279 kc_i1 ?_
  refine lv_goto (tgt := 284) hx hb dL_fails_280 (by decide) ?_
  exact t_L_fails_b284 hX hr hlk  _ _ _ h _ _ _ hP hS (lv_sub hl [0, 1] rfl)
set_option maxHeartbeats 4000000 in
set_option maxRecDepth 100000 in
theorem t_L_fails_b283 {p : Program} {l : Launch} {e : Env} {s : State} {m : MethodId} {args : Array Value} {below : List Frame} {meth : Method} {c : Code} {D : va_G} {tc : Tc} {ad : Nat → Nat} {A : Nat → Prop} {M : St} {rr : Int32} {II : St} (hX : cx p s m args c cL_fails 5 RL D tc ad A) (hr : meth.sig.returnType = some .boolean) (hlk : meth.locks = false) : ∀ (v2 : Int64) (I : St), f_L_fails_b283 v2 I = some (rr, II) → ∀ (H : Heap) (locs : List Loc) (ls : Array Slot), va_P D vwCl (wl tc ad (cmb I M)) H → va_S A s.heap H locs → lv_has ls 5 [(0, .ref (ad 145)), (2, .long v2)] → W p l e rm_L_fails s m args below meth c H locs 0 0 (MQ below (qi D tc ad A rr (cmb II M)) args s 0 0 A) (F0 m 283 ls []) := by
  intro v2 I h H locs ls hP hS hl
  unfold f_L_fails_b283 at h
  have hx := hX.1
  have hb := hX.2.1
  have hown := hX.2.2.2.1
  have hts := hX.2.2.2.2.1
  have hA := hX.2.2.2.2.2.2
  refine lv_iconst (v := 0) hx hb dL_fails_283 kc_i0 ?_
  exact t_L_fails_b284 hX hr hlk  _ _ _ h _ _ _ hP hS (lv_sub hl [0, 1] rfl)
set_option maxHeartbeats 4000000 in
set_option maxRecDepth 100000 in
theorem t_L_fails_b185 {p : Program} {l : Launch} {e : Env} {s : State} {m : MethodId} {args : Array Value} {below : List Frame} {meth : Method} {c : Code} {D : va_G} {tc : Tc} {ad : Nat → Nat} {A : Nat → Prop} {M : St} {rr : Int32} {II : St} (hX : cx p s m args c cL_fails 5 RL D tc ad A) (hr : meth.sig.returnType = some .boolean) (hlk : meth.locks = false) : ∀ (v2 : Int64) (t0 : Int32) (I : St), f_L_fails_b185 v2 t0 I = some (rr, II) → ∀ (H : Heap) (locs : List Loc) (ls : Array Slot), va_P D vwCl (wl tc ad (cmb I M)) H → va_S A s.heap H locs → lv_has ls 5 [(0, .ref (ad 145)), (2, .long v2)] → W p l e rm_L_fails s m args below meth c H locs 0 0 (MQ below (qi D tc ad A rr (cmb II M)) args s 0 0 A) (F0 m 185 ls [.int t0]) := by
  intro v2 t0 I h H locs ls hP hS hl
  unfold f_L_fails_b185 at h
  have hx := hX.1
  have hb := hX.2.1
  have hown := hX.2.2.2.1
  have hts := hX.2.2.2.2.1
  have hA := hX.2.2.2.2.2.2
  refine lv_istore (lv' := [(4, .int t0), (0, .ref (ad 145)), (2, .long v2)]) hx hb dL_fails_185 hl (Nat.le_of_ble_eq_true rfl) rfl (fun ls hl => ?_)
  refine lv_iload hx hb dL_fails_187 (lv_at hl 0 rfl) ?_
  refine x_if_eq (tgt := 283) hx hb dL_fails_189 (by decide) h (fun c5 h => ?_) (fun c5 h => ?_)
  · exact t_L_fails_b283 hX hr hlk  _ _ h _ _ _ hP hS (lv_sub hl [1, 2] rfl)
  · refine lv_aload_n hx hb dL_fails_192 rfl (lv_at hl 1 rfl) ?_
    obtain ⟨r7, e6, h⟩ := ob1_some h
    refine j_i (j_runV (rest := []) hX hP hl.1 Y_X7_phase cok5 (lt157 sl_145) sk_145 (c_X7_phase hA e6) ⟨rfl, rfl⟩ q525 ⟨Nat.le_of_ble_eq_true rfl, Nat.le_of_ble_eq_true rfl⟩ rfl rfl (Nat.le_of_ble_eq_true rfl) dL_fails_193) hS (fun H locs hP hS => ?_)
    refine x_if_ne (tgt := 240) hx hb dL_fails_196 (by decide) h (fun c8 h => ?_) (fun c8 h => ?_)
    · refine lv_aload_n hx hb dL_fails_240 rfl (lv_at hl 1 rfl) ?_
      obtain ⟨r11, I10, e9, h⟩ := ob2_some h
      refine j_i (j_runV (rest := []) hX hP hl.1 Y_X7_begin cok5 (lt157 sl_145) sk_145 (c_X7_begin hA e9) ⟨rfl, rfl⟩ q569 ⟨Nat.le_of_ble_eq_true rfl, Nat.le_of_ble_eq_true rfl⟩ rfl rfl (Nat.le_of_ble_eq_true rfl) dL_fails_241) hS (fun H locs hP hS => ?_)
      refine lv_bipush (v := (-2)) hx hb dL_fails_244 kc_bm2 ?_
      refine x_icmp_ne (tgt := 283) hx hb dL_fails_246 (by decide) h (fun c12 h => ?_) (fun c12 h => ?_)
      · exact t_L_fails_b283 hX hr hlk  _ _ h _ _ _ hP hS (lv_sub hl [1, 2] rfl)
      · refine lv_aload_n hx hb dL_fails_249 rfl (lv_at hl 1 rfl) ?_
        refine lv_iconst (v := 1) hx hb dL_fails_250 kc_i1 ?_
        obtain ⟨r15, I14, e13, h⟩ := ob2_some h
        refine j_i (j_runV (rest := []) hX hP hl.1 Y_X7_play cok5 (lt157 sl_145) sk_145 (c_X7_play hA e13) ⟨rfl, rfl⟩ q585 ⟨Nat.le_of_ble_eq_true rfl, Nat.le_of_ble_eq_true rfl⟩ rfl rfl (Nat.le_of_ble_eq_true rfl) dL_fails_251) hS (fun H locs hP hS => ?_)
        refine lv_bipush (v := (-2)) hx hb dL_fails_254 kc_bm2 ?_
        refine x_icmp_ne (tgt := 283) hx hb dL_fails_256 (by decide) h (fun c16 h => ?_) (fun c16 h => ?_)
        · exact t_L_fails_b283 hX hr hlk  _ _ h _ _ _ hP hS (lv_sub hl [1, 2] rfl)
        · refine lv_aload_n hx hb dL_fails_259 rfl (lv_at hl 1 rfl) ?_
          refine lv_iconst (v := 0) hx hb dL_fails_260 kc_i0 ?_
          obtain ⟨r19, I18, e17, h⟩ := ob2_some h
          refine j_i (j_runV (rest := []) hX hP hl.1 Y_X7_setMethod cok5 (lt157 sl_145) sk_145 (c_X7_setMethod hA e17) ⟨rfl, rfl⟩ q355 ⟨Nat.le_of_ble_eq_true rfl, Nat.le_of_ble_eq_true rfl⟩ rfl rfl (Nat.le_of_ble_eq_true rfl) dL_fails_261) hS (fun H locs hP hS => ?_)
          refine lv_bipush (v := (-2)) hx hb dL_fails_264 kc_bm2 ?_
          refine x_icmp_ne (tgt := 283) hx hb dL_fails_266 (by decide) h (fun c20 h => ?_) (fun c20 h => ?_)
          · exact t_L_fails_b283 hX hr hlk  _ _ h _ _ _ hP hS (lv_sub hl [1, 2] rfl)
          · refine lv_aload_n hx hb dL_fails_269 rfl (lv_at hl 1 rfl) ?_
            refine lv_iconst (v := 5) hx hb dL_fails_270 kc_i5 ?_
            obtain ⟨r23, I22, e21, h⟩ := ob2_some h
            refine j_i (j_runV (rest := []) hX hP hl.1 Y_X7_addParticipant cok5 (lt157 sl_145) sk_145 (c_X7_addParticipant hA e21) ⟨rfl, rfl⟩ q253 ⟨Nat.le_of_ble_eq_true rfl, Nat.le_of_ble_eq_true rfl⟩ rfl rfl (Nat.le_of_ble_eq_true rfl) dL_fails_271) hS (fun H locs hP hS => ?_)
            refine lv_bipush (v := (-2)) hx hb dL_fails_274 kc_bm2 ?_
            refine x_icmp_ne (tgt := 283) hx hb dL_fails_276 (by decide) h (fun c24 h => ?_) (fun c24 h => ?_)
            · exact t_L_fails_b283 hX hr hlk  _ _ h _ _ _ hP hS (lv_sub hl [1, 2] rfl)
            · exact t_L_fails_b279 hX hr hlk  _ _ h _ _ _ hP hS (lv_sub hl [1, 2] rfl)
    · refine lv_aload_n hx hb dL_fails_199 rfl (lv_at hl 1 rfl) ?_
      obtain ⟨r27, I26, e25, h⟩ := ob2_some h
      refine j_i (j_runV (rest := []) hX hP hl.1 Y_X7_close cok5 (lt157 sl_145) sk_145 (c_X7_close hA e25) ⟨rfl, rfl⟩ q526 ⟨Nat.le_of_ble_eq_true rfl, Nat.le_of_ble_eq_true rfl⟩ rfl rfl (Nat.le_of_ble_eq_true rfl) dL_fails_200) hS (fun H locs hP hS => ?_)
      refine lv_bipush (v := (-2)) hx hb dL_fails_203 kc_bm2 ?_
      refine x_icmp_ne (tgt := 283) hx hb dL_fails_205 (by decide) h (fun c28 h => ?_) (fun c28 h => ?_)
      · exact t_L_fails_b283 hX hr hlk  _ _ h _ _ _ hP hS (lv_sub hl [1, 2] rfl)
      · refine lv_aload_n hx hb dL_fails_208 rfl (lv_at hl 1 rfl) ?_
        obtain ⟨r31, I30, e29, h⟩ := ob2_some h
        refine j_i (j_runV (rest := []) hX hP hl.1 Y_X7_beginOpening cok5 (lt157 sl_145) sk_145 (c_X7_beginOpening hA e29) ⟨rfl, rfl⟩ q560 ⟨Nat.le_of_ble_eq_true rfl, Nat.le_of_ble_eq_true rfl⟩ rfl rfl (Nat.le_of_ble_eq_true rfl) dL_fails_209) hS (fun H locs hP hS => ?_)
        refine lv_bipush (v := (-2)) hx hb dL_fails_212 kc_bm2 ?_
        refine x_icmp_ne (tgt := 283) hx hb dL_fails_214 (by decide) h (fun c32 h => ?_) (fun c32 h => ?_)
        · exact t_L_fails_b283 hX hr hlk  _ _ h _ _ _ hP hS (lv_sub hl [1, 2] rfl)
        · refine lv_aload_n hx hb dL_fails_217 rfl (lv_at hl 1 rfl) ?_
          refine lv_iconst (v := 0) hx hb dL_fails_218 kc_i0 ?_
          obtain ⟨r34, e33, h⟩ := ob1_some h
          refine j_i (j_runV (rest := []) hX hP hl.1 Y_X7_set cok5 (lt157 sl_145) sk_145 (c_X7_set hA e33) ⟨rfl, rfl⟩ q457 ⟨Nat.le_of_ble_eq_true rfl, Nat.le_of_ble_eq_true rfl⟩ rfl rfl (Nat.le_of_ble_eq_true rfl) dL_fails_219) hS (fun H locs hP hS => ?_)
          refine lv_bipush (v := (-2)) hx hb dL_fails_222 kc_bm2 ?_
          refine x_icmp_ne (tgt := 283) hx hb dL_fails_224 (by decide) h (fun c35 h => ?_) (fun c35 h => ?_)
          · exact t_L_fails_b283 hX hr hlk  _ _ h _ _ _ hP hS (lv_sub hl [1, 2] rfl)
          · refine lv_aload_n hx hb dL_fails_227 rfl (lv_at hl 1 rfl) ?_
            refine lv_iconst (v := 0) hx hb dL_fails_228 kc_i0 ?_
            obtain ⟨r37, e36, h⟩ := ob1_some h
            refine j_i (j_runV (rest := []) hX hP hl.1 Y_X7_digest cok5 (lt157 sl_145) sk_145 (c_X7_digest hA e36) ⟨rfl, rfl⟩ q568 ⟨Nat.le_of_ble_eq_true rfl, Nat.le_of_ble_eq_true rfl⟩ rfl rfl (Nat.le_of_ble_eq_true rfl) dL_fails_229) hS (fun H locs hP hS => ?_)
            refine lv_bipush (v := (-9)) hx hb dL_fails_232 kc_bm9 ?_
            refine x_icmp_ne (tgt := 283) hx hb dL_fails_234 (by decide) h (fun c38 h => ?_) (fun c38 h => ?_)
            · exact t_L_fails_b283 hX hr hlk  _ _ h _ _ _ hP hS (lv_sub hl [1, 2] rfl)
            · refine lv_goto (tgt := 279) hx hb dL_fails_237 (by decide) ?_
              exact t_L_fails_b279 hX hr hlk  _ _ h _ _ _ hP hS (lv_sub hl [1, 2] rfl)
set_option maxHeartbeats 4000000 in
set_option maxRecDepth 100000 in
theorem t_L_fails_b184 {p : Program} {l : Launch} {e : Env} {s : State} {m : MethodId} {args : Array Value} {below : List Frame} {meth : Method} {c : Code} {D : va_G} {tc : Tc} {ad : Nat → Nat} {A : Nat → Prop} {M : St} {rr : Int32} {II : St} (hX : cx p s m args c cL_fails 5 RL D tc ad A) (hr : meth.sig.returnType = some .boolean) (hlk : meth.locks = false) : ∀ (v2 : Int64) (I : St), f_L_fails_b184 v2 I = some (rr, II) → ∀ (H : Heap) (locs : List Loc) (ls : Array Slot), va_P D vwCl (wl tc ad (cmb I M)) H → va_S A s.heap H locs → lv_has ls 5 [(0, .ref (ad 145)), (2, .long v2)] → W p l e rm_L_fails s m args below meth c H locs 0 0 (MQ below (qi D tc ad A rr (cmb II M)) args s 0 0 A) (F0 m 184 ls []) := by
  intro v2 I h H locs ls hP hS hl
  unfold f_L_fails_b184 at h
  have hx := hX.1
  have hb := hX.2.1
  have hown := hX.2.2.2.1
  have hts := hX.2.2.2.2.1
  have hA := hX.2.2.2.2.2.2
  refine lv_iconst (v := 0) hx hb dL_fails_184 kc_i0 ?_
  exact t_L_fails_b185 hX hr hlk  _ _ _ h _ _ _ hP hS (lv_sub hl [0, 1] rfl)
set_option maxHeartbeats 4000000 in
set_option maxRecDepth 100000 in
theorem t_L_fails_b77 {p : Program} {l : Launch} {e : Env} {s : State} {m : MethodId} {args : Array Value} {below : List Frame} {meth : Method} {c : Code} {D : va_G} {tc : Tc} {ad : Nat → Nat} {A : Nat → Prop} {M : St} {rr : Int32} {II : St} (hX : cx p s m args c cL_fails 5 RL D tc ad A) (hr : meth.sig.returnType = some .boolean) (hlk : meth.locks = false) : ∀ (v1 : Int32) (v2 : Int64) (t0 : Int32) (I : St), f_L_fails_b77 v1 v2 t0 I = some (rr, II) → ∀ (H : Heap) (locs : List Loc) (ls : Array Slot), va_P D vwCl (wl tc ad (cmb I M)) H → va_S A s.heap H locs → lv_has ls 5 [(0, .ref (ad 145)), (1, .int v1), (2, .long v2)] → W p l e rm_L_fails s m args below meth c H locs 0 0 (MQ below (qi D tc ad A rr (cmb II M)) args s 0 0 A) (F0 m 77 ls [.int t0]) := by
  intro v1 v2 t0 I h H locs ls hP hS hl
  unfold f_L_fails_b77 at h
  have hx := hX.1
  have hb := hX.2.1
  have hown := hX.2.2.2.1
  have hts := hX.2.2.2.2.1
  have hA := hX.2.2.2.2.2.2
  refine lv_istore (lv' := [(4, .int t0), (0, .ref (ad 145)), (1, .int v1), (2, .long v2)]) hx hb dL_fails_77 hl (Nat.le_of_ble_eq_true rfl) rfl (fun ls hl => ?_)
  refine lv_iload hx hb dL_fails_79 (lv_at hl 0 rfl) ?_
  refine x_if_eq (tgt := 184) hx hb dL_fails_81 (by decide) h (fun c39 h => ?_) (fun c39 h => ?_)
  · exact t_L_fails_b184 hX hr hlk  _ _ h _ _ _ hP hS (lv_sub hl [1, 3] rfl)
  · refine lv_aload_n hx hb dL_fails_84 rfl (lv_at hl 1 rfl) ?_
    refine lv_iload_n hx hb dL_fails_85 rfl (lv_at hl 2 rfl) ?_
    refine lv_iconst (v := 0) hx hb dL_fails_86 kc_i0 ?_
    refine lv_iconst (v := 0) hx hb dL_fails_87 kc_i0 ?_
    obtain ⟨r42, I41, e40, h⟩ := ob2_some h
    refine j_i (j_runV (rest := []) hX hP hl.1 Y_X7_commit cok5 (lt157 sl_145) sk_145 (c_X7_commit hA e40) ⟨rfl, rfl⟩ q367 ⟨Nat.le_of_ble_eq_true rfl, Nat.le_of_ble_eq_true rfl⟩ rfl rfl (Nat.le_of_ble_eq_true rfl) dL_fails_88) hS (fun H locs hP hS => ?_)
    refine lv_iconst (v := (-1)) hx hb dL_fails_91 kc_im1 ?_
    refine x_icmp_ne (tgt := 184) hx hb dL_fails_92 (by decide) h (fun c43 h => ?_) (fun c43 h => ?_)
    · exact t_L_fails_b184 hX hr hlk  _ _ h _ _ _ hP hS (lv_sub hl [1, 3] rfl)
    · refine lv_aload_n hx hb dL_fails_95 rfl (lv_at hl 1 rfl) ?_
      refine lv_iconst (v := 0) hx hb dL_fails_96 kc_i0 ?_
      refine lv_sipush (v := 1019) hx hb dL_fails_97 kc_s1019 ?_
      refine lv_iconst (v := 0) hx hb dL_fails_100 kc_i0 ?_
      obtain ⟨r46, I45, e44, h⟩ := ob2_some h
      refine j_i (j_runV (rest := []) hX hP hl.1 Y_X7_commit cok5 (lt157 sl_145) sk_145 (c_X7_commit hA e44) ⟨rfl, rfl⟩ q367 ⟨Nat.le_of_ble_eq_true rfl, Nat.le_of_ble_eq_true rfl⟩ rfl rfl (Nat.le_of_ble_eq_true rfl) dL_fails_101) hS (fun H locs hP hS => ?_)
      refine lv_iconst (v := (-1)) hx hb dL_fails_104 kc_im1 ?_
      refine x_icmp_ne (tgt := 184) hx hb dL_fails_105 (by decide) h (fun c47 h => ?_) (fun c47 h => ?_)
      · exact t_L_fails_b184 hX hr hlk  _ _ h _ _ _ hP hS (lv_sub hl [1, 3] rfl)
      · refine lv_aload_n hx hb dL_fails_108 rfl (lv_at hl 1 rfl) ?_
        refine lv_iconst (v := 0) hx hb dL_fails_109 kc_i0 ?_
        refine lv_iconst (v := 1) hx hb dL_fails_110 kc_i1 ?_
        refine lv_iconst (v := 0) hx hb dL_fails_111 kc_i0 ?_
        obtain ⟨r50, I49, e48, h⟩ := ob2_some h
        refine j_i (j_runV (rest := []) hX hP hl.1 Y_X7_spoil cok5 (lt157 sl_145) sk_145 (c_X7_spoil hA e48) ⟨rfl, rfl⟩ q415 ⟨Nat.le_of_ble_eq_true rfl, Nat.le_of_ble_eq_true rfl⟩ rfl rfl (Nat.le_of_ble_eq_true rfl) dL_fails_112) hS (fun H locs hP hS => ?_)
        refine lv_iconst (v := (-1)) hx hb dL_fails_115 kc_im1 ?_
        refine x_icmp_ne (tgt := 184) hx hb dL_fails_116 (by decide) h (fun c51 h => ?_) (fun c51 h => ?_)
        · exact t_L_fails_b184 hX hr hlk  _ _ h _ _ _ hP hS (lv_sub hl [1, 3] rfl)
        · refine lv_aload_n hx hb dL_fails_119 rfl (lv_at hl 1 rfl) ?_
          refine lv_iconst (v := 1) hx hb dL_fails_120 kc_i1 ?_
          refine lv_iconst (v := 1) hx hb dL_fails_121 kc_i1 ?_
          obtain ⟨r54, I53, e52, h⟩ := ob2_some h
          refine j_i (j_runV (rest := []) hX hP hl.1 Y_X7_complain cok5 (lt157 sl_145) sk_145 (c_X7_complain hA e52) ⟨rfl, rfl⟩ q437 ⟨Nat.le_of_ble_eq_true rfl, Nat.le_of_ble_eq_true rfl⟩ rfl rfl (Nat.le_of_ble_eq_true rfl) dL_fails_122) hS (fun H locs hP hS => ?_)
          refine lv_iconst (v := (-1)) hx hb dL_fails_125 kc_im1 ?_
          refine x_icmp_ne (tgt := 184) hx hb dL_fails_126 (by decide) h (fun c55 h => ?_) (fun c55 h => ?_)
          · exact t_L_fails_b184 hX hr hlk  _ _ h _ _ _ hP hS (lv_sub hl [1, 3] rfl)
          · refine lv_aload_n hx hb dL_fails_129 rfl (lv_at hl 1 rfl) ?_
            refine lv_iconst (v := (-1)) hx hb dL_fails_130 kc_im1 ?_
            refine lv_iconst (v := 0) hx hb dL_fails_131 kc_i0 ?_
            refine lv_iconst (v := 0) hx hb dL_fails_132 kc_i0 ?_
            obtain ⟨r58, I57, e56, h⟩ := ob2_some h
            refine j_i (j_runV (rest := []) hX hP hl.1 Y_X7_open cok5 (lt157 sl_145) sk_145 (c_X7_open hA e56) ⟨rfl, rfl⟩ q453 ⟨Nat.le_of_ble_eq_true rfl, Nat.le_of_ble_eq_true rfl⟩ rfl rfl (Nat.le_of_ble_eq_true rfl) dL_fails_133) hS (fun H locs hP hS => ?_)
            refine lv_iconst (v := (-1)) hx hb dL_fails_136 kc_im1 ?_
            refine x_icmp_ne (tgt := 184) hx hb dL_fails_137 (by decide) h (fun c59 h => ?_) (fun c59 h => ?_)
            · exact t_L_fails_b184 hX hr hlk  _ _ h _ _ _ hP hS (lv_sub hl [1, 3] rfl)
            · refine lv_aload_n hx hb dL_fails_140 rfl (lv_at hl 1 rfl) ?_
              refine lv_iconst (v := 4) hx hb dL_fails_141 kc_i4 ?_
              obtain ⟨r61, e60, h⟩ := ob1_some h
              refine j_i (j_runV (rest := []) hX hP hl.1 Y_X7_set cok5 (lt157 sl_145) sk_145 (c_X7_set hA e60) ⟨rfl, rfl⟩ q457 ⟨Nat.le_of_ble_eq_true rfl, Nat.le_of_ble_eq_true rfl⟩ rfl rfl (Nat.le_of_ble_eq_true rfl) dL_fails_142) hS (fun H locs hP hS => ?_)
              refine lv_iconst (v := (-1)) hx hb dL_fails_145 kc_im1 ?_
              refine x_icmp_ne (tgt := 184) hx hb dL_fails_146 (by decide) h (fun c62 h => ?_) (fun c62 h => ?_)
              · exact t_L_fails_b184 hX hr hlk  _ _ h _ _ _ hP hS (lv_sub hl [1, 3] rfl)
              · refine lv_aload_n hx hb dL_fails_149 rfl (lv_at hl 1 rfl) ?_
                refine lv_sipush (v := 256) hx hb dL_fails_150 kc_s256 ?_
                obtain ⟨r65, I64, e63, h⟩ := ob2_some h
                refine j_i (j_runV (rest := []) hX hP hl.1 Y_X7_results cok5 (lt157 sl_145) sk_145 (c_X7_results hA e63) ⟨rfl, rfl⟩ q458 ⟨Nat.le_of_ble_eq_true rfl, Nat.le_of_ble_eq_true rfl⟩ rfl rfl (Nat.le_of_ble_eq_true rfl) dL_fails_153) hS (fun H locs hP hS => ?_)
                refine lv_iconst (v := (-1)) hx hb dL_fails_156 kc_im1 ?_
                refine x_icmp_ne (tgt := 184) hx hb dL_fails_157 (by decide) h (fun c66 h => ?_) (fun c66 h => ?_)
                · exact t_L_fails_b184 hX hr hlk  _ _ h _ _ _ hP hS (lv_sub hl [1, 3] rfl)
                · refine lv_aload_n hx hb dL_fails_160 rfl (lv_at hl 1 rfl) ?_
                  refine lv_iconst (v := 0) hx hb dL_fails_161 kc_i0 ?_
                  refine lv_iconst (v := 5) hx hb dL_fails_162 kc_i5 ?_
                  obtain ⟨r69, I68, e67, h⟩ := ob2_some h
                  refine j_i (j_runV (rest := []) hX hP hl.1 Y_X7_bias cok5 (lt157 sl_145) sk_145 (c_X7_bias hA e67) ⟨rfl, rfl⟩ q500 ⟨Nat.le_of_ble_eq_true rfl, Nat.le_of_ble_eq_true rfl⟩ rfl rfl (Nat.le_of_ble_eq_true rfl) dL_fails_163) hS (fun H locs hP hS => ?_)
                  refine lv_iconst (v := (-1)) hx hb dL_fails_166 kc_im1 ?_
                  refine x_icmp_ne (tgt := 184) hx hb dL_fails_167 (by decide) h (fun c70 h => ?_) (fun c70 h => ?_)
                  · exact t_L_fails_b184 hX hr hlk  _ _ h _ _ _ hP hS (lv_sub hl [1, 3] rfl)
                  · refine lv_aload_n hx hb dL_fails_170 rfl (lv_at hl 1 rfl) ?_
                    refine lv_iconst (v := 0) hx hb dL_fails_171 kc_i0 ?_
                    refine lv_iconst (v := 2) hx hb dL_fails_172 kc_i2 ?_
                    obtain ⟨r73, I72, e71, h⟩ := ob2_some h
                    refine j_i (j_runV (rest := []) hX hP hl.1 Y_X7_canForce cok5 (lt157 sl_145) sk_145 (c_X7_canForce hA e71) ⟨rfl, rfl⟩ q520 ⟨Nat.le_of_ble_eq_true rfl, Nat.le_of_ble_eq_true rfl⟩ rfl rfl (Nat.le_of_ble_eq_true rfl) dL_fails_173) hS (fun H locs hP hS => ?_)
                    refine lv_iconst (v := (-1)) hx hb dL_fails_176 kc_im1 ?_
                    refine x_icmp_ne (tgt := 184) hx hb dL_fails_177 (by decide) h (fun c74 h => ?_) (fun c74 h => ?_)
                    · exact t_L_fails_b184 hX hr hlk  _ _ h _ _ _ hP hS (lv_sub hl [1, 3] rfl)
                    · refine lv_iconst (v := 1) hx hb dL_fails_180 kc_i1 ?_
                      refine lv_goto (tgt := 185) hx hb dL_fails_181 (by decide) ?_
                      exact t_L_fails_b185 hX hr hlk  _ _ _ h _ _ _ hP hS (lv_sub hl [1, 3] rfl)
set_option maxHeartbeats 4000000 in
set_option maxRecDepth 100000 in
theorem t_L_fails_b76 {p : Program} {l : Launch} {e : Env} {s : State} {m : MethodId} {args : Array Value} {below : List Frame} {meth : Method} {c : Code} {D : va_G} {tc : Tc} {ad : Nat → Nat} {A : Nat → Prop} {M : St} {rr : Int32} {II : St} (hX : cx p s m args c cL_fails 5 RL D tc ad A) (hr : meth.sig.returnType = some .boolean) (hlk : meth.locks = false) : ∀ (v1 : Int32) (v2 : Int64) (I : St), f_L_fails_b76 v1 v2 I = some (rr, II) → ∀ (H : Heap) (locs : List Loc) (ls : Array Slot), va_P D vwCl (wl tc ad (cmb I M)) H → va_S A s.heap H locs → lv_has ls 5 [(0, .ref (ad 145)), (1, .int v1), (2, .long v2)] → W p l e rm_L_fails s m args below meth c H locs 0 0 (MQ below (qi D tc ad A rr (cmb II M)) args s 0 0 A) (F0 m 76 ls []) := by
  intro v1 v2 I h H locs ls hP hS hl
  unfold f_L_fails_b76 at h
  have hx := hX.1
  have hb := hX.2.1
  have hown := hX.2.2.2.1
  have hts := hX.2.2.2.2.1
  have hA := hX.2.2.2.2.2.2
  refine lv_iconst (v := 0) hx hb dL_fails_76 kc_i0 ?_
  exact t_L_fails_b77 hX hr hlk  _ _ _ _ h _ _ _ hP hS (lv_sub hl [0, 1, 2] rfl)
set_option maxHeartbeats 4000000 in
set_option maxRecDepth 100000 in
theorem c_L_fails {l : Launch} {D : va_G} {tc : Tc} {ad : Nat → Nat} {A : Nat → Prop} (hA : adok ad A) {I M : St} {v1 : Int32} {rr : Int32} {II : St} (h : f_L_fails v1 I = some (rr, II)) : Met l yL_fails (Cond.code yL_fails cL_fails 5 (some .boolean) :: tw) rm_L_fails (pre D tc ad [.ref (ad 145), .int v1] (cmb I M)) (qi D tc ad A rr (cmb II M)) 0 0 A := by
  unfold f_L_fails at h
  refine mk_met (own := RL) (by decide +kernel) rfl hA (Nat.le_of_ble_eq_true rfl) ?_
  intro p e s m below meth c ls hX hr hlk hl hP hS
  have hl : lv_has ls 5 [(0, .ref (ad 145)), (1, .int v1)] := hl
  have hx := hX.1
  have hb := hX.2.1
  have hown := hX.2.2.2.1
  have hts := hX.2.2.2.2.1
  refine lv_aload_n hx hb dL_fails_0 rfl (lv_at hl 0 rfl) ?_
  obtain ⟨r76, e75, h⟩ := ob1_some h
  refine j_l (j_runV (rest := []) hX hP hl.1 Y_X7_fingerprint cok5 (lt157 sl_145) sk_145 (c_X7_fingerprint hA e75) ⟨rfl, rfl⟩ q309 ⟨Nat.le_of_ble_eq_true rfl, Nat.le_of_ble_eq_true rfl⟩ rfl rfl (Nat.le_of_ble_eq_true rfl) dL_fails_1) hS (fun H locs hP hS => ?_)
  refine lv_lstore_n (lv' := [(2, .long r76), (0, .ref (ad 145)), (1, .int v1)]) hx hb dL_fails_4 rfl hl (Nat.le_of_ble_eq_true rfl) rfl (fun ls hl => ?_)
  refine lv_aload_n hx hb dL_fails_5 rfl (lv_at hl 1 rfl) ?_
  refine lv_iconst (v := (-1)) hx hb dL_fails_6 kc_im1 ?_
  obtain ⟨r79, I78, e77, h⟩ := ob2_some h
  refine j_i (j_runV (rest := []) hX hP hl.1 Y_X7_addParticipant cok5 (lt157 sl_145) sk_145 (c_X7_addParticipant hA e77) ⟨rfl, rfl⟩ q253 ⟨Nat.le_of_ble_eq_true rfl, Nat.le_of_ble_eq_true rfl⟩ rfl rfl (Nat.le_of_ble_eq_true rfl) dL_fails_7) hS (fun H locs hP hS => ?_)
  refine lv_iconst (v := (-1)) hx hb dL_fails_10 kc_im1 ?_
  refine x_icmp_ne (tgt := 76) hx hb dL_fails_11 (by decide) h (fun c80 h => ?_) (fun c80 h => ?_)
  · exact t_L_fails_b76 hX hr hlk  _ _ _ h _ _ _ hP hS (lv_sub hl [1, 2, 0] rfl)
  · refine lv_aload_n hx hb dL_fails_14 rfl (lv_at hl 1 rfl) ?_
    refine lv_iload_n hx hb dL_fails_15 rfl (lv_at hl 2 rfl) ?_
    refine lv_iconst (v := 0) hx hb dL_fails_16 kc_i0 ?_
    obtain ⟨r83, I82, e81, h⟩ := ob2_some h
    refine j_i (j_runV (rest := []) hX hP hl.1 Y_X7_behave cok5 (lt157 sl_145) sk_145 (c_X7_behave hA e81) ⟨rfl, rfl⟩ q351 ⟨Nat.le_of_ble_eq_true rfl, Nat.le_of_ble_eq_true rfl⟩ rfl rfl (Nat.le_of_ble_eq_true rfl) dL_fails_17) hS (fun H locs hP hS => ?_)
    refine lv_iconst (v := (-1)) hx hb dL_fails_20 kc_im1 ?_
    refine x_icmp_ne (tgt := 76) hx hb dL_fails_21 (by decide) h (fun c84 h => ?_) (fun c84 h => ?_)
    · exact t_L_fails_b76 hX hr hlk  _ _ _ h _ _ _ hP hS (lv_sub hl [1, 2, 0] rfl)
    · refine lv_aload_n hx hb dL_fails_24 rfl (lv_at hl 1 rfl) ?_
      refine lv_iconst (v := 0) hx hb dL_fails_25 kc_i0 ?_
      refine lv_iconst (v := 4) hx hb dL_fails_26 kc_i4 ?_
      obtain ⟨r87, I86, e85, h⟩ := ob2_some h
      refine j_i (j_runV (rest := []) hX hP hl.1 Y_X7_behave cok5 (lt157 sl_145) sk_145 (c_X7_behave hA e85) ⟨rfl, rfl⟩ q351 ⟨Nat.le_of_ble_eq_true rfl, Nat.le_of_ble_eq_true rfl⟩ rfl rfl (Nat.le_of_ble_eq_true rfl) dL_fails_27) hS (fun H locs hP hS => ?_)
      refine lv_iconst (v := (-1)) hx hb dL_fails_30 kc_im1 ?_
      refine x_icmp_ne (tgt := 76) hx hb dL_fails_31 (by decide) h (fun c88 h => ?_) (fun c88 h => ?_)
      · exact t_L_fails_b76 hX hr hlk  _ _ _ h _ _ _ hP hS (lv_sub hl [1, 2, 0] rfl)
      · refine lv_aload_n hx hb dL_fails_34 rfl (lv_at hl 1 rfl) ?_
        refine lv_iconst (v := 3) hx hb dL_fails_35 kc_i3 ?_
        obtain ⟨r91, I90, e89, h⟩ := ob2_some h
        refine j_i (j_runV (rest := []) hX hP hl.1 Y_X7_setMethod cok5 (lt157 sl_145) sk_145 (c_X7_setMethod hA e89) ⟨rfl, rfl⟩ q355 ⟨Nat.le_of_ble_eq_true rfl, Nat.le_of_ble_eq_true rfl⟩ rfl rfl (Nat.le_of_ble_eq_true rfl) dL_fails_36) hS (fun H locs hP hS => ?_)
        refine lv_iconst (v := (-1)) hx hb dL_fails_39 kc_im1 ?_
        refine x_icmp_ne (tgt := 76) hx hb dL_fails_40 (by decide) h (fun c92 h => ?_) (fun c92 h => ?_)
        · exact t_L_fails_b76 hX hr hlk  _ _ _ h _ _ _ hP hS (lv_sub hl [1, 2, 0] rfl)
        · refine lv_aload_n hx hb dL_fails_43 rfl (lv_at hl 1 rfl) ?_
          refine lv_iconst (v := 0) hx hb dL_fails_44 kc_i0 ?_
          obtain ⟨r95, I94, e93, h⟩ := ob2_some h
          refine j_i (j_runV (rest := []) hX hP hl.1 Y_X7_setThreshold cok5 (lt157 sl_145) sk_145 (c_X7_setThreshold hA e93) ⟨rfl, rfl⟩ q359 ⟨Nat.le_of_ble_eq_true rfl, Nat.le_of_ble_eq_true rfl⟩ rfl rfl (Nat.le_of_ble_eq_true rfl) dL_fails_45) hS (fun H locs hP hS => ?_)
          refine lv_iconst (v := (-1)) hx hb dL_fails_48 kc_im1 ?_
          refine x_icmp_ne (tgt := 76) hx hb dL_fails_49 (by decide) h (fun c96 h => ?_) (fun c96 h => ?_)
          · exact t_L_fails_b76 hX hr hlk  _ _ _ h _ _ _ hP hS (lv_sub hl [1, 2, 0] rfl)
          · refine lv_aload_n hx hb dL_fails_52 rfl (lv_at hl 1 rfl) ?_
            refine lv_sipush (v := 1001) hx hb dL_fails_53 kc_s1001 ?_
            obtain ⟨r99, I98, e97, h⟩ := ob2_some h
            refine j_i (j_runV (rest := []) hX hP hl.1 Y_X7_setFine cok5 (lt157 sl_145) sk_145 (c_X7_setFine hA e97) ⟨rfl, rfl⟩ q290 ⟨Nat.le_of_ble_eq_true rfl, Nat.le_of_ble_eq_true rfl⟩ rfl rfl (Nat.le_of_ble_eq_true rfl) dL_fails_56) hS (fun H locs hP hS => ?_)
            refine lv_iconst (v := (-1)) hx hb dL_fails_59 kc_im1 ?_
            refine x_icmp_ne (tgt := 76) hx hb dL_fails_60 (by decide) h (fun c100 h => ?_) (fun c100 h => ?_)
            · exact t_L_fails_b76 hX hr hlk  _ _ _ h _ _ _ hP hS (lv_sub hl [1, 2, 0] rfl)
            · refine lv_aload_n hx hb dL_fails_63 rfl (lv_at hl 1 rfl) ?_
              refine lv_iconst (v := 0) hx hb dL_fails_64 kc_i0 ?_
              obtain ⟨r103, I102, e101, h⟩ := ob2_some h
              refine j_i (j_runV (rest := []) hX hP hl.1 Y_X7_setDelay cok5 (lt157 sl_145) sk_145 (c_X7_setDelay hA e101) ⟨rfl, rfl⟩ q363 ⟨Nat.le_of_ble_eq_true rfl, Nat.le_of_ble_eq_true rfl⟩ rfl rfl (Nat.le_of_ble_eq_true rfl) dL_fails_65) hS (fun H locs hP hS => ?_)
              refine lv_iconst (v := (-1)) hx hb dL_fails_68 kc_im1 ?_
              refine x_icmp_ne (tgt := 76) hx hb dL_fails_69 (by decide) h (fun c104 h => ?_) (fun c104 h => ?_)
              · exact t_L_fails_b76 hX hr hlk  _ _ _ h _ _ _ hP hS (lv_sub hl [1, 2, 0] rfl)
              · refine lv_iconst (v := 1) hx hb dL_fails_72 kc_i1 ?_
                refine lv_goto (tgt := 77) hx hb dL_fails_73 (by decide) ?_
                exact t_L_fails_b77 hX hr hlk  _ _ _ _ h _ _ _ hP hS (lv_sub hl [1, 2, 0] rfl)
