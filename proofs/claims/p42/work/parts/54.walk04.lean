/-! OwnerlessCoin$Game.givesOne(LOwnerlessCoin$Lab;I)Z -/
def rm_X2_givesOne : Room := { frames := 3, cells := 0, slots := 0, locals := 64 }
theorem Y_X2_givesOne : ys yX2_givesOne cX2_givesOne 3 (some .boolean) 2 := ⟨q622, q621, q22, by decide +kernel⟩
set_option maxHeartbeats 4000000 in
set_option maxRecDepth 100000 in
theorem t_X2_givesOne_b31 {p : Program} {l : Launch} {e : Env} {s : State} {m : MethodId} {args : Array Value} {below : List Frame} {meth : Method} {c : Code} {D : va_G} {tc : Tc} {ad : Nat → Nat} {A : Nat → Prop} {M : St} {rr : Int32} (hX : cx p s m args c cX2_givesOne 3 RX2 D tc ad A) (hr : meth.sig.returnType = some .boolean) (hlk : meth.locks = false) : ∀ (t0 : Int32) (I : St), f_X2_givesOne_b31 t0 I = some rr → ∀ (H : Heap) (locs : List Loc) (ls : Array Slot), va_P D vwCl (wl tc ad (cmb I M)) H → va_S A s.heap H locs → lv_has ls 3 [] → W p l e rm_X2_givesOne s m args below meth c H locs 0 0 (MQ below (qi D tc ad A rr (cmb I M)) args s 0 0 A) (F0 m 31 ls [.int t0]) := by
  intro t0 I h H locs ls hP hS hl
  unfold f_X2_givesOne_b31 at h
  have hx := hX.1
  have hb := hX.2.1
  have hown := hX.2.2.2.1
  have hts := hX.2.2.2.2.1
  have hA := hX.2.2.2.2.2.2
  obtain ⟨gz, h⟩ := ck_some h
  cases h
  exact j_zret hX hr hlk hP hS (isB_or gz) dX2_givesOne_31
set_option maxHeartbeats 4000000 in
set_option maxRecDepth 100000 in
theorem t_X2_givesOne_b30 {p : Program} {l : Launch} {e : Env} {s : State} {m : MethodId} {args : Array Value} {below : List Frame} {meth : Method} {c : Code} {D : va_G} {tc : Tc} {ad : Nat → Nat} {A : Nat → Prop} {M : St} {rr : Int32} (hX : cx p s m args c cX2_givesOne 3 RX2 D tc ad A) (hr : meth.sig.returnType = some .boolean) (hlk : meth.locks = false) : ∀ (I : St), f_X2_givesOne_b30 I = some rr → ∀ (H : Heap) (locs : List Loc) (ls : Array Slot), va_P D vwCl (wl tc ad (cmb I M)) H → va_S A s.heap H locs → lv_has ls 3 [] → W p l e rm_X2_givesOne s m args below meth c H locs 0 0 (MQ below (qi D tc ad A rr (cmb I M)) args s 0 0 A) (F0 m 30 ls []) := by
  intro I h H locs ls hP hS hl
  unfold f_X2_givesOne_b30 at h
  have hx := hX.1
  have hb := hX.2.1
  have hown := hX.2.2.2.1
  have hts := hX.2.2.2.2.1
  have hA := hX.2.2.2.2.2.2
  refine lv_iconst (v := 0) hx hb dX2_givesOne_30 kc_i0 ?_
  exact t_X2_givesOne_b31 hX hr hlk  _ _ h _ _ _ hP hS (lv_sub hl [] rfl)
set_option maxHeartbeats 4000000 in
set_option maxRecDepth 100000 in
theorem c_X2_givesOne {l : Launch} {D : va_G} {tc : Tc} {ad : Nat → Nat} {A : Nat → Prop} (hA : adok ad A) {I M : St} {v1 : Int32} {rr : Int32} (h : f_X2_givesOne v1 I = some rr) : Met l yX2_givesOne (Cond.code yX2_givesOne cX2_givesOne 3 (some .boolean) :: tw) rm_X2_givesOne (pre D tc ad [.ref (ad 0), .int v1] (cmb I M)) (qi D tc ad A rr (cmb I M)) 0 0 A := by
  unfold f_X2_givesOne at h
  refine mk_met (own := RX2) (by decide +kernel) rfl hA (Nat.le_of_ble_eq_true rfl) ?_
  intro p e s m below meth c ls hX hr hlk hl hP hS
  have hl : lv_has ls 3 [(0, .ref (ad 0)), (1, .int v1)] := hl
  have hx := hX.1
  have hb := hX.2.1
  have hown := hX.2.2.2.1
  have hts := hX.2.2.2.2.1
  refine lv_aload_n hx hb dX2_givesOne_0 rfl (lv_at hl 0 rfl) ?_
  refine lv_iload_n hx hb dX2_givesOne_1 rfl (lv_at hl 1 rfl) ?_
  obtain ⟨r2, e1, h⟩ := ob1_some h
  refine j_i (j_runV (rest := []) hX hP hl.1 Y_X4_countedIf cok3 (lt157 sl_0) sk_0 (c_X4_countedIf hA e1) ⟨rfl, rfl⟩ q623 ⟨Nat.le_of_ble_eq_true rfl, Nat.le_of_ble_eq_true rfl⟩ rfl rfl (Nat.le_of_ble_eq_true rfl) dX2_givesOne_2) hS (fun H locs hP hS => ?_)
  refine lv_istore_n (lv' := [(2, .int r2), (0, .ref (ad 0)), (1, .int v1)]) hx hb dX2_givesOne_5 rfl hl (Nat.le_of_ble_eq_true rfl) rfl (fun ls hl => ?_)
  refine lv_iload_n hx hb dX2_givesOne_6 rfl (lv_at hl 0 rfl) ?_
  refine lv_iconst (v := (-1)) hx hb dX2_givesOne_7 kc_im1 ?_
  refine x_icmp_eq (tgt := 30) hx hb dX2_givesOne_8 (by decide) h (fun c3 h => ?_) (fun c3 h => ?_)
  · exact t_X2_givesOne_b30 hX hr hlk  _ h _ _ _ hP hS (lv_sub hl [] rfl)
  · refine lv_aload_n hx hb dX2_givesOne_11 rfl (lv_at hl 1 rfl) ?_
    refine lv_aload_n hx hb dX2_givesOne_12 rfl (lv_at hl 1 rfl) ?_
    refine r_getq (t := 2) hX hP cok3 1 sl_0 sk_0 (by decide) rfl q143 dX2_givesOne_13 ?_
    refine lv_iload_n hx hb dX2_givesOne_16 rfl (lv_at hl 0 rfl) ?_
    obtain ⟨r5, e4, h⟩ := ob1_some h
    refine j_i (j_runV (rest := []) hX hP hl.1 Y_X4_mixed cok3 (lt157 sl_0) sk_0 (c_X4_mixed hA e4) ⟨rfl, rfl⟩ q624 ⟨Nat.le_of_ble_eq_true rfl, Nat.le_of_ble_eq_true rfl⟩ rfl rfl (Nat.le_of_ble_eq_true rfl) dX2_givesOne_17) hS (fun H locs hP hS => ?_)
    refine lv_iconst (v := 1) hx hb dX2_givesOne_20 kc_i1 ?_
    refine lv_iand hx hb dX2_givesOne_21 ?_
    refine x_let h (fun x6 h => ?_)
    refine lv_iconst (v := 1) hx hb dX2_givesOne_22 kc_i1 ?_
    refine x_icmp_ne (tgt := 30) hx hb dX2_givesOne_23 (by decide) h (fun c7 h => ?_) (fun c7 h => ?_)
    · exact t_X2_givesOne_b30 hX hr hlk  _ h _ _ _ hP hS (lv_sub hl [] rfl)
    · refine lv_iconst (v := 1) hx hb dX2_givesOne_26 kc_i1 ?_
      refine lv_goto (tgt := 31) hx hb dX2_givesOne_27 (by decide) ?_
      exact t_X2_givesOne_b31 hX hr hlk  _ _ h _ _ _ hP hS (lv_sub hl [] rfl)
/-! OwnerlessCoin$Game.openSelfish(LOwnerlessCoin$Lab;)V -/
def rm_X2_openSelfish : Room := { frames := 4, cells := 0, slots := 0, locals := 86 }
theorem Y_X2_openSelfish : ys yX2_openSelfish cX2_openSelfish 3 none 1 := ⟨q619, q618, q22, by decide +kernel⟩
set_option maxHeartbeats 4000000 in
set_option maxRecDepth 100000 in
theorem t_X2_openSelfish_b65 {p : Program} {l : Launch} {e : Env} {s : State} {m : MethodId} {args : Array Value} {below : List Frame} {meth : Method} {c : Code} {D : va_G} {tc : Tc} {ad : Nat → Nat} {A : Nat → Prop} {M : St} {II : St} (hX : cx p s m args c cX2_openSelfish 3 RX2 D tc ad A) (hr : meth.sig.returnType = none) (hlk : meth.locks = false) {K2 : Int32 → St → Option (St)} (hK2 : ∀ (v1 : Int32) (I : St), K2 v1 I = some II → ∀ (H : Heap) (locs : List Loc) (ls : Array Slot), va_P D vwCl (wl tc ad (cmb I M)) H → va_S A s.heap H locs → lv_has ls 3 [(0, .ref (ad 0)), (1, .int v1)] → W p l e rm_X2_openSelfish s m args below meth c H locs 0 0 (MQ below (qv D tc ad A (cmb II M)) args s 0 0 A) (F0 m 2 ls [])) : ∀ (v1 : Int32) (I : St), f_X2_openSelfish_b65 K2 v1 I = some II → ∀ (H : Heap) (locs : List Loc) (ls : Array Slot), va_P D vwCl (wl tc ad (cmb I M)) H → va_S A s.heap H locs → lv_has ls 3 [(0, .ref (ad 0)), (1, .int v1)] → W p l e rm_X2_openSelfish s m args below meth c H locs 0 0 (MQ below (qv D tc ad A (cmb II M)) args s 0 0 A) (F0 m 65 ls []) := by
  intro v1 I h H locs ls hP hS hl
  unfold f_X2_openSelfish_b65 at h
  have hx := hX.1
  have hb := hX.2.1
  have hown := hX.2.2.2.1
  have hts := hX.2.2.2.2.1
  have hA := hX.2.2.2.2.2.2
  refine lv_iinc (v := (v1 + 1)) (lv' := [(1, .int (v1 + 1)), (0, .ref (ad 0))]) hx hb dX2_openSelfish_65 hl (k := 1) rfl rfl (Nat.le_of_ble_eq_true rfl) rfl (fun ls hl => ?_)
  refine lv_goto (tgt := 2) hx hb dX2_openSelfish_68 (by decide) ?_
  exact hK2 _ _ h _ _ _ hP hS (lv_sub hl [1, 0] rfl)
set_option maxHeartbeats 4000000 in
set_option maxRecDepth 100000 in
theorem t_X2_openSelfish_b60 {p : Program} {l : Launch} {e : Env} {s : State} {m : MethodId} {args : Array Value} {below : List Frame} {meth : Method} {c : Code} {D : va_G} {tc : Tc} {ad : Nat → Nat} {A : Nat → Prop} {M : St} {II : St} (hX : cx p s m args c cX2_openSelfish 3 RX2 D tc ad A) (hr : meth.sig.returnType = none) (hlk : meth.locks = false) {K2 : Int32 → St → Option (St)} (hK2 : ∀ (v1 : Int32) (I : St), K2 v1 I = some II → ∀ (H : Heap) (locs : List Loc) (ls : Array Slot), va_P D vwCl (wl tc ad (cmb I M)) H → va_S A s.heap H locs → lv_has ls 3 [(0, .ref (ad 0)), (1, .int v1)] → W p l e rm_X2_openSelfish s m args below meth c H locs 0 0 (MQ below (qv D tc ad A (cmb II M)) args s 0 0 A) (F0 m 2 ls [])) : ∀ (v1 : Int32) (v2 : Int32) (I : St), f_X2_openSelfish_b60 K2 v1 v2 I = some II → ∀ (H : Heap) (locs : List Loc) (ls : Array Slot), va_P D vwCl (wl tc ad (cmb I M)) H → va_S A s.heap H locs → lv_has ls 3 [(0, .ref (ad 0)), (1, .int v1), (2, .int v2)] → W p l e rm_X2_openSelfish s m args below meth c H locs 0 0 (MQ below (qv D tc ad A (cmb II M)) args s 0 0 A) (F0 m 60 ls []) := by
  intro v1 v2 I h H locs ls hP hS hl
  unfold f_X2_openSelfish_b60 at h
  have hx := hX.1
  have hb := hX.2.1
  have hown := hX.2.2.2.1
  have hts := hX.2.2.2.2.1
  have hA := hX.2.2.2.2.2.2
  refine lv_aload_n hx hb dX2_openSelfish_60 rfl (lv_at hl 0 rfl) ?_
  refine lv_iload_n hx hb dX2_openSelfish_61 rfl (lv_at hl 2 rfl) ?_
  refine r_put hX hP hS cok3 12 h sl_0 sk_0 (by decide) rfl rfl q171 rfl dX2_openSelfish_62 (fun I1 H locs h hP hS => ?_)
  exact t_X2_openSelfish_b65 hX hr hlk hK2 _ _ h _ _ _ hP hS (lv_sub hl [0, 1] rfl)
set_option maxHeartbeats 4000000 in
set_option maxRecDepth 100000 in
theorem t_X2_openSelfish_l2 {p : Program} {l : Launch} {e : Env} {s : State} {m : MethodId} {args : Array Value} {below : List Frame} {meth : Method} {c : Code} {D : va_G} {tc : Tc} {ad : Nat → Nat} {A : Nat → Prop} {M : St} {II : St} (hX : cx p s m args c cX2_openSelfish 3 RX2 D tc ad A) (hr : meth.sig.returnType = none) (hlk : meth.locks = false) : ∀ (n : Nat), ∀ (v1 : Int32) (I : St), f_X2_openSelfish_l2 n v1 I = some II → ∀ (H : Heap) (locs : List Loc) (ls : Array Slot), va_P D vwCl (wl tc ad (cmb I M)) H → va_S A s.heap H locs → lv_has ls 3 [(0, .ref (ad 0)), (1, .int v1)] → W p l e rm_X2_openSelfish s m args below meth c H locs 0 0 (MQ below (qv D tc ad A (cmb II M)) args s 0 0 A) (F0 m 2 ls []) := by
  intro n
  induction n with
  | zero =>
    intro _ _ h
    cases h
  | succ n ih =>
    intro v1 I h H locs ls hP hS hl
    rw [f_X2_openSelfish_l2] at h
    have hx := hX.1
    have hb := hX.2.1
    have hown := hX.2.2.2.1
    have hts := hX.2.2.2.2.1
    have hA := hX.2.2.2.2.2.2
    refine lv_iload_n hx hb dX2_openSelfish_2 rfl (lv_at hl 1 rfl) ?_
    refine lv_bipush (v := 8) hx hb dX2_openSelfish_3 kc_b8 ?_
    refine x_icmp_ge (tgt := 71) hx hb dX2_openSelfish_5 (by decide) h (fun c2 h => ?_) (fun c2 h => ?_)
    · cases h
      exact j_vret hX hr hlk hP hS dX2_openSelfish_71
    · refine lv_aload_n hx hb dX2_openSelfish_8 rfl (lv_at hl 0 rfl) ?_
      refine r_get hX hP cok3 10 sl_0 sk_0 (by decide) rfl q165 dX2_openSelfish_9 ?_
      refine x_let h (fun x3 h => ?_)
      refine lv_iload_n hx hb dX2_openSelfish_12 rfl (lv_at hl 1 rfl) ?_
      obtain ⟨r5, e4, h⟩ := ob1_some h
      refine j_i (j_runN (rest := []) hX hP hl.1 Y_X7_has (c_X7_has hA e4) ⟨rfl, rfl⟩ nw11 ⟨Nat.le_of_ble_eq_true rfl, Nat.le_of_ble_eq_true rfl⟩ rfl rfl (Nat.le_of_ble_eq_true rfl) dX2_openSelfish_13) hS (fun H locs hP hS => ?_)
      refine x_if_eq (tgt := 65) hx hb dX2_openSelfish_16 (by decide) h (fun c6 h => ?_) (fun c6 h => ?_)
      · exact t_X2_openSelfish_b65 hX hr hlk ih _ _ h _ _ _ hP hS (lv_sub hl [0, 1] rfl)
      · refine lv_aload_n hx hb dX2_openSelfish_19 rfl (lv_at hl 0 rfl) ?_
        refine r_getq (t := 1) hX hP cok3 0 sl_0 sk_0 (by decide) rfl q140 dX2_openSelfish_20 ?_
        refine lv_iload_n hx hb dX2_openSelfish_23 rfl (lv_at hl 1 rfl) ?_
        refine r_ldq hX hP h (lt157 sl_1) sk_1 sn_1 dX2_openSelfish_24 (fun g7 h => ?_)
        refine r_get hX hP cok4 1 (isP_lt (isP_of g7)) (isP_kd (isP_of g7)) (by decide) rfl q88 dX2_openSelfish_25 ?_
        refine x_let h (fun x8 h => ?_)
        refine lv_iconst (v := 2) hx hb dX2_openSelfish_28 kc_i2 ?_
        refine x_icmp_ne (tgt := 65) hx hb dX2_openSelfish_29 (by decide) h (fun c9 h => ?_) (fun c9 h => ?_)
        · exact t_X2_openSelfish_b65 hX hr hlk ih _ _ h _ _ _ hP hS (lv_sub hl [0, 1] rfl)
        · refine lv_aload_n hx hb dX2_openSelfish_32 rfl (lv_at hl 0 rfl) ?_
          refine r_get hX hP cok3 12 sl_0 sk_0 (by decide) rfl q171 dX2_openSelfish_33 ?_
          refine x_let h (fun x10 h => ?_)
          refine lv_iconst (v := 1) hx hb dX2_openSelfish_36 kc_i1 ?_
          refine lv_iload_n hx hb dX2_openSelfish_37 rfl (lv_at hl 1 rfl) ?_
          refine lv_ishl hx hb dX2_openSelfish_38 ?_
          refine lv_ior hx hb dX2_openSelfish_39 ?_
          refine x_let h (fun x11 h => ?_)
          refine lv_istore_n (lv' := [(2, .int x11), (0, .ref (ad 0)), (1, .int v1)]) hx hb dX2_openSelfish_40 rfl hl (Nat.le_of_ble_eq_true rfl) rfl (fun ls hl => ?_)
          refine lv_aload_n hx hb dX2_openSelfish_41 rfl (lv_at hl 1 rfl) ?_
          refine lv_aload_n hx hb dX2_openSelfish_42 rfl (lv_at hl 1 rfl) ?_
          refine r_get hX hP cok3 12 sl_0 sk_0 (by decide) rfl q171 dX2_openSelfish_43 ?_
          obtain ⟨r13, e12, h⟩ := ob1_some h
          refine j_i (j_runS (rest := []) hX hP hl.1 Y_X2_givesOne (c_X2_givesOne hA e12) ⟨rfl, rfl⟩ q620 ⟨Nat.le_of_ble_eq_true rfl, Nat.le_of_ble_eq_true rfl⟩ rfl rfl (Nat.le_of_ble_eq_true rfl) dX2_openSelfish_46) hS (fun H locs hP hS => ?_)
          refine x_if_eq (tgt := 60) hx hb dX2_openSelfish_49 (by decide) h (fun c14 h => ?_) (fun c14 h => ?_)
          · exact t_X2_openSelfish_b60 hX hr hlk ih _ _ _ h _ _ _ hP hS (lv_sub hl [1, 2, 0] rfl)
          · refine lv_aload_n hx hb dX2_openSelfish_52 rfl (lv_at hl 1 rfl) ?_
            refine lv_iload_n hx hb dX2_openSelfish_53 rfl (lv_at hl 0 rfl) ?_
            obtain ⟨r16, e15, h⟩ := ob1_some h
            refine j_i (j_runS (rest := []) hX hP hl.1 Y_X2_givesOne (c_X2_givesOne hA e15) ⟨rfl, rfl⟩ q620 ⟨Nat.le_of_ble_eq_true rfl, Nat.le_of_ble_eq_true rfl⟩ rfl rfl (Nat.le_of_ble_eq_true rfl) dX2_openSelfish_54) hS (fun H locs hP hS => ?_)
            refine x_if_eq (tgt := 65) hx hb dX2_openSelfish_57 (by decide) h (fun c17 h => ?_) (fun c17 h => ?_)
            · exact t_X2_openSelfish_b65 hX hr hlk ih _ _ h _ _ _ hP hS (lv_sub hl [1, 2] rfl)
            · exact t_X2_openSelfish_b60 hX hr hlk ih _ _ _ h _ _ _ hP hS (lv_sub hl [1, 2, 0] rfl)
set_option maxHeartbeats 4000000 in
set_option maxRecDepth 100000 in
theorem c_X2_openSelfish {l : Launch} {D : va_G} {tc : Tc} {ad : Nat → Nat} {A : Nat → Prop} (hA : adok ad A) {I M : St}  {II : St} (h : f_X2_openSelfish I = some II) : Met l yX2_openSelfish (Cond.code yX2_openSelfish cX2_openSelfish 3 none :: tw) rm_X2_openSelfish (pre D tc ad [.ref (ad 0)] (cmb I M)) (qv D tc ad A (cmb II M)) 0 0 A := by
  unfold f_X2_openSelfish at h
  refine mk_met (own := RX2) (by decide +kernel) rfl hA (Nat.le_of_ble_eq_true rfl) ?_
  intro p e s m below meth c ls hX hr hlk hl hP hS
  have hl : lv_has ls 3 [(0, .ref (ad 0))] := hl
  have hx := hX.1
  have hb := hX.2.1
  have hown := hX.2.2.2.1
  have hts := hX.2.2.2.2.1
  refine lv_iconst (v := 0) hx hb dX2_openSelfish_0 kc_i0 ?_
  refine lv_istore_n (lv' := [(1, .int 0), (0, .ref (ad 0))]) hx hb dX2_openSelfish_1 rfl hl (Nat.le_of_ble_eq_true rfl) rfl (fun ls hl => ?_)
  exact t_X2_openSelfish_l2 hX hr hlk  10000 _ _ h _ _ _ hP hS (lv_sub hl [1, 0] rfl)
/-! OwnerlessCoin$Game.playRound(LOwnerlessCoin$Lab;I)I -/
def rm_X2_playRound : Room := { frames := 5, cells := 0, slots := 0, locals := 121 }
theorem Y_X2_playRound : ys yX2_playRound cX2_playRound 2 (some .int) 2 := ⟨q591, q590, q22, by decide +kernel⟩
set_option maxHeartbeats 4000000 in
set_option maxRecDepth 100000 in
theorem t_X2_playRound_b25 {p : Program} {l : Launch} {e : Env} {s : State} {m : MethodId} {args : Array Value} {below : List Frame} {meth : Method} {c : Code} {D : va_G} {tc : Tc} {ad : Nat → Nat} {A : Nat → Prop} {M : St} {rr : Int32} {II : St} (hX : cx p s m args c cX2_playRound 2 RX2 D tc ad A) (hr : meth.sig.returnType = some .int) (hlk : meth.locks = false) : ∀ (I : St), f_X2_playRound_b25 I = some (rr, II) → ∀ (H : Heap) (locs : List Loc) (ls : Array Slot), va_P D vwCl (wl tc ad (cmb I M)) H → va_S A s.heap H locs → lv_has ls 2 [(0, .ref (ad 0))] → W p l e rm_X2_playRound s m args below meth c H locs 0 0 (MQ below (qi D tc ad A rr (cmb II M)) args s 0 0 A) (F0 m 25 ls []) := by
  intro I h H locs ls hP hS hl
  unfold f_X2_playRound_b25 at h
  have hx := hX.1
  have hb := hX.2.1
  have hown := hX.2.2.2.1
  have hts := hX.2.2.2.2.1
  have hA := hX.2.2.2.2.2.2
  refine lv_aload_n hx hb dX2_playRound_25 rfl (lv_at hl 0 rfl) ?_
  obtain ⟨r3, I2, e1, h⟩ := ob2_some h
  refine j_i (j_runV (rest := []) hX hP hl.1 Y_X4_startOpening cok3 (lt157 sl_0) sk_0 (c_X4_startOpening hA e1) ⟨rfl, rfl⟩ q613 ⟨Nat.le_of_ble_eq_true rfl, Nat.le_of_ble_eq_true rfl⟩ rfl rfl (Nat.le_of_ble_eq_true rfl) dX2_playRound_26) hS (fun H locs hP hS => ?_)
  refine lv_bipush (v := (-5)) hx hb dX2_playRound_29 kc_bm5 ?_
  refine x_icmp_ne (tgt := 37) hx hb dX2_playRound_31 (by decide) h (fun c4 h => ?_) (fun c4 h => ?_)
  · refine lv_aload_n hx hb dX2_playRound_37 rfl (lv_at hl 0 rfl) ?_
    obtain ⟨I6, e5, h⟩ := ob1_some h
    refine j_v (j_runS (rest := []) hX hP hl.1 Y_X2_openHonest (c_X2_openHonest hA e5) ⟨rfl, rfl⟩ q614 ⟨Nat.le_of_ble_eq_true rfl, Nat.le_of_ble_eq_true rfl⟩ rfl rfl (Nat.le_of_ble_eq_true rfl) dX2_playRound_38) hS (fun H locs hP hS => ?_)
    refine lv_aload_n hx hb dX2_playRound_41 rfl (lv_at hl 0 rfl) ?_
    obtain ⟨I8, e7, h⟩ := ob1_some h
    refine j_v (j_runS (rest := []) hX hP hl.1 Y_X2_openSelfish (c_X2_openSelfish hA e7) ⟨rfl, rfl⟩ q617 ⟨Nat.le_of_ble_eq_true rfl, Nat.le_of_ble_eq_true rfl⟩ rfl rfl (Nat.le_of_ble_eq_true rfl) dX2_playRound_42) hS (fun H locs hP hS => ?_)
    refine lv_aload_n hx hb dX2_playRound_45 rfl (lv_at hl 0 rfl) ?_
    obtain ⟨r11, I10, e9, h⟩ := ob2_some h
    refine j_i (j_runV (rest := []) hX hP hl.1 Y_X4_finish cok3 (lt157 sl_0) sk_0 (c_X4_finish hA e9) ⟨rfl, rfl⟩ q625 ⟨Nat.le_of_ble_eq_true rfl, Nat.le_of_ble_eq_true rfl⟩ rfl rfl (Nat.le_of_ble_eq_true rfl) dX2_playRound_46) hS (fun H locs hP hS => ?_)
    cases h
    exact j_iret hX hr hlk hP hS dX2_playRound_49
  · refine lv_bipush (v := (-5)) hx hb dX2_playRound_34 kc_bm5 ?_
    cases h
    exact j_iret hX hr hlk hP hS dX2_playRound_36
set_option maxHeartbeats 4000000 in
set_option maxRecDepth 100000 in
theorem c_X2_playRound {l : Launch} {D : va_G} {tc : Tc} {ad : Nat → Nat} {A : Nat → Prop} (hA : adok ad A) {I M : St} {v1 : Int32} {rr : Int32} {II : St} (h : f_X2_playRound v1 I = some (rr, II)) : Met l yX2_playRound (Cond.code yX2_playRound cX2_playRound 2 (some .int) :: tw) rm_X2_playRound (pre D tc ad [.ref (ad 0), .int v1] (cmb I M)) (qi D tc ad A rr (cmb II M)) 0 0 A := by
  unfold f_X2_playRound at h
  refine mk_met (own := RX2) (by decide +kernel) rfl hA (Nat.le_of_ble_eq_true rfl) ?_
  intro p e s m below meth c ls hX hr hlk hl hP hS
  have hl : lv_has ls 2 [(0, .ref (ad 0)), (1, .int v1)] := hl
  have hx := hX.1
  have hb := hX.2.1
  have hown := hX.2.2.2.1
  have hts := hX.2.2.2.2.1
  refine lv_aload_n hx hb dX2_playRound_0 rfl (lv_at hl 0 rfl) ?_
  obtain ⟨I13, e12, h⟩ := ob1_some h
  refine j_v (j_runV (rest := []) hX hP hl.1 Y_X4_start cok3 (lt157 sl_0) sk_0 (c_X4_start hA e12) ⟨rfl, rfl⟩ q592 ⟨Nat.le_of_ble_eq_true rfl, Nat.le_of_ble_eq_true rfl⟩ rfl rfl (Nat.le_of_ble_eq_true rfl) dX2_playRound_1) hS (fun H locs hP hS => ?_)
  refine lv_aload_n hx hb dX2_playRound_4 rfl (lv_at hl 0 rfl) ?_
  refine lv_iload_n hx hb dX2_playRound_5 rfl (lv_at hl 1 rfl) ?_
  obtain ⟨I15, e14, h⟩ := ob1_some h
  refine j_v (j_runS (rest := []) hX hP hl.1 Y_X2_commitAll (c_X2_commitAll hA e14) ⟨rfl, rfl⟩ q593 ⟨Nat.le_of_ble_eq_true rfl, Nat.le_of_ble_eq_true rfl⟩ rfl rfl (Nat.le_of_ble_eq_true rfl) dX2_playRound_6) hS (fun H locs hP hS => ?_)
  refine lv_aload_n hx hb dX2_playRound_9 rfl (lv_at hl 0 rfl) ?_
  refine r_get hX hP cok3 5 sl_0 sk_0 (by decide) rfl q152 dX2_playRound_10 ?_
  refine x_let h (fun x16 h => ?_)
  refine lv_iconst (v := 1) hx hb dX2_playRound_13 kc_i1 ?_
  refine x_icmp_ne (tgt := 25) hx hb dX2_playRound_14 (by decide) h (fun c17 h => ?_) (fun c17 h => ?_)
  · exact t_X2_playRound_b25 hX hr hlk  _ h _ _ _ hP hS (lv_sub hl [0] rfl)
  · refine lv_aload_n hx hb dX2_playRound_17 rfl (lv_at hl 0 rfl) ?_
    obtain ⟨I19, e18, h⟩ := ob1_some h
    refine j_v (j_runS (rest := []) hX hP hl.1 Y_X2_cheat (c_X2_cheat hA e18) ⟨rfl, rfl⟩ q602 ⟨Nat.le_of_ble_eq_true rfl, Nat.le_of_ble_eq_true rfl⟩ rfl rfl (Nat.le_of_ble_eq_true rfl) dX2_playRound_18) hS (fun H locs hP hS => ?_)
    refine lv_aload_n hx hb dX2_playRound_21 rfl (lv_at hl 0 rfl) ?_
    obtain ⟨I21, e20, h⟩ := ob1_some h
    refine j_v (j_runS (rest := []) hX hP hl.1 Y_X2_complainAll (c_X2_complainAll hA e20) ⟨rfl, rfl⟩ q609 ⟨Nat.le_of_ble_eq_true rfl, Nat.le_of_ble_eq_true rfl⟩ rfl rfl (Nat.le_of_ble_eq_true rfl) dX2_playRound_22) hS (fun H locs hP hS => ?_)
    exact t_X2_playRound_b25 hX hr hlk  _ h _ _ _ hP hS (lv_sub hl [0] rfl)
/-! OwnerlessCoin.play(I)I -/
def rm_X7_play : Room := { frames := 6, cells := 0, slots := 0, locals := 142 }
theorem Y_X7_play : yv yX7_play cX7_play 2 (some .int) 1 RX7 := ⟨q588, q586, q587, q12, by decide +kernel⟩
set_option maxHeartbeats 4000000 in
set_option maxRecDepth 100000 in
theorem c_X7_play {l : Launch} {D : va_G} {tc : Tc} {ad : Nat → Nat} {A : Nat → Prop} (hA : adok ad A) {I M : St} {v1 : Int32} {rr : Int32} {II : St} (h : f_X7_play v1 I = some (rr, II)) : Met l yX7_play (Cond.code yX7_play cX7_play 2 (some .int) :: tw) rm_X7_play (pre D tc ad [.ref (ad 145), .int v1] (cmb I M)) (qi D tc ad A rr (cmb II M)) 0 0 A := by
  unfold f_X7_play at h
  refine mk_met (own := RX7) (by decide +kernel) rfl hA (Nat.le_of_ble_eq_true rfl) ?_
  intro p e s m below meth c ls hX hr hlk hl hP hS
  have hl : lv_has ls 2 [(0, .ref (ad 145)), (1, .int v1)] := hl
  have hx := hX.1
  have hb := hX.2.1
  have hown := hX.2.2.2.1
  have hts := hX.2.2.2.2.1
  refine lv_aload_n hx hb dX7_play_0 rfl (lv_at hl 0 rfl) ?_
  refine r_getq (t := 0) hX hP cok5 0 sl_145 sk_145 (by decide) rfl q243 dX7_play_1 ?_
  obtain ⟨r2, e1, h⟩ := ob1_some h
  refine j_i (j_runV (rest := []) hX hP hl.1 Y_X4_canStart cok3 (lt157 sl_0) sk_0 (c_X4_canStart hA e1) ⟨rfl, rfl⟩ q573 ⟨Nat.le_of_ble_eq_true rfl, Nat.le_of_ble_eq_true rfl⟩ rfl rfl (Nat.le_of_ble_eq_true rfl) dX7_play_4) hS (fun H locs hP hS => ?_)
  refine x_if_ne (tgt := 13) hx hb dX7_play_7 (by decide) h (fun c3 h => ?_) (fun c3 h => ?_)
  · refine lv_aload_n hx hb dX7_play_13 rfl (lv_at hl 0 rfl) ?_
    refine r_getq (t := 146) hX hP cok5 1 sl_145 sk_145 (by decide) rfl q244 dX7_play_14 ?_
    refine lv_aload_n hx hb dX7_play_17 rfl (lv_at hl 0 rfl) ?_
    refine r_getq (t := 0) hX hP cok5 0 sl_145 sk_145 (by decide) rfl q243 dX7_play_18 ?_
    obtain ⟨I5, e4, h⟩ := ob1_some h
    refine j_v (j_runV (rest := []) hX hP hl.1 Y_X3_remember cok2 (lt157 sl_146) sk_146 (c_X3_remember hA e4) ⟨rfl, rfl⟩ q261 ⟨Nat.le_of_ble_eq_true rfl, Nat.le_of_ble_eq_true rfl⟩ rfl rfl (Nat.le_of_ble_eq_true rfl) dX7_play_21) hS (fun H locs hP hS => ?_)
    refine lv_aload_n hx hb dX7_play_24 rfl (lv_at hl 0 rfl) ?_
    refine r_getq (t := 0) hX hP cok5 0 sl_145 sk_145 (by decide) rfl q243 dX7_play_25 ?_
    refine lv_iload_n hx hb dX7_play_28 rfl (lv_at hl 1 rfl) ?_
    obtain ⟨r8, I7, e6, h⟩ := ob2_some h
    refine j_i (j_runS (rest := []) hX hP hl.1 Y_X2_playRound (c_X2_playRound hA e6) ⟨rfl, rfl⟩ q589 ⟨Nat.le_of_ble_eq_true rfl, Nat.le_of_ble_eq_true rfl⟩ rfl rfl (Nat.le_of_ble_eq_true rfl) dX7_play_29) hS (fun H locs hP hS => ?_)
    cases h
    exact j_iret hX hr hlk hP hS dX7_play_32
  · refine lv_bipush (v := (-2)) hx hb dX7_play_10 kc_bm2 ?_
    cases h
    exact j_iret hX hr hlk hP hS dX7_play_12
/-! OwnerlessCoin.phase()I -/
def rm_X7_phase : Room := { frames := 0, cells := 0, slots := 0, locals := 0 }
theorem Y_X7_phase : yv yX7_phase cX7_phase 1 (some .int) 0 RX7 := ⟨q318, q316, q317, q12, by decide +kernel⟩
set_option maxHeartbeats 4000000 in
set_option maxRecDepth 100000 in
theorem c_X7_phase {l : Launch} {D : va_G} {tc : Tc} {ad : Nat → Nat} {A : Nat → Prop} (hA : adok ad A) {I M : St}  {rr : Int32} (h : f_X7_phase I = some rr) : Met l yX7_phase (Cond.code yX7_phase cX7_phase 1 (some .int) :: tw) rm_X7_phase (pre D tc ad [.ref (ad 145)] (cmb I M)) (qi D tc ad A rr (cmb I M)) 0 0 A := by
  unfold f_X7_phase at h
  refine mk_met (own := RX7) (by decide +kernel) rfl hA (Nat.le_of_ble_eq_true rfl) ?_
  intro p e s m below meth c ls hX hr hlk hl hP hS
  have hl : lv_has ls 1 [(0, .ref (ad 145))] := hl
  have hx := hX.1
  have hb := hX.2.1
  have hown := hX.2.2.2.1
  have hts := hX.2.2.2.2.1
  refine lv_aload_n hx hb dX7_phase_0 rfl (lv_at hl 0 rfl) ?_
  refine r_getq (t := 0) hX hP cok5 0 sl_145 sk_145 (by decide) rfl q243 dX7_phase_1 ?_
  refine r_get hX hP cok3 9 sl_0 sk_0 (by decide) rfl q162 dX7_phase_4 ?_
  cases h
  exact j_iret hX hr hlk hP hS dX7_phase_7
/-! OwnerlessCoin.set(I)I -/
def rm_X7_set : Room := { frames := 1, cells := 0, slots := 0, locals := 22 }
theorem Y_X7_set : yv yX7_set cX7_set 2 (some .int) 1 RX7 := ⟨q338, q336, q337, q12, by decide +kernel⟩
set_option maxHeartbeats 4000000 in
set_option maxRecDepth 100000 in
theorem c_X7_set {l : Launch} {D : va_G} {tc : Tc} {ad : Nat → Nat} {A : Nat → Prop} (hA : adok ad A) {I M : St} {v1 : Int32} {rr : Int32} (h : f_X7_set v1 I = some rr) : Met l yX7_set (Cond.code yX7_set cX7_set 2 (some .int) :: tw) rm_X7_set (pre D tc ad [.ref (ad 145), .int v1] (cmb I M)) (qi D tc ad A rr (cmb I M)) 0 0 A := by
  unfold f_X7_set at h
  refine mk_met (own := RX7) (by decide +kernel) rfl hA (Nat.le_of_ble_eq_true rfl) ?_
  intro p e s m below meth c ls hX hr hlk hl hP hS
  have hl : lv_has ls 2 [(0, .ref (ad 145)), (1, .int v1)] := hl
  have hx := hX.1
  have hb := hX.2.1
  have hown := hX.2.2.2.1
  have hts := hX.2.2.2.2.1
  refine lv_iload_n hx hb dX7_set_0 rfl (lv_at hl 1 rfl) ?_
  refine lv_iconst (v := 0) hx hb dX7_set_1 kc_i0 ?_
  refine lv_iconst (v := 3) hx hb dX7_set_2 kc_i3 ?_
  obtain ⟨r2, e1, h⟩ := ob1_some h
  refine j_i (j_runS (rest := []) hX hP hl.1 Y_X7_isWithin (c_X7_isWithin hA e1) ⟨rfl, rfl⟩ q258 ⟨Nat.le_of_ble_eq_true rfl, Nat.le_of_ble_eq_true rfl⟩ rfl rfl (Nat.le_of_ble_eq_true rfl) dX7_set_3) hS (fun H locs hP hS => ?_)
  refine x_if_ne (tgt := 11) hx hb dX7_set_6 (by decide) h (fun c3 h => ?_) (fun c3 h => ?_)
  · refine lv_aload_n hx hb dX7_set_11 rfl (lv_at hl 0 rfl) ?_
    refine r_getq (t := 0) hX hP cok5 0 sl_145 sk_145 (by decide) rfl q243 dX7_set_12 ?_
    refine r_get hX hP cok3 9 sl_0 sk_0 (by decide) rfl q162 dX7_set_15 ?_
    refine x_if_ne (tgt := 24) hx hb dX7_set_18 (by decide) h (fun c4 h => ?_) (fun c4 h => ?_)
    · refine lv_iload_n hx hb dX7_set_24 rfl (lv_at hl 1 rfl) ?_
      by_cases c5 : v1 = 0
      · rw [if_pos c5] at h
        refine lv_tableIn (tgt := 52) hx hb dX7_set_25 (by rw [c5]; decide) (by rw [c5]; decide) (by rw [c5]; rfl) (by decide) ?_
        refine lv_aload_n hx hb dX7_set_52 rfl (lv_at hl 0 rfl) ?_
        refine r_getq (t := 0) hX hP cok5 0 sl_145 sk_145 (by decide) rfl q243 dX7_set_53 ?_
        refine r_get hX hP cok3 10 sl_0 sk_0 (by decide) rfl q166 dX7_set_56 ?_
        cases h
        exact j_iret hX hr hlk hP hS dX7_set_59
      rw [if_neg c5] at h
      by_cases c6 : v1 = 1
      · rw [if_pos c6] at h
        refine lv_tableIn (tgt := 60) hx hb dX7_set_25 (by rw [c6]; decide) (by rw [c6]; decide) (by rw [c6]; rfl) (by decide) ?_
        refine lv_aload_n hx hb dX7_set_60 rfl (lv_at hl 0 rfl) ?_
        refine r_getq (t := 0) hX hP cok5 0 sl_145 sk_145 (by decide) rfl q243 dX7_set_61 ?_
        refine r_get hX hP cok3 11 sl_0 sk_0 (by decide) rfl q169 dX7_set_64 ?_
        cases h
        exact j_iret hX hr hlk hP hS dX7_set_67
      rw [if_neg c6] at h
      by_cases c7 : v1 = 2
      · rw [if_pos c7] at h
        refine lv_tableIn (tgt := 68) hx hb dX7_set_25 (by rw [c7]; decide) (by rw [c7]; decide) (by rw [c7]; rfl) (by decide) ?_
        refine lv_aload_n hx hb dX7_set_68 rfl (lv_at hl 0 rfl) ?_
        refine r_getq (t := 0) hX hP cok5 0 sl_145 sk_145 (by decide) rfl q243 dX7_set_69 ?_
        refine r_get hX hP cok3 12 sl_0 sk_0 (by decide) rfl q172 dX7_set_72 ?_
        cases h
        exact j_iret hX hr hlk hP hS dX7_set_75
      rw [if_neg c7] at h
      refine lv_tableOut (tgt := 76) hx hb dX7_set_25 (sw_out3 c5 c6 c7) (by decide) ?_
      refine lv_aload_n hx hb dX7_set_76 rfl (lv_at hl 0 rfl) ?_
      refine r_getq (t := 0) hX hP cok5 0 sl_145 sk_145 (by decide) rfl q243 dX7_set_77 ?_
      refine r_get hX hP cok3 13 sl_0 sk_0 (by decide) rfl q174 dX7_set_80 ?_
      cases h
      exact j_iret hX hr hlk hP hS dX7_set_83
    · refine lv_bipush (v := (-2)) hx hb dX7_set_21 kc_bm2 ?_
      cases h
      exact j_iret hX hr hlk hP hS dX7_set_23
  · refine lv_iconst (v := (-1)) hx hb dX7_set_9 kc_im1 ?_
    cases h
    exact j_iret hX hr hlk hP hS dX7_set_10
/-! OwnerlessCoin.digest(I)I -/
def rm_X7_digest : Room := { frames := 2, cells := 0, slots := 0, locals := 42 }
theorem Y_X7_digest : yv yX7_digest cX7_digest 2 (some .int) 1 RX7 := ⟨q342, q340, q341, q12, by decide +kernel⟩
set_option maxHeartbeats 4000000 in
set_option maxRecDepth 100000 in
theorem c_X7_digest {l : Launch} {D : va_G} {tc : Tc} {ad : Nat → Nat} {A : Nat → Prop} (hA : adok ad A) {I M : St} {v1 : Int32} {rr : Int32} (h : f_X7_digest v1 I = some rr) : Met l yX7_digest (Cond.code yX7_digest cX7_digest 2 (some .int) :: tw) rm_X7_digest (pre D tc ad [.ref (ad 145), .int v1] (cmb I M)) (qi D tc ad A rr (cmb I M)) 0 0 A := by
  unfold f_X7_digest at h
  refine mk_met (own := RX7) (by decide +kernel) rfl hA (Nat.le_of_ble_eq_true rfl) ?_
  intro p e s m below meth c ls hX hr hlk hl hP hS
  have hl : lv_has ls 2 [(0, .ref (ad 145)), (1, .int v1)] := hl
  have hx := hX.1
  have hb := hX.2.1
  have hown := hX.2.2.2.1
  have hts := hX.2.2.2.2.1
  refine lv_aload_n hx hb dX7_digest_0 rfl (lv_at hl 0 rfl) ?_
  refine r_getq (t := 0) hX hP cok5 0 sl_145 sk_145 (by decide) rfl q243 dX7_digest_1 ?_
  refine lv_iload_n hx hb dX7_digest_4 rfl (lv_at hl 1 rfl) ?_
  obtain ⟨r2, e1, h⟩ := ob1_some h
  refine j_i (j_runV (rest := []) hX hP hl.1 Y_X4_isParticipant cok3 (lt157 sl_0) sk_0 (c_X4_isParticipant hA e1) ⟨rfl, rfl⟩ q331 ⟨Nat.le_of_ble_eq_true rfl, Nat.le_of_ble_eq_true rfl⟩ rfl rfl (Nat.le_of_ble_eq_true rfl) dX7_digest_5) hS (fun H locs hP hS => ?_)
  refine x_if_ne (tgt := 13) hx hb dX7_digest_8 (by decide) h (fun c3 h => ?_) (fun c3 h => ?_)
  · refine lv_aload_n hx hb dX7_digest_13 rfl (lv_at hl 0 rfl) ?_
    refine r_getq (t := 0) hX hP cok5 0 sl_145 sk_145 (by decide) rfl q243 dX7_digest_14 ?_
    refine lv_iload_n hx hb dX7_digest_17 rfl (lv_at hl 1 rfl) ?_
    obtain ⟨r5, e4, h⟩ := ob1_some h
    refine j_i (j_runV (rest := []) hX hP hl.1 Y_X4_isCommitted cok3 (lt157 sl_0) sk_0 (c_X4_isCommitted hA e4) ⟨rfl, rfl⟩ q343 ⟨Nat.le_of_ble_eq_true rfl, Nat.le_of_ble_eq_true rfl⟩ rfl rfl (Nat.le_of_ble_eq_true rfl) dX7_digest_18) hS (fun H locs hP hS => ?_)
    refine x_if_ne (tgt := 27) hx hb dX7_digest_21 (by decide) h (fun c6 h => ?_) (fun c6 h => ?_)
    · refine lv_aload_n hx hb dX7_digest_27 rfl (lv_at hl 0 rfl) ?_
      refine r_getq (t := 0) hX hP cok5 0 sl_145 sk_145 (by decide) rfl q243 dX7_digest_28 ?_
      refine r_getq (t := 1) hX hP cok3 0 sl_0 sk_0 (by decide) rfl q139 dX7_digest_31 ?_
      refine lv_iload_n hx hb dX7_digest_34 rfl (lv_at hl 1 rfl) ?_
      refine r_ldq hX hP h (lt157 sl_1) sk_1 sn_1 dX7_digest_35 (fun g7 h => ?_)
      refine r_get hX hP cok4 6 (isP_lt (isP_of g7)) (isP_kd (isP_of g7)) (by decide) rfl q103 dX7_digest_36 ?_
      refine x_let h (fun x8 h => ?_)
      refine lv_ldc (v := 1073741823) hx hb hown (hts _ q350) dX7_digest_39 ?_
      refine lv_iand hx hb dX7_digest_41 ?_
      cases h
      exact j_iret hX hr hlk hP hS dX7_digest_42
    · refine lv_bipush (v := (-9)) hx hb dX7_digest_24 kc_bm9 ?_
      cases h
      exact j_iret hX hr hlk hP hS dX7_digest_26
  · refine lv_iconst (v := (-1)) hx hb dX7_digest_11 kc_im1 ?_
    cases h
    exact j_iret hX hr hlk hP hS dX7_digest_12
/-! OwnerlessCoin.share(II)I -/
def rm_X7_share : Room := { frames := 4, cells := 0, slots := 0, locals := 85 }
theorem Y_X7_share : yv yX7_share cX7_share 3 (some .int) 2 RX7 := ⟨q685, q683, q684, q12, by decide +kernel⟩
set_option maxHeartbeats 4000000 in
set_option maxRecDepth 100000 in
theorem t_X7_share_b22 {p : Program} {l : Launch} {e : Env} {s : State} {m : MethodId} {args : Array Value} {below : List Frame} {meth : Method} {c : Code} {D : va_G} {tc : Tc} {ad : Nat → Nat} {A : Nat → Prop} {M : St} {rr : Int32} (hX : cx p s m args c cX7_share 3 RX7 D tc ad A) (hr : meth.sig.returnType = some .int) (hlk : meth.locks = false) : ∀ (I : St), f_X7_share_b22 I = some rr → ∀ (H : Heap) (locs : List Loc) (ls : Array Slot), va_P D vwCl (wl tc ad (cmb I M)) H → va_S A s.heap H locs → lv_has ls 3 [] → W p l e rm_X7_share s m args below meth c H locs 0 0 (MQ below (qi D tc ad A rr (cmb I M)) args s 0 0 A) (F0 m 22 ls []) := by
  intro I h H locs ls hP hS hl
  unfold f_X7_share_b22 at h
  have hx := hX.1
  have hb := hX.2.1
  have hown := hX.2.2.2.1
  have hts := hX.2.2.2.2.1
  have hA := hX.2.2.2.2.2.2
  refine lv_iconst (v := (-1)) hx hb dX7_share_22 kc_im1 ?_
  cases h
  exact j_iret hX hr hlk hP hS dX7_share_23
set_option maxHeartbeats 4000000 in
set_option maxRecDepth 100000 in
theorem c_X7_share {l : Launch} {D : va_G} {tc : Tc} {ad : Nat → Nat} {A : Nat → Prop} (hA : adok ad A) {I M : St} {v1 : Int32} {v2 : Int32} {rr : Int32} (h : f_X7_share v1 v2 I = some rr) : Met l yX7_share (Cond.code yX7_share cX7_share 3 (some .int) :: tw) rm_X7_share (pre D tc ad [.ref (ad 145), .int v1, .int v2] (cmb I M)) (qi D tc ad A rr (cmb I M)) 0 0 A := by
  unfold f_X7_share at h
  refine mk_met (own := RX7) (by decide +kernel) rfl hA (Nat.le_of_ble_eq_true rfl) ?_
  intro p e s m below meth c ls hX hr hlk hl hP hS
  have hl : lv_has ls 3 [(0, .ref (ad 145)), (1, .int v1), (2, .int v2)] := hl
  have hx := hX.1
  have hb := hX.2.1
  have hown := hX.2.2.2.1
  have hts := hX.2.2.2.2.1
  refine lv_aload_n hx hb dX7_share_0 rfl (lv_at hl 0 rfl) ?_
  refine r_getq (t := 0) hX hP cok5 0 sl_145 sk_145 (by decide) rfl q243 dX7_share_1 ?_
  refine lv_iload_n hx hb dX7_share_4 rfl (lv_at hl 1 rfl) ?_
  obtain ⟨r2, e1, h⟩ := ob1_some h
  refine j_i (j_runV (rest := []) hX hP hl.1 Y_X4_isParticipant cok3 (lt157 sl_0) sk_0 (c_X4_isParticipant hA e1) ⟨rfl, rfl⟩ q331 ⟨Nat.le_of_ble_eq_true rfl, Nat.le_of_ble_eq_true rfl⟩ rfl rfl (Nat.le_of_ble_eq_true rfl) dX7_share_5) hS (fun H locs hP hS => ?_)
  refine x_if_eq (tgt := 22) hx hb dX7_share_8 (by decide) h (fun c3 h => ?_) (fun c3 h => ?_)
  · exact t_X7_share_b22 hX hr hlk  _ h _ _ _ hP hS (lv_sub hl [] rfl)
  · refine lv_aload_n hx hb dX7_share_11 rfl (lv_at hl 0 rfl) ?_
    refine r_getq (t := 0) hX hP cok5 0 sl_145 sk_145 (by decide) rfl q243 dX7_share_12 ?_
    refine lv_iload_n hx hb dX7_share_15 rfl (lv_at hl 2 rfl) ?_
    obtain ⟨r5, e4, h⟩ := ob1_some h
    refine j_i (j_runV (rest := []) hX hP hl.1 Y_X4_isParticipant cok3 (lt157 sl_0) sk_0 (c_X4_isParticipant hA e4) ⟨rfl, rfl⟩ q331 ⟨Nat.le_of_ble_eq_true rfl, Nat.le_of_ble_eq_true rfl⟩ rfl rfl (Nat.le_of_ble_eq_true rfl) dX7_share_16) hS (fun H locs hP hS => ?_)
    refine x_if_ne (tgt := 24) hx hb dX7_share_19 (by decide) h (fun c6 h => ?_) (fun c6 h => ?_)
    · refine lv_aload_n hx hb dX7_share_24 rfl (lv_at hl 0 rfl) ?_
      refine r_getq (t := 0) hX hP cok5 0 sl_145 sk_145 (by decide) rfl q243 dX7_share_25 ?_
      refine lv_iload_n hx hb dX7_share_28 rfl (lv_at hl 1 rfl) ?_
      refine lv_iload_n hx hb dX7_share_29 rfl (lv_at hl 2 rfl) ?_
      obtain ⟨r8, e7, h⟩ := ob1_some h
      refine j_i (j_runV (rest := []) hX hP hl.1 Y_X4_hasShare cok3 (lt157 sl_0) sk_0 (c_X4_hasShare hA e7) ⟨rfl, rfl⟩ q419 ⟨Nat.le_of_ble_eq_true rfl, Nat.le_of_ble_eq_true rfl⟩ rfl rfl (Nat.le_of_ble_eq_true rfl) dX7_share_30) hS (fun H locs hP hS => ?_)
      refine x_if_ne (tgt := 39) hx hb dX7_share_33 (by decide) h (fun c9 h => ?_) (fun c9 h => ?_)
      · refine lv_aload_n hx hb dX7_share_39 rfl (lv_at hl 0 rfl) ?_
        refine r_getq (t := 0) hX hP cok5 0 sl_145 sk_145 (by decide) rfl q243 dX7_share_40 ?_
        refine r_getq (t := 1) hX hP cok3 0 sl_0 sk_0 (by decide) rfl q139 dX7_share_43 ?_
        refine lv_iload_n hx hb dX7_share_46 rfl (lv_at hl 1 rfl) ?_
        refine r_ldq hX hP h (lt157 sl_1) sk_1 sn_1 dX7_share_47 (fun g10 h => ?_)
        refine r_getq (t := 5 + v1.toNatClampNeg + 8) hX hP cok4 10 (isP_lt (isP_of g10)) (isP_kd (isP_of g10)) (by decide) rfl q111 dX7_share_48 ?_
        refine lv_iload_n hx hb dX7_share_51 rfl (lv_at hl 2 rfl) ?_
        refine r_ald hX hP h (isP8_lt (isP_of g10)) (isP8_kd (isP_of g10)) (isP8_ln (isP_of g10)) dX7_share_52 (fun h => ?_)
        cases h
        exact j_iret hX hr hlk hP hS dX7_share_53
      · refine lv_bipush (v := (-9)) hx hb dX7_share_36 kc_bm9 ?_
        cases h
        exact j_iret hX hr hlk hP hS dX7_share_38
    · exact t_X7_share_b22 hX hr hlk  _ h _ _ _ hP hS (lv_sub hl [] rfl)
/-! OwnerlessCoin.isRight(II)I -/
def rm_X7_isRight : Room := { frames := 4, cells := 0, slots := 0, locals := 85 }
theorem Y_X7_isRight : yv yX7_isRight cX7_isRight 3 (some .int) 2 RX7 := ⟨q689, q687, q688, q12, by decide +kernel⟩
set_option maxHeartbeats 4000000 in
set_option maxRecDepth 100000 in
theorem t_X7_isRight_b22 {p : Program} {l : Launch} {e : Env} {s : State} {m : MethodId} {args : Array Value} {below : List Frame} {meth : Method} {c : Code} {D : va_G} {tc : Tc} {ad : Nat → Nat} {A : Nat → Prop} {M : St} {rr : Int32} (hX : cx p s m args c cX7_isRight 3 RX7 D tc ad A) (hr : meth.sig.returnType = some .int) (hlk : meth.locks = false) : ∀ (I : St), f_X7_isRight_b22 I = some rr → ∀ (H : Heap) (locs : List Loc) (ls : Array Slot), va_P D vwCl (wl tc ad (cmb I M)) H → va_S A s.heap H locs → lv_has ls 3 [] → W p l e rm_X7_isRight s m args below meth c H locs 0 0 (MQ below (qi D tc ad A rr (cmb I M)) args s 0 0 A) (F0 m 22 ls []) := by
  intro I h H locs ls hP hS hl
  unfold f_X7_isRight_b22 at h
  have hx := hX.1
  have hb := hX.2.1
  have hown := hX.2.2.2.1
  have hts := hX.2.2.2.2.1
  have hA := hX.2.2.2.2.2.2
  refine lv_iconst (v := (-1)) hx hb dX7_isRight_22 kc_im1 ?_
  cases h
  exact j_iret hX hr hlk hP hS dX7_isRight_23
set_option maxHeartbeats 4000000 in
set_option maxRecDepth 100000 in
theorem t_X7_isRight_b63 {p : Program} {l : Launch} {e : Env} {s : State} {m : MethodId} {args : Array Value} {below : List Frame} {meth : Method} {c : Code} {D : va_G} {tc : Tc} {ad : Nat → Nat} {A : Nat → Prop} {M : St} {rr : Int32} (hX : cx p s m args c cX7_isRight 3 RX7 D tc ad A) (hr : meth.sig.returnType = some .int) (hlk : meth.locks = false) : ∀ (t0 : Int32) (I : St), f_X7_isRight_b63 t0 I = some rr → ∀ (H : Heap) (locs : List Loc) (ls : Array Slot), va_P D vwCl (wl tc ad (cmb I M)) H → va_S A s.heap H locs → lv_has ls 3 [] → W p l e rm_X7_isRight s m args below meth c H locs 0 0 (MQ below (qi D tc ad A rr (cmb I M)) args s 0 0 A) (F0 m 63 ls [.int t0]) := by
  intro t0 I h H locs ls hP hS hl
  unfold f_X7_isRight_b63 at h
  have hx := hX.1
  have hb := hX.2.1
  have hown := hX.2.2.2.1
  have hts := hX.2.2.2.2.1
  have hA := hX.2.2.2.2.2.2
  cases h
  exact j_iret hX hr hlk hP hS dX7_isRight_63
set_option maxHeartbeats 4000000 in
set_option maxRecDepth 100000 in
theorem c_X7_isRight {l : Launch} {D : va_G} {tc : Tc} {ad : Nat → Nat} {A : Nat → Prop} (hA : adok ad A) {I M : St} {v1 : Int32} {v2 : Int32} {rr : Int32} (h : f_X7_isRight v1 v2 I = some rr) : Met l yX7_isRight (Cond.code yX7_isRight cX7_isRight 3 (some .int) :: tw) rm_X7_isRight (pre D tc ad [.ref (ad 145), .int v1, .int v2] (cmb I M)) (qi D tc ad A rr (cmb I M)) 0 0 A := by
  unfold f_X7_isRight at h
  refine mk_met (own := RX7) (by decide +kernel) rfl hA (Nat.le_of_ble_eq_true rfl) ?_
  intro p e s m below meth c ls hX hr hlk hl hP hS
  have hl : lv_has ls 3 [(0, .ref (ad 145)), (1, .int v1), (2, .int v2)] := hl
  have hx := hX.1
  have hb := hX.2.1
  have hown := hX.2.2.2.1
  have hts := hX.2.2.2.2.1
  refine lv_aload_n hx hb dX7_isRight_0 rfl (lv_at hl 0 rfl) ?_
  refine r_getq (t := 0) hX hP cok5 0 sl_145 sk_145 (by decide) rfl q243 dX7_isRight_1 ?_
  refine lv_iload_n hx hb dX7_isRight_4 rfl (lv_at hl 1 rfl) ?_
  obtain ⟨r2, e1, h⟩ := ob1_some h
  refine j_i (j_runV (rest := []) hX hP hl.1 Y_X4_isParticipant cok3 (lt157 sl_0) sk_0 (c_X4_isParticipant hA e1) ⟨rfl, rfl⟩ q331 ⟨Nat.le_of_ble_eq_true rfl, Nat.le_of_ble_eq_true rfl⟩ rfl rfl (Nat.le_of_ble_eq_true rfl) dX7_isRight_5) hS (fun H locs hP hS => ?_)
  refine x_if_eq (tgt := 22) hx hb dX7_isRight_8 (by decide) h (fun c3 h => ?_) (fun c3 h => ?_)
  · exact t_X7_isRight_b22 hX hr hlk  _ h _ _ _ hP hS (lv_sub hl [] rfl)
  · refine lv_aload_n hx hb dX7_isRight_11 rfl (lv_at hl 0 rfl) ?_
    refine r_getq (t := 0) hX hP cok5 0 sl_145 sk_145 (by decide) rfl q243 dX7_isRight_12 ?_
    refine lv_iload_n hx hb dX7_isRight_15 rfl (lv_at hl 2 rfl) ?_
    obtain ⟨r5, e4, h⟩ := ob1_some h
    refine j_i (j_runV (rest := []) hX hP hl.1 Y_X4_isParticipant cok3 (lt157 sl_0) sk_0 (c_X4_isParticipant hA e4) ⟨rfl, rfl⟩ q331 ⟨Nat.le_of_ble_eq_true rfl, Nat.le_of_ble_eq_true rfl⟩ rfl rfl (Nat.le_of_ble_eq_true rfl) dX7_isRight_16) hS (fun H locs hP hS => ?_)
    refine x_if_ne (tgt := 24) hx hb dX7_isRight_19 (by decide) h (fun c6 h => ?_) (fun c6 h => ?_)
    · refine lv_aload_n hx hb dX7_isRight_24 rfl (lv_at hl 0 rfl) ?_
      refine r_getq (t := 0) hX hP cok5 0 sl_145 sk_145 (by decide) rfl q243 dX7_isRight_25 ?_
      refine lv_iload_n hx hb dX7_isRight_28 rfl (lv_at hl 1 rfl) ?_
      refine lv_iload_n hx hb dX7_isRight_29 rfl (lv_at hl 2 rfl) ?_
      obtain ⟨r8, e7, h⟩ := ob1_some h
      refine j_i (j_runV (rest := []) hX hP hl.1 Y_X4_hasShare cok3 (lt157 sl_0) sk_0 (c_X4_hasShare hA e7) ⟨rfl, rfl⟩ q419 ⟨Nat.le_of_ble_eq_true rfl, Nat.le_of_ble_eq_true rfl⟩ rfl rfl (Nat.le_of_ble_eq_true rfl) dX7_isRight_30) hS (fun H locs hP hS => ?_)
      refine x_if_ne (tgt := 39) hx hb dX7_isRight_33 (by decide) h (fun c9 h => ?_) (fun c9 h => ?_)
      · refine lv_aload_n hx hb dX7_isRight_39 rfl (lv_at hl 0 rfl) ?_
        refine r_getq (t := 0) hX hP cok5 0 sl_145 sk_145 (by decide) rfl q243 dX7_isRight_40 ?_
        refine r_getq (t := 1) hX hP cok3 0 sl_0 sk_0 (by decide) rfl q139 dX7_isRight_43 ?_
        refine lv_iload_n hx hb dX7_isRight_46 rfl (lv_at hl 1 rfl) ?_
        refine r_ldq hX hP h (lt157 sl_1) sk_1 sn_1 dX7_isRight_47 (fun g10 h => ?_)
        refine r_get hX hP cok4 9 (isP_lt (isP_of g10)) (isP_kd (isP_of g10)) (by decide) rfl q108 dX7_isRight_48 ?_
        refine x_let h (fun x11 h => ?_)
        refine lv_iload_n hx hb dX7_isRight_51 rfl (lv_at hl 2 rfl) ?_
        obtain ⟨r13, e12, h⟩ := ob1_some h
        refine j_i (j_runS (rest := []) hX hP hl.1 Y_X7_has (c_X7_has hA e12) ⟨rfl, rfl⟩ q371 ⟨Nat.le_of_ble_eq_true rfl, Nat.le_of_ble_eq_true rfl⟩ rfl rfl (Nat.le_of_ble_eq_true rfl) dX7_isRight_52) hS (fun H locs hP hS => ?_)
        refine x_if_eq (tgt := 62) hx hb dX7_isRight_55 (by decide) h (fun c14 h => ?_) (fun c14 h => ?_)
        · refine lv_iconst (v := 0) hx hb dX7_isRight_62 kc_i0 ?_
          exact t_X7_isRight_b63 hX hr hlk  _ _ h _ _ _ hP hS (lv_sub hl [] rfl)
        · refine lv_iconst (v := 1) hx hb dX7_isRight_58 kc_i1 ?_
          refine lv_goto (tgt := 63) hx hb dX7_isRight_59 (by decide) ?_
          exact t_X7_isRight_b63 hX hr hlk  _ _ h _ _ _ hP hS (lv_sub hl [] rfl)
      · refine lv_bipush (v := (-9)) hx hb dX7_isRight_36 kc_bm9 ?_
        cases h
        exact j_iret hX hr hlk hP hS dX7_isRight_38
    · exact t_X7_isRight_b22 hX hr hlk  _ h _ _ _ hP hS (lv_sub hl [] rfl)
/-! OwnerlessCoin.smallest(II)I -/
def rm_X7_smallest : Room := { frames := 1, cells := 0, slots := 0, locals := 21 }
theorem Y_X7_smallest : ys yX7_smallest cX7_smallest 4 (some .int) 2 := ⟨q697, q696, q12, by decide +kernel⟩
set_option maxHeartbeats 4000000 in
set_option maxRecDepth 100000 in
theorem t_X7_smallest_b32 {p : Program} {l : Launch} {e : Env} {s : State} {m : MethodId} {args : Array Value} {below : List Frame} {meth : Method} {c : Code} {D : va_G} {tc : Tc} {ad : Nat → Nat} {A : Nat → Prop} {J : St} {rr : Int32} (hX : cx p s m args c cX7_smallest 4 RX7 D tc ad A) (hr : meth.sig.returnType = some .int) (hlk : meth.locks = false) {K4 : Int32 → Int32 → Int32 → Int32 → Option (Int32)} (hK4 : ∀ (v0 : Int32) (v1 : Int32) (v2 : Int32) (v3 : Int32), K4 v0 v1 v2 v3 = some rr → ∀ (H : Heap) (locs : List Loc) (ls : Array Slot), va_P D vwCl (wl tc ad J) H → va_S A s.heap H locs → lv_has ls 4 [(0, .int v0), (1, .int v1), (2, .int v2), (3, .int v3)] → W p l e rm_X7_smallest s m args below meth c H locs 0 0 (MQ below (qi D tc ad A rr J) args s 0 0 A) (F0 m 4 ls [])) : ∀ (v0 : Int32) (v1 : Int32) (v2 : Int32) (v3 : Int32), f_X7_smallest_b32 K4 v0 v1 v2 v3 = some rr → ∀ (H : Heap) (locs : List Loc) (ls : Array Slot), va_P D vwCl (wl tc ad J) H → va_S A s.heap H locs → lv_has ls 4 [(0, .int v0), (1, .int v1), (2, .int v2), (3, .int v3)] → W p l e rm_X7_smallest s m args below meth c H locs 0 0 (MQ below (qi D tc ad A rr J) args s 0 0 A) (F0 m 32 ls []) := by
  intro v0 v1 v2 v3 h H locs ls hP hS hl
  unfold f_X7_smallest_b32 at h
  have hx := hX.1
  have hb := hX.2.1
  have hown := hX.2.2.2.1
  have hts := hX.2.2.2.2.1
  have hA := hX.2.2.2.2.2.2
  refine lv_iinc (v := (v3 + 1)) (lv' := [(3, .int (v3 + 1)), (0, .int v0), (1, .int v1), (2, .int v2)]) hx hb dX7_smallest_32 hl (k := 3) rfl rfl (Nat.le_of_ble_eq_true rfl) rfl (fun ls hl => ?_)
  refine lv_goto (tgt := 4) hx hb dX7_smallest_35 (by decide) ?_
  exact hK4 _ _ _ _ h _ _ _ hP hS (lv_sub hl [1, 2, 3, 0] rfl)
set_option maxHeartbeats 4000000 in
set_option maxRecDepth 100000 in
theorem t_X7_smallest_l4 {p : Program} {l : Launch} {e : Env} {s : State} {m : MethodId} {args : Array Value} {below : List Frame} {meth : Method} {c : Code} {D : va_G} {tc : Tc} {ad : Nat → Nat} {A : Nat → Prop} {J : St} {rr : Int32} (hX : cx p s m args c cX7_smallest 4 RX7 D tc ad A) (hr : meth.sig.returnType = some .int) (hlk : meth.locks = false) : ∀ (n : Nat), ∀ (v0 : Int32) (v1 : Int32) (v2 : Int32) (v3 : Int32), f_X7_smallest_l4 n v0 v1 v2 v3 = some rr → ∀ (H : Heap) (locs : List Loc) (ls : Array Slot), va_P D vwCl (wl tc ad J) H → va_S A s.heap H locs → lv_has ls 4 [(0, .int v0), (1, .int v1), (2, .int v2), (3, .int v3)] → W p l e rm_X7_smallest s m args below meth c H locs 0 0 (MQ below (qi D tc ad A rr J) args s 0 0 A) (F0 m 4 ls []) := by
  intro n
  induction n with
  | zero =>
    intro _ _ _ _ h
    cases h
  | succ n ih =>
    intro v0 v1 v2 v3 h H locs ls hP hS hl
    rw [f_X7_smallest_l4] at h
    have hx := hX.1
    have hb := hX.2.1
    have hown := hX.2.2.2.1
    have hts := hX.2.2.2.2.1
    have hA := hX.2.2.2.2.2.2
    refine lv_iload_n hx hb dX7_smallest_4 rfl (lv_at hl 3 rfl) ?_
    refine lv_bipush (v := 8) hx hb dX7_smallest_5 kc_b8 ?_
    refine x_icmp_ge (tgt := 38) hx hb dX7_smallest_7 (by decide) h (fun c1 h => ?_) (fun c1 h => ?_)
    · refine lv_iload_n hx hb dX7_smallest_38 rfl (lv_at hl 2 rfl) ?_
      cases h
      exact j_iret hX hr hlk hP hS dX7_smallest_39
    · refine lv_iload_n hx hb dX7_smallest_10 rfl (lv_at hl 0 rfl) ?_
      refine lv_iload_n hx hb dX7_smallest_11 rfl (lv_at hl 3 rfl) ?_
      obtain ⟨r3, e2, h⟩ := ob1_some h
      refine j_i (j_runS (rest := []) hX hP hl.1 Y_X7_has (c_X7_has hA e2) ⟨rfl, rfl⟩ q371 ⟨Nat.le_of_ble_eq_true rfl, Nat.le_of_ble_eq_true rfl⟩ rfl rfl (Nat.le_of_ble_eq_true rfl) dX7_smallest_12) hS (fun H locs hP hS => ?_)
      refine x_if_eq (tgt := 32) hx hb dX7_smallest_15 (by decide) h (fun c4 h => ?_) (fun c4 h => ?_)
      · exact t_X7_smallest_b32 hX hr hlk ih _ _ _ _ h _ _ _ hP hS (lv_sub hl [0, 1, 2, 3] rfl)
      · refine lv_iload_n hx hb dX7_smallest_18 rfl (lv_at hl 2 rfl) ?_
        obtain ⟨r6, e5, h⟩ := ob1_some h
        refine j_i (j_runS (rest := []) hX hP hl.1 Y_J6_bitCount_0f7a4 (c_J6_bitCount_0f7a4 hA e5) ⟨rfl, rfl⟩ q504 ⟨Nat.le_of_ble_eq_true rfl, Nat.le_of_ble_eq_true rfl⟩ rfl rfl (Nat.le_of_ble_eq_true rfl) dX7_smallest_19) hS (fun H locs hP hS => ?_)
        refine lv_iload_n hx hb dX7_smallest_22 rfl (lv_at hl 1 rfl) ?_
        refine x_icmp_ge (tgt := 32) hx hb dX7_smallest_23 (by decide) h (fun c7 h => ?_) (fun c7 h => ?_)
        · exact t_X7_smallest_b32 hX hr hlk ih _ _ _ _ h _ _ _ hP hS (lv_sub hl [0, 1, 2, 3] rfl)
        · refine lv_iload_n hx hb dX7_smallest_26 rfl (lv_at hl 2 rfl) ?_
          refine lv_iconst (v := 1) hx hb dX7_smallest_27 kc_i1 ?_
          refine lv_iload_n hx hb dX7_smallest_28 rfl (lv_at hl 3 rfl) ?_
          refine lv_ishl hx hb dX7_smallest_29 ?_
          refine lv_ior hx hb dX7_smallest_30 ?_
          refine x_let h (fun x8 h => ?_)
          refine lv_istore_n (lv' := [(2, .int x8), (0, .int v0), (1, .int v1), (3, .int v3)]) hx hb dX7_smallest_31 rfl hl (Nat.le_of_ble_eq_true rfl) rfl (fun ls hl => ?_)
          exact t_X7_smallest_b32 hX hr hlk ih _ _ _ _ h _ _ _ hP hS (lv_sub hl [1, 2, 0, 3] rfl)
set_option maxHeartbeats 4000000 in
set_option maxRecDepth 100000 in
theorem c_X7_smallest {l : Launch} {D : va_G} {tc : Tc} {ad : Nat → Nat} {A : Nat → Prop} (hA : adok ad A) {J : St} {v0 : Int32} {v1 : Int32} {rr : Int32} (h : f_X7_smallest v0 v1 = some rr) : Met l yX7_smallest (Cond.code yX7_smallest cX7_smallest 4 (some .int) :: tw) rm_X7_smallest (pre D tc ad [.int v0, .int v1] J) (qi D tc ad A rr J) 0 0 A := by
  unfold f_X7_smallest at h
  refine mk_met (own := RX7) (by decide +kernel) rfl hA (Nat.le_of_ble_eq_true rfl) ?_
  intro p e s m below meth c ls hX hr hlk hl hP hS
  have hl : lv_has ls 4 [(0, .int v0), (1, .int v1)] := hl
  have hx := hX.1
  have hb := hX.2.1
  have hown := hX.2.2.2.1
  have hts := hX.2.2.2.2.1
  refine lv_iconst (v := 0) hx hb dX7_smallest_0 kc_i0 ?_
  refine lv_istore_n (lv' := [(2, .int 0), (0, .int v0), (1, .int v1)]) hx hb dX7_smallest_1 rfl hl (Nat.le_of_ble_eq_true rfl) rfl (fun ls hl => ?_)
  refine lv_iconst (v := 0) hx hb dX7_smallest_2 kc_i0 ?_
  refine lv_istore_n (lv' := [(3, .int 0), (2, .int 0), (0, .int v0), (1, .int v1)]) hx hb dX7_smallest_3 rfl hl (Nat.le_of_ble_eq_true rfl) rfl (fun ls hl => ?_)
  exact t_X7_smallest_l4 hX hr hlk  10000 _ _ _ _ h _ _ _ hP hS (lv_sub hl [2, 3, 1, 0] rfl)
/-! OwnerlessCoin$Person.weight(II)I -/
def rm_X5_weight : Room := { frames := 2, cells := 0, slots := 0, locals := 46 }
theorem Y_X5_weight : ys yX5_weight cX5_weight 5 (some .int) 2 := ⟨q705, q704, q15, by decide +kernel⟩
set_option maxHeartbeats 4000000 in
set_option maxRecDepth 100000 in
theorem t_X5_weight_b61 {p : Program} {l : Launch} {e : Env} {s : State} {m : MethodId} {args : Array Value} {below : List Frame} {meth : Method} {c : Code} {D : va_G} {tc : Tc} {ad : Nat → Nat} {A : Nat → Prop} {J : St} {rr : Int32} (hX : cx p s m args c cX5_weight 5 RX5 D tc ad A) (hr : meth.sig.returnType = some .int) (hlk : meth.locks = false) {K7 : Int32 → Int32 → Int32 → Int32 → Int32 → Option (Int32)} (hK7 : ∀ (v0 : Int32) (v1 : Int32) (v2 : Int32) (v3 : Int32) (v4 : Int32), K7 v0 v1 v2 v3 v4 = some rr → ∀ (H : Heap) (locs : List Loc) (ls : Array Slot), va_P D vwCl (wl tc ad J) H → va_S A s.heap H locs → lv_has ls 5 [(0, .int v0), (1, .int v1), (2, .int v2), (3, .int v3), (4, .int v4)] → W p l e rm_X5_weight s m args below meth c H locs 0 0 (MQ below (qi D tc ad A rr J) args s 0 0 A) (F0 m 7 ls [])) : ∀ (v0 : Int32) (v1 : Int32) (v2 : Int32) (v3 : Int32) (v4 : Int32), f_X5_weight_b61 K7 v0 v1 v2 v3 v4 = some rr → ∀ (H : Heap) (locs : List Loc) (ls : Array Slot), va_P D vwCl (wl tc ad J) H → va_S A s.heap H locs → lv_has ls 5 [(0, .int v0), (1, .int v1), (2, .int v2), (3, .int v3), (4, .int v4)] → W p l e rm_X5_weight s m args below meth c H locs 0 0 (MQ below (qi D tc ad A rr J) args s 0 0 A) (F0 m 61 ls []) := by
  intro v0 v1 v2 v3 v4 h H locs ls hP hS hl
  unfold f_X5_weight_b61 at h
  have hx := hX.1
  have hb := hX.2.1
  have hown := hX.2.2.2.1
  have hts := hX.2.2.2.2.1
  have hA := hX.2.2.2.2.2.2
  refine lv_iinc (v := (v4 + 1)) (lv' := [(4, .int (v4 + 1)), (0, .int v0), (1, .int v1), (2, .int v2), (3, .int v3)]) hx hb dX5_weight_61 hl (k := 4) rfl rfl (Nat.le_of_ble_eq_true rfl) rfl (fun ls hl => ?_)
  refine lv_goto (tgt := 7) hx hb dX5_weight_64 (by decide) ?_
  exact hK7 _ _ _ _ _ h _ _ _ hP hS (lv_sub hl [1, 2, 3, 4, 0] rfl)
set_option maxHeartbeats 4000000 in
set_option maxRecDepth 100000 in
theorem t_X5_weight_l7 {p : Program} {l : Launch} {e : Env} {s : State} {m : MethodId} {args : Array Value} {below : List Frame} {meth : Method} {c : Code} {D : va_G} {tc : Tc} {ad : Nat → Nat} {A : Nat → Prop} {J : St} {rr : Int32} (hX : cx p s m args c cX5_weight 5 RX5 D tc ad A) (hr : meth.sig.returnType = some .int) (hlk : meth.locks = false) : ∀ (n : Nat), ∀ (v0 : Int32) (v1 : Int32) (v2 : Int32) (v3 : Int32) (v4 : Int32), f_X5_weight_l7 n v0 v1 v2 v3 v4 = some rr → ∀ (H : Heap) (locs : List Loc) (ls : Array Slot), va_P D vwCl (wl tc ad J) H → va_S A s.heap H locs → lv_has ls 5 [(0, .int v0), (1, .int v1), (2, .int v2), (3, .int v3), (4, .int v4)] → W p l e rm_X5_weight s m args below meth c H locs 0 0 (MQ below (qi D tc ad A rr J) args s 0 0 A) (F0 m 7 ls []) := by
  intro n
  induction n with
  | zero =>
    intro _ _ _ _ _ h
    cases h
  | succ n ih =>
    intro v0 v1 v2 v3 v4 h H locs ls hP hS hl
    rw [f_X5_weight_l7] at h
    have hx := hX.1
    have hb := hX.2.1
    have hown := hX.2.2.2.1
    have hts := hX.2.2.2.2.1
    have hA := hX.2.2.2.2.2.2
    refine lv_iload hx hb dX5_weight_7 (lv_at hl 4 rfl) ?_
    refine lv_bipush (v := 8) hx hb dX5_weight_9 kc_b8 ?_
    refine x_icmp_ge (tgt := 67) hx hb dX5_weight_11 (by decide) h (fun c1 h => ?_) (fun c1 h => ?_)
    · refine lv_iload_n hx hb dX5_weight_67 rfl (lv_at hl 2 rfl) ?_
      refine lv_iload_n hx hb dX5_weight_68 rfl (lv_at hl 3 rfl) ?_
      refine lv_sipush (v := 1017) hx hb dX5_weight_69 kc_s1017 ?_
      refine lv_sipush (v := 1019) hx hb dX5_weight_72 kc_s1019 ?_
      obtain ⟨r3, e2, h⟩ := ob1_some h
      refine j_i (j_runN (rest := [.int v2]) hX hP hl.1 Y_X7_power (c_X7_power hA e2) ⟨rfl, rfl⟩ nw5 ⟨Nat.le_of_ble_eq_true rfl, Nat.le_of_ble_eq_true rfl⟩ rfl rfl (Nat.le_of_ble_eq_true rfl) dX5_weight_75) hS (fun H locs hP hS => ?_)
      refine lv_sipush (v := 1019) hx hb dX5_weight_78 kc_s1019 ?_
      obtain ⟨r5, e4, h⟩ := ob1_some h
      refine j_i (j_runN (rest := []) hX hP hl.1 Y_X7_product (c_X7_product hA e4) ⟨rfl, rfl⟩ nw9 ⟨Nat.le_of_ble_eq_true rfl, Nat.le_of_ble_eq_true rfl⟩ rfl rfl (Nat.le_of_ble_eq_true rfl) dX5_weight_81) hS (fun H locs hP hS => ?_)
      cases h
      exact j_iret hX hr hlk hP hS dX5_weight_84
    · refine lv_iload hx hb dX5_weight_14 (lv_at hl 4 rfl) ?_
      refine lv_iload_n hx hb dX5_weight_16 rfl (lv_at hl 0 rfl) ?_
      refine x_icmp_eq (tgt := 61) hx hb dX5_weight_17 (by decide) h (fun c6 h => ?_) (fun c6 h => ?_)
      · exact t_X5_weight_b61 hX hr hlk ih _ _ _ _ _ h _ _ _ hP hS (lv_sub hl [0, 1, 2, 3, 4] rfl)
      · refine lv_iload_n hx hb dX5_weight_20 rfl (lv_at hl 1 rfl) ?_
        refine lv_iload hx hb dX5_weight_21 (lv_at hl 4 rfl) ?_
        obtain ⟨r8, e7, h⟩ := ob1_some h
        refine j_i (j_runN (rest := []) hX hP hl.1 Y_X7_has (c_X7_has hA e7) ⟨rfl, rfl⟩ nw14 ⟨Nat.le_of_ble_eq_true rfl, Nat.le_of_ble_eq_true rfl⟩ rfl rfl (Nat.le_of_ble_eq_true rfl) dX5_weight_23) hS (fun H locs hP hS => ?_)
        refine x_if_eq (tgt := 61) hx hb dX5_weight_26 (by decide) h (fun c9 h => ?_) (fun c9 h => ?_)
        · exact t_X5_weight_b61 hX hr hlk ih _ _ _ _ _ h _ _ _ hP hS (lv_sub hl [0, 1, 2, 3, 4] rfl)
        · refine lv_iload_n hx hb dX5_weight_29 rfl (lv_at hl 2 rfl) ?_
          refine lv_iload hx hb dX5_weight_30 (lv_at hl 4 rfl) ?_
          refine lv_iconst (v := 1) hx hb dX5_weight_32 kc_i1 ?_
          refine lv_iadd hx hb dX5_weight_33 ?_
          refine x_let h (fun x10 h => ?_)
          refine lv_sipush (v := 1019) hx hb dX5_weight_34 kc_s1019 ?_
          obtain ⟨r12, e11, h⟩ := ob1_some h
          refine j_i (j_runN (rest := []) hX hP hl.1 Y_X7_product (c_X7_product hA e11) ⟨rfl, rfl⟩ nw9 ⟨Nat.le_of_ble_eq_true rfl, Nat.le_of_ble_eq_true rfl⟩ rfl rfl (Nat.le_of_ble_eq_true rfl) dX5_weight_37) hS (fun H locs hP hS => ?_)
          refine lv_istore_n (lv' := [(2, .int r12), (0, .int v0), (1, .int v1), (3, .int v3), (4, .int v4)]) hx hb dX5_weight_40 rfl hl (Nat.le_of_ble_eq_true rfl) rfl (fun ls hl => ?_)
          refine lv_iload_n hx hb dX5_weight_41 rfl (lv_at hl 3 rfl) ?_
          refine lv_iload hx hb dX5_weight_42 (lv_at hl 4 rfl) ?_
          refine lv_iload_n hx hb dX5_weight_44 rfl (lv_at hl 1 rfl) ?_
          refine lv_isub hx hb dX5_weight_45 ?_
          refine x_let h (fun x13 h => ?_)
          refine lv_sipush (v := 1019) hx hb dX5_weight_46 kc_s1019 ?_
          refine lv_iadd hx hb dX5_weight_49 ?_
          refine x_let h (fun x14 h => ?_)
          refine lv_sipush (v := 1019) hx hb dX5_weight_50 kc_s1019 ?_
          refine lv_irem hx hb dX5_weight_53 (by decide) ?_
          refine x_let h (fun x15 h => ?_)
          refine lv_sipush (v := 1019) hx hb dX5_weight_54 kc_s1019 ?_
          obtain ⟨r17, e16, h⟩ := ob1_some h
          refine j_i (j_runN (rest := []) hX hP hl.1 Y_X7_product (c_X7_product hA e16) ⟨rfl, rfl⟩ nw9 ⟨Nat.le_of_ble_eq_true rfl, Nat.le_of_ble_eq_true rfl⟩ rfl rfl (Nat.le_of_ble_eq_true rfl) dX5_weight_57) hS (fun H locs hP hS => ?_)
          refine lv_istore_n (lv' := [(3, .int r17), (2, .int r12), (0, .int v0), (1, .int v1), (4, .int v4)]) hx hb dX5_weight_60 rfl hl (Nat.le_of_ble_eq_true rfl) rfl (fun ls hl => ?_)
          exact t_X5_weight_b61 hX hr hlk ih _ _ _ _ _ h _ _ _ hP hS (lv_sub hl [2, 3, 1, 0, 4] rfl)
set_option maxHeartbeats 4000000 in
set_option maxRecDepth 100000 in
theorem c_X5_weight {l : Launch} {D : va_G} {tc : Tc} {ad : Nat → Nat} {A : Nat → Prop} (hA : adok ad A) {J : St} {v0 : Int32} {v1 : Int32} {rr : Int32} (h : f_X5_weight v0 v1 = some rr) : Met l yX5_weight (Cond.code yX5_weight cX5_weight 5 (some .int) :: tw) rm_X5_weight (pre D tc ad [.int v0, .int v1] J) (qi D tc ad A rr J) 0 0 A := by
  unfold f_X5_weight at h
  refine mk_met (own := RX5) (by decide +kernel) rfl hA (Nat.le_of_ble_eq_true rfl) ?_
  intro p e s m below meth c ls hX hr hlk hl hP hS
  have hl : lv_has ls 5 [(0, .int v0), (1, .int v1)] := hl
  have hx := hX.1
  have hb := hX.2.1
  have hown := hX.2.2.2.1
  have hts := hX.2.2.2.2.1
  refine lv_iconst (v := 1) hx hb dX5_weight_0 kc_i1 ?_
  refine lv_istore_n (lv' := [(2, .int 1), (0, .int v0), (1, .int v1)]) hx hb dX5_weight_1 rfl hl (Nat.le_of_ble_eq_true rfl) rfl (fun ls hl => ?_)
  refine lv_iconst (v := 1) hx hb dX5_weight_2 kc_i1 ?_
  refine lv_istore_n (lv' := [(3, .int 1), (2, .int 1), (0, .int v0), (1, .int v1)]) hx hb dX5_weight_3 rfl hl (Nat.le_of_ble_eq_true rfl) rfl (fun ls hl => ?_)
  refine lv_iconst (v := 0) hx hb dX5_weight_4 kc_i0 ?_
  refine lv_istore (lv' := [(4, .int 0), (3, .int 1), (2, .int 1), (0, .int v0), (1, .int v1)]) hx hb dX5_weight_5 hl (Nat.le_of_ble_eq_true rfl) rfl (fun ls hl => ?_)
  exact t_X5_weight_l7 hX hr hlk  10000 _ _ _ _ _ h _ _ _ hP hS (lv_sub hl [3, 4, 2, 1, 0] rfl)
/-! OwnerlessCoin$Person.valueAtZero(I)I -/
def rm_X5_valueAtZero : Room := { frames := 3, cells := 0, slots := 0, locals := 70 }
theorem Y_X5_valueAtZero : yv yX5_valueAtZero cX5_valueAtZero 4 (some .int) 1 RX5 := ⟨q701, q699, q700, q15, by decide +kernel⟩
set_option maxHeartbeats 4000000 in
set_option maxRecDepth 100000 in
theorem t_X5_valueAtZero_b42 {p : Program} {l : Launch} {e : Env} {s : State} {m : MethodId} {args : Array Value} {below : List Frame} {meth : Method} {c : Code} {D : va_G} {tc : Tc} {ad : Nat → Nat} {A : Nat → Prop} {M : St} {o0 : Nat} {rr : Int32} (hX : cx p s m args c cX5_valueAtZero 4 RX5 D tc ad A) (hr : meth.sig.returnType = some .int) (hlk : meth.locks = false) (ho0 : isP o0 = true) {K4 : Int32 → Int32 → Int32 → St → Option (Int32)} (hK4 : ∀ (v1 : Int32) (v2 : Int32) (v3 : Int32) (I : St), K4 v1 v2 v3 I = some rr → ∀ (H : Heap) (locs : List Loc) (ls : Array Slot), va_P D vwCl (wl tc ad (cmb I M)) H → va_S A s.heap H locs → lv_has ls 4 [(0, .ref (ad o0)), (1, .int v1), (2, .int v2), (3, .int v3)] → W p l e rm_X5_valueAtZero s m args below meth c H locs 0 0 (MQ below (qi D tc ad A rr (cmb I M)) args s 0 0 A) (F0 m 4 ls [])) : ∀ (v1 : Int32) (v2 : Int32) (v3 : Int32) (I : St), f_X5_valueAtZero_b42 o0 K4 v1 v2 v3 I = some rr → ∀ (H : Heap) (locs : List Loc) (ls : Array Slot), va_P D vwCl (wl tc ad (cmb I M)) H → va_S A s.heap H locs → lv_has ls 4 [(0, .ref (ad o0)), (1, .int v1), (2, .int v2), (3, .int v3)] → W p l e rm_X5_valueAtZero s m args below meth c H locs 0 0 (MQ below (qi D tc ad A rr (cmb I M)) args s 0 0 A) (F0 m 42 ls []) := by
  intro v1 v2 v3 I h H locs ls hP hS hl
  unfold f_X5_valueAtZero_b42 at h
  have hx := hX.1
  have hb := hX.2.1
  have hown := hX.2.2.2.1
  have hts := hX.2.2.2.2.1
  have hA := hX.2.2.2.2.2.2
  refine lv_iinc (v := (v3 + 1)) (lv' := [(3, .int (v3 + 1)), (0, .ref (ad o0)), (1, .int v1), (2, .int v2)]) hx hb dX5_valueAtZero_42 hl (k := 3) rfl rfl (Nat.le_of_ble_eq_true rfl) rfl (fun ls hl => ?_)
  refine lv_goto (tgt := 4) hx hb dX5_valueAtZero_45 (by decide) ?_
  exact hK4 _ _ _ _ h _ _ _ hP hS (lv_sub hl [1, 2, 3, 0] rfl)
set_option maxHeartbeats 4000000 in
set_option maxRecDepth 100000 in
theorem t_X5_valueAtZero_l4 {p : Program} {l : Launch} {e : Env} {s : State} {m : MethodId} {args : Array Value} {below : List Frame} {meth : Method} {c : Code} {D : va_G} {tc : Tc} {ad : Nat → Nat} {A : Nat → Prop} {M : St} {o0 : Nat} {rr : Int32} (hX : cx p s m args c cX5_valueAtZero 4 RX5 D tc ad A) (hr : meth.sig.returnType = some .int) (hlk : meth.locks = false) (ho0 : isP o0 = true) : ∀ (n : Nat), ∀ (v1 : Int32) (v2 : Int32) (v3 : Int32) (I : St), f_X5_valueAtZero_l4 o0 n v1 v2 v3 I = some rr → ∀ (H : Heap) (locs : List Loc) (ls : Array Slot), va_P D vwCl (wl tc ad (cmb I M)) H → va_S A s.heap H locs → lv_has ls 4 [(0, .ref (ad o0)), (1, .int v1), (2, .int v2), (3, .int v3)] → W p l e rm_X5_valueAtZero s m args below meth c H locs 0 0 (MQ below (qi D tc ad A rr (cmb I M)) args s 0 0 A) (F0 m 4 ls []) := by
  intro n
  induction n with
  | zero =>
    intro _ _ _ _ h
    cases h
  | succ n ih =>
    intro v1 v2 v3 I h H locs ls hP hS hl
    rw [f_X5_valueAtZero_l4] at h
    have hx := hX.1
    have hb := hX.2.1
    have hown := hX.2.2.2.1
    have hts := hX.2.2.2.2.1
    have hA := hX.2.2.2.2.2.2
    refine lv_iload_n hx hb dX5_valueAtZero_4 rfl (lv_at hl 3 rfl) ?_
    refine lv_bipush (v := 8) hx hb dX5_valueAtZero_5 kc_b8 ?_
    refine x_icmp_ge (tgt := 48) hx hb dX5_valueAtZero_7 (by decide) h (fun c1 h => ?_) (fun c1 h => ?_)
    · refine lv_iload_n hx hb dX5_valueAtZero_48 rfl (lv_at hl 2 rfl) ?_
      cases h
      exact j_iret hX hr hlk hP hS dX5_valueAtZero_49
    · refine lv_iload_n hx hb dX5_valueAtZero_10 rfl (lv_at hl 1 rfl) ?_
      refine lv_iload_n hx hb dX5_valueAtZero_11 rfl (lv_at hl 3 rfl) ?_
      obtain ⟨r3, e2, h⟩ := ob1_some h
      refine j_i (j_runN (rest := []) hX hP hl.1 Y_X7_has (c_X7_has hA e2) ⟨rfl, rfl⟩ nw14 ⟨Nat.le_of_ble_eq_true rfl, Nat.le_of_ble_eq_true rfl⟩ rfl rfl (Nat.le_of_ble_eq_true rfl) dX5_valueAtZero_12) hS (fun H locs hP hS => ?_)
      refine x_if_eq (tgt := 42) hx hb dX5_valueAtZero_15 (by decide) h (fun c4 h => ?_) (fun c4 h => ?_)
      · exact t_X5_valueAtZero_b42 hX hr hlk ho0 ih _ _ _ _ h _ _ _ hP hS (lv_sub hl [0, 1, 2, 3] rfl)
      · refine lv_iload_n hx hb dX5_valueAtZero_18 rfl (lv_at hl 2 rfl) ?_
        refine lv_aload_n hx hb dX5_valueAtZero_19 rfl (lv_at hl 0 rfl) ?_
        refine r_getq (t := o0 + 8) hX hP cok4 10 (isP_lt ho0) (isP_kd ho0) (by decide) rfl q110 dX5_valueAtZero_20 ?_
        refine lv_iload_n hx hb dX5_valueAtZero_23 rfl (lv_at hl 3 rfl) ?_
        refine r_ald hX hP h (isP8_lt ho0) (isP8_kd ho0) (isP8_ln ho0) dX5_valueAtZero_24 (fun h => ?_)
        refine x_let h (fun x5 h => ?_)
        refine lv_iload_n hx hb dX5_valueAtZero_25 rfl (lv_at hl 3 rfl) ?_
        refine lv_iload_n hx hb dX5_valueAtZero_26 rfl (lv_at hl 1 rfl) ?_
        obtain ⟨r7, e6, h⟩ := ob1_some h
        refine j_i (j_runS (rest := [.int x5, .int v2]) hX hP hl.1 Y_X5_weight (c_X5_weight hA e6) ⟨rfl, rfl⟩ q703 ⟨Nat.le_of_ble_eq_true rfl, Nat.le_of_ble_eq_true rfl⟩ rfl rfl (Nat.le_of_ble_eq_true rfl) dX5_valueAtZero_27) hS (fun H locs hP hS => ?_)
        refine lv_sipush (v := 1019) hx hb dX5_valueAtZero_30 kc_s1019 ?_
        obtain ⟨r9, e8, h⟩ := ob1_some h
        refine j_i (j_runN (rest := [.int v2]) hX hP hl.1 Y_X7_product (c_X7_product hA e8) ⟨rfl, rfl⟩ nw9 ⟨Nat.le_of_ble_eq_true rfl, Nat.le_of_ble_eq_true rfl⟩ rfl rfl (Nat.le_of_ble_eq_true rfl) dX5_valueAtZero_33) hS (fun H locs hP hS => ?_)
        refine lv_iadd hx hb dX5_valueAtZero_36 ?_
        refine x_let h (fun x10 h => ?_)
        refine lv_sipush (v := 1019) hx hb dX5_valueAtZero_37 kc_s1019 ?_
        refine lv_irem hx hb dX5_valueAtZero_40 (by decide) ?_
        refine x_let h (fun x11 h => ?_)
        refine lv_istore_n (lv' := [(2, .int x11), (0, .ref (ad o0)), (1, .int v1), (3, .int v3)]) hx hb dX5_valueAtZero_41 rfl hl (Nat.le_of_ble_eq_true rfl) rfl (fun ls hl => ?_)
        exact t_X5_valueAtZero_b42 hX hr hlk ho0 ih _ _ _ _ h _ _ _ hP hS (lv_sub hl [1, 2, 0, 3] rfl)
set_option maxHeartbeats 4000000 in
set_option maxRecDepth 100000 in
theorem c_X5_valueAtZero {l : Launch} {D : va_G} {tc : Tc} {ad : Nat → Nat} {A : Nat → Prop} (hA : adok ad A) {I M : St} {o0 : Nat} {v1 : Int32} {rr : Int32} (h : f_X5_valueAtZero o0 v1 I = some rr) : Met l yX5_valueAtZero (Cond.code yX5_valueAtZero cX5_valueAtZero 4 (some .int) :: tw) rm_X5_valueAtZero (pre D tc ad [.ref (ad o0), .int v1] (cmb I M)) (qi D tc ad A rr (cmb I M)) 0 0 A := by
  unfold f_X5_valueAtZero at h
  obtain ⟨ho0, h⟩ := ck_some h
  refine mk_met (own := RX5) (by decide +kernel) rfl hA (Nat.le_of_ble_eq_true rfl) ?_
  intro p e s m below meth c ls hX hr hlk hl hP hS
  have hl : lv_has ls 4 [(0, .ref (ad o0)), (1, .int v1)] := hl
  have hx := hX.1
  have hb := hX.2.1
  have hown := hX.2.2.2.1
  have hts := hX.2.2.2.2.1
  refine lv_iconst (v := 0) hx hb dX5_valueAtZero_0 kc_i0 ?_
  refine lv_istore_n (lv' := [(2, .int 0), (0, .ref (ad o0)), (1, .int v1)]) hx hb dX5_valueAtZero_1 rfl hl (Nat.le_of_ble_eq_true rfl) rfl (fun ls hl => ?_)
  refine lv_iconst (v := 0) hx hb dX5_valueAtZero_2 kc_i0 ?_
  refine lv_istore_n (lv' := [(3, .int 0), (2, .int 0), (0, .ref (ad o0)), (1, .int v1)]) hx hb dX5_valueAtZero_3 rfl hl (Nat.le_of_ble_eq_true rfl) rfl (fun ls hl => ?_)
  exact t_X5_valueAtZero_l4 hX hr hlk ho0  10000 _ _ _ _ h _ _ _ hP hS (lv_sub hl [2, 3, 1, 0] rfl)
/-! OwnerlessCoin.recover(II)I -/
def rm_X7_recover : Room := { frames := 4, cells := 0, slots := 0, locals := 93 }
theorem Y_X7_recover : yv yX7_recover cX7_recover 4 (some .int) 2 RX7 := ⟨q693, q691, q692, q12, by decide +kernel⟩
set_option maxHeartbeats 4000000 in
set_option maxRecDepth 100000 in
theorem t_X7_recover_b22 {p : Program} {l : Launch} {e : Env} {s : State} {m : MethodId} {args : Array Value} {below : List Frame} {meth : Method} {c : Code} {D : va_G} {tc : Tc} {ad : Nat → Nat} {A : Nat → Prop} {M : St} {rr : Int32} (hX : cx p s m args c cX7_recover 4 RX7 D tc ad A) (hr : meth.sig.returnType = some .int) (hlk : meth.locks = false) : ∀ (I : St), f_X7_recover_b22 I = some rr → ∀ (H : Heap) (locs : List Loc) (ls : Array Slot), va_P D vwCl (wl tc ad (cmb I M)) H → va_S A s.heap H locs → lv_has ls 4 [] → W p l e rm_X7_recover s m args below meth c H locs 0 0 (MQ below (qi D tc ad A rr (cmb I M)) args s 0 0 A) (F0 m 22 ls []) := by
  intro I h H locs ls hP hS hl
  unfold f_X7_recover_b22 at h
  have hx := hX.1
  have hb := hX.2.1
  have hown := hX.2.2.2.1
  have hts := hX.2.2.2.2.1
  have hA := hX.2.2.2.2.2.2
  refine lv_iconst (v := (-1)) hx hb dX7_recover_22 kc_im1 ?_
  cases h
  exact j_iret hX hr hlk hP hS dX7_recover_23
set_option maxHeartbeats 4000000 in
set_option maxRecDepth 100000 in
theorem t_X7_recover_b59 {p : Program} {l : Launch} {e : Env} {s : State} {m : MethodId} {args : Array Value} {below : List Frame} {meth : Method} {c : Code} {D : va_G} {tc : Tc} {ad : Nat → Nat} {A : Nat → Prop} {M : St} {rr : Int32} (hX : cx p s m args c cX7_recover 4 RX7 D tc ad A) (hr : meth.sig.returnType = some .int) (hlk : meth.locks = false) : ∀ (I : St), f_X7_recover_b59 I = some rr → ∀ (H : Heap) (locs : List Loc) (ls : Array Slot), va_P D vwCl (wl tc ad (cmb I M)) H → va_S A s.heap H locs → lv_has ls 4 [] → W p l e rm_X7_recover s m args below meth c H locs 0 0 (MQ below (qi D tc ad A rr (cmb I M)) args s 0 0 A) (F0 m 59 ls []) := by
  intro I h H locs ls hP hS hl
  unfold f_X7_recover_b59 at h
  have hx := hX.1
  have hb := hX.2.1
  have hown := hX.2.2.2.1
  have hts := hX.2.2.2.2.1
  have hA := hX.2.2.2.2.2.2
  refine lv_bipush (v := (-9)) hx hb dX7_recover_59 kc_bm9 ?_
  cases h
  exact j_iret hX hr hlk hP hS dX7_recover_61
set_option maxHeartbeats 4000000 in
set_option maxRecDepth 100000 in
theorem c_X7_recover {l : Launch} {D : va_G} {tc : Tc} {ad : Nat → Nat} {A : Nat → Prop} (hA : adok ad A) {I M : St} {v1 : Int32} {v2 : Int32} {rr : Int32} (h : f_X7_recover v1 v2 I = some rr) : Met l yX7_recover (Cond.code yX7_recover cX7_recover 4 (some .int) :: tw) rm_X7_recover (pre D tc ad [.ref (ad 145), .int v1, .int v2] (cmb I M)) (qi D tc ad A rr (cmb I M)) 0 0 A := by
  unfold f_X7_recover at h
  refine mk_met (own := RX7) (by decide +kernel) rfl hA (Nat.le_of_ble_eq_true rfl) ?_
  intro p e s m below meth c ls hX hr hlk hl hP hS
  have hl : lv_has ls 4 [(0, .ref (ad 145)), (1, .int v1), (2, .int v2)] := hl
  have hx := hX.1
  have hb := hX.2.1
  have hown := hX.2.2.2.1
  have hts := hX.2.2.2.2.1
  refine lv_aload_n hx hb dX7_recover_0 rfl (lv_at hl 0 rfl) ?_
  refine r_getq (t := 0) hX hP cok5 0 sl_145 sk_145 (by decide) rfl q243 dX7_recover_1 ?_
  refine lv_iload_n hx hb dX7_recover_4 rfl (lv_at hl 1 rfl) ?_
  obtain ⟨r2, e1, h⟩ := ob1_some h
  refine j_i (j_runV (rest := []) hX hP hl.1 Y_X4_isParticipant cok3 (lt157 sl_0) sk_0 (c_X4_isParticipant hA e1) ⟨rfl, rfl⟩ q331 ⟨Nat.le_of_ble_eq_true rfl, Nat.le_of_ble_eq_true rfl⟩ rfl rfl (Nat.le_of_ble_eq_true rfl) dX7_recover_5) hS (fun H locs hP hS => ?_)
  refine x_if_eq (tgt := 22) hx hb dX7_recover_8 (by decide) h (fun c3 h => ?_) (fun c3 h => ?_)
  · exact t_X7_recover_b22 hX hr hlk  _ h _ _ _ hP hS (lv_sub hl [] rfl)
  · refine lv_iload_n hx hb dX7_recover_11 rfl (lv_at hl 2 rfl) ?_
    refine lv_iconst (v := 0) hx hb dX7_recover_12 kc_i0 ?_
    refine lv_sipush (v := 255) hx hb dX7_recover_13 kc_s255 ?_
    obtain ⟨r5, e4, h⟩ := ob1_some h
    refine j_i (j_runS (rest := []) hX hP hl.1 Y_X7_isWithin (c_X7_isWithin hA e4) ⟨rfl, rfl⟩ q258 ⟨Nat.le_of_ble_eq_true rfl, Nat.le_of_ble_eq_true rfl⟩ rfl rfl (Nat.le_of_ble_eq_true rfl) dX7_recover_16) hS (fun H locs hP hS => ?_)
    refine x_if_ne (tgt := 24) hx hb dX7_recover_19 (by decide) h (fun c6 h => ?_) (fun c6 h => ?_)
    · refine lv_iload_n hx hb dX7_recover_24 rfl (lv_at hl 2 rfl) ?_
      refine lv_aload_n hx hb dX7_recover_25 rfl (lv_at hl 0 rfl) ?_
      refine r_getq (t := 0) hX hP cok5 0 sl_145 sk_145 (by decide) rfl q243 dX7_recover_26 ?_
      refine r_get hX hP cok3 10 sl_0 sk_0 (by decide) rfl q166 dX7_recover_29 ?_
      refine lv_iand hx hb dX7_recover_32 ?_
      refine x_let h (fun x7 h => ?_)
      refine lv_istore_n (lv' := [(3, .int x7), (0, .ref (ad 145)), (1, .int v1), (2, .int v2)]) hx hb dX7_recover_33 rfl hl (Nat.le_of_ble_eq_true rfl) rfl (fun ls hl => ?_)
      refine lv_aload_n hx hb dX7_recover_34 rfl (lv_at hl 1 rfl) ?_
      refine r_getq (t := 0) hX hP cok5 0 sl_145 sk_145 (by decide) rfl q243 dX7_recover_35 ?_
      refine lv_iload_n hx hb dX7_recover_38 rfl (lv_at hl 2 rfl) ?_
      obtain ⟨r9, e8, h⟩ := ob1_some h
      refine j_i (j_runV (rest := []) hX hP hl.1 Y_X4_hasDealt cok3 (lt157 sl_0) sk_0 (c_X4_hasDealt hA e8) ⟨rfl, rfl⟩ q694 ⟨Nat.le_of_ble_eq_true rfl, Nat.le_of_ble_eq_true rfl⟩ rfl rfl (Nat.le_of_ble_eq_true rfl) dX7_recover_39) hS (fun H locs hP hS => ?_)
      refine x_if_eq (tgt := 59) hx hb dX7_recover_42 (by decide) h (fun c10 h => ?_) (fun c10 h => ?_)
      · exact t_X7_recover_b59 hX hr hlk  _ h _ _ _ hP hS (lv_sub hl [] rfl)
      · refine lv_iload_n hx hb dX7_recover_45 rfl (lv_at hl 0 rfl) ?_
        obtain ⟨r12, e11, h⟩ := ob1_some h
        refine j_i (j_runS (rest := []) hX hP hl.1 Y_J6_bitCount_0f7a4 (c_J6_bitCount_0f7a4 hA e11) ⟨rfl, rfl⟩ q504 ⟨Nat.le_of_ble_eq_true rfl, Nat.le_of_ble_eq_true rfl⟩ rfl rfl (Nat.le_of_ble_eq_true rfl) dX7_recover_46) hS (fun H locs hP hS => ?_)
        refine lv_aload_n hx hb dX7_recover_49 rfl (lv_at hl 1 rfl) ?_
        refine r_getq (t := 0) hX hP cok5 0 sl_145 sk_145 (by decide) rfl q243 dX7_recover_50 ?_
        refine r_get hX hP cok3 6 sl_0 sk_0 (by decide) rfl q156 dX7_recover_53 ?_
        refine x_icmp_ge (tgt := 62) hx hb dX7_recover_56 (by decide) h (fun c13 h => ?_) (fun c13 h => ?_)
        · refine lv_aload_n hx hb dX7_recover_62 rfl (lv_at hl 1 rfl) ?_
          refine r_getq (t := 0) hX hP cok5 0 sl_145 sk_145 (by decide) rfl q243 dX7_recover_63 ?_
          refine r_getq (t := 1) hX hP cok3 0 sl_0 sk_0 (by decide) rfl q139 dX7_recover_66 ?_
          refine lv_iload_n hx hb dX7_recover_69 rfl (lv_at hl 2 rfl) ?_
          refine r_ldq hX hP h (lt157 sl_1) sk_1 sn_1 dX7_recover_70 (fun g14 h => ?_)
          refine lv_iload_n hx hb dX7_recover_71 rfl (lv_at hl 0 rfl) ?_
          refine lv_aload_n hx hb dX7_recover_72 rfl (lv_at hl 1 rfl) ?_
          refine r_getq (t := 0) hX hP cok5 0 sl_145 sk_145 (by decide) rfl q243 dX7_recover_73 ?_
          refine r_get hX hP cok3 6 sl_0 sk_0 (by decide) rfl q156 dX7_recover_76 ?_
          obtain ⟨r16, e15, h⟩ := ob1_some h
          refine j_i (j_runS (rest := [.ref (ad (5 + v1.toNatClampNeg))]) hX hP hl.1 Y_X7_smallest (c_X7_smallest hA e15) ⟨rfl, rfl⟩ q695 ⟨Nat.le_of_ble_eq_true rfl, Nat.le_of_ble_eq_true rfl⟩ rfl rfl (Nat.le_of_ble_eq_true rfl) dX7_recover_79) hS (fun H locs hP hS => ?_)
          obtain ⟨r18, e17, h⟩ := ob1_some h
          refine j_i (j_runV (rest := []) hX hP hl.1 Y_X5_valueAtZero cok4 (lt157 (isP_lt (isP_of g14))) (isP_kd (isP_of g14)) (c_X5_valueAtZero hA e17) ⟨rfl, rfl⟩ q698 ⟨Nat.le_of_ble_eq_true rfl, Nat.le_of_ble_eq_true rfl⟩ rfl rfl (Nat.le_of_ble_eq_true rfl) dX7_recover_82) hS (fun H locs hP hS => ?_)
          cases h
          exact j_iret hX hr hlk hP hS dX7_recover_85
        · exact t_X7_recover_b59 hX hr hlk  _ h _ _ _ hP hS (lv_sub hl [] rfl)
    · exact t_X7_recover_b22 hX hr hlk  _ h _ _ _ hP hS (lv_sub hl [] rfl)
/-! OwnerlessCoin$Lab.canConspire(I)Z -/
def rm_X4_canConspire : Room := { frames := 0, cells := 0, slots := 0, locals := 0 }
theorem Y_X4_canConspire : yv yX4_canConspire cX4_canConspire 2 (some .boolean) 1 RX4 := ⟨q465, q463, q464, q13, by decide +kernel⟩
set_option maxHeartbeats 4000000 in
set_option maxRecDepth 100000 in
theorem t_X4_canConspire_b31 {p : Program} {l : Launch} {e : Env} {s : State} {m : MethodId} {args : Array Value} {below : List Frame} {meth : Method} {c : Code} {D : va_G} {tc : Tc} {ad : Nat → Nat} {A : Nat → Prop} {M : St} {rr : Int32} (hX : cx p s m args c cX4_canConspire 2 RX4 D tc ad A) (hr : meth.sig.returnType = some .boolean) (hlk : meth.locks = false) : ∀ (t0 : Int32) (I : St), f_X4_canConspire_b31 t0 I = some rr → ∀ (H : Heap) (locs : List Loc) (ls : Array Slot), va_P D vwCl (wl tc ad (cmb I M)) H → va_S A s.heap H locs → lv_has ls 2 [] → W p l e rm_X4_canConspire s m args below meth c H locs 0 0 (MQ below (qi D tc ad A rr (cmb I M)) args s 0 0 A) (F0 m 31 ls [.int t0]) := by
  intro t0 I h H locs ls hP hS hl
  unfold f_X4_canConspire_b31 at h
  have hx := hX.1
  have hb := hX.2.1
  have hown := hX.2.2.2.1
  have hts := hX.2.2.2.2.1
  have hA := hX.2.2.2.2.2.2
  obtain ⟨gz, h⟩ := ck_some h
  cases h
  exact j_zret hX hr hlk hP hS (isB_or gz) dX4_canConspire_31
set_option maxHeartbeats 4000000 in
set_option maxRecDepth 100000 in
theorem t_X4_canConspire_b30 {p : Program} {l : Launch} {e : Env} {s : State} {m : MethodId} {args : Array Value} {below : List Frame} {meth : Method} {c : Code} {D : va_G} {tc : Tc} {ad : Nat → Nat} {A : Nat → Prop} {M : St} {rr : Int32} (hX : cx p s m args c cX4_canConspire 2 RX4 D tc ad A) (hr : meth.sig.returnType = some .boolean) (hlk : meth.locks = false) : ∀ (I : St), f_X4_canConspire_b30 I = some rr → ∀ (H : Heap) (locs : List Loc) (ls : Array Slot), va_P D vwCl (wl tc ad (cmb I M)) H → va_S A s.heap H locs → lv_has ls 2 [] → W p l e rm_X4_canConspire s m args below meth c H locs 0 0 (MQ below (qi D tc ad A rr (cmb I M)) args s 0 0 A) (F0 m 30 ls []) := by
  intro I h H locs ls hP hS hl
  unfold f_X4_canConspire_b30 at h
  have hx := hX.1
  have hb := hX.2.1
  have hown := hX.2.2.2.1
  have hts := hX.2.2.2.2.1
  have hA := hX.2.2.2.2.2.2
  refine lv_iconst (v := 0) hx hb dX4_canConspire_30 kc_i0 ?_
  exact t_X4_canConspire_b31 hX hr hlk  _ _ h _ _ _ hP hS (lv_sub hl [] rfl)
set_option maxHeartbeats 4000000 in
set_option maxRecDepth 100000 in
theorem c_X4_canConspire {l : Launch} {D : va_G} {tc : Tc} {ad : Nat → Nat} {A : Nat → Prop} (hA : adok ad A) {I M : St} {v1 : Int32} {rr : Int32} (h : f_X4_canConspire v1 I = some rr) : Met l yX4_canConspire (Cond.code yX4_canConspire cX4_canConspire 2 (some .boolean) :: tw) rm_X4_canConspire (pre D tc ad [.ref (ad 0), .int v1] (cmb I M)) (qi D tc ad A rr (cmb I M)) 0 0 A := by
  unfold f_X4_canConspire at h
  refine mk_met (own := RX4) (by decide +kernel) rfl hA (Nat.le_of_ble_eq_true rfl) ?_
  intro p e s m below meth c ls hX hr hlk hl hP hS
  have hl : lv_has ls 2 [(0, .ref (ad 0)), (1, .int v1)] := hl
  have hx := hX.1
  have hb := hX.2.1
  have hown := hX.2.2.2.1
  have hts := hX.2.2.2.2.1
  refine lv_aload_n hx hb dX4_canConspire_0 rfl (lv_at hl 0 rfl) ?_
  refine r_get hX hP cok3 9 sl_0 sk_0 (by decide) rfl q161 dX4_canConspire_1 ?_
  refine x_let h (fun x1 h => ?_)
  refine lv_iconst (v := 2) hx hb dX4_canConspire_4 kc_i2 ?_
  refine x_icmp_ne (tgt := 30) hx hb dX4_canConspire_5 (by decide) h (fun c2 h => ?_) (fun c2 h => ?_)
  · exact t_X4_canConspire_b30 hX hr hlk  _ h _ _ _ hP hS (lv_sub hl [] rfl)
  · refine lv_iload_n hx hb dX4_canConspire_8 rfl (lv_at hl 1 rfl) ?_
    refine lv_aload_n hx hb dX4_canConspire_9 rfl (lv_at hl 0 rfl) ?_
    refine r_get hX hP cok3 10 sl_0 sk_0 (by decide) rfl q164 dX4_canConspire_10 ?_
    refine x_let h (fun x3 h => ?_)
    refine lv_aload_n hx hb dX4_canConspire_13 rfl (lv_at hl 0 rfl) ?_
    refine r_get hX hP cok3 12 sl_0 sk_0 (by decide) rfl q170 dX4_canConspire_14 ?_
    refine x_let h (fun x4 h => ?_)
    refine lv_iconst (v := (-1)) hx hb dX4_canConspire_17 kc_im1 ?_
    refine lv_ixor hx hb dX4_canConspire_18 ?_
    refine lv_iand hx hb dX4_canConspire_19 ?_
    refine x_let h (fun x5 h => ?_)
    refine lv_iconst (v := (-1)) hx hb dX4_canConspire_20 kc_im1 ?_
    refine lv_ixor hx hb dX4_canConspire_21 ?_
    refine lv_iand hx hb dX4_canConspire_22 ?_
    refine x_if_ne (tgt := 30) hx hb dX4_canConspire_23 (by decide) h (fun c6 h => ?_) (fun c6 h => ?_)
    · exact t_X4_canConspire_b30 hX hr hlk  _ h _ _ _ hP hS (lv_sub hl [] rfl)
    · refine lv_iconst (v := 1) hx hb dX4_canConspire_26 kc_i1 ?_
      refine lv_goto (tgt := 31) hx hb dX4_canConspire_27 (by decide) ?_
      exact t_X4_canConspire_b31 hX hr hlk  _ _ h _ _ _ hP hS (lv_sub hl [] rfl)
