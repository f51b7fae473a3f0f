/-! OwnerlessCoinModel.share(II)I -/
def rm_X8_share : Room := { frames := 5, cells := 0, slots := 0, locals := 107 }
theorem Y_X8_share : yv yX8_share cX8_share 3 (some .int) 2 RX8 := ⟨q1034, q1032, q1033, q57, by decide +kernel⟩
set_option maxHeartbeats 4000000 in
set_option maxRecDepth 100000 in
theorem t_X8_share_b40 {p : Program} {l : Launch} {e : Env} {s : State} {m : MethodId} {args : Array Value} {below : List Frame} {meth : Method} {c : Code} {D : va_G} {tc : Tc} {ad : Nat → Nat} {A : Nat → Prop} {I : St} {rr : Int32} (hX : cx p s m args c cX8_share 3 RX8 D tc ad A) (hr : meth.sig.returnType = some .int) (hlk : meth.locks = false) : ∀ (t0 : Int32) (M : St), f_X8_share_b40 t0 M = some rr → ∀ (H : Heap) (locs : List Loc) (ls : Array Slot), va_P D vwCl (wl tc ad (cmb I M)) H → va_S A s.heap H locs → lv_has ls 3 [] → W p l e rm_X8_share s m args below meth c H locs 0 0 (MQ below (qi D tc ad A rr (cmb I M)) args s 0 0 A) (F0 m 40 ls [.int t0]) := by
  intro t0 M h H locs ls hP hS hl
  unfold f_X8_share_b40 at h
  have hx := hX.1
  have hb := hX.2.1
  have hown := hX.2.2.2.1
  have hts := hX.2.2.2.2.1
  have hA := hX.2.2.2.2.2.2
  cases h
  exact j_iret hX hr hlk hP hS dX8_share_40
set_option maxHeartbeats 4000000 in
set_option maxRecDepth 100000 in
theorem t_X8_share_b16 {p : Program} {l : Launch} {e : Env} {s : State} {m : MethodId} {args : Array Value} {below : List Frame} {meth : Method} {c : Code} {D : va_G} {tc : Tc} {ad : Nat → Nat} {A : Nat → Prop} {I : St} {rr : Int32} (hX : cx p s m args c cX8_share 3 RX8 D tc ad A) (hr : meth.sig.returnType = some .int) (hlk : meth.locks = false) : ∀ (M : St), f_X8_share_b16 M = some rr → ∀ (H : Heap) (locs : List Loc) (ls : Array Slot), va_P D vwCl (wl tc ad (cmb I M)) H → va_S A s.heap H locs → lv_has ls 3 [] → W p l e rm_X8_share s m args below meth c H locs 0 0 (MQ below (qi D tc ad A rr (cmb I M)) args s 0 0 A) (F0 m 16 ls []) := by
  intro M h H locs ls hP hS hl
  unfold f_X8_share_b16 at h
  have hx := hX.1
  have hb := hX.2.1
  have hown := hX.2.2.2.1
  have hts := hX.2.2.2.2.1
  have hA := hX.2.2.2.2.2.2
  refine lv_iconst (v := (-1)) hx hb dX8_share_16 kc_im1 ?_
  refine lv_goto (tgt := 40) hx hb dX8_share_17 (by decide) ?_
  exact t_X8_share_b40 hX hr hlk  _ _ h _ _ _ hP hS (lv_sub hl [] rfl)
set_option maxHeartbeats 4000000 in
set_option maxRecDepth 100000 in
theorem c_X8_share {l : Launch} {D : va_G} {tc : Tc} {ad : Nat → Nat} {A : Nat → Prop} (hA : adok ad A) {I M : St} {v1 : Int32} {v2 : Int32} {rr : Int32} (h : f_X8_share v1 v2 M = some rr) : Met l yX8_share (Cond.code yX8_share cX8_share 3 (some .int) :: tw) rm_X8_share (pre D tc ad [.ref (ad 152), .int v1, .int v2] (cmb I M)) (qi D tc ad A rr (cmb I M)) 0 0 A := by
  unfold f_X8_share at h
  refine mk_met (own := RX8) (by decide +kernel) rfl hA (Nat.le_of_ble_eq_true rfl) ?_
  intro p e s m below meth c ls hX hr hlk hl hP hS
  have hl : lv_has ls 3 [(0, .ref (ad 152)), (1, .int v1), (2, .int v2)] := hl
  have hx := hX.1
  have hb := hX.2.1
  have hown := hX.2.2.2.1
  have hts := hX.2.2.2.2.1
  refine lv_aload_n hx hb dX8_share_0 rfl (lv_at hl 0 rfl) ?_
  refine lv_iload_n hx hb dX8_share_1 rfl (lv_at hl 1 rfl) ?_
  obtain ⟨r2, e1, h⟩ := ob1_some h
  refine j_i (j_runV (rest := []) hX hP hl.1 Y_X8_isPerson cok6 (s157_152) sk_152 (c_X8_isPerson hA e1) ⟨rfl, rfl⟩ q821 ⟨Nat.le_of_ble_eq_true rfl, Nat.le_of_ble_eq_true rfl⟩ rfl rfl (Nat.le_of_ble_eq_true rfl) dX8_share_2) hS (fun H locs hP hS => ?_)
  refine x_if_eq (tgt := 16) hx hb dX8_share_5 (by decide) h (fun c3 h => ?_) (fun c3 h => ?_)
  · exact t_X8_share_b16 hX hr hlk  _ h _ _ _ hP hS (lv_sub hl [] rfl)
  · refine lv_aload_n hx hb dX8_share_8 rfl (lv_at hl 0 rfl) ?_
    refine lv_iload_n hx hb dX8_share_9 rfl (lv_at hl 2 rfl) ?_
    obtain ⟨r5, e4, h⟩ := ob1_some h
    refine j_i (j_runV (rest := []) hX hP hl.1 Y_X8_isPerson cok6 (s157_152) sk_152 (c_X8_isPerson hA e4) ⟨rfl, rfl⟩ q821 ⟨Nat.le_of_ble_eq_true rfl, Nat.le_of_ble_eq_true rfl⟩ rfl rfl (Nat.le_of_ble_eq_true rfl) dX8_share_10) hS (fun H locs hP hS => ?_)
    refine x_if_ne (tgt := 20) hx hb dX8_share_13 (by decide) h (fun c6 h => ?_) (fun c6 h => ?_)
    · refine lv_aload_n hx hb dX8_share_20 rfl (lv_at hl 0 rfl) ?_
      refine lv_iload_n hx hb dX8_share_21 rfl (lv_at hl 1 rfl) ?_
      refine lv_iload_n hx hb dX8_share_22 rfl (lv_at hl 2 rfl) ?_
      obtain ⟨r8, e7, h⟩ := ob1_some h
      refine j_i (j_runV (rest := []) hX hP hl.1 Y_X8_hasShare cok6 (s157_152) sk_152 (c_X8_hasShare hA e7) ⟨rfl, rfl⟩ q908 ⟨Nat.le_of_ble_eq_true rfl, Nat.le_of_ble_eq_true rfl⟩ rfl rfl (Nat.le_of_ble_eq_true rfl) dX8_share_23) hS (fun H locs hP hS => ?_)
      refine x_if_eq (tgt := 38) hx hb dX8_share_26 (by decide) h (fun c9 h => ?_) (fun c9 h => ?_)
      · refine lv_bipush (v := (-9)) hx hb dX8_share_38 kc_bm9 ?_
        exact t_X8_share_b40 hX hr hlk  _ _ h _ _ _ hP hS (lv_sub hl [] rfl)
      · refine lv_aload_n hx hb dX8_share_29 rfl (lv_at hl 0 rfl) ?_
        refine lv_iload_n hx hb dX8_share_30 rfl (lv_at hl 1 rfl) ?_
        refine lv_iload_n hx hb dX8_share_31 rfl (lv_at hl 2 rfl) ?_
        obtain ⟨r11, e10, h⟩ := ob1_some h
        refine j_i (j_runV (rest := []) hX hP hl.1 Y_X8_shareOf cok6 (s157_152) sk_152 (c_X8_shareOf hA e10) ⟨rfl, rfl⟩ q924 ⟨Nat.le_of_ble_eq_true rfl, Nat.le_of_ble_eq_true rfl⟩ rfl rfl (Nat.le_of_ble_eq_true rfl) dX8_share_32) hS (fun H locs hP hS => ?_)
        refine lv_goto (tgt := 40) hx hb dX8_share_35 (by decide) ?_
        exact t_X8_share_b40 hX hr hlk  _ _ h _ _ _ hP hS (lv_sub hl [] rfl)
    · exact t_X8_share_b16 hX hr hlk  _ h _ _ _ hP hS (lv_sub hl [] rfl)
/-! OwnerlessCoinModel.isRight(II)I -/
def rm_X8_isRight : Room := { frames := 5, cells := 0, slots := 0, locals := 107 }
theorem Y_X8_isRight : yv yX8_isRight cX8_isRight 3 (some .int) 2 RX8 := ⟨q1038, q1036, q1037, q57, by decide +kernel⟩
set_option maxHeartbeats 4000000 in
set_option maxRecDepth 100000 in
theorem t_X8_isRight_b48 {p : Program} {l : Launch} {e : Env} {s : State} {m : MethodId} {args : Array Value} {below : List Frame} {meth : Method} {c : Code} {D : va_G} {tc : Tc} {ad : Nat → Nat} {A : Nat → Prop} {I : St} {rr : Int32} (hX : cx p s m args c cX8_isRight 3 RX8 D tc ad A) (hr : meth.sig.returnType = some .int) (hlk : meth.locks = false) : ∀ (t0 : Int32) (M : St), f_X8_isRight_b48 t0 M = some rr → ∀ (H : Heap) (locs : List Loc) (ls : Array Slot), va_P D vwCl (wl tc ad (cmb I M)) H → va_S A s.heap H locs → lv_has ls 3 [] → W p l e rm_X8_isRight s m args below meth c H locs 0 0 (MQ below (qi D tc ad A rr (cmb I M)) args s 0 0 A) (F0 m 48 ls [.int t0]) := by
  intro t0 M h H locs ls hP hS hl
  unfold f_X8_isRight_b48 at h
  have hx := hX.1
  have hb := hX.2.1
  have hown := hX.2.2.2.1
  have hts := hX.2.2.2.2.1
  have hA := hX.2.2.2.2.2.2
  cases h
  exact j_iret hX hr hlk hP hS dX8_isRight_48
set_option maxHeartbeats 4000000 in
set_option maxRecDepth 100000 in
theorem t_X8_isRight_b16 {p : Program} {l : Launch} {e : Env} {s : State} {m : MethodId} {args : Array Value} {below : List Frame} {meth : Method} {c : Code} {D : va_G} {tc : Tc} {ad : Nat → Nat} {A : Nat → Prop} {I : St} {rr : Int32} (hX : cx p s m args c cX8_isRight 3 RX8 D tc ad A) (hr : meth.sig.returnType = some .int) (hlk : meth.locks = false) : ∀ (M : St), f_X8_isRight_b16 M = some rr → ∀ (H : Heap) (locs : List Loc) (ls : Array Slot), va_P D vwCl (wl tc ad (cmb I M)) H → va_S A s.heap H locs → lv_has ls 3 [] → W p l e rm_X8_isRight s m args below meth c H locs 0 0 (MQ below (qi D tc ad A rr (cmb I M)) args s 0 0 A) (F0 m 16 ls []) := by
  intro M h H locs ls hP hS hl
  unfold f_X8_isRight_b16 at h
  have hx := hX.1
  have hb := hX.2.1
  have hown := hX.2.2.2.1
  have hts := hX.2.2.2.2.1
  have hA := hX.2.2.2.2.2.2
  refine lv_iconst (v := (-1)) hx hb dX8_isRight_16 kc_im1 ?_
  refine lv_goto (tgt := 48) hx hb dX8_isRight_17 (by decide) ?_
  exact t_X8_isRight_b48 hX hr hlk  _ _ h _ _ _ hP hS (lv_sub hl [] rfl)
set_option maxHeartbeats 4000000 in
set_option maxRecDepth 100000 in
theorem c_X8_isRight {l : Launch} {D : va_G} {tc : Tc} {ad : Nat → Nat} {A : Nat → Prop} (hA : adok ad A) {I M : St} {v1 : Int32} {v2 : Int32} {rr : Int32} (h : f_X8_isRight v1 v2 M = some rr) : Met l yX8_isRight (Cond.code yX8_isRight cX8_isRight 3 (some .int) :: tw) rm_X8_isRight (pre D tc ad [.ref (ad 152), .int v1, .int v2] (cmb I M)) (qi D tc ad A rr (cmb I M)) 0 0 A := by
  unfold f_X8_isRight at h
  refine mk_met (own := RX8) (by decide +kernel) rfl hA (Nat.le_of_ble_eq_true rfl) ?_
  intro p e s m below meth c ls hX hr hlk hl hP hS
  have hl : lv_has ls 3 [(0, .ref (ad 152)), (1, .int v1), (2, .int v2)] := hl
  have hx := hX.1
  have hb := hX.2.1
  have hown := hX.2.2.2.1
  have hts := hX.2.2.2.2.1
  refine lv_aload_n hx hb dX8_isRight_0 rfl (lv_at hl 0 rfl) ?_
  refine lv_iload_n hx hb dX8_isRight_1 rfl (lv_at hl 1 rfl) ?_
  obtain ⟨r2, e1, h⟩ := ob1_some h
  refine j_i (j_runV (rest := []) hX hP hl.1 Y_X8_isPerson cok6 (s157_152) sk_152 (c_X8_isPerson hA e1) ⟨rfl, rfl⟩ q821 ⟨Nat.le_of_ble_eq_true rfl, Nat.le_of_ble_eq_true rfl⟩ rfl rfl (Nat.le_of_ble_eq_true rfl) dX8_isRight_2) hS (fun H locs hP hS => ?_)
  refine x_if_eq (tgt := 16) hx hb dX8_isRight_5 (by decide) h (fun c3 h => ?_) (fun c3 h => ?_)
  · exact t_X8_isRight_b16 hX hr hlk  _ h _ _ _ hP hS (lv_sub hl [] rfl)
  · refine lv_aload_n hx hb dX8_isRight_8 rfl (lv_at hl 0 rfl) ?_
    refine lv_iload_n hx hb dX8_isRight_9 rfl (lv_at hl 2 rfl) ?_
    obtain ⟨r5, e4, h⟩ := ob1_some h
    refine j_i (j_runV (rest := []) hX hP hl.1 Y_X8_isPerson cok6 (s157_152) sk_152 (c_X8_isPerson hA e4) ⟨rfl, rfl⟩ q821 ⟨Nat.le_of_ble_eq_true rfl, Nat.le_of_ble_eq_true rfl⟩ rfl rfl (Nat.le_of_ble_eq_true rfl) dX8_isRight_10) hS (fun H locs hP hS => ?_)
    refine x_if_ne (tgt := 20) hx hb dX8_isRight_13 (by decide) h (fun c6 h => ?_) (fun c6 h => ?_)
    · refine lv_aload_n hx hb dX8_isRight_20 rfl (lv_at hl 0 rfl) ?_
      refine lv_iload_n hx hb dX8_isRight_21 rfl (lv_at hl 1 rfl) ?_
      refine lv_iload_n hx hb dX8_isRight_22 rfl (lv_at hl 2 rfl) ?_
      obtain ⟨r8, e7, h⟩ := ob1_some h
      refine j_i (j_runV (rest := []) hX hP hl.1 Y_X8_hasShare cok6 (s157_152) sk_152 (c_X8_hasShare hA e7) ⟨rfl, rfl⟩ q908 ⟨Nat.le_of_ble_eq_true rfl, Nat.le_of_ble_eq_true rfl⟩ rfl rfl (Nat.le_of_ble_eq_true rfl) dX8_isRight_23) hS (fun H locs hP hS => ?_)
      refine x_if_ne (tgt := 34) hx hb dX8_isRight_26 (by decide) h (fun c9 h => ?_) (fun c9 h => ?_)
      · refine lv_aload_n hx hb dX8_isRight_34 rfl (lv_at hl 0 rfl) ?_
        refine lv_iload_n hx hb dX8_isRight_35 rfl (lv_at hl 1 rfl) ?_
        refine lv_iload_n hx hb dX8_isRight_36 rfl (lv_at hl 2 rfl) ?_
        obtain ⟨r11, e10, h⟩ := ob1_some h
        refine j_i (j_runV (rest := []) hX hP hl.1 Y_X8_isGood cok6 (s157_152) sk_152 (c_X8_isGood hA e10) ⟨rfl, rfl⟩ q936 ⟨Nat.le_of_ble_eq_true rfl, Nat.le_of_ble_eq_true rfl⟩ rfl rfl (Nat.le_of_ble_eq_true rfl) dX8_isRight_37) hS (fun H locs hP hS => ?_)
        refine x_if_eq (tgt := 47) hx hb dX8_isRight_40 (by decide) h (fun c12 h => ?_) (fun c12 h => ?_)
        · refine lv_iconst (v := 0) hx hb dX8_isRight_47 kc_i0 ?_
          exact t_X8_isRight_b48 hX hr hlk  _ _ h _ _ _ hP hS (lv_sub hl [] rfl)
        · refine lv_iconst (v := 1) hx hb dX8_isRight_43 kc_i1 ?_
          refine lv_goto (tgt := 48) hx hb dX8_isRight_44 (by decide) ?_
          exact t_X8_isRight_b48 hX hr hlk  _ _ h _ _ _ hP hS (lv_sub hl [] rfl)
      · refine lv_bipush (v := (-9)) hx hb dX8_isRight_29 kc_bm9 ?_
        refine lv_goto (tgt := 48) hx hb dX8_isRight_31 (by decide) ?_
        exact t_X8_isRight_b48 hX hr hlk  _ _ h _ _ _ hP hS (lv_sub hl [] rfl)
    · exact t_X8_isRight_b16 hX hr hlk  _ h _ _ _ hP hS (lv_sub hl [] rfl)
/-! OwnerlessCoinModel.check(II)I -/
def rm_X8_check : Room := { frames := 4, cells := 0, slots := 0, locals := 85 }
theorem Y_X8_check : yv yX8_check cX8_check 5 (some .int) 2 RX8 := ⟨q1042, q1040, q1041, q57, by decide +kernel⟩
set_option maxHeartbeats 4000000 in
set_option maxRecDepth 100000 in
theorem t_X8_check_b12 {p : Program} {l : Launch} {e : Env} {s : State} {m : MethodId} {args : Array Value} {below : List Frame} {meth : Method} {c : Code} {D : va_G} {tc : Tc} {ad : Nat → Nat} {A : Nat → Prop} {I : St} {rr : Int32} (hX : cx p s m args c cX8_check 5 RX8 D tc ad A) (hr : meth.sig.returnType = some .int) (hlk : meth.locks = false) : ∀ (M : St), f_X8_check_b12 M = some rr → ∀ (H : Heap) (locs : List Loc) (ls : Array Slot), va_P D vwCl (wl tc ad (cmb I M)) H → va_S A s.heap H locs → lv_has ls 5 [] → W p l e rm_X8_check s m args below meth c H locs 0 0 (MQ below (qi D tc ad A rr (cmb I M)) args s 0 0 A) (F0 m 12 ls []) := by
  intro M h H locs ls hP hS hl
  unfold f_X8_check_b12 at h
  have hx := hX.1
  have hb := hX.2.1
  have hown := hX.2.2.2.1
  have hts := hX.2.2.2.2.1
  have hA := hX.2.2.2.2.2.2
  refine lv_iconst (v := (-1)) hx hb dX8_check_12 kc_im1 ?_
  cases h
  exact j_iret hX hr hlk hP hS dX8_check_13
set_option maxHeartbeats 4000000 in
set_option maxRecDepth 100000 in
theorem t_X8_check_b33 {p : Program} {l : Launch} {e : Env} {s : State} {m : MethodId} {args : Array Value} {below : List Frame} {meth : Method} {c : Code} {D : va_G} {tc : Tc} {ad : Nat → Nat} {A : Nat → Prop} {I : St} {rr : Int32} (hX : cx p s m args c cX8_check 5 RX8 D tc ad A) (hr : meth.sig.returnType = some .int) (hlk : meth.locks = false) : ∀ (M : St), f_X8_check_b33 M = some rr → ∀ (H : Heap) (locs : List Loc) (ls : Array Slot), va_P D vwCl (wl tc ad (cmb I M)) H → va_S A s.heap H locs → lv_has ls 5 [] → W p l e rm_X8_check s m args below meth c H locs 0 0 (MQ below (qi D tc ad A rr (cmb I M)) args s 0 0 A) (F0 m 33 ls []) := by
  intro M h H locs ls hP hS hl
  unfold f_X8_check_b33 at h
  have hx := hX.1
  have hb := hX.2.1
  have hown := hX.2.2.2.1
  have hts := hX.2.2.2.2.1
  have hA := hX.2.2.2.2.2.2
  refine lv_bipush (v := (-9)) hx hb dX8_check_33 kc_bm9 ?_
  cases h
  exact j_iret hX hr hlk hP hS dX8_check_35
set_option maxHeartbeats 4000000 in
set_option maxRecDepth 100000 in
theorem t_X8_check_l41 {p : Program} {l : Launch} {e : Env} {s : State} {m : MethodId} {args : Array Value} {below : List Frame} {meth : Method} {c : Code} {D : va_G} {tc : Tc} {ad : Nat → Nat} {A : Nat → Prop} {I : St} {rr : Int32} (hX : cx p s m args c cX8_check 5 RX8 D tc ad A) (hr : meth.sig.returnType = some .int) (hlk : meth.locks = false) : ∀ (n : Nat), ∀ (v1 : Int32) (v2 : Int32) (v3 : Int32) (v4 : Int32) (M : St), f_X8_check_l41 n v1 v2 v3 v4 M = some rr → ∀ (H : Heap) (locs : List Loc) (ls : Array Slot), va_P D vwCl (wl tc ad (cmb I M)) H → va_S A s.heap H locs → lv_has ls 5 [(0, .ref (ad 152)), (1, .int v1), (2, .int v2), (3, .int v3), (4, .int v4)] → W p l e rm_X8_check s m args below meth c H locs 0 0 (MQ below (qi D tc ad A rr (cmb I M)) args s 0 0 A) (F0 m 41 ls []) := by
  intro n
  induction n with
  | zero =>
    intro _ _ _ _ _ h
    cases h
  | succ n ih =>
    intro v1 v2 v3 v4 M h H locs ls hP hS hl
    rw [f_X8_check_l41] at h
    have hx := hX.1
    have hb := hX.2.1
    have hown := hX.2.2.2.1
    have hts := hX.2.2.2.2.1
    have hA := hX.2.2.2.2.2.2
    refine lv_iload hx hb dX8_check_41 (lv_at hl 4 rfl) ?_
    refine lv_aload_n hx hb dX8_check_43 rfl (lv_at hl 0 rfl) ?_
    refine m_getq (t := 153) hX hP cok6 0 sge_152 s157_152 sk_152 (by decide) rfl q780 dX8_check_44 ?_
    refine lv_iload_n hx hb dX8_check_47 rfl (lv_at hl 1 rfl) ?_
    obtain ⟨r2, e1, h⟩ := ob1_some h
    refine j_i (j_runS (rest := [.ref (ad 153), .int v4]) hX hP hl.1 Y_X8_person (c_X8_person hA e1) ⟨rfl, rfl⟩ q814 ⟨Nat.le_of_ble_eq_true rfl, Nat.le_of_ble_eq_true rfl⟩ rfl rfl (Nat.le_of_ble_eq_true rfl) dX8_check_48) hS (fun H locs hP hS => ?_)
    refine lv_bipush (v := 14) hx hb dX8_check_51 kc_b14 ?_
    refine lv_iadd hx hb dX8_check_53 ?_
    refine x_let h (fun x3 h => ?_)
    refine lv_iload_n hx hb dX8_check_54 rfl (lv_at hl 2 rfl) ?_
    refine lv_iadd hx hb dX8_check_55 ?_
    refine x_let h (fun x4 h => ?_)
    refine m_ald hX hP h (sge_153) s157_153 sk_153 sn_153 dX8_check_56 (fun h => ?_)
    refine x_icmp_ge (tgt := 74) hx hb dX8_check_57 (by decide) h (fun c5 h => ?_) (fun c5 h => ?_)
    · refine lv_iload_n hx hb dX8_check_74 rfl (lv_at hl 3 rfl) ?_
      cases h
      exact j_iret hX hr hlk hP hS dX8_check_75
    · refine lv_iload_n hx hb dX8_check_60 rfl (lv_at hl 3 rfl) ?_
      refine lv_iconst (v := 4) hx hb dX8_check_61 kc_i4 ?_
      refine lv_imul hx hb dX8_check_62 ?_
      refine x_let h (fun x6 h => ?_)
      refine lv_sipush (v := 2039) hx hb dX8_check_63 kc_s2039 ?_
      refine lv_irem hx hb dX8_check_66 (by decide) ?_
      refine x_let h (fun x7 h => ?_)
      refine lv_istore_n (lv' := [(3, .int x7), (0, .ref (ad 152)), (1, .int v1), (2, .int v2), (4, .int v4)]) hx hb dX8_check_67 rfl hl (Nat.le_of_ble_eq_true rfl) rfl (fun ls hl => ?_)
      refine lv_iinc (v := (v4 + 1)) (lv' := [(4, .int (v4 + 1)), (3, .int x7), (0, .ref (ad 152)), (1, .int v1), (2, .int v2)]) hx hb dX8_check_68 hl (k := 4) rfl rfl (Nat.le_of_ble_eq_true rfl) rfl (fun ls hl => ?_)
      refine lv_goto (tgt := 41) hx hb dX8_check_71 (by decide) ?_
      exact ih _ _ _ _ _ h _ _ _ hP hS (lv_sub hl [2, 3, 4, 1, 0] rfl)
set_option maxHeartbeats 4000000 in
set_option maxRecDepth 100000 in
theorem c_X8_check {l : Launch} {D : va_G} {tc : Tc} {ad : Nat → Nat} {A : Nat → Prop} (hA : adok ad A) {I M : St} {v1 : Int32} {v2 : Int32} {rr : Int32} (h : f_X8_check v1 v2 M = some rr) : Met l yX8_check (Cond.code yX8_check cX8_check 5 (some .int) :: tw) rm_X8_check (pre D tc ad [.ref (ad 152), .int v1, .int v2] (cmb I M)) (qi D tc ad A rr (cmb I M)) 0 0 A := by
  unfold f_X8_check at h
  refine mk_met (own := RX8) (by decide +kernel) rfl hA (Nat.le_of_ble_eq_true rfl) ?_
  intro p e s m below meth c ls hX hr hlk hl hP hS
  have hl : lv_has ls 5 [(0, .ref (ad 152)), (1, .int v1), (2, .int v2)] := hl
  have hx := hX.1
  have hb := hX.2.1
  have hown := hX.2.2.2.1
  have hts := hX.2.2.2.2.1
  refine lv_aload_n hx hb dX8_check_0 rfl (lv_at hl 0 rfl) ?_
  refine lv_iload_n hx hb dX8_check_1 rfl (lv_at hl 1 rfl) ?_
  obtain ⟨r9, e8, h⟩ := ob1_some h
  refine j_i (j_runV (rest := []) hX hP hl.1 Y_X8_isPerson cok6 (s157_152) sk_152 (c_X8_isPerson hA e8) ⟨rfl, rfl⟩ q821 ⟨Nat.le_of_ble_eq_true rfl, Nat.le_of_ble_eq_true rfl⟩ rfl rfl (Nat.le_of_ble_eq_true rfl) dX8_check_2) hS (fun H locs hP hS => ?_)
  refine x_if_eq (tgt := 12) hx hb dX8_check_5 (by decide) h (fun c10 h => ?_) (fun c10 h => ?_)
  · exact t_X8_check_b12 hX hr hlk  _ h _ _ _ hP hS (lv_sub hl [] rfl)
  · refine lv_iload_n hx hb dX8_check_8 rfl (lv_at hl 2 rfl) ?_
    refine x_if_ge (tgt := 14) hx hb dX8_check_9 (by decide) h (fun c11 h => ?_) (fun c11 h => ?_)
    · refine lv_aload_n hx hb dX8_check_14 rfl (lv_at hl 0 rfl) ?_
      refine lv_iload_n hx hb dX8_check_15 rfl (lv_at hl 1 rfl) ?_
      obtain ⟨r13, e12, h⟩ := ob1_some h
      refine j_i (j_runV (rest := []) hX hP hl.1 Y_X8_hasShares cok6 (s157_152) sk_152 (c_X8_hasShares hA e12) ⟨rfl, rfl⟩ q912 ⟨Nat.le_of_ble_eq_true rfl, Nat.le_of_ble_eq_true rfl⟩ rfl rfl (Nat.le_of_ble_eq_true rfl) dX8_check_16) hS (fun H locs hP hS => ?_)
      refine x_if_eq (tgt := 33) hx hb dX8_check_19 (by decide) h (fun c14 h => ?_) (fun c14 h => ?_)
      · exact t_X8_check_b33 hX hr hlk  _ h _ _ _ hP hS (lv_sub hl [] rfl)
      · refine lv_iload_n hx hb dX8_check_22 rfl (lv_at hl 2 rfl) ?_
        refine lv_aload_n hx hb dX8_check_23 rfl (lv_at hl 0 rfl) ?_
        refine m_getq (t := 153) hX hP cok6 0 sge_152 s157_152 sk_152 (by decide) rfl q780 dX8_check_24 ?_
        refine lv_bipush (v := 6) hx hb dX8_check_27 kc_b6 ?_
        refine m_ald hX hP h (sge_153) s157_153 sk_153 sn_153 dX8_check_29 (fun h => ?_)
        refine x_icmp_lt (tgt := 36) hx hb dX8_check_30 (by decide) h (fun c15 h => ?_) (fun c15 h => ?_)
        · refine lv_iconst (v := 1) hx hb dX8_check_36 kc_i1 ?_
          refine lv_istore_n (lv' := [(3, .int 1), (0, .ref (ad 152)), (1, .int v1), (2, .int v2)]) hx hb dX8_check_37 rfl hl (Nat.le_of_ble_eq_true rfl) rfl (fun ls hl => ?_)
          refine lv_iconst (v := 0) hx hb dX8_check_38 kc_i0 ?_
          refine lv_istore (lv' := [(4, .int 0), (3, .int 1), (0, .ref (ad 152)), (1, .int v1), (2, .int v2)]) hx hb dX8_check_39 hl (Nat.le_of_ble_eq_true rfl) rfl (fun ls hl => ?_)
          exact t_X8_check_l41 hX hr hlk  10000 _ _ _ _ _ h _ _ _ hP hS (lv_sub hl [2, 3, 4, 1, 0] rfl)
        · exact t_X8_check_b33 hX hr hlk  _ h _ _ _ hP hS (lv_sub hl [] rfl)
    · exact t_X8_check_b12 hX hr hlk  _ h _ _ _ hP hS (lv_sub hl [] rfl)
/-! OwnerlessCoinModel.inverse(I)I -/
def rm_X8_inverse : Room := { frames := 0, cells := 0, slots := 0, locals := 0 }
theorem Y_X8_inverse : ys yX8_inverse cX8_inverse 2 (some .int) 1 := ⟨q1049, q1048, q57, by decide +kernel⟩
set_option maxHeartbeats 4000000 in
set_option maxRecDepth 100000 in
theorem t_X8_inverse_b38 {p : Program} {l : Launch} {e : Env} {s : State} {m : MethodId} {args : Array Value} {below : List Frame} {meth : Method} {c : Code} {D : va_G} {tc : Tc} {ad : Nat → Nat} {A : Nat → Prop} {J : St} {rr : Int32} (hX : cx p s m args c cX8_inverse 2 RX8 D tc ad A) (hr : meth.sig.returnType = some .int) (hlk : meth.locks = false) : ∀ (v1 : Int32), f_X8_inverse_b38 v1 = some rr → ∀ (H : Heap) (locs : List Loc) (ls : Array Slot), va_P D vwCl (wl tc ad J) H → va_S A s.heap H locs → lv_has ls 2 [(1, .int v1)] → W p l e rm_X8_inverse s m args below meth c H locs 0 0 (MQ below (qi D tc ad A rr J) args s 0 0 A) (F0 m 38 ls []) := by
  intro v1 h H locs ls hP hS hl
  unfold f_X8_inverse_b38 at h
  have hx := hX.1
  have hb := hX.2.1
  have hown := hX.2.2.2.1
  have hts := hX.2.2.2.2.1
  have hA := hX.2.2.2.2.2.2
  refine lv_iload_n hx hb dX8_inverse_38 rfl (lv_at hl 0 rfl) ?_
  cases h
  exact j_iret hX hr hlk hP hS dX8_inverse_39
set_option maxHeartbeats 4000000 in
set_option maxRecDepth 100000 in
theorem t_X8_inverse_l2 {p : Program} {l : Launch} {e : Env} {s : State} {m : MethodId} {args : Array Value} {below : List Frame} {meth : Method} {c : Code} {D : va_G} {tc : Tc} {ad : Nat → Nat} {A : Nat → Prop} {J : St} {rr : Int32} (hX : cx p s m args c cX8_inverse 2 RX8 D tc ad A) (hr : meth.sig.returnType = some .int) (hlk : meth.locks = false) : ∀ (n : Nat), ∀ (v0 : Int32) (v1 : Int32), f_X8_inverse_l2 n v0 v1 = some rr → ∀ (H : Heap) (locs : List Loc) (ls : Array Slot), va_P D vwCl (wl tc ad J) H → va_S A s.heap H locs → lv_has ls 2 [(0, .int v0), (1, .int v1)] → W p l e rm_X8_inverse s m args below meth c H locs 0 0 (MQ below (qi D tc ad A rr J) args s 0 0 A) (F0 m 2 ls []) := by
  intro n
  induction n with
  | zero =>
    intro _ _ h
    cases h
  | succ n ih =>
    intro v0 v1 h H locs ls hP hS hl
    rw [f_X8_inverse_l2] at h
    have hx := hX.1
    have hb := hX.2.1
    have hown := hX.2.2.2.1
    have hts := hX.2.2.2.2.1
    have hA := hX.2.2.2.2.2.2
    refine lv_iload_n hx hb dX8_inverse_2 rfl (lv_at hl 1 rfl) ?_
    refine lv_sipush (v := 1019) hx hb dX8_inverse_3 kc_s1019 ?_
    refine x_icmp_ge (tgt := 38) hx hb dX8_inverse_6 (by decide) h (fun c1 h => ?_) (fun c1 h => ?_)
    · exact t_X8_inverse_b38 hX hr hlk  _ h _ _ _ hP hS (lv_sub hl [1] rfl)
    · refine lv_iload_n hx hb dX8_inverse_9 rfl (lv_at hl 0 rfl) ?_
      refine lv_sipush (v := 1019) hx hb dX8_inverse_10 kc_s1019 ?_
      refine lv_irem hx hb dX8_inverse_13 (by decide) ?_
      refine x_let h (fun x2 h => ?_)
      refine lv_sipush (v := 1019) hx hb dX8_inverse_14 kc_s1019 ?_
      refine lv_iadd hx hb dX8_inverse_17 ?_
      refine x_let h (fun x3 h => ?_)
      refine lv_sipush (v := 1019) hx hb dX8_inverse_18 kc_s1019 ?_
      refine lv_irem hx hb dX8_inverse_21 (by decide) ?_
      refine x_let h (fun x4 h => ?_)
      refine lv_iload_n hx hb dX8_inverse_22 rfl (lv_at hl 1 rfl) ?_
      refine lv_imul hx hb dX8_inverse_23 ?_
      refine x_let h (fun x5 h => ?_)
      refine lv_sipush (v := 1019) hx hb dX8_inverse_24 kc_s1019 ?_
      refine lv_irem hx hb dX8_inverse_27 (by decide) ?_
      refine x_let h (fun x6 h => ?_)
      refine lv_iconst (v := 1) hx hb dX8_inverse_28 kc_i1 ?_
      refine x_icmp_eq (tgt := 38) hx hb dX8_inverse_29 (by decide) h (fun c7 h => ?_) (fun c7 h => ?_)
      · exact t_X8_inverse_b38 hX hr hlk  _ h _ _ _ hP hS (lv_sub hl [1] rfl)
      · refine lv_iinc (v := (v1 + 1)) (lv' := [(1, .int (v1 + 1)), (0, .int v0)]) hx hb dX8_inverse_32 hl (k := 1) rfl rfl (Nat.le_of_ble_eq_true rfl) rfl (fun ls hl => ?_)
        refine lv_goto (tgt := 2) hx hb dX8_inverse_35 (by decide) ?_
        exact ih _ _ h _ _ _ hP hS (lv_sub hl [1, 0] rfl)
set_option maxHeartbeats 4000000 in
set_option maxRecDepth 100000 in
theorem c_X8_inverse {l : Launch} {D : va_G} {tc : Tc} {ad : Nat → Nat} {A : Nat → Prop} (hA : adok ad A) {J : St} {v0 : Int32} {rr : Int32} (h : f_X8_inverse v0 = some rr) : Met l yX8_inverse (Cond.code yX8_inverse cX8_inverse 2 (some .int) :: tw) rm_X8_inverse (pre D tc ad [.int v0] J) (qi D tc ad A rr J) 0 0 A := by
  unfold f_X8_inverse at h
  refine mk_met (own := RX8) (by decide +kernel) rfl hA (Nat.le_of_ble_eq_true rfl) ?_
  intro p e s m below meth c ls hX hr hlk hl hP hS
  have hl : lv_has ls 2 [(0, .int v0)] := hl
  have hx := hX.1
  have hb := hX.2.1
  have hown := hX.2.2.2.1
  have hts := hX.2.2.2.2.1
  refine lv_iconst (v := 1) hx hb dX8_inverse_0 kc_i1 ?_
  refine lv_istore_n (lv' := [(1, .int 1), (0, .int v0)]) hx hb dX8_inverse_1 rfl hl (Nat.le_of_ble_eq_true rfl) rfl (fun ls hl => ?_)
  exact t_X8_inverse_l2 hX hr hlk  10000 _ _ h _ _ _ hP hS (lv_sub hl [1, 0] rfl)
/-! OwnerlessCoinModel.recover(II)I -/
def rm_X8_recover : Room := { frames := 4, cells := 0, slots := 0, locals := 85 }
theorem Y_X8_recover : yv yX8_recover cX8_recover 8 (some .int) 2 RX8 := ⟨q1046, q1044, q1045, q57, by decide +kernel⟩
set_option maxHeartbeats 4000000 in
set_option maxRecDepth 100000 in
theorem t_X8_recover_b19 {p : Program} {l : Launch} {e : Env} {s : State} {m : MethodId} {args : Array Value} {below : List Frame} {meth : Method} {c : Code} {D : va_G} {tc : Tc} {ad : Nat → Nat} {A : Nat → Prop} {I : St} {rr : Int32} (hX : cx p s m args c cX8_recover 8 RX8 D tc ad A) (hr : meth.sig.returnType = some .int) (hlk : meth.locks = false) : ∀ (M : St), f_X8_recover_b19 M = some rr → ∀ (H : Heap) (locs : List Loc) (ls : Array Slot), va_P D vwCl (wl tc ad (cmb I M)) H → va_S A s.heap H locs → lv_has ls 8 [] → W p l e rm_X8_recover s m args below meth c H locs 0 0 (MQ below (qi D tc ad A rr (cmb I M)) args s 0 0 A) (F0 m 19 ls []) := by
  intro M h H locs ls hP hS hl
  unfold f_X8_recover_b19 at h
  have hx := hX.1
  have hb := hX.2.1
  have hown := hX.2.2.2.1
  have hts := hX.2.2.2.2.1
  have hA := hX.2.2.2.2.2.2
  refine lv_iconst (v := (-1)) hx hb dX8_recover_19 kc_im1 ?_
  cases h
  exact j_iret hX hr hlk hP hS dX8_recover_20
set_option maxHeartbeats 4000000 in
set_option maxRecDepth 100000 in
theorem t_X8_recover_b51 {p : Program} {l : Launch} {e : Env} {s : State} {m : MethodId} {args : Array Value} {below : List Frame} {meth : Method} {c : Code} {D : va_G} {tc : Tc} {ad : Nat → Nat} {A : Nat → Prop} {I : St} {rr : Int32} (hX : cx p s m args c cX8_recover 8 RX8 D tc ad A) (hr : meth.sig.returnType = some .int) (hlk : meth.locks = false) : ∀ (M : St), f_X8_recover_b51 M = some rr → ∀ (H : Heap) (locs : List Loc) (ls : Array Slot), va_P D vwCl (wl tc ad (cmb I M)) H → va_S A s.heap H locs → lv_has ls 8 [] → W p l e rm_X8_recover s m args below meth c H locs 0 0 (MQ below (qi D tc ad A rr (cmb I M)) args s 0 0 A) (F0 m 51 ls []) := by
  intro M h H locs ls hP hS hl
  unfold f_X8_recover_b51 at h
  have hx := hX.1
  have hb := hX.2.1
  have hown := hX.2.2.2.1
  have hts := hX.2.2.2.2.1
  have hA := hX.2.2.2.2.2.2
  refine lv_bipush (v := (-9)) hx hb dX8_recover_51 kc_bm9 ?_
  cases h
  exact j_iret hX hr hlk hP hS dX8_recover_53
set_option maxHeartbeats 4000000 in
set_option maxRecDepth 100000 in
theorem t_X8_recover_l72 {p : Program} {l : Launch} {e : Env} {s : State} {m : MethodId} {args : Array Value} {below : List Frame} {meth : Method} {c : Code} {D : va_G} {tc : Tc} {ad : Nat → Nat} {A : Nat → Prop} {I : St} {rr : Int32} (hX : cx p s m args c cX8_recover 8 RX8 D tc ad A) (hr : meth.sig.returnType = some .int) (hlk : meth.locks = false) {K54 : Int32 → Int32 → St → Option (Int32)} (hK54 : ∀ (v1 : Int32) (v3 : Int32) (M : St), K54 v1 v3 M = some rr → ∀ (H : Heap) (locs : List Loc) (ls : Array Slot), va_P D vwCl (wl tc ad (cmb I M)) H → va_S A s.heap H locs → lv_has ls 8 [(0, .ref (ad 152)), (1, .int v1), (3, .int v3)] → W p l e rm_X8_recover s m args below meth c H locs 0 0 (MQ below (qi D tc ad A rr (cmb I M)) args s 0 0 A) (F0 m 54 ls [])) : ∀ (n : Nat), ∀ (v1 : Int32) (v3 : Int32) (v4 : Int32) (M : St), f_X8_recover_l72 K54 n v1 v3 v4 M = some rr → ∀ (H : Heap) (locs : List Loc) (ls : Array Slot), va_P D vwCl (wl tc ad (cmb I M)) H → va_S A s.heap H locs → lv_has ls 8 [(0, .ref (ad 152)), (1, .int v1), (3, .int v3), (4, .int v4)] → W p l e rm_X8_recover s m args below meth c H locs 0 0 (MQ below (qi D tc ad A rr (cmb I M)) args s 0 0 A) (F0 m 72 ls []) := by
  intro n
  induction n with
  | zero =>
    intro _ _ _ _ h
    cases h
  | succ n ih =>
    intro v1 v3 v4 M h H locs ls hP hS hl
    rw [f_X8_recover_l72] at h
    have hx := hX.1
    have hb := hX.2.1
    have hown := hX.2.2.2.1
    have hts := hX.2.2.2.2.1
    have hA := hX.2.2.2.2.2.2
    refine lv_iload_n hx hb dX8_recover_72 rfl (lv_at hl 2 rfl) ?_
    refine lv_iload hx hb dX8_recover_73 (lv_at hl 3 rfl) ?_
    refine lv_ishr hx hb dX8_recover_75 ?_
    refine x_let h (fun x1 h => ?_)
    refine lv_iconst (v := 1) hx hb dX8_recover_76 kc_i1 ?_
    refine lv_iand hx hb dX8_recover_77 ?_
    refine x_if_ne (tgt := 87) hx hb dX8_recover_78 (by decide) h (fun c2 h => ?_) (fun c2 h => ?_)
    · refine lv_iload_n hx hb dX8_recover_87 rfl (lv_at hl 2 rfl) ?_
      refine lv_iconst (v := 1) hx hb dX8_recover_88 kc_i1 ?_
      refine lv_iload hx hb dX8_recover_89 (lv_at hl 3 rfl) ?_
      refine lv_ishl hx hb dX8_recover_91 ?_
      refine x_let h (fun x3 h => ?_)
      refine lv_iconst (v := (-1)) hx hb dX8_recover_92 kc_im1 ?_
      refine lv_ixor hx hb dX8_recover_93 ?_
      refine lv_iand hx hb dX8_recover_94 ?_
      refine x_let h (fun x4 h => ?_)
      refine lv_istore_n (lv' := [(3, .int x4), (0, .ref (ad 152)), (1, .int v1), (4, .int v4)]) hx hb dX8_recover_95 rfl hl (Nat.le_of_ble_eq_true rfl) rfl (fun ls hl => ?_)
      refine lv_goto (tgt := 54) hx hb dX8_recover_96 (by decide) ?_
      exact hK54 _ _ _ h _ _ _ hP hS (lv_sub hl [1, 2, 0] rfl)
    · refine lv_iinc (v := (v4 + (-1))) (lv' := [(4, .int (v4 + (-1))), (0, .ref (ad 152)), (1, .int v1), (3, .int v3)]) hx hb dX8_recover_81 hl (k := 3) rfl rfl (Nat.le_of_ble_eq_true rfl) rfl (fun ls hl => ?_)
      refine lv_goto (tgt := 72) hx hb dX8_recover_84 (by decide) ?_
      exact ih _ _ _ _ h _ _ _ hP hS (lv_sub hl [1, 2, 3, 0] rfl)
set_option maxHeartbeats 4000000 in
set_option maxRecDepth 100000 in
theorem t_X8_recover_b188 {p : Program} {l : Launch} {e : Env} {s : State} {m : MethodId} {args : Array Value} {below : List Frame} {meth : Method} {c : Code} {D : va_G} {tc : Tc} {ad : Nat → Nat} {A : Nat → Prop} {I : St} {rr : Int32} (hX : cx p s m args c cX8_recover 8 RX8 D tc ad A) (hr : meth.sig.returnType = some .int) (hlk : meth.locks = false) {K105 : Int32 → Int32 → Int32 → Int32 → St → Option (Int32)} (hK105 : ∀ (v1 : Int32) (v3 : Int32) (v4 : Int32) (v5 : Int32) (M : St), K105 v1 v3 v4 v5 M = some rr → ∀ (H : Heap) (locs : List Loc) (ls : Array Slot), va_P D vwCl (wl tc ad (cmb I M)) H → va_S A s.heap H locs → lv_has ls 8 [(0, .ref (ad 152)), (1, .int v1), (3, .int v3), (4, .int v4), (5, .int v5)] → W p l e rm_X8_recover s m args below meth c H locs 0 0 (MQ below (qi D tc ad A rr (cmb I M)) args s 0 0 A) (F0 m 105 ls [])) {K138 : Int32 → Int32 → Int32 → Int32 → Int32 → Int32 → St → Option (Int32)} (hK138 : ∀ (v1 : Int32) (v3 : Int32) (v4 : Int32) (v5 : Int32) (v6 : Int32) (v7 : Int32) (M : St), K138 v1 v3 v4 v5 v6 v7 M = some rr → ∀ (H : Heap) (locs : List Loc) (ls : Array Slot), va_P D vwCl (wl tc ad (cmb I M)) H → va_S A s.heap H locs → lv_has ls 8 [(0, .ref (ad 152)), (1, .int v1), (3, .int v3), (4, .int v4), (5, .int v5), (6, .int v6), (7, .int v7)] → W p l e rm_X8_recover s m args below meth c H locs 0 0 (MQ below (qi D tc ad A rr (cmb I M)) args s 0 0 A) (F0 m 138 ls [])) : ∀ (v1 : Int32) (v3 : Int32) (v4 : Int32) (v5 : Int32) (v6 : Int32) (v7 : Int32) (M : St), f_X8_recover_b188 K105 K138 v1 v3 v4 v5 v6 v7 M = some rr → ∀ (H : Heap) (locs : List Loc) (ls : Array Slot), va_P D vwCl (wl tc ad (cmb I M)) H → va_S A s.heap H locs → lv_has ls 8 [(0, .ref (ad 152)), (1, .int v1), (3, .int v3), (4, .int v4), (5, .int v5), (6, .int v6), (7, .int v7)] → W p l e rm_X8_recover s m args below meth c H locs 0 0 (MQ below (qi D tc ad A rr (cmb I M)) args s 0 0 A) (F0 m 188 ls []) := by
  intro v1 v3 v4 v5 v6 v7 M h H locs ls hP hS hl
  unfold f_X8_recover_b188 at h
  have hx := hX.1
  have hb := hX.2.1
  have hown := hX.2.2.2.1
  have hts := hX.2.2.2.2.1
  have hA := hX.2.2.2.2.2.2
  refine lv_iinc (v := (v7 + 1)) (lv' := [(7, .int (v7 + 1)), (0, .ref (ad 152)), (1, .int v1), (3, .int v3), (4, .int v4), (5, .int v5), (6, .int v6)]) hx hb dX8_recover_188 hl (k := 6) rfl rfl (Nat.le_of_ble_eq_true rfl) rfl (fun ls hl => ?_)
  refine lv_goto (tgt := 138) hx hb dX8_recover_191 (by decide) ?_
  exact hK138 _ _ _ _ _ _ _ h _ _ _ hP hS (lv_sub hl [1, 2, 3, 4, 5, 6, 0] rfl)
set_option maxHeartbeats 4000000 in
set_option maxRecDepth 100000 in
theorem t_X8_recover_l138 {p : Program} {l : Launch} {e : Env} {s : State} {m : MethodId} {args : Array Value} {below : List Frame} {meth : Method} {c : Code} {D : va_G} {tc : Tc} {ad : Nat → Nat} {A : Nat → Prop} {I : St} {rr : Int32} (hX : cx p s m args c cX8_recover 8 RX8 D tc ad A) (hr : meth.sig.returnType = some .int) (hlk : meth.locks = false) {K105 : Int32 → Int32 → Int32 → Int32 → St → Option (Int32)} (hK105 : ∀ (v1 : Int32) (v3 : Int32) (v4 : Int32) (v5 : Int32) (M : St), K105 v1 v3 v4 v5 M = some rr → ∀ (H : Heap) (locs : List Loc) (ls : Array Slot), va_P D vwCl (wl tc ad (cmb I M)) H → va_S A s.heap H locs → lv_has ls 8 [(0, .ref (ad 152)), (1, .int v1), (3, .int v3), (4, .int v4), (5, .int v5)] → W p l e rm_X8_recover s m args below meth c H locs 0 0 (MQ below (qi D tc ad A rr (cmb I M)) args s 0 0 A) (F0 m 105 ls [])) : ∀ (n : Nat), ∀ (v1 : Int32) (v3 : Int32) (v4 : Int32) (v5 : Int32) (v6 : Int32) (v7 : Int32) (M : St), f_X8_recover_l138 K105 n v1 v3 v4 v5 v6 v7 M = some rr → ∀ (H : Heap) (locs : List Loc) (ls : Array Slot), va_P D vwCl (wl tc ad (cmb I M)) H → va_S A s.heap H locs → lv_has ls 8 [(0, .ref (ad 152)), (1, .int v1), (3, .int v3), (4, .int v4), (5, .int v5), (6, .int v6), (7, .int v7)] → W p l e rm_X8_recover s m args below meth c H locs 0 0 (MQ below (qi D tc ad A rr (cmb I M)) args s 0 0 A) (F0 m 138 ls []) := by
  intro n
  induction n with
  | zero =>
    intro _ _ _ _ _ _ _ h
    cases h
  | succ n ih =>
    intro v1 v3 v4 v5 v6 v7 M h H locs ls hP hS hl
    rw [f_X8_recover_l138] at h
    have hx := hX.1
    have hb := hX.2.1
    have hown := hX.2.2.2.1
    have hts := hX.2.2.2.2.1
    have hA := hX.2.2.2.2.2.2
    refine lv_iload hx hb dX8_recover_138 (lv_at hl 6 rfl) ?_
    refine lv_bipush (v := 8) hx hb dX8_recover_140 kc_b8 ?_
    refine x_icmp_ge (tgt := 194) hx hb dX8_recover_142 (by decide) h (fun c5 h => ?_) (fun c5 h => ?_)
    · refine lv_iload hx hb dX8_recover_194 (lv_at hl 3 rfl) ?_
      refine lv_iload hx hb dX8_recover_196 (lv_at hl 5 rfl) ?_
      refine lv_iadd hx hb dX8_recover_198 ?_
      refine x_let h (fun x6 h => ?_)
      refine lv_sipush (v := 1019) hx hb dX8_recover_199 kc_s1019 ?_
      refine lv_irem hx hb dX8_recover_202 (by decide) ?_
      refine x_let h (fun x7 h => ?_)
      refine lv_istore (lv' := [(4, .int x7), (0, .ref (ad 152)), (1, .int v1), (3, .int v3), (5, .int v5), (6, .int v6), (7, .int v7)]) hx hb dX8_recover_203 hl (Nat.le_of_ble_eq_true rfl) rfl (fun ls hl => ?_)
      refine lv_iinc (v := (v5 + 1)) (lv' := [(5, .int (v5 + 1)), (4, .int x7), (0, .ref (ad 152)), (1, .int v1), (3, .int v3), (6, .int v6), (7, .int v7)]) hx hb dX8_recover_205 hl (k := 4) rfl rfl (Nat.le_of_ble_eq_true rfl) rfl (fun ls hl => ?_)
      refine lv_goto (tgt := 105) hx hb dX8_recover_208 (by decide) ?_
      exact hK105 _ _ _ _ _ h _ _ _ hP hS (lv_sub hl [2, 3, 4, 1, 0] rfl)
    · refine lv_iload hx hb dX8_recover_145 (lv_at hl 6 rfl) ?_
      refine lv_iload hx hb dX8_recover_147 (lv_at hl 4 rfl) ?_
      refine x_icmp_eq (tgt := 188) hx hb dX8_recover_149 (by decide) h (fun c8 h => ?_) (fun c8 h => ?_)
      · exact t_X8_recover_b188 hX hr hlk hK105 ih _ _ _ _ _ _ _ h _ _ _ hP hS (lv_sub hl [0, 1, 2, 3, 4, 5, 6] rfl)
      · refine lv_iload_n hx hb dX8_recover_152 rfl (lv_at hl 2 rfl) ?_
        refine lv_iload hx hb dX8_recover_153 (lv_at hl 6 rfl) ?_
        refine lv_ishr hx hb dX8_recover_155 ?_
        refine x_let h (fun x9 h => ?_)
        refine lv_iconst (v := 1) hx hb dX8_recover_156 kc_i1 ?_
        refine lv_iand hx hb dX8_recover_157 ?_
        refine x_let h (fun x10 h => ?_)
        refine lv_iconst (v := 1) hx hb dX8_recover_158 kc_i1 ?_
        refine x_icmp_ne (tgt := 188) hx hb dX8_recover_159 (by decide) h (fun c11 h => ?_) (fun c11 h => ?_)
        · exact t_X8_recover_b188 hX hr hlk hK105 ih _ _ _ _ _ _ _ h _ _ _ hP hS (lv_sub hl [0, 1, 2, 3, 4, 5, 6] rfl)
        · refine lv_iload hx hb dX8_recover_162 (lv_at hl 5 rfl) ?_
          refine lv_iload hx hb dX8_recover_164 (lv_at hl 6 rfl) ?_
          refine lv_iconst (v := 1) hx hb dX8_recover_166 kc_i1 ?_
          refine lv_iadd hx hb dX8_recover_167 ?_
          refine lv_imul hx hb dX8_recover_168 ?_
          refine x_let h (fun x12 h => ?_)
          refine lv_sipush (v := 1019) hx hb dX8_recover_169 kc_s1019 ?_
          refine lv_irem hx hb dX8_recover_172 (by decide) ?_
          refine x_let h (fun x13 h => ?_)
          refine lv_iload hx hb dX8_recover_173 (lv_at hl 6 rfl) ?_
          refine lv_iload hx hb dX8_recover_175 (lv_at hl 4 rfl) ?_
          refine lv_isub hx hb dX8_recover_177 ?_
          obtain ⟨r15, e14, h⟩ := ob1_some h
          refine j_i (j_runS (rest := [.int x13]) hX hP hl.1 Y_X8_inverse (c_X8_inverse hA e14) ⟨rfl, rfl⟩ q1047 ⟨Nat.le_of_ble_eq_true rfl, Nat.le_of_ble_eq_true rfl⟩ rfl rfl (Nat.le_of_ble_eq_true rfl) dX8_recover_178) hS (fun H locs hP hS => ?_)
          refine lv_imul hx hb dX8_recover_181 ?_
          refine x_let h (fun x16 h => ?_)
          refine lv_sipush (v := 1019) hx hb dX8_recover_182 kc_s1019 ?_
          refine lv_irem hx hb dX8_recover_185 (by decide) ?_
          refine x_let h (fun x17 h => ?_)
          refine lv_istore (lv' := [(6, .int x17), (0, .ref (ad 152)), (1, .int v1), (3, .int v3), (4, .int v4), (5, .int v5), (7, .int v7)]) hx hb dX8_recover_186 hl (Nat.le_of_ble_eq_true rfl) rfl (fun ls hl => ?_)
          exact t_X8_recover_b188 hX hr hlk hK105 ih _ _ _ _ _ _ _ h _ _ _ hP hS (lv_sub hl [1, 2, 3, 4, 5, 0, 6] rfl)
set_option maxHeartbeats 4000000 in
set_option maxRecDepth 100000 in
theorem t_X8_recover_b133 {p : Program} {l : Launch} {e : Env} {s : State} {m : MethodId} {args : Array Value} {below : List Frame} {meth : Method} {c : Code} {D : va_G} {tc : Tc} {ad : Nat → Nat} {A : Nat → Prop} {I : St} {rr : Int32} (hX : cx p s m args c cX8_recover 8 RX8 D tc ad A) (hr : meth.sig.returnType = some .int) (hlk : meth.locks = false) {K105 : Int32 → Int32 → Int32 → Int32 → St → Option (Int32)} (hK105 : ∀ (v1 : Int32) (v3 : Int32) (v4 : Int32) (v5 : Int32) (M : St), K105 v1 v3 v4 v5 M = some rr → ∀ (H : Heap) (locs : List Loc) (ls : Array Slot), va_P D vwCl (wl tc ad (cmb I M)) H → va_S A s.heap H locs → lv_has ls 8 [(0, .ref (ad 152)), (1, .int v1), (3, .int v3), (4, .int v4), (5, .int v5)] → W p l e rm_X8_recover s m args below meth c H locs 0 0 (MQ below (qi D tc ad A rr (cmb I M)) args s 0 0 A) (F0 m 105 ls [])) : ∀ (v1 : Int32) (v3 : Int32) (v4 : Int32) (v5 : Int32) (t0 : Int32) (M : St), f_X8_recover_b133 K105 v1 v3 v4 v5 t0 M = some rr → ∀ (H : Heap) (locs : List Loc) (ls : Array Slot), va_P D vwCl (wl tc ad (cmb I M)) H → va_S A s.heap H locs → lv_has ls 8 [(0, .ref (ad 152)), (1, .int v1), (3, .int v3), (4, .int v4), (5, .int v5)] → W p l e rm_X8_recover s m args below meth c H locs 0 0 (MQ below (qi D tc ad A rr (cmb I M)) args s 0 0 A) (F0 m 133 ls [.int t0]) := by
  intro v1 v3 v4 v5 t0 M h H locs ls hP hS hl
  unfold f_X8_recover_b133 at h
  have hx := hX.1
  have hb := hX.2.1
  have hown := hX.2.2.2.1
  have hts := hX.2.2.2.2.1
  have hA := hX.2.2.2.2.2.2
  refine lv_istore (lv' := [(6, .int t0), (0, .ref (ad 152)), (1, .int v1), (3, .int v3), (4, .int v4), (5, .int v5)]) hx hb dX8_recover_133 hl (Nat.le_of_ble_eq_true rfl) rfl (fun ls hl => ?_)
  refine lv_iconst (v := 0) hx hb dX8_recover_135 kc_i0 ?_
  refine lv_istore (lv' := [(7, .int 0), (6, .int t0), (0, .ref (ad 152)), (1, .int v1), (3, .int v3), (4, .int v4), (5, .int v5)]) hx hb dX8_recover_136 hl (Nat.le_of_ble_eq_true rfl) rfl (fun ls hl => ?_)
  exact t_X8_recover_l138 hX hr hlk hK105 10000 _ _ _ _ _ _ _ h _ _ _ hP hS (lv_sub hl [2, 3, 4, 5, 6, 1, 0] rfl)
set_option maxHeartbeats 4000000 in
set_option maxRecDepth 100000 in
theorem t_X8_recover_l105 {p : Program} {l : Launch} {e : Env} {s : State} {m : MethodId} {args : Array Value} {below : List Frame} {meth : Method} {c : Code} {D : va_G} {tc : Tc} {ad : Nat → Nat} {A : Nat → Prop} {I : St} {rr : Int32} (hX : cx p s m args c cX8_recover 8 RX8 D tc ad A) (hr : meth.sig.returnType = some .int) (hlk : meth.locks = false) : ∀ (n : Nat), ∀ (v1 : Int32) (v3 : Int32) (v4 : Int32) (v5 : Int32) (M : St), f_X8_recover_l105 n v1 v3 v4 v5 M = some rr → ∀ (H : Heap) (locs : List Loc) (ls : Array Slot), va_P D vwCl (wl tc ad (cmb I M)) H → va_S A s.heap H locs → lv_has ls 8 [(0, .ref (ad 152)), (1, .int v1), (3, .int v3), (4, .int v4), (5, .int v5)] → W p l e rm_X8_recover s m args below meth c H locs 0 0 (MQ below (qi D tc ad A rr (cmb I M)) args s 0 0 A) (F0 m 105 ls []) := by
  intro n
  induction n with
  | zero =>
    intro _ _ _ _ _ h
    cases h
  | succ n ih =>
    intro v1 v3 v4 v5 M h H locs ls hP hS hl
    rw [f_X8_recover_l105] at h
    have hx := hX.1
    have hb := hX.2.1
    have hown := hX.2.2.2.1
    have hts := hX.2.2.2.2.1
    have hA := hX.2.2.2.2.2.2
    refine lv_iload hx hb dX8_recover_105 (lv_at hl 4 rfl) ?_
    refine lv_bipush (v := 8) hx hb dX8_recover_107 kc_b8 ?_
    refine x_icmp_ge (tgt := 211) hx hb dX8_recover_109 (by decide) h (fun c18 h => ?_) (fun c18 h => ?_)
    · refine lv_iload hx hb dX8_recover_211 (lv_at hl 3 rfl) ?_
      cases h
      exact j_iret hX hr hlk hP hS dX8_recover_213
    · refine lv_iload_n hx hb dX8_recover_112 rfl (lv_at hl 2 rfl) ?_
      refine lv_iload hx hb dX8_recover_113 (lv_at hl 4 rfl) ?_
      refine lv_ishr hx hb dX8_recover_115 ?_
      refine x_let h (fun x19 h => ?_)
      refine lv_iconst (v := 1) hx hb dX8_recover_116 kc_i1 ?_
      refine lv_iand hx hb dX8_recover_117 ?_
      refine x_let h (fun x20 h => ?_)
      refine lv_iconst (v := 1) hx hb dX8_recover_118 kc_i1 ?_
      refine x_icmp_ne (tgt := 132) hx hb dX8_recover_119 (by decide) h (fun c21 h => ?_) (fun c21 h => ?_)
      · refine lv_iconst (v := 0) hx hb dX8_recover_132 kc_i0 ?_
        exact t_X8_recover_b133 hX hr hlk ih _ _ _ _ _ _ h _ _ _ hP hS (lv_sub hl [0, 1, 2, 3, 4] rfl)
      · refine lv_aload_n hx hb dX8_recover_122 rfl (lv_at hl 0 rfl) ?_
        refine lv_iload_n hx hb dX8_recover_123 rfl (lv_at hl 1 rfl) ?_
        refine lv_iload hx hb dX8_recover_124 (lv_at hl 4 rfl) ?_
        obtain ⟨r23, e22, h⟩ := ob1_some h
        refine j_i (j_runV (rest := []) hX hP hl.1 Y_X8_shareOf cok6 (s157_152) sk_152 (c_X8_shareOf hA e22) ⟨rfl, rfl⟩ q924 ⟨Nat.le_of_ble_eq_true rfl, Nat.le_of_ble_eq_true rfl⟩ rfl rfl (Nat.le_of_ble_eq_true rfl) dX8_recover_126) hS (fun H locs hP hS => ?_)
        refine lv_goto (tgt := 133) hx hb dX8_recover_129 (by decide) ?_
        exact t_X8_recover_b133 hX hr hlk ih _ _ _ _ _ _ h _ _ _ hP hS (lv_sub hl [0, 1, 2, 3, 4] rfl)
set_option maxHeartbeats 4000000 in
set_option maxRecDepth 100000 in
theorem t_X8_recover_l54 {p : Program} {l : Launch} {e : Env} {s : State} {m : MethodId} {args : Array Value} {below : List Frame} {meth : Method} {c : Code} {D : va_G} {tc : Tc} {ad : Nat → Nat} {A : Nat → Prop} {I : St} {rr : Int32} (hX : cx p s m args c cX8_recover 8 RX8 D tc ad A) (hr : meth.sig.returnType = some .int) (hlk : meth.locks = false) : ∀ (n : Nat), ∀ (v1 : Int32) (v3 : Int32) (M : St), f_X8_recover_l54 n v1 v3 M = some rr → ∀ (H : Heap) (locs : List Loc) (ls : Array Slot), va_P D vwCl (wl tc ad (cmb I M)) H → va_S A s.heap H locs → lv_has ls 8 [(0, .ref (ad 152)), (1, .int v1), (3, .int v3)] → W p l e rm_X8_recover s m args below meth c H locs 0 0 (MQ below (qi D tc ad A rr (cmb I M)) args s 0 0 A) (F0 m 54 ls []) := by
  intro n
  induction n with
  | zero =>
    intro _ _ _ h
    cases h
  | succ n ih =>
    intro v1 v3 M h H locs ls hP hS hl
    rw [f_X8_recover_l54] at h
    have hx := hX.1
    have hb := hX.2.1
    have hown := hX.2.2.2.1
    have hts := hX.2.2.2.2.1
    have hA := hX.2.2.2.2.2.2
    refine lv_iload_n hx hb dX8_recover_54 rfl (lv_at hl 2 rfl) ?_
    obtain ⟨r25, e24, h⟩ := ob1_some h
    refine j_i (j_runS (rest := []) hX hP hl.1 Y_X8_countOf (c_X8_countOf hA e24) ⟨rfl, rfl⟩ q956 ⟨Nat.le_of_ble_eq_true rfl, Nat.le_of_ble_eq_true rfl⟩ rfl rfl (Nat.le_of_ble_eq_true rfl) dX8_recover_55) hS (fun H locs hP hS => ?_)
    refine lv_aload_n hx hb dX8_recover_58 rfl (lv_at hl 0 rfl) ?_
    refine m_getq (t := 153) hX hP cok6 0 sge_152 s157_152 sk_152 (by decide) rfl q780 dX8_recover_59 ?_
    refine lv_bipush (v := 6) hx hb dX8_recover_62 kc_b6 ?_
    refine m_ald hX hP h (sge_153) s157_153 sk_153 sn_153 dX8_recover_64 (fun h => ?_)
    refine x_icmp_le (tgt := 99) hx hb dX8_recover_65 (by decide) h (fun c26 h => ?_) (fun c26 h => ?_)
    · refine lv_iconst (v := 0) hx hb dX8_recover_99 kc_i0 ?_
      refine lv_istore (lv' := [(4, .int 0), (0, .ref (ad 152)), (1, .int v1), (3, .int v3)]) hx hb dX8_recover_100 hl (Nat.le_of_ble_eq_true rfl) rfl (fun ls hl => ?_)
      refine lv_iconst (v := 0) hx hb dX8_recover_102 kc_i0 ?_
      refine lv_istore (lv' := [(5, .int 0), (4, .int 0), (0, .ref (ad 152)), (1, .int v1), (3, .int v3)]) hx hb dX8_recover_103 hl (Nat.le_of_ble_eq_true rfl) rfl (fun ls hl => ?_)
      exact t_X8_recover_l105 hX hr hlk  10000 _ _ _ _ _ h _ _ _ hP hS (lv_sub hl [2, 3, 4, 1, 0] rfl)
    · refine lv_bipush (v := 7) hx hb dX8_recover_68 kc_b7 ?_
      refine lv_istore (lv' := [(4, .int 7), (0, .ref (ad 152)), (1, .int v1), (3, .int v3)]) hx hb dX8_recover_70 hl (Nat.le_of_ble_eq_true rfl) rfl (fun ls hl => ?_)
      exact t_X8_recover_l72 hX hr hlk ih 10000 _ _ _ _ h _ _ _ hP hS (lv_sub hl [1, 2, 3, 0] rfl)
set_option maxHeartbeats 4000000 in
set_option maxRecDepth 100000 in
theorem c_X8_recover {l : Launch} {D : va_G} {tc : Tc} {ad : Nat → Nat} {A : Nat → Prop} (hA : adok ad A) {I M : St} {v1 : Int32} {v2 : Int32} {rr : Int32} (h : f_X8_recover v1 v2 M = some rr) : Met l yX8_recover (Cond.code yX8_recover cX8_recover 8 (some .int) :: tw) rm_X8_recover (pre D tc ad [.ref (ad 152), .int v1, .int v2] (cmb I M)) (qi D tc ad A rr (cmb I M)) 0 0 A := by
  unfold f_X8_recover at h
  refine mk_met (own := RX8) (by decide +kernel) rfl hA (Nat.le_of_ble_eq_true rfl) ?_
  intro p e s m below meth c ls hX hr hlk hl hP hS
  have hl : lv_has ls 8 [(0, .ref (ad 152)), (1, .int v1), (2, .int v2)] := hl
  have hx := hX.1
  have hb := hX.2.1
  have hown := hX.2.2.2.1
  have hts := hX.2.2.2.2.1
  refine lv_aload_n hx hb dX8_recover_0 rfl (lv_at hl 0 rfl) ?_
  refine lv_iload_n hx hb dX8_recover_1 rfl (lv_at hl 1 rfl) ?_
  obtain ⟨r28, e27, h⟩ := ob1_some h
  refine j_i (j_runV (rest := []) hX hP hl.1 Y_X8_isPerson cok6 (s157_152) sk_152 (c_X8_isPerson hA e27) ⟨rfl, rfl⟩ q821 ⟨Nat.le_of_ble_eq_true rfl, Nat.le_of_ble_eq_true rfl⟩ rfl rfl (Nat.le_of_ble_eq_true rfl) dX8_recover_2) hS (fun H locs hP hS => ?_)
  refine x_if_eq (tgt := 19) hx hb dX8_recover_5 (by decide) h (fun c29 h => ?_) (fun c29 h => ?_)
  · exact t_X8_recover_b19 hX hr hlk  _ h _ _ _ hP hS (lv_sub hl [] rfl)
  · refine lv_iload_n hx hb dX8_recover_8 rfl (lv_at hl 2 rfl) ?_
    refine lv_iconst (v := 0) hx hb dX8_recover_9 kc_i0 ?_
    refine lv_sipush (v := 255) hx hb dX8_recover_10 kc_s255 ?_
    obtain ⟨r31, e30, h⟩ := ob1_some h
    refine j_i (j_runS (rest := []) hX hP hl.1 Y_X8_in (c_X8_in hA e30) ⟨rfl, rfl⟩ q807 ⟨Nat.le_of_ble_eq_true rfl, Nat.le_of_ble_eq_true rfl⟩ rfl rfl (Nat.le_of_ble_eq_true rfl) dX8_recover_13) hS (fun H locs hP hS => ?_)
    refine x_if_ne (tgt := 21) hx hb dX8_recover_16 (by decide) h (fun c32 h => ?_) (fun c32 h => ?_)
    · refine lv_iload_n hx hb dX8_recover_21 rfl (lv_at hl 2 rfl) ?_
      refine lv_aload_n hx hb dX8_recover_22 rfl (lv_at hl 0 rfl) ?_
      refine lv_iconst (v := 5) hx hb dX8_recover_23 kc_i5 ?_
      obtain ⟨r34, e33, h⟩ := ob1_some h
      refine j_i (j_runV (rest := [.int v2]) hX hP hl.1 Y_X8_setOf cok6 (s157_152) sk_152 (c_X8_setOf hA e33) ⟨rfl, rfl⟩ q952 ⟨Nat.le_of_ble_eq_true rfl, Nat.le_of_ble_eq_true rfl⟩ rfl rfl (Nat.le_of_ble_eq_true rfl) dX8_recover_24) hS (fun H locs hP hS => ?_)
      refine lv_iand hx hb dX8_recover_27 ?_
      refine x_let h (fun x35 h => ?_)
      refine lv_istore_n (lv' := [(3, .int x35), (0, .ref (ad 152)), (1, .int v1), (2, .int v2)]) hx hb dX8_recover_28 rfl hl (Nat.le_of_ble_eq_true rfl) rfl (fun ls hl => ?_)
      refine lv_aload_n hx hb dX8_recover_29 rfl (lv_at hl 1 rfl) ?_
      refine lv_iload_n hx hb dX8_recover_30 rfl (lv_at hl 2 rfl) ?_
      obtain ⟨r37, e36, h⟩ := ob1_some h
      refine j_i (j_runV (rest := []) hX hP hl.1 Y_X8_hasShares cok6 (s157_152) sk_152 (c_X8_hasShares hA e36) ⟨rfl, rfl⟩ q912 ⟨Nat.le_of_ble_eq_true rfl, Nat.le_of_ble_eq_true rfl⟩ rfl rfl (Nat.le_of_ble_eq_true rfl) dX8_recover_31) hS (fun H locs hP hS => ?_)
      refine x_if_eq (tgt := 51) hx hb dX8_recover_34 (by decide) h (fun c38 h => ?_) (fun c38 h => ?_)
      · exact t_X8_recover_b51 hX hr hlk  _ h _ _ _ hP hS (lv_sub hl [] rfl)
      · refine lv_iload_n hx hb dX8_recover_37 rfl (lv_at hl 0 rfl) ?_
        obtain ⟨r40, e39, h⟩ := ob1_some h
        refine j_i (j_runS (rest := []) hX hP hl.1 Y_X8_countOf (c_X8_countOf hA e39) ⟨rfl, rfl⟩ q956 ⟨Nat.le_of_ble_eq_true rfl, Nat.le_of_ble_eq_true rfl⟩ rfl rfl (Nat.le_of_ble_eq_true rfl) dX8_recover_38) hS (fun H locs hP hS => ?_)
        refine lv_aload_n hx hb dX8_recover_41 rfl (lv_at hl 1 rfl) ?_
        refine m_getq (t := 153) hX hP cok6 0 sge_152 s157_152 sk_152 (by decide) rfl q780 dX8_recover_42 ?_
        refine lv_bipush (v := 6) hx hb dX8_recover_45 kc_b6 ?_
        refine m_ald hX hP h (sge_153) s157_153 sk_153 sn_153 dX8_recover_47 (fun h => ?_)
        refine x_icmp_ge (tgt := 54) hx hb dX8_recover_48 (by decide) h (fun c41 h => ?_) (fun c41 h => ?_)
        · exact t_X8_recover_l54 hX hr hlk  10000 _ _ _ h _ _ _ hP hS (lv_sub hl [1, 2, 0] rfl)
        · exact t_X8_recover_b51 hX hr hlk  _ h _ _ _ hP hS (lv_sub hl [] rfl)
    · exact t_X8_recover_b19 hX hr hlk  _ h _ _ _ hP hS (lv_sub hl [] rfl)
/-! OwnerlessCoinModel.lock(II)I -/
def rm_X8_lock : Room := { frames := 3, cells := 0, slots := 0, locals := 63 }
theorem Y_X8_lock : yv yX8_lock cX8_lock 3 (some .int) 2 RX8 := ⟨q1053, q1051, q1052, q57, by decide +kernel⟩
set_option maxHeartbeats 4000000 in
set_option maxRecDepth 100000 in
theorem t_X8_lock_b17 {p : Program} {l : Launch} {e : Env} {s : State} {m : MethodId} {args : Array Value} {below : List Frame} {meth : Method} {c : Code} {D : va_G} {tc : Tc} {ad : Nat → Nat} {A : Nat → Prop} {I : St} {rr : Int32} (hX : cx p s m args c cX8_lock 3 RX8 D tc ad A) (hr : meth.sig.returnType = some .int) (hlk : meth.locks = false) : ∀ (M : St), f_X8_lock_b17 M = some rr → ∀ (H : Heap) (locs : List Loc) (ls : Array Slot), va_P D vwCl (wl tc ad (cmb I M)) H → va_S A s.heap H locs → lv_has ls 3 [] → W p l e rm_X8_lock s m args below meth c H locs 0 0 (MQ below (qi D tc ad A rr (cmb I M)) args s 0 0 A) (F0 m 17 ls []) := by
  intro M h H locs ls hP hS hl
  unfold f_X8_lock_b17 at h
  have hx := hX.1
  have hb := hX.2.1
  have hown := hX.2.2.2.1
  have hts := hX.2.2.2.2.1
  have hA := hX.2.2.2.2.2.2
  refine lv_iconst (v := (-1)) hx hb dX8_lock_17 kc_im1 ?_
  cases h
  exact j_iret hX hr hlk hP hS dX8_lock_18
set_option maxHeartbeats 4000000 in
set_option maxRecDepth 100000 in
theorem t_X8_lock_b63 {p : Program} {l : Launch} {e : Env} {s : State} {m : MethodId} {args : Array Value} {below : List Frame} {meth : Method} {c : Code} {D : va_G} {tc : Tc} {ad : Nat → Nat} {A : Nat → Prop} {I : St} {rr : Int32} (hX : cx p s m args c cX8_lock 3 RX8 D tc ad A) (hr : meth.sig.returnType = some .int) (hlk : meth.locks = false) : ∀ (t0 : Int32) (M : St), f_X8_lock_b63 t0 M = some rr → ∀ (H : Heap) (locs : List Loc) (ls : Array Slot), va_P D vwCl (wl tc ad (cmb I M)) H → va_S A s.heap H locs → lv_has ls 3 [] → W p l e rm_X8_lock s m args below meth c H locs 0 0 (MQ below (qi D tc ad A rr (cmb I M)) args s 0 0 A) (F0 m 63 ls [.int t0]) := by
  intro t0 M h H locs ls hP hS hl
  unfold f_X8_lock_b63 at h
  have hx := hX.1
  have hb := hX.2.1
  have hown := hX.2.2.2.1
  have hts := hX.2.2.2.2.1
  have hA := hX.2.2.2.2.2.2
  cases h
  exact j_iret hX hr hlk hP hS dX8_lock_63
set_option maxHeartbeats 4000000 in
set_option maxRecDepth 100000 in
theorem t_X8_lock_b56 {p : Program} {l : Launch} {e : Env} {s : State} {m : MethodId} {args : Array Value} {below : List Frame} {meth : Method} {c : Code} {D : va_G} {tc : Tc} {ad : Nat → Nat} {A : Nat → Prop} {I : St} {rr : Int32} (hX : cx p s m args c cX8_lock 3 RX8 D tc ad A) (hr : meth.sig.returnType = some .int) (hlk : meth.locks = false) : ∀ (t1 : Int32) (t2 : Int32) (M : St), f_X8_lock_b56 t1 t2 M = some rr → ∀ (H : Heap) (locs : List Loc) (ls : Array Slot), va_P D vwCl (wl tc ad (cmb I M)) H → va_S A s.heap H locs → lv_has ls 3 [] → W p l e rm_X8_lock s m args below meth c H locs 0 0 (MQ below (qi D tc ad A rr (cmb I M)) args s 0 0 A) (F0 m 56 ls [.int t2, .int t1, .ref (ad 153)]) := by
  intro t1 t2 M h H locs ls hP hS hl
  unfold f_X8_lock_b56 at h
  have hx := hX.1
  have hb := hX.2.1
  have hown := hX.2.2.2.1
  have hts := hX.2.2.2.2.1
  have hA := hX.2.2.2.2.2.2
  refine lv_iadd hx hb dX8_lock_56 ?_
  refine x_let h (fun x1 h => ?_)
  refine m_ald hX hP h (sge_153) s157_153 sk_153 sn_153 dX8_lock_57 (fun h => ?_)
  refine lv_goto (tgt := 63) hx hb dX8_lock_58 (by decide) ?_
  exact t_X8_lock_b63 hX hr hlk  _ _ h _ _ _ hP hS (lv_sub hl [] rfl)
set_option maxHeartbeats 4000000 in
set_option maxRecDepth 100000 in
theorem t_X8_lock_b61 {p : Program} {l : Launch} {e : Env} {s : State} {m : MethodId} {args : Array Value} {below : List Frame} {meth : Method} {c : Code} {D : va_G} {tc : Tc} {ad : Nat → Nat} {A : Nat → Prop} {I : St} {rr : Int32} (hX : cx p s m args c cX8_lock 3 RX8 D tc ad A) (hr : meth.sig.returnType = some .int) (hlk : meth.locks = false) : ∀ (M : St), f_X8_lock_b61 M = some rr → ∀ (H : Heap) (locs : List Loc) (ls : Array Slot), va_P D vwCl (wl tc ad (cmb I M)) H → va_S A s.heap H locs → lv_has ls 3 [] → W p l e rm_X8_lock s m args below meth c H locs 0 0 (MQ below (qi D tc ad A rr (cmb I M)) args s 0 0 A) (F0 m 61 ls []) := by
  intro M h H locs ls hP hS hl
  unfold f_X8_lock_b61 at h
  have hx := hX.1
  have hb := hX.2.1
  have hown := hX.2.2.2.1
  have hts := hX.2.2.2.2.1
  have hA := hX.2.2.2.2.2.2
  refine lv_bipush (v := (-9)) hx hb dX8_lock_61 kc_bm9 ?_
  exact t_X8_lock_b63 hX hr hlk  _ _ h _ _ _ hP hS (lv_sub hl [] rfl)
set_option maxHeartbeats 4000000 in
set_option maxRecDepth 100000 in
theorem c_X8_lock {l : Launch} {D : va_G} {tc : Tc} {ad : Nat → Nat} {A : Nat → Prop} (hA : adok ad A) {I M : St} {v1 : Int32} {v2 : Int32} {rr : Int32} (h : f_X8_lock v1 v2 M = some rr) : Met l yX8_lock (Cond.code yX8_lock cX8_lock 3 (some .int) :: tw) rm_X8_lock (pre D tc ad [.ref (ad 152), .int v1, .int v2] (cmb I M)) (qi D tc ad A rr (cmb I M)) 0 0 A := by
  unfold f_X8_lock at h
  refine mk_met (own := RX8) (by decide +kernel) rfl hA (Nat.le_of_ble_eq_true rfl) ?_
  intro p e s m below meth c ls hX hr hlk hl hP hS
  have hl : lv_has ls 3 [(0, .ref (ad 152)), (1, .int v1), (2, .int v2)] := hl
  have hx := hX.1
  have hb := hX.2.1
  have hown := hX.2.2.2.1
  have hts := hX.2.2.2.2.1
  refine lv_aload_n hx hb dX8_lock_0 rfl (lv_at hl 0 rfl) ?_
  refine lv_iload_n hx hb dX8_lock_1 rfl (lv_at hl 1 rfl) ?_
  obtain ⟨r3, e2, h⟩ := ob1_some h
  refine j_i (j_runV (rest := []) hX hP hl.1 Y_X8_isPerson cok6 (s157_152) sk_152 (c_X8_isPerson hA e2) ⟨rfl, rfl⟩ q821 ⟨Nat.le_of_ble_eq_true rfl, Nat.le_of_ble_eq_true rfl⟩ rfl rfl (Nat.le_of_ble_eq_true rfl) dX8_lock_2) hS (fun H locs hP hS => ?_)
  refine x_if_eq (tgt := 17) hx hb dX8_lock_5 (by decide) h (fun c4 h => ?_) (fun c4 h => ?_)
  · exact t_X8_lock_b17 hX hr hlk  _ h _ _ _ hP hS (lv_sub hl [] rfl)
  · refine lv_iload_n hx hb dX8_lock_8 rfl (lv_at hl 2 rfl) ?_
    refine lv_iconst (v := 0) hx hb dX8_lock_9 kc_i0 ?_
    refine lv_iconst (v := 1) hx hb dX8_lock_10 kc_i1 ?_
    obtain ⟨r6, e5, h⟩ := ob1_some h
    refine j_i (j_runS (rest := []) hX hP hl.1 Y_X8_in (c_X8_in hA e5) ⟨rfl, rfl⟩ q807 ⟨Nat.le_of_ble_eq_true rfl, Nat.le_of_ble_eq_true rfl⟩ rfl rfl (Nat.le_of_ble_eq_true rfl) dX8_lock_11) hS (fun H locs hP hS => ?_)
    refine x_if_ne (tgt := 19) hx hb dX8_lock_14 (by decide) h (fun c7 h => ?_) (fun c7 h => ?_)
    · refine lv_aload_n hx hb dX8_lock_19 rfl (lv_at hl 0 rfl) ?_
      refine m_getq (t := 153) hX hP cok6 0 sge_152 s157_152 sk_152 (by decide) rfl q780 dX8_lock_20 ?_
      refine lv_iconst (v := 5) hx hb dX8_lock_23 kc_i5 ?_
      refine m_ald hX hP h (sge_153) s157_153 sk_153 sn_153 dX8_lock_24 (fun h => ?_)
      refine x_let h (fun x8 h => ?_)
      refine lv_iconst (v := 2) hx hb dX8_lock_25 kc_i2 ?_
      refine x_icmp_ne (tgt := 61) hx hb dX8_lock_26 (by decide) h (fun c9 h => ?_) (fun c9 h => ?_)
      · exact t_X8_lock_b61 hX hr hlk  _ h _ _ _ hP hS (lv_sub hl [] rfl)
      · refine lv_aload_n hx hb dX8_lock_29 rfl (lv_at hl 0 rfl) ?_
        refine lv_iload_n hx hb dX8_lock_30 rfl (lv_at hl 1 rfl) ?_
        obtain ⟨r11, e10, h⟩ := ob1_some h
        refine j_i (j_runV (rest := []) hX hP hl.1 Y_X8_isIn cok6 (s157_152) sk_152 (c_X8_isIn hA e10) ⟨rfl, rfl⟩ q1027 ⟨Nat.le_of_ble_eq_true rfl, Nat.le_of_ble_eq_true rfl⟩ rfl rfl (Nat.le_of_ble_eq_true rfl) dX8_lock_31) hS (fun H locs hP hS => ?_)
        refine x_if_eq (tgt := 61) hx hb dX8_lock_34 (by decide) h (fun c12 h => ?_) (fun c12 h => ?_)
        · exact t_X8_lock_b61 hX hr hlk  _ h _ _ _ hP hS (lv_sub hl [] rfl)
        · refine lv_aload_n hx hb dX8_lock_37 rfl (lv_at hl 0 rfl) ?_
          refine m_getq (t := 153) hX hP cok6 0 sge_152 s157_152 sk_152 (by decide) rfl q780 dX8_lock_38 ?_
          refine lv_iload_n hx hb dX8_lock_41 rfl (lv_at hl 1 rfl) ?_
          obtain ⟨r14, e13, h⟩ := ob1_some h
          refine j_i (j_runS (rest := [.ref (ad 153)]) hX hP hl.1 Y_X8_person (c_X8_person hA e13) ⟨rfl, rfl⟩ q814 ⟨Nat.le_of_ble_eq_true rfl, Nat.le_of_ble_eq_true rfl⟩ rfl rfl (Nat.le_of_ble_eq_true rfl) dX8_lock_42) hS (fun H locs hP hS => ?_)
          refine lv_iload_n hx hb dX8_lock_45 rfl (lv_at hl 2 rfl) ?_
          refine x_if_ne (tgt := 54) hx hb dX8_lock_46 (by decide) h (fun c15 h => ?_) (fun c15 h => ?_)
          · refine lv_bipush (v := 13) hx hb dX8_lock_54 kc_b13 ?_
            exact t_X8_lock_b56 hX hr hlk  _ _ _ h _ _ _ hP hS (lv_sub hl [] rfl)
          · refine lv_bipush (v := 12) hx hb dX8_lock_49 kc_b12 ?_
            refine lv_goto (tgt := 56) hx hb dX8_lock_51 (by decide) ?_
            exact t_X8_lock_b56 hX hr hlk  _ _ _ h _ _ _ hP hS (lv_sub hl [] rfl)
    · exact t_X8_lock_b17 hX hr hlk  _ h _ _ _ hP hS (lv_sub hl [] rfl)
/-! OwnerlessCoinModel.mayJoin(I)Z -/
def rm_X8_mayJoin : Room := { frames := 3, cells := 0, slots := 0, locals := 65 }
theorem Y_X8_mayJoin : yv yX8_mayJoin cX8_mayJoin 3 (some .boolean) 1 RX8 := ⟨q1061, q1060, q46, q57, by decide +kernel⟩
set_option maxHeartbeats 4000000 in
set_option maxRecDepth 100000 in
theorem t_X8_mayJoin_b38 {p : Program} {l : Launch} {e : Env} {s : State} {m : MethodId} {args : Array Value} {below : List Frame} {meth : Method} {c : Code} {D : va_G} {tc : Tc} {ad : Nat → Nat} {A : Nat → Prop} {I : St} {rr : Int32} (hX : cx p s m args c cX8_mayJoin 3 RX8 D tc ad A) (hr : meth.sig.returnType = some .boolean) (hlk : meth.locks = false) : ∀ (t0 : Int32) (M : St), f_X8_mayJoin_b38 t0 M = some rr → ∀ (H : Heap) (locs : List Loc) (ls : Array Slot), va_P D vwCl (wl tc ad (cmb I M)) H → va_S A s.heap H locs → lv_has ls 3 [] → W p l e rm_X8_mayJoin s m args below meth c H locs 0 0 (MQ below (qi D tc ad A rr (cmb I M)) args s 0 0 A) (F0 m 38 ls [.int t0]) := by
  intro t0 M h H locs ls hP hS hl
  unfold f_X8_mayJoin_b38 at h
  have hx := hX.1
  have hb := hX.2.1
  have hown := hX.2.2.2.1
  have hts := hX.2.2.2.2.1
  have hA := hX.2.2.2.2.2.2
  obtain ⟨gz, h⟩ := ck_some h
  cases h
  exact j_zret hX hr hlk hP hS (isB_or gz) dX8_mayJoin_38
set_option maxHeartbeats 4000000 in
set_option maxRecDepth 100000 in
theorem t_X8_mayJoin_b37 {p : Program} {l : Launch} {e : Env} {s : State} {m : MethodId} {args : Array Value} {below : List Frame} {meth : Method} {c : Code} {D : va_G} {tc : Tc} {ad : Nat → Nat} {A : Nat → Prop} {I : St} {rr : Int32} (hX : cx p s m args c cX8_mayJoin 3 RX8 D tc ad A) (hr : meth.sig.returnType = some .boolean) (hlk : meth.locks = false) : ∀ (M : St), f_X8_mayJoin_b37 M = some rr → ∀ (H : Heap) (locs : List Loc) (ls : Array Slot), va_P D vwCl (wl tc ad (cmb I M)) H → va_S A s.heap H locs → lv_has ls 3 [] → W p l e rm_X8_mayJoin s m args below meth c H locs 0 0 (MQ below (qi D tc ad A rr (cmb I M)) args s 0 0 A) (F0 m 37 ls []) := by
  intro M h H locs ls hP hS hl
  unfold f_X8_mayJoin_b37 at h
  have hx := hX.1
  have hb := hX.2.1
  have hown := hX.2.2.2.1
  have hts := hX.2.2.2.2.1
  have hA := hX.2.2.2.2.2.2
  refine lv_iconst (v := 0) hx hb dX8_mayJoin_37 kc_i0 ?_
  exact t_X8_mayJoin_b38 hX hr hlk  _ _ h _ _ _ hP hS (lv_sub hl [] rfl)
set_option maxHeartbeats 4000000 in
set_option maxRecDepth 100000 in
theorem c_X8_mayJoin {l : Launch} {D : va_G} {tc : Tc} {ad : Nat → Nat} {A : Nat → Prop} (hA : adok ad A) {I M : St} {v1 : Int32} {rr : Int32} (h : f_X8_mayJoin v1 M = some rr) : Met l yX8_mayJoin (Cond.code yX8_mayJoin cX8_mayJoin 3 (some .boolean) :: tw) rm_X8_mayJoin (pre D tc ad [.ref (ad 152), .int v1] (cmb I M)) (qi D tc ad A rr (cmb I M)) 0 0 A := by
  unfold f_X8_mayJoin at h
  refine mk_met (own := RX8) (by decide +kernel) rfl hA (Nat.le_of_ble_eq_true rfl) ?_
  intro p e s m below meth c ls hX hr hlk hl hP hS
  have hl : lv_has ls 3 [(0, .ref (ad 152)), (1, .int v1)] := hl
  have hx := hX.1
  have hb := hX.2.1
  have hown := hX.2.2.2.1
  have hts := hX.2.2.2.2.1
  refine lv_aload_n hx hb dX8_mayJoin_0 rfl (lv_at hl 0 rfl) ?_
  refine lv_iconst (v := 5) hx hb dX8_mayJoin_1 kc_i5 ?_
  obtain ⟨r2, e1, h⟩ := ob1_some h
  refine j_i (j_runV (rest := []) hX hP hl.1 Y_X8_setOf cok6 (s157_152) sk_152 (c_X8_setOf hA e1) ⟨rfl, rfl⟩ q952 ⟨Nat.le_of_ble_eq_true rfl, Nat.le_of_ble_eq_true rfl⟩ rfl rfl (Nat.le_of_ble_eq_true rfl) dX8_mayJoin_2) hS (fun H locs hP hS => ?_)
  refine lv_aload_n hx hb dX8_mayJoin_5 rfl (lv_at hl 0 rfl) ?_
  refine lv_bipush (v := 7) hx hb dX8_mayJoin_6 kc_b7 ?_
  obtain ⟨r4, e3, h⟩ := ob1_some h
  refine j_i (j_runV (rest := [.int r2]) hX hP hl.1 Y_X8_setOf cok6 (s157_152) sk_152 (c_X8_setOf hA e3) ⟨rfl, rfl⟩ q952 ⟨Nat.le_of_ble_eq_true rfl, Nat.le_of_ble_eq_true rfl⟩ rfl rfl (Nat.le_of_ble_eq_true rfl) dX8_mayJoin_8) hS (fun H locs hP hS => ?_)
  refine lv_iconst (v := (-1)) hx hb dX8_mayJoin_11 kc_im1 ?_
  refine lv_ixor hx hb dX8_mayJoin_12 ?_
  refine lv_iand hx hb dX8_mayJoin_13 ?_
  refine x_let h (fun x5 h => ?_)
  refine lv_istore_n (lv' := [(2, .int x5), (0, .ref (ad 152)), (1, .int v1)]) hx hb dX8_mayJoin_14 rfl hl (Nat.le_of_ble_eq_true rfl) rfl (fun ls hl => ?_)
  refine lv_aload_n hx hb dX8_mayJoin_15 rfl (lv_at hl 1 rfl) ?_
  refine m_getq (t := 153) hX hP cok6 0 sge_152 s157_152 sk_152 (by decide) rfl q780 dX8_mayJoin_16 ?_
  refine lv_iconst (v := 0) hx hb dX8_mayJoin_19 kc_i0 ?_
  refine m_ald hX hP h (sge_153) s157_153 sk_153 sn_153 dX8_mayJoin_20 (fun h => ?_)
  refine x_let h (fun x6 h => ?_)
  refine lv_iconst (v := 2) hx hb dX8_mayJoin_21 kc_i2 ?_
  refine x_icmp_ne (tgt := 37) hx hb dX8_mayJoin_22 (by decide) h (fun c7 h => ?_) (fun c7 h => ?_)
  · exact t_X8_mayJoin_b37 hX hr hlk  _ h _ _ _ hP hS (lv_sub hl [] rfl)
  · refine lv_iload_n hx hb dX8_mayJoin_25 rfl (lv_at hl 2 rfl) ?_
    refine lv_iload_n hx hb dX8_mayJoin_26 rfl (lv_at hl 0 rfl) ?_
    refine lv_iconst (v := (-1)) hx hb dX8_mayJoin_27 kc_im1 ?_
    refine lv_ixor hx hb dX8_mayJoin_28 ?_
    refine lv_iand hx hb dX8_mayJoin_29 ?_
    refine x_if_ne (tgt := 37) hx hb dX8_mayJoin_30 (by decide) h (fun c8 h => ?_) (fun c8 h => ?_)
    · exact t_X8_mayJoin_b37 hX hr hlk  _ h _ _ _ hP hS (lv_sub hl [] rfl)
    · refine lv_iconst (v := 1) hx hb dX8_mayJoin_33 kc_i1 ?_
      refine lv_goto (tgt := 38) hx hb dX8_mayJoin_34 (by decide) ?_
      exact t_X8_mayJoin_b38 hX hr hlk  _ _ h _ _ _ hP hS (lv_sub hl [] rfl)
/-! OwnerlessCoinModel.results(I)I -/
def rm_X8_results : Room := { frames := 5, cells := 0, slots := 0, locals := 114 }
theorem Y_X8_results : yv yX8_results cX8_results 9 (some .int) 1 RX8 := ⟨q1057, q1055, q1056, q57, by decide +kernel⟩
set_option maxHeartbeats 4000000 in
set_option maxRecDepth 100000 in
theorem t_X8_results_b133 {p : Program} {l : Launch} {e : Env} {s : State} {m : MethodId} {args : Array Value} {below : List Frame} {meth : Method} {c : Code} {D : va_G} {tc : Tc} {ad : Nat → Nat} {A : Nat → Prop} {I : St} {rr : Int32} {II : St} (hX : cx p s m args c cX8_results 9 RX8 D tc ad A) (hr : meth.sig.returnType = some .int) (hlk : meth.locks = false) {K42 : Int32 → Int32 → Int32 → Int32 → Int32 → St → Option (Int32 × St)} (hK42 : ∀ (v1 : Int32) (v2 : Int32) (v3 : Int32) (v4 : Int32) (v5 : Int32) (M : St), K42 v1 v2 v3 v4 v5 M = some (rr, II) → ∀ (H : Heap) (locs : List Loc) (ls : Array Slot), va_P D vwCl (wl tc ad (cmb I M)) H → va_S A s.heap H locs → lv_has ls 9 [(0, .ref (ad 152)), (1, .int v1), (2, .int v2), (3, .int v3), (4, .int v4), (5, .int v5)] → W p l e rm_X8_results s m args below meth c H locs 0 0 (MQ below (qi D tc ad A rr (cmb I II)) args s 0 0 A) (F0 m 42 ls [])) {K105 : Int32 → Int32 → Int32 → Int32 → Int32 → Int32 → Int32 → Int32 → St → Option (Int32 × St)} (hK105 : ∀ (v1 : Int32) (v2 : Int32) (v3 : Int32) (v4 : Int32) (v5 : Int32) (v6 : Int32) (v7 : Int32) (v8 : Int32) (M : St), K105 v1 v2 v3 v4 v5 v6 v7 v8 M = some (rr, II) → ∀ (H : Heap) (locs : List Loc) (ls : Array Slot), va_P D vwCl (wl tc ad (cmb I M)) H → va_S A s.heap H locs → lv_has ls 9 [(0, .ref (ad 152)), (1, .int v1), (2, .int v2), (3, .int v3), (4, .int v4), (5, .int v5), (6, .int v6), (7, .int v7), (8, .int v8)] → W p l e rm_X8_results s m args below meth c H locs 0 0 (MQ below (qi D tc ad A rr (cmb I II)) args s 0 0 A) (F0 m 105 ls [])) : ∀ (v1 : Int32) (v2 : Int32) (v3 : Int32) (v4 : Int32) (v5 : Int32) (v6 : Int32) (v8 : Int32) (t0 : Int32) (M : St), f_X8_results_b133 K42 K105 v1 v2 v3 v4 v5 v6 v8 t0 M = some (rr, II) → ∀ (H : Heap) (locs : List Loc) (ls : Array Slot), va_P D vwCl (wl tc ad (cmb I M)) H → va_S A s.heap H locs → lv_has ls 9 [(0, .ref (ad 152)), (1, .int v1), (2, .int v2), (3, .int v3), (4, .int v4), (5, .int v5), (6, .int v6), (8, .int v8)] → W p l e rm_X8_results s m args below meth c H locs 0 0 (MQ below (qi D tc ad A rr (cmb I II)) args s 0 0 A) (F0 m 133 ls [.int t0]) := by
  intro v1 v2 v3 v4 v5 v6 v8 t0 M h H locs ls hP hS hl
  unfold f_X8_results_b133 at h
  have hx := hX.1
  have hb := hX.2.1
  have hown := hX.2.2.2.1
  have hts := hX.2.2.2.2.1
  have hA := hX.2.2.2.2.2.2
  refine lv_istore (lv' := [(7, .int t0), (0, .ref (ad 152)), (1, .int v1), (2, .int v2), (3, .int v3), (4, .int v4), (5, .int v5), (6, .int v6), (8, .int v8)]) hx hb dX8_results_133 hl (Nat.le_of_ble_eq_true rfl) rfl (fun ls hl => ?_)
  refine lv_iinc (v := (v8 + 1)) (lv' := [(8, .int (v8 + 1)), (7, .int t0), (0, .ref (ad 152)), (1, .int v1), (2, .int v2), (3, .int v3), (4, .int v4), (5, .int v5), (6, .int v6)]) hx hb dX8_results_135 hl (k := 8) rfl rfl (Nat.le_of_ble_eq_true rfl) rfl (fun ls hl => ?_)
  refine lv_goto (tgt := 105) hx hb dX8_results_138 (by decide) ?_
  exact hK105 _ _ _ _ _ _ _ _ _ h _ _ _ hP hS (lv_sub hl [2, 3, 4, 5, 6, 7, 8, 1, 0] rfl)
set_option maxHeartbeats 4000000 in
set_option maxRecDepth 100000 in
theorem t_X8_results_b157 {p : Program} {l : Launch} {e : Env} {s : State} {m : MethodId} {args : Array Value} {below : List Frame} {meth : Method} {c : Code} {D : va_G} {tc : Tc} {ad : Nat → Nat} {A : Nat → Prop} {I : St} {rr : Int32} {II : St} (hX : cx p s m args c cX8_results 9 RX8 D tc ad A) (hr : meth.sig.returnType = some .int) (hlk : meth.locks = false) {K42 : Int32 → Int32 → Int32 → Int32 → Int32 → St → Option (Int32 × St)} (hK42 : ∀ (v1 : Int32) (v2 : Int32) (v3 : Int32) (v4 : Int32) (v5 : Int32) (M : St), K42 v1 v2 v3 v4 v5 M = some (rr, II) → ∀ (H : Heap) (locs : List Loc) (ls : Array Slot), va_P D vwCl (wl tc ad (cmb I M)) H → va_S A s.heap H locs → lv_has ls 9 [(0, .ref (ad 152)), (1, .int v1), (2, .int v2), (3, .int v3), (4, .int v4), (5, .int v5)] → W p l e rm_X8_results s m args below meth c H locs 0 0 (MQ below (qi D tc ad A rr (cmb I II)) args s 0 0 A) (F0 m 42 ls [])) : ∀ (v1 : Int32) (v2 : Int32) (v3 : Int32) (v4 : Int32) (v5 : Int32) (M : St), f_X8_results_b157 K42 v1 v2 v3 v4 v5 M = some (rr, II) → ∀ (H : Heap) (locs : List Loc) (ls : Array Slot), va_P D vwCl (wl tc ad (cmb I M)) H → va_S A s.heap H locs → lv_has ls 9 [(0, .ref (ad 152)), (1, .int v1), (2, .int v2), (3, .int v3), (4, .int v4), (5, .int v5)] → W p l e rm_X8_results s m args below meth c H locs 0 0 (MQ below (qi D tc ad A rr (cmb I II)) args s 0 0 A) (F0 m 157 ls []) := by
  intro v1 v2 v3 v4 v5 M h H locs ls hP hS hl
  unfold f_X8_results_b157 at h
  have hx := hX.1
  have hb := hX.2.1
  have hown := hX.2.2.2.1
  have hts := hX.2.2.2.2.1
  have hA := hX.2.2.2.2.2.2
  refine lv_iinc (v := (v5 + 1)) (lv' := [(5, .int (v5 + 1)), (0, .ref (ad 152)), (1, .int v1), (2, .int v2), (3, .int v3), (4, .int v4)]) hx hb dX8_results_157 hl (k := 5) rfl rfl (Nat.le_of_ble_eq_true rfl) rfl (fun ls hl => ?_)
  refine lv_goto (tgt := 42) hx hb dX8_results_160 (by decide) ?_
  exact hK42 _ _ _ _ _ _ h _ _ _ hP hS (lv_sub hl [1, 2, 3, 4, 5, 0] rfl)
set_option maxHeartbeats 4000000 in
set_option maxRecDepth 100000 in
theorem t_X8_results_b141 {p : Program} {l : Launch} {e : Env} {s : State} {m : MethodId} {args : Array Value} {below : List Frame} {meth : Method} {c : Code} {D : va_G} {tc : Tc} {ad : Nat → Nat} {A : Nat → Prop} {I : St} {rr : Int32} {II : St} (hX : cx p s m args c cX8_results 9 RX8 D tc ad A) (hr : meth.sig.returnType = some .int) (hlk : meth.locks = false) {K42 : Int32 → Int32 → Int32 → Int32 → Int32 → St → Option (Int32 × St)} (hK42 : ∀ (v1 : Int32) (v2 : Int32) (v3 : Int32) (v4 : Int32) (v5 : Int32) (M : St), K42 v1 v2 v3 v4 v5 M = some (rr, II) → ∀ (H : Heap) (locs : List Loc) (ls : Array Slot), va_P D vwCl (wl tc ad (cmb I M)) H → va_S A s.heap H locs → lv_has ls 9 [(0, .ref (ad 152)), (1, .int v1), (2, .int v2), (3, .int v3), (4, .int v4), (5, .int v5)] → W p l e rm_X8_results s m args below meth c H locs 0 0 (MQ below (qi D tc ad A rr (cmb I II)) args s 0 0 A) (F0 m 42 ls [])) : ∀ (v1 : Int32) (v2 : Int32) (v3 : Int32) (v4 : Int32) (v5 : Int32) (v6 : Int32) (v7 : Int32) (M : St), f_X8_results_b141 K42 v1 v2 v3 v4 v5 v6 v7 M = some (rr, II) → ∀ (H : Heap) (locs : List Loc) (ls : Array Slot), va_P D vwCl (wl tc ad (cmb I M)) H → va_S A s.heap H locs → lv_has ls 9 [(0, .ref (ad 152)), (1, .int v1), (2, .int v2), (3, .int v3), (4, .int v4), (5, .int v5), (6, .int v6), (7, .int v7)] → W p l e rm_X8_results s m args below meth c H locs 0 0 (MQ below (qi D tc ad A rr (cmb I II)) args s 0 0 A) (F0 m 141 ls []) := by
  intro v1 v2 v3 v4 v5 v6 v7 M h H locs ls hP hS hl
  unfold f_X8_results_b141 at h
  have hx := hX.1
  have hb := hX.2.1
  have hown := hX.2.2.2.1
  have hts := hX.2.2.2.2.1
  have hA := hX.2.2.2.2.2.2
  refine lv_iload hx hb dX8_results_141 (lv_at hl 7 rfl) ?_
  refine x_if_eq (tgt := 157) hx hb dX8_results_143 (by decide) h (fun c1 h => ?_) (fun c1 h => ?_)
  · exact t_X8_results_b157 hX hr hlk hK42 _ _ _ _ _ _ h _ _ _ hP hS (lv_sub hl [0, 1, 2, 3, 4, 5] rfl)
  · refine lv_aload_n hx hb dX8_results_146 rfl (lv_at hl 0 rfl) ?_
    refine m_getq (t := 156) hX hP cok6 6 sge_152 s157_152 sk_152 (by decide) rfl q786 dX8_results_147 ?_
    refine lv_iload_n hx hb dX8_results_150 rfl (lv_at hl 3 rfl) ?_
    refine lv_iload hx hb dX8_results_151 (lv_at hl 6 rfl) ?_
    refine m_ast hX hP hS h (sge_156) s157_156 sk_156 sn_156 dX8_results_153 (fun M2 H locs h hP hS => ?_)
    refine lv_iinc (v := (v3 + 1)) (lv' := [(3, .int (v3 + 1)), (0, .ref (ad 152)), (1, .int v1), (2, .int v2), (4, .int v4), (5, .int v5), (6, .int v6), (7, .int v7)]) hx hb dX8_results_154 hl (k := 3) rfl rfl (Nat.le_of_ble_eq_true rfl) rfl (fun ls hl => ?_)
    exact t_X8_results_b157 hX hr hlk hK42 _ _ _ _ _ _ h _ _ _ hP hS (lv_sub hl [1, 2, 3, 0, 4, 5] rfl)
set_option maxHeartbeats 4000000 in
set_option maxRecDepth 100000 in
theorem t_X8_results_l105 {p : Program} {l : Launch} {e : Env} {s : State} {m : MethodId} {args : Array Value} {below : List Frame} {meth : Method} {c : Code} {D : va_G} {tc : Tc} {ad : Nat → Nat} {A : Nat → Prop} {I : St} {rr : Int32} {II : St} (hX : cx p s m args c cX8_results 9 RX8 D tc ad A) (hr : meth.sig.returnType = some .int) (hlk : meth.locks = false) {K42 : Int32 → Int32 → Int32 → Int32 → Int32 → St → Option (Int32 × St)} (hK42 : ∀ (v1 : Int32) (v2 : Int32) (v3 : Int32) (v4 : Int32) (v5 : Int32) (M : St), K42 v1 v2 v3 v4 v5 M = some (rr, II) → ∀ (H : Heap) (locs : List Loc) (ls : Array Slot), va_P D vwCl (wl tc ad (cmb I M)) H → va_S A s.heap H locs → lv_has ls 9 [(0, .ref (ad 152)), (1, .int v1), (2, .int v2), (3, .int v3), (4, .int v4), (5, .int v5)] → W p l e rm_X8_results s m args below meth c H locs 0 0 (MQ below (qi D tc ad A rr (cmb I II)) args s 0 0 A) (F0 m 42 ls [])) : ∀ (n : Nat), ∀ (v1 : Int32) (v2 : Int32) (v3 : Int32) (v4 : Int32) (v5 : Int32) (v6 : Int32) (v7 : Int32) (v8 : Int32) (M : St), f_X8_results_l105 K42 n v1 v2 v3 v4 v5 v6 v7 v8 M = some (rr, II) → ∀ (H : Heap) (locs : List Loc) (ls : Array Slot), va_P D vwCl (wl tc ad (cmb I M)) H → va_S A s.heap H locs → lv_has ls 9 [(0, .ref (ad 152)), (1, .int v1), (2, .int v2), (3, .int v3), (4, .int v4), (5, .int v5), (6, .int v6), (7, .int v7), (8, .int v8)] → W p l e rm_X8_results s m args below meth c H locs 0 0 (MQ below (qi D tc ad A rr (cmb I II)) args s 0 0 A) (F0 m 105 ls []) := by
  intro n
  induction n with
  | zero =>
    intro _ _ _ _ _ _ _ _ _ h
    cases h
  | succ n ih =>
    intro v1 v2 v3 v4 v5 v6 v7 v8 M h H locs ls hP hS hl
    rw [f_X8_results_l105] at h
    have hx := hX.1
    have hb := hX.2.1
    have hown := hX.2.2.2.1
    have hts := hX.2.2.2.2.1
    have hA := hX.2.2.2.2.2.2
    refine lv_iload hx hb dX8_results_105 (lv_at hl 8 rfl) ?_
    refine lv_iload_n hx hb dX8_results_107 rfl (lv_at hl 3 rfl) ?_
    refine x_icmp_ge (tgt := 141) hx hb dX8_results_108 (by decide) h (fun c3 h => ?_) (fun c3 h => ?_)
    · exact t_X8_results_b141 hX hr hlk hK42 _ _ _ _ _ _ _ _ h _ _ _ hP hS (lv_sub hl [0, 1, 2, 3, 4, 5, 6, 7] rfl)
    · refine lv_iload hx hb dX8_results_111 (lv_at hl 7 rfl) ?_
      refine x_if_eq (tgt := 141) hx hb dX8_results_113 (by decide) h (fun c4 h => ?_) (fun c4 h => ?_)
      · exact t_X8_results_b141 hX hr hlk hK42 _ _ _ _ _ _ _ _ h _ _ _ hP hS (lv_sub hl [0, 1, 2, 3, 4, 5, 6, 7] rfl)
      · refine lv_aload_n hx hb dX8_results_116 rfl (lv_at hl 0 rfl) ?_
        refine m_getq (t := 156) hX hP cok6 6 sge_152 s157_152 sk_152 (by decide) rfl q786 dX8_results_117 ?_
        refine lv_iload hx hb dX8_results_120 (lv_at hl 8 rfl) ?_
        refine m_ald hX hP h (sge_156) s157_156 sk_156 sn_156 dX8_results_122 (fun h => ?_)
        refine x_let h (fun x5 h => ?_)
        refine lv_iload hx hb dX8_results_123 (lv_at hl 6 rfl) ?_
        refine x_icmp_eq (tgt := 132) hx hb dX8_results_125 (by decide) h (fun c6 h => ?_) (fun c6 h => ?_)
        · refine lv_iconst (v := 0) hx hb dX8_results_132 kc_i0 ?_
          exact t_X8_results_b133 hX hr hlk hK42 ih _ _ _ _ _ _ _ _ _ h _ _ _ hP hS (lv_sub hl [0, 1, 2, 3, 4, 5, 6, 8] rfl)
        · refine lv_iconst (v := 1) hx hb dX8_results_128 kc_i1 ?_
          refine lv_goto (tgt := 133) hx hb dX8_results_129 (by decide) ?_
          exact t_X8_results_b133 hX hr hlk hK42 ih _ _ _ _ _ _ _ _ _ h _ _ _ hP hS (lv_sub hl [0, 1, 2, 3, 4, 5, 6, 8] rfl)
set_option maxHeartbeats 4000000 in
set_option maxRecDepth 100000 in
theorem t_X8_results_b100 {p : Program} {l : Launch} {e : Env} {s : State} {m : MethodId} {args : Array Value} {below : List Frame} {meth : Method} {c : Code} {D : va_G} {tc : Tc} {ad : Nat → Nat} {A : Nat → Prop} {I : St} {rr : Int32} {II : St} (hX : cx p s m args c cX8_results 9 RX8 D tc ad A) (hr : meth.sig.returnType = some .int) (hlk : meth.locks = false) {K42 : Int32 → Int32 → Int32 → Int32 → Int32 → St → Option (Int32 × St)} (hK42 : ∀ (v1 : Int32) (v2 : Int32) (v3 : Int32) (v4 : Int32) (v5 : Int32) (M : St), K42 v1 v2 v3 v4 v5 M = some (rr, II) → ∀ (H : Heap) (locs : List Loc) (ls : Array Slot), va_P D vwCl (wl tc ad (cmb I M)) H → va_S A s.heap H locs → lv_has ls 9 [(0, .ref (ad 152)), (1, .int v1), (2, .int v2), (3, .int v3), (4, .int v4), (5, .int v5)] → W p l e rm_X8_results s m args below meth c H locs 0 0 (MQ below (qi D tc ad A rr (cmb I II)) args s 0 0 A) (F0 m 42 ls [])) : ∀ (v1 : Int32) (v2 : Int32) (v3 : Int32) (v5 : Int32) (v6 : Int32) (v7 : Int32) (t0 : Int32) (M : St), f_X8_results_b100 K42 v1 v2 v3 v5 v6 v7 t0 M = some (rr, II) → ∀ (H : Heap) (locs : List Loc) (ls : Array Slot), va_P D vwCl (wl tc ad (cmb I M)) H → va_S A s.heap H locs → lv_has ls 9 [(0, .ref (ad 152)), (1, .int v1), (2, .int v2), (3, .int v3), (5, .int v5), (6, .int v6), (7, .int v7)] → W p l e rm_X8_results s m args below meth c H locs 0 0 (MQ below (qi D tc ad A rr (cmb I II)) args s 0 0 A) (F0 m 100 ls [.int t0]) := by
  intro v1 v2 v3 v5 v6 v7 t0 M h H locs ls hP hS hl
  unfold f_X8_results_b100 at h
  have hx := hX.1
  have hb := hX.2.1
  have hown := hX.2.2.2.1
  have hts := hX.2.2.2.2.1
  have hA := hX.2.2.2.2.2.2
  refine lv_istore (lv' := [(4, .int t0), (0, .ref (ad 152)), (1, .int v1), (2, .int v2), (3, .int v3), (5, .int v5), (6, .int v6), (7, .int v7)]) hx hb dX8_results_100 hl (Nat.le_of_ble_eq_true rfl) rfl (fun ls hl => ?_)
  refine lv_iconst (v := 0) hx hb dX8_results_102 kc_i0 ?_
  refine lv_istore (lv' := [(8, .int 0), (4, .int t0), (0, .ref (ad 152)), (1, .int v1), (2, .int v2), (3, .int v3), (5, .int v5), (6, .int v6), (7, .int v7)]) hx hb dX8_results_103 hl (Nat.le_of_ble_eq_true rfl) rfl (fun ls hl => ?_)
  exact t_X8_results_l105 hX hr hlk hK42 10000 _ _ _ _ _ _ _ _ _ h _ _ _ hP hS (lv_sub hl [2, 3, 4, 5, 1, 6, 7, 8, 0] rfl)
set_option maxHeartbeats 4000000 in
set_option maxRecDepth 100000 in
theorem t_X8_results_b85 {p : Program} {l : Launch} {e : Env} {s : State} {m : MethodId} {args : Array Value} {below : List Frame} {meth : Method} {c : Code} {D : va_G} {tc : Tc} {ad : Nat → Nat} {A : Nat → Prop} {I : St} {rr : Int32} {II : St} (hX : cx p s m args c cX8_results 9 RX8 D tc ad A) (hr : meth.sig.returnType = some .int) (hlk : meth.locks = false) {K42 : Int32 → Int32 → Int32 → Int32 → Int32 → St → Option (Int32 × St)} (hK42 : ∀ (v1 : Int32) (v2 : Int32) (v3 : Int32) (v4 : Int32) (v5 : Int32) (M : St), K42 v1 v2 v3 v4 v5 M = some (rr, II) → ∀ (H : Heap) (locs : List Loc) (ls : Array Slot), va_P D vwCl (wl tc ad (cmb I M)) H → va_S A s.heap H locs → lv_has ls 9 [(0, .ref (ad 152)), (1, .int v1), (2, .int v2), (3, .int v3), (4, .int v4), (5, .int v5)] → W p l e rm_X8_results s m args below meth c H locs 0 0 (MQ below (qi D tc ad A rr (cmb I II)) args s 0 0 A) (F0 m 42 ls [])) : ∀ (v1 : Int32) (v2 : Int32) (v3 : Int32) (v4 : Int32) (v5 : Int32) (v6 : Int32) (t0 : Int32) (M : St), f_X8_results_b85 K42 v1 v2 v3 v4 v5 v6 t0 M = some (rr, II) → ∀ (H : Heap) (locs : List Loc) (ls : Array Slot), va_P D vwCl (wl tc ad (cmb I M)) H → va_S A s.heap H locs → lv_has ls 9 [(0, .ref (ad 152)), (1, .int v1), (2, .int v2), (3, .int v3), (4, .int v4), (5, .int v5), (6, .int v6)] → W p l e rm_X8_results s m args below meth c H locs 0 0 (MQ below (qi D tc ad A rr (cmb I II)) args s 0 0 A) (F0 m 85 ls [.int t0]) := by
  intro v1 v2 v3 v4 v5 v6 t0 M h H locs ls hP hS hl
  unfold f_X8_results_b85 at h
  have hx := hX.1
  have hb := hX.2.1
  have hown := hX.2.2.2.1
  have hts := hX.2.2.2.2.1
  have hA := hX.2.2.2.2.2.2
  refine lv_istore (lv' := [(7, .int t0), (0, .ref (ad 152)), (1, .int v1), (2, .int v2), (3, .int v3), (4, .int v4), (5, .int v5), (6, .int v6)]) hx hb dX8_results_85 hl (Nat.le_of_ble_eq_true rfl) rfl (fun ls hl => ?_)
  refine lv_aload_n hx hb dX8_results_87 rfl (lv_at hl 1 rfl) ?_
  refine m_get hX hP cok6 4 sge_152 s157_152 sk_152 (by decide) rfl q784 dX8_results_88 ?_
  refine x_if_eq (tgt := 98) hx hb dX8_results_91 (by decide) h (fun c7 h => ?_) (fun c7 h => ?_)
  · refine lv_iload hx hb dX8_results_98 (lv_at hl 5 rfl) ?_
    exact t_X8_results_b100 hX hr hlk hK42 _ _ _ _ _ _ _ _ h _ _ _ hP hS (lv_sub hl [1, 2, 3, 4, 6, 7, 0] rfl)
  · refine lv_iconst (v := 1) hx hb dX8_results_94 kc_i1 ?_
    refine lv_goto (tgt := 100) hx hb dX8_results_95 (by decide) ?_
    exact t_X8_results_b100 hX hr hlk hK42 _ _ _ _ _ _ _ _ h _ _ _ hP hS (lv_sub hl [1, 2, 3, 4, 6, 7, 0] rfl)
set_option maxHeartbeats 4000000 in
set_option maxRecDepth 100000 in
theorem t_X8_results_l42 {p : Program} {l : Launch} {e : Env} {s : State} {m : MethodId} {args : Array Value} {below : List Frame} {meth : Method} {c : Code} {D : va_G} {tc : Tc} {ad : Nat → Nat} {A : Nat → Prop} {I : St} {rr : Int32} {II : St} (hX : cx p s m args c cX8_results 9 RX8 D tc ad A) (hr : meth.sig.returnType = some .int) (hlk : meth.locks = false) : ∀ (n : Nat), ∀ (v1 : Int32) (v2 : Int32) (v3 : Int32) (v4 : Int32) (v5 : Int32) (M : St), f_X8_results_l42 n v1 v2 v3 v4 v5 M = some (rr, II) → ∀ (H : Heap) (locs : List Loc) (ls : Array Slot), va_P D vwCl (wl tc ad (cmb I M)) H → va_S A s.heap H locs → lv_has ls 9 [(0, .ref (ad 152)), (1, .int v1), (2, .int v2), (3, .int v3), (4, .int v4), (5, .int v5)] → W p l e rm_X8_results s m args below meth c H locs 0 0 (MQ below (qi D tc ad A rr (cmb I II)) args s 0 0 A) (F0 m 42 ls []) := by
  intro n
  induction n with
  | zero =>
    intro _ _ _ _ _ _ h
    cases h
  | succ n ih =>
    intro v1 v2 v3 v4 v5 M h H locs ls hP hS hl
    rw [f_X8_results_l42] at h
    have hx := hX.1
    have hb := hX.2.1
    have hown := hX.2.2.2.1
    have hts := hX.2.2.2.2.1
    have hA := hX.2.2.2.2.2.2
    refine lv_iload hx hb dX8_results_42 (lv_at hl 5 rfl) ?_
    refine lv_sipush (v := 256) hx hb dX8_results_44 kc_s256 ?_
    refine x_icmp_ge (tgt := 163) hx hb dX8_results_47 (by decide) h (fun c8 h => ?_) (fun c8 h => ?_)
    · refine lv_iload_n hx hb dX8_results_163 rfl (lv_at hl 3 rfl) ?_
      refine lv_iload hx hb dX8_results_164 (lv_at hl 4 rfl) ?_
      refine lv_iadd hx hb dX8_results_166 ?_
      cases h
      exact j_iret hX hr hlk hP hS dX8_results_167
    · refine lv_iload hx hb dX8_results_50 (lv_at hl 5 rfl) ?_
      refine lv_iload_n hx hb dX8_results_52 rfl (lv_at hl 1 rfl) ?_
      refine lv_iconst (v := (-1)) hx hb dX8_results_53 kc_im1 ?_
      refine lv_ixor hx hb dX8_results_54 ?_
      refine lv_iand hx hb dX8_results_55 ?_
      refine x_if_ne (tgt := 157) hx hb dX8_results_56 (by decide) h (fun c9 h => ?_) (fun c9 h => ?_)
      · exact t_X8_results_b157 hX hr hlk ih _ _ _ _ _ _ h _ _ _ hP hS (lv_sub hl [0, 1, 2, 3, 4, 5] rfl)
      · refine lv_aload_n hx hb dX8_results_59 rfl (lv_at hl 0 rfl) ?_
        refine lv_iload_n hx hb dX8_results_60 rfl (lv_at hl 2 rfl) ?_
        refine lv_iload_n hx hb dX8_results_61 rfl (lv_at hl 1 rfl) ?_
        refine lv_iconst (v := (-1)) hx hb dX8_results_62 kc_im1 ?_
        refine lv_ixor hx hb dX8_results_63 ?_
        refine lv_iand hx hb dX8_results_64 ?_
        refine x_let h (fun x10 h => ?_)
        refine lv_iload hx hb dX8_results_65 (lv_at hl 5 rfl) ?_
        refine lv_ior hx hb dX8_results_67 ?_
        obtain ⟨r13, M12, e11, h⟩ := ob2_some h
        refine j_i (j_runV (rest := []) hX hP hl.1 Y_X8_outputOf cok6 (s157_152) sk_152 (c_X8_outputOf hA e11) ⟨rfl, rfl⟩ q979 ⟨Nat.le_of_ble_eq_true rfl, Nat.le_of_ble_eq_true rfl⟩ rfl rfl (Nat.le_of_ble_eq_true rfl) dX8_results_68) hS (fun H locs hP hS => ?_)
        refine lv_istore (lv' := [(6, .int r13), (0, .ref (ad 152)), (1, .int v1), (2, .int v2), (3, .int v3), (4, .int v4), (5, .int v5)]) hx hb dX8_results_71 hl (Nat.le_of_ble_eq_true rfl) rfl (fun ls hl => ?_)
        refine lv_aload_n hx hb dX8_results_73 rfl (lv_at hl 1 rfl) ?_
        refine m_get hX hP cok6 4 sge_152 s157_152 sk_152 (by decide) rfl q784 dX8_results_74 ?_
        refine x_if_ne (tgt := 84) hx hb dX8_results_77 (by decide) h (fun c14 h => ?_) (fun c14 h => ?_)
        · refine lv_iconst (v := 0) hx hb dX8_results_84 kc_i0 ?_
          exact t_X8_results_b85 hX hr hlk ih _ _ _ _ _ _ _ _ h _ _ _ hP hS (lv_sub hl [1, 2, 3, 4, 5, 6, 0] rfl)
        · refine lv_iconst (v := 1) hx hb dX8_results_80 kc_i1 ?_
          refine lv_goto (tgt := 85) hx hb dX8_results_81 (by decide) ?_
          exact t_X8_results_b85 hX hr hlk ih _ _ _ _ _ _ _ _ h _ _ _ hP hS (lv_sub hl [1, 2, 3, 4, 5, 6, 0] rfl)
set_option maxHeartbeats 4000000 in
set_option maxRecDepth 100000 in
theorem c_X8_results {l : Launch} {D : va_G} {tc : Tc} {ad : Nat → Nat} {A : Nat → Prop} (hA : adok ad A) {I M : St} {v1 : Int32} {rr : Int32} {II : St} (h : f_X8_results v1 M = some (rr, II)) : Met l yX8_results (Cond.code yX8_results cX8_results 9 (some .int) :: tw) rm_X8_results (pre D tc ad [.ref (ad 152), .int v1] (cmb I M)) (qi D tc ad A rr (cmb I II)) 0 0 A := by
  unfold f_X8_results at h
  refine mk_met (own := RX8) (by decide +kernel) rfl hA (Nat.le_of_ble_eq_true rfl) ?_
  intro p e s m below meth c ls hX hr hlk hl hP hS
  have hl : lv_has ls 9 [(0, .ref (ad 152)), (1, .int v1)] := hl
  have hx := hX.1
  have hb := hX.2.1
  have hown := hX.2.2.2.1
  have hts := hX.2.2.2.2.1
  refine lv_iload_n hx hb dX8_results_0 rfl (lv_at hl 1 rfl) ?_
  refine lv_iconst (v := 0) hx hb dX8_results_1 kc_i0 ?_
  refine lv_sipush (v := 255) hx hb dX8_results_2 kc_s255 ?_
  obtain ⟨r16, e15, h⟩ := ob1_some h
  refine j_i (j_runS (rest := []) hX hP hl.1 Y_X8_in (c_X8_in hA e15) ⟨rfl, rfl⟩ q807 ⟨Nat.le_of_ble_eq_true rfl, Nat.le_of_ble_eq_true rfl⟩ rfl rfl (Nat.le_of_ble_eq_true rfl) dX8_results_5) hS (fun H locs hP hS => ?_)
  refine x_if_ne (tgt := 13) hx hb dX8_results_8 (by decide) h (fun c17 h => ?_) (fun c17 h => ?_)
  · refine lv_aload_n hx hb dX8_results_13 rfl (lv_at hl 0 rfl) ?_
    refine lv_iload_n hx hb dX8_results_14 rfl (lv_at hl 1 rfl) ?_
    obtain ⟨r19, e18, h⟩ := ob1_some h
    refine j_i (j_runV (rest := []) hX hP hl.1 Y_X8_mayJoin cok6 (s157_152) sk_152 (c_X8_mayJoin hA e18) ⟨rfl, rfl⟩ q1058 ⟨Nat.le_of_ble_eq_true rfl, Nat.le_of_ble_eq_true rfl⟩ rfl rfl (Nat.le_of_ble_eq_true rfl) dX8_results_15) hS (fun H locs hP hS => ?_)
    refine x_if_ne (tgt := 24) hx hb dX8_results_18 (by decide) h (fun c20 h => ?_) (fun c20 h => ?_)
    · refine lv_aload_n hx hb dX8_results_24 rfl (lv_at hl 0 rfl) ?_
      obtain ⟨M22, e21, h⟩ := ob1_some h
      refine j_v (j_runV (rest := []) hX hP hl.1 Y_X8_takesSecrets cok6 (s157_152) sk_152 (c_X8_takesSecrets hA e21) ⟨rfl, rfl⟩ q975 ⟨Nat.le_of_ble_eq_true rfl, Nat.le_of_ble_eq_true rfl⟩ rfl rfl (Nat.le_of_ble_eq_true rfl) dX8_results_25) hS (fun H locs hP hS => ?_)
      refine lv_aload_n hx hb dX8_results_28 rfl (lv_at hl 0 rfl) ?_
      refine lv_iconst (v := 5) hx hb dX8_results_29 kc_i5 ?_
      obtain ⟨r24, e23, h⟩ := ob1_some h
      refine j_i (j_runV (rest := []) hX hP hl.1 Y_X8_setOf cok6 (s157_152) sk_152 (c_X8_setOf hA e23) ⟨rfl, rfl⟩ q952 ⟨Nat.le_of_ble_eq_true rfl, Nat.le_of_ble_eq_true rfl⟩ rfl rfl (Nat.le_of_ble_eq_true rfl) dX8_results_30) hS (fun H locs hP hS => ?_)
      refine lv_istore_n (lv' := [(2, .int r24), (0, .ref (ad 152)), (1, .int v1)]) hx hb dX8_results_33 rfl hl (Nat.le_of_ble_eq_true rfl) rfl (fun ls hl => ?_)
      refine lv_iconst (v := 0) hx hb dX8_results_34 kc_i0 ?_
      refine lv_istore_n (lv' := [(3, .int 0), (2, .int r24), (0, .ref (ad 152)), (1, .int v1)]) hx hb dX8_results_35 rfl hl (Nat.le_of_ble_eq_true rfl) rfl (fun ls hl => ?_)
      refine lv_iconst (v := 0) hx hb dX8_results_36 kc_i0 ?_
      refine lv_istore (lv' := [(4, .int 0), (3, .int 0), (2, .int r24), (0, .ref (ad 152)), (1, .int v1)]) hx hb dX8_results_37 hl (Nat.le_of_ble_eq_true rfl) rfl (fun ls hl => ?_)
      refine lv_iconst (v := 0) hx hb dX8_results_39 kc_i0 ?_
      refine lv_istore (lv' := [(5, .int 0), (4, .int 0), (3, .int 0), (2, .int r24), (0, .ref (ad 152)), (1, .int v1)]) hx hb dX8_results_40 hl (Nat.le_of_ble_eq_true rfl) rfl (fun ls hl => ?_)
      exact t_X8_results_l42 hX hr hlk  10000 _ _ _ _ _ _ h _ _ _ hP hS (lv_sub hl [4, 5, 3, 2, 1, 0] rfl)
    · refine lv_bipush (v := (-2)) hx hb dX8_results_21 kc_bm2 ?_
      cases h
      exact j_iret hX hr hlk hP hS dX8_results_23
  · refine lv_iconst (v := (-1)) hx hb dX8_results_11 kc_im1 ?_
    cases h
    exact j_iret hX hr hlk hP hS dX8_results_12
