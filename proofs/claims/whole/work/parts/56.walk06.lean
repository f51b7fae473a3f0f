/-! OwnerlessCoin.isSlowTask(II)Z -/
def rm_X7_isSlowTask : Room := { frames := 1, cells := 0, slots := 0, locals := 22 }
theorem Y_X7_isSlowTask : ys yX7_isSlowTask cX7_isSlowTask 2 (some .boolean) 2 := ⟨q675, q674, q51, by decide +kernel⟩
set_option maxHeartbeats 4000000 in
set_option maxRecDepth 100000 in
theorem t_X7_isSlowTask_b26 {p : Program} {l : Launch} {e : Env} {s : State} {m : MethodId} {args : Array Value} {below : List Frame} {meth : Method} {c : Code} {D : va_G} {tc : Tc} {ad : Nat → Nat} {A : Nat → Prop} {J : St} {rr : Int32} (hX : cx p s m args c cX7_isSlowTask 2 RX7 D tc ad A) (hr : meth.sig.returnType = some .boolean) (hlk : meth.locks = false) : ∀ (t0 : Int32), f_X7_isSlowTask_b26 t0 = some rr → ∀ (H : Heap) (locs : List Loc) (ls : Array Slot), va_P D vwCl (wl tc ad J) H → va_S A s.heap H locs → lv_has ls 2 [] → W p l e rm_X7_isSlowTask s m args below meth c H locs 0 0 (MQ below (qi D tc ad A rr J) args s 0 0 A) (F0 m 26 ls [.int t0]) := by
  intro t0 h H locs ls hP hS hl
  unfold f_X7_isSlowTask_b26 at h
  have hx := hX.1
  have hb := hX.2.1
  have hown := hX.2.2.2.1
  have hts := hX.2.2.2.2.1
  have hA := hX.2.2.2.2.2.2
  obtain ⟨gz, h⟩ := ck_some h
  cases h
  exact j_zret hX hr hlk hP hS (isB_or gz) dX7_isSlowTask_26
set_option maxHeartbeats 4000000 in
set_option maxRecDepth 100000 in
theorem t_X7_isSlowTask_b25 {p : Program} {l : Launch} {e : Env} {s : State} {m : MethodId} {args : Array Value} {below : List Frame} {meth : Method} {c : Code} {D : va_G} {tc : Tc} {ad : Nat → Nat} {A : Nat → Prop} {J : St} {rr : Int32} (hX : cx p s m args c cX7_isSlowTask 2 RX7 D tc ad A) (hr : meth.sig.returnType = some .boolean) (hlk : meth.locks = false) : f_X7_isSlowTask_b25 = some rr → ∀ (H : Heap) (locs : List Loc) (ls : Array Slot), va_P D vwCl (wl tc ad J) H → va_S A s.heap H locs → lv_has ls 2 [] → W p l e rm_X7_isSlowTask s m args below meth c H locs 0 0 (MQ below (qi D tc ad A rr J) args s 0 0 A) (F0 m 25 ls []) := by
  intro  h H locs ls hP hS hl
  unfold f_X7_isSlowTask_b25 at h
  have hx := hX.1
  have hb := hX.2.1
  have hown := hX.2.2.2.1
  have hts := hX.2.2.2.2.1
  have hA := hX.2.2.2.2.2.2
  refine lv_iconst (v := 0) hx hb dX7_isSlowTask_25 kc_i0 ?_
  exact t_X7_isSlowTask_b26 hX hr hlk  _ h _ _ _ hP hS (lv_sub hl [] rfl)
set_option maxHeartbeats 4000000 in
set_option maxRecDepth 100000 in
theorem c_X7_isSlowTask {l : Launch} {D : va_G} {tc : Tc} {ad : Nat → Nat} {A : Nat → Prop} (hA : adok ad A) {J : St} {v0 : Int32} {v1 : Int32} {rr : Int32} (h : f_X7_isSlowTask v0 v1 = some rr) : Met l yX7_isSlowTask (Cond.code yX7_isSlowTask cX7_isSlowTask 2 (some .boolean) :: tw) rm_X7_isSlowTask (pre D tc ad [.int v0, .int v1] J) (qi D tc ad A rr J) 0 0 A := by
  unfold f_X7_isSlowTask at h
  refine mk_met (own := RX7) (by decide +kernel) rfl hA (Nat.le_of_ble_eq_true rfl) ?_
  intro p e s m below meth c ls hX hr hlk hl hP hS
  have hl : lv_has ls 2 [(0, .int v0), (1, .int v1)] := hl
  have hx := hX.1
  have hb := hX.2.1
  have hown := hX.2.2.2.1
  have hts := hX.2.2.2.2.1
  refine lv_iload_n hx hb dX7_isSlowTask_0 rfl (lv_at hl 0 rfl) ?_
  refine lv_iconst (v := 2) hx hb dX7_isSlowTask_1 kc_i2 ?_
  refine lv_ldc (v := 100000) hx hb hown (hts _ q676) dX7_isSlowTask_2 ?_
  obtain ⟨r2, e1, h⟩ := ob1_some h
  refine j_i (j_runS (rest := []) hX hP hl.1 Y_X7_isWithin (c_X7_isWithin hA e1) ⟨rfl, rfl⟩ q301 ⟨Nat.le_of_ble_eq_true rfl, Nat.le_of_ble_eq_true rfl⟩ rfl rfl (Nat.le_of_ble_eq_true rfl) dX7_isSlowTask_4) hS (fun H locs hP hS => ?_)
  refine x_if_eq (tgt := 25) hx hb dX7_isSlowTask_7 (by decide) h (fun c3 h => ?_) (fun c3 h => ?_)
  · exact t_X7_isSlowTask_b25 hX hr hlk   h _ _ _ hP hS (lv_sub hl [] rfl)
  · refine lv_iload_n hx hb dX7_isSlowTask_10 rfl (lv_at hl 1 rfl) ?_
    refine lv_iconst (v := 0) hx hb dX7_isSlowTask_11 kc_i0 ?_
    refine lv_sipush (v := 5000) hx hb dX7_isSlowTask_12 kc_s5000 ?_
    obtain ⟨r5, e4, h⟩ := ob1_some h
    refine j_i (j_runS (rest := []) hX hP hl.1 Y_X7_isWithin (c_X7_isWithin hA e4) ⟨rfl, rfl⟩ q301 ⟨Nat.le_of_ble_eq_true rfl, Nat.le_of_ble_eq_true rfl⟩ rfl rfl (Nat.le_of_ble_eq_true rfl) dX7_isSlowTask_15) hS (fun H locs hP hS => ?_)
    refine x_if_eq (tgt := 25) hx hb dX7_isSlowTask_18 (by decide) h (fun c6 h => ?_) (fun c6 h => ?_)
    · exact t_X7_isSlowTask_b25 hX hr hlk   h _ _ _ hP hS (lv_sub hl [] rfl)
    · refine lv_iconst (v := 1) hx hb dX7_isSlowTask_21 kc_i1 ?_
      refine lv_goto (tgt := 26) hx hb dX7_isSlowTask_22 (by decide) ?_
      exact t_X7_isSlowTask_b26 hX hr hlk  _ h _ _ _ hP hS (lv_sub hl [] rfl)
/-! OwnerlessCoin.slow(II)I -/
def rm_X7_slow : Room := { frames := 2, cells := 0, slots := 0, locals := 45 }
theorem Y_X7_slow : yv yX7_slow cX7_slow 3 (some .int) 2 RX7 := ⟨q672, q670, q671, q51, by decide +kernel⟩
set_option maxHeartbeats 4000000 in
set_option maxRecDepth 100000 in
theorem c_X7_slow {l : Launch} {D : va_G} {tc : Tc} {ad : Nat → Nat} {A : Nat → Prop} (hA : adok ad A) {J : St} {v1 : Int32} {v2 : Int32} {rr : Int32} (h : f_X7_slow v1 v2 = some rr) : Met l yX7_slow (Cond.code yX7_slow cX7_slow 3 (some .int) :: tw) rm_X7_slow (pre D tc ad [.ref (ad 145), .int v1, .int v2] J) (qi D tc ad A rr J) 0 0 A := by
  unfold f_X7_slow at h
  refine mk_met (own := RX7) (by decide +kernel) rfl hA (Nat.le_of_ble_eq_true rfl) ?_
  intro p e s m below meth c ls hX hr hlk hl hP hS
  have hl : lv_has ls 3 [(0, .ref (ad 145)), (1, .int v1), (2, .int v2)] := hl
  have hx := hX.1
  have hb := hX.2.1
  have hown := hX.2.2.2.1
  have hts := hX.2.2.2.2.1
  refine lv_iload_n hx hb dX7_slow_0 rfl (lv_at hl 1 rfl) ?_
  refine lv_iload_n hx hb dX7_slow_1 rfl (lv_at hl 2 rfl) ?_
  obtain ⟨r2, e1, h⟩ := ob1_some h
  refine j_i (j_runS (rest := []) hX hP hl.1 Y_X7_isSlowTask (c_X7_isSlowTask hA e1) ⟨rfl, rfl⟩ q673 ⟨Nat.le_of_ble_eq_true rfl, Nat.le_of_ble_eq_true rfl⟩ rfl rfl (Nat.le_of_ble_eq_true rfl) dX7_slow_2) hS (fun H locs hP hS => ?_)
  refine x_if_ne (tgt := 10) hx hb dX7_slow_5 (by decide) h (fun c3 h => ?_) (fun c3 h => ?_)
  · refine lv_iload_n hx hb dX7_slow_10 rfl (lv_at hl 1 rfl) ?_
    refine lv_iload_n hx hb dX7_slow_11 rfl (lv_at hl 2 rfl) ?_
    obtain ⟨r5, e4, h⟩ := ob1_some h
    refine j_i (j_runS (rest := []) hX hP hl.1 Y_X6_value (c_X6_value hA e4) ⟨rfl, rfl⟩ q677 ⟨Nat.le_of_ble_eq_true rfl, Nat.le_of_ble_eq_true rfl⟩ rfl rfl (Nat.le_of_ble_eq_true rfl) dX7_slow_12) hS (fun H locs hP hS => ?_)
    cases h
    exact j_iret hX hr hlk hP hS dX7_slow_15
  · refine lv_iconst (v := (-1)) hx hb dX7_slow_8 kc_im1 ?_
    cases h
    exact j_iret hX hr hlk hP hS dX7_slow_9
/-! OwnerlessCoin$SlowWork.valueByFactors(II)I -/
def rm_X6_valueByFactors : Room := { frames := 2, cells := 0, slots := 0, locals := 46 }
theorem Y_X6_valueByFactors : ys yX6_valueByFactors cX6_valueByFactors 3 (some .int) 2 := ⟨q685, q684, q60, by decide +kernel⟩
set_option maxHeartbeats 4000000 in
set_option maxRecDepth 100000 in
theorem c_X6_valueByFactors {l : Launch} {D : va_G} {tc : Tc} {ad : Nat → Nat} {A : Nat → Prop} (hA : adok ad A) {J : St} {v0 : Int32} {v1 : Int32} {rr : Int32} (h : f_X6_valueByFactors v0 v1 = some rr) : Met l yX6_valueByFactors (Cond.code yX6_valueByFactors cX6_valueByFactors 3 (some .int) :: tw) rm_X6_valueByFactors (pre D tc ad [.int v0, .int v1] J) (qi D tc ad A rr J) 0 0 A := by
  unfold f_X6_valueByFactors at h
  refine mk_met (own := RX6) (by decide +kernel) rfl hA (Nat.le_of_ble_eq_true rfl) ?_
  intro p e s m below meth c ls hX hr hlk hl hP hS
  have hl : lv_has ls 3 [(0, .int v0), (1, .int v1)] := hl
  have hx := hX.1
  have hb := hX.2.1
  have hown := hX.2.2.2.1
  have hts := hX.2.2.2.2.1
  refine lv_iconst (v := 2) hx hb dX6_valueByFactors_0 kc_i2 ?_
  refine lv_iload_n hx hb dX6_valueByFactors_1 rfl (lv_at hl 1 rfl) ?_
  refine lv_ldc (v := 62599708) hx hb hown (hts _ q686) dX6_valueByFactors_2 ?_
  obtain ⟨r2, e1, h⟩ := ob1_some h
  refine j_i (j_runN (rest := []) hX hP hl.1 Y_X7_power (c_X7_power hA e1) ⟨rfl, rfl⟩ nw15 ⟨Nat.le_of_ble_eq_true rfl, Nat.le_of_ble_eq_true rfl⟩ rfl rfl (Nat.le_of_ble_eq_true rfl) dX6_valueByFactors_4) hS (fun H locs hP hS => ?_)
  refine lv_istore_n (lv' := [(2, .int r2), (0, .int v0), (1, .int v1)]) hx hb dX6_valueByFactors_7 rfl hl (Nat.le_of_ble_eq_true rfl) rfl (fun ls hl => ?_)
  refine lv_iload_n hx hb dX6_valueByFactors_8 rfl (lv_at hl 1 rfl) ?_
  refine lv_iload_n hx hb dX6_valueByFactors_9 rfl (lv_at hl 0 rfl) ?_
  refine lv_ldc (v := 62615533) hx hb hown (hts _ q432) dX6_valueByFactors_10 ?_
  obtain ⟨r4, e3, h⟩ := ob1_some h
  refine j_i (j_runN (rest := []) hX hP hl.1 Y_X7_power (c_X7_power hA e3) ⟨rfl, rfl⟩ nw15 ⟨Nat.le_of_ble_eq_true rfl, Nat.le_of_ble_eq_true rfl⟩ rfl rfl (Nat.le_of_ble_eq_true rfl) dX6_valueByFactors_12) hS (fun H locs hP hS => ?_)
  cases h
  exact j_iret hX hr hlk hP hS dX6_valueByFactors_15
/-! OwnerlessCoin.quick(II)I -/
def rm_X7_quick : Room := { frames := 3, cells := 0, slots := 0, locals := 68 }
theorem Y_X7_quick : yv yX7_quick cX7_quick 3 (some .int) 2 RX7 := ⟨q681, q679, q680, q51, by decide +kernel⟩
set_option maxHeartbeats 4000000 in
set_option maxRecDepth 100000 in
theorem t_X7_quick_b21 {p : Program} {l : Launch} {e : Env} {s : State} {m : MethodId} {args : Array Value} {below : List Frame} {meth : Method} {c : Code} {D : va_G} {tc : Tc} {ad : Nat → Nat} {A : Nat → Prop} {J : St} {rr : Int32} (hX : cx p s m args c cX7_quick 3 RX7 D tc ad A) (hr : meth.sig.returnType = some .int) (hlk : meth.locks = false) : f_X7_quick_b21 = some rr → ∀ (H : Heap) (locs : List Loc) (ls : Array Slot), va_P D vwCl (wl tc ad J) H → va_S A s.heap H locs → lv_has ls 3 [] → W p l e rm_X7_quick s m args below meth c H locs 0 0 (MQ below (qi D tc ad A rr J) args s 0 0 A) (F0 m 21 ls []) := by
  intro  h H locs ls hP hS hl
  unfold f_X7_quick_b21 at h
  have hx := hX.1
  have hb := hX.2.1
  have hown := hX.2.2.2.1
  have hts := hX.2.2.2.2.1
  have hA := hX.2.2.2.2.2.2
  refine lv_iconst (v := (-1)) hx hb dX7_quick_21 kc_im1 ?_
  cases h
  exact j_iret hX hr hlk hP hS dX7_quick_22
set_option maxHeartbeats 4000000 in
set_option maxRecDepth 100000 in
theorem c_X7_quick {l : Launch} {D : va_G} {tc : Tc} {ad : Nat → Nat} {A : Nat → Prop} (hA : adok ad A) {J : St} {v1 : Int32} {v2 : Int32} {rr : Int32} (h : f_X7_quick v1 v2 = some rr) : Met l yX7_quick (Cond.code yX7_quick cX7_quick 3 (some .int) :: tw) rm_X7_quick (pre D tc ad [.ref (ad 145), .int v1, .int v2] J) (qi D tc ad A rr J) 0 0 A := by
  unfold f_X7_quick at h
  refine mk_met (own := RX7) (by decide +kernel) rfl hA (Nat.le_of_ble_eq_true rfl) ?_
  intro p e s m below meth c ls hX hr hlk hl hP hS
  have hl : lv_has ls 3 [(0, .ref (ad 145)), (1, .int v1), (2, .int v2)] := hl
  have hx := hX.1
  have hb := hX.2.1
  have hown := hX.2.2.2.1
  have hts := hX.2.2.2.2.1
  refine lv_iload_n hx hb dX7_quick_0 rfl (lv_at hl 1 rfl) ?_
  refine lv_iconst (v := 2) hx hb dX7_quick_1 kc_i2 ?_
  refine lv_sipush (v := 7906) hx hb dX7_quick_2 kc_s7906 ?_
  obtain ⟨r2, e1, h⟩ := ob1_some h
  refine j_i (j_runS (rest := []) hX hP hl.1 Y_X7_isWithin (c_X7_isWithin hA e1) ⟨rfl, rfl⟩ q301 ⟨Nat.le_of_ble_eq_true rfl, Nat.le_of_ble_eq_true rfl⟩ rfl rfl (Nat.le_of_ble_eq_true rfl) dX7_quick_5) hS (fun H locs hP hS => ?_)
  refine x_if_eq (tgt := 21) hx hb dX7_quick_8 (by decide) h (fun c3 h => ?_) (fun c3 h => ?_)
  · exact t_X7_quick_b21 hX hr hlk   h _ _ _ hP hS (lv_sub hl [] rfl)
  · refine lv_iload_n hx hb dX7_quick_11 rfl (lv_at hl 2 rfl) ?_
    refine lv_iconst (v := 0) hx hb dX7_quick_12 kc_i0 ?_
    refine lv_ldc (v := 1000000000) hx hb hown (hts _ q682) dX7_quick_13 ?_
    obtain ⟨r5, e4, h⟩ := ob1_some h
    refine j_i (j_runS (rest := []) hX hP hl.1 Y_X7_isWithin (c_X7_isWithin hA e4) ⟨rfl, rfl⟩ q301 ⟨Nat.le_of_ble_eq_true rfl, Nat.le_of_ble_eq_true rfl⟩ rfl rfl (Nat.le_of_ble_eq_true rfl) dX7_quick_15) hS (fun H locs hP hS => ?_)
    refine x_if_ne (tgt := 23) hx hb dX7_quick_18 (by decide) h (fun c6 h => ?_) (fun c6 h => ?_)
    · refine lv_iload_n hx hb dX7_quick_23 rfl (lv_at hl 1 rfl) ?_
      refine lv_iload_n hx hb dX7_quick_24 rfl (lv_at hl 2 rfl) ?_
      obtain ⟨r8, e7, h⟩ := ob1_some h
      refine j_i (j_runS (rest := []) hX hP hl.1 Y_X6_valueByFactors (c_X6_valueByFactors hA e7) ⟨rfl, rfl⟩ q683 ⟨Nat.le_of_ble_eq_true rfl, Nat.le_of_ble_eq_true rfl⟩ rfl rfl (Nat.le_of_ble_eq_true rfl) dX7_quick_25) hS (fun H locs hP hS => ?_)
      cases h
      exact j_iret hX hr hlk hP hS dX7_quick_28
    · exact t_X7_quick_b21 hX hr hlk   h _ _ _ hP hS (lv_sub hl [] rfl)
/-! OwnerlessCoin$SlowWork.isPrime(I)Z -/
def rm_X6_isPrime : Room := { frames := 0, cells := 0, slots := 0, locals := 0 }
theorem Y_X6_isPrime : ys yX6_isPrime cX6_isPrime 2 (some .boolean) 1 := ⟨q701, q700, q60, by decide +kernel⟩
set_option maxHeartbeats 4000000 in
set_option maxRecDepth 100000 in
theorem t_X6_isPrime_b33 {p : Program} {l : Launch} {e : Env} {s : State} {m : MethodId} {args : Array Value} {below : List Frame} {meth : Method} {c : Code} {D : va_G} {tc : Tc} {ad : Nat → Nat} {A : Nat → Prop} {J : St} {rr : Int32} (hX : cx p s m args c cX6_isPrime 2 RX6 D tc ad A) (hr : meth.sig.returnType = some .boolean) (hlk : meth.locks = false) : ∀ (t0 : Int32), f_X6_isPrime_b33 t0 = some rr → ∀ (H : Heap) (locs : List Loc) (ls : Array Slot), va_P D vwCl (wl tc ad J) H → va_S A s.heap H locs → lv_has ls 2 [] → W p l e rm_X6_isPrime s m args below meth c H locs 0 0 (MQ below (qi D tc ad A rr J) args s 0 0 A) (F0 m 33 ls [.int t0]) := by
  intro t0 h H locs ls hP hS hl
  unfold f_X6_isPrime_b33 at h
  have hx := hX.1
  have hb := hX.2.1
  have hown := hX.2.2.2.1
  have hts := hX.2.2.2.2.1
  have hA := hX.2.2.2.2.2.2
  obtain ⟨gz, h⟩ := ck_some h
  cases h
  exact j_zret hX hr hlk hP hS (isB_or gz) dX6_isPrime_33
set_option maxHeartbeats 4000000 in
set_option maxRecDepth 100000 in
theorem t_X6_isPrime_l2 {p : Program} {l : Launch} {e : Env} {s : State} {m : MethodId} {args : Array Value} {below : List Frame} {meth : Method} {c : Code} {D : va_G} {tc : Tc} {ad : Nat → Nat} {A : Nat → Prop} {J : St} {rr : Int32} (hX : cx p s m args c cX6_isPrime 2 RX6 D tc ad A) (hr : meth.sig.returnType = some .boolean) (hlk : meth.locks = false) : ∀ (n : Nat), ∀ (v0 : Int32) (v1 : Int32), f_X6_isPrime_l2 n v0 v1 = some rr → ∀ (H : Heap) (locs : List Loc) (ls : Array Slot), va_P D vwCl (wl tc ad J) H → va_S A s.heap H locs → lv_has ls 2 [(0, .int v0), (1, .int v1)] → W p l e rm_X6_isPrime s m args below meth c H locs 0 0 (MQ below (qi D tc ad A rr J) args s 0 0 A) (F0 m 2 ls []) := by
  intro n
  induction n with
  | zero =>
    intro _ _ h
    cases h
  | succ n ih =>
    intro v0 v1 h H locs ls hP hS hl
    rw [f_X6_isPrime_l2] at h
    have hx := hX.1
    have hb := hX.2.1
    have hown := hX.2.2.2.1
    have hts := hX.2.2.2.2.1
    have hA := hX.2.2.2.2.2.2
    refine lv_iload_n hx hb dX6_isPrime_2 rfl (lv_at hl 1 rfl) ?_
    refine lv_iload_n hx hb dX6_isPrime_3 rfl (lv_at hl 1 rfl) ?_
    refine lv_imul hx hb dX6_isPrime_4 ?_
    refine x_let h (fun x1 h => ?_)
    refine lv_iload_n hx hb dX6_isPrime_5 rfl (lv_at hl 0 rfl) ?_
    refine x_icmp_gt (tgt := 23) hx hb dX6_isPrime_6 (by decide) h (fun c2 h => ?_) (fun c2 h => ?_)
    · refine lv_iload_n hx hb dX6_isPrime_23 rfl (lv_at hl 0 rfl) ?_
      refine lv_iconst (v := 2) hx hb dX6_isPrime_24 kc_i2 ?_
      refine x_icmp_lt (tgt := 32) hx hb dX6_isPrime_25 (by decide) h (fun c3 h => ?_) (fun c3 h => ?_)
      · refine lv_iconst (v := 0) hx hb dX6_isPrime_32 kc_i0 ?_
        exact t_X6_isPrime_b33 hX hr hlk  _ h _ _ _ hP hS (lv_sub hl [] rfl)
      · refine lv_iconst (v := 1) hx hb dX6_isPrime_28 kc_i1 ?_
        refine lv_goto (tgt := 33) hx hb dX6_isPrime_29 (by decide) ?_
        exact t_X6_isPrime_b33 hX hr hlk  _ h _ _ _ hP hS (lv_sub hl [] rfl)
    · refine lv_iload_n hx hb dX6_isPrime_9 rfl (lv_at hl 0 rfl) ?_
      refine lv_iload_n hx hb dX6_isPrime_10 rfl (lv_at hl 1 rfl) ?_
      obtain ⟨g4, h⟩ := ck_some h
      refine lv_irem hx hb dX6_isPrime_11 (nz_ne g4) ?_
      refine x_if_ne (tgt := 17) hx hb dX6_isPrime_12 (by decide) h (fun c5 h => ?_) (fun c5 h => ?_)
      · refine lv_iinc (v := (v1 + 1)) (lv' := [(1, .int (v1 + 1)), (0, .int v0)]) hx hb dX6_isPrime_17 hl (k := 1) rfl rfl (Nat.le_of_ble_eq_true rfl) rfl (fun ls hl => ?_)
        refine lv_goto (tgt := 2) hx hb dX6_isPrime_20 (by decide) ?_
        exact ih _ _ h _ _ _ hP hS (lv_sub hl [1, 0] rfl)
      · refine lv_iconst (v := 0) hx hb dX6_isPrime_15 kc_i0 ?_
        cases h
        exact j_zret hX hr hlk hP hS (Or.inl rfl) dX6_isPrime_16
set_option maxHeartbeats 4000000 in
set_option maxRecDepth 100000 in
theorem c_X6_isPrime {l : Launch} {D : va_G} {tc : Tc} {ad : Nat → Nat} {A : Nat → Prop} (hA : adok ad A) {J : St} {v0 : Int32} {rr : Int32} (h : f_X6_isPrime v0 = some rr) : Met l yX6_isPrime (Cond.code yX6_isPrime cX6_isPrime 2 (some .boolean) :: tw) rm_X6_isPrime (pre D tc ad [.int v0] J) (qi D tc ad A rr J) 0 0 A := by
  unfold f_X6_isPrime at h
  refine mk_met (own := RX6) (by decide +kernel) rfl hA (Nat.le_of_ble_eq_true rfl) ?_
  intro p e s m below meth c ls hX hr hlk hl hP hS
  have hl : lv_has ls 2 [(0, .int v0)] := hl
  have hx := hX.1
  have hb := hX.2.1
  have hown := hX.2.2.2.1
  have hts := hX.2.2.2.2.1
  refine lv_iconst (v := 2) hx hb dX6_isPrime_0 kc_i2 ?_
  refine lv_istore_n (lv' := [(1, .int 2), (0, .int v0)]) hx hb dX6_isPrime_1 rfl hl (Nat.le_of_ble_eq_true rfl) rfl (fun ls hl => ?_)
  exact t_X6_isPrime_l2 hX hr hlk  10000 _ _ h _ _ _ hP hS (lv_sub hl [1, 0] rfl)
/-! OwnerlessCoin$SlowWork.leastPrime(I)I -/
def rm_X6_leastPrime : Room := { frames := 1, cells := 0, slots := 0, locals := 21 }
theorem Y_X6_leastPrime : ys yX6_leastPrime cX6_leastPrime 2 (some .int) 1 := ⟨q698, q697, q60, by decide +kernel⟩
set_option maxHeartbeats 4000000 in
set_option maxRecDepth 100000 in
theorem t_X6_leastPrime_l2 {p : Program} {l : Launch} {e : Env} {s : State} {m : MethodId} {args : Array Value} {below : List Frame} {meth : Method} {c : Code} {D : va_G} {tc : Tc} {ad : Nat → Nat} {A : Nat → Prop} {J : St} {rr : Int32} (hX : cx p s m args c cX6_leastPrime 2 RX6 D tc ad A) (hr : meth.sig.returnType = some .int) (hlk : meth.locks = false) : ∀ (n : Nat), ∀ (v0 : Int32) (v1 : Int32), f_X6_leastPrime_l2 n v0 v1 = some rr → ∀ (H : Heap) (locs : List Loc) (ls : Array Slot), va_P D vwCl (wl tc ad J) H → va_S A s.heap H locs → lv_has ls 2 [(0, .int v0), (1, .int v1)] → W p l e rm_X6_leastPrime s m args below meth c H locs 0 0 (MQ below (qi D tc ad A rr J) args s 0 0 A) (F0 m 2 ls []) := by
  intro n
  induction n with
  | zero =>
    intro _ _ h
    cases h
  | succ n ih =>
    intro v0 v1 h H locs ls hP hS hl
    rw [f_X6_leastPrime_l2] at h
    have hx := hX.1
    have hb := hX.2.1
    have hown := hX.2.2.2.1
    have hts := hX.2.2.2.2.1
    have hA := hX.2.2.2.2.2.2
    refine lv_iload_n hx hb dX6_leastPrime_2 rfl (lv_at hl 1 rfl) ?_
    refine lv_iconst (v := 2) hx hb dX6_leastPrime_3 kc_i2 ?_
    refine lv_iload_n hx hb dX6_leastPrime_4 rfl (lv_at hl 0 rfl) ?_
    refine lv_imul hx hb dX6_leastPrime_5 ?_
    refine x_icmp_ge (tgt := 24) hx hb dX6_leastPrime_6 (by decide) h (fun c1 h => ?_) (fun c1 h => ?_)
    · refine lv_iload_n hx hb dX6_leastPrime_24 rfl (lv_at hl 0 rfl) ?_
      cases h
      exact j_iret hX hr hlk hP hS dX6_leastPrime_25
    · refine lv_iload_n hx hb dX6_leastPrime_9 rfl (lv_at hl 1 rfl) ?_
      obtain ⟨r3, e2, h⟩ := ob1_some h
      refine j_i (j_runS (rest := []) hX hP hl.1 Y_X6_isPrime (c_X6_isPrime hA e2) ⟨rfl, rfl⟩ q699 ⟨Nat.le_of_ble_eq_true rfl, Nat.le_of_ble_eq_true rfl⟩ rfl rfl (Nat.le_of_ble_eq_true rfl) dX6_leastPrime_10) hS (fun H locs hP hS => ?_)
      refine x_if_eq (tgt := 18) hx hb dX6_leastPrime_13 (by decide) h (fun c4 h => ?_) (fun c4 h => ?_)
      · refine lv_iinc (v := (v1 + 1)) (lv' := [(1, .int (v1 + 1)), (0, .int v0)]) hx hb dX6_leastPrime_18 hl (k := 1) rfl rfl (Nat.le_of_ble_eq_true rfl) rfl (fun ls hl => ?_)
        refine lv_goto (tgt := 2) hx hb dX6_leastPrime_21 (by decide) ?_
        exact ih _ _ h _ _ _ hP hS (lv_sub hl [1, 0] rfl)
      · refine lv_iload_n hx hb dX6_leastPrime_16 rfl (lv_at hl 1 rfl) ?_
        cases h
        exact j_iret hX hr hlk hP hS dX6_leastPrime_17
set_option maxHeartbeats 4000000 in
set_option maxRecDepth 100000 in
theorem c_X6_leastPrime {l : Launch} {D : va_G} {tc : Tc} {ad : Nat → Nat} {A : Nat → Prop} (hA : adok ad A) {J : St} {v0 : Int32} {rr : Int32} (h : f_X6_leastPrime v0 = some rr) : Met l yX6_leastPrime (Cond.code yX6_leastPrime cX6_leastPrime 2 (some .int) :: tw) rm_X6_leastPrime (pre D tc ad [.int v0] J) (qi D tc ad A rr J) 0 0 A := by
  unfold f_X6_leastPrime at h
  refine mk_met (own := RX6) (by decide +kernel) rfl hA (Nat.le_of_ble_eq_true rfl) ?_
  intro p e s m below meth c ls hX hr hlk hl hP hS
  have hl : lv_has ls 2 [(0, .int v0)] := hl
  have hx := hX.1
  have hb := hX.2.1
  have hown := hX.2.2.2.1
  have hts := hX.2.2.2.2.1
  refine lv_iload_n hx hb dX6_leastPrime_0 rfl (lv_at hl 0 rfl) ?_
  refine lv_istore_n (lv' := [(1, .int v0), (0, .int v0)]) hx hb dX6_leastPrime_1 rfl hl (Nat.le_of_ble_eq_true rfl) rfl (fun ls hl => ?_)
  exact t_X6_leastPrime_l2 hX hr hlk  10000 _ _ h _ _ _ hP hS (lv_sub hl [1, 0] rfl)
/-! OwnerlessCoin$SlowWork.challenge(II)I -/
def rm_X6_challenge : Room := { frames := 2, cells := 0, slots := 0, locals := 42 }
theorem Y_X6_challenge : ys yX6_challenge cX6_challenge 2 (some .int) 2 := ⟨q694, q693, q60, by decide +kernel⟩
set_option maxHeartbeats 4000000 in
set_option maxRecDepth 100000 in
theorem c_X6_challenge {l : Launch} {D : va_G} {tc : Tc} {ad : Nat → Nat} {A : Nat → Prop} (hA : adok ad A) {J : St} {v0 : Int32} {v1 : Int32} {rr : Int32} (h : f_X6_challenge v0 v1 = some rr) : Met l yX6_challenge (Cond.code yX6_challenge cX6_challenge 2 (some .int) :: tw) rm_X6_challenge (pre D tc ad [.int v0, .int v1] J) (qi D tc ad A rr J) 0 0 A := by
  unfold f_X6_challenge at h
  refine mk_met (own := RX6) (by decide +kernel) rfl hA (Nat.le_of_ble_eq_true rfl) ?_
  intro p e s m below meth c ls hX hr hlk hl hP hS
  have hl : lv_has ls 2 [(0, .int v0), (1, .int v1)] := hl
  have hx := hX.1
  have hb := hX.2.1
  have hown := hX.2.2.2.1
  have hts := hX.2.2.2.2.1
  refine lv_sipush (v := 257) hx hb dX6_challenge_0 kc_s257 ?_
  refine lv_bipush (v := 19) hx hb dX6_challenge_3 kc_b19 ?_
  refine lv_iload_n hx hb dX6_challenge_5 rfl (lv_at hl 0 rfl) ?_
  obtain ⟨r2, e1, h⟩ := ob1_some h
  refine j_i (j_runN (rest := [.int 257]) hX hP hl.1 Y_X7_mix (c_X7_mix hA e1) ⟨rfl, rfl⟩ nw16 ⟨Nat.le_of_ble_eq_true rfl, Nat.le_of_ble_eq_true rfl⟩ rfl rfl (Nat.le_of_ble_eq_true rfl) dX6_challenge_6) hS (fun H locs hP hS => ?_)
  refine lv_iload_n hx hb dX6_challenge_9 rfl (lv_at hl 1 rfl) ?_
  obtain ⟨r4, e3, h⟩ := ob1_some h
  refine j_i (j_runN (rest := [.int 257]) hX hP hl.1 Y_X7_mix (c_X7_mix hA e3) ⟨rfl, rfl⟩ nw16 ⟨Nat.le_of_ble_eq_true rfl, Nat.le_of_ble_eq_true rfl⟩ rfl rfl (Nat.le_of_ble_eq_true rfl) dX6_challenge_10) hS (fun H locs hP hS => ?_)
  refine lv_bipush (v := 22) hx hb dX6_challenge_13 kc_b22 ?_
  refine lv_iushr (v := iushr r4 22) hx hb dX6_challenge_15 rfl ?_
  refine lv_iadd hx hb dX6_challenge_16 ?_
  obtain ⟨r6, e5, h⟩ := ob1_some h
  refine j_i (j_runS (rest := []) hX hP hl.1 Y_X6_leastPrime (c_X6_leastPrime hA e5) ⟨rfl, rfl⟩ q696 ⟨Nat.le_of_ble_eq_true rfl, Nat.le_of_ble_eq_true rfl⟩ rfl rfl (Nat.le_of_ble_eq_true rfl) dX6_challenge_17) hS (fun H locs hP hS => ?_)
  cases h
  exact j_iret hX hr hlk hP hS dX6_challenge_20
/-! OwnerlessCoin.prime(II)I -/
def rm_X7_prime : Room := { frames := 3, cells := 0, slots := 0, locals := 63 }
theorem Y_X7_prime : yv yX7_prime cX7_prime 3 (some .int) 2 RX7 := ⟨q691, q689, q690, q51, by decide +kernel⟩
set_option maxHeartbeats 4000000 in
set_option maxRecDepth 100000 in
theorem c_X7_prime {l : Launch} {D : va_G} {tc : Tc} {ad : Nat → Nat} {A : Nat → Prop} (hA : adok ad A) {J : St} {v1 : Int32} {v2 : Int32} {rr : Int32} (h : f_X7_prime v1 v2 = some rr) : Met l yX7_prime (Cond.code yX7_prime cX7_prime 3 (some .int) :: tw) rm_X7_prime (pre D tc ad [.ref (ad 145), .int v1, .int v2] J) (qi D tc ad A rr J) 0 0 A := by
  unfold f_X7_prime at h
  refine mk_met (own := RX7) (by decide +kernel) rfl hA (Nat.le_of_ble_eq_true rfl) ?_
  intro p e s m below meth c ls hX hr hlk hl hP hS
  have hl : lv_has ls 3 [(0, .ref (ad 145)), (1, .int v1), (2, .int v2)] := hl
  have hx := hX.1
  have hb := hX.2.1
  have hown := hX.2.2.2.1
  have hts := hX.2.2.2.2.1
  refine lv_iload_n hx hb dX7_prime_0 rfl (lv_at hl 1 rfl) ?_
  refine lv_iload_n hx hb dX7_prime_1 rfl (lv_at hl 2 rfl) ?_
  obtain ⟨r2, e1, h⟩ := ob1_some h
  refine j_i (j_runS (rest := []) hX hP hl.1 Y_X7_isSlowTask (c_X7_isSlowTask hA e1) ⟨rfl, rfl⟩ q673 ⟨Nat.le_of_ble_eq_true rfl, Nat.le_of_ble_eq_true rfl⟩ rfl rfl (Nat.le_of_ble_eq_true rfl) dX7_prime_2) hS (fun H locs hP hS => ?_)
  refine x_if_ne (tgt := 10) hx hb dX7_prime_5 (by decide) h (fun c3 h => ?_) (fun c3 h => ?_)
  · refine lv_iload_n hx hb dX7_prime_10 rfl (lv_at hl 1 rfl) ?_
    refine lv_iload_n hx hb dX7_prime_11 rfl (lv_at hl 1 rfl) ?_
    refine lv_iload_n hx hb dX7_prime_12 rfl (lv_at hl 2 rfl) ?_
    obtain ⟨r5, e4, h⟩ := ob1_some h
    refine j_i (j_runS (rest := [.int v1]) hX hP hl.1 Y_X6_value (c_X6_value hA e4) ⟨rfl, rfl⟩ q677 ⟨Nat.le_of_ble_eq_true rfl, Nat.le_of_ble_eq_true rfl⟩ rfl rfl (Nat.le_of_ble_eq_true rfl) dX7_prime_13) hS (fun H locs hP hS => ?_)
    obtain ⟨r7, e6, h⟩ := ob1_some h
    refine j_i (j_runS (rest := []) hX hP hl.1 Y_X6_challenge (c_X6_challenge hA e6) ⟨rfl, rfl⟩ q692 ⟨Nat.le_of_ble_eq_true rfl, Nat.le_of_ble_eq_true rfl⟩ rfl rfl (Nat.le_of_ble_eq_true rfl) dX7_prime_16) hS (fun H locs hP hS => ?_)
    cases h
    exact j_iret hX hr hlk hP hS dX7_prime_19
  · refine lv_iconst (v := (-1)) hx hb dX7_prime_8 kc_im1 ?_
    cases h
    exact j_iret hX hr hlk hP hS dX7_prime_9
/-! OwnerlessCoin$SlowWork.evidence(III)I -/
def rm_X6_evidence : Room := { frames := 1, cells := 0, slots := 0, locals := 22 }
theorem Y_X6_evidence : ys yX6_evidence cX6_evidence 6 (some .int) 3 := ⟨q708, q707, q60, by decide +kernel⟩
set_option maxHeartbeats 4000000 in
set_option maxRecDepth 100000 in
theorem t_X6_evidence_b48 {p : Program} {l : Launch} {e : Env} {s : State} {m : MethodId} {args : Array Value} {below : List Frame} {meth : Method} {c : Code} {D : va_G} {tc : Tc} {ad : Nat → Nat} {A : Nat → Prop} {J : St} {rr : Int32} (hX : cx p s m args c cX6_evidence 6 RX6 D tc ad A) (hr : meth.sig.returnType = some .int) (hlk : meth.locks = false) {K8 : Int32 → Int32 → Int32 → Int32 → Int32 → Int32 → Option (Int32)} (hK8 : ∀ (v0 : Int32) (v1 : Int32) (v2 : Int32) (v3 : Int32) (v4 : Int32) (v5 : Int32), K8 v0 v1 v2 v3 v4 v5 = some rr → ∀ (H : Heap) (locs : List Loc) (ls : Array Slot), va_P D vwCl (wl tc ad J) H → va_S A s.heap H locs → lv_has ls 6 [(0, .int v0), (1, .int v1), (2, .int v2), (3, .int v3), (4, .int v4), (5, .int v5)] → W p l e rm_X6_evidence s m args below meth c H locs 0 0 (MQ below (qi D tc ad A rr J) args s 0 0 A) (F0 m 8 ls [])) : ∀ (v0 : Int32) (v1 : Int32) (v2 : Int32) (v3 : Int32) (v4 : Int32) (v5 : Int32), f_X6_evidence_b48 K8 v0 v1 v2 v3 v4 v5 = some rr → ∀ (H : Heap) (locs : List Loc) (ls : Array Slot), va_P D vwCl (wl tc ad J) H → va_S A s.heap H locs → lv_has ls 6 [(0, .int v0), (1, .int v1), (2, .int v2), (3, .int v3), (4, .int v4), (5, .int v5)] → W p l e rm_X6_evidence s m args below meth c H locs 0 0 (MQ below (qi D tc ad A rr J) args s 0 0 A) (F0 m 48 ls []) := by
  intro v0 v1 v2 v3 v4 v5 h H locs ls hP hS hl
  unfold f_X6_evidence_b48 at h
  have hx := hX.1
  have hb := hX.2.1
  have hown := hX.2.2.2.1
  have hts := hX.2.2.2.2.1
  have hA := hX.2.2.2.2.2.2
  refine lv_iinc (v := (v5 + 1)) (lv' := [(5, .int (v5 + 1)), (0, .int v0), (1, .int v1), (2, .int v2), (3, .int v3), (4, .int v4)]) hx hb dX6_evidence_48 hl (k := 5) rfl rfl (Nat.le_of_ble_eq_true rfl) rfl (fun ls hl => ?_)
  refine lv_goto (tgt := 8) hx hb dX6_evidence_51 (by decide) ?_
  exact hK8 _ _ _ _ _ _ h _ _ _ hP hS (lv_sub hl [1, 2, 3, 4, 5, 0] rfl)
set_option maxHeartbeats 4000000 in
set_option maxRecDepth 100000 in
theorem t_X6_evidence_l8 {p : Program} {l : Launch} {e : Env} {s : State} {m : MethodId} {args : Array Value} {below : List Frame} {meth : Method} {c : Code} {D : va_G} {tc : Tc} {ad : Nat → Nat} {A : Nat → Prop} {J : St} {rr : Int32} (hX : cx p s m args c cX6_evidence 6 RX6 D tc ad A) (hr : meth.sig.returnType = some .int) (hlk : meth.locks = false) : ∀ (n : Nat), ∀ (v0 : Int32) (v1 : Int32) (v2 : Int32) (v3 : Int32) (v4 : Int32) (v5 : Int32), f_X6_evidence_l8 n v0 v1 v2 v3 v4 v5 = some rr → ∀ (H : Heap) (locs : List Loc) (ls : Array Slot), va_P D vwCl (wl tc ad J) H → va_S A s.heap H locs → lv_has ls 6 [(0, .int v0), (1, .int v1), (2, .int v2), (3, .int v3), (4, .int v4), (5, .int v5)] → W p l e rm_X6_evidence s m args below meth c H locs 0 0 (MQ below (qi D tc ad A rr J) args s 0 0 A) (F0 m 8 ls []) := by
  intro n
  induction n with
  | zero =>
    intro _ _ _ _ _ _ h
    cases h
  | succ n ih =>
    intro v0 v1 v2 v3 v4 v5 h H locs ls hP hS hl
    rw [f_X6_evidence_l8] at h
    have hx := hX.1
    have hb := hX.2.1
    have hown := hX.2.2.2.1
    have hts := hX.2.2.2.2.1
    have hA := hX.2.2.2.2.2.2
    refine lv_iload hx hb dX6_evidence_8 (lv_at hl 5 rfl) ?_
    refine lv_iload_n hx hb dX6_evidence_10 rfl (lv_at hl 1 rfl) ?_
    refine x_icmp_ge (tgt := 54) hx hb dX6_evidence_11 (by decide) h (fun c1 h => ?_) (fun c1 h => ?_)
    · refine lv_iload_n hx hb dX6_evidence_54 rfl (lv_at hl 3 rfl) ?_
      cases h
      exact j_iret hX hr hlk hP hS dX6_evidence_55
    · refine lv_iload_n hx hb dX6_evidence_14 rfl (lv_at hl 3 rfl) ?_
      refine lv_iload_n hx hb dX6_evidence_15 rfl (lv_at hl 3 rfl) ?_
      refine lv_ldc (v := 62615533) hx hb hown (hts _ q432) dX6_evidence_16 ?_
      obtain ⟨r3, e2, h⟩ := ob1_some h
      refine j_i (j_runN (rest := []) hX hP hl.1 Y_X7_product (c_X7_product hA e2) ⟨rfl, rfl⟩ nw8 ⟨Nat.le_of_ble_eq_true rfl, Nat.le_of_ble_eq_true rfl⟩ rfl rfl (Nat.le_of_ble_eq_true rfl) dX6_evidence_18) hS (fun H locs hP hS => ?_)
      refine lv_istore_n (lv' := [(3, .int r3), (0, .int v0), (1, .int v1), (2, .int v2), (4, .int v4), (5, .int v5)]) hx hb dX6_evidence_21 rfl hl (Nat.le_of_ble_eq_true rfl) rfl (fun ls hl => ?_)
      refine lv_iconst (v := 2) hx hb dX6_evidence_22 kc_i2 ?_
      refine lv_iload hx hb dX6_evidence_23 (lv_at hl 4 rfl) ?_
      refine lv_imul hx hb dX6_evidence_25 ?_
      refine x_let h (fun x4 h => ?_)
      refine lv_istore (lv' := [(4, .int x4), (3, .int r3), (0, .int v0), (1, .int v1), (2, .int v2), (5, .int v5)]) hx hb dX6_evidence_26 hl (Nat.le_of_ble_eq_true rfl) rfl (fun ls hl => ?_)
      refine lv_iload hx hb dX6_evidence_28 (lv_at hl 0 rfl) ?_
      refine lv_iload_n hx hb dX6_evidence_30 rfl (lv_at hl 4 rfl) ?_
      refine x_icmp_lt (tgt := 48) hx hb dX6_evidence_31 (by decide) h (fun c5 h => ?_) (fun c5 h => ?_)
      · exact t_X6_evidence_b48 hX hr hlk ih _ _ _ _ _ _ h _ _ _ hP hS (lv_sub hl [2, 3, 4, 1, 0, 5] rfl)
      · refine lv_iload hx hb dX6_evidence_34 (lv_at hl 0 rfl) ?_
        refine lv_iload_n hx hb dX6_evidence_36 rfl (lv_at hl 4 rfl) ?_
        refine lv_isub hx hb dX6_evidence_37 ?_
        refine x_let h (fun x6 h => ?_)
        refine lv_istore (lv' := [(4, .int x6), (3, .int r3), (0, .int v0), (1, .int v1), (2, .int v2), (5, .int v5)]) hx hb dX6_evidence_38 hl (Nat.le_of_ble_eq_true rfl) rfl (fun ls hl => ?_)
        refine lv_iload_n hx hb dX6_evidence_40 rfl (lv_at hl 1 rfl) ?_
        refine lv_iload_n hx hb dX6_evidence_41 rfl (lv_at hl 2 rfl) ?_
        refine lv_ldc (v := 62615533) hx hb hown (hts _ q432) dX6_evidence_42 ?_
        obtain ⟨r8, e7, h⟩ := ob1_some h
        refine j_i (j_runN (rest := []) hX hP hl.1 Y_X7_product (c_X7_product hA e7) ⟨rfl, rfl⟩ nw8 ⟨Nat.le_of_ble_eq_true rfl, Nat.le_of_ble_eq_true rfl⟩ rfl rfl (Nat.le_of_ble_eq_true rfl) dX6_evidence_44) hS (fun H locs hP hS => ?_)
        refine lv_istore_n (lv' := [(3, .int r8), (4, .int x6), (0, .int v0), (1, .int v1), (2, .int v2), (5, .int v5)]) hx hb dX6_evidence_47 rfl hl (Nat.le_of_ble_eq_true rfl) rfl (fun ls hl => ?_)
        exact t_X6_evidence_b48 hX hr hlk ih _ _ _ _ _ _ h _ _ _ hP hS (lv_sub hl [2, 3, 4, 0, 1, 5] rfl)
set_option maxHeartbeats 4000000 in
set_option maxRecDepth 100000 in
theorem c_X6_evidence {l : Launch} {D : va_G} {tc : Tc} {ad : Nat → Nat} {A : Nat → Prop} (hA : adok ad A) {J : St} {v0 : Int32} {v1 : Int32} {v2 : Int32} {rr : Int32} (h : f_X6_evidence v0 v1 v2 = some rr) : Met l yX6_evidence (Cond.code yX6_evidence cX6_evidence 6 (some .int) :: tw) rm_X6_evidence (pre D tc ad [.int v0, .int v1, .int v2] J) (qi D tc ad A rr J) 0 0 A := by
  unfold f_X6_evidence at h
  refine mk_met (own := RX6) (by decide +kernel) rfl hA (Nat.le_of_ble_eq_true rfl) ?_
  intro p e s m below meth c ls hX hr hlk hl hP hS
  have hl : lv_has ls 6 [(0, .int v0), (1, .int v1), (2, .int v2)] := hl
  have hx := hX.1
  have hb := hX.2.1
  have hown := hX.2.2.2.1
  have hts := hX.2.2.2.2.1
  refine lv_iconst (v := 1) hx hb dX6_evidence_0 kc_i1 ?_
  refine lv_istore_n (lv' := [(3, .int 1), (0, .int v0), (1, .int v1), (2, .int v2)]) hx hb dX6_evidence_1 rfl hl (Nat.le_of_ble_eq_true rfl) rfl (fun ls hl => ?_)
  refine lv_iconst (v := 1) hx hb dX6_evidence_2 kc_i1 ?_
  refine lv_istore (lv' := [(4, .int 1), (3, .int 1), (0, .int v0), (1, .int v1), (2, .int v2)]) hx hb dX6_evidence_3 hl (Nat.le_of_ble_eq_true rfl) rfl (fun ls hl => ?_)
  refine lv_iconst (v := 0) hx hb dX6_evidence_5 kc_i0 ?_
  refine lv_istore (lv' := [(5, .int 0), (4, .int 1), (3, .int 1), (0, .int v0), (1, .int v1), (2, .int v2)]) hx hb dX6_evidence_6 hl (Nat.le_of_ble_eq_true rfl) rfl (fun ls hl => ?_)
  exact t_X6_evidence_l8 hX hr hlk  10000 _ _ _ _ _ _ h _ _ _ hP hS (lv_sub hl [3, 4, 5, 2, 1, 0] rfl)
/-! OwnerlessCoin.proof(II)I -/
def rm_X7_proof : Room := { frames := 3, cells := 0, slots := 0, locals := 63 }
theorem Y_X7_proof : yv yX7_proof cX7_proof 3 (some .int) 2 RX7 := ⟨q705, q703, q704, q51, by decide +kernel⟩
set_option maxHeartbeats 4000000 in
set_option maxRecDepth 100000 in
theorem c_X7_proof {l : Launch} {D : va_G} {tc : Tc} {ad : Nat → Nat} {A : Nat → Prop} (hA : adok ad A) {J : St} {v1 : Int32} {v2 : Int32} {rr : Int32} (h : f_X7_proof v1 v2 = some rr) : Met l yX7_proof (Cond.code yX7_proof cX7_proof 3 (some .int) :: tw) rm_X7_proof (pre D tc ad [.ref (ad 145), .int v1, .int v2] J) (qi D tc ad A rr J) 0 0 A := by
  unfold f_X7_proof at h
  refine mk_met (own := RX7) (by decide +kernel) rfl hA (Nat.le_of_ble_eq_true rfl) ?_
  intro p e s m below meth c ls hX hr hlk hl hP hS
  have hl : lv_has ls 3 [(0, .ref (ad 145)), (1, .int v1), (2, .int v2)] := hl
  have hx := hX.1
  have hb := hX.2.1
  have hown := hX.2.2.2.1
  have hts := hX.2.2.2.2.1
  refine lv_iload_n hx hb dX7_proof_0 rfl (lv_at hl 1 rfl) ?_
  refine lv_iload_n hx hb dX7_proof_1 rfl (lv_at hl 2 rfl) ?_
  obtain ⟨r2, e1, h⟩ := ob1_some h
  refine j_i (j_runS (rest := []) hX hP hl.1 Y_X7_isSlowTask (c_X7_isSlowTask hA e1) ⟨rfl, rfl⟩ q673 ⟨Nat.le_of_ble_eq_true rfl, Nat.le_of_ble_eq_true rfl⟩ rfl rfl (Nat.le_of_ble_eq_true rfl) dX7_proof_2) hS (fun H locs hP hS => ?_)
  refine x_if_ne (tgt := 10) hx hb dX7_proof_5 (by decide) h (fun c3 h => ?_) (fun c3 h => ?_)
  · refine lv_iload_n hx hb dX7_proof_10 rfl (lv_at hl 1 rfl) ?_
    refine lv_iload_n hx hb dX7_proof_11 rfl (lv_at hl 2 rfl) ?_
    refine lv_iload_n hx hb dX7_proof_12 rfl (lv_at hl 1 rfl) ?_
    refine lv_iload_n hx hb dX7_proof_13 rfl (lv_at hl 1 rfl) ?_
    refine lv_iload_n hx hb dX7_proof_14 rfl (lv_at hl 2 rfl) ?_
    obtain ⟨r5, e4, h⟩ := ob1_some h
    refine j_i (j_runS (rest := [.int v1, .int v2, .int v1]) hX hP hl.1 Y_X6_value (c_X6_value hA e4) ⟨rfl, rfl⟩ q677 ⟨Nat.le_of_ble_eq_true rfl, Nat.le_of_ble_eq_true rfl⟩ rfl rfl (Nat.le_of_ble_eq_true rfl) dX7_proof_15) hS (fun H locs hP hS => ?_)
    obtain ⟨r7, e6, h⟩ := ob1_some h
    refine j_i (j_runS (rest := [.int v2, .int v1]) hX hP hl.1 Y_X6_challenge (c_X6_challenge hA e6) ⟨rfl, rfl⟩ q692 ⟨Nat.le_of_ble_eq_true rfl, Nat.le_of_ble_eq_true rfl⟩ rfl rfl (Nat.le_of_ble_eq_true rfl) dX7_proof_18) hS (fun H locs hP hS => ?_)
    obtain ⟨r9, e8, h⟩ := ob1_some h
    refine j_i (j_runS (rest := []) hX hP hl.1 Y_X6_evidence (c_X6_evidence hA e8) ⟨rfl, rfl⟩ q706 ⟨Nat.le_of_ble_eq_true rfl, Nat.le_of_ble_eq_true rfl⟩ rfl rfl (Nat.le_of_ble_eq_true rfl) dX7_proof_21) hS (fun H locs hP hS => ?_)
    cases h
    exact j_iret hX hr hlk hP hS dX7_proof_24
  · refine lv_iconst (v := (-1)) hx hb dX7_proof_8 kc_im1 ?_
    cases h
    exact j_iret hX hr hlk hP hS dX7_proof_9
/-! OwnerlessCoin$SlowWork.isProven(IIII)Z -/
def rm_X6_isProven : Room := { frames := 3, cells := 0, slots := 0, locals := 63 }
theorem Y_X6_isProven : ys yX6_isProven cX6_isProven 6 (some .boolean) 4 := ⟨q716, q715, q60, by decide +kernel⟩
set_option maxHeartbeats 4000000 in
set_option maxRecDepth 100000 in
theorem t_X6_isProven_b46 {p : Program} {l : Launch} {e : Env} {s : State} {m : MethodId} {args : Array Value} {below : List Frame} {meth : Method} {c : Code} {D : va_G} {tc : Tc} {ad : Nat → Nat} {A : Nat → Prop} {J : St} {rr : Int32} (hX : cx p s m args c cX6_isProven 6 RX6 D tc ad A) (hr : meth.sig.returnType = some .boolean) (hlk : meth.locks = false) : ∀ (t0 : Int32), f_X6_isProven_b46 t0 = some rr → ∀ (H : Heap) (locs : List Loc) (ls : Array Slot), va_P D vwCl (wl tc ad J) H → va_S A s.heap H locs → lv_has ls 6 [] → W p l e rm_X6_isProven s m args below meth c H locs 0 0 (MQ below (qi D tc ad A rr J) args s 0 0 A) (F0 m 46 ls [.int t0]) := by
  intro t0 h H locs ls hP hS hl
  unfold f_X6_isProven_b46 at h
  have hx := hX.1
  have hb := hX.2.1
  have hown := hX.2.2.2.1
  have hts := hX.2.2.2.2.1
  have hA := hX.2.2.2.2.2.2
  obtain ⟨gz, h⟩ := ck_some h
  cases h
  exact j_zret hX hr hlk hP hS (isB_or gz) dX6_isProven_46
set_option maxHeartbeats 4000000 in
set_option maxRecDepth 100000 in
theorem c_X6_isProven {l : Launch} {D : va_G} {tc : Tc} {ad : Nat → Nat} {A : Nat → Prop} (hA : adok ad A) {J : St} {v0 : Int32} {v1 : Int32} {v2 : Int32} {v3 : Int32} {rr : Int32} (h : f_X6_isProven v0 v1 v2 v3 = some rr) : Met l yX6_isProven (Cond.code yX6_isProven cX6_isProven 6 (some .boolean) :: tw) rm_X6_isProven (pre D tc ad [.int v0, .int v1, .int v2, .int v3] J) (qi D tc ad A rr J) 0 0 A := by
  unfold f_X6_isProven at h
  refine mk_met (own := RX6) (by decide +kernel) rfl hA (Nat.le_of_ble_eq_true rfl) ?_
  intro p e s m below meth c ls hX hr hlk hl hP hS
  have hl : lv_has ls 6 [(0, .int v0), (1, .int v1), (2, .int v2), (3, .int v3)] := hl
  have hx := hX.1
  have hb := hX.2.1
  have hown := hX.2.2.2.1
  have hts := hX.2.2.2.2.1
  refine lv_iload_n hx hb dX6_isProven_0 rfl (lv_at hl 0 rfl) ?_
  refine lv_iload_n hx hb dX6_isProven_1 rfl (lv_at hl 2 rfl) ?_
  obtain ⟨r2, e1, h⟩ := ob1_some h
  refine j_i (j_runS (rest := []) hX hP hl.1 Y_X6_challenge (c_X6_challenge hA e1) ⟨rfl, rfl⟩ q717 ⟨Nat.le_of_ble_eq_true rfl, Nat.le_of_ble_eq_true rfl⟩ rfl rfl (Nat.le_of_ble_eq_true rfl) dX6_isProven_2) hS (fun H locs hP hS => ?_)
  refine lv_istore (lv' := [(4, .int r2), (0, .int v0), (1, .int v1), (2, .int v2), (3, .int v3)]) hx hb dX6_isProven_5 hl (Nat.le_of_ble_eq_true rfl) rfl (fun ls hl => ?_)
  refine lv_iconst (v := 2) hx hb dX6_isProven_7 kc_i2 ?_
  refine lv_iload_n hx hb dX6_isProven_8 rfl (lv_at hl 2 rfl) ?_
  refine lv_iload hx hb dX6_isProven_9 (lv_at hl 0 rfl) ?_
  obtain ⟨r4, e3, h⟩ := ob1_some h
  refine j_i (j_runN (rest := []) hX hP hl.1 Y_X7_power (c_X7_power hA e3) ⟨rfl, rfl⟩ nw15 ⟨Nat.le_of_ble_eq_true rfl, Nat.le_of_ble_eq_true rfl⟩ rfl rfl (Nat.le_of_ble_eq_true rfl) dX6_isProven_11) hS (fun H locs hP hS => ?_)
  refine lv_istore (lv' := [(5, .int r4), (4, .int r2), (0, .int v0), (1, .int v1), (2, .int v2), (3, .int v3)]) hx hb dX6_isProven_14 hl (Nat.le_of_ble_eq_true rfl) rfl (fun ls hl => ?_)
  refine lv_iload_n hx hb dX6_isProven_16 rfl (lv_at hl 5 rfl) ?_
  refine lv_iload hx hb dX6_isProven_17 (lv_at hl 1 rfl) ?_
  refine lv_ldc (v := 62615533) hx hb hown (hts _ q432) dX6_isProven_19 ?_
  obtain ⟨r6, e5, h⟩ := ob1_some h
  refine j_i (j_runN (rest := []) hX hP hl.1 Y_X7_power (c_X7_power hA e5) ⟨rfl, rfl⟩ nw15 ⟨Nat.le_of_ble_eq_true rfl, Nat.le_of_ble_eq_true rfl⟩ rfl rfl (Nat.le_of_ble_eq_true rfl) dX6_isProven_21) hS (fun H locs hP hS => ?_)
  refine lv_iload_n hx hb dX6_isProven_24 rfl (lv_at hl 2 rfl) ?_
  refine lv_iload hx hb dX6_isProven_25 (lv_at hl 0 rfl) ?_
  refine lv_ldc (v := 62615533) hx hb hown (hts _ q432) dX6_isProven_27 ?_
  obtain ⟨r8, e7, h⟩ := ob1_some h
  refine j_i (j_runN (rest := [.int r6]) hX hP hl.1 Y_X7_power (c_X7_power hA e7) ⟨rfl, rfl⟩ nw15 ⟨Nat.le_of_ble_eq_true rfl, Nat.le_of_ble_eq_true rfl⟩ rfl rfl (Nat.le_of_ble_eq_true rfl) dX6_isProven_29) hS (fun H locs hP hS => ?_)
  refine lv_ldc (v := 62615533) hx hb hown (hts _ q432) dX6_isProven_32 ?_
  obtain ⟨r10, e9, h⟩ := ob1_some h
  refine j_i (j_runN (rest := []) hX hP hl.1 Y_X7_product (c_X7_product hA e9) ⟨rfl, rfl⟩ nw8 ⟨Nat.le_of_ble_eq_true rfl, Nat.le_of_ble_eq_true rfl⟩ rfl rfl (Nat.le_of_ble_eq_true rfl) dX6_isProven_34) hS (fun H locs hP hS => ?_)
  refine lv_iload_n hx hb dX6_isProven_37 rfl (lv_at hl 4 rfl) ?_
  refine x_icmp_ne (tgt := 45) hx hb dX6_isProven_38 (by decide) h (fun c11 h => ?_) (fun c11 h => ?_)
  · refine lv_iconst (v := 0) hx hb dX6_isProven_45 kc_i0 ?_
    exact t_X6_isProven_b46 hX hr hlk  _ h _ _ _ hP hS (lv_sub hl [] rfl)
  · refine lv_iconst (v := 1) hx hb dX6_isProven_41 kc_i1 ?_
    refine lv_goto (tgt := 46) hx hb dX6_isProven_42 (by decide) ?_
    exact t_X6_isProven_b46 hX hr hlk  _ h _ _ _ hP hS (lv_sub hl [] rfl)
/-! OwnerlessCoin.accepts(IIII)I -/
def rm_X7_accepts : Room := { frames := 4, cells := 0, slots := 0, locals := 88 }
theorem Y_X7_accepts : yv yX7_accepts cX7_accepts 5 (some .int) 4 RX7 := ⟨q712, q710, q711, q51, by decide +kernel⟩
set_option maxHeartbeats 4000000 in
set_option maxRecDepth 100000 in
theorem t_X7_accepts_b41 {p : Program} {l : Launch} {e : Env} {s : State} {m : MethodId} {args : Array Value} {below : List Frame} {meth : Method} {c : Code} {D : va_G} {tc : Tc} {ad : Nat → Nat} {A : Nat → Prop} {J : St} {rr : Int32} (hX : cx p s m args c cX7_accepts 5 RX7 D tc ad A) (hr : meth.sig.returnType = some .int) (hlk : meth.locks = false) : f_X7_accepts_b41 = some rr → ∀ (H : Heap) (locs : List Loc) (ls : Array Slot), va_P D vwCl (wl tc ad J) H → va_S A s.heap H locs → lv_has ls 5 [] → W p l e rm_X7_accepts s m args below meth c H locs 0 0 (MQ below (qi D tc ad A rr J) args s 0 0 A) (F0 m 41 ls []) := by
  intro  h H locs ls hP hS hl
  unfold f_X7_accepts_b41 at h
  have hx := hX.1
  have hb := hX.2.1
  have hown := hX.2.2.2.1
  have hts := hX.2.2.2.2.1
  have hA := hX.2.2.2.2.2.2
  refine lv_iconst (v := (-1)) hx hb dX7_accepts_41 kc_im1 ?_
  cases h
  exact j_iret hX hr hlk hP hS dX7_accepts_42
set_option maxHeartbeats 4000000 in
set_option maxRecDepth 100000 in
theorem t_X7_accepts_b59 {p : Program} {l : Launch} {e : Env} {s : State} {m : MethodId} {args : Array Value} {below : List Frame} {meth : Method} {c : Code} {D : va_G} {tc : Tc} {ad : Nat → Nat} {A : Nat → Prop} {J : St} {rr : Int32} (hX : cx p s m args c cX7_accepts 5 RX7 D tc ad A) (hr : meth.sig.returnType = some .int) (hlk : meth.locks = false) : ∀ (t0 : Int32), f_X7_accepts_b59 t0 = some rr → ∀ (H : Heap) (locs : List Loc) (ls : Array Slot), va_P D vwCl (wl tc ad J) H → va_S A s.heap H locs → lv_has ls 5 [] → W p l e rm_X7_accepts s m args below meth c H locs 0 0 (MQ below (qi D tc ad A rr J) args s 0 0 A) (F0 m 59 ls [.int t0]) := by
  intro t0 h H locs ls hP hS hl
  unfold f_X7_accepts_b59 at h
  have hx := hX.1
  have hb := hX.2.1
  have hown := hX.2.2.2.1
  have hts := hX.2.2.2.2.1
  have hA := hX.2.2.2.2.2.2
  cases h
  exact j_iret hX hr hlk hP hS dX7_accepts_59
set_option maxHeartbeats 4000000 in
set_option maxRecDepth 100000 in
theorem c_X7_accepts {l : Launch} {D : va_G} {tc : Tc} {ad : Nat → Nat} {A : Nat → Prop} (hA : adok ad A) {J : St} {v1 : Int32} {v2 : Int32} {v3 : Int32} {v4 : Int32} {rr : Int32} (h : f_X7_accepts v1 v2 v3 v4 = some rr) : Met l yX7_accepts (Cond.code yX7_accepts cX7_accepts 5 (some .int) :: tw) rm_X7_accepts (pre D tc ad [.ref (ad 145), .int v1, .int v2, .int v3, .int v4] J) (qi D tc ad A rr J) 0 0 A := by
  unfold f_X7_accepts at h
  refine mk_met (own := RX7) (by decide +kernel) rfl hA (Nat.le_of_ble_eq_true rfl) ?_
  intro p e s m below meth c ls hX hr hlk hl hP hS
  have hl : lv_has ls 5 [(0, .ref (ad 145)), (1, .int v1), (2, .int v2), (3, .int v3), (4, .int v4)] := hl
  have hx := hX.1
  have hb := hX.2.1
  have hown := hX.2.2.2.1
  have hts := hX.2.2.2.2.1
  refine lv_iload_n hx hb dX7_accepts_0 rfl (lv_at hl 1 rfl) ?_
  refine lv_iconst (v := 2) hx hb dX7_accepts_1 kc_i2 ?_
  refine lv_ldc (v := 100000) hx hb hown (hts _ q676) dX7_accepts_2 ?_
  obtain ⟨r2, e1, h⟩ := ob1_some h
  refine j_i (j_runS (rest := []) hX hP hl.1 Y_X7_isWithin (c_X7_isWithin hA e1) ⟨rfl, rfl⟩ q301 ⟨Nat.le_of_ble_eq_true rfl, Nat.le_of_ble_eq_true rfl⟩ rfl rfl (Nat.le_of_ble_eq_true rfl) dX7_accepts_4) hS (fun H locs hP hS => ?_)
  refine x_if_eq (tgt := 41) hx hb dX7_accepts_7 (by decide) h (fun c3 h => ?_) (fun c3 h => ?_)
  · exact t_X7_accepts_b41 hX hr hlk   h _ _ _ hP hS (lv_sub hl [] rfl)
  · refine lv_iload_n hx hb dX7_accepts_10 rfl (lv_at hl 2 rfl) ?_
    refine lv_iconst (v := 0) hx hb dX7_accepts_11 kc_i0 ?_
    refine lv_ldc (v := 1000000000) hx hb hown (hts _ q682) dX7_accepts_12 ?_
    obtain ⟨r5, e4, h⟩ := ob1_some h
    refine j_i (j_runS (rest := []) hX hP hl.1 Y_X7_isWithin (c_X7_isWithin hA e4) ⟨rfl, rfl⟩ q301 ⟨Nat.le_of_ble_eq_true rfl, Nat.le_of_ble_eq_true rfl⟩ rfl rfl (Nat.le_of_ble_eq_true rfl) dX7_accepts_14) hS (fun H locs hP hS => ?_)
    refine x_if_eq (tgt := 41) hx hb dX7_accepts_17 (by decide) h (fun c6 h => ?_) (fun c6 h => ?_)
    · exact t_X7_accepts_b41 hX hr hlk   h _ _ _ hP hS (lv_sub hl [] rfl)
    · refine lv_iload_n hx hb dX7_accepts_20 rfl (lv_at hl 3 rfl) ?_
      refine lv_iconst (v := 0) hx hb dX7_accepts_21 kc_i0 ?_
      refine lv_ldc (v := 62615532) hx hb hown (hts _ q713) dX7_accepts_22 ?_
      obtain ⟨r8, e7, h⟩ := ob1_some h
      refine j_i (j_runS (rest := []) hX hP hl.1 Y_X7_isWithin (c_X7_isWithin hA e7) ⟨rfl, rfl⟩ q301 ⟨Nat.le_of_ble_eq_true rfl, Nat.le_of_ble_eq_true rfl⟩ rfl rfl (Nat.le_of_ble_eq_true rfl) dX7_accepts_24) hS (fun H locs hP hS => ?_)
      refine x_if_eq (tgt := 41) hx hb dX7_accepts_27 (by decide) h (fun c9 h => ?_) (fun c9 h => ?_)
      · exact t_X7_accepts_b41 hX hr hlk   h _ _ _ hP hS (lv_sub hl [] rfl)
      · refine lv_iload hx hb dX7_accepts_30 (lv_at hl 4 rfl) ?_
        refine lv_iconst (v := 0) hx hb dX7_accepts_32 kc_i0 ?_
        refine lv_ldc (v := 62615532) hx hb hown (hts _ q713) dX7_accepts_33 ?_
        obtain ⟨r11, e10, h⟩ := ob1_some h
        refine j_i (j_runS (rest := []) hX hP hl.1 Y_X7_isWithin (c_X7_isWithin hA e10) ⟨rfl, rfl⟩ q301 ⟨Nat.le_of_ble_eq_true rfl, Nat.le_of_ble_eq_true rfl⟩ rfl rfl (Nat.le_of_ble_eq_true rfl) dX7_accepts_35) hS (fun H locs hP hS => ?_)
        refine x_if_ne (tgt := 43) hx hb dX7_accepts_38 (by decide) h (fun c12 h => ?_) (fun c12 h => ?_)
        · refine lv_iload_n hx hb dX7_accepts_43 rfl (lv_at hl 1 rfl) ?_
          refine lv_iload_n hx hb dX7_accepts_44 rfl (lv_at hl 2 rfl) ?_
          refine lv_iload_n hx hb dX7_accepts_45 rfl (lv_at hl 3 rfl) ?_
          refine lv_iload hx hb dX7_accepts_46 (lv_at hl 4 rfl) ?_
          obtain ⟨r14, e13, h⟩ := ob1_some h
          refine j_i (j_runS (rest := []) hX hP hl.1 Y_X6_isProven (c_X6_isProven hA e13) ⟨rfl, rfl⟩ q714 ⟨Nat.le_of_ble_eq_true rfl, Nat.le_of_ble_eq_true rfl⟩ rfl rfl (Nat.le_of_ble_eq_true rfl) dX7_accepts_48) hS (fun H locs hP hS => ?_)
          refine x_if_eq (tgt := 58) hx hb dX7_accepts_51 (by decide) h (fun c15 h => ?_) (fun c15 h => ?_)
          · refine lv_iconst (v := 0) hx hb dX7_accepts_58 kc_i0 ?_
            exact t_X7_accepts_b59 hX hr hlk  _ h _ _ _ hP hS (lv_sub hl [] rfl)
          · refine lv_iconst (v := 1) hx hb dX7_accepts_54 kc_i1 ?_
            refine lv_goto (tgt := 59) hx hb dX7_accepts_55 (by decide) ?_
            exact t_X7_accepts_b59 hX hr hlk  _ h _ _ _ hP hS (lv_sub hl [] rfl)
        · exact t_X7_accepts_b41 hX hr hlk   h _ _ _ hP hS (lv_sub hl [] rfl)
/-! OwnerlessCoin.account(II)I -/
def rm_X7_account : Room := { frames := 1, cells := 0, slots := 0, locals := 22 }
theorem Y_X7_account : yv yX7_account cX7_account 4 (some .int) 2 RX7 := ⟨q721, q719, q720, q51, by decide +kernel⟩
set_option maxHeartbeats 4000000 in
set_option maxRecDepth 100000 in
theorem t_X7_account_b20 {p : Program} {l : Launch} {e : Env} {s : State} {m : MethodId} {args : Array Value} {below : List Frame} {meth : Method} {c : Code} {D : va_G} {tc : Tc} {ad : Nat → Nat} {A : Nat → Prop} {M : St} {rr : Int32} (hX : cx p s m args c cX7_account 4 RX7 D tc ad A) (hr : meth.sig.returnType = some .int) (hlk : meth.locks = false) : ∀ (I : St), f_X7_account_b20 I = some rr → ∀ (H : Heap) (locs : List Loc) (ls : Array Slot), va_P D vwCl (wl tc ad (cmb I M)) H → va_S A s.heap H locs → lv_has ls 4 [] → W p l e rm_X7_account s m args below meth c H locs 0 0 (MQ below (qi D tc ad A rr (cmb I M)) args s 0 0 A) (F0 m 20 ls []) := by
  intro I h H locs ls hP hS hl
  unfold f_X7_account_b20 at h
  have hx := hX.1
  have hb := hX.2.1
  have hown := hX.2.2.2.1
  have hts := hX.2.2.2.2.1
  have hA := hX.2.2.2.2.2.2
  refine lv_iconst (v := (-1)) hx hb dX7_account_20 kc_im1 ?_
  cases h
  exact j_iret hX hr hlk hP hS dX7_account_21
set_option maxHeartbeats 4000000 in
set_option maxRecDepth 100000 in
theorem c_X7_account {l : Launch} {D : va_G} {tc : Tc} {ad : Nat → Nat} {A : Nat → Prop} (hA : adok ad A) {I M : St} {v1 : Int32} {v2 : Int32} {rr : Int32} (h : f_X7_account v1 v2 I = some rr) : Met l yX7_account (Cond.code yX7_account cX7_account 4 (some .int) :: tw) rm_X7_account (pre D tc ad [.ref (ad 145), .int v1, .int v2] (cmb I M)) (qi D tc ad A rr (cmb I M)) 0 0 A := by
  unfold f_X7_account at h
  refine mk_met (own := RX7) (by decide +kernel) rfl hA (Nat.le_of_ble_eq_true rfl) ?_
  intro p e s m below meth c ls hX hr hlk hl hP hS
  have hl : lv_has ls 4 [(0, .ref (ad 145)), (1, .int v1), (2, .int v2)] := hl
  have hx := hX.1
  have hb := hX.2.1
  have hown := hX.2.2.2.1
  have hts := hX.2.2.2.2.1
  refine lv_aload_n hx hb dX7_account_0 rfl (lv_at hl 0 rfl) ?_
  refine r_getq (t := 0) hX hP cok5 0 sl_145 sk_145 (by decide) rfl q286 dX7_account_1 ?_
  refine lv_iload_n hx hb dX7_account_4 rfl (lv_at hl 1 rfl) ?_
  obtain ⟨r2, e1, h⟩ := ob1_some h
  refine j_i (j_runV (rest := []) hX hP hl.1 Y_X4_isParticipant cok3 (lt157 sl_0) sk_0 (c_X4_isParticipant hA e1) ⟨rfl, rfl⟩ q337 ⟨Nat.le_of_ble_eq_true rfl, Nat.le_of_ble_eq_true rfl⟩ rfl rfl (Nat.le_of_ble_eq_true rfl) dX7_account_5) hS (fun H locs hP hS => ?_)
  refine x_if_eq (tgt := 20) hx hb dX7_account_8 (by decide) h (fun c3 h => ?_) (fun c3 h => ?_)
  · exact t_X7_account_b20 hX hr hlk  _ h _ _ _ hP hS (lv_sub hl [] rfl)
  · refine lv_iload_n hx hb dX7_account_11 rfl (lv_at hl 2 rfl) ?_
    refine lv_iconst (v := 0) hx hb dX7_account_12 kc_i0 ?_
    refine lv_iconst (v := 4) hx hb dX7_account_13 kc_i4 ?_
    obtain ⟨r5, e4, h⟩ := ob1_some h
    refine j_i (j_runS (rest := []) hX hP hl.1 Y_X7_isWithin (c_X7_isWithin hA e4) ⟨rfl, rfl⟩ q301 ⟨Nat.le_of_ble_eq_true rfl, Nat.le_of_ble_eq_true rfl⟩ rfl rfl (Nat.le_of_ble_eq_true rfl) dX7_account_14) hS (fun H locs hP hS => ?_)
    refine x_if_ne (tgt := 22) hx hb dX7_account_17 (by decide) h (fun c6 h => ?_) (fun c6 h => ?_)
    · refine lv_aload_n hx hb dX7_account_22 rfl (lv_at hl 0 rfl) ?_
      refine r_getq (t := 0) hX hP cok5 0 sl_145 sk_145 (by decide) rfl q286 dX7_account_23 ?_
      refine r_getq (t := 1) hX hP cok3 0 sl_0 sk_0 (by decide) rfl q182 dX7_account_26 ?_
      refine lv_iload_n hx hb dX7_account_29 rfl (lv_at hl 1 rfl) ?_
      refine r_ldq hX hP h (lt157 sl_1) sk_1 sn_1 dX7_account_30 (fun g7 h => ?_)
      refine lv_astore_n (lv' := [(3, .ref (ad (5 + v1.toNatClampNeg))), (0, .ref (ad 145)), (1, .int v1), (2, .int v2)]) hx hb dX7_account_31 rfl hl (Nat.le_of_ble_eq_true rfl) rfl (fun ls hl => ?_)
      refine lv_iload_n hx hb dX7_account_32 rfl (lv_at hl 3 rfl) ?_
      by_cases c8 : v2 = 0
      · rw [if_pos c8] at h
        refine lv_tableIn (tgt := 64) hx hb dX7_account_33 (by rw [c8]; decide) (by rw [c8]; decide) (by rw [c8]; rfl) (by decide) ?_
        refine lv_aload_n hx hb dX7_account_64 rfl (lv_at hl 0 rfl) ?_
        refine r_get hX hP cok4 0 (isP_lt (isP_of g7)) (isP_kd (isP_of g7)) (by decide) rfl q125 dX7_account_65 ?_
        cases h
        exact j_iret hX hr hlk hP hS dX7_account_68
      rw [if_neg c8] at h
      by_cases c9 : v2 = 1
      · rw [if_pos c9] at h
        refine lv_tableIn (tgt := 69) hx hb dX7_account_33 (by rw [c9]; decide) (by rw [c9]; decide) (by rw [c9]; rfl) (by decide) ?_
        refine lv_aload_n hx hb dX7_account_69 rfl (lv_at hl 0 rfl) ?_
        refine r_get hX hP cok4 2 (isP_lt (isP_of g7)) (isP_kd (isP_of g7)) (by decide) rfl q131 dX7_account_70 ?_
        cases h
        exact j_iret hX hr hlk hP hS dX7_account_73
      rw [if_neg c9] at h
      by_cases c10 : v2 = 2
      · rw [if_pos c10] at h
        refine lv_tableIn (tgt := 74) hx hb dX7_account_33 (by rw [c10]; decide) (by rw [c10]; decide) (by rw [c10]; rfl) (by decide) ?_
        refine lv_aload_n hx hb dX7_account_74 rfl (lv_at hl 0 rfl) ?_
        refine r_get hX hP cok4 3 (isP_lt (isP_of g7)) (isP_kd (isP_of g7)) (by decide) rfl q134 dX7_account_75 ?_
        cases h
        exact j_iret hX hr hlk hP hS dX7_account_78
      rw [if_neg c10] at h
      by_cases c11 : v2 = 3
      · rw [if_pos c11] at h
        refine lv_tableIn (tgt := 79) hx hb dX7_account_33 (by rw [c11]; decide) (by rw [c11]; decide) (by rw [c11]; rfl) (by decide) ?_
        refine lv_aload_n hx hb dX7_account_79 rfl (lv_at hl 0 rfl) ?_
        refine r_get hX hP cok4 4 (isP_lt (isP_of g7)) (isP_kd (isP_of g7)) (by decide) rfl q137 dX7_account_80 ?_
        cases h
        exact j_iret hX hr hlk hP hS dX7_account_83
      rw [if_neg c11] at h
      refine lv_tableOut (tgt := 84) hx hb dX7_account_33 (sw_out4 c8 c9 c10 c11) (by decide) ?_
      refine lv_aload_n hx hb dX7_account_84 rfl (lv_at hl 0 rfl) ?_
      refine r_get hX hP cok4 1 (isP_lt (isP_of g7)) (isP_kd (isP_of g7)) (by decide) rfl q127 dX7_account_85 ?_
      cases h
      exact j_iret hX hr hlk hP hS dX7_account_88
    · exact t_X7_account_b20 hX hr hlk  _ h _ _ _ hP hS (lv_sub hl [] rfl)
/-! OwnerlessCoin.pot()I -/
def rm_X7_pot : Room := { frames := 0, cells := 0, slots := 0, locals := 0 }
theorem Y_X7_pot : yv yX7_pot cX7_pot 1 (some .int) 0 RX7 := ⟨q725, q723, q724, q51, by decide +kernel⟩
set_option maxHeartbeats 4000000 in
set_option maxRecDepth 100000 in
theorem c_X7_pot {l : Launch} {D : va_G} {tc : Tc} {ad : Nat → Nat} {A : Nat → Prop} (hA : adok ad A) {I M : St}  {rr : Int32} (h : f_X7_pot I = some rr) : Met l yX7_pot (Cond.code yX7_pot cX7_pot 1 (some .int) :: tw) rm_X7_pot (pre D tc ad [.ref (ad 145)] (cmb I M)) (qi D tc ad A rr (cmb I M)) 0 0 A := by
  unfold f_X7_pot at h
  refine mk_met (own := RX7) (by decide +kernel) rfl hA (Nat.le_of_ble_eq_true rfl) ?_
  intro p e s m below meth c ls hX hr hlk hl hP hS
  have hl : lv_has ls 1 [(0, .ref (ad 145))] := hl
  have hx := hX.1
  have hb := hX.2.1
  have hown := hX.2.2.2.1
  have hts := hX.2.2.2.2.1
  refine lv_aload_n hx hb dX7_pot_0 rfl (lv_at hl 0 rfl) ?_
  refine r_getq (t := 0) hX hP cok5 0 sl_145 sk_145 (by decide) rfl q286 dX7_pot_1 ?_
  refine r_get hX hP cok3 4 sl_0 sk_0 (by decide) rfl q193 dX7_pot_4 ?_
  cases h
  exact j_iret hX hr hlk hP hS dX7_pot_7
/-! OwnerlessCoin.rounds()I -/
def rm_X7_rounds : Room := { frames := 0, cells := 0, slots := 0, locals := 0 }
theorem Y_X7_rounds : yv yX7_rounds cX7_rounds 1 (some .int) 0 RX7 := ⟨q729, q727, q728, q51, by decide +kernel⟩
set_option maxHeartbeats 4000000 in
set_option maxRecDepth 100000 in
theorem c_X7_rounds {l : Launch} {D : va_G} {tc : Tc} {ad : Nat → Nat} {A : Nat → Prop} (hA : adok ad A) {I M : St}  {rr : Int32} (h : f_X7_rounds I = some rr) : Met l yX7_rounds (Cond.code yX7_rounds cX7_rounds 1 (some .int) :: tw) rm_X7_rounds (pre D tc ad [.ref (ad 145)] (cmb I M)) (qi D tc ad A rr (cmb I M)) 0 0 A := by
  unfold f_X7_rounds at h
  refine mk_met (own := RX7) (by decide +kernel) rfl hA (Nat.le_of_ble_eq_true rfl) ?_
  intro p e s m below meth c ls hX hr hlk hl hP hS
  have hl : lv_has ls 1 [(0, .ref (ad 145))] := hl
  have hx := hX.1
  have hb := hX.2.1
  have hown := hX.2.2.2.1
  have hts := hX.2.2.2.2.1
  refine lv_aload_n hx hb dX7_rounds_0 rfl (lv_at hl 0 rfl) ?_
  refine r_getq (t := 0) hX hP cok5 0 sl_145 sk_145 (by decide) rfl q286 dX7_rounds_1 ?_
  refine r_getq (t := 3) hX hP cok3 2 sl_0 sk_0 (by decide) rfl q189 dX7_rounds_4 ?_
  refine r_get hX hP cok0 0 sl_3 sk_3 (by decide) rfl q86 dX7_rounds_7 ?_
  cases h
  exact j_iret hX hr hlk hP hS dX7_rounds_10
/-! OwnerlessCoin$Chronicle.keeps(I)Z -/
def rm_X0_keeps : Room := { frames := 0, cells := 0, slots := 0, locals := 0 }
theorem Y_X0_keeps : yv yX0_keeps cX0_keeps 2 (some .boolean) 1 RX0 := ⟨q737, q735, q736, q53, by decide +kernel⟩
set_option maxHeartbeats 4000000 in
set_option maxRecDepth 100000 in
theorem t_X0_keeps_b28 {p : Program} {l : Launch} {e : Env} {s : State} {m : MethodId} {args : Array Value} {below : List Frame} {meth : Method} {c : Code} {D : va_G} {tc : Tc} {ad : Nat → Nat} {A : Nat → Prop} {M : St} {rr : Int32} (hX : cx p s m args c cX0_keeps 2 RX0 D tc ad A) (hr : meth.sig.returnType = some .boolean) (hlk : meth.locks = false) : ∀ (t0 : Int32) (I : St), f_X0_keeps_b28 t0 I = some rr → ∀ (H : Heap) (locs : List Loc) (ls : Array Slot), va_P D vwCl (wl tc ad (cmb I M)) H → va_S A s.heap H locs → lv_has ls 2 [] → W p l e rm_X0_keeps s m args below meth c H locs 0 0 (MQ below (qi D tc ad A rr (cmb I M)) args s 0 0 A) (F0 m 28 ls [.int t0]) := by
  intro t0 I h H locs ls hP hS hl
  unfold f_X0_keeps_b28 at h
  have hx := hX.1
  have hb := hX.2.1
  have hown := hX.2.2.2.1
  have hts := hX.2.2.2.2.1
  have hA := hX.2.2.2.2.2.2
  obtain ⟨gz, h⟩ := ck_some h
  cases h
  exact j_zret hX hr hlk hP hS (isB_or gz) dX0_keeps_28
set_option maxHeartbeats 4000000 in
set_option maxRecDepth 100000 in
theorem t_X0_keeps_b27 {p : Program} {l : Launch} {e : Env} {s : State} {m : MethodId} {args : Array Value} {below : List Frame} {meth : Method} {c : Code} {D : va_G} {tc : Tc} {ad : Nat → Nat} {A : Nat → Prop} {M : St} {rr : Int32} (hX : cx p s m args c cX0_keeps 2 RX0 D tc ad A) (hr : meth.sig.returnType = some .boolean) (hlk : meth.locks = false) : ∀ (I : St), f_X0_keeps_b27 I = some rr → ∀ (H : Heap) (locs : List Loc) (ls : Array Slot), va_P D vwCl (wl tc ad (cmb I M)) H → va_S A s.heap H locs → lv_has ls 2 [] → W p l e rm_X0_keeps s m args below meth c H locs 0 0 (MQ below (qi D tc ad A rr (cmb I M)) args s 0 0 A) (F0 m 27 ls []) := by
  intro I h H locs ls hP hS hl
  unfold f_X0_keeps_b27 at h
  have hx := hX.1
  have hb := hX.2.1
  have hown := hX.2.2.2.1
  have hts := hX.2.2.2.2.1
  have hA := hX.2.2.2.2.2.2
  refine lv_iconst (v := 0) hx hb dX0_keeps_27 kc_i0 ?_
  exact t_X0_keeps_b28 hX hr hlk  _ _ h _ _ _ hP hS (lv_sub hl [] rfl)
set_option maxHeartbeats 4000000 in
set_option maxRecDepth 100000 in
theorem c_X0_keeps {l : Launch} {D : va_G} {tc : Tc} {ad : Nat → Nat} {A : Nat → Prop} (hA : adok ad A) {I M : St} {v1 : Int32} {rr : Int32} (h : f_X0_keeps v1 I = some rr) : Met l yX0_keeps (Cond.code yX0_keeps cX0_keeps 2 (some .boolean) :: tw) rm_X0_keeps (pre D tc ad [.ref (ad 3), .int v1] (cmb I M)) (qi D tc ad A rr (cmb I M)) 0 0 A := by
  unfold f_X0_keeps at h
  refine mk_met (own := RX0) (by decide +kernel) rfl hA (Nat.le_of_ble_eq_true rfl) ?_
  intro p e s m below meth c ls hX hr hlk hl hP hS
  have hl : lv_has ls 2 [(0, .ref (ad 3)), (1, .int v1)] := hl
  have hx := hX.1
  have hb := hX.2.1
  have hown := hX.2.2.2.1
  have hts := hX.2.2.2.2.1
  refine lv_iload_n hx hb dX0_keeps_0 rfl (lv_at hl 1 rfl) ?_
  refine x_if_lt (tgt := 27) hx hb dX0_keeps_1 (by decide) h (fun c1 h => ?_) (fun c1 h => ?_)
  · exact t_X0_keeps_b27 hX hr hlk  _ h _ _ _ hP hS (lv_sub hl [] rfl)
  · refine lv_iload_n hx hb dX0_keeps_4 rfl (lv_at hl 1 rfl) ?_
    refine lv_aload_n hx hb dX0_keeps_5 rfl (lv_at hl 0 rfl) ?_
    refine r_get hX hP cok0 0 sl_3 sk_3 (by decide) rfl q85 dX0_keeps_6 ?_
    refine x_icmp_ge (tgt := 27) hx hb dX0_keeps_9 (by decide) h (fun c2 h => ?_) (fun c2 h => ?_)
    · exact t_X0_keeps_b27 hX hr hlk  _ h _ _ _ hP hS (lv_sub hl [] rfl)
    · refine lv_iload_n hx hb dX0_keeps_12 rfl (lv_at hl 1 rfl) ?_
      refine lv_aload_n hx hb dX0_keeps_13 rfl (lv_at hl 0 rfl) ?_
      refine r_get hX hP cok0 0 sl_3 sk_3 (by decide) rfl q85 dX0_keeps_14 ?_
      refine x_let h (fun x3 h => ?_)
      refine lv_bipush (v := 16) hx hb dX0_keeps_17 kc_b16 ?_
      refine lv_isub hx hb dX0_keeps_19 ?_
      refine x_icmp_lt (tgt := 27) hx hb dX0_keeps_20 (by decide) h (fun c4 h => ?_) (fun c4 h => ?_)
      · exact t_X0_keeps_b27 hX hr hlk  _ h _ _ _ hP hS (lv_sub hl [] rfl)
      · refine lv_iconst (v := 1) hx hb dX0_keeps_23 kc_i1 ?_
        refine lv_goto (tgt := 28) hx hb dX0_keeps_24 (by decide) ?_
        exact t_X0_keeps_b28 hX hr hlk  _ _ h _ _ _ hP hS (lv_sub hl [] rfl)
/-! OwnerlessCoin$Chronicle.entry(II)I -/
def rm_X0_entry : Room := { frames := 0, cells := 0, slots := 0, locals := 0 }
theorem Y_X0_entry : yv yX0_entry cX0_entry 3 (some .int) 2 RX0 := ⟨q741, q739, q740, q53, by decide +kernel⟩
set_option maxHeartbeats 4000000 in
set_option maxRecDepth 100000 in
theorem c_X0_entry {l : Launch} {D : va_G} {tc : Tc} {ad : Nat → Nat} {A : Nat → Prop} (hA : adok ad A) {I M : St} {v1 : Int32} {v2 : Int32} {rr : Int32} (h : f_X0_entry v1 v2 I = some rr) : Met l yX0_entry (Cond.code yX0_entry cX0_entry 3 (some .int) :: tw) rm_X0_entry (pre D tc ad [.ref (ad 3), .int v1, .int v2] (cmb I M)) (qi D tc ad A rr (cmb I M)) 0 0 A := by
  unfold f_X0_entry at h
  refine mk_met (own := RX0) (by decide +kernel) rfl hA (Nat.le_of_ble_eq_true rfl) ?_
  intro p e s m below meth c ls hX hr hlk hl hP hS
  have hl : lv_has ls 3 [(0, .ref (ad 3)), (1, .int v1), (2, .int v2)] := hl
  have hx := hX.1
  have hb := hX.2.1
  have hown := hX.2.2.2.1
  have hts := hX.2.2.2.2.1
  refine lv_aload_n hx hb dX0_entry_0 rfl (lv_at hl 0 rfl) ?_
  refine r_getq (t := 4) hX hP cok0 7 sl_3 sk_3 (by decide) rfl q99 dX0_entry_1 ?_
  refine lv_iload_n hx hb dX0_entry_4 rfl (lv_at hl 1 rfl) ?_
  refine lv_bipush (v := 16) hx hb dX0_entry_5 kc_b16 ?_
  refine lv_irem hx hb dX0_entry_7 (by decide) ?_
  refine x_let h (fun x1 h => ?_)
  refine lv_bipush (v := 6) hx hb dX0_entry_8 kc_b6 ?_
  refine lv_imul hx hb dX0_entry_10 ?_
  refine x_let h (fun x2 h => ?_)
  refine lv_iload_n hx hb dX0_entry_11 rfl (lv_at hl 2 rfl) ?_
  refine lv_iadd hx hb dX0_entry_12 ?_
  refine x_let h (fun x3 h => ?_)
  refine r_ald hX hP h sl_4 sk_4 sn_4 dX0_entry_13 (fun h => ?_)
  cases h
  exact j_iret hX hr hlk hP hS dX0_entry_14
/-! OwnerlessCoin.past(II)I -/
def rm_X7_past : Room := { frames := 1, cells := 0, slots := 0, locals := 22 }
theorem Y_X7_past : yv yX7_past cX7_past 3 (some .int) 2 RX7 := ⟨q733, q731, q732, q51, by decide +kernel⟩
set_option maxHeartbeats 4000000 in
set_option maxRecDepth 100000 in
theorem t_X7_past_b13 {p : Program} {l : Launch} {e : Env} {s : State} {m : MethodId} {args : Array Value} {below : List Frame} {meth : Method} {c : Code} {D : va_G} {tc : Tc} {ad : Nat → Nat} {A : Nat → Prop} {M : St} {rr : Int32} (hX : cx p s m args c cX7_past 3 RX7 D tc ad A) (hr : meth.sig.returnType = some .int) (hlk : meth.locks = false) : ∀ (I : St), f_X7_past_b13 I = some rr → ∀ (H : Heap) (locs : List Loc) (ls : Array Slot), va_P D vwCl (wl tc ad (cmb I M)) H → va_S A s.heap H locs → lv_has ls 3 [] → W p l e rm_X7_past s m args below meth c H locs 0 0 (MQ below (qi D tc ad A rr (cmb I M)) args s 0 0 A) (F0 m 13 ls []) := by
  intro I h H locs ls hP hS hl
  unfold f_X7_past_b13 at h
  have hx := hX.1
  have hb := hX.2.1
  have hown := hX.2.2.2.1
  have hts := hX.2.2.2.2.1
  have hA := hX.2.2.2.2.2.2
  refine lv_iconst (v := (-1)) hx hb dX7_past_13 kc_im1 ?_
  cases h
  exact j_iret hX hr hlk hP hS dX7_past_14
set_option maxHeartbeats 4000000 in
set_option maxRecDepth 100000 in
theorem c_X7_past {l : Launch} {D : va_G} {tc : Tc} {ad : Nat → Nat} {A : Nat → Prop} (hA : adok ad A) {I M : St} {v1 : Int32} {v2 : Int32} {rr : Int32} (h : f_X7_past v1 v2 I = some rr) : Met l yX7_past (Cond.code yX7_past cX7_past 3 (some .int) :: tw) rm_X7_past (pre D tc ad [.ref (ad 145), .int v1, .int v2] (cmb I M)) (qi D tc ad A rr (cmb I M)) 0 0 A := by
  unfold f_X7_past at h
  refine mk_met (own := RX7) (by decide +kernel) rfl hA (Nat.le_of_ble_eq_true rfl) ?_
  intro p e s m below meth c ls hX hr hlk hl hP hS
  have hl : lv_has ls 3 [(0, .ref (ad 145)), (1, .int v1), (2, .int v2)] := hl
  have hx := hX.1
  have hb := hX.2.1
  have hown := hX.2.2.2.1
  have hts := hX.2.2.2.2.1
  refine lv_iload_n hx hb dX7_past_0 rfl (lv_at hl 1 rfl) ?_
  refine x_if_lt (tgt := 13) hx hb dX7_past_1 (by decide) h (fun c1 h => ?_) (fun c1 h => ?_)
  · exact t_X7_past_b13 hX hr hlk  _ h _ _ _ hP hS (lv_sub hl [] rfl)
  · refine lv_iload_n hx hb dX7_past_4 rfl (lv_at hl 2 rfl) ?_
    refine lv_iconst (v := 0) hx hb dX7_past_5 kc_i0 ?_
    refine lv_iconst (v := 4) hx hb dX7_past_6 kc_i4 ?_
    obtain ⟨r3, e2, h⟩ := ob1_some h
    refine j_i (j_runS (rest := []) hX hP hl.1 Y_X7_isWithin (c_X7_isWithin hA e2) ⟨rfl, rfl⟩ q301 ⟨Nat.le_of_ble_eq_true rfl, Nat.le_of_ble_eq_true rfl⟩ rfl rfl (Nat.le_of_ble_eq_true rfl) dX7_past_7) hS (fun H locs hP hS => ?_)
    refine x_if_ne (tgt := 15) hx hb dX7_past_10 (by decide) h (fun c4 h => ?_) (fun c4 h => ?_)
    · refine lv_aload_n hx hb dX7_past_15 rfl (lv_at hl 0 rfl) ?_
      refine r_getq (t := 0) hX hP cok5 0 sl_145 sk_145 (by decide) rfl q286 dX7_past_16 ?_
      refine r_getq (t := 3) hX hP cok3 2 sl_0 sk_0 (by decide) rfl q189 dX7_past_19 ?_
      refine lv_iload_n hx hb dX7_past_22 rfl (lv_at hl 1 rfl) ?_
      obtain ⟨r6, e5, h⟩ := ob1_some h
      refine j_i (j_runV (rest := []) hX hP hl.1 Y_X0_keeps cok0 (lt157 sl_3) sk_3 (c_X0_keeps hA e5) ⟨rfl, rfl⟩ q734 ⟨Nat.le_of_ble_eq_true rfl, Nat.le_of_ble_eq_true rfl⟩ rfl rfl (Nat.le_of_ble_eq_true rfl) dX7_past_23) hS (fun H locs hP hS => ?_)
      refine x_if_ne (tgt := 32) hx hb dX7_past_26 (by decide) h (fun c7 h => ?_) (fun c7 h => ?_)
      · refine lv_aload_n hx hb dX7_past_32 rfl (lv_at hl 0 rfl) ?_
        refine r_getq (t := 0) hX hP cok5 0 sl_145 sk_145 (by decide) rfl q286 dX7_past_33 ?_
        refine r_getq (t := 3) hX hP cok3 2 sl_0 sk_0 (by decide) rfl q189 dX7_past_36 ?_
        refine lv_iload_n hx hb dX7_past_39 rfl (lv_at hl 1 rfl) ?_
        refine lv_iload_n hx hb dX7_past_40 rfl (lv_at hl 2 rfl) ?_
        obtain ⟨r9, e8, h⟩ := ob1_some h
        refine j_i (j_runV (rest := []) hX hP hl.1 Y_X0_entry cok0 (lt157 sl_3) sk_3 (c_X0_entry hA e8) ⟨rfl, rfl⟩ q738 ⟨Nat.le_of_ble_eq_true rfl, Nat.le_of_ble_eq_true rfl⟩ rfl rfl (Nat.le_of_ble_eq_true rfl) dX7_past_41) hS (fun H locs hP hS => ?_)
        cases h
        exact j_iret hX hr hlk hP hS dX7_past_44
      · refine lv_bipush (v := (-9)) hx hb dX7_past_29 kc_bm9 ?_
        cases h
        exact j_iret hX hr hlk hP hS dX7_past_31
    · exact t_X7_past_b13 hX hr hlk  _ h _ _ _ hP hS (lv_sub hl [] rfl)
/-! OwnerlessCoin.output(I)I -/
def rm_X7_output : Room := { frames := 1, cells := 0, slots := 0, locals := 22 }
theorem Y_X7_output : yv yX7_output cX7_output 2 (some .int) 1 RX7 := ⟨q745, q743, q744, q51, by decide +kernel⟩
set_option maxHeartbeats 4000000 in
set_option maxRecDepth 100000 in
theorem c_X7_output {l : Launch} {D : va_G} {tc : Tc} {ad : Nat → Nat} {A : Nat → Prop} (hA : adok ad A) {I M : St} {v1 : Int32} {rr : Int32} (h : f_X7_output v1 I = some rr) : Met l yX7_output (Cond.code yX7_output cX7_output 2 (some .int) :: tw) rm_X7_output (pre D tc ad [.ref (ad 145), .int v1] (cmb I M)) (qi D tc ad A rr (cmb I M)) 0 0 A := by
  unfold f_X7_output at h
  refine mk_met (own := RX7) (by decide +kernel) rfl hA (Nat.le_of_ble_eq_true rfl) ?_
  intro p e s m below meth c ls hX hr hlk hl hP hS
  have hl : lv_has ls 2 [(0, .ref (ad 145)), (1, .int v1)] := hl
  have hx := hX.1
  have hb := hX.2.1
  have hown := hX.2.2.2.1
  have hts := hX.2.2.2.2.1
  refine lv_aload_n hx hb dX7_output_0 rfl (lv_at hl 0 rfl) ?_
  refine r_getq (t := 0) hX hP cok5 0 sl_145 sk_145 (by decide) rfl q286 dX7_output_1 ?_
  refine r_getq (t := 3) hX hP cok3 2 sl_0 sk_0 (by decide) rfl q189 dX7_output_4 ?_
  refine lv_iload_n hx hb dX7_output_7 rfl (lv_at hl 1 rfl) ?_
  obtain ⟨r2, e1, h⟩ := ob1_some h
  refine j_i (j_runV (rest := []) hX hP hl.1 Y_X0_keeps cok0 (lt157 sl_3) sk_3 (c_X0_keeps hA e1) ⟨rfl, rfl⟩ q734 ⟨Nat.le_of_ble_eq_true rfl, Nat.le_of_ble_eq_true rfl⟩ rfl rfl (Nat.le_of_ble_eq_true rfl) dX7_output_8) hS (fun H locs hP hS => ?_)
  refine x_if_ne (tgt := 16) hx hb dX7_output_11 (by decide) h (fun c3 h => ?_) (fun c3 h => ?_)
  · refine lv_aload_n hx hb dX7_output_16 rfl (lv_at hl 0 rfl) ?_
    refine r_getq (t := 0) hX hP cok5 0 sl_145 sk_145 (by decide) rfl q286 dX7_output_17 ?_
    refine r_getq (t := 3) hX hP cok3 2 sl_0 sk_0 (by decide) rfl q189 dX7_output_20 ?_
    refine lv_iload_n hx hb dX7_output_23 rfl (lv_at hl 1 rfl) ?_
    refine lv_iconst (v := 5) hx hb dX7_output_24 kc_i5 ?_
    obtain ⟨r5, e4, h⟩ := ob1_some h
    refine j_i (j_runV (rest := []) hX hP hl.1 Y_X0_entry cok0 (lt157 sl_3) sk_3 (c_X0_entry hA e4) ⟨rfl, rfl⟩ q738 ⟨Nat.le_of_ble_eq_true rfl, Nat.le_of_ble_eq_true rfl⟩ rfl rfl (Nat.le_of_ble_eq_true rfl) dX7_output_25) hS (fun H locs hP hS => ?_)
    cases h
    exact j_iret hX hr hlk hP hS dX7_output_28
  · refine lv_iconst (v := 0) hx hb dX7_output_14 kc_i0 ?_
    cases h
    exact j_iret hX hr hlk hP hS dX7_output_15
/-! OwnerlessCoin.coins(I)I -/
def rm_X7_coins : Room := { frames := 1, cells := 0, slots := 0, locals := 22 }
theorem Y_X7_coins : yv yX7_coins cX7_coins 2 (some .int) 1 RX7 := ⟨q749, q747, q748, q51, by decide +kernel⟩
set_option maxHeartbeats 4000000 in
set_option maxRecDepth 100000 in
theorem t_X7_coins_b39 {p : Program} {l : Launch} {e : Env} {s : State} {m : MethodId} {args : Array Value} {below : List Frame} {meth : Method} {c : Code} {D : va_G} {tc : Tc} {ad : Nat → Nat} {A : Nat → Prop} {M : St} {rr : Int32} (hX : cx p s m args c cX7_coins 2 RX7 D tc ad A) (hr : meth.sig.returnType = some .int) (hlk : meth.locks = false) : ∀ (t0 : Int32) (I : St), f_X7_coins_b39 t0 I = some rr → ∀ (H : Heap) (locs : List Loc) (ls : Array Slot), va_P D vwCl (wl tc ad (cmb I M)) H → va_S A s.heap H locs → lv_has ls 2 [] → W p l e rm_X7_coins s m args below meth c H locs 0 0 (MQ below (qi D tc ad A rr (cmb I M)) args s 0 0 A) (F0 m 39 ls [.int t0]) := by
  intro t0 I h H locs ls hP hS hl
  unfold f_X7_coins_b39 at h
  have hx := hX.1
  have hb := hX.2.1
  have hown := hX.2.2.2.1
  have hts := hX.2.2.2.2.1
  have hA := hX.2.2.2.2.2.2
  cases h
  exact j_iret hX hr hlk hP hS dX7_coins_39
set_option maxHeartbeats 4000000 in
set_option maxRecDepth 100000 in
theorem c_X7_coins {l : Launch} {D : va_G} {tc : Tc} {ad : Nat → Nat} {A : Nat → Prop} (hA : adok ad A) {I M : St} {v1 : Int32} {rr : Int32} (h : f_X7_coins v1 I = some rr) : Met l yX7_coins (Cond.code yX7_coins cX7_coins 2 (some .int) :: tw) rm_X7_coins (pre D tc ad [.ref (ad 145), .int v1] (cmb I M)) (qi D tc ad A rr (cmb I M)) 0 0 A := by
  unfold f_X7_coins at h
  refine mk_met (own := RX7) (by decide +kernel) rfl hA (Nat.le_of_ble_eq_true rfl) ?_
  intro p e s m below meth c ls hX hr hlk hl hP hS
  have hl : lv_has ls 2 [(0, .ref (ad 145)), (1, .int v1)] := hl
  have hx := hX.1
  have hb := hX.2.1
  have hown := hX.2.2.2.1
  have hts := hX.2.2.2.2.1
  refine lv_iload_n hx hb dX7_coins_0 rfl (lv_at hl 1 rfl) ?_
  refine lv_iconst (v := 0) hx hb dX7_coins_1 kc_i0 ?_
  refine lv_iconst (v := 1) hx hb dX7_coins_2 kc_i1 ?_
  obtain ⟨r2, e1, h⟩ := ob1_some h
  refine j_i (j_runS (rest := []) hX hP hl.1 Y_X7_isWithin (c_X7_isWithin hA e1) ⟨rfl, rfl⟩ q301 ⟨Nat.le_of_ble_eq_true rfl, Nat.le_of_ble_eq_true rfl⟩ rfl rfl (Nat.le_of_ble_eq_true rfl) dX7_coins_3) hS (fun H locs hP hS => ?_)
  refine x_if_ne (tgt := 11) hx hb dX7_coins_6 (by decide) h (fun c3 h => ?_) (fun c3 h => ?_)
  · refine lv_iload_n hx hb dX7_coins_11 rfl (lv_at hl 1 rfl) ?_
    refine lv_iconst (v := 1) hx hb dX7_coins_12 kc_i1 ?_
    refine x_icmp_ne (tgt := 29) hx hb dX7_coins_13 (by decide) h (fun c4 h => ?_) (fun c4 h => ?_)
    · refine lv_aload_n hx hb dX7_coins_29 rfl (lv_at hl 0 rfl) ?_
      refine r_getq (t := 0) hX hP cok5 0 sl_145 sk_145 (by decide) rfl q286 dX7_coins_30 ?_
      refine r_getq (t := 3) hX hP cok3 2 sl_0 sk_0 (by decide) rfl q189 dX7_coins_33 ?_
      refine r_get hX hP cok0 2 sl_3 sk_3 (by decide) rfl q92 dX7_coins_36 ?_
      exact t_X7_coins_b39 hX hr hlk  _ _ h _ _ _ hP hS (lv_sub hl [] rfl)
    · refine lv_aload_n hx hb dX7_coins_16 rfl (lv_at hl 0 rfl) ?_
      refine r_getq (t := 0) hX hP cok5 0 sl_145 sk_145 (by decide) rfl q286 dX7_coins_17 ?_
      refine r_getq (t := 3) hX hP cok3 2 sl_0 sk_0 (by decide) rfl q189 dX7_coins_20 ?_
      refine r_get hX hP cok0 3 sl_3 sk_3 (by decide) rfl q94 dX7_coins_23 ?_
      refine lv_goto (tgt := 39) hx hb dX7_coins_26 (by decide) ?_
      exact t_X7_coins_b39 hX hr hlk  _ _ h _ _ _ hP hS (lv_sub hl [] rfl)
  · refine lv_iconst (v := (-1)) hx hb dX7_coins_9 kc_im1 ?_
    cases h
    exact j_iret hX hr hlk hP hS dX7_coins_10
