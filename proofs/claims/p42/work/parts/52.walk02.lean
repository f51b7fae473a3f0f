/-! OwnerlessCoin$Lab.isCommitted(I)Z -/
def rm_X4_isCommitted : Room := { frames := 1, cells := 0, slots := 0, locals := 21 }
theorem Y_X4_isCommitted : yv yX4_isCommitted cX4_isCommitted 2 (some .boolean) 1 RX4 := ⟨q346, q344, q345, q13, by decide +kernel⟩
set_option maxHeartbeats 4000000 in
set_option maxRecDepth 100000 in
theorem t_X4_isCommitted_b23 {p : Program} {l : Launch} {e : Env} {s : State} {m : MethodId} {args : Array Value} {below : List Frame} {meth : Method} {c : Code} {D : va_G} {tc : Tc} {ad : Nat → Nat} {A : Nat → Prop} {M : St} {rr : Int32} (hX : cx p s m args c cX4_isCommitted 2 RX4 D tc ad A) (hr : meth.sig.returnType = some .boolean) (hlk : meth.locks = false) : ∀ (t0 : Int32) (I : St), f_X4_isCommitted_b23 t0 I = some rr → ∀ (H : Heap) (locs : List Loc) (ls : Array Slot), va_P D vwCl (wl tc ad (cmb I M)) H → va_S A s.heap H locs → lv_has ls 2 [] → W p l e rm_X4_isCommitted s m args below meth c H locs 0 0 (MQ below (qi D tc ad A rr (cmb I M)) args s 0 0 A) (F0 m 23 ls [.int t0]) := by
  intro t0 I h H locs ls hP hS hl
  unfold f_X4_isCommitted_b23 at h
  have hx := hX.1
  have hb := hX.2.1
  have hown := hX.2.2.2.1
  have hts := hX.2.2.2.2.1
  have hA := hX.2.2.2.2.2.2
  obtain ⟨gz, h⟩ := ck_some h
  cases h
  exact j_zret hX hr hlk hP hS (isB_or gz) dX4_isCommitted_23
set_option maxHeartbeats 4000000 in
set_option maxRecDepth 100000 in
theorem t_X4_isCommitted_b22 {p : Program} {l : Launch} {e : Env} {s : State} {m : MethodId} {args : Array Value} {below : List Frame} {meth : Method} {c : Code} {D : va_G} {tc : Tc} {ad : Nat → Nat} {A : Nat → Prop} {M : St} {rr : Int32} (hX : cx p s m args c cX4_isCommitted 2 RX4 D tc ad A) (hr : meth.sig.returnType = some .boolean) (hlk : meth.locks = false) : ∀ (I : St), f_X4_isCommitted_b22 I = some rr → ∀ (H : Heap) (locs : List Loc) (ls : Array Slot), va_P D vwCl (wl tc ad (cmb I M)) H → va_S A s.heap H locs → lv_has ls 2 [] → W p l e rm_X4_isCommitted s m args below meth c H locs 0 0 (MQ below (qi D tc ad A rr (cmb I M)) args s 0 0 A) (F0 m 22 ls []) := by
  intro I h H locs ls hP hS hl
  unfold f_X4_isCommitted_b22 at h
  have hx := hX.1
  have hb := hX.2.1
  have hown := hX.2.2.2.1
  have hts := hX.2.2.2.2.1
  have hA := hX.2.2.2.2.2.2
  refine lv_iconst (v := 0) hx hb dX4_isCommitted_22 kc_i0 ?_
  exact t_X4_isCommitted_b23 hX hr hlk  _ _ h _ _ _ hP hS (lv_sub hl [] rfl)
set_option maxHeartbeats 4000000 in
set_option maxRecDepth 100000 in
theorem c_X4_isCommitted {l : Launch} {D : va_G} {tc : Tc} {ad : Nat → Nat} {A : Nat → Prop} (hA : adok ad A) {I M : St} {v1 : Int32} {rr : Int32} (h : f_X4_isCommitted v1 I = some rr) : Met l yX4_isCommitted (Cond.code yX4_isCommitted cX4_isCommitted 2 (some .boolean) :: tw) rm_X4_isCommitted (pre D tc ad [.ref (ad 0), .int v1] (cmb I M)) (qi D tc ad A rr (cmb I M)) 0 0 A := by
  unfold f_X4_isCommitted at h
  refine mk_met (own := RX4) (by decide +kernel) rfl hA (Nat.le_of_ble_eq_true rfl) ?_
  intro p e s m below meth c ls hX hr hlk hl hP hS
  have hl : lv_has ls 2 [(0, .ref (ad 0)), (1, .int v1)] := hl
  have hx := hX.1
  have hb := hX.2.1
  have hown := hX.2.2.2.1
  have hts := hX.2.2.2.2.1
  refine lv_aload_n hx hb dX4_isCommitted_0 rfl (lv_at hl 0 rfl) ?_
  refine r_get hX hP cok3 9 sl_0 sk_0 (by decide) rfl q161 dX4_isCommitted_1 ?_
  refine x_if_eq (tgt := 22) hx hb dX4_isCommitted_4 (by decide) h (fun c1 h => ?_) (fun c1 h => ?_)
  · exact t_X4_isCommitted_b22 hX hr hlk  _ h _ _ _ hP hS (lv_sub hl [] rfl)
  · refine lv_aload_n hx hb dX4_isCommitted_7 rfl (lv_at hl 0 rfl) ?_
    refine r_get hX hP cok3 11 sl_0 sk_0 (by decide) rfl q167 dX4_isCommitted_8 ?_
    refine x_let h (fun x2 h => ?_)
    refine lv_iload_n hx hb dX4_isCommitted_11 rfl (lv_at hl 1 rfl) ?_
    obtain ⟨r4, e3, h⟩ := ob1_some h
    refine j_i (j_runN (rest := []) hX hP hl.1 Y_X7_has (c_X7_has hA e3) ⟨rfl, rfl⟩ nw3 ⟨Nat.le_of_ble_eq_true rfl, Nat.le_of_ble_eq_true rfl⟩ rfl rfl (Nat.le_of_ble_eq_true rfl) dX4_isCommitted_12) hS (fun H locs hP hS => ?_)
    refine x_if_eq (tgt := 22) hx hb dX4_isCommitted_15 (by decide) h (fun c5 h => ?_) (fun c5 h => ?_)
    · exact t_X4_isCommitted_b22 hX hr hlk  _ h _ _ _ hP hS (lv_sub hl [] rfl)
    · refine lv_iconst (v := 1) hx hb dX4_isCommitted_18 kc_i1 ?_
      refine lv_goto (tgt := 23) hx hb dX4_isCommitted_19 (by decide) ?_
      exact t_X4_isCommitted_b23 hX hr hlk  _ _ h _ _ _ hP hS (lv_sub hl [] rfl)
/-! OwnerlessCoin$Lab.hasDealt(I)Z -/
def rm_X4_hasDealt : Room := { frames := 2, cells := 0, slots := 0, locals := 42 }
theorem Y_X4_hasDealt : yv yX4_hasDealt cX4_hasDealt 2 (some .boolean) 1 RX4 := ⟨q426, q424, q425, q13, by decide +kernel⟩
set_option maxHeartbeats 4000000 in
set_option maxRecDepth 100000 in
theorem t_X4_hasDealt_b21 {p : Program} {l : Launch} {e : Env} {s : State} {m : MethodId} {args : Array Value} {below : List Frame} {meth : Method} {c : Code} {D : va_G} {tc : Tc} {ad : Nat → Nat} {A : Nat → Prop} {M : St} {rr : Int32} (hX : cx p s m args c cX4_hasDealt 2 RX4 D tc ad A) (hr : meth.sig.returnType = some .boolean) (hlk : meth.locks = false) : ∀ (t0 : Int32) (I : St), f_X4_hasDealt_b21 t0 I = some rr → ∀ (H : Heap) (locs : List Loc) (ls : Array Slot), va_P D vwCl (wl tc ad (cmb I M)) H → va_S A s.heap H locs → lv_has ls 2 [] → W p l e rm_X4_hasDealt s m args below meth c H locs 0 0 (MQ below (qi D tc ad A rr (cmb I M)) args s 0 0 A) (F0 m 21 ls [.int t0]) := by
  intro t0 I h H locs ls hP hS hl
  unfold f_X4_hasDealt_b21 at h
  have hx := hX.1
  have hb := hX.2.1
  have hown := hX.2.2.2.1
  have hts := hX.2.2.2.2.1
  have hA := hX.2.2.2.2.2.2
  obtain ⟨gz, h⟩ := ck_some h
  cases h
  exact j_zret hX hr hlk hP hS (isB_or gz) dX4_hasDealt_21
set_option maxHeartbeats 4000000 in
set_option maxRecDepth 100000 in
theorem t_X4_hasDealt_b20 {p : Program} {l : Launch} {e : Env} {s : State} {m : MethodId} {args : Array Value} {below : List Frame} {meth : Method} {c : Code} {D : va_G} {tc : Tc} {ad : Nat → Nat} {A : Nat → Prop} {M : St} {rr : Int32} (hX : cx p s m args c cX4_hasDealt 2 RX4 D tc ad A) (hr : meth.sig.returnType = some .boolean) (hlk : meth.locks = false) : ∀ (I : St), f_X4_hasDealt_b20 I = some rr → ∀ (H : Heap) (locs : List Loc) (ls : Array Slot), va_P D vwCl (wl tc ad (cmb I M)) H → va_S A s.heap H locs → lv_has ls 2 [] → W p l e rm_X4_hasDealt s m args below meth c H locs 0 0 (MQ below (qi D tc ad A rr (cmb I M)) args s 0 0 A) (F0 m 20 ls []) := by
  intro I h H locs ls hP hS hl
  unfold f_X4_hasDealt_b20 at h
  have hx := hX.1
  have hb := hX.2.1
  have hown := hX.2.2.2.1
  have hts := hX.2.2.2.2.1
  have hA := hX.2.2.2.2.2.2
  refine lv_iconst (v := 0) hx hb dX4_hasDealt_20 kc_i0 ?_
  exact t_X4_hasDealt_b21 hX hr hlk  _ _ h _ _ _ hP hS (lv_sub hl [] rfl)
set_option maxHeartbeats 4000000 in
set_option maxRecDepth 100000 in
theorem c_X4_hasDealt {l : Launch} {D : va_G} {tc : Tc} {ad : Nat → Nat} {A : Nat → Prop} (hA : adok ad A) {I M : St} {v1 : Int32} {rr : Int32} (h : f_X4_hasDealt v1 I = some rr) : Met l yX4_hasDealt (Cond.code yX4_hasDealt cX4_hasDealt 2 (some .boolean) :: tw) rm_X4_hasDealt (pre D tc ad [.ref (ad 0), .int v1] (cmb I M)) (qi D tc ad A rr (cmb I M)) 0 0 A := by
  unfold f_X4_hasDealt at h
  refine mk_met (own := RX4) (by decide +kernel) rfl hA (Nat.le_of_ble_eq_true rfl) ?_
  intro p e s m below meth c ls hX hr hlk hl hP hS
  have hl : lv_has ls 2 [(0, .ref (ad 0)), (1, .int v1)] := hl
  have hx := hX.1
  have hb := hX.2.1
  have hown := hX.2.2.2.1
  have hts := hX.2.2.2.2.1
  refine lv_aload_n hx hb dX4_hasDealt_0 rfl (lv_at hl 0 rfl) ?_
  refine r_get hX hP cok3 5 sl_0 sk_0 (by decide) rfl q151 dX4_hasDealt_1 ?_
  refine x_let h (fun x1 h => ?_)
  refine lv_iconst (v := 1) hx hb dX4_hasDealt_4 kc_i1 ?_
  refine x_icmp_ne (tgt := 20) hx hb dX4_hasDealt_5 (by decide) h (fun c2 h => ?_) (fun c2 h => ?_)
  · exact t_X4_hasDealt_b20 hX hr hlk  _ h _ _ _ hP hS (lv_sub hl [] rfl)
  · refine lv_aload_n hx hb dX4_hasDealt_8 rfl (lv_at hl 0 rfl) ?_
    refine lv_iload_n hx hb dX4_hasDealt_9 rfl (lv_at hl 1 rfl) ?_
    obtain ⟨r4, e3, h⟩ := ob1_some h
    refine j_i (j_runV (rest := []) hX hP hl.1 Y_X4_isCommitted cok3 (lt157 sl_0) sk_0 (c_X4_isCommitted hA e3) ⟨rfl, rfl⟩ q427 ⟨Nat.le_of_ble_eq_true rfl, Nat.le_of_ble_eq_true rfl⟩ rfl rfl (Nat.le_of_ble_eq_true rfl) dX4_hasDealt_10) hS (fun H locs hP hS => ?_)
    refine x_if_eq (tgt := 20) hx hb dX4_hasDealt_13 (by decide) h (fun c5 h => ?_) (fun c5 h => ?_)
    · exact t_X4_hasDealt_b20 hX hr hlk  _ h _ _ _ hP hS (lv_sub hl [] rfl)
    · refine lv_iconst (v := 1) hx hb dX4_hasDealt_16 kc_i1 ?_
      refine lv_goto (tgt := 21) hx hb dX4_hasDealt_17 (by decide) ?_
      exact t_X4_hasDealt_b21 hX hr hlk  _ _ h _ _ _ hP hS (lv_sub hl [] rfl)
/-! OwnerlessCoin$Lab.hasShare(II)Z -/
def rm_X4_hasShare : Room := { frames := 3, cells := 0, slots := 0, locals := 63 }
theorem Y_X4_hasShare : yv yX4_hasShare cX4_hasShare 3 (some .boolean) 2 RX4 := ⟨q422, q420, q421, q13, by decide +kernel⟩
set_option maxHeartbeats 4000000 in
set_option maxRecDepth 100000 in
theorem t_X4_hasShare_b24 {p : Program} {l : Launch} {e : Env} {s : State} {m : MethodId} {args : Array Value} {below : List Frame} {meth : Method} {c : Code} {D : va_G} {tc : Tc} {ad : Nat → Nat} {A : Nat → Prop} {M : St} {rr : Int32} (hX : cx p s m args c cX4_hasShare 3 RX4 D tc ad A) (hr : meth.sig.returnType = some .boolean) (hlk : meth.locks = false) : ∀ (t0 : Int32) (I : St), f_X4_hasShare_b24 t0 I = some rr → ∀ (H : Heap) (locs : List Loc) (ls : Array Slot), va_P D vwCl (wl tc ad (cmb I M)) H → va_S A s.heap H locs → lv_has ls 3 [] → W p l e rm_X4_hasShare s m args below meth c H locs 0 0 (MQ below (qi D tc ad A rr (cmb I M)) args s 0 0 A) (F0 m 24 ls [.int t0]) := by
  intro t0 I h H locs ls hP hS hl
  unfold f_X4_hasShare_b24 at h
  have hx := hX.1
  have hb := hX.2.1
  have hown := hX.2.2.2.1
  have hts := hX.2.2.2.2.1
  have hA := hX.2.2.2.2.2.2
  obtain ⟨gz, h⟩ := ck_some h
  cases h
  exact j_zret hX hr hlk hP hS (isB_or gz) dX4_hasShare_24
set_option maxHeartbeats 4000000 in
set_option maxRecDepth 100000 in
theorem t_X4_hasShare_b23 {p : Program} {l : Launch} {e : Env} {s : State} {m : MethodId} {args : Array Value} {below : List Frame} {meth : Method} {c : Code} {D : va_G} {tc : Tc} {ad : Nat → Nat} {A : Nat → Prop} {M : St} {rr : Int32} (hX : cx p s m args c cX4_hasShare 3 RX4 D tc ad A) (hr : meth.sig.returnType = some .boolean) (hlk : meth.locks = false) : ∀ (I : St), f_X4_hasShare_b23 I = some rr → ∀ (H : Heap) (locs : List Loc) (ls : Array Slot), va_P D vwCl (wl tc ad (cmb I M)) H → va_S A s.heap H locs → lv_has ls 3 [] → W p l e rm_X4_hasShare s m args below meth c H locs 0 0 (MQ below (qi D tc ad A rr (cmb I M)) args s 0 0 A) (F0 m 23 ls []) := by
  intro I h H locs ls hP hS hl
  unfold f_X4_hasShare_b23 at h
  have hx := hX.1
  have hb := hX.2.1
  have hown := hX.2.2.2.1
  have hts := hX.2.2.2.2.1
  have hA := hX.2.2.2.2.2.2
  refine lv_iconst (v := 0) hx hb dX4_hasShare_23 kc_i0 ?_
  exact t_X4_hasShare_b24 hX hr hlk  _ _ h _ _ _ hP hS (lv_sub hl [] rfl)
set_option maxHeartbeats 4000000 in
set_option maxRecDepth 100000 in
theorem c_X4_hasShare {l : Launch} {D : va_G} {tc : Tc} {ad : Nat → Nat} {A : Nat → Prop} (hA : adok ad A) {I M : St} {v1 : Int32} {v2 : Int32} {rr : Int32} (h : f_X4_hasShare v1 v2 I = some rr) : Met l yX4_hasShare (Cond.code yX4_hasShare cX4_hasShare 3 (some .boolean) :: tw) rm_X4_hasShare (pre D tc ad [.ref (ad 0), .int v1, .int v2] (cmb I M)) (qi D tc ad A rr (cmb I M)) 0 0 A := by
  unfold f_X4_hasShare at h
  refine mk_met (own := RX4) (by decide +kernel) rfl hA (Nat.le_of_ble_eq_true rfl) ?_
  intro p e s m below meth c ls hX hr hlk hl hP hS
  have hl : lv_has ls 3 [(0, .ref (ad 0)), (1, .int v1), (2, .int v2)] := hl
  have hx := hX.1
  have hb := hX.2.1
  have hown := hX.2.2.2.1
  have hts := hX.2.2.2.2.1
  refine lv_aload_n hx hb dX4_hasShare_0 rfl (lv_at hl 0 rfl) ?_
  refine lv_iload_n hx hb dX4_hasShare_1 rfl (lv_at hl 1 rfl) ?_
  obtain ⟨r2, e1, h⟩ := ob1_some h
  refine j_i (j_runV (rest := []) hX hP hl.1 Y_X4_hasDealt cok3 (lt157 sl_0) sk_0 (c_X4_hasDealt hA e1) ⟨rfl, rfl⟩ q423 ⟨Nat.le_of_ble_eq_true rfl, Nat.le_of_ble_eq_true rfl⟩ rfl rfl (Nat.le_of_ble_eq_true rfl) dX4_hasShare_2) hS (fun H locs hP hS => ?_)
  refine x_if_eq (tgt := 23) hx hb dX4_hasShare_5 (by decide) h (fun c3 h => ?_) (fun c3 h => ?_)
  · exact t_X4_hasShare_b23 hX hr hlk  _ h _ _ _ hP hS (lv_sub hl [] rfl)
  · refine lv_aload_n hx hb dX4_hasShare_8 rfl (lv_at hl 0 rfl) ?_
    refine r_get hX hP cok3 10 sl_0 sk_0 (by decide) rfl q164 dX4_hasShare_9 ?_
    refine x_let h (fun x4 h => ?_)
    refine lv_iload_n hx hb dX4_hasShare_12 rfl (lv_at hl 2 rfl) ?_
    obtain ⟨r6, e5, h⟩ := ob1_some h
    refine j_i (j_runN (rest := []) hX hP hl.1 Y_X7_has (c_X7_has hA e5) ⟨rfl, rfl⟩ nw3 ⟨Nat.le_of_ble_eq_true rfl, Nat.le_of_ble_eq_true rfl⟩ rfl rfl (Nat.le_of_ble_eq_true rfl) dX4_hasShare_13) hS (fun H locs hP hS => ?_)
    refine x_if_eq (tgt := 23) hx hb dX4_hasShare_16 (by decide) h (fun c7 h => ?_) (fun c7 h => ?_)
    · exact t_X4_hasShare_b23 hX hr hlk  _ h _ _ _ hP hS (lv_sub hl [] rfl)
    · refine lv_iconst (v := 1) hx hb dX4_hasShare_19 kc_i1 ?_
      refine lv_goto (tgt := 24) hx hb dX4_hasShare_20 (by decide) ?_
      exact t_X4_hasShare_b24 hX hr hlk  _ _ h _ _ _ hP hS (lv_sub hl [] rfl)
/-! OwnerlessCoin$Person.provenPower(II)I -/
def rm_X5_provenPower : Room := { frames := 2, cells := 0, slots := 0, locals := 46 }
theorem Y_X5_provenPower : yv yX5_provenPower cX5_provenPower 5 (some .int) 2 RX5 := ⟨q435, q434, q2, q15, by decide +kernel⟩
set_option maxHeartbeats 4000000 in
set_option maxRecDepth 100000 in
theorem t_X5_provenPower_b41 {p : Program} {l : Launch} {e : Env} {s : State} {m : MethodId} {args : Array Value} {below : List Frame} {meth : Method} {c : Code} {D : va_G} {tc : Tc} {ad : Nat → Nat} {A : Nat → Prop} {M : St} {o0 : Nat} {rr : Int32} (hX : cx p s m args c cX5_provenPower 5 RX5 D tc ad A) (hr : meth.sig.returnType = some .int) (hlk : meth.locks = false) (ho0 : isP o0 = true) {K6 : Int32 → Int32 → Int32 → Int32 → St → Option (Int32)} (hK6 : ∀ (v1 : Int32) (v2 : Int32) (v3 : Int32) (v4 : Int32) (I : St), K6 v1 v2 v3 v4 I = some rr → ∀ (H : Heap) (locs : List Loc) (ls : Array Slot), va_P D vwCl (wl tc ad (cmb I M)) H → va_S A s.heap H locs → lv_has ls 5 [(0, .ref (ad o0)), (1, .int v1), (2, .int v2), (3, .int v3), (4, .int v4)] → W p l e rm_X5_provenPower s m args below meth c H locs 0 0 (MQ below (qi D tc ad A rr (cmb I M)) args s 0 0 A) (F0 m 6 ls [])) : ∀ (v1 : Int32) (v2 : Int32) (v3 : Int32) (v4 : Int32) (I : St), f_X5_provenPower_b41 o0 K6 v1 v2 v3 v4 I = some rr → ∀ (H : Heap) (locs : List Loc) (ls : Array Slot), va_P D vwCl (wl tc ad (cmb I M)) H → va_S A s.heap H locs → lv_has ls 5 [(0, .ref (ad o0)), (1, .int v1), (2, .int v2), (3, .int v3), (4, .int v4)] → W p l e rm_X5_provenPower s m args below meth c H locs 0 0 (MQ below (qi D tc ad A rr (cmb I M)) args s 0 0 A) (F0 m 41 ls []) := by
  intro v1 v2 v3 v4 I h H locs ls hP hS hl
  unfold f_X5_provenPower_b41 at h
  have hx := hX.1
  have hb := hX.2.1
  have hown := hX.2.2.2.1
  have hts := hX.2.2.2.2.1
  have hA := hX.2.2.2.2.2.2
  refine lv_iinc (v := (v4 + (-1))) (lv' := [(4, .int (v4 + (-1))), (0, .ref (ad o0)), (1, .int v1), (2, .int v2), (3, .int v3)]) hx hb dX5_provenPower_41 hl (k := 4) rfl rfl (Nat.le_of_ble_eq_true rfl) rfl (fun ls hl => ?_)
  refine lv_goto (tgt := 6) hx hb dX5_provenPower_44 (by decide) ?_
  exact hK6 _ _ _ _ _ h _ _ _ hP hS (lv_sub hl [1, 2, 3, 4, 0] rfl)
set_option maxHeartbeats 4000000 in
set_option maxRecDepth 100000 in
theorem t_X5_provenPower_l6 {p : Program} {l : Launch} {e : Env} {s : State} {m : MethodId} {args : Array Value} {below : List Frame} {meth : Method} {c : Code} {D : va_G} {tc : Tc} {ad : Nat → Nat} {A : Nat → Prop} {M : St} {o0 : Nat} {rr : Int32} (hX : cx p s m args c cX5_provenPower 5 RX5 D tc ad A) (hr : meth.sig.returnType = some .int) (hlk : meth.locks = false) (ho0 : isP o0 = true) : ∀ (n : Nat), ∀ (v1 : Int32) (v2 : Int32) (v3 : Int32) (v4 : Int32) (I : St), f_X5_provenPower_l6 o0 n v1 v2 v3 v4 I = some rr → ∀ (H : Heap) (locs : List Loc) (ls : Array Slot), va_P D vwCl (wl tc ad (cmb I M)) H → va_S A s.heap H locs → lv_has ls 5 [(0, .ref (ad o0)), (1, .int v1), (2, .int v2), (3, .int v3), (4, .int v4)] → W p l e rm_X5_provenPower s m args below meth c H locs 0 0 (MQ below (qi D tc ad A rr (cmb I M)) args s 0 0 A) (F0 m 6 ls []) := by
  intro n
  induction n with
  | zero =>
    intro _ _ _ _ _ h
    cases h
  | succ n ih =>
    intro v1 v2 v3 v4 I h H locs ls hP hS hl
    rw [f_X5_provenPower_l6] at h
    have hx := hX.1
    have hb := hX.2.1
    have hown := hX.2.2.2.1
    have hts := hX.2.2.2.2.1
    have hA := hX.2.2.2.2.2.2
    refine lv_iload hx hb dX5_provenPower_6 (lv_at hl 4 rfl) ?_
    refine x_if_lt (tgt := 47) hx hb dX5_provenPower_8 (by decide) h (fun c1 h => ?_) (fun c1 h => ?_)
    · refine lv_iload_n hx hb dX5_provenPower_47 rfl (lv_at hl 3 rfl) ?_
      cases h
      exact j_iret hX hr hlk hP hS dX5_provenPower_48
    · refine lv_iload hx hb dX5_provenPower_11 (lv_at hl 4 rfl) ?_
      refine lv_iload_n hx hb dX5_provenPower_13 rfl (lv_at hl 2 rfl) ?_
      refine x_icmp_ge (tgt := 41) hx hb dX5_provenPower_14 (by decide) h (fun c2 h => ?_) (fun c2 h => ?_)
      · exact t_X5_provenPower_b41 hX hr hlk ho0 ih _ _ _ _ _ h _ _ _ hP hS (lv_sub hl [0, 1, 2, 3, 4] rfl)
      · refine lv_iload_n hx hb dX5_provenPower_17 rfl (lv_at hl 3 rfl) ?_
        refine lv_iload_n hx hb dX5_provenPower_18 rfl (lv_at hl 1 rfl) ?_
        refine lv_iconst (v := 1) hx hb dX5_provenPower_19 kc_i1 ?_
        refine lv_iadd hx hb dX5_provenPower_20 ?_
        refine x_let h (fun x3 h => ?_)
        refine lv_sipush (v := 2039) hx hb dX5_provenPower_21 kc_s2039 ?_
        obtain ⟨r5, e4, h⟩ := ob1_some h
        refine j_i (j_runN (rest := []) hX hP hl.1 Y_X7_power (c_X7_power hA e4) ⟨rfl, rfl⟩ nw5 ⟨Nat.le_of_ble_eq_true rfl, Nat.le_of_ble_eq_true rfl⟩ rfl rfl (Nat.le_of_ble_eq_true rfl) dX5_provenPower_24) hS (fun H locs hP hS => ?_)
        refine lv_aload_n hx hb dX5_provenPower_27 rfl (lv_at hl 0 rfl) ?_
        refine r_getq (t := o0 + 16) hX hP cok4 11 (isP_lt ho0) (isP_kd ho0) (by decide) rfl q112 dX5_provenPower_28 ?_
        refine lv_iload hx hb dX5_provenPower_31 (lv_at hl 4 rfl) ?_
        refine r_ald hX hP h (isP16_lt ho0) (isP16_kd ho0) (isP16_ln ho0) dX5_provenPower_33 (fun h => ?_)
        refine x_let h (fun x6 h => ?_)
        refine lv_sipush (v := 2039) hx hb dX5_provenPower_34 kc_s2039 ?_
        obtain ⟨r8, e7, h⟩ := ob1_some h
        refine j_i (j_runN (rest := []) hX hP hl.1 Y_X7_product (c_X7_product hA e7) ⟨rfl, rfl⟩ nw9 ⟨Nat.le_of_ble_eq_true rfl, Nat.le_of_ble_eq_true rfl⟩ rfl rfl (Nat.le_of_ble_eq_true rfl) dX5_provenPower_37) hS (fun H locs hP hS => ?_)
        refine lv_istore_n (lv' := [(3, .int r8), (0, .ref (ad o0)), (1, .int v1), (2, .int v2), (4, .int v4)]) hx hb dX5_provenPower_40 rfl hl (Nat.le_of_ble_eq_true rfl) rfl (fun ls hl => ?_)
        exact t_X5_provenPower_b41 hX hr hlk ho0 ih _ _ _ _ _ h _ _ _ hP hS (lv_sub hl [1, 2, 3, 0, 4] rfl)
set_option maxHeartbeats 4000000 in
set_option maxRecDepth 100000 in
theorem c_X5_provenPower {l : Launch} {D : va_G} {tc : Tc} {ad : Nat → Nat} {A : Nat → Prop} (hA : adok ad A) {I M : St} {o0 : Nat} {v1 : Int32} {v2 : Int32} {rr : Int32} (h : f_X5_provenPower o0 v1 v2 I = some rr) : Met l yX5_provenPower (Cond.code yX5_provenPower cX5_provenPower 5 (some .int) :: tw) rm_X5_provenPower (pre D tc ad [.ref (ad o0), .int v1, .int v2] (cmb I M)) (qi D tc ad A rr (cmb I M)) 0 0 A := by
  unfold f_X5_provenPower at h
  obtain ⟨ho0, h⟩ := ck_some h
  refine mk_met (own := RX5) (by decide +kernel) rfl hA (Nat.le_of_ble_eq_true rfl) ?_
  intro p e s m below meth c ls hX hr hlk hl hP hS
  have hl : lv_has ls 5 [(0, .ref (ad o0)), (1, .int v1), (2, .int v2)] := hl
  have hx := hX.1
  have hb := hX.2.1
  have hown := hX.2.2.2.1
  have hts := hX.2.2.2.2.1
  refine lv_iconst (v := 1) hx hb dX5_provenPower_0 kc_i1 ?_
  refine lv_istore_n (lv' := [(3, .int 1), (0, .ref (ad o0)), (1, .int v1), (2, .int v2)]) hx hb dX5_provenPower_1 rfl hl (Nat.le_of_ble_eq_true rfl) rfl (fun ls hl => ?_)
  refine lv_bipush (v := 7) hx hb dX5_provenPower_2 kc_b7 ?_
  refine lv_istore (lv' := [(4, .int 7), (3, .int 1), (0, .ref (ad o0)), (1, .int v1), (2, .int v2)]) hx hb dX5_provenPower_4 hl (Nat.le_of_ble_eq_true rfl) rfl (fun ls hl => ?_)
  exact t_X5_provenPower_l6 hX hr hlk ho0  10000 _ _ _ _ _ h _ _ _ hP hS (lv_sub hl [2, 3, 4, 1, 0] rfl)
/-! OwnerlessCoin$Person.changeShare(III)V -/
def rm_X5_changeShare : Room := { frames := 3, cells := 0, slots := 0, locals := 70 }
theorem Y_X5_changeShare : yv yX5_changeShare cX5_changeShare 4 none 3 RX5 := ⟨q431, q429, q430, q15, by decide +kernel⟩
set_option maxHeartbeats 4000000 in
set_option maxRecDepth 100000 in
theorem t_X5_changeShare_b66 {p : Program} {l : Launch} {e : Env} {s : State} {m : MethodId} {args : Array Value} {below : List Frame} {meth : Method} {c : Code} {D : va_G} {tc : Tc} {ad : Nat → Nat} {A : Nat → Prop} {M : St} {o0 : Nat} {II : St} (hX : cx p s m args c cX5_changeShare 4 RX5 D tc ad A) (hr : meth.sig.returnType = none) (hlk : meth.locks = false) (ho0 : isP o0 = true) : ∀ (I : St), f_X5_changeShare_b66 o0 I = some II → ∀ (H : Heap) (locs : List Loc) (ls : Array Slot), va_P D vwCl (wl tc ad (cmb I M)) H → va_S A s.heap H locs → lv_has ls 4 [] → W p l e rm_X5_changeShare s m args below meth c H locs 0 0 (MQ below (qv D tc ad A (cmb II M)) args s 0 0 A) (F0 m 66 ls []) := by
  intro I h H locs ls hP hS hl
  unfold f_X5_changeShare_b66 at h
  have hx := hX.1
  have hb := hX.2.1
  have hown := hX.2.2.2.1
  have hts := hX.2.2.2.2.1
  have hA := hX.2.2.2.2.2.2
  cases h
  exact j_vret hX hr hlk hP hS dX5_changeShare_66
set_option maxHeartbeats 4000000 in
set_option maxRecDepth 100000 in
theorem c_X5_changeShare {l : Launch} {D : va_G} {tc : Tc} {ad : Nat → Nat} {A : Nat → Prop} (hA : adok ad A) {I M : St} {o0 : Nat} {v1 : Int32} {v2 : Int32} {v3 : Int32} {II : St} (h : f_X5_changeShare o0 v1 v2 v3 I = some II) : Met l yX5_changeShare (Cond.code yX5_changeShare cX5_changeShare 4 none :: tw) rm_X5_changeShare (pre D tc ad [.ref (ad o0), .int v1, .int v2, .int v3] (cmb I M)) (qv D tc ad A (cmb II M)) 0 0 A := by
  unfold f_X5_changeShare at h
  obtain ⟨ho0, h⟩ := ck_some h
  refine mk_met (own := RX5) (by decide +kernel) rfl hA (Nat.le_of_ble_eq_true rfl) ?_
  intro p e s m below meth c ls hX hr hlk hl hP hS
  have hl : lv_has ls 4 [(0, .ref (ad o0)), (1, .int v1), (2, .int v2), (3, .int v3)] := hl
  have hx := hX.1
  have hb := hX.2.1
  have hown := hX.2.2.2.1
  have hts := hX.2.2.2.2.1
  refine lv_aload_n hx hb dX5_changeShare_0 rfl (lv_at hl 0 rfl) ?_
  refine r_getq (t := o0 + 8) hX hP cok4 10 (isP_lt ho0) (isP_kd ho0) (by decide) rfl q110 dX5_changeShare_1 ?_
  refine lv_iload_n hx hb dX5_changeShare_4 rfl (lv_at hl 1 rfl) ?_
  refine lv_aload_n hx hb dX5_changeShare_5 rfl (lv_at hl 0 rfl) ?_
  refine r_getq (t := o0 + 8) hX hP cok4 10 (isP_lt ho0) (isP_kd ho0) (by decide) rfl q110 dX5_changeShare_6 ?_
  refine lv_iload_n hx hb dX5_changeShare_9 rfl (lv_at hl 1 rfl) ?_
  refine r_ald hX hP h (isP8_lt ho0) (isP8_kd ho0) (isP8_ln ho0) dX5_changeShare_10 (fun h => ?_)
  refine x_let h (fun x1 h => ?_)
  refine lv_iload_n hx hb dX5_changeShare_11 rfl (lv_at hl 2 rfl) ?_
  refine lv_iadd hx hb dX5_changeShare_12 ?_
  refine x_let h (fun x2 h => ?_)
  refine lv_sipush (v := 1019) hx hb dX5_changeShare_13 kc_s1019 ?_
  refine lv_irem hx hb dX5_changeShare_16 (by decide) ?_
  refine r_ast hX hP hS h (isP8_lt ho0) (isP8_kd ho0) (isP8_ln ho0) dX5_changeShare_17 (fun I3 H locs h hP hS => ?_)
  refine lv_aload_n hx hb dX5_changeShare_18 rfl (lv_at hl 0 rfl) ?_
  refine lv_dup hx hb dX5_changeShare_19 rfl ?_
  refine r_get hX hP cok4 9 (isP_lt ho0) (isP_kd ho0) (by decide) rfl q106 dX5_changeShare_20 ?_
  refine x_let h (fun x4 h => ?_)
  refine lv_iconst (v := 1) hx hb dX5_changeShare_23 kc_i1 ?_
  refine lv_iload_n hx hb dX5_changeShare_24 rfl (lv_at hl 1 rfl) ?_
  refine lv_ishl hx hb dX5_changeShare_25 ?_
  refine x_let h (fun x5 h => ?_)
  refine lv_iconst (v := (-1)) hx hb dX5_changeShare_26 kc_im1 ?_
  refine lv_ixor hx hb dX5_changeShare_27 ?_
  refine lv_iand hx hb dX5_changeShare_28 ?_
  refine r_put hX hP hS cok4 9 h (isP_lt ho0) (isP_kd ho0) (by decide) rfl rfl q106 rfl dX5_changeShare_29 (fun I6 H locs h hP hS => ?_)
  refine lv_iconst (v := 4) hx hb dX5_changeShare_32 kc_i4 ?_
  refine lv_aload_n hx hb dX5_changeShare_33 rfl (lv_at hl 0 rfl) ?_
  refine r_getq (t := o0 + 8) hX hP cok4 10 (isP_lt ho0) (isP_kd ho0) (by decide) rfl q110 dX5_changeShare_34 ?_
  refine lv_iload_n hx hb dX5_changeShare_37 rfl (lv_at hl 1 rfl) ?_
  refine r_ald hX hP h (isP8_lt ho0) (isP8_kd ho0) (isP8_ln ho0) dX5_changeShare_38 (fun h => ?_)
  refine x_let h (fun x7 h => ?_)
  refine lv_sipush (v := 2039) hx hb dX5_changeShare_39 kc_s2039 ?_
  obtain ⟨r9, e8, h⟩ := ob1_some h
  refine j_i (j_runN (rest := []) hX hP hl.1 Y_X7_power (c_X7_power hA e8) ⟨rfl, rfl⟩ nw5 ⟨Nat.le_of_ble_eq_true rfl, Nat.le_of_ble_eq_true rfl⟩ rfl rfl (Nat.le_of_ble_eq_true rfl) dX5_changeShare_42) hS (fun H locs hP hS => ?_)
  refine lv_aload_n hx hb dX5_changeShare_45 rfl (lv_at hl 0 rfl) ?_
  refine lv_iload_n hx hb dX5_changeShare_46 rfl (lv_at hl 1 rfl) ?_
  refine lv_iload_n hx hb dX5_changeShare_47 rfl (lv_at hl 3 rfl) ?_
  obtain ⟨r11, e10, h⟩ := ob1_some h
  refine j_i (j_runV (rest := [.int r9]) hX hP hl.1 Y_X5_provenPower cok4 (lt157 (isP_lt ho0)) (isP_kd ho0) (c_X5_provenPower hA e10) ⟨rfl, rfl⟩ q432 ⟨Nat.le_of_ble_eq_true rfl, Nat.le_of_ble_eq_true rfl⟩ rfl rfl (Nat.le_of_ble_eq_true rfl) dX5_changeShare_48) hS (fun H locs hP hS => ?_)
  refine x_icmp_ne (tgt := 66) hx hb dX5_changeShare_51 (by decide) h (fun c12 h => ?_) (fun c12 h => ?_)
  · exact t_X5_changeShare_b66 hX hr hlk ho0  _ h _ _ _ hP hS (lv_sub hl [] rfl)
  · refine lv_aload_n hx hb dX5_changeShare_54 rfl (lv_at hl 0 rfl) ?_
    refine lv_dup hx hb dX5_changeShare_55 rfl ?_
    refine r_get hX hP cok4 9 (isP_lt ho0) (isP_kd ho0) (by decide) rfl q106 dX5_changeShare_56 ?_
    refine x_let h (fun x13 h => ?_)
    refine lv_iconst (v := 1) hx hb dX5_changeShare_59 kc_i1 ?_
    refine lv_iload_n hx hb dX5_changeShare_60 rfl (lv_at hl 1 rfl) ?_
    refine lv_ishl hx hb dX5_changeShare_61 ?_
    refine lv_ior hx hb dX5_changeShare_62 ?_
    refine r_put hX hP hS cok4 9 h (isP_lt ho0) (isP_kd ho0) (by decide) rfl rfl q106 rfl dX5_changeShare_63 (fun I14 H locs h hP hS => ?_)
    exact t_X5_changeShare_b66 hX hr hlk ho0  _ h _ _ _ hP hS (lv_sub hl [] rfl)
/-! OwnerlessCoin.spoil(III)I -/
def rm_X7_spoil : Room := { frames := 4, cells := 0, slots := 0, locals := 94 }
theorem Y_X7_spoil : yv yX7_spoil cX7_spoil 4 (some .int) 3 RX7 := ⟨q418, q416, q417, q12, by decide +kernel⟩
set_option maxHeartbeats 4000000 in
set_option maxRecDepth 100000 in
theorem t_X7_spoil_b33 {p : Program} {l : Launch} {e : Env} {s : State} {m : MethodId} {args : Array Value} {below : List Frame} {meth : Method} {c : Code} {D : va_G} {tc : Tc} {ad : Nat → Nat} {A : Nat → Prop} {M : St} {rr : Int32} {II : St} (hX : cx p s m args c cX7_spoil 4 RX7 D tc ad A) (hr : meth.sig.returnType = some .int) (hlk : meth.locks = false) : ∀ (I : St), f_X7_spoil_b33 I = some (rr, II) → ∀ (H : Heap) (locs : List Loc) (ls : Array Slot), va_P D vwCl (wl tc ad (cmb I M)) H → va_S A s.heap H locs → lv_has ls 4 [] → W p l e rm_X7_spoil s m args below meth c H locs 0 0 (MQ below (qi D tc ad A rr (cmb II M)) args s 0 0 A) (F0 m 33 ls []) := by
  intro I h H locs ls hP hS hl
  unfold f_X7_spoil_b33 at h
  have hx := hX.1
  have hb := hX.2.1
  have hown := hX.2.2.2.1
  have hts := hX.2.2.2.2.1
  have hA := hX.2.2.2.2.2.2
  refine lv_iconst (v := (-1)) hx hb dX7_spoil_33 kc_im1 ?_
  cases h
  exact j_iret hX hr hlk hP hS dX7_spoil_34
set_option maxHeartbeats 4000000 in
set_option maxRecDepth 100000 in
theorem c_X7_spoil {l : Launch} {D : va_G} {tc : Tc} {ad : Nat → Nat} {A : Nat → Prop} (hA : adok ad A) {I M : St} {v1 : Int32} {v2 : Int32} {v3 : Int32} {rr : Int32} {II : St} (h : f_X7_spoil v1 v2 v3 I = some (rr, II)) : Met l yX7_spoil (Cond.code yX7_spoil cX7_spoil 4 (some .int) :: tw) rm_X7_spoil (pre D tc ad [.ref (ad 145), .int v1, .int v2, .int v3] (cmb I M)) (qi D tc ad A rr (cmb II M)) 0 0 A := by
  unfold f_X7_spoil at h
  refine mk_met (own := RX7) (by decide +kernel) rfl hA (Nat.le_of_ble_eq_true rfl) ?_
  intro p e s m below meth c ls hX hr hlk hl hP hS
  have hl : lv_has ls 4 [(0, .ref (ad 145)), (1, .int v1), (2, .int v2), (3, .int v3)] := hl
  have hx := hX.1
  have hb := hX.2.1
  have hown := hX.2.2.2.1
  have hts := hX.2.2.2.2.1
  refine lv_aload_n hx hb dX7_spoil_0 rfl (lv_at hl 0 rfl) ?_
  refine r_getq (t := 0) hX hP cok5 0 sl_145 sk_145 (by decide) rfl q243 dX7_spoil_1 ?_
  refine lv_iload_n hx hb dX7_spoil_4 rfl (lv_at hl 1 rfl) ?_
  obtain ⟨r2, e1, h⟩ := ob1_some h
  refine j_i (j_runV (rest := []) hX hP hl.1 Y_X4_isParticipant cok3 (lt157 sl_0) sk_0 (c_X4_isParticipant hA e1) ⟨rfl, rfl⟩ q331 ⟨Nat.le_of_ble_eq_true rfl, Nat.le_of_ble_eq_true rfl⟩ rfl rfl (Nat.le_of_ble_eq_true rfl) dX7_spoil_5) hS (fun H locs hP hS => ?_)
  refine x_if_eq (tgt := 33) hx hb dX7_spoil_8 (by decide) h (fun c3 h => ?_) (fun c3 h => ?_)
  · exact t_X7_spoil_b33 hX hr hlk  _ h _ _ _ hP hS (lv_sub hl [] rfl)
  · refine lv_aload_n hx hb dX7_spoil_11 rfl (lv_at hl 0 rfl) ?_
    refine r_getq (t := 0) hX hP cok5 0 sl_145 sk_145 (by decide) rfl q243 dX7_spoil_12 ?_
    refine lv_iload_n hx hb dX7_spoil_15 rfl (lv_at hl 2 rfl) ?_
    obtain ⟨r5, e4, h⟩ := ob1_some h
    refine j_i (j_runV (rest := []) hX hP hl.1 Y_X4_isParticipant cok3 (lt157 sl_0) sk_0 (c_X4_isParticipant hA e4) ⟨rfl, rfl⟩ q331 ⟨Nat.le_of_ble_eq_true rfl, Nat.le_of_ble_eq_true rfl⟩ rfl rfl (Nat.le_of_ble_eq_true rfl) dX7_spoil_16) hS (fun H locs hP hS => ?_)
    refine x_if_eq (tgt := 33) hx hb dX7_spoil_19 (by decide) h (fun c6 h => ?_) (fun c6 h => ?_)
    · exact t_X7_spoil_b33 hX hr hlk  _ h _ _ _ hP hS (lv_sub hl [] rfl)
    · refine lv_iload_n hx hb dX7_spoil_22 rfl (lv_at hl 3 rfl) ?_
      refine lv_iconst (v := 1) hx hb dX7_spoil_23 kc_i1 ?_
      refine lv_sipush (v := 1018) hx hb dX7_spoil_24 kc_s1018 ?_
      obtain ⟨r8, e7, h⟩ := ob1_some h
      refine j_i (j_runS (rest := []) hX hP hl.1 Y_X7_isWithin (c_X7_isWithin hA e7) ⟨rfl, rfl⟩ q258 ⟨Nat.le_of_ble_eq_true rfl, Nat.le_of_ble_eq_true rfl⟩ rfl rfl (Nat.le_of_ble_eq_true rfl) dX7_spoil_27) hS (fun H locs hP hS => ?_)
      refine x_if_ne (tgt := 35) hx hb dX7_spoil_30 (by decide) h (fun c9 h => ?_) (fun c9 h => ?_)
      · refine lv_aload_n hx hb dX7_spoil_35 rfl (lv_at hl 0 rfl) ?_
        refine r_getq (t := 0) hX hP cok5 0 sl_145 sk_145 (by decide) rfl q243 dX7_spoil_36 ?_
        refine lv_iload_n hx hb dX7_spoil_39 rfl (lv_at hl 1 rfl) ?_
        refine lv_iload_n hx hb dX7_spoil_40 rfl (lv_at hl 2 rfl) ?_
        obtain ⟨r11, e10, h⟩ := ob1_some h
        refine j_i (j_runV (rest := []) hX hP hl.1 Y_X4_hasShare cok3 (lt157 sl_0) sk_0 (c_X4_hasShare hA e10) ⟨rfl, rfl⟩ q419 ⟨Nat.le_of_ble_eq_true rfl, Nat.le_of_ble_eq_true rfl⟩ rfl rfl (Nat.le_of_ble_eq_true rfl) dX7_spoil_41) hS (fun H locs hP hS => ?_)
        refine x_if_ne (tgt := 50) hx hb dX7_spoil_44 (by decide) h (fun c12 h => ?_) (fun c12 h => ?_)
        · refine lv_aload_n hx hb dX7_spoil_50 rfl (lv_at hl 0 rfl) ?_
          refine r_getq (t := 146) hX hP cok5 1 sl_145 sk_145 (by decide) rfl q244 dX7_spoil_51 ?_
          refine lv_aload_n hx hb dX7_spoil_54 rfl (lv_at hl 0 rfl) ?_
          refine r_getq (t := 0) hX hP cok5 0 sl_145 sk_145 (by decide) rfl q243 dX7_spoil_55 ?_
          obtain ⟨I14, e13, h⟩ := ob1_some h
          refine j_v (j_runV (rest := []) hX hP hl.1 Y_X3_remember cok2 (lt157 sl_146) sk_146 (c_X3_remember hA e13) ⟨rfl, rfl⟩ q261 ⟨Nat.le_of_ble_eq_true rfl, Nat.le_of_ble_eq_true rfl⟩ rfl rfl (Nat.le_of_ble_eq_true rfl) dX7_spoil_58) hS (fun H locs hP hS => ?_)
          refine lv_aload_n hx hb dX7_spoil_61 rfl (lv_at hl 0 rfl) ?_
          refine r_getq (t := 0) hX hP cok5 0 sl_145 sk_145 (by decide) rfl q243 dX7_spoil_62 ?_
          refine r_getq (t := 1) hX hP cok3 0 sl_0 sk_0 (by decide) rfl q139 dX7_spoil_65 ?_
          refine lv_iload_n hx hb dX7_spoil_68 rfl (lv_at hl 1 rfl) ?_
          refine r_ldq hX hP h (lt157 sl_1) sk_1 sn_1 dX7_spoil_69 (fun g15 h => ?_)
          refine lv_iload_n hx hb dX7_spoil_70 rfl (lv_at hl 2 rfl) ?_
          refine lv_iload_n hx hb dX7_spoil_71 rfl (lv_at hl 3 rfl) ?_
          refine lv_aload_n hx hb dX7_spoil_72 rfl (lv_at hl 0 rfl) ?_
          refine r_getq (t := 0) hX hP cok5 0 sl_145 sk_145 (by decide) rfl q243 dX7_spoil_73 ?_
          refine r_get hX hP cok3 6 sl_0 sk_0 (by decide) rfl q156 dX7_spoil_76 ?_
          obtain ⟨I17, e16, h⟩ := ob1_some h
          refine j_v (j_runV (rest := []) hX hP hl.1 Y_X5_changeShare cok4 (lt157 (isP_lt (isP_of g15))) (isP_kd (isP_of g15)) (c_X5_changeShare hA e16) ⟨rfl, rfl⟩ q428 ⟨Nat.le_of_ble_eq_true rfl, Nat.le_of_ble_eq_true rfl⟩ rfl rfl (Nat.le_of_ble_eq_true rfl) dX7_spoil_79) hS (fun H locs hP hS => ?_)
          refine lv_aload_n hx hb dX7_spoil_82 rfl (lv_at hl 0 rfl) ?_
          refine r_getq (t := 0) hX hP cok5 0 sl_145 sk_145 (by decide) rfl q243 dX7_spoil_83 ?_
          refine r_getq (t := 1) hX hP cok3 0 sl_0 sk_0 (by decide) rfl q139 dX7_spoil_86 ?_
          refine lv_iload_n hx hb dX7_spoil_89 rfl (lv_at hl 1 rfl) ?_
          refine r_ldq hX hP h (lt157 sl_1) sk_1 sn_1 dX7_spoil_90 (fun g18 h => ?_)
          refine r_getq (t := 5 + v1.toNatClampNeg + 8) hX hP cok4 10 (isP_lt (isP_of g18)) (isP_kd (isP_of g18)) (by decide) rfl q111 dX7_spoil_91 ?_
          refine lv_iload_n hx hb dX7_spoil_94 rfl (lv_at hl 2 rfl) ?_
          refine r_ald hX hP h (isP8_lt (isP_of g18)) (isP8_kd (isP_of g18)) (isP8_ln (isP_of g18)) dX7_spoil_95 (fun h => ?_)
          cases h
          exact j_iret hX hr hlk hP hS dX7_spoil_96
        · refine lv_bipush (v := (-9)) hx hb dX7_spoil_47 kc_bm9 ?_
          cases h
          exact j_iret hX hr hlk hP hS dX7_spoil_49
      · exact t_X7_spoil_b33 hX hr hlk  _ h _ _ _ hP hS (lv_sub hl [] rfl)
/-! OwnerlessCoin$Lab.payFine(I)V -/
def rm_X4_payFine : Room := { frames := 1, cells := 0, slots := 0, locals := 30 }
theorem Y_X4_payFine : yv yX4_payFine cX4_payFine 3 none 1 RX4 := ⟨q444, q442, q443, q13, by decide +kernel⟩
set_option maxHeartbeats 4000000 in
set_option maxRecDepth 100000 in
theorem c_X4_payFine {l : Launch} {D : va_G} {tc : Tc} {ad : Nat → Nat} {A : Nat → Prop} (hA : adok ad A) {I M : St} {v1 : Int32} {II : St} (h : f_X4_payFine v1 I = some II) : Met l yX4_payFine (Cond.code yX4_payFine cX4_payFine 3 none :: tw) rm_X4_payFine (pre D tc ad [.ref (ad 0), .int v1] (cmb I M)) (qv D tc ad A (cmb II M)) 0 0 A := by
  unfold f_X4_payFine at h
  refine mk_met (own := RX4) (by decide +kernel) rfl hA (Nat.le_of_ble_eq_true rfl) ?_
  intro p e s m below meth c ls hX hr hlk hl hP hS
  have hl : lv_has ls 3 [(0, .ref (ad 0)), (1, .int v1)] := hl
  have hx := hX.1
  have hb := hX.2.1
  have hown := hX.2.2.2.1
  have hts := hX.2.2.2.2.1
  refine lv_aload_n hx hb dX4_payFine_0 rfl (lv_at hl 0 rfl) ?_
  refine r_get hX hP cok3 7 sl_0 sk_0 (by decide) rfl q157 dX4_payFine_1 ?_
  refine x_let h (fun x1 h => ?_)
  refine lv_aload_n hx hb dX4_payFine_4 rfl (lv_at hl 0 rfl) ?_
  refine r_getq (t := 1) hX hP cok3 0 sl_0 sk_0 (by decide) rfl q138 dX4_payFine_5 ?_
  refine lv_iload_n hx hb dX4_payFine_8 rfl (lv_at hl 1 rfl) ?_
  refine r_ldq hX hP h (lt157 sl_1) sk_1 sn_1 dX4_payFine_9 (fun g2 h => ?_)
  refine r_get hX hP cok4 0 (isP_lt (isP_of g2)) (isP_kd (isP_of g2)) (by decide) rfl q84 dX4_payFine_10 ?_
  refine j_mmin hX hl.1 q445 q446 q20 q447 (Nat.le_of_ble_eq_true rfl) (Nat.le_of_ble_eq_true rfl) dX4_payFine_13 ?_
  refine x_let h (fun x3 h => ?_)
  refine lv_istore_n (lv' := [(2, .int x3), (0, .ref (ad 0)), (1, .int v1)]) hx hb dX4_payFine_16 rfl hl (Nat.le_of_ble_eq_true rfl) rfl (fun ls hl => ?_)
  refine lv_aload_n hx hb dX4_payFine_17 rfl (lv_at hl 1 rfl) ?_
  refine r_getq (t := 1) hX hP cok3 0 sl_0 sk_0 (by decide) rfl q138 dX4_payFine_18 ?_
  refine lv_iload_n hx hb dX4_payFine_21 rfl (lv_at hl 2 rfl) ?_
  refine r_ldq hX hP h (lt157 sl_1) sk_1 sn_1 dX4_payFine_22 (fun g4 h => ?_)
  refine lv_dup hx hb dX4_payFine_23 rfl ?_
  refine r_get hX hP cok4 0 (isP_lt (isP_of g4)) (isP_kd (isP_of g4)) (by decide) rfl q84 dX4_payFine_24 ?_
  refine x_let h (fun x5 h => ?_)
  refine lv_iload_n hx hb dX4_payFine_27 rfl (lv_at hl 0 rfl) ?_
  refine lv_isub hx hb dX4_payFine_28 ?_
  refine r_put hX hP hS cok4 0 h (isP_lt (isP_of g4)) (isP_kd (isP_of g4)) (by decide) rfl rfl q84 rfl dX4_payFine_29 (fun I6 H locs h hP hS => ?_)
  refine lv_aload_n hx hb dX4_payFine_32 rfl (lv_at hl 1 rfl) ?_
  refine lv_dup hx hb dX4_payFine_33 rfl ?_
  refine r_get hX hP cok3 4 sl_0 sk_0 (by decide) rfl q149 dX4_payFine_34 ?_
  refine x_let h (fun x7 h => ?_)
  refine lv_iload_n hx hb dX4_payFine_37 rfl (lv_at hl 0 rfl) ?_
  refine lv_iadd hx hb dX4_payFine_38 ?_
  refine r_put hX hP hS cok3 4 h sl_0 sk_0 (by decide) rfl rfl q149 rfl dX4_payFine_39 (fun I8 H locs h hP hS => ?_)
  cases h
  exact j_vret hX hr hlk hP hS dX4_payFine_42
/-! OwnerlessCoin$Lab.expel(I)V -/
def rm_X4_expel : Room := { frames := 2, cells := 0, slots := 0, locals := 52 }
theorem Y_X4_expel : yv yX4_expel cX4_expel 2 none 1 RX4 := ⟨q451, q449, q450, q13, by decide +kernel⟩
set_option maxHeartbeats 4000000 in
set_option maxRecDepth 100000 in
theorem c_X4_expel {l : Launch} {D : va_G} {tc : Tc} {ad : Nat → Nat} {A : Nat → Prop} (hA : adok ad A) {I M : St} {v1 : Int32} {II : St} (h : f_X4_expel v1 I = some II) : Met l yX4_expel (Cond.code yX4_expel cX4_expel 2 none :: tw) rm_X4_expel (pre D tc ad [.ref (ad 0), .int v1] (cmb I M)) (qv D tc ad A (cmb II M)) 0 0 A := by
  unfold f_X4_expel at h
  refine mk_met (own := RX4) (by decide +kernel) rfl hA (Nat.le_of_ble_eq_true rfl) ?_
  intro p e s m below meth c ls hX hr hlk hl hP hS
  have hl : lv_has ls 2 [(0, .ref (ad 0)), (1, .int v1)] := hl
  have hx := hX.1
  have hb := hX.2.1
  have hown := hX.2.2.2.1
  have hts := hX.2.2.2.2.1
  refine lv_aload_n hx hb dX4_expel_0 rfl (lv_at hl 0 rfl) ?_
  refine lv_iload_n hx hb dX4_expel_1 rfl (lv_at hl 1 rfl) ?_
  obtain ⟨I2, e1, h⟩ := ob1_some h
  refine j_v (j_runV (rest := []) hX hP hl.1 Y_X4_payFine cok3 (lt157 sl_0) sk_0 (c_X4_payFine hA e1) ⟨rfl, rfl⟩ q452 ⟨Nat.le_of_ble_eq_true rfl, Nat.le_of_ble_eq_true rfl⟩ rfl rfl (Nat.le_of_ble_eq_true rfl) dX4_expel_2) hS (fun H locs hP hS => ?_)
  refine lv_aload_n hx hb dX4_expel_5 rfl (lv_at hl 0 rfl) ?_
  refine r_getq (t := 1) hX hP cok3 0 sl_0 sk_0 (by decide) rfl q138 dX4_expel_6 ?_
  refine lv_iload_n hx hb dX4_expel_9 rfl (lv_at hl 1 rfl) ?_
  refine r_ldq hX hP h (lt157 sl_1) sk_1 sn_1 dX4_expel_10 (fun g3 h => ?_)
  refine lv_dup hx hb dX4_expel_11 rfl ?_
  refine r_get hX hP cok4 4 (isP_lt (isP_of g3)) (isP_kd (isP_of g3)) (by decide) rfl q96 dX4_expel_12 ?_
  refine x_let h (fun x4 h => ?_)
  refine lv_iconst (v := 1) hx hb dX4_expel_15 kc_i1 ?_
  refine lv_iadd hx hb dX4_expel_16 ?_
  refine r_put hX hP hS cok4 4 h (isP_lt (isP_of g3)) (isP_kd (isP_of g3)) (by decide) rfl rfl q96 rfl dX4_expel_17 (fun I5 H locs h hP hS => ?_)
  refine lv_aload_n hx hb dX4_expel_20 rfl (lv_at hl 0 rfl) ?_
  refine lv_dup hx hb dX4_expel_21 rfl ?_
  refine r_get hX hP cok3 13 sl_0 sk_0 (by decide) rfl q173 dX4_expel_22 ?_
  refine x_let h (fun x6 h => ?_)
  refine lv_iconst (v := 1) hx hb dX4_expel_25 kc_i1 ?_
  refine lv_iload_n hx hb dX4_expel_26 rfl (lv_at hl 1 rfl) ?_
  refine lv_ishl hx hb dX4_expel_27 ?_
  refine lv_ior hx hb dX4_expel_28 ?_
  refine r_put hX hP hS cok3 13 h sl_0 sk_0 (by decide) rfl rfl q173 rfl dX4_expel_29 (fun I7 H locs h hP hS => ?_)
  refine lv_aload_n hx hb dX4_expel_32 rfl (lv_at hl 0 rfl) ?_
  refine lv_dup hx hb dX4_expel_33 rfl ?_
  refine r_get hX hP cok3 10 sl_0 sk_0 (by decide) rfl q164 dX4_expel_34 ?_
  refine x_let h (fun x8 h => ?_)
  refine lv_iconst (v := 1) hx hb dX4_expel_37 kc_i1 ?_
  refine lv_iload_n hx hb dX4_expel_38 rfl (lv_at hl 1 rfl) ?_
  refine lv_ishl hx hb dX4_expel_39 ?_
  refine x_let h (fun x9 h => ?_)
  refine lv_iconst (v := (-1)) hx hb dX4_expel_40 kc_im1 ?_
  refine lv_ixor hx hb dX4_expel_41 ?_
  refine lv_iand hx hb dX4_expel_42 ?_
  refine r_put hX hP hS cok3 10 h sl_0 sk_0 (by decide) rfl rfl q164 rfl dX4_expel_43 (fun I10 H locs h hP hS => ?_)
  refine lv_aload_n hx hb dX4_expel_46 rfl (lv_at hl 0 rfl) ?_
  refine lv_dup hx hb dX4_expel_47 rfl ?_
  refine r_get hX hP cok3 11 sl_0 sk_0 (by decide) rfl q167 dX4_expel_48 ?_
  refine x_let h (fun x11 h => ?_)
  refine lv_iconst (v := 1) hx hb dX4_expel_51 kc_i1 ?_
  refine lv_iload_n hx hb dX4_expel_52 rfl (lv_at hl 1 rfl) ?_
  refine lv_ishl hx hb dX4_expel_53 ?_
  refine x_let h (fun x12 h => ?_)
  refine lv_iconst (v := (-1)) hx hb dX4_expel_54 kc_im1 ?_
  refine lv_ixor hx hb dX4_expel_55 ?_
  refine lv_iand hx hb dX4_expel_56 ?_
  refine r_put hX hP hS cok3 11 h sl_0 sk_0 (by decide) rfl rfl q167 rfl dX4_expel_57 (fun I13 H locs h hP hS => ?_)
  cases h
  exact j_vret hX hr hlk hP hS dX4_expel_60
/-! OwnerlessCoin.complain(II)I -/
def rm_X7_complain : Room := { frames := 4, cells := 0, slots := 0, locals := 94 }
theorem Y_X7_complain : yv yX7_complain cX7_complain 3 (some .int) 2 RX7 := ⟨q440, q438, q439, q12, by decide +kernel⟩
set_option maxHeartbeats 4000000 in
set_option maxRecDepth 100000 in
theorem t_X7_complain_b27 {p : Program} {l : Launch} {e : Env} {s : State} {m : MethodId} {args : Array Value} {below : List Frame} {meth : Method} {c : Code} {D : va_G} {tc : Tc} {ad : Nat → Nat} {A : Nat → Prop} {M : St} {rr : Int32} {II : St} (hX : cx p s m args c cX7_complain 3 RX7 D tc ad A) (hr : meth.sig.returnType = some .int) (hlk : meth.locks = false) : ∀ (I : St), f_X7_complain_b27 I = some (rr, II) → ∀ (H : Heap) (locs : List Loc) (ls : Array Slot), va_P D vwCl (wl tc ad (cmb I M)) H → va_S A s.heap H locs → lv_has ls 3 [] → W p l e rm_X7_complain s m args below meth c H locs 0 0 (MQ below (qi D tc ad A rr (cmb II M)) args s 0 0 A) (F0 m 27 ls []) := by
  intro I h H locs ls hP hS hl
  unfold f_X7_complain_b27 at h
  have hx := hX.1
  have hb := hX.2.1
  have hown := hX.2.2.2.1
  have hts := hX.2.2.2.2.1
  have hA := hX.2.2.2.2.2.2
  refine lv_iconst (v := (-1)) hx hb dX7_complain_27 kc_im1 ?_
  cases h
  exact j_iret hX hr hlk hP hS dX7_complain_28
set_option maxHeartbeats 4000000 in
set_option maxRecDepth 100000 in
theorem c_X7_complain {l : Launch} {D : va_G} {tc : Tc} {ad : Nat → Nat} {A : Nat → Prop} (hA : adok ad A) {I M : St} {v1 : Int32} {v2 : Int32} {rr : Int32} {II : St} (h : f_X7_complain v1 v2 I = some (rr, II)) : Met l yX7_complain (Cond.code yX7_complain cX7_complain 3 (some .int) :: tw) rm_X7_complain (pre D tc ad [.ref (ad 145), .int v1, .int v2] (cmb I M)) (qi D tc ad A rr (cmb II M)) 0 0 A := by
  unfold f_X7_complain at h
  refine mk_met (own := RX7) (by decide +kernel) rfl hA (Nat.le_of_ble_eq_true rfl) ?_
  intro p e s m below meth c ls hX hr hlk hl hP hS
  have hl : lv_has ls 3 [(0, .ref (ad 145)), (1, .int v1), (2, .int v2)] := hl
  have hx := hX.1
  have hb := hX.2.1
  have hown := hX.2.2.2.1
  have hts := hX.2.2.2.2.1
  refine lv_aload_n hx hb dX7_complain_0 rfl (lv_at hl 0 rfl) ?_
  refine r_getq (t := 0) hX hP cok5 0 sl_145 sk_145 (by decide) rfl q243 dX7_complain_1 ?_
  refine lv_iload_n hx hb dX7_complain_4 rfl (lv_at hl 1 rfl) ?_
  obtain ⟨r2, e1, h⟩ := ob1_some h
  refine j_i (j_runV (rest := []) hX hP hl.1 Y_X4_isParticipant cok3 (lt157 sl_0) sk_0 (c_X4_isParticipant hA e1) ⟨rfl, rfl⟩ q331 ⟨Nat.le_of_ble_eq_true rfl, Nat.le_of_ble_eq_true rfl⟩ rfl rfl (Nat.le_of_ble_eq_true rfl) dX7_complain_5) hS (fun H locs hP hS => ?_)
  refine x_if_eq (tgt := 27) hx hb dX7_complain_8 (by decide) h (fun c3 h => ?_) (fun c3 h => ?_)
  · exact t_X7_complain_b27 hX hr hlk  _ h _ _ _ hP hS (lv_sub hl [] rfl)
  · refine lv_aload_n hx hb dX7_complain_11 rfl (lv_at hl 0 rfl) ?_
    refine r_getq (t := 0) hX hP cok5 0 sl_145 sk_145 (by decide) rfl q243 dX7_complain_12 ?_
    refine lv_iload_n hx hb dX7_complain_15 rfl (lv_at hl 2 rfl) ?_
    obtain ⟨r5, e4, h⟩ := ob1_some h
    refine j_i (j_runV (rest := []) hX hP hl.1 Y_X4_isParticipant cok3 (lt157 sl_0) sk_0 (c_X4_isParticipant hA e4) ⟨rfl, rfl⟩ q331 ⟨Nat.le_of_ble_eq_true rfl, Nat.le_of_ble_eq_true rfl⟩ rfl rfl (Nat.le_of_ble_eq_true rfl) dX7_complain_16) hS (fun H locs hP hS => ?_)
    refine x_if_eq (tgt := 27) hx hb dX7_complain_19 (by decide) h (fun c6 h => ?_) (fun c6 h => ?_)
    · exact t_X7_complain_b27 hX hr hlk  _ h _ _ _ hP hS (lv_sub hl [] rfl)
    · refine lv_iload_n hx hb dX7_complain_22 rfl (lv_at hl 1 rfl) ?_
      refine lv_iload_n hx hb dX7_complain_23 rfl (lv_at hl 2 rfl) ?_
      refine x_icmp_ne (tgt := 29) hx hb dX7_complain_24 (by decide) h (fun c7 h => ?_) (fun c7 h => ?_)
      · refine lv_aload_n hx hb dX7_complain_29 rfl (lv_at hl 0 rfl) ?_
        refine r_getq (t := 0) hX hP cok5 0 sl_145 sk_145 (by decide) rfl q243 dX7_complain_30 ?_
        refine r_get hX hP cok3 9 sl_0 sk_0 (by decide) rfl q162 dX7_complain_33 ?_
        refine x_let h (fun x8 h => ?_)
        refine lv_iconst (v := 1) hx hb dX7_complain_36 kc_i1 ?_
        refine x_icmp_eq (tgt := 43) hx hb dX7_complain_37 (by decide) h (fun c9 h => ?_) (fun c9 h => ?_)
        · refine lv_aload_n hx hb dX7_complain_43 rfl (lv_at hl 0 rfl) ?_
          refine r_getq (t := 0) hX hP cok5 0 sl_145 sk_145 (by decide) rfl q243 dX7_complain_44 ?_
          refine lv_iload_n hx hb dX7_complain_47 rfl (lv_at hl 2 rfl) ?_
          refine lv_iload_n hx hb dX7_complain_48 rfl (lv_at hl 1 rfl) ?_
          obtain ⟨r11, e10, h⟩ := ob1_some h
          refine j_i (j_runV (rest := []) hX hP hl.1 Y_X4_hasShare cok3 (lt157 sl_0) sk_0 (c_X4_hasShare hA e10) ⟨rfl, rfl⟩ q419 ⟨Nat.le_of_ble_eq_true rfl, Nat.le_of_ble_eq_true rfl⟩ rfl rfl (Nat.le_of_ble_eq_true rfl) dX7_complain_49) hS (fun H locs hP hS => ?_)
          refine x_if_ne (tgt := 58) hx hb dX7_complain_52 (by decide) h (fun c12 h => ?_) (fun c12 h => ?_)
          · refine lv_aload_n hx hb dX7_complain_58 rfl (lv_at hl 0 rfl) ?_
            refine r_getq (t := 146) hX hP cok5 1 sl_145 sk_145 (by decide) rfl q244 dX7_complain_59 ?_
            refine lv_aload_n hx hb dX7_complain_62 rfl (lv_at hl 0 rfl) ?_
            refine r_getq (t := 0) hX hP cok5 0 sl_145 sk_145 (by decide) rfl q243 dX7_complain_63 ?_
            obtain ⟨I14, e13, h⟩ := ob1_some h
            refine j_v (j_runV (rest := []) hX hP hl.1 Y_X3_remember cok2 (lt157 sl_146) sk_146 (c_X3_remember hA e13) ⟨rfl, rfl⟩ q261 ⟨Nat.le_of_ble_eq_true rfl, Nat.le_of_ble_eq_true rfl⟩ rfl rfl (Nat.le_of_ble_eq_true rfl) dX7_complain_66) hS (fun H locs hP hS => ?_)
            refine lv_aload_n hx hb dX7_complain_69 rfl (lv_at hl 0 rfl) ?_
            refine r_getq (t := 0) hX hP cok5 0 sl_145 sk_145 (by decide) rfl q243 dX7_complain_70 ?_
            refine r_getq (t := 1) hX hP cok3 0 sl_0 sk_0 (by decide) rfl q139 dX7_complain_73 ?_
            refine lv_iload_n hx hb dX7_complain_76 rfl (lv_at hl 2 rfl) ?_
            refine r_ldq hX hP h (lt157 sl_1) sk_1 sn_1 dX7_complain_77 (fun g15 h => ?_)
            refine r_get hX hP cok4 9 (isP_lt (isP_of g15)) (isP_kd (isP_of g15)) (by decide) rfl q108 dX7_complain_78 ?_
            refine x_let h (fun x16 h => ?_)
            refine lv_iload_n hx hb dX7_complain_81 rfl (lv_at hl 1 rfl) ?_
            obtain ⟨r18, e17, h⟩ := ob1_some h
            refine j_i (j_runS (rest := []) hX hP hl.1 Y_X7_has (c_X7_has hA e17) ⟨rfl, rfl⟩ q371 ⟨Nat.le_of_ble_eq_true rfl, Nat.le_of_ble_eq_true rfl⟩ rfl rfl (Nat.le_of_ble_eq_true rfl) dX7_complain_82) hS (fun H locs hP hS => ?_)
            refine x_if_eq (tgt := 98) hx hb dX7_complain_85 (by decide) h (fun c19 h => ?_) (fun c19 h => ?_)
            · refine lv_aload_n hx hb dX7_complain_98 rfl (lv_at hl 0 rfl) ?_
              refine r_getq (t := 0) hX hP cok5 0 sl_145 sk_145 (by decide) rfl q243 dX7_complain_99 ?_
              refine lv_iload_n hx hb dX7_complain_102 rfl (lv_at hl 2 rfl) ?_
              obtain ⟨I21, e20, h⟩ := ob1_some h
              refine j_v (j_runV (rest := []) hX hP hl.1 Y_X4_expel cok3 (lt157 sl_0) sk_0 (c_X4_expel hA e20) ⟨rfl, rfl⟩ q448 ⟨Nat.le_of_ble_eq_true rfl, Nat.le_of_ble_eq_true rfl⟩ rfl rfl (Nat.le_of_ble_eq_true rfl) dX7_complain_103) hS (fun H locs hP hS => ?_)
              refine lv_iconst (v := 1) hx hb dX7_complain_106 kc_i1 ?_
              cases h
              exact j_iret hX hr hlk hP hS dX7_complain_107
            · refine lv_aload_n hx hb dX7_complain_88 rfl (lv_at hl 0 rfl) ?_
              refine r_getq (t := 0) hX hP cok5 0 sl_145 sk_145 (by decide) rfl q243 dX7_complain_89 ?_
              refine lv_iload_n hx hb dX7_complain_92 rfl (lv_at hl 1 rfl) ?_
              obtain ⟨I23, e22, h⟩ := ob1_some h
              refine j_v (j_runV (rest := []) hX hP hl.1 Y_X4_payFine cok3 (lt157 sl_0) sk_0 (c_X4_payFine hA e22) ⟨rfl, rfl⟩ q441 ⟨Nat.le_of_ble_eq_true rfl, Nat.le_of_ble_eq_true rfl⟩ rfl rfl (Nat.le_of_ble_eq_true rfl) dX7_complain_93) hS (fun H locs hP hS => ?_)
              refine lv_iconst (v := 0) hx hb dX7_complain_96 kc_i0 ?_
              cases h
              exact j_iret hX hr hlk hP hS dX7_complain_97
          · refine lv_bipush (v := (-9)) hx hb dX7_complain_55 kc_bm9 ?_
            cases h
            exact j_iret hX hr hlk hP hS dX7_complain_57
        · refine lv_bipush (v := (-2)) hx hb dX7_complain_40 kc_bm2 ?_
          cases h
          exact j_iret hX hr hlk hP hS dX7_complain_42
      · exact t_X7_complain_b27 hX hr hlk  _ h _ _ _ hP hS (lv_sub hl [] rfl)
/-! OwnerlessCoin$Chronicle.put(IIIIII)V -/
def rm_X0_put : Room := { frames := 0, cells := 0, slots := 0, locals := 0 }
theorem Y_X0_put : yv yX0_put cX0_put 8 none 6 RX0 := ⟨q546, q545, q8, q14, by decide +kernel⟩
set_option maxHeartbeats 4000000 in
set_option maxRecDepth 100000 in
theorem c_X0_put {l : Launch} {D : va_G} {tc : Tc} {ad : Nat → Nat} {A : Nat → Prop} (hA : adok ad A) {I M : St} {v1 : Int32} {v2 : Int32} {v3 : Int32} {v4 : Int32} {v5 : Int32} {v6 : Int32} {II : St} (h : f_X0_put v1 v2 v3 v4 v5 v6 I = some II) : Met l yX0_put (Cond.code yX0_put cX0_put 8 none :: tw) rm_X0_put (pre D tc ad [.ref (ad 3), .int v1, .int v2, .int v3, .int v4, .int v5, .int v6] (cmb I M)) (qv D tc ad A (cmb II M)) 0 0 A := by
  unfold f_X0_put at h
  refine mk_met (own := RX0) (by decide +kernel) rfl hA (Nat.le_of_ble_eq_true rfl) ?_
  intro p e s m below meth c ls hX hr hlk hl hP hS
  have hl : lv_has ls 8 [(0, .ref (ad 3)), (1, .int v1), (2, .int v2), (3, .int v3), (4, .int v4), (5, .int v5), (6, .int v6)] := hl
  have hx := hX.1
  have hb := hX.2.1
  have hown := hX.2.2.2.1
  have hts := hX.2.2.2.2.1
  refine lv_aload_n hx hb dX0_put_0 rfl (lv_at hl 0 rfl) ?_
  refine r_get hX hP cok0 0 sl_3 sk_3 (by decide) rfl q45 dX0_put_1 ?_
  refine x_let h (fun x1 h => ?_)
  refine lv_bipush (v := 16) hx hb dX0_put_4 kc_b16 ?_
  refine lv_irem hx hb dX0_put_6 (by decide) ?_
  refine x_let h (fun x2 h => ?_)
  refine lv_bipush (v := 6) hx hb dX0_put_7 kc_b6 ?_
  refine lv_imul hx hb dX0_put_9 ?_
  refine x_let h (fun x3 h => ?_)
  refine lv_istore (lv' := [(7, .int x3), (0, .ref (ad 3)), (1, .int v1), (2, .int v2), (3, .int v3), (4, .int v4), (5, .int v5), (6, .int v6)]) hx hb dX0_put_10 hl (Nat.le_of_ble_eq_true rfl) rfl (fun ls hl => ?_)
  refine lv_aload_n hx hb dX0_put_12 rfl (lv_at hl 1 rfl) ?_
  refine r_getq (t := 4) hX hP cok0 7 sl_3 sk_3 (by decide) rfl q59 dX0_put_13 ?_
  refine lv_iload hx hb dX0_put_16 (lv_at hl 0 rfl) ?_
  refine lv_iload_n hx hb dX0_put_18 rfl (lv_at hl 2 rfl) ?_
  refine r_ast hX hP hS h sl_4 sk_4 sn_4 dX0_put_19 (fun I4 H locs h hP hS => ?_)
  refine lv_aload_n hx hb dX0_put_20 rfl (lv_at hl 1 rfl) ?_
  refine r_getq (t := 4) hX hP cok0 7 sl_3 sk_3 (by decide) rfl q59 dX0_put_21 ?_
  refine lv_iload hx hb dX0_put_24 (lv_at hl 0 rfl) ?_
  refine lv_iconst (v := 1) hx hb dX0_put_26 kc_i1 ?_
  refine lv_iadd hx hb dX0_put_27 ?_
  refine x_let h (fun x5 h => ?_)
  refine lv_iload_n hx hb dX0_put_28 rfl (lv_at hl 3 rfl) ?_
  refine r_ast hX hP hS h sl_4 sk_4 sn_4 dX0_put_29 (fun I6 H locs h hP hS => ?_)
  refine lv_aload_n hx hb dX0_put_30 rfl (lv_at hl 1 rfl) ?_
  refine r_getq (t := 4) hX hP cok0 7 sl_3 sk_3 (by decide) rfl q59 dX0_put_31 ?_
  refine lv_iload hx hb dX0_put_34 (lv_at hl 0 rfl) ?_
  refine lv_iconst (v := 2) hx hb dX0_put_36 kc_i2 ?_
  refine lv_iadd hx hb dX0_put_37 ?_
  refine x_let h (fun x7 h => ?_)
  refine lv_iload_n hx hb dX0_put_38 rfl (lv_at hl 4 rfl) ?_
  refine r_ast hX hP hS h sl_4 sk_4 sn_4 dX0_put_39 (fun I8 H locs h hP hS => ?_)
  refine lv_aload_n hx hb dX0_put_40 rfl (lv_at hl 1 rfl) ?_
  refine r_getq (t := 4) hX hP cok0 7 sl_3 sk_3 (by decide) rfl q59 dX0_put_41 ?_
  refine lv_iload hx hb dX0_put_44 (lv_at hl 0 rfl) ?_
  refine lv_iconst (v := 3) hx hb dX0_put_46 kc_i3 ?_
  refine lv_iadd hx hb dX0_put_47 ?_
  refine x_let h (fun x9 h => ?_)
  refine lv_iload hx hb dX0_put_48 (lv_at hl 5 rfl) ?_
  refine r_ast hX hP hS h sl_4 sk_4 sn_4 dX0_put_50 (fun I10 H locs h hP hS => ?_)
  refine lv_aload_n hx hb dX0_put_51 rfl (lv_at hl 1 rfl) ?_
  refine r_getq (t := 4) hX hP cok0 7 sl_3 sk_3 (by decide) rfl q59 dX0_put_52 ?_
  refine lv_iload hx hb dX0_put_55 (lv_at hl 0 rfl) ?_
  refine lv_iconst (v := 4) hx hb dX0_put_57 kc_i4 ?_
  refine lv_iadd hx hb dX0_put_58 ?_
  refine x_let h (fun x11 h => ?_)
  refine lv_iload hx hb dX0_put_59 (lv_at hl 6 rfl) ?_
  refine r_ast hX hP hS h sl_4 sk_4 sn_4 dX0_put_61 (fun I12 H locs h hP hS => ?_)
  refine lv_aload_n hx hb dX0_put_62 rfl (lv_at hl 1 rfl) ?_
  refine r_getq (t := 4) hX hP cok0 7 sl_3 sk_3 (by decide) rfl q59 dX0_put_63 ?_
  refine lv_iload hx hb dX0_put_66 (lv_at hl 0 rfl) ?_
  refine lv_iconst (v := 5) hx hb dX0_put_68 kc_i5 ?_
  refine lv_iadd hx hb dX0_put_69 ?_
  refine x_let h (fun x13 h => ?_)
  refine lv_iload hx hb dX0_put_70 (lv_at hl 7 rfl) ?_
  refine r_ast hX hP hS h sl_4 sk_4 sn_4 dX0_put_72 (fun I14 H locs h hP hS => ?_)
  refine lv_aload_n hx hb dX0_put_73 rfl (lv_at hl 1 rfl) ?_
  refine lv_dup hx hb dX0_put_74 rfl ?_
  refine r_get hX hP cok0 0 sl_3 sk_3 (by decide) rfl q45 dX0_put_75 ?_
  refine x_let h (fun x15 h => ?_)
  refine lv_iconst (v := 1) hx hb dX0_put_78 kc_i1 ?_
  refine lv_iadd hx hb dX0_put_79 ?_
  refine r_put hX hP hS cok0 0 h sl_3 sk_3 (by decide) rfl rfl q45 rfl dX0_put_80 (fun I16 H locs h hP hS => ?_)
  cases h
  exact j_vret hX hr hlk hP hS dX0_put_83
/-! OwnerlessCoin$Chronicle.addFailure(III)V -/
def rm_X0_addFailure : Room := { frames := 1, cells := 0, slots := 0, locals := 27 }
theorem Y_X0_addFailure : yv yX0_addFailure cX0_addFailure 4 none 3 RX0 := ⟨q542, q540, q541, q14, by decide +kernel⟩
set_option maxHeartbeats 4000000 in
set_option maxRecDepth 100000 in
theorem c_X0_addFailure {l : Launch} {D : va_G} {tc : Tc} {ad : Nat → Nat} {A : Nat → Prop} (hA : adok ad A) {I M : St} {v1 : Int32} {v2 : Int32} {v3 : Int32} {II : St} (h : f_X0_addFailure v1 v2 v3 I = some II) : Met l yX0_addFailure (Cond.code yX0_addFailure cX0_addFailure 4 none :: tw) rm_X0_addFailure (pre D tc ad [.ref (ad 3), .int v1, .int v2, .int v3] (cmb I M)) (qv D tc ad A (cmb II M)) 0 0 A := by
  unfold f_X0_addFailure at h
  refine mk_met (own := RX0) (by decide +kernel) rfl hA (Nat.le_of_ble_eq_true rfl) ?_
  intro p e s m below meth c ls hX hr hlk hl hP hS
  have hl : lv_has ls 4 [(0, .ref (ad 3)), (1, .int v1), (2, .int v2), (3, .int v3)] := hl
  have hx := hX.1
  have hb := hX.2.1
  have hown := hX.2.2.2.1
  have hts := hX.2.2.2.2.1
  refine lv_aload_n hx hb dX0_addFailure_0 rfl (lv_at hl 0 rfl) ?_
  refine lv_bipush (v := (-5)) hx hb dX0_addFailure_1 kc_bm5 ?_
  refine lv_iload_n hx hb dX0_addFailure_3 rfl (lv_at hl 1 rfl) ?_
  refine lv_iload_n hx hb dX0_addFailure_4 rfl (lv_at hl 2 rfl) ?_
  refine lv_iconst (v := 0) hx hb dX0_addFailure_5 kc_i0 ?_
  refine lv_iload_n hx hb dX0_addFailure_6 rfl (lv_at hl 3 rfl) ?_
  refine lv_iconst (v := 0) hx hb dX0_addFailure_7 kc_i0 ?_
  obtain ⟨I2, e1, h⟩ := ob1_some h
  refine j_v (j_runV (rest := []) hX hP hl.1 Y_X0_put cok0 (lt157 sl_3) sk_3 (c_X0_put hA e1) ⟨rfl, rfl⟩ q543 ⟨Nat.le_of_ble_eq_true rfl, Nat.le_of_ble_eq_true rfl⟩ rfl rfl (Nat.le_of_ble_eq_true rfl) dX0_addFailure_8) hS (fun H locs hP hS => ?_)
  refine lv_aload_n hx hb dX0_addFailure_11 rfl (lv_at hl 0 rfl) ?_
  refine lv_iconst (v := 0) hx hb dX0_addFailure_12 kc_i0 ?_
  refine r_put hX hP hS cok0 5 h sl_3 sk_3 (by decide) rfl rfl q57 rfl dX0_addFailure_13 (fun I3 H locs h hP hS => ?_)
  cases h
  exact j_vret hX hr hlk hP hS dX0_addFailure_16
/-! OwnerlessCoin$Lab.startOpening()I -/
def rm_X4_startOpening : Room := { frames := 2, cells := 0, slots := 0, locals := 50 }
theorem Y_X4_startOpening : yv yX4_startOpening cX4_startOpening 2 (some .int) 0 RX4 := ⟨q567, q565, q566, q13, by decide +kernel⟩
set_option maxHeartbeats 4000000 in
set_option maxRecDepth 100000 in
theorem c_X4_startOpening {l : Launch} {D : va_G} {tc : Tc} {ad : Nat → Nat} {A : Nat → Prop} (hA : adok ad A) {I M : St}  {rr : Int32} {II : St} (h : f_X4_startOpening I = some (rr, II)) : Met l yX4_startOpening (Cond.code yX4_startOpening cX4_startOpening 2 (some .int) :: tw) rm_X4_startOpening (pre D tc ad [.ref (ad 0)] (cmb I M)) (qi D tc ad A rr (cmb II M)) 0 0 A := by
  unfold f_X4_startOpening at h
  refine mk_met (own := RX4) (by decide +kernel) rfl hA (Nat.le_of_ble_eq_true rfl) ?_
  intro p e s m below meth c ls hX hr hlk hl hP hS
  have hl : lv_has ls 2 [(0, .ref (ad 0))] := hl
  have hx := hX.1
  have hb := hX.2.1
  have hown := hX.2.2.2.1
  have hts := hX.2.2.2.2.1
  refine lv_aload_n hx hb dX4_startOpening_0 rfl (lv_at hl 0 rfl) ?_
  refine lv_aload_n hx hb dX4_startOpening_1 rfl (lv_at hl 0 rfl) ?_
  refine r_get hX hP cok3 11 sl_0 sk_0 (by decide) rfl q167 dX4_startOpening_2 ?_
  refine r_put hX hP hS cok3 10 h sl_0 sk_0 (by decide) rfl rfl q164 rfl dX4_startOpening_5 (fun I1 H locs h hP hS => ?_)
  refine lv_aload_n hx hb dX4_startOpening_8 rfl (lv_at hl 0 rfl) ?_
  refine r_get hX hP cok3 10 sl_0 sk_0 (by decide) rfl q164 dX4_startOpening_9 ?_
  obtain ⟨r3, e2, h⟩ := ob1_some h
  refine j_i (j_runS (rest := []) hX hP hl.1 Y_J6_bitCount_0f7a4 (c_J6_bitCount_0f7a4 hA e2) ⟨rfl, rfl⟩ q478 ⟨Nat.le_of_ble_eq_true rfl, Nat.le_of_ble_eq_true rfl⟩ rfl rfl (Nat.le_of_ble_eq_true rfl) dX4_startOpening_12) hS (fun H locs hP hS => ?_)
  refine lv_istore_n (lv' := [(1, .int r3), (0, .ref (ad 0))]) hx hb dX4_startOpening_15 rfl hl (Nat.le_of_ble_eq_true rfl) rfl (fun ls hl => ?_)
  refine lv_iload_n hx hb dX4_startOpening_16 rfl (lv_at hl 0 rfl) ?_
  refine lv_iconst (v := 2) hx hb dX4_startOpening_17 kc_i2 ?_
  refine x_icmp_ge (tgt := 45) hx hb dX4_startOpening_18 (by decide) h (fun c4 h => ?_) (fun c4 h => ?_)
  · refine lv_aload_n hx hb dX4_startOpening_45 rfl (lv_at hl 1 rfl) ?_
    refine lv_iconst (v := 2) hx hb dX4_startOpening_46 kc_i2 ?_
    refine r_put hX hP hS cok3 9 h sl_0 sk_0 (by decide) rfl rfl q161 rfl dX4_startOpening_47 (fun I5 H locs h hP hS => ?_)
    refine lv_iload_n hx hb dX4_startOpening_50 rfl (lv_at hl 0 rfl) ?_
    cases h
    exact j_iret hX hr hlk hP hS dX4_startOpening_51
  · refine lv_aload_n hx hb dX4_startOpening_21 rfl (lv_at hl 1 rfl) ?_
    refine r_getq (t := 3) hX hP cok3 2 sl_0 sk_0 (by decide) rfl q145 dX4_startOpening_22 ?_
    refine lv_aload_n hx hb dX4_startOpening_25 rfl (lv_at hl 1 rfl) ?_
    refine r_get hX hP cok3 10 sl_0 sk_0 (by decide) rfl q164 dX4_startOpening_26 ?_
    refine x_let h (fun x6 h => ?_)
    refine lv_iconst (v := 0) hx hb dX4_startOpening_29 kc_i0 ?_
    refine lv_aload_n hx hb dX4_startOpening_30 rfl (lv_at hl 1 rfl) ?_
    refine r_get hX hP cok3 5 sl_0 sk_0 (by decide) rfl q151 dX4_startOpening_31 ?_
    obtain ⟨I8, e7, h⟩ := ob1_some h
    refine j_v (j_runV (rest := []) hX hP hl.1 Y_X0_addFailure cok0 (lt157 sl_3) sk_3 (c_X0_addFailure hA e7) ⟨rfl, rfl⟩ q539 ⟨Nat.le_of_ble_eq_true rfl, Nat.le_of_ble_eq_true rfl⟩ rfl rfl (Nat.le_of_ble_eq_true rfl) dX4_startOpening_34) hS (fun H locs hP hS => ?_)
    refine lv_aload_n hx hb dX4_startOpening_37 rfl (lv_at hl 1 rfl) ?_
    refine lv_iconst (v := 0) hx hb dX4_startOpening_38 kc_i0 ?_
    refine r_put hX hP hS cok3 9 h sl_0 sk_0 (by decide) rfl rfl q161 rfl dX4_startOpening_39 (fun I9 H locs h hP hS => ?_)
    refine lv_bipush (v := (-5)) hx hb dX4_startOpening_42 kc_bm5 ?_
    cases h
    exact j_iret hX hr hlk hP hS dX4_startOpening_44
/-! OwnerlessCoin.beginOpening()I -/
def rm_X7_beginOpening : Room := { frames := 4, cells := 0, slots := 0, locals := 94 }
theorem Y_X7_beginOpening : yv yX7_beginOpening cX7_beginOpening 1 (some .int) 0 RX7 := ⟨q563, q561, q562, q12, by decide +kernel⟩
set_option maxHeartbeats 4000000 in
set_option maxRecDepth 100000 in
theorem c_X7_beginOpening {l : Launch} {D : va_G} {tc : Tc} {ad : Nat → Nat} {A : Nat → Prop} (hA : adok ad A) {I M : St}  {rr : Int32} {II : St} (h : f_X7_beginOpening I = some (rr, II)) : Met l yX7_beginOpening (Cond.code yX7_beginOpening cX7_beginOpening 1 (some .int) :: tw) rm_X7_beginOpening (pre D tc ad [.ref (ad 145)] (cmb I M)) (qi D tc ad A rr (cmb II M)) 0 0 A := by
  unfold f_X7_beginOpening at h
  refine mk_met (own := RX7) (by decide +kernel) rfl hA (Nat.le_of_ble_eq_true rfl) ?_
  intro p e s m below meth c ls hX hr hlk hl hP hS
  have hl : lv_has ls 1 [(0, .ref (ad 145))] := hl
  have hx := hX.1
  have hb := hX.2.1
  have hown := hX.2.2.2.1
  have hts := hX.2.2.2.2.1
  refine lv_aload_n hx hb dX7_beginOpening_0 rfl (lv_at hl 0 rfl) ?_
  refine r_getq (t := 0) hX hP cok5 0 sl_145 sk_145 (by decide) rfl q243 dX7_beginOpening_1 ?_
  refine r_get hX hP cok3 9 sl_0 sk_0 (by decide) rfl q162 dX7_beginOpening_4 ?_
  refine x_let h (fun x1 h => ?_)
  refine lv_iconst (v := 1) hx hb dX7_beginOpening_7 kc_i1 ?_
  refine x_icmp_eq (tgt := 14) hx hb dX7_beginOpening_8 (by decide) h (fun c2 h => ?_) (fun c2 h => ?_)
  · refine lv_aload_n hx hb dX7_beginOpening_14 rfl (lv_at hl 0 rfl) ?_
    refine r_getq (t := 146) hX hP cok5 1 sl_145 sk_145 (by decide) rfl q244 dX7_beginOpening_15 ?_
    refine lv_aload_n hx hb dX7_beginOpening_18 rfl (lv_at hl 0 rfl) ?_
    refine r_getq (t := 0) hX hP cok5 0 sl_145 sk_145 (by decide) rfl q243 dX7_beginOpening_19 ?_
    obtain ⟨I4, e3, h⟩ := ob1_some h
    refine j_v (j_runV (rest := []) hX hP hl.1 Y_X3_remember cok2 (lt157 sl_146) sk_146 (c_X3_remember hA e3) ⟨rfl, rfl⟩ q261 ⟨Nat.le_of_ble_eq_true rfl, Nat.le_of_ble_eq_true rfl⟩ rfl rfl (Nat.le_of_ble_eq_true rfl) dX7_beginOpening_22) hS (fun H locs hP hS => ?_)
    refine lv_aload_n hx hb dX7_beginOpening_25 rfl (lv_at hl 0 rfl) ?_
    refine r_getq (t := 0) hX hP cok5 0 sl_145 sk_145 (by decide) rfl q243 dX7_beginOpening_26 ?_
    obtain ⟨r7, I6, e5, h⟩ := ob2_some h
    refine j_i (j_runV (rest := []) hX hP hl.1 Y_X4_startOpening cok3 (lt157 sl_0) sk_0 (c_X4_startOpening hA e5) ⟨rfl, rfl⟩ q564 ⟨Nat.le_of_ble_eq_true rfl, Nat.le_of_ble_eq_true rfl⟩ rfl rfl (Nat.le_of_ble_eq_true rfl) dX7_beginOpening_29) hS (fun H locs hP hS => ?_)
    cases h
    exact j_iret hX hr hlk hP hS dX7_beginOpening_32
  · refine lv_bipush (v := (-2)) hx hb dX7_beginOpening_11 kc_bm2 ?_
    cases h
    exact j_iret hX hr hlk hP hS dX7_beginOpening_13
/-! OwnerlessCoin.open(III)I -/
def rm_X7_open : Room := { frames := 4, cells := 0, slots := 0, locals := 94 }
theorem Y_X7_open : yv yX7_open cX7_open 4 (some .int) 3 RX7 := ⟨q456, q454, q455, q12, by decide +kernel⟩
set_option maxHeartbeats 4000000 in
set_option maxRecDepth 100000 in
theorem t_X7_open_b52 {p : Program} {l : Launch} {e : Env} {s : State} {m : MethodId} {args : Array Value} {below : List Frame} {meth : Method} {c : Code} {D : va_G} {tc : Tc} {ad : Nat → Nat} {A : Nat → Prop} {M : St} {rr : Int32} {II : St} (hX : cx p s m args c cX7_open 4 RX7 D tc ad A) (hr : meth.sig.returnType = some .int) (hlk : meth.locks = false) : ∀ (I : St), f_X7_open_b52 I = some (rr, II) → ∀ (H : Heap) (locs : List Loc) (ls : Array Slot), va_P D vwCl (wl tc ad (cmb I M)) H → va_S A s.heap H locs → lv_has ls 4 [] → W p l e rm_X7_open s m args below meth c H locs 0 0 (MQ below (qi D tc ad A rr (cmb II M)) args s 0 0 A) (F0 m 52 ls []) := by
  intro I h H locs ls hP hS hl
  unfold f_X7_open_b52 at h
  have hx := hX.1
  have hb := hX.2.1
  have hown := hX.2.2.2.1
  have hts := hX.2.2.2.2.1
  have hA := hX.2.2.2.2.2.2
  refine lv_bipush (v := (-2)) hx hb dX7_open_52 kc_bm2 ?_
  cases h
  exact j_iret hX hr hlk hP hS dX7_open_54
set_option maxHeartbeats 4000000 in
set_option maxRecDepth 100000 in
theorem t_X7_open_b95 {p : Program} {l : Launch} {e : Env} {s : State} {m : MethodId} {args : Array Value} {below : List Frame} {meth : Method} {c : Code} {D : va_G} {tc : Tc} {ad : Nat → Nat} {A : Nat → Prop} {M : St} {rr : Int32} {II : St} (hX : cx p s m args c cX7_open 4 RX7 D tc ad A) (hr : meth.sig.returnType = some .int) (hlk : meth.locks = false) : ∀ (I : St), f_X7_open_b95 I = some (rr, II) → ∀ (H : Heap) (locs : List Loc) (ls : Array Slot), va_P D vwCl (wl tc ad (cmb I M)) H → va_S A s.heap H locs → lv_has ls 4 [] → W p l e rm_X7_open s m args below meth c H locs 0 0 (MQ below (qi D tc ad A rr (cmb II M)) args s 0 0 A) (F0 m 95 ls []) := by
  intro I h H locs ls hP hS hl
  unfold f_X7_open_b95 at h
  have hx := hX.1
  have hb := hX.2.1
  have hown := hX.2.2.2.1
  have hts := hX.2.2.2.2.1
  have hA := hX.2.2.2.2.2.2
  refine lv_iconst (v := 0) hx hb dX7_open_95 kc_i0 ?_
  cases h
  exact j_iret hX hr hlk hP hS dX7_open_96
set_option maxHeartbeats 4000000 in
set_option maxRecDepth 100000 in
theorem c_X7_open {l : Launch} {D : va_G} {tc : Tc} {ad : Nat → Nat} {A : Nat → Prop} (hA : adok ad A) {I M : St} {v1 : Int32} {v2 : Int32} {v3 : Int32} {rr : Int32} {II : St} (h : f_X7_open v1 v2 v3 I = some (rr, II)) : Met l yX7_open (Cond.code yX7_open cX7_open 4 (some .int) :: tw) rm_X7_open (pre D tc ad [.ref (ad 145), .int v1, .int v2, .int v3] (cmb I M)) (qi D tc ad A rr (cmb II M)) 0 0 A := by
  unfold f_X7_open at h
  refine mk_met (own := RX7) (by decide +kernel) rfl hA (Nat.le_of_ble_eq_true rfl) ?_
  intro p e s m below meth c ls hX hr hlk hl hP hS
  have hl : lv_has ls 4 [(0, .ref (ad 145)), (1, .int v1), (2, .int v2), (3, .int v3)] := hl
  have hx := hX.1
  have hb := hX.2.1
  have hown := hX.2.2.2.1
  have hts := hX.2.2.2.2.1
  refine lv_aload_n hx hb dX7_open_0 rfl (lv_at hl 0 rfl) ?_
  refine r_getq (t := 0) hX hP cok5 0 sl_145 sk_145 (by decide) rfl q243 dX7_open_1 ?_
  refine lv_iload_n hx hb dX7_open_4 rfl (lv_at hl 1 rfl) ?_
  obtain ⟨r2, e1, h⟩ := ob1_some h
  refine j_i (j_runV (rest := []) hX hP hl.1 Y_X4_isParticipant cok3 (lt157 sl_0) sk_0 (c_X4_isParticipant hA e1) ⟨rfl, rfl⟩ q331 ⟨Nat.le_of_ble_eq_true rfl, Nat.le_of_ble_eq_true rfl⟩ rfl rfl (Nat.le_of_ble_eq_true rfl) dX7_open_5) hS (fun H locs hP hS => ?_)
  refine x_if_ne (tgt := 13) hx hb dX7_open_8 (by decide) h (fun c3 h => ?_) (fun c3 h => ?_)
  · refine lv_aload_n hx hb dX7_open_13 rfl (lv_at hl 0 rfl) ?_
    refine r_getq (t := 0) hX hP cok5 0 sl_145 sk_145 (by decide) rfl q243 dX7_open_14 ?_
    refine r_get hX hP cok3 9 sl_0 sk_0 (by decide) rfl q162 dX7_open_17 ?_
    refine x_let h (fun x4 h => ?_)
    refine lv_iconst (v := 2) hx hb dX7_open_20 kc_i2 ?_
    refine x_icmp_ne (tgt := 52) hx hb dX7_open_21 (by decide) h (fun c5 h => ?_) (fun c5 h => ?_)
    · exact t_X7_open_b52 hX hr hlk  _ h _ _ _ hP hS (lv_sub hl [] rfl)
    · refine lv_aload_n hx hb dX7_open_24 rfl (lv_at hl 0 rfl) ?_
      refine r_getq (t := 0) hX hP cok5 0 sl_145 sk_145 (by decide) rfl q243 dX7_open_25 ?_
      refine r_get hX hP cok3 10 sl_0 sk_0 (by decide) rfl q166 dX7_open_28 ?_
      refine x_let h (fun x6 h => ?_)
      refine lv_iload_n hx hb dX7_open_31 rfl (lv_at hl 1 rfl) ?_
      obtain ⟨r8, e7, h⟩ := ob1_some h
      refine j_i (j_runS (rest := []) hX hP hl.1 Y_X7_has (c_X7_has hA e7) ⟨rfl, rfl⟩ q371 ⟨Nat.le_of_ble_eq_true rfl, Nat.le_of_ble_eq_true rfl⟩ rfl rfl (Nat.le_of_ble_eq_true rfl) dX7_open_32) hS (fun H locs hP hS => ?_)
      refine x_if_eq (tgt := 52) hx hb dX7_open_35 (by decide) h (fun c9 h => ?_) (fun c9 h => ?_)
      · exact t_X7_open_b52 hX hr hlk  _ h _ _ _ hP hS (lv_sub hl [] rfl)
      · refine lv_aload_n hx hb dX7_open_38 rfl (lv_at hl 0 rfl) ?_
        refine r_getq (t := 0) hX hP cok5 0 sl_145 sk_145 (by decide) rfl q243 dX7_open_39 ?_
        refine r_get hX hP cok3 12 sl_0 sk_0 (by decide) rfl q172 dX7_open_42 ?_
        refine x_let h (fun x10 h => ?_)
        refine lv_iload_n hx hb dX7_open_45 rfl (lv_at hl 1 rfl) ?_
        obtain ⟨r12, e11, h⟩ := ob1_some h
        refine j_i (j_runS (rest := []) hX hP hl.1 Y_X7_has (c_X7_has hA e11) ⟨rfl, rfl⟩ q371 ⟨Nat.le_of_ble_eq_true rfl, Nat.le_of_ble_eq_true rfl⟩ rfl rfl (Nat.le_of_ble_eq_true rfl) dX7_open_46) hS (fun H locs hP hS => ?_)
        refine x_if_eq (tgt := 55) hx hb dX7_open_49 (by decide) h (fun c13 h => ?_) (fun c13 h => ?_)
        · refine lv_aload_n hx hb dX7_open_55 rfl (lv_at hl 0 rfl) ?_
          refine r_getq (t := 146) hX hP cok5 1 sl_145 sk_145 (by decide) rfl q244 dX7_open_56 ?_
          refine lv_aload_n hx hb dX7_open_59 rfl (lv_at hl 0 rfl) ?_
          refine r_getq (t := 0) hX hP cok5 0 sl_145 sk_145 (by decide) rfl q243 dX7_open_60 ?_
          obtain ⟨I15, e14, h⟩ := ob1_some h
          refine j_v (j_runV (rest := []) hX hP hl.1 Y_X3_remember cok2 (lt157 sl_146) sk_146 (c_X3_remember hA e14) ⟨rfl, rfl⟩ q261 ⟨Nat.le_of_ble_eq_true rfl, Nat.le_of_ble_eq_true rfl⟩ rfl rfl (Nat.le_of_ble_eq_true rfl) dX7_open_63) hS (fun H locs hP hS => ?_)
          refine lv_aload_n hx hb dX7_open_66 rfl (lv_at hl 0 rfl) ?_
          refine r_getq (t := 0) hX hP cok5 0 sl_145 sk_145 (by decide) rfl q243 dX7_open_67 ?_
          refine r_getq (t := 2) hX hP cok3 1 sl_0 sk_0 (by decide) rfl q144 dX7_open_70 ?_
          refine lv_iload_n hx hb dX7_open_73 rfl (lv_at hl 1 rfl) ?_
          refine r_ald hX hP h sl_2 sk_2 sn_2 dX7_open_74 (fun h => ?_)
          refine x_let h (fun x16 h => ?_)
          refine lv_iload_n hx hb dX7_open_75 rfl (lv_at hl 2 rfl) ?_
          refine x_icmp_ne (tgt := 95) hx hb dX7_open_76 (by decide) h (fun c17 h => ?_) (fun c17 h => ?_)
          · exact t_X7_open_b95 hX hr hlk  _ h _ _ _ hP hS (lv_sub hl [] rfl)
          · refine lv_aload_n hx hb dX7_open_79 rfl (lv_at hl 0 rfl) ?_
            refine r_getq (t := 0) hX hP cok5 0 sl_145 sk_145 (by decide) rfl q243 dX7_open_80 ?_
            refine r_getq (t := 1) hX hP cok3 0 sl_0 sk_0 (by decide) rfl q139 dX7_open_83 ?_
            refine lv_iload_n hx hb dX7_open_86 rfl (lv_at hl 1 rfl) ?_
            refine r_ldq hX hP h (lt157 sl_1) sk_1 sn_1 dX7_open_87 (fun g18 h => ?_)
            refine r_get hX hP cok4 5 (isP_lt (isP_of g18)) (isP_kd (isP_of g18)) (by decide) rfl q100 dX7_open_88 ?_
            refine x_let h (fun x19 h => ?_)
            refine lv_iload_n hx hb dX7_open_91 rfl (lv_at hl 3 rfl) ?_
            refine x_icmp_eq (tgt := 97) hx hb dX7_open_92 (by decide) h (fun c20 h => ?_) (fun c20 h => ?_)
            · refine lv_aload_n hx hb dX7_open_97 rfl (lv_at hl 0 rfl) ?_
              refine r_getq (t := 0) hX hP cok5 0 sl_145 sk_145 (by decide) rfl q243 dX7_open_98 ?_
              refine lv_dup hx hb dX7_open_101 rfl ?_
              refine r_get hX hP cok3 12 sl_0 sk_0 (by decide) rfl q172 dX7_open_102 ?_
              refine x_let h (fun x21 h => ?_)
              refine lv_iconst (v := 1) hx hb dX7_open_105 kc_i1 ?_
              refine lv_iload_n hx hb dX7_open_106 rfl (lv_at hl 1 rfl) ?_
              refine lv_ishl hx hb dX7_open_107 ?_
              refine lv_ior hx hb dX7_open_108 ?_
              refine r_put hX hP hS cok3 12 h sl_0 sk_0 (by decide) rfl rfl q172 rfl dX7_open_109 (fun I22 H locs h hP hS => ?_)
              refine lv_iconst (v := 1) hx hb dX7_open_112 kc_i1 ?_
              cases h
              exact j_iret hX hr hlk hP hS dX7_open_113
            · exact t_X7_open_b95 hX hr hlk  _ h _ _ _ hP hS (lv_sub hl [] rfl)
        · exact t_X7_open_b52 hX hr hlk  _ h _ _ _ hP hS (lv_sub hl [] rfl)
  · refine lv_iconst (v := (-1)) hx hb dX7_open_11 kc_im1 ?_
    cases h
    exact j_iret hX hr hlk hP hS dX7_open_12
/-! OwnerlessCoin$Lab.canRecoverAll(I)Z -/
def rm_X4_canRecoverAll : Room := { frames := 1, cells := 0, slots := 0, locals := 21 }
theorem Y_X4_canRecoverAll : yv yX4_canRecoverAll cX4_canRecoverAll 3 (some .boolean) 1 RX4 := ⟨q477, q476, q3, q13, by decide +kernel⟩
set_option maxHeartbeats 4000000 in
set_option maxRecDepth 100000 in
theorem t_X4_canRecoverAll_b46 {p : Program} {l : Launch} {e : Env} {s : State} {m : MethodId} {args : Array Value} {below : List Frame} {meth : Method} {c : Code} {D : va_G} {tc : Tc} {ad : Nat → Nat} {A : Nat → Prop} {M : St} {rr : Int32} (hX : cx p s m args c cX4_canRecoverAll 3 RX4 D tc ad A) (hr : meth.sig.returnType = some .boolean) (hlk : meth.locks = false) {K2 : Int32 → Int32 → St → Option (Int32)} (hK2 : ∀ (v1 : Int32) (v2 : Int32) (I : St), K2 v1 v2 I = some rr → ∀ (H : Heap) (locs : List Loc) (ls : Array Slot), va_P D vwCl (wl tc ad (cmb I M)) H → va_S A s.heap H locs → lv_has ls 3 [(0, .ref (ad 0)), (1, .int v1), (2, .int v2)] → W p l e rm_X4_canRecoverAll s m args below meth c H locs 0 0 (MQ below (qi D tc ad A rr (cmb I M)) args s 0 0 A) (F0 m 2 ls [])) : ∀ (v1 : Int32) (v2 : Int32) (I : St), f_X4_canRecoverAll_b46 K2 v1 v2 I = some rr → ∀ (H : Heap) (locs : List Loc) (ls : Array Slot), va_P D vwCl (wl tc ad (cmb I M)) H → va_S A s.heap H locs → lv_has ls 3 [(0, .ref (ad 0)), (1, .int v1), (2, .int v2)] → W p l e rm_X4_canRecoverAll s m args below meth c H locs 0 0 (MQ below (qi D tc ad A rr (cmb I M)) args s 0 0 A) (F0 m 46 ls []) := by
  intro v1 v2 I h H locs ls hP hS hl
  unfold f_X4_canRecoverAll_b46 at h
  have hx := hX.1
  have hb := hX.2.1
  have hown := hX.2.2.2.1
  have hts := hX.2.2.2.2.1
  have hA := hX.2.2.2.2.2.2
  refine lv_iinc (v := (v2 + 1)) (lv' := [(2, .int (v2 + 1)), (0, .ref (ad 0)), (1, .int v1)]) hx hb dX4_canRecoverAll_46 hl (k := 2) rfl rfl (Nat.le_of_ble_eq_true rfl) rfl (fun ls hl => ?_)
  refine lv_goto (tgt := 2) hx hb dX4_canRecoverAll_49 (by decide) ?_
  exact hK2 _ _ _ h _ _ _ hP hS (lv_sub hl [1, 2, 0] rfl)
set_option maxHeartbeats 4000000 in
set_option maxRecDepth 100000 in
theorem t_X4_canRecoverAll_l2 {p : Program} {l : Launch} {e : Env} {s : State} {m : MethodId} {args : Array Value} {below : List Frame} {meth : Method} {c : Code} {D : va_G} {tc : Tc} {ad : Nat → Nat} {A : Nat → Prop} {M : St} {rr : Int32} (hX : cx p s m args c cX4_canRecoverAll 3 RX4 D tc ad A) (hr : meth.sig.returnType = some .boolean) (hlk : meth.locks = false) : ∀ (n : Nat), ∀ (v1 : Int32) (v2 : Int32) (I : St), f_X4_canRecoverAll_l2 n v1 v2 I = some rr → ∀ (H : Heap) (locs : List Loc) (ls : Array Slot), va_P D vwCl (wl tc ad (cmb I M)) H → va_S A s.heap H locs → lv_has ls 3 [(0, .ref (ad 0)), (1, .int v1), (2, .int v2)] → W p l e rm_X4_canRecoverAll s m args below meth c H locs 0 0 (MQ below (qi D tc ad A rr (cmb I M)) args s 0 0 A) (F0 m 2 ls []) := by
  intro n
  induction n with
  | zero =>
    intro _ _ _ h
    cases h
  | succ n ih =>
    intro v1 v2 I h H locs ls hP hS hl
    rw [f_X4_canRecoverAll_l2] at h
    have hx := hX.1
    have hb := hX.2.1
    have hown := hX.2.2.2.1
    have hts := hX.2.2.2.2.1
    have hA := hX.2.2.2.2.2.2
    refine lv_iload_n hx hb dX4_canRecoverAll_2 rfl (lv_at hl 2 rfl) ?_
    refine lv_bipush (v := 8) hx hb dX4_canRecoverAll_3 kc_b8 ?_
    refine x_icmp_ge (tgt := 52) hx hb dX4_canRecoverAll_5 (by decide) h (fun c1 h => ?_) (fun c1 h => ?_)
    · refine lv_iconst (v := 1) hx hb dX4_canRecoverAll_52 kc_i1 ?_
      cases h
      exact j_zret hX hr hlk hP hS (Or.inr rfl) dX4_canRecoverAll_53
    · refine lv_aload_n hx hb dX4_canRecoverAll_8 rfl (lv_at hl 0 rfl) ?_
      refine r_get hX hP cok3 10 sl_0 sk_0 (by decide) rfl q164 dX4_canRecoverAll_9 ?_
      refine x_let h (fun x2 h => ?_)
      refine lv_iload_n hx hb dX4_canRecoverAll_12 rfl (lv_at hl 1 rfl) ?_
      refine lv_iconst (v := (-1)) hx hb dX4_canRecoverAll_13 kc_im1 ?_
      refine lv_ixor hx hb dX4_canRecoverAll_14 ?_
      refine lv_iand hx hb dX4_canRecoverAll_15 ?_
      refine x_let h (fun x3 h => ?_)
      refine lv_iload_n hx hb dX4_canRecoverAll_16 rfl (lv_at hl 2 rfl) ?_
      obtain ⟨r5, e4, h⟩ := ob1_some h
      refine j_i (j_runN (rest := []) hX hP hl.1 Y_X7_has (c_X7_has hA e4) ⟨rfl, rfl⟩ nw3 ⟨Nat.le_of_ble_eq_true rfl, Nat.le_of_ble_eq_true rfl⟩ rfl rfl (Nat.le_of_ble_eq_true rfl) dX4_canRecoverAll_17) hS (fun H locs hP hS => ?_)
      refine x_if_eq (tgt := 46) hx hb dX4_canRecoverAll_20 (by decide) h (fun c6 h => ?_) (fun c6 h => ?_)
      · exact t_X4_canRecoverAll_b46 hX hr hlk ih _ _ _ h _ _ _ hP hS (lv_sub hl [0, 1, 2] rfl)
      · refine lv_iload_n hx hb dX4_canRecoverAll_23 rfl (lv_at hl 1 rfl) ?_
        refine lv_aload_n hx hb dX4_canRecoverAll_24 rfl (lv_at hl 0 rfl) ?_
        refine r_getq (t := 1) hX hP cok3 0 sl_0 sk_0 (by decide) rfl q138 dX4_canRecoverAll_25 ?_
        refine lv_iload_n hx hb dX4_canRecoverAll_28 rfl (lv_at hl 2 rfl) ?_
        refine r_ldq hX hP h (lt157 sl_1) sk_1 sn_1 dX4_canRecoverAll_29 (fun g7 h => ?_)
        refine r_get hX hP cok4 9 (isP_lt (isP_of g7)) (isP_kd (isP_of g7)) (by decide) rfl q109 dX4_canRecoverAll_30 ?_
        refine lv_iand hx hb dX4_canRecoverAll_33 ?_
        obtain ⟨r9, e8, h⟩ := ob1_some h
        refine j_i (j_runS (rest := []) hX hP hl.1 Y_J6_bitCount_0f7a4 (c_J6_bitCount_0f7a4 hA e8) ⟨rfl, rfl⟩ q478 ⟨Nat.le_of_ble_eq_true rfl, Nat.le_of_ble_eq_true rfl⟩ rfl rfl (Nat.le_of_ble_eq_true rfl) dX4_canRecoverAll_34) hS (fun H locs hP hS => ?_)
        refine lv_aload_n hx hb dX4_canRecoverAll_37 rfl (lv_at hl 0 rfl) ?_
        refine r_get hX hP cok3 6 sl_0 sk_0 (by decide) rfl q154 dX4_canRecoverAll_38 ?_
        refine x_icmp_ge (tgt := 46) hx hb dX4_canRecoverAll_41 (by decide) h (fun c10 h => ?_) (fun c10 h => ?_)
        · exact t_X4_canRecoverAll_b46 hX hr hlk ih _ _ _ h _ _ _ hP hS (lv_sub hl [0, 1, 2] rfl)
        · refine lv_iconst (v := 0) hx hb dX4_canRecoverAll_44 kc_i0 ?_
          cases h
          exact j_zret hX hr hlk hP hS (Or.inl rfl) dX4_canRecoverAll_45
set_option maxHeartbeats 4000000 in
set_option maxRecDepth 100000 in
theorem c_X4_canRecoverAll {l : Launch} {D : va_G} {tc : Tc} {ad : Nat → Nat} {A : Nat → Prop} (hA : adok ad A) {I M : St} {v1 : Int32} {rr : Int32} (h : f_X4_canRecoverAll v1 I = some rr) : Met l yX4_canRecoverAll (Cond.code yX4_canRecoverAll cX4_canRecoverAll 3 (some .boolean) :: tw) rm_X4_canRecoverAll (pre D tc ad [.ref (ad 0), .int v1] (cmb I M)) (qi D tc ad A rr (cmb I M)) 0 0 A := by
  unfold f_X4_canRecoverAll at h
  refine mk_met (own := RX4) (by decide +kernel) rfl hA (Nat.le_of_ble_eq_true rfl) ?_
  intro p e s m below meth c ls hX hr hlk hl hP hS
  have hl : lv_has ls 3 [(0, .ref (ad 0)), (1, .int v1)] := hl
  have hx := hX.1
  have hb := hX.2.1
  have hown := hX.2.2.2.1
  have hts := hX.2.2.2.2.1
  refine lv_iconst (v := 0) hx hb dX4_canRecoverAll_0 kc_i0 ?_
  refine lv_istore_n (lv' := [(2, .int 0), (0, .ref (ad 0)), (1, .int v1)]) hx hb dX4_canRecoverAll_1 rfl hl (Nat.le_of_ble_eq_true rfl) rfl (fun ls hl => ?_)
  exact t_X4_canRecoverAll_l2 hX hr hlk  10000 _ _ _ h _ _ _ hP hS (lv_sub hl [1, 2, 0] rfl)
