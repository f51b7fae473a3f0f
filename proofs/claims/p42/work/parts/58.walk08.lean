/-! OwnerlessCoinLaw.steps(LOwnerlessCoin;IIII)Z -/
def rm_L_steps : Room := { frames := 8, cells := 0, slots := 0, locals := 190 }
theorem Y_L_steps : ys yL_steps cL_steps 5 (some .boolean) 5 := ⟨q648, q647, q11, by decide +kernel⟩
set_option maxHeartbeats 4000000 in
set_option maxRecDepth 100000 in
theorem t_L_steps_b256 {p : Program} {l : Launch} {e : Env} {s : State} {m : MethodId} {args : Array Value} {below : List Frame} {meth : Method} {c : Code} {D : va_G} {tc : Tc} {ad : Nat → Nat} {A : Nat → Prop} {M : St} {rr : Int32} {II : St} (hX : cx p s m args c cL_steps 5 RL D tc ad A) (hr : meth.sig.returnType = some .boolean) (hlk : meth.locks = false) : ∀ (t0 : Int32) (I : St), f_L_steps_b256 t0 I = some (rr, II) → ∀ (H : Heap) (locs : List Loc) (ls : Array Slot), va_P D vwCl (wl tc ad (cmb I M)) H → va_S A s.heap H locs → lv_has ls 5 [] → W p l e rm_L_steps s m args below meth c H locs 0 0 (MQ below (qi D tc ad A rr (cmb II M)) args s 0 0 A) (F0 m 256 ls [.int t0]) := by
  intro t0 I h H locs ls hP hS hl
  unfold f_L_steps_b256 at h
  have hx := hX.1
  have hb := hX.2.1
  have hown := hX.2.2.2.1
  have hts := hX.2.2.2.2.1
  have hA := hX.2.2.2.2.2.2
  obtain ⟨gz, h⟩ := ck_some h
  cases h
  exact j_zret hX hr hlk hP hS (isB_or gz) dL_steps_256
set_option maxHeartbeats 4000000 in
set_option maxRecDepth 100000 in
theorem t_L_steps_b255 {p : Program} {l : Launch} {e : Env} {s : State} {m : MethodId} {args : Array Value} {below : List Frame} {meth : Method} {c : Code} {D : va_G} {tc : Tc} {ad : Nat → Nat} {A : Nat → Prop} {M : St} {rr : Int32} {II : St} (hX : cx p s m args c cL_steps 5 RL D tc ad A) (hr : meth.sig.returnType = some .boolean) (hlk : meth.locks = false) : ∀ (I : St), f_L_steps_b255 I = some (rr, II) → ∀ (H : Heap) (locs : List Loc) (ls : Array Slot), va_P D vwCl (wl tc ad (cmb I M)) H → va_S A s.heap H locs → lv_has ls 5 [] → W p l e rm_L_steps s m args below meth c H locs 0 0 (MQ below (qi D tc ad A rr (cmb II M)) args s 0 0 A) (F0 m 255 ls []) := by
  intro I h H locs ls hP hS hl
  unfold f_L_steps_b255 at h
  have hx := hX.1
  have hb := hX.2.1
  have hown := hX.2.2.2.1
  have hts := hX.2.2.2.2.1
  have hA := hX.2.2.2.2.2.2
  refine lv_iconst (v := 0) hx hb dL_steps_255 kc_i0 ?_
  exact t_L_steps_b256 hX hr hlk  _ _ h _ _ _ hP hS (lv_sub hl [] rfl)
set_option maxHeartbeats 4000000 in
set_option maxRecDepth 100000 in
theorem t_L_steps_b179 {p : Program} {l : Launch} {e : Env} {s : State} {m : MethodId} {args : Array Value} {below : List Frame} {meth : Method} {c : Code} {D : va_G} {tc : Tc} {ad : Nat → Nat} {A : Nat → Prop} {M : St} {rr : Int32} {II : St} (hX : cx p s m args c cL_steps 5 RL D tc ad A) (hr : meth.sig.returnType = some .boolean) (hlk : meth.locks = false) : ∀ (t0 : Int32) (I : St), f_L_steps_b179 t0 I = some (rr, II) → ∀ (H : Heap) (locs : List Loc) (ls : Array Slot), va_P D vwCl (wl tc ad (cmb I M)) H → va_S A s.heap H locs → lv_has ls 5 [] → W p l e rm_L_steps s m args below meth c H locs 0 0 (MQ below (qi D tc ad A rr (cmb II M)) args s 0 0 A) (F0 m 179 ls [.int t0]) := by
  intro t0 I h H locs ls hP hS hl
  unfold f_L_steps_b179 at h
  have hx := hX.1
  have hb := hX.2.1
  have hown := hX.2.2.2.1
  have hts := hX.2.2.2.2.1
  have hA := hX.2.2.2.2.2.2
  obtain ⟨gz, h⟩ := ck_some h
  cases h
  exact j_zret hX hr hlk hP hS (isB_or gz) dL_steps_179
set_option maxHeartbeats 4000000 in
set_option maxRecDepth 100000 in
theorem t_L_steps_b158 {p : Program} {l : Launch} {e : Env} {s : State} {m : MethodId} {args : Array Value} {below : List Frame} {meth : Method} {c : Code} {D : va_G} {tc : Tc} {ad : Nat → Nat} {A : Nat → Prop} {M : St} {rr : Int32} {II : St} (hX : cx p s m args c cL_steps 5 RL D tc ad A) (hr : meth.sig.returnType = some .boolean) (hlk : meth.locks = false) : ∀ (t0 : Int32) (I : St), f_L_steps_b158 t0 I = some (rr, II) → ∀ (H : Heap) (locs : List Loc) (ls : Array Slot), va_P D vwCl (wl tc ad (cmb I M)) H → va_S A s.heap H locs → lv_has ls 5 [] → W p l e rm_L_steps s m args below meth c H locs 0 0 (MQ below (qi D tc ad A rr (cmb II M)) args s 0 0 A) (F0 m 158 ls [.int t0]) := by
  intro t0 I h H locs ls hP hS hl
  unfold f_L_steps_b158 at h
  have hx := hX.1
  have hb := hX.2.1
  have hown := hX.2.2.2.1
  have hts := hX.2.2.2.2.1
  have hA := hX.2.2.2.2.2.2
  obtain ⟨gz, h⟩ := ck_some h
  cases h
  exact j_zret hX hr hlk hP hS (isB_or gz) dL_steps_158
set_option maxHeartbeats 4000000 in
set_option maxRecDepth 100000 in
theorem t_L_steps_b132 {p : Program} {l : Launch} {e : Env} {s : State} {m : MethodId} {args : Array Value} {below : List Frame} {meth : Method} {c : Code} {D : va_G} {tc : Tc} {ad : Nat → Nat} {A : Nat → Prop} {M : St} {rr : Int32} {II : St} (hX : cx p s m args c cL_steps 5 RL D tc ad A) (hr : meth.sig.returnType = some .boolean) (hlk : meth.locks = false) : ∀ (t0 : Int32) (I : St), f_L_steps_b132 t0 I = some (rr, II) → ∀ (H : Heap) (locs : List Loc) (ls : Array Slot), va_P D vwCl (wl tc ad (cmb I M)) H → va_S A s.heap H locs → lv_has ls 5 [] → W p l e rm_L_steps s m args below meth c H locs 0 0 (MQ below (qi D tc ad A rr (cmb II M)) args s 0 0 A) (F0 m 132 ls [.int t0]) := by
  intro t0 I h H locs ls hP hS hl
  unfold f_L_steps_b132 at h
  have hx := hX.1
  have hb := hX.2.1
  have hown := hX.2.2.2.1
  have hts := hX.2.2.2.2.1
  have hA := hX.2.2.2.2.2.2
  obtain ⟨gz, h⟩ := ck_some h
  cases h
  exact j_zret hX hr hlk hP hS (isB_or gz) dL_steps_132
set_option maxHeartbeats 4000000 in
set_option maxRecDepth 100000 in
theorem t_L_steps_b127 {p : Program} {l : Launch} {e : Env} {s : State} {m : MethodId} {args : Array Value} {below : List Frame} {meth : Method} {c : Code} {D : va_G} {tc : Tc} {ad : Nat → Nat} {A : Nat → Prop} {M : St} {rr : Int32} {II : St} (hX : cx p s m args c cL_steps 5 RL D tc ad A) (hr : meth.sig.returnType = some .boolean) (hlk : meth.locks = false) : ∀ (I : St), f_L_steps_b127 I = some (rr, II) → ∀ (H : Heap) (locs : List Loc) (ls : Array Slot), va_P D vwCl (wl tc ad (cmb I M)) H → va_S A s.heap H locs → lv_has ls 5 [] → W p l e rm_L_steps s m args below meth c H locs 0 0 (MQ below (qi D tc ad A rr (cmb II M)) args s 0 0 A) (F0 m 127 ls []) := by
  intro I h H locs ls hP hS hl
  unfold f_L_steps_b127 at h
  have hx := hX.1
  have hb := hX.2.1
  have hown := hX.2.2.2.1
  have hts := hX.2.2.2.2.1
  have hA := hX.2.2.2.2.2.2
  refine lv_iconst (v := 1) hx hb dL_steps_127 kc_i1 ?_
  refine lv_goto (tgt := 132) hx hb dL_steps_128 (by decide) ?_
  exact t_L_steps_b132 hX hr hlk  _ _ h _ _ _ hP hS (lv_sub hl [] rfl)
set_option maxHeartbeats 4000000 in
set_option maxRecDepth 100000 in
theorem t_L_steps_b104 {p : Program} {l : Launch} {e : Env} {s : State} {m : MethodId} {args : Array Value} {below : List Frame} {meth : Method} {c : Code} {D : va_G} {tc : Tc} {ad : Nat → Nat} {A : Nat → Prop} {M : St} {rr : Int32} {II : St} (hX : cx p s m args c cL_steps 5 RL D tc ad A) (hr : meth.sig.returnType = some .boolean) (hlk : meth.locks = false) : ∀ (t0 : Int32) (I : St), f_L_steps_b104 t0 I = some (rr, II) → ∀ (H : Heap) (locs : List Loc) (ls : Array Slot), va_P D vwCl (wl tc ad (cmb I M)) H → va_S A s.heap H locs → lv_has ls 5 [] → W p l e rm_L_steps s m args below meth c H locs 0 0 (MQ below (qi D tc ad A rr (cmb II M)) args s 0 0 A) (F0 m 104 ls [.int t0]) := by
  intro t0 I h H locs ls hP hS hl
  unfold f_L_steps_b104 at h
  have hx := hX.1
  have hb := hX.2.1
  have hown := hX.2.2.2.1
  have hts := hX.2.2.2.2.1
  have hA := hX.2.2.2.2.2.2
  obtain ⟨gz, h⟩ := ck_some h
  cases h
  exact j_zret hX hr hlk hP hS (isB_or gz) dL_steps_104
set_option maxHeartbeats 4000000 in
set_option maxRecDepth 100000 in
theorem t_L_steps_b89 {p : Program} {l : Launch} {e : Env} {s : State} {m : MethodId} {args : Array Value} {below : List Frame} {meth : Method} {c : Code} {D : va_G} {tc : Tc} {ad : Nat → Nat} {A : Nat → Prop} {M : St} {rr : Int32} {II : St} (hX : cx p s m args c cL_steps 5 RL D tc ad A) (hr : meth.sig.returnType = some .boolean) (hlk : meth.locks = false) : ∀ (t0 : Int32) (I : St), f_L_steps_b89 t0 I = some (rr, II) → ∀ (H : Heap) (locs : List Loc) (ls : Array Slot), va_P D vwCl (wl tc ad (cmb I M)) H → va_S A s.heap H locs → lv_has ls 5 [] → W p l e rm_L_steps s m args below meth c H locs 0 0 (MQ below (qi D tc ad A rr (cmb II M)) args s 0 0 A) (F0 m 89 ls [.int t0]) := by
  intro t0 I h H locs ls hP hS hl
  unfold f_L_steps_b89 at h
  have hx := hX.1
  have hb := hX.2.1
  have hown := hX.2.2.2.1
  have hts := hX.2.2.2.2.1
  have hA := hX.2.2.2.2.2.2
  obtain ⟨gz, h⟩ := ck_some h
  cases h
  exact j_zret hX hr hlk hP hS (isB_or gz) dL_steps_89
set_option maxHeartbeats 4000000 in
set_option maxRecDepth 100000 in
theorem t_L_steps_b74 {p : Program} {l : Launch} {e : Env} {s : State} {m : MethodId} {args : Array Value} {below : List Frame} {meth : Method} {c : Code} {D : va_G} {tc : Tc} {ad : Nat → Nat} {A : Nat → Prop} {M : St} {rr : Int32} {II : St} (hX : cx p s m args c cL_steps 5 RL D tc ad A) (hr : meth.sig.returnType = some .boolean) (hlk : meth.locks = false) : ∀ (t0 : Int32) (I : St), f_L_steps_b74 t0 I = some (rr, II) → ∀ (H : Heap) (locs : List Loc) (ls : Array Slot), va_P D vwCl (wl tc ad (cmb I M)) H → va_S A s.heap H locs → lv_has ls 5 [] → W p l e rm_L_steps s m args below meth c H locs 0 0 (MQ below (qi D tc ad A rr (cmb II M)) args s 0 0 A) (F0 m 74 ls [.int t0]) := by
  intro t0 I h H locs ls hP hS hl
  unfold f_L_steps_b74 at h
  have hx := hX.1
  have hb := hX.2.1
  have hown := hX.2.2.2.1
  have hts := hX.2.2.2.2.1
  have hA := hX.2.2.2.2.2.2
  obtain ⟨gz, h⟩ := ck_some h
  cases h
  exact j_zret hX hr hlk hP hS (isB_or gz) dL_steps_74
set_option maxHeartbeats 4000000 in
set_option maxRecDepth 100000 in
theorem c_L_steps {l : Launch} {D : va_G} {tc : Tc} {ad : Nat → Nat} {A : Nat → Prop} (hA : adok ad A) {I M : St} {v1 : Int32} {v2 : Int32} {v3 : Int32} {v4 : Int32} {rr : Int32} {II : St} (h : f_L_steps v1 v2 v3 v4 I = some (rr, II)) : Met l yL_steps (Cond.code yL_steps cL_steps 5 (some .boolean) :: tw) rm_L_steps (pre D tc ad [.ref (ad 145), .int v1, .int v2, .int v3, .int v4] (cmb I M)) (qi D tc ad A rr (cmb II M)) 0 0 A := by
  unfold f_L_steps at h
  refine mk_met (own := RL) (by decide +kernel) rfl hA (Nat.le_of_ble_eq_true rfl) ?_
  intro p e s m below meth c ls hX hr hlk hl hP hS
  have hl : lv_has ls 5 [(0, .ref (ad 145)), (1, .int v1), (2, .int v2), (3, .int v3), (4, .int v4)] := hl
  have hx := hX.1
  have hb := hX.2.1
  have hown := hX.2.2.2.1
  have hts := hX.2.2.2.2.1
  refine lv_iload_n hx hb dL_steps_0 rfl (lv_at hl 3 rfl) ?_
  refine lv_bipush (v := 12) hx hb dL_steps_1 kc_b12 ?_
  obtain ⟨r2, e1, h⟩ := ob1_some h
  refine j_i (j_runS (rest := []) hX hP hl.1 Y_L_up (c_L_up hA e1) ⟨rfl, rfl⟩ q302 ⟨Nat.le_of_ble_eq_true rfl, Nat.le_of_ble_eq_true rfl⟩ rfl rfl (Nat.le_of_ble_eq_true rfl) dL_steps_3) hS (fun H locs hP hS => ?_)
  by_cases c10 : r2 = 0
  · rw [if_pos c10] at h
    refine lv_tableIn (tgt := 60) hx hb dL_steps_6 (by rw [c10]; decide) (by rw [c10]; decide) (by rw [c10]; rfl) (by decide) ?_
    refine lv_aload_n hx hb dL_steps_60 rfl (lv_at hl 0 rfl) ?_
    obtain ⟨r8, I7, e6, h⟩ := ob2_some h
    refine j_i (j_runV (rest := []) hX hP hl.1 Y_X7_begin cok5 (lt157 sl_145) sk_145 (c_X7_begin hA e6) ⟨rfl, rfl⟩ q569 ⟨Nat.le_of_ble_eq_true rfl, Nat.le_of_ble_eq_true rfl⟩ rfl rfl (Nat.le_of_ble_eq_true rfl) dL_steps_61) hS (fun H locs hP hS => ?_)
    refine lv_bipush (v := (-2)) hx hb dL_steps_64 kc_bm2 ?_
    refine x_icmp_lt (tgt := 73) hx hb dL_steps_66 (by decide) h (fun c9 h => ?_) (fun c9 h => ?_)
    · refine lv_iconst (v := 0) hx hb dL_steps_73 kc_i0 ?_
      exact t_L_steps_b74 hX hr hlk  _ _ h _ _ _ hP hS (lv_sub hl [] rfl)
    · refine lv_iconst (v := 1) hx hb dL_steps_69 kc_i1 ?_
      refine lv_goto (tgt := 74) hx hb dL_steps_70 (by decide) ?_
      exact t_L_steps_b74 hX hr hlk  _ _ h _ _ _ hP hS (lv_sub hl [] rfl)
  rw [if_neg c10] at h
  by_cases c15 : r2 = 1
  · rw [if_pos c15] at h
    refine lv_tableIn (tgt := 75) hx hb dL_steps_6 (by rw [c15]; decide) (by rw [c15]; decide) (by rw [c15]; rfl) (by decide) ?_
    refine lv_aload_n hx hb dL_steps_75 rfl (lv_at hl 0 rfl) ?_
    obtain ⟨r13, I12, e11, h⟩ := ob2_some h
    refine j_i (j_runV (rest := []) hX hP hl.1 Y_X7_beginOpening cok5 (lt157 sl_145) sk_145 (c_X7_beginOpening hA e11) ⟨rfl, rfl⟩ q560 ⟨Nat.le_of_ble_eq_true rfl, Nat.le_of_ble_eq_true rfl⟩ rfl rfl (Nat.le_of_ble_eq_true rfl) dL_steps_76) hS (fun H locs hP hS => ?_)
    refine lv_bipush (v := (-5)) hx hb dL_steps_79 kc_bm5 ?_
    refine x_icmp_lt (tgt := 88) hx hb dL_steps_81 (by decide) h (fun c14 h => ?_) (fun c14 h => ?_)
    · refine lv_iconst (v := 0) hx hb dL_steps_88 kc_i0 ?_
      exact t_L_steps_b89 hX hr hlk  _ _ h _ _ _ hP hS (lv_sub hl [] rfl)
    · refine lv_iconst (v := 1) hx hb dL_steps_84 kc_i1 ?_
      refine lv_goto (tgt := 89) hx hb dL_steps_85 (by decide) ?_
      exact t_L_steps_b89 hX hr hlk  _ _ h _ _ _ hP hS (lv_sub hl [] rfl)
  rw [if_neg c15] at h
  by_cases c20 : r2 = 2
  · rw [if_pos c20] at h
    refine lv_tableIn (tgt := 90) hx hb dL_steps_6 (by rw [c20]; decide) (by rw [c20]; decide) (by rw [c20]; rfl) (by decide) ?_
    refine lv_aload_n hx hb dL_steps_90 rfl (lv_at hl 0 rfl) ?_
    obtain ⟨r18, I17, e16, h⟩ := ob2_some h
    refine j_i (j_runV (rest := []) hX hP hl.1 Y_X7_close cok5 (lt157 sl_145) sk_145 (c_X7_close hA e16) ⟨rfl, rfl⟩ q526 ⟨Nat.le_of_ble_eq_true rfl, Nat.le_of_ble_eq_true rfl⟩ rfl rfl (Nat.le_of_ble_eq_true rfl) dL_steps_91) hS (fun H locs hP hS => ?_)
    refine lv_bipush (v := (-5)) hx hb dL_steps_94 kc_bm5 ?_
    refine x_icmp_lt (tgt := 103) hx hb dL_steps_96 (by decide) h (fun c19 h => ?_) (fun c19 h => ?_)
    · refine lv_iconst (v := 0) hx hb dL_steps_103 kc_i0 ?_
      exact t_L_steps_b104 hX hr hlk  _ _ h _ _ _ hP hS (lv_sub hl [] rfl)
    · refine lv_iconst (v := 1) hx hb dL_steps_99 kc_i1 ?_
      refine lv_goto (tgt := 104) hx hb dL_steps_100 (by decide) ?_
      exact t_L_steps_b104 hX hr hlk  _ _ h _ _ _ hP hS (lv_sub hl [] rfl)
  rw [if_neg c20] at h
  by_cases c24 : r2 = 3
  · rw [if_pos c24] at h
    refine lv_tableIn (tgt := 105) hx hb dL_steps_6 (by rw [c24]; decide) (by rw [c24]; decide) (by rw [c24]; rfl) (by decide) ?_
    refine lv_aload_n hx hb dL_steps_105 rfl (lv_at hl 0 rfl) ?_
    refine lv_iload_n hx hb dL_steps_106 rfl (lv_at hl 3 rfl) ?_
    obtain ⟨r23, I22, e21, h⟩ := ob2_some h
    refine j_i (j_runS (rest := []) hX hP hl.1 Y_L_plays (c_L_plays hA e21) ⟨rfl, rfl⟩ q649 ⟨Nat.le_of_ble_eq_true rfl, Nat.le_of_ble_eq_true rfl⟩ rfl rfl (Nat.le_of_ble_eq_true rfl) dL_steps_107) hS (fun H locs hP hS => ?_)
    obtain ⟨gz, h⟩ := ck_some h
    cases h
    exact j_zret hX hr hlk hP hS (isB_or gz) dL_steps_110
  rw [if_neg c24] at h
  by_cases c30 : r2 = 4
  · rw [if_pos c30] at h
    refine lv_tableIn (tgt := 111) hx hb dL_steps_6 (by rw [c30]; decide) (by rw [c30]; decide) (by rw [c30]; rfl) (by decide) ?_
    refine lv_iload_n hx hb dL_steps_111 rfl (lv_at hl 1 rfl) ?_
    refine lv_iload_n hx hb dL_steps_112 rfl (lv_at hl 2 rfl) ?_
    refine x_icmp_eq (tgt := 127) hx hb dL_steps_113 (by decide) h (fun c25 h => ?_) (fun c25 h => ?_)
    · exact t_L_steps_b127 hX hr hlk  _ h _ _ _ hP hS (lv_sub hl [] rfl)
    · refine lv_aload_n hx hb dL_steps_116 rfl (lv_at hl 0 rfl) ?_
      refine lv_iload_n hx hb dL_steps_117 rfl (lv_at hl 2 rfl) ?_
      refine lv_iload_n hx hb dL_steps_118 rfl (lv_at hl 1 rfl) ?_
      obtain ⟨r28, I27, e26, h⟩ := ob2_some h
      refine j_i (j_runV (rest := []) hX hP hl.1 Y_X7_complain cok5 (lt157 sl_145) sk_145 (c_X7_complain hA e26) ⟨rfl, rfl⟩ q437 ⟨Nat.le_of_ble_eq_true rfl, Nat.le_of_ble_eq_true rfl⟩ rfl rfl (Nat.le_of_ble_eq_true rfl) dL_steps_119) hS (fun H locs hP hS => ?_)
      refine lv_bipush (v := (-9)) hx hb dL_steps_122 kc_bm9 ?_
      refine x_icmp_lt (tgt := 131) hx hb dL_steps_124 (by decide) h (fun c29 h => ?_) (fun c29 h => ?_)
      · refine lv_iconst (v := 0) hx hb dL_steps_131 kc_i0 ?_
        exact t_L_steps_b132 hX hr hlk  _ _ h _ _ _ hP hS (lv_sub hl [] rfl)
      · exact t_L_steps_b127 hX hr hlk  _ h _ _ _ hP hS (lv_sub hl [] rfl)
  rw [if_neg c30] at h
  by_cases c38 : r2 = 5
  · rw [if_pos c38] at h
    refine lv_tableIn (tgt := 133) hx hb dL_steps_6 (by rw [c38]; decide) (by rw [c38]; decide) (by rw [c38]; rfl) (by decide) ?_
    refine lv_aload_n hx hb dL_steps_133 rfl (lv_at hl 0 rfl) ?_
    refine lv_iload_n hx hb dL_steps_134 rfl (lv_at hl 1 rfl) ?_
    refine lv_iload_n hx hb dL_steps_135 rfl (lv_at hl 3 rfl) ?_
    refine lv_iconst (v := 4) hx hb dL_steps_136 kc_i4 ?_
    refine lv_ishr hx hb dL_steps_137 ?_
    refine x_let h (fun x31 h => ?_)
    refine lv_sipush (v := 1019) hx hb dL_steps_138 kc_s1019 ?_
    obtain ⟨r33, e32, h⟩ := ob1_some h
    refine j_i (j_runS (rest := [.int v1, .ref (ad 145)]) hX hP hl.1 Y_L_up (c_L_up hA e32) ⟨rfl, rfl⟩ q302 ⟨Nat.le_of_ble_eq_true rfl, Nat.le_of_ble_eq_true rfl⟩ rfl rfl (Nat.le_of_ble_eq_true rfl) dL_steps_141) hS (fun H locs hP hS => ?_)
    refine lv_iload_n hx hb dL_steps_144 rfl (lv_at hl 3 rfl) ?_
    obtain ⟨r36, I35, e34, h⟩ := ob2_some h
    refine j_i (j_runV (rest := []) hX hP hl.1 Y_X7_open cok5 (lt157 sl_145) sk_145 (c_X7_open hA e34) ⟨rfl, rfl⟩ q453 ⟨Nat.le_of_ble_eq_true rfl, Nat.le_of_ble_eq_true rfl⟩ rfl rfl (Nat.le_of_ble_eq_true rfl) dL_steps_145) hS (fun H locs hP hS => ?_)
    refine lv_bipush (v := (-2)) hx hb dL_steps_148 kc_bm2 ?_
    refine x_icmp_lt (tgt := 157) hx hb dL_steps_150 (by decide) h (fun c37 h => ?_) (fun c37 h => ?_)
    · refine lv_iconst (v := 0) hx hb dL_steps_157 kc_i0 ?_
      exact t_L_steps_b158 hX hr hlk  _ _ h _ _ _ hP hS (lv_sub hl [] rfl)
    · refine lv_iconst (v := 1) hx hb dL_steps_153 kc_i1 ?_
      refine lv_goto (tgt := 158) hx hb dL_steps_154 (by decide) ?_
      exact t_L_steps_b158 hX hr hlk  _ _ h _ _ _ hP hS (lv_sub hl [] rfl)
  rw [if_neg c38] at h
  by_cases c46 : r2 = 6
  · rw [if_pos c46] at h
    refine lv_tableIn (tgt := 159) hx hb dL_steps_6 (by rw [c46]; decide) (by rw [c46]; decide) (by rw [c46]; rfl) (by decide) ?_
    refine lv_aload_n hx hb dL_steps_159 rfl (lv_at hl 0 rfl) ?_
    refine lv_iload_n hx hb dL_steps_160 rfl (lv_at hl 1 rfl) ?_
    refine lv_iload_n hx hb dL_steps_161 rfl (lv_at hl 3 rfl) ?_
    refine lv_iconst (v := 4) hx hb dL_steps_162 kc_i4 ?_
    refine lv_ishr hx hb dL_steps_163 ?_
    refine x_let h (fun x39 h => ?_)
    refine lv_iconst (v := 4) hx hb dL_steps_164 kc_i4 ?_
    obtain ⟨r41, e40, h⟩ := ob1_some h
    refine j_i (j_runS (rest := [.int v1, .ref (ad 145)]) hX hP hl.1 Y_L_up (c_L_up hA e40) ⟨rfl, rfl⟩ q302 ⟨Nat.le_of_ble_eq_true rfl, Nat.le_of_ble_eq_true rfl⟩ rfl rfl (Nat.le_of_ble_eq_true rfl) dL_steps_165) hS (fun H locs hP hS => ?_)
    obtain ⟨r44, I43, e42, h⟩ := ob2_some h
    refine j_i (j_runV (rest := []) hX hP hl.1 Y_X7_behave cok5 (lt157 sl_145) sk_145 (c_X7_behave hA e42) ⟨rfl, rfl⟩ q351 ⟨Nat.le_of_ble_eq_true rfl, Nat.le_of_ble_eq_true rfl⟩ rfl rfl (Nat.le_of_ble_eq_true rfl) dL_steps_168) hS (fun H locs hP hS => ?_)
    refine x_if_lt (tgt := 178) hx hb dL_steps_171 (by decide) h (fun c45 h => ?_) (fun c45 h => ?_)
    · refine lv_iconst (v := 0) hx hb dL_steps_178 kc_i0 ?_
      exact t_L_steps_b179 hX hr hlk  _ _ h _ _ _ hP hS (lv_sub hl [] rfl)
    · refine lv_iconst (v := 1) hx hb dL_steps_174 kc_i1 ?_
      refine lv_goto (tgt := 179) hx hb dL_steps_175 (by decide) ?_
      exact t_L_steps_b179 hX hr hlk  _ _ h _ _ _ hP hS (lv_sub hl [] rfl)
  rw [if_neg c46] at h
  by_cases c50 : r2 = 7
  · rw [if_pos c50] at h
    refine lv_tableIn (tgt := 180) hx hb dL_steps_6 (by rw [c50]; decide) (by rw [c50]; decide) (by rw [c50]; rfl) (by decide) ?_
    refine lv_aload_n hx hb dL_steps_180 rfl (lv_at hl 0 rfl) ?_
    refine lv_iload_n hx hb dL_steps_181 rfl (lv_at hl 3 rfl) ?_
    refine lv_iconst (v := 5) hx hb dL_steps_182 kc_i5 ?_
    refine lv_ishr hx hb dL_steps_183 ?_
    obtain ⟨r49, I48, e47, h⟩ := ob2_some h
    refine j_i (j_runS (rest := []) hX hP hl.1 Y_L_coalitions (c_L_coalitions hA e47) ⟨rfl, rfl⟩ q676 ⟨Nat.le_of_ble_eq_true rfl, Nat.le_of_ble_eq_true rfl⟩ rfl rfl (Nat.le_of_ble_eq_true rfl) dL_steps_184) hS (fun H locs hP hS => ?_)
    obtain ⟨gz, h⟩ := ck_some h
    cases h
    exact j_zret hX hr hlk hP hS (isB_or gz) dL_steps_187
  rw [if_neg c50] at h
  by_cases c54 : r2 = 8
  · rw [if_pos c54] at h
    refine lv_tableIn (tgt := 188) hx hb dL_steps_6 (by rw [c54]; decide) (by rw [c54]; decide) (by rw [c54]; rfl) (by decide) ?_
    refine lv_aload_n hx hb dL_steps_188 rfl (lv_at hl 0 rfl) ?_
    refine lv_iload hx hb dL_steps_189 (lv_at hl 4 rfl) ?_
    obtain ⟨r53, I52, e51, h⟩ := ob2_some h
    refine j_i (j_runS (rest := []) hX hP hl.1 Y_L_fails (c_L_fails hA e51) ⟨rfl, rfl⟩ q306 ⟨Nat.le_of_ble_eq_true rfl, Nat.le_of_ble_eq_true rfl⟩ rfl rfl (Nat.le_of_ble_eq_true rfl) dL_steps_191) hS (fun H locs hP hS => ?_)
    obtain ⟨gz, h⟩ := ck_some h
    cases h
    exact j_zret hX hr hlk hP hS (isB_or gz) dL_steps_194
  rw [if_neg c54] at h
  by_cases c76 : r2 = 9
  · rw [if_pos c76] at h
    refine lv_tableIn (tgt := 195) hx hb dL_steps_6 (by rw [c76]; decide) (by rw [c76]; decide) (by rw [c76]; rfl) (by decide) ?_
    refine lv_aload_n hx hb dL_steps_195 rfl (lv_at hl 0 rfl) ?_
    refine lv_iload_n hx hb dL_steps_196 rfl (lv_at hl 3 rfl) ?_
    refine lv_iconst (v := 4) hx hb dL_steps_197 kc_i4 ?_
    refine lv_ishr hx hb dL_steps_198 ?_
    refine x_let h (fun x55 h => ?_)
    refine lv_iconst (v := 3) hx hb dL_steps_199 kc_i3 ?_
    obtain ⟨r57, e56, h⟩ := ob1_some h
    refine j_i (j_runS (rest := [.ref (ad 145)]) hX hP hl.1 Y_L_up (c_L_up hA e56) ⟨rfl, rfl⟩ q302 ⟨Nat.le_of_ble_eq_true rfl, Nat.le_of_ble_eq_true rfl⟩ rfl rfl (Nat.le_of_ble_eq_true rfl) dL_steps_200) hS (fun H locs hP hS => ?_)
    obtain ⟨r60, I59, e58, h⟩ := ob2_some h
    refine j_i (j_runV (rest := []) hX hP hl.1 Y_X7_setMethod cok5 (lt157 sl_145) sk_145 (c_X7_setMethod hA e58) ⟨rfl, rfl⟩ q355 ⟨Nat.le_of_ble_eq_true rfl, Nat.le_of_ble_eq_true rfl⟩ rfl rfl (Nat.le_of_ble_eq_true rfl) dL_steps_203) hS (fun H locs hP hS => ?_)
    refine lv_bipush (v := (-2)) hx hb dL_steps_206 kc_bm2 ?_
    refine x_icmp_lt (tgt := 255) hx hb dL_steps_208 (by decide) h (fun c61 h => ?_) (fun c61 h => ?_)
    · exact t_L_steps_b255 hX hr hlk  _ h _ _ _ hP hS (lv_sub hl [] rfl)
    · refine lv_aload_n hx hb dL_steps_211 rfl (lv_at hl 0 rfl) ?_
      refine lv_iconst (v := 1) hx hb dL_steps_212 kc_i1 ?_
      refine lv_iload_n hx hb dL_steps_213 rfl (lv_at hl 3 rfl) ?_
      refine lv_bipush (v := 6) hx hb dL_steps_214 kc_b6 ?_
      refine lv_ishr hx hb dL_steps_216 ?_
      refine x_let h (fun x62 h => ?_)
      refine lv_bipush (v := 8) hx hb dL_steps_217 kc_b8 ?_
      obtain ⟨r64, e63, h⟩ := ob1_some h
      refine j_i (j_runS (rest := [.int 1, .ref (ad 145)]) hX hP hl.1 Y_L_up (c_L_up hA e63) ⟨rfl, rfl⟩ q302 ⟨Nat.le_of_ble_eq_true rfl, Nat.le_of_ble_eq_true rfl⟩ rfl rfl (Nat.le_of_ble_eq_true rfl) dL_steps_219) hS (fun H locs hP hS => ?_)
      refine lv_iadd hx hb dL_steps_222 ?_
      obtain ⟨r67, I66, e65, h⟩ := ob2_some h
      refine j_i (j_runV (rest := []) hX hP hl.1 Y_X7_setThreshold cok5 (lt157 sl_145) sk_145 (c_X7_setThreshold hA e65) ⟨rfl, rfl⟩ q359 ⟨Nat.le_of_ble_eq_true rfl, Nat.le_of_ble_eq_true rfl⟩ rfl rfl (Nat.le_of_ble_eq_true rfl) dL_steps_223) hS (fun H locs hP hS => ?_)
      refine lv_bipush (v := (-2)) hx hb dL_steps_226 kc_bm2 ?_
      refine x_icmp_lt (tgt := 255) hx hb dL_steps_228 (by decide) h (fun c68 h => ?_) (fun c68 h => ?_)
      · exact t_L_steps_b255 hX hr hlk  _ h _ _ _ hP hS (lv_sub hl [] rfl)
      · refine lv_aload_n hx hb dL_steps_231 rfl (lv_at hl 0 rfl) ?_
        refine lv_iconst (v := 1) hx hb dL_steps_232 kc_i1 ?_
        refine lv_iload_n hx hb dL_steps_233 rfl (lv_at hl 3 rfl) ?_
        refine lv_bipush (v := 9) hx hb dL_steps_234 kc_b9 ?_
        refine lv_ishr hx hb dL_steps_236 ?_
        refine x_let h (fun x69 h => ?_)
        refine lv_bipush (v := 60) hx hb dL_steps_237 kc_b60 ?_
        obtain ⟨r71, e70, h⟩ := ob1_some h
        refine j_i (j_runS (rest := [.int 1, .ref (ad 145)]) hX hP hl.1 Y_L_up (c_L_up hA e70) ⟨rfl, rfl⟩ q302 ⟨Nat.le_of_ble_eq_true rfl, Nat.le_of_ble_eq_true rfl⟩ rfl rfl (Nat.le_of_ble_eq_true rfl) dL_steps_239) hS (fun H locs hP hS => ?_)
        refine lv_iadd hx hb dL_steps_242 ?_
        obtain ⟨r74, I73, e72, h⟩ := ob2_some h
        refine j_i (j_runV (rest := []) hX hP hl.1 Y_X7_setDelay cok5 (lt157 sl_145) sk_145 (c_X7_setDelay hA e72) ⟨rfl, rfl⟩ q363 ⟨Nat.le_of_ble_eq_true rfl, Nat.le_of_ble_eq_true rfl⟩ rfl rfl (Nat.le_of_ble_eq_true rfl) dL_steps_243) hS (fun H locs hP hS => ?_)
        refine lv_bipush (v := (-2)) hx hb dL_steps_246 kc_bm2 ?_
        refine x_icmp_lt (tgt := 255) hx hb dL_steps_248 (by decide) h (fun c75 h => ?_) (fun c75 h => ?_)
        · exact t_L_steps_b255 hX hr hlk  _ h _ _ _ hP hS (lv_sub hl [] rfl)
        · refine lv_iconst (v := 1) hx hb dL_steps_251 kc_i1 ?_
          refine lv_goto (tgt := 256) hx hb dL_steps_252 (by decide) ?_
          exact t_L_steps_b256 hX hr hlk  _ _ h _ _ _ hP hS (lv_sub hl [] rfl)
  rw [if_neg c76] at h
  refine lv_tableOut (tgt := 257) hx hb dL_steps_6 (sw_out10 c10 c15 c20 c24 c30 c38 c46 c50 c54 c76) (by decide) ?_
  refine lv_aload_n hx hb dL_steps_257 rfl (lv_at hl 0 rfl) ?_
  refine lv_iload_n hx hb dL_steps_258 rfl (lv_at hl 1 rfl) ?_
  refine lv_iload_n hx hb dL_steps_259 rfl (lv_at hl 3 rfl) ?_
  obtain ⟨r5, I4, e3, h⟩ := ob2_some h
  refine j_i (j_runS (rest := []) hX hP hl.1 Y_L_commits (c_L_commits hA e3) ⟨rfl, rfl⟩ q679 ⟨Nat.le_of_ble_eq_true rfl, Nat.le_of_ble_eq_true rfl⟩ rfl rfl (Nat.le_of_ble_eq_true rfl) dL_steps_260) hS (fun H locs hP hS => ?_)
  obtain ⟨gz, h⟩ := ck_some h
  cases h
  exact j_zret hX hr hlk hP hS (isB_or gz) dL_steps_263
