/-! OwnerlessCoin$Coalition.add(I)V -/
def rm_X1_add : Room := { frames := 0, cells := 0, slots := 0, locals := 0 }
theorem Y_X1_add : yv yX1_add cX1_add 3 none 1 RX1 := ⟨q487, q486, q4, q17, by decide +kernel⟩
set_option maxHeartbeats 4000000 in
set_option maxRecDepth 100000 in
theorem t_X1_add_b87 {p : Program} {l : Launch} {e : Env} {s : State} {m : MethodId} {args : Array Value} {below : List Frame} {meth : Method} {c : Code} {D : va_G} {tc : Tc} {ad : Nat → Nat} {A : Nat → Prop} {M : St} {II : St} (hX : cx p s m args c cX1_add 3 RX1 D tc ad A) (hr : meth.sig.returnType = none) (hlk : meth.locks = false) : ∀ (I : St), f_X1_add_b87 I = some II → ∀ (H : Heap) (locs : List Loc) (ls : Array Slot), va_P D vwCl (wl tc ad (cmb I M)) H → va_S A s.heap H locs → lv_has ls 3 [] → W p l e rm_X1_add s m args below meth c H locs 0 0 (MQ below (qv D tc ad A (cmb II M)) args s 0 0 A) (F0 m 87 ls []) := by
  intro I h H locs ls hP hS hl
  unfold f_X1_add_b87 at h
  have hx := hX.1
  have hb := hX.2.1
  have hown := hX.2.2.2.1
  have hts := hX.2.2.2.2.1
  have hA := hX.2.2.2.2.2.2
  cases h
  exact j_vret hX hr hlk hP hS dX1_add_87
set_option maxHeartbeats 4000000 in
set_option maxRecDepth 100000 in
theorem t_X1_add_b50 {p : Program} {l : Launch} {e : Env} {s : State} {m : MethodId} {args : Array Value} {below : List Frame} {meth : Method} {c : Code} {D : va_G} {tc : Tc} {ad : Nat → Nat} {A : Nat → Prop} {M : St} {II : St} (hX : cx p s m args c cX1_add 3 RX1 D tc ad A) (hr : meth.sig.returnType = none) (hlk : meth.locks = false) : ∀ (v1 : Int32) (t0 : Int32) (I : St), f_X1_add_b50 v1 t0 I = some II → ∀ (H : Heap) (locs : List Loc) (ls : Array Slot), va_P D vwCl (wl tc ad (cmb I M)) H → va_S A s.heap H locs → lv_has ls 3 [(0, .ref (ad 148)), (1, .int v1)] → W p l e rm_X1_add s m args below meth c H locs 0 0 (MQ below (qv D tc ad A (cmb II M)) args s 0 0 A) (F0 m 50 ls [.int t0]) := by
  intro v1 t0 I h H locs ls hP hS hl
  unfold f_X1_add_b50 at h
  have hx := hX.1
  have hb := hX.2.1
  have hown := hX.2.2.2.1
  have hts := hX.2.2.2.2.1
  have hA := hX.2.2.2.2.2.2
  refine lv_istore_n (lv' := [(2, .int t0), (0, .ref (ad 148)), (1, .int v1)]) hx hb dX1_add_50 rfl hl (Nat.le_of_ble_eq_true rfl) rfl (fun ls hl => ?_)
  refine lv_iload_n hx hb dX1_add_51 rfl (lv_at hl 0 rfl) ?_
  refine x_if_ne (tgt := 87) hx hb dX1_add_52 (by decide) h (fun c1 h => ?_) (fun c1 h => ?_)
  · exact t_X1_add_b87 hX hr hlk  _ h _ _ _ hP hS (lv_sub hl [] rfl)
  · refine lv_aload_n hx hb dX1_add_55 rfl (lv_at hl 1 rfl) ?_
    refine r_get hX hP cok1 3 sl_148 sk_148 (by decide) rfl q230 dX1_add_56 ?_
    refine x_let h (fun x2 h => ?_)
    refine lv_aload_n hx hb dX1_add_59 rfl (lv_at hl 1 rfl) ?_
    refine r_getq (t := 149) hX hP cok1 0 sl_148 sk_148 (by decide) rfl q227 dX1_add_60 ?_
    refine j_len (v := 256) hX hP (lt157 sl_149) sk_149 sn_149 (by decide) dX1_add_63 ?_
    refine x_icmp_ge (tgt := 87) hx hb dX1_add_64 (by decide) h (fun c3 h => ?_) (fun c3 h => ?_)
    · exact t_X1_add_b87 hX hr hlk  _ h _ _ _ hP hS (lv_sub hl [] rfl)
    · refine lv_aload_n hx hb dX1_add_67 rfl (lv_at hl 1 rfl) ?_
      refine r_getq (t := 149) hX hP cok1 0 sl_148 sk_148 (by decide) rfl q227 dX1_add_68 ?_
      refine lv_aload_n hx hb dX1_add_71 rfl (lv_at hl 1 rfl) ?_
      refine r_get hX hP cok1 3 sl_148 sk_148 (by decide) rfl q230 dX1_add_72 ?_
      refine x_let h (fun x4 h => ?_)
      refine lv_iload_n hx hb dX1_add_75 rfl (lv_at hl 2 rfl) ?_
      refine r_ast hX hP hS h sl_149 sk_149 sn_149 dX1_add_76 (fun I5 H locs h hP hS => ?_)
      refine lv_aload_n hx hb dX1_add_77 rfl (lv_at hl 1 rfl) ?_
      refine lv_dup hx hb dX1_add_78 rfl ?_
      refine r_get hX hP cok1 3 sl_148 sk_148 (by decide) rfl q230 dX1_add_79 ?_
      refine x_let h (fun x6 h => ?_)
      refine lv_iconst (v := 1) hx hb dX1_add_82 kc_i1 ?_
      refine lv_iadd hx hb dX1_add_83 ?_
      refine r_put hX hP hS cok1 3 h sl_148 sk_148 (by decide) rfl rfl q230 rfl dX1_add_84 (fun I7 H locs h hP hS => ?_)
      exact t_X1_add_b87 hX hr hlk  _ h _ _ _ hP hS (lv_sub hl [] rfl)
set_option maxHeartbeats 4000000 in
set_option maxRecDepth 100000 in
theorem t_X1_add_b49 {p : Program} {l : Launch} {e : Env} {s : State} {m : MethodId} {args : Array Value} {below : List Frame} {meth : Method} {c : Code} {D : va_G} {tc : Tc} {ad : Nat → Nat} {A : Nat → Prop} {M : St} {II : St} (hX : cx p s m args c cX1_add 3 RX1 D tc ad A) (hr : meth.sig.returnType = none) (hlk : meth.locks = false) : ∀ (v1 : Int32) (I : St), f_X1_add_b49 v1 I = some II → ∀ (H : Heap) (locs : List Loc) (ls : Array Slot), va_P D vwCl (wl tc ad (cmb I M)) H → va_S A s.heap H locs → lv_has ls 3 [(0, .ref (ad 148)), (1, .int v1)] → W p l e rm_X1_add s m args below meth c H locs 0 0 (MQ below (qv D tc ad A (cmb II M)) args s 0 0 A) (F0 m 49 ls []) := by
  intro v1 I h H locs ls hP hS hl
  unfold f_X1_add_b49 at h
  have hx := hX.1
  have hb := hX.2.1
  have hown := hX.2.2.2.1
  have hts := hX.2.2.2.2.1
  have hA := hX.2.2.2.2.2.2
  refine lv_iconst (v := 0) hx hb dX1_add_49 kc_i0 ?_
  exact t_X1_add_b50 hX hr hlk  _ _ _ h _ _ _ hP hS (lv_sub hl [0, 1] rfl)
set_option maxHeartbeats 4000000 in
set_option maxRecDepth 100000 in
theorem c_X1_add {l : Launch} {D : va_G} {tc : Tc} {ad : Nat → Nat} {A : Nat → Prop} (hA : adok ad A) {I M : St} {v1 : Int32} {II : St} (h : f_X1_add v1 I = some II) : Met l yX1_add (Cond.code yX1_add cX1_add 3 none :: tw) rm_X1_add (pre D tc ad [.ref (ad 148), .int v1] (cmb I M)) (qv D tc ad A (cmb II M)) 0 0 A := by
  unfold f_X1_add at h
  refine mk_met (own := RX1) (by decide +kernel) rfl hA (Nat.le_of_ble_eq_true rfl) ?_
  intro p e s m below meth c ls hX hr hlk hl hP hS
  have hl : lv_has ls 3 [(0, .ref (ad 148)), (1, .int v1)] := hl
  have hx := hX.1
  have hb := hX.2.1
  have hown := hX.2.2.2.1
  have hts := hX.2.2.2.2.1
  refine lv_iload_n hx hb dX1_add_0 rfl (lv_at hl 1 rfl) ?_
  refine lv_iconst (v := (-1)) hx hb dX1_add_1 kc_im1 ?_
  refine x_icmp_ne (tgt := 11) hx hb dX1_add_2 (by decide) h (fun c8 h => ?_) (fun c8 h => ?_)
  · refine lv_aload_n hx hb dX1_add_11 rfl (lv_at hl 0 rfl) ?_
    refine r_get hX hP cok1 3 sl_148 sk_148 (by decide) rfl q230 dX1_add_12 ?_
    refine x_if_le (tgt := 49) hx hb dX1_add_15 (by decide) h (fun c9 h => ?_) (fun c9 h => ?_)
    · exact t_X1_add_b49 hX hr hlk  _ _ h _ _ _ hP hS (lv_sub hl [0, 1] rfl)
    · refine lv_aload_n hx hb dX1_add_18 rfl (lv_at hl 0 rfl) ?_
      refine r_get hX hP cok1 3 sl_148 sk_148 (by decide) rfl q230 dX1_add_19 ?_
      refine x_let h (fun x10 h => ?_)
      refine lv_aload_n hx hb dX1_add_22 rfl (lv_at hl 0 rfl) ?_
      refine r_getq (t := 149) hX hP cok1 0 sl_148 sk_148 (by decide) rfl q227 dX1_add_23 ?_
      refine j_len (v := 256) hX hP (lt157 sl_149) sk_149 sn_149 (by decide) dX1_add_26 ?_
      refine x_icmp_gt (tgt := 49) hx hb dX1_add_27 (by decide) h (fun c11 h => ?_) (fun c11 h => ?_)
      · exact t_X1_add_b49 hX hr hlk  _ _ h _ _ _ hP hS (lv_sub hl [0, 1] rfl)
      · refine lv_aload_n hx hb dX1_add_30 rfl (lv_at hl 0 rfl) ?_
        refine r_getq (t := 149) hX hP cok1 0 sl_148 sk_148 (by decide) rfl q227 dX1_add_31 ?_
        refine lv_aload_n hx hb dX1_add_34 rfl (lv_at hl 0 rfl) ?_
        refine r_get hX hP cok1 3 sl_148 sk_148 (by decide) rfl q230 dX1_add_35 ?_
        refine x_let h (fun x12 h => ?_)
        refine lv_iconst (v := 1) hx hb dX1_add_38 kc_i1 ?_
        refine lv_isub hx hb dX1_add_39 ?_
        refine x_let h (fun x13 h => ?_)
        refine r_ald hX hP h sl_149 sk_149 sn_149 dX1_add_40 (fun h => ?_)
        refine x_let h (fun x14 h => ?_)
        refine lv_iload_n hx hb dX1_add_41 rfl (lv_at hl 1 rfl) ?_
        refine x_icmp_ne (tgt := 49) hx hb dX1_add_42 (by decide) h (fun c15 h => ?_) (fun c15 h => ?_)
        · exact t_X1_add_b49 hX hr hlk  _ _ h _ _ _ hP hS (lv_sub hl [0, 1] rfl)
        · refine lv_iconst (v := 1) hx hb dX1_add_45 kc_i1 ?_
          refine lv_goto (tgt := 50) hx hb dX1_add_46 (by decide) ?_
          exact t_X1_add_b50 hX hr hlk  _ _ _ h _ _ _ hP hS (lv_sub hl [0, 1] rfl)
  · refine lv_aload_n hx hb dX1_add_5 rfl (lv_at hl 0 rfl) ?_
    refine lv_iconst (v := 1) hx hb dX1_add_6 kc_i1 ?_
    refine r_putZ hX hP hS cok1 4 (Or.inr rfl) h sl_148 sk_148 (by decide) rfl rfl q231 rfl dX1_add_7 (fun I16 H locs h hP hS => ?_)
    cases h
    exact j_vret hX hr hlk hP hS dX1_add_10
/-! OwnerlessCoin$Coalition.gather(LOwnerlessCoin$Lab;I)V -/
def rm_X1_gather : Room := { frames := 3, cells := 0, slots := 0, locals := 64 }
theorem Y_X1_gather : yv yX1_gather cX1_gather 5 none 2 RX1 := ⟨q469, q467, q468, q17, by decide +kernel⟩
set_option maxHeartbeats 4000000 in
set_option maxRecDepth 100000 in
theorem t_X1_gather_b51 {p : Program} {l : Launch} {e : Env} {s : State} {m : MethodId} {args : Array Value} {below : List Frame} {meth : Method} {c : Code} {D : va_G} {tc : Tc} {ad : Nat → Nat} {A : Nat → Prop} {M : St} {II : St} (hX : cx p s m args c cX1_gather 5 RX1 D tc ad A) (hr : meth.sig.returnType = none) (hlk : meth.locks = false) {K22 : Int32 → Int32 → Int32 → St → Option (St)} (hK22 : ∀ (v2 : Int32) (v3 : Int32) (v4 : Int32) (I : St), K22 v2 v3 v4 I = some II → ∀ (H : Heap) (locs : List Loc) (ls : Array Slot), va_P D vwCl (wl tc ad (cmb I M)) H → va_S A s.heap H locs → lv_has ls 5 [(0, .ref (ad 148)), (1, .ref (ad 0)), (2, .int v2), (3, .int v3), (4, .int v4)] → W p l e rm_X1_gather s m args below meth c H locs 0 0 (MQ below (qv D tc ad A (cmb II M)) args s 0 0 A) (F0 m 22 ls [])) : ∀ (v2 : Int32) (v3 : Int32) (v4 : Int32) (I : St), f_X1_gather_b51 K22 v2 v3 v4 I = some II → ∀ (H : Heap) (locs : List Loc) (ls : Array Slot), va_P D vwCl (wl tc ad (cmb I M)) H → va_S A s.heap H locs → lv_has ls 5 [(0, .ref (ad 148)), (1, .ref (ad 0)), (2, .int v2), (3, .int v3), (4, .int v4)] → W p l e rm_X1_gather s m args below meth c H locs 0 0 (MQ below (qv D tc ad A (cmb II M)) args s 0 0 A) (F0 m 51 ls []) := by
  intro v2 v3 v4 I h H locs ls hP hS hl
  unfold f_X1_gather_b51 at h
  have hx := hX.1
  have hb := hX.2.1
  have hown := hX.2.2.2.1
  have hts := hX.2.2.2.2.1
  have hA := hX.2.2.2.2.2.2
  refine lv_iinc (v := (v4 + 1)) (lv' := [(4, .int (v4 + 1)), (0, .ref (ad 148)), (1, .ref (ad 0)), (2, .int v2), (3, .int v3)]) hx hb dX1_gather_51 hl (k := 4) rfl rfl (Nat.le_of_ble_eq_true rfl) rfl (fun ls hl => ?_)
  refine lv_goto (tgt := 22) hx hb dX1_gather_54 (by decide) ?_
  exact hK22 _ _ _ _ h _ _ _ hP hS (lv_sub hl [1, 2, 3, 4, 0] rfl)
set_option maxHeartbeats 4000000 in
set_option maxRecDepth 100000 in
theorem t_X1_gather_l22 {p : Program} {l : Launch} {e : Env} {s : State} {m : MethodId} {args : Array Value} {below : List Frame} {meth : Method} {c : Code} {D : va_G} {tc : Tc} {ad : Nat → Nat} {A : Nat → Prop} {M : St} {II : St} (hX : cx p s m args c cX1_gather 5 RX1 D tc ad A) (hr : meth.sig.returnType = none) (hlk : meth.locks = false) : ∀ (n : Nat), ∀ (v2 : Int32) (v3 : Int32) (v4 : Int32) (I : St), f_X1_gather_l22 n v2 v3 v4 I = some II → ∀ (H : Heap) (locs : List Loc) (ls : Array Slot), va_P D vwCl (wl tc ad (cmb I M)) H → va_S A s.heap H locs → lv_has ls 5 [(0, .ref (ad 148)), (1, .ref (ad 0)), (2, .int v2), (3, .int v3), (4, .int v4)] → W p l e rm_X1_gather s m args below meth c H locs 0 0 (MQ below (qv D tc ad A (cmb II M)) args s 0 0 A) (F0 m 22 ls []) := by
  intro n
  induction n with
  | zero =>
    intro _ _ _ _ h
    cases h
  | succ n ih =>
    intro v2 v3 v4 I h H locs ls hP hS hl
    rw [f_X1_gather_l22] at h
    have hx := hX.1
    have hb := hX.2.1
    have hown := hX.2.2.2.1
    have hts := hX.2.2.2.2.1
    have hA := hX.2.2.2.2.2.2
    refine lv_iload hx hb dX1_gather_22 (lv_at hl 4 rfl) ?_
    refine lv_sipush (v := 256) hx hb dX1_gather_24 kc_s256 ?_
    refine x_icmp_ge (tgt := 57) hx hb dX1_gather_27 (by decide) h (fun c1 h => ?_) (fun c1 h => ?_)
    · cases h
      exact j_vret hX hr hlk hP hS dX1_gather_57
    · refine lv_iload hx hb dX1_gather_30 (lv_at hl 4 rfl) ?_
      refine lv_iload_n hx hb dX1_gather_32 rfl (lv_at hl 2 rfl) ?_
      refine lv_iconst (v := (-1)) hx hb dX1_gather_33 kc_im1 ?_
      refine lv_ixor hx hb dX1_gather_34 ?_
      refine lv_iand hx hb dX1_gather_35 ?_
      refine x_if_ne (tgt := 51) hx hb dX1_gather_36 (by decide) h (fun c2 h => ?_) (fun c2 h => ?_)
      · exact t_X1_gather_b51 hX hr hlk ih _ _ _ _ h _ _ _ hP hS (lv_sub hl [0, 1, 2, 3, 4] rfl)
      · refine lv_aload_n hx hb dX1_gather_39 rfl (lv_at hl 0 rfl) ?_
        refine lv_aload_n hx hb dX1_gather_40 rfl (lv_at hl 1 rfl) ?_
        refine lv_iload_n hx hb dX1_gather_41 rfl (lv_at hl 3 rfl) ?_
        refine lv_iload hx hb dX1_gather_42 (lv_at hl 4 rfl) ?_
        refine lv_ior hx hb dX1_gather_44 ?_
        obtain ⟨r4, e3, h⟩ := ob1_some h
        refine j_i (j_runV (rest := [.ref (ad 148)]) hX hP hl.1 Y_X4_countedIf cok3 (lt157 sl_0) sk_0 (c_X4_countedIf hA e3) ⟨rfl, rfl⟩ q470 ⟨Nat.le_of_ble_eq_true rfl, Nat.le_of_ble_eq_true rfl⟩ rfl rfl (Nat.le_of_ble_eq_true rfl) dX1_gather_45) hS (fun H locs hP hS => ?_)
        obtain ⟨I6, e5, h⟩ := ob1_some h
        refine j_v (j_runV (rest := []) hX hP hl.1 Y_X1_add cok1 (lt157 sl_148) sk_148 (c_X1_add hA e5) ⟨rfl, rfl⟩ q484 ⟨Nat.le_of_ble_eq_true rfl, Nat.le_of_ble_eq_true rfl⟩ rfl rfl (Nat.le_of_ble_eq_true rfl) dX1_gather_48) hS (fun H locs hP hS => ?_)
        exact t_X1_gather_b51 hX hr hlk ih _ _ _ _ h _ _ _ hP hS (lv_sub hl [0, 1, 2, 3, 4] rfl)
set_option maxHeartbeats 4000000 in
set_option maxRecDepth 100000 in
theorem c_X1_gather {l : Launch} {D : va_G} {tc : Tc} {ad : Nat → Nat} {A : Nat → Prop} (hA : adok ad A) {I M : St} {v2 : Int32} {II : St} (h : f_X1_gather v2 I = some II) : Met l yX1_gather (Cond.code yX1_gather cX1_gather 5 none :: tw) rm_X1_gather (pre D tc ad [.ref (ad 148), .ref (ad 0), .int v2] (cmb I M)) (qv D tc ad A (cmb II M)) 0 0 A := by
  unfold f_X1_gather at h
  refine mk_met (own := RX1) (by decide +kernel) rfl hA (Nat.le_of_ble_eq_true rfl) ?_
  intro p e s m below meth c ls hX hr hlk hl hP hS
  have hl : lv_has ls 5 [(0, .ref (ad 148)), (1, .ref (ad 0)), (2, .int v2)] := hl
  have hx := hX.1
  have hb := hX.2.1
  have hown := hX.2.2.2.1
  have hts := hX.2.2.2.2.1
  refine lv_aload_n hx hb dX1_gather_0 rfl (lv_at hl 0 rfl) ?_
  refine lv_iconst (v := 0) hx hb dX1_gather_1 kc_i0 ?_
  refine r_put hX hP hS cok1 3 h sl_148 sk_148 (by decide) rfl rfl q230 rfl dX1_gather_2 (fun I7 H locs h hP hS => ?_)
  refine lv_aload_n hx hb dX1_gather_5 rfl (lv_at hl 0 rfl) ?_
  refine lv_iconst (v := 0) hx hb dX1_gather_6 kc_i0 ?_
  refine r_putZ hX hP hS cok1 4 (Or.inl rfl) h sl_148 sk_148 (by decide) rfl rfl q231 rfl dX1_gather_7 (fun I8 H locs h hP hS => ?_)
  refine lv_aload_n hx hb dX1_gather_10 rfl (lv_at hl 1 rfl) ?_
  refine r_get hX hP cok3 10 sl_0 sk_0 (by decide) rfl q163 dX1_gather_11 ?_
  refine x_let h (fun x9 h => ?_)
  refine lv_iload_n hx hb dX1_gather_14 rfl (lv_at hl 2 rfl) ?_
  refine lv_iconst (v := (-1)) hx hb dX1_gather_15 kc_im1 ?_
  refine lv_ixor hx hb dX1_gather_16 ?_
  refine lv_iand hx hb dX1_gather_17 ?_
  refine x_let h (fun x10 h => ?_)
  refine lv_istore_n (lv' := [(3, .int x10), (0, .ref (ad 148)), (1, .ref (ad 0)), (2, .int v2)]) hx hb dX1_gather_18 rfl hl (Nat.le_of_ble_eq_true rfl) rfl (fun ls hl => ?_)
  refine lv_iconst (v := 0) hx hb dX1_gather_19 kc_i0 ?_
  refine lv_istore (lv' := [(4, .int 0), (3, .int x10), (0, .ref (ad 148)), (1, .ref (ad 0)), (2, .int v2)]) hx hb dX1_gather_20 hl (Nat.le_of_ble_eq_true rfl) rfl (fun ls hl => ?_)
  exact t_X1_gather_l22 hX hr hlk  10000 _ _ _ _ h _ _ _ hP hS (lv_sub hl [2, 3, 4, 1, 0] rfl)
/-! OwnerlessCoin$Coalition.isNew(I)Z -/
def rm_X1_isNew : Room := { frames := 0, cells := 0, slots := 0, locals := 0 }
theorem Y_X1_isNew : yv yX1_isNew cX1_isNew 3 (some .boolean) 1 RX1 := ⟨q499, q498, q5, q17, by decide +kernel⟩
set_option maxHeartbeats 4000000 in
set_option maxRecDepth 100000 in
theorem t_X1_isNew_l2 {p : Program} {l : Launch} {e : Env} {s : State} {m : MethodId} {args : Array Value} {below : List Frame} {meth : Method} {c : Code} {D : va_G} {tc : Tc} {ad : Nat → Nat} {A : Nat → Prop} {M : St} {rr : Int32} (hX : cx p s m args c cX1_isNew 3 RX1 D tc ad A) (hr : meth.sig.returnType = some .boolean) (hlk : meth.locks = false) : ∀ (n : Nat), ∀ (v1 : Int32) (v2 : Int32) (I : St), f_X1_isNew_l2 n v1 v2 I = some rr → ∀ (H : Heap) (locs : List Loc) (ls : Array Slot), va_P D vwCl (wl tc ad (cmb I M)) H → va_S A s.heap H locs → lv_has ls 3 [(0, .ref (ad 148)), (1, .int v1), (2, .int v2)] → W p l e rm_X1_isNew s m args below meth c H locs 0 0 (MQ below (qi D tc ad A rr (cmb I M)) args s 0 0 A) (F0 m 2 ls []) := by
  intro n
  induction n with
  | zero =>
    intro _ _ _ h
    cases h
  | succ n ih =>
    intro v1 v2 I h H locs ls hP hS hl
    rw [f_X1_isNew_l2] at h
    have hx := hX.1
    have hb := hX.2.1
    have hown := hX.2.2.2.1
    have hts := hX.2.2.2.2.1
    have hA := hX.2.2.2.2.2.2
    refine lv_iload_n hx hb dX1_isNew_2 rfl (lv_at hl 2 rfl) ?_
    refine lv_iload_n hx hb dX1_isNew_3 rfl (lv_at hl 1 rfl) ?_
    refine x_icmp_ge (tgt := 30) hx hb dX1_isNew_4 (by decide) h (fun c1 h => ?_) (fun c1 h => ?_)
    · refine lv_iconst (v := 1) hx hb dX1_isNew_30 kc_i1 ?_
      cases h
      exact j_zret hX hr hlk hP hS (Or.inr rfl) dX1_isNew_31
    · refine lv_aload_n hx hb dX1_isNew_7 rfl (lv_at hl 0 rfl) ?_
      refine r_getq (t := 150) hX hP cok1 1 sl_148 sk_148 (by decide) rfl q228 dX1_isNew_8 ?_
      refine lv_iload_n hx hb dX1_isNew_11 rfl (lv_at hl 2 rfl) ?_
      refine r_ald hX hP h sl_150 sk_150 sn_150 dX1_isNew_12 (fun h => ?_)
      refine x_let h (fun x2 h => ?_)
      refine lv_aload_n hx hb dX1_isNew_13 rfl (lv_at hl 0 rfl) ?_
      refine r_getq (t := 150) hX hP cok1 1 sl_148 sk_148 (by decide) rfl q228 dX1_isNew_14 ?_
      refine lv_iload_n hx hb dX1_isNew_17 rfl (lv_at hl 1 rfl) ?_
      refine r_ald hX hP h sl_150 sk_150 sn_150 dX1_isNew_18 (fun h => ?_)
      refine x_icmp_ne (tgt := 24) hx hb dX1_isNew_19 (by decide) h (fun c3 h => ?_) (fun c3 h => ?_)
      · refine lv_iinc (v := (v2 + 1)) (lv' := [(2, .int (v2 + 1)), (0, .ref (ad 148)), (1, .int v1)]) hx hb dX1_isNew_24 hl (k := 2) rfl rfl (Nat.le_of_ble_eq_true rfl) rfl (fun ls hl => ?_)
        refine lv_goto (tgt := 2) hx hb dX1_isNew_27 (by decide) ?_
        exact ih _ _ _ h _ _ _ hP hS (lv_sub hl [1, 2, 0] rfl)
      · refine lv_iconst (v := 0) hx hb dX1_isNew_22 kc_i0 ?_
        cases h
        exact j_zret hX hr hlk hP hS (Or.inl rfl) dX1_isNew_23
set_option maxHeartbeats 4000000 in
set_option maxRecDepth 100000 in
theorem c_X1_isNew {l : Launch} {D : va_G} {tc : Tc} {ad : Nat → Nat} {A : Nat → Prop} (hA : adok ad A) {I M : St} {v1 : Int32} {rr : Int32} (h : f_X1_isNew v1 I = some rr) : Met l yX1_isNew (Cond.code yX1_isNew cX1_isNew 3 (some .boolean) :: tw) rm_X1_isNew (pre D tc ad [.ref (ad 148), .int v1] (cmb I M)) (qi D tc ad A rr (cmb I M)) 0 0 A := by
  unfold f_X1_isNew at h
  refine mk_met (own := RX1) (by decide +kernel) rfl hA (Nat.le_of_ble_eq_true rfl) ?_
  intro p e s m below meth c ls hX hr hlk hl hP hS
  have hl : lv_has ls 3 [(0, .ref (ad 148)), (1, .int v1)] := hl
  have hx := hX.1
  have hb := hX.2.1
  have hown := hX.2.2.2.1
  have hts := hX.2.2.2.2.1
  refine lv_iconst (v := 0) hx hb dX1_isNew_0 kc_i0 ?_
  refine lv_istore_n (lv' := [(2, .int 0), (0, .ref (ad 148)), (1, .int v1)]) hx hb dX1_isNew_1 rfl hl (Nat.le_of_ble_eq_true rfl) rfl (fun ls hl => ?_)
  exact t_X1_isNew_l2 hX hr hlk  10000 _ _ _ h _ _ _ hP hS (lv_sub hl [1, 2, 0] rfl)
/-! OwnerlessCoin$Coalition.countResults(LOwnerlessCoin$Lab;)I -/
def rm_X1_countResults : Room := { frames := 2, cells := 0, slots := 0, locals := 46 }
theorem Y_X1_countResults : yv yX1_countResults cX1_countResults 4 (some .int) 1 RX1 := ⟨q491, q489, q490, q17, by decide +kernel⟩
set_option maxHeartbeats 4000000 in
set_option maxRecDepth 100000 in
theorem t_X1_countResults_b63 {p : Program} {l : Launch} {e : Env} {s : State} {m : MethodId} {args : Array Value} {below : List Frame} {meth : Method} {c : Code} {D : va_G} {tc : Tc} {ad : Nat → Nat} {A : Nat → Prop} {M : St} {rr : Int32} {II : St} (hX : cx p s m args c cX1_countResults 4 RX1 D tc ad A) (hr : meth.sig.returnType = some .int) (hlk : meth.locks = false) {K15 : Int32 → Int32 → St → Option (Int32 × St)} (hK15 : ∀ (v2 : Int32) (v3 : Int32) (I : St), K15 v2 v3 I = some (rr, II) → ∀ (H : Heap) (locs : List Loc) (ls : Array Slot), va_P D vwCl (wl tc ad (cmb I M)) H → va_S A s.heap H locs → lv_has ls 4 [(0, .ref (ad 148)), (1, .ref (ad 0)), (2, .int v2), (3, .int v3)] → W p l e rm_X1_countResults s m args below meth c H locs 0 0 (MQ below (qi D tc ad A rr (cmb II M)) args s 0 0 A) (F0 m 15 ls [])) : ∀ (v2 : Int32) (v3 : Int32) (I : St), f_X1_countResults_b63 K15 v2 v3 I = some (rr, II) → ∀ (H : Heap) (locs : List Loc) (ls : Array Slot), va_P D vwCl (wl tc ad (cmb I M)) H → va_S A s.heap H locs → lv_has ls 4 [(0, .ref (ad 148)), (1, .ref (ad 0)), (2, .int v2), (3, .int v3)] → W p l e rm_X1_countResults s m args below meth c H locs 0 0 (MQ below (qi D tc ad A rr (cmb II M)) args s 0 0 A) (F0 m 63 ls []) := by
  intro v2 v3 I h H locs ls hP hS hl
  unfold f_X1_countResults_b63 at h
  have hx := hX.1
  have hb := hX.2.1
  have hown := hX.2.2.2.1
  have hts := hX.2.2.2.2.1
  have hA := hX.2.2.2.2.2.2
  refine lv_iinc (v := (v3 + 1)) (lv' := [(3, .int (v3 + 1)), (0, .ref (ad 148)), (1, .ref (ad 0)), (2, .int v2)]) hx hb dX1_countResults_63 hl (k := 3) rfl rfl (Nat.le_of_ble_eq_true rfl) rfl (fun ls hl => ?_)
  refine lv_goto (tgt := 15) hx hb dX1_countResults_66 (by decide) ?_
  exact hK15 _ _ _ h _ _ _ hP hS (lv_sub hl [1, 2, 3, 0] rfl)
set_option maxHeartbeats 4000000 in
set_option maxRecDepth 100000 in
theorem t_X1_countResults_b69 {p : Program} {l : Launch} {e : Env} {s : State} {m : MethodId} {args : Array Value} {below : List Frame} {meth : Method} {c : Code} {D : va_G} {tc : Tc} {ad : Nat → Nat} {A : Nat → Prop} {M : St} {rr : Int32} {II : St} (hX : cx p s m args c cX1_countResults 4 RX1 D tc ad A) (hr : meth.sig.returnType = some .int) (hlk : meth.locks = false) : ∀ (v2 : Int32) (I : St), f_X1_countResults_b69 v2 I = some (rr, II) → ∀ (H : Heap) (locs : List Loc) (ls : Array Slot), va_P D vwCl (wl tc ad (cmb I M)) H → va_S A s.heap H locs → lv_has ls 4 [(2, .int v2)] → W p l e rm_X1_countResults s m args below meth c H locs 0 0 (MQ below (qi D tc ad A rr (cmb II M)) args s 0 0 A) (F0 m 69 ls []) := by
  intro v2 I h H locs ls hP hS hl
  unfold f_X1_countResults_b69 at h
  have hx := hX.1
  have hb := hX.2.1
  have hown := hX.2.2.2.1
  have hts := hX.2.2.2.2.1
  have hA := hX.2.2.2.2.2.2
  refine lv_iload_n hx hb dX1_countResults_69 rfl (lv_at hl 0 rfl) ?_
  cases h
  exact j_iret hX hr hlk hP hS dX1_countResults_70
set_option maxHeartbeats 4000000 in
set_option maxRecDepth 100000 in
theorem t_X1_countResults_l15 {p : Program} {l : Launch} {e : Env} {s : State} {m : MethodId} {args : Array Value} {below : List Frame} {meth : Method} {c : Code} {D : va_G} {tc : Tc} {ad : Nat → Nat} {A : Nat → Prop} {M : St} {rr : Int32} {II : St} (hX : cx p s m args c cX1_countResults 4 RX1 D tc ad A) (hr : meth.sig.returnType = some .int) (hlk : meth.locks = false) : ∀ (n : Nat), ∀ (v2 : Int32) (v3 : Int32) (I : St), f_X1_countResults_l15 n v2 v3 I = some (rr, II) → ∀ (H : Heap) (locs : List Loc) (ls : Array Slot), va_P D vwCl (wl tc ad (cmb I M)) H → va_S A s.heap H locs → lv_has ls 4 [(0, .ref (ad 148)), (1, .ref (ad 0)), (2, .int v2), (3, .int v3)] → W p l e rm_X1_countResults s m args below meth c H locs 0 0 (MQ below (qi D tc ad A rr (cmb II M)) args s 0 0 A) (F0 m 15 ls []) := by
  intro n
  induction n with
  | zero =>
    intro _ _ _ h
    cases h
  | succ n ih =>
    intro v2 v3 I h H locs ls hP hS hl
    rw [f_X1_countResults_l15] at h
    have hx := hX.1
    have hb := hX.2.1
    have hown := hX.2.2.2.1
    have hts := hX.2.2.2.2.1
    have hA := hX.2.2.2.2.2.2
    refine lv_iload_n hx hb dX1_countResults_15 rfl (lv_at hl 3 rfl) ?_
    refine lv_aload_n hx hb dX1_countResults_16 rfl (lv_at hl 0 rfl) ?_
    refine r_get hX hP cok1 3 sl_148 sk_148 (by decide) rfl q230 dX1_countResults_17 ?_
    refine x_icmp_ge (tgt := 69) hx hb dX1_countResults_20 (by decide) h (fun c1 h => ?_) (fun c1 h => ?_)
    · exact t_X1_countResults_b69 hX hr hlk  _ _ h _ _ _ hP hS (lv_sub hl [2] rfl)
    · refine lv_iload_n hx hb dX1_countResults_23 rfl (lv_at hl 3 rfl) ?_
      refine lv_aload_n hx hb dX1_countResults_24 rfl (lv_at hl 0 rfl) ?_
      refine r_getq (t := 150) hX hP cok1 1 sl_148 sk_148 (by decide) rfl q228 dX1_countResults_25 ?_
      refine j_len (v := 256) hX hP (lt157 sl_150) sk_150 sn_150 (by decide) dX1_countResults_28 ?_
      refine x_icmp_ge (tgt := 69) hx hb dX1_countResults_29 (by decide) h (fun c2 h => ?_) (fun c2 h => ?_)
      · exact t_X1_countResults_b69 hX hr hlk  _ _ h _ _ _ hP hS (lv_sub hl [2] rfl)
      · refine lv_aload_n hx hb dX1_countResults_32 rfl (lv_at hl 0 rfl) ?_
        refine r_getq (t := 150) hX hP cok1 1 sl_148 sk_148 (by decide) rfl q228 dX1_countResults_33 ?_
        refine lv_iload_n hx hb dX1_countResults_36 rfl (lv_at hl 3 rfl) ?_
        refine lv_aload_n hx hb dX1_countResults_37 rfl (lv_at hl 1 rfl) ?_
        refine lv_aload_n hx hb dX1_countResults_38 rfl (lv_at hl 1 rfl) ?_
        refine r_getq (t := 2) hX hP cok3 1 sl_0 sk_0 (by decide) rfl q142 dX1_countResults_39 ?_
        refine lv_aload_n hx hb dX1_countResults_42 rfl (lv_at hl 0 rfl) ?_
        refine r_getq (t := 149) hX hP cok1 0 sl_148 sk_148 (by decide) rfl q227 dX1_countResults_43 ?_
        refine lv_iload_n hx hb dX1_countResults_46 rfl (lv_at hl 3 rfl) ?_
        refine r_ald hX hP h sl_149 sk_149 sn_149 dX1_countResults_47 (fun h => ?_)
        obtain ⟨r4, e3, h⟩ := ob1_some h
        refine j_i (j_runV (rest := [.int v3, .ref (ad 150)]) hX hP hl.1 Y_X4_mixed cok3 (lt157 sl_0) sk_0 (c_X4_mixed hA e3) ⟨rfl, rfl⟩ q492 ⟨Nat.le_of_ble_eq_true rfl, Nat.le_of_ble_eq_true rfl⟩ rfl rfl (Nat.le_of_ble_eq_true rfl) dX1_countResults_48) hS (fun H locs hP hS => ?_)
        refine r_ast hX hP hS h sl_150 sk_150 sn_150 dX1_countResults_51 (fun I5 H locs h hP hS => ?_)
        refine lv_aload_n hx hb dX1_countResults_52 rfl (lv_at hl 0 rfl) ?_
        refine lv_iload_n hx hb dX1_countResults_53 rfl (lv_at hl 3 rfl) ?_
        obtain ⟨r7, e6, h⟩ := ob1_some h
        refine j_i (j_runV (rest := []) hX hP hl.1 Y_X1_isNew cok1 (lt157 sl_148) sk_148 (c_X1_isNew hA e6) ⟨rfl, rfl⟩ q496 ⟨Nat.le_of_ble_eq_true rfl, Nat.le_of_ble_eq_true rfl⟩ rfl rfl (Nat.le_of_ble_eq_true rfl) dX1_countResults_54) hS (fun H locs hP hS => ?_)
        refine x_if_eq (tgt := 63) hx hb dX1_countResults_57 (by decide) h (fun c8 h => ?_) (fun c8 h => ?_)
        · exact t_X1_countResults_b63 hX hr hlk ih _ _ _ h _ _ _ hP hS (lv_sub hl [0, 1, 2, 3] rfl)
        · refine lv_iinc (v := (v2 + 1)) (lv' := [(2, .int (v2 + 1)), (0, .ref (ad 148)), (1, .ref (ad 0)), (3, .int v3)]) hx hb dX1_countResults_60 hl (k := 2) rfl rfl (Nat.le_of_ble_eq_true rfl) rfl (fun ls hl => ?_)
          exact t_X1_countResults_b63 hX hr hlk ih _ _ _ h _ _ _ hP hS (lv_sub hl [1, 2, 0, 3] rfl)
set_option maxHeartbeats 4000000 in
set_option maxRecDepth 100000 in
theorem t_X1_countResults_b12 {p : Program} {l : Launch} {e : Env} {s : State} {m : MethodId} {args : Array Value} {below : List Frame} {meth : Method} {c : Code} {D : va_G} {tc : Tc} {ad : Nat → Nat} {A : Nat → Prop} {M : St} {rr : Int32} {II : St} (hX : cx p s m args c cX1_countResults 4 RX1 D tc ad A) (hr : meth.sig.returnType = some .int) (hlk : meth.locks = false) : ∀ (t0 : Int32) (I : St), f_X1_countResults_b12 t0 I = some (rr, II) → ∀ (H : Heap) (locs : List Loc) (ls : Array Slot), va_P D vwCl (wl tc ad (cmb I M)) H → va_S A s.heap H locs → lv_has ls 4 [(0, .ref (ad 148)), (1, .ref (ad 0))] → W p l e rm_X1_countResults s m args below meth c H locs 0 0 (MQ below (qi D tc ad A rr (cmb II M)) args s 0 0 A) (F0 m 12 ls [.int t0]) := by
  intro t0 I h H locs ls hP hS hl
  unfold f_X1_countResults_b12 at h
  have hx := hX.1
  have hb := hX.2.1
  have hown := hX.2.2.2.1
  have hts := hX.2.2.2.2.1
  have hA := hX.2.2.2.2.2.2
  refine lv_istore_n (lv' := [(2, .int t0), (0, .ref (ad 148)), (1, .ref (ad 0))]) hx hb dX1_countResults_12 rfl hl (Nat.le_of_ble_eq_true rfl) rfl (fun ls hl => ?_)
  refine lv_iconst (v := 0) hx hb dX1_countResults_13 kc_i0 ?_
  refine lv_istore_n (lv' := [(3, .int 0), (2, .int t0), (0, .ref (ad 148)), (1, .ref (ad 0))]) hx hb dX1_countResults_14 rfl hl (Nat.le_of_ble_eq_true rfl) rfl (fun ls hl => ?_)
  exact t_X1_countResults_l15 hX hr hlk  10000 _ _ _ h _ _ _ hP hS (lv_sub hl [2, 3, 1, 0] rfl)
set_option maxHeartbeats 4000000 in
set_option maxRecDepth 100000 in
theorem c_X1_countResults {l : Launch} {D : va_G} {tc : Tc} {ad : Nat → Nat} {A : Nat → Prop} (hA : adok ad A) {I M : St}  {rr : Int32} {II : St} (h : f_X1_countResults I = some (rr, II)) : Met l yX1_countResults (Cond.code yX1_countResults cX1_countResults 4 (some .int) :: tw) rm_X1_countResults (pre D tc ad [.ref (ad 148), .ref (ad 0)] (cmb I M)) (qi D tc ad A rr (cmb II M)) 0 0 A := by
  unfold f_X1_countResults at h
  refine mk_met (own := RX1) (by decide +kernel) rfl hA (Nat.le_of_ble_eq_true rfl) ?_
  intro p e s m below meth c ls hX hr hlk hl hP hS
  have hl : lv_has ls 4 [(0, .ref (ad 148)), (1, .ref (ad 0))] := hl
  have hx := hX.1
  have hb := hX.2.1
  have hown := hX.2.2.2.1
  have hts := hX.2.2.2.2.1
  refine lv_aload_n hx hb dX1_countResults_0 rfl (lv_at hl 0 rfl) ?_
  refine r_get hX hP cok1 4 sl_148 sk_148 (by decide) rfl q231 dX1_countResults_1 ?_
  refine x_if_eq (tgt := 11) hx hb dX1_countResults_4 (by decide) h (fun c9 h => ?_) (fun c9 h => ?_)
  · refine lv_iconst (v := 0) hx hb dX1_countResults_11 kc_i0 ?_
    exact t_X1_countResults_b12 hX hr hlk  _ _ h _ _ _ hP hS (lv_sub hl [0, 1] rfl)
  · refine lv_iconst (v := 1) hx hb dX1_countResults_7 kc_i1 ?_
    refine lv_goto (tgt := 12) hx hb dX1_countResults_8 (by decide) ?_
    exact t_X1_countResults_b12 hX hr hlk  _ _ h _ _ _ hP hS (lv_sub hl [0, 1] rfl)
/-! OwnerlessCoin.results(I)I -/
def rm_X7_results : Room := { frames := 4, cells := 0, slots := 0, locals := 88 }
theorem Y_X7_results : yv yX7_results cX7_results 2 (some .int) 1 RX7 := ⟨q461, q459, q460, q12, by decide +kernel⟩
set_option maxHeartbeats 4000000 in
set_option maxRecDepth 100000 in
theorem c_X7_results {l : Launch} {D : va_G} {tc : Tc} {ad : Nat → Nat} {A : Nat → Prop} (hA : adok ad A) {I M : St} {v1 : Int32} {rr : Int32} {II : St} (h : f_X7_results v1 I = some (rr, II)) : Met l yX7_results (Cond.code yX7_results cX7_results 2 (some .int) :: tw) rm_X7_results (pre D tc ad [.ref (ad 145), .int v1] (cmb I M)) (qi D tc ad A rr (cmb II M)) 0 0 A := by
  unfold f_X7_results at h
  refine mk_met (own := RX7) (by decide +kernel) rfl hA (Nat.le_of_ble_eq_true rfl) ?_
  intro p e s m below meth c ls hX hr hlk hl hP hS
  have hl : lv_has ls 2 [(0, .ref (ad 145)), (1, .int v1)] := hl
  have hx := hX.1
  have hb := hX.2.1
  have hown := hX.2.2.2.1
  have hts := hX.2.2.2.2.1
  refine lv_iload_n hx hb dX7_results_0 rfl (lv_at hl 1 rfl) ?_
  refine lv_iconst (v := 0) hx hb dX7_results_1 kc_i0 ?_
  refine lv_sipush (v := 255) hx hb dX7_results_2 kc_s255 ?_
  obtain ⟨r2, e1, h⟩ := ob1_some h
  refine j_i (j_runS (rest := []) hX hP hl.1 Y_X7_isWithin (c_X7_isWithin hA e1) ⟨rfl, rfl⟩ q258 ⟨Nat.le_of_ble_eq_true rfl, Nat.le_of_ble_eq_true rfl⟩ rfl rfl (Nat.le_of_ble_eq_true rfl) dX7_results_5) hS (fun H locs hP hS => ?_)
  refine x_if_ne (tgt := 13) hx hb dX7_results_8 (by decide) h (fun c3 h => ?_) (fun c3 h => ?_)
  · refine lv_aload_n hx hb dX7_results_13 rfl (lv_at hl 0 rfl) ?_
    refine r_getq (t := 0) hX hP cok5 0 sl_145 sk_145 (by decide) rfl q243 dX7_results_14 ?_
    refine lv_iload_n hx hb dX7_results_17 rfl (lv_at hl 1 rfl) ?_
    obtain ⟨r5, e4, h⟩ := ob1_some h
    refine j_i (j_runV (rest := []) hX hP hl.1 Y_X4_canConspire cok3 (lt157 sl_0) sk_0 (c_X4_canConspire hA e4) ⟨rfl, rfl⟩ q462 ⟨Nat.le_of_ble_eq_true rfl, Nat.le_of_ble_eq_true rfl⟩ rfl rfl (Nat.le_of_ble_eq_true rfl) dX7_results_18) hS (fun H locs hP hS => ?_)
    refine x_if_ne (tgt := 27) hx hb dX7_results_21 (by decide) h (fun c6 h => ?_) (fun c6 h => ?_)
    · refine lv_aload_n hx hb dX7_results_27 rfl (lv_at hl 0 rfl) ?_
      refine r_getq (t := 148) hX hP cok5 2 sl_145 sk_145 (by decide) rfl q245 dX7_results_28 ?_
      refine lv_aload_n hx hb dX7_results_31 rfl (lv_at hl 0 rfl) ?_
      refine r_getq (t := 0) hX hP cok5 0 sl_145 sk_145 (by decide) rfl q243 dX7_results_32 ?_
      refine lv_iload_n hx hb dX7_results_35 rfl (lv_at hl 1 rfl) ?_
      obtain ⟨I8, e7, h⟩ := ob1_some h
      refine j_v (j_runV (rest := []) hX hP hl.1 Y_X1_gather cok1 (lt157 sl_148) sk_148 (c_X1_gather hA e7) ⟨rfl, rfl⟩ q466 ⟨Nat.le_of_ble_eq_true rfl, Nat.le_of_ble_eq_true rfl⟩ rfl rfl (Nat.le_of_ble_eq_true rfl) dX7_results_36) hS (fun H locs hP hS => ?_)
      refine lv_aload_n hx hb dX7_results_39 rfl (lv_at hl 0 rfl) ?_
      refine r_getq (t := 148) hX hP cok5 2 sl_145 sk_145 (by decide) rfl q245 dX7_results_40 ?_
      refine lv_aload_n hx hb dX7_results_43 rfl (lv_at hl 0 rfl) ?_
      refine r_getq (t := 0) hX hP cok5 0 sl_145 sk_145 (by decide) rfl q243 dX7_results_44 ?_
      obtain ⟨r11, I10, e9, h⟩ := ob2_some h
      refine j_i (j_runV (rest := []) hX hP hl.1 Y_X1_countResults cok1 (lt157 sl_148) sk_148 (c_X1_countResults hA e9) ⟨rfl, rfl⟩ q488 ⟨Nat.le_of_ble_eq_true rfl, Nat.le_of_ble_eq_true rfl⟩ rfl rfl (Nat.le_of_ble_eq_true rfl) dX7_results_47) hS (fun H locs hP hS => ?_)
      cases h
      exact j_iret hX hr hlk hP hS dX7_results_50
    · refine lv_bipush (v := (-2)) hx hb dX7_results_24 kc_bm2 ?_
      cases h
      exact j_iret hX hr hlk hP hS dX7_results_26
  · refine lv_iconst (v := (-1)) hx hb dX7_results_11 kc_im1 ?_
    cases h
    exact j_iret hX hr hlk hP hS dX7_results_12
/-! OwnerlessCoin$Coalition.reaches(LOwnerlessCoin$Lab;[II)Z -/
def rm_X1_reaches : Room := { frames := 2, cells := 0, slots := 0, locals := 46 }
theorem Y_X1_reaches : yv yX1_reaches cX1_reaches 5 (some .boolean) 3 RX1 := ⟨q519, q517, q518, q17, by decide +kernel⟩
set_option maxHeartbeats 4000000 in
set_option maxRecDepth 100000 in
theorem t_X1_reaches_b48 {p : Program} {l : Launch} {e : Env} {s : State} {m : MethodId} {args : Array Value} {below : List Frame} {meth : Method} {c : Code} {D : va_G} {tc : Tc} {ad : Nat → Nat} {A : Nat → Prop} {M : St} {o2 : Nat} {rr : Int32} (hX : cx p s m args c cX1_reaches 5 RX1 D tc ad A) (hr : meth.sig.returnType = some .boolean) (hlk : meth.locks = false) (ho2 : isA o2 = true) : ∀ (I : St), f_X1_reaches_b48 o2 I = some rr → ∀ (H : Heap) (locs : List Loc) (ls : Array Slot), va_P D vwCl (wl tc ad (cmb I M)) H → va_S A s.heap H locs → lv_has ls 5 [] → W p l e rm_X1_reaches s m args below meth c H locs 0 0 (MQ below (qi D tc ad A rr (cmb I M)) args s 0 0 A) (F0 m 48 ls []) := by
  intro I h H locs ls hP hS hl
  unfold f_X1_reaches_b48 at h
  have hx := hX.1
  have hb := hX.2.1
  have hown := hX.2.2.2.1
  have hts := hX.2.2.2.2.1
  have hA := hX.2.2.2.2.2.2
  refine lv_iconst (v := 0) hx hb dX1_reaches_48 kc_i0 ?_
  cases h
  exact j_zret hX hr hlk hP hS (Or.inl rfl) dX1_reaches_49
set_option maxHeartbeats 4000000 in
set_option maxRecDepth 100000 in
theorem t_X1_reaches_l3 {p : Program} {l : Launch} {e : Env} {s : State} {m : MethodId} {args : Array Value} {below : List Frame} {meth : Method} {c : Code} {D : va_G} {tc : Tc} {ad : Nat → Nat} {A : Nat → Prop} {M : St} {o2 : Nat} {rr : Int32} (hX : cx p s m args c cX1_reaches 5 RX1 D tc ad A) (hr : meth.sig.returnType = some .boolean) (hlk : meth.locks = false) (ho2 : isA o2 = true) : ∀ (n : Nat), ∀ (v3 : Int32) (v4 : Int32) (I : St), f_X1_reaches_l3 o2 n v3 v4 I = some rr → ∀ (H : Heap) (locs : List Loc) (ls : Array Slot), va_P D vwCl (wl tc ad (cmb I M)) H → va_S A s.heap H locs → lv_has ls 5 [(0, .ref (ad 148)), (1, .ref (ad 0)), (2, .ref (ad o2)), (3, .int v3), (4, .int v4)] → W p l e rm_X1_reaches s m args below meth c H locs 0 0 (MQ below (qi D tc ad A rr (cmb I M)) args s 0 0 A) (F0 m 3 ls []) := by
  intro n
  induction n with
  | zero =>
    intro _ _ _ h
    cases h
  | succ n ih =>
    intro v3 v4 I h H locs ls hP hS hl
    rw [f_X1_reaches_l3] at h
    have hx := hX.1
    have hb := hX.2.1
    have hown := hX.2.2.2.1
    have hts := hX.2.2.2.2.1
    have hA := hX.2.2.2.2.2.2
    refine lv_iload hx hb dX1_reaches_3 (lv_at hl 4 rfl) ?_
    refine lv_aload_n hx hb dX1_reaches_5 rfl (lv_at hl 0 rfl) ?_
    refine r_get hX hP cok1 3 sl_148 sk_148 (by decide) rfl q230 dX1_reaches_6 ?_
    refine x_icmp_ge (tgt := 48) hx hb dX1_reaches_9 (by decide) h (fun c1 h => ?_) (fun c1 h => ?_)
    · exact t_X1_reaches_b48 hX hr hlk ho2  _ h _ _ _ hP hS (lv_sub hl [] rfl)
    · refine lv_iload hx hb dX1_reaches_12 (lv_at hl 4 rfl) ?_
      refine lv_aload_n hx hb dX1_reaches_14 rfl (lv_at hl 0 rfl) ?_
      refine r_getq (t := 149) hX hP cok1 0 sl_148 sk_148 (by decide) rfl q227 dX1_reaches_15 ?_
      refine j_len (v := 256) hX hP (lt157 sl_149) sk_149 sn_149 (by decide) dX1_reaches_18 ?_
      refine x_icmp_ge (tgt := 48) hx hb dX1_reaches_19 (by decide) h (fun c2 h => ?_) (fun c2 h => ?_)
      · exact t_X1_reaches_b48 hX hr hlk ho2  _ h _ _ _ hP hS (lv_sub hl [] rfl)
      · refine lv_aload_n hx hb dX1_reaches_22 rfl (lv_at hl 1 rfl) ?_
        refine lv_aload_n hx hb dX1_reaches_23 rfl (lv_at hl 2 rfl) ?_
        refine lv_aload_n hx hb dX1_reaches_24 rfl (lv_at hl 0 rfl) ?_
        refine r_getq (t := 149) hX hP cok1 0 sl_148 sk_148 (by decide) rfl q227 dX1_reaches_25 ?_
        refine lv_iload hx hb dX1_reaches_28 (lv_at hl 4 rfl) ?_
        refine r_ald hX hP h sl_149 sk_149 sn_149 dX1_reaches_30 (fun h => ?_)
        obtain ⟨r4, e3, h⟩ := ob1_some h
        refine j_i (j_runV (rest := []) hX hP hl.1 Y_X4_mixed cok3 (lt157 sl_0) sk_0 (c_X4_mixed hA e3) ⟨rfl, rfl⟩ q492 ⟨Nat.le_of_ble_eq_true rfl, Nat.le_of_ble_eq_true rfl⟩ rfl rfl (Nat.le_of_ble_eq_true rfl) dX1_reaches_31) hS (fun H locs hP hS => ?_)
        refine lv_iconst (v := 1) hx hb dX1_reaches_34 kc_i1 ?_
        refine lv_iand hx hb dX1_reaches_35 ?_
        refine x_let h (fun x5 h => ?_)
        refine lv_iload_n hx hb dX1_reaches_36 rfl (lv_at hl 3 rfl) ?_
        refine x_icmp_ne (tgt := 42) hx hb dX1_reaches_37 (by decide) h (fun c6 h => ?_) (fun c6 h => ?_)
        · refine lv_iinc (v := (v4 + 1)) (lv' := [(4, .int (v4 + 1)), (0, .ref (ad 148)), (1, .ref (ad 0)), (2, .ref (ad o2)), (3, .int v3)]) hx hb dX1_reaches_42 hl (k := 4) rfl rfl (Nat.le_of_ble_eq_true rfl) rfl (fun ls hl => ?_)
          refine lv_goto (tgt := 3) hx hb dX1_reaches_45 (by decide) ?_
          exact ih _ _ _ h _ _ _ hP hS (lv_sub hl [1, 2, 3, 4, 0] rfl)
        · refine lv_iconst (v := 1) hx hb dX1_reaches_40 kc_i1 ?_
          cases h
          exact j_zret hX hr hlk hP hS (Or.inr rfl) dX1_reaches_41
set_option maxHeartbeats 4000000 in
set_option maxRecDepth 100000 in
theorem c_X1_reaches {l : Launch} {D : va_G} {tc : Tc} {ad : Nat → Nat} {A : Nat → Prop} (hA : adok ad A) {I M : St} {o2 : Nat} {v3 : Int32} {rr : Int32} (h : f_X1_reaches o2 v3 I = some rr) : Met l yX1_reaches (Cond.code yX1_reaches cX1_reaches 5 (some .boolean) :: tw) rm_X1_reaches (pre D tc ad [.ref (ad 148), .ref (ad 0), .ref (ad o2), .int v3] (cmb I M)) (qi D tc ad A rr (cmb I M)) 0 0 A := by
  unfold f_X1_reaches at h
  obtain ⟨ho2, h⟩ := ck_some h
  refine mk_met (own := RX1) (by decide +kernel) rfl hA (Nat.le_of_ble_eq_true rfl) ?_
  intro p e s m below meth c ls hX hr hlk hl hP hS
  have hl : lv_has ls 5 [(0, .ref (ad 148)), (1, .ref (ad 0)), (2, .ref (ad o2)), (3, .int v3)] := hl
  have hx := hX.1
  have hb := hX.2.1
  have hown := hX.2.2.2.1
  have hts := hX.2.2.2.2.1
  refine lv_iconst (v := 0) hx hb dX1_reaches_0 kc_i0 ?_
  refine lv_istore (lv' := [(4, .int 0), (0, .ref (ad 148)), (1, .ref (ad 0)), (2, .ref (ad o2)), (3, .int v3)]) hx hb dX1_reaches_1 hl (Nat.le_of_ble_eq_true rfl) rfl (fun ls hl => ?_)
  exact t_X1_reaches_l3 hX hr hlk ho2  10000 _ _ _ h _ _ _ hP hS (lv_sub hl [1, 2, 3, 4, 0] rfl)
/-! OwnerlessCoin.canForce(II)I -/
def rm_X7_canForce : Room := { frames := 4, cells := 0, slots := 0, locals := 88 }
theorem Y_X7_canForce : yv yX7_canForce cX7_canForce 3 (some .int) 2 RX7 := ⟨q523, q521, q522, q12, by decide +kernel⟩
set_option maxHeartbeats 4000000 in
set_option maxRecDepth 100000 in
theorem t_X7_canForce_b20 {p : Program} {l : Launch} {e : Env} {s : State} {m : MethodId} {args : Array Value} {below : List Frame} {meth : Method} {c : Code} {D : va_G} {tc : Tc} {ad : Nat → Nat} {A : Nat → Prop} {M : St} {rr : Int32} {II : St} (hX : cx p s m args c cX7_canForce 3 RX7 D tc ad A) (hr : meth.sig.returnType = some .int) (hlk : meth.locks = false) : ∀ (I : St), f_X7_canForce_b20 I = some (rr, II) → ∀ (H : Heap) (locs : List Loc) (ls : Array Slot), va_P D vwCl (wl tc ad (cmb I M)) H → va_S A s.heap H locs → lv_has ls 3 [] → W p l e rm_X7_canForce s m args below meth c H locs 0 0 (MQ below (qi D tc ad A rr (cmb II M)) args s 0 0 A) (F0 m 20 ls []) := by
  intro I h H locs ls hP hS hl
  unfold f_X7_canForce_b20 at h
  have hx := hX.1
  have hb := hX.2.1
  have hown := hX.2.2.2.1
  have hts := hX.2.2.2.2.1
  have hA := hX.2.2.2.2.2.2
  refine lv_iconst (v := (-1)) hx hb dX7_canForce_20 kc_im1 ?_
  cases h
  exact j_iret hX hr hlk hP hS dX7_canForce_21
set_option maxHeartbeats 4000000 in
set_option maxRecDepth 100000 in
theorem t_X7_canForce_b75 {p : Program} {l : Launch} {e : Env} {s : State} {m : MethodId} {args : Array Value} {below : List Frame} {meth : Method} {c : Code} {D : va_G} {tc : Tc} {ad : Nat → Nat} {A : Nat → Prop} {M : St} {rr : Int32} {II : St} (hX : cx p s m args c cX7_canForce 3 RX7 D tc ad A) (hr : meth.sig.returnType = some .int) (hlk : meth.locks = false) : ∀ (t0 : Int32) (I : St), f_X7_canForce_b75 t0 I = some (rr, II) → ∀ (H : Heap) (locs : List Loc) (ls : Array Slot), va_P D vwCl (wl tc ad (cmb I M)) H → va_S A s.heap H locs → lv_has ls 3 [] → W p l e rm_X7_canForce s m args below meth c H locs 0 0 (MQ below (qi D tc ad A rr (cmb II M)) args s 0 0 A) (F0 m 75 ls [.int t0]) := by
  intro t0 I h H locs ls hP hS hl
  unfold f_X7_canForce_b75 at h
  have hx := hX.1
  have hb := hX.2.1
  have hown := hX.2.2.2.1
  have hts := hX.2.2.2.2.1
  have hA := hX.2.2.2.2.2.2
  cases h
  exact j_iret hX hr hlk hP hS dX7_canForce_75
set_option maxHeartbeats 4000000 in
set_option maxRecDepth 100000 in
theorem c_X7_canForce {l : Launch} {D : va_G} {tc : Tc} {ad : Nat → Nat} {A : Nat → Prop} (hA : adok ad A) {I M : St} {v1 : Int32} {v2 : Int32} {rr : Int32} {II : St} (h : f_X7_canForce v1 v2 I = some (rr, II)) : Met l yX7_canForce (Cond.code yX7_canForce cX7_canForce 3 (some .int) :: tw) rm_X7_canForce (pre D tc ad [.ref (ad 145), .int v1, .int v2] (cmb I M)) (qi D tc ad A rr (cmb II M)) 0 0 A := by
  unfold f_X7_canForce at h
  refine mk_met (own := RX7) (by decide +kernel) rfl hA (Nat.le_of_ble_eq_true rfl) ?_
  intro p e s m below meth c ls hX hr hlk hl hP hS
  have hl : lv_has ls 3 [(0, .ref (ad 145)), (1, .int v1), (2, .int v2)] := hl
  have hx := hX.1
  have hb := hX.2.1
  have hown := hX.2.2.2.1
  have hts := hX.2.2.2.2.1
  refine lv_iload_n hx hb dX7_canForce_0 rfl (lv_at hl 1 rfl) ?_
  refine lv_iconst (v := 0) hx hb dX7_canForce_1 kc_i0 ?_
  refine lv_sipush (v := 255) hx hb dX7_canForce_2 kc_s255 ?_
  obtain ⟨r2, e1, h⟩ := ob1_some h
  refine j_i (j_runS (rest := []) hX hP hl.1 Y_X7_isWithin (c_X7_isWithin hA e1) ⟨rfl, rfl⟩ q258 ⟨Nat.le_of_ble_eq_true rfl, Nat.le_of_ble_eq_true rfl⟩ rfl rfl (Nat.le_of_ble_eq_true rfl) dX7_canForce_5) hS (fun H locs hP hS => ?_)
  refine x_if_eq (tgt := 20) hx hb dX7_canForce_8 (by decide) h (fun c3 h => ?_) (fun c3 h => ?_)
  · exact t_X7_canForce_b20 hX hr hlk  _ h _ _ _ hP hS (lv_sub hl [] rfl)
  · refine lv_iload_n hx hb dX7_canForce_11 rfl (lv_at hl 2 rfl) ?_
    refine lv_iconst (v := 0) hx hb dX7_canForce_12 kc_i0 ?_
    refine lv_iconst (v := 1) hx hb dX7_canForce_13 kc_i1 ?_
    obtain ⟨r5, e4, h⟩ := ob1_some h
    refine j_i (j_runS (rest := []) hX hP hl.1 Y_X7_isWithin (c_X7_isWithin hA e4) ⟨rfl, rfl⟩ q258 ⟨Nat.le_of_ble_eq_true rfl, Nat.le_of_ble_eq_true rfl⟩ rfl rfl (Nat.le_of_ble_eq_true rfl) dX7_canForce_14) hS (fun H locs hP hS => ?_)
    refine x_if_ne (tgt := 22) hx hb dX7_canForce_17 (by decide) h (fun c6 h => ?_) (fun c6 h => ?_)
    · refine lv_aload_n hx hb dX7_canForce_22 rfl (lv_at hl 0 rfl) ?_
      refine r_getq (t := 0) hX hP cok5 0 sl_145 sk_145 (by decide) rfl q243 dX7_canForce_23 ?_
      refine lv_iload_n hx hb dX7_canForce_26 rfl (lv_at hl 1 rfl) ?_
      obtain ⟨r8, e7, h⟩ := ob1_some h
      refine j_i (j_runV (rest := []) hX hP hl.1 Y_X4_canConspire cok3 (lt157 sl_0) sk_0 (c_X4_canConspire hA e7) ⟨rfl, rfl⟩ q462 ⟨Nat.le_of_ble_eq_true rfl, Nat.le_of_ble_eq_true rfl⟩ rfl rfl (Nat.le_of_ble_eq_true rfl) dX7_canForce_27) hS (fun H locs hP hS => ?_)
      refine x_if_ne (tgt := 36) hx hb dX7_canForce_30 (by decide) h (fun c9 h => ?_) (fun c9 h => ?_)
      · refine lv_aload_n hx hb dX7_canForce_36 rfl (lv_at hl 0 rfl) ?_
        refine r_getq (t := 148) hX hP cok5 2 sl_145 sk_145 (by decide) rfl q245 dX7_canForce_37 ?_
        refine lv_aload_n hx hb dX7_canForce_40 rfl (lv_at hl 0 rfl) ?_
        refine r_getq (t := 0) hX hP cok5 0 sl_145 sk_145 (by decide) rfl q243 dX7_canForce_41 ?_
        refine lv_iload_n hx hb dX7_canForce_44 rfl (lv_at hl 1 rfl) ?_
        obtain ⟨I11, e10, h⟩ := ob1_some h
        refine j_v (j_runV (rest := []) hX hP hl.1 Y_X1_gather cok1 (lt157 sl_148) sk_148 (c_X1_gather hA e10) ⟨rfl, rfl⟩ q466 ⟨Nat.le_of_ble_eq_true rfl, Nat.le_of_ble_eq_true rfl⟩ rfl rfl (Nat.le_of_ble_eq_true rfl) dX7_canForce_45) hS (fun H locs hP hS => ?_)
        refine lv_aload_n hx hb dX7_canForce_48 rfl (lv_at hl 0 rfl) ?_
        refine r_getq (t := 148) hX hP cok5 2 sl_145 sk_145 (by decide) rfl q245 dX7_canForce_49 ?_
        refine lv_aload_n hx hb dX7_canForce_52 rfl (lv_at hl 0 rfl) ?_
        refine r_getq (t := 0) hX hP cok5 0 sl_145 sk_145 (by decide) rfl q243 dX7_canForce_53 ?_
        refine lv_aload_n hx hb dX7_canForce_56 rfl (lv_at hl 0 rfl) ?_
        refine r_getq (t := 0) hX hP cok5 0 sl_145 sk_145 (by decide) rfl q243 dX7_canForce_57 ?_
        refine r_getq (t := 2) hX hP cok3 1 sl_0 sk_0 (by decide) rfl q144 dX7_canForce_60 ?_
        refine lv_iload_n hx hb dX7_canForce_63 rfl (lv_at hl 2 rfl) ?_
        obtain ⟨r13, e12, h⟩ := ob1_some h
        refine j_i (j_runV (rest := []) hX hP hl.1 Y_X1_reaches cok1 (lt157 sl_148) sk_148 (c_X1_reaches hA e12) ⟨rfl, rfl⟩ q524 ⟨Nat.le_of_ble_eq_true rfl, Nat.le_of_ble_eq_true rfl⟩ rfl rfl (Nat.le_of_ble_eq_true rfl) dX7_canForce_64) hS (fun H locs hP hS => ?_)
        refine x_if_eq (tgt := 74) hx hb dX7_canForce_67 (by decide) h (fun c14 h => ?_) (fun c14 h => ?_)
        · refine lv_iconst (v := 0) hx hb dX7_canForce_74 kc_i0 ?_
          exact t_X7_canForce_b75 hX hr hlk  _ _ h _ _ _ hP hS (lv_sub hl [] rfl)
        · refine lv_iconst (v := 1) hx hb dX7_canForce_70 kc_i1 ?_
          refine lv_goto (tgt := 75) hx hb dX7_canForce_71 (by decide) ?_
          exact t_X7_canForce_b75 hX hr hlk  _ _ h _ _ _ hP hS (lv_sub hl [] rfl)
      · refine lv_bipush (v := (-2)) hx hb dX7_canForce_33 kc_bm2 ?_
        cases h
        exact j_iret hX hr hlk hP hS dX7_canForce_35
    · exact t_X7_canForce_b20 hX hr hlk  _ h _ _ _ hP hS (lv_sub hl [] rfl)
/-! OwnerlessCoin$Coalition.spread(III)V -/
def rm_X1_spread : Room := { frames := 1, cells := 0, slots := 0, locals := 21 }
theorem Y_X1_spread : yv yX1_spread cX1_spread 6 none 3 RX1 := ⟨q514, q513, q6, q17, by decide +kernel⟩
set_option maxHeartbeats 4000000 in
set_option maxRecDepth 100000 in
theorem t_X1_spread_b43 {p : Program} {l : Launch} {e : Env} {s : State} {m : MethodId} {args : Array Value} {below : List Frame} {meth : Method} {c : Code} {D : va_G} {tc : Tc} {ad : Nat → Nat} {A : Nat → Prop} {M : St} {II : St} (hX : cx p s m args c cX1_spread 6 RX1 D tc ad A) (hr : meth.sig.returnType = none) (hlk : meth.locks = false) {K6 : Int32 → Int32 → Int32 → Int32 → St → Option (St)} (hK6 : ∀ (v2 : Int32) (v3 : Int32) (v4 : Int32) (v5 : Int32) (I : St), K6 v2 v3 v4 v5 I = some II → ∀ (H : Heap) (locs : List Loc) (ls : Array Slot), va_P D vwCl (wl tc ad (cmb I M)) H → va_S A s.heap H locs → lv_has ls 6 [(0, .ref (ad 148)), (2, .int v2), (3, .int v3), (4, .int v4), (5, .int v5)] → W p l e rm_X1_spread s m args below meth c H locs 0 0 (MQ below (qv D tc ad A (cmb II M)) args s 0 0 A) (F0 m 6 ls [])) : ∀ (v2 : Int32) (v3 : Int32) (v4 : Int32) (v5 : Int32) (I : St), f_X1_spread_b43 K6 v2 v3 v4 v5 I = some II → ∀ (H : Heap) (locs : List Loc) (ls : Array Slot), va_P D vwCl (wl tc ad (cmb I M)) H → va_S A s.heap H locs → lv_has ls 6 [(0, .ref (ad 148)), (2, .int v2), (3, .int v3), (4, .int v4), (5, .int v5)] → W p l e rm_X1_spread s m args below meth c H locs 0 0 (MQ below (qv D tc ad A (cmb II M)) args s 0 0 A) (F0 m 43 ls []) := by
  intro v2 v3 v4 v5 I h H locs ls hP hS hl
  unfold f_X1_spread_b43 at h
  have hx := hX.1
  have hb := hX.2.1
  have hown := hX.2.2.2.1
  have hts := hX.2.2.2.2.1
  have hA := hX.2.2.2.2.2.2
  refine lv_iinc (v := (v5 + 1)) (lv' := [(5, .int (v5 + 1)), (0, .ref (ad 148)), (2, .int v2), (3, .int v3), (4, .int v4)]) hx hb dX1_spread_43 hl (k := 4) rfl rfl (Nat.le_of_ble_eq_true rfl) rfl (fun ls hl => ?_)
  refine lv_goto (tgt := 6) hx hb dX1_spread_46 (by decide) ?_
  exact hK6 _ _ _ _ _ h _ _ _ hP hS (lv_sub hl [1, 2, 3, 4, 0] rfl)
set_option maxHeartbeats 4000000 in
set_option maxRecDepth 100000 in
theorem t_X1_spread_l6 {p : Program} {l : Launch} {e : Env} {s : State} {m : MethodId} {args : Array Value} {below : List Frame} {meth : Method} {c : Code} {D : va_G} {tc : Tc} {ad : Nat → Nat} {A : Nat → Prop} {M : St} {II : St} (hX : cx p s m args c cX1_spread 6 RX1 D tc ad A) (hr : meth.sig.returnType = none) (hlk : meth.locks = false) : ∀ (n : Nat), ∀ (v2 : Int32) (v3 : Int32) (v4 : Int32) (v5 : Int32) (I : St), f_X1_spread_l6 n v2 v3 v4 v5 I = some II → ∀ (H : Heap) (locs : List Loc) (ls : Array Slot), va_P D vwCl (wl tc ad (cmb I M)) H → va_S A s.heap H locs → lv_has ls 6 [(0, .ref (ad 148)), (2, .int v2), (3, .int v3), (4, .int v4), (5, .int v5)] → W p l e rm_X1_spread s m args below meth c H locs 0 0 (MQ below (qv D tc ad A (cmb II M)) args s 0 0 A) (F0 m 6 ls []) := by
  intro n
  induction n with
  | zero =>
    intro _ _ _ _ _ h
    cases h
  | succ n ih =>
    intro v2 v3 v4 v5 I h H locs ls hP hS hl
    rw [f_X1_spread_l6] at h
    have hx := hX.1
    have hb := hX.2.1
    have hown := hX.2.2.2.1
    have hts := hX.2.2.2.2.1
    have hA := hX.2.2.2.2.2.2
    refine lv_iload hx hb dX1_spread_6 (lv_at hl 4 rfl) ?_
    refine lv_bipush (v := 8) hx hb dX1_spread_8 kc_b8 ?_
    refine x_icmp_ge (tgt := 49) hx hb dX1_spread_10 (by decide) h (fun c1 h => ?_) (fun c1 h => ?_)
    · cases h
      exact j_vret hX hr hlk hP hS dX1_spread_49
    · refine lv_iload_n hx hb dX1_spread_13 rfl (lv_at hl 1 rfl) ?_
      refine lv_iload hx hb dX1_spread_14 (lv_at hl 4 rfl) ?_
      obtain ⟨r3, e2, h⟩ := ob1_some h
      refine j_i (j_runN (rest := []) hX hP hl.1 Y_X7_has (c_X7_has hA e2) ⟨rfl, rfl⟩ nw10 ⟨Nat.le_of_ble_eq_true rfl, Nat.le_of_ble_eq_true rfl⟩ rfl rfl (Nat.le_of_ble_eq_true rfl) dX1_spread_16) hS (fun H locs hP hS => ?_)
      refine x_if_eq (tgt := 43) hx hb dX1_spread_19 (by decide) h (fun c4 h => ?_) (fun c4 h => ?_)
      · exact t_X1_spread_b43 hX hr hlk ih _ _ _ _ _ h _ _ _ hP hS (lv_sub hl [0, 1, 2, 3, 4] rfl)
      · refine lv_aload_n hx hb dX1_spread_22 rfl (lv_at hl 0 rfl) ?_
        refine r_getq (t := 151) hX hP cok1 2 sl_148 sk_148 (by decide) rfl q229 dX1_spread_23 ?_
        refine lv_iload hx hb dX1_spread_26 (lv_at hl 4 rfl) ?_
        refine lv_iload hx hb dX1_spread_28 (lv_at hl 3 rfl) ?_
        refine lv_iconst (v := 1) hx hb dX1_spread_30 kc_i1 ?_
        refine lv_iload_n hx hb dX1_spread_31 rfl (lv_at hl 2 rfl) ?_
        refine lv_ishl hx hb dX1_spread_32 ?_
        refine x_let h (fun x5 h => ?_)
        refine lv_iconst (v := 1) hx hb dX1_spread_33 kc_i1 ?_
        refine lv_isub hx hb dX1_spread_34 ?_
        refine lv_iand hx hb dX1_spread_35 ?_
        refine r_ast hX hP hS h sl_151 sk_151 sn_151 dX1_spread_36 (fun I6 H locs h hP hS => ?_)
        refine lv_iload hx hb dX1_spread_37 (lv_at hl 3 rfl) ?_
        refine lv_iload_n hx hb dX1_spread_39 rfl (lv_at hl 2 rfl) ?_
        refine lv_iushr (v := iushr v4 v3) hx hb dX1_spread_40 rfl ?_
        refine x_let h (fun x7 h => ?_)
        refine lv_istore (lv' := [(4, .int x7), (0, .ref (ad 148)), (2, .int v2), (3, .int v3), (5, .int v5)]) hx hb dX1_spread_41 hl (Nat.le_of_ble_eq_true rfl) rfl (fun ls hl => ?_)
        exact t_X1_spread_b43 hX hr hlk ih _ _ _ _ _ h _ _ _ hP hS (lv_sub hl [1, 2, 3, 0, 4] rfl)
set_option maxHeartbeats 4000000 in
set_option maxRecDepth 100000 in
theorem c_X1_spread {l : Launch} {D : va_G} {tc : Tc} {ad : Nat → Nat} {A : Nat → Prop} (hA : adok ad A) {I M : St} {v1 : Int32} {v2 : Int32} {v3 : Int32} {II : St} (h : f_X1_spread v1 v2 v3 I = some II) : Met l yX1_spread (Cond.code yX1_spread cX1_spread 6 none :: tw) rm_X1_spread (pre D tc ad [.ref (ad 148), .int v1, .int v2, .int v3] (cmb I M)) (qv D tc ad A (cmb II M)) 0 0 A := by
  unfold f_X1_spread at h
  refine mk_met (own := RX1) (by decide +kernel) rfl hA (Nat.le_of_ble_eq_true rfl) ?_
  intro p e s m below meth c ls hX hr hlk hl hP hS
  have hl : lv_has ls 6 [(0, .ref (ad 148)), (1, .int v1), (2, .int v2), (3, .int v3)] := hl
  have hx := hX.1
  have hb := hX.2.1
  have hown := hX.2.2.2.1
  have hts := hX.2.2.2.2.1
  refine lv_iload_n hx hb dX1_spread_0 rfl (lv_at hl 1 rfl) ?_
  refine lv_istore (lv' := [(4, .int v1), (0, .ref (ad 148)), (1, .int v1), (2, .int v2), (3, .int v3)]) hx hb dX1_spread_1 hl (Nat.le_of_ble_eq_true rfl) rfl (fun ls hl => ?_)
  refine lv_iconst (v := 0) hx hb dX1_spread_3 kc_i0 ?_
  refine lv_istore (lv' := [(5, .int 0), (4, .int v1), (0, .ref (ad 148)), (1, .int v1), (2, .int v2), (3, .int v3)]) hx hb dX1_spread_4 hl (Nat.le_of_ble_eq_true rfl) rfl (fun ls hl => ?_)
  exact t_X1_spread_l6 hX hr hlk  10000 _ _ _ _ _ h _ _ _ hP hS (lv_sub hl [2, 4, 5, 1, 0] rfl)
/-! OwnerlessCoin$Coalition.countForced(LOwnerlessCoin$Lab;II)I -/
def rm_X1_countForced : Room := { frames := 3, cells := 0, slots := 0, locals := 70 }
theorem Y_X1_countForced : yv yX1_countForced cX1_countForced 7 (some .int) 3 RX1 := ⟨q508, q506, q507, q17, by decide +kernel⟩
set_option maxHeartbeats 4000000 in
set_option maxRecDepth 100000 in
theorem t_X1_countForced_b62 {p : Program} {l : Launch} {e : Env} {s : State} {m : MethodId} {args : Array Value} {below : List Frame} {meth : Method} {c : Code} {D : va_G} {tc : Tc} {ad : Nat → Nat} {A : Nat → Prop} {M : St} {rr : Int32} {II : St} (hX : cx p s m args c cX1_countForced 7 RX1 D tc ad A) (hr : meth.sig.returnType = some .int) (hlk : meth.locks = false) {K31 : Int32 → Int32 → Int32 → Int32 → Int32 → St → Option (Int32 × St)} (hK31 : ∀ (v2 : Int32) (v3 : Int32) (v4 : Int32) (v5 : Int32) (v6 : Int32) (I : St), K31 v2 v3 v4 v5 v6 I = some (rr, II) → ∀ (H : Heap) (locs : List Loc) (ls : Array Slot), va_P D vwCl (wl tc ad (cmb I M)) H → va_S A s.heap H locs → lv_has ls 7 [(0, .ref (ad 148)), (1, .ref (ad 0)), (2, .int v2), (3, .int v3), (4, .int v4), (5, .int v5), (6, .int v6)] → W p l e rm_X1_countForced s m args below meth c H locs 0 0 (MQ below (qi D tc ad A rr (cmb II M)) args s 0 0 A) (F0 m 31 ls [])) : ∀ (v2 : Int32) (v3 : Int32) (v4 : Int32) (v5 : Int32) (v6 : Int32) (I : St), f_X1_countForced_b62 K31 v2 v3 v4 v5 v6 I = some (rr, II) → ∀ (H : Heap) (locs : List Loc) (ls : Array Slot), va_P D vwCl (wl tc ad (cmb I M)) H → va_S A s.heap H locs → lv_has ls 7 [(0, .ref (ad 148)), (1, .ref (ad 0)), (2, .int v2), (3, .int v3), (4, .int v4), (5, .int v5), (6, .int v6)] → W p l e rm_X1_countForced s m args below meth c H locs 0 0 (MQ below (qi D tc ad A rr (cmb II M)) args s 0 0 A) (F0 m 62 ls []) := by
  intro v2 v3 v4 v5 v6 I h H locs ls hP hS hl
  unfold f_X1_countForced_b62 at h
  have hx := hX.1
  have hb := hX.2.1
  have hown := hX.2.2.2.1
  have hts := hX.2.2.2.2.1
  have hA := hX.2.2.2.2.2.2
  refine lv_iinc (v := (v6 + 1)) (lv' := [(6, .int (v6 + 1)), (0, .ref (ad 148)), (1, .ref (ad 0)), (2, .int v2), (3, .int v3), (4, .int v4), (5, .int v5)]) hx hb dX1_countForced_62 hl (k := 6) rfl rfl (Nat.le_of_ble_eq_true rfl) rfl (fun ls hl => ?_)
  refine lv_goto (tgt := 31) hx hb dX1_countForced_65 (by decide) ?_
  exact hK31 _ _ _ _ _ _ h _ _ _ hP hS (lv_sub hl [1, 2, 3, 4, 5, 6, 0] rfl)
set_option maxHeartbeats 4000000 in
set_option maxRecDepth 100000 in
theorem t_X1_countForced_l31 {p : Program} {l : Launch} {e : Env} {s : State} {m : MethodId} {args : Array Value} {below : List Frame} {meth : Method} {c : Code} {D : va_G} {tc : Tc} {ad : Nat → Nat} {A : Nat → Prop} {M : St} {rr : Int32} {II : St} (hX : cx p s m args c cX1_countForced 7 RX1 D tc ad A) (hr : meth.sig.returnType = some .int) (hlk : meth.locks = false) : ∀ (n : Nat), ∀ (v2 : Int32) (v3 : Int32) (v4 : Int32) (v5 : Int32) (v6 : Int32) (I : St), f_X1_countForced_l31 n v2 v3 v4 v5 v6 I = some (rr, II) → ∀ (H : Heap) (locs : List Loc) (ls : Array Slot), va_P D vwCl (wl tc ad (cmb I M)) H → va_S A s.heap H locs → lv_has ls 7 [(0, .ref (ad 148)), (1, .ref (ad 0)), (2, .int v2), (3, .int v3), (4, .int v4), (5, .int v5), (6, .int v6)] → W p l e rm_X1_countForced s m args below meth c H locs 0 0 (MQ below (qi D tc ad A rr (cmb II M)) args s 0 0 A) (F0 m 31 ls []) := by
  intro n
  induction n with
  | zero =>
    intro _ _ _ _ _ _ h
    cases h
  | succ n ih =>
    intro v2 v3 v4 v5 v6 I h H locs ls hP hS hl
    rw [f_X1_countForced_l31] at h
    have hx := hX.1
    have hb := hX.2.1
    have hown := hX.2.2.2.1
    have hts := hX.2.2.2.2.1
    have hA := hX.2.2.2.2.2.2
    refine lv_iload hx hb dX1_countForced_31 (lv_at hl 6 rfl) ?_
    refine lv_iload hx hb dX1_countForced_33 (lv_at hl 4 rfl) ?_
    refine x_icmp_ge (tgt := 68) hx hb dX1_countForced_35 (by decide) h (fun c1 h => ?_) (fun c1 h => ?_)
    · refine lv_iload hx hb dX1_countForced_68 (lv_at hl 5 rfl) ?_
      cases h
      exact j_iret hX hr hlk hP hS dX1_countForced_70
    · refine lv_aload_n hx hb dX1_countForced_38 rfl (lv_at hl 0 rfl) ?_
      refine lv_iload hx hb dX1_countForced_39 (lv_at hl 6 rfl) ?_
      refine lv_iload_n hx hb dX1_countForced_41 rfl (lv_at hl 2 rfl) ?_
      refine lv_iload_n hx hb dX1_countForced_42 rfl (lv_at hl 3 rfl) ?_
      obtain ⟨I3, e2, h⟩ := ob1_some h
      refine j_v (j_runV (rest := []) hX hP hl.1 Y_X1_spread cok1 (lt157 sl_148) sk_148 (c_X1_spread hA e2) ⟨rfl, rfl⟩ q511 ⟨Nat.le_of_ble_eq_true rfl, Nat.le_of_ble_eq_true rfl⟩ rfl rfl (Nat.le_of_ble_eq_true rfl) dX1_countForced_43) hS (fun H locs hP hS => ?_)
      refine lv_aload_n hx hb dX1_countForced_46 rfl (lv_at hl 0 rfl) ?_
      refine lv_aload_n hx hb dX1_countForced_47 rfl (lv_at hl 1 rfl) ?_
      refine lv_aload_n hx hb dX1_countForced_48 rfl (lv_at hl 0 rfl) ?_
      refine r_getq (t := 151) hX hP cok1 2 sl_148 sk_148 (by decide) rfl q229 dX1_countForced_49 ?_
      refine lv_iconst (v := 1) hx hb dX1_countForced_52 kc_i1 ?_
      obtain ⟨r5, e4, h⟩ := ob1_some h
      refine j_i (j_runV (rest := []) hX hP hl.1 Y_X1_reaches cok1 (lt157 sl_148) sk_148 (c_X1_reaches hA e4) ⟨rfl, rfl⟩ q516 ⟨Nat.le_of_ble_eq_true rfl, Nat.le_of_ble_eq_true rfl⟩ rfl rfl (Nat.le_of_ble_eq_true rfl) dX1_countForced_53) hS (fun H locs hP hS => ?_)
      refine x_if_eq (tgt := 62) hx hb dX1_countForced_56 (by decide) h (fun c6 h => ?_) (fun c6 h => ?_)
      · exact t_X1_countForced_b62 hX hr hlk ih _ _ _ _ _ _ h _ _ _ hP hS (lv_sub hl [0, 1, 2, 3, 4, 5, 6] rfl)
      · refine lv_iinc (v := (v5 + 1)) (lv' := [(5, .int (v5 + 1)), (0, .ref (ad 148)), (1, .ref (ad 0)), (2, .int v2), (3, .int v3), (4, .int v4), (6, .int v6)]) hx hb dX1_countForced_59 hl (k := 5) rfl rfl (Nat.le_of_ble_eq_true rfl) rfl (fun ls hl => ?_)
        exact t_X1_countForced_b62 hX hr hlk ih _ _ _ _ _ _ h _ _ _ hP hS (lv_sub hl [1, 2, 3, 4, 5, 0, 6] rfl)
set_option maxHeartbeats 4000000 in
set_option maxRecDepth 100000 in
theorem c_X1_countForced {l : Launch} {D : va_G} {tc : Tc} {ad : Nat → Nat} {A : Nat → Prop} (hA : adok ad A) {I M : St} {v2 : Int32} {v3 : Int32} {rr : Int32} {II : St} (h : f_X1_countForced v2 v3 I = some (rr, II)) : Met l yX1_countForced (Cond.code yX1_countForced cX1_countForced 7 (some .int) :: tw) rm_X1_countForced (pre D tc ad [.ref (ad 148), .ref (ad 0), .int v2, .int v3] (cmb I M)) (qi D tc ad A rr (cmb II M)) 0 0 A := by
  unfold f_X1_countForced at h
  refine mk_met (own := RX1) (by decide +kernel) rfl hA (Nat.le_of_ble_eq_true rfl) ?_
  intro p e s m below meth c ls hX hr hlk hl hP hS
  have hl : lv_has ls 7 [(0, .ref (ad 148)), (1, .ref (ad 0)), (2, .int v2), (3, .int v3)] := hl
  have hx := hX.1
  have hb := hX.2.1
  have hown := hX.2.2.2.1
  have hts := hX.2.2.2.2.1
  refine lv_aload_n hx hb dX1_countForced_0 rfl (lv_at hl 1 rfl) ?_
  refine r_getq (t := 2) hX hP cok3 1 sl_0 sk_0 (by decide) rfl q142 dX1_countForced_1 ?_
  refine lv_iconst (v := 0) hx hb dX1_countForced_4 kc_i0 ?_
  refine lv_aload_n hx hb dX1_countForced_5 rfl (lv_at hl 0 rfl) ?_
  refine r_getq (t := 151) hX hP cok1 2 sl_148 sk_148 (by decide) rfl q229 dX1_countForced_6 ?_
  refine lv_iconst (v := 0) hx hb dX1_countForced_9 kc_i0 ?_
  refine lv_bipush (v := 8) hx hb dX1_countForced_10 kc_b8 ?_
  refine r_cpy hX hP hS hl.1 h q509 q279 q278 q18 sl_2 sk_2 sn_2 sl_151 sk_151 sn_151 (by decide) (by decide) (Nat.le_of_ble_eq_true rfl) (Nat.le_of_ble_eq_true rfl) dX1_countForced_12 (fun I7 H locs h hP hS => ?_)
  refine lv_iconst (v := 1) hx hb dX1_countForced_15 kc_i1 ?_
  refine lv_iload_n hx hb dX1_countForced_16 rfl (lv_at hl 3 rfl) ?_
  refine lv_iload_n hx hb dX1_countForced_17 rfl (lv_at hl 2 rfl) ?_
  obtain ⟨r9, e8, h⟩ := ob1_some h
  refine j_i (j_runS (rest := [.int v3, .int 1]) hX hP hl.1 Y_J6_bitCount_0f7a4 (c_J6_bitCount_0f7a4 hA e8) ⟨rfl, rfl⟩ q510 ⟨Nat.le_of_ble_eq_true rfl, Nat.le_of_ble_eq_true rfl⟩ rfl rfl (Nat.le_of_ble_eq_true rfl) dX1_countForced_18) hS (fun H locs hP hS => ?_)
  refine lv_imul hx hb dX1_countForced_21 ?_
  refine lv_ishl hx hb dX1_countForced_22 ?_
  refine x_let h (fun x10 h => ?_)
  refine lv_istore (lv' := [(4, .int x10), (0, .ref (ad 148)), (1, .ref (ad 0)), (2, .int v2), (3, .int v3)]) hx hb dX1_countForced_23 hl (Nat.le_of_ble_eq_true rfl) rfl (fun ls hl => ?_)
  refine lv_iconst (v := 0) hx hb dX1_countForced_25 kc_i0 ?_
  refine lv_istore (lv' := [(5, .int 0), (4, .int x10), (0, .ref (ad 148)), (1, .ref (ad 0)), (2, .int v2), (3, .int v3)]) hx hb dX1_countForced_26 hl (Nat.le_of_ble_eq_true rfl) rfl (fun ls hl => ?_)
  refine lv_iconst (v := 0) hx hb dX1_countForced_28 kc_i0 ?_
  refine lv_istore (lv' := [(6, .int 0), (5, .int 0), (4, .int x10), (0, .ref (ad 148)), (1, .ref (ad 0)), (2, .int v2), (3, .int v3)]) hx hb dX1_countForced_29 hl (Nat.le_of_ble_eq_true rfl) rfl (fun ls hl => ?_)
  exact t_X1_countForced_l31 hX hr hlk  10000 _ _ _ _ _ _ h _ _ _ hP hS (lv_sub hl [3, 4, 5, 6, 2, 1, 0] rfl)
/-! OwnerlessCoin.bias(II)I -/
def rm_X7_bias : Room := { frames := 4, cells := 0, slots := 0, locals := 96 }
theorem Y_X7_bias : yv yX7_bias cX7_bias 4 (some .int) 2 RX7 := ⟨q503, q501, q502, q12, by decide +kernel⟩
set_option maxHeartbeats 4000000 in
set_option maxRecDepth 100000 in
theorem t_X7_bias_b20 {p : Program} {l : Launch} {e : Env} {s : State} {m : MethodId} {args : Array Value} {below : List Frame} {meth : Method} {c : Code} {D : va_G} {tc : Tc} {ad : Nat → Nat} {A : Nat → Prop} {M : St} {rr : Int32} {II : St} (hX : cx p s m args c cX7_bias 4 RX7 D tc ad A) (hr : meth.sig.returnType = some .int) (hlk : meth.locks = false) : ∀ (I : St), f_X7_bias_b20 I = some (rr, II) → ∀ (H : Heap) (locs : List Loc) (ls : Array Slot), va_P D vwCl (wl tc ad (cmb I M)) H → va_S A s.heap H locs → lv_has ls 4 [] → W p l e rm_X7_bias s m args below meth c H locs 0 0 (MQ below (qi D tc ad A rr (cmb II M)) args s 0 0 A) (F0 m 20 ls []) := by
  intro I h H locs ls hP hS hl
  unfold f_X7_bias_b20 at h
  have hx := hX.1
  have hb := hX.2.1
  have hown := hX.2.2.2.1
  have hts := hX.2.2.2.2.1
  have hA := hX.2.2.2.2.2.2
  refine lv_iconst (v := (-1)) hx hb dX7_bias_20 kc_im1 ?_
  cases h
  exact j_iret hX hr hlk hP hS dX7_bias_21
set_option maxHeartbeats 4000000 in
set_option maxRecDepth 100000 in
theorem c_X7_bias {l : Launch} {D : va_G} {tc : Tc} {ad : Nat → Nat} {A : Nat → Prop} (hA : adok ad A) {I M : St} {v1 : Int32} {v2 : Int32} {rr : Int32} {II : St} (h : f_X7_bias v1 v2 I = some (rr, II)) : Met l yX7_bias (Cond.code yX7_bias cX7_bias 4 (some .int) :: tw) rm_X7_bias (pre D tc ad [.ref (ad 145), .int v1, .int v2] (cmb I M)) (qi D tc ad A rr (cmb II M)) 0 0 A := by
  unfold f_X7_bias at h
  refine mk_met (own := RX7) (by decide +kernel) rfl hA (Nat.le_of_ble_eq_true rfl) ?_
  intro p e s m below meth c ls hX hr hlk hl hP hS
  have hl : lv_has ls 4 [(0, .ref (ad 145)), (1, .int v1), (2, .int v2)] := hl
  have hx := hX.1
  have hb := hX.2.1
  have hown := hX.2.2.2.1
  have hts := hX.2.2.2.2.1
  refine lv_iload_n hx hb dX7_bias_0 rfl (lv_at hl 1 rfl) ?_
  refine lv_iconst (v := 0) hx hb dX7_bias_1 kc_i0 ?_
  refine lv_sipush (v := 255) hx hb dX7_bias_2 kc_s255 ?_
  obtain ⟨r2, e1, h⟩ := ob1_some h
  refine j_i (j_runS (rest := []) hX hP hl.1 Y_X7_isWithin (c_X7_isWithin hA e1) ⟨rfl, rfl⟩ q258 ⟨Nat.le_of_ble_eq_true rfl, Nat.le_of_ble_eq_true rfl⟩ rfl rfl (Nat.le_of_ble_eq_true rfl) dX7_bias_5) hS (fun H locs hP hS => ?_)
  refine x_if_eq (tgt := 20) hx hb dX7_bias_8 (by decide) h (fun c3 h => ?_) (fun c3 h => ?_)
  · exact t_X7_bias_b20 hX hr hlk  _ h _ _ _ hP hS (lv_sub hl [] rfl)
  · refine lv_iload_n hx hb dX7_bias_11 rfl (lv_at hl 2 rfl) ?_
    refine lv_iconst (v := 1) hx hb dX7_bias_12 kc_i1 ?_
    refine lv_iconst (v := 4) hx hb dX7_bias_13 kc_i4 ?_
    obtain ⟨r5, e4, h⟩ := ob1_some h
    refine j_i (j_runS (rest := []) hX hP hl.1 Y_X7_isWithin (c_X7_isWithin hA e4) ⟨rfl, rfl⟩ q258 ⟨Nat.le_of_ble_eq_true rfl, Nat.le_of_ble_eq_true rfl⟩ rfl rfl (Nat.le_of_ble_eq_true rfl) dX7_bias_14) hS (fun H locs hP hS => ?_)
    refine x_if_ne (tgt := 22) hx hb dX7_bias_17 (by decide) h (fun c6 h => ?_) (fun c6 h => ?_)
    · refine lv_aload_n hx hb dX7_bias_22 rfl (lv_at hl 0 rfl) ?_
      refine r_getq (t := 0) hX hP cok5 0 sl_145 sk_145 (by decide) rfl q243 dX7_bias_23 ?_
      refine lv_iload_n hx hb dX7_bias_26 rfl (lv_at hl 1 rfl) ?_
      obtain ⟨r8, e7, h⟩ := ob1_some h
      refine j_i (j_runV (rest := []) hX hP hl.1 Y_X4_canConspire cok3 (lt157 sl_0) sk_0 (c_X4_canConspire hA e7) ⟨rfl, rfl⟩ q462 ⟨Nat.le_of_ble_eq_true rfl, Nat.le_of_ble_eq_true rfl⟩ rfl rfl (Nat.le_of_ble_eq_true rfl) dX7_bias_27) hS (fun H locs hP hS => ?_)
      refine x_if_ne (tgt := 36) hx hb dX7_bias_30 (by decide) h (fun c9 h => ?_) (fun c9 h => ?_)
      · refine lv_aload_n hx hb dX7_bias_36 rfl (lv_at hl 0 rfl) ?_
        refine r_getq (t := 0) hX hP cok5 0 sl_145 sk_145 (by decide) rfl q243 dX7_bias_37 ?_
        refine r_get hX hP cok3 10 sl_0 sk_0 (by decide) rfl q166 dX7_bias_40 ?_
        refine x_let h (fun x10 h => ?_)
        refine lv_iload_n hx hb dX7_bias_43 rfl (lv_at hl 1 rfl) ?_
        refine lv_iconst (v := (-1)) hx hb dX7_bias_44 kc_im1 ?_
        refine lv_ixor hx hb dX7_bias_45 ?_
        refine lv_iand hx hb dX7_bias_46 ?_
        refine x_let h (fun x11 h => ?_)
        refine lv_istore_n (lv' := [(3, .int x11), (0, .ref (ad 145)), (1, .int v1), (2, .int v2)]) hx hb dX7_bias_47 rfl hl (Nat.le_of_ble_eq_true rfl) rfl (fun ls hl => ?_)
        refine lv_iload_n hx hb dX7_bias_48 rfl (lv_at hl 3 rfl) ?_
        refine lv_iload_n hx hb dX7_bias_49 rfl (lv_at hl 0 rfl) ?_
        obtain ⟨r13, e12, h⟩ := ob1_some h
        refine j_i (j_runS (rest := [.int v2]) hX hP hl.1 Y_J6_bitCount_0f7a4 (c_J6_bitCount_0f7a4 hA e12) ⟨rfl, rfl⟩ q504 ⟨Nat.le_of_ble_eq_true rfl, Nat.le_of_ble_eq_true rfl⟩ rfl rfl (Nat.le_of_ble_eq_true rfl) dX7_bias_50) hS (fun H locs hP hS => ?_)
        refine lv_imul hx hb dX7_bias_53 ?_
        refine x_let h (fun x14 h => ?_)
        refine lv_bipush (v := 12) hx hb dX7_bias_54 kc_b12 ?_
        refine x_icmp_le (tgt := 62) hx hb dX7_bias_56 (by decide) h (fun c15 h => ?_) (fun c15 h => ?_)
        · refine lv_aload_n hx hb dX7_bias_62 rfl (lv_at hl 1 rfl) ?_
          refine r_getq (t := 148) hX hP cok5 2 sl_145 sk_145 (by decide) rfl q245 dX7_bias_63 ?_
          refine lv_aload_n hx hb dX7_bias_66 rfl (lv_at hl 1 rfl) ?_
          refine r_getq (t := 0) hX hP cok5 0 sl_145 sk_145 (by decide) rfl q243 dX7_bias_67 ?_
          refine lv_iload_n hx hb dX7_bias_70 rfl (lv_at hl 2 rfl) ?_
          obtain ⟨I17, e16, h⟩ := ob1_some h
          refine j_v (j_runV (rest := []) hX hP hl.1 Y_X1_gather cok1 (lt157 sl_148) sk_148 (c_X1_gather hA e16) ⟨rfl, rfl⟩ q466 ⟨Nat.le_of_ble_eq_true rfl, Nat.le_of_ble_eq_true rfl⟩ rfl rfl (Nat.le_of_ble_eq_true rfl) dX7_bias_71) hS (fun H locs hP hS => ?_)
          refine lv_aload_n hx hb dX7_bias_74 rfl (lv_at hl 1 rfl) ?_
          refine r_getq (t := 148) hX hP cok5 2 sl_145 sk_145 (by decide) rfl q245 dX7_bias_75 ?_
          refine lv_aload_n hx hb dX7_bias_78 rfl (lv_at hl 1 rfl) ?_
          refine r_getq (t := 0) hX hP cok5 0 sl_145 sk_145 (by decide) rfl q243 dX7_bias_79 ?_
          refine lv_iload_n hx hb dX7_bias_82 rfl (lv_at hl 0 rfl) ?_
          refine lv_iload_n hx hb dX7_bias_83 rfl (lv_at hl 3 rfl) ?_
          obtain ⟨r20, I19, e18, h⟩ := ob2_some h
          refine j_i (j_runV (rest := []) hX hP hl.1 Y_X1_countForced cok1 (lt157 sl_148) sk_148 (c_X1_countForced hA e18) ⟨rfl, rfl⟩ q505 ⟨Nat.le_of_ble_eq_true rfl, Nat.le_of_ble_eq_true rfl⟩ rfl rfl (Nat.le_of_ble_eq_true rfl) dX7_bias_84) hS (fun H locs hP hS => ?_)
          cases h
          exact j_iret hX hr hlk hP hS dX7_bias_87
        · refine lv_bipush (v := (-3)) hx hb dX7_bias_59 kc_bm3 ?_
          cases h
          exact j_iret hX hr hlk hP hS dX7_bias_61
      · refine lv_bipush (v := (-2)) hx hb dX7_bias_33 kc_bm2 ?_
        cases h
        exact j_iret hX hr hlk hP hS dX7_bias_35
    · exact t_X7_bias_b20 hX hr hlk  _ h _ _ _ hP hS (lv_sub hl [] rfl)
/-! OwnerlessCoin.account(II)I -/
def rm_X7_account : Room := { frames := 1, cells := 0, slots := 0, locals := 22 }
theorem Y_X7_account : yv yX7_account cX7_account 4 (some .int) 2 RX7 := ⟨q330, q328, q329, q12, by decide +kernel⟩
set_option maxHeartbeats 4000000 in
set_option maxRecDepth 100000 in
theorem t_X7_account_b20 {p : Program} {l : Launch} {e : Env} {s : State} {m : MethodId} {args : Array Value} {below : List Frame} {meth : Method} {c : Code} {D : va_G} {tc : Tc} {ad : Nat → Nat} {A : Nat → Prop} {M : St} {rr : Int32} (hX : cx p s m args c cX7_account 4 RX7 D tc ad A) (hr : meth.sig.returnType = some .int) (hlk : meth.locks = false) : ∀ (I : St), f_X7_account_b20 I = some rr → ∀ (H : Heap) (locs : List Loc) (ls : Array Slot), va_P D vwCl (wl tc ad (cmb I M)) H → va_S A s.heap H locs → lv_has ls 4 [] → W p l e rm_X7_account s m args below meth c H locs 0 0 (MQ below (qi D tc ad A rr (cmb I M)) args s 0 0 A) (F0 m 20 ls []) := by
  intro I h H locs ls hP hS hl
  unfold f_X7_account_b20 at h
  have hx := hX.1
  have hb := hX.2.1
  have hown := hX.2.2.2.1
  have hts := hX.2.2.2.2.1
  have hA := hX.2.2.2.2.2.2
  refine lv_iconst (v := (-1)) hx hb dX7_account_20 kc_im1 ?_
  cases h
  exact j_iret hX hr hlk hP hS dX7_account_21
set_option maxHeartbeats 4000000 in
set_option maxRecDepth 100000 in
theorem c_X7_account {l : Launch} {D : va_G} {tc : Tc} {ad : Nat → Nat} {A : Nat → Prop} (hA : adok ad A) {I M : St} {v1 : Int32} {v2 : Int32} {rr : Int32} (h : f_X7_account v1 v2 I = some rr) : Met l yX7_account (Cond.code yX7_account cX7_account 4 (some .int) :: tw) rm_X7_account (pre D tc ad [.ref (ad 145), .int v1, .int v2] (cmb I M)) (qi D tc ad A rr (cmb I M)) 0 0 A := by
  unfold f_X7_account at h
  refine mk_met (own := RX7) (by decide +kernel) rfl hA (Nat.le_of_ble_eq_true rfl) ?_
  intro p e s m below meth c ls hX hr hlk hl hP hS
  have hl : lv_has ls 4 [(0, .ref (ad 145)), (1, .int v1), (2, .int v2)] := hl
  have hx := hX.1
  have hb := hX.2.1
  have hown := hX.2.2.2.1
  have hts := hX.2.2.2.2.1
  refine lv_aload_n hx hb dX7_account_0 rfl (lv_at hl 0 rfl) ?_
  refine r_getq (t := 0) hX hP cok5 0 sl_145 sk_145 (by decide) rfl q243 dX7_account_1 ?_
  refine lv_iload_n hx hb dX7_account_4 rfl (lv_at hl 1 rfl) ?_
  obtain ⟨r2, e1, h⟩ := ob1_some h
  refine j_i (j_runV (rest := []) hX hP hl.1 Y_X4_isParticipant cok3 (lt157 sl_0) sk_0 (c_X4_isParticipant hA e1) ⟨rfl, rfl⟩ q331 ⟨Nat.le_of_ble_eq_true rfl, Nat.le_of_ble_eq_true rfl⟩ rfl rfl (Nat.le_of_ble_eq_true rfl) dX7_account_5) hS (fun H locs hP hS => ?_)
  refine x_if_eq (tgt := 20) hx hb dX7_account_8 (by decide) h (fun c3 h => ?_) (fun c3 h => ?_)
  · exact t_X7_account_b20 hX hr hlk  _ h _ _ _ hP hS (lv_sub hl [] rfl)
  · refine lv_iload_n hx hb dX7_account_11 rfl (lv_at hl 2 rfl) ?_
    refine lv_iconst (v := 0) hx hb dX7_account_12 kc_i0 ?_
    refine lv_iconst (v := 4) hx hb dX7_account_13 kc_i4 ?_
    obtain ⟨r5, e4, h⟩ := ob1_some h
    refine j_i (j_runS (rest := []) hX hP hl.1 Y_X7_isWithin (c_X7_isWithin hA e4) ⟨rfl, rfl⟩ q258 ⟨Nat.le_of_ble_eq_true rfl, Nat.le_of_ble_eq_true rfl⟩ rfl rfl (Nat.le_of_ble_eq_true rfl) dX7_account_14) hS (fun H locs hP hS => ?_)
    refine x_if_ne (tgt := 22) hx hb dX7_account_17 (by decide) h (fun c6 h => ?_) (fun c6 h => ?_)
    · refine lv_aload_n hx hb dX7_account_22 rfl (lv_at hl 0 rfl) ?_
      refine r_getq (t := 0) hX hP cok5 0 sl_145 sk_145 (by decide) rfl q243 dX7_account_23 ?_
      refine r_getq (t := 1) hX hP cok3 0 sl_0 sk_0 (by decide) rfl q139 dX7_account_26 ?_
      refine lv_iload_n hx hb dX7_account_29 rfl (lv_at hl 1 rfl) ?_
      refine r_ldq hX hP h (lt157 sl_1) sk_1 sn_1 dX7_account_30 (fun g7 h => ?_)
      refine lv_astore_n (lv' := [(3, .ref (ad (5 + v1.toNatClampNeg))), (0, .ref (ad 145)), (1, .int v1), (2, .int v2)]) hx hb dX7_account_31 rfl hl (Nat.le_of_ble_eq_true rfl) rfl (fun ls hl => ?_)
      refine lv_iload_n hx hb dX7_account_32 rfl (lv_at hl 3 rfl) ?_
      by_cases c8 : v2 = 0
      · rw [if_pos c8] at h
        refine lv_tableIn (tgt := 64) hx hb dX7_account_33 (by rw [c8]; decide) (by rw [c8]; decide) (by rw [c8]; rfl) (by decide) ?_
        refine lv_aload_n hx hb dX7_account_64 rfl (lv_at hl 0 rfl) ?_
        refine r_get hX hP cok4 0 (isP_lt (isP_of g7)) (isP_kd (isP_of g7)) (by decide) rfl q85 dX7_account_65 ?_
        cases h
        exact j_iret hX hr hlk hP hS dX7_account_68
      rw [if_neg c8] at h
      by_cases c9 : v2 = 1
      · rw [if_pos c9] at h
        refine lv_tableIn (tgt := 69) hx hb dX7_account_33 (by rw [c9]; decide) (by rw [c9]; decide) (by rw [c9]; rfl) (by decide) ?_
        refine lv_aload_n hx hb dX7_account_69 rfl (lv_at hl 0 rfl) ?_
        refine r_get hX hP cok4 2 (isP_lt (isP_of g7)) (isP_kd (isP_of g7)) (by decide) rfl q91 dX7_account_70 ?_
        cases h
        exact j_iret hX hr hlk hP hS dX7_account_73
      rw [if_neg c9] at h
      by_cases c10 : v2 = 2
      · rw [if_pos c10] at h
        refine lv_tableIn (tgt := 74) hx hb dX7_account_33 (by rw [c10]; decide) (by rw [c10]; decide) (by rw [c10]; rfl) (by decide) ?_
        refine lv_aload_n hx hb dX7_account_74 rfl (lv_at hl 0 rfl) ?_
        refine r_get hX hP cok4 3 (isP_lt (isP_of g7)) (isP_kd (isP_of g7)) (by decide) rfl q94 dX7_account_75 ?_
        cases h
        exact j_iret hX hr hlk hP hS dX7_account_78
      rw [if_neg c10] at h
      by_cases c11 : v2 = 3
      · rw [if_pos c11] at h
        refine lv_tableIn (tgt := 79) hx hb dX7_account_33 (by rw [c11]; decide) (by rw [c11]; decide) (by rw [c11]; rfl) (by decide) ?_
        refine lv_aload_n hx hb dX7_account_79 rfl (lv_at hl 0 rfl) ?_
        refine r_get hX hP cok4 4 (isP_lt (isP_of g7)) (isP_kd (isP_of g7)) (by decide) rfl q97 dX7_account_80 ?_
        cases h
        exact j_iret hX hr hlk hP hS dX7_account_83
      rw [if_neg c11] at h
      refine lv_tableOut (tgt := 84) hx hb dX7_account_33 (sw_out4 c8 c9 c10 c11) (by decide) ?_
      refine lv_aload_n hx hb dX7_account_84 rfl (lv_at hl 0 rfl) ?_
      refine r_get hX hP cok4 1 (isP_lt (isP_of g7)) (isP_kd (isP_of g7)) (by decide) rfl q87 dX7_account_85 ?_
      cases h
      exact j_iret hX hr hlk hP hS dX7_account_88
    · exact t_X7_account_b20 hX hr hlk  _ h _ _ _ hP hS (lv_sub hl [] rfl)
/-! OwnerlessCoin.pot()I -/
def rm_X7_pot : Room := { frames := 0, cells := 0, slots := 0, locals := 0 }
theorem Y_X7_pot : yv yX7_pot cX7_pot 1 (some .int) 0 RX7 := ⟨q326, q324, q325, q12, by decide +kernel⟩
set_option maxHeartbeats 4000000 in
set_option maxRecDepth 100000 in
theorem c_X7_pot {l : Launch} {D : va_G} {tc : Tc} {ad : Nat → Nat} {A : Nat → Prop} (hA : adok ad A) {I M : St}  {rr : Int32} (h : f_X7_pot I = some rr) : Met l yX7_pot (Cond.code yX7_pot cX7_pot 1 (some .int) :: tw) rm_X7_pot (pre D tc ad [.ref (ad 145)] (cmb I M)) (qi D tc ad A rr (cmb I M)) 0 0 A := by
  unfold f_X7_pot at h
  refine mk_met (own := RX7) (by decide +kernel) rfl hA (Nat.le_of_ble_eq_true rfl) ?_
  intro p e s m below meth c ls hX hr hlk hl hP hS
  have hl : lv_has ls 1 [(0, .ref (ad 145))] := hl
  have hx := hX.1
  have hb := hX.2.1
  have hown := hX.2.2.2.1
  have hts := hX.2.2.2.2.1
  refine lv_aload_n hx hb dX7_pot_0 rfl (lv_at hl 0 rfl) ?_
  refine r_getq (t := 0) hX hP cok5 0 sl_145 sk_145 (by decide) rfl q243 dX7_pot_1 ?_
  refine r_get hX hP cok3 4 sl_0 sk_0 (by decide) rfl q150 dX7_pot_4 ?_
  cases h
  exact j_iret hX hr hlk hP hS dX7_pot_7
