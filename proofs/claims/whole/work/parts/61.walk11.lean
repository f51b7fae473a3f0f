/-! OwnerlessCoinModel.close()I -/
def rm_X8_close : Room := { frames := 6, cells := 0, slots := 0, locals := 141 }
theorem Y_X8_close : yv yX8_close cX8_close 1 (some .int) 0 RX8 := ⟨q970, q968, q969, q57, by decide +kernel⟩
set_option maxHeartbeats 4000000 in
set_option maxRecDepth 100000 in
theorem c_X8_close {l : Launch} {D : va_G} {tc : Tc} {ad : Nat → Nat} {A : Nat → Prop} (hA : adok ad A) {I M : St}  {rr : Int32} {II : St} (h : f_X8_close M = some (rr, II)) : Met l yX8_close (Cond.code yX8_close cX8_close 1 (some .int) :: tw) rm_X8_close (pre D tc ad [.ref (ad 152)] (cmb I M)) (qi D tc ad A rr (cmb I II)) 0 0 A := by
  unfold f_X8_close at h
  refine mk_met (own := RX8) (by decide +kernel) rfl hA (Nat.le_of_ble_eq_true rfl) ?_
  intro p e s m below meth c ls hX hr hlk hl hP hS
  have hl : lv_has ls 1 [(0, .ref (ad 152))] := hl
  have hx := hX.1
  have hb := hX.2.1
  have hown := hX.2.2.2.1
  have hts := hX.2.2.2.2.1
  refine lv_aload_n hx hb dX8_close_0 rfl (lv_at hl 0 rfl) ?_
  refine m_getq (t := 153) hX hP cok6 0 sge_152 s157_152 sk_152 (by decide) rfl q780 dX8_close_1 ?_
  refine lv_iconst (v := 0) hx hb dX8_close_4 kc_i0 ?_
  refine m_ald hX hP h (sge_153) s157_153 sk_153 sn_153 dX8_close_5 (fun h => ?_)
  refine x_let h (fun x1 h => ?_)
  refine lv_iconst (v := 2) hx hb dX8_close_6 kc_i2 ?_
  refine x_icmp_eq (tgt := 13) hx hb dX8_close_7 (by decide) h (fun c2 h => ?_) (fun c2 h => ?_)
  · refine lv_aload_n hx hb dX8_close_13 rfl (lv_at hl 0 rfl) ?_
    obtain ⟨M4, e3, h⟩ := ob1_some h
    refine j_v (j_runV (rest := []) hX hP hl.1 Y_X8_act cok6 (s157_152) sk_152 (c_X8_act hA e3) ⟨rfl, rfl⟩ q810 ⟨Nat.le_of_ble_eq_true rfl, Nat.le_of_ble_eq_true rfl⟩ rfl rfl (Nat.le_of_ble_eq_true rfl) dX8_close_14) hS (fun H locs hP hS => ?_)
    refine lv_aload_n hx hb dX8_close_17 rfl (lv_at hl 0 rfl) ?_
    obtain ⟨r7, M6, e5, h⟩ := ob2_some h
    refine j_i (j_runV (rest := []) hX hP hl.1 Y_X8_closes cok6 (s157_152) sk_152 (c_X8_closes hA e5) ⟨rfl, rfl⟩ q971 ⟨Nat.le_of_ble_eq_true rfl, Nat.le_of_ble_eq_true rfl⟩ rfl rfl (Nat.le_of_ble_eq_true rfl) dX8_close_18) hS (fun H locs hP hS => ?_)
    cases h
    exact j_iret hX hr hlk hP hS dX8_close_21
  · refine lv_bipush (v := (-2)) hx hb dX8_close_10 kc_bm2 ?_
    cases h
    exact j_iret hX hr hlk hP hS dX8_close_12
/-! OwnerlessCoinModel.nextMember(I)I -/
def rm_X8_nextMember : Room := { frames := 3, cells := 0, slots := 0, locals := 65 }
theorem Y_X8_nextMember : yv yX8_nextMember cX8_nextMember 5 (some .int) 1 RX8 := ⟨q1002, q1001, q41, q57, by decide +kernel⟩
set_option maxHeartbeats 4000000 in
set_option maxRecDepth 100000 in
theorem t_X8_nextMember_b44 {p : Program} {l : Launch} {e : Env} {s : State} {m : MethodId} {args : Array Value} {below : List Frame} {meth : Method} {c : Code} {D : va_G} {tc : Tc} {ad : Nat → Nat} {A : Nat → Prop} {I : St} {rr : Int32} (hX : cx p s m args c cX8_nextMember 5 RX8 D tc ad A) (hr : meth.sig.returnType = some .int) (hlk : meth.locks = false) : ∀ (v3 : Int32) (M : St), f_X8_nextMember_b44 v3 M = some rr → ∀ (H : Heap) (locs : List Loc) (ls : Array Slot), va_P D vwCl (wl tc ad (cmb I M)) H → va_S A s.heap H locs → lv_has ls 5 [(3, .int v3)] → W p l e rm_X8_nextMember s m args below meth c H locs 0 0 (MQ below (qi D tc ad A rr (cmb I M)) args s 0 0 A) (F0 m 44 ls []) := by
  intro v3 M h H locs ls hP hS hl
  unfold f_X8_nextMember_b44 at h
  have hx := hX.1
  have hb := hX.2.1
  have hown := hX.2.2.2.1
  have hts := hX.2.2.2.2.1
  have hA := hX.2.2.2.2.2.2
  refine lv_iload_n hx hb dX8_nextMember_44 rfl (lv_at hl 0 rfl) ?_
  cases h
  exact j_iret hX hr hlk hP hS dX8_nextMember_45
set_option maxHeartbeats 4000000 in
set_option maxRecDepth 100000 in
theorem t_X8_nextMember_l16 {p : Program} {l : Launch} {e : Env} {s : State} {m : MethodId} {args : Array Value} {below : List Frame} {meth : Method} {c : Code} {D : va_G} {tc : Tc} {ad : Nat → Nat} {A : Nat → Prop} {I : St} {rr : Int32} (hX : cx p s m args c cX8_nextMember 5 RX8 D tc ad A) (hr : meth.sig.returnType = some .int) (hlk : meth.locks = false) : ∀ (n : Nat), ∀ (v2 : Int32) (v3 : Int32) (v4 : Int32) (M : St), f_X8_nextMember_l16 n v2 v3 v4 M = some rr → ∀ (H : Heap) (locs : List Loc) (ls : Array Slot), va_P D vwCl (wl tc ad (cmb I M)) H → va_S A s.heap H locs → lv_has ls 5 [(2, .int v2), (3, .int v3), (4, .int v4)] → W p l e rm_X8_nextMember s m args below meth c H locs 0 0 (MQ below (qi D tc ad A rr (cmb I M)) args s 0 0 A) (F0 m 16 ls []) := by
  intro n
  induction n with
  | zero =>
    intro _ _ _ _ h
    cases h
  | succ n ih =>
    intro v2 v3 v4 M h H locs ls hP hS hl
    rw [f_X8_nextMember_l16] at h
    have hx := hX.1
    have hb := hX.2.1
    have hown := hX.2.2.2.1
    have hts := hX.2.2.2.2.1
    have hA := hX.2.2.2.2.2.2
    refine lv_iload hx hb dX8_nextMember_16 (lv_at hl 2 rfl) ?_
    refine lv_bipush (v := 8) hx hb dX8_nextMember_18 kc_b8 ?_
    refine x_icmp_ge (tgt := 44) hx hb dX8_nextMember_20 (by decide) h (fun c1 h => ?_) (fun c1 h => ?_)
    · exact t_X8_nextMember_b44 hX hr hlk  _ _ h _ _ _ hP hS (lv_sub hl [1] rfl)
    · refine lv_iload_n hx hb dX8_nextMember_23 rfl (lv_at hl 0 rfl) ?_
      refine lv_iload_n hx hb dX8_nextMember_24 rfl (lv_at hl 1 rfl) ?_
      refine lv_ishr hx hb dX8_nextMember_25 ?_
      refine x_let h (fun x2 h => ?_)
      refine lv_iconst (v := 1) hx hb dX8_nextMember_26 kc_i1 ?_
      refine lv_iand hx hb dX8_nextMember_27 ?_
      refine x_if_ne (tgt := 44) hx hb dX8_nextMember_28 (by decide) h (fun c3 h => ?_) (fun c3 h => ?_)
      · exact t_X8_nextMember_b44 hX hr hlk  _ _ h _ _ _ hP hS (lv_sub hl [1] rfl)
      · refine lv_iload_n hx hb dX8_nextMember_31 rfl (lv_at hl 1 rfl) ?_
        refine lv_iconst (v := 1) hx hb dX8_nextMember_32 kc_i1 ?_
        refine lv_iadd hx hb dX8_nextMember_33 ?_
        refine x_let h (fun x4 h => ?_)
        refine lv_bipush (v := 8) hx hb dX8_nextMember_34 kc_b8 ?_
        refine lv_irem hx hb dX8_nextMember_36 (by decide) ?_
        refine x_let h (fun x5 h => ?_)
        refine lv_istore_n (lv' := [(3, .int x5), (2, .int v2), (4, .int v4)]) hx hb dX8_nextMember_37 rfl hl (Nat.le_of_ble_eq_true rfl) rfl (fun ls hl => ?_)
        refine lv_iinc (v := (v4 + 1)) (lv' := [(4, .int (v4 + 1)), (3, .int x5), (2, .int v2)]) hx hb dX8_nextMember_38 hl (k := 2) rfl rfl (Nat.le_of_ble_eq_true rfl) rfl (fun ls hl => ?_)
        refine lv_goto (tgt := 16) hx hb dX8_nextMember_41 (by decide) ?_
        exact ih _ _ _ _ h _ _ _ hP hS (lv_sub hl [2, 1, 0] rfl)
set_option maxHeartbeats 4000000 in
set_option maxRecDepth 100000 in
theorem c_X8_nextMember {l : Launch} {D : va_G} {tc : Tc} {ad : Nat → Nat} {A : Nat → Prop} (hA : adok ad A) {I M : St} {v1 : Int32} {rr : Int32} (h : f_X8_nextMember v1 M = some rr) : Met l yX8_nextMember (Cond.code yX8_nextMember cX8_nextMember 5 (some .int) :: tw) rm_X8_nextMember (pre D tc ad [.ref (ad 152), .int v1] (cmb I M)) (qi D tc ad A rr (cmb I M)) 0 0 A := by
  unfold f_X8_nextMember at h
  refine mk_met (own := RX8) (by decide +kernel) rfl hA (Nat.le_of_ble_eq_true rfl) ?_
  intro p e s m below meth c ls hX hr hlk hl hP hS
  have hl : lv_has ls 5 [(0, .ref (ad 152)), (1, .int v1)] := hl
  have hx := hX.1
  have hb := hX.2.1
  have hown := hX.2.2.2.1
  have hts := hX.2.2.2.2.1
  refine lv_aload_n hx hb dX8_nextMember_0 rfl (lv_at hl 0 rfl) ?_
  refine lv_iconst (v := 5) hx hb dX8_nextMember_1 kc_i5 ?_
  obtain ⟨r7, e6, h⟩ := ob1_some h
  refine j_i (j_runV (rest := []) hX hP hl.1 Y_X8_setOf cok6 (s157_152) sk_152 (c_X8_setOf hA e6) ⟨rfl, rfl⟩ q952 ⟨Nat.le_of_ble_eq_true rfl, Nat.le_of_ble_eq_true rfl⟩ rfl rfl (Nat.le_of_ble_eq_true rfl) dX8_nextMember_2) hS (fun H locs hP hS => ?_)
  refine lv_istore_n (lv' := [(2, .int r7), (0, .ref (ad 152)), (1, .int v1)]) hx hb dX8_nextMember_5 rfl hl (Nat.le_of_ble_eq_true rfl) rfl (fun ls hl => ?_)
  refine lv_iload_n hx hb dX8_nextMember_6 rfl (lv_at hl 2 rfl) ?_
  refine lv_iconst (v := 1) hx hb dX8_nextMember_7 kc_i1 ?_
  refine lv_iadd hx hb dX8_nextMember_8 ?_
  refine x_let h (fun x8 h => ?_)
  refine lv_bipush (v := 8) hx hb dX8_nextMember_9 kc_b8 ?_
  refine lv_irem hx hb dX8_nextMember_11 (by decide) ?_
  refine x_let h (fun x9 h => ?_)
  refine lv_istore_n (lv' := [(3, .int x9), (2, .int r7), (0, .ref (ad 152)), (1, .int v1)]) hx hb dX8_nextMember_12 rfl hl (Nat.le_of_ble_eq_true rfl) rfl (fun ls hl => ?_)
  refine lv_iconst (v := 0) hx hb dX8_nextMember_13 kc_i0 ?_
  refine lv_istore (lv' := [(4, .int 0), (3, .int x9), (2, .int r7), (0, .ref (ad 152)), (1, .int v1)]) hx hb dX8_nextMember_14 hl (Nat.le_of_ble_eq_true rfl) rfl (fun ls hl => ?_)
  exact t_X8_nextMember_l16 hX hr hlk  10000 _ _ _ _ h _ _ _ hP hS (lv_sub hl [2, 1, 0] rfl)
/-! OwnerlessCoinModel.plays(I)V -/
def rm_X8_plays : Room := { frames := 4, cells := 0, slots := 0, locals := 91 }
theorem Y_X8_plays : yv yX8_plays cX8_plays 6 none 1 RX8 := ⟨q994, q993, q39, q57, by decide +kernel⟩
set_option maxHeartbeats 4000000 in
set_option maxRecDepth 100000 in
theorem t_X8_plays_b74 {p : Program} {l : Launch} {e : Env} {s : State} {m : MethodId} {args : Array Value} {below : List Frame} {meth : Method} {c : Code} {D : va_G} {tc : Tc} {ad : Nat → Nat} {A : Nat → Prop} {I : St} {II : St} (hX : cx p s m args c cX8_plays 6 RX8 D tc ad A) (hr : meth.sig.returnType = none) (hlk : meth.locks = false) {K4 : Int32 → Int32 → St → Option (St)} (hK4 : ∀ (v2 : Int32) (v3 : Int32) (M : St), K4 v2 v3 M = some II → ∀ (H : Heap) (locs : List Loc) (ls : Array Slot), va_P D vwCl (wl tc ad (cmb I M)) H → va_S A s.heap H locs → lv_has ls 6 [(0, .ref (ad 152)), (2, .int v2), (3, .int v3)] → W p l e rm_X8_plays s m args below meth c H locs 0 0 (MQ below (qv D tc ad A (cmb I II)) args s 0 0 A) (F0 m 4 ls [])) : ∀ (v2 : Int32) (v3 : Int32) (M : St), f_X8_plays_b74 K4 v2 v3 M = some II → ∀ (H : Heap) (locs : List Loc) (ls : Array Slot), va_P D vwCl (wl tc ad (cmb I M)) H → va_S A s.heap H locs → lv_has ls 6 [(0, .ref (ad 152)), (2, .int v2), (3, .int v3)] → W p l e rm_X8_plays s m args below meth c H locs 0 0 (MQ below (qv D tc ad A (cmb I II)) args s 0 0 A) (F0 m 74 ls []) := by
  intro v2 v3 M h H locs ls hP hS hl
  unfold f_X8_plays_b74 at h
  have hx := hX.1
  have hb := hX.2.1
  have hown := hX.2.2.2.1
  have hts := hX.2.2.2.2.1
  have hA := hX.2.2.2.2.2.2
  refine lv_iinc (v := (v3 + 1)) (lv' := [(3, .int (v3 + 1)), (0, .ref (ad 152)), (2, .int v2)]) hx hb dX8_plays_74 hl (k := 2) rfl rfl (Nat.le_of_ble_eq_true rfl) rfl (fun ls hl => ?_)
  refine lv_goto (tgt := 4) hx hb dX8_plays_77 (by decide) ?_
  exact hK4 _ _ _ h _ _ _ hP hS (lv_sub hl [1, 2, 0] rfl)
set_option maxHeartbeats 4000000 in
set_option maxRecDepth 100000 in
theorem t_X8_plays_l4 {p : Program} {l : Launch} {e : Env} {s : State} {m : MethodId} {args : Array Value} {below : List Frame} {meth : Method} {c : Code} {D : va_G} {tc : Tc} {ad : Nat → Nat} {A : Nat → Prop} {I : St} {II : St} (hX : cx p s m args c cX8_plays 6 RX8 D tc ad A) (hr : meth.sig.returnType = none) (hlk : meth.locks = false) : ∀ (n : Nat), ∀ (v2 : Int32) (v3 : Int32) (M : St), f_X8_plays_l4 n v2 v3 M = some II → ∀ (H : Heap) (locs : List Loc) (ls : Array Slot), va_P D vwCl (wl tc ad (cmb I M)) H → va_S A s.heap H locs → lv_has ls 6 [(0, .ref (ad 152)), (2, .int v2), (3, .int v3)] → W p l e rm_X8_plays s m args below meth c H locs 0 0 (MQ below (qv D tc ad A (cmb I II)) args s 0 0 A) (F0 m 4 ls []) := by
  intro n
  induction n with
  | zero =>
    intro _ _ _ h
    cases h
  | succ n ih =>
    intro v2 v3 M h H locs ls hP hS hl
    rw [f_X8_plays_l4] at h
    have hx := hX.1
    have hb := hX.2.1
    have hown := hX.2.2.2.1
    have hts := hX.2.2.2.2.1
    have hA := hX.2.2.2.2.2.2
    refine lv_iload_n hx hb dX8_plays_4 rfl (lv_at hl 2 rfl) ?_
    refine lv_aload_n hx hb dX8_plays_5 rfl (lv_at hl 0 rfl) ?_
    refine m_getq (t := 153) hX hP cok6 0 sge_152 s157_152 sk_152 (by decide) rfl q780 dX8_plays_6 ?_
    refine lv_iconst (v := 4) hx hb dX8_plays_9 kc_i4 ?_
    refine m_ald hX hP h (sge_153) s157_153 sk_153 sn_153 dX8_plays_10 (fun h => ?_)
    refine x_icmp_ge (tgt := 80) hx hb dX8_plays_11 (by decide) h (fun c1 h => ?_) (fun c1 h => ?_)
    · cases h
      exact j_vret hX hr hlk hP hS dX8_plays_80
    · refine lv_aload_n hx hb dX8_plays_14 rfl (lv_at hl 0 rfl) ?_
      refine lv_iload_n hx hb dX8_plays_15 rfl (lv_at hl 2 rfl) ?_
      refine lv_iconst (v := 5) hx hb dX8_plays_16 kc_i5 ?_
      obtain ⟨r3, e2, h⟩ := ob1_some h
      refine j_i (j_runV (rest := []) hX hP hl.1 Y_X8_has cok6 (s157_152) sk_152 (c_X8_has hA e2) ⟨rfl, rfl⟩ q865 ⟨Nat.le_of_ble_eq_true rfl, Nat.le_of_ble_eq_true rfl⟩ rfl rfl (Nat.le_of_ble_eq_true rfl) dX8_plays_17) hS (fun H locs hP hS => ?_)
      refine x_if_eq (tgt := 74) hx hb dX8_plays_20 (by decide) h (fun c4 h => ?_) (fun c4 h => ?_)
      · exact t_X8_plays_b74 hX hr hlk ih _ _ _ h _ _ _ hP hS (lv_sub hl [0, 1, 2] rfl)
      · refine lv_aload_n hx hb dX8_plays_23 rfl (lv_at hl 0 rfl) ?_
        refine lv_iload_n hx hb dX8_plays_24 rfl (lv_at hl 1 rfl) ?_
        refine m_put hX hP hS cok6 5 h sge_152 s157_152 sk_152 (by decide) rfl rfl q785 rfl dX8_plays_25 (fun M5 H locs h hP hS => ?_)
        refine lv_aload_n hx hb dX8_plays_28 rfl (lv_at hl 0 rfl) ?_
        obtain ⟨r8, M7, e6, h⟩ := ob2_some h
        refine j_i (j_runV (rest := []) hX hP hl.1 Y_X8_draw cok6 (s157_152) sk_152 (c_X8_draw hA e6) ⟨rfl, rfl⟩ q889 ⟨Nat.le_of_ble_eq_true rfl, Nat.le_of_ble_eq_true rfl⟩ rfl rfl (Nat.le_of_ble_eq_true rfl) dX8_plays_29) hS (fun H locs hP hS => ?_)
        refine lv_sipush (v := 1019) hx hb dX8_plays_32 kc_s1019 ?_
        refine lv_irem hx hb dX8_plays_35 (by decide) ?_
        refine x_let h (fun x9 h => ?_)
        refine lv_istore (lv' := [(4, .int x9), (0, .ref (ad 152)), (2, .int v2), (3, .int v3)]) hx hb dX8_plays_36 hl (Nat.le_of_ble_eq_true rfl) rfl (fun ls hl => ?_)
        refine lv_aload_n hx hb dX8_plays_38 rfl (lv_at hl 1 rfl) ?_
        obtain ⟨r12, M11, e10, h⟩ := ob2_some h
        refine j_i (j_runV (rest := []) hX hP hl.1 Y_X8_draw cok6 (s157_152) sk_152 (c_X8_draw hA e10) ⟨rfl, rfl⟩ q889 ⟨Nat.le_of_ble_eq_true rfl, Nat.le_of_ble_eq_true rfl⟩ rfl rfl (Nat.le_of_ble_eq_true rfl) dX8_plays_39) hS (fun H locs hP hS => ?_)
        refine lv_istore (lv' := [(5, .int r12), (4, .int x9), (0, .ref (ad 152)), (2, .int v2), (3, .int v3)]) hx hb dX8_plays_42 hl (Nat.le_of_ble_eq_true rfl) rfl (fun ls hl => ?_)
        refine lv_aload_n hx hb dX8_plays_44 rfl (lv_at hl 2 rfl) ?_
        refine m_get hX hP cok6 5 sge_152 s157_152 sk_152 (by decide) rfl q785 dX8_plays_45 ?_
        refine x_let h (fun x13 h => ?_)
        refine lv_istore_n (lv' := [(2, .int x13), (5, .int r12), (4, .int x9), (0, .ref (ad 152)), (3, .int v3)]) hx hb dX8_plays_48 rfl hl (Nat.le_of_ble_eq_true rfl) rfl (fun ls hl => ?_)
        refine lv_aload_n hx hb dX8_plays_49 rfl (lv_at hl 3 rfl) ?_
        refine lv_iload_n hx hb dX8_plays_50 rfl (lv_at hl 4 rfl) ?_
        refine lv_aload_n hx hb dX8_plays_51 rfl (lv_at hl 3 rfl) ?_
        refine lv_iload hx hb dX8_plays_52 (lv_at hl 2 rfl) ?_
        refine lv_iload hx hb dX8_plays_54 (lv_at hl 1 rfl) ?_
        obtain ⟨r15, e14, h⟩ := ob1_some h
        refine j_i (j_runV (rest := [.int v3, .ref (ad 152)]) hX hP hl.1 Y_X8_digestOf cok6 (s157_152) sk_152 (c_X8_digestOf hA e14) ⟨rfl, rfl⟩ q869 ⟨Nat.le_of_ble_eq_true rfl, Nat.le_of_ble_eq_true rfl⟩ rfl rfl (Nat.le_of_ble_eq_true rfl) dX8_plays_56) hS (fun H locs hP hS => ?_)
        obtain ⟨r17, e16, h⟩ := ob1_some h
        refine j_i (j_runV (rest := []) hX hP hl.1 Y_X8_isCopy cok6 (s157_152) sk_152 (c_X8_isCopy hA e16) ⟨rfl, rfl⟩ q877 ⟨Nat.le_of_ble_eq_true rfl, Nat.le_of_ble_eq_true rfl⟩ rfl rfl (Nat.le_of_ble_eq_true rfl) dX8_plays_59) hS (fun H locs hP hS => ?_)
        refine x_if_ne (tgt := 74) hx hb dX8_plays_62 (by decide) h (fun c18 h => ?_) (fun c18 h => ?_)
        · exact t_X8_plays_b74 hX hr hlk ih _ _ _ h _ _ _ hP hS (lv_sub hl [3, 0, 4] rfl)
        · refine lv_aload_n hx hb dX8_plays_65 rfl (lv_at hl 3 rfl) ?_
          refine lv_iload_n hx hb dX8_plays_66 rfl (lv_at hl 4 rfl) ?_
          refine lv_iload hx hb dX8_plays_67 (lv_at hl 2 rfl) ?_
          refine lv_iload hx hb dX8_plays_69 (lv_at hl 1 rfl) ?_
          obtain ⟨M20, e19, h⟩ := ob1_some h
          refine j_v (j_runV (rest := []) hX hP hl.1 Y_X8_commits cok6 (s157_152) sk_152 (c_X8_commits hA e19) ⟨rfl, rfl⟩ q881 ⟨Nat.le_of_ble_eq_true rfl, Nat.le_of_ble_eq_true rfl⟩ rfl rfl (Nat.le_of_ble_eq_true rfl) dX8_plays_71) hS (fun H locs hP hS => ?_)
          exact t_X8_plays_b74 hX hr hlk ih _ _ _ h _ _ _ hP hS (lv_sub hl [3, 0, 4] rfl)
set_option maxHeartbeats 4000000 in
set_option maxRecDepth 100000 in
theorem c_X8_plays {l : Launch} {D : va_G} {tc : Tc} {ad : Nat → Nat} {A : Nat → Prop} (hA : adok ad A) {I M : St} {v1 : Int32} {II : St} (h : f_X8_plays v1 M = some II) : Met l yX8_plays (Cond.code yX8_plays cX8_plays 6 none :: tw) rm_X8_plays (pre D tc ad [.ref (ad 152), .int v1] (cmb I M)) (qv D tc ad A (cmb I II)) 0 0 A := by
  unfold f_X8_plays at h
  refine mk_met (own := RX8) (by decide +kernel) rfl hA (Nat.le_of_ble_eq_true rfl) ?_
  intro p e s m below meth c ls hX hr hlk hl hP hS
  have hl : lv_has ls 6 [(0, .ref (ad 152)), (1, .int v1)] := hl
  have hx := hX.1
  have hb := hX.2.1
  have hown := hX.2.2.2.1
  have hts := hX.2.2.2.2.1
  refine lv_iload_n hx hb dX8_plays_0 rfl (lv_at hl 1 rfl) ?_
  refine lv_istore_n (lv' := [(2, .int v1), (0, .ref (ad 152)), (1, .int v1)]) hx hb dX8_plays_1 rfl hl (Nat.le_of_ble_eq_true rfl) rfl (fun ls hl => ?_)
  refine lv_iconst (v := 0) hx hb dX8_plays_2 kc_i0 ?_
  refine lv_istore_n (lv' := [(3, .int 0), (2, .int v1), (0, .ref (ad 152)), (1, .int v1)]) hx hb dX8_plays_3 rfl hl (Nat.le_of_ble_eq_true rfl) rfl (fun ls hl => ?_)
  exact t_X8_plays_l4 hX hr hlk  10000 _ _ _ h _ _ _ hP hS (lv_sub hl [2, 1, 0] rfl)
/-! OwnerlessCoinModel.cheats()V -/
def rm_X8_cheats : Room := { frames := 5, cells := 0, slots := 0, locals := 107 }
theorem Y_X8_cheats : yv yX8_cheats cX8_cheats 4 none 0 RX8 := ⟨q998, q997, q40, q57, by decide +kernel⟩
set_option maxHeartbeats 4000000 in
set_option maxRecDepth 100000 in
theorem t_X8_cheats_b46 {p : Program} {l : Launch} {e : Env} {s : State} {m : MethodId} {args : Array Value} {below : List Frame} {meth : Method} {c : Code} {D : va_G} {tc : Tc} {ad : Nat → Nat} {A : Nat → Prop} {I : St} {II : St} (hX : cx p s m args c cX8_cheats 4 RX8 D tc ad A) (hr : meth.sig.returnType = none) (hlk : meth.locks = false) {K2 : Int32 → St → Option (St)} (hK2 : ∀ (v1 : Int32) (M : St), K2 v1 M = some II → ∀ (H : Heap) (locs : List Loc) (ls : Array Slot), va_P D vwCl (wl tc ad (cmb I M)) H → va_S A s.heap H locs → lv_has ls 4 [(0, .ref (ad 152)), (1, .int v1)] → W p l e rm_X8_cheats s m args below meth c H locs 0 0 (MQ below (qv D tc ad A (cmb I II)) args s 0 0 A) (F0 m 2 ls [])) : ∀ (v1 : Int32) (M : St), f_X8_cheats_b46 K2 v1 M = some II → ∀ (H : Heap) (locs : List Loc) (ls : Array Slot), va_P D vwCl (wl tc ad (cmb I M)) H → va_S A s.heap H locs → lv_has ls 4 [(0, .ref (ad 152)), (1, .int v1)] → W p l e rm_X8_cheats s m args below meth c H locs 0 0 (MQ below (qv D tc ad A (cmb I II)) args s 0 0 A) (F0 m 46 ls []) := by
  intro v1 M h H locs ls hP hS hl
  unfold f_X8_cheats_b46 at h
  have hx := hX.1
  have hb := hX.2.1
  have hown := hX.2.2.2.1
  have hts := hX.2.2.2.2.1
  have hA := hX.2.2.2.2.2.2
  refine lv_iinc (v := (v1 + 1)) (lv' := [(1, .int (v1 + 1)), (0, .ref (ad 152))]) hx hb dX8_cheats_46 hl (k := 1) rfl rfl (Nat.le_of_ble_eq_true rfl) rfl (fun ls hl => ?_)
  refine lv_goto (tgt := 2) hx hb dX8_cheats_49 (by decide) ?_
  exact hK2 _ _ h _ _ _ hP hS (lv_sub hl [1, 0] rfl)
set_option maxHeartbeats 4000000 in
set_option maxRecDepth 100000 in
theorem t_X8_cheats_b106 {p : Program} {l : Launch} {e : Env} {s : State} {m : MethodId} {args : Array Value} {below : List Frame} {meth : Method} {c : Code} {D : va_G} {tc : Tc} {ad : Nat → Nat} {A : Nat → Prop} {I : St} {II : St} (hX : cx p s m args c cX8_cheats 4 RX8 D tc ad A) (hr : meth.sig.returnType = none) (hlk : meth.locks = false) {K54 : Int32 → St → Option (St)} (hK54 : ∀ (v1 : Int32) (M : St), K54 v1 M = some II → ∀ (H : Heap) (locs : List Loc) (ls : Array Slot), va_P D vwCl (wl tc ad (cmb I M)) H → va_S A s.heap H locs → lv_has ls 4 [(0, .ref (ad 152)), (1, .int v1)] → W p l e rm_X8_cheats s m args below meth c H locs 0 0 (MQ below (qv D tc ad A (cmb I II)) args s 0 0 A) (F0 m 54 ls [])) {K66 : Int32 → Int32 → St → Option (St)} (hK66 : ∀ (v1 : Int32) (v2 : Int32) (M : St), K66 v1 v2 M = some II → ∀ (H : Heap) (locs : List Loc) (ls : Array Slot), va_P D vwCl (wl tc ad (cmb I M)) H → va_S A s.heap H locs → lv_has ls 4 [(0, .ref (ad 152)), (1, .int v1), (2, .int v2)] → W p l e rm_X8_cheats s m args below meth c H locs 0 0 (MQ below (qv D tc ad A (cmb I II)) args s 0 0 A) (F0 m 66 ls [])) : ∀ (v1 : Int32) (v2 : Int32) (M : St), f_X8_cheats_b106 K54 K66 v1 v2 M = some II → ∀ (H : Heap) (locs : List Loc) (ls : Array Slot), va_P D vwCl (wl tc ad (cmb I M)) H → va_S A s.heap H locs → lv_has ls 4 [(0, .ref (ad 152)), (1, .int v1), (2, .int v2)] → W p l e rm_X8_cheats s m args below meth c H locs 0 0 (MQ below (qv D tc ad A (cmb I II)) args s 0 0 A) (F0 m 106 ls []) := by
  intro v1 v2 M h H locs ls hP hS hl
  unfold f_X8_cheats_b106 at h
  have hx := hX.1
  have hb := hX.2.1
  have hown := hX.2.2.2.1
  have hts := hX.2.2.2.2.1
  have hA := hX.2.2.2.2.2.2
  refine lv_iinc (v := (v2 + 1)) (lv' := [(2, .int (v2 + 1)), (0, .ref (ad 152)), (1, .int v1)]) hx hb dX8_cheats_106 hl (k := 2) rfl rfl (Nat.le_of_ble_eq_true rfl) rfl (fun ls hl => ?_)
  refine lv_goto (tgt := 66) hx hb dX8_cheats_109 (by decide) ?_
  exact hK66 _ _ _ h _ _ _ hP hS (lv_sub hl [1, 2, 0] rfl)
set_option maxHeartbeats 4000000 in
set_option maxRecDepth 100000 in
theorem t_X8_cheats_l66 {p : Program} {l : Launch} {e : Env} {s : State} {m : MethodId} {args : Array Value} {below : List Frame} {meth : Method} {c : Code} {D : va_G} {tc : Tc} {ad : Nat → Nat} {A : Nat → Prop} {I : St} {II : St} (hX : cx p s m args c cX8_cheats 4 RX8 D tc ad A) (hr : meth.sig.returnType = none) (hlk : meth.locks = false) {K54 : Int32 → St → Option (St)} (hK54 : ∀ (v1 : Int32) (M : St), K54 v1 M = some II → ∀ (H : Heap) (locs : List Loc) (ls : Array Slot), va_P D vwCl (wl tc ad (cmb I M)) H → va_S A s.heap H locs → lv_has ls 4 [(0, .ref (ad 152)), (1, .int v1)] → W p l e rm_X8_cheats s m args below meth c H locs 0 0 (MQ below (qv D tc ad A (cmb I II)) args s 0 0 A) (F0 m 54 ls [])) : ∀ (n : Nat), ∀ (v1 : Int32) (v2 : Int32) (M : St), f_X8_cheats_l66 K54 n v1 v2 M = some II → ∀ (H : Heap) (locs : List Loc) (ls : Array Slot), va_P D vwCl (wl tc ad (cmb I M)) H → va_S A s.heap H locs → lv_has ls 4 [(0, .ref (ad 152)), (1, .int v1), (2, .int v2)] → W p l e rm_X8_cheats s m args below meth c H locs 0 0 (MQ below (qv D tc ad A (cmb I II)) args s 0 0 A) (F0 m 66 ls []) := by
  intro n
  induction n with
  | zero =>
    intro _ _ _ h
    cases h
  | succ n ih =>
    intro v1 v2 M h H locs ls hP hS hl
    rw [f_X8_cheats_l66] at h
    have hx := hX.1
    have hb := hX.2.1
    have hown := hX.2.2.2.1
    have hts := hX.2.2.2.2.1
    have hA := hX.2.2.2.2.2.2
    refine lv_iload_n hx hb dX8_cheats_66 rfl (lv_at hl 2 rfl) ?_
    refine lv_aload_n hx hb dX8_cheats_67 rfl (lv_at hl 0 rfl) ?_
    refine m_getq (t := 153) hX hP cok6 0 sge_152 s157_152 sk_152 (by decide) rfl q780 dX8_cheats_68 ?_
    refine lv_iconst (v := 4) hx hb dX8_cheats_71 kc_i4 ?_
    refine m_ald hX hP h (sge_153) s157_153 sk_153 sn_153 dX8_cheats_72 (fun h => ?_)
    refine x_icmp_ge (tgt := 112) hx hb dX8_cheats_73 (by decide) h (fun c1 h => ?_) (fun c1 h => ?_)
    · refine lv_iinc (v := (v1 + 1)) (lv' := [(1, .int (v1 + 1)), (0, .ref (ad 152)), (2, .int v2)]) hx hb dX8_cheats_112 hl (k := 1) rfl rfl (Nat.le_of_ble_eq_true rfl) rfl (fun ls hl => ?_)
      refine lv_goto (tgt := 54) hx hb dX8_cheats_115 (by decide) ?_
      exact hK54 _ _ h _ _ _ hP hS (lv_sub hl [1, 0] rfl)
    · refine lv_iload_n hx hb dX8_cheats_76 rfl (lv_at hl 2 rfl) ?_
      refine lv_iload_n hx hb dX8_cheats_77 rfl (lv_at hl 1 rfl) ?_
      refine x_icmp_eq (tgt := 106) hx hb dX8_cheats_78 (by decide) h (fun c2 h => ?_) (fun c2 h => ?_)
      · exact t_X8_cheats_b106 hX hr hlk hK54 ih _ _ _ h _ _ _ hP hS (lv_sub hl [0, 1, 2] rfl)
      · refine lv_aload_n hx hb dX8_cheats_81 rfl (lv_at hl 0 rfl) ?_
        refine lv_iload_n hx hb dX8_cheats_82 rfl (lv_at hl 2 rfl) ?_
        refine lv_iload_n hx hb dX8_cheats_83 rfl (lv_at hl 1 rfl) ?_
        obtain ⟨r4, e3, h⟩ := ob1_some h
        refine j_i (j_runV (rest := []) hX hP hl.1 Y_X8_hasShare cok6 (s157_152) sk_152 (c_X8_hasShare hA e3) ⟨rfl, rfl⟩ q908 ⟨Nat.le_of_ble_eq_true rfl, Nat.le_of_ble_eq_true rfl⟩ rfl rfl (Nat.le_of_ble_eq_true rfl) dX8_cheats_84) hS (fun H locs hP hS => ?_)
        refine x_if_eq (tgt := 106) hx hb dX8_cheats_87 (by decide) h (fun c5 h => ?_) (fun c5 h => ?_)
        · exact t_X8_cheats_b106 hX hr hlk hK54 ih _ _ _ h _ _ _ hP hS (lv_sub hl [0, 1, 2] rfl)
        · refine lv_aload_n hx hb dX8_cheats_90 rfl (lv_at hl 0 rfl) ?_
          refine lv_iload_n hx hb dX8_cheats_91 rfl (lv_at hl 2 rfl) ?_
          refine lv_iload_n hx hb dX8_cheats_92 rfl (lv_at hl 1 rfl) ?_
          obtain ⟨r7, e6, h⟩ := ob1_some h
          refine j_i (j_runV (rest := []) hX hP hl.1 Y_X8_isGood cok6 (s157_152) sk_152 (c_X8_isGood hA e6) ⟨rfl, rfl⟩ q936 ⟨Nat.le_of_ble_eq_true rfl, Nat.le_of_ble_eq_true rfl⟩ rfl rfl (Nat.le_of_ble_eq_true rfl) dX8_cheats_93) hS (fun H locs hP hS => ?_)
          refine x_if_ne (tgt := 106) hx hb dX8_cheats_96 (by decide) h (fun c8 h => ?_) (fun c8 h => ?_)
          · exact t_X8_cheats_b106 hX hr hlk hK54 ih _ _ _ h _ _ _ hP hS (lv_sub hl [0, 1, 2] rfl)
          · refine lv_aload_n hx hb dX8_cheats_99 rfl (lv_at hl 0 rfl) ?_
            refine lv_iload_n hx hb dX8_cheats_100 rfl (lv_at hl 1 rfl) ?_
            refine lv_iload_n hx hb dX8_cheats_101 rfl (lv_at hl 2 rfl) ?_
            obtain ⟨r11, M10, e9, h⟩ := ob2_some h
            refine j_i (j_runV (rest := []) hX hP hl.1 Y_X8_complains cok6 (s157_152) sk_152 (c_X8_complains hA e9) ⟨rfl, rfl⟩ q932 ⟨Nat.le_of_ble_eq_true rfl, Nat.le_of_ble_eq_true rfl⟩ rfl rfl (Nat.le_of_ble_eq_true rfl) dX8_cheats_102) hS (fun H locs hP hS => ?_)
            refine lv_istore_n (lv' := [(3, .int r11), (0, .ref (ad 152)), (1, .int v1), (2, .int v2)]) hx hb dX8_cheats_105 rfl hl (Nat.le_of_ble_eq_true rfl) rfl (fun ls hl => ?_)
            exact t_X8_cheats_b106 hX hr hlk hK54 ih _ _ _ h _ _ _ hP hS (lv_sub hl [1, 2, 3] rfl)
set_option maxHeartbeats 4000000 in
set_option maxRecDepth 100000 in
theorem t_X8_cheats_l54 {p : Program} {l : Launch} {e : Env} {s : State} {m : MethodId} {args : Array Value} {below : List Frame} {meth : Method} {c : Code} {D : va_G} {tc : Tc} {ad : Nat → Nat} {A : Nat → Prop} {I : St} {II : St} (hX : cx p s m args c cX8_cheats 4 RX8 D tc ad A) (hr : meth.sig.returnType = none) (hlk : meth.locks = false) : ∀ (n : Nat), ∀ (v1 : Int32) (M : St), f_X8_cheats_l54 n v1 M = some II → ∀ (H : Heap) (locs : List Loc) (ls : Array Slot), va_P D vwCl (wl tc ad (cmb I M)) H → va_S A s.heap H locs → lv_has ls 4 [(0, .ref (ad 152)), (1, .int v1)] → W p l e rm_X8_cheats s m args below meth c H locs 0 0 (MQ below (qv D tc ad A (cmb I II)) args s 0 0 A) (F0 m 54 ls []) := by
  intro n
  induction n with
  | zero =>
    intro _ _ h
    cases h
  | succ n ih =>
    intro v1 M h H locs ls hP hS hl
    rw [f_X8_cheats_l54] at h
    have hx := hX.1
    have hb := hX.2.1
    have hown := hX.2.2.2.1
    have hts := hX.2.2.2.2.1
    have hA := hX.2.2.2.2.2.2
    refine lv_iload_n hx hb dX8_cheats_54 rfl (lv_at hl 1 rfl) ?_
    refine lv_aload_n hx hb dX8_cheats_55 rfl (lv_at hl 0 rfl) ?_
    refine m_getq (t := 153) hX hP cok6 0 sge_152 s157_152 sk_152 (by decide) rfl q780 dX8_cheats_56 ?_
    refine lv_iconst (v := 4) hx hb dX8_cheats_59 kc_i4 ?_
    refine m_ald hX hP h (sge_153) s157_153 sk_153 sn_153 dX8_cheats_60 (fun h => ?_)
    refine x_icmp_ge (tgt := 118) hx hb dX8_cheats_61 (by decide) h (fun c12 h => ?_) (fun c12 h => ?_)
    · cases h
      exact j_vret hX hr hlk hP hS dX8_cheats_118
    · refine lv_iconst (v := 0) hx hb dX8_cheats_64 kc_i0 ?_
      refine lv_istore_n (lv' := [(2, .int 0), (0, .ref (ad 152)), (1, .int v1)]) hx hb dX8_cheats_65 rfl hl (Nat.le_of_ble_eq_true rfl) rfl (fun ls hl => ?_)
      exact t_X8_cheats_l66 hX hr hlk ih 10000 _ _ _ h _ _ _ hP hS (lv_sub hl [1, 2, 0] rfl)
set_option maxHeartbeats 4000000 in
set_option maxRecDepth 100000 in
theorem t_X8_cheats_l2 {p : Program} {l : Launch} {e : Env} {s : State} {m : MethodId} {args : Array Value} {below : List Frame} {meth : Method} {c : Code} {D : va_G} {tc : Tc} {ad : Nat → Nat} {A : Nat → Prop} {I : St} {II : St} (hX : cx p s m args c cX8_cheats 4 RX8 D tc ad A) (hr : meth.sig.returnType = none) (hlk : meth.locks = false) : ∀ (n : Nat), ∀ (v1 : Int32) (M : St), f_X8_cheats_l2 n v1 M = some II → ∀ (H : Heap) (locs : List Loc) (ls : Array Slot), va_P D vwCl (wl tc ad (cmb I M)) H → va_S A s.heap H locs → lv_has ls 4 [(0, .ref (ad 152)), (1, .int v1)] → W p l e rm_X8_cheats s m args below meth c H locs 0 0 (MQ below (qv D tc ad A (cmb I II)) args s 0 0 A) (F0 m 2 ls []) := by
  intro n
  induction n with
  | zero =>
    intro _ _ h
    cases h
  | succ n ih =>
    intro v1 M h H locs ls hP hS hl
    rw [f_X8_cheats_l2] at h
    have hx := hX.1
    have hb := hX.2.1
    have hown := hX.2.2.2.1
    have hts := hX.2.2.2.2.1
    have hA := hX.2.2.2.2.2.2
    refine lv_iload_n hx hb dX8_cheats_2 rfl (lv_at hl 1 rfl) ?_
    refine lv_aload_n hx hb dX8_cheats_3 rfl (lv_at hl 0 rfl) ?_
    refine m_getq (t := 153) hX hP cok6 0 sge_152 s157_152 sk_152 (by decide) rfl q780 dX8_cheats_4 ?_
    refine lv_iconst (v := 4) hx hb dX8_cheats_7 kc_i4 ?_
    refine m_ald hX hP h (sge_153) s157_153 sk_153 sn_153 dX8_cheats_8 (fun h => ?_)
    refine x_icmp_ge (tgt := 52) hx hb dX8_cheats_9 (by decide) h (fun c13 h => ?_) (fun c13 h => ?_)
    · refine lv_iconst (v := 0) hx hb dX8_cheats_52 kc_i0 ?_
      refine lv_istore_n (lv' := [(1, .int 0), (0, .ref (ad 152))]) hx hb dX8_cheats_53 rfl hl (Nat.le_of_ble_eq_true rfl) rfl (fun ls hl => ?_)
      exact t_X8_cheats_l54 hX hr hlk  10000 _ _ h _ _ _ hP hS (lv_sub hl [1, 0] rfl)
    · refine lv_aload_n hx hb dX8_cheats_12 rfl (lv_at hl 0 rfl) ?_
      refine lv_iload_n hx hb dX8_cheats_13 rfl (lv_at hl 1 rfl) ?_
      obtain ⟨r15, e14, h⟩ := ob1_some h
      refine j_i (j_runV (rest := []) hX hP hl.1 Y_X8_hasShares cok6 (s157_152) sk_152 (c_X8_hasShares hA e14) ⟨rfl, rfl⟩ q912 ⟨Nat.le_of_ble_eq_true rfl, Nat.le_of_ble_eq_true rfl⟩ rfl rfl (Nat.le_of_ble_eq_true rfl) dX8_cheats_14) hS (fun H locs hP hS => ?_)
      refine x_if_eq (tgt := 46) hx hb dX8_cheats_17 (by decide) h (fun c16 h => ?_) (fun c16 h => ?_)
      · exact t_X8_cheats_b46 hX hr hlk ih _ _ h _ _ _ hP hS (lv_sub hl [0, 1] rfl)
      · refine lv_aload_n hx hb dX8_cheats_20 rfl (lv_at hl 0 rfl) ?_
        refine m_getq (t := 153) hX hP cok6 0 sge_152 s157_152 sk_152 (by decide) rfl q780 dX8_cheats_21 ?_
        refine lv_iload_n hx hb dX8_cheats_24 rfl (lv_at hl 1 rfl) ?_
        obtain ⟨r18, e17, h⟩ := ob1_some h
        refine j_i (j_runS (rest := [.ref (ad 153)]) hX hP hl.1 Y_X8_person (c_X8_person hA e17) ⟨rfl, rfl⟩ q814 ⟨Nat.le_of_ble_eq_true rfl, Nat.le_of_ble_eq_true rfl⟩ rfl rfl (Nat.le_of_ble_eq_true rfl) dX8_cheats_25) hS (fun H locs hP hS => ?_)
        refine lv_iconst (v := 4) hx hb dX8_cheats_28 kc_i4 ?_
        refine lv_iadd hx hb dX8_cheats_29 ?_
        refine x_let h (fun x19 h => ?_)
        refine m_ald hX hP h (sge_153) s157_153 sk_153 sn_153 dX8_cheats_30 (fun h => ?_)
        refine x_let h (fun x20 h => ?_)
        refine lv_iconst (v := 3) hx hb dX8_cheats_31 kc_i3 ?_
        refine x_icmp_ne (tgt := 46) hx hb dX8_cheats_32 (by decide) h (fun c21 h => ?_) (fun c21 h => ?_)
        · exact t_X8_cheats_b46 hX hr hlk ih _ _ h _ _ _ hP hS (lv_sub hl [0, 1] rfl)
        · refine lv_aload_n hx hb dX8_cheats_35 rfl (lv_at hl 0 rfl) ?_
          refine lv_iload_n hx hb dX8_cheats_36 rfl (lv_at hl 1 rfl) ?_
          refine lv_aload_n hx hb dX8_cheats_37 rfl (lv_at hl 0 rfl) ?_
          refine lv_iload_n hx hb dX8_cheats_38 rfl (lv_at hl 1 rfl) ?_
          obtain ⟨r23, e22, h⟩ := ob1_some h
          refine j_i (j_runV (rest := [.int v1, .ref (ad 152)]) hX hP hl.1 Y_X8_nextMember cok6 (s157_152) sk_152 (c_X8_nextMember hA e22) ⟨rfl, rfl⟩ q999 ⟨Nat.le_of_ble_eq_true rfl, Nat.le_of_ble_eq_true rfl⟩ rfl rfl (Nat.le_of_ble_eq_true rfl) dX8_cheats_39) hS (fun H locs hP hS => ?_)
          refine lv_iconst (v := 1) hx hb dX8_cheats_42 kc_i1 ?_
          obtain ⟨M25, e24, h⟩ := ob1_some h
          refine j_v (j_runV (rest := []) hX hP hl.1 Y_X8_spoils cok6 (s157_152) sk_152 (c_X8_spoils hA e24) ⟨rfl, rfl⟩ q920 ⟨Nat.le_of_ble_eq_true rfl, Nat.le_of_ble_eq_true rfl⟩ rfl rfl (Nat.le_of_ble_eq_true rfl) dX8_cheats_43) hS (fun H locs hP hS => ?_)
          exact t_X8_cheats_b46 hX hr hlk ih _ _ h _ _ _ hP hS (lv_sub hl [0, 1] rfl)
set_option maxHeartbeats 4000000 in
set_option maxRecDepth 100000 in
theorem c_X8_cheats {l : Launch} {D : va_G} {tc : Tc} {ad : Nat → Nat} {A : Nat → Prop} (hA : adok ad A) {I M : St}  {II : St} (h : f_X8_cheats M = some II) : Met l yX8_cheats (Cond.code yX8_cheats cX8_cheats 4 none :: tw) rm_X8_cheats (pre D tc ad [.ref (ad 152)] (cmb I M)) (qv D tc ad A (cmb I II)) 0 0 A := by
  unfold f_X8_cheats at h
  refine mk_met (own := RX8) (by decide +kernel) rfl hA (Nat.le_of_ble_eq_true rfl) ?_
  intro p e s m below meth c ls hX hr hlk hl hP hS
  have hl : lv_has ls 4 [(0, .ref (ad 152))] := hl
  have hx := hX.1
  have hb := hX.2.1
  have hown := hX.2.2.2.1
  have hts := hX.2.2.2.2.1
  refine lv_iconst (v := 0) hx hb dX8_cheats_0 kc_i0 ?_
  refine lv_istore_n (lv' := [(1, .int 0), (0, .ref (ad 152))]) hx hb dX8_cheats_1 rfl hl (Nat.le_of_ble_eq_true rfl) rfl (fun ls hl => ?_)
  exact t_X8_cheats_l2 hX hr hlk  10000 _ _ h _ _ _ hP hS (lv_sub hl [1, 0] rfl)
/-! OwnerlessCoinModel.decides()V -/
def rm_X8_decides : Room := { frames := 6, cells := 0, slots := 0, locals := 136 }
theorem Y_X8_decides : yv yX8_decides cX8_decides 4 none 0 RX8 := ⟨q1006, q1005, q42, q57, by decide +kernel⟩
set_option maxHeartbeats 4000000 in
set_option maxRecDepth 100000 in
theorem t_X8_decides_b58 {p : Program} {l : Launch} {e : Env} {s : State} {m : MethodId} {args : Array Value} {below : List Frame} {meth : Method} {c : Code} {D : va_G} {tc : Tc} {ad : Nat → Nat} {A : Nat → Prop} {I : St} {II : St} (hX : cx p s m args c cX8_decides 4 RX8 D tc ad A) (hr : meth.sig.returnType = none) (hlk : meth.locks = false) {K2 : Int32 → St → Option (St)} (hK2 : ∀ (v1 : Int32) (M : St), K2 v1 M = some II → ∀ (H : Heap) (locs : List Loc) (ls : Array Slot), va_P D vwCl (wl tc ad (cmb I M)) H → va_S A s.heap H locs → lv_has ls 4 [(0, .ref (ad 152)), (1, .int v1)] → W p l e rm_X8_decides s m args below meth c H locs 0 0 (MQ below (qv D tc ad A (cmb I II)) args s 0 0 A) (F0 m 2 ls [])) : ∀ (v1 : Int32) (t1 : Int32) (t2 : Int32) (M : St), f_X8_decides_b58 K2 v1 t1 t2 M = some II → ∀ (H : Heap) (locs : List Loc) (ls : Array Slot), va_P D vwCl (wl tc ad (cmb I M)) H → va_S A s.heap H locs → lv_has ls 4 [(0, .ref (ad 152)), (1, .int v1)] → W p l e rm_X8_decides s m args below meth c H locs 0 0 (MQ below (qv D tc ad A (cmb I II)) args s 0 0 A) (F0 m 58 ls [.int t2, .int t1, .ref (ad 153)]) := by
  intro v1 t1 t2 M h H locs ls hP hS hl
  unfold f_X8_decides_b58 at h
  have hx := hX.1
  have hb := hX.2.1
  have hown := hX.2.2.2.1
  have hts := hX.2.2.2.2.1
  have hA := hX.2.2.2.2.2.2
  refine m_ast hX hP hS h (sge_153) s157_153 sk_153 sn_153 dX8_decides_58 (fun M1 H locs h hP hS => ?_)
  refine lv_iinc (v := (v1 + 1)) (lv' := [(1, .int (v1 + 1)), (0, .ref (ad 152))]) hx hb dX8_decides_59 hl (k := 1) rfl rfl (Nat.le_of_ble_eq_true rfl) rfl (fun ls hl => ?_)
  refine lv_goto (tgt := 2) hx hb dX8_decides_62 (by decide) ?_
  exact hK2 _ _ h _ _ _ hP hS (lv_sub hl [1, 0] rfl)
set_option maxHeartbeats 4000000 in
set_option maxRecDepth 100000 in
theorem t_X8_decides_b53 {p : Program} {l : Launch} {e : Env} {s : State} {m : MethodId} {args : Array Value} {below : List Frame} {meth : Method} {c : Code} {D : va_G} {tc : Tc} {ad : Nat → Nat} {A : Nat → Prop} {I : St} {II : St} (hX : cx p s m args c cX8_decides 4 RX8 D tc ad A) (hr : meth.sig.returnType = none) (hlk : meth.locks = false) {K2 : Int32 → St → Option (St)} (hK2 : ∀ (v1 : Int32) (M : St), K2 v1 M = some II → ∀ (H : Heap) (locs : List Loc) (ls : Array Slot), va_P D vwCl (wl tc ad (cmb I M)) H → va_S A s.heap H locs → lv_has ls 4 [(0, .ref (ad 152)), (1, .int v1)] → W p l e rm_X8_decides s m args below meth c H locs 0 0 (MQ below (qv D tc ad A (cmb I II)) args s 0 0 A) (F0 m 2 ls [])) : ∀ (v1 : Int32) (t1 : Int32) (M : St), f_X8_decides_b53 K2 v1 t1 M = some II → ∀ (H : Heap) (locs : List Loc) (ls : Array Slot), va_P D vwCl (wl tc ad (cmb I M)) H → va_S A s.heap H locs → lv_has ls 4 [(0, .ref (ad 152)), (1, .int v1)] → W p l e rm_X8_decides s m args below meth c H locs 0 0 (MQ below (qv D tc ad A (cmb I II)) args s 0 0 A) (F0 m 53 ls [.int t1, .ref (ad 153)]) := by
  intro v1 t1 M h H locs ls hP hS hl
  unfold f_X8_decides_b53 at h
  have hx := hX.1
  have hb := hX.2.1
  have hown := hX.2.2.2.1
  have hts := hX.2.2.2.2.1
  have hA := hX.2.2.2.2.2.2
  refine lv_iconst (v := 1) hx hb dX8_decides_53 kc_i1 ?_
  refine lv_goto (tgt := 58) hx hb dX8_decides_54 (by decide) ?_
  exact t_X8_decides_b58 hX hr hlk hK2 _ _ _ _ h _ _ _ hP hS (lv_sub hl [0, 1] rfl)
set_option maxHeartbeats 4000000 in
set_option maxRecDepth 100000 in
theorem t_X8_decides_b57 {p : Program} {l : Launch} {e : Env} {s : State} {m : MethodId} {args : Array Value} {below : List Frame} {meth : Method} {c : Code} {D : va_G} {tc : Tc} {ad : Nat → Nat} {A : Nat → Prop} {I : St} {II : St} (hX : cx p s m args c cX8_decides 4 RX8 D tc ad A) (hr : meth.sig.returnType = none) (hlk : meth.locks = false) {K2 : Int32 → St → Option (St)} (hK2 : ∀ (v1 : Int32) (M : St), K2 v1 M = some II → ∀ (H : Heap) (locs : List Loc) (ls : Array Slot), va_P D vwCl (wl tc ad (cmb I M)) H → va_S A s.heap H locs → lv_has ls 4 [(0, .ref (ad 152)), (1, .int v1)] → W p l e rm_X8_decides s m args below meth c H locs 0 0 (MQ below (qv D tc ad A (cmb I II)) args s 0 0 A) (F0 m 2 ls [])) : ∀ (v1 : Int32) (t1 : Int32) (M : St), f_X8_decides_b57 K2 v1 t1 M = some II → ∀ (H : Heap) (locs : List Loc) (ls : Array Slot), va_P D vwCl (wl tc ad (cmb I M)) H → va_S A s.heap H locs → lv_has ls 4 [(0, .ref (ad 152)), (1, .int v1)] → W p l e rm_X8_decides s m args below meth c H locs 0 0 (MQ below (qv D tc ad A (cmb I II)) args s 0 0 A) (F0 m 57 ls [.int t1, .ref (ad 153)]) := by
  intro v1 t1 M h H locs ls hP hS hl
  unfold f_X8_decides_b57 at h
  have hx := hX.1
  have hb := hX.2.1
  have hown := hX.2.2.2.1
  have hts := hX.2.2.2.2.1
  have hA := hX.2.2.2.2.2.2
  refine lv_iconst (v := 0) hx hb dX8_decides_57 kc_i0 ?_
  exact t_X8_decides_b58 hX hr hlk hK2 _ _ _ _ h _ _ _ hP hS (lv_sub hl [0, 1] rfl)
set_option maxHeartbeats 4000000 in
set_option maxRecDepth 100000 in
theorem t_X8_decides_b163 {p : Program} {l : Launch} {e : Env} {s : State} {m : MethodId} {args : Array Value} {below : List Frame} {meth : Method} {c : Code} {D : va_G} {tc : Tc} {ad : Nat → Nat} {A : Nat → Prop} {I : St} {II : St} (hX : cx p s m args c cX8_decides 4 RX8 D tc ad A) (hr : meth.sig.returnType = none) (hlk : meth.locks = false) {K67 : Int32 → St → Option (St)} (hK67 : ∀ (v1 : Int32) (M : St), K67 v1 M = some II → ∀ (H : Heap) (locs : List Loc) (ls : Array Slot), va_P D vwCl (wl tc ad (cmb I M)) H → va_S A s.heap H locs → lv_has ls 4 [(0, .ref (ad 152)), (1, .int v1)] → W p l e rm_X8_decides s m args below meth c H locs 0 0 (MQ below (qv D tc ad A (cmb I II)) args s 0 0 A) (F0 m 67 ls [])) : ∀ (v1 : Int32) (M : St), f_X8_decides_b163 K67 v1 M = some II → ∀ (H : Heap) (locs : List Loc) (ls : Array Slot), va_P D vwCl (wl tc ad (cmb I M)) H → va_S A s.heap H locs → lv_has ls 4 [(0, .ref (ad 152)), (1, .int v1)] → W p l e rm_X8_decides s m args below meth c H locs 0 0 (MQ below (qv D tc ad A (cmb I II)) args s 0 0 A) (F0 m 163 ls []) := by
  intro v1 M h H locs ls hP hS hl
  unfold f_X8_decides_b163 at h
  have hx := hX.1
  have hb := hX.2.1
  have hown := hX.2.2.2.1
  have hts := hX.2.2.2.2.1
  have hA := hX.2.2.2.2.2.2
  refine lv_iinc (v := (v1 + 1)) (lv' := [(1, .int (v1 + 1)), (0, .ref (ad 152))]) hx hb dX8_decides_163 hl (k := 1) rfl rfl (Nat.le_of_ble_eq_true rfl) rfl (fun ls hl => ?_)
  refine lv_goto (tgt := 67) hx hb dX8_decides_166 (by decide) ?_
  exact hK67 _ _ h _ _ _ hP hS (lv_sub hl [1, 0] rfl)
set_option maxHeartbeats 4000000 in
set_option maxRecDepth 100000 in
theorem t_X8_decides_b162 {p : Program} {l : Launch} {e : Env} {s : State} {m : MethodId} {args : Array Value} {below : List Frame} {meth : Method} {c : Code} {D : va_G} {tc : Tc} {ad : Nat → Nat} {A : Nat → Prop} {I : St} {II : St} (hX : cx p s m args c cX8_decides 4 RX8 D tc ad A) (hr : meth.sig.returnType = none) (hlk : meth.locks = false) {K67 : Int32 → St → Option (St)} (hK67 : ∀ (v1 : Int32) (M : St), K67 v1 M = some II → ∀ (H : Heap) (locs : List Loc) (ls : Array Slot), va_P D vwCl (wl tc ad (cmb I M)) H → va_S A s.heap H locs → lv_has ls 4 [(0, .ref (ad 152)), (1, .int v1)] → W p l e rm_X8_decides s m args below meth c H locs 0 0 (MQ below (qv D tc ad A (cmb I II)) args s 0 0 A) (F0 m 67 ls [])) : ∀ (v1 : Int32) (t1 : Int32) (t2 : Int32) (M : St), f_X8_decides_b162 K67 v1 t1 t2 M = some II → ∀ (H : Heap) (locs : List Loc) (ls : Array Slot), va_P D vwCl (wl tc ad (cmb I M)) H → va_S A s.heap H locs → lv_has ls 4 [(0, .ref (ad 152)), (1, .int v1)] → W p l e rm_X8_decides s m args below meth c H locs 0 0 (MQ below (qv D tc ad A (cmb I II)) args s 0 0 A) (F0 m 162 ls [.int t2, .int t1, .ref (ad 153)]) := by
  intro v1 t1 t2 M h H locs ls hP hS hl
  unfold f_X8_decides_b162 at h
  have hx := hX.1
  have hb := hX.2.1
  have hown := hX.2.2.2.1
  have hts := hX.2.2.2.2.1
  have hA := hX.2.2.2.2.2.2
  refine m_ast hX hP hS h (sge_153) s157_153 sk_153 sn_153 dX8_decides_162 (fun M2 H locs h hP hS => ?_)
  exact t_X8_decides_b163 hX hr hlk hK67 _ _ h _ _ _ hP hS (lv_sub hl [0, 1] rfl)
set_option maxHeartbeats 4000000 in
set_option maxRecDepth 100000 in
theorem t_X8_decides_b141 {p : Program} {l : Launch} {e : Env} {s : State} {m : MethodId} {args : Array Value} {below : List Frame} {meth : Method} {c : Code} {D : va_G} {tc : Tc} {ad : Nat → Nat} {A : Nat → Prop} {I : St} {II : St} (hX : cx p s m args c cX8_decides 4 RX8 D tc ad A) (hr : meth.sig.returnType = none) (hlk : meth.locks = false) {K67 : Int32 → St → Option (St)} (hK67 : ∀ (v1 : Int32) (M : St), K67 v1 M = some II → ∀ (H : Heap) (locs : List Loc) (ls : Array Slot), va_P D vwCl (wl tc ad (cmb I M)) H → va_S A s.heap H locs → lv_has ls 4 [(0, .ref (ad 152)), (1, .int v1)] → W p l e rm_X8_decides s m args below meth c H locs 0 0 (MQ below (qv D tc ad A (cmb I II)) args s 0 0 A) (F0 m 67 ls [])) : ∀ (v1 : Int32) (t0 : Int32) (M : St), f_X8_decides_b141 K67 v1 t0 M = some II → ∀ (H : Heap) (locs : List Loc) (ls : Array Slot), va_P D vwCl (wl tc ad (cmb I M)) H → va_S A s.heap H locs → lv_has ls 4 [(0, .ref (ad 152)), (1, .int v1)] → W p l e rm_X8_decides s m args below meth c H locs 0 0 (MQ below (qv D tc ad A (cmb I II)) args s 0 0 A) (F0 m 141 ls [.int t0]) := by
  intro v1 t0 M h H locs ls hP hS hl
  unfold f_X8_decides_b141 at h
  have hx := hX.1
  have hb := hX.2.1
  have hown := hX.2.2.2.1
  have hts := hX.2.2.2.2.1
  have hA := hX.2.2.2.2.2.2
  refine lv_istore_n (lv' := [(3, .int t0), (0, .ref (ad 152)), (1, .int v1)]) hx hb dX8_decides_141 rfl hl (Nat.le_of_ble_eq_true rfl) rfl (fun ls hl => ?_)
  refine lv_aload_n hx hb dX8_decides_142 rfl (lv_at hl 1 rfl) ?_
  refine m_getq (t := 153) hX hP cok6 0 sge_152 s157_152 sk_152 (by decide) rfl q780 dX8_decides_143 ?_
  refine lv_iload_n hx hb dX8_decides_146 rfl (lv_at hl 2 rfl) ?_
  obtain ⟨r4, e3, h⟩ := ob1_some h
  refine j_i (j_runS (rest := [.ref (ad 153)]) hX hP hl.1 Y_X8_person (c_X8_person hA e3) ⟨rfl, rfl⟩ q814 ⟨Nat.le_of_ble_eq_true rfl, Nat.le_of_ble_eq_true rfl⟩ rfl rfl (Nat.le_of_ble_eq_true rfl) dX8_decides_147) hS (fun H locs hP hS => ?_)
  refine lv_bipush (v := 7) hx hb dX8_decides_150 kc_b7 ?_
  refine lv_iadd hx hb dX8_decides_152 ?_
  refine x_let h (fun x5 h => ?_)
  refine lv_iload_n hx hb dX8_decides_153 rfl (lv_at hl 0 rfl) ?_
  refine x_if_eq (tgt := 161) hx hb dX8_decides_154 (by decide) h (fun c6 h => ?_) (fun c6 h => ?_)
  · refine lv_iconst (v := 1) hx hb dX8_decides_161 kc_i1 ?_
    exact t_X8_decides_b162 hX hr hlk hK67 _ _ _ _ h _ _ _ hP hS (lv_sub hl [1, 2] rfl)
  · refine lv_iconst (v := 0) hx hb dX8_decides_157 kc_i0 ?_
    refine lv_goto (tgt := 162) hx hb dX8_decides_158 (by decide) ?_
    exact t_X8_decides_b162 hX hr hlk hK67 _ _ _ _ h _ _ _ hP hS (lv_sub hl [1, 2] rfl)
set_option maxHeartbeats 4000000 in
set_option maxRecDepth 100000 in
theorem t_X8_decides_b140 {p : Program} {l : Launch} {e : Env} {s : State} {m : MethodId} {args : Array Value} {below : List Frame} {meth : Method} {c : Code} {D : va_G} {tc : Tc} {ad : Nat → Nat} {A : Nat → Prop} {I : St} {II : St} (hX : cx p s m args c cX8_decides 4 RX8 D tc ad A) (hr : meth.sig.returnType = none) (hlk : meth.locks = false) {K67 : Int32 → St → Option (St)} (hK67 : ∀ (v1 : Int32) (M : St), K67 v1 M = some II → ∀ (H : Heap) (locs : List Loc) (ls : Array Slot), va_P D vwCl (wl tc ad (cmb I M)) H → va_S A s.heap H locs → lv_has ls 4 [(0, .ref (ad 152)), (1, .int v1)] → W p l e rm_X8_decides s m args below meth c H locs 0 0 (MQ below (qv D tc ad A (cmb I II)) args s 0 0 A) (F0 m 67 ls [])) : ∀ (v1 : Int32) (M : St), f_X8_decides_b140 K67 v1 M = some II → ∀ (H : Heap) (locs : List Loc) (ls : Array Slot), va_P D vwCl (wl tc ad (cmb I M)) H → va_S A s.heap H locs → lv_has ls 4 [(0, .ref (ad 152)), (1, .int v1)] → W p l e rm_X8_decides s m args below meth c H locs 0 0 (MQ below (qv D tc ad A (cmb I II)) args s 0 0 A) (F0 m 140 ls []) := by
  intro v1 M h H locs ls hP hS hl
  unfold f_X8_decides_b140 at h
  have hx := hX.1
  have hb := hX.2.1
  have hown := hX.2.2.2.1
  have hts := hX.2.2.2.2.1
  have hA := hX.2.2.2.2.2.2
  refine lv_iconst (v := 0) hx hb dX8_decides_140 kc_i0 ?_
  exact t_X8_decides_b141 hX hr hlk hK67 _ _ _ h _ _ _ hP hS (lv_sub hl [0, 1] rfl)
set_option maxHeartbeats 4000000 in
set_option maxRecDepth 100000 in
theorem t_X8_decides_l67 {p : Program} {l : Launch} {e : Env} {s : State} {m : MethodId} {args : Array Value} {below : List Frame} {meth : Method} {c : Code} {D : va_G} {tc : Tc} {ad : Nat → Nat} {A : Nat → Prop} {I : St} {II : St} (hX : cx p s m args c cX8_decides 4 RX8 D tc ad A) (hr : meth.sig.returnType = none) (hlk : meth.locks = false) : ∀ (n : Nat), ∀ (v1 : Int32) (M : St), f_X8_decides_l67 n v1 M = some II → ∀ (H : Heap) (locs : List Loc) (ls : Array Slot), va_P D vwCl (wl tc ad (cmb I M)) H → va_S A s.heap H locs → lv_has ls 4 [(0, .ref (ad 152)), (1, .int v1)] → W p l e rm_X8_decides s m args below meth c H locs 0 0 (MQ below (qv D tc ad A (cmb I II)) args s 0 0 A) (F0 m 67 ls []) := by
  intro n
  induction n with
  | zero =>
    intro _ _ h
    cases h
  | succ n ih =>
    intro v1 M h H locs ls hP hS hl
    rw [f_X8_decides_l67] at h
    have hx := hX.1
    have hb := hX.2.1
    have hown := hX.2.2.2.1
    have hts := hX.2.2.2.2.1
    have hA := hX.2.2.2.2.2.2
    refine lv_iload_n hx hb dX8_decides_67 rfl (lv_at hl 1 rfl) ?_
    refine lv_aload_n hx hb dX8_decides_68 rfl (lv_at hl 0 rfl) ?_
    refine m_getq (t := 153) hX hP cok6 0 sge_152 s157_152 sk_152 (by decide) rfl q780 dX8_decides_69 ?_
    refine lv_iconst (v := 4) hx hb dX8_decides_72 kc_i4 ?_
    refine m_ald hX hP h (sge_153) s157_153 sk_153 sn_153 dX8_decides_73 (fun h => ?_)
    refine x_icmp_ge (tgt := 169) hx hb dX8_decides_74 (by decide) h (fun c7 h => ?_) (fun c7 h => ?_)
    · cases h
      exact j_vret hX hr hlk hP hS dX8_decides_169
    · refine lv_aload_n hx hb dX8_decides_77 rfl (lv_at hl 0 rfl) ?_
      refine lv_iload_n hx hb dX8_decides_78 rfl (lv_at hl 1 rfl) ?_
      refine lv_iconst (v := 5) hx hb dX8_decides_79 kc_i5 ?_
      obtain ⟨r9, e8, h⟩ := ob1_some h
      refine j_i (j_runV (rest := []) hX hP hl.1 Y_X8_has cok6 (s157_152) sk_152 (c_X8_has hA e8) ⟨rfl, rfl⟩ q865 ⟨Nat.le_of_ble_eq_true rfl, Nat.le_of_ble_eq_true rfl⟩ rfl rfl (Nat.le_of_ble_eq_true rfl) dX8_decides_80) hS (fun H locs hP hS => ?_)
      refine x_if_eq (tgt := 163) hx hb dX8_decides_83 (by decide) h (fun c10 h => ?_) (fun c10 h => ?_)
      · exact t_X8_decides_b163 hX hr hlk ih _ _ h _ _ _ hP hS (lv_sub hl [0, 1] rfl)
      · refine lv_aload_n hx hb dX8_decides_86 rfl (lv_at hl 0 rfl) ?_
        refine m_getq (t := 153) hX hP cok6 0 sge_152 s157_152 sk_152 (by decide) rfl q780 dX8_decides_87 ?_
        refine lv_iload_n hx hb dX8_decides_90 rfl (lv_at hl 1 rfl) ?_
        obtain ⟨r12, e11, h⟩ := ob1_some h
        refine j_i (j_runS (rest := [.ref (ad 153)]) hX hP hl.1 Y_X8_person (c_X8_person hA e11) ⟨rfl, rfl⟩ q814 ⟨Nat.le_of_ble_eq_true rfl, Nat.le_of_ble_eq_true rfl⟩ rfl rfl (Nat.le_of_ble_eq_true rfl) dX8_decides_91) hS (fun H locs hP hS => ?_)
        refine lv_iconst (v := 4) hx hb dX8_decides_94 kc_i4 ?_
        refine lv_iadd hx hb dX8_decides_95 ?_
        refine x_let h (fun x13 h => ?_)
        refine m_ald hX hP h (sge_153) s157_153 sk_153 sn_153 dX8_decides_96 (fun h => ?_)
        refine x_let h (fun x14 h => ?_)
        refine lv_iconst (v := 2) hx hb dX8_decides_97 kc_i2 ?_
        refine x_icmp_ne (tgt := 163) hx hb dX8_decides_98 (by decide) h (fun c15 h => ?_) (fun c15 h => ?_)
        · exact t_X8_decides_b163 hX hr hlk ih _ _ h _ _ _ hP hS (lv_sub hl [0, 1] rfl)
        · refine lv_aload_n hx hb dX8_decides_101 rfl (lv_at hl 0 rfl) ?_
          refine lv_bipush (v := 7) hx hb dX8_decides_102 kc_b7 ?_
          obtain ⟨r17, e16, h⟩ := ob1_some h
          refine j_i (j_runV (rest := []) hX hP hl.1 Y_X8_setOf cok6 (s157_152) sk_152 (c_X8_setOf hA e16) ⟨rfl, rfl⟩ q952 ⟨Nat.le_of_ble_eq_true rfl, Nat.le_of_ble_eq_true rfl⟩ rfl rfl (Nat.le_of_ble_eq_true rfl) dX8_decides_104) hS (fun H locs hP hS => ?_)
          refine lv_aload_n hx hb dX8_decides_107 rfl (lv_at hl 0 rfl) ?_
          refine lv_iconst (v := 5) hx hb dX8_decides_108 kc_i5 ?_
          obtain ⟨r19, e18, h⟩ := ob1_some h
          refine j_i (j_runV (rest := [.int r17]) hX hP hl.1 Y_X8_setOf cok6 (s157_152) sk_152 (c_X8_setOf hA e18) ⟨rfl, rfl⟩ q952 ⟨Nat.le_of_ble_eq_true rfl, Nat.le_of_ble_eq_true rfl⟩ rfl rfl (Nat.le_of_ble_eq_true rfl) dX8_decides_109) hS (fun H locs hP hS => ?_)
          refine lv_iand hx hb dX8_decides_112 ?_
          refine x_let h (fun x20 h => ?_)
          refine lv_istore_n (lv' := [(2, .int x20), (0, .ref (ad 152)), (1, .int v1)]) hx hb dX8_decides_113 rfl hl (Nat.le_of_ble_eq_true rfl) rfl (fun ls hl => ?_)
          refine lv_aload_n hx hb dX8_decides_114 rfl (lv_at hl 1 rfl) ?_
          refine lv_iload_n hx hb dX8_decides_115 rfl (lv_at hl 0 rfl) ?_
          obtain ⟨r23, M22, e21, h⟩ := ob2_some h
          refine j_i (j_runV (rest := []) hX hP hl.1 Y_X8_coinOf cok6 (s157_152) sk_152 (c_X8_coinOf hA e21) ⟨rfl, rfl⟩ q1007 ⟨Nat.le_of_ble_eq_true rfl, Nat.le_of_ble_eq_true rfl⟩ rfl rfl (Nat.le_of_ble_eq_true rfl) dX8_decides_116) hS (fun H locs hP hS => ?_)
          refine lv_iconst (v := 1) hx hb dX8_decides_119 kc_i1 ?_
          refine x_icmp_ne (tgt := 140) hx hb dX8_decides_120 (by decide) h (fun c24 h => ?_) (fun c24 h => ?_)
          · exact t_X8_decides_b140 hX hr hlk ih _ _ h _ _ _ hP hS (lv_sub hl [1, 2] rfl)
          · refine lv_aload_n hx hb dX8_decides_123 rfl (lv_at hl 1 rfl) ?_
            refine lv_iload_n hx hb dX8_decides_124 rfl (lv_at hl 0 rfl) ?_
            refine lv_iconst (v := 1) hx hb dX8_decides_125 kc_i1 ?_
            refine lv_iload_n hx hb dX8_decides_126 rfl (lv_at hl 2 rfl) ?_
            refine lv_ishl hx hb dX8_decides_127 ?_
            refine lv_ior hx hb dX8_decides_128 ?_
            obtain ⟨r27, M26, e25, h⟩ := ob2_some h
            refine j_i (j_runV (rest := []) hX hP hl.1 Y_X8_coinOf cok6 (s157_152) sk_152 (c_X8_coinOf hA e25) ⟨rfl, rfl⟩ q1007 ⟨Nat.le_of_ble_eq_true rfl, Nat.le_of_ble_eq_true rfl⟩ rfl rfl (Nat.le_of_ble_eq_true rfl) dX8_decides_129) hS (fun H locs hP hS => ?_)
            refine lv_iconst (v := 1) hx hb dX8_decides_132 kc_i1 ?_
            refine x_icmp_eq (tgt := 140) hx hb dX8_decides_133 (by decide) h (fun c28 h => ?_) (fun c28 h => ?_)
            · exact t_X8_decides_b140 hX hr hlk ih _ _ h _ _ _ hP hS (lv_sub hl [1, 2] rfl)
            · refine lv_iconst (v := 1) hx hb dX8_decides_136 kc_i1 ?_
              refine lv_goto (tgt := 141) hx hb dX8_decides_137 (by decide) ?_
              exact t_X8_decides_b141 hX hr hlk ih _ _ _ h _ _ _ hP hS (lv_sub hl [1, 2] rfl)
set_option maxHeartbeats 4000000 in
set_option maxRecDepth 100000 in
theorem t_X8_decides_l2 {p : Program} {l : Launch} {e : Env} {s : State} {m : MethodId} {args : Array Value} {below : List Frame} {meth : Method} {c : Code} {D : va_G} {tc : Tc} {ad : Nat → Nat} {A : Nat → Prop} {I : St} {II : St} (hX : cx p s m args c cX8_decides 4 RX8 D tc ad A) (hr : meth.sig.returnType = none) (hlk : meth.locks = false) : ∀ (n : Nat), ∀ (v1 : Int32) (M : St), f_X8_decides_l2 n v1 M = some II → ∀ (H : Heap) (locs : List Loc) (ls : Array Slot), va_P D vwCl (wl tc ad (cmb I M)) H → va_S A s.heap H locs → lv_has ls 4 [(0, .ref (ad 152)), (1, .int v1)] → W p l e rm_X8_decides s m args below meth c H locs 0 0 (MQ below (qv D tc ad A (cmb I II)) args s 0 0 A) (F0 m 2 ls []) := by
  intro n
  induction n with
  | zero =>
    intro _ _ h
    cases h
  | succ n ih =>
    intro v1 M h H locs ls hP hS hl
    rw [f_X8_decides_l2] at h
    have hx := hX.1
    have hb := hX.2.1
    have hown := hX.2.2.2.1
    have hts := hX.2.2.2.2.1
    have hA := hX.2.2.2.2.2.2
    refine lv_iload_n hx hb dX8_decides_2 rfl (lv_at hl 1 rfl) ?_
    refine lv_aload_n hx hb dX8_decides_3 rfl (lv_at hl 0 rfl) ?_
    refine m_getq (t := 153) hX hP cok6 0 sge_152 s157_152 sk_152 (by decide) rfl q780 dX8_decides_4 ?_
    refine lv_iconst (v := 4) hx hb dX8_decides_7 kc_i4 ?_
    refine m_ald hX hP h (sge_153) s157_153 sk_153 sn_153 dX8_decides_8 (fun h => ?_)
    refine x_icmp_ge (tgt := 65) hx hb dX8_decides_9 (by decide) h (fun c29 h => ?_) (fun c29 h => ?_)
    · refine lv_iconst (v := 0) hx hb dX8_decides_65 kc_i0 ?_
      refine lv_istore_n (lv' := [(1, .int 0), (0, .ref (ad 152))]) hx hb dX8_decides_66 rfl hl (Nat.le_of_ble_eq_true rfl) rfl (fun ls hl => ?_)
      exact t_X8_decides_l67 hX hr hlk  10000 _ _ h _ _ _ hP hS (lv_sub hl [1, 0] rfl)
    · refine lv_aload_n hx hb dX8_decides_12 rfl (lv_at hl 0 rfl) ?_
      refine m_getq (t := 153) hX hP cok6 0 sge_152 s157_152 sk_152 (by decide) rfl q780 dX8_decides_13 ?_
      refine lv_iload_n hx hb dX8_decides_16 rfl (lv_at hl 1 rfl) ?_
      obtain ⟨r31, e30, h⟩ := ob1_some h
      refine j_i (j_runS (rest := [.ref (ad 153)]) hX hP hl.1 Y_X8_person (c_X8_person hA e30) ⟨rfl, rfl⟩ q814 ⟨Nat.le_of_ble_eq_true rfl, Nat.le_of_ble_eq_true rfl⟩ rfl rfl (Nat.le_of_ble_eq_true rfl) dX8_decides_17) hS (fun H locs hP hS => ?_)
      refine lv_iconst (v := 4) hx hb dX8_decides_20 kc_i4 ?_
      refine lv_iadd hx hb dX8_decides_21 ?_
      refine x_let h (fun x32 h => ?_)
      refine m_ald hX hP h (sge_153) s157_153 sk_153 sn_153 dX8_decides_22 (fun h => ?_)
      refine x_let h (fun x33 h => ?_)
      refine lv_istore_n (lv' := [(2, .int x33), (0, .ref (ad 152)), (1, .int v1)]) hx hb dX8_decides_23 rfl hl (Nat.le_of_ble_eq_true rfl) rfl (fun ls hl => ?_)
      refine lv_aload_n hx hb dX8_decides_24 rfl (lv_at hl 1 rfl) ?_
      refine m_getq (t := 153) hX hP cok6 0 sge_152 s157_152 sk_152 (by decide) rfl q780 dX8_decides_25 ?_
      refine lv_iload_n hx hb dX8_decides_28 rfl (lv_at hl 2 rfl) ?_
      obtain ⟨r35, e34, h⟩ := ob1_some h
      refine j_i (j_runS (rest := [.ref (ad 153)]) hX hP hl.1 Y_X8_person (c_X8_person hA e34) ⟨rfl, rfl⟩ q814 ⟨Nat.le_of_ble_eq_true rfl, Nat.le_of_ble_eq_true rfl⟩ rfl rfl (Nat.le_of_ble_eq_true rfl) dX8_decides_29) hS (fun H locs hP hS => ?_)
      refine lv_bipush (v := 7) hx hb dX8_decides_32 kc_b7 ?_
      refine lv_iadd hx hb dX8_decides_34 ?_
      refine x_let h (fun x36 h => ?_)
      refine lv_aload_n hx hb dX8_decides_35 rfl (lv_at hl 1 rfl) ?_
      refine lv_iload_n hx hb dX8_decides_36 rfl (lv_at hl 2 rfl) ?_
      refine lv_iconst (v := 5) hx hb dX8_decides_37 kc_i5 ?_
      obtain ⟨r38, e37, h⟩ := ob1_some h
      refine j_i (j_runV (rest := [.int x36, .ref (ad 153)]) hX hP hl.1 Y_X8_has cok6 (s157_152) sk_152 (c_X8_has hA e37) ⟨rfl, rfl⟩ q865 ⟨Nat.le_of_ble_eq_true rfl, Nat.le_of_ble_eq_true rfl⟩ rfl rfl (Nat.le_of_ble_eq_true rfl) dX8_decides_38) hS (fun H locs hP hS => ?_)
      refine x_if_eq (tgt := 57) hx hb dX8_decides_41 (by decide) h (fun c39 h => ?_) (fun c39 h => ?_)
      · exact t_X8_decides_b57 hX hr hlk ih _ _ _ h _ _ _ hP hS (lv_sub hl [1, 2] rfl)
      · refine lv_iload_n hx hb dX8_decides_44 rfl (lv_at hl 0 rfl) ?_
        refine x_if_eq (tgt := 53) hx hb dX8_decides_45 (by decide) h (fun c40 h => ?_) (fun c40 h => ?_)
        · exact t_X8_decides_b53 hX hr hlk ih _ _ _ h _ _ _ hP hS (lv_sub hl [1, 2] rfl)
        · refine lv_iload_n hx hb dX8_decides_48 rfl (lv_at hl 0 rfl) ?_
          refine lv_iconst (v := 3) hx hb dX8_decides_49 kc_i3 ?_
          refine x_icmp_ne (tgt := 57) hx hb dX8_decides_50 (by decide) h (fun c41 h => ?_) (fun c41 h => ?_)
          · exact t_X8_decides_b57 hX hr hlk ih _ _ _ h _ _ _ hP hS (lv_sub hl [1, 2] rfl)
          · exact t_X8_decides_b53 hX hr hlk ih _ _ _ h _ _ _ hP hS (lv_sub hl [1, 2] rfl)
set_option maxHeartbeats 4000000 in
set_option maxRecDepth 100000 in
theorem c_X8_decides {l : Launch} {D : va_G} {tc : Tc} {ad : Nat → Nat} {A : Nat → Prop} (hA : adok ad A) {I M : St}  {II : St} (h : f_X8_decides M = some II) : Met l yX8_decides (Cond.code yX8_decides cX8_decides 4 none :: tw) rm_X8_decides (pre D tc ad [.ref (ad 152)] (cmb I M)) (qv D tc ad A (cmb I II)) 0 0 A := by
  unfold f_X8_decides at h
  refine mk_met (own := RX8) (by decide +kernel) rfl hA (Nat.le_of_ble_eq_true rfl) ?_
  intro p e s m below meth c ls hX hr hlk hl hP hS
  have hl : lv_has ls 4 [(0, .ref (ad 152))] := hl
  have hx := hX.1
  have hb := hX.2.1
  have hown := hX.2.2.2.1
  have hts := hX.2.2.2.2.1
  refine lv_iconst (v := 0) hx hb dX8_decides_0 kc_i0 ?_
  refine lv_istore_n (lv' := [(1, .int 0), (0, .ref (ad 152))]) hx hb dX8_decides_1 rfl hl (Nat.le_of_ble_eq_true rfl) rfl (fun ls hl => ?_)
  exact t_X8_decides_l2 hX hr hlk  10000 _ _ h _ _ _ hP hS (lv_sub hl [1, 0] rfl)
/-! OwnerlessCoinModel.play(I)I -/
def rm_X8_play : Room := { frames := 7, cells := 0, slots := 0, locals := 159 }
theorem Y_X8_play : yv yX8_play cX8_play 2 (some .int) 1 RX8 := ⟨q990, q988, q989, q57, by decide +kernel⟩
set_option maxHeartbeats 4000000 in
set_option maxRecDepth 100000 in
theorem t_X8_play_b37 {p : Program} {l : Launch} {e : Env} {s : State} {m : MethodId} {args : Array Value} {below : List Frame} {meth : Method} {c : Code} {D : va_G} {tc : Tc} {ad : Nat → Nat} {A : Nat → Prop} {I : St} {rr : Int32} {II : St} (hX : cx p s m args c cX8_play 2 RX8 D tc ad A) (hr : meth.sig.returnType = some .int) (hlk : meth.locks = false) : ∀ (M : St), f_X8_play_b37 M = some (rr, II) → ∀ (H : Heap) (locs : List Loc) (ls : Array Slot), va_P D vwCl (wl tc ad (cmb I M)) H → va_S A s.heap H locs → lv_has ls 2 [(0, .ref (ad 152))] → W p l e rm_X8_play s m args below meth c H locs 0 0 (MQ below (qi D tc ad A rr (cmb I II)) args s 0 0 A) (F0 m 37 ls []) := by
  intro M h H locs ls hP hS hl
  unfold f_X8_play_b37 at h
  have hx := hX.1
  have hb := hX.2.1
  have hown := hX.2.2.2.1
  have hts := hX.2.2.2.2.1
  have hA := hX.2.2.2.2.2.2
  refine lv_aload_n hx hb dX8_play_37 rfl (lv_at hl 0 rfl) ?_
  obtain ⟨r3, M2, e1, h⟩ := ob2_some h
  refine j_i (j_runV (rest := []) hX hP hl.1 Y_X8_opensUp cok6 (s157_152) sk_152 (c_X8_opensUp hA e1) ⟨rfl, rfl⟩ q948 ⟨Nat.le_of_ble_eq_true rfl, Nat.le_of_ble_eq_true rfl⟩ rfl rfl (Nat.le_of_ble_eq_true rfl) dX8_play_38) hS (fun H locs hP hS => ?_)
  refine lv_bipush (v := (-5)) hx hb dX8_play_41 kc_bm5 ?_
  refine x_icmp_ne (tgt := 49) hx hb dX8_play_43 (by decide) h (fun c4 h => ?_) (fun c4 h => ?_)
  · refine lv_aload_n hx hb dX8_play_49 rfl (lv_at hl 0 rfl) ?_
    obtain ⟨M6, e5, h⟩ := ob1_some h
    refine j_v (j_runV (rest := []) hX hP hl.1 Y_X8_decides cok6 (s157_152) sk_152 (c_X8_decides hA e5) ⟨rfl, rfl⟩ q1003 ⟨Nat.le_of_ble_eq_true rfl, Nat.le_of_ble_eq_true rfl⟩ rfl rfl (Nat.le_of_ble_eq_true rfl) dX8_play_50) hS (fun H locs hP hS => ?_)
    refine lv_aload_n hx hb dX8_play_53 rfl (lv_at hl 0 rfl) ?_
    obtain ⟨r9, M8, e7, h⟩ := ob2_some h
    refine j_i (j_runV (rest := []) hX hP hl.1 Y_X8_closes cok6 (s157_152) sk_152 (c_X8_closes hA e7) ⟨rfl, rfl⟩ q971 ⟨Nat.le_of_ble_eq_true rfl, Nat.le_of_ble_eq_true rfl⟩ rfl rfl (Nat.le_of_ble_eq_true rfl) dX8_play_54) hS (fun H locs hP hS => ?_)
    cases h
    exact j_iret hX hr hlk hP hS dX8_play_57
  · refine lv_bipush (v := (-5)) hx hb dX8_play_46 kc_bm5 ?_
    cases h
    exact j_iret hX hr hlk hP hS dX8_play_48
set_option maxHeartbeats 4000000 in
set_option maxRecDepth 100000 in
theorem c_X8_play {l : Launch} {D : va_G} {tc : Tc} {ad : Nat → Nat} {A : Nat → Prop} (hA : adok ad A) {I M : St} {v1 : Int32} {rr : Int32} {II : St} (h : f_X8_play v1 M = some (rr, II)) : Met l yX8_play (Cond.code yX8_play cX8_play 2 (some .int) :: tw) rm_X8_play (pre D tc ad [.ref (ad 152), .int v1] (cmb I M)) (qi D tc ad A rr (cmb I II)) 0 0 A := by
  unfold f_X8_play at h
  refine mk_met (own := RX8) (by decide +kernel) rfl hA (Nat.le_of_ble_eq_true rfl) ?_
  intro p e s m below meth c ls hX hr hlk hl hP hS
  have hl : lv_has ls 2 [(0, .ref (ad 152)), (1, .int v1)] := hl
  have hx := hX.1
  have hb := hX.2.1
  have hown := hX.2.2.2.1
  have hts := hX.2.2.2.2.1
  refine lv_aload_n hx hb dX8_play_0 rfl (lv_at hl 0 rfl) ?_
  obtain ⟨r11, e10, h⟩ := ob1_some h
  refine j_i (j_runV (rest := []) hX hP hl.1 Y_X8_mayBegin cok6 (s157_152) sk_152 (c_X8_mayBegin hA e10) ⟨rfl, rfl⟩ q853 ⟨Nat.le_of_ble_eq_true rfl, Nat.le_of_ble_eq_true rfl⟩ rfl rfl (Nat.le_of_ble_eq_true rfl) dX8_play_1) hS (fun H locs hP hS => ?_)
  refine x_if_ne (tgt := 10) hx hb dX8_play_4 (by decide) h (fun c12 h => ?_) (fun c12 h => ?_)
  · refine lv_aload_n hx hb dX8_play_10 rfl (lv_at hl 0 rfl) ?_
    obtain ⟨M14, e13, h⟩ := ob1_some h
    refine j_v (j_runV (rest := []) hX hP hl.1 Y_X8_act cok6 (s157_152) sk_152 (c_X8_act hA e13) ⟨rfl, rfl⟩ q810 ⟨Nat.le_of_ble_eq_true rfl, Nat.le_of_ble_eq_true rfl⟩ rfl rfl (Nat.le_of_ble_eq_true rfl) dX8_play_11) hS (fun H locs hP hS => ?_)
    refine lv_aload_n hx hb dX8_play_14 rfl (lv_at hl 0 rfl) ?_
    obtain ⟨M16, e15, h⟩ := ob1_some h
    refine j_v (j_runV (rest := []) hX hP hl.1 Y_X8_begins cok6 (s157_152) sk_152 (c_X8_begins hA e15) ⟨rfl, rfl⟩ q857 ⟨Nat.le_of_ble_eq_true rfl, Nat.le_of_ble_eq_true rfl⟩ rfl rfl (Nat.le_of_ble_eq_true rfl) dX8_play_15) hS (fun H locs hP hS => ?_)
    refine lv_aload_n hx hb dX8_play_18 rfl (lv_at hl 0 rfl) ?_
    refine lv_iload_n hx hb dX8_play_19 rfl (lv_at hl 1 rfl) ?_
    obtain ⟨M18, e17, h⟩ := ob1_some h
    refine j_v (j_runV (rest := []) hX hP hl.1 Y_X8_plays cok6 (s157_152) sk_152 (c_X8_plays hA e17) ⟨rfl, rfl⟩ q991 ⟨Nat.le_of_ble_eq_true rfl, Nat.le_of_ble_eq_true rfl⟩ rfl rfl (Nat.le_of_ble_eq_true rfl) dX8_play_20) hS (fun H locs hP hS => ?_)
    refine lv_aload_n hx hb dX8_play_23 rfl (lv_at hl 0 rfl) ?_
    refine m_getq (t := 153) hX hP cok6 0 sge_152 s157_152 sk_152 (by decide) rfl q780 dX8_play_24 ?_
    refine lv_iconst (v := 5) hx hb dX8_play_27 kc_i5 ?_
    refine m_ald hX hP h (sge_153) s157_153 sk_153 sn_153 dX8_play_28 (fun h => ?_)
    refine x_let h (fun x19 h => ?_)
    refine lv_iconst (v := 1) hx hb dX8_play_29 kc_i1 ?_
    refine x_icmp_ne (tgt := 37) hx hb dX8_play_30 (by decide) h (fun c20 h => ?_) (fun c20 h => ?_)
    · exact t_X8_play_b37 hX hr hlk  _ h _ _ _ hP hS (lv_sub hl [0] rfl)
    · refine lv_aload_n hx hb dX8_play_33 rfl (lv_at hl 0 rfl) ?_
      obtain ⟨M22, e21, h⟩ := ob1_some h
      refine j_v (j_runV (rest := []) hX hP hl.1 Y_X8_cheats cok6 (s157_152) sk_152 (c_X8_cheats hA e21) ⟨rfl, rfl⟩ q995 ⟨Nat.le_of_ble_eq_true rfl, Nat.le_of_ble_eq_true rfl⟩ rfl rfl (Nat.le_of_ble_eq_true rfl) dX8_play_34) hS (fun H locs hP hS => ?_)
      exact t_X8_play_b37 hX hr hlk  _ h _ _ _ hP hS (lv_sub hl [0] rfl)
  · refine lv_bipush (v := (-2)) hx hb dX8_play_7 kc_bm2 ?_
    cases h
    exact j_iret hX hr hlk hP hS dX8_play_9
/-! OwnerlessCoinModel.phase()I -/
def rm_X8_phase : Room := { frames := 0, cells := 0, slots := 0, locals := 0 }
theorem Y_X8_phase : yv yX8_phase cX8_phase 1 (some .int) 0 RX8 := ⟨q1014, q1012, q1013, q57, by decide +kernel⟩
set_option maxHeartbeats 4000000 in
set_option maxRecDepth 100000 in
theorem c_X8_phase {l : Launch} {D : va_G} {tc : Tc} {ad : Nat → Nat} {A : Nat → Prop} (hA : adok ad A) {I M : St}  {rr : Int32} (h : f_X8_phase M = some rr) : Met l yX8_phase (Cond.code yX8_phase cX8_phase 1 (some .int) :: tw) rm_X8_phase (pre D tc ad [.ref (ad 152)] (cmb I M)) (qi D tc ad A rr (cmb I M)) 0 0 A := by
  unfold f_X8_phase at h
  refine mk_met (own := RX8) (by decide +kernel) rfl hA (Nat.le_of_ble_eq_true rfl) ?_
  intro p e s m below meth c ls hX hr hlk hl hP hS
  have hl : lv_has ls 1 [(0, .ref (ad 152))] := hl
  have hx := hX.1
  have hb := hX.2.1
  have hown := hX.2.2.2.1
  have hts := hX.2.2.2.2.1
  refine lv_aload_n hx hb dX8_phase_0 rfl (lv_at hl 0 rfl) ?_
  refine m_getq (t := 153) hX hP cok6 0 sge_152 s157_152 sk_152 (by decide) rfl q780 dX8_phase_1 ?_
  refine lv_iconst (v := 0) hx hb dX8_phase_4 kc_i0 ?_
  refine m_ald hX hP h (sge_153) s157_153 sk_153 sn_153 dX8_phase_5 (fun h => ?_)
  cases h
  exact j_iret hX hr hlk hP hS dX8_phase_6
/-! OwnerlessCoinModel.setNumber(I)I -/
def rm_X8_setNumber : Room := { frames := 3, cells := 0, slots := 0, locals := 65 }
theorem Y_X8_setNumber : yv yX8_setNumber cX8_setNumber 3 (some .int) 1 RX8 := ⟨q1022, q1021, q44, q57, by decide +kernel⟩
set_option maxHeartbeats 4000000 in
set_option maxRecDepth 100000 in
theorem t_X8_setNumber_b52 {p : Program} {l : Launch} {e : Env} {s : State} {m : MethodId} {args : Array Value} {below : List Frame} {meth : Method} {c : Code} {D : va_G} {tc : Tc} {ad : Nat → Nat} {A : Nat → Prop} {I : St} {rr : Int32} (hX : cx p s m args c cX8_setNumber 3 RX8 D tc ad A) (hr : meth.sig.returnType = some .int) (hlk : meth.locks = false) : ∀ (t0 : Int32) (M : St), f_X8_setNumber_b52 t0 M = some rr → ∀ (H : Heap) (locs : List Loc) (ls : Array Slot), va_P D vwCl (wl tc ad (cmb I M)) H → va_S A s.heap H locs → lv_has ls 3 [] → W p l e rm_X8_setNumber s m args below meth c H locs 0 0 (MQ below (qi D tc ad A rr (cmb I M)) args s 0 0 A) (F0 m 52 ls [.int t0]) := by
  intro t0 M h H locs ls hP hS hl
  unfold f_X8_setNumber_b52 at h
  have hx := hX.1
  have hb := hX.2.1
  have hown := hX.2.2.2.1
  have hts := hX.2.2.2.2.1
  have hA := hX.2.2.2.2.2.2
  cases h
  exact j_iret hX hr hlk hP hS dX8_setNumber_52
set_option maxHeartbeats 4000000 in
set_option maxRecDepth 100000 in
theorem c_X8_setNumber {l : Launch} {D : va_G} {tc : Tc} {ad : Nat → Nat} {A : Nat → Prop} (hA : adok ad A) {I M : St} {v1 : Int32} {rr : Int32} (h : f_X8_setNumber v1 M = some rr) : Met l yX8_setNumber (Cond.code yX8_setNumber cX8_setNumber 3 (some .int) :: tw) rm_X8_setNumber (pre D tc ad [.ref (ad 152), .int v1] (cmb I M)) (qi D tc ad A rr (cmb I M)) 0 0 A := by
  unfold f_X8_setNumber at h
  refine mk_met (own := RX8) (by decide +kernel) rfl hA (Nat.le_of_ble_eq_true rfl) ?_
  intro p e s m below meth c ls hX hr hlk hl hP hS
  have hl : lv_has ls 3 [(0, .ref (ad 152)), (1, .int v1)] := hl
  have hx := hX.1
  have hb := hX.2.1
  have hown := hX.2.2.2.1
  have hts := hX.2.2.2.2.1
  refine lv_aload_n hx hb dX8_setNumber_0 rfl (lv_at hl 0 rfl) ?_
  refine lv_iconst (v := 5) hx hb dX8_setNumber_1 kc_i5 ?_
  obtain ⟨r2, e1, h⟩ := ob1_some h
  refine j_i (j_runV (rest := []) hX hP hl.1 Y_X8_setOf cok6 (s157_152) sk_152 (c_X8_setOf hA e1) ⟨rfl, rfl⟩ q952 ⟨Nat.le_of_ble_eq_true rfl, Nat.le_of_ble_eq_true rfl⟩ rfl rfl (Nat.le_of_ble_eq_true rfl) dX8_setNumber_2) hS (fun H locs hP hS => ?_)
  refine lv_istore_n (lv' := [(2, .int r2), (0, .ref (ad 152)), (1, .int v1)]) hx hb dX8_setNumber_5 rfl hl (Nat.le_of_ble_eq_true rfl) rfl (fun ls hl => ?_)
  refine lv_iload_n hx hb dX8_setNumber_6 rfl (lv_at hl 2 rfl) ?_
  refine x_if_ne (tgt := 14) hx hb dX8_setNumber_7 (by decide) h (fun c3 h => ?_) (fun c3 h => ?_)
  · refine lv_iload_n hx hb dX8_setNumber_14 rfl (lv_at hl 2 rfl) ?_
    refine lv_iconst (v := 1) hx hb dX8_setNumber_15 kc_i1 ?_
    refine x_icmp_ne (tgt := 30) hx hb dX8_setNumber_16 (by decide) h (fun c4 h => ?_) (fun c4 h => ?_)
    · refine lv_iload_n hx hb dX8_setNumber_30 rfl (lv_at hl 2 rfl) ?_
      refine lv_iconst (v := 2) hx hb dX8_setNumber_31 kc_i2 ?_
      refine x_icmp_ne (tgt := 46) hx hb dX8_setNumber_32 (by decide) h (fun c5 h => ?_) (fun c5 h => ?_)
      · refine lv_aload_n hx hb dX8_setNumber_46 rfl (lv_at hl 1 rfl) ?_
        refine lv_bipush (v := 8) hx hb dX8_setNumber_47 kc_b8 ?_
        obtain ⟨r7, e6, h⟩ := ob1_some h
        refine j_i (j_runV (rest := []) hX hP hl.1 Y_X8_setOf cok6 (s157_152) sk_152 (c_X8_setOf hA e6) ⟨rfl, rfl⟩ q952 ⟨Nat.le_of_ble_eq_true rfl, Nat.le_of_ble_eq_true rfl⟩ rfl rfl (Nat.le_of_ble_eq_true rfl) dX8_setNumber_49) hS (fun H locs hP hS => ?_)
        exact t_X8_setNumber_b52 hX hr hlk  _ _ h _ _ _ hP hS (lv_sub hl [] rfl)
      · refine lv_iload_n hx hb dX8_setNumber_35 rfl (lv_at hl 0 rfl) ?_
        refine lv_aload_n hx hb dX8_setNumber_36 rfl (lv_at hl 1 rfl) ?_
        refine lv_bipush (v := 7) hx hb dX8_setNumber_37 kc_b7 ?_
        obtain ⟨r9, e8, h⟩ := ob1_some h
        refine j_i (j_runV (rest := [.int r2]) hX hP hl.1 Y_X8_setOf cok6 (s157_152) sk_152 (c_X8_setOf hA e8) ⟨rfl, rfl⟩ q952 ⟨Nat.le_of_ble_eq_true rfl, Nat.le_of_ble_eq_true rfl⟩ rfl rfl (Nat.le_of_ble_eq_true rfl) dX8_setNumber_39) hS (fun H locs hP hS => ?_)
        refine lv_iand hx hb dX8_setNumber_42 ?_
        refine lv_goto (tgt := 52) hx hb dX8_setNumber_43 (by decide) ?_
        exact t_X8_setNumber_b52 hX hr hlk  _ _ h _ _ _ hP hS (lv_sub hl [] rfl)
    · refine lv_iload_n hx hb dX8_setNumber_19 rfl (lv_at hl 0 rfl) ?_
      refine lv_aload_n hx hb dX8_setNumber_20 rfl (lv_at hl 1 rfl) ?_
      refine lv_bipush (v := 6) hx hb dX8_setNumber_21 kc_b6 ?_
      obtain ⟨r11, e10, h⟩ := ob1_some h
      refine j_i (j_runV (rest := [.int r2]) hX hP hl.1 Y_X8_setOf cok6 (s157_152) sk_152 (c_X8_setOf hA e10) ⟨rfl, rfl⟩ q952 ⟨Nat.le_of_ble_eq_true rfl, Nat.le_of_ble_eq_true rfl⟩ rfl rfl (Nat.le_of_ble_eq_true rfl) dX8_setNumber_23) hS (fun H locs hP hS => ?_)
      refine lv_iand hx hb dX8_setNumber_26 ?_
      refine lv_goto (tgt := 52) hx hb dX8_setNumber_27 (by decide) ?_
      exact t_X8_setNumber_b52 hX hr hlk  _ _ h _ _ _ hP hS (lv_sub hl [] rfl)
  · refine lv_iload_n hx hb dX8_setNumber_10 rfl (lv_at hl 0 rfl) ?_
    refine lv_goto (tgt := 52) hx hb dX8_setNumber_11 (by decide) ?_
    exact t_X8_setNumber_b52 hX hr hlk  _ _ h _ _ _ hP hS (lv_sub hl [] rfl)
/-! OwnerlessCoinModel.set(I)I -/
def rm_X8_set : Room := { frames := 4, cells := 0, slots := 0, locals := 87 }
theorem Y_X8_set : yv yX8_set cX8_set 2 (some .int) 1 RX8 := ⟨q1018, q1016, q1017, q57, by decide +kernel⟩
set_option maxHeartbeats 4000000 in
set_option maxRecDepth 100000 in
theorem t_X8_set_b32 {p : Program} {l : Launch} {e : Env} {s : State} {m : MethodId} {args : Array Value} {below : List Frame} {meth : Method} {c : Code} {D : va_G} {tc : Tc} {ad : Nat → Nat} {A : Nat → Prop} {I : St} {rr : Int32} (hX : cx p s m args c cX8_set 2 RX8 D tc ad A) (hr : meth.sig.returnType = some .int) (hlk : meth.locks = false) : ∀ (t0 : Int32) (M : St), f_X8_set_b32 t0 M = some rr → ∀ (H : Heap) (locs : List Loc) (ls : Array Slot), va_P D vwCl (wl tc ad (cmb I M)) H → va_S A s.heap H locs → lv_has ls 2 [] → W p l e rm_X8_set s m args below meth c H locs 0 0 (MQ below (qi D tc ad A rr (cmb I M)) args s 0 0 A) (F0 m 32 ls [.int t0]) := by
  intro t0 M h H locs ls hP hS hl
  unfold f_X8_set_b32 at h
  have hx := hX.1
  have hb := hX.2.1
  have hown := hX.2.2.2.1
  have hts := hX.2.2.2.2.1
  have hA := hX.2.2.2.2.2.2
  cases h
  exact j_iret hX hr hlk hP hS dX8_set_32
set_option maxHeartbeats 4000000 in
set_option maxRecDepth 100000 in
theorem c_X8_set {l : Launch} {D : va_G} {tc : Tc} {ad : Nat → Nat} {A : Nat → Prop} (hA : adok ad A) {I M : St} {v1 : Int32} {rr : Int32} (h : f_X8_set v1 M = some rr) : Met l yX8_set (Cond.code yX8_set cX8_set 2 (some .int) :: tw) rm_X8_set (pre D tc ad [.ref (ad 152), .int v1] (cmb I M)) (qi D tc ad A rr (cmb I M)) 0 0 A := by
  unfold f_X8_set at h
  refine mk_met (own := RX8) (by decide +kernel) rfl hA (Nat.le_of_ble_eq_true rfl) ?_
  intro p e s m below meth c ls hX hr hlk hl hP hS
  have hl : lv_has ls 2 [(0, .ref (ad 152)), (1, .int v1)] := hl
  have hx := hX.1
  have hb := hX.2.1
  have hown := hX.2.2.2.1
  have hts := hX.2.2.2.2.1
  refine lv_iload_n hx hb dX8_set_0 rfl (lv_at hl 1 rfl) ?_
  refine lv_iconst (v := 0) hx hb dX8_set_1 kc_i0 ?_
  refine lv_iconst (v := 3) hx hb dX8_set_2 kc_i3 ?_
  obtain ⟨r2, e1, h⟩ := ob1_some h
  refine j_i (j_runS (rest := []) hX hP hl.1 Y_X8_in (c_X8_in hA e1) ⟨rfl, rfl⟩ q807 ⟨Nat.le_of_ble_eq_true rfl, Nat.le_of_ble_eq_true rfl⟩ rfl rfl (Nat.le_of_ble_eq_true rfl) dX8_set_3) hS (fun H locs hP hS => ?_)
  refine x_if_ne (tgt := 13) hx hb dX8_set_6 (by decide) h (fun c3 h => ?_) (fun c3 h => ?_)
  · refine lv_aload_n hx hb dX8_set_13 rfl (lv_at hl 0 rfl) ?_
    refine m_getq (t := 153) hX hP cok6 0 sge_152 s157_152 sk_152 (by decide) rfl q780 dX8_set_14 ?_
    refine lv_iconst (v := 0) hx hb dX8_set_17 kc_i0 ?_
    refine m_ald hX hP h (sge_153) s157_153 sk_153 sn_153 dX8_set_18 (fun h => ?_)
    refine x_if_ne (tgt := 27) hx hb dX8_set_19 (by decide) h (fun c4 h => ?_) (fun c4 h => ?_)
    · refine lv_aload_n hx hb dX8_set_27 rfl (lv_at hl 0 rfl) ?_
      refine lv_iload_n hx hb dX8_set_28 rfl (lv_at hl 1 rfl) ?_
      obtain ⟨r6, e5, h⟩ := ob1_some h
      refine j_i (j_runV (rest := []) hX hP hl.1 Y_X8_setNumber cok6 (s157_152) sk_152 (c_X8_setNumber hA e5) ⟨rfl, rfl⟩ q1019 ⟨Nat.le_of_ble_eq_true rfl, Nat.le_of_ble_eq_true rfl⟩ rfl rfl (Nat.le_of_ble_eq_true rfl) dX8_set_29) hS (fun H locs hP hS => ?_)
      exact t_X8_set_b32 hX hr hlk  _ _ h _ _ _ hP hS (lv_sub hl [] rfl)
    · refine lv_bipush (v := (-2)) hx hb dX8_set_22 kc_bm2 ?_
      refine lv_goto (tgt := 32) hx hb dX8_set_24 (by decide) ?_
      exact t_X8_set_b32 hX hr hlk  _ _ h _ _ _ hP hS (lv_sub hl [] rfl)
  · refine lv_iconst (v := (-1)) hx hb dX8_set_9 kc_im1 ?_
    refine lv_goto (tgt := 32) hx hb dX8_set_10 (by decide) ?_
    exact t_X8_set_b32 hX hr hlk  _ _ h _ _ _ hP hS (lv_sub hl [] rfl)
/-! OwnerlessCoinModel.isIn(I)Z -/
def rm_X8_isIn : Room := { frames := 2, cells := 0, slots := 0, locals := 42 }
theorem Y_X8_isIn : yv yX8_isIn cX8_isIn 2 (some .boolean) 1 RX8 := ⟨q1030, q1029, q45, q57, by decide +kernel⟩
set_option maxHeartbeats 4000000 in
set_option maxRecDepth 100000 in
theorem t_X8_isIn_b33 {p : Program} {l : Launch} {e : Env} {s : State} {m : MethodId} {args : Array Value} {below : List Frame} {meth : Method} {c : Code} {D : va_G} {tc : Tc} {ad : Nat → Nat} {A : Nat → Prop} {I : St} {rr : Int32} (hX : cx p s m args c cX8_isIn 2 RX8 D tc ad A) (hr : meth.sig.returnType = some .boolean) (hlk : meth.locks = false) : ∀ (t0 : Int32) (M : St), f_X8_isIn_b33 t0 M = some rr → ∀ (H : Heap) (locs : List Loc) (ls : Array Slot), va_P D vwCl (wl tc ad (cmb I M)) H → va_S A s.heap H locs → lv_has ls 2 [] → W p l e rm_X8_isIn s m args below meth c H locs 0 0 (MQ below (qi D tc ad A rr (cmb I M)) args s 0 0 A) (F0 m 33 ls [.int t0]) := by
  intro t0 M h H locs ls hP hS hl
  unfold f_X8_isIn_b33 at h
  have hx := hX.1
  have hb := hX.2.1
  have hown := hX.2.2.2.1
  have hts := hX.2.2.2.2.1
  have hA := hX.2.2.2.2.2.2
  obtain ⟨gz, h⟩ := ck_some h
  cases h
  exact j_zret hX hr hlk hP hS (isB_or gz) dX8_isIn_33
set_option maxHeartbeats 4000000 in
set_option maxRecDepth 100000 in
theorem t_X8_isIn_b32 {p : Program} {l : Launch} {e : Env} {s : State} {m : MethodId} {args : Array Value} {below : List Frame} {meth : Method} {c : Code} {D : va_G} {tc : Tc} {ad : Nat → Nat} {A : Nat → Prop} {I : St} {rr : Int32} (hX : cx p s m args c cX8_isIn 2 RX8 D tc ad A) (hr : meth.sig.returnType = some .boolean) (hlk : meth.locks = false) : ∀ (M : St), f_X8_isIn_b32 M = some rr → ∀ (H : Heap) (locs : List Loc) (ls : Array Slot), va_P D vwCl (wl tc ad (cmb I M)) H → va_S A s.heap H locs → lv_has ls 2 [] → W p l e rm_X8_isIn s m args below meth c H locs 0 0 (MQ below (qi D tc ad A rr (cmb I M)) args s 0 0 A) (F0 m 32 ls []) := by
  intro M h H locs ls hP hS hl
  unfold f_X8_isIn_b32 at h
  have hx := hX.1
  have hb := hX.2.1
  have hown := hX.2.2.2.1
  have hts := hX.2.2.2.2.1
  have hA := hX.2.2.2.2.2.2
  refine lv_iconst (v := 0) hx hb dX8_isIn_32 kc_i0 ?_
  exact t_X8_isIn_b33 hX hr hlk  _ _ h _ _ _ hP hS (lv_sub hl [] rfl)
set_option maxHeartbeats 4000000 in
set_option maxRecDepth 100000 in
theorem c_X8_isIn {l : Launch} {D : va_G} {tc : Tc} {ad : Nat → Nat} {A : Nat → Prop} (hA : adok ad A) {I M : St} {v1 : Int32} {rr : Int32} (h : f_X8_isIn v1 M = some rr) : Met l yX8_isIn (Cond.code yX8_isIn cX8_isIn 2 (some .boolean) :: tw) rm_X8_isIn (pre D tc ad [.ref (ad 152), .int v1] (cmb I M)) (qi D tc ad A rr (cmb I M)) 0 0 A := by
  unfold f_X8_isIn at h
  refine mk_met (own := RX8) (by decide +kernel) rfl hA (Nat.le_of_ble_eq_true rfl) ?_
  intro p e s m below meth c ls hX hr hlk hl hP hS
  have hl : lv_has ls 2 [(0, .ref (ad 152)), (1, .int v1)] := hl
  have hx := hX.1
  have hb := hX.2.1
  have hown := hX.2.2.2.1
  have hts := hX.2.2.2.2.1
  refine lv_aload_n hx hb dX8_isIn_0 rfl (lv_at hl 0 rfl) ?_
  refine m_getq (t := 153) hX hP cok6 0 sge_152 s157_152 sk_152 (by decide) rfl q780 dX8_isIn_1 ?_
  refine lv_iconst (v := 0) hx hb dX8_isIn_4 kc_i0 ?_
  refine m_ald hX hP h (sge_153) s157_153 sk_153 sn_153 dX8_isIn_5 (fun h => ?_)
  refine x_if_eq (tgt := 32) hx hb dX8_isIn_6 (by decide) h (fun c1 h => ?_) (fun c1 h => ?_)
  · exact t_X8_isIn_b32 hX hr hlk  _ h _ _ _ hP hS (lv_sub hl [] rfl)
  · refine lv_aload_n hx hb dX8_isIn_9 rfl (lv_at hl 0 rfl) ?_
    refine lv_iload_n hx hb dX8_isIn_10 rfl (lv_at hl 1 rfl) ?_
    refine lv_iconst (v := 5) hx hb dX8_isIn_11 kc_i5 ?_
    obtain ⟨r3, e2, h⟩ := ob1_some h
    refine j_i (j_runV (rest := []) hX hP hl.1 Y_X8_has cok6 (s157_152) sk_152 (c_X8_has hA e2) ⟨rfl, rfl⟩ q865 ⟨Nat.le_of_ble_eq_true rfl, Nat.le_of_ble_eq_true rfl⟩ rfl rfl (Nat.le_of_ble_eq_true rfl) dX8_isIn_12) hS (fun H locs hP hS => ?_)
    refine x_if_eq (tgt := 32) hx hb dX8_isIn_15 (by decide) h (fun c4 h => ?_) (fun c4 h => ?_)
    · exact t_X8_isIn_b32 hX hr hlk  _ h _ _ _ hP hS (lv_sub hl [] rfl)
    · refine lv_aload_n hx hb dX8_isIn_18 rfl (lv_at hl 0 rfl) ?_
      refine lv_iload_n hx hb dX8_isIn_19 rfl (lv_at hl 1 rfl) ?_
      refine lv_bipush (v := 6) hx hb dX8_isIn_20 kc_b6 ?_
      obtain ⟨r6, e5, h⟩ := ob1_some h
      refine j_i (j_runV (rest := []) hX hP hl.1 Y_X8_has cok6 (s157_152) sk_152 (c_X8_has hA e5) ⟨rfl, rfl⟩ q865 ⟨Nat.le_of_ble_eq_true rfl, Nat.le_of_ble_eq_true rfl⟩ rfl rfl (Nat.le_of_ble_eq_true rfl) dX8_isIn_22) hS (fun H locs hP hS => ?_)
      refine x_if_eq (tgt := 32) hx hb dX8_isIn_25 (by decide) h (fun c7 h => ?_) (fun c7 h => ?_)
      · exact t_X8_isIn_b32 hX hr hlk  _ h _ _ _ hP hS (lv_sub hl [] rfl)
      · refine lv_iconst (v := 1) hx hb dX8_isIn_28 kc_i1 ?_
        refine lv_goto (tgt := 33) hx hb dX8_isIn_29 (by decide) ?_
        exact t_X8_isIn_b33 hX hr hlk  _ _ h _ _ _ hP hS (lv_sub hl [] rfl)
/-! OwnerlessCoinModel.digest(I)I -/
def rm_X8_digest : Room := { frames := 3, cells := 0, slots := 0, locals := 63 }
theorem Y_X8_digest : yv yX8_digest cX8_digest 2 (some .int) 1 RX8 := ⟨q1026, q1024, q1025, q57, by decide +kernel⟩
set_option maxHeartbeats 4000000 in
set_option maxRecDepth 100000 in
theorem t_X8_digest_b40 {p : Program} {l : Launch} {e : Env} {s : State} {m : MethodId} {args : Array Value} {below : List Frame} {meth : Method} {c : Code} {D : va_G} {tc : Tc} {ad : Nat → Nat} {A : Nat → Prop} {I : St} {rr : Int32} (hX : cx p s m args c cX8_digest 2 RX8 D tc ad A) (hr : meth.sig.returnType = some .int) (hlk : meth.locks = false) : ∀ (t0 : Int32) (M : St), f_X8_digest_b40 t0 M = some rr → ∀ (H : Heap) (locs : List Loc) (ls : Array Slot), va_P D vwCl (wl tc ad (cmb I M)) H → va_S A s.heap H locs → lv_has ls 2 [] → W p l e rm_X8_digest s m args below meth c H locs 0 0 (MQ below (qi D tc ad A rr (cmb I M)) args s 0 0 A) (F0 m 40 ls [.int t0]) := by
  intro t0 M h H locs ls hP hS hl
  unfold f_X8_digest_b40 at h
  have hx := hX.1
  have hb := hX.2.1
  have hown := hX.2.2.2.1
  have hts := hX.2.2.2.2.1
  have hA := hX.2.2.2.2.2.2
  cases h
  exact j_iret hX hr hlk hP hS dX8_digest_40
set_option maxHeartbeats 4000000 in
set_option maxRecDepth 100000 in
theorem c_X8_digest {l : Launch} {D : va_G} {tc : Tc} {ad : Nat → Nat} {A : Nat → Prop} (hA : adok ad A) {I M : St} {v1 : Int32} {rr : Int32} (h : f_X8_digest v1 M = some rr) : Met l yX8_digest (Cond.code yX8_digest cX8_digest 2 (some .int) :: tw) rm_X8_digest (pre D tc ad [.ref (ad 152), .int v1] (cmb I M)) (qi D tc ad A rr (cmb I M)) 0 0 A := by
  unfold f_X8_digest at h
  refine mk_met (own := RX8) (by decide +kernel) rfl hA (Nat.le_of_ble_eq_true rfl) ?_
  intro p e s m below meth c ls hX hr hlk hl hP hS
  have hl : lv_has ls 2 [(0, .ref (ad 152)), (1, .int v1)] := hl
  have hx := hX.1
  have hb := hX.2.1
  have hown := hX.2.2.2.1
  have hts := hX.2.2.2.2.1
  refine lv_aload_n hx hb dX8_digest_0 rfl (lv_at hl 0 rfl) ?_
  refine lv_iload_n hx hb dX8_digest_1 rfl (lv_at hl 1 rfl) ?_
  obtain ⟨r2, e1, h⟩ := ob1_some h
  refine j_i (j_runV (rest := []) hX hP hl.1 Y_X8_isPerson cok6 (s157_152) sk_152 (c_X8_isPerson hA e1) ⟨rfl, rfl⟩ q821 ⟨Nat.le_of_ble_eq_true rfl, Nat.le_of_ble_eq_true rfl⟩ rfl rfl (Nat.le_of_ble_eq_true rfl) dX8_digest_2) hS (fun H locs hP hS => ?_)
  refine x_if_ne (tgt := 12) hx hb dX8_digest_5 (by decide) h (fun c3 h => ?_) (fun c3 h => ?_)
  · refine lv_aload_n hx hb dX8_digest_12 rfl (lv_at hl 0 rfl) ?_
    refine lv_iload_n hx hb dX8_digest_13 rfl (lv_at hl 1 rfl) ?_
    obtain ⟨r5, e4, h⟩ := ob1_some h
    refine j_i (j_runV (rest := []) hX hP hl.1 Y_X8_isIn cok6 (s157_152) sk_152 (c_X8_isIn hA e4) ⟨rfl, rfl⟩ q1027 ⟨Nat.le_of_ble_eq_true rfl, Nat.le_of_ble_eq_true rfl⟩ rfl rfl (Nat.le_of_ble_eq_true rfl) dX8_digest_14) hS (fun H locs hP hS => ?_)
    refine x_if_eq (tgt := 38) hx hb dX8_digest_17 (by decide) h (fun c6 h => ?_) (fun c6 h => ?_)
    · refine lv_bipush (v := (-9)) hx hb dX8_digest_38 kc_bm9 ?_
      exact t_X8_digest_b40 hX hr hlk  _ _ h _ _ _ hP hS (lv_sub hl [] rfl)
    · refine lv_aload_n hx hb dX8_digest_20 rfl (lv_at hl 0 rfl) ?_
      refine m_getq (t := 153) hX hP cok6 0 sge_152 s157_152 sk_152 (by decide) rfl q780 dX8_digest_21 ?_
      refine lv_iload_n hx hb dX8_digest_24 rfl (lv_at hl 1 rfl) ?_
      obtain ⟨r8, e7, h⟩ := ob1_some h
      refine j_i (j_runS (rest := [.ref (ad 153)]) hX hP hl.1 Y_X8_person (c_X8_person hA e7) ⟨rfl, rfl⟩ q814 ⟨Nat.le_of_ble_eq_true rfl, Nat.le_of_ble_eq_true rfl⟩ rfl rfl (Nat.le_of_ble_eq_true rfl) dX8_digest_25) hS (fun H locs hP hS => ?_)
      refine lv_bipush (v := 11) hx hb dX8_digest_28 kc_b11 ?_
      refine lv_iadd hx hb dX8_digest_30 ?_
      refine x_let h (fun x9 h => ?_)
      refine m_ald hX hP h (sge_153) s157_153 sk_153 sn_153 dX8_digest_31 (fun h => ?_)
      refine x_let h (fun x10 h => ?_)
      refine lv_ldc (v := 1073741823) hx hb hown (hts _ q903) dX8_digest_32 ?_
      refine lv_iand hx hb dX8_digest_34 ?_
      refine lv_goto (tgt := 40) hx hb dX8_digest_35 (by decide) ?_
      exact t_X8_digest_b40 hX hr hlk  _ _ h _ _ _ hP hS (lv_sub hl [] rfl)
  · refine lv_iconst (v := (-1)) hx hb dX8_digest_8 kc_im1 ?_
    refine lv_goto (tgt := 40) hx hb dX8_digest_9 (by decide) ?_
    exact t_X8_digest_b40 hX hr hlk  _ _ h _ _ _ hP hS (lv_sub hl [] rfl)
