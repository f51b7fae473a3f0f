/-! OwnerlessCoinModel.opensUp()I -/
def rm_X8_opensUp : Room := { frames := 3, cells := 0, slots := 0, locals := 65 }
theorem Y_X8_opensUp : yv yX8_opensUp cX8_opensUp 2 (some .int) 0 RX8 := ⟨q951, q950, q32, q57, by decide +kernel⟩
set_option maxHeartbeats 4000000 in
set_option maxRecDepth 100000 in
theorem t_X8_opensUp_b47 {p : Program} {l : Launch} {e : Env} {s : State} {m : MethodId} {args : Array Value} {below : List Frame} {meth : Method} {c : Code} {D : va_G} {tc : Tc} {ad : Nat → Nat} {A : Nat → Prop} {I : St} {rr : Int32} {II : St} (hX : cx p s m args c cX8_opensUp 2 RX8 D tc ad A) (hr : meth.sig.returnType = some .int) (hlk : meth.locks = false) {K2 : Int32 → St → Option (Int32 × St)} (hK2 : ∀ (v1 : Int32) (M : St), K2 v1 M = some (rr, II) → ∀ (H : Heap) (locs : List Loc) (ls : Array Slot), va_P D vwCl (wl tc ad (cmb I M)) H → va_S A s.heap H locs → lv_has ls 2 [(0, .ref (ad 152)), (1, .int v1)] → W p l e rm_X8_opensUp s m args below meth c H locs 0 0 (MQ below (qi D tc ad A rr (cmb I II)) args s 0 0 A) (F0 m 2 ls [])) : ∀ (v1 : Int32) (t1 : Int32) (t2 : Int32) (M : St), f_X8_opensUp_b47 K2 v1 t1 t2 M = some (rr, II) → ∀ (H : Heap) (locs : List Loc) (ls : Array Slot), va_P D vwCl (wl tc ad (cmb I M)) H → va_S A s.heap H locs → lv_has ls 2 [(0, .ref (ad 152)), (1, .int v1)] → W p l e rm_X8_opensUp s m args below meth c H locs 0 0 (MQ below (qi D tc ad A rr (cmb I II)) args s 0 0 A) (F0 m 47 ls [.int t2, .int t1, .ref (ad 153)]) := by
  intro v1 t1 t2 M h H locs ls hP hS hl
  unfold f_X8_opensUp_b47 at h
  have hx := hX.1
  have hb := hX.2.1
  have hown := hX.2.2.2.1
  have hts := hX.2.2.2.2.1
  have hA := hX.2.2.2.2.2.2
  refine m_ast hX hP hS h (sge_153) s157_153 sk_153 sn_153 dX8_opensUp_47 (fun M1 H locs h hP hS => ?_)
  refine lv_iinc (v := (v1 + 1)) (lv' := [(1, .int (v1 + 1)), (0, .ref (ad 152))]) hx hb dX8_opensUp_48 hl (k := 1) rfl rfl (Nat.le_of_ble_eq_true rfl) rfl (fun ls hl => ?_)
  refine lv_goto (tgt := 2) hx hb dX8_opensUp_51 (by decide) ?_
  exact hK2 _ _ h _ _ _ hP hS (lv_sub hl [1, 0] rfl)
set_option maxHeartbeats 4000000 in
set_option maxRecDepth 100000 in
theorem t_X8_opensUp_l2 {p : Program} {l : Launch} {e : Env} {s : State} {m : MethodId} {args : Array Value} {below : List Frame} {meth : Method} {c : Code} {D : va_G} {tc : Tc} {ad : Nat → Nat} {A : Nat → Prop} {I : St} {rr : Int32} {II : St} (hX : cx p s m args c cX8_opensUp 2 RX8 D tc ad A) (hr : meth.sig.returnType = some .int) (hlk : meth.locks = false) : ∀ (n : Nat), ∀ (v1 : Int32) (M : St), f_X8_opensUp_l2 n v1 M = some (rr, II) → ∀ (H : Heap) (locs : List Loc) (ls : Array Slot), va_P D vwCl (wl tc ad (cmb I M)) H → va_S A s.heap H locs → lv_has ls 2 [(0, .ref (ad 152)), (1, .int v1)] → W p l e rm_X8_opensUp s m args below meth c H locs 0 0 (MQ below (qi D tc ad A rr (cmb I II)) args s 0 0 A) (F0 m 2 ls []) := by
  intro n
  induction n with
  | zero =>
    intro _ _ h
    cases h
  | succ n ih =>
    intro v1 M h H locs ls hP hS hl
    rw [f_X8_opensUp_l2] at h
    have hx := hX.1
    have hb := hX.2.1
    have hown := hX.2.2.2.1
    have hts := hX.2.2.2.2.1
    have hA := hX.2.2.2.2.2.2
    refine lv_iload_n hx hb dX8_opensUp_2 rfl (lv_at hl 1 rfl) ?_
    refine lv_aload_n hx hb dX8_opensUp_3 rfl (lv_at hl 0 rfl) ?_
    refine m_getq (t := 153) hX hP cok6 0 sge_152 s157_152 sk_152 (by decide) rfl q780 dX8_opensUp_4 ?_
    refine lv_iconst (v := 4) hx hb dX8_opensUp_7 kc_i4 ?_
    refine m_ald hX hP h (sge_153) s157_153 sk_153 sn_153 dX8_opensUp_8 (fun h => ?_)
    refine x_icmp_ge (tgt := 54) hx hb dX8_opensUp_9 (by decide) h (fun c2 h => ?_) (fun c2 h => ?_)
    · refine lv_aload_n hx hb dX8_opensUp_54 rfl (lv_at hl 0 rfl) ?_
      refine lv_iconst (v := 5) hx hb dX8_opensUp_55 kc_i5 ?_
      obtain ⟨r4, e3, h⟩ := ob1_some h
      refine j_i (j_runV (rest := []) hX hP hl.1 Y_X8_setOf cok6 (s157_152) sk_152 (c_X8_setOf hA e3) ⟨rfl, rfl⟩ q952 ⟨Nat.le_of_ble_eq_true rfl, Nat.le_of_ble_eq_true rfl⟩ rfl rfl (Nat.le_of_ble_eq_true rfl) dX8_opensUp_56) hS (fun H locs hP hS => ?_)
      refine lv_istore_n (lv' := [(1, .int r4), (0, .ref (ad 152))]) hx hb dX8_opensUp_59 rfl hl (Nat.le_of_ble_eq_true rfl) rfl (fun ls hl => ?_)
      refine lv_iload_n hx hb dX8_opensUp_60 rfl (lv_at hl 0 rfl) ?_
      obtain ⟨r6, e5, h⟩ := ob1_some h
      refine j_i (j_runS (rest := []) hX hP hl.1 Y_X8_countOf (c_X8_countOf hA e5) ⟨rfl, rfl⟩ q956 ⟨Nat.le_of_ble_eq_true rfl, Nat.le_of_ble_eq_true rfl⟩ rfl rfl (Nat.le_of_ble_eq_true rfl) dX8_opensUp_61) hS (fun H locs hP hS => ?_)
      refine lv_iconst (v := 2) hx hb dX8_opensUp_64 kc_i2 ?_
      refine x_icmp_ge (tgt := 80) hx hb dX8_opensUp_65 (by decide) h (fun c7 h => ?_) (fun c7 h => ?_)
      · refine lv_aload_n hx hb dX8_opensUp_80 rfl (lv_at hl 1 rfl) ?_
        refine m_getq (t := 153) hX hP cok6 0 sge_152 s157_152 sk_152 (by decide) rfl q780 dX8_opensUp_81 ?_
        refine lv_iconst (v := 0) hx hb dX8_opensUp_84 kc_i0 ?_
        refine lv_iconst (v := 2) hx hb dX8_opensUp_85 kc_i2 ?_
        refine m_ast hX hP hS h (sge_153) s157_153 sk_153 sn_153 dX8_opensUp_86 (fun M8 H locs h hP hS => ?_)
        refine lv_iload_n hx hb dX8_opensUp_87 rfl (lv_at hl 0 rfl) ?_
        obtain ⟨r10, e9, h⟩ := ob1_some h
        refine j_i (j_runS (rest := []) hX hP hl.1 Y_X8_countOf (c_X8_countOf hA e9) ⟨rfl, rfl⟩ q956 ⟨Nat.le_of_ble_eq_true rfl, Nat.le_of_ble_eq_true rfl⟩ rfl rfl (Nat.le_of_ble_eq_true rfl) dX8_opensUp_88) hS (fun H locs hP hS => ?_)
        cases h
        exact j_iret hX hr hlk hP hS dX8_opensUp_91
      · refine lv_aload_n hx hb dX8_opensUp_68 rfl (lv_at hl 1 rfl) ?_
        refine lv_bipush (v := (-5)) hx hb dX8_opensUp_69 kc_bm5 ?_
        refine lv_iconst (v := 0) hx hb dX8_opensUp_71 kc_i0 ?_
        refine lv_iconst (v := 0) hx hb dX8_opensUp_72 kc_i0 ?_
        refine lv_iload_n hx hb dX8_opensUp_73 rfl (lv_at hl 0 rfl) ?_
        obtain ⟨M12, e11, h⟩ := ob1_some h
        refine j_v (j_runV (rest := []) hX hP hl.1 Y_X8_ends cok6 (s157_152) sk_152 (c_X8_ends hA e11) ⟨rfl, rfl⟩ q959 ⟨Nat.le_of_ble_eq_true rfl, Nat.le_of_ble_eq_true rfl⟩ rfl rfl (Nat.le_of_ble_eq_true rfl) dX8_opensUp_74) hS (fun H locs hP hS => ?_)
        refine lv_bipush (v := (-5)) hx hb dX8_opensUp_77 kc_bm5 ?_
        cases h
        exact j_iret hX hr hlk hP hS dX8_opensUp_79
    · refine lv_aload_n hx hb dX8_opensUp_12 rfl (lv_at hl 0 rfl) ?_
      refine m_getq (t := 153) hX hP cok6 0 sge_152 s157_152 sk_152 (by decide) rfl q780 dX8_opensUp_13 ?_
      refine lv_iload_n hx hb dX8_opensUp_16 rfl (lv_at hl 1 rfl) ?_
      obtain ⟨r14, e13, h⟩ := ob1_some h
      refine j_i (j_runS (rest := [.ref (ad 153)]) hX hP hl.1 Y_X8_person (c_X8_person hA e13) ⟨rfl, rfl⟩ q814 ⟨Nat.le_of_ble_eq_true rfl, Nat.le_of_ble_eq_true rfl⟩ rfl rfl (Nat.le_of_ble_eq_true rfl) dX8_opensUp_17) hS (fun H locs hP hS => ?_)
      refine lv_iconst (v := 5) hx hb dX8_opensUp_20 kc_i5 ?_
      refine lv_iadd hx hb dX8_opensUp_21 ?_
      refine x_let h (fun x15 h => ?_)
      refine lv_aload_n hx hb dX8_opensUp_22 rfl (lv_at hl 0 rfl) ?_
      refine lv_iload_n hx hb dX8_opensUp_23 rfl (lv_at hl 1 rfl) ?_
      refine lv_bipush (v := 6) hx hb dX8_opensUp_24 kc_b6 ?_
      obtain ⟨r17, e16, h⟩ := ob1_some h
      refine j_i (j_runV (rest := [.int x15, .ref (ad 153)]) hX hP hl.1 Y_X8_has cok6 (s157_152) sk_152 (c_X8_has hA e16) ⟨rfl, rfl⟩ q865 ⟨Nat.le_of_ble_eq_true rfl, Nat.le_of_ble_eq_true rfl⟩ rfl rfl (Nat.le_of_ble_eq_true rfl) dX8_opensUp_26) hS (fun H locs hP hS => ?_)
      refine x_if_eq (tgt := 46) hx hb dX8_opensUp_29 (by decide) h (fun c18 h => ?_) (fun c18 h => ?_)
      · refine lv_iconst (v := 0) hx hb dX8_opensUp_46 kc_i0 ?_
        exact t_X8_opensUp_b47 hX hr hlk ih _ _ _ _ h _ _ _ hP hS (lv_sub hl [0, 1] rfl)
      · refine lv_aload_n hx hb dX8_opensUp_32 rfl (lv_at hl 0 rfl) ?_
        refine m_getq (t := 153) hX hP cok6 0 sge_152 s157_152 sk_152 (by decide) rfl q780 dX8_opensUp_33 ?_
        refine lv_iload_n hx hb dX8_opensUp_36 rfl (lv_at hl 1 rfl) ?_
        obtain ⟨r20, e19, h⟩ := ob1_some h
        refine j_i (j_runS (rest := [.ref (ad 153), .int x15, .ref (ad 153)]) hX hP hl.1 Y_X8_person (c_X8_person hA e19) ⟨rfl, rfl⟩ q814 ⟨Nat.le_of_ble_eq_true rfl, Nat.le_of_ble_eq_true rfl⟩ rfl rfl (Nat.le_of_ble_eq_true rfl) dX8_opensUp_37) hS (fun H locs hP hS => ?_)
        refine lv_iconst (v := 5) hx hb dX8_opensUp_40 kc_i5 ?_
        refine lv_iadd hx hb dX8_opensUp_41 ?_
        refine x_let h (fun x21 h => ?_)
        refine m_ald hX hP h (sge_153) s157_153 sk_153 sn_153 dX8_opensUp_42 (fun h => ?_)
        refine lv_goto (tgt := 47) hx hb dX8_opensUp_43 (by decide) ?_
        exact t_X8_opensUp_b47 hX hr hlk ih _ _ _ _ h _ _ _ hP hS (lv_sub hl [0, 1] rfl)
set_option maxHeartbeats 4000000 in
set_option maxRecDepth 100000 in
theorem c_X8_opensUp {l : Launch} {D : va_G} {tc : Tc} {ad : Nat → Nat} {A : Nat → Prop} (hA : adok ad A) {I M : St}  {rr : Int32} {II : St} (h : f_X8_opensUp M = some (rr, II)) : Met l yX8_opensUp (Cond.code yX8_opensUp cX8_opensUp 2 (some .int) :: tw) rm_X8_opensUp (pre D tc ad [.ref (ad 152)] (cmb I M)) (qi D tc ad A rr (cmb I II)) 0 0 A := by
  unfold f_X8_opensUp at h
  refine mk_met (own := RX8) (by decide +kernel) rfl hA (Nat.le_of_ble_eq_true rfl) ?_
  intro p e s m below meth c ls hX hr hlk hl hP hS
  have hl : lv_has ls 2 [(0, .ref (ad 152))] := hl
  have hx := hX.1
  have hb := hX.2.1
  have hown := hX.2.2.2.1
  have hts := hX.2.2.2.2.1
  refine lv_iconst (v := 0) hx hb dX8_opensUp_0 kc_i0 ?_
  refine lv_istore_n (lv' := [(1, .int 0), (0, .ref (ad 152))]) hx hb dX8_opensUp_1 rfl hl (Nat.le_of_ble_eq_true rfl) rfl (fun ls hl => ?_)
  exact t_X8_opensUp_l2 hX hr hlk  10000 _ _ h _ _ _ hP hS (lv_sub hl [1, 0] rfl)
/-! OwnerlessCoinModel.beginOpening()I -/
def rm_X8_beginOpening : Room := { frames := 4, cells := 0, slots := 0, locals := 86 }
theorem Y_X8_beginOpening : yv yX8_beginOpening cX8_beginOpening 1 (some .int) 0 RX8 := ⟨q947, q945, q946, q57, by decide +kernel⟩
set_option maxHeartbeats 4000000 in
set_option maxRecDepth 100000 in
theorem c_X8_beginOpening {l : Launch} {D : va_G} {tc : Tc} {ad : Nat → Nat} {A : Nat → Prop} (hA : adok ad A) {I M : St}  {rr : Int32} {II : St} (h : f_X8_beginOpening M = some (rr, II)) : Met l yX8_beginOpening (Cond.code yX8_beginOpening cX8_beginOpening 1 (some .int) :: tw) rm_X8_beginOpening (pre D tc ad [.ref (ad 152)] (cmb I M)) (qi D tc ad A rr (cmb I II)) 0 0 A := by
  unfold f_X8_beginOpening at h
  refine mk_met (own := RX8) (by decide +kernel) rfl hA (Nat.le_of_ble_eq_true rfl) ?_
  intro p e s m below meth c ls hX hr hlk hl hP hS
  have hl : lv_has ls 1 [(0, .ref (ad 152))] := hl
  have hx := hX.1
  have hb := hX.2.1
  have hown := hX.2.2.2.1
  have hts := hX.2.2.2.2.1
  refine lv_aload_n hx hb dX8_beginOpening_0 rfl (lv_at hl 0 rfl) ?_
  refine m_getq (t := 153) hX hP cok6 0 sge_152 s157_152 sk_152 (by decide) rfl q780 dX8_beginOpening_1 ?_
  refine lv_iconst (v := 0) hx hb dX8_beginOpening_4 kc_i0 ?_
  refine m_ald hX hP h (sge_153) s157_153 sk_153 sn_153 dX8_beginOpening_5 (fun h => ?_)
  refine x_let h (fun x1 h => ?_)
  refine lv_iconst (v := 1) hx hb dX8_beginOpening_6 kc_i1 ?_
  refine x_icmp_eq (tgt := 13) hx hb dX8_beginOpening_7 (by decide) h (fun c2 h => ?_) (fun c2 h => ?_)
  · refine lv_aload_n hx hb dX8_beginOpening_13 rfl (lv_at hl 0 rfl) ?_
    obtain ⟨M4, e3, h⟩ := ob1_some h
    refine j_v (j_runV (rest := []) hX hP hl.1 Y_X8_act cok6 (s157_152) sk_152 (c_X8_act hA e3) ⟨rfl, rfl⟩ q810 ⟨Nat.le_of_ble_eq_true rfl, Nat.le_of_ble_eq_true rfl⟩ rfl rfl (Nat.le_of_ble_eq_true rfl) dX8_beginOpening_14) hS (fun H locs hP hS => ?_)
    refine lv_aload_n hx hb dX8_beginOpening_17 rfl (lv_at hl 0 rfl) ?_
    obtain ⟨r7, M6, e5, h⟩ := ob2_some h
    refine j_i (j_runV (rest := []) hX hP hl.1 Y_X8_opensUp cok6 (s157_152) sk_152 (c_X8_opensUp hA e5) ⟨rfl, rfl⟩ q948 ⟨Nat.le_of_ble_eq_true rfl, Nat.le_of_ble_eq_true rfl⟩ rfl rfl (Nat.le_of_ble_eq_true rfl) dX8_beginOpening_18) hS (fun H locs hP hS => ?_)
    cases h
    exact j_iret hX hr hlk hP hS dX8_beginOpening_21
  · refine lv_bipush (v := (-2)) hx hb dX8_beginOpening_10 kc_bm2 ?_
    cases h
    exact j_iret hX hr hlk hP hS dX8_beginOpening_12
/-! OwnerlessCoinModel.open(III)I -/
def rm_X8_open : Room := { frames := 2, cells := 0, slots := 0, locals := 43 }
theorem Y_X8_open : yv yX8_open cX8_open 5 (some .int) 3 RX8 := ⟨q966, q964, q965, q57, by decide +kernel⟩
set_option maxHeartbeats 4000000 in
set_option maxRecDepth 100000 in
theorem t_X8_open_b39 {p : Program} {l : Launch} {e : Env} {s : State} {m : MethodId} {args : Array Value} {below : List Frame} {meth : Method} {c : Code} {D : va_G} {tc : Tc} {ad : Nat → Nat} {A : Nat → Prop} {I : St} {rr : Int32} {II : St} (hX : cx p s m args c cX8_open 5 RX8 D tc ad A) (hr : meth.sig.returnType = some .int) (hlk : meth.locks = false) : ∀ (M : St), f_X8_open_b39 M = some (rr, II) → ∀ (H : Heap) (locs : List Loc) (ls : Array Slot), va_P D vwCl (wl tc ad (cmb I M)) H → va_S A s.heap H locs → lv_has ls 5 [] → W p l e rm_X8_open s m args below meth c H locs 0 0 (MQ below (qi D tc ad A rr (cmb I II)) args s 0 0 A) (F0 m 39 ls []) := by
  intro M h H locs ls hP hS hl
  unfold f_X8_open_b39 at h
  have hx := hX.1
  have hb := hX.2.1
  have hown := hX.2.2.2.1
  have hts := hX.2.2.2.2.1
  have hA := hX.2.2.2.2.2.2
  refine lv_bipush (v := (-2)) hx hb dX8_open_39 kc_bm2 ?_
  cases h
  exact j_iret hX hr hlk hP hS dX8_open_41
set_option maxHeartbeats 4000000 in
set_option maxRecDepth 100000 in
theorem t_X8_open_b117 {p : Program} {l : Launch} {e : Env} {s : State} {m : MethodId} {args : Array Value} {below : List Frame} {meth : Method} {c : Code} {D : va_G} {tc : Tc} {ad : Nat → Nat} {A : Nat → Prop} {I : St} {rr : Int32} {II : St} (hX : cx p s m args c cX8_open 5 RX8 D tc ad A) (hr : meth.sig.returnType = some .int) (hlk : meth.locks = false) : ∀ (t0 : Int32) (M : St), f_X8_open_b117 t0 M = some (rr, II) → ∀ (H : Heap) (locs : List Loc) (ls : Array Slot), va_P D vwCl (wl tc ad (cmb I M)) H → va_S A s.heap H locs → lv_has ls 5 [] → W p l e rm_X8_open s m args below meth c H locs 0 0 (MQ below (qi D tc ad A rr (cmb I II)) args s 0 0 A) (F0 m 117 ls [.int t0]) := by
  intro t0 M h H locs ls hP hS hl
  unfold f_X8_open_b117 at h
  have hx := hX.1
  have hb := hX.2.1
  have hown := hX.2.2.2.1
  have hts := hX.2.2.2.2.1
  have hA := hX.2.2.2.2.2.2
  cases h
  exact j_iret hX hr hlk hP hS dX8_open_117
set_option maxHeartbeats 4000000 in
set_option maxRecDepth 100000 in
theorem t_X8_open_b106 {p : Program} {l : Launch} {e : Env} {s : State} {m : MethodId} {args : Array Value} {below : List Frame} {meth : Method} {c : Code} {D : va_G} {tc : Tc} {ad : Nat → Nat} {A : Nat → Prop} {I : St} {rr : Int32} {II : St} (hX : cx p s m args c cX8_open 5 RX8 D tc ad A) (hr : meth.sig.returnType = some .int) (hlk : meth.locks = false) : ∀ (v4 : Int32) (t1 : Int32) (t2 : Int32) (M : St), f_X8_open_b106 v4 t1 t2 M = some (rr, II) → ∀ (H : Heap) (locs : List Loc) (ls : Array Slot), va_P D vwCl (wl tc ad (cmb I M)) H → va_S A s.heap H locs → lv_has ls 5 [(4, .int v4)] → W p l e rm_X8_open s m args below meth c H locs 0 0 (MQ below (qi D tc ad A rr (cmb I II)) args s 0 0 A) (F0 m 106 ls [.int t2, .int t1, .ref (ad 153)]) := by
  intro v4 t1 t2 M h H locs ls hP hS hl
  unfold f_X8_open_b106 at h
  have hx := hX.1
  have hb := hX.2.1
  have hown := hX.2.2.2.1
  have hts := hX.2.2.2.2.1
  have hA := hX.2.2.2.2.2.2
  refine m_ast hX hP hS h (sge_153) s157_153 sk_153 sn_153 dX8_open_106 (fun M1 H locs h hP hS => ?_)
  refine lv_iload hx hb dX8_open_107 (lv_at hl 0 rfl) ?_
  refine x_if_eq (tgt := 116) hx hb dX8_open_109 (by decide) h (fun c2 h => ?_) (fun c2 h => ?_)
  · refine lv_iconst (v := 0) hx hb dX8_open_116 kc_i0 ?_
    exact t_X8_open_b117 hX hr hlk  _ _ h _ _ _ hP hS (lv_sub hl [] rfl)
  · refine lv_iconst (v := 1) hx hb dX8_open_112 kc_i1 ?_
    refine lv_goto (tgt := 117) hx hb dX8_open_113 (by decide) ?_
    exact t_X8_open_b117 hX hr hlk  _ _ h _ _ _ hP hS (lv_sub hl [] rfl)
set_option maxHeartbeats 4000000 in
set_option maxRecDepth 100000 in
theorem t_X8_open_b83 {p : Program} {l : Launch} {e : Env} {s : State} {m : MethodId} {args : Array Value} {below : List Frame} {meth : Method} {c : Code} {D : va_G} {tc : Tc} {ad : Nat → Nat} {A : Nat → Prop} {I : St} {rr : Int32} {II : St} (hX : cx p s m args c cX8_open 5 RX8 D tc ad A) (hr : meth.sig.returnType = some .int) (hlk : meth.locks = false) : ∀ (v1 : Int32) (t0 : Int32) (M : St), f_X8_open_b83 v1 t0 M = some (rr, II) → ∀ (H : Heap) (locs : List Loc) (ls : Array Slot), va_P D vwCl (wl tc ad (cmb I M)) H → va_S A s.heap H locs → lv_has ls 5 [(0, .ref (ad 152)), (1, .int v1)] → W p l e rm_X8_open s m args below meth c H locs 0 0 (MQ below (qi D tc ad A rr (cmb I II)) args s 0 0 A) (F0 m 83 ls [.int t0]) := by
  intro v1 t0 M h H locs ls hP hS hl
  unfold f_X8_open_b83 at h
  have hx := hX.1
  have hb := hX.2.1
  have hown := hX.2.2.2.1
  have hts := hX.2.2.2.2.1
  have hA := hX.2.2.2.2.2.2
  refine lv_istore (lv' := [(4, .int t0), (0, .ref (ad 152)), (1, .int v1)]) hx hb dX8_open_83 hl (Nat.le_of_ble_eq_true rfl) rfl (fun ls hl => ?_)
  refine lv_aload_n hx hb dX8_open_85 rfl (lv_at hl 1 rfl) ?_
  refine m_getq (t := 153) hX hP cok6 0 sge_152 s157_152 sk_152 (by decide) rfl q780 dX8_open_86 ?_
  refine lv_iload_n hx hb dX8_open_89 rfl (lv_at hl 2 rfl) ?_
  obtain ⟨r4, e3, h⟩ := ob1_some h
  refine j_i (j_runS (rest := [.ref (ad 153)]) hX hP hl.1 Y_X8_person (c_X8_person hA e3) ⟨rfl, rfl⟩ q814 ⟨Nat.le_of_ble_eq_true rfl, Nat.le_of_ble_eq_true rfl⟩ rfl rfl (Nat.le_of_ble_eq_true rfl) dX8_open_90) hS (fun H locs hP hS => ?_)
  refine lv_bipush (v := 7) hx hb dX8_open_93 kc_b7 ?_
  refine lv_iadd hx hb dX8_open_95 ?_
  refine x_let h (fun x5 h => ?_)
  refine lv_iload hx hb dX8_open_96 (lv_at hl 0 rfl) ?_
  refine x_if_eq (tgt := 105) hx hb dX8_open_98 (by decide) h (fun c6 h => ?_) (fun c6 h => ?_)
  · refine lv_iconst (v := 0) hx hb dX8_open_105 kc_i0 ?_
    exact t_X8_open_b106 hX hr hlk  _ _ _ _ h _ _ _ hP hS (lv_sub hl [0] rfl)
  · refine lv_iconst (v := 1) hx hb dX8_open_101 kc_i1 ?_
    refine lv_goto (tgt := 106) hx hb dX8_open_102 (by decide) ?_
    exact t_X8_open_b106 hX hr hlk  _ _ _ _ h _ _ _ hP hS (lv_sub hl [0] rfl)
set_option maxHeartbeats 4000000 in
set_option maxRecDepth 100000 in
theorem t_X8_open_b82 {p : Program} {l : Launch} {e : Env} {s : State} {m : MethodId} {args : Array Value} {below : List Frame} {meth : Method} {c : Code} {D : va_G} {tc : Tc} {ad : Nat → Nat} {A : Nat → Prop} {I : St} {rr : Int32} {II : St} (hX : cx p s m args c cX8_open 5 RX8 D tc ad A) (hr : meth.sig.returnType = some .int) (hlk : meth.locks = false) : ∀ (v1 : Int32) (M : St), f_X8_open_b82 v1 M = some (rr, II) → ∀ (H : Heap) (locs : List Loc) (ls : Array Slot), va_P D vwCl (wl tc ad (cmb I M)) H → va_S A s.heap H locs → lv_has ls 5 [(0, .ref (ad 152)), (1, .int v1)] → W p l e rm_X8_open s m args below meth c H locs 0 0 (MQ below (qi D tc ad A rr (cmb I II)) args s 0 0 A) (F0 m 82 ls []) := by
  intro v1 M h H locs ls hP hS hl
  unfold f_X8_open_b82 at h
  have hx := hX.1
  have hb := hX.2.1
  have hown := hX.2.2.2.1
  have hts := hX.2.2.2.2.1
  have hA := hX.2.2.2.2.2.2
  refine lv_iconst (v := 0) hx hb dX8_open_82 kc_i0 ?_
  exact t_X8_open_b83 hX hr hlk  _ _ _ h _ _ _ hP hS (lv_sub hl [0, 1] rfl)
set_option maxHeartbeats 4000000 in
set_option maxRecDepth 100000 in
theorem c_X8_open {l : Launch} {D : va_G} {tc : Tc} {ad : Nat → Nat} {A : Nat → Prop} (hA : adok ad A) {I M : St} {v1 : Int32} {v2 : Int32} {v3 : Int32} {rr : Int32} {II : St} (h : f_X8_open v1 v2 v3 M = some (rr, II)) : Met l yX8_open (Cond.code yX8_open cX8_open 5 (some .int) :: tw) rm_X8_open (pre D tc ad [.ref (ad 152), .int v1, .int v2, .int v3] (cmb I M)) (qi D tc ad A rr (cmb I II)) 0 0 A := by
  unfold f_X8_open at h
  refine mk_met (own := RX8) (by decide +kernel) rfl hA (Nat.le_of_ble_eq_true rfl) ?_
  intro p e s m below meth c ls hX hr hlk hl hP hS
  have hl : lv_has ls 5 [(0, .ref (ad 152)), (1, .int v1), (2, .int v2), (3, .int v3)] := hl
  have hx := hX.1
  have hb := hX.2.1
  have hown := hX.2.2.2.1
  have hts := hX.2.2.2.2.1
  refine lv_aload_n hx hb dX8_open_0 rfl (lv_at hl 0 rfl) ?_
  refine lv_iload_n hx hb dX8_open_1 rfl (lv_at hl 1 rfl) ?_
  obtain ⟨r8, e7, h⟩ := ob1_some h
  refine j_i (j_runV (rest := []) hX hP hl.1 Y_X8_isPerson cok6 (s157_152) sk_152 (c_X8_isPerson hA e7) ⟨rfl, rfl⟩ q821 ⟨Nat.le_of_ble_eq_true rfl, Nat.le_of_ble_eq_true rfl⟩ rfl rfl (Nat.le_of_ble_eq_true rfl) dX8_open_2) hS (fun H locs hP hS => ?_)
  refine x_if_ne (tgt := 10) hx hb dX8_open_5 (by decide) h (fun c9 h => ?_) (fun c9 h => ?_)
  · refine lv_aload_n hx hb dX8_open_10 rfl (lv_at hl 0 rfl) ?_
    refine m_getq (t := 153) hX hP cok6 0 sge_152 s157_152 sk_152 (by decide) rfl q780 dX8_open_11 ?_
    refine lv_iconst (v := 0) hx hb dX8_open_14 kc_i0 ?_
    refine m_ald hX hP h (sge_153) s157_153 sk_153 sn_153 dX8_open_15 (fun h => ?_)
    refine x_let h (fun x10 h => ?_)
    refine lv_iconst (v := 2) hx hb dX8_open_16 kc_i2 ?_
    refine x_icmp_ne (tgt := 39) hx hb dX8_open_17 (by decide) h (fun c11 h => ?_) (fun c11 h => ?_)
    · exact t_X8_open_b39 hX hr hlk  _ h _ _ _ hP hS (lv_sub hl [] rfl)
    · refine lv_aload_n hx hb dX8_open_20 rfl (lv_at hl 0 rfl) ?_
      refine lv_iload_n hx hb dX8_open_21 rfl (lv_at hl 1 rfl) ?_
      refine lv_iconst (v := 5) hx hb dX8_open_22 kc_i5 ?_
      obtain ⟨r13, e12, h⟩ := ob1_some h
      refine j_i (j_runV (rest := []) hX hP hl.1 Y_X8_has cok6 (s157_152) sk_152 (c_X8_has hA e12) ⟨rfl, rfl⟩ q865 ⟨Nat.le_of_ble_eq_true rfl, Nat.le_of_ble_eq_true rfl⟩ rfl rfl (Nat.le_of_ble_eq_true rfl) dX8_open_23) hS (fun H locs hP hS => ?_)
      refine x_if_eq (tgt := 39) hx hb dX8_open_26 (by decide) h (fun c14 h => ?_) (fun c14 h => ?_)
      · exact t_X8_open_b39 hX hr hlk  _ h _ _ _ hP hS (lv_sub hl [] rfl)
      · refine lv_aload_n hx hb dX8_open_29 rfl (lv_at hl 0 rfl) ?_
        refine lv_iload_n hx hb dX8_open_30 rfl (lv_at hl 1 rfl) ?_
        refine lv_bipush (v := 7) hx hb dX8_open_31 kc_b7 ?_
        obtain ⟨r16, e15, h⟩ := ob1_some h
        refine j_i (j_runV (rest := []) hX hP hl.1 Y_X8_has cok6 (s157_152) sk_152 (c_X8_has hA e15) ⟨rfl, rfl⟩ q865 ⟨Nat.le_of_ble_eq_true rfl, Nat.le_of_ble_eq_true rfl⟩ rfl rfl (Nat.le_of_ble_eq_true rfl) dX8_open_33) hS (fun H locs hP hS => ?_)
        refine x_if_eq (tgt := 42) hx hb dX8_open_36 (by decide) h (fun c17 h => ?_) (fun c17 h => ?_)
        · refine lv_aload_n hx hb dX8_open_42 rfl (lv_at hl 0 rfl) ?_
          obtain ⟨M19, e18, h⟩ := ob1_some h
          refine j_v (j_runV (rest := []) hX hP hl.1 Y_X8_act cok6 (s157_152) sk_152 (c_X8_act hA e18) ⟨rfl, rfl⟩ q810 ⟨Nat.le_of_ble_eq_true rfl, Nat.le_of_ble_eq_true rfl⟩ rfl rfl (Nat.le_of_ble_eq_true rfl) dX8_open_43) hS (fun H locs hP hS => ?_)
          refine lv_aload_n hx hb dX8_open_46 rfl (lv_at hl 0 rfl) ?_
          refine m_getq (t := 153) hX hP cok6 0 sge_152 s157_152 sk_152 (by decide) rfl q780 dX8_open_47 ?_
          refine lv_iload_n hx hb dX8_open_50 rfl (lv_at hl 1 rfl) ?_
          obtain ⟨r21, e20, h⟩ := ob1_some h
          refine j_i (j_runS (rest := [.ref (ad 153)]) hX hP hl.1 Y_X8_person (c_X8_person hA e20) ⟨rfl, rfl⟩ q814 ⟨Nat.le_of_ble_eq_true rfl, Nat.le_of_ble_eq_true rfl⟩ rfl rfl (Nat.le_of_ble_eq_true rfl) dX8_open_51) hS (fun H locs hP hS => ?_)
          refine lv_bipush (v := 9) hx hb dX8_open_54 kc_b9 ?_
          refine lv_iadd hx hb dX8_open_56 ?_
          refine x_let h (fun x22 h => ?_)
          refine m_ald hX hP h (sge_153) s157_153 sk_153 sn_153 dX8_open_57 (fun h => ?_)
          refine x_let h (fun x23 h => ?_)
          refine lv_iload_n hx hb dX8_open_58 rfl (lv_at hl 2 rfl) ?_
          refine x_icmp_ne (tgt := 82) hx hb dX8_open_59 (by decide) h (fun c24 h => ?_) (fun c24 h => ?_)
          · exact t_X8_open_b82 hX hr hlk  _ _ h _ _ _ hP hS (lv_sub hl [0, 1] rfl)
          · refine lv_aload_n hx hb dX8_open_62 rfl (lv_at hl 0 rfl) ?_
            refine m_getq (t := 153) hX hP cok6 0 sge_152 s157_152 sk_152 (by decide) rfl q780 dX8_open_63 ?_
            refine lv_iload_n hx hb dX8_open_66 rfl (lv_at hl 1 rfl) ?_
            obtain ⟨r26, e25, h⟩ := ob1_some h
            refine j_i (j_runS (rest := [.ref (ad 153)]) hX hP hl.1 Y_X8_person (c_X8_person hA e25) ⟨rfl, rfl⟩ q814 ⟨Nat.le_of_ble_eq_true rfl, Nat.le_of_ble_eq_true rfl⟩ rfl rfl (Nat.le_of_ble_eq_true rfl) dX8_open_67) hS (fun H locs hP hS => ?_)
            refine lv_bipush (v := 10) hx hb dX8_open_70 kc_b10 ?_
            refine lv_iadd hx hb dX8_open_72 ?_
            refine x_let h (fun x27 h => ?_)
            refine m_ald hX hP h (sge_153) s157_153 sk_153 sn_153 dX8_open_73 (fun h => ?_)
            refine x_let h (fun x28 h => ?_)
            refine lv_iload_n hx hb dX8_open_74 rfl (lv_at hl 3 rfl) ?_
            refine x_icmp_ne (tgt := 82) hx hb dX8_open_75 (by decide) h (fun c29 h => ?_) (fun c29 h => ?_)
            · exact t_X8_open_b82 hX hr hlk  _ _ h _ _ _ hP hS (lv_sub hl [0, 1] rfl)
            · refine lv_iconst (v := 1) hx hb dX8_open_78 kc_i1 ?_
              refine lv_goto (tgt := 83) hx hb dX8_open_79 (by decide) ?_
              exact t_X8_open_b83 hX hr hlk  _ _ _ h _ _ _ hP hS (lv_sub hl [0, 1] rfl)
        · exact t_X8_open_b39 hX hr hlk  _ h _ _ _ hP hS (lv_sub hl [] rfl)
  · refine lv_iconst (v := (-1)) hx hb dX8_open_8 kc_im1 ?_
    cases h
    exact j_iret hX hr hlk hP hS dX8_open_9
/-! OwnerlessCoinModel.takesSecrets()V -/
def rm_X8_takesSecrets : Room := { frames := 1, cells := 0, slots := 0, locals := 20 }
theorem Y_X8_takesSecrets : yv yX8_takesSecrets cX8_takesSecrets 2 none 0 RX8 := ⟨q978, q977, q36, q57, by decide +kernel⟩
set_option maxHeartbeats 4000000 in
set_option maxRecDepth 100000 in
theorem t_X8_takesSecrets_l2 {p : Program} {l : Launch} {e : Env} {s : State} {m : MethodId} {args : Array Value} {below : List Frame} {meth : Method} {c : Code} {D : va_G} {tc : Tc} {ad : Nat → Nat} {A : Nat → Prop} {I : St} {II : St} (hX : cx p s m args c cX8_takesSecrets 2 RX8 D tc ad A) (hr : meth.sig.returnType = none) (hlk : meth.locks = false) : ∀ (n : Nat), ∀ (v1 : Int32) (M : St), f_X8_takesSecrets_l2 n v1 M = some II → ∀ (H : Heap) (locs : List Loc) (ls : Array Slot), va_P D vwCl (wl tc ad (cmb I M)) H → va_S A s.heap H locs → lv_has ls 2 [(0, .ref (ad 152)), (1, .int v1)] → W p l e rm_X8_takesSecrets s m args below meth c H locs 0 0 (MQ below (qv D tc ad A (cmb I II)) args s 0 0 A) (F0 m 2 ls []) := by
  intro n
  induction n with
  | zero =>
    intro _ _ h
    cases h
  | succ n ih =>
    intro v1 M h H locs ls hP hS hl
    rw [f_X8_takesSecrets_l2] at h
    have hx := hX.1
    have hb := hX.2.1
    have hown := hX.2.2.2.1
    have hts := hX.2.2.2.2.1
    have hA := hX.2.2.2.2.2.2
    refine lv_iload_n hx hb dX8_takesSecrets_2 rfl (lv_at hl 1 rfl) ?_
    refine lv_aload_n hx hb dX8_takesSecrets_3 rfl (lv_at hl 0 rfl) ?_
    refine m_getq (t := 153) hX hP cok6 0 sge_152 s157_152 sk_152 (by decide) rfl q780 dX8_takesSecrets_4 ?_
    refine lv_iconst (v := 4) hx hb dX8_takesSecrets_7 kc_i4 ?_
    refine m_ald hX hP h (sge_153) s157_153 sk_153 sn_153 dX8_takesSecrets_8 (fun h => ?_)
    refine x_icmp_ge (tgt := 36) hx hb dX8_takesSecrets_9 (by decide) h (fun c1 h => ?_) (fun c1 h => ?_)
    · cases h
      exact j_vret hX hr hlk hP hS dX8_takesSecrets_36
    · refine lv_aload_n hx hb dX8_takesSecrets_12 rfl (lv_at hl 0 rfl) ?_
      refine m_getq (t := 155) hX hP cok6 3 sge_152 s157_152 sk_152 (by decide) rfl q783 dX8_takesSecrets_13 ?_
      refine lv_iload_n hx hb dX8_takesSecrets_16 rfl (lv_at hl 1 rfl) ?_
      refine lv_aload_n hx hb dX8_takesSecrets_17 rfl (lv_at hl 0 rfl) ?_
      refine m_getq (t := 153) hX hP cok6 0 sge_152 s157_152 sk_152 (by decide) rfl q780 dX8_takesSecrets_18 ?_
      refine lv_iload_n hx hb dX8_takesSecrets_21 rfl (lv_at hl 1 rfl) ?_
      obtain ⟨r3, e2, h⟩ := ob1_some h
      refine j_i (j_runS (rest := [.ref (ad 153), .int v1, .ref (ad 155)]) hX hP hl.1 Y_X8_person (c_X8_person hA e2) ⟨rfl, rfl⟩ q814 ⟨Nat.le_of_ble_eq_true rfl, Nat.le_of_ble_eq_true rfl⟩ rfl rfl (Nat.le_of_ble_eq_true rfl) dX8_takesSecrets_22) hS (fun H locs hP hS => ?_)
      refine lv_bipush (v := 9) hx hb dX8_takesSecrets_25 kc_b9 ?_
      refine lv_iadd hx hb dX8_takesSecrets_27 ?_
      refine x_let h (fun x4 h => ?_)
      refine m_ald hX hP h (sge_153) s157_153 sk_153 sn_153 dX8_takesSecrets_28 (fun h => ?_)
      refine m_ast hX hP hS h (sge_155) s157_155 sk_155 sn_155 dX8_takesSecrets_29 (fun M5 H locs h hP hS => ?_)
      refine lv_iinc (v := (v1 + 1)) (lv' := [(1, .int (v1 + 1)), (0, .ref (ad 152))]) hx hb dX8_takesSecrets_30 hl (k := 1) rfl rfl (Nat.le_of_ble_eq_true rfl) rfl (fun ls hl => ?_)
      refine lv_goto (tgt := 2) hx hb dX8_takesSecrets_33 (by decide) ?_
      exact ih _ _ h _ _ _ hP hS (lv_sub hl [1, 0] rfl)
set_option maxHeartbeats 4000000 in
set_option maxRecDepth 100000 in
theorem c_X8_takesSecrets {l : Launch} {D : va_G} {tc : Tc} {ad : Nat → Nat} {A : Nat → Prop} (hA : adok ad A) {I M : St}  {II : St} (h : f_X8_takesSecrets M = some II) : Met l yX8_takesSecrets (Cond.code yX8_takesSecrets cX8_takesSecrets 2 none :: tw) rm_X8_takesSecrets (pre D tc ad [.ref (ad 152)] (cmb I M)) (qv D tc ad A (cmb I II)) 0 0 A := by
  unfold f_X8_takesSecrets at h
  refine mk_met (own := RX8) (by decide +kernel) rfl hA (Nat.le_of_ble_eq_true rfl) ?_
  intro p e s m below meth c ls hX hr hlk hl hP hS
  have hl : lv_has ls 2 [(0, .ref (ad 152))] := hl
  have hx := hX.1
  have hb := hX.2.1
  have hown := hX.2.2.2.1
  have hts := hX.2.2.2.2.1
  refine lv_iconst (v := 0) hx hb dX8_takesSecrets_0 kc_i0 ?_
  refine lv_istore_n (lv' := [(1, .int 0), (0, .ref (ad 152))]) hx hb dX8_takesSecrets_1 rfl hl (Nat.le_of_ble_eq_true rfl) rfl (fun ls hl => ?_)
  exact t_X8_takesSecrets_l2 hX hr hlk  10000 _ _ h _ _ _ hP hS (lv_sub hl [1, 0] rfl)
/-! OwnerlessCoinModel.rightOnes(II)I -/
def rm_X8_rightOnes : Room := { frames := 3, cells := 0, slots := 0, locals := 66 }
theorem Y_X8_rightOnes : yv yX8_rightOnes cX8_rightOnes 5 (some .int) 2 RX8 := ⟨q986, q985, q38, q57, by decide +kernel⟩
set_option maxHeartbeats 4000000 in
set_option maxRecDepth 100000 in
theorem t_X8_rightOnes_b42 {p : Program} {l : Launch} {e : Env} {s : State} {m : MethodId} {args : Array Value} {below : List Frame} {meth : Method} {c : Code} {D : va_G} {tc : Tc} {ad : Nat → Nat} {A : Nat → Prop} {I : St} {rr : Int32} (hX : cx p s m args c cX8_rightOnes 5 RX8 D tc ad A) (hr : meth.sig.returnType = some .int) (hlk : meth.locks = false) {K5 : Int32 → Int32 → Int32 → Int32 → St → Option (Int32)} (hK5 : ∀ (v1 : Int32) (v2 : Int32) (v3 : Int32) (v4 : Int32) (M : St), K5 v1 v2 v3 v4 M = some rr → ∀ (H : Heap) (locs : List Loc) (ls : Array Slot), va_P D vwCl (wl tc ad (cmb I M)) H → va_S A s.heap H locs → lv_has ls 5 [(0, .ref (ad 152)), (1, .int v1), (2, .int v2), (3, .int v3), (4, .int v4)] → W p l e rm_X8_rightOnes s m args below meth c H locs 0 0 (MQ below (qi D tc ad A rr (cmb I M)) args s 0 0 A) (F0 m 5 ls [])) : ∀ (v1 : Int32) (v2 : Int32) (v4 : Int32) (t0 : Int32) (t1 : Int32) (M : St), f_X8_rightOnes_b42 K5 v1 v2 v4 t0 t1 M = some rr → ∀ (H : Heap) (locs : List Loc) (ls : Array Slot), va_P D vwCl (wl tc ad (cmb I M)) H → va_S A s.heap H locs → lv_has ls 5 [(0, .ref (ad 152)), (1, .int v1), (2, .int v2), (4, .int v4)] → W p l e rm_X8_rightOnes s m args below meth c H locs 0 0 (MQ below (qi D tc ad A rr (cmb I M)) args s 0 0 A) (F0 m 42 ls [.int t1, .int t0]) := by
  intro v1 v2 v4 t0 t1 M h H locs ls hP hS hl
  unfold f_X8_rightOnes_b42 at h
  have hx := hX.1
  have hb := hX.2.1
  have hown := hX.2.2.2.1
  have hts := hX.2.2.2.2.1
  have hA := hX.2.2.2.2.2.2
  refine lv_iadd hx hb dX8_rightOnes_42 ?_
  refine x_let h (fun x1 h => ?_)
  refine lv_istore_n (lv' := [(3, .int x1), (0, .ref (ad 152)), (1, .int v1), (2, .int v2), (4, .int v4)]) hx hb dX8_rightOnes_43 rfl hl (Nat.le_of_ble_eq_true rfl) rfl (fun ls hl => ?_)
  refine lv_iinc (v := (v4 + 1)) (lv' := [(4, .int (v4 + 1)), (3, .int x1), (0, .ref (ad 152)), (1, .int v1), (2, .int v2)]) hx hb dX8_rightOnes_44 hl (k := 4) rfl rfl (Nat.le_of_ble_eq_true rfl) rfl (fun ls hl => ?_)
  refine lv_goto (tgt := 5) hx hb dX8_rightOnes_47 (by decide) ?_
  exact hK5 _ _ _ _ _ h _ _ _ hP hS (lv_sub hl [2, 3, 4, 1, 0] rfl)
set_option maxHeartbeats 4000000 in
set_option maxRecDepth 100000 in
theorem t_X8_rightOnes_b41 {p : Program} {l : Launch} {e : Env} {s : State} {m : MethodId} {args : Array Value} {below : List Frame} {meth : Method} {c : Code} {D : va_G} {tc : Tc} {ad : Nat → Nat} {A : Nat → Prop} {I : St} {rr : Int32} (hX : cx p s m args c cX8_rightOnes 5 RX8 D tc ad A) (hr : meth.sig.returnType = some .int) (hlk : meth.locks = false) {K5 : Int32 → Int32 → Int32 → Int32 → St → Option (Int32)} (hK5 : ∀ (v1 : Int32) (v2 : Int32) (v3 : Int32) (v4 : Int32) (M : St), K5 v1 v2 v3 v4 M = some rr → ∀ (H : Heap) (locs : List Loc) (ls : Array Slot), va_P D vwCl (wl tc ad (cmb I M)) H → va_S A s.heap H locs → lv_has ls 5 [(0, .ref (ad 152)), (1, .int v1), (2, .int v2), (3, .int v3), (4, .int v4)] → W p l e rm_X8_rightOnes s m args below meth c H locs 0 0 (MQ below (qi D tc ad A rr (cmb I M)) args s 0 0 A) (F0 m 5 ls [])) : ∀ (v1 : Int32) (v2 : Int32) (v4 : Int32) (t0 : Int32) (M : St), f_X8_rightOnes_b41 K5 v1 v2 v4 t0 M = some rr → ∀ (H : Heap) (locs : List Loc) (ls : Array Slot), va_P D vwCl (wl tc ad (cmb I M)) H → va_S A s.heap H locs → lv_has ls 5 [(0, .ref (ad 152)), (1, .int v1), (2, .int v2), (4, .int v4)] → W p l e rm_X8_rightOnes s m args below meth c H locs 0 0 (MQ below (qi D tc ad A rr (cmb I M)) args s 0 0 A) (F0 m 41 ls [.int t0]) := by
  intro v1 v2 v4 t0 M h H locs ls hP hS hl
  unfold f_X8_rightOnes_b41 at h
  have hx := hX.1
  have hb := hX.2.1
  have hown := hX.2.2.2.1
  have hts := hX.2.2.2.2.1
  have hA := hX.2.2.2.2.2.2
  refine lv_iconst (v := 0) hx hb dX8_rightOnes_41 kc_i0 ?_
  exact t_X8_rightOnes_b42 hX hr hlk hK5 _ _ _ _ _ _ h _ _ _ hP hS (lv_sub hl [0, 1, 2, 3] rfl)
set_option maxHeartbeats 4000000 in
set_option maxRecDepth 100000 in
theorem t_X8_rightOnes_l5 {p : Program} {l : Launch} {e : Env} {s : State} {m : MethodId} {args : Array Value} {below : List Frame} {meth : Method} {c : Code} {D : va_G} {tc : Tc} {ad : Nat → Nat} {A : Nat → Prop} {I : St} {rr : Int32} (hX : cx p s m args c cX8_rightOnes 5 RX8 D tc ad A) (hr : meth.sig.returnType = some .int) (hlk : meth.locks = false) : ∀ (n : Nat), ∀ (v1 : Int32) (v2 : Int32) (v3 : Int32) (v4 : Int32) (M : St), f_X8_rightOnes_l5 n v1 v2 v3 v4 M = some rr → ∀ (H : Heap) (locs : List Loc) (ls : Array Slot), va_P D vwCl (wl tc ad (cmb I M)) H → va_S A s.heap H locs → lv_has ls 5 [(0, .ref (ad 152)), (1, .int v1), (2, .int v2), (3, .int v3), (4, .int v4)] → W p l e rm_X8_rightOnes s m args below meth c H locs 0 0 (MQ below (qi D tc ad A rr (cmb I M)) args s 0 0 A) (F0 m 5 ls []) := by
  intro n
  induction n with
  | zero =>
    intro _ _ _ _ _ h
    cases h
  | succ n ih =>
    intro v1 v2 v3 v4 M h H locs ls hP hS hl
    rw [f_X8_rightOnes_l5] at h
    have hx := hX.1
    have hb := hX.2.1
    have hown := hX.2.2.2.1
    have hts := hX.2.2.2.2.1
    have hA := hX.2.2.2.2.2.2
    refine lv_iload hx hb dX8_rightOnes_5 (lv_at hl 4 rfl) ?_
    refine lv_aload_n hx hb dX8_rightOnes_7 rfl (lv_at hl 0 rfl) ?_
    refine m_getq (t := 153) hX hP cok6 0 sge_152 s157_152 sk_152 (by decide) rfl q780 dX8_rightOnes_8 ?_
    refine lv_iconst (v := 4) hx hb dX8_rightOnes_11 kc_i4 ?_
    refine m_ald hX hP h (sge_153) s157_153 sk_153 sn_153 dX8_rightOnes_12 (fun h => ?_)
    refine x_icmp_ge (tgt := 50) hx hb dX8_rightOnes_13 (by decide) h (fun c2 h => ?_) (fun c2 h => ?_)
    · refine lv_iload_n hx hb dX8_rightOnes_50 rfl (lv_at hl 3 rfl) ?_
      cases h
      exact j_iret hX hr hlk hP hS dX8_rightOnes_51
    · refine lv_iload_n hx hb dX8_rightOnes_16 rfl (lv_at hl 3 rfl) ?_
      refine lv_iload_n hx hb dX8_rightOnes_17 rfl (lv_at hl 2 rfl) ?_
      refine lv_iload hx hb dX8_rightOnes_18 (lv_at hl 4 rfl) ?_
      refine lv_ishr hx hb dX8_rightOnes_20 ?_
      refine x_let h (fun x3 h => ?_)
      refine lv_iconst (v := 1) hx hb dX8_rightOnes_21 kc_i1 ?_
      refine lv_iand hx hb dX8_rightOnes_22 ?_
      refine x_let h (fun x4 h => ?_)
      refine lv_iconst (v := 1) hx hb dX8_rightOnes_23 kc_i1 ?_
      refine x_icmp_ne (tgt := 41) hx hb dX8_rightOnes_24 (by decide) h (fun c5 h => ?_) (fun c5 h => ?_)
      · exact t_X8_rightOnes_b41 hX hr hlk ih _ _ _ _ _ h _ _ _ hP hS (lv_sub hl [0, 1, 2, 4] rfl)
      · refine lv_aload_n hx hb dX8_rightOnes_27 rfl (lv_at hl 0 rfl) ?_
        refine lv_iload_n hx hb dX8_rightOnes_28 rfl (lv_at hl 1 rfl) ?_
        refine lv_iload hx hb dX8_rightOnes_29 (lv_at hl 4 rfl) ?_
        obtain ⟨r7, e6, h⟩ := ob1_some h
        refine j_i (j_runV (rest := [.int v3]) hX hP hl.1 Y_X8_isGood cok6 (s157_152) sk_152 (c_X8_isGood hA e6) ⟨rfl, rfl⟩ q936 ⟨Nat.le_of_ble_eq_true rfl, Nat.le_of_ble_eq_true rfl⟩ rfl rfl (Nat.le_of_ble_eq_true rfl) dX8_rightOnes_31) hS (fun H locs hP hS => ?_)
        refine x_if_eq (tgt := 41) hx hb dX8_rightOnes_34 (by decide) h (fun c8 h => ?_) (fun c8 h => ?_)
        · exact t_X8_rightOnes_b41 hX hr hlk ih _ _ _ _ _ h _ _ _ hP hS (lv_sub hl [0, 1, 2, 4] rfl)
        · refine lv_iconst (v := 1) hx hb dX8_rightOnes_37 kc_i1 ?_
          refine lv_goto (tgt := 42) hx hb dX8_rightOnes_38 (by decide) ?_
          exact t_X8_rightOnes_b42 hX hr hlk ih _ _ _ _ _ _ h _ _ _ hP hS (lv_sub hl [0, 1, 2, 4] rfl)
set_option maxHeartbeats 4000000 in
set_option maxRecDepth 100000 in
theorem c_X8_rightOnes {l : Launch} {D : va_G} {tc : Tc} {ad : Nat → Nat} {A : Nat → Prop} (hA : adok ad A) {I M : St} {v1 : Int32} {v2 : Int32} {rr : Int32} (h : f_X8_rightOnes v1 v2 M = some rr) : Met l yX8_rightOnes (Cond.code yX8_rightOnes cX8_rightOnes 5 (some .int) :: tw) rm_X8_rightOnes (pre D tc ad [.ref (ad 152), .int v1, .int v2] (cmb I M)) (qi D tc ad A rr (cmb I M)) 0 0 A := by
  unfold f_X8_rightOnes at h
  refine mk_met (own := RX8) (by decide +kernel) rfl hA (Nat.le_of_ble_eq_true rfl) ?_
  intro p e s m below meth c ls hX hr hlk hl hP hS
  have hl : lv_has ls 5 [(0, .ref (ad 152)), (1, .int v1), (2, .int v2)] := hl
  have hx := hX.1
  have hb := hX.2.1
  have hown := hX.2.2.2.1
  have hts := hX.2.2.2.2.1
  refine lv_iconst (v := 0) hx hb dX8_rightOnes_0 kc_i0 ?_
  refine lv_istore_n (lv' := [(3, .int 0), (0, .ref (ad 152)), (1, .int v1), (2, .int v2)]) hx hb dX8_rightOnes_1 rfl hl (Nat.le_of_ble_eq_true rfl) rfl (fun ls hl => ?_)
  refine lv_iconst (v := 0) hx hb dX8_rightOnes_2 kc_i0 ?_
  refine lv_istore (lv' := [(4, .int 0), (3, .int 0), (0, .ref (ad 152)), (1, .int v1), (2, .int v2)]) hx hb dX8_rightOnes_3 hl (Nat.le_of_ble_eq_true rfl) rfl (fun ls hl => ?_)
  exact t_X8_rightOnes_l5 hX hr hlk  10000 _ _ _ _ _ h _ _ _ hP hS (lv_sub hl [2, 3, 4, 1, 0] rfl)
/-! OwnerlessCoinModel.outputOf(I)I -/
def rm_X8_outputOf : Room := { frames := 4, cells := 0, slots := 0, locals := 90 }
theorem Y_X8_outputOf : yv yX8_outputOf cX8_outputOf 5 (some .int) 1 RX8 := ⟨q982, q981, q37, q57, by decide +kernel⟩
set_option maxHeartbeats 4000000 in
set_option maxRecDepth 100000 in
theorem t_X8_outputOf_b125 {p : Program} {l : Launch} {e : Env} {s : State} {m : MethodId} {args : Array Value} {below : List Frame} {meth : Method} {c : Code} {D : va_G} {tc : Tc} {ad : Nat → Nat} {A : Nat → Prop} {I : St} {rr : Int32} {II : St} (hX : cx p s m args c cX8_outputOf 5 RX8 D tc ad A) (hr : meth.sig.returnType = some .int) (hlk : meth.locks = false) {K14 : Int32 → Int32 → Int32 → St → Option (Int32 × St)} (hK14 : ∀ (v1 : Int32) (v2 : Int32) (v3 : Int32) (M : St), K14 v1 v2 v3 M = some (rr, II) → ∀ (H : Heap) (locs : List Loc) (ls : Array Slot), va_P D vwCl (wl tc ad (cmb I M)) H → va_S A s.heap H locs → lv_has ls 5 [(0, .ref (ad 152)), (1, .int v1), (2, .int v2), (3, .int v3)] → W p l e rm_X8_outputOf s m args below meth c H locs 0 0 (MQ below (qi D tc ad A rr (cmb I II)) args s 0 0 A) (F0 m 14 ls [])) : ∀ (v1 : Int32) (v2 : Int32) (v3 : Int32) (M : St), f_X8_outputOf_b125 K14 v1 v2 v3 M = some (rr, II) → ∀ (H : Heap) (locs : List Loc) (ls : Array Slot), va_P D vwCl (wl tc ad (cmb I M)) H → va_S A s.heap H locs → lv_has ls 5 [(0, .ref (ad 152)), (1, .int v1), (2, .int v2), (3, .int v3)] → W p l e rm_X8_outputOf s m args below meth c H locs 0 0 (MQ below (qi D tc ad A rr (cmb I II)) args s 0 0 A) (F0 m 125 ls []) := by
  intro v1 v2 v3 M h H locs ls hP hS hl
  unfold f_X8_outputOf_b125 at h
  have hx := hX.1
  have hb := hX.2.1
  have hown := hX.2.2.2.1
  have hts := hX.2.2.2.2.1
  have hA := hX.2.2.2.2.2.2
  refine lv_iinc (v := (v3 + 1)) (lv' := [(3, .int (v3 + 1)), (0, .ref (ad 152)), (1, .int v1), (2, .int v2)]) hx hb dX8_outputOf_125 hl (k := 3) rfl rfl (Nat.le_of_ble_eq_true rfl) rfl (fun ls hl => ?_)
  refine lv_goto (tgt := 14) hx hb dX8_outputOf_128 (by decide) ?_
  exact hK14 _ _ _ _ h _ _ _ hP hS (lv_sub hl [1, 2, 3, 0] rfl)
set_option maxHeartbeats 4000000 in
set_option maxRecDepth 100000 in
theorem t_X8_outputOf_b121 {p : Program} {l : Launch} {e : Env} {s : State} {m : MethodId} {args : Array Value} {below : List Frame} {meth : Method} {c : Code} {D : va_G} {tc : Tc} {ad : Nat → Nat} {A : Nat → Prop} {I : St} {rr : Int32} {II : St} (hX : cx p s m args c cX8_outputOf 5 RX8 D tc ad A) (hr : meth.sig.returnType = some .int) (hlk : meth.locks = false) {K14 : Int32 → Int32 → Int32 → St → Option (Int32 × St)} (hK14 : ∀ (v1 : Int32) (v2 : Int32) (v3 : Int32) (M : St), K14 v1 v2 v3 M = some (rr, II) → ∀ (H : Heap) (locs : List Loc) (ls : Array Slot), va_P D vwCl (wl tc ad (cmb I M)) H → va_S A s.heap H locs → lv_has ls 5 [(0, .ref (ad 152)), (1, .int v1), (2, .int v2), (3, .int v3)] → W p l e rm_X8_outputOf s m args below meth c H locs 0 0 (MQ below (qi D tc ad A rr (cmb I II)) args s 0 0 A) (F0 m 14 ls [])) : ∀ (v1 : Int32) (v3 : Int32) (t0 : Int32) (t1 : Int32) (M : St), f_X8_outputOf_b121 K14 v1 v3 t0 t1 M = some (rr, II) → ∀ (H : Heap) (locs : List Loc) (ls : Array Slot), va_P D vwCl (wl tc ad (cmb I M)) H → va_S A s.heap H locs → lv_has ls 5 [(0, .ref (ad 152)), (1, .int v1), (3, .int v3)] → W p l e rm_X8_outputOf s m args below meth c H locs 0 0 (MQ below (qi D tc ad A rr (cmb I II)) args s 0 0 A) (F0 m 121 ls [.int t1, .int t0]) := by
  intro v1 v3 t0 t1 M h H locs ls hP hS hl
  unfold f_X8_outputOf_b121 at h
  have hx := hX.1
  have hb := hX.2.1
  have hown := hX.2.2.2.1
  have hts := hX.2.2.2.2.1
  have hA := hX.2.2.2.2.2.2
  obtain ⟨r2, e1, h⟩ := ob1_some h
  refine j_i (j_runS (rest := []) hX hP hl.1 Y_X8_mix (c_X8_mix hA e1) ⟨rfl, rfl⟩ q873 ⟨Nat.le_of_ble_eq_true rfl, Nat.le_of_ble_eq_true rfl⟩ rfl rfl (Nat.le_of_ble_eq_true rfl) dX8_outputOf_121) hS (fun H locs hP hS => ?_)
  refine lv_istore_n (lv' := [(2, .int r2), (0, .ref (ad 152)), (1, .int v1), (3, .int v3)]) hx hb dX8_outputOf_124 rfl hl (Nat.le_of_ble_eq_true rfl) rfl (fun ls hl => ?_)
  exact t_X8_outputOf_b125 hX hr hlk hK14 _ _ _ _ h _ _ _ hP hS (lv_sub hl [1, 2, 0, 3] rfl)
set_option maxHeartbeats 4000000 in
set_option maxRecDepth 100000 in
theorem t_X8_outputOf_b111 {p : Program} {l : Launch} {e : Env} {s : State} {m : MethodId} {args : Array Value} {below : List Frame} {meth : Method} {c : Code} {D : va_G} {tc : Tc} {ad : Nat → Nat} {A : Nat → Prop} {I : St} {rr : Int32} {II : St} (hX : cx p s m args c cX8_outputOf 5 RX8 D tc ad A) (hr : meth.sig.returnType = some .int) (hlk : meth.locks = false) {K14 : Int32 → Int32 → Int32 → St → Option (Int32 × St)} (hK14 : ∀ (v1 : Int32) (v2 : Int32) (v3 : Int32) (M : St), K14 v1 v2 v3 M = some (rr, II) → ∀ (H : Heap) (locs : List Loc) (ls : Array Slot), va_P D vwCl (wl tc ad (cmb I M)) H → va_S A s.heap H locs → lv_has ls 5 [(0, .ref (ad 152)), (1, .int v1), (2, .int v2), (3, .int v3)] → W p l e rm_X8_outputOf s m args below meth c H locs 0 0 (MQ below (qi D tc ad A rr (cmb I II)) args s 0 0 A) (F0 m 14 ls [])) : ∀ (v1 : Int32) (v3 : Int32) (t0 : Int32) (M : St), f_X8_outputOf_b111 K14 v1 v3 t0 M = some (rr, II) → ∀ (H : Heap) (locs : List Loc) (ls : Array Slot), va_P D vwCl (wl tc ad (cmb I M)) H → va_S A s.heap H locs → lv_has ls 5 [(0, .ref (ad 152)), (1, .int v1), (3, .int v3)] → W p l e rm_X8_outputOf s m args below meth c H locs 0 0 (MQ below (qi D tc ad A rr (cmb I II)) args s 0 0 A) (F0 m 111 ls [.int t0]) := by
  intro v1 v3 t0 M h H locs ls hP hS hl
  unfold f_X8_outputOf_b111 at h
  have hx := hX.1
  have hb := hX.2.1
  have hown := hX.2.2.2.1
  have hts := hX.2.2.2.2.1
  have hA := hX.2.2.2.2.2.2
  refine lv_aload_n hx hb dX8_outputOf_111 rfl (lv_at hl 0 rfl) ?_
  refine m_getq (t := 155) hX hP cok6 3 sge_152 s157_152 sk_152 (by decide) rfl q783 dX8_outputOf_112 ?_
  refine lv_iload_n hx hb dX8_outputOf_115 rfl (lv_at hl 2 rfl) ?_
  refine m_ald hX hP h (sge_155) s157_155 sk_155 sn_155 dX8_outputOf_116 (fun h => ?_)
  refine lv_goto (tgt := 121) hx hb dX8_outputOf_117 (by decide) ?_
  exact t_X8_outputOf_b121 hX hr hlk hK14 _ _ _ _ _ h _ _ _ hP hS (lv_sub hl [0, 1, 2] rfl)
set_option maxHeartbeats 4000000 in
set_option maxRecDepth 100000 in
theorem t_X8_outputOf_b93 {p : Program} {l : Launch} {e : Env} {s : State} {m : MethodId} {args : Array Value} {below : List Frame} {meth : Method} {c : Code} {D : va_G} {tc : Tc} {ad : Nat → Nat} {A : Nat → Prop} {I : St} {rr : Int32} {II : St} (hX : cx p s m args c cX8_outputOf 5 RX8 D tc ad A) (hr : meth.sig.returnType = some .int) (hlk : meth.locks = false) {K14 : Int32 → Int32 → Int32 → St → Option (Int32 × St)} (hK14 : ∀ (v1 : Int32) (v2 : Int32) (v3 : Int32) (M : St), K14 v1 v2 v3 M = some (rr, II) → ∀ (H : Heap) (locs : List Loc) (ls : Array Slot), va_P D vwCl (wl tc ad (cmb I M)) H → va_S A s.heap H locs → lv_has ls 5 [(0, .ref (ad 152)), (1, .int v1), (2, .int v2), (3, .int v3)] → W p l e rm_X8_outputOf s m args below meth c H locs 0 0 (MQ below (qi D tc ad A rr (cmb I II)) args s 0 0 A) (F0 m 14 ls [])) : ∀ (v1 : Int32) (v2 : Int32) (v3 : Int32) (v4 : Int32) (t1 : Int32) (M : St), f_X8_outputOf_b93 K14 v1 v2 v3 v4 t1 M = some (rr, II) → ∀ (H : Heap) (locs : List Loc) (ls : Array Slot), va_P D vwCl (wl tc ad (cmb I M)) H → va_S A s.heap H locs → lv_has ls 5 [(0, .ref (ad 152)), (1, .int v1), (2, .int v2), (3, .int v3), (4, .int v4)] → W p l e rm_X8_outputOf s m args below meth c H locs 0 0 (MQ below (qi D tc ad A rr (cmb I II)) args s 0 0 A) (F0 m 93 ls [.int t1, .ref (ad 152)]) := by
  intro v1 v2 v3 v4 t1 M h H locs ls hP hS hl
  unfold f_X8_outputOf_b93 at h
  have hx := hX.1
  have hb := hX.2.1
  have hown := hX.2.2.2.1
  have hts := hX.2.2.2.2.1
  have hA := hX.2.2.2.2.2.2
  obtain ⟨g4, h⟩ := ck_some h
  refine m_putZ hX hP hS cok6 4 (isB_or g4) h sge_152 s157_152 sk_152 (by decide) rfl rfl q784 rfl dX8_outputOf_93 (fun M3 H locs h hP hS => ?_)
  refine lv_iload_n hx hb dX8_outputOf_96 rfl (lv_at hl 2 rfl) ?_
  refine lv_iload hx hb dX8_outputOf_97 (lv_at hl 4 rfl) ?_
  refine x_if_ne (tgt := 111) hx hb dX8_outputOf_99 (by decide) h (fun c5 h => ?_) (fun c5 h => ?_)
  · exact t_X8_outputOf_b111 hX hr hlk hK14 _ _ _ _ h _ _ _ hP hS (lv_sub hl [0, 1, 3] rfl)
  · refine lv_aload_n hx hb dX8_outputOf_102 rfl (lv_at hl 0 rfl) ?_
    refine m_getq (t := 153) hX hP cok6 0 sge_152 s157_152 sk_152 (by decide) rfl q780 dX8_outputOf_103 ?_
    refine lv_iconst (v := 5) hx hb dX8_outputOf_106 kc_i5 ?_
    refine m_ald hX hP h (sge_153) s157_153 sk_153 sn_153 dX8_outputOf_107 (fun h => ?_)
    refine x_if_eq (tgt := 120) hx hb dX8_outputOf_108 (by decide) h (fun c6 h => ?_) (fun c6 h => ?_)
    · refine lv_iconst (v := 0) hx hb dX8_outputOf_120 kc_i0 ?_
      exact t_X8_outputOf_b121 hX hr hlk hK14 _ _ _ _ _ h _ _ _ hP hS (lv_sub hl [0, 1, 3] rfl)
    · exact t_X8_outputOf_b111 hX hr hlk hK14 _ _ _ _ h _ _ _ hP hS (lv_sub hl [0, 1, 3] rfl)
set_option maxHeartbeats 4000000 in
set_option maxRecDepth 100000 in
theorem t_X8_outputOf_b88 {p : Program} {l : Launch} {e : Env} {s : State} {m : MethodId} {args : Array Value} {below : List Frame} {meth : Method} {c : Code} {D : va_G} {tc : Tc} {ad : Nat → Nat} {A : Nat → Prop} {I : St} {rr : Int32} {II : St} (hX : cx p s m args c cX8_outputOf 5 RX8 D tc ad A) (hr : meth.sig.returnType = some .int) (hlk : meth.locks = false) {K14 : Int32 → Int32 → Int32 → St → Option (Int32 × St)} (hK14 : ∀ (v1 : Int32) (v2 : Int32) (v3 : Int32) (M : St), K14 v1 v2 v3 M = some (rr, II) → ∀ (H : Heap) (locs : List Loc) (ls : Array Slot), va_P D vwCl (wl tc ad (cmb I M)) H → va_S A s.heap H locs → lv_has ls 5 [(0, .ref (ad 152)), (1, .int v1), (2, .int v2), (3, .int v3)] → W p l e rm_X8_outputOf s m args below meth c H locs 0 0 (MQ below (qi D tc ad A rr (cmb I II)) args s 0 0 A) (F0 m 14 ls [])) : ∀ (v1 : Int32) (v2 : Int32) (v3 : Int32) (v4 : Int32) (M : St), f_X8_outputOf_b88 K14 v1 v2 v3 v4 M = some (rr, II) → ∀ (H : Heap) (locs : List Loc) (ls : Array Slot), va_P D vwCl (wl tc ad (cmb I M)) H → va_S A s.heap H locs → lv_has ls 5 [(0, .ref (ad 152)), (1, .int v1), (2, .int v2), (3, .int v3), (4, .int v4)] → W p l e rm_X8_outputOf s m args below meth c H locs 0 0 (MQ below (qi D tc ad A rr (cmb I II)) args s 0 0 A) (F0 m 88 ls [.ref (ad 152)]) := by
  intro v1 v2 v3 v4 M h H locs ls hP hS hl
  unfold f_X8_outputOf_b88 at h
  have hx := hX.1
  have hb := hX.2.1
  have hown := hX.2.2.2.1
  have hts := hX.2.2.2.2.1
  have hA := hX.2.2.2.2.2.2
  refine lv_iconst (v := 1) hx hb dX8_outputOf_88 kc_i1 ?_
  refine lv_goto (tgt := 93) hx hb dX8_outputOf_89 (by decide) ?_
  exact t_X8_outputOf_b93 hX hr hlk hK14 _ _ _ _ _ _ h _ _ _ hP hS (lv_sub hl [0, 1, 2, 3, 4] rfl)
set_option maxHeartbeats 4000000 in
set_option maxRecDepth 100000 in
theorem t_X8_outputOf_b92 {p : Program} {l : Launch} {e : Env} {s : State} {m : MethodId} {args : Array Value} {below : List Frame} {meth : Method} {c : Code} {D : va_G} {tc : Tc} {ad : Nat → Nat} {A : Nat → Prop} {I : St} {rr : Int32} {II : St} (hX : cx p s m args c cX8_outputOf 5 RX8 D tc ad A) (hr : meth.sig.returnType = some .int) (hlk : meth.locks = false) {K14 : Int32 → Int32 → Int32 → St → Option (Int32 × St)} (hK14 : ∀ (v1 : Int32) (v2 : Int32) (v3 : Int32) (M : St), K14 v1 v2 v3 M = some (rr, II) → ∀ (H : Heap) (locs : List Loc) (ls : Array Slot), va_P D vwCl (wl tc ad (cmb I M)) H → va_S A s.heap H locs → lv_has ls 5 [(0, .ref (ad 152)), (1, .int v1), (2, .int v2), (3, .int v3)] → W p l e rm_X8_outputOf s m args below meth c H locs 0 0 (MQ below (qi D tc ad A rr (cmb I II)) args s 0 0 A) (F0 m 14 ls [])) : ∀ (v1 : Int32) (v2 : Int32) (v3 : Int32) (v4 : Int32) (M : St), f_X8_outputOf_b92 K14 v1 v2 v3 v4 M = some (rr, II) → ∀ (H : Heap) (locs : List Loc) (ls : Array Slot), va_P D vwCl (wl tc ad (cmb I M)) H → va_S A s.heap H locs → lv_has ls 5 [(0, .ref (ad 152)), (1, .int v1), (2, .int v2), (3, .int v3), (4, .int v4)] → W p l e rm_X8_outputOf s m args below meth c H locs 0 0 (MQ below (qi D tc ad A rr (cmb I II)) args s 0 0 A) (F0 m 92 ls [.ref (ad 152)]) := by
  intro v1 v2 v3 v4 M h H locs ls hP hS hl
  unfold f_X8_outputOf_b92 at h
  have hx := hX.1
  have hb := hX.2.1
  have hown := hX.2.2.2.1
  have hts := hX.2.2.2.2.1
  have hA := hX.2.2.2.2.2.2
  refine lv_iconst (v := 0) hx hb dX8_outputOf_92 kc_i0 ?_
  exact t_X8_outputOf_b93 hX hr hlk hK14 _ _ _ _ _ _ h _ _ _ hP hS (lv_sub hl [0, 1, 2, 3, 4] rfl)
set_option maxHeartbeats 4000000 in
set_option maxRecDepth 100000 in
theorem t_X8_outputOf_b47 {p : Program} {l : Launch} {e : Env} {s : State} {m : MethodId} {args : Array Value} {below : List Frame} {meth : Method} {c : Code} {D : va_G} {tc : Tc} {ad : Nat → Nat} {A : Nat → Prop} {I : St} {rr : Int32} {II : St} (hX : cx p s m args c cX8_outputOf 5 RX8 D tc ad A) (hr : meth.sig.returnType = some .int) (hlk : meth.locks = false) {K14 : Int32 → Int32 → Int32 → St → Option (Int32 × St)} (hK14 : ∀ (v1 : Int32) (v2 : Int32) (v3 : Int32) (M : St), K14 v1 v2 v3 M = some (rr, II) → ∀ (H : Heap) (locs : List Loc) (ls : Array Slot), va_P D vwCl (wl tc ad (cmb I M)) H → va_S A s.heap H locs → lv_has ls 5 [(0, .ref (ad 152)), (1, .int v1), (2, .int v2), (3, .int v3)] → W p l e rm_X8_outputOf s m args below meth c H locs 0 0 (MQ below (qi D tc ad A rr (cmb I II)) args s 0 0 A) (F0 m 14 ls [])) : ∀ (v1 : Int32) (v2 : Int32) (v3 : Int32) (t0 : Int32) (M : St), f_X8_outputOf_b47 K14 v1 v2 v3 t0 M = some (rr, II) → ∀ (H : Heap) (locs : List Loc) (ls : Array Slot), va_P D vwCl (wl tc ad (cmb I M)) H → va_S A s.heap H locs → lv_has ls 5 [(0, .ref (ad 152)), (1, .int v1), (2, .int v2), (3, .int v3)] → W p l e rm_X8_outputOf s m args below meth c H locs 0 0 (MQ below (qi D tc ad A rr (cmb I II)) args s 0 0 A) (F0 m 47 ls [.int t0]) := by
  intro v1 v2 v3 t0 M h H locs ls hP hS hl
  unfold f_X8_outputOf_b47 at h
  have hx := hX.1
  have hb := hX.2.1
  have hown := hX.2.2.2.1
  have hts := hX.2.2.2.2.1
  have hA := hX.2.2.2.2.2.2
  refine lv_istore (lv' := [(4, .int t0), (0, .ref (ad 152)), (1, .int v1), (2, .int v2), (3, .int v3)]) hx hb dX8_outputOf_47 hl (Nat.le_of_ble_eq_true rfl) rfl (fun ls hl => ?_)
  refine lv_aload_n hx hb dX8_outputOf_49 rfl (lv_at hl 1 rfl) ?_
  refine lv_aload_n hx hb dX8_outputOf_50 rfl (lv_at hl 1 rfl) ?_
  refine m_get hX hP cok6 4 sge_152 s157_152 sk_152 (by decide) rfl q784 dX8_outputOf_51 ?_
  refine x_if_ne (tgt := 88) hx hb dX8_outputOf_54 (by decide) h (fun c7 h => ?_) (fun c7 h => ?_)
  · exact t_X8_outputOf_b88 hX hr hlk hK14 _ _ _ _ _ h _ _ _ hP hS (lv_sub hl [1, 2, 3, 4, 0] rfl)
  · refine lv_iload hx hb dX8_outputOf_57 (lv_at hl 0 rfl) ?_
    refine x_if_ne (tgt := 92) hx hb dX8_outputOf_59 (by decide) h (fun c8 h => ?_) (fun c8 h => ?_)
    · exact t_X8_outputOf_b92 hX hr hlk hK14 _ _ _ _ _ h _ _ _ hP hS (lv_sub hl [1, 2, 3, 4, 0] rfl)
    · refine lv_aload_n hx hb dX8_outputOf_62 rfl (lv_at hl 1 rfl) ?_
      refine m_getq (t := 153) hX hP cok6 0 sge_152 s157_152 sk_152 (by decide) rfl q780 dX8_outputOf_63 ?_
      refine lv_iconst (v := 5) hx hb dX8_outputOf_66 kc_i5 ?_
      refine m_ald hX hP h (sge_153) s157_153 sk_153 sn_153 dX8_outputOf_67 (fun h => ?_)
      refine x_let h (fun x9 h => ?_)
      refine lv_iconst (v := 1) hx hb dX8_outputOf_68 kc_i1 ?_
      refine x_icmp_ne (tgt := 92) hx hb dX8_outputOf_69 (by decide) h (fun c10 h => ?_) (fun c10 h => ?_)
      · exact t_X8_outputOf_b92 hX hr hlk hK14 _ _ _ _ _ h _ _ _ hP hS (lv_sub hl [1, 2, 3, 4, 0] rfl)
      · refine lv_aload_n hx hb dX8_outputOf_72 rfl (lv_at hl 1 rfl) ?_
        refine lv_iload_n hx hb dX8_outputOf_73 rfl (lv_at hl 4 rfl) ?_
        refine lv_iload_n hx hb dX8_outputOf_74 rfl (lv_at hl 2 rfl) ?_
        obtain ⟨r12, e11, h⟩ := ob1_some h
        refine j_i (j_runV (rest := [.ref (ad 152)]) hX hP hl.1 Y_X8_rightOnes cok6 (s157_152) sk_152 (c_X8_rightOnes hA e11) ⟨rfl, rfl⟩ q983 ⟨Nat.le_of_ble_eq_true rfl, Nat.le_of_ble_eq_true rfl⟩ rfl rfl (Nat.le_of_ble_eq_true rfl) dX8_outputOf_75) hS (fun H locs hP hS => ?_)
        refine lv_aload_n hx hb dX8_outputOf_78 rfl (lv_at hl 1 rfl) ?_
        refine m_getq (t := 153) hX hP cok6 0 sge_152 s157_152 sk_152 (by decide) rfl q780 dX8_outputOf_79 ?_
        refine lv_bipush (v := 6) hx hb dX8_outputOf_82 kc_b6 ?_
        refine m_ald hX hP h (sge_153) s157_153 sk_153 sn_153 dX8_outputOf_84 (fun h => ?_)
        refine x_icmp_ge (tgt := 92) hx hb dX8_outputOf_85 (by decide) h (fun c13 h => ?_) (fun c13 h => ?_)
        · exact t_X8_outputOf_b92 hX hr hlk hK14 _ _ _ _ _ h _ _ _ hP hS (lv_sub hl [1, 2, 3, 4, 0] rfl)
        · exact t_X8_outputOf_b88 hX hr hlk hK14 _ _ _ _ _ h _ _ _ hP hS (lv_sub hl [1, 2, 3, 4, 0] rfl)
set_option maxHeartbeats 4000000 in
set_option maxRecDepth 100000 in
theorem t_X8_outputOf_l14 {p : Program} {l : Launch} {e : Env} {s : State} {m : MethodId} {args : Array Value} {below : List Frame} {meth : Method} {c : Code} {D : va_G} {tc : Tc} {ad : Nat → Nat} {A : Nat → Prop} {I : St} {rr : Int32} {II : St} (hX : cx p s m args c cX8_outputOf 5 RX8 D tc ad A) (hr : meth.sig.returnType = some .int) (hlk : meth.locks = false) : ∀ (n : Nat), ∀ (v1 : Int32) (v2 : Int32) (v3 : Int32) (M : St), f_X8_outputOf_l14 n v1 v2 v3 M = some (rr, II) → ∀ (H : Heap) (locs : List Loc) (ls : Array Slot), va_P D vwCl (wl tc ad (cmb I M)) H → va_S A s.heap H locs → lv_has ls 5 [(0, .ref (ad 152)), (1, .int v1), (2, .int v2), (3, .int v3)] → W p l e rm_X8_outputOf s m args below meth c H locs 0 0 (MQ below (qi D tc ad A rr (cmb I II)) args s 0 0 A) (F0 m 14 ls []) := by
  intro n
  induction n with
  | zero =>
    intro _ _ _ _ h
    cases h
  | succ n ih =>
    intro v1 v2 v3 M h H locs ls hP hS hl
    rw [f_X8_outputOf_l14] at h
    have hx := hX.1
    have hb := hX.2.1
    have hown := hX.2.2.2.1
    have hts := hX.2.2.2.2.1
    have hA := hX.2.2.2.2.2.2
    refine lv_iload_n hx hb dX8_outputOf_14 rfl (lv_at hl 3 rfl) ?_
    refine lv_aload_n hx hb dX8_outputOf_15 rfl (lv_at hl 0 rfl) ?_
    refine m_getq (t := 153) hX hP cok6 0 sge_152 s157_152 sk_152 (by decide) rfl q780 dX8_outputOf_16 ?_
    refine lv_iconst (v := 4) hx hb dX8_outputOf_19 kc_i4 ?_
    refine m_ald hX hP h (sge_153) s157_153 sk_153 sn_153 dX8_outputOf_20 (fun h => ?_)
    refine x_icmp_ge (tgt := 131) hx hb dX8_outputOf_21 (by decide) h (fun c14 h => ?_) (fun c14 h => ?_)
    · refine lv_iload_n hx hb dX8_outputOf_131 rfl (lv_at hl 2 rfl) ?_
      cases h
      exact j_iret hX hr hlk hP hS dX8_outputOf_132
    · refine lv_aload_n hx hb dX8_outputOf_24 rfl (lv_at hl 0 rfl) ?_
      refine lv_iload_n hx hb dX8_outputOf_25 rfl (lv_at hl 3 rfl) ?_
      refine lv_iconst (v := 5) hx hb dX8_outputOf_26 kc_i5 ?_
      obtain ⟨r16, e15, h⟩ := ob1_some h
      refine j_i (j_runV (rest := []) hX hP hl.1 Y_X8_has cok6 (s157_152) sk_152 (c_X8_has hA e15) ⟨rfl, rfl⟩ q865 ⟨Nat.le_of_ble_eq_true rfl, Nat.le_of_ble_eq_true rfl⟩ rfl rfl (Nat.le_of_ble_eq_true rfl) dX8_outputOf_27) hS (fun H locs hP hS => ?_)
      refine x_if_eq (tgt := 125) hx hb dX8_outputOf_30 (by decide) h (fun c17 h => ?_) (fun c17 h => ?_)
      · exact t_X8_outputOf_b125 hX hr hlk ih _ _ _ _ h _ _ _ hP hS (lv_sub hl [0, 1, 2, 3] rfl)
      · refine lv_iload_n hx hb dX8_outputOf_33 rfl (lv_at hl 1 rfl) ?_
        refine lv_iload_n hx hb dX8_outputOf_34 rfl (lv_at hl 3 rfl) ?_
        refine lv_ishr hx hb dX8_outputOf_35 ?_
        refine x_let h (fun x18 h => ?_)
        refine lv_iconst (v := 1) hx hb dX8_outputOf_36 kc_i1 ?_
        refine lv_iand hx hb dX8_outputOf_37 ?_
        refine x_let h (fun x19 h => ?_)
        refine lv_iconst (v := 1) hx hb dX8_outputOf_38 kc_i1 ?_
        refine x_icmp_ne (tgt := 46) hx hb dX8_outputOf_39 (by decide) h (fun c20 h => ?_) (fun c20 h => ?_)
        · refine lv_iconst (v := 0) hx hb dX8_outputOf_46 kc_i0 ?_
          exact t_X8_outputOf_b47 hX hr hlk ih _ _ _ _ _ h _ _ _ hP hS (lv_sub hl [0, 1, 2, 3] rfl)
        · refine lv_iconst (v := 1) hx hb dX8_outputOf_42 kc_i1 ?_
          refine lv_goto (tgt := 47) hx hb dX8_outputOf_43 (by decide) ?_
          exact t_X8_outputOf_b47 hX hr hlk ih _ _ _ _ _ h _ _ _ hP hS (lv_sub hl [0, 1, 2, 3] rfl)
set_option maxHeartbeats 4000000 in
set_option maxRecDepth 100000 in
theorem c_X8_outputOf {l : Launch} {D : va_G} {tc : Tc} {ad : Nat → Nat} {A : Nat → Prop} (hA : adok ad A) {I M : St} {v1 : Int32} {rr : Int32} {II : St} (h : f_X8_outputOf v1 M = some (rr, II)) : Met l yX8_outputOf (Cond.code yX8_outputOf cX8_outputOf 5 (some .int) :: tw) rm_X8_outputOf (pre D tc ad [.ref (ad 152), .int v1] (cmb I M)) (qi D tc ad A rr (cmb I II)) 0 0 A := by
  unfold f_X8_outputOf at h
  refine mk_met (own := RX8) (by decide +kernel) rfl hA (Nat.le_of_ble_eq_true rfl) ?_
  intro p e s m below meth c ls hX hr hlk hl hP hS
  have hl : lv_has ls 5 [(0, .ref (ad 152)), (1, .int v1)] := hl
  have hx := hX.1
  have hb := hX.2.1
  have hown := hX.2.2.2.1
  have hts := hX.2.2.2.2.1
  refine lv_aload_n hx hb dX8_outputOf_0 rfl (lv_at hl 0 rfl) ?_
  refine m_getq (t := 153) hX hP cok6 0 sge_152 s157_152 sk_152 (by decide) rfl q780 dX8_outputOf_1 ?_
  refine lv_iconst (v := 3) hx hb dX8_outputOf_4 kc_i3 ?_
  refine m_ald hX hP h (sge_153) s157_153 sk_153 sn_153 dX8_outputOf_5 (fun h => ?_)
  refine x_let h (fun x21 h => ?_)
  refine lv_istore_n (lv' := [(2, .int x21), (0, .ref (ad 152)), (1, .int v1)]) hx hb dX8_outputOf_6 rfl hl (Nat.le_of_ble_eq_true rfl) rfl (fun ls hl => ?_)
  refine lv_aload_n hx hb dX8_outputOf_7 rfl (lv_at hl 1 rfl) ?_
  refine lv_iconst (v := 0) hx hb dX8_outputOf_8 kc_i0 ?_
  refine m_putZ hX hP hS cok6 4 (Or.inl rfl) h sge_152 s157_152 sk_152 (by decide) rfl rfl q784 rfl dX8_outputOf_9 (fun M22 H locs h hP hS => ?_)
  refine lv_iconst (v := 0) hx hb dX8_outputOf_12 kc_i0 ?_
  refine lv_istore_n (lv' := [(3, .int 0), (2, .int x21), (0, .ref (ad 152)), (1, .int v1)]) hx hb dX8_outputOf_13 rfl hl (Nat.le_of_ble_eq_true rfl) rfl (fun ls hl => ?_)
  exact t_X8_outputOf_l14 hX hr hlk  10000 _ _ _ _ h _ _ _ hP hS (lv_sub hl [2, 3, 1, 0] rfl)
/-! OwnerlessCoinModel.coinOf(I)I -/
def rm_X8_coinOf : Room := { frames := 5, cells := 0, slots := 0, locals := 114 }
theorem Y_X8_coinOf : yv yX8_coinOf cX8_coinOf 3 (some .int) 1 RX8 := ⟨q1010, q1009, q43, q57, by decide +kernel⟩
set_option maxHeartbeats 4000000 in
set_option maxRecDepth 100000 in
theorem t_X8_coinOf_b25 {p : Program} {l : Launch} {e : Env} {s : State} {m : MethodId} {args : Array Value} {below : List Frame} {meth : Method} {c : Code} {D : va_G} {tc : Tc} {ad : Nat → Nat} {A : Nat → Prop} {I : St} {rr : Int32} {II : St} (hX : cx p s m args c cX8_coinOf 3 RX8 D tc ad A) (hr : meth.sig.returnType = some .int) (hlk : meth.locks = false) : ∀ (t0 : Int32) (M : St), f_X8_coinOf_b25 t0 M = some (rr, II) → ∀ (H : Heap) (locs : List Loc) (ls : Array Slot), va_P D vwCl (wl tc ad (cmb I M)) H → va_S A s.heap H locs → lv_has ls 3 [] → W p l e rm_X8_coinOf s m args below meth c H locs 0 0 (MQ below (qi D tc ad A rr (cmb I II)) args s 0 0 A) (F0 m 25 ls [.int t0]) := by
  intro t0 M h H locs ls hP hS hl
  unfold f_X8_coinOf_b25 at h
  have hx := hX.1
  have hb := hX.2.1
  have hown := hX.2.2.2.1
  have hts := hX.2.2.2.2.1
  have hA := hX.2.2.2.2.2.2
  cases h
  exact j_iret hX hr hlk hP hS dX8_coinOf_25
set_option maxHeartbeats 4000000 in
set_option maxRecDepth 100000 in
theorem c_X8_coinOf {l : Launch} {D : va_G} {tc : Tc} {ad : Nat → Nat} {A : Nat → Prop} (hA : adok ad A) {I M : St} {v1 : Int32} {rr : Int32} {II : St} (h : f_X8_coinOf v1 M = some (rr, II)) : Met l yX8_coinOf (Cond.code yX8_coinOf cX8_coinOf 3 (some .int) :: tw) rm_X8_coinOf (pre D tc ad [.ref (ad 152), .int v1] (cmb I M)) (qi D tc ad A rr (cmb I II)) 0 0 A := by
  unfold f_X8_coinOf at h
  refine mk_met (own := RX8) (by decide +kernel) rfl hA (Nat.le_of_ble_eq_true rfl) ?_
  intro p e s m below meth c ls hX hr hlk hl hP hS
  have hl : lv_has ls 3 [(0, .ref (ad 152)), (1, .int v1)] := hl
  have hx := hX.1
  have hb := hX.2.1
  have hown := hX.2.2.2.1
  have hts := hX.2.2.2.2.1
  refine lv_aload_n hx hb dX8_coinOf_0 rfl (lv_at hl 0 rfl) ?_
  obtain ⟨M2, e1, h⟩ := ob1_some h
  refine j_v (j_runV (rest := []) hX hP hl.1 Y_X8_takesSecrets cok6 (s157_152) sk_152 (c_X8_takesSecrets hA e1) ⟨rfl, rfl⟩ q975 ⟨Nat.le_of_ble_eq_true rfl, Nat.le_of_ble_eq_true rfl⟩ rfl rfl (Nat.le_of_ble_eq_true rfl) dX8_coinOf_1) hS (fun H locs hP hS => ?_)
  refine lv_aload_n hx hb dX8_coinOf_4 rfl (lv_at hl 0 rfl) ?_
  refine lv_iload_n hx hb dX8_coinOf_5 rfl (lv_at hl 1 rfl) ?_
  obtain ⟨r5, M4, e3, h⟩ := ob2_some h
  refine j_i (j_runV (rest := []) hX hP hl.1 Y_X8_outputOf cok6 (s157_152) sk_152 (c_X8_outputOf hA e3) ⟨rfl, rfl⟩ q979 ⟨Nat.le_of_ble_eq_true rfl, Nat.le_of_ble_eq_true rfl⟩ rfl rfl (Nat.le_of_ble_eq_true rfl) dX8_coinOf_6) hS (fun H locs hP hS => ?_)
  refine lv_istore_n (lv' := [(2, .int r5), (0, .ref (ad 152)), (1, .int v1)]) hx hb dX8_coinOf_9 rfl hl (Nat.le_of_ble_eq_true rfl) rfl (fun ls hl => ?_)
  refine lv_aload_n hx hb dX8_coinOf_10 rfl (lv_at hl 1 rfl) ?_
  refine m_get hX hP cok6 4 sge_152 s157_152 sk_152 (by decide) rfl q784 dX8_coinOf_11 ?_
  refine x_if_eq (tgt := 22) hx hb dX8_coinOf_14 (by decide) h (fun c6 h => ?_) (fun c6 h => ?_)
  · refine lv_iload_n hx hb dX8_coinOf_22 rfl (lv_at hl 0 rfl) ?_
    refine lv_iconst (v := 1) hx hb dX8_coinOf_23 kc_i1 ?_
    refine lv_iand hx hb dX8_coinOf_24 ?_
    exact t_X8_coinOf_b25 hX hr hlk  _ _ h _ _ _ hP hS (lv_sub hl [] rfl)
  · refine lv_bipush (v := (-5)) hx hb dX8_coinOf_17 kc_bm5 ?_
    refine lv_goto (tgt := 25) hx hb dX8_coinOf_19 (by decide) ?_
    exact t_X8_coinOf_b25 hX hr hlk  _ _ h _ _ _ hP hS (lv_sub hl [] rfl)
/-! OwnerlessCoinModel.closes()I -/
def rm_X8_closes : Room := { frames := 5, cells := 0, slots := 0, locals := 114 }
theorem Y_X8_closes : yv yX8_closes cX8_closes 8 (some .int) 0 RX8 := ⟨q974, q973, q35, q57, by decide +kernel⟩
set_option maxHeartbeats 4000000 in
set_option maxRecDepth 100000 in
theorem t_X8_closes_b133 {p : Program} {l : Launch} {e : Env} {s : State} {m : MethodId} {args : Array Value} {below : List Frame} {meth : Method} {c : Code} {D : va_G} {tc : Tc} {ad : Nat → Nat} {A : Nat → Prop} {I : St} {rr : Int32} {II : St} (hX : cx p s m args c cX8_closes 8 RX8 D tc ad A) (hr : meth.sig.returnType = some .int) (hlk : meth.locks = false) {K34 : Int32 → Int32 → Int32 → Int32 → Int32 → St → Option (Int32 × St)} (hK34 : ∀ (v1 : Int32) (v2 : Int32) (v3 : Int32) (v4 : Int32) (v5 : Int32) (M : St), K34 v1 v2 v3 v4 v5 M = some (rr, II) → ∀ (H : Heap) (locs : List Loc) (ls : Array Slot), va_P D vwCl (wl tc ad (cmb I M)) H → va_S A s.heap H locs → lv_has ls 8 [(0, .ref (ad 152)), (1, .int v1), (2, .int v2), (3, .int v3), (4, .int v4), (5, .int v5)] → W p l e rm_X8_closes s m args below meth c H locs 0 0 (MQ below (qi D tc ad A rr (cmb I II)) args s 0 0 A) (F0 m 34 ls [])) : ∀ (v1 : Int32) (v2 : Int32) (v3 : Int32) (v4 : Int32) (v5 : Int32) (M : St), f_X8_closes_b133 K34 v1 v2 v3 v4 v5 M = some (rr, II) → ∀ (H : Heap) (locs : List Loc) (ls : Array Slot), va_P D vwCl (wl tc ad (cmb I M)) H → va_S A s.heap H locs → lv_has ls 8 [(0, .ref (ad 152)), (1, .int v1), (2, .int v2), (3, .int v3), (4, .int v4), (5, .int v5)] → W p l e rm_X8_closes s m args below meth c H locs 0 0 (MQ below (qi D tc ad A rr (cmb I II)) args s 0 0 A) (F0 m 133 ls []) := by
  intro v1 v2 v3 v4 v5 M h H locs ls hP hS hl
  unfold f_X8_closes_b133 at h
  have hx := hX.1
  have hb := hX.2.1
  have hown := hX.2.2.2.1
  have hts := hX.2.2.2.2.1
  have hA := hX.2.2.2.2.2.2
  refine lv_iinc (v := (v5 + 1)) (lv' := [(5, .int (v5 + 1)), (0, .ref (ad 152)), (1, .int v1), (2, .int v2), (3, .int v3), (4, .int v4)]) hx hb dX8_closes_133 hl (k := 5) rfl rfl (Nat.le_of_ble_eq_true rfl) rfl (fun ls hl => ?_)
  refine lv_goto (tgt := 34) hx hb dX8_closes_136 (by decide) ?_
  exact hK34 _ _ _ _ _ _ h _ _ _ hP hS (lv_sub hl [1, 2, 3, 4, 5, 0] rfl)
set_option maxHeartbeats 4000000 in
set_option maxRecDepth 100000 in
theorem t_X8_closes_b120 {p : Program} {l : Launch} {e : Env} {s : State} {m : MethodId} {args : Array Value} {below : List Frame} {meth : Method} {c : Code} {D : va_G} {tc : Tc} {ad : Nat → Nat} {A : Nat → Prop} {I : St} {rr : Int32} {II : St} (hX : cx p s m args c cX8_closes 8 RX8 D tc ad A) (hr : meth.sig.returnType = some .int) (hlk : meth.locks = false) {K34 : Int32 → Int32 → Int32 → Int32 → Int32 → St → Option (Int32 × St)} (hK34 : ∀ (v1 : Int32) (v2 : Int32) (v3 : Int32) (v4 : Int32) (v5 : Int32) (M : St), K34 v1 v2 v3 v4 v5 M = some (rr, II) → ∀ (H : Heap) (locs : List Loc) (ls : Array Slot), va_P D vwCl (wl tc ad (cmb I M)) H → va_S A s.heap H locs → lv_has ls 8 [(0, .ref (ad 152)), (1, .int v1), (2, .int v2), (3, .int v3), (4, .int v4), (5, .int v5)] → W p l e rm_X8_closes s m args below meth c H locs 0 0 (MQ below (qi D tc ad A rr (cmb I II)) args s 0 0 A) (F0 m 34 ls [])) : ∀ (v1 : Int32) (v2 : Int32) (v3 : Int32) (v4 : Int32) (v5 : Int32) (v6 : Int32) (t1 : Int32) (t2 : Int32) (t3 : Int32) (M : St), f_X8_closes_b120 K34 v1 v2 v3 v4 v5 v6 t1 t2 t3 M = some (rr, II) → ∀ (H : Heap) (locs : List Loc) (ls : Array Slot), va_P D vwCl (wl tc ad (cmb I M)) H → va_S A s.heap H locs → lv_has ls 8 [(0, .ref (ad 152)), (1, .int v1), (2, .int v2), (3, .int v3), (4, .int v4), (5, .int v5), (6, .int v6)] → W p l e rm_X8_closes s m args below meth c H locs 0 0 (MQ below (qi D tc ad A rr (cmb I II)) args s 0 0 A) (F0 m 120 ls [.int t3, .int t2, .int t1, .ref (ad 153)]) := by
  intro v1 v2 v3 v4 v5 v6 t1 t2 t3 M h H locs ls hP hS hl
  unfold f_X8_closes_b120 at h
  have hx := hX.1
  have hb := hX.2.1
  have hown := hX.2.2.2.1
  have hts := hX.2.2.2.2.1
  have hA := hX.2.2.2.2.2.2
  refine lv_iadd hx hb dX8_closes_120 ?_
  refine m_ast hX hP hS h (sge_153) s157_153 sk_153 sn_153 dX8_closes_121 (fun M1 H locs h hP hS => ?_)
  refine lv_iload hx hb dX8_closes_122 (lv_at hl 6 rfl) ?_
  refine x_if_ne (tgt := 133) hx hb dX8_closes_124 (by decide) h (fun c2 h => ?_) (fun c2 h => ?_)
  · exact t_X8_closes_b133 hX hr hlk hK34 _ _ _ _ _ _ h _ _ _ hP hS (lv_sub hl [0, 1, 2, 3, 4, 5] rfl)
  · refine lv_aload_n hx hb dX8_closes_127 rfl (lv_at hl 0 rfl) ?_
    refine lv_iload hx hb dX8_closes_128 (lv_at hl 5 rfl) ?_
    obtain ⟨M4, e3, h⟩ := ob1_some h
    refine j_v (j_runV (rest := []) hX hP hl.1 Y_X8_pays cok6 (s157_152) sk_152 (c_X8_pays hA e3) ⟨rfl, rfl⟩ q940 ⟨Nat.le_of_ble_eq_true rfl, Nat.le_of_ble_eq_true rfl⟩ rfl rfl (Nat.le_of_ble_eq_true rfl) dX8_closes_130) hS (fun H locs hP hS => ?_)
    exact t_X8_closes_b133 hX hr hlk hK34 _ _ _ _ _ _ h _ _ _ hP hS (lv_sub hl [0, 1, 2, 3, 4, 5] rfl)
set_option maxHeartbeats 4000000 in
set_option maxRecDepth 100000 in
theorem t_X8_closes_b95 {p : Program} {l : Launch} {e : Env} {s : State} {m : MethodId} {args : Array Value} {below : List Frame} {meth : Method} {c : Code} {D : va_G} {tc : Tc} {ad : Nat → Nat} {A : Nat → Prop} {I : St} {rr : Int32} {II : St} (hX : cx p s m args c cX8_closes 8 RX8 D tc ad A) (hr : meth.sig.returnType = some .int) (hlk : meth.locks = false) {K34 : Int32 → Int32 → Int32 → Int32 → Int32 → St → Option (Int32 × St)} (hK34 : ∀ (v1 : Int32) (v2 : Int32) (v3 : Int32) (v4 : Int32) (v5 : Int32) (M : St), K34 v1 v2 v3 v4 v5 M = some (rr, II) → ∀ (H : Heap) (locs : List Loc) (ls : Array Slot), va_P D vwCl (wl tc ad (cmb I M)) H → va_S A s.heap H locs → lv_has ls 8 [(0, .ref (ad 152)), (1, .int v1), (2, .int v2), (3, .int v3), (4, .int v4), (5, .int v5)] → W p l e rm_X8_closes s m args below meth c H locs 0 0 (MQ below (qi D tc ad A rr (cmb I II)) args s 0 0 A) (F0 m 34 ls [])) : ∀ (v1 : Int32) (v2 : Int32) (v3 : Int32) (v4 : Int32) (v5 : Int32) (v6 : Int32) (t1 : Int32) (t2 : Int32) (t3 : Int32) (M : St), f_X8_closes_b95 K34 v1 v2 v3 v4 v5 v6 t1 t2 t3 M = some (rr, II) → ∀ (H : Heap) (locs : List Loc) (ls : Array Slot), va_P D vwCl (wl tc ad (cmb I M)) H → va_S A s.heap H locs → lv_has ls 8 [(0, .ref (ad 152)), (1, .int v1), (2, .int v2), (3, .int v3), (4, .int v4), (5, .int v5), (6, .int v6)] → W p l e rm_X8_closes s m args below meth c H locs 0 0 (MQ below (qi D tc ad A rr (cmb I II)) args s 0 0 A) (F0 m 95 ls [.int t3, .int t2, .int t1, .ref (ad 153)]) := by
  intro v1 v2 v3 v4 v5 v6 t1 t2 t3 M h H locs ls hP hS hl
  unfold f_X8_closes_b95 at h
  have hx := hX.1
  have hb := hX.2.1
  have hown := hX.2.2.2.1
  have hts := hX.2.2.2.2.1
  have hA := hX.2.2.2.2.2.2
  refine lv_iadd hx hb dX8_closes_95 ?_
  refine m_ast hX hP hS h (sge_153) s157_153 sk_153 sn_153 dX8_closes_96 (fun M5 H locs h hP hS => ?_)
  refine lv_aload_n hx hb dX8_closes_97 rfl (lv_at hl 0 rfl) ?_
  refine m_getq (t := 153) hX hP cok6 0 sge_152 s157_152 sk_152 (by decide) rfl q780 dX8_closes_98 ?_
  refine lv_iload hx hb dX8_closes_101 (lv_at hl 5 rfl) ?_
  obtain ⟨r7, e6, h⟩ := ob1_some h
  refine j_i (j_runS (rest := [.ref (ad 153)]) hX hP hl.1 Y_X8_person (c_X8_person hA e6) ⟨rfl, rfl⟩ q814 ⟨Nat.le_of_ble_eq_true rfl, Nat.le_of_ble_eq_true rfl⟩ rfl rfl (Nat.le_of_ble_eq_true rfl) dX8_closes_103) hS (fun H locs hP hS => ?_)
  refine lv_iconst (v := 2) hx hb dX8_closes_106 kc_i2 ?_
  refine lv_iadd hx hb dX8_closes_107 ?_
  refine x_let h (fun x8 h => ?_)
  refine lv_dup2_11 hx hb dX8_closes_108 rfl rfl ?_
  refine m_ald hX hP h (sge_153) s157_153 sk_153 sn_153 dX8_closes_109 (fun h => ?_)
  refine x_let h (fun x9 h => ?_)
  refine lv_iload hx hb dX8_closes_110 (lv_at hl 6 rfl) ?_
  refine x_if_eq (tgt := 119) hx hb dX8_closes_112 (by decide) h (fun c10 h => ?_) (fun c10 h => ?_)
  · refine lv_iconst (v := 1) hx hb dX8_closes_119 kc_i1 ?_
    exact t_X8_closes_b120 hX hr hlk hK34 _ _ _ _ _ _ _ _ _ _ h _ _ _ hP hS (lv_sub hl [0, 1, 2, 3, 4, 5, 6] rfl)
  · refine lv_iconst (v := 0) hx hb dX8_closes_115 kc_i0 ?_
    refine lv_goto (tgt := 120) hx hb dX8_closes_116 (by decide) ?_
    exact t_X8_closes_b120 hX hr hlk hK34 _ _ _ _ _ _ _ _ _ _ h _ _ _ hP hS (lv_sub hl [0, 1, 2, 3, 4, 5, 6] rfl)
set_option maxHeartbeats 4000000 in
set_option maxRecDepth 100000 in
theorem t_X8_closes_b70 {p : Program} {l : Launch} {e : Env} {s : State} {m : MethodId} {args : Array Value} {below : List Frame} {meth : Method} {c : Code} {D : va_G} {tc : Tc} {ad : Nat → Nat} {A : Nat → Prop} {I : St} {rr : Int32} {II : St} (hX : cx p s m args c cX8_closes 8 RX8 D tc ad A) (hr : meth.sig.returnType = some .int) (hlk : meth.locks = false) {K34 : Int32 → Int32 → Int32 → Int32 → Int32 → St → Option (Int32 × St)} (hK34 : ∀ (v1 : Int32) (v2 : Int32) (v3 : Int32) (v4 : Int32) (v5 : Int32) (M : St), K34 v1 v2 v3 v4 v5 M = some (rr, II) → ∀ (H : Heap) (locs : List Loc) (ls : Array Slot), va_P D vwCl (wl tc ad (cmb I M)) H → va_S A s.heap H locs → lv_has ls 8 [(0, .ref (ad 152)), (1, .int v1), (2, .int v2), (3, .int v3), (4, .int v4), (5, .int v5)] → W p l e rm_X8_closes s m args below meth c H locs 0 0 (MQ below (qi D tc ad A rr (cmb I II)) args s 0 0 A) (F0 m 34 ls [])) : ∀ (v1 : Int32) (v2 : Int32) (v3 : Int32) (v4 : Int32) (v5 : Int32) (t0 : Int32) (M : St), f_X8_closes_b70 K34 v1 v2 v3 v4 v5 t0 M = some (rr, II) → ∀ (H : Heap) (locs : List Loc) (ls : Array Slot), va_P D vwCl (wl tc ad (cmb I M)) H → va_S A s.heap H locs → lv_has ls 8 [(0, .ref (ad 152)), (1, .int v1), (2, .int v2), (3, .int v3), (4, .int v4), (5, .int v5)] → W p l e rm_X8_closes s m args below meth c H locs 0 0 (MQ below (qi D tc ad A rr (cmb I II)) args s 0 0 A) (F0 m 70 ls [.int t0]) := by
  intro v1 v2 v3 v4 v5 t0 M h H locs ls hP hS hl
  unfold f_X8_closes_b70 at h
  have hx := hX.1
  have hb := hX.2.1
  have hown := hX.2.2.2.1
  have hts := hX.2.2.2.2.1
  have hA := hX.2.2.2.2.2.2
  refine lv_istore (lv' := [(6, .int t0), (0, .ref (ad 152)), (1, .int v1), (2, .int v2), (3, .int v3), (4, .int v4), (5, .int v5)]) hx hb dX8_closes_70 hl (Nat.le_of_ble_eq_true rfl) rfl (fun ls hl => ?_)
  refine lv_aload_n hx hb dX8_closes_72 rfl (lv_at hl 1 rfl) ?_
  refine m_getq (t := 153) hX hP cok6 0 sge_152 s157_152 sk_152 (by decide) rfl q780 dX8_closes_73 ?_
  refine lv_iload hx hb dX8_closes_76 (lv_at hl 6 rfl) ?_
  obtain ⟨r12, e11, h⟩ := ob1_some h
  refine j_i (j_runS (rest := [.ref (ad 153)]) hX hP hl.1 Y_X8_person (c_X8_person hA e11) ⟨rfl, rfl⟩ q814 ⟨Nat.le_of_ble_eq_true rfl, Nat.le_of_ble_eq_true rfl⟩ rfl rfl (Nat.le_of_ble_eq_true rfl) dX8_closes_78) hS (fun H locs hP hS => ?_)
  refine lv_iconst (v := 1) hx hb dX8_closes_81 kc_i1 ?_
  refine lv_iadd hx hb dX8_closes_82 ?_
  refine x_let h (fun x13 h => ?_)
  refine lv_dup2_11 hx hb dX8_closes_83 rfl rfl ?_
  refine m_ald hX hP h (sge_153) s157_153 sk_153 sn_153 dX8_closes_84 (fun h => ?_)
  refine x_let h (fun x14 h => ?_)
  refine lv_iload hx hb dX8_closes_85 (lv_at hl 0 rfl) ?_
  refine x_if_eq (tgt := 94) hx hb dX8_closes_87 (by decide) h (fun c15 h => ?_) (fun c15 h => ?_)
  · refine lv_iconst (v := 0) hx hb dX8_closes_94 kc_i0 ?_
    exact t_X8_closes_b95 hX hr hlk hK34 _ _ _ _ _ _ _ _ _ _ h _ _ _ hP hS (lv_sub hl [1, 2, 3, 4, 5, 6, 0] rfl)
  · refine lv_iconst (v := 1) hx hb dX8_closes_90 kc_i1 ?_
    refine lv_goto (tgt := 95) hx hb dX8_closes_91 (by decide) ?_
    exact t_X8_closes_b95 hX hr hlk hK34 _ _ _ _ _ _ _ _ _ _ h _ _ _ hP hS (lv_sub hl [1, 2, 3, 4, 5, 6, 0] rfl)
set_option maxHeartbeats 4000000 in
set_option maxRecDepth 100000 in
theorem t_X8_closes_b209 {p : Program} {l : Launch} {e : Env} {s : State} {m : MethodId} {args : Array Value} {below : List Frame} {meth : Method} {c : Code} {D : va_G} {tc : Tc} {ad : Nat → Nat} {A : Nat → Prop} {I : St} {rr : Int32} {II : St} (hX : cx p s m args c cX8_closes 8 RX8 D tc ad A) (hr : meth.sig.returnType = some .int) (hlk : meth.locks = false) {K169 : Int32 → Int32 → Int32 → Int32 → Int32 → Int32 → Int32 → St → Option (Int32 × St)} (hK169 : ∀ (v1 : Int32) (v2 : Int32) (v3 : Int32) (v4 : Int32) (v5 : Int32) (v6 : Int32) (v7 : Int32) (M : St), K169 v1 v2 v3 v4 v5 v6 v7 M = some (rr, II) → ∀ (H : Heap) (locs : List Loc) (ls : Array Slot), va_P D vwCl (wl tc ad (cmb I M)) H → va_S A s.heap H locs → lv_has ls 8 [(0, .ref (ad 152)), (1, .int v1), (2, .int v2), (3, .int v3), (4, .int v4), (5, .int v5), (6, .int v6), (7, .int v7)] → W p l e rm_X8_closes s m args below meth c H locs 0 0 (MQ below (qi D tc ad A rr (cmb I II)) args s 0 0 A) (F0 m 169 ls [])) : ∀ (v1 : Int32) (v2 : Int32) (v3 : Int32) (v4 : Int32) (v5 : Int32) (v6 : Int32) (v7 : Int32) (t1 : Int32) (t2 : Int32) (t3 : Int32) (M : St), f_X8_closes_b209 K169 v1 v2 v3 v4 v5 v6 v7 t1 t2 t3 M = some (rr, II) → ∀ (H : Heap) (locs : List Loc) (ls : Array Slot), va_P D vwCl (wl tc ad (cmb I M)) H → va_S A s.heap H locs → lv_has ls 8 [(0, .ref (ad 152)), (1, .int v1), (2, .int v2), (3, .int v3), (4, .int v4), (5, .int v5), (6, .int v6), (7, .int v7)] → W p l e rm_X8_closes s m args below meth c H locs 0 0 (MQ below (qi D tc ad A rr (cmb I II)) args s 0 0 A) (F0 m 209 ls [.int t3, .int t2, .int t1, .ref (ad 153)]) := by
  intro v1 v2 v3 v4 v5 v6 v7 t1 t2 t3 M h H locs ls hP hS hl
  unfold f_X8_closes_b209 at h
  have hx := hX.1
  have hb := hX.2.1
  have hown := hX.2.2.2.1
  have hts := hX.2.2.2.2.1
  have hA := hX.2.2.2.2.2.2
  refine lv_iadd hx hb dX8_closes_209 ?_
  refine m_ast hX hP hS h (sge_153) s157_153 sk_153 sn_153 dX8_closes_210 (fun M16 H locs h hP hS => ?_)
  refine lv_iinc (v := (v7 + 1)) (lv' := [(7, .int (v7 + 1)), (0, .ref (ad 152)), (1, .int v1), (2, .int v2), (3, .int v3), (4, .int v4), (5, .int v5), (6, .int v6)]) hx hb dX8_closes_211 hl (k := 7) rfl rfl (Nat.le_of_ble_eq_true rfl) rfl (fun ls hl => ?_)
  refine lv_goto (tgt := 169) hx hb dX8_closes_214 (by decide) ?_
  exact hK169 _ _ _ _ _ _ _ _ h _ _ _ hP hS (lv_sub hl [1, 2, 3, 4, 5, 6, 7, 0] rfl)
set_option maxHeartbeats 4000000 in
set_option maxRecDepth 100000 in
theorem t_X8_closes_b274 {p : Program} {l : Launch} {e : Env} {s : State} {m : MethodId} {args : Array Value} {below : List Frame} {meth : Method} {c : Code} {D : va_G} {tc : Tc} {ad : Nat → Nat} {A : Nat → Prop} {I : St} {rr : Int32} {II : St} (hX : cx p s m args c cX8_closes 8 RX8 D tc ad A) (hr : meth.sig.returnType = some .int) (hlk : meth.locks = false) : ∀ (t0 : Int32) (M : St), f_X8_closes_b274 t0 M = some (rr, II) → ∀ (H : Heap) (locs : List Loc) (ls : Array Slot), va_P D vwCl (wl tc ad (cmb I M)) H → va_S A s.heap H locs → lv_has ls 8 [] → W p l e rm_X8_closes s m args below meth c H locs 0 0 (MQ below (qi D tc ad A rr (cmb I II)) args s 0 0 A) (F0 m 274 ls [.int t0]) := by
  intro t0 M h H locs ls hP hS hl
  unfold f_X8_closes_b274 at h
  have hx := hX.1
  have hb := hX.2.1
  have hown := hX.2.2.2.1
  have hts := hX.2.2.2.2.1
  have hA := hX.2.2.2.2.2.2
  cases h
  exact j_iret hX hr hlk hP hS dX8_closes_274
set_option maxHeartbeats 4000000 in
set_option maxRecDepth 100000 in
theorem t_X8_closes_b255 {p : Program} {l : Launch} {e : Env} {s : State} {m : MethodId} {args : Array Value} {below : List Frame} {meth : Method} {c : Code} {D : va_G} {tc : Tc} {ad : Nat → Nat} {A : Nat → Prop} {I : St} {rr : Int32} {II : St} (hX : cx p s m args c cX8_closes 8 RX8 D tc ad A) (hr : meth.sig.returnType = some .int) (hlk : meth.locks = false) : ∀ (v1 : Int32) (v3 : Int32) (v4 : Int32) (v5 : Int32) (t1 : Int32) (t2 : Int32) (M : St), f_X8_closes_b255 v1 v3 v4 v5 t1 t2 M = some (rr, II) → ∀ (H : Heap) (locs : List Loc) (ls : Array Slot), va_P D vwCl (wl tc ad (cmb I M)) H → va_S A s.heap H locs → lv_has ls 8 [(1, .int v1), (3, .int v3), (4, .int v4), (5, .int v5)] → W p l e rm_X8_closes s m args below meth c H locs 0 0 (MQ below (qi D tc ad A rr (cmb I II)) args s 0 0 A) (F0 m 255 ls [.int t2, .int t1, .ref (ad 152)]) := by
  intro v1 v3 v4 v5 t1 t2 M h H locs ls hP hS hl
  unfold f_X8_closes_b255 at h
  have hx := hX.1
  have hb := hX.2.1
  have hown := hX.2.2.2.1
  have hts := hX.2.2.2.2.1
  have hA := hX.2.2.2.2.2.2
  refine lv_iload hx hb dX8_closes_255 (lv_at hl 3 rfl) ?_
  refine lv_iload_n hx hb dX8_closes_257 rfl (lv_at hl 0 rfl) ?_
  obtain ⟨M18, e17, h⟩ := ob1_some h
  refine j_v (j_runV (rest := []) hX hP hl.1 Y_X8_ends cok6 (s157_152) sk_152 (c_X8_ends hA e17) ⟨rfl, rfl⟩ q959 ⟨Nat.le_of_ble_eq_true rfl, Nat.le_of_ble_eq_true rfl⟩ rfl rfl (Nat.le_of_ble_eq_true rfl) dX8_closes_258) hS (fun H locs hP hS => ?_)
  refine lv_iload hx hb dX8_closes_261 (lv_at hl 2 rfl) ?_
  refine x_if_eq (tgt := 271) hx hb dX8_closes_263 (by decide) h (fun c19 h => ?_) (fun c19 h => ?_)
  · refine lv_iload_n hx hb dX8_closes_271 rfl (lv_at hl 1 rfl) ?_
    refine lv_iconst (v := 1) hx hb dX8_closes_272 kc_i1 ?_
    refine lv_iand hx hb dX8_closes_273 ?_
    exact t_X8_closes_b274 hX hr hlk  _ _ h _ _ _ hP hS (lv_sub hl [] rfl)
  · refine lv_bipush (v := (-5)) hx hb dX8_closes_266 kc_bm5 ?_
    refine lv_goto (tgt := 274) hx hb dX8_closes_268 (by decide) ?_
    exact t_X8_closes_b274 hX hr hlk  _ _ h _ _ _ hP hS (lv_sub hl [] rfl)
set_option maxHeartbeats 4000000 in
set_option maxRecDepth 100000 in
theorem t_X8_closes_b245 {p : Program} {l : Launch} {e : Env} {s : State} {m : MethodId} {args : Array Value} {below : List Frame} {meth : Method} {c : Code} {D : va_G} {tc : Tc} {ad : Nat → Nat} {A : Nat → Prop} {I : St} {rr : Int32} {II : St} (hX : cx p s m args c cX8_closes 8 RX8 D tc ad A) (hr : meth.sig.returnType = some .int) (hlk : meth.locks = false) : ∀ (v1 : Int32) (v3 : Int32) (v4 : Int32) (v5 : Int32) (t1 : Int32) (M : St), f_X8_closes_b245 v1 v3 v4 v5 t1 M = some (rr, II) → ∀ (H : Heap) (locs : List Loc) (ls : Array Slot), va_P D vwCl (wl tc ad (cmb I M)) H → va_S A s.heap H locs → lv_has ls 8 [(1, .int v1), (3, .int v3), (4, .int v4), (5, .int v5)] → W p l e rm_X8_closes s m args below meth c H locs 0 0 (MQ below (qi D tc ad A rr (cmb I II)) args s 0 0 A) (F0 m 245 ls [.int t1, .ref (ad 152)]) := by
  intro v1 v3 v4 v5 t1 M h H locs ls hP hS hl
  unfold f_X8_closes_b245 at h
  have hx := hX.1
  have hb := hX.2.1
  have hown := hX.2.2.2.1
  have hts := hX.2.2.2.2.1
  have hA := hX.2.2.2.2.2.2
  refine lv_iload hx hb dX8_closes_245 (lv_at hl 2 rfl) ?_
  refine x_if_eq (tgt := 254) hx hb dX8_closes_247 (by decide) h (fun c20 h => ?_) (fun c20 h => ?_)
  · refine lv_iload_n hx hb dX8_closes_254 rfl (lv_at hl 1 rfl) ?_
    exact t_X8_closes_b255 hX hr hlk  _ _ _ _ _ _ _ h _ _ _ hP hS (lv_sub hl [0, 1, 2, 3] rfl)
  · refine lv_iconst (v := 0) hx hb dX8_closes_250 kc_i0 ?_
    refine lv_goto (tgt := 255) hx hb dX8_closes_251 (by decide) ?_
    exact t_X8_closes_b255 hX hr hlk  _ _ _ _ _ _ _ h _ _ _ hP hS (lv_sub hl [0, 1, 2, 3] rfl)
set_option maxHeartbeats 4000000 in
set_option maxRecDepth 100000 in
theorem t_X8_closes_b231 {p : Program} {l : Launch} {e : Env} {s : State} {m : MethodId} {args : Array Value} {below : List Frame} {meth : Method} {c : Code} {D : va_G} {tc : Tc} {ad : Nat → Nat} {A : Nat → Prop} {I : St} {rr : Int32} {II : St} (hX : cx p s m args c cX8_closes 8 RX8 D tc ad A) (hr : meth.sig.returnType = some .int) (hlk : meth.locks = false) : ∀ (v1 : Int32) (v3 : Int32) (v4 : Int32) (v5 : Int32) (M : St), f_X8_closes_b231 v1 v3 v4 v5 M = some (rr, II) → ∀ (H : Heap) (locs : List Loc) (ls : Array Slot), va_P D vwCl (wl tc ad (cmb I M)) H → va_S A s.heap H locs → lv_has ls 8 [(0, .ref (ad 152)), (1, .int v1), (3, .int v3), (4, .int v4), (5, .int v5)] → W p l e rm_X8_closes s m args below meth c H locs 0 0 (MQ below (qi D tc ad A rr (cmb I II)) args s 0 0 A) (F0 m 231 ls []) := by
  intro v1 v3 v4 v5 M h H locs ls hP hS hl
  unfold f_X8_closes_b231 at h
  have hx := hX.1
  have hb := hX.2.1
  have hown := hX.2.2.2.1
  have hts := hX.2.2.2.2.1
  have hA := hX.2.2.2.2.2.2
  refine lv_aload_n hx hb dX8_closes_231 rfl (lv_at hl 0 rfl) ?_
  refine lv_iload hx hb dX8_closes_232 (lv_at hl 3 rfl) ?_
  refine x_if_eq (tgt := 242) hx hb dX8_closes_234 (by decide) h (fun c21 h => ?_) (fun c21 h => ?_)
  · refine lv_iload_n hx hb dX8_closes_242 rfl (lv_at hl 2 rfl) ?_
    refine lv_iconst (v := 1) hx hb dX8_closes_243 kc_i1 ?_
    refine lv_iand hx hb dX8_closes_244 ?_
    exact t_X8_closes_b245 hX hr hlk  _ _ _ _ _ _ h _ _ _ hP hS (lv_sub hl [1, 2, 3, 4] rfl)
  · refine lv_bipush (v := (-5)) hx hb dX8_closes_237 kc_bm5 ?_
    refine lv_goto (tgt := 245) hx hb dX8_closes_239 (by decide) ?_
    exact t_X8_closes_b245 hX hr hlk  _ _ _ _ _ _ h _ _ _ hP hS (lv_sub hl [1, 2, 3, 4] rfl)
set_option maxHeartbeats 4000000 in
set_option maxRecDepth 100000 in
theorem t_X8_closes_l169 {p : Program} {l : Launch} {e : Env} {s : State} {m : MethodId} {args : Array Value} {below : List Frame} {meth : Method} {c : Code} {D : va_G} {tc : Tc} {ad : Nat → Nat} {A : Nat → Prop} {I : St} {rr : Int32} {II : St} (hX : cx p s m args c cX8_closes 8 RX8 D tc ad A) (hr : meth.sig.returnType = some .int) (hlk : meth.locks = false) : ∀ (n : Nat), ∀ (v1 : Int32) (v2 : Int32) (v3 : Int32) (v4 : Int32) (v5 : Int32) (v6 : Int32) (v7 : Int32) (M : St), f_X8_closes_l169 n v1 v2 v3 v4 v5 v6 v7 M = some (rr, II) → ∀ (H : Heap) (locs : List Loc) (ls : Array Slot), va_P D vwCl (wl tc ad (cmb I M)) H → va_S A s.heap H locs → lv_has ls 8 [(0, .ref (ad 152)), (1, .int v1), (2, .int v2), (3, .int v3), (4, .int v4), (5, .int v5), (6, .int v6), (7, .int v7)] → W p l e rm_X8_closes s m args below meth c H locs 0 0 (MQ below (qi D tc ad A rr (cmb I II)) args s 0 0 A) (F0 m 169 ls []) := by
  intro n
  induction n with
  | zero =>
    intro _ _ _ _ _ _ _ _ h
    cases h
  | succ n ih =>
    intro v1 v2 v3 v4 v5 v6 v7 M h H locs ls hP hS hl
    rw [f_X8_closes_l169] at h
    have hx := hX.1
    have hb := hX.2.1
    have hown := hX.2.2.2.1
    have hts := hX.2.2.2.2.1
    have hA := hX.2.2.2.2.2.2
    refine lv_iload hx hb dX8_closes_169 (lv_at hl 7 rfl) ?_
    refine lv_aload_n hx hb dX8_closes_171 rfl (lv_at hl 0 rfl) ?_
    refine m_getq (t := 153) hX hP cok6 0 sge_152 s157_152 sk_152 (by decide) rfl q780 dX8_closes_172 ?_
    refine lv_iconst (v := 4) hx hb dX8_closes_175 kc_i4 ?_
    refine m_ald hX hP h (sge_153) s157_153 sk_153 sn_153 dX8_closes_176 (fun h => ?_)
    refine x_icmp_ge (tgt := 217) hx hb dX8_closes_177 (by decide) h (fun c22 h => ?_) (fun c22 h => ?_)
    · refine lv_aload_n hx hb dX8_closes_217 rfl (lv_at hl 0 rfl) ?_
      refine m_getq (t := 153) hX hP cok6 0 sge_152 s157_152 sk_152 (by decide) rfl q780 dX8_closes_218 ?_
      refine lv_iconst (v := 2) hx hb dX8_closes_221 kc_i2 ?_
      refine lv_dup2_11 hx hb dX8_closes_222 rfl rfl ?_
      refine m_ald hX hP h (sge_153) s157_153 sk_153 sn_153 dX8_closes_223 (fun h => ?_)
      refine x_let h (fun x23 h => ?_)
      refine lv_iload hx hb dX8_closes_224 (lv_at hl 6 rfl) ?_
      refine lv_iload hx hb dX8_closes_226 (lv_at hl 5 rfl) ?_
      refine lv_imul hx hb dX8_closes_228 ?_
      refine lv_isub hx hb dX8_closes_229 ?_
      refine m_ast hX hP hS h (sge_153) s157_153 sk_153 sn_153 dX8_closes_230 (fun M24 H locs h hP hS => ?_)
      exact t_X8_closes_b231 hX hr hlk  _ _ _ _ _ h _ _ _ hP hS (lv_sub hl [0, 1, 3, 4, 5] rfl)
    · refine lv_aload_n hx hb dX8_closes_180 rfl (lv_at hl 0 rfl) ?_
      refine m_getq (t := 153) hX hP cok6 0 sge_152 s157_152 sk_152 (by decide) rfl q780 dX8_closes_181 ?_
      refine lv_iload hx hb dX8_closes_184 (lv_at hl 7 rfl) ?_
      obtain ⟨r26, e25, h⟩ := ob1_some h
      refine j_i (j_runS (rest := [.ref (ad 153)]) hX hP hl.1 Y_X8_person (c_X8_person hA e25) ⟨rfl, rfl⟩ q814 ⟨Nat.le_of_ble_eq_true rfl, Nat.le_of_ble_eq_true rfl⟩ rfl rfl (Nat.le_of_ble_eq_true rfl) dX8_closes_186) hS (fun H locs hP hS => ?_)
      refine lv_iconst (v := 0) hx hb dX8_closes_189 kc_i0 ?_
      refine lv_iadd hx hb dX8_closes_190 ?_
      refine x_let h (fun x27 h => ?_)
      refine lv_dup2_11 hx hb dX8_closes_191 rfl rfl ?_
      refine m_ald hX hP h (sge_153) s157_153 sk_153 sn_153 dX8_closes_192 (fun h => ?_)
      refine x_let h (fun x28 h => ?_)
      refine lv_iload_n hx hb dX8_closes_193 rfl (lv_at hl 2 rfl) ?_
      refine lv_iload hx hb dX8_closes_194 (lv_at hl 7 rfl) ?_
      refine lv_ishr hx hb dX8_closes_196 ?_
      refine x_let h (fun x29 h => ?_)
      refine lv_iconst (v := 1) hx hb dX8_closes_197 kc_i1 ?_
      refine lv_iand hx hb dX8_closes_198 ?_
      refine x_let h (fun x30 h => ?_)
      refine lv_iconst (v := 1) hx hb dX8_closes_199 kc_i1 ?_
      refine x_icmp_ne (tgt := 208) hx hb dX8_closes_200 (by decide) h (fun c31 h => ?_) (fun c31 h => ?_)
      · refine lv_iconst (v := 0) hx hb dX8_closes_208 kc_i0 ?_
        exact t_X8_closes_b209 hX hr hlk ih _ _ _ _ _ _ _ _ _ _ _ h _ _ _ hP hS (lv_sub hl [0, 1, 2, 3, 4, 5, 6, 7] rfl)
      · refine lv_iload hx hb dX8_closes_203 (lv_at hl 6 rfl) ?_
        refine lv_goto (tgt := 209) hx hb dX8_closes_205 (by decide) ?_
        exact t_X8_closes_b209 hX hr hlk ih _ _ _ _ _ _ _ _ _ _ _ h _ _ _ hP hS (lv_sub hl [0, 1, 2, 3, 4, 5, 6, 7] rfl)
set_option maxHeartbeats 4000000 in
set_option maxRecDepth 100000 in
theorem t_X8_closes_l34 {p : Program} {l : Launch} {e : Env} {s : State} {m : MethodId} {args : Array Value} {below : List Frame} {meth : Method} {c : Code} {D : va_G} {tc : Tc} {ad : Nat → Nat} {A : Nat → Prop} {I : St} {rr : Int32} {II : St} (hX : cx p s m args c cX8_closes 8 RX8 D tc ad A) (hr : meth.sig.returnType = some .int) (hlk : meth.locks = false) : ∀ (n : Nat), ∀ (v1 : Int32) (v2 : Int32) (v3 : Int32) (v4 : Int32) (v5 : Int32) (M : St), f_X8_closes_l34 n v1 v2 v3 v4 v5 M = some (rr, II) → ∀ (H : Heap) (locs : List Loc) (ls : Array Slot), va_P D vwCl (wl tc ad (cmb I M)) H → va_S A s.heap H locs → lv_has ls 8 [(0, .ref (ad 152)), (1, .int v1), (2, .int v2), (3, .int v3), (4, .int v4), (5, .int v5)] → W p l e rm_X8_closes s m args below meth c H locs 0 0 (MQ below (qi D tc ad A rr (cmb I II)) args s 0 0 A) (F0 m 34 ls []) := by
  intro n
  induction n with
  | zero =>
    intro _ _ _ _ _ _ h
    cases h
  | succ n ih =>
    intro v1 v2 v3 v4 v5 M h H locs ls hP hS hl
    rw [f_X8_closes_l34] at h
    have hx := hX.1
    have hb := hX.2.1
    have hown := hX.2.2.2.1
    have hts := hX.2.2.2.2.1
    have hA := hX.2.2.2.2.2.2
    refine lv_iload hx hb dX8_closes_34 (lv_at hl 5 rfl) ?_
    refine lv_aload_n hx hb dX8_closes_36 rfl (lv_at hl 0 rfl) ?_
    refine m_getq (t := 153) hX hP cok6 0 sge_152 s157_152 sk_152 (by decide) rfl q780 dX8_closes_37 ?_
    refine lv_iconst (v := 4) hx hb dX8_closes_40 kc_i4 ?_
    refine m_ald hX hP h (sge_153) s157_153 sk_153 sn_153 dX8_closes_41 (fun h => ?_)
    refine x_icmp_ge (tgt := 139) hx hb dX8_closes_42 (by decide) h (fun c32 h => ?_) (fun c32 h => ?_)
    · refine lv_iload_n hx hb dX8_closes_139 rfl (lv_at hl 2 rfl) ?_
      obtain ⟨r34, e33, h⟩ := ob1_some h
      refine j_i (j_runS (rest := []) hX hP hl.1 Y_X8_countOf (c_X8_countOf hA e33) ⟨rfl, rfl⟩ q956 ⟨Nat.le_of_ble_eq_true rfl, Nat.le_of_ble_eq_true rfl⟩ rfl rfl (Nat.le_of_ble_eq_true rfl) dX8_closes_140) hS (fun H locs hP hS => ?_)
      refine lv_istore (lv' := [(5, .int r34), (0, .ref (ad 152)), (1, .int v1), (2, .int v2), (3, .int v3), (4, .int v4)]) hx hb dX8_closes_143 hl (Nat.le_of_ble_eq_true rfl) rfl (fun ls hl => ?_)
      refine lv_iload hx hb dX8_closes_145 (lv_at hl 5 rfl) ?_
      refine x_if_ne (tgt := 231) hx hb dX8_closes_147 (by decide) h (fun c35 h => ?_) (fun c35 h => ?_)
      · exact t_X8_closes_b231 hX hr hlk  _ _ _ _ _ h _ _ _ hP hS (lv_sub hl [1, 2, 4, 5, 0] rfl)
      · refine lv_iload hx hb dX8_closes_150 (lv_at hl 0 rfl) ?_
        refine x_if_le (tgt := 231) hx hb dX8_closes_152 (by decide) h (fun c36 h => ?_) (fun c36 h => ?_)
        · exact t_X8_closes_b231 hX hr hlk  _ _ _ _ _ h _ _ _ hP hS (lv_sub hl [1, 2, 4, 5, 0] rfl)
        · refine lv_aload_n hx hb dX8_closes_155 rfl (lv_at hl 1 rfl) ?_
          refine m_getq (t := 153) hX hP cok6 0 sge_152 s157_152 sk_152 (by decide) rfl q780 dX8_closes_156 ?_
          refine lv_iconst (v := 2) hx hb dX8_closes_159 kc_i2 ?_
          refine m_ald hX hP h (sge_153) s157_153 sk_153 sn_153 dX8_closes_160 (fun h => ?_)
          refine x_let h (fun x37 h => ?_)
          refine lv_iload hx hb dX8_closes_161 (lv_at hl 0 rfl) ?_
          obtain ⟨g38, h⟩ := ck_some h
          refine lv_idiv hx hb dX8_closes_163 (nz_ne g38) ?_
          refine x_let h (fun x39 h => ?_)
          refine lv_istore (lv' := [(6, .int x39), (5, .int r34), (0, .ref (ad 152)), (1, .int v1), (2, .int v2), (3, .int v3), (4, .int v4)]) hx hb dX8_closes_164 hl (Nat.le_of_ble_eq_true rfl) rfl (fun ls hl => ?_)
          refine lv_iconst (v := 0) hx hb dX8_closes_166 kc_i0 ?_
          refine lv_istore (lv' := [(7, .int 0), (6, .int x39), (5, .int r34), (0, .ref (ad 152)), (1, .int v1), (2, .int v2), (3, .int v3), (4, .int v4)]) hx hb dX8_closes_167 hl (Nat.le_of_ble_eq_true rfl) rfl (fun ls hl => ?_)
          exact t_X8_closes_l169 hX hr hlk  10000 _ _ _ _ _ _ _ _ h _ _ _ hP hS (lv_sub hl [3, 4, 5, 6, 7, 2, 1, 0] rfl)
    · refine lv_iload_n hx hb dX8_closes_45 rfl (lv_at hl 1 rfl) ?_
      refine lv_iload hx hb dX8_closes_46 (lv_at hl 5 rfl) ?_
      refine lv_ishr hx hb dX8_closes_48 ?_
      refine x_let h (fun x40 h => ?_)
      refine lv_iconst (v := 1) hx hb dX8_closes_49 kc_i1 ?_
      refine lv_iand hx hb dX8_closes_50 ?_
      refine x_let h (fun x41 h => ?_)
      refine lv_iconst (v := 1) hx hb dX8_closes_51 kc_i1 ?_
      refine x_icmp_ne (tgt := 133) hx hb dX8_closes_52 (by decide) h (fun c42 h => ?_) (fun c42 h => ?_)
      · exact t_X8_closes_b133 hX hr hlk ih _ _ _ _ _ _ h _ _ _ hP hS (lv_sub hl [0, 1, 2, 3, 4, 5] rfl)
      · refine lv_iload_n hx hb dX8_closes_55 rfl (lv_at hl 2 rfl) ?_
        refine lv_iload hx hb dX8_closes_56 (lv_at hl 5 rfl) ?_
        refine lv_ishr hx hb dX8_closes_58 ?_
        refine x_let h (fun x43 h => ?_)
        refine lv_iconst (v := 1) hx hb dX8_closes_59 kc_i1 ?_
        refine lv_iand hx hb dX8_closes_60 ?_
        refine x_let h (fun x44 h => ?_)
        refine lv_iconst (v := 1) hx hb dX8_closes_61 kc_i1 ?_
        refine x_icmp_ne (tgt := 69) hx hb dX8_closes_62 (by decide) h (fun c45 h => ?_) (fun c45 h => ?_)
        · refine lv_iconst (v := 0) hx hb dX8_closes_69 kc_i0 ?_
          exact t_X8_closes_b70 hX hr hlk ih _ _ _ _ _ _ _ h _ _ _ hP hS (lv_sub hl [0, 1, 2, 3, 4, 5] rfl)
        · refine lv_iconst (v := 1) hx hb dX8_closes_65 kc_i1 ?_
          refine lv_goto (tgt := 70) hx hb dX8_closes_66 (by decide) ?_
          exact t_X8_closes_b70 hX hr hlk ih _ _ _ _ _ _ _ h _ _ _ hP hS (lv_sub hl [0, 1, 2, 3, 4, 5] rfl)
set_option maxHeartbeats 4000000 in
set_option maxRecDepth 100000 in
theorem c_X8_closes {l : Launch} {D : va_G} {tc : Tc} {ad : Nat → Nat} {A : Nat → Prop} (hA : adok ad A) {I M : St}  {rr : Int32} {II : St} (h : f_X8_closes M = some (rr, II)) : Met l yX8_closes (Cond.code yX8_closes cX8_closes 8 (some .int) :: tw) rm_X8_closes (pre D tc ad [.ref (ad 152)] (cmb I M)) (qi D tc ad A rr (cmb I II)) 0 0 A := by
  unfold f_X8_closes at h
  refine mk_met (own := RX8) (by decide +kernel) rfl hA (Nat.le_of_ble_eq_true rfl) ?_
  intro p e s m below meth c ls hX hr hlk hl hP hS
  have hl : lv_has ls 8 [(0, .ref (ad 152))] := hl
  have hx := hX.1
  have hb := hX.2.1
  have hown := hX.2.2.2.1
  have hts := hX.2.2.2.2.1
  refine lv_aload_n hx hb dX8_closes_0 rfl (lv_at hl 0 rfl) ?_
  obtain ⟨M47, e46, h⟩ := ob1_some h
  refine j_v (j_runV (rest := []) hX hP hl.1 Y_X8_takesSecrets cok6 (s157_152) sk_152 (c_X8_takesSecrets hA e46) ⟨rfl, rfl⟩ q975 ⟨Nat.le_of_ble_eq_true rfl, Nat.le_of_ble_eq_true rfl⟩ rfl rfl (Nat.le_of_ble_eq_true rfl) dX8_closes_1) hS (fun H locs hP hS => ?_)
  refine lv_aload_n hx hb dX8_closes_4 rfl (lv_at hl 0 rfl) ?_
  refine lv_iconst (v := 5) hx hb dX8_closes_5 kc_i5 ?_
  obtain ⟨r49, e48, h⟩ := ob1_some h
  refine j_i (j_runV (rest := []) hX hP hl.1 Y_X8_setOf cok6 (s157_152) sk_152 (c_X8_setOf hA e48) ⟨rfl, rfl⟩ q952 ⟨Nat.le_of_ble_eq_true rfl, Nat.le_of_ble_eq_true rfl⟩ rfl rfl (Nat.le_of_ble_eq_true rfl) dX8_closes_6) hS (fun H locs hP hS => ?_)
  refine lv_istore_n (lv' := [(1, .int r49), (0, .ref (ad 152))]) hx hb dX8_closes_9 rfl hl (Nat.le_of_ble_eq_true rfl) rfl (fun ls hl => ?_)
  refine lv_aload_n hx hb dX8_closes_10 rfl (lv_at hl 1 rfl) ?_
  refine lv_bipush (v := 7) hx hb dX8_closes_11 kc_b7 ?_
  obtain ⟨r51, e50, h⟩ := ob1_some h
  refine j_i (j_runV (rest := []) hX hP hl.1 Y_X8_setOf cok6 (s157_152) sk_152 (c_X8_setOf hA e50) ⟨rfl, rfl⟩ q952 ⟨Nat.le_of_ble_eq_true rfl, Nat.le_of_ble_eq_true rfl⟩ rfl rfl (Nat.le_of_ble_eq_true rfl) dX8_closes_13) hS (fun H locs hP hS => ?_)
  refine lv_iload_n hx hb dX8_closes_16 rfl (lv_at hl 0 rfl) ?_
  refine lv_iand hx hb dX8_closes_17 ?_
  refine x_let h (fun x52 h => ?_)
  refine lv_istore_n (lv' := [(2, .int x52), (1, .int r49), (0, .ref (ad 152))]) hx hb dX8_closes_18 rfl hl (Nat.le_of_ble_eq_true rfl) rfl (fun ls hl => ?_)
  refine lv_aload_n hx hb dX8_closes_19 rfl (lv_at hl 2 rfl) ?_
  refine lv_iload_n hx hb dX8_closes_20 rfl (lv_at hl 0 rfl) ?_
  obtain ⟨r55, M54, e53, h⟩ := ob2_some h
  refine j_i (j_runV (rest := []) hX hP hl.1 Y_X8_outputOf cok6 (s157_152) sk_152 (c_X8_outputOf hA e53) ⟨rfl, rfl⟩ q979 ⟨Nat.le_of_ble_eq_true rfl, Nat.le_of_ble_eq_true rfl⟩ rfl rfl (Nat.le_of_ble_eq_true rfl) dX8_closes_21) hS (fun H locs hP hS => ?_)
  refine lv_istore_n (lv' := [(3, .int r55), (2, .int x52), (1, .int r49), (0, .ref (ad 152))]) hx hb dX8_closes_24 rfl hl (Nat.le_of_ble_eq_true rfl) rfl (fun ls hl => ?_)
  refine lv_aload_n hx hb dX8_closes_25 rfl (lv_at hl 3 rfl) ?_
  refine m_get hX hP cok6 4 sge_152 s157_152 sk_152 (by decide) rfl q784 dX8_closes_26 ?_
  refine x_let h (fun x56 h => ?_)
  refine lv_istore (lv' := [(4, .int x56), (3, .int r55), (2, .int x52), (1, .int r49), (0, .ref (ad 152))]) hx hb dX8_closes_29 hl (Nat.le_of_ble_eq_true rfl) rfl (fun ls hl => ?_)
  refine lv_iconst (v := 0) hx hb dX8_closes_31 kc_i0 ?_
  refine lv_istore (lv' := [(5, .int 0), (4, .int x56), (3, .int r55), (2, .int x52), (1, .int r49), (0, .ref (ad 152))]) hx hb dX8_closes_32 hl (Nat.le_of_ble_eq_true rfl) rfl (fun ls hl => ?_)
  exact t_X8_closes_l34 hX hr hlk  10000 _ _ _ _ _ _ h _ _ _ hP hS (lv_sub hl [5, 4, 3, 2, 1, 0] rfl)
