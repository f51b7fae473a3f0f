/-! OwnerlessCoin$Lab.countedIf(I)I -/
def rm_X4_countedIf : Room := { frames := 2, cells := 0, slots := 0, locals := 43 }
theorem Y_X4_countedIf : yv yX4_countedIf cX4_countedIf 2 (some .int) 1 RX4 := ⟨q473, q471, q472, q13, by decide +kernel⟩
set_option maxHeartbeats 4000000 in
set_option maxRecDepth 100000 in
theorem t_X4_countedIf_b27 {p : Program} {l : Launch} {e : Env} {s : State} {m : MethodId} {args : Array Value} {below : List Frame} {meth : Method} {c : Code} {D : va_G} {tc : Tc} {ad : Nat → Nat} {A : Nat → Prop} {M : St} {rr : Int32} (hX : cx p s m args c cX4_countedIf 2 RX4 D tc ad A) (hr : meth.sig.returnType = some .int) (hlk : meth.locks = false) : ∀ (I : St), f_X4_countedIf_b27 I = some rr → ∀ (H : Heap) (locs : List Loc) (ls : Array Slot), va_P D vwCl (wl tc ad (cmb I M)) H → va_S A s.heap H locs → lv_has ls 2 [(0, .ref (ad 0))] → W p l e rm_X4_countedIf s m args below meth c H locs 0 0 (MQ below (qi D tc ad A rr (cmb I M)) args s 0 0 A) (F0 m 27 ls []) := by
  intro I h H locs ls hP hS hl
  unfold f_X4_countedIf_b27 at h
  have hx := hX.1
  have hb := hX.2.1
  have hown := hX.2.2.2.1
  have hts := hX.2.2.2.2.1
  have hA := hX.2.2.2.2.2.2
  refine lv_aload_n hx hb dX4_countedIf_27 rfl (lv_at hl 0 rfl) ?_
  refine r_get hX hP cok3 10 sl_0 sk_0 (by decide) rfl q164 dX4_countedIf_28 ?_
  cases h
  exact j_iret hX hr hlk hP hS dX4_countedIf_31
set_option maxHeartbeats 4000000 in
set_option maxRecDepth 100000 in
theorem c_X4_countedIf {l : Launch} {D : va_G} {tc : Tc} {ad : Nat → Nat} {A : Nat → Prop} (hA : adok ad A) {I M : St} {v1 : Int32} {rr : Int32} (h : f_X4_countedIf v1 I = some rr) : Met l yX4_countedIf (Cond.code yX4_countedIf cX4_countedIf 2 (some .int) :: tw) rm_X4_countedIf (pre D tc ad [.ref (ad 0), .int v1] (cmb I M)) (qi D tc ad A rr (cmb I M)) 0 0 A := by
  unfold f_X4_countedIf at h
  refine mk_met (own := RX4) (by decide +kernel) rfl hA (Nat.le_of_ble_eq_true rfl) ?_
  intro p e s m below meth c ls hX hr hlk hl hP hS
  have hl : lv_has ls 2 [(0, .ref (ad 0)), (1, .int v1)] := hl
  have hx := hX.1
  have hb := hX.2.1
  have hown := hX.2.2.2.1
  have hts := hX.2.2.2.2.1
  refine lv_aload_n hx hb dX4_countedIf_0 rfl (lv_at hl 0 rfl) ?_
  refine r_get hX hP cok3 5 sl_0 sk_0 (by decide) rfl q151 dX4_countedIf_1 ?_
  refine x_if_ne (tgt := 9) hx hb dX4_countedIf_4 (by decide) h (fun c1 h => ?_) (fun c1 h => ?_)
  · refine lv_aload_n hx hb dX4_countedIf_9 rfl (lv_at hl 0 rfl) ?_
    refine r_get hX hP cok3 5 sl_0 sk_0 (by decide) rfl q151 dX4_countedIf_10 ?_
    refine x_let h (fun x2 h => ?_)
    refine lv_iconst (v := 1) hx hb dX4_countedIf_13 kc_i1 ?_
    refine x_icmp_ne (tgt := 27) hx hb dX4_countedIf_14 (by decide) h (fun c3 h => ?_) (fun c3 h => ?_)
    · exact t_X4_countedIf_b27 hX hr hlk  _ h _ _ _ hP hS (lv_sub hl [0] rfl)
    · refine lv_aload_n hx hb dX4_countedIf_17 rfl (lv_at hl 0 rfl) ?_
      refine lv_iload_n hx hb dX4_countedIf_18 rfl (lv_at hl 1 rfl) ?_
      obtain ⟨r5, e4, h⟩ := ob1_some h
      refine j_i (j_runV (rest := []) hX hP hl.1 Y_X4_canRecoverAll cok3 (lt157 sl_0) sk_0 (c_X4_canRecoverAll hA e4) ⟨rfl, rfl⟩ q474 ⟨Nat.le_of_ble_eq_true rfl, Nat.le_of_ble_eq_true rfl⟩ rfl rfl (Nat.le_of_ble_eq_true rfl) dX4_countedIf_19) hS (fun H locs hP hS => ?_)
      refine x_if_ne (tgt := 27) hx hb dX4_countedIf_22 (by decide) h (fun c6 h => ?_) (fun c6 h => ?_)
      · exact t_X4_countedIf_b27 hX hr hlk  _ h _ _ _ hP hS (lv_sub hl [0] rfl)
      · refine lv_iconst (v := (-1)) hx hb dX4_countedIf_25 kc_im1 ?_
        cases h
        exact j_iret hX hr hlk hP hS dX4_countedIf_26
  · refine lv_iload_n hx hb dX4_countedIf_7 rfl (lv_at hl 1 rfl) ?_
    cases h
    exact j_iret hX hr hlk hP hS dX4_countedIf_8
/-! OwnerlessCoin$Lab.chargeOrCredit()V -/
def rm_X4_chargeOrCredit : Room := { frames := 2, cells := 0, slots := 0, locals := 52 }
theorem Y_X4_chargeOrCredit : yv yX4_chargeOrCredit cX4_chargeOrCredit 2 none 0 RX4 := ⟨q538, q537, q7, q13, by decide +kernel⟩
set_option maxHeartbeats 4000000 in
set_option maxRecDepth 100000 in
theorem t_X4_chargeOrCredit_b68 {p : Program} {l : Launch} {e : Env} {s : State} {m : MethodId} {args : Array Value} {below : List Frame} {meth : Method} {c : Code} {D : va_G} {tc : Tc} {ad : Nat → Nat} {A : Nat → Prop} {M : St} {II : St} (hX : cx p s m args c cX4_chargeOrCredit 2 RX4 D tc ad A) (hr : meth.sig.returnType = none) (hlk : meth.locks = false) {K2 : Int32 → St → Option (St)} (hK2 : ∀ (v1 : Int32) (I : St), K2 v1 I = some II → ∀ (H : Heap) (locs : List Loc) (ls : Array Slot), va_P D vwCl (wl tc ad (cmb I M)) H → va_S A s.heap H locs → lv_has ls 2 [(0, .ref (ad 0)), (1, .int v1)] → W p l e rm_X4_chargeOrCredit s m args below meth c H locs 0 0 (MQ below (qv D tc ad A (cmb II M)) args s 0 0 A) (F0 m 2 ls [])) : ∀ (v1 : Int32) (I : St), f_X4_chargeOrCredit_b68 K2 v1 I = some II → ∀ (H : Heap) (locs : List Loc) (ls : Array Slot), va_P D vwCl (wl tc ad (cmb I M)) H → va_S A s.heap H locs → lv_has ls 2 [(0, .ref (ad 0)), (1, .int v1)] → W p l e rm_X4_chargeOrCredit s m args below meth c H locs 0 0 (MQ below (qv D tc ad A (cmb II M)) args s 0 0 A) (F0 m 68 ls []) := by
  intro v1 I h H locs ls hP hS hl
  unfold f_X4_chargeOrCredit_b68 at h
  have hx := hX.1
  have hb := hX.2.1
  have hown := hX.2.2.2.1
  have hts := hX.2.2.2.2.1
  have hA := hX.2.2.2.2.2.2
  refine lv_iinc (v := (v1 + 1)) (lv' := [(1, .int (v1 + 1)), (0, .ref (ad 0))]) hx hb dX4_chargeOrCredit_68 hl (k := 1) rfl rfl (Nat.le_of_ble_eq_true rfl) rfl (fun ls hl => ?_)
  refine lv_goto (tgt := 2) hx hb dX4_chargeOrCredit_71 (by decide) ?_
  exact hK2 _ _ h _ _ _ hP hS (lv_sub hl [1, 0] rfl)
set_option maxHeartbeats 4000000 in
set_option maxRecDepth 100000 in
theorem t_X4_chargeOrCredit_l2 {p : Program} {l : Launch} {e : Env} {s : State} {m : MethodId} {args : Array Value} {below : List Frame} {meth : Method} {c : Code} {D : va_G} {tc : Tc} {ad : Nat → Nat} {A : Nat → Prop} {M : St} {II : St} (hX : cx p s m args c cX4_chargeOrCredit 2 RX4 D tc ad A) (hr : meth.sig.returnType = none) (hlk : meth.locks = false) : ∀ (n : Nat), ∀ (v1 : Int32) (I : St), f_X4_chargeOrCredit_l2 n v1 I = some II → ∀ (H : Heap) (locs : List Loc) (ls : Array Slot), va_P D vwCl (wl tc ad (cmb I M)) H → va_S A s.heap H locs → lv_has ls 2 [(0, .ref (ad 0)), (1, .int v1)] → W p l e rm_X4_chargeOrCredit s m args below meth c H locs 0 0 (MQ below (qv D tc ad A (cmb II M)) args s 0 0 A) (F0 m 2 ls []) := by
  intro n
  induction n with
  | zero =>
    intro _ _ h
    cases h
  | succ n ih =>
    intro v1 I h H locs ls hP hS hl
    rw [f_X4_chargeOrCredit_l2] at h
    have hx := hX.1
    have hb := hX.2.1
    have hown := hX.2.2.2.1
    have hts := hX.2.2.2.2.1
    have hA := hX.2.2.2.2.2.2
    refine lv_iload_n hx hb dX4_chargeOrCredit_2 rfl (lv_at hl 1 rfl) ?_
    refine lv_bipush (v := 8) hx hb dX4_chargeOrCredit_3 kc_b8 ?_
    refine x_icmp_ge (tgt := 74) hx hb dX4_chargeOrCredit_5 (by decide) h (fun c1 h => ?_) (fun c1 h => ?_)
    · cases h
      exact j_vret hX hr hlk hP hS dX4_chargeOrCredit_74
    · refine lv_aload_n hx hb dX4_chargeOrCredit_8 rfl (lv_at hl 0 rfl) ?_
      refine r_get hX hP cok3 12 sl_0 sk_0 (by decide) rfl q170 dX4_chargeOrCredit_9 ?_
      refine x_let h (fun x2 h => ?_)
      refine lv_iload_n hx hb dX4_chargeOrCredit_12 rfl (lv_at hl 1 rfl) ?_
      obtain ⟨r4, e3, h⟩ := ob1_some h
      refine j_i (j_runN (rest := []) hX hP hl.1 Y_X7_has (c_X7_has hA e3) ⟨rfl, rfl⟩ nw3 ⟨Nat.le_of_ble_eq_true rfl, Nat.le_of_ble_eq_true rfl⟩ rfl rfl (Nat.le_of_ble_eq_true rfl) dX4_chargeOrCredit_13) hS (fun H locs hP hS => ?_)
      refine x_if_eq (tgt := 37) hx hb dX4_chargeOrCredit_16 (by decide) h (fun c5 h => ?_) (fun c5 h => ?_)
      · refine lv_aload_n hx hb dX4_chargeOrCredit_37 rfl (lv_at hl 0 rfl) ?_
        refine r_get hX hP cok3 10 sl_0 sk_0 (by decide) rfl q164 dX4_chargeOrCredit_38 ?_
        refine x_let h (fun x6 h => ?_)
        refine lv_iload_n hx hb dX4_chargeOrCredit_41 rfl (lv_at hl 1 rfl) ?_
        obtain ⟨r8, e7, h⟩ := ob1_some h
        refine j_i (j_runN (rest := []) hX hP hl.1 Y_X7_has (c_X7_has hA e7) ⟨rfl, rfl⟩ nw3 ⟨Nat.le_of_ble_eq_true rfl, Nat.le_of_ble_eq_true rfl⟩ rfl rfl (Nat.le_of_ble_eq_true rfl) dX4_chargeOrCredit_42) hS (fun H locs hP hS => ?_)
        refine x_if_eq (tgt := 68) hx hb dX4_chargeOrCredit_45 (by decide) h (fun c9 h => ?_) (fun c9 h => ?_)
        · exact t_X4_chargeOrCredit_b68 hX hr hlk ih _ _ h _ _ _ hP hS (lv_sub hl [0, 1] rfl)
        · refine lv_aload_n hx hb dX4_chargeOrCredit_48 rfl (lv_at hl 0 rfl) ?_
          refine r_getq (t := 1) hX hP cok3 0 sl_0 sk_0 (by decide) rfl q138 dX4_chargeOrCredit_49 ?_
          refine lv_iload_n hx hb dX4_chargeOrCredit_52 rfl (lv_at hl 1 rfl) ?_
          refine r_ldq hX hP h (lt157 sl_1) sk_1 sn_1 dX4_chargeOrCredit_53 (fun g10 h => ?_)
          refine lv_dup hx hb dX4_chargeOrCredit_54 rfl ?_
          refine r_get hX hP cok4 3 (isP_lt (isP_of g10)) (isP_kd (isP_of g10)) (by decide) rfl q93 dX4_chargeOrCredit_55 ?_
          refine x_let h (fun x11 h => ?_)
          refine lv_iconst (v := 1) hx hb dX4_chargeOrCredit_58 kc_i1 ?_
          refine lv_iadd hx hb dX4_chargeOrCredit_59 ?_
          refine r_put hX hP hS cok4 3 h (isP_lt (isP_of g10)) (isP_kd (isP_of g10)) (by decide) rfl rfl q93 rfl dX4_chargeOrCredit_60 (fun I12 H locs h hP hS => ?_)
          refine lv_aload_n hx hb dX4_chargeOrCredit_63 rfl (lv_at hl 0 rfl) ?_
          refine lv_iload_n hx hb dX4_chargeOrCredit_64 rfl (lv_at hl 1 rfl) ?_
          obtain ⟨I14, e13, h⟩ := ob1_some h
          refine j_v (j_runV (rest := []) hX hP hl.1 Y_X4_payFine cok3 (lt157 sl_0) sk_0 (c_X4_payFine hA e13) ⟨rfl, rfl⟩ q452 ⟨Nat.le_of_ble_eq_true rfl, Nat.le_of_ble_eq_true rfl⟩ rfl rfl (Nat.le_of_ble_eq_true rfl) dX4_chargeOrCredit_65) hS (fun H locs hP hS => ?_)
          exact t_X4_chargeOrCredit_b68 hX hr hlk ih _ _ h _ _ _ hP hS (lv_sub hl [0, 1] rfl)
      · refine lv_aload_n hx hb dX4_chargeOrCredit_19 rfl (lv_at hl 0 rfl) ?_
        refine r_getq (t := 1) hX hP cok3 0 sl_0 sk_0 (by decide) rfl q138 dX4_chargeOrCredit_20 ?_
        refine lv_iload_n hx hb dX4_chargeOrCredit_23 rfl (lv_at hl 1 rfl) ?_
        refine r_ldq hX hP h (lt157 sl_1) sk_1 sn_1 dX4_chargeOrCredit_24 (fun g15 h => ?_)
        refine lv_dup hx hb dX4_chargeOrCredit_25 rfl ?_
        refine r_get hX hP cok4 2 (isP_lt (isP_of g15)) (isP_kd (isP_of g15)) (by decide) rfl q90 dX4_chargeOrCredit_26 ?_
        refine x_let h (fun x16 h => ?_)
        refine lv_iconst (v := 1) hx hb dX4_chargeOrCredit_29 kc_i1 ?_
        refine lv_iadd hx hb dX4_chargeOrCredit_30 ?_
        refine r_put hX hP hS cok4 2 h (isP_lt (isP_of g15)) (isP_kd (isP_of g15)) (by decide) rfl rfl q90 rfl dX4_chargeOrCredit_31 (fun I17 H locs h hP hS => ?_)
        refine lv_goto (tgt := 68) hx hb dX4_chargeOrCredit_34 (by decide) ?_
        exact t_X4_chargeOrCredit_b68 hX hr hlk ih _ _ h _ _ _ hP hS (lv_sub hl [0, 1] rfl)
set_option maxHeartbeats 4000000 in
set_option maxRecDepth 100000 in
theorem c_X4_chargeOrCredit {l : Launch} {D : va_G} {tc : Tc} {ad : Nat → Nat} {A : Nat → Prop} (hA : adok ad A) {I M : St}  {II : St} (h : f_X4_chargeOrCredit I = some II) : Met l yX4_chargeOrCredit (Cond.code yX4_chargeOrCredit cX4_chargeOrCredit 2 none :: tw) rm_X4_chargeOrCredit (pre D tc ad [.ref (ad 0)] (cmb I M)) (qv D tc ad A (cmb II M)) 0 0 A := by
  unfold f_X4_chargeOrCredit at h
  refine mk_met (own := RX4) (by decide +kernel) rfl hA (Nat.le_of_ble_eq_true rfl) ?_
  intro p e s m below meth c ls hX hr hlk hl hP hS
  have hl : lv_has ls 2 [(0, .ref (ad 0))] := hl
  have hx := hX.1
  have hb := hX.2.1
  have hown := hX.2.2.2.1
  have hts := hX.2.2.2.2.1
  refine lv_iconst (v := 0) hx hb dX4_chargeOrCredit_0 kc_i0 ?_
  refine lv_istore_n (lv' := [(1, .int 0), (0, .ref (ad 0))]) hx hb dX4_chargeOrCredit_1 rfl hl (Nat.le_of_ble_eq_true rfl) rfl (fun ls hl => ?_)
  exact t_X4_chargeOrCredit_l2 hX hr hlk  10000 _ _ h _ _ _ hP hS (lv_sub hl [1, 0] rfl)
/-! OwnerlessCoin$Lab.mixed([II)I -/
def rm_X4_mixed : Room := { frames := 1, cells := 0, slots := 0, locals := 22 }
theorem Y_X4_mixed : yv yX4_mixed cX4_mixed 5 (some .int) 2 RX4 := ⟨q495, q493, q494, q13, by decide +kernel⟩
set_option maxHeartbeats 4000000 in
set_option maxRecDepth 100000 in
theorem t_X4_mixed_b59 {p : Program} {l : Launch} {e : Env} {s : State} {m : MethodId} {args : Array Value} {below : List Frame} {meth : Method} {c : Code} {D : va_G} {tc : Tc} {ad : Nat → Nat} {A : Nat → Prop} {M : St} {o1 : Nat} {rr : Int32} (hX : cx p s m args c cX4_mixed 5 RX4 D tc ad A) (hr : meth.sig.returnType = some .int) (hlk : meth.locks = false) (ho1 : isA o1 = true) {K11 : Int32 → Int32 → Int32 → St → Option (Int32)} (hK11 : ∀ (v2 : Int32) (v3 : Int32) (v4 : Int32) (I : St), K11 v2 v3 v4 I = some rr → ∀ (H : Heap) (locs : List Loc) (ls : Array Slot), va_P D vwCl (wl tc ad (cmb I M)) H → va_S A s.heap H locs → lv_has ls 5 [(0, .ref (ad 0)), (1, .ref (ad o1)), (2, .int v2), (3, .int v3), (4, .int v4)] → W p l e rm_X4_mixed s m args below meth c H locs 0 0 (MQ below (qi D tc ad A rr (cmb I M)) args s 0 0 A) (F0 m 11 ls [])) : ∀ (v2 : Int32) (v3 : Int32) (v4 : Int32) (I : St), f_X4_mixed_b59 o1 K11 v2 v3 v4 I = some rr → ∀ (H : Heap) (locs : List Loc) (ls : Array Slot), va_P D vwCl (wl tc ad (cmb I M)) H → va_S A s.heap H locs → lv_has ls 5 [(0, .ref (ad 0)), (1, .ref (ad o1)), (2, .int v2), (3, .int v3), (4, .int v4)] → W p l e rm_X4_mixed s m args below meth c H locs 0 0 (MQ below (qi D tc ad A rr (cmb I M)) args s 0 0 A) (F0 m 59 ls []) := by
  intro v2 v3 v4 I h H locs ls hP hS hl
  unfold f_X4_mixed_b59 at h
  have hx := hX.1
  have hb := hX.2.1
  have hown := hX.2.2.2.1
  have hts := hX.2.2.2.2.1
  have hA := hX.2.2.2.2.2.2
  refine lv_iinc (v := (v4 + 1)) (lv' := [(4, .int (v4 + 1)), (0, .ref (ad 0)), (1, .ref (ad o1)), (2, .int v2), (3, .int v3)]) hx hb dX4_mixed_59 hl (k := 4) rfl rfl (Nat.le_of_ble_eq_true rfl) rfl (fun ls hl => ?_)
  refine lv_goto (tgt := 11) hx hb dX4_mixed_62 (by decide) ?_
  exact hK11 _ _ _ _ h _ _ _ hP hS (lv_sub hl [1, 2, 3, 4, 0] rfl)
set_option maxHeartbeats 4000000 in
set_option maxRecDepth 100000 in
theorem t_X4_mixed_b55 {p : Program} {l : Launch} {e : Env} {s : State} {m : MethodId} {args : Array Value} {below : List Frame} {meth : Method} {c : Code} {D : va_G} {tc : Tc} {ad : Nat → Nat} {A : Nat → Prop} {M : St} {o1 : Nat} {rr : Int32} (hX : cx p s m args c cX4_mixed 5 RX4 D tc ad A) (hr : meth.sig.returnType = some .int) (hlk : meth.locks = false) (ho1 : isA o1 = true) {K11 : Int32 → Int32 → Int32 → St → Option (Int32)} (hK11 : ∀ (v2 : Int32) (v3 : Int32) (v4 : Int32) (I : St), K11 v2 v3 v4 I = some rr → ∀ (H : Heap) (locs : List Loc) (ls : Array Slot), va_P D vwCl (wl tc ad (cmb I M)) H → va_S A s.heap H locs → lv_has ls 5 [(0, .ref (ad 0)), (1, .ref (ad o1)), (2, .int v2), (3, .int v3), (4, .int v4)] → W p l e rm_X4_mixed s m args below meth c H locs 0 0 (MQ below (qi D tc ad A rr (cmb I M)) args s 0 0 A) (F0 m 11 ls [])) : ∀ (v2 : Int32) (v4 : Int32) (t0 : Int32) (t1 : Int32) (I : St), f_X4_mixed_b55 o1 K11 v2 v4 t0 t1 I = some rr → ∀ (H : Heap) (locs : List Loc) (ls : Array Slot), va_P D vwCl (wl tc ad (cmb I M)) H → va_S A s.heap H locs → lv_has ls 5 [(0, .ref (ad 0)), (1, .ref (ad o1)), (2, .int v2), (4, .int v4)] → W p l e rm_X4_mixed s m args below meth c H locs 0 0 (MQ below (qi D tc ad A rr (cmb I M)) args s 0 0 A) (F0 m 55 ls [.int t1, .int t0]) := by
  intro v2 v4 t0 t1 I h H locs ls hP hS hl
  unfold f_X4_mixed_b55 at h
  have hx := hX.1
  have hb := hX.2.1
  have hown := hX.2.2.2.1
  have hts := hX.2.2.2.2.1
  have hA := hX.2.2.2.2.2.2
  obtain ⟨r2, e1, h⟩ := ob1_some h
  refine j_i (j_runN (rest := []) hX hP hl.1 Y_X7_mix (c_X7_mix hA e1) ⟨rfl, rfl⟩ nw4 ⟨Nat.le_of_ble_eq_true rfl, Nat.le_of_ble_eq_true rfl⟩ rfl rfl (Nat.le_of_ble_eq_true rfl) dX4_mixed_55) hS (fun H locs hP hS => ?_)
  refine lv_istore_n (lv' := [(3, .int r2), (0, .ref (ad 0)), (1, .ref (ad o1)), (2, .int v2), (4, .int v4)]) hx hb dX4_mixed_58 rfl hl (Nat.le_of_ble_eq_true rfl) rfl (fun ls hl => ?_)
  exact t_X4_mixed_b59 hX hr hlk ho1 hK11 _ _ _ _ h _ _ _ hP hS (lv_sub hl [1, 2, 3, 0, 4] rfl)
set_option maxHeartbeats 4000000 in
set_option maxRecDepth 100000 in
theorem t_X4_mixed_b65 {p : Program} {l : Launch} {e : Env} {s : State} {m : MethodId} {args : Array Value} {below : List Frame} {meth : Method} {c : Code} {D : va_G} {tc : Tc} {ad : Nat → Nat} {A : Nat → Prop} {M : St} {o1 : Nat} {rr : Int32} (hX : cx p s m args c cX4_mixed 5 RX4 D tc ad A) (hr : meth.sig.returnType = some .int) (hlk : meth.locks = false) (ho1 : isA o1 = true) : ∀ (v3 : Int32) (I : St), f_X4_mixed_b65 o1 v3 I = some rr → ∀ (H : Heap) (locs : List Loc) (ls : Array Slot), va_P D vwCl (wl tc ad (cmb I M)) H → va_S A s.heap H locs → lv_has ls 5 [(3, .int v3)] → W p l e rm_X4_mixed s m args below meth c H locs 0 0 (MQ below (qi D tc ad A rr (cmb I M)) args s 0 0 A) (F0 m 65 ls []) := by
  intro v3 I h H locs ls hP hS hl
  unfold f_X4_mixed_b65 at h
  have hx := hX.1
  have hb := hX.2.1
  have hown := hX.2.2.2.1
  have hts := hX.2.2.2.2.1
  have hA := hX.2.2.2.2.2.2
  refine lv_iload_n hx hb dX4_mixed_65 rfl (lv_at hl 0 rfl) ?_
  cases h
  exact j_iret hX hr hlk hP hS dX4_mixed_66
set_option maxHeartbeats 4000000 in
set_option maxRecDepth 100000 in
theorem t_X4_mixed_l11 {p : Program} {l : Launch} {e : Env} {s : State} {m : MethodId} {args : Array Value} {below : List Frame} {meth : Method} {c : Code} {D : va_G} {tc : Tc} {ad : Nat → Nat} {A : Nat → Prop} {M : St} {o1 : Nat} {rr : Int32} (hX : cx p s m args c cX4_mixed 5 RX4 D tc ad A) (hr : meth.sig.returnType = some .int) (hlk : meth.locks = false) (ho1 : isA o1 = true) : ∀ (n : Nat), ∀ (v2 : Int32) (v3 : Int32) (v4 : Int32) (I : St), f_X4_mixed_l11 o1 n v2 v3 v4 I = some rr → ∀ (H : Heap) (locs : List Loc) (ls : Array Slot), va_P D vwCl (wl tc ad (cmb I M)) H → va_S A s.heap H locs → lv_has ls 5 [(0, .ref (ad 0)), (1, .ref (ad o1)), (2, .int v2), (3, .int v3), (4, .int v4)] → W p l e rm_X4_mixed s m args below meth c H locs 0 0 (MQ below (qi D tc ad A rr (cmb I M)) args s 0 0 A) (F0 m 11 ls []) := by
  intro n
  induction n with
  | zero =>
    intro _ _ _ _ h
    cases h
  | succ n ih =>
    intro v2 v3 v4 I h H locs ls hP hS hl
    rw [f_X4_mixed_l11] at h
    have hx := hX.1
    have hb := hX.2.1
    have hown := hX.2.2.2.1
    have hts := hX.2.2.2.2.1
    have hA := hX.2.2.2.2.2.2
    refine lv_iload hx hb dX4_mixed_11 (lv_at hl 4 rfl) ?_
    refine lv_bipush (v := 8) hx hb dX4_mixed_13 kc_b8 ?_
    refine x_icmp_ge (tgt := 65) hx hb dX4_mixed_15 (by decide) h (fun c3 h => ?_) (fun c3 h => ?_)
    · exact t_X4_mixed_b65 hX hr hlk ho1  _ _ h _ _ _ hP hS (lv_sub hl [3] rfl)
    · refine lv_iload hx hb dX4_mixed_18 (lv_at hl 4 rfl) ?_
      refine lv_aload_n hx hb dX4_mixed_20 rfl (lv_at hl 1 rfl) ?_
      refine j_len (v := 8) hX hP (lt157 (isA_lt ho1)) (isA_kd ho1) (isA_ln ho1) (by decide) dX4_mixed_21 ?_
      refine x_icmp_ge (tgt := 65) hx hb dX4_mixed_22 (by decide) h (fun c4 h => ?_) (fun c4 h => ?_)
      · exact t_X4_mixed_b65 hX hr hlk ho1  _ _ h _ _ _ hP hS (lv_sub hl [3] rfl)
      · refine lv_aload_n hx hb dX4_mixed_25 rfl (lv_at hl 0 rfl) ?_
        refine r_get hX hP cok3 10 sl_0 sk_0 (by decide) rfl q164 dX4_mixed_26 ?_
        refine x_let h (fun x5 h => ?_)
        refine lv_iload hx hb dX4_mixed_29 (lv_at hl 4 rfl) ?_
        obtain ⟨r7, e6, h⟩ := ob1_some h
        refine j_i (j_runN (rest := []) hX hP hl.1 Y_X7_has (c_X7_has hA e6) ⟨rfl, rfl⟩ nw3 ⟨Nat.le_of_ble_eq_true rfl, Nat.le_of_ble_eq_true rfl⟩ rfl rfl (Nat.le_of_ble_eq_true rfl) dX4_mixed_31) hS (fun H locs hP hS => ?_)
        refine x_if_eq (tgt := 59) hx hb dX4_mixed_34 (by decide) h (fun c8 h => ?_) (fun c8 h => ?_)
        · exact t_X4_mixed_b59 hX hr hlk ho1 ih _ _ _ _ h _ _ _ hP hS (lv_sub hl [0, 1, 2, 3, 4] rfl)
        · refine lv_iload_n hx hb dX4_mixed_37 rfl (lv_at hl 3 rfl) ?_
          refine lv_iload_n hx hb dX4_mixed_38 rfl (lv_at hl 2 rfl) ?_
          refine lv_iload hx hb dX4_mixed_39 (lv_at hl 4 rfl) ?_
          obtain ⟨r10, e9, h⟩ := ob1_some h
          refine j_i (j_runN (rest := [.int v3]) hX hP hl.1 Y_X7_has (c_X7_has hA e9) ⟨rfl, rfl⟩ nw3 ⟨Nat.le_of_ble_eq_true rfl, Nat.le_of_ble_eq_true rfl⟩ rfl rfl (Nat.le_of_ble_eq_true rfl) dX4_mixed_41) hS (fun H locs hP hS => ?_)
          refine x_if_eq (tgt := 54) hx hb dX4_mixed_44 (by decide) h (fun c11 h => ?_) (fun c11 h => ?_)
          · refine lv_iconst (v := 0) hx hb dX4_mixed_54 kc_i0 ?_
            exact t_X4_mixed_b55 hX hr hlk ho1 ih _ _ _ _ _ h _ _ _ hP hS (lv_sub hl [0, 1, 2, 4] rfl)
          · refine lv_aload_n hx hb dX4_mixed_47 rfl (lv_at hl 1 rfl) ?_
            refine lv_iload hx hb dX4_mixed_48 (lv_at hl 4 rfl) ?_
            refine r_ald hX hP h (isA_lt ho1) (isA_kd ho1) (isA_ln ho1) dX4_mixed_50 (fun h => ?_)
            refine lv_goto (tgt := 55) hx hb dX4_mixed_51 (by decide) ?_
            exact t_X4_mixed_b55 hX hr hlk ho1 ih _ _ _ _ _ h _ _ _ hP hS (lv_sub hl [0, 1, 2, 4] rfl)
set_option maxHeartbeats 4000000 in
set_option maxRecDepth 100000 in
theorem c_X4_mixed {l : Launch} {D : va_G} {tc : Tc} {ad : Nat → Nat} {A : Nat → Prop} (hA : adok ad A) {I M : St} {o1 : Nat} {v2 : Int32} {rr : Int32} (h : f_X4_mixed o1 v2 I = some rr) : Met l yX4_mixed (Cond.code yX4_mixed cX4_mixed 5 (some .int) :: tw) rm_X4_mixed (pre D tc ad [.ref (ad 0), .ref (ad o1), .int v2] (cmb I M)) (qi D tc ad A rr (cmb I M)) 0 0 A := by
  unfold f_X4_mixed at h
  obtain ⟨ho1, h⟩ := ck_some h
  refine mk_met (own := RX4) (by decide +kernel) rfl hA (Nat.le_of_ble_eq_true rfl) ?_
  intro p e s m below meth c ls hX hr hlk hl hP hS
  have hl : lv_has ls 5 [(0, .ref (ad 0)), (1, .ref (ad o1)), (2, .int v2)] := hl
  have hx := hX.1
  have hb := hX.2.1
  have hown := hX.2.2.2.1
  have hts := hX.2.2.2.2.1
  refine lv_aload_n hx hb dX4_mixed_0 rfl (lv_at hl 0 rfl) ?_
  refine r_getq (t := 3) hX hP cok3 2 sl_0 sk_0 (by decide) rfl q145 dX4_mixed_1 ?_
  refine r_get hX hP cok0 1 sl_3 sk_3 (by decide) rfl q49 dX4_mixed_4 ?_
  refine x_let h (fun x12 h => ?_)
  refine lv_istore_n (lv' := [(3, .int x12), (0, .ref (ad 0)), (1, .ref (ad o1)), (2, .int v2)]) hx hb dX4_mixed_7 rfl hl (Nat.le_of_ble_eq_true rfl) rfl (fun ls hl => ?_)
  refine lv_iconst (v := 0) hx hb dX4_mixed_8 kc_i0 ?_
  refine lv_istore (lv' := [(4, .int 0), (3, .int x12), (0, .ref (ad 0)), (1, .ref (ad o1)), (2, .int v2)]) hx hb dX4_mixed_9 hl (Nat.le_of_ble_eq_true rfl) rfl (fun ls hl => ?_)
  exact t_X4_mixed_l11 hX hr hlk ho1  10000 _ _ _ _ h _ _ _ hP hS (lv_sub hl [2, 3, 4, 1, 0] rfl)
/-! OwnerlessCoin$Chronicle.addOutput(IIII)V -/
def rm_X0_addOutput : Room := { frames := 1, cells := 0, slots := 0, locals := 30 }
theorem Y_X0_addOutput : yv yX0_addOutput cX0_addOutput 7 none 4 RX0 := ⟨q551, q549, q550, q14, by decide +kernel⟩
set_option maxHeartbeats 4000000 in
set_option maxRecDepth 100000 in
theorem t_X0_addOutput_b80 {p : Program} {l : Launch} {e : Env} {s : State} {m : MethodId} {args : Array Value} {below : List Frame} {meth : Method} {c : Code} {D : va_G} {tc : Tc} {ad : Nat → Nat} {A : Nat → Prop} {M : St} {II : St} (hX : cx p s m args c cX0_addOutput 7 RX0 D tc ad A) (hr : meth.sig.returnType = none) (hlk : meth.locks = false) : ∀ (v5 : Int32) (t1 : Int32) (I : St), f_X0_addOutput_b80 v5 t1 I = some II → ∀ (H : Heap) (locs : List Loc) (ls : Array Slot), va_P D vwCl (wl tc ad (cmb I M)) H → va_S A s.heap H locs → lv_has ls 7 [(0, .ref (ad 3)), (5, .int v5)] → W p l e rm_X0_addOutput s m args below meth c H locs 0 0 (MQ below (qv D tc ad A (cmb II M)) args s 0 0 A) (F0 m 80 ls [.int t1, .ref (ad 3)]) := by
  intro v5 t1 I h H locs ls hP hS hl
  unfold f_X0_addOutput_b80 at h
  have hx := hX.1
  have hb := hX.2.1
  have hown := hX.2.2.2.1
  have hts := hX.2.2.2.2.1
  have hA := hX.2.2.2.2.2.2
  refine r_put hX hP hS cok0 5 h sl_3 sk_3 (by decide) rfl rfl q57 rfl dX0_addOutput_80 (fun I1 H locs h hP hS => ?_)
  refine lv_aload_n hx hb dX0_addOutput_83 rfl (lv_at hl 0 rfl) ?_
  refine lv_iload hx hb dX0_addOutput_84 (lv_at hl 1 rfl) ?_
  refine r_put hX hP hS cok0 6 h sl_3 sk_3 (by decide) rfl rfl q58 rfl dX0_addOutput_86 (fun I2 H locs h hP hS => ?_)
  refine lv_aload_n hx hb dX0_addOutput_89 rfl (lv_at hl 0 rfl) ?_
  refine lv_aload_n hx hb dX0_addOutput_90 rfl (lv_at hl 0 rfl) ?_
  refine r_get hX hP cok0 4 sl_3 sk_3 (by decide) rfl q55 dX0_addOutput_91 ?_
  refine x_let h (fun x3 h => ?_)
  refine lv_aload_n hx hb dX0_addOutput_94 rfl (lv_at hl 0 rfl) ?_
  refine r_get hX hP cok0 5 sl_3 sk_3 (by decide) rfl q57 dX0_addOutput_95 ?_
  refine j_mmax hX hl.1 q553 q554 q20 q555 (Nat.le_of_ble_eq_true rfl) (Nat.le_of_ble_eq_true rfl) dX0_addOutput_98 ?_
  refine r_put hX hP hS cok0 4 h sl_3 sk_3 (by decide) rfl rfl q55 rfl dX0_addOutput_101 (fun I4 H locs h hP hS => ?_)
  cases h
  exact j_vret hX hr hlk hP hS dX0_addOutput_104
set_option maxHeartbeats 4000000 in
set_option maxRecDepth 100000 in
theorem t_X0_addOutput_b60 {p : Program} {l : Launch} {e : Env} {s : State} {m : MethodId} {args : Array Value} {below : List Frame} {meth : Method} {c : Code} {D : va_G} {tc : Tc} {ad : Nat → Nat} {A : Nat → Prop} {M : St} {II : St} (hX : cx p s m args c cX0_addOutput 7 RX0 D tc ad A) (hr : meth.sig.returnType = none) (hlk : meth.locks = false) : ∀ (v5 : Int32) (I : St), f_X0_addOutput_b60 v5 I = some II → ∀ (H : Heap) (locs : List Loc) (ls : Array Slot), va_P D vwCl (wl tc ad (cmb I M)) H → va_S A s.heap H locs → lv_has ls 7 [(0, .ref (ad 3)), (5, .int v5)] → W p l e rm_X0_addOutput s m args below meth c H locs 0 0 (MQ below (qv D tc ad A (cmb II M)) args s 0 0 A) (F0 m 60 ls []) := by
  intro v5 I h H locs ls hP hS hl
  unfold f_X0_addOutput_b60 at h
  have hx := hX.1
  have hb := hX.2.1
  have hown := hX.2.2.2.1
  have hts := hX.2.2.2.2.1
  have hA := hX.2.2.2.2.2.2
  refine lv_aload_n hx hb dX0_addOutput_60 rfl (lv_at hl 0 rfl) ?_
  refine lv_aload_n hx hb dX0_addOutput_61 rfl (lv_at hl 0 rfl) ?_
  refine r_get hX hP cok0 6 sl_3 sk_3 (by decide) rfl q58 dX0_addOutput_62 ?_
  refine x_let h (fun x5 h => ?_)
  refine lv_iload hx hb dX0_addOutput_65 (lv_at hl 1 rfl) ?_
  refine x_icmp_ne (tgt := 79) hx hb dX0_addOutput_67 (by decide) h (fun c6 h => ?_) (fun c6 h => ?_)
  · refine lv_iconst (v := 1) hx hb dX0_addOutput_79 kc_i1 ?_
    exact t_X0_addOutput_b80 hX hr hlk  _ _ _ h _ _ _ hP hS (lv_sub hl [0, 1] rfl)
  · refine lv_aload_n hx hb dX0_addOutput_70 rfl (lv_at hl 0 rfl) ?_
    refine r_get hX hP cok0 5 sl_3 sk_3 (by decide) rfl q57 dX0_addOutput_71 ?_
    refine x_let h (fun x7 h => ?_)
    refine lv_iconst (v := 1) hx hb dX0_addOutput_74 kc_i1 ?_
    refine lv_iadd hx hb dX0_addOutput_75 ?_
    refine lv_goto (tgt := 80) hx hb dX0_addOutput_76 (by decide) ?_
    exact t_X0_addOutput_b80 hX hr hlk  _ _ _ h _ _ _ hP hS (lv_sub hl [0, 1] rfl)
set_option maxHeartbeats 4000000 in
set_option maxRecDepth 100000 in
theorem c_X0_addOutput {l : Launch} {D : va_G} {tc : Tc} {ad : Nat → Nat} {A : Nat → Prop} (hA : adok ad A) {I M : St} {v1 : Int32} {v2 : Int32} {v3 : Int32} {v4 : Int32} {II : St} (h : f_X0_addOutput v1 v2 v3 v4 I = some II) : Met l yX0_addOutput (Cond.code yX0_addOutput cX0_addOutput 7 none :: tw) rm_X0_addOutput (pre D tc ad [.ref (ad 3), .int v1, .int v2, .int v3, .int v4] (cmb I M)) (qv D tc ad A (cmb II M)) 0 0 A := by
  unfold f_X0_addOutput at h
  refine mk_met (own := RX0) (by decide +kernel) rfl hA (Nat.le_of_ble_eq_true rfl) ?_
  intro p e s m below meth c ls hX hr hlk hl hP hS
  have hl : lv_has ls 7 [(0, .ref (ad 3)), (1, .int v1), (2, .int v2), (3, .int v3), (4, .int v4)] := hl
  have hx := hX.1
  have hb := hX.2.1
  have hown := hX.2.2.2.1
  have hts := hX.2.2.2.2.1
  refine lv_iload_n hx hb dX0_addOutput_0 rfl (lv_at hl 1 rfl) ?_
  refine lv_iconst (v := 1) hx hb dX0_addOutput_1 kc_i1 ?_
  refine lv_iand hx hb dX0_addOutput_2 ?_
  refine x_let h (fun x8 h => ?_)
  refine lv_istore (lv' := [(5, .int x8), (0, .ref (ad 3)), (1, .int v1), (2, .int v2), (3, .int v3), (4, .int v4)]) hx hb dX0_addOutput_3 hl (Nat.le_of_ble_eq_true rfl) rfl (fun ls hl => ?_)
  refine lv_iload_n hx hb dX0_addOutput_5 rfl (lv_at hl 3 rfl) ?_
  obtain ⟨r10, e9, h⟩ := ob1_some h
  refine j_i (j_runS (rest := []) hX hP hl.1 Y_J6_bitCount_0f7a4 (c_J6_bitCount_0f7a4 hA e9) ⟨rfl, rfl⟩ q552 ⟨Nat.le_of_ble_eq_true rfl, Nat.le_of_ble_eq_true rfl⟩ rfl rfl (Nat.le_of_ble_eq_true rfl) dX0_addOutput_6) hS (fun H locs hP hS => ?_)
  refine lv_iload_n hx hb dX0_addOutput_9 rfl (lv_at hl 4 rfl) ?_
  refine lv_isub hx hb dX0_addOutput_10 ?_
  refine x_let h (fun x11 h => ?_)
  refine lv_istore (lv' := [(6, .int x11), (5, .int x8), (0, .ref (ad 3)), (1, .int v1), (2, .int v2), (3, .int v3), (4, .int v4)]) hx hb dX0_addOutput_11 hl (Nat.le_of_ble_eq_true rfl) rfl (fun ls hl => ?_)
  refine lv_aload_n hx hb dX0_addOutput_13 rfl (lv_at hl 2 rfl) ?_
  refine lv_iload hx hb dX0_addOutput_14 (lv_at hl 1 rfl) ?_
  refine lv_iload_n hx hb dX0_addOutput_16 rfl (lv_at hl 4 rfl) ?_
  refine lv_iload_n hx hb dX0_addOutput_17 rfl (lv_at hl 5 rfl) ?_
  refine lv_iload hx hb dX0_addOutput_18 (lv_at hl 0 rfl) ?_
  refine lv_iload hx hb dX0_addOutput_20 (lv_at hl 6 rfl) ?_
  refine lv_iload_n hx hb dX0_addOutput_22 rfl (lv_at hl 3 rfl) ?_
  obtain ⟨I13, e12, h⟩ := ob1_some h
  refine j_v (j_runV (rest := []) hX hP hl.1 Y_X0_put cok0 (lt157 sl_3) sk_3 (c_X0_put hA e12) ⟨rfl, rfl⟩ q543 ⟨Nat.le_of_ble_eq_true rfl, Nat.le_of_ble_eq_true rfl⟩ rfl rfl (Nat.le_of_ble_eq_true rfl) dX0_addOutput_23) hS (fun H locs hP hS => ?_)
  refine lv_aload_n hx hb dX0_addOutput_26 rfl (lv_at hl 2 rfl) ?_
  refine lv_iload_n hx hb dX0_addOutput_27 rfl (lv_at hl 3 rfl) ?_
  refine r_put hX hP hS cok0 1 h sl_3 sk_3 (by decide) rfl rfl q48 rfl dX0_addOutput_28 (fun I14 H locs h hP hS => ?_)
  refine lv_iload hx hb dX0_addOutput_31 (lv_at hl 1 rfl) ?_
  refine lv_iconst (v := 1) hx hb dX0_addOutput_33 kc_i1 ?_
  refine x_icmp_ne (tgt := 50) hx hb dX0_addOutput_34 (by decide) h (fun c15 h => ?_) (fun c15 h => ?_)
  · refine lv_aload_n hx hb dX0_addOutput_50 rfl (lv_at hl 2 rfl) ?_
    refine lv_dup hx hb dX0_addOutput_51 rfl ?_
    refine r_get hX hP cok0 2 sl_3 sk_3 (by decide) rfl q51 dX0_addOutput_52 ?_
    refine x_let h (fun x16 h => ?_)
    refine lv_iconst (v := 1) hx hb dX0_addOutput_55 kc_i1 ?_
    refine lv_iadd hx hb dX0_addOutput_56 ?_
    refine r_put hX hP hS cok0 2 h sl_3 sk_3 (by decide) rfl rfl q51 rfl dX0_addOutput_57 (fun I17 H locs h hP hS => ?_)
    exact t_X0_addOutput_b60 hX hr hlk  _ _ h _ _ _ hP hS (lv_sub hl [2, 1] rfl)
  · refine lv_aload_n hx hb dX0_addOutput_37 rfl (lv_at hl 2 rfl) ?_
    refine lv_dup hx hb dX0_addOutput_38 rfl ?_
    refine r_get hX hP cok0 3 sl_3 sk_3 (by decide) rfl q53 dX0_addOutput_39 ?_
    refine x_let h (fun x18 h => ?_)
    refine lv_iconst (v := 1) hx hb dX0_addOutput_42 kc_i1 ?_
    refine lv_iadd hx hb dX0_addOutput_43 ?_
    refine r_put hX hP hS cok0 3 h sl_3 sk_3 (by decide) rfl rfl q53 rfl dX0_addOutput_44 (fun I19 H locs h hP hS => ?_)
    refine lv_goto (tgt := 60) hx hb dX0_addOutput_47 (by decide) ?_
    exact t_X0_addOutput_b60 hX hr hlk  _ _ h _ _ _ hP hS (lv_sub hl [2, 1] rfl)
/-! OwnerlessCoin$Lab.sharePot(I)V -/
def rm_X4_sharePot : Room := { frames := 1, cells := 0, slots := 0, locals := 21 }
theorem Y_X4_sharePot : yv yX4_sharePot cX4_sharePot 4 none 1 RX4 := ⟨q559, q558, q9, q13, by decide +kernel⟩
set_option maxHeartbeats 4000000 in
set_option maxRecDepth 100000 in
theorem t_X4_sharePot_b56 {p : Program} {l : Launch} {e : Env} {s : State} {m : MethodId} {args : Array Value} {below : List Frame} {meth : Method} {c : Code} {D : va_G} {tc : Tc} {ad : Nat → Nat} {A : Nat → Prop} {M : St} {II : St} (hX : cx p s m args c cX4_sharePot 4 RX4 D tc ad A) (hr : meth.sig.returnType = none) (hlk : meth.locks = false) {K14 : Int32 → Int32 → St → Option (St)} (hK14 : ∀ (v2 : Int32) (v3 : Int32) (I : St), K14 v2 v3 I = some II → ∀ (H : Heap) (locs : List Loc) (ls : Array Slot), va_P D vwCl (wl tc ad (cmb I M)) H → va_S A s.heap H locs → lv_has ls 4 [(0, .ref (ad 0)), (2, .int v2), (3, .int v3)] → W p l e rm_X4_sharePot s m args below meth c H locs 0 0 (MQ below (qv D tc ad A (cmb II M)) args s 0 0 A) (F0 m 14 ls [])) : ∀ (v2 : Int32) (v3 : Int32) (I : St), f_X4_sharePot_b56 K14 v2 v3 I = some II → ∀ (H : Heap) (locs : List Loc) (ls : Array Slot), va_P D vwCl (wl tc ad (cmb I M)) H → va_S A s.heap H locs → lv_has ls 4 [(0, .ref (ad 0)), (2, .int v2), (3, .int v3)] → W p l e rm_X4_sharePot s m args below meth c H locs 0 0 (MQ below (qv D tc ad A (cmb II M)) args s 0 0 A) (F0 m 56 ls []) := by
  intro v2 v3 I h H locs ls hP hS hl
  unfold f_X4_sharePot_b56 at h
  have hx := hX.1
  have hb := hX.2.1
  have hown := hX.2.2.2.1
  have hts := hX.2.2.2.2.1
  have hA := hX.2.2.2.2.2.2
  refine lv_iinc (v := (v3 + 1)) (lv' := [(3, .int (v3 + 1)), (0, .ref (ad 0)), (2, .int v2)]) hx hb dX4_sharePot_56 hl (k := 2) rfl rfl (Nat.le_of_ble_eq_true rfl) rfl (fun ls hl => ?_)
  refine lv_goto (tgt := 14) hx hb dX4_sharePot_59 (by decide) ?_
  exact hK14 _ _ _ h _ _ _ hP hS (lv_sub hl [1, 2, 0] rfl)
set_option maxHeartbeats 4000000 in
set_option maxRecDepth 100000 in
theorem t_X4_sharePot_l14 {p : Program} {l : Launch} {e : Env} {s : State} {m : MethodId} {args : Array Value} {below : List Frame} {meth : Method} {c : Code} {D : va_G} {tc : Tc} {ad : Nat → Nat} {A : Nat → Prop} {M : St} {II : St} (hX : cx p s m args c cX4_sharePot 4 RX4 D tc ad A) (hr : meth.sig.returnType = none) (hlk : meth.locks = false) : ∀ (n : Nat), ∀ (v2 : Int32) (v3 : Int32) (I : St), f_X4_sharePot_l14 n v2 v3 I = some II → ∀ (H : Heap) (locs : List Loc) (ls : Array Slot), va_P D vwCl (wl tc ad (cmb I M)) H → va_S A s.heap H locs → lv_has ls 4 [(0, .ref (ad 0)), (2, .int v2), (3, .int v3)] → W p l e rm_X4_sharePot s m args below meth c H locs 0 0 (MQ below (qv D tc ad A (cmb II M)) args s 0 0 A) (F0 m 14 ls []) := by
  intro n
  induction n with
  | zero =>
    intro _ _ _ h
    cases h
  | succ n ih =>
    intro v2 v3 I h H locs ls hP hS hl
    rw [f_X4_sharePot_l14] at h
    have hx := hX.1
    have hb := hX.2.1
    have hown := hX.2.2.2.1
    have hts := hX.2.2.2.2.1
    have hA := hX.2.2.2.2.2.2
    refine lv_iload_n hx hb dX4_sharePot_14 rfl (lv_at hl 2 rfl) ?_
    refine lv_bipush (v := 8) hx hb dX4_sharePot_15 kc_b8 ?_
    refine x_icmp_ge (tgt := 62) hx hb dX4_sharePot_17 (by decide) h (fun c1 h => ?_) (fun c1 h => ?_)
    · cases h
      exact j_vret hX hr hlk hP hS dX4_sharePot_62
    · refine lv_aload_n hx hb dX4_sharePot_20 rfl (lv_at hl 0 rfl) ?_
      refine r_get hX hP cok3 12 sl_0 sk_0 (by decide) rfl q170 dX4_sharePot_21 ?_
      refine x_let h (fun x2 h => ?_)
      refine lv_iload_n hx hb dX4_sharePot_24 rfl (lv_at hl 2 rfl) ?_
      obtain ⟨r4, e3, h⟩ := ob1_some h
      refine j_i (j_runN (rest := []) hX hP hl.1 Y_X7_has (c_X7_has hA e3) ⟨rfl, rfl⟩ nw3 ⟨Nat.le_of_ble_eq_true rfl, Nat.le_of_ble_eq_true rfl⟩ rfl rfl (Nat.le_of_ble_eq_true rfl) dX4_sharePot_25) hS (fun H locs hP hS => ?_)
      refine x_if_eq (tgt := 56) hx hb dX4_sharePot_28 (by decide) h (fun c5 h => ?_) (fun c5 h => ?_)
      · exact t_X4_sharePot_b56 hX hr hlk ih _ _ _ h _ _ _ hP hS (lv_sub hl [0, 1, 2] rfl)
      · refine lv_aload_n hx hb dX4_sharePot_31 rfl (lv_at hl 0 rfl) ?_
        refine r_getq (t := 1) hX hP cok3 0 sl_0 sk_0 (by decide) rfl q138 dX4_sharePot_32 ?_
        refine lv_iload_n hx hb dX4_sharePot_35 rfl (lv_at hl 2 rfl) ?_
        refine r_ldq hX hP h (lt157 sl_1) sk_1 sn_1 dX4_sharePot_36 (fun g6 h => ?_)
        refine lv_dup hx hb dX4_sharePot_37 rfl ?_
        refine r_get hX hP cok4 0 (isP_lt (isP_of g6)) (isP_kd (isP_of g6)) (by decide) rfl q84 dX4_sharePot_38 ?_
        refine x_let h (fun x7 h => ?_)
        refine lv_iload_n hx hb dX4_sharePot_41 rfl (lv_at hl 1 rfl) ?_
        refine lv_iadd hx hb dX4_sharePot_42 ?_
        refine r_put hX hP hS cok4 0 h (isP_lt (isP_of g6)) (isP_kd (isP_of g6)) (by decide) rfl rfl q84 rfl dX4_sharePot_43 (fun I8 H locs h hP hS => ?_)
        refine lv_aload_n hx hb dX4_sharePot_46 rfl (lv_at hl 0 rfl) ?_
        refine lv_dup hx hb dX4_sharePot_47 rfl ?_
        refine r_get hX hP cok3 4 sl_0 sk_0 (by decide) rfl q149 dX4_sharePot_48 ?_
        refine x_let h (fun x9 h => ?_)
        refine lv_iload_n hx hb dX4_sharePot_51 rfl (lv_at hl 1 rfl) ?_
        refine lv_isub hx hb dX4_sharePot_52 ?_
        refine r_put hX hP hS cok3 4 h sl_0 sk_0 (by decide) rfl rfl q149 rfl dX4_sharePot_53 (fun I10 H locs h hP hS => ?_)
        exact t_X4_sharePot_b56 hX hr hlk ih _ _ _ h _ _ _ hP hS (lv_sub hl [0, 1, 2] rfl)
set_option maxHeartbeats 4000000 in
set_option maxRecDepth 100000 in
theorem c_X4_sharePot {l : Launch} {D : va_G} {tc : Tc} {ad : Nat → Nat} {A : Nat → Prop} (hA : adok ad A) {I M : St} {v1 : Int32} {II : St} (h : f_X4_sharePot v1 I = some II) : Met l yX4_sharePot (Cond.code yX4_sharePot cX4_sharePot 4 none :: tw) rm_X4_sharePot (pre D tc ad [.ref (ad 0), .int v1] (cmb I M)) (qv D tc ad A (cmb II M)) 0 0 A := by
  unfold f_X4_sharePot at h
  refine mk_met (own := RX4) (by decide +kernel) rfl hA (Nat.le_of_ble_eq_true rfl) ?_
  intro p e s m below meth c ls hX hr hlk hl hP hS
  have hl : lv_has ls 4 [(0, .ref (ad 0)), (1, .int v1)] := hl
  have hx := hX.1
  have hb := hX.2.1
  have hown := hX.2.2.2.1
  have hts := hX.2.2.2.2.1
  refine lv_iload_n hx hb dX4_sharePot_0 rfl (lv_at hl 1 rfl) ?_
  refine x_if_ne (tgt := 5) hx hb dX4_sharePot_1 (by decide) h (fun c11 h => ?_) (fun c11 h => ?_)
  · refine lv_aload_n hx hb dX4_sharePot_5 rfl (lv_at hl 0 rfl) ?_
    refine r_get hX hP cok3 4 sl_0 sk_0 (by decide) rfl q149 dX4_sharePot_6 ?_
    refine x_let h (fun x12 h => ?_)
    refine lv_iload_n hx hb dX4_sharePot_9 rfl (lv_at hl 1 rfl) ?_
    obtain ⟨g13, h⟩ := ck_some h
    refine lv_idiv hx hb dX4_sharePot_10 (nz_ne g13) ?_
    refine x_let h (fun x14 h => ?_)
    refine lv_istore_n (lv' := [(2, .int x14), (0, .ref (ad 0)), (1, .int v1)]) hx hb dX4_sharePot_11 rfl hl (Nat.le_of_ble_eq_true rfl) rfl (fun ls hl => ?_)
    refine lv_iconst (v := 0) hx hb dX4_sharePot_12 kc_i0 ?_
    refine lv_istore_n (lv' := [(3, .int 0), (2, .int x14), (0, .ref (ad 0)), (1, .int v1)]) hx hb dX4_sharePot_13 rfl hl (Nat.le_of_ble_eq_true rfl) rfl (fun ls hl => ?_)
    exact t_X4_sharePot_l14 hX hr hlk  10000 _ _ _ h _ _ _ hP hS (lv_sub hl [2, 1, 0] rfl)
  · cases h
    exact j_vret hX hr hlk hP hS dX4_sharePot_4
/-! OwnerlessCoin$Lab.finish()I -/
def rm_X4_finish : Room := { frames := 3, cells := 0, slots := 0, locals := 73 }
theorem Y_X4_finish : yv yX4_finish cX4_finish 4 (some .int) 0 RX4 := ⟨q533, q531, q532, q13, by decide +kernel⟩
set_option maxHeartbeats 4000000 in
set_option maxRecDepth 100000 in
theorem c_X4_finish {l : Launch} {D : va_G} {tc : Tc} {ad : Nat → Nat} {A : Nat → Prop} (hA : adok ad A) {I M : St}  {rr : Int32} {II : St} (h : f_X4_finish I = some (rr, II)) : Met l yX4_finish (Cond.code yX4_finish cX4_finish 4 (some .int) :: tw) rm_X4_finish (pre D tc ad [.ref (ad 0)] (cmb I M)) (qi D tc ad A rr (cmb II M)) 0 0 A := by
  unfold f_X4_finish at h
  refine mk_met (own := RX4) (by decide +kernel) rfl hA (Nat.le_of_ble_eq_true rfl) ?_
  intro p e s m below meth c ls hX hr hlk hl hP hS
  have hl : lv_has ls 4 [(0, .ref (ad 0))] := hl
  have hx := hX.1
  have hb := hX.2.1
  have hown := hX.2.2.2.1
  have hts := hX.2.2.2.2.1
  refine lv_aload_n hx hb dX4_finish_0 rfl (lv_at hl 0 rfl) ?_
  refine lv_aload_n hx hb dX4_finish_1 rfl (lv_at hl 0 rfl) ?_
  refine r_get hX hP cok3 12 sl_0 sk_0 (by decide) rfl q170 dX4_finish_2 ?_
  obtain ⟨r2, e1, h⟩ := ob1_some h
  refine j_i (j_runV (rest := []) hX hP hl.1 Y_X4_countedIf cok3 (lt157 sl_0) sk_0 (c_X4_countedIf hA e1) ⟨rfl, rfl⟩ q534 ⟨Nat.le_of_ble_eq_true rfl, Nat.le_of_ble_eq_true rfl⟩ rfl rfl (Nat.le_of_ble_eq_true rfl) dX4_finish_5) hS (fun H locs hP hS => ?_)
  refine lv_istore_n (lv' := [(1, .int r2), (0, .ref (ad 0))]) hx hb dX4_finish_8 rfl hl (Nat.le_of_ble_eq_true rfl) rfl (fun ls hl => ?_)
  refine lv_aload_n hx hb dX4_finish_9 rfl (lv_at hl 1 rfl) ?_
  obtain ⟨I4, e3, h⟩ := ob1_some h
  refine j_v (j_runV (rest := []) hX hP hl.1 Y_X4_chargeOrCredit cok3 (lt157 sl_0) sk_0 (c_X4_chargeOrCredit hA e3) ⟨rfl, rfl⟩ q535 ⟨Nat.le_of_ble_eq_true rfl, Nat.le_of_ble_eq_true rfl⟩ rfl rfl (Nat.le_of_ble_eq_true rfl) dX4_finish_10) hS (fun H locs hP hS => ?_)
  refine lv_aload_n hx hb dX4_finish_13 rfl (lv_at hl 1 rfl) ?_
  refine lv_iconst (v := 0) hx hb dX4_finish_14 kc_i0 ?_
  refine r_put hX hP hS cok3 9 h sl_0 sk_0 (by decide) rfl rfl q161 rfl dX4_finish_15 (fun I5 H locs h hP hS => ?_)
  refine lv_aload_n hx hb dX4_finish_18 rfl (lv_at hl 1 rfl) ?_
  refine r_get hX hP cok3 12 sl_0 sk_0 (by decide) rfl q170 dX4_finish_19 ?_
  obtain ⟨r7, e6, h⟩ := ob1_some h
  refine j_i (j_runS (rest := []) hX hP hl.1 Y_J6_bitCount_0f7a4 (c_J6_bitCount_0f7a4 hA e6) ⟨rfl, rfl⟩ q478 ⟨Nat.le_of_ble_eq_true rfl, Nat.le_of_ble_eq_true rfl⟩ rfl rfl (Nat.le_of_ble_eq_true rfl) dX4_finish_22) hS (fun H locs hP hS => ?_)
  refine lv_istore_n (lv' := [(2, .int r7), (1, .int r2), (0, .ref (ad 0))]) hx hb dX4_finish_25 rfl hl (Nat.le_of_ble_eq_true rfl) rfl (fun ls hl => ?_)
  refine lv_iload_n hx hb dX4_finish_26 rfl (lv_at hl 1 rfl) ?_
  refine lv_iconst (v := (-1)) hx hb dX4_finish_27 kc_im1 ?_
  refine x_icmp_ne (tgt := 50) hx hb dX4_finish_28 (by decide) h (fun c8 h => ?_) (fun c8 h => ?_)
  · refine lv_aload_n hx hb dX4_finish_50 rfl (lv_at hl 2 rfl) ?_
    refine lv_aload_n hx hb dX4_finish_51 rfl (lv_at hl 2 rfl) ?_
    refine r_getq (t := 2) hX hP cok3 1 sl_0 sk_0 (by decide) rfl q141 dX4_finish_52 ?_
    refine lv_iload_n hx hb dX4_finish_55 rfl (lv_at hl 1 rfl) ?_
    obtain ⟨r10, e9, h⟩ := ob1_some h
    refine j_i (j_runV (rest := []) hX hP hl.1 Y_X4_mixed cok3 (lt157 sl_0) sk_0 (c_X4_mixed hA e9) ⟨rfl, rfl⟩ q547 ⟨Nat.le_of_ble_eq_true rfl, Nat.le_of_ble_eq_true rfl⟩ rfl rfl (Nat.le_of_ble_eq_true rfl) dX4_finish_56) hS (fun H locs hP hS => ?_)
    refine lv_istore_n (lv' := [(3, .int r10), (2, .int r7), (1, .int r2), (0, .ref (ad 0))]) hx hb dX4_finish_59 rfl hl (Nat.le_of_ble_eq_true rfl) rfl (fun ls hl => ?_)
    refine lv_aload_n hx hb dX4_finish_60 rfl (lv_at hl 3 rfl) ?_
    refine r_getq (t := 3) hX hP cok3 2 sl_0 sk_0 (by decide) rfl q145 dX4_finish_61 ?_
    refine lv_iload_n hx hb dX4_finish_64 rfl (lv_at hl 0 rfl) ?_
    refine lv_aload_n hx hb dX4_finish_65 rfl (lv_at hl 3 rfl) ?_
    refine r_get hX hP cok3 10 sl_0 sk_0 (by decide) rfl q164 dX4_finish_66 ?_
    refine x_let h (fun x11 h => ?_)
    refine lv_iload_n hx hb dX4_finish_69 rfl (lv_at hl 1 rfl) ?_
    refine lv_aload_n hx hb dX4_finish_70 rfl (lv_at hl 3 rfl) ?_
    refine r_get hX hP cok3 5 sl_0 sk_0 (by decide) rfl q151 dX4_finish_71 ?_
    obtain ⟨I13, e12, h⟩ := ob1_some h
    refine j_v (j_runV (rest := []) hX hP hl.1 Y_X0_addOutput cok0 (lt157 sl_3) sk_3 (c_X0_addOutput hA e12) ⟨rfl, rfl⟩ q548 ⟨Nat.le_of_ble_eq_true rfl, Nat.le_of_ble_eq_true rfl⟩ rfl rfl (Nat.le_of_ble_eq_true rfl) dX4_finish_74) hS (fun H locs hP hS => ?_)
    refine lv_aload_n hx hb dX4_finish_77 rfl (lv_at hl 3 rfl) ?_
    refine lv_iload_n hx hb dX4_finish_78 rfl (lv_at hl 1 rfl) ?_
    obtain ⟨I15, e14, h⟩ := ob1_some h
    refine j_v (j_runV (rest := []) hX hP hl.1 Y_X4_sharePot cok3 (lt157 sl_0) sk_0 (c_X4_sharePot hA e14) ⟨rfl, rfl⟩ q556 ⟨Nat.le_of_ble_eq_true rfl, Nat.le_of_ble_eq_true rfl⟩ rfl rfl (Nat.le_of_ble_eq_true rfl) dX4_finish_79) hS (fun H locs hP hS => ?_)
    refine lv_iload_n hx hb dX4_finish_82 rfl (lv_at hl 0 rfl) ?_
    refine lv_iconst (v := 1) hx hb dX4_finish_83 kc_i1 ?_
    refine lv_iand hx hb dX4_finish_84 ?_
    cases h
    exact j_iret hX hr hlk hP hS dX4_finish_85
  · refine lv_aload_n hx hb dX4_finish_31 rfl (lv_at hl 2 rfl) ?_
    refine r_getq (t := 3) hX hP cok3 2 sl_0 sk_0 (by decide) rfl q145 dX4_finish_32 ?_
    refine lv_aload_n hx hb dX4_finish_35 rfl (lv_at hl 2 rfl) ?_
    refine r_get hX hP cok3 10 sl_0 sk_0 (by decide) rfl q164 dX4_finish_36 ?_
    refine x_let h (fun x16 h => ?_)
    refine lv_iload_n hx hb dX4_finish_39 rfl (lv_at hl 0 rfl) ?_
    refine lv_aload_n hx hb dX4_finish_40 rfl (lv_at hl 2 rfl) ?_
    refine r_get hX hP cok3 5 sl_0 sk_0 (by decide) rfl q151 dX4_finish_41 ?_
    obtain ⟨I18, e17, h⟩ := ob1_some h
    refine j_v (j_runV (rest := []) hX hP hl.1 Y_X0_addFailure cok0 (lt157 sl_3) sk_3 (c_X0_addFailure hA e17) ⟨rfl, rfl⟩ q539 ⟨Nat.le_of_ble_eq_true rfl, Nat.le_of_ble_eq_true rfl⟩ rfl rfl (Nat.le_of_ble_eq_true rfl) dX4_finish_44) hS (fun H locs hP hS => ?_)
    refine lv_bipush (v := (-5)) hx hb dX4_finish_47 kc_bm5 ?_
    cases h
    exact j_iret hX hr hlk hP hS dX4_finish_49
/-! OwnerlessCoin.close()I -/
def rm_X7_close : Room := { frames := 4, cells := 0, slots := 0, locals := 96 }
theorem Y_X7_close : yv yX7_close cX7_close 1 (some .int) 0 RX7 := ⟨q529, q527, q528, q12, by decide +kernel⟩
set_option maxHeartbeats 4000000 in
set_option maxRecDepth 100000 in
theorem c_X7_close {l : Launch} {D : va_G} {tc : Tc} {ad : Nat → Nat} {A : Nat → Prop} (hA : adok ad A) {I M : St}  {rr : Int32} {II : St} (h : f_X7_close I = some (rr, II)) : Met l yX7_close (Cond.code yX7_close cX7_close 1 (some .int) :: tw) rm_X7_close (pre D tc ad [.ref (ad 145)] (cmb I M)) (qi D tc ad A rr (cmb II M)) 0 0 A := by
  unfold f_X7_close at h
  refine mk_met (own := RX7) (by decide +kernel) rfl hA (Nat.le_of_ble_eq_true rfl) ?_
  intro p e s m below meth c ls hX hr hlk hl hP hS
  have hl : lv_has ls 1 [(0, .ref (ad 145))] := hl
  have hx := hX.1
  have hb := hX.2.1
  have hown := hX.2.2.2.1
  have hts := hX.2.2.2.2.1
  refine lv_aload_n hx hb dX7_close_0 rfl (lv_at hl 0 rfl) ?_
  refine r_getq (t := 0) hX hP cok5 0 sl_145 sk_145 (by decide) rfl q243 dX7_close_1 ?_
  refine r_get hX hP cok3 9 sl_0 sk_0 (by decide) rfl q162 dX7_close_4 ?_
  refine x_let h (fun x1 h => ?_)
  refine lv_iconst (v := 2) hx hb dX7_close_7 kc_i2 ?_
  refine x_icmp_eq (tgt := 14) hx hb dX7_close_8 (by decide) h (fun c2 h => ?_) (fun c2 h => ?_)
  · refine lv_aload_n hx hb dX7_close_14 rfl (lv_at hl 0 rfl) ?_
    refine r_getq (t := 146) hX hP cok5 1 sl_145 sk_145 (by decide) rfl q244 dX7_close_15 ?_
    refine lv_aload_n hx hb dX7_close_18 rfl (lv_at hl 0 rfl) ?_
    refine r_getq (t := 0) hX hP cok5 0 sl_145 sk_145 (by decide) rfl q243 dX7_close_19 ?_
    obtain ⟨I4, e3, h⟩ := ob1_some h
    refine j_v (j_runV (rest := []) hX hP hl.1 Y_X3_remember cok2 (lt157 sl_146) sk_146 (c_X3_remember hA e3) ⟨rfl, rfl⟩ q261 ⟨Nat.le_of_ble_eq_true rfl, Nat.le_of_ble_eq_true rfl⟩ rfl rfl (Nat.le_of_ble_eq_true rfl) dX7_close_22) hS (fun H locs hP hS => ?_)
    refine lv_aload_n hx hb dX7_close_25 rfl (lv_at hl 0 rfl) ?_
    refine r_getq (t := 0) hX hP cok5 0 sl_145 sk_145 (by decide) rfl q243 dX7_close_26 ?_
    obtain ⟨r7, I6, e5, h⟩ := ob2_some h
    refine j_i (j_runV (rest := []) hX hP hl.1 Y_X4_finish cok3 (lt157 sl_0) sk_0 (c_X4_finish hA e5) ⟨rfl, rfl⟩ q530 ⟨Nat.le_of_ble_eq_true rfl, Nat.le_of_ble_eq_true rfl⟩ rfl rfl (Nat.le_of_ble_eq_true rfl) dX7_close_29) hS (fun H locs hP hS => ?_)
    cases h
    exact j_iret hX hr hlk hP hS dX7_close_32
  · refine lv_bipush (v := (-2)) hx hb dX7_close_11 kc_bm2 ?_
    cases h
    exact j_iret hX hr hlk hP hS dX7_close_13
/-! OwnerlessCoin$Game.commitAll(LOwnerlessCoin$Lab;I)V -/
def rm_X2_commitAll : Room := { frames := 4, cells := 0, slots := 0, locals := 96 }
theorem Y_X2_commitAll : ys yX2_commitAll cX2_commitAll 6 none 2 := ⟨q595, q594, q22, by decide +kernel⟩
set_option maxHeartbeats 4000000 in
set_option maxRecDepth 100000 in
theorem t_X2_commitAll_b71 {p : Program} {l : Launch} {e : Env} {s : State} {m : MethodId} {args : Array Value} {below : List Frame} {meth : Method} {c : Code} {D : va_G} {tc : Tc} {ad : Nat → Nat} {A : Nat → Prop} {M : St} {II : St} (hX : cx p s m args c cX2_commitAll 6 RX2 D tc ad A) (hr : meth.sig.returnType = none) (hlk : meth.locks = false) {K4 : Int32 → Int32 → St → Option (St)} (hK4 : ∀ (v2 : Int32) (v3 : Int32) (I : St), K4 v2 v3 I = some II → ∀ (H : Heap) (locs : List Loc) (ls : Array Slot), va_P D vwCl (wl tc ad (cmb I M)) H → va_S A s.heap H locs → lv_has ls 6 [(0, .ref (ad 0)), (2, .int v2), (3, .int v3)] → W p l e rm_X2_commitAll s m args below meth c H locs 0 0 (MQ below (qv D tc ad A (cmb II M)) args s 0 0 A) (F0 m 4 ls [])) : ∀ (v2 : Int32) (v3 : Int32) (I : St), f_X2_commitAll_b71 K4 v2 v3 I = some II → ∀ (H : Heap) (locs : List Loc) (ls : Array Slot), va_P D vwCl (wl tc ad (cmb I M)) H → va_S A s.heap H locs → lv_has ls 6 [(0, .ref (ad 0)), (2, .int v2), (3, .int v3)] → W p l e rm_X2_commitAll s m args below meth c H locs 0 0 (MQ below (qv D tc ad A (cmb II M)) args s 0 0 A) (F0 m 71 ls []) := by
  intro v2 v3 I h H locs ls hP hS hl
  unfold f_X2_commitAll_b71 at h
  have hx := hX.1
  have hb := hX.2.1
  have hown := hX.2.2.2.1
  have hts := hX.2.2.2.2.1
  have hA := hX.2.2.2.2.2.2
  refine lv_iinc (v := (v3 + 1)) (lv' := [(3, .int (v3 + 1)), (0, .ref (ad 0)), (2, .int v2)]) hx hb dX2_commitAll_71 hl (k := 2) rfl rfl (Nat.le_of_ble_eq_true rfl) rfl (fun ls hl => ?_)
  refine lv_goto (tgt := 4) hx hb dX2_commitAll_74 (by decide) ?_
  exact hK4 _ _ _ h _ _ _ hP hS (lv_sub hl [1, 2, 0] rfl)
set_option maxHeartbeats 4000000 in
set_option maxRecDepth 100000 in
theorem t_X2_commitAll_l4 {p : Program} {l : Launch} {e : Env} {s : State} {m : MethodId} {args : Array Value} {below : List Frame} {meth : Method} {c : Code} {D : va_G} {tc : Tc} {ad : Nat → Nat} {A : Nat → Prop} {M : St} {II : St} (hX : cx p s m args c cX2_commitAll 6 RX2 D tc ad A) (hr : meth.sig.returnType = none) (hlk : meth.locks = false) : ∀ (n : Nat), ∀ (v2 : Int32) (v3 : Int32) (I : St), f_X2_commitAll_l4 n v2 v3 I = some II → ∀ (H : Heap) (locs : List Loc) (ls : Array Slot), va_P D vwCl (wl tc ad (cmb I M)) H → va_S A s.heap H locs → lv_has ls 6 [(0, .ref (ad 0)), (2, .int v2), (3, .int v3)] → W p l e rm_X2_commitAll s m args below meth c H locs 0 0 (MQ below (qv D tc ad A (cmb II M)) args s 0 0 A) (F0 m 4 ls []) := by
  intro n
  induction n with
  | zero =>
    intro _ _ _ h
    cases h
  | succ n ih =>
    intro v2 v3 I h H locs ls hP hS hl
    rw [f_X2_commitAll_l4] at h
    have hx := hX.1
    have hb := hX.2.1
    have hown := hX.2.2.2.1
    have hts := hX.2.2.2.2.1
    have hA := hX.2.2.2.2.2.2
    refine lv_iload_n hx hb dX2_commitAll_4 rfl (lv_at hl 2 rfl) ?_
    refine lv_bipush (v := 8) hx hb dX2_commitAll_5 kc_b8 ?_
    refine x_icmp_ge (tgt := 77) hx hb dX2_commitAll_7 (by decide) h (fun c1 h => ?_) (fun c1 h => ?_)
    · cases h
      exact j_vret hX hr hlk hP hS dX2_commitAll_77
    · refine lv_aload_n hx hb dX2_commitAll_10 rfl (lv_at hl 0 rfl) ?_
      refine r_get hX hP cok3 10 sl_0 sk_0 (by decide) rfl q165 dX2_commitAll_11 ?_
      refine x_let h (fun x2 h => ?_)
      refine lv_iload_n hx hb dX2_commitAll_14 rfl (lv_at hl 2 rfl) ?_
      obtain ⟨r4, e3, h⟩ := ob1_some h
      refine j_i (j_runN (rest := []) hX hP hl.1 Y_X7_has (c_X7_has hA e3) ⟨rfl, rfl⟩ nw11 ⟨Nat.le_of_ble_eq_true rfl, Nat.le_of_ble_eq_true rfl⟩ rfl rfl (Nat.le_of_ble_eq_true rfl) dX2_commitAll_15) hS (fun H locs hP hS => ?_)
      refine x_if_eq (tgt := 71) hx hb dX2_commitAll_18 (by decide) h (fun c5 h => ?_) (fun c5 h => ?_)
      · exact t_X2_commitAll_b71 hX hr hlk ih _ _ _ h _ _ _ hP hS (lv_sub hl [0, 1, 2] rfl)
      · refine lv_iload_n hx hb dX2_commitAll_21 rfl (lv_at hl 1 rfl) ?_
        obtain ⟨r7, e6, h⟩ := ob1_some h
        refine j_i (j_runN (rest := []) hX hP hl.1 Y_X7_stepped (c_X7_stepped hA e6) ⟨rfl, rfl⟩ nw12 ⟨Nat.le_of_ble_eq_true rfl, Nat.le_of_ble_eq_true rfl⟩ rfl rfl (Nat.le_of_ble_eq_true rfl) dX2_commitAll_22) hS (fun H locs hP hS => ?_)
        refine lv_istore_n (lv' := [(2, .int r7), (0, .ref (ad 0)), (3, .int v3)]) hx hb dX2_commitAll_25 rfl hl (Nat.le_of_ble_eq_true rfl) rfl (fun ls hl => ?_)
        refine lv_iload_n hx hb dX2_commitAll_26 rfl (lv_at hl 0 rfl) ?_
        obtain ⟨r9, e8, h⟩ := ob1_some h
        refine j_i (j_runN (rest := []) hX hP hl.1 Y_X7_drawn (c_X7_drawn hA e8) ⟨rfl, rfl⟩ nw13 ⟨Nat.le_of_ble_eq_true rfl, Nat.le_of_ble_eq_true rfl⟩ rfl rfl (Nat.le_of_ble_eq_true rfl) dX2_commitAll_27) hS (fun H locs hP hS => ?_)
        refine lv_sipush (v := 1019) hx hb dX2_commitAll_30 kc_s1019 ?_
        refine lv_irem hx hb dX2_commitAll_33 (by decide) ?_
        refine x_let h (fun x10 h => ?_)
        refine lv_istore (lv' := [(4, .int x10), (2, .int r7), (0, .ref (ad 0)), (3, .int v3)]) hx hb dX2_commitAll_34 hl (Nat.le_of_ble_eq_true rfl) rfl (fun ls hl => ?_)
        refine lv_iload_n hx hb dX2_commitAll_36 rfl (lv_at hl 1 rfl) ?_
        obtain ⟨r12, e11, h⟩ := ob1_some h
        refine j_i (j_runN (rest := []) hX hP hl.1 Y_X7_stepped (c_X7_stepped hA e11) ⟨rfl, rfl⟩ nw12 ⟨Nat.le_of_ble_eq_true rfl, Nat.le_of_ble_eq_true rfl⟩ rfl rfl (Nat.le_of_ble_eq_true rfl) dX2_commitAll_37) hS (fun H locs hP hS => ?_)
        refine lv_istore_n (lv' := [(2, .int r12), (4, .int x10), (0, .ref (ad 0)), (3, .int v3)]) hx hb dX2_commitAll_40 rfl hl (Nat.le_of_ble_eq_true rfl) rfl (fun ls hl => ?_)
        refine lv_iload_n hx hb dX2_commitAll_41 rfl (lv_at hl 0 rfl) ?_
        obtain ⟨r14, e13, h⟩ := ob1_some h
        refine j_i (j_runN (rest := []) hX hP hl.1 Y_X7_drawn (c_X7_drawn hA e13) ⟨rfl, rfl⟩ nw13 ⟨Nat.le_of_ble_eq_true rfl, Nat.le_of_ble_eq_true rfl⟩ rfl rfl (Nat.le_of_ble_eq_true rfl) dX2_commitAll_42) hS (fun H locs hP hS => ?_)
        refine lv_istore (lv' := [(5, .int r14), (2, .int r12), (4, .int x10), (0, .ref (ad 0)), (3, .int v3)]) hx hb dX2_commitAll_45 hl (Nat.le_of_ble_eq_true rfl) rfl (fun ls hl => ?_)
        refine lv_aload_n hx hb dX2_commitAll_47 rfl (lv_at hl 3 rfl) ?_
        refine lv_aload_n hx hb dX2_commitAll_48 rfl (lv_at hl 3 rfl) ?_
        refine lv_iload hx hb dX2_commitAll_49 (lv_at hl 2 rfl) ?_
        refine lv_iload hx hb dX2_commitAll_51 (lv_at hl 0 rfl) ?_
        obtain ⟨r16, e15, h⟩ := ob1_some h
        refine j_i (j_runV (rest := [.ref (ad 0)]) hX hP hl.1 Y_X4_digestOf cok3 (lt157 sl_0) sk_0 (c_X4_digestOf hA e15) ⟨rfl, rfl⟩ q599 ⟨Nat.le_of_ble_eq_true rfl, Nat.le_of_ble_eq_true rfl⟩ rfl rfl (Nat.le_of_ble_eq_true rfl) dX2_commitAll_53) hS (fun H locs hP hS => ?_)
        obtain ⟨r18, e17, h⟩ := ob1_some h
        refine j_i (j_runV (rest := []) hX hP hl.1 Y_X4_isTaken cok3 (lt157 sl_0) sk_0 (c_X4_isTaken hA e17) ⟨rfl, rfl⟩ q600 ⟨Nat.le_of_ble_eq_true rfl, Nat.le_of_ble_eq_true rfl⟩ rfl rfl (Nat.le_of_ble_eq_true rfl) dX2_commitAll_56) hS (fun H locs hP hS => ?_)
        refine x_if_ne (tgt := 71) hx hb dX2_commitAll_59 (by decide) h (fun c19 h => ?_) (fun c19 h => ?_)
        · exact t_X2_commitAll_b71 hX hr hlk ih _ _ _ h _ _ _ hP hS (lv_sub hl [3, 1, 4] rfl)
        · refine lv_aload_n hx hb dX2_commitAll_62 rfl (lv_at hl 3 rfl) ?_
          refine lv_iload_n hx hb dX2_commitAll_63 rfl (lv_at hl 4 rfl) ?_
          refine lv_iload hx hb dX2_commitAll_64 (lv_at hl 2 rfl) ?_
          refine lv_iload hx hb dX2_commitAll_66 (lv_at hl 0 rfl) ?_
          obtain ⟨I21, e20, h⟩ := ob1_some h
          refine j_v (j_runV (rest := []) hX hP hl.1 Y_X4_accept cok3 (lt157 sl_0) sk_0 (c_X4_accept hA e20) ⟨rfl, rfl⟩ q601 ⟨Nat.le_of_ble_eq_true rfl, Nat.le_of_ble_eq_true rfl⟩ rfl rfl (Nat.le_of_ble_eq_true rfl) dX2_commitAll_68) hS (fun H locs hP hS => ?_)
          exact t_X2_commitAll_b71 hX hr hlk ih _ _ _ h _ _ _ hP hS (lv_sub hl [3, 1, 4] rfl)
set_option maxHeartbeats 4000000 in
set_option maxRecDepth 100000 in
theorem c_X2_commitAll {l : Launch} {D : va_G} {tc : Tc} {ad : Nat → Nat} {A : Nat → Prop} (hA : adok ad A) {I M : St} {v1 : Int32} {II : St} (h : f_X2_commitAll v1 I = some II) : Met l yX2_commitAll (Cond.code yX2_commitAll cX2_commitAll 6 none :: tw) rm_X2_commitAll (pre D tc ad [.ref (ad 0), .int v1] (cmb I M)) (qv D tc ad A (cmb II M)) 0 0 A := by
  unfold f_X2_commitAll at h
  refine mk_met (own := RX2) (by decide +kernel) rfl hA (Nat.le_of_ble_eq_true rfl) ?_
  intro p e s m below meth c ls hX hr hlk hl hP hS
  have hl : lv_has ls 6 [(0, .ref (ad 0)), (1, .int v1)] := hl
  have hx := hX.1
  have hb := hX.2.1
  have hown := hX.2.2.2.1
  have hts := hX.2.2.2.2.1
  refine lv_iload_n hx hb dX2_commitAll_0 rfl (lv_at hl 1 rfl) ?_
  refine lv_istore_n (lv' := [(2, .int v1), (0, .ref (ad 0)), (1, .int v1)]) hx hb dX2_commitAll_1 rfl hl (Nat.le_of_ble_eq_true rfl) rfl (fun ls hl => ?_)
  refine lv_iconst (v := 0) hx hb dX2_commitAll_2 kc_i0 ?_
  refine lv_istore_n (lv' := [(3, .int 0), (2, .int v1), (0, .ref (ad 0)), (1, .int v1)]) hx hb dX2_commitAll_3 rfl hl (Nat.le_of_ble_eq_true rfl) rfl (fun ls hl => ?_)
  exact t_X2_commitAll_l4 hX hr hlk  10000 _ _ _ h _ _ _ hP hS (lv_sub hl [2, 1, 0] rfl)
/-! OwnerlessCoin$Game.memberAfter(LOwnerlessCoin$Lab;I)I -/
def rm_X2_memberAfter : Room := { frames := 1, cells := 0, slots := 0, locals := 21 }
theorem Y_X2_memberAfter : ys yX2_memberAfter cX2_memberAfter 4 (some .int) 2 := ⟨q607, q606, q22, by decide +kernel⟩
set_option maxHeartbeats 4000000 in
set_option maxRecDepth 100000 in
theorem t_X2_memberAfter_l2 {p : Program} {l : Launch} {e : Env} {s : State} {m : MethodId} {args : Array Value} {below : List Frame} {meth : Method} {c : Code} {D : va_G} {tc : Tc} {ad : Nat → Nat} {A : Nat → Prop} {M : St} {rr : Int32} (hX : cx p s m args c cX2_memberAfter 4 RX2 D tc ad A) (hr : meth.sig.returnType = some .int) (hlk : meth.locks = false) : ∀ (n : Nat), ∀ (v1 : Int32) (v2 : Int32) (I : St), f_X2_memberAfter_l2 n v1 v2 I = some rr → ∀ (H : Heap) (locs : List Loc) (ls : Array Slot), va_P D vwCl (wl tc ad (cmb I M)) H → va_S A s.heap H locs → lv_has ls 4 [(0, .ref (ad 0)), (1, .int v1), (2, .int v2)] → W p l e rm_X2_memberAfter s m args below meth c H locs 0 0 (MQ below (qi D tc ad A rr (cmb I M)) args s 0 0 A) (F0 m 2 ls []) := by
  intro n
  induction n with
  | zero =>
    intro _ _ _ h
    cases h
  | succ n ih =>
    intro v1 v2 I h H locs ls hP hS hl
    rw [f_X2_memberAfter_l2] at h
    have hx := hX.1
    have hb := hX.2.1
    have hown := hX.2.2.2.1
    have hts := hX.2.2.2.2.1
    have hA := hX.2.2.2.2.2.2
    refine lv_iload_n hx hb dX2_memberAfter_2 rfl (lv_at hl 2 rfl) ?_
    refine lv_bipush (v := 8) hx hb dX2_memberAfter_3 kc_b8 ?_
    refine x_icmp_ge (tgt := 34) hx hb dX2_memberAfter_5 (by decide) h (fun c1 h => ?_) (fun c1 h => ?_)
    · refine lv_iload_n hx hb dX2_memberAfter_34 rfl (lv_at hl 1 rfl) ?_
      cases h
      exact j_iret hX hr hlk hP hS dX2_memberAfter_35
    · refine lv_iload_n hx hb dX2_memberAfter_8 rfl (lv_at hl 1 rfl) ?_
      refine lv_iload_n hx hb dX2_memberAfter_9 rfl (lv_at hl 2 rfl) ?_
      refine lv_iadd hx hb dX2_memberAfter_10 ?_
      refine x_let h (fun x2 h => ?_)
      refine lv_bipush (v := 8) hx hb dX2_memberAfter_11 kc_b8 ?_
      refine lv_irem hx hb dX2_memberAfter_13 (by decide) ?_
      refine x_let h (fun x3 h => ?_)
      refine lv_istore_n (lv' := [(3, .int x3), (0, .ref (ad 0)), (1, .int v1), (2, .int v2)]) hx hb dX2_memberAfter_14 rfl hl (Nat.le_of_ble_eq_true rfl) rfl (fun ls hl => ?_)
      refine lv_aload_n hx hb dX2_memberAfter_15 rfl (lv_at hl 1 rfl) ?_
      refine r_get hX hP cok3 10 sl_0 sk_0 (by decide) rfl q165 dX2_memberAfter_16 ?_
      refine x_let h (fun x4 h => ?_)
      refine lv_iload_n hx hb dX2_memberAfter_19 rfl (lv_at hl 0 rfl) ?_
      obtain ⟨r6, e5, h⟩ := ob1_some h
      refine j_i (j_runN (rest := []) hX hP hl.1 Y_X7_has (c_X7_has hA e5) ⟨rfl, rfl⟩ nw11 ⟨Nat.le_of_ble_eq_true rfl, Nat.le_of_ble_eq_true rfl⟩ rfl rfl (Nat.le_of_ble_eq_true rfl) dX2_memberAfter_20) hS (fun H locs hP hS => ?_)
      refine x_if_eq (tgt := 28) hx hb dX2_memberAfter_23 (by decide) h (fun c7 h => ?_) (fun c7 h => ?_)
      · refine lv_iinc (v := (v2 + 1)) (lv' := [(2, .int (v2 + 1)), (3, .int x3), (0, .ref (ad 0)), (1, .int v1)]) hx hb dX2_memberAfter_28 hl (k := 3) rfl rfl (Nat.le_of_ble_eq_true rfl) rfl (fun ls hl => ?_)
        refine lv_goto (tgt := 2) hx hb dX2_memberAfter_31 (by decide) ?_
        exact ih _ _ _ h _ _ _ hP hS (lv_sub hl [2, 3, 0] rfl)
      · refine lv_iload_n hx hb dX2_memberAfter_26 rfl (lv_at hl 0 rfl) ?_
        cases h
        exact j_iret hX hr hlk hP hS dX2_memberAfter_27
set_option maxHeartbeats 4000000 in
set_option maxRecDepth 100000 in
theorem c_X2_memberAfter {l : Launch} {D : va_G} {tc : Tc} {ad : Nat → Nat} {A : Nat → Prop} (hA : adok ad A) {I M : St} {v1 : Int32} {rr : Int32} (h : f_X2_memberAfter v1 I = some rr) : Met l yX2_memberAfter (Cond.code yX2_memberAfter cX2_memberAfter 4 (some .int) :: tw) rm_X2_memberAfter (pre D tc ad [.ref (ad 0), .int v1] (cmb I M)) (qi D tc ad A rr (cmb I M)) 0 0 A := by
  unfold f_X2_memberAfter at h
  refine mk_met (own := RX2) (by decide +kernel) rfl hA (Nat.le_of_ble_eq_true rfl) ?_
  intro p e s m below meth c ls hX hr hlk hl hP hS
  have hl : lv_has ls 4 [(0, .ref (ad 0)), (1, .int v1)] := hl
  have hx := hX.1
  have hb := hX.2.1
  have hown := hX.2.2.2.1
  have hts := hX.2.2.2.2.1
  refine lv_iconst (v := 1) hx hb dX2_memberAfter_0 kc_i1 ?_
  refine lv_istore_n (lv' := [(2, .int 1), (0, .ref (ad 0)), (1, .int v1)]) hx hb dX2_memberAfter_1 rfl hl (Nat.le_of_ble_eq_true rfl) rfl (fun ls hl => ?_)
  exact t_X2_memberAfter_l2 hX hr hlk  10000 _ _ _ h _ _ _ hP hS (lv_sub hl [1, 2, 0] rfl)
/-! OwnerlessCoin$Game.cheat(LOwnerlessCoin$Lab;)V -/
def rm_X2_cheat : Room := { frames := 4, cells := 0, slots := 0, locals := 93 }
theorem Y_X2_cheat : ys yX2_cheat cX2_cheat 2 none 1 := ⟨q604, q603, q22, by decide +kernel⟩
set_option maxHeartbeats 4000000 in
set_option maxRecDepth 100000 in
theorem t_X2_cheat_b51 {p : Program} {l : Launch} {e : Env} {s : State} {m : MethodId} {args : Array Value} {below : List Frame} {meth : Method} {c : Code} {D : va_G} {tc : Tc} {ad : Nat → Nat} {A : Nat → Prop} {M : St} {II : St} (hX : cx p s m args c cX2_cheat 2 RX2 D tc ad A) (hr : meth.sig.returnType = none) (hlk : meth.locks = false) {K2 : Int32 → St → Option (St)} (hK2 : ∀ (v1 : Int32) (I : St), K2 v1 I = some II → ∀ (H : Heap) (locs : List Loc) (ls : Array Slot), va_P D vwCl (wl tc ad (cmb I M)) H → va_S A s.heap H locs → lv_has ls 2 [(0, .ref (ad 0)), (1, .int v1)] → W p l e rm_X2_cheat s m args below meth c H locs 0 0 (MQ below (qv D tc ad A (cmb II M)) args s 0 0 A) (F0 m 2 ls [])) : ∀ (v1 : Int32) (I : St), f_X2_cheat_b51 K2 v1 I = some II → ∀ (H : Heap) (locs : List Loc) (ls : Array Slot), va_P D vwCl (wl tc ad (cmb I M)) H → va_S A s.heap H locs → lv_has ls 2 [(0, .ref (ad 0)), (1, .int v1)] → W p l e rm_X2_cheat s m args below meth c H locs 0 0 (MQ below (qv D tc ad A (cmb II M)) args s 0 0 A) (F0 m 51 ls []) := by
  intro v1 I h H locs ls hP hS hl
  unfold f_X2_cheat_b51 at h
  have hx := hX.1
  have hb := hX.2.1
  have hown := hX.2.2.2.1
  have hts := hX.2.2.2.2.1
  have hA := hX.2.2.2.2.2.2
  refine lv_iinc (v := (v1 + 1)) (lv' := [(1, .int (v1 + 1)), (0, .ref (ad 0))]) hx hb dX2_cheat_51 hl (k := 1) rfl rfl (Nat.le_of_ble_eq_true rfl) rfl (fun ls hl => ?_)
  refine lv_goto (tgt := 2) hx hb dX2_cheat_54 (by decide) ?_
  exact hK2 _ _ h _ _ _ hP hS (lv_sub hl [1, 0] rfl)
set_option maxHeartbeats 4000000 in
set_option maxRecDepth 100000 in
theorem t_X2_cheat_l2 {p : Program} {l : Launch} {e : Env} {s : State} {m : MethodId} {args : Array Value} {below : List Frame} {meth : Method} {c : Code} {D : va_G} {tc : Tc} {ad : Nat → Nat} {A : Nat → Prop} {M : St} {II : St} (hX : cx p s m args c cX2_cheat 2 RX2 D tc ad A) (hr : meth.sig.returnType = none) (hlk : meth.locks = false) : ∀ (n : Nat), ∀ (v1 : Int32) (I : St), f_X2_cheat_l2 n v1 I = some II → ∀ (H : Heap) (locs : List Loc) (ls : Array Slot), va_P D vwCl (wl tc ad (cmb I M)) H → va_S A s.heap H locs → lv_has ls 2 [(0, .ref (ad 0)), (1, .int v1)] → W p l e rm_X2_cheat s m args below meth c H locs 0 0 (MQ below (qv D tc ad A (cmb II M)) args s 0 0 A) (F0 m 2 ls []) := by
  intro n
  induction n with
  | zero =>
    intro _ _ h
    cases h
  | succ n ih =>
    intro v1 I h H locs ls hP hS hl
    rw [f_X2_cheat_l2] at h
    have hx := hX.1
    have hb := hX.2.1
    have hown := hX.2.2.2.1
    have hts := hX.2.2.2.2.1
    have hA := hX.2.2.2.2.2.2
    refine lv_iload_n hx hb dX2_cheat_2 rfl (lv_at hl 1 rfl) ?_
    refine lv_bipush (v := 8) hx hb dX2_cheat_3 kc_b8 ?_
    refine x_icmp_ge (tgt := 57) hx hb dX2_cheat_5 (by decide) h (fun c1 h => ?_) (fun c1 h => ?_)
    · cases h
      exact j_vret hX hr hlk hP hS dX2_cheat_57
    · refine lv_aload_n hx hb dX2_cheat_8 rfl (lv_at hl 0 rfl) ?_
      refine r_get hX hP cok3 11 sl_0 sk_0 (by decide) rfl q168 dX2_cheat_9 ?_
      refine x_let h (fun x2 h => ?_)
      refine lv_iload_n hx hb dX2_cheat_12 rfl (lv_at hl 1 rfl) ?_
      obtain ⟨r4, e3, h⟩ := ob1_some h
      refine j_i (j_runN (rest := []) hX hP hl.1 Y_X7_has (c_X7_has hA e3) ⟨rfl, rfl⟩ nw11 ⟨Nat.le_of_ble_eq_true rfl, Nat.le_of_ble_eq_true rfl⟩ rfl rfl (Nat.le_of_ble_eq_true rfl) dX2_cheat_13) hS (fun H locs hP hS => ?_)
      refine x_if_eq (tgt := 51) hx hb dX2_cheat_16 (by decide) h (fun c5 h => ?_) (fun c5 h => ?_)
      · exact t_X2_cheat_b51 hX hr hlk ih _ _ h _ _ _ hP hS (lv_sub hl [0, 1] rfl)
      · refine lv_aload_n hx hb dX2_cheat_19 rfl (lv_at hl 0 rfl) ?_
        refine r_getq (t := 1) hX hP cok3 0 sl_0 sk_0 (by decide) rfl q140 dX2_cheat_20 ?_
        refine lv_iload_n hx hb dX2_cheat_23 rfl (lv_at hl 1 rfl) ?_
        refine r_ldq hX hP h (lt157 sl_1) sk_1 sn_1 dX2_cheat_24 (fun g6 h => ?_)
        refine r_get hX hP cok4 1 (isP_lt (isP_of g6)) (isP_kd (isP_of g6)) (by decide) rfl q88 dX2_cheat_25 ?_
        refine x_let h (fun x7 h => ?_)
        refine lv_iconst (v := 3) hx hb dX2_cheat_28 kc_i3 ?_
        refine x_icmp_ne (tgt := 51) hx hb dX2_cheat_29 (by decide) h (fun c8 h => ?_) (fun c8 h => ?_)
        · exact t_X2_cheat_b51 hX hr hlk ih _ _ h _ _ _ hP hS (lv_sub hl [0, 1] rfl)
        · refine lv_aload_n hx hb dX2_cheat_32 rfl (lv_at hl 0 rfl) ?_
          refine r_getq (t := 1) hX hP cok3 0 sl_0 sk_0 (by decide) rfl q140 dX2_cheat_33 ?_
          refine lv_iload_n hx hb dX2_cheat_36 rfl (lv_at hl 1 rfl) ?_
          refine r_ldq hX hP h (lt157 sl_1) sk_1 sn_1 dX2_cheat_37 (fun g9 h => ?_)
          refine lv_aload_n hx hb dX2_cheat_38 rfl (lv_at hl 0 rfl) ?_
          refine lv_iload_n hx hb dX2_cheat_39 rfl (lv_at hl 1 rfl) ?_
          obtain ⟨r11, e10, h⟩ := ob1_some h
          refine j_i (j_runS (rest := [.ref (ad (5 + v1.toNatClampNeg))]) hX hP hl.1 Y_X2_memberAfter (c_X2_memberAfter hA e10) ⟨rfl, rfl⟩ q605 ⟨Nat.le_of_ble_eq_true rfl, Nat.le_of_ble_eq_true rfl⟩ rfl rfl (Nat.le_of_ble_eq_true rfl) dX2_cheat_40) hS (fun H locs hP hS => ?_)
          refine lv_iconst (v := 1) hx hb dX2_cheat_43 kc_i1 ?_
          refine lv_aload_n hx hb dX2_cheat_44 rfl (lv_at hl 0 rfl) ?_
          refine r_get hX hP cok3 6 sl_0 sk_0 (by decide) rfl q155 dX2_cheat_45 ?_
          obtain ⟨I13, e12, h⟩ := ob1_some h
          refine j_v (j_runV (rest := []) hX hP hl.1 Y_X5_changeShare cok4 (lt157 (isP_lt (isP_of g9))) (isP_kd (isP_of g9)) (c_X5_changeShare hA e12) ⟨rfl, rfl⟩ q608 ⟨Nat.le_of_ble_eq_true rfl, Nat.le_of_ble_eq_true rfl⟩ rfl rfl (Nat.le_of_ble_eq_true rfl) dX2_cheat_48) hS (fun H locs hP hS => ?_)
          exact t_X2_cheat_b51 hX hr hlk ih _ _ h _ _ _ hP hS (lv_sub hl [0, 1] rfl)
set_option maxHeartbeats 4000000 in
set_option maxRecDepth 100000 in
theorem c_X2_cheat {l : Launch} {D : va_G} {tc : Tc} {ad : Nat → Nat} {A : Nat → Prop} (hA : adok ad A) {I M : St}  {II : St} (h : f_X2_cheat I = some II) : Met l yX2_cheat (Cond.code yX2_cheat cX2_cheat 2 none :: tw) rm_X2_cheat (pre D tc ad [.ref (ad 0)] (cmb I M)) (qv D tc ad A (cmb II M)) 0 0 A := by
  unfold f_X2_cheat at h
  refine mk_met (own := RX2) (by decide +kernel) rfl hA (Nat.le_of_ble_eq_true rfl) ?_
  intro p e s m below meth c ls hX hr hlk hl hP hS
  have hl : lv_has ls 2 [(0, .ref (ad 0))] := hl
  have hx := hX.1
  have hb := hX.2.1
  have hown := hX.2.2.2.1
  have hts := hX.2.2.2.2.1
  refine lv_iconst (v := 0) hx hb dX2_cheat_0 kc_i0 ?_
  refine lv_istore_n (lv' := [(1, .int 0), (0, .ref (ad 0))]) hx hb dX2_cheat_1 rfl hl (Nat.le_of_ble_eq_true rfl) rfl (fun ls hl => ?_)
  exact t_X2_cheat_l2 hX hr hlk  10000 _ _ h _ _ _ hP hS (lv_sub hl [1, 0] rfl)
/-! OwnerlessCoin$Game.complainAll(LOwnerlessCoin$Lab;)V -/
def rm_X2_complainAll : Room := { frames := 3, cells := 0, slots := 0, locals := 73 }
theorem Y_X2_complainAll : ys yX2_complainAll cX2_complainAll 3 none 1 := ⟨q611, q610, q22, by decide +kernel⟩
set_option maxHeartbeats 4000000 in
set_option maxRecDepth 100000 in
theorem t_X2_complainAll_b64 {p : Program} {l : Launch} {e : Env} {s : State} {m : MethodId} {args : Array Value} {below : List Frame} {meth : Method} {c : Code} {D : va_G} {tc : Tc} {ad : Nat → Nat} {A : Nat → Prop} {M : St} {II : St} (hX : cx p s m args c cX2_complainAll 3 RX2 D tc ad A) (hr : meth.sig.returnType = none) (hlk : meth.locks = false) {K2 : Int32 → St → Option (St)} (hK2 : ∀ (v1 : Int32) (I : St), K2 v1 I = some II → ∀ (H : Heap) (locs : List Loc) (ls : Array Slot), va_P D vwCl (wl tc ad (cmb I M)) H → va_S A s.heap H locs → lv_has ls 3 [(0, .ref (ad 0)), (1, .int v1)] → W p l e rm_X2_complainAll s m args below meth c H locs 0 0 (MQ below (qv D tc ad A (cmb II M)) args s 0 0 A) (F0 m 2 ls [])) {K10 : Int32 → Int32 → St → Option (St)} (hK10 : ∀ (v1 : Int32) (v2 : Int32) (I : St), K10 v1 v2 I = some II → ∀ (H : Heap) (locs : List Loc) (ls : Array Slot), va_P D vwCl (wl tc ad (cmb I M)) H → va_S A s.heap H locs → lv_has ls 3 [(0, .ref (ad 0)), (1, .int v1), (2, .int v2)] → W p l e rm_X2_complainAll s m args below meth c H locs 0 0 (MQ below (qv D tc ad A (cmb II M)) args s 0 0 A) (F0 m 10 ls [])) : ∀ (v1 : Int32) (v2 : Int32) (I : St), f_X2_complainAll_b64 K2 K10 v1 v2 I = some II → ∀ (H : Heap) (locs : List Loc) (ls : Array Slot), va_P D vwCl (wl tc ad (cmb I M)) H → va_S A s.heap H locs → lv_has ls 3 [(0, .ref (ad 0)), (1, .int v1), (2, .int v2)] → W p l e rm_X2_complainAll s m args below meth c H locs 0 0 (MQ below (qv D tc ad A (cmb II M)) args s 0 0 A) (F0 m 64 ls []) := by
  intro v1 v2 I h H locs ls hP hS hl
  unfold f_X2_complainAll_b64 at h
  have hx := hX.1
  have hb := hX.2.1
  have hown := hX.2.2.2.1
  have hts := hX.2.2.2.2.1
  have hA := hX.2.2.2.2.2.2
  refine lv_iinc (v := (v2 + 1)) (lv' := [(2, .int (v2 + 1)), (0, .ref (ad 0)), (1, .int v1)]) hx hb dX2_complainAll_64 hl (k := 2) rfl rfl (Nat.le_of_ble_eq_true rfl) rfl (fun ls hl => ?_)
  refine lv_goto (tgt := 10) hx hb dX2_complainAll_67 (by decide) ?_
  exact hK10 _ _ _ h _ _ _ hP hS (lv_sub hl [1, 2, 0] rfl)
set_option maxHeartbeats 4000000 in
set_option maxRecDepth 100000 in
theorem t_X2_complainAll_l10 {p : Program} {l : Launch} {e : Env} {s : State} {m : MethodId} {args : Array Value} {below : List Frame} {meth : Method} {c : Code} {D : va_G} {tc : Tc} {ad : Nat → Nat} {A : Nat → Prop} {M : St} {II : St} (hX : cx p s m args c cX2_complainAll 3 RX2 D tc ad A) (hr : meth.sig.returnType = none) (hlk : meth.locks = false) {K2 : Int32 → St → Option (St)} (hK2 : ∀ (v1 : Int32) (I : St), K2 v1 I = some II → ∀ (H : Heap) (locs : List Loc) (ls : Array Slot), va_P D vwCl (wl tc ad (cmb I M)) H → va_S A s.heap H locs → lv_has ls 3 [(0, .ref (ad 0)), (1, .int v1)] → W p l e rm_X2_complainAll s m args below meth c H locs 0 0 (MQ below (qv D tc ad A (cmb II M)) args s 0 0 A) (F0 m 2 ls [])) : ∀ (n : Nat), ∀ (v1 : Int32) (v2 : Int32) (I : St), f_X2_complainAll_l10 K2 n v1 v2 I = some II → ∀ (H : Heap) (locs : List Loc) (ls : Array Slot), va_P D vwCl (wl tc ad (cmb I M)) H → va_S A s.heap H locs → lv_has ls 3 [(0, .ref (ad 0)), (1, .int v1), (2, .int v2)] → W p l e rm_X2_complainAll s m args below meth c H locs 0 0 (MQ below (qv D tc ad A (cmb II M)) args s 0 0 A) (F0 m 10 ls []) := by
  intro n
  induction n with
  | zero =>
    intro _ _ _ h
    cases h
  | succ n ih =>
    intro v1 v2 I h H locs ls hP hS hl
    rw [f_X2_complainAll_l10] at h
    have hx := hX.1
    have hb := hX.2.1
    have hown := hX.2.2.2.1
    have hts := hX.2.2.2.2.1
    have hA := hX.2.2.2.2.2.2
    refine lv_iload_n hx hb dX2_complainAll_10 rfl (lv_at hl 2 rfl) ?_
    refine lv_bipush (v := 8) hx hb dX2_complainAll_11 kc_b8 ?_
    refine x_icmp_ge (tgt := 70) hx hb dX2_complainAll_13 (by decide) h (fun c1 h => ?_) (fun c1 h => ?_)
    · refine lv_iinc (v := (v1 + 1)) (lv' := [(1, .int (v1 + 1)), (0, .ref (ad 0)), (2, .int v2)]) hx hb dX2_complainAll_70 hl (k := 1) rfl rfl (Nat.le_of_ble_eq_true rfl) rfl (fun ls hl => ?_)
      refine lv_goto (tgt := 2) hx hb dX2_complainAll_73 (by decide) ?_
      exact hK2 _ _ h _ _ _ hP hS (lv_sub hl [1, 0] rfl)
    · refine lv_iload_n hx hb dX2_complainAll_16 rfl (lv_at hl 1 rfl) ?_
      refine lv_iload_n hx hb dX2_complainAll_17 rfl (lv_at hl 2 rfl) ?_
      refine x_icmp_eq (tgt := 64) hx hb dX2_complainAll_18 (by decide) h (fun c2 h => ?_) (fun c2 h => ?_)
      · exact t_X2_complainAll_b64 hX hr hlk hK2 ih _ _ _ h _ _ _ hP hS (lv_sub hl [0, 1, 2] rfl)
      · refine lv_aload_n hx hb dX2_complainAll_21 rfl (lv_at hl 0 rfl) ?_
        refine r_get hX hP cok3 10 sl_0 sk_0 (by decide) rfl q165 dX2_complainAll_22 ?_
        refine x_let h (fun x3 h => ?_)
        refine lv_iload_n hx hb dX2_complainAll_25 rfl (lv_at hl 1 rfl) ?_
        obtain ⟨r5, e4, h⟩ := ob1_some h
        refine j_i (j_runN (rest := []) hX hP hl.1 Y_X7_has (c_X7_has hA e4) ⟨rfl, rfl⟩ nw11 ⟨Nat.le_of_ble_eq_true rfl, Nat.le_of_ble_eq_true rfl⟩ rfl rfl (Nat.le_of_ble_eq_true rfl) dX2_complainAll_26) hS (fun H locs hP hS => ?_)
        refine x_if_eq (tgt := 64) hx hb dX2_complainAll_29 (by decide) h (fun c6 h => ?_) (fun c6 h => ?_)
        · exact t_X2_complainAll_b64 hX hr hlk hK2 ih _ _ _ h _ _ _ hP hS (lv_sub hl [0, 1, 2] rfl)
        · refine lv_aload_n hx hb dX2_complainAll_32 rfl (lv_at hl 0 rfl) ?_
          refine r_get hX hP cok3 11 sl_0 sk_0 (by decide) rfl q168 dX2_complainAll_33 ?_
          refine x_let h (fun x7 h => ?_)
          refine lv_iload_n hx hb dX2_complainAll_36 rfl (lv_at hl 2 rfl) ?_
          obtain ⟨r9, e8, h⟩ := ob1_some h
          refine j_i (j_runN (rest := []) hX hP hl.1 Y_X7_has (c_X7_has hA e8) ⟨rfl, rfl⟩ nw11 ⟨Nat.le_of_ble_eq_true rfl, Nat.le_of_ble_eq_true rfl⟩ rfl rfl (Nat.le_of_ble_eq_true rfl) dX2_complainAll_37) hS (fun H locs hP hS => ?_)
          refine x_if_eq (tgt := 64) hx hb dX2_complainAll_40 (by decide) h (fun c10 h => ?_) (fun c10 h => ?_)
          · exact t_X2_complainAll_b64 hX hr hlk hK2 ih _ _ _ h _ _ _ hP hS (lv_sub hl [0, 1, 2] rfl)
          · refine lv_aload_n hx hb dX2_complainAll_43 rfl (lv_at hl 0 rfl) ?_
            refine r_getq (t := 1) hX hP cok3 0 sl_0 sk_0 (by decide) rfl q140 dX2_complainAll_44 ?_
            refine lv_iload_n hx hb dX2_complainAll_47 rfl (lv_at hl 2 rfl) ?_
            refine r_ldq hX hP h (lt157 sl_1) sk_1 sn_1 dX2_complainAll_48 (fun g11 h => ?_)
            refine r_get hX hP cok4 9 (isP_lt (isP_of g11)) (isP_kd (isP_of g11)) (by decide) rfl q107 dX2_complainAll_49 ?_
            refine x_let h (fun x12 h => ?_)
            refine lv_iload_n hx hb dX2_complainAll_52 rfl (lv_at hl 1 rfl) ?_
            obtain ⟨r14, e13, h⟩ := ob1_some h
            refine j_i (j_runN (rest := []) hX hP hl.1 Y_X7_has (c_X7_has hA e13) ⟨rfl, rfl⟩ nw11 ⟨Nat.le_of_ble_eq_true rfl, Nat.le_of_ble_eq_true rfl⟩ rfl rfl (Nat.le_of_ble_eq_true rfl) dX2_complainAll_53) hS (fun H locs hP hS => ?_)
            refine x_if_ne (tgt := 64) hx hb dX2_complainAll_56 (by decide) h (fun c15 h => ?_) (fun c15 h => ?_)
            · exact t_X2_complainAll_b64 hX hr hlk hK2 ih _ _ _ h _ _ _ hP hS (lv_sub hl [0, 1, 2] rfl)
            · refine lv_aload_n hx hb dX2_complainAll_59 rfl (lv_at hl 0 rfl) ?_
              refine lv_iload_n hx hb dX2_complainAll_60 rfl (lv_at hl 2 rfl) ?_
              obtain ⟨I17, e16, h⟩ := ob1_some h
              refine j_v (j_runV (rest := []) hX hP hl.1 Y_X4_expel cok3 (lt157 sl_0) sk_0 (c_X4_expel hA e16) ⟨rfl, rfl⟩ q612 ⟨Nat.le_of_ble_eq_true rfl, Nat.le_of_ble_eq_true rfl⟩ rfl rfl (Nat.le_of_ble_eq_true rfl) dX2_complainAll_61) hS (fun H locs hP hS => ?_)
              exact t_X2_complainAll_b64 hX hr hlk hK2 ih _ _ _ h _ _ _ hP hS (lv_sub hl [0, 1, 2] rfl)
set_option maxHeartbeats 4000000 in
set_option maxRecDepth 100000 in
theorem t_X2_complainAll_l2 {p : Program} {l : Launch} {e : Env} {s : State} {m : MethodId} {args : Array Value} {below : List Frame} {meth : Method} {c : Code} {D : va_G} {tc : Tc} {ad : Nat → Nat} {A : Nat → Prop} {M : St} {II : St} (hX : cx p s m args c cX2_complainAll 3 RX2 D tc ad A) (hr : meth.sig.returnType = none) (hlk : meth.locks = false) : ∀ (n : Nat), ∀ (v1 : Int32) (I : St), f_X2_complainAll_l2 n v1 I = some II → ∀ (H : Heap) (locs : List Loc) (ls : Array Slot), va_P D vwCl (wl tc ad (cmb I M)) H → va_S A s.heap H locs → lv_has ls 3 [(0, .ref (ad 0)), (1, .int v1)] → W p l e rm_X2_complainAll s m args below meth c H locs 0 0 (MQ below (qv D tc ad A (cmb II M)) args s 0 0 A) (F0 m 2 ls []) := by
  intro n
  induction n with
  | zero =>
    intro _ _ h
    cases h
  | succ n ih =>
    intro v1 I h H locs ls hP hS hl
    rw [f_X2_complainAll_l2] at h
    have hx := hX.1
    have hb := hX.2.1
    have hown := hX.2.2.2.1
    have hts := hX.2.2.2.2.1
    have hA := hX.2.2.2.2.2.2
    refine lv_iload_n hx hb dX2_complainAll_2 rfl (lv_at hl 1 rfl) ?_
    refine lv_bipush (v := 8) hx hb dX2_complainAll_3 kc_b8 ?_
    refine x_icmp_ge (tgt := 76) hx hb dX2_complainAll_5 (by decide) h (fun c18 h => ?_) (fun c18 h => ?_)
    · cases h
      exact j_vret hX hr hlk hP hS dX2_complainAll_76
    · refine lv_iconst (v := 0) hx hb dX2_complainAll_8 kc_i0 ?_
      refine lv_istore_n (lv' := [(2, .int 0), (0, .ref (ad 0)), (1, .int v1)]) hx hb dX2_complainAll_9 rfl hl (Nat.le_of_ble_eq_true rfl) rfl (fun ls hl => ?_)
      exact t_X2_complainAll_l10 hX hr hlk ih 10000 _ _ _ h _ _ _ hP hS (lv_sub hl [1, 2, 0] rfl)
set_option maxHeartbeats 4000000 in
set_option maxRecDepth 100000 in
theorem c_X2_complainAll {l : Launch} {D : va_G} {tc : Tc} {ad : Nat → Nat} {A : Nat → Prop} (hA : adok ad A) {I M : St}  {II : St} (h : f_X2_complainAll I = some II) : Met l yX2_complainAll (Cond.code yX2_complainAll cX2_complainAll 3 none :: tw) rm_X2_complainAll (pre D tc ad [.ref (ad 0)] (cmb I M)) (qv D tc ad A (cmb II M)) 0 0 A := by
  unfold f_X2_complainAll at h
  refine mk_met (own := RX2) (by decide +kernel) rfl hA (Nat.le_of_ble_eq_true rfl) ?_
  intro p e s m below meth c ls hX hr hlk hl hP hS
  have hl : lv_has ls 3 [(0, .ref (ad 0))] := hl
  have hx := hX.1
  have hb := hX.2.1
  have hown := hX.2.2.2.1
  have hts := hX.2.2.2.2.1
  refine lv_iconst (v := 0) hx hb dX2_complainAll_0 kc_i0 ?_
  refine lv_istore_n (lv' := [(1, .int 0), (0, .ref (ad 0))]) hx hb dX2_complainAll_1 rfl hl (Nat.le_of_ble_eq_true rfl) rfl (fun ls hl => ?_)
  exact t_X2_complainAll_l2 hX hr hlk  10000 _ _ h _ _ _ hP hS (lv_sub hl [1, 0] rfl)
/-! OwnerlessCoin$Game.openHonest(LOwnerlessCoin$Lab;)V -/
def rm_X2_openHonest : Room := { frames := 1, cells := 0, slots := 0, locals := 21 }
theorem Y_X2_openHonest : ys yX2_openHonest cX2_openHonest 3 none 1 := ⟨q616, q615, q22, by decide +kernel⟩
set_option maxHeartbeats 4000000 in
set_option maxRecDepth 100000 in
theorem t_X2_openHonest_b50 {p : Program} {l : Launch} {e : Env} {s : State} {m : MethodId} {args : Array Value} {below : List Frame} {meth : Method} {c : Code} {D : va_G} {tc : Tc} {ad : Nat → Nat} {A : Nat → Prop} {M : St} {II : St} (hX : cx p s m args c cX2_openHonest 3 RX2 D tc ad A) (hr : meth.sig.returnType = none) (hlk : meth.locks = false) {K2 : Int32 → St → Option (St)} (hK2 : ∀ (v1 : Int32) (I : St), K2 v1 I = some II → ∀ (H : Heap) (locs : List Loc) (ls : Array Slot), va_P D vwCl (wl tc ad (cmb I M)) H → va_S A s.heap H locs → lv_has ls 3 [(0, .ref (ad 0)), (1, .int v1)] → W p l e rm_X2_openHonest s m args below meth c H locs 0 0 (MQ below (qv D tc ad A (cmb II M)) args s 0 0 A) (F0 m 2 ls [])) : ∀ (v1 : Int32) (I : St), f_X2_openHonest_b50 K2 v1 I = some II → ∀ (H : Heap) (locs : List Loc) (ls : Array Slot), va_P D vwCl (wl tc ad (cmb I M)) H → va_S A s.heap H locs → lv_has ls 3 [(0, .ref (ad 0)), (1, .int v1)] → W p l e rm_X2_openHonest s m args below meth c H locs 0 0 (MQ below (qv D tc ad A (cmb II M)) args s 0 0 A) (F0 m 50 ls []) := by
  intro v1 I h H locs ls hP hS hl
  unfold f_X2_openHonest_b50 at h
  have hx := hX.1
  have hb := hX.2.1
  have hown := hX.2.2.2.1
  have hts := hX.2.2.2.2.1
  have hA := hX.2.2.2.2.2.2
  refine lv_iinc (v := (v1 + 1)) (lv' := [(1, .int (v1 + 1)), (0, .ref (ad 0))]) hx hb dX2_openHonest_50 hl (k := 1) rfl rfl (Nat.le_of_ble_eq_true rfl) rfl (fun ls hl => ?_)
  refine lv_goto (tgt := 2) hx hb dX2_openHonest_53 (by decide) ?_
  exact hK2 _ _ h _ _ _ hP hS (lv_sub hl [1, 0] rfl)
set_option maxHeartbeats 4000000 in
set_option maxRecDepth 100000 in
theorem t_X2_openHonest_b38 {p : Program} {l : Launch} {e : Env} {s : State} {m : MethodId} {args : Array Value} {below : List Frame} {meth : Method} {c : Code} {D : va_G} {tc : Tc} {ad : Nat → Nat} {A : Nat → Prop} {M : St} {II : St} (hX : cx p s m args c cX2_openHonest 3 RX2 D tc ad A) (hr : meth.sig.returnType = none) (hlk : meth.locks = false) {K2 : Int32 → St → Option (St)} (hK2 : ∀ (v1 : Int32) (I : St), K2 v1 I = some II → ∀ (H : Heap) (locs : List Loc) (ls : Array Slot), va_P D vwCl (wl tc ad (cmb I M)) H → va_S A s.heap H locs → lv_has ls 3 [(0, .ref (ad 0)), (1, .int v1)] → W p l e rm_X2_openHonest s m args below meth c H locs 0 0 (MQ below (qv D tc ad A (cmb II M)) args s 0 0 A) (F0 m 2 ls [])) : ∀ (v1 : Int32) (I : St), f_X2_openHonest_b38 K2 v1 I = some II → ∀ (H : Heap) (locs : List Loc) (ls : Array Slot), va_P D vwCl (wl tc ad (cmb I M)) H → va_S A s.heap H locs → lv_has ls 3 [(0, .ref (ad 0)), (1, .int v1)] → W p l e rm_X2_openHonest s m args below meth c H locs 0 0 (MQ below (qv D tc ad A (cmb II M)) args s 0 0 A) (F0 m 38 ls []) := by
  intro v1 I h H locs ls hP hS hl
  unfold f_X2_openHonest_b38 at h
  have hx := hX.1
  have hb := hX.2.1
  have hown := hX.2.2.2.1
  have hts := hX.2.2.2.2.1
  have hA := hX.2.2.2.2.2.2
  refine lv_aload_n hx hb dX2_openHonest_38 rfl (lv_at hl 0 rfl) ?_
  refine lv_dup hx hb dX2_openHonest_39 rfl ?_
  refine r_get hX hP cok3 12 sl_0 sk_0 (by decide) rfl q171 dX2_openHonest_40 ?_
  refine x_let h (fun x1 h => ?_)
  refine lv_iconst (v := 1) hx hb dX2_openHonest_43 kc_i1 ?_
  refine lv_iload_n hx hb dX2_openHonest_44 rfl (lv_at hl 1 rfl) ?_
  refine lv_ishl hx hb dX2_openHonest_45 ?_
  refine lv_ior hx hb dX2_openHonest_46 ?_
  refine r_put hX hP hS cok3 12 h sl_0 sk_0 (by decide) rfl rfl q171 rfl dX2_openHonest_47 (fun I2 H locs h hP hS => ?_)
  exact t_X2_openHonest_b50 hX hr hlk hK2 _ _ h _ _ _ hP hS (lv_sub hl [0, 1] rfl)
set_option maxHeartbeats 4000000 in
set_option maxRecDepth 100000 in
theorem t_X2_openHonest_l2 {p : Program} {l : Launch} {e : Env} {s : State} {m : MethodId} {args : Array Value} {below : List Frame} {meth : Method} {c : Code} {D : va_G} {tc : Tc} {ad : Nat → Nat} {A : Nat → Prop} {M : St} {II : St} (hX : cx p s m args c cX2_openHonest 3 RX2 D tc ad A) (hr : meth.sig.returnType = none) (hlk : meth.locks = false) : ∀ (n : Nat), ∀ (v1 : Int32) (I : St), f_X2_openHonest_l2 n v1 I = some II → ∀ (H : Heap) (locs : List Loc) (ls : Array Slot), va_P D vwCl (wl tc ad (cmb I M)) H → va_S A s.heap H locs → lv_has ls 3 [(0, .ref (ad 0)), (1, .int v1)] → W p l e rm_X2_openHonest s m args below meth c H locs 0 0 (MQ below (qv D tc ad A (cmb II M)) args s 0 0 A) (F0 m 2 ls []) := by
  intro n
  induction n with
  | zero =>
    intro _ _ h
    cases h
  | succ n ih =>
    intro v1 I h H locs ls hP hS hl
    rw [f_X2_openHonest_l2] at h
    have hx := hX.1
    have hb := hX.2.1
    have hown := hX.2.2.2.1
    have hts := hX.2.2.2.2.1
    have hA := hX.2.2.2.2.2.2
    refine lv_iload_n hx hb dX2_openHonest_2 rfl (lv_at hl 1 rfl) ?_
    refine lv_bipush (v := 8) hx hb dX2_openHonest_3 kc_b8 ?_
    refine x_icmp_ge (tgt := 56) hx hb dX2_openHonest_5 (by decide) h (fun c3 h => ?_) (fun c3 h => ?_)
    · cases h
      exact j_vret hX hr hlk hP hS dX2_openHonest_56
    · refine lv_aload_n hx hb dX2_openHonest_8 rfl (lv_at hl 0 rfl) ?_
      refine r_getq (t := 1) hX hP cok3 0 sl_0 sk_0 (by decide) rfl q140 dX2_openHonest_9 ?_
      refine lv_iload_n hx hb dX2_openHonest_12 rfl (lv_at hl 1 rfl) ?_
      refine r_ldq hX hP h (lt157 sl_1) sk_1 sn_1 dX2_openHonest_13 (fun g4 h => ?_)
      refine r_get hX hP cok4 1 (isP_lt (isP_of g4)) (isP_kd (isP_of g4)) (by decide) rfl q88 dX2_openHonest_14 ?_
      refine x_let h (fun x5 h => ?_)
      refine lv_istore_n (lv' := [(2, .int x5), (0, .ref (ad 0)), (1, .int v1)]) hx hb dX2_openHonest_17 rfl hl (Nat.le_of_ble_eq_true rfl) rfl (fun ls hl => ?_)
      refine lv_aload_n hx hb dX2_openHonest_18 rfl (lv_at hl 1 rfl) ?_
      refine r_get hX hP cok3 10 sl_0 sk_0 (by decide) rfl q165 dX2_openHonest_19 ?_
      refine x_let h (fun x6 h => ?_)
      refine lv_iload_n hx hb dX2_openHonest_22 rfl (lv_at hl 2 rfl) ?_
      obtain ⟨r8, e7, h⟩ := ob1_some h
      refine j_i (j_runN (rest := []) hX hP hl.1 Y_X7_has (c_X7_has hA e7) ⟨rfl, rfl⟩ nw11 ⟨Nat.le_of_ble_eq_true rfl, Nat.le_of_ble_eq_true rfl⟩ rfl rfl (Nat.le_of_ble_eq_true rfl) dX2_openHonest_23) hS (fun H locs hP hS => ?_)
      refine x_if_eq (tgt := 50) hx hb dX2_openHonest_26 (by decide) h (fun c9 h => ?_) (fun c9 h => ?_)
      · exact t_X2_openHonest_b50 hX hr hlk ih _ _ h _ _ _ hP hS (lv_sub hl [1, 2] rfl)
      · refine lv_iload_n hx hb dX2_openHonest_29 rfl (lv_at hl 0 rfl) ?_
        refine x_if_eq (tgt := 38) hx hb dX2_openHonest_30 (by decide) h (fun c10 h => ?_) (fun c10 h => ?_)
        · exact t_X2_openHonest_b38 hX hr hlk ih _ _ h _ _ _ hP hS (lv_sub hl [1, 2] rfl)
        · refine lv_iload_n hx hb dX2_openHonest_33 rfl (lv_at hl 0 rfl) ?_
          refine lv_iconst (v := 3) hx hb dX2_openHonest_34 kc_i3 ?_
          refine x_icmp_ne (tgt := 50) hx hb dX2_openHonest_35 (by decide) h (fun c11 h => ?_) (fun c11 h => ?_)
          · exact t_X2_openHonest_b50 hX hr hlk ih _ _ h _ _ _ hP hS (lv_sub hl [1, 2] rfl)
          · exact t_X2_openHonest_b38 hX hr hlk ih _ _ h _ _ _ hP hS (lv_sub hl [1, 2] rfl)
set_option maxHeartbeats 4000000 in
set_option maxRecDepth 100000 in
theorem c_X2_openHonest {l : Launch} {D : va_G} {tc : Tc} {ad : Nat → Nat} {A : Nat → Prop} (hA : adok ad A) {I M : St}  {II : St} (h : f_X2_openHonest I = some II) : Met l yX2_openHonest (Cond.code yX2_openHonest cX2_openHonest 3 none :: tw) rm_X2_openHonest (pre D tc ad [.ref (ad 0)] (cmb I M)) (qv D tc ad A (cmb II M)) 0 0 A := by
  unfold f_X2_openHonest at h
  refine mk_met (own := RX2) (by decide +kernel) rfl hA (Nat.le_of_ble_eq_true rfl) ?_
  intro p e s m below meth c ls hX hr hlk hl hP hS
  have hl : lv_has ls 3 [(0, .ref (ad 0))] := hl
  have hx := hX.1
  have hb := hX.2.1
  have hown := hX.2.2.2.1
  have hts := hX.2.2.2.2.1
  refine lv_iconst (v := 0) hx hb dX2_openHonest_0 kc_i0 ?_
  refine lv_istore_n (lv' := [(1, .int 0), (0, .ref (ad 0))]) hx hb dX2_openHonest_1 rfl hl (Nat.le_of_ble_eq_true rfl) rfl (fun ls hl => ?_)
  exact t_X2_openHonest_l2 hX hr hlk  10000 _ _ h _ _ _ hP hS (lv_sub hl [1, 0] rfl)
