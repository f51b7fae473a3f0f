/-! OwnerlessCoin.isWithin(III)Z -/
def rm_X7_isWithin : Room := { frames := 0, cells := 0, slots := 0, locals := 0 }
theorem Y_X7_isWithin : ys yX7_isWithin cX7_isWithin 3 (some .boolean) 3 := ⟨q260, q259, q12, by decide +kernel⟩
set_option maxHeartbeats 4000000 in
set_option maxRecDepth 100000 in
theorem t_X7_isWithin_b15 {p : Program} {l : Launch} {e : Env} {s : State} {m : MethodId} {args : Array Value} {below : List Frame} {meth : Method} {c : Code} {D : va_G} {tc : Tc} {ad : Nat → Nat} {A : Nat → Prop} {J : St} {rr : Int32} (hX : cx p s m args c cX7_isWithin 3 RX7 D tc ad A) (hr : meth.sig.returnType = some .boolean) (hlk : meth.locks = false) : ∀ (t0 : Int32), f_X7_isWithin_b15 t0 = some rr → ∀ (H : Heap) (locs : List Loc) (ls : Array Slot), va_P D vwCl (wl tc ad J) H → va_S A s.heap H locs → lv_has ls 3 [] → W p l e rm_X7_isWithin s m args below meth c H locs 0 0 (MQ below (qi D tc ad A rr J) args s 0 0 A) (F0 m 15 ls [.int t0]) := by
  intro t0 h H locs ls hP hS hl
  unfold f_X7_isWithin_b15 at h
  have hx := hX.1
  have hb := hX.2.1
  have hown := hX.2.2.2.1
  have hts := hX.2.2.2.2.1
  have hA := hX.2.2.2.2.2.2
  obtain ⟨gz, h⟩ := ck_some h
  cases h
  exact j_zret hX hr hlk hP hS (isB_or gz) dX7_isWithin_15
set_option maxHeartbeats 4000000 in
set_option maxRecDepth 100000 in
theorem t_X7_isWithin_b14 {p : Program} {l : Launch} {e : Env} {s : State} {m : MethodId} {args : Array Value} {below : List Frame} {meth : Method} {c : Code} {D : va_G} {tc : Tc} {ad : Nat → Nat} {A : Nat → Prop} {J : St} {rr : Int32} (hX : cx p s m args c cX7_isWithin 3 RX7 D tc ad A) (hr : meth.sig.returnType = some .boolean) (hlk : meth.locks = false) : f_X7_isWithin_b14 = some rr → ∀ (H : Heap) (locs : List Loc) (ls : Array Slot), va_P D vwCl (wl tc ad J) H → va_S A s.heap H locs → lv_has ls 3 [] → W p l e rm_X7_isWithin s m args below meth c H locs 0 0 (MQ below (qi D tc ad A rr J) args s 0 0 A) (F0 m 14 ls []) := by
  intro  h H locs ls hP hS hl
  unfold f_X7_isWithin_b14 at h
  have hx := hX.1
  have hb := hX.2.1
  have hown := hX.2.2.2.1
  have hts := hX.2.2.2.2.1
  have hA := hX.2.2.2.2.2.2
  refine lv_iconst (v := 0) hx hb dX7_isWithin_14 kc_i0 ?_
  exact t_X7_isWithin_b15 hX hr hlk  _ h _ _ _ hP hS (lv_sub hl [] rfl)
set_option maxHeartbeats 4000000 in
set_option maxRecDepth 100000 in
theorem c_X7_isWithin {l : Launch} {D : va_G} {tc : Tc} {ad : Nat → Nat} {A : Nat → Prop} (hA : adok ad A) {J : St} {v0 : Int32} {v1 : Int32} {v2 : Int32} {rr : Int32} (h : f_X7_isWithin v0 v1 v2 = some rr) : Met l yX7_isWithin (Cond.code yX7_isWithin cX7_isWithin 3 (some .boolean) :: tw) rm_X7_isWithin (pre D tc ad [.int v0, .int v1, .int v2] J) (qi D tc ad A rr J) 0 0 A := by
  unfold f_X7_isWithin at h
  refine mk_met (own := RX7) (by decide +kernel) rfl hA (Nat.le_of_ble_eq_true rfl) ?_
  intro p e s m below meth c ls hX hr hlk hl hP hS
  have hl : lv_has ls 3 [(0, .int v0), (1, .int v1), (2, .int v2)] := hl
  have hx := hX.1
  have hb := hX.2.1
  have hown := hX.2.2.2.1
  have hts := hX.2.2.2.2.1
  refine lv_iload_n hx hb dX7_isWithin_0 rfl (lv_at hl 0 rfl) ?_
  refine lv_iload_n hx hb dX7_isWithin_1 rfl (lv_at hl 1 rfl) ?_
  refine x_icmp_lt (tgt := 14) hx hb dX7_isWithin_2 (by decide) h (fun c1 h => ?_) (fun c1 h => ?_)
  · exact t_X7_isWithin_b14 hX hr hlk   h _ _ _ hP hS (lv_sub hl [] rfl)
  · refine lv_iload_n hx hb dX7_isWithin_5 rfl (lv_at hl 0 rfl) ?_
    refine lv_iload_n hx hb dX7_isWithin_6 rfl (lv_at hl 2 rfl) ?_
    refine x_icmp_gt (tgt := 14) hx hb dX7_isWithin_7 (by decide) h (fun c2 h => ?_) (fun c2 h => ?_)
    · exact t_X7_isWithin_b14 hX hr hlk   h _ _ _ hP hS (lv_sub hl [] rfl)
    · refine lv_iconst (v := 1) hx hb dX7_isWithin_10 kc_i1 ?_
      refine lv_goto (tgt := 15) hx hb dX7_isWithin_11 (by decide) ?_
      exact t_X7_isWithin_b15 hX hr hlk  _ h _ _ _ hP hS (lv_sub hl [] rfl)
/-! OwnerlessCoin$History.dropOldest()V -/
def rm_X3_dropOldest : Room := { frames := 0, cells := 0, slots := 0, locals := 0 }
theorem Y_X3_dropOldest : yv yX3_dropOldest cX3_dropOldest 3 none 0 RX3 := ⟨q268, q267, q0, q16, by decide +kernel⟩
set_option maxHeartbeats 4000000 in
set_option maxRecDepth 100000 in
theorem t_X3_dropOldest_l9 {p : Program} {l : Launch} {e : Env} {s : State} {m : MethodId} {args : Array Value} {below : List Frame} {meth : Method} {c : Code} {D : va_G} {tc : Tc} {ad : Nat → Nat} {A : Nat → Prop} {M : St} {II : St} (hX : cx p s m args c cX3_dropOldest 3 RX3 D tc ad A) (hr : meth.sig.returnType = none) (hlk : meth.locks = false) : ∀ (n : Nat), ∀ (w1 : Int32) (v2 : Int32) (I : St), inb w1 5 = true → f_X3_dropOldest_l9 n w1 v2 I = some II → ∀ (H : Heap) (locs : List Loc) (ls : Array Slot), va_P D vwCl (wl tc ad (cmb I M)) H → va_S A s.heap H locs → lv_has ls 3 [(0, .ref (ad 146)), (1, .ref (ad (29 * w1.toNatClampNeg))), (2, .int v2)] → W p l e rm_X3_dropOldest s m args below meth c H locs 0 0 (MQ below (qv D tc ad A (cmb II M)) args s 0 0 A) (F0 m 9 ls []) := by
  intro n
  induction n with
  | zero =>
    intro _ _ _ _ h
    cases h
  | succ n ih =>
    intro w1 v2 I hw1 h H locs ls hP hS hl
    rw [f_X3_dropOldest_l9] at h
    have hx := hX.1
    have hb := hX.2.1
    have hown := hX.2.2.2.1
    have hts := hX.2.2.2.2.1
    have hA := hX.2.2.2.2.2.2
    refine lv_iload_n hx hb dX3_dropOldest_9 rfl (lv_at hl 2 rfl) ?_
    refine lv_iconst (v := 4) hx hb dX3_dropOldest_10 kc_i4 ?_
    refine x_icmp_ge (tgt := 34) hx hb dX3_dropOldest_11 (by decide) h (fun c1 h => ?_) (fun c1 h => ?_)
    · refine lv_aload_n hx hb dX3_dropOldest_34 rfl (lv_at hl 0 rfl) ?_
      refine r_getq (t := 147) hX hP cok2 0 sl_146 sk_146 (by decide) rfl q213 dX3_dropOldest_35 ?_
      refine lv_iconst (v := 3) hx hb dX3_dropOldest_38 kc_i3 ?_
      refine lv_aload_n hx hb dX3_dropOldest_39 rfl (lv_at hl 1 rfl) ?_
      refine r_stL hX hP hS h sl_147 sk_147 sn_147 dX3_dropOldest_40 (fun I2 H locs h hP hS => ?_)
      refine lv_aload_n hx hb dX3_dropOldest_41 rfl (lv_at hl 0 rfl) ?_
      refine lv_iconst (v := 3) hx hb dX3_dropOldest_42 kc_i3 ?_
      refine r_put hX hP hS cok2 1 h sl_146 sk_146 (by decide) rfl rfl q214 rfl dX3_dropOldest_43 (fun I3 H locs h hP hS => ?_)
      cases h
      exact j_vret hX hr hlk hP hS dX3_dropOldest_46
    · refine lv_aload_n hx hb dX3_dropOldest_14 rfl (lv_at hl 0 rfl) ?_
      refine r_getq (t := 147) hX hP cok2 0 sl_146 sk_146 (by decide) rfl q213 dX3_dropOldest_15 ?_
      refine lv_iload_n hx hb dX3_dropOldest_18 rfl (lv_at hl 2 rfl) ?_
      refine lv_iconst (v := 1) hx hb dX3_dropOldest_19 kc_i1 ?_
      refine lv_isub hx hb dX3_dropOldest_20 ?_
      refine x_let h (fun x4 h => ?_)
      refine lv_aload_n hx hb dX3_dropOldest_21 rfl (lv_at hl 0 rfl) ?_
      refine r_getq (t := 147) hX hP cok2 0 sl_146 sk_146 (by decide) rfl q213 dX3_dropOldest_22 ?_
      refine lv_iload_n hx hb dX3_dropOldest_25 rfl (lv_at hl 2 rfl) ?_
      refine r_ldL hX hP h sl_147 sk_147 sn_147 dX3_dropOldest_26 (fun h => ?_)
      obtain ⟨x5, ex5⟩ : ∃ z, z = I 147 v2.toNatClampNeg := ⟨_, rfl⟩
      rw [← ex5] at h ⊢
      obtain ⟨g6, h⟩ := ck_some (show ck (inb x5 5) _ = some _ from h)
      refine r_stL hX hP hS h sl_147 sk_147 sn_147 dX3_dropOldest_27 (fun I7 H locs h hP hS => ?_)
      refine lv_iinc (v := (v2 + 1)) (lv' := [(2, .int (v2 + 1)), (0, .ref (ad 146)), (1, .ref (ad (29 * w1.toNatClampNeg)))]) hx hb dX3_dropOldest_28 hl (k := 2) rfl rfl (Nat.le_of_ble_eq_true rfl) rfl (fun ls hl => ?_)
      refine lv_goto (tgt := 9) hx hb dX3_dropOldest_31 (by decide) ?_
      exact ih _ _ _ hw1 h _ _ _ hP hS (lv_sub hl [1, 2, 0] rfl)
set_option maxHeartbeats 4000000 in
set_option maxRecDepth 100000 in
theorem c_X3_dropOldest {l : Launch} {D : va_G} {tc : Tc} {ad : Nat → Nat} {A : Nat → Prop} (hA : adok ad A) {I M : St}  {II : St} (h : f_X3_dropOldest I = some II) : Met l yX3_dropOldest (Cond.code yX3_dropOldest cX3_dropOldest 3 none :: tw) rm_X3_dropOldest (pre D tc ad [.ref (ad 146)] (cmb I M)) (qv D tc ad A (cmb II M)) 0 0 A := by
  unfold f_X3_dropOldest at h
  refine mk_met (own := RX3) (by decide +kernel) rfl hA (Nat.le_of_ble_eq_true rfl) ?_
  intro p e s m below meth c ls hX hr hlk hl hP hS
  have hl : lv_has ls 3 [(0, .ref (ad 146))] := hl
  have hx := hX.1
  have hb := hX.2.1
  have hown := hX.2.2.2.1
  have hts := hX.2.2.2.2.1
  refine lv_aload_n hx hb dX3_dropOldest_0 rfl (lv_at hl 0 rfl) ?_
  refine r_getq (t := 147) hX hP cok2 0 sl_146 sk_146 (by decide) rfl q213 dX3_dropOldest_1 ?_
  refine lv_iconst (v := 0) hx hb dX3_dropOldest_4 kc_i0 ?_
  refine r_ldL hX hP h sl_147 sk_147 sn_147 dX3_dropOldest_5 (fun h => ?_)
  obtain ⟨x8, ex8⟩ : ∃ z, z = I 147 (0 : Int32).toNatClampNeg := ⟨_, rfl⟩
  rw [← ex8] at h ⊢
  obtain ⟨g9, h⟩ := ck_some (show ck (inb x8 5) _ = some _ from h)
  refine lv_astore_n (lv' := [(1, .ref (ad (29 * x8.toNatClampNeg))), (0, .ref (ad 146))]) hx hb dX3_dropOldest_6 rfl hl (Nat.le_of_ble_eq_true rfl) rfl (fun ls hl => ?_)
  refine lv_iconst (v := 1) hx hb dX3_dropOldest_7 kc_i1 ?_
  refine lv_istore_n (lv' := [(2, .int 1), (1, .ref (ad (29 * x8.toNatClampNeg))), (0, .ref (ad 146))]) hx hb dX3_dropOldest_8 rfl hl (Nat.le_of_ble_eq_true rfl) rfl (fun ls hl => ?_)
  exact t_X3_dropOldest_l9 hX hr hlk  10000 _ _ _ g9 h _ _ _ hP hS (lv_sub hl [2, 1, 0] rfl)
/-! OwnerlessCoin$Person.copy(LOwnerlessCoin$Person;)V -/
def rm_X5_copy : Room := { frames := 1, cells := 0, slots := 0, locals := 30 }
theorem Y_X5_copy : yv yX5_copy cX5_copy 2 none 1 RX5 := ⟨q276, q274, q275, q15, by decide +kernel⟩
set_option maxHeartbeats 4000000 in
set_option maxRecDepth 100000 in
theorem c_X5_copy {l : Launch} {D : va_G} {tc : Tc} {ad : Nat → Nat} {A : Nat → Prop} (hA : adok ad A) {I M : St} {o0 : Nat} {o1 : Nat} {II : St} (h : f_X5_copy o0 o1 I = some II) : Met l yX5_copy (Cond.code yX5_copy cX5_copy 2 none :: tw) rm_X5_copy (pre D tc ad [.ref (ad o0), .ref (ad o1)] (cmb I M)) (qv D tc ad A (cmb II M)) 0 0 A := by
  unfold f_X5_copy at h
  obtain ⟨ho0, h⟩ := ck_some h
  obtain ⟨ho1, h⟩ := ck_some h
  refine mk_met (own := RX5) (by decide +kernel) rfl hA (Nat.le_of_ble_eq_true rfl) ?_
  intro p e s m below meth c ls hX hr hlk hl hP hS
  have hl : lv_has ls 2 [(0, .ref (ad o0)), (1, .ref (ad o1))] := hl
  have hx := hX.1
  have hb := hX.2.1
  have hown := hX.2.2.2.1
  have hts := hX.2.2.2.2.1
  refine lv_aload_n hx hb dX5_copy_0 rfl (lv_at hl 0 rfl) ?_
  refine lv_aload_n hx hb dX5_copy_1 rfl (lv_at hl 1 rfl) ?_
  refine r_get hX hP cok4 0 (isP_lt ho1) (isP_kd ho1) (by decide) rfl q83 dX5_copy_2 ?_
  refine r_put hX hP hS cok4 0 h (isP_lt ho0) (isP_kd ho0) (by decide) rfl rfl q83 rfl dX5_copy_5 (fun I1 H locs h hP hS => ?_)
  refine lv_aload_n hx hb dX5_copy_8 rfl (lv_at hl 0 rfl) ?_
  refine lv_aload_n hx hb dX5_copy_9 rfl (lv_at hl 1 rfl) ?_
  refine r_get hX hP cok4 1 (isP_lt ho1) (isP_kd ho1) (by decide) rfl q86 dX5_copy_10 ?_
  refine r_put hX hP hS cok4 1 h (isP_lt ho0) (isP_kd ho0) (by decide) rfl rfl q86 rfl dX5_copy_13 (fun I2 H locs h hP hS => ?_)
  refine lv_aload_n hx hb dX5_copy_16 rfl (lv_at hl 0 rfl) ?_
  refine lv_aload_n hx hb dX5_copy_17 rfl (lv_at hl 1 rfl) ?_
  refine r_get hX hP cok4 2 (isP_lt ho1) (isP_kd ho1) (by decide) rfl q89 dX5_copy_18 ?_
  refine r_put hX hP hS cok4 2 h (isP_lt ho0) (isP_kd ho0) (by decide) rfl rfl q89 rfl dX5_copy_21 (fun I3 H locs h hP hS => ?_)
  refine lv_aload_n hx hb dX5_copy_24 rfl (lv_at hl 0 rfl) ?_
  refine lv_aload_n hx hb dX5_copy_25 rfl (lv_at hl 1 rfl) ?_
  refine r_get hX hP cok4 3 (isP_lt ho1) (isP_kd ho1) (by decide) rfl q92 dX5_copy_26 ?_
  refine r_put hX hP hS cok4 3 h (isP_lt ho0) (isP_kd ho0) (by decide) rfl rfl q92 rfl dX5_copy_29 (fun I4 H locs h hP hS => ?_)
  refine lv_aload_n hx hb dX5_copy_32 rfl (lv_at hl 0 rfl) ?_
  refine lv_aload_n hx hb dX5_copy_33 rfl (lv_at hl 1 rfl) ?_
  refine r_get hX hP cok4 4 (isP_lt ho1) (isP_kd ho1) (by decide) rfl q95 dX5_copy_34 ?_
  refine r_put hX hP hS cok4 4 h (isP_lt ho0) (isP_kd ho0) (by decide) rfl rfl q95 rfl dX5_copy_37 (fun I5 H locs h hP hS => ?_)
  refine lv_aload_n hx hb dX5_copy_40 rfl (lv_at hl 0 rfl) ?_
  refine lv_aload_n hx hb dX5_copy_41 rfl (lv_at hl 1 rfl) ?_
  refine r_get hX hP cok4 5 (isP_lt ho1) (isP_kd ho1) (by decide) rfl q98 dX5_copy_42 ?_
  refine r_put hX hP hS cok4 5 h (isP_lt ho0) (isP_kd ho0) (by decide) rfl rfl q98 rfl dX5_copy_45 (fun I6 H locs h hP hS => ?_)
  refine lv_aload_n hx hb dX5_copy_48 rfl (lv_at hl 0 rfl) ?_
  refine lv_aload_n hx hb dX5_copy_49 rfl (lv_at hl 1 rfl) ?_
  refine r_get hX hP cok4 6 (isP_lt ho1) (isP_kd ho1) (by decide) rfl q101 dX5_copy_50 ?_
  refine r_put hX hP hS cok4 6 h (isP_lt ho0) (isP_kd ho0) (by decide) rfl rfl q101 rfl dX5_copy_53 (fun I7 H locs h hP hS => ?_)
  refine lv_aload_n hx hb dX5_copy_56 rfl (lv_at hl 0 rfl) ?_
  refine lv_aload_n hx hb dX5_copy_57 rfl (lv_at hl 1 rfl) ?_
  refine r_get hX hP cok4 7 (isP_lt ho1) (isP_kd ho1) (by decide) rfl q104 dX5_copy_58 ?_
  refine r_put hX hP hS cok4 7 h (isP_lt ho0) (isP_kd ho0) (by decide) rfl rfl q104 rfl dX5_copy_61 (fun I8 H locs h hP hS => ?_)
  refine lv_aload_n hx hb dX5_copy_64 rfl (lv_at hl 0 rfl) ?_
  refine lv_aload_n hx hb dX5_copy_65 rfl (lv_at hl 1 rfl) ?_
  refine r_get hX hP cok4 8 (isP_lt ho1) (isP_kd ho1) (by decide) rfl q105 dX5_copy_66 ?_
  refine r_put hX hP hS cok4 8 h (isP_lt ho0) (isP_kd ho0) (by decide) rfl rfl q105 rfl dX5_copy_69 (fun I9 H locs h hP hS => ?_)
  refine lv_aload_n hx hb dX5_copy_72 rfl (lv_at hl 0 rfl) ?_
  refine lv_aload_n hx hb dX5_copy_73 rfl (lv_at hl 1 rfl) ?_
  refine r_get hX hP cok4 9 (isP_lt ho1) (isP_kd ho1) (by decide) rfl q106 dX5_copy_74 ?_
  refine r_put hX hP hS cok4 9 h (isP_lt ho0) (isP_kd ho0) (by decide) rfl rfl q106 rfl dX5_copy_77 (fun I10 H locs h hP hS => ?_)
  refine lv_aload_n hx hb dX5_copy_80 rfl (lv_at hl 1 rfl) ?_
  refine r_getq (t := o1 + 8) hX hP cok4 10 (isP_lt ho1) (isP_kd ho1) (by decide) rfl q110 dX5_copy_81 ?_
  refine lv_iconst (v := 0) hx hb dX5_copy_84 kc_i0 ?_
  refine lv_aload_n hx hb dX5_copy_85 rfl (lv_at hl 0 rfl) ?_
  refine r_getq (t := o0 + 8) hX hP cok4 10 (isP_lt ho0) (isP_kd ho0) (by decide) rfl q110 dX5_copy_86 ?_
  refine lv_iconst (v := 0) hx hb dX5_copy_89 kc_i0 ?_
  refine lv_bipush (v := 8) hx hb dX5_copy_90 kc_b8 ?_
  refine r_cpy hX hP hS hl.1 h q277 q279 q278 q18 (isP8_lt ho1) (isP8_kd ho1) (isP8_ln ho1) (isP8_lt ho0) (isP8_kd ho0) (isP8_ln ho0) (by decide) (by decide) (Nat.le_of_ble_eq_true rfl) (Nat.le_of_ble_eq_true rfl) dX5_copy_92 (fun I11 H locs h hP hS => ?_)
  refine lv_aload_n hx hb dX5_copy_95 rfl (lv_at hl 1 rfl) ?_
  refine r_getq (t := o1 + 16) hX hP cok4 11 (isP_lt ho1) (isP_kd ho1) (by decide) rfl q112 dX5_copy_96 ?_
  refine lv_iconst (v := 0) hx hb dX5_copy_99 kc_i0 ?_
  refine lv_aload_n hx hb dX5_copy_100 rfl (lv_at hl 0 rfl) ?_
  refine r_getq (t := o0 + 16) hX hP cok4 11 (isP_lt ho0) (isP_kd ho0) (by decide) rfl q112 dX5_copy_101 ?_
  refine lv_iconst (v := 0) hx hb dX5_copy_104 kc_i0 ?_
  refine lv_bipush (v := 8) hx hb dX5_copy_105 kc_b8 ?_
  refine r_cpy hX hP hS hl.1 h q277 q279 q278 q18 (isP16_lt ho1) (isP16_kd ho1) (isP16_ln ho1) (isP16_lt ho0) (isP16_kd ho0) (isP16_ln ho0) (by decide) (by decide) (Nat.le_of_ble_eq_true rfl) (Nat.le_of_ble_eq_true rfl) dX5_copy_107 (fun I12 H locs h hP hS => ?_)
  cases h
  exact j_vret hX hr hlk hP hS dX5_copy_110
/-! OwnerlessCoin$Chronicle.copy(LOwnerlessCoin$Chronicle;)V -/
def rm_X0_copy : Room := { frames := 1, cells := 0, slots := 0, locals := 30 }
theorem Y_X0_copy : yv yX0_copy cX0_copy 2 none 1 RX0 := ⟨q284, q282, q283, q14, by decide +kernel⟩
set_option maxHeartbeats 4000000 in
set_option maxRecDepth 100000 in
theorem c_X0_copy {l : Launch} {D : va_G} {tc : Tc} {ad : Nat → Nat} {A : Nat → Prop} (hA : adok ad A) {I M : St} {o0 : Nat} {o1 : Nat} {II : St} (h : f_X0_copy o0 o1 I = some II) : Met l yX0_copy (Cond.code yX0_copy cX0_copy 2 none :: tw) rm_X0_copy (pre D tc ad [.ref (ad o0), .ref (ad o1)] (cmb I M)) (qv D tc ad A (cmb II M)) 0 0 A := by
  unfold f_X0_copy at h
  obtain ⟨ho0, h⟩ := ck_some h
  obtain ⟨ho1, h⟩ := ck_some h
  refine mk_met (own := RX0) (by decide +kernel) rfl hA (Nat.le_of_ble_eq_true rfl) ?_
  intro p e s m below meth c ls hX hr hlk hl hP hS
  have hl : lv_has ls 2 [(0, .ref (ad o0)), (1, .ref (ad o1))] := hl
  have hx := hX.1
  have hb := hX.2.1
  have hown := hX.2.2.2.1
  have hts := hX.2.2.2.2.1
  refine lv_aload_n hx hb dX0_copy_0 rfl (lv_at hl 0 rfl) ?_
  refine lv_aload_n hx hb dX0_copy_1 rfl (lv_at hl 1 rfl) ?_
  refine r_get hX hP cok0 0 (isC_lt ho1) (isC_kd ho1) (by decide) rfl q45 dX0_copy_2 ?_
  refine r_put hX hP hS cok0 0 h (isC_lt ho0) (isC_kd ho0) (by decide) rfl rfl q45 rfl dX0_copy_5 (fun I1 H locs h hP hS => ?_)
  refine lv_aload_n hx hb dX0_copy_8 rfl (lv_at hl 0 rfl) ?_
  refine lv_aload_n hx hb dX0_copy_9 rfl (lv_at hl 1 rfl) ?_
  refine r_get hX hP cok0 1 (isC_lt ho1) (isC_kd ho1) (by decide) rfl q48 dX0_copy_10 ?_
  refine r_put hX hP hS cok0 1 h (isC_lt ho0) (isC_kd ho0) (by decide) rfl rfl q48 rfl dX0_copy_13 (fun I2 H locs h hP hS => ?_)
  refine lv_aload_n hx hb dX0_copy_16 rfl (lv_at hl 0 rfl) ?_
  refine lv_aload_n hx hb dX0_copy_17 rfl (lv_at hl 1 rfl) ?_
  refine r_get hX hP cok0 2 (isC_lt ho1) (isC_kd ho1) (by decide) rfl q51 dX0_copy_18 ?_
  refine r_put hX hP hS cok0 2 h (isC_lt ho0) (isC_kd ho0) (by decide) rfl rfl q51 rfl dX0_copy_21 (fun I3 H locs h hP hS => ?_)
  refine lv_aload_n hx hb dX0_copy_24 rfl (lv_at hl 0 rfl) ?_
  refine lv_aload_n hx hb dX0_copy_25 rfl (lv_at hl 1 rfl) ?_
  refine r_get hX hP cok0 3 (isC_lt ho1) (isC_kd ho1) (by decide) rfl q53 dX0_copy_26 ?_
  refine r_put hX hP hS cok0 3 h (isC_lt ho0) (isC_kd ho0) (by decide) rfl rfl q53 rfl dX0_copy_29 (fun I4 H locs h hP hS => ?_)
  refine lv_aload_n hx hb dX0_copy_32 rfl (lv_at hl 0 rfl) ?_
  refine lv_aload_n hx hb dX0_copy_33 rfl (lv_at hl 1 rfl) ?_
  refine r_get hX hP cok0 4 (isC_lt ho1) (isC_kd ho1) (by decide) rfl q55 dX0_copy_34 ?_
  refine r_put hX hP hS cok0 4 h (isC_lt ho0) (isC_kd ho0) (by decide) rfl rfl q55 rfl dX0_copy_37 (fun I5 H locs h hP hS => ?_)
  refine lv_aload_n hx hb dX0_copy_40 rfl (lv_at hl 0 rfl) ?_
  refine lv_aload_n hx hb dX0_copy_41 rfl (lv_at hl 1 rfl) ?_
  refine r_get hX hP cok0 5 (isC_lt ho1) (isC_kd ho1) (by decide) rfl q57 dX0_copy_42 ?_
  refine r_put hX hP hS cok0 5 h (isC_lt ho0) (isC_kd ho0) (by decide) rfl rfl q57 rfl dX0_copy_45 (fun I6 H locs h hP hS => ?_)
  refine lv_aload_n hx hb dX0_copy_48 rfl (lv_at hl 0 rfl) ?_
  refine lv_aload_n hx hb dX0_copy_49 rfl (lv_at hl 1 rfl) ?_
  refine r_get hX hP cok0 6 (isC_lt ho1) (isC_kd ho1) (by decide) rfl q58 dX0_copy_50 ?_
  refine r_put hX hP hS cok0 6 h (isC_lt ho0) (isC_kd ho0) (by decide) rfl rfl q58 rfl dX0_copy_53 (fun I7 H locs h hP hS => ?_)
  refine lv_aload_n hx hb dX0_copy_56 rfl (lv_at hl 1 rfl) ?_
  refine r_getq (t := o1 + 1) hX hP cok0 7 (isC_lt ho1) (isC_kd ho1) (by decide) rfl q59 dX0_copy_57 ?_
  refine lv_iconst (v := 0) hx hb dX0_copy_60 kc_i0 ?_
  refine lv_aload_n hx hb dX0_copy_61 rfl (lv_at hl 0 rfl) ?_
  refine r_getq (t := o0 + 1) hX hP cok0 7 (isC_lt ho0) (isC_kd ho0) (by decide) rfl q59 dX0_copy_62 ?_
  refine lv_iconst (v := 0) hx hb dX0_copy_65 kc_i0 ?_
  refine lv_bipush (v := 96) hx hb dX0_copy_66 kc_b96 ?_
  refine r_cpy hX hP hS hl.1 h q285 q279 q278 q18 (isC1_lt ho1) (isC1_kd ho1) (isC1_ln ho1) (isC1_lt ho0) (isC1_kd ho0) (isC1_ln ho0) (by decide) (by decide) (Nat.le_of_ble_eq_true rfl) (Nat.le_of_ble_eq_true rfl) dX0_copy_68 (fun I8 H locs h hP hS => ?_)
  cases h
  exact j_vret hX hr hlk hP hS dX0_copy_71
/-! OwnerlessCoin$Lab.copy(LOwnerlessCoin$Lab;)V -/
def rm_X4_copy : Room := { frames := 2, cells := 0, slots := 0, locals := 51 }
theorem Y_X4_copy : yv yX4_copy cX4_copy 3 none 1 RX4 := ⟨q272, q270, q271, q13, by decide +kernel⟩
set_option maxHeartbeats 4000000 in
set_option maxRecDepth 100000 in
theorem t_X4_copy_l2 {p : Program} {l : Launch} {e : Env} {s : State} {m : MethodId} {args : Array Value} {below : List Frame} {meth : Method} {c : Code} {D : va_G} {tc : Tc} {ad : Nat → Nat} {A : Nat → Prop} {M : St} {o0 : Nat} {o1 : Nat} {II : St} (hX : cx p s m args c cX4_copy 3 RX4 D tc ad A) (hr : meth.sig.returnType = none) (hlk : meth.locks = false) (ho0 : isL o0 = true) (ho1 : isL o1 = true) : ∀ (n : Nat), ∀ (v2 : Int32) (I : St), f_X4_copy_l2 o0 o1 n v2 I = some II → ∀ (H : Heap) (locs : List Loc) (ls : Array Slot), va_P D vwCl (wl tc ad (cmb I M)) H → va_S A s.heap H locs → lv_has ls 3 [(0, .ref (ad o0)), (1, .ref (ad o1)), (2, .int v2)] → W p l e rm_X4_copy s m args below meth c H locs 0 0 (MQ below (qv D tc ad A (cmb II M)) args s 0 0 A) (F0 m 2 ls []) := by
  intro n
  induction n with
  | zero =>
    intro _ _ h
    cases h
  | succ n ih =>
    intro v2 I h H locs ls hP hS hl
    rw [f_X4_copy_l2] at h
    have hx := hX.1
    have hb := hX.2.1
    have hown := hX.2.2.2.1
    have hts := hX.2.2.2.2.1
    have hA := hX.2.2.2.2.2.2
    refine lv_iload_n hx hb dX4_copy_2 rfl (lv_at hl 2 rfl) ?_
    refine lv_bipush (v := 8) hx hb dX4_copy_3 kc_b8 ?_
    refine x_icmp_ge (tgt := 29) hx hb dX4_copy_5 (by decide) h (fun c1 h => ?_) (fun c1 h => ?_)
    · refine lv_aload_n hx hb dX4_copy_29 rfl (lv_at hl 1 rfl) ?_
      refine r_getq (t := o1 + 2) hX hP cok3 1 (isL_lt ho1) (isL_kd ho1) (by decide) rfl q141 dX4_copy_30 ?_
      refine lv_iconst (v := 0) hx hb dX4_copy_33 kc_i0 ?_
      refine lv_aload_n hx hb dX4_copy_34 rfl (lv_at hl 0 rfl) ?_
      refine r_getq (t := o0 + 2) hX hP cok3 1 (isL_lt ho0) (isL_kd ho0) (by decide) rfl q141 dX4_copy_35 ?_
      refine lv_iconst (v := 0) hx hb dX4_copy_38 kc_i0 ?_
      refine lv_bipush (v := 8) hx hb dX4_copy_39 kc_b8 ?_
      refine r_cpy hX hP hS hl.1 h q280 q279 q278 q18 (isL2_lt ho1) (isL2_kd ho1) (isL2_ln ho1) (isL2_lt ho0) (isL2_kd ho0) (isL2_ln ho0) (by decide) (by decide) (Nat.le_of_ble_eq_true rfl) (Nat.le_of_ble_eq_true rfl) dX4_copy_41 (fun I2 H locs h hP hS => ?_)
      refine lv_aload_n hx hb dX4_copy_44 rfl (lv_at hl 0 rfl) ?_
      refine r_getq (t := o0 + 3) hX hP cok3 2 (isL_lt ho0) (isL_kd ho0) (by decide) rfl q145 dX4_copy_45 ?_
      refine lv_aload_n hx hb dX4_copy_48 rfl (lv_at hl 1 rfl) ?_
      refine r_getq (t := o1 + 3) hX hP cok3 2 (isL_lt ho1) (isL_kd ho1) (by decide) rfl q145 dX4_copy_49 ?_
      obtain ⟨I4, e3, h⟩ := ob1_some h
      refine j_v (j_runV (rest := []) hX hP hl.1 Y_X0_copy cok0 (lt157 (isL3_lt ho0)) (isL3_kd ho0) (c_X0_copy hA e3) ⟨rfl, rfl⟩ q281 ⟨Nat.le_of_ble_eq_true rfl, Nat.le_of_ble_eq_true rfl⟩ rfl rfl (Nat.le_of_ble_eq_true rfl) dX4_copy_52) hS (fun H locs hP hS => ?_)
      refine lv_aload_n hx hb dX4_copy_55 rfl (lv_at hl 0 rfl) ?_
      refine lv_aload_n hx hb dX4_copy_56 rfl (lv_at hl 1 rfl) ?_
      refine r_get hX hP cok3 3 (isL_lt ho1) (isL_kd ho1) (by decide) rfl q148 dX4_copy_57 ?_
      refine r_put hX hP hS cok3 3 h (isL_lt ho0) (isL_kd ho0) (by decide) rfl rfl q148 rfl dX4_copy_60 (fun I5 H locs h hP hS => ?_)
      refine lv_aload_n hx hb dX4_copy_63 rfl (lv_at hl 0 rfl) ?_
      refine lv_aload_n hx hb dX4_copy_64 rfl (lv_at hl 1 rfl) ?_
      refine r_get hX hP cok3 4 (isL_lt ho1) (isL_kd ho1) (by decide) rfl q149 dX4_copy_65 ?_
      refine r_put hX hP hS cok3 4 h (isL_lt ho0) (isL_kd ho0) (by decide) rfl rfl q149 rfl dX4_copy_68 (fun I6 H locs h hP hS => ?_)
      refine lv_aload_n hx hb dX4_copy_71 rfl (lv_at hl 0 rfl) ?_
      refine lv_aload_n hx hb dX4_copy_72 rfl (lv_at hl 1 rfl) ?_
      refine r_get hX hP cok3 5 (isL_lt ho1) (isL_kd ho1) (by decide) rfl q151 dX4_copy_73 ?_
      refine r_put hX hP hS cok3 5 h (isL_lt ho0) (isL_kd ho0) (by decide) rfl rfl q151 rfl dX4_copy_76 (fun I7 H locs h hP hS => ?_)
      refine lv_aload_n hx hb dX4_copy_79 rfl (lv_at hl 0 rfl) ?_
      refine lv_aload_n hx hb dX4_copy_80 rfl (lv_at hl 1 rfl) ?_
      refine r_get hX hP cok3 6 (isL_lt ho1) (isL_kd ho1) (by decide) rfl q154 dX4_copy_81 ?_
      refine r_put hX hP hS cok3 6 h (isL_lt ho0) (isL_kd ho0) (by decide) rfl rfl q154 rfl dX4_copy_84 (fun I8 H locs h hP hS => ?_)
      refine lv_aload_n hx hb dX4_copy_87 rfl (lv_at hl 0 rfl) ?_
      refine lv_aload_n hx hb dX4_copy_88 rfl (lv_at hl 1 rfl) ?_
      refine r_get hX hP cok3 7 (isL_lt ho1) (isL_kd ho1) (by decide) rfl q157 dX4_copy_89 ?_
      refine r_put hX hP hS cok3 7 h (isL_lt ho0) (isL_kd ho0) (by decide) rfl rfl q157 rfl dX4_copy_92 (fun I9 H locs h hP hS => ?_)
      refine lv_aload_n hx hb dX4_copy_95 rfl (lv_at hl 0 rfl) ?_
      refine lv_aload_n hx hb dX4_copy_96 rfl (lv_at hl 1 rfl) ?_
      refine r_get hX hP cok3 8 (isL_lt ho1) (isL_kd ho1) (by decide) rfl q159 dX4_copy_97 ?_
      refine r_put hX hP hS cok3 8 h (isL_lt ho0) (isL_kd ho0) (by decide) rfl rfl q159 rfl dX4_copy_100 (fun I10 H locs h hP hS => ?_)
      refine lv_aload_n hx hb dX4_copy_103 rfl (lv_at hl 0 rfl) ?_
      refine lv_aload_n hx hb dX4_copy_104 rfl (lv_at hl 1 rfl) ?_
      refine r_get hX hP cok3 9 (isL_lt ho1) (isL_kd ho1) (by decide) rfl q161 dX4_copy_105 ?_
      refine r_put hX hP hS cok3 9 h (isL_lt ho0) (isL_kd ho0) (by decide) rfl rfl q161 rfl dX4_copy_108 (fun I11 H locs h hP hS => ?_)
      refine lv_aload_n hx hb dX4_copy_111 rfl (lv_at hl 0 rfl) ?_
      refine lv_aload_n hx hb dX4_copy_112 rfl (lv_at hl 1 rfl) ?_
      refine r_get hX hP cok3 10 (isL_lt ho1) (isL_kd ho1) (by decide) rfl q164 dX4_copy_113 ?_
      refine r_put hX hP hS cok3 10 h (isL_lt ho0) (isL_kd ho0) (by decide) rfl rfl q164 rfl dX4_copy_116 (fun I12 H locs h hP hS => ?_)
      refine lv_aload_n hx hb dX4_copy_119 rfl (lv_at hl 0 rfl) ?_
      refine lv_aload_n hx hb dX4_copy_120 rfl (lv_at hl 1 rfl) ?_
      refine r_get hX hP cok3 11 (isL_lt ho1) (isL_kd ho1) (by decide) rfl q167 dX4_copy_121 ?_
      refine r_put hX hP hS cok3 11 h (isL_lt ho0) (isL_kd ho0) (by decide) rfl rfl q167 rfl dX4_copy_124 (fun I13 H locs h hP hS => ?_)
      refine lv_aload_n hx hb dX4_copy_127 rfl (lv_at hl 0 rfl) ?_
      refine lv_aload_n hx hb dX4_copy_128 rfl (lv_at hl 1 rfl) ?_
      refine r_get hX hP cok3 12 (isL_lt ho1) (isL_kd ho1) (by decide) rfl q170 dX4_copy_129 ?_
      refine r_put hX hP hS cok3 12 h (isL_lt ho0) (isL_kd ho0) (by decide) rfl rfl q170 rfl dX4_copy_132 (fun I14 H locs h hP hS => ?_)
      refine lv_aload_n hx hb dX4_copy_135 rfl (lv_at hl 0 rfl) ?_
      refine lv_aload_n hx hb dX4_copy_136 rfl (lv_at hl 1 rfl) ?_
      refine r_get hX hP cok3 13 (isL_lt ho1) (isL_kd ho1) (by decide) rfl q173 dX4_copy_137 ?_
      refine r_put hX hP hS cok3 13 h (isL_lt ho0) (isL_kd ho0) (by decide) rfl rfl q173 rfl dX4_copy_140 (fun I15 H locs h hP hS => ?_)
      cases h
      exact j_vret hX hr hlk hP hS dX4_copy_143
    · refine lv_aload_n hx hb dX4_copy_8 rfl (lv_at hl 0 rfl) ?_
      refine r_getq (t := o0 + 1) hX hP cok3 0 (isL_lt ho0) (isL_kd ho0) (by decide) rfl q138 dX4_copy_9 ?_
      refine lv_iload_n hx hb dX4_copy_12 rfl (lv_at hl 2 rfl) ?_
      refine r_ldq hX hP h (lt157 (isL1_lt ho0)) (isL1_kd ho0) (isL1_ln ho0) dX4_copy_13 (fun g16 h => ?_)
      refine lv_aload_n hx hb dX4_copy_14 rfl (lv_at hl 1 rfl) ?_
      refine r_getq (t := o1 + 1) hX hP cok3 0 (isL_lt ho1) (isL_kd ho1) (by decide) rfl q138 dX4_copy_15 ?_
      refine lv_iload_n hx hb dX4_copy_18 rfl (lv_at hl 2 rfl) ?_
      refine r_ldq hX hP h (lt157 (isL1_lt ho1)) (isL1_kd ho1) (isL1_ln ho1) dX4_copy_19 (fun g17 h => ?_)
      obtain ⟨I19, e18, h⟩ := ob1_some h
      refine j_v (j_runV (rest := []) hX hP hl.1 Y_X5_copy cok4 (lt157 (isP_lt (isL_P ho0 g16))) (isP_kd (isL_P ho0 g16)) (c_X5_copy hA e18) ⟨rfl, rfl⟩ q273 ⟨Nat.le_of_ble_eq_true rfl, Nat.le_of_ble_eq_true rfl⟩ rfl rfl (Nat.le_of_ble_eq_true rfl) dX4_copy_20) hS (fun H locs hP hS => ?_)
      refine lv_iinc (v := (v2 + 1)) (lv' := [(2, .int (v2 + 1)), (0, .ref (ad o0)), (1, .ref (ad o1))]) hx hb dX4_copy_23 hl (k := 2) rfl rfl (Nat.le_of_ble_eq_true rfl) rfl (fun ls hl => ?_)
      refine lv_goto (tgt := 2) hx hb dX4_copy_26 (by decide) ?_
      exact ih _ _ h _ _ _ hP hS (lv_sub hl [1, 2, 0] rfl)
set_option maxHeartbeats 4000000 in
set_option maxRecDepth 100000 in
theorem c_X4_copy {l : Launch} {D : va_G} {tc : Tc} {ad : Nat → Nat} {A : Nat → Prop} (hA : adok ad A) {I M : St} {o0 : Nat} {o1 : Nat} {II : St} (h : f_X4_copy o0 o1 I = some II) : Met l yX4_copy (Cond.code yX4_copy cX4_copy 3 none :: tw) rm_X4_copy (pre D tc ad [.ref (ad o0), .ref (ad o1)] (cmb I M)) (qv D tc ad A (cmb II M)) 0 0 A := by
  unfold f_X4_copy at h
  obtain ⟨ho0, h⟩ := ck_some h
  obtain ⟨ho1, h⟩ := ck_some h
  refine mk_met (own := RX4) (by decide +kernel) rfl hA (Nat.le_of_ble_eq_true rfl) ?_
  intro p e s m below meth c ls hX hr hlk hl hP hS
  have hl : lv_has ls 3 [(0, .ref (ad o0)), (1, .ref (ad o1))] := hl
  have hx := hX.1
  have hb := hX.2.1
  have hown := hX.2.2.2.1
  have hts := hX.2.2.2.2.1
  refine lv_iconst (v := 0) hx hb dX4_copy_0 kc_i0 ?_
  refine lv_istore_n (lv' := [(2, .int 0), (0, .ref (ad o0)), (1, .ref (ad o1))]) hx hb dX4_copy_1 rfl hl (Nat.le_of_ble_eq_true rfl) rfl (fun ls hl => ?_)
  exact t_X4_copy_l2 hX hr hlk ho0 ho1  10000 _ _ h _ _ _ hP hS (lv_sub hl [1, 2, 0] rfl)
/-! OwnerlessCoin$History.remember(LOwnerlessCoin$Lab;)V -/
def rm_X3_remember : Room := { frames := 3, cells := 0, slots := 0, locals := 73 }
theorem Y_X3_remember : yv yX3_remember cX3_remember 2 none 1 RX3 := ⟨q264, q262, q263, q16, by decide +kernel⟩
set_option maxHeartbeats 4000000 in
set_option maxRecDepth 100000 in
theorem t_X3_remember_b12 {p : Program} {l : Launch} {e : Env} {s : State} {m : MethodId} {args : Array Value} {below : List Frame} {meth : Method} {c : Code} {D : va_G} {tc : Tc} {ad : Nat → Nat} {A : Nat → Prop} {M : St} {II : St} (hX : cx p s m args c cX3_remember 2 RX3 D tc ad A) (hr : meth.sig.returnType = none) (hlk : meth.locks = false) : ∀ (I : St), f_X3_remember_b12 I = some II → ∀ (H : Heap) (locs : List Loc) (ls : Array Slot), va_P D vwCl (wl tc ad (cmb I M)) H → va_S A s.heap H locs → lv_has ls 2 [(0, .ref (ad 146)), (1, .ref (ad 0))] → W p l e rm_X3_remember s m args below meth c H locs 0 0 (MQ below (qv D tc ad A (cmb II M)) args s 0 0 A) (F0 m 12 ls []) := by
  intro I h H locs ls hP hS hl
  unfold f_X3_remember_b12 at h
  have hx := hX.1
  have hb := hX.2.1
  have hown := hX.2.2.2.1
  have hts := hX.2.2.2.2.1
  have hA := hX.2.2.2.2.2.2
  refine lv_aload_n hx hb dX3_remember_12 rfl (lv_at hl 0 rfl) ?_
  refine r_getq (t := 147) hX hP cok2 0 sl_146 sk_146 (by decide) rfl q213 dX3_remember_13 ?_
  refine lv_aload_n hx hb dX3_remember_16 rfl (lv_at hl 0 rfl) ?_
  refine r_get hX hP cok2 1 sl_146 sk_146 (by decide) rfl q214 dX3_remember_17 ?_
  refine x_let h (fun x1 h => ?_)
  refine r_ldL hX hP h sl_147 sk_147 sn_147 dX3_remember_20 (fun h => ?_)
  obtain ⟨x2, ex2⟩ : ∃ z, z = I 147 x1.toNatClampNeg := ⟨_, rfl⟩
  rw [← ex2] at h ⊢
  obtain ⟨g3, h⟩ := ck_some (show ck (inb x2 5) _ = some _ from h)
  refine lv_aload_n hx hb dX3_remember_21 rfl (lv_at hl 1 rfl) ?_
  obtain ⟨I5, e4, h⟩ := ob1_some h
  refine j_v (j_runV (rest := []) hX hP hl.1 Y_X4_copy cok3 (lt157 (isL_lt (isL_of g3))) (isL_kd (isL_of g3)) (c_X4_copy hA e4) ⟨rfl, rfl⟩ q269 ⟨Nat.le_of_ble_eq_true rfl, Nat.le_of_ble_eq_true rfl⟩ rfl rfl (Nat.le_of_ble_eq_true rfl) dX3_remember_22) hS (fun H locs hP hS => ?_)
  refine lv_aload_n hx hb dX3_remember_25 rfl (lv_at hl 0 rfl) ?_
  refine lv_dup hx hb dX3_remember_26 rfl ?_
  refine r_get hX hP cok2 1 sl_146 sk_146 (by decide) rfl q214 dX3_remember_27 ?_
  refine x_let h (fun x6 h => ?_)
  refine lv_iconst (v := 1) hx hb dX3_remember_30 kc_i1 ?_
  refine lv_iadd hx hb dX3_remember_31 ?_
  refine r_put hX hP hS cok2 1 h sl_146 sk_146 (by decide) rfl rfl q214 rfl dX3_remember_32 (fun I7 H locs h hP hS => ?_)
  cases h
  exact j_vret hX hr hlk hP hS dX3_remember_35
set_option maxHeartbeats 4000000 in
set_option maxRecDepth 100000 in
theorem c_X3_remember {l : Launch} {D : va_G} {tc : Tc} {ad : Nat → Nat} {A : Nat → Prop} (hA : adok ad A) {I M : St}  {II : St} (h : f_X3_remember I = some II) : Met l yX3_remember (Cond.code yX3_remember cX3_remember 2 none :: tw) rm_X3_remember (pre D tc ad [.ref (ad 146), .ref (ad 0)] (cmb I M)) (qv D tc ad A (cmb II M)) 0 0 A := by
  unfold f_X3_remember at h
  refine mk_met (own := RX3) (by decide +kernel) rfl hA (Nat.le_of_ble_eq_true rfl) ?_
  intro p e s m below meth c ls hX hr hlk hl hP hS
  have hl : lv_has ls 2 [(0, .ref (ad 146)), (1, .ref (ad 0))] := hl
  have hx := hX.1
  have hb := hX.2.1
  have hown := hX.2.2.2.1
  have hts := hX.2.2.2.2.1
  refine lv_aload_n hx hb dX3_remember_0 rfl (lv_at hl 0 rfl) ?_
  refine r_get hX hP cok2 1 sl_146 sk_146 (by decide) rfl q214 dX3_remember_1 ?_
  refine x_let h (fun x8 h => ?_)
  refine lv_iconst (v := 4) hx hb dX3_remember_4 kc_i4 ?_
  refine x_icmp_lt (tgt := 12) hx hb dX3_remember_5 (by decide) h (fun c9 h => ?_) (fun c9 h => ?_)
  · exact t_X3_remember_b12 hX hr hlk  _ h _ _ _ hP hS (lv_sub hl [0, 1] rfl)
  · refine lv_aload_n hx hb dX3_remember_8 rfl (lv_at hl 0 rfl) ?_
    obtain ⟨I11, e10, h⟩ := ob1_some h
    refine j_v (j_runV (rest := []) hX hP hl.1 Y_X3_dropOldest cok2 (lt157 sl_146) sk_146 (c_X3_dropOldest hA e10) ⟨rfl, rfl⟩ q265 ⟨Nat.le_of_ble_eq_true rfl, Nat.le_of_ble_eq_true rfl⟩ rfl rfl (Nat.le_of_ble_eq_true rfl) dX3_remember_9) hS (fun H locs hP hS => ?_)
    exact t_X3_remember_b12 hX hr hlk  _ h _ _ _ hP hS (lv_sub hl [0, 1] rfl)
/-! OwnerlessCoin$Lab.ad_mit(I)I -/
def rm_X4_admit : Room := { frames := 0, cells := 0, slots := 0, locals := 0 }
theorem Y_X4_admit : yv yX4_admit cX4_admit 2 (some .int) 1 RX4 := ⟨q289, q287, q288, q13, by decide +kernel⟩
set_option maxHeartbeats 4000000 in
set_option maxRecDepth 100000 in
theorem c_X4_admit {l : Launch} {D : va_G} {tc : Tc} {ad : Nat → Nat} {A : Nat → Prop} (hA : adok ad A) {I M : St} {v1 : Int32} {rr : Int32} {II : St} (h : f_X4_admit v1 I = some (rr, II)) : Met l yX4_admit (Cond.code yX4_admit cX4_admit 2 (some .int) :: tw) rm_X4_admit (pre D tc ad [.ref (ad 0), .int v1] (cmb I M)) (qi D tc ad A rr (cmb II M)) 0 0 A := by
  unfold f_X4_admit at h
  refine mk_met (own := RX4) (by decide +kernel) rfl hA (Nat.le_of_ble_eq_true rfl) ?_
  intro p e s m below meth c ls hX hr hlk hl hP hS
  have hl : lv_has ls 2 [(0, .ref (ad 0)), (1, .int v1)] := hl
  have hx := hX.1
  have hb := hX.2.1
  have hown := hX.2.2.2.1
  have hts := hX.2.2.2.2.1
  refine lv_aload_n hx hb dX4_admit_0 rfl (lv_at hl 0 rfl) ?_
  refine r_get hX hP cok3 3 sl_0 sk_0 (by decide) rfl q148 dX4_admit_1 ?_
  refine x_let h (fun x1 h => ?_)
  refine lv_bipush (v := 8) hx hb dX4_admit_4 kc_b8 ?_
  refine x_icmp_lt (tgt := 12) hx hb dX4_admit_6 (by decide) h (fun c2 h => ?_) (fun c2 h => ?_)
  · refine lv_aload_n hx hb dX4_admit_12 rfl (lv_at hl 0 rfl) ?_
    refine r_getq (t := 1) hX hP cok3 0 sl_0 sk_0 (by decide) rfl q138 dX4_admit_13 ?_
    refine lv_aload_n hx hb dX4_admit_16 rfl (lv_at hl 0 rfl) ?_
    refine r_get hX hP cok3 3 sl_0 sk_0 (by decide) rfl q148 dX4_admit_17 ?_
    refine x_let h (fun x3 h => ?_)
    refine r_ldq hX hP h (lt157 sl_1) sk_1 sn_1 dX4_admit_20 (fun g4 h => ?_)
    refine lv_iload_n hx hb dX4_admit_21 rfl (lv_at hl 1 rfl) ?_
    refine r_put hX hP hS cok4 0 h (isP_lt (isP_of g4)) (isP_kd (isP_of g4)) (by decide) rfl rfl q84 rfl dX4_admit_22 (fun I5 H locs h hP hS => ?_)
    refine lv_aload_n hx hb dX4_admit_25 rfl (lv_at hl 0 rfl) ?_
    refine lv_dup hx hb dX4_admit_26 rfl ?_
    refine r_get hX hP cok3 3 sl_0 sk_0 (by decide) rfl q148 dX4_admit_27 ?_
    refine x_let h (fun x6 h => ?_)
    refine lv_iconst (v := 1) hx hb dX4_admit_30 kc_i1 ?_
    refine lv_iadd hx hb dX4_admit_31 ?_
    refine r_put hX hP hS cok3 3 h sl_0 sk_0 (by decide) rfl rfl q148 rfl dX4_admit_32 (fun I7 H locs h hP hS => ?_)
    refine lv_aload_n hx hb dX4_admit_35 rfl (lv_at hl 0 rfl) ?_
    refine r_get hX hP cok3 3 sl_0 sk_0 (by decide) rfl q148 dX4_admit_36 ?_
    refine x_let h (fun x8 h => ?_)
    refine lv_iconst (v := 1) hx hb dX4_admit_39 kc_i1 ?_
    refine lv_isub hx hb dX4_admit_40 ?_
    cases h
    exact j_iret hX hr hlk hP hS dX4_admit_41
  · refine lv_bipush (v := (-3)) hx hb dX4_admit_9 kc_bm3 ?_
    cases h
    exact j_iret hX hr hlk hP hS dX4_admit_11
/-! OwnerlessCoin.addParticipant(I)I -/
def rm_X7_addParticipant : Room := { frames := 4, cells := 0, slots := 0, locals := 94 }
theorem Y_X7_addParticipant : yv yX7_addParticipant cX7_addParticipant 2 (some .int) 1 RX7 := ⟨q256, q254, q255, q12, by decide +kernel⟩
set_option maxHeartbeats 4000000 in
set_option maxRecDepth 100000 in
theorem c_X7_addParticipant {l : Launch} {D : va_G} {tc : Tc} {ad : Nat → Nat} {A : Nat → Prop} (hA : adok ad A) {I M : St} {v1 : Int32} {rr : Int32} {II : St} (h : f_X7_addParticipant v1 I = some (rr, II)) : Met l yX7_addParticipant (Cond.code yX7_addParticipant cX7_addParticipant 2 (some .int) :: tw) rm_X7_addParticipant (pre D tc ad [.ref (ad 145), .int v1] (cmb I M)) (qi D tc ad A rr (cmb II M)) 0 0 A := by
  unfold f_X7_addParticipant at h
  refine mk_met (own := RX7) (by decide +kernel) rfl hA (Nat.le_of_ble_eq_true rfl) ?_
  intro p e s m below meth c ls hX hr hlk hl hP hS
  have hl : lv_has ls 2 [(0, .ref (ad 145)), (1, .int v1)] := hl
  have hx := hX.1
  have hb := hX.2.1
  have hown := hX.2.2.2.1
  have hts := hX.2.2.2.2.1
  refine lv_iload_n hx hb dX7_addParticipant_0 rfl (lv_at hl 1 rfl) ?_
  refine lv_iconst (v := 0) hx hb dX7_addParticipant_1 kc_i0 ?_
  refine lv_ldc (v := 1000000) hx hb hown (hts _ q257) dX7_addParticipant_2 ?_
  obtain ⟨r2, e1, h⟩ := ob1_some h
  refine j_i (j_runS (rest := []) hX hP hl.1 Y_X7_isWithin (c_X7_isWithin hA e1) ⟨rfl, rfl⟩ q258 ⟨Nat.le_of_ble_eq_true rfl, Nat.le_of_ble_eq_true rfl⟩ rfl rfl (Nat.le_of_ble_eq_true rfl) dX7_addParticipant_4) hS (fun H locs hP hS => ?_)
  refine x_if_ne (tgt := 12) hx hb dX7_addParticipant_7 (by decide) h (fun c3 h => ?_) (fun c3 h => ?_)
  · refine lv_aload_n hx hb dX7_addParticipant_12 rfl (lv_at hl 0 rfl) ?_
    refine r_getq (t := 0) hX hP cok5 0 sl_145 sk_145 (by decide) rfl q243 dX7_addParticipant_13 ?_
    refine r_get hX hP cok3 9 sl_0 sk_0 (by decide) rfl q162 dX7_addParticipant_16 ?_
    refine x_if_eq (tgt := 25) hx hb dX7_addParticipant_19 (by decide) h (fun c4 h => ?_) (fun c4 h => ?_)
    · refine lv_aload_n hx hb dX7_addParticipant_25 rfl (lv_at hl 0 rfl) ?_
      refine r_getq (t := 0) hX hP cok5 0 sl_145 sk_145 (by decide) rfl q243 dX7_addParticipant_26 ?_
      refine r_get hX hP cok3 3 sl_0 sk_0 (by decide) rfl q147 dX7_addParticipant_29 ?_
      refine x_let h (fun x5 h => ?_)
      refine lv_bipush (v := 8) hx hb dX7_addParticipant_32 kc_b8 ?_
      refine x_icmp_lt (tgt := 40) hx hb dX7_addParticipant_34 (by decide) h (fun c6 h => ?_) (fun c6 h => ?_)
      · refine lv_aload_n hx hb dX7_addParticipant_40 rfl (lv_at hl 0 rfl) ?_
        refine r_getq (t := 146) hX hP cok5 1 sl_145 sk_145 (by decide) rfl q244 dX7_addParticipant_41 ?_
        refine lv_aload_n hx hb dX7_addParticipant_44 rfl (lv_at hl 0 rfl) ?_
        refine r_getq (t := 0) hX hP cok5 0 sl_145 sk_145 (by decide) rfl q243 dX7_addParticipant_45 ?_
        obtain ⟨I8, e7, h⟩ := ob1_some h
        refine j_v (j_runV (rest := []) hX hP hl.1 Y_X3_remember cok2 (lt157 sl_146) sk_146 (c_X3_remember hA e7) ⟨rfl, rfl⟩ q261 ⟨Nat.le_of_ble_eq_true rfl, Nat.le_of_ble_eq_true rfl⟩ rfl rfl (Nat.le_of_ble_eq_true rfl) dX7_addParticipant_48) hS (fun H locs hP hS => ?_)
        refine lv_aload_n hx hb dX7_addParticipant_51 rfl (lv_at hl 0 rfl) ?_
        refine r_getq (t := 0) hX hP cok5 0 sl_145 sk_145 (by decide) rfl q243 dX7_addParticipant_52 ?_
        refine lv_iload_n hx hb dX7_addParticipant_55 rfl (lv_at hl 1 rfl) ?_
        obtain ⟨r11, I10, e9, h⟩ := ob2_some h
        refine j_i (j_runV (rest := []) hX hP hl.1 Y_X4_admit cok3 (lt157 sl_0) sk_0 (c_X4_admit hA e9) ⟨rfl, rfl⟩ q286 ⟨Nat.le_of_ble_eq_true rfl, Nat.le_of_ble_eq_true rfl⟩ rfl rfl (Nat.le_of_ble_eq_true rfl) dX7_addParticipant_56) hS (fun H locs hP hS => ?_)
        cases h
        exact j_iret hX hr hlk hP hS dX7_addParticipant_59
      · refine lv_bipush (v := (-3)) hx hb dX7_addParticipant_37 kc_bm3 ?_
        cases h
        exact j_iret hX hr hlk hP hS dX7_addParticipant_39
    · refine lv_bipush (v := (-2)) hx hb dX7_addParticipant_22 kc_bm2 ?_
      cases h
      exact j_iret hX hr hlk hP hS dX7_addParticipant_24
  · refine lv_iconst (v := (-1)) hx hb dX7_addParticipant_10 kc_im1 ?_
    cases h
    exact j_iret hX hr hlk hP hS dX7_addParticipant_11
/-! OwnerlessCoin$Lab.isParticipant(I)Z -/
def rm_X4_isParticipant : Room := { frames := 0, cells := 0, slots := 0, locals := 0 }
theorem Y_X4_isParticipant : yv yX4_isParticipant cX4_isParticipant 2 (some .boolean) 1 RX4 := ⟨q334, q332, q333, q13, by decide +kernel⟩
set_option maxHeartbeats 4000000 in
set_option maxRecDepth 100000 in
theorem t_X4_isParticipant_b23 {p : Program} {l : Launch} {e : Env} {s : State} {m : MethodId} {args : Array Value} {below : List Frame} {meth : Method} {c : Code} {D : va_G} {tc : Tc} {ad : Nat → Nat} {A : Nat → Prop} {M : St} {rr : Int32} (hX : cx p s m args c cX4_isParticipant 2 RX4 D tc ad A) (hr : meth.sig.returnType = some .boolean) (hlk : meth.locks = false) : ∀ (t0 : Int32) (I : St), f_X4_isParticipant_b23 t0 I = some rr → ∀ (H : Heap) (locs : List Loc) (ls : Array Slot), va_P D vwCl (wl tc ad (cmb I M)) H → va_S A s.heap H locs → lv_has ls 2 [] → W p l e rm_X4_isParticipant s m args below meth c H locs 0 0 (MQ below (qi D tc ad A rr (cmb I M)) args s 0 0 A) (F0 m 23 ls [.int t0]) := by
  intro t0 I h H locs ls hP hS hl
  unfold f_X4_isParticipant_b23 at h
  have hx := hX.1
  have hb := hX.2.1
  have hown := hX.2.2.2.1
  have hts := hX.2.2.2.2.1
  have hA := hX.2.2.2.2.2.2
  obtain ⟨gz, h⟩ := ck_some h
  cases h
  exact j_zret hX hr hlk hP hS (isB_or gz) dX4_isParticipant_23
set_option maxHeartbeats 4000000 in
set_option maxRecDepth 100000 in
theorem t_X4_isParticipant_b22 {p : Program} {l : Launch} {e : Env} {s : State} {m : MethodId} {args : Array Value} {below : List Frame} {meth : Method} {c : Code} {D : va_G} {tc : Tc} {ad : Nat → Nat} {A : Nat → Prop} {M : St} {rr : Int32} (hX : cx p s m args c cX4_isParticipant 2 RX4 D tc ad A) (hr : meth.sig.returnType = some .boolean) (hlk : meth.locks = false) : ∀ (I : St), f_X4_isParticipant_b22 I = some rr → ∀ (H : Heap) (locs : List Loc) (ls : Array Slot), va_P D vwCl (wl tc ad (cmb I M)) H → va_S A s.heap H locs → lv_has ls 2 [] → W p l e rm_X4_isParticipant s m args below meth c H locs 0 0 (MQ below (qi D tc ad A rr (cmb I M)) args s 0 0 A) (F0 m 22 ls []) := by
  intro I h H locs ls hP hS hl
  unfold f_X4_isParticipant_b22 at h
  have hx := hX.1
  have hb := hX.2.1
  have hown := hX.2.2.2.1
  have hts := hX.2.2.2.2.1
  have hA := hX.2.2.2.2.2.2
  refine lv_iconst (v := 0) hx hb dX4_isParticipant_22 kc_i0 ?_
  exact t_X4_isParticipant_b23 hX hr hlk  _ _ h _ _ _ hP hS (lv_sub hl [] rfl)
set_option maxHeartbeats 4000000 in
set_option maxRecDepth 100000 in
theorem c_X4_isParticipant {l : Launch} {D : va_G} {tc : Tc} {ad : Nat → Nat} {A : Nat → Prop} (hA : adok ad A) {I M : St} {v1 : Int32} {rr : Int32} (h : f_X4_isParticipant v1 I = some rr) : Met l yX4_isParticipant (Cond.code yX4_isParticipant cX4_isParticipant 2 (some .boolean) :: tw) rm_X4_isParticipant (pre D tc ad [.ref (ad 0), .int v1] (cmb I M)) (qi D tc ad A rr (cmb I M)) 0 0 A := by
  unfold f_X4_isParticipant at h
  refine mk_met (own := RX4) (by decide +kernel) rfl hA (Nat.le_of_ble_eq_true rfl) ?_
  intro p e s m below meth c ls hX hr hlk hl hP hS
  have hl : lv_has ls 2 [(0, .ref (ad 0)), (1, .int v1)] := hl
  have hx := hX.1
  have hb := hX.2.1
  have hown := hX.2.2.2.1
  have hts := hX.2.2.2.2.1
  refine lv_iload_n hx hb dX4_isParticipant_0 rfl (lv_at hl 1 rfl) ?_
  refine x_if_lt (tgt := 22) hx hb dX4_isParticipant_1 (by decide) h (fun c1 h => ?_) (fun c1 h => ?_)
  · exact t_X4_isParticipant_b22 hX hr hlk  _ h _ _ _ hP hS (lv_sub hl [] rfl)
  · refine lv_iload_n hx hb dX4_isParticipant_4 rfl (lv_at hl 1 rfl) ?_
    refine lv_aload_n hx hb dX4_isParticipant_5 rfl (lv_at hl 0 rfl) ?_
    refine r_get hX hP cok3 3 sl_0 sk_0 (by decide) rfl q148 dX4_isParticipant_6 ?_
    refine x_icmp_ge (tgt := 22) hx hb dX4_isParticipant_9 (by decide) h (fun c2 h => ?_) (fun c2 h => ?_)
    · exact t_X4_isParticipant_b22 hX hr hlk  _ h _ _ _ hP hS (lv_sub hl [] rfl)
    · refine lv_iload_n hx hb dX4_isParticipant_12 rfl (lv_at hl 1 rfl) ?_
      refine lv_bipush (v := 8) hx hb dX4_isParticipant_13 kc_b8 ?_
      refine x_icmp_ge (tgt := 22) hx hb dX4_isParticipant_15 (by decide) h (fun c3 h => ?_) (fun c3 h => ?_)
      · exact t_X4_isParticipant_b22 hX hr hlk  _ h _ _ _ hP hS (lv_sub hl [] rfl)
      · refine lv_iconst (v := 1) hx hb dX4_isParticipant_18 kc_i1 ?_
        refine lv_goto (tgt := 23) hx hb dX4_isParticipant_19 (by decide) ?_
        exact t_X4_isParticipant_b23 hX hr hlk  _ _ h _ _ _ hP hS (lv_sub hl [] rfl)
/-! OwnerlessCoin.behave(II)I -/
def rm_X7_behave : Room := { frames := 4, cells := 0, slots := 0, locals := 94 }
theorem Y_X7_behave : yv yX7_behave cX7_behave 4 (some .int) 2 RX7 := ⟨q354, q352, q353, q12, by decide +kernel⟩
set_option maxHeartbeats 4000000 in
set_option maxRecDepth 100000 in
theorem t_X7_behave_b20 {p : Program} {l : Launch} {e : Env} {s : State} {m : MethodId} {args : Array Value} {below : List Frame} {meth : Method} {c : Code} {D : va_G} {tc : Tc} {ad : Nat → Nat} {A : Nat → Prop} {M : St} {rr : Int32} {II : St} (hX : cx p s m args c cX7_behave 4 RX7 D tc ad A) (hr : meth.sig.returnType = some .int) (hlk : meth.locks = false) : ∀ (I : St), f_X7_behave_b20 I = some (rr, II) → ∀ (H : Heap) (locs : List Loc) (ls : Array Slot), va_P D vwCl (wl tc ad (cmb I M)) H → va_S A s.heap H locs → lv_has ls 4 [] → W p l e rm_X7_behave s m args below meth c H locs 0 0 (MQ below (qi D tc ad A rr (cmb II M)) args s 0 0 A) (F0 m 20 ls []) := by
  intro I h H locs ls hP hS hl
  unfold f_X7_behave_b20 at h
  have hx := hX.1
  have hb := hX.2.1
  have hown := hX.2.2.2.1
  have hts := hX.2.2.2.2.1
  have hA := hX.2.2.2.2.2.2
  refine lv_iconst (v := (-1)) hx hb dX7_behave_20 kc_im1 ?_
  cases h
  exact j_iret hX hr hlk hP hS dX7_behave_21
set_option maxHeartbeats 4000000 in
set_option maxRecDepth 100000 in
theorem c_X7_behave {l : Launch} {D : va_G} {tc : Tc} {ad : Nat → Nat} {A : Nat → Prop} (hA : adok ad A) {I M : St} {v1 : Int32} {v2 : Int32} {rr : Int32} {II : St} (h : f_X7_behave v1 v2 I = some (rr, II)) : Met l yX7_behave (Cond.code yX7_behave cX7_behave 4 (some .int) :: tw) rm_X7_behave (pre D tc ad [.ref (ad 145), .int v1, .int v2] (cmb I M)) (qi D tc ad A rr (cmb II M)) 0 0 A := by
  unfold f_X7_behave at h
  refine mk_met (own := RX7) (by decide +kernel) rfl hA (Nat.le_of_ble_eq_true rfl) ?_
  intro p e s m below meth c ls hX hr hlk hl hP hS
  have hl : lv_has ls 4 [(0, .ref (ad 145)), (1, .int v1), (2, .int v2)] := hl
  have hx := hX.1
  have hb := hX.2.1
  have hown := hX.2.2.2.1
  have hts := hX.2.2.2.2.1
  refine lv_aload_n hx hb dX7_behave_0 rfl (lv_at hl 0 rfl) ?_
  refine r_getq (t := 0) hX hP cok5 0 sl_145 sk_145 (by decide) rfl q243 dX7_behave_1 ?_
  refine lv_iload_n hx hb dX7_behave_4 rfl (lv_at hl 1 rfl) ?_
  obtain ⟨r2, e1, h⟩ := ob1_some h
  refine j_i (j_runV (rest := []) hX hP hl.1 Y_X4_isParticipant cok3 (lt157 sl_0) sk_0 (c_X4_isParticipant hA e1) ⟨rfl, rfl⟩ q331 ⟨Nat.le_of_ble_eq_true rfl, Nat.le_of_ble_eq_true rfl⟩ rfl rfl (Nat.le_of_ble_eq_true rfl) dX7_behave_5) hS (fun H locs hP hS => ?_)
  refine x_if_eq (tgt := 20) hx hb dX7_behave_8 (by decide) h (fun c3 h => ?_) (fun c3 h => ?_)
  · exact t_X7_behave_b20 hX hr hlk  _ h _ _ _ hP hS (lv_sub hl [] rfl)
  · refine lv_iload_n hx hb dX7_behave_11 rfl (lv_at hl 2 rfl) ?_
    refine lv_iconst (v := 0) hx hb dX7_behave_12 kc_i0 ?_
    refine lv_iconst (v := 3) hx hb dX7_behave_13 kc_i3 ?_
    obtain ⟨r5, e4, h⟩ := ob1_some h
    refine j_i (j_runS (rest := []) hX hP hl.1 Y_X7_isWithin (c_X7_isWithin hA e4) ⟨rfl, rfl⟩ q258 ⟨Nat.le_of_ble_eq_true rfl, Nat.le_of_ble_eq_true rfl⟩ rfl rfl (Nat.le_of_ble_eq_true rfl) dX7_behave_14) hS (fun H locs hP hS => ?_)
    refine x_if_ne (tgt := 22) hx hb dX7_behave_17 (by decide) h (fun c6 h => ?_) (fun c6 h => ?_)
    · refine lv_aload_n hx hb dX7_behave_22 rfl (lv_at hl 0 rfl) ?_
      refine r_getq (t := 146) hX hP cok5 1 sl_145 sk_145 (by decide) rfl q244 dX7_behave_23 ?_
      refine lv_aload_n hx hb dX7_behave_26 rfl (lv_at hl 0 rfl) ?_
      refine r_getq (t := 0) hX hP cok5 0 sl_145 sk_145 (by decide) rfl q243 dX7_behave_27 ?_
      obtain ⟨I8, e7, h⟩ := ob1_some h
      refine j_v (j_runV (rest := []) hX hP hl.1 Y_X3_remember cok2 (lt157 sl_146) sk_146 (c_X3_remember hA e7) ⟨rfl, rfl⟩ q261 ⟨Nat.le_of_ble_eq_true rfl, Nat.le_of_ble_eq_true rfl⟩ rfl rfl (Nat.le_of_ble_eq_true rfl) dX7_behave_30) hS (fun H locs hP hS => ?_)
      refine lv_aload_n hx hb dX7_behave_33 rfl (lv_at hl 0 rfl) ?_
      refine r_getq (t := 0) hX hP cok5 0 sl_145 sk_145 (by decide) rfl q243 dX7_behave_34 ?_
      refine r_getq (t := 1) hX hP cok3 0 sl_0 sk_0 (by decide) rfl q139 dX7_behave_37 ?_
      refine lv_iload_n hx hb dX7_behave_40 rfl (lv_at hl 1 rfl) ?_
      refine r_ldq hX hP h (lt157 sl_1) sk_1 sn_1 dX7_behave_41 (fun g9 h => ?_)
      refine r_get hX hP cok4 1 (isP_lt (isP_of g9)) (isP_kd (isP_of g9)) (by decide) rfl q87 dX7_behave_42 ?_
      refine x_let h (fun x10 h => ?_)
      refine lv_istore_n (lv' := [(3, .int x10), (0, .ref (ad 145)), (1, .int v1), (2, .int v2)]) hx hb dX7_behave_45 rfl hl (Nat.le_of_ble_eq_true rfl) rfl (fun ls hl => ?_)
      refine lv_aload_n hx hb dX7_behave_46 rfl (lv_at hl 1 rfl) ?_
      refine r_getq (t := 0) hX hP cok5 0 sl_145 sk_145 (by decide) rfl q243 dX7_behave_47 ?_
      refine r_getq (t := 1) hX hP cok3 0 sl_0 sk_0 (by decide) rfl q139 dX7_behave_50 ?_
      refine lv_iload_n hx hb dX7_behave_53 rfl (lv_at hl 2 rfl) ?_
      refine r_ldq hX hP h (lt157 sl_1) sk_1 sn_1 dX7_behave_54 (fun g11 h => ?_)
      refine lv_iload_n hx hb dX7_behave_55 rfl (lv_at hl 3 rfl) ?_
      refine r_put hX hP hS cok4 1 h (isP_lt (isP_of g11)) (isP_kd (isP_of g11)) (by decide) rfl rfl q87 rfl dX7_behave_56 (fun I12 H locs h hP hS => ?_)
      refine lv_iload_n hx hb dX7_behave_59 rfl (lv_at hl 0 rfl) ?_
      cases h
      exact j_iret hX hr hlk hP hS dX7_behave_60
    · exact t_X7_behave_b20 hX hr hlk  _ h _ _ _ hP hS (lv_sub hl [] rfl)
/-! OwnerlessCoin.settingError(III)I -/
def rm_X7_settingError : Room := { frames := 1, cells := 0, slots := 0, locals := 22 }
theorem Y_X7_settingError : yv yX7_settingError cX7_settingError 4 (some .int) 3 RX7 := ⟨q297, q296, q1, q12, by decide +kernel⟩
set_option maxHeartbeats 4000000 in
set_option maxRecDepth 100000 in
theorem t_X7_settingError_b27 {p : Program} {l : Launch} {e : Env} {s : State} {m : MethodId} {args : Array Value} {below : List Frame} {meth : Method} {c : Code} {D : va_G} {tc : Tc} {ad : Nat → Nat} {A : Nat → Prop} {M : St} {rr : Int32} (hX : cx p s m args c cX7_settingError 4 RX7 D tc ad A) (hr : meth.sig.returnType = some .int) (hlk : meth.locks = false) : ∀ (t0 : Int32) (I : St), f_X7_settingError_b27 t0 I = some rr → ∀ (H : Heap) (locs : List Loc) (ls : Array Slot), va_P D vwCl (wl tc ad (cmb I M)) H → va_S A s.heap H locs → lv_has ls 4 [] → W p l e rm_X7_settingError s m args below meth c H locs 0 0 (MQ below (qi D tc ad A rr (cmb I M)) args s 0 0 A) (F0 m 27 ls [.int t0]) := by
  intro t0 I h H locs ls hP hS hl
  unfold f_X7_settingError_b27 at h
  have hx := hX.1
  have hb := hX.2.1
  have hown := hX.2.2.2.1
  have hts := hX.2.2.2.2.1
  have hA := hX.2.2.2.2.2.2
  cases h
  exact j_iret hX hr hlk hP hS dX7_settingError_27
set_option maxHeartbeats 4000000 in
set_option maxRecDepth 100000 in
theorem c_X7_settingError {l : Launch} {D : va_G} {tc : Tc} {ad : Nat → Nat} {A : Nat → Prop} (hA : adok ad A) {I M : St} {v1 : Int32} {v2 : Int32} {v3 : Int32} {rr : Int32} (h : f_X7_settingError v1 v2 v3 I = some rr) : Met l yX7_settingError (Cond.code yX7_settingError cX7_settingError 4 (some .int) :: tw) rm_X7_settingError (pre D tc ad [.ref (ad 145), .int v1, .int v2, .int v3] (cmb I M)) (qi D tc ad A rr (cmb I M)) 0 0 A := by
  unfold f_X7_settingError at h
  refine mk_met (own := RX7) (by decide +kernel) rfl hA (Nat.le_of_ble_eq_true rfl) ?_
  intro p e s m below meth c ls hX hr hlk hl hP hS
  have hl : lv_has ls 4 [(0, .ref (ad 145)), (1, .int v1), (2, .int v2), (3, .int v3)] := hl
  have hx := hX.1
  have hb := hX.2.1
  have hown := hX.2.2.2.1
  have hts := hX.2.2.2.2.1
  refine lv_iload_n hx hb dX7_settingError_0 rfl (lv_at hl 1 rfl) ?_
  refine lv_iload_n hx hb dX7_settingError_1 rfl (lv_at hl 2 rfl) ?_
  refine lv_iload_n hx hb dX7_settingError_2 rfl (lv_at hl 3 rfl) ?_
  obtain ⟨r2, e1, h⟩ := ob1_some h
  refine j_i (j_runS (rest := []) hX hP hl.1 Y_X7_isWithin (c_X7_isWithin hA e1) ⟨rfl, rfl⟩ q258 ⟨Nat.le_of_ble_eq_true rfl, Nat.le_of_ble_eq_true rfl⟩ rfl rfl (Nat.le_of_ble_eq_true rfl) dX7_settingError_3) hS (fun H locs hP hS => ?_)
  refine x_if_ne (tgt := 11) hx hb dX7_settingError_6 (by decide) h (fun c3 h => ?_) (fun c3 h => ?_)
  · refine lv_aload_n hx hb dX7_settingError_11 rfl (lv_at hl 0 rfl) ?_
    refine r_getq (t := 0) hX hP cok5 0 sl_145 sk_145 (by decide) rfl q243 dX7_settingError_12 ?_
    refine r_get hX hP cok3 9 sl_0 sk_0 (by decide) rfl q162 dX7_settingError_15 ?_
    refine x_if_ne (tgt := 25) hx hb dX7_settingError_18 (by decide) h (fun c4 h => ?_) (fun c4 h => ?_)
    · refine lv_bipush (v := (-2)) hx hb dX7_settingError_25 kc_bm2 ?_
      exact t_X7_settingError_b27 hX hr hlk  _ _ h _ _ _ hP hS (lv_sub hl [] rfl)
    · refine lv_iconst (v := 0) hx hb dX7_settingError_21 kc_i0 ?_
      refine lv_goto (tgt := 27) hx hb dX7_settingError_22 (by decide) ?_
      exact t_X7_settingError_b27 hX hr hlk  _ _ h _ _ _ hP hS (lv_sub hl [] rfl)
  · refine lv_iconst (v := (-1)) hx hb dX7_settingError_9 kc_im1 ?_
    cases h
    exact j_iret hX hr hlk hP hS dX7_settingError_10
/-! OwnerlessCoin.setMethod(I)I -/
def rm_X7_setMethod : Room := { frames := 4, cells := 0, slots := 0, locals := 94 }
theorem Y_X7_setMethod : yv yX7_setMethod cX7_setMethod 4 (some .int) 1 RX7 := ⟨q358, q356, q357, q12, by decide +kernel⟩
set_option maxHeartbeats 4000000 in
set_option maxRecDepth 100000 in
theorem c_X7_setMethod {l : Launch} {D : va_G} {tc : Tc} {ad : Nat → Nat} {A : Nat → Prop} (hA : adok ad A) {I M : St} {v1 : Int32} {rr : Int32} {II : St} (h : f_X7_setMethod v1 I = some (rr, II)) : Met l yX7_setMethod (Cond.code yX7_setMethod cX7_setMethod 4 (some .int) :: tw) rm_X7_setMethod (pre D tc ad [.ref (ad 145), .int v1] (cmb I M)) (qi D tc ad A rr (cmb II M)) 0 0 A := by
  unfold f_X7_setMethod at h
  refine mk_met (own := RX7) (by decide +kernel) rfl hA (Nat.le_of_ble_eq_true rfl) ?_
  intro p e s m below meth c ls hX hr hlk hl hP hS
  have hl : lv_has ls 4 [(0, .ref (ad 145)), (1, .int v1)] := hl
  have hx := hX.1
  have hb := hX.2.1
  have hown := hX.2.2.2.1
  have hts := hX.2.2.2.2.1
  refine lv_aload_n hx hb dX7_setMethod_0 rfl (lv_at hl 0 rfl) ?_
  refine lv_iload_n hx hb dX7_setMethod_1 rfl (lv_at hl 1 rfl) ?_
  refine lv_iconst (v := 0) hx hb dX7_setMethod_2 kc_i0 ?_
  refine lv_iconst (v := 2) hx hb dX7_setMethod_3 kc_i2 ?_
  obtain ⟨r2, e1, h⟩ := ob1_some h
  refine j_i (j_runV (rest := []) hX hP hl.1 Y_X7_settingError cok5 (lt157 sl_145) sk_145 (c_X7_settingError hA e1) ⟨rfl, rfl⟩ q294 ⟨Nat.le_of_ble_eq_true rfl, Nat.le_of_ble_eq_true rfl⟩ rfl rfl (Nat.le_of_ble_eq_true rfl) dX7_setMethod_4) hS (fun H locs hP hS => ?_)
  refine lv_istore_n (lv' := [(2, .int r2), (0, .ref (ad 145)), (1, .int v1)]) hx hb dX7_setMethod_7 rfl hl (Nat.le_of_ble_eq_true rfl) rfl (fun ls hl => ?_)
  refine lv_iload_n hx hb dX7_setMethod_8 rfl (lv_at hl 0 rfl) ?_
  refine x_if_ge (tgt := 14) hx hb dX7_setMethod_9 (by decide) h (fun c3 h => ?_) (fun c3 h => ?_)
  · refine lv_aload_n hx hb dX7_setMethod_14 rfl (lv_at hl 1 rfl) ?_
    refine r_getq (t := 146) hX hP cok5 1 sl_145 sk_145 (by decide) rfl q244 dX7_setMethod_15 ?_
    refine lv_aload_n hx hb dX7_setMethod_18 rfl (lv_at hl 1 rfl) ?_
    refine r_getq (t := 0) hX hP cok5 0 sl_145 sk_145 (by decide) rfl q243 dX7_setMethod_19 ?_
    obtain ⟨I5, e4, h⟩ := ob1_some h
    refine j_v (j_runV (rest := []) hX hP hl.1 Y_X3_remember cok2 (lt157 sl_146) sk_146 (c_X3_remember hA e4) ⟨rfl, rfl⟩ q261 ⟨Nat.le_of_ble_eq_true rfl, Nat.le_of_ble_eq_true rfl⟩ rfl rfl (Nat.le_of_ble_eq_true rfl) dX7_setMethod_22) hS (fun H locs hP hS => ?_)
    refine lv_aload_n hx hb dX7_setMethod_25 rfl (lv_at hl 1 rfl) ?_
    refine r_getq (t := 0) hX hP cok5 0 sl_145 sk_145 (by decide) rfl q243 dX7_setMethod_26 ?_
    refine r_get hX hP cok3 5 sl_0 sk_0 (by decide) rfl q153 dX7_setMethod_29 ?_
    refine x_let h (fun x6 h => ?_)
    refine lv_istore_n (lv' := [(3, .int x6), (2, .int r2), (0, .ref (ad 145)), (1, .int v1)]) hx hb dX7_setMethod_32 rfl hl (Nat.le_of_ble_eq_true rfl) rfl (fun ls hl => ?_)
    refine lv_aload_n hx hb dX7_setMethod_33 rfl (lv_at hl 2 rfl) ?_
    refine r_getq (t := 0) hX hP cok5 0 sl_145 sk_145 (by decide) rfl q243 dX7_setMethod_34 ?_
    refine lv_iload_n hx hb dX7_setMethod_37 rfl (lv_at hl 3 rfl) ?_
    refine r_put hX hP hS cok3 5 h sl_0 sk_0 (by decide) rfl rfl q153 rfl dX7_setMethod_38 (fun I7 H locs h hP hS => ?_)
    refine lv_iload_n hx hb dX7_setMethod_41 rfl (lv_at hl 0 rfl) ?_
    cases h
    exact j_iret hX hr hlk hP hS dX7_setMethod_42
  · refine lv_iload_n hx hb dX7_setMethod_12 rfl (lv_at hl 0 rfl) ?_
    cases h
    exact j_iret hX hr hlk hP hS dX7_setMethod_13
/-! OwnerlessCoin.setThreshold(I)I -/
def rm_X7_setThreshold : Room := { frames := 4, cells := 0, slots := 0, locals := 94 }
theorem Y_X7_setThreshold : yv yX7_setThreshold cX7_setThreshold 4 (some .int) 1 RX7 := ⟨q362, q360, q361, q12, by decide +kernel⟩
set_option maxHeartbeats 4000000 in
set_option maxRecDepth 100000 in
theorem c_X7_setThreshold {l : Launch} {D : va_G} {tc : Tc} {ad : Nat → Nat} {A : Nat → Prop} (hA : adok ad A) {I M : St} {v1 : Int32} {rr : Int32} {II : St} (h : f_X7_setThreshold v1 I = some (rr, II)) : Met l yX7_setThreshold (Cond.code yX7_setThreshold cX7_setThreshold 4 (some .int) :: tw) rm_X7_setThreshold (pre D tc ad [.ref (ad 145), .int v1] (cmb I M)) (qi D tc ad A rr (cmb II M)) 0 0 A := by
  unfold f_X7_setThreshold at h
  refine mk_met (own := RX7) (by decide +kernel) rfl hA (Nat.le_of_ble_eq_true rfl) ?_
  intro p e s m below meth c ls hX hr hlk hl hP hS
  have hl : lv_has ls 4 [(0, .ref (ad 145)), (1, .int v1)] := hl
  have hx := hX.1
  have hb := hX.2.1
  have hown := hX.2.2.2.1
  have hts := hX.2.2.2.2.1
  refine lv_aload_n hx hb dX7_setThreshold_0 rfl (lv_at hl 0 rfl) ?_
  refine lv_iload_n hx hb dX7_setThreshold_1 rfl (lv_at hl 1 rfl) ?_
  refine lv_iconst (v := 1) hx hb dX7_setThreshold_2 kc_i1 ?_
  refine lv_bipush (v := 8) hx hb dX7_setThreshold_3 kc_b8 ?_
  obtain ⟨r2, e1, h⟩ := ob1_some h
  refine j_i (j_runV (rest := []) hX hP hl.1 Y_X7_settingError cok5 (lt157 sl_145) sk_145 (c_X7_settingError hA e1) ⟨rfl, rfl⟩ q294 ⟨Nat.le_of_ble_eq_true rfl, Nat.le_of_ble_eq_true rfl⟩ rfl rfl (Nat.le_of_ble_eq_true rfl) dX7_setThreshold_5) hS (fun H locs hP hS => ?_)
  refine lv_istore_n (lv' := [(2, .int r2), (0, .ref (ad 145)), (1, .int v1)]) hx hb dX7_setThreshold_8 rfl hl (Nat.le_of_ble_eq_true rfl) rfl (fun ls hl => ?_)
  refine lv_iload_n hx hb dX7_setThreshold_9 rfl (lv_at hl 0 rfl) ?_
  refine x_if_ge (tgt := 15) hx hb dX7_setThreshold_10 (by decide) h (fun c3 h => ?_) (fun c3 h => ?_)
  · refine lv_aload_n hx hb dX7_setThreshold_15 rfl (lv_at hl 1 rfl) ?_
    refine r_getq (t := 146) hX hP cok5 1 sl_145 sk_145 (by decide) rfl q244 dX7_setThreshold_16 ?_
    refine lv_aload_n hx hb dX7_setThreshold_19 rfl (lv_at hl 1 rfl) ?_
    refine r_getq (t := 0) hX hP cok5 0 sl_145 sk_145 (by decide) rfl q243 dX7_setThreshold_20 ?_
    obtain ⟨I5, e4, h⟩ := ob1_some h
    refine j_v (j_runV (rest := []) hX hP hl.1 Y_X3_remember cok2 (lt157 sl_146) sk_146 (c_X3_remember hA e4) ⟨rfl, rfl⟩ q261 ⟨Nat.le_of_ble_eq_true rfl, Nat.le_of_ble_eq_true rfl⟩ rfl rfl (Nat.le_of_ble_eq_true rfl) dX7_setThreshold_23) hS (fun H locs hP hS => ?_)
    refine lv_aload_n hx hb dX7_setThreshold_26 rfl (lv_at hl 1 rfl) ?_
    refine r_getq (t := 0) hX hP cok5 0 sl_145 sk_145 (by decide) rfl q243 dX7_setThreshold_27 ?_
    refine r_get hX hP cok3 6 sl_0 sk_0 (by decide) rfl q156 dX7_setThreshold_30 ?_
    refine x_let h (fun x6 h => ?_)
    refine lv_istore_n (lv' := [(3, .int x6), (2, .int r2), (0, .ref (ad 145)), (1, .int v1)]) hx hb dX7_setThreshold_33 rfl hl (Nat.le_of_ble_eq_true rfl) rfl (fun ls hl => ?_)
    refine lv_aload_n hx hb dX7_setThreshold_34 rfl (lv_at hl 2 rfl) ?_
    refine r_getq (t := 0) hX hP cok5 0 sl_145 sk_145 (by decide) rfl q243 dX7_setThreshold_35 ?_
    refine lv_iload_n hx hb dX7_setThreshold_38 rfl (lv_at hl 3 rfl) ?_
    refine r_put hX hP hS cok3 6 h sl_0 sk_0 (by decide) rfl rfl q156 rfl dX7_setThreshold_39 (fun I7 H locs h hP hS => ?_)
    refine lv_iload_n hx hb dX7_setThreshold_42 rfl (lv_at hl 0 rfl) ?_
    cases h
    exact j_iret hX hr hlk hP hS dX7_setThreshold_43
  · refine lv_iload_n hx hb dX7_setThreshold_13 rfl (lv_at hl 0 rfl) ?_
    cases h
    exact j_iret hX hr hlk hP hS dX7_setThreshold_14
/-! OwnerlessCoin.setFine(I)I -/
def rm_X7_setFine : Room := { frames := 4, cells := 0, slots := 0, locals := 94 }
theorem Y_X7_setFine : yv yX7_setFine cX7_setFine 4 (some .int) 1 RX7 := ⟨q293, q291, q292, q12, by decide +kernel⟩
set_option maxHeartbeats 4000000 in
set_option maxRecDepth 100000 in
theorem c_X7_setFine {l : Launch} {D : va_G} {tc : Tc} {ad : Nat → Nat} {A : Nat → Prop} (hA : adok ad A) {I M : St} {v1 : Int32} {rr : Int32} {II : St} (h : f_X7_setFine v1 I = some (rr, II)) : Met l yX7_setFine (Cond.code yX7_setFine cX7_setFine 4 (some .int) :: tw) rm_X7_setFine (pre D tc ad [.ref (ad 145), .int v1] (cmb I M)) (qi D tc ad A rr (cmb II M)) 0 0 A := by
  unfold f_X7_setFine at h
  refine mk_met (own := RX7) (by decide +kernel) rfl hA (Nat.le_of_ble_eq_true rfl) ?_
  intro p e s m below meth c ls hX hr hlk hl hP hS
  have hl : lv_has ls 4 [(0, .ref (ad 145)), (1, .int v1)] := hl
  have hx := hX.1
  have hb := hX.2.1
  have hown := hX.2.2.2.1
  have hts := hX.2.2.2.2.1
  refine lv_aload_n hx hb dX7_setFine_0 rfl (lv_at hl 0 rfl) ?_
  refine lv_iload_n hx hb dX7_setFine_1 rfl (lv_at hl 1 rfl) ?_
  refine lv_iconst (v := 0) hx hb dX7_setFine_2 kc_i0 ?_
  refine lv_sipush (v := 1000) hx hb dX7_setFine_3 kc_s1000 ?_
  obtain ⟨r2, e1, h⟩ := ob1_some h
  refine j_i (j_runV (rest := []) hX hP hl.1 Y_X7_settingError cok5 (lt157 sl_145) sk_145 (c_X7_settingError hA e1) ⟨rfl, rfl⟩ q294 ⟨Nat.le_of_ble_eq_true rfl, Nat.le_of_ble_eq_true rfl⟩ rfl rfl (Nat.le_of_ble_eq_true rfl) dX7_setFine_6) hS (fun H locs hP hS => ?_)
  refine lv_istore_n (lv' := [(2, .int r2), (0, .ref (ad 145)), (1, .int v1)]) hx hb dX7_setFine_9 rfl hl (Nat.le_of_ble_eq_true rfl) rfl (fun ls hl => ?_)
  refine lv_iload_n hx hb dX7_setFine_10 rfl (lv_at hl 0 rfl) ?_
  refine x_if_ge (tgt := 16) hx hb dX7_setFine_11 (by decide) h (fun c3 h => ?_) (fun c3 h => ?_)
  · refine lv_aload_n hx hb dX7_setFine_16 rfl (lv_at hl 1 rfl) ?_
    refine r_getq (t := 146) hX hP cok5 1 sl_145 sk_145 (by decide) rfl q244 dX7_setFine_17 ?_
    refine lv_aload_n hx hb dX7_setFine_20 rfl (lv_at hl 1 rfl) ?_
    refine r_getq (t := 0) hX hP cok5 0 sl_145 sk_145 (by decide) rfl q243 dX7_setFine_21 ?_
    obtain ⟨I5, e4, h⟩ := ob1_some h
    refine j_v (j_runV (rest := []) hX hP hl.1 Y_X3_remember cok2 (lt157 sl_146) sk_146 (c_X3_remember hA e4) ⟨rfl, rfl⟩ q261 ⟨Nat.le_of_ble_eq_true rfl, Nat.le_of_ble_eq_true rfl⟩ rfl rfl (Nat.le_of_ble_eq_true rfl) dX7_setFine_24) hS (fun H locs hP hS => ?_)
    refine lv_aload_n hx hb dX7_setFine_27 rfl (lv_at hl 1 rfl) ?_
    refine r_getq (t := 0) hX hP cok5 0 sl_145 sk_145 (by decide) rfl q243 dX7_setFine_28 ?_
    refine r_get hX hP cok3 7 sl_0 sk_0 (by decide) rfl q158 dX7_setFine_31 ?_
    refine x_let h (fun x6 h => ?_)
    refine lv_istore_n (lv' := [(3, .int x6), (2, .int r2), (0, .ref (ad 145)), (1, .int v1)]) hx hb dX7_setFine_34 rfl hl (Nat.le_of_ble_eq_true rfl) rfl (fun ls hl => ?_)
    refine lv_aload_n hx hb dX7_setFine_35 rfl (lv_at hl 2 rfl) ?_
    refine r_getq (t := 0) hX hP cok5 0 sl_145 sk_145 (by decide) rfl q243 dX7_setFine_36 ?_
    refine lv_iload_n hx hb dX7_setFine_39 rfl (lv_at hl 3 rfl) ?_
    refine r_put hX hP hS cok3 7 h sl_0 sk_0 (by decide) rfl rfl q158 rfl dX7_setFine_40 (fun I7 H locs h hP hS => ?_)
    refine lv_iload_n hx hb dX7_setFine_43 rfl (lv_at hl 0 rfl) ?_
    cases h
    exact j_iret hX hr hlk hP hS dX7_setFine_44
  · refine lv_iload_n hx hb dX7_setFine_14 rfl (lv_at hl 0 rfl) ?_
    cases h
    exact j_iret hX hr hlk hP hS dX7_setFine_15
/-! OwnerlessCoin.setDelay(I)I -/
def rm_X7_setDelay : Room := { frames := 4, cells := 0, slots := 0, locals := 94 }
theorem Y_X7_setDelay : yv yX7_setDelay cX7_setDelay 4 (some .int) 1 RX7 := ⟨q366, q364, q365, q12, by decide +kernel⟩
set_option maxHeartbeats 4000000 in
set_option maxRecDepth 100000 in
theorem c_X7_setDelay {l : Launch} {D : va_G} {tc : Tc} {ad : Nat → Nat} {A : Nat → Prop} (hA : adok ad A) {I M : St} {v1 : Int32} {rr : Int32} {II : St} (h : f_X7_setDelay v1 I = some (rr, II)) : Met l yX7_setDelay (Cond.code yX7_setDelay cX7_setDelay 4 (some .int) :: tw) rm_X7_setDelay (pre D tc ad [.ref (ad 145), .int v1] (cmb I M)) (qi D tc ad A rr (cmb II M)) 0 0 A := by
  unfold f_X7_setDelay at h
  refine mk_met (own := RX7) (by decide +kernel) rfl hA (Nat.le_of_ble_eq_true rfl) ?_
  intro p e s m below meth c ls hX hr hlk hl hP hS
  have hl : lv_has ls 4 [(0, .ref (ad 145)), (1, .int v1)] := hl
  have hx := hX.1
  have hb := hX.2.1
  have hown := hX.2.2.2.1
  have hts := hX.2.2.2.2.1
  refine lv_aload_n hx hb dX7_setDelay_0 rfl (lv_at hl 0 rfl) ?_
  refine lv_iload_n hx hb dX7_setDelay_1 rfl (lv_at hl 1 rfl) ?_
  refine lv_iconst (v := 1) hx hb dX7_setDelay_2 kc_i1 ?_
  refine lv_sipush (v := 5000) hx hb dX7_setDelay_3 kc_s5000 ?_
  obtain ⟨r2, e1, h⟩ := ob1_some h
  refine j_i (j_runV (rest := []) hX hP hl.1 Y_X7_settingError cok5 (lt157 sl_145) sk_145 (c_X7_settingError hA e1) ⟨rfl, rfl⟩ q294 ⟨Nat.le_of_ble_eq_true rfl, Nat.le_of_ble_eq_true rfl⟩ rfl rfl (Nat.le_of_ble_eq_true rfl) dX7_setDelay_6) hS (fun H locs hP hS => ?_)
  refine lv_istore_n (lv' := [(2, .int r2), (0, .ref (ad 145)), (1, .int v1)]) hx hb dX7_setDelay_9 rfl hl (Nat.le_of_ble_eq_true rfl) rfl (fun ls hl => ?_)
  refine lv_iload_n hx hb dX7_setDelay_10 rfl (lv_at hl 0 rfl) ?_
  refine x_if_ge (tgt := 16) hx hb dX7_setDelay_11 (by decide) h (fun c3 h => ?_) (fun c3 h => ?_)
  · refine lv_aload_n hx hb dX7_setDelay_16 rfl (lv_at hl 1 rfl) ?_
    refine r_getq (t := 146) hX hP cok5 1 sl_145 sk_145 (by decide) rfl q244 dX7_setDelay_17 ?_
    refine lv_aload_n hx hb dX7_setDelay_20 rfl (lv_at hl 1 rfl) ?_
    refine r_getq (t := 0) hX hP cok5 0 sl_145 sk_145 (by decide) rfl q243 dX7_setDelay_21 ?_
    obtain ⟨I5, e4, h⟩ := ob1_some h
    refine j_v (j_runV (rest := []) hX hP hl.1 Y_X3_remember cok2 (lt157 sl_146) sk_146 (c_X3_remember hA e4) ⟨rfl, rfl⟩ q261 ⟨Nat.le_of_ble_eq_true rfl, Nat.le_of_ble_eq_true rfl⟩ rfl rfl (Nat.le_of_ble_eq_true rfl) dX7_setDelay_24) hS (fun H locs hP hS => ?_)
    refine lv_aload_n hx hb dX7_setDelay_27 rfl (lv_at hl 1 rfl) ?_
    refine r_getq (t := 0) hX hP cok5 0 sl_145 sk_145 (by decide) rfl q243 dX7_setDelay_28 ?_
    refine r_get hX hP cok3 8 sl_0 sk_0 (by decide) rfl q160 dX7_setDelay_31 ?_
    refine x_let h (fun x6 h => ?_)
    refine lv_istore_n (lv' := [(3, .int x6), (2, .int r2), (0, .ref (ad 145)), (1, .int v1)]) hx hb dX7_setDelay_34 rfl hl (Nat.le_of_ble_eq_true rfl) rfl (fun ls hl => ?_)
    refine lv_aload_n hx hb dX7_setDelay_35 rfl (lv_at hl 2 rfl) ?_
    refine r_getq (t := 0) hX hP cok5 0 sl_145 sk_145 (by decide) rfl q243 dX7_setDelay_36 ?_
    refine lv_iload_n hx hb dX7_setDelay_39 rfl (lv_at hl 3 rfl) ?_
    refine r_put hX hP hS cok3 8 h sl_0 sk_0 (by decide) rfl rfl q160 rfl dX7_setDelay_40 (fun I7 H locs h hP hS => ?_)
    refine lv_iload_n hx hb dX7_setDelay_43 rfl (lv_at hl 0 rfl) ?_
    cases h
    exact j_iret hX hr hlk hP hS dX7_setDelay_44
  · refine lv_iload_n hx hb dX7_setDelay_14 rfl (lv_at hl 0 rfl) ?_
    cases h
    exact j_iret hX hr hlk hP hS dX7_setDelay_15
/-! OwnerlessCoin$Lab.ableToPay()I -/
def rm_X4_ableToPay : Room := { frames := 0, cells := 0, slots := 0, locals := 0 }
theorem Y_X4_ableToPay : yv yX4_ableToPay cX4_ableToPay 3 (some .int) 0 RX4 := ⟨q580, q579, q10, q13, by decide +kernel⟩
set_option maxHeartbeats 4000000 in
set_option maxRecDepth 100000 in
theorem t_X4_ableToPay_b40 {p : Program} {l : Launch} {e : Env} {s : State} {m : MethodId} {args : Array Value} {below : List Frame} {meth : Method} {c : Code} {D : va_G} {tc : Tc} {ad : Nat → Nat} {A : Nat → Prop} {M : St} {rr : Int32} (hX : cx p s m args c cX4_ableToPay 3 RX4 D tc ad A) (hr : meth.sig.returnType = some .int) (hlk : meth.locks = false) {K4 : Int32 → Int32 → St → Option (Int32)} (hK4 : ∀ (v1 : Int32) (v2 : Int32) (I : St), K4 v1 v2 I = some rr → ∀ (H : Heap) (locs : List Loc) (ls : Array Slot), va_P D vwCl (wl tc ad (cmb I M)) H → va_S A s.heap H locs → lv_has ls 3 [(0, .ref (ad 0)), (1, .int v1), (2, .int v2)] → W p l e rm_X4_ableToPay s m args below meth c H locs 0 0 (MQ below (qi D tc ad A rr (cmb I M)) args s 0 0 A) (F0 m 4 ls [])) : ∀ (v1 : Int32) (v2 : Int32) (I : St), f_X4_ableToPay_b40 K4 v1 v2 I = some rr → ∀ (H : Heap) (locs : List Loc) (ls : Array Slot), va_P D vwCl (wl tc ad (cmb I M)) H → va_S A s.heap H locs → lv_has ls 3 [(0, .ref (ad 0)), (1, .int v1), (2, .int v2)] → W p l e rm_X4_ableToPay s m args below meth c H locs 0 0 (MQ below (qi D tc ad A rr (cmb I M)) args s 0 0 A) (F0 m 40 ls []) := by
  intro v1 v2 I h H locs ls hP hS hl
  unfold f_X4_ableToPay_b40 at h
  have hx := hX.1
  have hb := hX.2.1
  have hown := hX.2.2.2.1
  have hts := hX.2.2.2.2.1
  have hA := hX.2.2.2.2.2.2
  refine lv_iinc (v := (v2 + 1)) (lv' := [(2, .int (v2 + 1)), (0, .ref (ad 0)), (1, .int v1)]) hx hb dX4_ableToPay_40 hl (k := 2) rfl rfl (Nat.le_of_ble_eq_true rfl) rfl (fun ls hl => ?_)
  refine lv_goto (tgt := 4) hx hb dX4_ableToPay_43 (by decide) ?_
  exact hK4 _ _ _ h _ _ _ hP hS (lv_sub hl [1, 2, 0] rfl)
set_option maxHeartbeats 4000000 in
set_option maxRecDepth 100000 in
theorem t_X4_ableToPay_l4 {p : Program} {l : Launch} {e : Env} {s : State} {m : MethodId} {args : Array Value} {below : List Frame} {meth : Method} {c : Code} {D : va_G} {tc : Tc} {ad : Nat → Nat} {A : Nat → Prop} {M : St} {rr : Int32} (hX : cx p s m args c cX4_ableToPay 3 RX4 D tc ad A) (hr : meth.sig.returnType = some .int) (hlk : meth.locks = false) : ∀ (n : Nat), ∀ (v1 : Int32) (v2 : Int32) (I : St), f_X4_ableToPay_l4 n v1 v2 I = some rr → ∀ (H : Heap) (locs : List Loc) (ls : Array Slot), va_P D vwCl (wl tc ad (cmb I M)) H → va_S A s.heap H locs → lv_has ls 3 [(0, .ref (ad 0)), (1, .int v1), (2, .int v2)] → W p l e rm_X4_ableToPay s m args below meth c H locs 0 0 (MQ below (qi D tc ad A rr (cmb I M)) args s 0 0 A) (F0 m 4 ls []) := by
  intro n
  induction n with
  | zero =>
    intro _ _ _ h
    cases h
  | succ n ih =>
    intro v1 v2 I h H locs ls hP hS hl
    rw [f_X4_ableToPay_l4] at h
    have hx := hX.1
    have hb := hX.2.1
    have hown := hX.2.2.2.1
    have hts := hX.2.2.2.2.1
    have hA := hX.2.2.2.2.2.2
    refine lv_iload_n hx hb dX4_ableToPay_4 rfl (lv_at hl 2 rfl) ?_
    refine lv_bipush (v := 8) hx hb dX4_ableToPay_5 kc_b8 ?_
    refine x_icmp_ge (tgt := 46) hx hb dX4_ableToPay_7 (by decide) h (fun c1 h => ?_) (fun c1 h => ?_)
    · refine lv_iload_n hx hb dX4_ableToPay_46 rfl (lv_at hl 1 rfl) ?_
      cases h
      exact j_iret hX hr hlk hP hS dX4_ableToPay_47
    · refine lv_iload_n hx hb dX4_ableToPay_10 rfl (lv_at hl 2 rfl) ?_
      refine lv_aload_n hx hb dX4_ableToPay_11 rfl (lv_at hl 0 rfl) ?_
      refine r_get hX hP cok3 3 sl_0 sk_0 (by decide) rfl q148 dX4_ableToPay_12 ?_
      refine x_icmp_ge (tgt := 40) hx hb dX4_ableToPay_15 (by decide) h (fun c2 h => ?_) (fun c2 h => ?_)
      · exact t_X4_ableToPay_b40 hX hr hlk ih _ _ _ h _ _ _ hP hS (lv_sub hl [0, 1, 2] rfl)
      · refine lv_aload_n hx hb dX4_ableToPay_18 rfl (lv_at hl 0 rfl) ?_
        refine r_getq (t := 1) hX hP cok3 0 sl_0 sk_0 (by decide) rfl q138 dX4_ableToPay_19 ?_
        refine lv_iload_n hx hb dX4_ableToPay_22 rfl (lv_at hl 2 rfl) ?_
        refine r_ldq hX hP h (lt157 sl_1) sk_1 sn_1 dX4_ableToPay_23 (fun g3 h => ?_)
        refine r_get hX hP cok4 0 (isP_lt (isP_of g3)) (isP_kd (isP_of g3)) (by decide) rfl q84 dX4_ableToPay_24 ?_
        refine x_let h (fun x4 h => ?_)
        refine lv_aload_n hx hb dX4_ableToPay_27 rfl (lv_at hl 0 rfl) ?_
        refine r_get hX hP cok3 7 sl_0 sk_0 (by decide) rfl q157 dX4_ableToPay_28 ?_
        refine x_icmp_lt (tgt := 40) hx hb dX4_ableToPay_31 (by decide) h (fun c5 h => ?_) (fun c5 h => ?_)
        · exact t_X4_ableToPay_b40 hX hr hlk ih _ _ _ h _ _ _ hP hS (lv_sub hl [0, 1, 2] rfl)
        · refine lv_iload_n hx hb dX4_ableToPay_34 rfl (lv_at hl 1 rfl) ?_
          refine lv_iconst (v := 1) hx hb dX4_ableToPay_35 kc_i1 ?_
          refine lv_iload_n hx hb dX4_ableToPay_36 rfl (lv_at hl 2 rfl) ?_
          refine lv_ishl hx hb dX4_ableToPay_37 ?_
          refine lv_ior hx hb dX4_ableToPay_38 ?_
          refine x_let h (fun x6 h => ?_)
          refine lv_istore_n (lv' := [(1, .int x6), (0, .ref (ad 0)), (2, .int v2)]) hx hb dX4_ableToPay_39 rfl hl (Nat.le_of_ble_eq_true rfl) rfl (fun ls hl => ?_)
          exact t_X4_ableToPay_b40 hX hr hlk ih _ _ _ h _ _ _ hP hS (lv_sub hl [1, 0, 2] rfl)
set_option maxHeartbeats 4000000 in
set_option maxRecDepth 100000 in
theorem c_X4_ableToPay {l : Launch} {D : va_G} {tc : Tc} {ad : Nat → Nat} {A : Nat → Prop} (hA : adok ad A) {I M : St}  {rr : Int32} (h : f_X4_ableToPay I = some rr) : Met l yX4_ableToPay (Cond.code yX4_ableToPay cX4_ableToPay 3 (some .int) :: tw) rm_X4_ableToPay (pre D tc ad [.ref (ad 0)] (cmb I M)) (qi D tc ad A rr (cmb I M)) 0 0 A := by
  unfold f_X4_ableToPay at h
  refine mk_met (own := RX4) (by decide +kernel) rfl hA (Nat.le_of_ble_eq_true rfl) ?_
  intro p e s m below meth c ls hX hr hlk hl hP hS
  have hl : lv_has ls 3 [(0, .ref (ad 0))] := hl
  have hx := hX.1
  have hb := hX.2.1
  have hown := hX.2.2.2.1
  have hts := hX.2.2.2.2.1
  refine lv_iconst (v := 0) hx hb dX4_ableToPay_0 kc_i0 ?_
  refine lv_istore_n (lv' := [(1, .int 0), (0, .ref (ad 0))]) hx hb dX4_ableToPay_1 rfl hl (Nat.le_of_ble_eq_true rfl) rfl (fun ls hl => ?_)
  refine lv_iconst (v := 0) hx hb dX4_ableToPay_2 kc_i0 ?_
  refine lv_istore_n (lv' := [(2, .int 0), (1, .int 0), (0, .ref (ad 0))]) hx hb dX4_ableToPay_3 rfl hl (Nat.le_of_ble_eq_true rfl) rfl (fun ls hl => ?_)
  exact t_X4_ableToPay_l4 hX hr hlk  10000 _ _ _ h _ _ _ hP hS (lv_sub hl [2, 1, 0] rfl)
