/-! OwnerlessCoin.longestRun()I -/
def rm_X7_longestRun : Room := { frames := 0, cells := 0, slots := 0, locals := 0 }
theorem Y_X7_longestRun : yv yX7_longestRun cX7_longestRun 1 (some .int) 0 RX7 := ⟨q753, q751, q752, q51, by decide +kernel⟩
set_option maxHeartbeats 4000000 in
set_option maxRecDepth 100000 in
theorem c_X7_longestRun {l : Launch} {D : va_G} {tc : Tc} {ad : Nat → Nat} {A : Nat → Prop} (hA : adok ad A) {I M : St}  {rr : Int32} (h : f_X7_longestRun I = some rr) : Met l yX7_longestRun (Cond.code yX7_longestRun cX7_longestRun 1 (some .int) :: tw) rm_X7_longestRun (pre D tc ad [.ref (ad 145)] (cmb I M)) (qi D tc ad A rr (cmb I M)) 0 0 A := by
  unfold f_X7_longestRun at h
  refine mk_met (own := RX7) (by decide +kernel) rfl hA (Nat.le_of_ble_eq_true rfl) ?_
  intro p e s m below meth c ls hX hr hlk hl hP hS
  have hl : lv_has ls 1 [(0, .ref (ad 145))] := hl
  have hx := hX.1
  have hb := hX.2.1
  have hown := hX.2.2.2.1
  have hts := hX.2.2.2.2.1
  refine lv_aload_n hx hb dX7_longestRun_0 rfl (lv_at hl 0 rfl) ?_
  refine r_getq (t := 0) hX hP cok5 0 sl_145 sk_145 (by decide) rfl q286 dX7_longestRun_1 ?_
  refine r_getq (t := 3) hX hP cok3 2 sl_0 sk_0 (by decide) rfl q189 dX7_longestRun_4 ?_
  refine r_get hX hP cok0 4 sl_3 sk_3 (by decide) rfl q96 dX7_longestRun_7 ?_
  cases h
  exact j_iret hX hr hlk hP hS dX7_longestRun_10
/-! OwnerlessCoin$History.restore(LOwnerlessCoin$Lab;)V -/
def rm_X3_restore : Room := { frames := 3, cells := 0, slots := 0, locals := 73 }
theorem Y_X3_restore : yv yX3_restore cX3_restore 2 none 1 RX3 := ⟨q761, q759, q760, q55, by decide +kernel⟩
set_option maxHeartbeats 4000000 in
set_option maxRecDepth 100000 in
theorem t_X3_restore_b16 {p : Program} {l : Launch} {e : Env} {s : State} {m : MethodId} {args : Array Value} {below : List Frame} {meth : Method} {c : Code} {D : va_G} {tc : Tc} {ad : Nat → Nat} {A : Nat → Prop} {M : St} {II : St} (hX : cx p s m args c cX3_restore 2 RX3 D tc ad A) (hr : meth.sig.returnType = none) (hlk : meth.locks = false) : ∀ (I : St), f_X3_restore_b16 I = some II → ∀ (H : Heap) (locs : List Loc) (ls : Array Slot), va_P D vwCl (wl tc ad (cmb I M)) H → va_S A s.heap H locs → lv_has ls 2 [] → W p l e rm_X3_restore s m args below meth c H locs 0 0 (MQ below (qv D tc ad A (cmb II M)) args s 0 0 A) (F0 m 16 ls []) := by
  intro I h H locs ls hP hS hl
  unfold f_X3_restore_b16 at h
  have hx := hX.1
  have hb := hX.2.1
  have hown := hX.2.2.2.1
  have hts := hX.2.2.2.2.1
  have hA := hX.2.2.2.2.2.2
  cases h
  exact j_vret hX hr hlk hP hS dX3_restore_16
set_option maxHeartbeats 4000000 in
set_option maxRecDepth 100000 in
theorem c_X3_restore {l : Launch} {D : va_G} {tc : Tc} {ad : Nat → Nat} {A : Nat → Prop} (hA : adok ad A) {I M : St}  {II : St} (h : f_X3_restore I = some II) : Met l yX3_restore (Cond.code yX3_restore cX3_restore 2 none :: tw) rm_X3_restore (pre D tc ad [.ref (ad 146), .ref (ad 0)] (cmb I M)) (qv D tc ad A (cmb II M)) 0 0 A := by
  unfold f_X3_restore at h
  refine mk_met (own := RX3) (by decide +kernel) rfl hA (Nat.le_of_ble_eq_true rfl) ?_
  intro p e s m below meth c ls hX hr hlk hl hP hS
  have hl : lv_has ls 2 [(0, .ref (ad 146)), (1, .ref (ad 0))] := hl
  have hx := hX.1
  have hb := hX.2.1
  have hown := hX.2.2.2.1
  have hts := hX.2.2.2.2.1
  refine lv_aload_n hx hb dX3_restore_0 rfl (lv_at hl 0 rfl) ?_
  refine r_get hX hP cok2 1 sl_146 sk_146 (by decide) rfl q257 dX3_restore_1 ?_
  refine x_let h (fun x1 h => ?_)
  refine lv_iconst (v := 1) hx hb dX3_restore_4 kc_i1 ?_
  refine x_icmp_lt (tgt := 16) hx hb dX3_restore_5 (by decide) h (fun c2 h => ?_) (fun c2 h => ?_)
  · exact t_X3_restore_b16 hX hr hlk  _ h _ _ _ hP hS (lv_sub hl [] rfl)
  · refine lv_aload_n hx hb dX3_restore_8 rfl (lv_at hl 0 rfl) ?_
    refine r_get hX hP cok2 1 sl_146 sk_146 (by decide) rfl q257 dX3_restore_9 ?_
    refine x_let h (fun x3 h => ?_)
    refine lv_iconst (v := 4) hx hb dX3_restore_12 kc_i4 ?_
    refine x_icmp_le (tgt := 17) hx hb dX3_restore_13 (by decide) h (fun c4 h => ?_) (fun c4 h => ?_)
    · refine lv_aload_n hx hb dX3_restore_17 rfl (lv_at hl 0 rfl) ?_
      refine lv_dup hx hb dX3_restore_18 rfl ?_
      refine r_get hX hP cok2 1 sl_146 sk_146 (by decide) rfl q257 dX3_restore_19 ?_
      refine x_let h (fun x5 h => ?_)
      refine lv_iconst (v := 1) hx hb dX3_restore_22 kc_i1 ?_
      refine lv_isub hx hb dX3_restore_23 ?_
      refine r_put hX hP hS cok2 1 h sl_146 sk_146 (by decide) rfl rfl q257 rfl dX3_restore_24 (fun I6 H locs h hP hS => ?_)
      refine lv_aload_n hx hb dX3_restore_27 rfl (lv_at hl 1 rfl) ?_
      refine lv_aload_n hx hb dX3_restore_28 rfl (lv_at hl 0 rfl) ?_
      refine r_getq (t := 147) hX hP cok2 0 sl_146 sk_146 (by decide) rfl q256 dX3_restore_29 ?_
      refine lv_aload_n hx hb dX3_restore_32 rfl (lv_at hl 0 rfl) ?_
      refine r_get hX hP cok2 1 sl_146 sk_146 (by decide) rfl q257 dX3_restore_33 ?_
      refine x_let h (fun x7 h => ?_)
      refine r_ldL hX hP h sl_147 sk_147 sn_147 dX3_restore_36 (fun h => ?_)
      obtain ⟨x8, ex8⟩ : ∃ z, z = I6 147 x7.toNatClampNeg := ⟨_, rfl⟩
      rw [← ex8] at h ⊢
      obtain ⟨g9, h⟩ := ck_some (show ck (inb x8 5) _ = some _ from h)
      obtain ⟨I11, e10, h⟩ := ob1_some h
      refine j_v (j_runV (rest := []) hX hP hl.1 Y_X4_copy cok3 (lt157 sl_0) sk_0 (c_X4_copy hA e10) ⟨rfl, rfl⟩ q312 ⟨Nat.le_of_ble_eq_true rfl, Nat.le_of_ble_eq_true rfl⟩ rfl rfl (Nat.le_of_ble_eq_true rfl) dX3_restore_37) hS (fun H locs hP hS => ?_)
      cases h
      exact j_vret hX hr hlk hP hS dX3_restore_40
    · exact t_X3_restore_b16 hX hr hlk  _ h _ _ _ hP hS (lv_sub hl [] rfl)
/-! OwnerlessCoin.undo()I -/
def rm_X7_undo : Room := { frames := 4, cells := 0, slots := 0, locals := 94 }
theorem Y_X7_undo : yv yX7_undo cX7_undo 1 (some .int) 0 RX7 := ⟨q757, q755, q756, q51, by decide +kernel⟩
set_option maxHeartbeats 4000000 in
set_option maxRecDepth 100000 in
theorem c_X7_undo {l : Launch} {D : va_G} {tc : Tc} {ad : Nat → Nat} {A : Nat → Prop} (hA : adok ad A) {I M : St}  {rr : Int32} {II : St} (h : f_X7_undo I = some (rr, II)) : Met l yX7_undo (Cond.code yX7_undo cX7_undo 1 (some .int) :: tw) rm_X7_undo (pre D tc ad [.ref (ad 145)] (cmb I M)) (qi D tc ad A rr (cmb II M)) 0 0 A := by
  unfold f_X7_undo at h
  refine mk_met (own := RX7) (by decide +kernel) rfl hA (Nat.le_of_ble_eq_true rfl) ?_
  intro p e s m below meth c ls hX hr hlk hl hP hS
  have hl : lv_has ls 1 [(0, .ref (ad 145))] := hl
  have hx := hX.1
  have hb := hX.2.1
  have hown := hX.2.2.2.1
  have hts := hX.2.2.2.2.1
  refine lv_aload_n hx hb dX7_undo_0 rfl (lv_at hl 0 rfl) ?_
  refine r_getq (t := 146) hX hP cok5 1 sl_145 sk_145 (by decide) rfl q287 dX7_undo_1 ?_
  refine r_get hX hP cok2 1 sl_146 sk_146 (by decide) rfl q258 dX7_undo_4 ?_
  refine x_if_ne (tgt := 13) hx hb dX7_undo_7 (by decide) h (fun c1 h => ?_) (fun c1 h => ?_)
  · refine lv_aload_n hx hb dX7_undo_13 rfl (lv_at hl 0 rfl) ?_
    refine r_getq (t := 146) hX hP cok5 1 sl_145 sk_145 (by decide) rfl q287 dX7_undo_14 ?_
    refine lv_aload_n hx hb dX7_undo_17 rfl (lv_at hl 0 rfl) ?_
    refine r_getq (t := 0) hX hP cok5 0 sl_145 sk_145 (by decide) rfl q286 dX7_undo_18 ?_
    obtain ⟨I3, e2, h⟩ := ob1_some h
    refine j_v (j_runV (rest := []) hX hP hl.1 Y_X3_restore cok2 (lt157 sl_146) sk_146 (c_X3_restore hA e2) ⟨rfl, rfl⟩ q758 ⟨Nat.le_of_ble_eq_true rfl, Nat.le_of_ble_eq_true rfl⟩ rfl rfl (Nat.le_of_ble_eq_true rfl) dX7_undo_21) hS (fun H locs hP hS => ?_)
    refine lv_aload_n hx hb dX7_undo_24 rfl (lv_at hl 0 rfl) ?_
    refine r_getq (t := 146) hX hP cok5 1 sl_145 sk_145 (by decide) rfl q287 dX7_undo_25 ?_
    refine r_get hX hP cok2 1 sl_146 sk_146 (by decide) rfl q258 dX7_undo_28 ?_
    cases h
    exact j_iret hX hr hlk hP hS dX7_undo_31
  · refine lv_bipush (v := (-2)) hx hb dX7_undo_10 kc_bm2 ?_
    cases h
    exact j_iret hX hr hlk hP hS dX7_undo_12
/-! OwnerlessCoin.fingerprint()J -/
def rm_X7_fingerprint : Room := { frames := 3, cells := 0, slots := 0, locals := 63 }
theorem Y_X7_fingerprint : yv yX7_fingerprint cX7_fingerprint 5 (some .long) 0 RX7 := ⟨q765, q763, q764, q51, by decide +kernel⟩
set_option maxHeartbeats 4000000 in
set_option maxRecDepth 100000 in
theorem t_X7_fingerprint_l74 {p : Program} {l : Launch} {e : Env} {s : State} {m : MethodId} {args : Array Value} {below : List Frame} {meth : Method} {c : Code} {D : va_G} {tc : Tc} {ad : Nat → Nat} {A : Nat → Prop} {M : St} {rr : Int64} (hX : cx p s m args c cX7_fingerprint 5 RX7 D tc ad A) (hr : meth.sig.returnType = some .long) (hlk : meth.locks = false) {K60 : Int64 → Int32 → St → Option (Int64)} (hK60 : ∀ (v1 : Int64) (v3 : Int32) (I : St), K60 v1 v3 I = some rr → ∀ (H : Heap) (locs : List Loc) (ls : Array Slot), va_P D vwCl (wl tc ad (cmb I M)) H → va_S A s.heap H locs → lv_has ls 5 [(0, .ref (ad 145)), (1, .long v1), (3, .int v3)] → W p l e rm_X7_fingerprint s m args below meth c H locs 0 0 (MQ below (ql D tc ad A rr (cmb I M)) args s 0 0 A) (F0 m 60 ls [])) : ∀ (n : Nat), ∀ (v1 : Int64) (v3 : Int32) (v4 : Int32) (I : St), f_X7_fingerprint_l74 K60 n v1 v3 v4 I = some rr → ∀ (H : Heap) (locs : List Loc) (ls : Array Slot), va_P D vwCl (wl tc ad (cmb I M)) H → va_S A s.heap H locs → lv_has ls 5 [(0, .ref (ad 145)), (1, .long v1), (3, .int v3), (4, .int v4)] → W p l e rm_X7_fingerprint s m args below meth c H locs 0 0 (MQ below (ql D tc ad A rr (cmb I M)) args s 0 0 A) (F0 m 74 ls []) := by
  intro n
  induction n with
  | zero =>
    intro _ _ _ _ h
    cases h
  | succ n ih =>
    intro v1 v3 v4 I h H locs ls hP hS hl
    rw [f_X7_fingerprint_l74] at h
    have hx := hX.1
    have hb := hX.2.1
    have hown := hX.2.2.2.1
    have hts := hX.2.2.2.2.1
    have hA := hX.2.2.2.2.2.2
    refine lv_iload hx hb dX7_fingerprint_74 (lv_at hl 3 rfl) ?_
    refine lv_iconst (v := 4) hx hb dX7_fingerprint_76 kc_i4 ?_
    refine x_icmp_gt (tgt := 101) hx hb dX7_fingerprint_77 (by decide) h (fun c1 h => ?_) (fun c1 h => ?_)
    · refine lv_iinc (v := (v3 + 1)) (lv' := [(3, .int (v3 + 1)), (0, .ref (ad 145)), (1, .long v1), (4, .int v4)]) hx hb dX7_fingerprint_101 hl (k := 2) rfl rfl (Nat.le_of_ble_eq_true rfl) rfl (fun ls hl => ?_)
      refine lv_goto (tgt := 60) hx hb dX7_fingerprint_104 (by decide) ?_
      exact hK60 _ _ _ h _ _ _ hP hS (lv_sub hl [1, 2, 0] rfl)
    · refine lv_ldc2 (v := 31) hx hb hown (hts _ q767) dX7_fingerprint_80 ?_
      refine lv_lload_n hx hb dX7_fingerprint_83 rfl (lv_at hl 1 rfl) ?_
      refine lv_lmul hx hb dX7_fingerprint_84 ?_
      refine x_letL h (fun y2 h => ?_)
      refine lv_aload_n hx hb dX7_fingerprint_85 rfl (lv_at hl 0 rfl) ?_
      refine lv_iload_n hx hb dX7_fingerprint_86 rfl (lv_at hl 2 rfl) ?_
      refine lv_iload hx hb dX7_fingerprint_87 (lv_at hl 3 rfl) ?_
      obtain ⟨r4, e3, h⟩ := ob1_some h
      refine j_i (j_runV (rest := [.long y2]) hX hP hl.1 Y_X7_account cok5 (lt157 sl_145) sk_145 (c_X7_account hA e3) ⟨rfl, rfl⟩ q771 ⟨Nat.le_of_ble_eq_true rfl, Nat.le_of_ble_eq_true rfl⟩ rfl rfl (Nat.le_of_ble_eq_true rfl) dX7_fingerprint_89) hS (fun H locs hP hS => ?_)
      refine lv_i2l (v := r4.toInt64) hx hb dX7_fingerprint_92 rfl ?_
      refine lv_ladd hx hb dX7_fingerprint_93 ?_
      refine x_letL h (fun y5 h => ?_)
      refine lv_lstore_n (lv' := [(1, .long y5), (0, .ref (ad 145)), (3, .int v3), (4, .int v4)]) hx hb dX7_fingerprint_94 rfl hl (Nat.le_of_ble_eq_true rfl) rfl (fun ls hl => ?_)
      refine lv_iinc (v := (v4 + 1)) (lv' := [(4, .int (v4 + 1)), (1, .long y5), (0, .ref (ad 145)), (3, .int v3)]) hx hb dX7_fingerprint_95 hl (k := 3) rfl rfl (Nat.le_of_ble_eq_true rfl) rfl (fun ls hl => ?_)
      refine lv_goto (tgt := 74) hx hb dX7_fingerprint_98 (by decide) ?_
      exact ih _ _ _ _ h _ _ _ hP hS (lv_sub hl [2, 1, 3, 0] rfl)
set_option maxHeartbeats 4000000 in
set_option maxRecDepth 100000 in
theorem t_X7_fingerprint_l147 {p : Program} {l : Launch} {e : Env} {s : State} {m : MethodId} {args : Array Value} {below : List Frame} {meth : Method} {c : Code} {D : va_G} {tc : Tc} {ad : Nat → Nat} {A : Nat → Prop} {M : St} {rr : Int64} (hX : cx p s m args c cX7_fingerprint 5 RX7 D tc ad A) (hr : meth.sig.returnType = some .long) (hlk : meth.locks = false) : ∀ (n : Nat), ∀ (v1 : Int64) (v3 : Int32) (I : St), f_X7_fingerprint_l147 n v1 v3 I = some rr → ∀ (H : Heap) (locs : List Loc) (ls : Array Slot), va_P D vwCl (wl tc ad (cmb I M)) H → va_S A s.heap H locs → lv_has ls 5 [(0, .ref (ad 145)), (1, .long v1), (3, .int v3)] → W p l e rm_X7_fingerprint s m args below meth c H locs 0 0 (MQ below (ql D tc ad A rr (cmb I M)) args s 0 0 A) (F0 m 147 ls []) := by
  intro n
  induction n with
  | zero =>
    intro _ _ _ h
    cases h
  | succ n ih =>
    intro v1 v3 I h H locs ls hP hS hl
    rw [f_X7_fingerprint_l147] at h
    have hx := hX.1
    have hb := hX.2.1
    have hown := hX.2.2.2.1
    have hts := hX.2.2.2.2.1
    have hA := hX.2.2.2.2.2.2
    refine lv_iload_n hx hb dX7_fingerprint_147 rfl (lv_at hl 2 rfl) ?_
    refine lv_aload_n hx hb dX7_fingerprint_148 rfl (lv_at hl 0 rfl) ?_
    refine r_getq (t := 0) hX hP cok5 0 sl_145 sk_145 (by decide) rfl q286 dX7_fingerprint_149 ?_
    refine r_get hX hP cok3 3 sl_0 sk_0 (by decide) rfl q190 dX7_fingerprint_152 ?_
    refine x_icmp_ge (tgt := 177) hx hb dX7_fingerprint_155 (by decide) h (fun c6 h => ?_) (fun c6 h => ?_)
    · refine lv_lload_n hx hb dX7_fingerprint_177 rfl (lv_at hl 1 rfl) ?_
      cases h
      exact j_lret hX hr hlk hP hS dX7_fingerprint_178
    · refine lv_ldc2 (v := 31) hx hb hown (hts _ q767) dX7_fingerprint_158 ?_
      refine lv_lload_n hx hb dX7_fingerprint_161 rfl (lv_at hl 1 rfl) ?_
      refine lv_lmul hx hb dX7_fingerprint_162 ?_
      refine x_letL h (fun y7 h => ?_)
      refine lv_aload_n hx hb dX7_fingerprint_163 rfl (lv_at hl 0 rfl) ?_
      refine lv_iload_n hx hb dX7_fingerprint_164 rfl (lv_at hl 2 rfl) ?_
      obtain ⟨r9, e8, h⟩ := ob1_some h
      refine j_i (j_runV (rest := [.long y7]) hX hP hl.1 Y_X7_digest cok5 (lt157 sl_145) sk_145 (c_X7_digest hA e8) ⟨rfl, rfl⟩ q773 ⟨Nat.le_of_ble_eq_true rfl, Nat.le_of_ble_eq_true rfl⟩ rfl rfl (Nat.le_of_ble_eq_true rfl) dX7_fingerprint_165) hS (fun H locs hP hS => ?_)
      refine lv_i2l (v := r9.toInt64) hx hb dX7_fingerprint_168 rfl ?_
      refine lv_ladd hx hb dX7_fingerprint_169 ?_
      refine x_letL h (fun y10 h => ?_)
      refine lv_lstore_n (lv' := [(1, .long y10), (0, .ref (ad 145)), (3, .int v3)]) hx hb dX7_fingerprint_170 rfl hl (Nat.le_of_ble_eq_true rfl) rfl (fun ls hl => ?_)
      refine lv_iinc (v := (v3 + 1)) (lv' := [(3, .int (v3 + 1)), (1, .long y10), (0, .ref (ad 145))]) hx hb dX7_fingerprint_171 hl (k := 2) rfl rfl (Nat.le_of_ble_eq_true rfl) rfl (fun ls hl => ?_)
      refine lv_goto (tgt := 147) hx hb dX7_fingerprint_174 (by decide) ?_
      exact ih _ _ _ h _ _ _ hP hS (lv_sub hl [2, 1, 0] rfl)
set_option maxHeartbeats 4000000 in
set_option maxRecDepth 100000 in
theorem t_X7_fingerprint_l121 {p : Program} {l : Launch} {e : Env} {s : State} {m : MethodId} {args : Array Value} {below : List Frame} {meth : Method} {c : Code} {D : va_G} {tc : Tc} {ad : Nat → Nat} {A : Nat → Prop} {M : St} {rr : Int64} (hX : cx p s m args c cX7_fingerprint 5 RX7 D tc ad A) (hr : meth.sig.returnType = some .long) (hlk : meth.locks = false) : ∀ (n : Nat), ∀ (v1 : Int64) (v3 : Int32) (I : St), f_X7_fingerprint_l121 n v1 v3 I = some rr → ∀ (H : Heap) (locs : List Loc) (ls : Array Slot), va_P D vwCl (wl tc ad (cmb I M)) H → va_S A s.heap H locs → lv_has ls 5 [(0, .ref (ad 145)), (1, .long v1), (3, .int v3)] → W p l e rm_X7_fingerprint s m args below meth c H locs 0 0 (MQ below (ql D tc ad A rr (cmb I M)) args s 0 0 A) (F0 m 121 ls []) := by
  intro n
  induction n with
  | zero =>
    intro _ _ _ h
    cases h
  | succ n ih =>
    intro v1 v3 I h H locs ls hP hS hl
    rw [f_X7_fingerprint_l121] at h
    have hx := hX.1
    have hb := hX.2.1
    have hown := hX.2.2.2.1
    have hts := hX.2.2.2.2.1
    have hA := hX.2.2.2.2.2.2
    refine lv_iload_n hx hb dX7_fingerprint_121 rfl (lv_at hl 2 rfl) ?_
    refine lv_iconst (v := 3) hx hb dX7_fingerprint_122 kc_i3 ?_
    refine x_icmp_gt (tgt := 145) hx hb dX7_fingerprint_123 (by decide) h (fun c11 h => ?_) (fun c11 h => ?_)
    · refine lv_iconst (v := 0) hx hb dX7_fingerprint_145 kc_i0 ?_
      refine lv_istore_n (lv' := [(3, .int 0), (0, .ref (ad 145)), (1, .long v1)]) hx hb dX7_fingerprint_146 rfl hl (Nat.le_of_ble_eq_true rfl) rfl (fun ls hl => ?_)
      exact t_X7_fingerprint_l147 hX hr hlk  10000 _ _ _ h _ _ _ hP hS (lv_sub hl [1, 2, 0] rfl)
    · refine lv_ldc2 (v := 31) hx hb hown (hts _ q767) dX7_fingerprint_126 ?_
      refine lv_lload_n hx hb dX7_fingerprint_129 rfl (lv_at hl 1 rfl) ?_
      refine lv_lmul hx hb dX7_fingerprint_130 ?_
      refine x_letL h (fun y12 h => ?_)
      refine lv_aload_n hx hb dX7_fingerprint_131 rfl (lv_at hl 0 rfl) ?_
      refine lv_iload_n hx hb dX7_fingerprint_132 rfl (lv_at hl 2 rfl) ?_
      obtain ⟨r14, e13, h⟩ := ob1_some h
      refine j_i (j_runV (rest := [.long y12]) hX hP hl.1 Y_X7_set cok5 (lt157 sl_145) sk_145 (c_X7_set hA e13) ⟨rfl, rfl⟩ q772 ⟨Nat.le_of_ble_eq_true rfl, Nat.le_of_ble_eq_true rfl⟩ rfl rfl (Nat.le_of_ble_eq_true rfl) dX7_fingerprint_133) hS (fun H locs hP hS => ?_)
      refine lv_i2l (v := r14.toInt64) hx hb dX7_fingerprint_136 rfl ?_
      refine lv_ladd hx hb dX7_fingerprint_137 ?_
      refine x_letL h (fun y15 h => ?_)
      refine lv_lstore_n (lv' := [(1, .long y15), (0, .ref (ad 145)), (3, .int v3)]) hx hb dX7_fingerprint_138 rfl hl (Nat.le_of_ble_eq_true rfl) rfl (fun ls hl => ?_)
      refine lv_iinc (v := (v3 + 1)) (lv' := [(3, .int (v3 + 1)), (1, .long y15), (0, .ref (ad 145))]) hx hb dX7_fingerprint_139 hl (k := 2) rfl rfl (Nat.le_of_ble_eq_true rfl) rfl (fun ls hl => ?_)
      refine lv_goto (tgt := 121) hx hb dX7_fingerprint_142 (by decide) ?_
      exact ih _ _ _ h _ _ _ hP hS (lv_sub hl [2, 1, 0] rfl)
set_option maxHeartbeats 4000000 in
set_option maxRecDepth 100000 in
theorem t_X7_fingerprint_l60 {p : Program} {l : Launch} {e : Env} {s : State} {m : MethodId} {args : Array Value} {below : List Frame} {meth : Method} {c : Code} {D : va_G} {tc : Tc} {ad : Nat → Nat} {A : Nat → Prop} {M : St} {rr : Int64} (hX : cx p s m args c cX7_fingerprint 5 RX7 D tc ad A) (hr : meth.sig.returnType = some .long) (hlk : meth.locks = false) : ∀ (n : Nat), ∀ (v1 : Int64) (v3 : Int32) (I : St), f_X7_fingerprint_l60 n v1 v3 I = some rr → ∀ (H : Heap) (locs : List Loc) (ls : Array Slot), va_P D vwCl (wl tc ad (cmb I M)) H → va_S A s.heap H locs → lv_has ls 5 [(0, .ref (ad 145)), (1, .long v1), (3, .int v3)] → W p l e rm_X7_fingerprint s m args below meth c H locs 0 0 (MQ below (ql D tc ad A rr (cmb I M)) args s 0 0 A) (F0 m 60 ls []) := by
  intro n
  induction n with
  | zero =>
    intro _ _ _ h
    cases h
  | succ n ih =>
    intro v1 v3 I h H locs ls hP hS hl
    rw [f_X7_fingerprint_l60] at h
    have hx := hX.1
    have hb := hX.2.1
    have hown := hX.2.2.2.1
    have hts := hX.2.2.2.2.1
    have hA := hX.2.2.2.2.2.2
    refine lv_iload_n hx hb dX7_fingerprint_60 rfl (lv_at hl 2 rfl) ?_
    refine lv_aload_n hx hb dX7_fingerprint_61 rfl (lv_at hl 0 rfl) ?_
    refine r_getq (t := 0) hX hP cok5 0 sl_145 sk_145 (by decide) rfl q286 dX7_fingerprint_62 ?_
    refine r_get hX hP cok3 3 sl_0 sk_0 (by decide) rfl q190 dX7_fingerprint_65 ?_
    refine x_icmp_ge (tgt := 107) hx hb dX7_fingerprint_68 (by decide) h (fun c16 h => ?_) (fun c16 h => ?_)
    · refine lv_aload_n hx hb dX7_fingerprint_107 rfl (lv_at hl 0 rfl) ?_
      refine r_getq (t := 0) hX hP cok5 0 sl_145 sk_145 (by decide) rfl q286 dX7_fingerprint_108 ?_
      refine r_get hX hP cok3 9 sl_0 sk_0 (by decide) rfl q205 dX7_fingerprint_111 ?_
      refine x_if_ne (tgt := 119) hx hb dX7_fingerprint_114 (by decide) h (fun c17 h => ?_) (fun c17 h => ?_)
      · refine lv_iconst (v := 0) hx hb dX7_fingerprint_119 kc_i0 ?_
        refine lv_istore_n (lv' := [(3, .int 0), (0, .ref (ad 145)), (1, .long v1)]) hx hb dX7_fingerprint_120 rfl hl (Nat.le_of_ble_eq_true rfl) rfl (fun ls hl => ?_)
        exact t_X7_fingerprint_l121 hX hr hlk  10000 _ _ _ h _ _ _ hP hS (lv_sub hl [1, 2, 0] rfl)
      · refine lv_lload_n hx hb dX7_fingerprint_117 rfl (lv_at hl 1 rfl) ?_
        cases h
        exact j_lret hX hr hlk hP hS dX7_fingerprint_118
    · refine lv_iconst (v := 0) hx hb dX7_fingerprint_71 kc_i0 ?_
      refine lv_istore (lv' := [(4, .int 0), (0, .ref (ad 145)), (1, .long v1), (3, .int v3)]) hx hb dX7_fingerprint_72 hl (Nat.le_of_ble_eq_true rfl) rfl (fun ls hl => ?_)
      exact t_X7_fingerprint_l74 hX hr hlk ih 10000 _ _ _ _ h _ _ _ hP hS (lv_sub hl [1, 2, 3, 0] rfl)
set_option maxHeartbeats 4000000 in
set_option maxRecDepth 100000 in
theorem c_X7_fingerprint {l : Launch} {D : va_G} {tc : Tc} {ad : Nat → Nat} {A : Nat → Prop} (hA : adok ad A) {I M : St}  {rr : Int64} (h : f_X7_fingerprint I = some rr) : Met l yX7_fingerprint (Cond.code yX7_fingerprint cX7_fingerprint 5 (some .long) :: tw) rm_X7_fingerprint (pre D tc ad [.ref (ad 145)] (cmb I M)) (ql D tc ad A rr (cmb I M)) 0 0 A := by
  unfold f_X7_fingerprint at h
  refine mk_met (own := RX7) (by decide +kernel) rfl hA (Nat.le_of_ble_eq_true rfl) ?_
  intro p e s m below meth c ls hX hr hlk hl hP hS
  have hl : lv_has ls 5 [(0, .ref (ad 145))] := hl
  have hx := hX.1
  have hb := hX.2.1
  have hown := hX.2.2.2.1
  have hts := hX.2.2.2.2.1
  refine lv_ldc2 (v := 23) hx hb hown (hts _ q766) dX7_fingerprint_0 ?_
  refine lv_lstore_n (lv' := [(1, .long 23), (0, .ref (ad 145))]) hx hb dX7_fingerprint_3 rfl hl (Nat.le_of_ble_eq_true rfl) rfl (fun ls hl => ?_)
  refine lv_ldc2 (v := 31) hx hb hown (hts _ q767) dX7_fingerprint_4 ?_
  refine lv_lload_n hx hb dX7_fingerprint_7 rfl (lv_at hl 0 rfl) ?_
  refine lv_lmul hx hb dX7_fingerprint_8 ?_
  refine x_letL h (fun y18 h => ?_)
  refine lv_aload_n hx hb dX7_fingerprint_9 rfl (lv_at hl 1 rfl) ?_
  obtain ⟨r20, e19, h⟩ := ob1_some h
  refine j_i (j_runV (rest := [.long y18]) hX hP hl.1 Y_X7_phase cok5 (lt157 sl_145) sk_145 (c_X7_phase hA e19) ⟨rfl, rfl⟩ q768 ⟨Nat.le_of_ble_eq_true rfl, Nat.le_of_ble_eq_true rfl⟩ rfl rfl (Nat.le_of_ble_eq_true rfl) dX7_fingerprint_10) hS (fun H locs hP hS => ?_)
  refine lv_i2l (v := r20.toInt64) hx hb dX7_fingerprint_13 rfl ?_
  refine lv_ladd hx hb dX7_fingerprint_14 ?_
  refine x_letL h (fun y21 h => ?_)
  refine lv_lstore_n (lv' := [(1, .long y21), (0, .ref (ad 145))]) hx hb dX7_fingerprint_15 rfl hl (Nat.le_of_ble_eq_true rfl) rfl (fun ls hl => ?_)
  refine lv_ldc2 (v := 31) hx hb hown (hts _ q767) dX7_fingerprint_16 ?_
  refine lv_lload_n hx hb dX7_fingerprint_19 rfl (lv_at hl 0 rfl) ?_
  refine lv_lmul hx hb dX7_fingerprint_20 ?_
  refine x_letL h (fun y22 h => ?_)
  refine lv_aload_n hx hb dX7_fingerprint_21 rfl (lv_at hl 1 rfl) ?_
  obtain ⟨r24, e23, h⟩ := ob1_some h
  refine j_i (j_runV (rest := [.long y22]) hX hP hl.1 Y_X7_rounds cok5 (lt157 sl_145) sk_145 (c_X7_rounds hA e23) ⟨rfl, rfl⟩ q769 ⟨Nat.le_of_ble_eq_true rfl, Nat.le_of_ble_eq_true rfl⟩ rfl rfl (Nat.le_of_ble_eq_true rfl) dX7_fingerprint_22) hS (fun H locs hP hS => ?_)
  refine lv_i2l (v := r24.toInt64) hx hb dX7_fingerprint_25 rfl ?_
  refine lv_ladd hx hb dX7_fingerprint_26 ?_
  refine x_letL h (fun y25 h => ?_)
  refine lv_lstore_n (lv' := [(1, .long y25), (0, .ref (ad 145))]) hx hb dX7_fingerprint_27 rfl hl (Nat.le_of_ble_eq_true rfl) rfl (fun ls hl => ?_)
  refine lv_ldc2 (v := 31) hx hb hown (hts _ q767) dX7_fingerprint_28 ?_
  refine lv_lload_n hx hb dX7_fingerprint_31 rfl (lv_at hl 0 rfl) ?_
  refine lv_lmul hx hb dX7_fingerprint_32 ?_
  refine x_letL h (fun y26 h => ?_)
  refine lv_aload_n hx hb dX7_fingerprint_33 rfl (lv_at hl 1 rfl) ?_
  obtain ⟨r28, e27, h⟩ := ob1_some h
  refine j_i (j_runV (rest := [.long y26]) hX hP hl.1 Y_X7_pot cok5 (lt157 sl_145) sk_145 (c_X7_pot hA e27) ⟨rfl, rfl⟩ q770 ⟨Nat.le_of_ble_eq_true rfl, Nat.le_of_ble_eq_true rfl⟩ rfl rfl (Nat.le_of_ble_eq_true rfl) dX7_fingerprint_34) hS (fun H locs hP hS => ?_)
  refine lv_i2l (v := r28.toInt64) hx hb dX7_fingerprint_37 rfl ?_
  refine lv_ladd hx hb dX7_fingerprint_38 ?_
  refine x_letL h (fun y29 h => ?_)
  refine lv_lstore_n (lv' := [(1, .long y29), (0, .ref (ad 145))]) hx hb dX7_fingerprint_39 rfl hl (Nat.le_of_ble_eq_true rfl) rfl (fun ls hl => ?_)
  refine lv_ldc2 (v := 31) hx hb hown (hts _ q767) dX7_fingerprint_40 ?_
  refine lv_lload_n hx hb dX7_fingerprint_43 rfl (lv_at hl 0 rfl) ?_
  refine lv_lmul hx hb dX7_fingerprint_44 ?_
  refine x_letL h (fun y30 h => ?_)
  refine lv_aload_n hx hb dX7_fingerprint_45 rfl (lv_at hl 1 rfl) ?_
  refine r_getq (t := 0) hX hP cok5 0 sl_145 sk_145 (by decide) rfl q286 dX7_fingerprint_46 ?_
  refine r_getq (t := 3) hX hP cok3 2 sl_0 sk_0 (by decide) rfl q189 dX7_fingerprint_49 ?_
  refine r_get hX hP cok0 1 sl_3 sk_3 (by decide) rfl q90 dX7_fingerprint_52 ?_
  refine lv_i2l (v := (I 3 1).toInt64) hx hb dX7_fingerprint_55 rfl ?_
  refine lv_ladd hx hb dX7_fingerprint_56 ?_
  refine x_letL h (fun y31 h => ?_)
  refine lv_lstore_n (lv' := [(1, .long y31), (0, .ref (ad 145))]) hx hb dX7_fingerprint_57 rfl hl (Nat.le_of_ble_eq_true rfl) rfl (fun ls hl => ?_)
  refine lv_iconst (v := 0) hx hb dX7_fingerprint_58 kc_i0 ?_
  refine lv_istore_n (lv' := [(3, .int 0), (1, .long y31), (0, .ref (ad 145))]) hx hb dX7_fingerprint_59 rfl hl (Nat.le_of_ble_eq_true rfl) rfl (fun ls hl => ?_)
  exact t_X7_fingerprint_l60 hX hr hlk  10000 _ _ _ h _ _ _ hP hS (lv_sub hl [2, 1, 0] rfl)
/-! OwnerlessCoinModel.in(III)Z -/
def rm_X8_in : Room := { frames := 0, cells := 0, slots := 0, locals := 0 }
theorem Y_X8_in : ys yX8_in cX8_in 3 (some .boolean) 3 := ⟨q809, q808, q57, by decide +kernel⟩
set_option maxHeartbeats 4000000 in
set_option maxRecDepth 100000 in
theorem t_X8_in_b15 {p : Program} {l : Launch} {e : Env} {s : State} {m : MethodId} {args : Array Value} {below : List Frame} {meth : Method} {c : Code} {D : va_G} {tc : Tc} {ad : Nat → Nat} {A : Nat → Prop} {J : St} {rr : Int32} (hX : cx p s m args c cX8_in 3 RX8 D tc ad A) (hr : meth.sig.returnType = some .boolean) (hlk : meth.locks = false) : ∀ (t0 : Int32), f_X8_in_b15 t0 = some rr → ∀ (H : Heap) (locs : List Loc) (ls : Array Slot), va_P D vwCl (wl tc ad J) H → va_S A s.heap H locs → lv_has ls 3 [] → W p l e rm_X8_in s m args below meth c H locs 0 0 (MQ below (qi D tc ad A rr J) args s 0 0 A) (F0 m 15 ls [.int t0]) := by
  intro t0 h H locs ls hP hS hl
  unfold f_X8_in_b15 at h
  have hx := hX.1
  have hb := hX.2.1
  have hown := hX.2.2.2.1
  have hts := hX.2.2.2.2.1
  have hA := hX.2.2.2.2.2.2
  obtain ⟨gz, h⟩ := ck_some h
  cases h
  exact j_zret hX hr hlk hP hS (isB_or gz) dX8_in_15
set_option maxHeartbeats 4000000 in
set_option maxRecDepth 100000 in
theorem t_X8_in_b14 {p : Program} {l : Launch} {e : Env} {s : State} {m : MethodId} {args : Array Value} {below : List Frame} {meth : Method} {c : Code} {D : va_G} {tc : Tc} {ad : Nat → Nat} {A : Nat → Prop} {J : St} {rr : Int32} (hX : cx p s m args c cX8_in 3 RX8 D tc ad A) (hr : meth.sig.returnType = some .boolean) (hlk : meth.locks = false) : f_X8_in_b14 = some rr → ∀ (H : Heap) (locs : List Loc) (ls : Array Slot), va_P D vwCl (wl tc ad J) H → va_S A s.heap H locs → lv_has ls 3 [] → W p l e rm_X8_in s m args below meth c H locs 0 0 (MQ below (qi D tc ad A rr J) args s 0 0 A) (F0 m 14 ls []) := by
  intro  h H locs ls hP hS hl
  unfold f_X8_in_b14 at h
  have hx := hX.1
  have hb := hX.2.1
  have hown := hX.2.2.2.1
  have hts := hX.2.2.2.2.1
  have hA := hX.2.2.2.2.2.2
  refine lv_iconst (v := 0) hx hb dX8_in_14 kc_i0 ?_
  exact t_X8_in_b15 hX hr hlk  _ h _ _ _ hP hS (lv_sub hl [] rfl)
set_option maxHeartbeats 4000000 in
set_option maxRecDepth 100000 in
theorem c_X8_in {l : Launch} {D : va_G} {tc : Tc} {ad : Nat → Nat} {A : Nat → Prop} (hA : adok ad A) {J : St} {v0 : Int32} {v1 : Int32} {v2 : Int32} {rr : Int32} (h : f_X8_in v0 v1 v2 = some rr) : Met l yX8_in (Cond.code yX8_in cX8_in 3 (some .boolean) :: tw) rm_X8_in (pre D tc ad [.int v0, .int v1, .int v2] J) (qi D tc ad A rr J) 0 0 A := by
  unfold f_X8_in at h
  refine mk_met (own := RX8) (by decide +kernel) rfl hA (Nat.le_of_ble_eq_true rfl) ?_
  intro p e s m below meth c ls hX hr hlk hl hP hS
  have hl : lv_has ls 3 [(0, .int v0), (1, .int v1), (2, .int v2)] := hl
  have hx := hX.1
  have hb := hX.2.1
  have hown := hX.2.2.2.1
  have hts := hX.2.2.2.2.1
  refine lv_iload_n hx hb dX8_in_0 rfl (lv_at hl 0 rfl) ?_
  refine lv_iload_n hx hb dX8_in_1 rfl (lv_at hl 1 rfl) ?_
  refine x_icmp_lt (tgt := 14) hx hb dX8_in_2 (by decide) h (fun c1 h => ?_) (fun c1 h => ?_)
  · exact t_X8_in_b14 hX hr hlk   h _ _ _ hP hS (lv_sub hl [] rfl)
  · refine lv_iload_n hx hb dX8_in_5 rfl (lv_at hl 0 rfl) ?_
    refine lv_iload_n hx hb dX8_in_6 rfl (lv_at hl 2 rfl) ?_
    refine x_icmp_gt (tgt := 14) hx hb dX8_in_7 (by decide) h (fun c2 h => ?_) (fun c2 h => ?_)
    · exact t_X8_in_b14 hX hr hlk   h _ _ _ hP hS (lv_sub hl [] rfl)
    · refine lv_iconst (v := 1) hx hb dX8_in_10 kc_i1 ?_
      refine lv_goto (tgt := 15) hx hb dX8_in_11 (by decide) ?_
      exact t_X8_in_b15 hX hr hlk  _ h _ _ _ hP hS (lv_sub hl [] rfl)
/-! OwnerlessCoinModel.act()V -/
def rm_X8_act : Room := { frames := 0, cells := 0, slots := 0, locals := 0 }
theorem Y_X8_act : yv yX8_act cX8_act 2 none 0 RX8 := ⟨q813, q812, q11, q57, by decide +kernel⟩
set_option maxHeartbeats 4000000 in
set_option maxRecDepth 100000 in
theorem t_X8_act_l51 {p : Program} {l : Launch} {e : Env} {s : State} {m : MethodId} {args : Array Value} {below : List Frame} {meth : Method} {c : Code} {D : va_G} {tc : Tc} {ad : Nat → Nat} {A : Nat → Prop} {I : St} {II : St} (hX : cx p s m args c cX8_act 2 RX8 D tc ad A) (hr : meth.sig.returnType = none) (hlk : meth.locks = false) : ∀ (n : Nat), ∀ (v1 : Int32) (M : St), f_X8_act_l51 n v1 M = some II → ∀ (H : Heap) (locs : List Loc) (ls : Array Slot), va_P D vwCl (wl tc ad (cmb I M)) H → va_S A s.heap H locs → lv_has ls 2 [(0, .ref (ad 152)), (1, .int v1)] → W p l e rm_X8_act s m args below meth c H locs 0 0 (MQ below (qv D tc ad A (cmb I II)) args s 0 0 A) (F0 m 51 ls []) := by
  intro n
  induction n with
  | zero =>
    intro _ _ h
    cases h
  | succ n ih =>
    intro v1 M h H locs ls hP hS hl
    rw [f_X8_act_l51] at h
    have hx := hX.1
    have hb := hX.2.1
    have hown := hX.2.2.2.1
    have hts := hX.2.2.2.2.1
    have hA := hX.2.2.2.2.2.2
    refine lv_iload_n hx hb dX8_act_51 rfl (lv_at hl 1 rfl) ?_
    refine lv_sipush (v := 420) hx hb dX8_act_52 kc_s420 ?_
    refine x_icmp_ge (tgt := 85) hx hb dX8_act_55 (by decide) h (fun c1 h => ?_) (fun c1 h => ?_)
    · refine lv_aload_n hx hb dX8_act_85 rfl (lv_at hl 0 rfl) ?_
      refine lv_dup hx hb dX8_act_86 rfl ?_
      refine m_get hX hP cok6 2 sge_152 s157_152 sk_152 (by decide) rfl q782 dX8_act_87 ?_
      refine x_let h (fun x2 h => ?_)
      refine lv_iconst (v := 1) hx hb dX8_act_90 kc_i1 ?_
      refine lv_iadd hx hb dX8_act_91 ?_
      refine m_put hX hP hS cok6 2 h sge_152 s157_152 sk_152 (by decide) rfl rfl q782 rfl dX8_act_92 (fun M3 H locs h hP hS => ?_)
      cases h
      exact j_vret hX hr hlk hP hS dX8_act_95
    · refine lv_aload_n hx hb dX8_act_58 rfl (lv_at hl 0 rfl) ?_
      refine m_getq (t := 154) hX hP cok6 1 sge_152 s157_152 sk_152 (by decide) rfl q781 dX8_act_59 ?_
      refine lv_sipush (v := 420) hx hb dX8_act_62 kc_s420 ?_
      refine lv_aload_n hx hb dX8_act_65 rfl (lv_at hl 0 rfl) ?_
      refine m_get hX hP cok6 2 sge_152 s157_152 sk_152 (by decide) rfl q782 dX8_act_66 ?_
      refine lv_imul hx hb dX8_act_69 ?_
      refine x_let h (fun x4 h => ?_)
      refine lv_iload_n hx hb dX8_act_70 rfl (lv_at hl 1 rfl) ?_
      refine lv_iadd hx hb dX8_act_71 ?_
      refine x_let h (fun x5 h => ?_)
      refine lv_aload_n hx hb dX8_act_72 rfl (lv_at hl 0 rfl) ?_
      refine m_getq (t := 153) hX hP cok6 0 sge_152 s157_152 sk_152 (by decide) rfl q780 dX8_act_73 ?_
      refine lv_iload_n hx hb dX8_act_76 rfl (lv_at hl 1 rfl) ?_
      refine m_ald hX hP h (sge_153) s157_153 sk_153 sn_153 dX8_act_77 (fun h => ?_)
      refine m_ast hX hP hS h (sge_154) s157_154 sk_154 sn_154 dX8_act_78 (fun M6 H locs h hP hS => ?_)
      refine lv_iinc (v := (v1 + 1)) (lv' := [(1, .int (v1 + 1)), (0, .ref (ad 152))]) hx hb dX8_act_79 hl (k := 1) rfl rfl (Nat.le_of_ble_eq_true rfl) rfl (fun ls hl => ?_)
      refine lv_goto (tgt := 51) hx hb dX8_act_82 (by decide) ?_
      exact ih _ _ h _ _ _ hP hS (lv_sub hl [1, 0] rfl)
set_option maxHeartbeats 4000000 in
set_option maxRecDepth 100000 in
theorem t_X8_act_b49 {p : Program} {l : Launch} {e : Env} {s : State} {m : MethodId} {args : Array Value} {below : List Frame} {meth : Method} {c : Code} {D : va_G} {tc : Tc} {ad : Nat → Nat} {A : Nat → Prop} {I : St} {II : St} (hX : cx p s m args c cX8_act 2 RX8 D tc ad A) (hr : meth.sig.returnType = none) (hlk : meth.locks = false) : ∀ (M : St), f_X8_act_b49 M = some II → ∀ (H : Heap) (locs : List Loc) (ls : Array Slot), va_P D vwCl (wl tc ad (cmb I M)) H → va_S A s.heap H locs → lv_has ls 2 [(0, .ref (ad 152))] → W p l e rm_X8_act s m args below meth c H locs 0 0 (MQ below (qv D tc ad A (cmb I II)) args s 0 0 A) (F0 m 49 ls []) := by
  intro M h H locs ls hP hS hl
  unfold f_X8_act_b49 at h
  have hx := hX.1
  have hb := hX.2.1
  have hown := hX.2.2.2.1
  have hts := hX.2.2.2.2.1
  have hA := hX.2.2.2.2.2.2
  refine lv_iconst (v := 0) hx hb dX8_act_49 kc_i0 ?_
  refine lv_istore_n (lv' := [(1, .int 0), (0, .ref (ad 152))]) hx hb dX8_act_50 rfl hl (Nat.le_of_ble_eq_true rfl) rfl (fun ls hl => ?_)
  exact t_X8_act_l51 hX hr hlk  10000 _ _ h _ _ _ hP hS (lv_sub hl [1, 0] rfl)
set_option maxHeartbeats 4000000 in
set_option maxRecDepth 100000 in
theorem t_X8_act_l10 {p : Program} {l : Launch} {e : Env} {s : State} {m : MethodId} {args : Array Value} {below : List Frame} {meth : Method} {c : Code} {D : va_G} {tc : Tc} {ad : Nat → Nat} {A : Nat → Prop} {I : St} {II : St} (hX : cx p s m args c cX8_act 2 RX8 D tc ad A) (hr : meth.sig.returnType = none) (hlk : meth.locks = false) : ∀ (n : Nat), ∀ (v1 : Int32) (M : St), f_X8_act_l10 n v1 M = some II → ∀ (H : Heap) (locs : List Loc) (ls : Array Slot), va_P D vwCl (wl tc ad (cmb I M)) H → va_S A s.heap H locs → lv_has ls 2 [(0, .ref (ad 152)), (1, .int v1)] → W p l e rm_X8_act s m args below meth c H locs 0 0 (MQ below (qv D tc ad A (cmb I II)) args s 0 0 A) (F0 m 10 ls []) := by
  intro n
  induction n with
  | zero =>
    intro _ _ h
    cases h
  | succ n ih =>
    intro v1 M h H locs ls hP hS hl
    rw [f_X8_act_l10] at h
    have hx := hX.1
    have hb := hX.2.1
    have hown := hX.2.2.2.1
    have hts := hX.2.2.2.2.1
    have hA := hX.2.2.2.2.2.2
    refine lv_iload_n hx hb dX8_act_10 rfl (lv_at hl 1 rfl) ?_
    refine lv_sipush (v := 1260) hx hb dX8_act_11 kc_s1260 ?_
    refine x_icmp_ge (tgt := 39) hx hb dX8_act_14 (by decide) h (fun c7 h => ?_) (fun c7 h => ?_)
    · refine lv_aload_n hx hb dX8_act_39 rfl (lv_at hl 0 rfl) ?_
      refine lv_dup hx hb dX8_act_40 rfl ?_
      refine m_get hX hP cok6 2 sge_152 s157_152 sk_152 (by decide) rfl q782 dX8_act_41 ?_
      refine x_let h (fun x8 h => ?_)
      refine lv_iconst (v := 1) hx hb dX8_act_44 kc_i1 ?_
      refine lv_isub hx hb dX8_act_45 ?_
      refine m_put hX hP hS cok6 2 h sge_152 s157_152 sk_152 (by decide) rfl rfl q782 rfl dX8_act_46 (fun M9 H locs h hP hS => ?_)
      exact t_X8_act_b49 hX hr hlk  _ h _ _ _ hP hS (lv_sub hl [0] rfl)
    · refine lv_aload_n hx hb dX8_act_17 rfl (lv_at hl 0 rfl) ?_
      refine m_getq (t := 154) hX hP cok6 1 sge_152 s157_152 sk_152 (by decide) rfl q781 dX8_act_18 ?_
      refine lv_iload_n hx hb dX8_act_21 rfl (lv_at hl 1 rfl) ?_
      refine lv_aload_n hx hb dX8_act_22 rfl (lv_at hl 0 rfl) ?_
      refine m_getq (t := 154) hX hP cok6 1 sge_152 s157_152 sk_152 (by decide) rfl q781 dX8_act_23 ?_
      refine lv_iload_n hx hb dX8_act_26 rfl (lv_at hl 1 rfl) ?_
      refine lv_sipush (v := 420) hx hb dX8_act_27 kc_s420 ?_
      refine lv_iadd hx hb dX8_act_30 ?_
      refine x_let h (fun x10 h => ?_)
      refine m_ald hX hP h (sge_154) s157_154 sk_154 sn_154 dX8_act_31 (fun h => ?_)
      refine m_ast hX hP hS h (sge_154) s157_154 sk_154 sn_154 dX8_act_32 (fun M11 H locs h hP hS => ?_)
      refine lv_iinc (v := (v1 + 1)) (lv' := [(1, .int (v1 + 1)), (0, .ref (ad 152))]) hx hb dX8_act_33 hl (k := 1) rfl rfl (Nat.le_of_ble_eq_true rfl) rfl (fun ls hl => ?_)
      refine lv_goto (tgt := 10) hx hb dX8_act_36 (by decide) ?_
      exact ih _ _ h _ _ _ hP hS (lv_sub hl [1, 0] rfl)
set_option maxHeartbeats 4000000 in
set_option maxRecDepth 100000 in
theorem c_X8_act {l : Launch} {D : va_G} {tc : Tc} {ad : Nat → Nat} {A : Nat → Prop} (hA : adok ad A) {I M : St}  {II : St} (h : f_X8_act M = some II) : Met l yX8_act (Cond.code yX8_act cX8_act 2 none :: tw) rm_X8_act (pre D tc ad [.ref (ad 152)] (cmb I M)) (qv D tc ad A (cmb I II)) 0 0 A := by
  unfold f_X8_act at h
  refine mk_met (own := RX8) (by decide +kernel) rfl hA (Nat.le_of_ble_eq_true rfl) ?_
  intro p e s m below meth c ls hX hr hlk hl hP hS
  have hl : lv_has ls 2 [(0, .ref (ad 152))] := hl
  have hx := hX.1
  have hb := hX.2.1
  have hown := hX.2.2.2.1
  have hts := hX.2.2.2.2.1
  refine lv_aload_n hx hb dX8_act_0 rfl (lv_at hl 0 rfl) ?_
  refine m_get hX hP cok6 2 sge_152 s157_152 sk_152 (by decide) rfl q782 dX8_act_1 ?_
  refine x_let h (fun x12 h => ?_)
  refine lv_iconst (v := 4) hx hb dX8_act_4 kc_i4 ?_
  refine x_icmp_ne (tgt := 49) hx hb dX8_act_5 (by decide) h (fun c13 h => ?_) (fun c13 h => ?_)
  · exact t_X8_act_b49 hX hr hlk  _ h _ _ _ hP hS (lv_sub hl [0] rfl)
  · refine lv_iconst (v := 0) hx hb dX8_act_8 kc_i0 ?_
    refine lv_istore_n (lv' := [(1, .int 0), (0, .ref (ad 152))]) hx hb dX8_act_9 rfl hl (Nat.le_of_ble_eq_true rfl) rfl (fun ls hl => ?_)
    exact t_X8_act_l10 hX hr hlk  10000 _ _ h _ _ _ hP hS (lv_sub hl [1, 0] rfl)
/-! OwnerlessCoinModel.mix(II)I -/
def rm_X8_mix : Room := { frames := 0, cells := 0, slots := 0, locals := 0 }
theorem Y_X8_mix : ys yX8_mix cX8_mix 3 (some .int) 2 := ⟨q875, q874, q57, by decide +kernel⟩
set_option maxHeartbeats 4000000 in
set_option maxRecDepth 100000 in
theorem c_X8_mix {l : Launch} {D : va_G} {tc : Tc} {ad : Nat → Nat} {A : Nat → Prop} (hA : adok ad A) {J : St} {v0 : Int32} {v1 : Int32} {rr : Int32} (h : f_X8_mix v0 v1 = some rr) : Met l yX8_mix (Cond.code yX8_mix cX8_mix 3 (some .int) :: tw) rm_X8_mix (pre D tc ad [.int v0, .int v1] J) (qi D tc ad A rr J) 0 0 A := by
  unfold f_X8_mix at h
  refine mk_met (own := RX8) (by decide +kernel) rfl hA (Nat.le_of_ble_eq_true rfl) ?_
  intro p e s m below meth c ls hX hr hlk hl hP hS
  have hl : lv_has ls 3 [(0, .int v0), (1, .int v1)] := hl
  have hx := hX.1
  have hb := hX.2.1
  have hown := hX.2.2.2.1
  have hts := hX.2.2.2.2.1
  refine lv_iload_n hx hb dX8_mix_0 rfl (lv_at hl 0 rfl) ?_
  refine lv_iload_n hx hb dX8_mix_1 rfl (lv_at hl 1 rfl) ?_
  refine lv_ixor hx hb dX8_mix_2 ?_
  refine x_let h (fun x1 h => ?_)
  refine lv_ldc (v := (-1640531535)) hx hb hown (hts _ q876) dX8_mix_3 ?_
  refine lv_imul hx hb dX8_mix_5 ?_
  refine x_let h (fun x2 h => ?_)
  refine lv_istore_n (lv' := [(2, .int x2), (0, .int v0), (1, .int v1)]) hx hb dX8_mix_6 rfl hl (Nat.le_of_ble_eq_true rfl) rfl (fun ls hl => ?_)
  refine lv_iload_n hx hb dX8_mix_7 rfl (lv_at hl 0 rfl) ?_
  refine lv_iload_n hx hb dX8_mix_8 rfl (lv_at hl 0 rfl) ?_
  refine lv_bipush (v := 15) hx hb dX8_mix_9 kc_b15 ?_
  refine lv_iushr (v := iushr x2 15) hx hb dX8_mix_11 rfl ?_
  refine lv_ixor hx hb dX8_mix_12 ?_
  cases h
  exact j_iret hX hr hlk hP hS dX8_mix_13
/-! OwnerlessCoinModel.draw()I -/
def rm_X8_draw : Room := { frames := 0, cells := 0, slots := 0, locals := 0 }
theorem Y_X8_draw : yv yX8_draw cX8_draw 1 (some .int) 0 RX8 := ⟨q892, q891, q22, q57, by decide +kernel⟩
set_option maxHeartbeats 4000000 in
set_option maxRecDepth 100000 in
theorem c_X8_draw {l : Launch} {D : va_G} {tc : Tc} {ad : Nat → Nat} {A : Nat → Prop} (hA : adok ad A) {I M : St}  {rr : Int32} {II : St} (h : f_X8_draw M = some (rr, II)) : Met l yX8_draw (Cond.code yX8_draw cX8_draw 1 (some .int) :: tw) rm_X8_draw (pre D tc ad [.ref (ad 152)] (cmb I M)) (qi D tc ad A rr (cmb I II)) 0 0 A := by
  unfold f_X8_draw at h
  refine mk_met (own := RX8) (by decide +kernel) rfl hA (Nat.le_of_ble_eq_true rfl) ?_
  intro p e s m below meth c ls hX hr hlk hl hP hS
  have hl : lv_has ls 1 [(0, .ref (ad 152))] := hl
  have hx := hX.1
  have hb := hX.2.1
  have hown := hX.2.2.2.1
  have hts := hX.2.2.2.2.1
  refine lv_aload_n hx hb dX8_draw_0 rfl (lv_at hl 0 rfl) ?_
  refine lv_ldc (v := 1103515245) hx hb hown (hts _ q893) dX8_draw_1 ?_
  refine lv_aload_n hx hb dX8_draw_3 rfl (lv_at hl 0 rfl) ?_
  refine m_get hX hP cok6 5 sge_152 s157_152 sk_152 (by decide) rfl q785 dX8_draw_4 ?_
  refine lv_imul hx hb dX8_draw_7 ?_
  refine x_let h (fun x1 h => ?_)
  refine lv_sipush (v := 12345) hx hb dX8_draw_8 kc_s12345 ?_
  refine lv_iadd hx hb dX8_draw_11 ?_
  refine m_put hX hP hS cok6 5 h sge_152 s157_152 sk_152 (by decide) rfl rfl q785 rfl dX8_draw_12 (fun M2 H locs h hP hS => ?_)
  refine lv_aload_n hx hb dX8_draw_15 rfl (lv_at hl 0 rfl) ?_
  refine m_get hX hP cok6 5 sge_152 s157_152 sk_152 (by decide) rfl q785 dX8_draw_16 ?_
  refine x_let h (fun x3 h => ?_)
  refine lv_bipush (v := 16) hx hb dX8_draw_19 kc_b16 ?_
  refine lv_iushr (v := iushr x3 16) hx hb dX8_draw_21 rfl ?_
  cases h
  exact j_iret hX hr hlk hP hS dX8_draw_22
/-! OwnerlessCoinModel.person(I)I -/
def rm_X8_person : Room := { frames := 0, cells := 0, slots := 0, locals := 0 }
theorem Y_X8_person : ys yX8_person cX8_person 1 (some .int) 1 := ⟨q816, q815, q57, by decide +kernel⟩
set_option maxHeartbeats 4000000 in
set_option maxRecDepth 100000 in
theorem c_X8_person {l : Launch} {D : va_G} {tc : Tc} {ad : Nat → Nat} {A : Nat → Prop} (hA : adok ad A) {J : St} {v0 : Int32} {rr : Int32} (h : f_X8_person v0 = some rr) : Met l yX8_person (Cond.code yX8_person cX8_person 1 (some .int) :: tw) rm_X8_person (pre D tc ad [.int v0] J) (qi D tc ad A rr J) 0 0 A := by
  unfold f_X8_person at h
  refine mk_met (own := RX8) (by decide +kernel) rfl hA (Nat.le_of_ble_eq_true rfl) ?_
  intro p e s m below meth c ls hX hr hlk hl hP hS
  have hl : lv_has ls 1 [(0, .int v0)] := hl
  have hx := hX.1
  have hb := hX.2.1
  have hown := hX.2.2.2.1
  have hts := hX.2.2.2.2.1
  refine lv_bipush (v := 20) hx hb dX8_person_0 kc_b20 ?_
  refine lv_bipush (v := 40) hx hb dX8_person_2 kc_b40 ?_
  refine lv_iload_n hx hb dX8_person_4 rfl (lv_at hl 0 rfl) ?_
  refine lv_imul hx hb dX8_person_5 ?_
  refine lv_iadd hx hb dX8_person_6 ?_
  cases h
  exact j_iret hX hr hlk hP hS dX8_person_7
/-! OwnerlessCoinModel.isPerson(I)Z -/
def rm_X8_isPerson : Room := { frames := 1, cells := 0, slots := 0, locals := 22 }
theorem Y_X8_isPerson : yv yX8_isPerson cX8_isPerson 2 (some .boolean) 1 RX8 := ⟨q824, q823, q12, q57, by decide +kernel⟩
set_option maxHeartbeats 4000000 in
set_option maxRecDepth 100000 in
theorem c_X8_isPerson {l : Launch} {D : va_G} {tc : Tc} {ad : Nat → Nat} {A : Nat → Prop} (hA : adok ad A) {I M : St} {v1 : Int32} {rr : Int32} (h : f_X8_isPerson v1 M = some rr) : Met l yX8_isPerson (Cond.code yX8_isPerson cX8_isPerson 2 (some .boolean) :: tw) rm_X8_isPerson (pre D tc ad [.ref (ad 152), .int v1] (cmb I M)) (qi D tc ad A rr (cmb I M)) 0 0 A := by
  unfold f_X8_isPerson at h
  refine mk_met (own := RX8) (by decide +kernel) rfl hA (Nat.le_of_ble_eq_true rfl) ?_
  intro p e s m below meth c ls hX hr hlk hl hP hS
  have hl : lv_has ls 2 [(0, .ref (ad 152)), (1, .int v1)] := hl
  have hx := hX.1
  have hb := hX.2.1
  have hown := hX.2.2.2.1
  have hts := hX.2.2.2.2.1
  refine lv_iload_n hx hb dX8_isPerson_0 rfl (lv_at hl 1 rfl) ?_
  refine lv_iconst (v := 0) hx hb dX8_isPerson_1 kc_i0 ?_
  refine lv_aload_n hx hb dX8_isPerson_2 rfl (lv_at hl 0 rfl) ?_
  refine m_getq (t := 153) hX hP cok6 0 sge_152 s157_152 sk_152 (by decide) rfl q780 dX8_isPerson_3 ?_
  refine lv_iconst (v := 4) hx hb dX8_isPerson_6 kc_i4 ?_
  refine m_ald hX hP h (sge_153) s157_153 sk_153 sn_153 dX8_isPerson_7 (fun h => ?_)
  refine x_let h (fun x1 h => ?_)
  refine lv_iconst (v := 1) hx hb dX8_isPerson_8 kc_i1 ?_
  refine lv_isub hx hb dX8_isPerson_9 ?_
  obtain ⟨r3, e2, h⟩ := ob1_some h
  refine j_i (j_runS (rest := []) hX hP hl.1 Y_X8_in (c_X8_in hA e2) ⟨rfl, rfl⟩ q807 ⟨Nat.le_of_ble_eq_true rfl, Nat.le_of_ble_eq_true rfl⟩ rfl rfl (Nat.le_of_ble_eq_true rfl) dX8_isPerson_10) hS (fun H locs hP hS => ?_)
  obtain ⟨gz, h⟩ := ck_some h
  cases h
  exact j_zret hX hr hlk hP hS (isB_or gz) dX8_isPerson_13
/-! OwnerlessCoinModel.has(II)Z -/
def rm_X8_has : Room := { frames := 1, cells := 0, slots := 0, locals := 20 }
theorem Y_X8_has : yv yX8_has cX8_has 3 (some .boolean) 2 RX8 := ⟨q868, q867, q17, q57, by decide +kernel⟩
set_option maxHeartbeats 4000000 in
set_option maxRecDepth 100000 in
theorem t_X8_has_b20 {p : Program} {l : Launch} {e : Env} {s : State} {m : MethodId} {args : Array Value} {below : List Frame} {meth : Method} {c : Code} {D : va_G} {tc : Tc} {ad : Nat → Nat} {A : Nat → Prop} {I : St} {rr : Int32} (hX : cx p s m args c cX8_has 3 RX8 D tc ad A) (hr : meth.sig.returnType = some .boolean) (hlk : meth.locks = false) : ∀ (t0 : Int32) (M : St), f_X8_has_b20 t0 M = some rr → ∀ (H : Heap) (locs : List Loc) (ls : Array Slot), va_P D vwCl (wl tc ad (cmb I M)) H → va_S A s.heap H locs → lv_has ls 3 [] → W p l e rm_X8_has s m args below meth c H locs 0 0 (MQ below (qi D tc ad A rr (cmb I M)) args s 0 0 A) (F0 m 20 ls [.int t0]) := by
  intro t0 M h H locs ls hP hS hl
  unfold f_X8_has_b20 at h
  have hx := hX.1
  have hb := hX.2.1
  have hown := hX.2.2.2.1
  have hts := hX.2.2.2.2.1
  have hA := hX.2.2.2.2.2.2
  obtain ⟨gz, h⟩ := ck_some h
  cases h
  exact j_zret hX hr hlk hP hS (isB_or gz) dX8_has_20
set_option maxHeartbeats 4000000 in
set_option maxRecDepth 100000 in
theorem c_X8_has {l : Launch} {D : va_G} {tc : Tc} {ad : Nat → Nat} {A : Nat → Prop} (hA : adok ad A) {I M : St} {v1 : Int32} {v2 : Int32} {rr : Int32} (h : f_X8_has v1 v2 M = some rr) : Met l yX8_has (Cond.code yX8_has cX8_has 3 (some .boolean) :: tw) rm_X8_has (pre D tc ad [.ref (ad 152), .int v1, .int v2] (cmb I M)) (qi D tc ad A rr (cmb I M)) 0 0 A := by
  unfold f_X8_has at h
  refine mk_met (own := RX8) (by decide +kernel) rfl hA (Nat.le_of_ble_eq_true rfl) ?_
  intro p e s m below meth c ls hX hr hlk hl hP hS
  have hl : lv_has ls 3 [(0, .ref (ad 152)), (1, .int v1), (2, .int v2)] := hl
  have hx := hX.1
  have hb := hX.2.1
  have hown := hX.2.2.2.1
  have hts := hX.2.2.2.2.1
  refine lv_aload_n hx hb dX8_has_0 rfl (lv_at hl 0 rfl) ?_
  refine m_getq (t := 153) hX hP cok6 0 sge_152 s157_152 sk_152 (by decide) rfl q780 dX8_has_1 ?_
  refine lv_iload_n hx hb dX8_has_4 rfl (lv_at hl 1 rfl) ?_
  obtain ⟨r2, e1, h⟩ := ob1_some h
  refine j_i (j_runS (rest := [.ref (ad 153)]) hX hP hl.1 Y_X8_person (c_X8_person hA e1) ⟨rfl, rfl⟩ q814 ⟨Nat.le_of_ble_eq_true rfl, Nat.le_of_ble_eq_true rfl⟩ rfl rfl (Nat.le_of_ble_eq_true rfl) dX8_has_5) hS (fun H locs hP hS => ?_)
  refine lv_iload_n hx hb dX8_has_8 rfl (lv_at hl 2 rfl) ?_
  refine lv_iadd hx hb dX8_has_9 ?_
  refine x_let h (fun x3 h => ?_)
  refine m_ald hX hP h (sge_153) s157_153 sk_153 sn_153 dX8_has_10 (fun h => ?_)
  refine x_let h (fun x4 h => ?_)
  refine lv_iconst (v := 1) hx hb dX8_has_11 kc_i1 ?_
  refine x_icmp_ne (tgt := 19) hx hb dX8_has_12 (by decide) h (fun c5 h => ?_) (fun c5 h => ?_)
  · refine lv_iconst (v := 0) hx hb dX8_has_19 kc_i0 ?_
    exact t_X8_has_b20 hX hr hlk  _ _ h _ _ _ hP hS (lv_sub hl [] rfl)
  · refine lv_iconst (v := 1) hx hb dX8_has_15 kc_i1 ?_
    refine lv_goto (tgt := 20) hx hb dX8_has_16 (by decide) ?_
    exact t_X8_has_b20 hX hr hlk  _ _ h _ _ _ hP hS (lv_sub hl [] rfl)
/-! OwnerlessCoinModel.isMember(I)Z -/
def rm_X8_isMember : Room := { frames := 2, cells := 0, slots := 0, locals := 43 }
theorem Y_X8_isMember : yv yX8_isMember cX8_isMember 2 (some .boolean) 1 RX8 := ⟨q919, q918, q26, q57, by decide +kernel⟩
set_option maxHeartbeats 4000000 in
set_option maxRecDepth 100000 in
theorem t_X8_isMember_b22 {p : Program} {l : Launch} {e : Env} {s : State} {m : MethodId} {args : Array Value} {below : List Frame} {meth : Method} {c : Code} {D : va_G} {tc : Tc} {ad : Nat → Nat} {A : Nat → Prop} {I : St} {rr : Int32} (hX : cx p s m args c cX8_isMember 2 RX8 D tc ad A) (hr : meth.sig.returnType = some .boolean) (hlk : meth.locks = false) : ∀ (t0 : Int32) (M : St), f_X8_isMember_b22 t0 M = some rr → ∀ (H : Heap) (locs : List Loc) (ls : Array Slot), va_P D vwCl (wl tc ad (cmb I M)) H → va_S A s.heap H locs → lv_has ls 2 [] → W p l e rm_X8_isMember s m args below meth c H locs 0 0 (MQ below (qi D tc ad A rr (cmb I M)) args s 0 0 A) (F0 m 22 ls [.int t0]) := by
  intro t0 M h H locs ls hP hS hl
  unfold f_X8_isMember_b22 at h
  have hx := hX.1
  have hb := hX.2.1
  have hown := hX.2.2.2.1
  have hts := hX.2.2.2.2.1
  have hA := hX.2.2.2.2.2.2
  obtain ⟨gz, h⟩ := ck_some h
  cases h
  exact j_zret hX hr hlk hP hS (isB_or gz) dX8_isMember_22
set_option maxHeartbeats 4000000 in
set_option maxRecDepth 100000 in
theorem t_X8_isMember_b21 {p : Program} {l : Launch} {e : Env} {s : State} {m : MethodId} {args : Array Value} {below : List Frame} {meth : Method} {c : Code} {D : va_G} {tc : Tc} {ad : Nat → Nat} {A : Nat → Prop} {I : St} {rr : Int32} (hX : cx p s m args c cX8_isMember 2 RX8 D tc ad A) (hr : meth.sig.returnType = some .boolean) (hlk : meth.locks = false) : ∀ (M : St), f_X8_isMember_b21 M = some rr → ∀ (H : Heap) (locs : List Loc) (ls : Array Slot), va_P D vwCl (wl tc ad (cmb I M)) H → va_S A s.heap H locs → lv_has ls 2 [] → W p l e rm_X8_isMember s m args below meth c H locs 0 0 (MQ below (qi D tc ad A rr (cmb I M)) args s 0 0 A) (F0 m 21 ls []) := by
  intro M h H locs ls hP hS hl
  unfold f_X8_isMember_b21 at h
  have hx := hX.1
  have hb := hX.2.1
  have hown := hX.2.2.2.1
  have hts := hX.2.2.2.2.1
  have hA := hX.2.2.2.2.2.2
  refine lv_iconst (v := 0) hx hb dX8_isMember_21 kc_i0 ?_
  exact t_X8_isMember_b22 hX hr hlk  _ _ h _ _ _ hP hS (lv_sub hl [] rfl)
set_option maxHeartbeats 4000000 in
set_option maxRecDepth 100000 in
theorem c_X8_isMember {l : Launch} {D : va_G} {tc : Tc} {ad : Nat → Nat} {A : Nat → Prop} (hA : adok ad A) {I M : St} {v1 : Int32} {rr : Int32} (h : f_X8_isMember v1 M = some rr) : Met l yX8_isMember (Cond.code yX8_isMember cX8_isMember 2 (some .boolean) :: tw) rm_X8_isMember (pre D tc ad [.ref (ad 152), .int v1] (cmb I M)) (qi D tc ad A rr (cmb I M)) 0 0 A := by
  unfold f_X8_isMember at h
  refine mk_met (own := RX8) (by decide +kernel) rfl hA (Nat.le_of_ble_eq_true rfl) ?_
  intro p e s m below meth c ls hX hr hlk hl hP hS
  have hl : lv_has ls 2 [(0, .ref (ad 152)), (1, .int v1)] := hl
  have hx := hX.1
  have hb := hX.2.1
  have hown := hX.2.2.2.1
  have hts := hX.2.2.2.2.1
  refine lv_aload_n hx hb dX8_isMember_0 rfl (lv_at hl 0 rfl) ?_
  refine lv_iload_n hx hb dX8_isMember_1 rfl (lv_at hl 1 rfl) ?_
  obtain ⟨r2, e1, h⟩ := ob1_some h
  refine j_i (j_runV (rest := []) hX hP hl.1 Y_X8_isPerson cok6 (s157_152) sk_152 (c_X8_isPerson hA e1) ⟨rfl, rfl⟩ q821 ⟨Nat.le_of_ble_eq_true rfl, Nat.le_of_ble_eq_true rfl⟩ rfl rfl (Nat.le_of_ble_eq_true rfl) dX8_isMember_2) hS (fun H locs hP hS => ?_)
  refine x_if_eq (tgt := 21) hx hb dX8_isMember_5 (by decide) h (fun c3 h => ?_) (fun c3 h => ?_)
  · exact t_X8_isMember_b21 hX hr hlk  _ h _ _ _ hP hS (lv_sub hl [] rfl)
  · refine lv_aload_n hx hb dX8_isMember_8 rfl (lv_at hl 0 rfl) ?_
    refine lv_iload_n hx hb dX8_isMember_9 rfl (lv_at hl 1 rfl) ?_
    refine lv_iconst (v := 5) hx hb dX8_isMember_10 kc_i5 ?_
    obtain ⟨r5, e4, h⟩ := ob1_some h
    refine j_i (j_runV (rest := []) hX hP hl.1 Y_X8_has cok6 (s157_152) sk_152 (c_X8_has hA e4) ⟨rfl, rfl⟩ q865 ⟨Nat.le_of_ble_eq_true rfl, Nat.le_of_ble_eq_true rfl⟩ rfl rfl (Nat.le_of_ble_eq_true rfl) dX8_isMember_11) hS (fun H locs hP hS => ?_)
    refine x_if_eq (tgt := 21) hx hb dX8_isMember_14 (by decide) h (fun c6 h => ?_) (fun c6 h => ?_)
    · exact t_X8_isMember_b21 hX hr hlk  _ h _ _ _ hP hS (lv_sub hl [] rfl)
    · refine lv_iconst (v := 1) hx hb dX8_isMember_17 kc_i1 ?_
      refine lv_goto (tgt := 22) hx hb dX8_isMember_18 (by decide) ?_
      exact t_X8_isMember_b22 hX hr hlk  _ _ h _ _ _ hP hS (lv_sub hl [] rfl)
/-! OwnerlessCoinModel.setOf(I)I -/
def rm_X8_setOf : Room := { frames := 2, cells := 0, slots := 0, locals := 42 }
theorem Y_X8_setOf : yv yX8_setOf cX8_setOf 4 (some .int) 1 RX8 := ⟨q955, q954, q33, q57, by decide +kernel⟩
set_option maxHeartbeats 4000000 in
set_option maxRecDepth 100000 in
theorem t_X8_setOf_b31 {p : Program} {l : Launch} {e : Env} {s : State} {m : MethodId} {args : Array Value} {below : List Frame} {meth : Method} {c : Code} {D : va_G} {tc : Tc} {ad : Nat → Nat} {A : Nat → Prop} {I : St} {rr : Int32} (hX : cx p s m args c cX8_setOf 4 RX8 D tc ad A) (hr : meth.sig.returnType = some .int) (hlk : meth.locks = false) {K4 : Int32 → Int32 → Int32 → St → Option (Int32)} (hK4 : ∀ (v1 : Int32) (v2 : Int32) (v3 : Int32) (M : St), K4 v1 v2 v3 M = some rr → ∀ (H : Heap) (locs : List Loc) (ls : Array Slot), va_P D vwCl (wl tc ad (cmb I M)) H → va_S A s.heap H locs → lv_has ls 4 [(0, .ref (ad 152)), (1, .int v1), (2, .int v2), (3, .int v3)] → W p l e rm_X8_setOf s m args below meth c H locs 0 0 (MQ below (qi D tc ad A rr (cmb I M)) args s 0 0 A) (F0 m 4 ls [])) : ∀ (v1 : Int32) (v3 : Int32) (t0 : Int32) (t1 : Int32) (M : St), f_X8_setOf_b31 K4 v1 v3 t0 t1 M = some rr → ∀ (H : Heap) (locs : List Loc) (ls : Array Slot), va_P D vwCl (wl tc ad (cmb I M)) H → va_S A s.heap H locs → lv_has ls 4 [(0, .ref (ad 152)), (1, .int v1), (3, .int v3)] → W p l e rm_X8_setOf s m args below meth c H locs 0 0 (MQ below (qi D tc ad A rr (cmb I M)) args s 0 0 A) (F0 m 31 ls [.int t1, .int t0]) := by
  intro v1 v3 t0 t1 M h H locs ls hP hS hl
  unfold f_X8_setOf_b31 at h
  have hx := hX.1
  have hb := hX.2.1
  have hown := hX.2.2.2.1
  have hts := hX.2.2.2.2.1
  have hA := hX.2.2.2.2.2.2
  refine lv_ior hx hb dX8_setOf_31 ?_
  refine x_let h (fun x1 h => ?_)
  refine lv_istore_n (lv' := [(2, .int x1), (0, .ref (ad 152)), (1, .int v1), (3, .int v3)]) hx hb dX8_setOf_32 rfl hl (Nat.le_of_ble_eq_true rfl) rfl (fun ls hl => ?_)
  refine lv_iinc (v := (v3 + 1)) (lv' := [(3, .int (v3 + 1)), (2, .int x1), (0, .ref (ad 152)), (1, .int v1)]) hx hb dX8_setOf_33 hl (k := 3) rfl rfl (Nat.le_of_ble_eq_true rfl) rfl (fun ls hl => ?_)
  refine lv_goto (tgt := 4) hx hb dX8_setOf_36 (by decide) ?_
  exact hK4 _ _ _ _ h _ _ _ hP hS (lv_sub hl [2, 3, 1, 0] rfl)
set_option maxHeartbeats 4000000 in
set_option maxRecDepth 100000 in
theorem t_X8_setOf_l4 {p : Program} {l : Launch} {e : Env} {s : State} {m : MethodId} {args : Array Value} {below : List Frame} {meth : Method} {c : Code} {D : va_G} {tc : Tc} {ad : Nat → Nat} {A : Nat → Prop} {I : St} {rr : Int32} (hX : cx p s m args c cX8_setOf 4 RX8 D tc ad A) (hr : meth.sig.returnType = some .int) (hlk : meth.locks = false) : ∀ (n : Nat), ∀ (v1 : Int32) (v2 : Int32) (v3 : Int32) (M : St), f_X8_setOf_l4 n v1 v2 v3 M = some rr → ∀ (H : Heap) (locs : List Loc) (ls : Array Slot), va_P D vwCl (wl tc ad (cmb I M)) H → va_S A s.heap H locs → lv_has ls 4 [(0, .ref (ad 152)), (1, .int v1), (2, .int v2), (3, .int v3)] → W p l e rm_X8_setOf s m args below meth c H locs 0 0 (MQ below (qi D tc ad A rr (cmb I M)) args s 0 0 A) (F0 m 4 ls []) := by
  intro n
  induction n with
  | zero =>
    intro _ _ _ _ h
    cases h
  | succ n ih =>
    intro v1 v2 v3 M h H locs ls hP hS hl
    rw [f_X8_setOf_l4] at h
    have hx := hX.1
    have hb := hX.2.1
    have hown := hX.2.2.2.1
    have hts := hX.2.2.2.2.1
    have hA := hX.2.2.2.2.2.2
    refine lv_iload_n hx hb dX8_setOf_4 rfl (lv_at hl 3 rfl) ?_
    refine lv_aload_n hx hb dX8_setOf_5 rfl (lv_at hl 0 rfl) ?_
    refine m_getq (t := 153) hX hP cok6 0 sge_152 s157_152 sk_152 (by decide) rfl q780 dX8_setOf_6 ?_
    refine lv_iconst (v := 4) hx hb dX8_setOf_9 kc_i4 ?_
    refine m_ald hX hP h (sge_153) s157_153 sk_153 sn_153 dX8_setOf_10 (fun h => ?_)
    refine x_icmp_ge (tgt := 39) hx hb dX8_setOf_11 (by decide) h (fun c2 h => ?_) (fun c2 h => ?_)
    · refine lv_iload_n hx hb dX8_setOf_39 rfl (lv_at hl 2 rfl) ?_
      cases h
      exact j_iret hX hr hlk hP hS dX8_setOf_40
    · refine lv_iload_n hx hb dX8_setOf_14 rfl (lv_at hl 2 rfl) ?_
      refine lv_aload_n hx hb dX8_setOf_15 rfl (lv_at hl 0 rfl) ?_
      refine lv_iload_n hx hb dX8_setOf_16 rfl (lv_at hl 3 rfl) ?_
      refine lv_iload_n hx hb dX8_setOf_17 rfl (lv_at hl 1 rfl) ?_
      obtain ⟨r4, e3, h⟩ := ob1_some h
      refine j_i (j_runV (rest := [.int v2]) hX hP hl.1 Y_X8_has cok6 (s157_152) sk_152 (c_X8_has hA e3) ⟨rfl, rfl⟩ q865 ⟨Nat.le_of_ble_eq_true rfl, Nat.le_of_ble_eq_true rfl⟩ rfl rfl (Nat.le_of_ble_eq_true rfl) dX8_setOf_18) hS (fun H locs hP hS => ?_)
      refine x_if_eq (tgt := 30) hx hb dX8_setOf_21 (by decide) h (fun c5 h => ?_) (fun c5 h => ?_)
      · refine lv_iconst (v := 0) hx hb dX8_setOf_30 kc_i0 ?_
        exact t_X8_setOf_b31 hX hr hlk ih _ _ _ _ _ h _ _ _ hP hS (lv_sub hl [0, 1, 3] rfl)
      · refine lv_iconst (v := 1) hx hb dX8_setOf_24 kc_i1 ?_
        refine lv_iload_n hx hb dX8_setOf_25 rfl (lv_at hl 3 rfl) ?_
        refine lv_ishl hx hb dX8_setOf_26 ?_
        refine lv_goto (tgt := 31) hx hb dX8_setOf_27 (by decide) ?_
        exact t_X8_setOf_b31 hX hr hlk ih _ _ _ _ _ h _ _ _ hP hS (lv_sub hl [0, 1, 3] rfl)
set_option maxHeartbeats 4000000 in
set_option maxRecDepth 100000 in
theorem c_X8_setOf {l : Launch} {D : va_G} {tc : Tc} {ad : Nat → Nat} {A : Nat → Prop} (hA : adok ad A) {I M : St} {v1 : Int32} {rr : Int32} (h : f_X8_setOf v1 M = some rr) : Met l yX8_setOf (Cond.code yX8_setOf cX8_setOf 4 (some .int) :: tw) rm_X8_setOf (pre D tc ad [.ref (ad 152), .int v1] (cmb I M)) (qi D tc ad A rr (cmb I M)) 0 0 A := by
  unfold f_X8_setOf at h
  refine mk_met (own := RX8) (by decide +kernel) rfl hA (Nat.le_of_ble_eq_true rfl) ?_
  intro p e s m below meth c ls hX hr hlk hl hP hS
  have hl : lv_has ls 4 [(0, .ref (ad 152)), (1, .int v1)] := hl
  have hx := hX.1
  have hb := hX.2.1
  have hown := hX.2.2.2.1
  have hts := hX.2.2.2.2.1
  refine lv_iconst (v := 0) hx hb dX8_setOf_0 kc_i0 ?_
  refine lv_istore_n (lv' := [(2, .int 0), (0, .ref (ad 152)), (1, .int v1)]) hx hb dX8_setOf_1 rfl hl (Nat.le_of_ble_eq_true rfl) rfl (fun ls hl => ?_)
  refine lv_iconst (v := 0) hx hb dX8_setOf_2 kc_i0 ?_
  refine lv_istore_n (lv' := [(3, .int 0), (2, .int 0), (0, .ref (ad 152)), (1, .int v1)]) hx hb dX8_setOf_3 rfl hl (Nat.le_of_ble_eq_true rfl) rfl (fun ls hl => ?_)
  exact t_X8_setOf_l4 hX hr hlk  10000 _ _ _ _ h _ _ _ hP hS (lv_sub hl [2, 3, 1, 0] rfl)
/-! OwnerlessCoinModel.countOf(I)I -/
def rm_X8_countOf : Room := { frames := 0, cells := 0, slots := 0, locals := 0 }
theorem Y_X8_countOf : ys yX8_countOf cX8_countOf 3 (some .int) 1 := ⟨q958, q957, q57, by decide +kernel⟩
set_option maxHeartbeats 4000000 in
set_option maxRecDepth 100000 in
theorem t_X8_countOf_l4 {p : Program} {l : Launch} {e : Env} {s : State} {m : MethodId} {args : Array Value} {below : List Frame} {meth : Method} {c : Code} {D : va_G} {tc : Tc} {ad : Nat → Nat} {A : Nat → Prop} {J : St} {rr : Int32} (hX : cx p s m args c cX8_countOf 3 RX8 D tc ad A) (hr : meth.sig.returnType = some .int) (hlk : meth.locks = false) : ∀ (n : Nat), ∀ (v0 : Int32) (v1 : Int32) (v2 : Int32), f_X8_countOf_l4 n v0 v1 v2 = some rr → ∀ (H : Heap) (locs : List Loc) (ls : Array Slot), va_P D vwCl (wl tc ad J) H → va_S A s.heap H locs → lv_has ls 3 [(0, .int v0), (1, .int v1), (2, .int v2)] → W p l e rm_X8_countOf s m args below meth c H locs 0 0 (MQ below (qi D tc ad A rr J) args s 0 0 A) (F0 m 4 ls []) := by
  intro n
  induction n with
  | zero =>
    intro _ _ _ h
    cases h
  | succ n ih =>
    intro v0 v1 v2 h H locs ls hP hS hl
    rw [f_X8_countOf_l4] at h
    have hx := hX.1
    have hb := hX.2.1
    have hown := hX.2.2.2.1
    have hts := hX.2.2.2.2.1
    have hA := hX.2.2.2.2.2.2
    refine lv_iload_n hx hb dX8_countOf_4 rfl (lv_at hl 2 rfl) ?_
    refine lv_bipush (v := 8) hx hb dX8_countOf_5 kc_b8 ?_
    refine x_icmp_ge (tgt := 24) hx hb dX8_countOf_7 (by decide) h (fun c1 h => ?_) (fun c1 h => ?_)
    · refine lv_iload_n hx hb dX8_countOf_24 rfl (lv_at hl 1 rfl) ?_
      cases h
      exact j_iret hX hr hlk hP hS dX8_countOf_25
    · refine lv_iload_n hx hb dX8_countOf_10 rfl (lv_at hl 1 rfl) ?_
      refine lv_iload_n hx hb dX8_countOf_11 rfl (lv_at hl 0 rfl) ?_
      refine lv_iload_n hx hb dX8_countOf_12 rfl (lv_at hl 2 rfl) ?_
      refine lv_ishr hx hb dX8_countOf_13 ?_
      refine x_let h (fun x2 h => ?_)
      refine lv_iconst (v := 1) hx hb dX8_countOf_14 kc_i1 ?_
      refine lv_iand hx hb dX8_countOf_15 ?_
      refine lv_iadd hx hb dX8_countOf_16 ?_
      refine x_let h (fun x3 h => ?_)
      refine lv_istore_n (lv' := [(1, .int x3), (0, .int v0), (2, .int v2)]) hx hb dX8_countOf_17 rfl hl (Nat.le_of_ble_eq_true rfl) rfl (fun ls hl => ?_)
      refine lv_iinc (v := (v2 + 1)) (lv' := [(2, .int (v2 + 1)), (1, .int x3), (0, .int v0)]) hx hb dX8_countOf_18 hl (k := 2) rfl rfl (Nat.le_of_ble_eq_true rfl) rfl (fun ls hl => ?_)
      refine lv_goto (tgt := 4) hx hb dX8_countOf_21 (by decide) ?_
      exact ih _ _ _ h _ _ _ hP hS (lv_sub hl [2, 1, 0] rfl)
set_option maxHeartbeats 4000000 in
set_option maxRecDepth 100000 in
theorem c_X8_countOf {l : Launch} {D : va_G} {tc : Tc} {ad : Nat → Nat} {A : Nat → Prop} (hA : adok ad A) {J : St} {v0 : Int32} {rr : Int32} (h : f_X8_countOf v0 = some rr) : Met l yX8_countOf (Cond.code yX8_countOf cX8_countOf 3 (some .int) :: tw) rm_X8_countOf (pre D tc ad [.int v0] J) (qi D tc ad A rr J) 0 0 A := by
  unfold f_X8_countOf at h
  refine mk_met (own := RX8) (by decide +kernel) rfl hA (Nat.le_of_ble_eq_true rfl) ?_
  intro p e s m below meth c ls hX hr hlk hl hP hS
  have hl : lv_has ls 3 [(0, .int v0)] := hl
  have hx := hX.1
  have hb := hX.2.1
  have hown := hX.2.2.2.1
  have hts := hX.2.2.2.2.1
  refine lv_iconst (v := 0) hx hb dX8_countOf_0 kc_i0 ?_
  refine lv_istore_n (lv' := [(1, .int 0), (0, .int v0)]) hx hb dX8_countOf_1 rfl hl (Nat.le_of_ble_eq_true rfl) rfl (fun ls hl => ?_)
  refine lv_iconst (v := 0) hx hb dX8_countOf_2 kc_i0 ?_
  refine lv_istore_n (lv' := [(2, .int 0), (1, .int 0), (0, .int v0)]) hx hb dX8_countOf_3 rfl hl (Nat.le_of_ble_eq_true rfl) rfl (fun ls hl => ?_)
  exact t_X8_countOf_l4 hX hr hlk  10000 _ _ _ h _ _ _ hP hS (lv_sub hl [2, 1, 0] rfl)
/-! OwnerlessCoinModel.pays(I)V -/
def rm_X8_pays : Room := { frames := 1, cells := 0, slots := 0, locals := 20 }
theorem Y_X8_pays : yv yX8_pays cX8_pays 3 none 1 RX8 := ⟨q943, q942, q31, q57, by decide +kernel⟩
set_option maxHeartbeats 4000000 in
set_option maxRecDepth 100000 in
theorem t_X8_pays_b42 {p : Program} {l : Launch} {e : Env} {s : State} {m : MethodId} {args : Array Value} {below : List Frame} {meth : Method} {c : Code} {D : va_G} {tc : Tc} {ad : Nat → Nat} {A : Nat → Prop} {I : St} {II : St} (hX : cx p s m args c cX8_pays 3 RX8 D tc ad A) (hr : meth.sig.returnType = none) (hlk : meth.locks = false) : ∀ (v1 : Int32) (t0 : Int32) (M : St), f_X8_pays_b42 v1 t0 M = some II → ∀ (H : Heap) (locs : List Loc) (ls : Array Slot), va_P D vwCl (wl tc ad (cmb I M)) H → va_S A s.heap H locs → lv_has ls 3 [(0, .ref (ad 152)), (1, .int v1)] → W p l e rm_X8_pays s m args below meth c H locs 0 0 (MQ below (qv D tc ad A (cmb I II)) args s 0 0 A) (F0 m 42 ls [.int t0]) := by
  intro v1 t0 M h H locs ls hP hS hl
  unfold f_X8_pays_b42 at h
  have hx := hX.1
  have hb := hX.2.1
  have hown := hX.2.2.2.1
  have hts := hX.2.2.2.2.1
  have hA := hX.2.2.2.2.2.2
  refine lv_istore_n (lv' := [(2, .int t0), (0, .ref (ad 152)), (1, .int v1)]) hx hb dX8_pays_42 rfl hl (Nat.le_of_ble_eq_true rfl) rfl (fun ls hl => ?_)
  refine lv_aload_n hx hb dX8_pays_43 rfl (lv_at hl 1 rfl) ?_
  refine m_getq (t := 153) hX hP cok6 0 sge_152 s157_152 sk_152 (by decide) rfl q780 dX8_pays_44 ?_
  refine lv_iload_n hx hb dX8_pays_47 rfl (lv_at hl 2 rfl) ?_
  obtain ⟨r2, e1, h⟩ := ob1_some h
  refine j_i (j_runS (rest := [.ref (ad 153)]) hX hP hl.1 Y_X8_person (c_X8_person hA e1) ⟨rfl, rfl⟩ q814 ⟨Nat.le_of_ble_eq_true rfl, Nat.le_of_ble_eq_true rfl⟩ rfl rfl (Nat.le_of_ble_eq_true rfl) dX8_pays_48) hS (fun H locs hP hS => ?_)
  refine lv_iconst (v := 0) hx hb dX8_pays_51 kc_i0 ?_
  refine lv_iadd hx hb dX8_pays_52 ?_
  refine x_let h (fun x3 h => ?_)
  refine lv_dup2_11 hx hb dX8_pays_53 rfl rfl ?_
  refine m_ald hX hP h (sge_153) s157_153 sk_153 sn_153 dX8_pays_54 (fun h => ?_)
  refine x_let h (fun x4 h => ?_)
  refine lv_iload_n hx hb dX8_pays_55 rfl (lv_at hl 0 rfl) ?_
  refine lv_isub hx hb dX8_pays_56 ?_
  refine m_ast hX hP hS h (sge_153) s157_153 sk_153 sn_153 dX8_pays_57 (fun M5 H locs h hP hS => ?_)
  refine lv_aload_n hx hb dX8_pays_58 rfl (lv_at hl 1 rfl) ?_
  refine m_getq (t := 153) hX hP cok6 0 sge_152 s157_152 sk_152 (by decide) rfl q780 dX8_pays_59 ?_
  refine lv_iconst (v := 2) hx hb dX8_pays_62 kc_i2 ?_
  refine lv_dup2_11 hx hb dX8_pays_63 rfl rfl ?_
  refine m_ald hX hP h (sge_153) s157_153 sk_153 sn_153 dX8_pays_64 (fun h => ?_)
  refine x_let h (fun x6 h => ?_)
  refine lv_iload_n hx hb dX8_pays_65 rfl (lv_at hl 0 rfl) ?_
  refine lv_iadd hx hb dX8_pays_66 ?_
  refine m_ast hX hP hS h (sge_153) s157_153 sk_153 sn_153 dX8_pays_67 (fun M7 H locs h hP hS => ?_)
  cases h
  exact j_vret hX hr hlk hP hS dX8_pays_68
set_option maxHeartbeats 4000000 in
set_option maxRecDepth 100000 in
theorem c_X8_pays {l : Launch} {D : va_G} {tc : Tc} {ad : Nat → Nat} {A : Nat → Prop} (hA : adok ad A) {I M : St} {v1 : Int32} {II : St} (h : f_X8_pays v1 M = some II) : Met l yX8_pays (Cond.code yX8_pays cX8_pays 3 none :: tw) rm_X8_pays (pre D tc ad [.ref (ad 152), .int v1] (cmb I M)) (qv D tc ad A (cmb I II)) 0 0 A := by
  unfold f_X8_pays at h
  refine mk_met (own := RX8) (by decide +kernel) rfl hA (Nat.le_of_ble_eq_true rfl) ?_
  intro p e s m below meth c ls hX hr hlk hl hP hS
  have hl : lv_has ls 3 [(0, .ref (ad 152)), (1, .int v1)] := hl
  have hx := hX.1
  have hb := hX.2.1
  have hown := hX.2.2.2.1
  have hts := hX.2.2.2.2.1
  refine lv_aload_n hx hb dX8_pays_0 rfl (lv_at hl 0 rfl) ?_
  refine m_getq (t := 153) hX hP cok6 0 sge_152 s157_152 sk_152 (by decide) rfl q780 dX8_pays_1 ?_
  refine lv_iload_n hx hb dX8_pays_4 rfl (lv_at hl 1 rfl) ?_
  obtain ⟨r9, e8, h⟩ := ob1_some h
  refine j_i (j_runS (rest := [.ref (ad 153)]) hX hP hl.1 Y_X8_person (c_X8_person hA e8) ⟨rfl, rfl⟩ q814 ⟨Nat.le_of_ble_eq_true rfl, Nat.le_of_ble_eq_true rfl⟩ rfl rfl (Nat.le_of_ble_eq_true rfl) dX8_pays_5) hS (fun H locs hP hS => ?_)
  refine lv_iconst (v := 0) hx hb dX8_pays_8 kc_i0 ?_
  refine lv_iadd hx hb dX8_pays_9 ?_
  refine x_let h (fun x10 h => ?_)
  refine m_ald hX hP h (sge_153) s157_153 sk_153 sn_153 dX8_pays_10 (fun h => ?_)
  refine x_let h (fun x11 h => ?_)
  refine lv_aload_n hx hb dX8_pays_11 rfl (lv_at hl 0 rfl) ?_
  refine m_getq (t := 153) hX hP cok6 0 sge_152 s157_152 sk_152 (by decide) rfl q780 dX8_pays_12 ?_
  refine lv_bipush (v := 7) hx hb dX8_pays_15 kc_b7 ?_
  refine m_ald hX hP h (sge_153) s157_153 sk_153 sn_153 dX8_pays_17 (fun h => ?_)
  refine x_icmp_ge (tgt := 35) hx hb dX8_pays_18 (by decide) h (fun c12 h => ?_) (fun c12 h => ?_)
  · refine lv_aload_n hx hb dX8_pays_35 rfl (lv_at hl 0 rfl) ?_
    refine m_getq (t := 153) hX hP cok6 0 sge_152 s157_152 sk_152 (by decide) rfl q780 dX8_pays_36 ?_
    refine lv_bipush (v := 7) hx hb dX8_pays_39 kc_b7 ?_
    refine m_ald hX hP h (sge_153) s157_153 sk_153 sn_153 dX8_pays_41 (fun h => ?_)
    exact t_X8_pays_b42 hX hr hlk  _ _ _ h _ _ _ hP hS (lv_sub hl [0, 1] rfl)
  · refine lv_aload_n hx hb dX8_pays_21 rfl (lv_at hl 0 rfl) ?_
    refine m_getq (t := 153) hX hP cok6 0 sge_152 s157_152 sk_152 (by decide) rfl q780 dX8_pays_22 ?_
    refine lv_iload_n hx hb dX8_pays_25 rfl (lv_at hl 1 rfl) ?_
    obtain ⟨r14, e13, h⟩ := ob1_some h
    refine j_i (j_runS (rest := [.ref (ad 153)]) hX hP hl.1 Y_X8_person (c_X8_person hA e13) ⟨rfl, rfl⟩ q814 ⟨Nat.le_of_ble_eq_true rfl, Nat.le_of_ble_eq_true rfl⟩ rfl rfl (Nat.le_of_ble_eq_true rfl) dX8_pays_26) hS (fun H locs hP hS => ?_)
    refine lv_iconst (v := 0) hx hb dX8_pays_29 kc_i0 ?_
    refine lv_iadd hx hb dX8_pays_30 ?_
    refine x_let h (fun x15 h => ?_)
    refine m_ald hX hP h (sge_153) s157_153 sk_153 sn_153 dX8_pays_31 (fun h => ?_)
    refine lv_goto (tgt := 42) hx hb dX8_pays_32 (by decide) ?_
    exact t_X8_pays_b42 hX hr hlk  _ _ _ h _ _ _ hP hS (lv_sub hl [0, 1] rfl)
/-! OwnerlessCoinModel.addParticipant(I)I -/
def rm_X8_addParticipant : Room := { frames := 1, cells := 0, slots := 0, locals := 22 }
theorem Y_X8_addParticipant : yv yX8_addParticipant cX8_addParticipant 2 (some .int) 1 RX8 := ⟨q805, q803, q804, q57, by decide +kernel⟩
set_option maxHeartbeats 4000000 in
set_option maxRecDepth 100000 in
theorem c_X8_addParticipant {l : Launch} {D : va_G} {tc : Tc} {ad : Nat → Nat} {A : Nat → Prop} (hA : adok ad A) {I M : St} {v1 : Int32} {rr : Int32} {II : St} (h : f_X8_addParticipant v1 M = some (rr, II)) : Met l yX8_addParticipant (Cond.code yX8_addParticipant cX8_addParticipant 2 (some .int) :: tw) rm_X8_addParticipant (pre D tc ad [.ref (ad 152), .int v1] (cmb I M)) (qi D tc ad A rr (cmb I II)) 0 0 A := by
  unfold f_X8_addParticipant at h
  refine mk_met (own := RX8) (by decide +kernel) rfl hA (Nat.le_of_ble_eq_true rfl) ?_
  intro p e s m below meth c ls hX hr hlk hl hP hS
  have hl : lv_has ls 2 [(0, .ref (ad 152)), (1, .int v1)] := hl
  have hx := hX.1
  have hb := hX.2.1
  have hown := hX.2.2.2.1
  have hts := hX.2.2.2.2.1
  refine lv_iload_n hx hb dX8_addParticipant_0 rfl (lv_at hl 1 rfl) ?_
  refine lv_iconst (v := 0) hx hb dX8_addParticipant_1 kc_i0 ?_
  refine lv_ldc (v := 1000000) hx hb hown (hts _ q806) dX8_addParticipant_2 ?_
  obtain ⟨r2, e1, h⟩ := ob1_some h
  refine j_i (j_runS (rest := []) hX hP hl.1 Y_X8_in (c_X8_in hA e1) ⟨rfl, rfl⟩ q807 ⟨Nat.le_of_ble_eq_true rfl, Nat.le_of_ble_eq_true rfl⟩ rfl rfl (Nat.le_of_ble_eq_true rfl) dX8_addParticipant_4) hS (fun H locs hP hS => ?_)
  refine x_if_ne (tgt := 12) hx hb dX8_addParticipant_7 (by decide) h (fun c3 h => ?_) (fun c3 h => ?_)
  · refine lv_aload_n hx hb dX8_addParticipant_12 rfl (lv_at hl 0 rfl) ?_
    refine m_getq (t := 153) hX hP cok6 0 sge_152 s157_152 sk_152 (by decide) rfl q780 dX8_addParticipant_13 ?_
    refine lv_iconst (v := 0) hx hb dX8_addParticipant_16 kc_i0 ?_
    refine m_ald hX hP h (sge_153) s157_153 sk_153 sn_153 dX8_addParticipant_17 (fun h => ?_)
    refine x_if_eq (tgt := 24) hx hb dX8_addParticipant_18 (by decide) h (fun c4 h => ?_) (fun c4 h => ?_)
    · refine lv_aload_n hx hb dX8_addParticipant_24 rfl (lv_at hl 0 rfl) ?_
      refine m_getq (t := 153) hX hP cok6 0 sge_152 s157_152 sk_152 (by decide) rfl q780 dX8_addParticipant_25 ?_
      refine lv_iconst (v := 4) hx hb dX8_addParticipant_28 kc_i4 ?_
      refine m_ald hX hP h (sge_153) s157_153 sk_153 sn_153 dX8_addParticipant_29 (fun h => ?_)
      refine x_let h (fun x5 h => ?_)
      refine lv_bipush (v := 8) hx hb dX8_addParticipant_30 kc_b8 ?_
      refine x_icmp_ne (tgt := 38) hx hb dX8_addParticipant_32 (by decide) h (fun c6 h => ?_) (fun c6 h => ?_)
      · refine lv_aload_n hx hb dX8_addParticipant_38 rfl (lv_at hl 0 rfl) ?_
        obtain ⟨M8, e7, h⟩ := ob1_some h
        refine j_v (j_runV (rest := []) hX hP hl.1 Y_X8_act cok6 (s157_152) sk_152 (c_X8_act hA e7) ⟨rfl, rfl⟩ q810 ⟨Nat.le_of_ble_eq_true rfl, Nat.le_of_ble_eq_true rfl⟩ rfl rfl (Nat.le_of_ble_eq_true rfl) dX8_addParticipant_39) hS (fun H locs hP hS => ?_)
        refine lv_aload_n hx hb dX8_addParticipant_42 rfl (lv_at hl 0 rfl) ?_
        refine m_getq (t := 153) hX hP cok6 0 sge_152 s157_152 sk_152 (by decide) rfl q780 dX8_addParticipant_43 ?_
        refine lv_aload_n hx hb dX8_addParticipant_46 rfl (lv_at hl 0 rfl) ?_
        refine m_getq (t := 153) hX hP cok6 0 sge_152 s157_152 sk_152 (by decide) rfl q780 dX8_addParticipant_47 ?_
        refine lv_iconst (v := 4) hx hb dX8_addParticipant_50 kc_i4 ?_
        refine m_ald hX hP h (sge_153) s157_153 sk_153 sn_153 dX8_addParticipant_51 (fun h => ?_)
        obtain ⟨r10, e9, h⟩ := ob1_some h
        refine j_i (j_runS (rest := [.ref (ad 153)]) hX hP hl.1 Y_X8_person (c_X8_person hA e9) ⟨rfl, rfl⟩ q814 ⟨Nat.le_of_ble_eq_true rfl, Nat.le_of_ble_eq_true rfl⟩ rfl rfl (Nat.le_of_ble_eq_true rfl) dX8_addParticipant_52) hS (fun H locs hP hS => ?_)
        refine lv_iconst (v := 0) hx hb dX8_addParticipant_55 kc_i0 ?_
        refine lv_iadd hx hb dX8_addParticipant_56 ?_
        refine x_let h (fun x11 h => ?_)
        refine lv_iload_n hx hb dX8_addParticipant_57 rfl (lv_at hl 1 rfl) ?_
        refine m_ast hX hP hS h (sge_153) s157_153 sk_153 sn_153 dX8_addParticipant_58 (fun M12 H locs h hP hS => ?_)
        refine lv_aload_n hx hb dX8_addParticipant_59 rfl (lv_at hl 0 rfl) ?_
        refine m_getq (t := 153) hX hP cok6 0 sge_152 s157_152 sk_152 (by decide) rfl q780 dX8_addParticipant_60 ?_
        refine lv_iconst (v := 4) hx hb dX8_addParticipant_63 kc_i4 ?_
        refine lv_dup2_11 hx hb dX8_addParticipant_64 rfl rfl ?_
        refine m_ald hX hP h (sge_153) s157_153 sk_153 sn_153 dX8_addParticipant_65 (fun h => ?_)
        refine x_let h (fun x13 h => ?_)
        refine lv_iconst (v := 1) hx hb dX8_addParticipant_66 kc_i1 ?_
        refine lv_iadd hx hb dX8_addParticipant_67 ?_
        refine m_ast hX hP hS h (sge_153) s157_153 sk_153 sn_153 dX8_addParticipant_68 (fun M14 H locs h hP hS => ?_)
        refine lv_aload_n hx hb dX8_addParticipant_69 rfl (lv_at hl 0 rfl) ?_
        refine m_getq (t := 153) hX hP cok6 0 sge_152 s157_152 sk_152 (by decide) rfl q780 dX8_addParticipant_70 ?_
        refine lv_iconst (v := 4) hx hb dX8_addParticipant_73 kc_i4 ?_
        refine m_ald hX hP h (sge_153) s157_153 sk_153 sn_153 dX8_addParticipant_74 (fun h => ?_)
        refine x_let h (fun x15 h => ?_)
        refine lv_iconst (v := 1) hx hb dX8_addParticipant_75 kc_i1 ?_
        refine lv_isub hx hb dX8_addParticipant_76 ?_
        cases h
        exact j_iret hX hr hlk hP hS dX8_addParticipant_77
      · refine lv_bipush (v := (-3)) hx hb dX8_addParticipant_35 kc_bm3 ?_
        cases h
        exact j_iret hX hr hlk hP hS dX8_addParticipant_37
    · refine lv_bipush (v := (-2)) hx hb dX8_addParticipant_21 kc_bm2 ?_
      cases h
      exact j_iret hX hr hlk hP hS dX8_addParticipant_23
  · refine lv_iconst (v := (-1)) hx hb dX8_addParticipant_10 kc_im1 ?_
    cases h
    exact j_iret hX hr hlk hP hS dX8_addParticipant_11
