/-! OwnerlessCoinLaw.sets(LOwnerlessCoin;I)Z -/
def rm_L_sets : Room := { frames := 3, cells := 0, slots := 0, locals := 63 }
theorem Y_L_sets : ys yL_sets cL_sets 8 (some .boolean) 2 := ⟨q628, q627, q11, by decide +kernel⟩
set_option maxHeartbeats 4000000 in
set_option maxRecDepth 100000 in
theorem t_L_sets_b123 {p : Program} {l : Launch} {e : Env} {s : State} {m : MethodId} {args : Array Value} {below : List Frame} {meth : Method} {c : Code} {D : va_G} {tc : Tc} {ad : Nat → Nat} {A : Nat → Prop} {M : St} {rr : Int32} (hX : cx p s m args c cL_sets 8 RL D tc ad A) (hr : meth.sig.returnType = some .boolean) (hlk : meth.locks = false) {K75 : Int32 → Int32 → Int32 → Int32 → Int32 → Int32 → St → Option (Int32)} (hK75 : ∀ (v1 : Int32) (v2 : Int32) (v3 : Int32) (v4 : Int32) (v6 : Int32) (v7 : Int32) (I : St), K75 v1 v2 v3 v4 v6 v7 I = some rr → ∀ (H : Heap) (locs : List Loc) (ls : Array Slot), va_P D vwCl (wl tc ad (cmb I M)) H → va_S A s.heap H locs → lv_has ls 8 [(0, .ref (ad 145)), (1, .int v1), (2, .int v2), (3, .int v3), (4, .int v4), (6, .int v6), (7, .int v7)] → W p l e rm_L_sets s m args below meth c H locs 0 0 (MQ below (qi D tc ad A rr (cmb I M)) args s 0 0 A) (F0 m 75 ls [])) : ∀ (v1 : Int32) (v2 : Int32) (v3 : Int32) (v4 : Int32) (v7 : Int32) (t0 : Int32) (I : St), f_L_sets_b123 K75 v1 v2 v3 v4 v7 t0 I = some rr → ∀ (H : Heap) (locs : List Loc) (ls : Array Slot), va_P D vwCl (wl tc ad (cmb I M)) H → va_S A s.heap H locs → lv_has ls 8 [(0, .ref (ad 145)), (1, .int v1), (2, .int v2), (3, .int v3), (4, .int v4), (7, .int v7)] → W p l e rm_L_sets s m args below meth c H locs 0 0 (MQ below (qi D tc ad A rr (cmb I M)) args s 0 0 A) (F0 m 123 ls [.int t0]) := by
  intro v1 v2 v3 v4 v7 t0 I h H locs ls hP hS hl
  unfold f_L_sets_b123 at h
  have hx := hX.1
  have hb := hX.2.1
  have hown := hX.2.2.2.1
  have hts := hX.2.2.2.2.1
  have hA := hX.2.2.2.2.2.2
  refine lv_istore (lv' := [(6, .int t0), (0, .ref (ad 145)), (1, .int v1), (2, .int v2), (3, .int v3), (4, .int v4), (7, .int v7)]) hx hb dL_sets_123 hl (Nat.le_of_ble_eq_true rfl) rfl (fun ls hl => ?_)
  refine lv_iinc (v := (v7 + 1)) (lv' := [(7, .int (v7 + 1)), (6, .int t0), (0, .ref (ad 145)), (1, .int v1), (2, .int v2), (3, .int v3), (4, .int v4)]) hx hb dL_sets_125 hl (k := 6) rfl rfl (Nat.le_of_ble_eq_true rfl) rfl (fun ls hl => ?_)
  refine lv_goto (tgt := 75) hx hb dL_sets_128 (by decide) ?_
  exact hK75 _ _ _ _ _ _ _ h _ _ _ hP hS (lv_sub hl [2, 3, 4, 5, 6, 1, 0] rfl)
set_option maxHeartbeats 4000000 in
set_option maxRecDepth 100000 in
theorem t_L_sets_b122 {p : Program} {l : Launch} {e : Env} {s : State} {m : MethodId} {args : Array Value} {below : List Frame} {meth : Method} {c : Code} {D : va_G} {tc : Tc} {ad : Nat → Nat} {A : Nat → Prop} {M : St} {rr : Int32} (hX : cx p s m args c cL_sets 8 RL D tc ad A) (hr : meth.sig.returnType = some .boolean) (hlk : meth.locks = false) {K75 : Int32 → Int32 → Int32 → Int32 → Int32 → Int32 → St → Option (Int32)} (hK75 : ∀ (v1 : Int32) (v2 : Int32) (v3 : Int32) (v4 : Int32) (v6 : Int32) (v7 : Int32) (I : St), K75 v1 v2 v3 v4 v6 v7 I = some rr → ∀ (H : Heap) (locs : List Loc) (ls : Array Slot), va_P D vwCl (wl tc ad (cmb I M)) H → va_S A s.heap H locs → lv_has ls 8 [(0, .ref (ad 145)), (1, .int v1), (2, .int v2), (3, .int v3), (4, .int v4), (6, .int v6), (7, .int v7)] → W p l e rm_L_sets s m args below meth c H locs 0 0 (MQ below (qi D tc ad A rr (cmb I M)) args s 0 0 A) (F0 m 75 ls [])) : ∀ (v1 : Int32) (v2 : Int32) (v3 : Int32) (v4 : Int32) (v7 : Int32) (I : St), f_L_sets_b122 K75 v1 v2 v3 v4 v7 I = some rr → ∀ (H : Heap) (locs : List Loc) (ls : Array Slot), va_P D vwCl (wl tc ad (cmb I M)) H → va_S A s.heap H locs → lv_has ls 8 [(0, .ref (ad 145)), (1, .int v1), (2, .int v2), (3, .int v3), (4, .int v4), (7, .int v7)] → W p l e rm_L_sets s m args below meth c H locs 0 0 (MQ below (qi D tc ad A rr (cmb I M)) args s 0 0 A) (F0 m 122 ls []) := by
  intro v1 v2 v3 v4 v7 I h H locs ls hP hS hl
  unfold f_L_sets_b122 at h
  have hx := hX.1
  have hb := hX.2.1
  have hown := hX.2.2.2.1
  have hts := hX.2.2.2.2.1
  have hA := hX.2.2.2.2.2.2
  refine lv_iconst (v := 0) hx hb dL_sets_122 kc_i0 ?_
  exact t_L_sets_b123 hX hr hlk hK75 _ _ _ _ _ _ _ h _ _ _ hP hS (lv_sub hl [0, 1, 2, 3, 4, 5] rfl)
set_option maxHeartbeats 4000000 in
set_option maxRecDepth 100000 in
theorem t_L_sets_b115 {p : Program} {l : Launch} {e : Env} {s : State} {m : MethodId} {args : Array Value} {below : List Frame} {meth : Method} {c : Code} {D : va_G} {tc : Tc} {ad : Nat → Nat} {A : Nat → Prop} {M : St} {rr : Int32} (hX : cx p s m args c cL_sets 8 RL D tc ad A) (hr : meth.sig.returnType = some .boolean) (hlk : meth.locks = false) {K75 : Int32 → Int32 → Int32 → Int32 → Int32 → Int32 → St → Option (Int32)} (hK75 : ∀ (v1 : Int32) (v2 : Int32) (v3 : Int32) (v4 : Int32) (v6 : Int32) (v7 : Int32) (I : St), K75 v1 v2 v3 v4 v6 v7 I = some rr → ∀ (H : Heap) (locs : List Loc) (ls : Array Slot), va_P D vwCl (wl tc ad (cmb I M)) H → va_S A s.heap H locs → lv_has ls 8 [(0, .ref (ad 145)), (1, .int v1), (2, .int v2), (3, .int v3), (4, .int v4), (6, .int v6), (7, .int v7)] → W p l e rm_L_sets s m args below meth c H locs 0 0 (MQ below (qi D tc ad A rr (cmb I M)) args s 0 0 A) (F0 m 75 ls [])) : ∀ (v1 : Int32) (v2 : Int32) (v3 : Int32) (v4 : Int32) (v7 : Int32) (t0 : Int32) (t1 : Int32) (I : St), f_L_sets_b115 K75 v1 v2 v3 v4 v7 t0 t1 I = some rr → ∀ (H : Heap) (locs : List Loc) (ls : Array Slot), va_P D vwCl (wl tc ad (cmb I M)) H → va_S A s.heap H locs → lv_has ls 8 [(0, .ref (ad 145)), (1, .int v1), (2, .int v2), (3, .int v3), (4, .int v4), (7, .int v7)] → W p l e rm_L_sets s m args below meth c H locs 0 0 (MQ below (qi D tc ad A rr (cmb I M)) args s 0 0 A) (F0 m 115 ls [.int t1, .int t0]) := by
  intro v1 v2 v3 v4 v7 t0 t1 I h H locs ls hP hS hl
  unfold f_L_sets_b115 at h
  have hx := hX.1
  have hb := hX.2.1
  have hown := hX.2.2.2.1
  have hts := hX.2.2.2.2.1
  have hA := hX.2.2.2.2.2.2
  refine x_icmp_ne (tgt := 122) hx hb dL_sets_115 (by decide) h (fun c1 h => ?_) (fun c1 h => ?_)
  · exact t_L_sets_b122 hX hr hlk hK75 _ _ _ _ _ _ h _ _ _ hP hS (lv_sub hl [0, 1, 2, 3, 4, 5] rfl)
  · refine lv_iconst (v := 1) hx hb dL_sets_118 kc_i1 ?_
    refine lv_goto (tgt := 123) hx hb dL_sets_119 (by decide) ?_
    exact t_L_sets_b123 hX hr hlk hK75 _ _ _ _ _ _ _ h _ _ _ hP hS (lv_sub hl [0, 1, 2, 3, 4, 5] rfl)
set_option maxHeartbeats 4000000 in
set_option maxRecDepth 100000 in
theorem t_L_sets_b100 {p : Program} {l : Launch} {e : Env} {s : State} {m : MethodId} {args : Array Value} {below : List Frame} {meth : Method} {c : Code} {D : va_G} {tc : Tc} {ad : Nat → Nat} {A : Nat → Prop} {M : St} {rr : Int32} (hX : cx p s m args c cL_sets 8 RL D tc ad A) (hr : meth.sig.returnType = some .boolean) (hlk : meth.locks = false) {K75 : Int32 → Int32 → Int32 → Int32 → Int32 → Int32 → St → Option (Int32)} (hK75 : ∀ (v1 : Int32) (v2 : Int32) (v3 : Int32) (v4 : Int32) (v6 : Int32) (v7 : Int32) (I : St), K75 v1 v2 v3 v4 v6 v7 I = some rr → ∀ (H : Heap) (locs : List Loc) (ls : Array Slot), va_P D vwCl (wl tc ad (cmb I M)) H → va_S A s.heap H locs → lv_has ls 8 [(0, .ref (ad 145)), (1, .int v1), (2, .int v2), (3, .int v3), (4, .int v4), (6, .int v6), (7, .int v7)] → W p l e rm_L_sets s m args below meth c H locs 0 0 (MQ below (qi D tc ad A rr (cmb I M)) args s 0 0 A) (F0 m 75 ls [])) : ∀ (v1 : Int32) (v2 : Int32) (v3 : Int32) (v4 : Int32) (v7 : Int32) (t0 : Int32) (I : St), f_L_sets_b100 K75 v1 v2 v3 v4 v7 t0 I = some rr → ∀ (H : Heap) (locs : List Loc) (ls : Array Slot), va_P D vwCl (wl tc ad (cmb I M)) H → va_S A s.heap H locs → lv_has ls 8 [(0, .ref (ad 145)), (1, .int v1), (2, .int v2), (3, .int v3), (4, .int v4), (7, .int v7)] → W p l e rm_L_sets s m args below meth c H locs 0 0 (MQ below (qi D tc ad A rr (cmb I M)) args s 0 0 A) (F0 m 100 ls [.int t0]) := by
  intro v1 v2 v3 v4 v7 t0 I h H locs ls hP hS hl
  unfold f_L_sets_b100 at h
  have hx := hX.1
  have hb := hX.2.1
  have hown := hX.2.2.2.1
  have hts := hX.2.2.2.2.1
  have hA := hX.2.2.2.2.2.2
  refine lv_iload_n hx hb dL_sets_100 rfl (lv_at hl 3 rfl) ?_
  refine lv_iload hx hb dL_sets_101 (lv_at hl 5 rfl) ?_
  refine lv_ishr hx hb dL_sets_103 ?_
  refine x_let h (fun x2 h => ?_)
  refine lv_iconst (v := 1) hx hb dL_sets_104 kc_i1 ?_
  refine lv_iand hx hb dL_sets_105 ?_
  refine x_let h (fun x3 h => ?_)
  refine lv_iconst (v := 1) hx hb dL_sets_106 kc_i1 ?_
  refine x_icmp_ne (tgt := 114) hx hb dL_sets_107 (by decide) h (fun c4 h => ?_) (fun c4 h => ?_)
  · refine lv_iconst (v := 0) hx hb dL_sets_114 kc_i0 ?_
    exact t_L_sets_b115 hX hr hlk hK75 _ _ _ _ _ _ _ _ h _ _ _ hP hS (lv_sub hl [0, 1, 2, 3, 4, 5] rfl)
  · refine lv_iconst (v := 1) hx hb dL_sets_110 kc_i1 ?_
    refine lv_goto (tgt := 115) hx hb dL_sets_111 (by decide) ?_
    exact t_L_sets_b115 hX hr hlk hK75 _ _ _ _ _ _ _ _ h _ _ _ hP hS (lv_sub hl [0, 1, 2, 3, 4, 5] rfl)
set_option maxHeartbeats 4000000 in
set_option maxRecDepth 100000 in
theorem t_L_sets_b162 {p : Program} {l : Launch} {e : Env} {s : State} {m : MethodId} {args : Array Value} {below : List Frame} {meth : Method} {c : Code} {D : va_G} {tc : Tc} {ad : Nat → Nat} {A : Nat → Prop} {M : St} {rr : Int32} (hX : cx p s m args c cL_sets 8 RL D tc ad A) (hr : meth.sig.returnType = some .boolean) (hlk : meth.locks = false) : ∀ (t0 : Int32) (I : St), f_L_sets_b162 t0 I = some rr → ∀ (H : Heap) (locs : List Loc) (ls : Array Slot), va_P D vwCl (wl tc ad (cmb I M)) H → va_S A s.heap H locs → lv_has ls 8 [] → W p l e rm_L_sets s m args below meth c H locs 0 0 (MQ below (qi D tc ad A rr (cmb I M)) args s 0 0 A) (F0 m 162 ls [.int t0]) := by
  intro t0 I h H locs ls hP hS hl
  unfold f_L_sets_b162 at h
  have hx := hX.1
  have hb := hX.2.1
  have hown := hX.2.2.2.1
  have hts := hX.2.2.2.2.1
  have hA := hX.2.2.2.2.2.2
  obtain ⟨gz, h⟩ := ck_some h
  cases h
  exact j_zret hX hr hlk hP hS (isB_or gz) dL_sets_162
set_option maxHeartbeats 4000000 in
set_option maxRecDepth 100000 in
theorem t_L_sets_b157 {p : Program} {l : Launch} {e : Env} {s : State} {m : MethodId} {args : Array Value} {below : List Frame} {meth : Method} {c : Code} {D : va_G} {tc : Tc} {ad : Nat → Nat} {A : Nat → Prop} {M : St} {rr : Int32} (hX : cx p s m args c cL_sets 8 RL D tc ad A) (hr : meth.sig.returnType = some .boolean) (hlk : meth.locks = false) : ∀ (I : St), f_L_sets_b157 I = some rr → ∀ (H : Heap) (locs : List Loc) (ls : Array Slot), va_P D vwCl (wl tc ad (cmb I M)) H → va_S A s.heap H locs → lv_has ls 8 [] → W p l e rm_L_sets s m args below meth c H locs 0 0 (MQ below (qi D tc ad A rr (cmb I M)) args s 0 0 A) (F0 m 157 ls []) := by
  intro I h H locs ls hP hS hl
  unfold f_L_sets_b157 at h
  have hx := hX.1
  have hb := hX.2.1
  have hown := hX.2.2.2.1
  have hts := hX.2.2.2.2.1
  have hA := hX.2.2.2.2.2.2
  refine lv_iconst (v := 1) hx hb dL_sets_157 kc_i1 ?_
  refine lv_goto (tgt := 162) hx hb dL_sets_158 (by decide) ?_
  exact t_L_sets_b162 hX hr hlk  _ _ h _ _ _ hP hS (lv_sub hl [] rfl)
set_option maxHeartbeats 4000000 in
set_option maxRecDepth 100000 in
theorem t_L_sets_b161 {p : Program} {l : Launch} {e : Env} {s : State} {m : MethodId} {args : Array Value} {below : List Frame} {meth : Method} {c : Code} {D : va_G} {tc : Tc} {ad : Nat → Nat} {A : Nat → Prop} {M : St} {rr : Int32} (hX : cx p s m args c cL_sets 8 RL D tc ad A) (hr : meth.sig.returnType = some .boolean) (hlk : meth.locks = false) : ∀ (I : St), f_L_sets_b161 I = some rr → ∀ (H : Heap) (locs : List Loc) (ls : Array Slot), va_P D vwCl (wl tc ad (cmb I M)) H → va_S A s.heap H locs → lv_has ls 8 [] → W p l e rm_L_sets s m args below meth c H locs 0 0 (MQ below (qi D tc ad A rr (cmb I M)) args s 0 0 A) (F0 m 161 ls []) := by
  intro I h H locs ls hP hS hl
  unfold f_L_sets_b161 at h
  have hx := hX.1
  have hb := hX.2.1
  have hown := hX.2.2.2.1
  have hts := hX.2.2.2.2.1
  have hA := hX.2.2.2.2.2.2
  refine lv_iconst (v := 0) hx hb dL_sets_161 kc_i0 ?_
  exact t_L_sets_b162 hX hr hlk  _ _ h _ _ _ hP hS (lv_sub hl [] rfl)
set_option maxHeartbeats 4000000 in
set_option maxRecDepth 100000 in
theorem t_L_sets_l75 {p : Program} {l : Launch} {e : Env} {s : State} {m : MethodId} {args : Array Value} {below : List Frame} {meth : Method} {c : Code} {D : va_G} {tc : Tc} {ad : Nat → Nat} {A : Nat → Prop} {M : St} {rr : Int32} (hX : cx p s m args c cL_sets 8 RL D tc ad A) (hr : meth.sig.returnType = some .boolean) (hlk : meth.locks = false) : ∀ (n : Nat), ∀ (v1 : Int32) (v2 : Int32) (v3 : Int32) (v4 : Int32) (v6 : Int32) (v7 : Int32) (I : St), f_L_sets_l75 n v1 v2 v3 v4 v6 v7 I = some rr → ∀ (H : Heap) (locs : List Loc) (ls : Array Slot), va_P D vwCl (wl tc ad (cmb I M)) H → va_S A s.heap H locs → lv_has ls 8 [(0, .ref (ad 145)), (1, .int v1), (2, .int v2), (3, .int v3), (4, .int v4), (6, .int v6), (7, .int v7)] → W p l e rm_L_sets s m args below meth c H locs 0 0 (MQ below (qi D tc ad A rr (cmb I M)) args s 0 0 A) (F0 m 75 ls []) := by
  intro n
  induction n with
  | zero =>
    intro _ _ _ _ _ _ _ h
    cases h
  | succ n ih =>
    intro v1 v2 v3 v4 v6 v7 I h H locs ls hP hS hl
    rw [f_L_sets_l75] at h
    have hx := hX.1
    have hb := hX.2.1
    have hown := hX.2.2.2.1
    have hts := hX.2.2.2.2.1
    have hA := hX.2.2.2.2.2.2
    refine lv_iload hx hb dL_sets_75 (lv_at hl 6 rfl) ?_
    refine lv_iload_n hx hb dL_sets_77 rfl (lv_at hl 1 rfl) ?_
    refine x_icmp_ge (tgt := 131) hx hb dL_sets_78 (by decide) h (fun c5 h => ?_) (fun c5 h => ?_)
    · refine lv_iload hx hb dL_sets_131 (lv_at hl 5 rfl) ?_
      refine x_if_eq (tgt := 161) hx hb dL_sets_133 (by decide) h (fun c6 h => ?_) (fun c6 h => ?_)
      · exact t_L_sets_b161 hX hr hlk  _ h _ _ _ hP hS (lv_sub hl [] rfl)
      · refine lv_aload_n hx hb dL_sets_136 rfl (lv_at hl 0 rfl) ?_
        obtain ⟨r8, e7, h⟩ := ob1_some h
        refine j_i (j_runV (rest := []) hX hP hl.1 Y_X7_phase cok5 (lt157 sl_145) sk_145 (c_X7_phase hA e7) ⟨rfl, rfl⟩ q525 ⟨Nat.le_of_ble_eq_true rfl, Nat.le_of_ble_eq_true rfl⟩ rfl rfl (Nat.le_of_ble_eq_true rfl) dL_sets_137) hS (fun H locs hP hS => ?_)
        refine lv_iconst (v := 1) hx hb dL_sets_140 kc_i1 ?_
        refine x_icmp_ne (tgt := 152) hx hb dL_sets_141 (by decide) h (fun c9 h => ?_) (fun c9 h => ?_)
        · refine lv_iload_n hx hb dL_sets_152 rfl (lv_at hl 3 rfl) ?_
          refine lv_iload_n hx hb dL_sets_153 rfl (lv_at hl 2 rfl) ?_
          refine x_icmp_ne (tgt := 161) hx hb dL_sets_154 (by decide) h (fun c10 h => ?_) (fun c10 h => ?_)
          · exact t_L_sets_b161 hX hr hlk  _ h _ _ _ hP hS (lv_sub hl [] rfl)
          · exact t_L_sets_b157 hX hr hlk  _ h _ _ _ hP hS (lv_sub hl [] rfl)
        · refine lv_iload hx hb dL_sets_144 (lv_at hl 4 rfl) ?_
          refine x_if_ne (tgt := 161) hx hb dL_sets_146 (by decide) h (fun c11 h => ?_) (fun c11 h => ?_)
          · exact t_L_sets_b161 hX hr hlk  _ h _ _ _ hP hS (lv_sub hl [] rfl)
          · refine lv_goto (tgt := 157) hx hb dL_sets_149 (by decide) ?_
            exact t_L_sets_b157 hX hr hlk  _ h _ _ _ hP hS (lv_sub hl [] rfl)
    · refine lv_iload hx hb dL_sets_81 (lv_at hl 5 rfl) ?_
      refine x_if_eq (tgt := 122) hx hb dL_sets_83 (by decide) h (fun c12 h => ?_) (fun c12 h => ?_)
      · exact t_L_sets_b122 hX hr hlk ih _ _ _ _ _ _ h _ _ _ hP hS (lv_sub hl [0, 1, 2, 3, 4, 6] rfl)
      · refine lv_aload_n hx hb dL_sets_86 rfl (lv_at hl 0 rfl) ?_
        refine lv_iload hx hb dL_sets_87 (lv_at hl 6 rfl) ?_
        obtain ⟨r14, e13, h⟩ := ob1_some h
        refine j_i (j_runV (rest := []) hX hP hl.1 Y_X7_digest cok5 (lt157 sl_145) sk_145 (c_X7_digest hA e13) ⟨rfl, rfl⟩ q568 ⟨Nat.le_of_ble_eq_true rfl, Nat.le_of_ble_eq_true rfl⟩ rfl rfl (Nat.le_of_ble_eq_true rfl) dL_sets_89) hS (fun H locs hP hS => ?_)
        refine x_if_lt (tgt := 99) hx hb dL_sets_92 (by decide) h (fun c15 h => ?_) (fun c15 h => ?_)
        · refine lv_iconst (v := 0) hx hb dL_sets_99 kc_i0 ?_
          exact t_L_sets_b100 hX hr hlk ih _ _ _ _ _ _ _ h _ _ _ hP hS (lv_sub hl [0, 1, 2, 3, 4, 6] rfl)
        · refine lv_iconst (v := 1) hx hb dL_sets_95 kc_i1 ?_
          refine lv_goto (tgt := 100) hx hb dL_sets_96 (by decide) ?_
          exact t_L_sets_b100 hX hr hlk ih _ _ _ _ _ _ _ h _ _ _ hP hS (lv_sub hl [0, 1, 2, 3, 4, 6] rfl)
set_option maxHeartbeats 4000000 in
set_option maxRecDepth 100000 in
theorem t_L_sets_b70 {p : Program} {l : Launch} {e : Env} {s : State} {m : MethodId} {args : Array Value} {below : List Frame} {meth : Method} {c : Code} {D : va_G} {tc : Tc} {ad : Nat → Nat} {A : Nat → Prop} {M : St} {rr : Int32} (hX : cx p s m args c cL_sets 8 RL D tc ad A) (hr : meth.sig.returnType = some .boolean) (hlk : meth.locks = false) : ∀ (v1 : Int32) (v2 : Int32) (v3 : Int32) (v4 : Int32) (t0 : Int32) (I : St), f_L_sets_b70 v1 v2 v3 v4 t0 I = some rr → ∀ (H : Heap) (locs : List Loc) (ls : Array Slot), va_P D vwCl (wl tc ad (cmb I M)) H → va_S A s.heap H locs → lv_has ls 8 [(0, .ref (ad 145)), (1, .int v1), (2, .int v2), (3, .int v3), (4, .int v4)] → W p l e rm_L_sets s m args below meth c H locs 0 0 (MQ below (qi D tc ad A rr (cmb I M)) args s 0 0 A) (F0 m 70 ls [.int t0]) := by
  intro v1 v2 v3 v4 t0 I h H locs ls hP hS hl
  unfold f_L_sets_b70 at h
  have hx := hX.1
  have hb := hX.2.1
  have hown := hX.2.2.2.1
  have hts := hX.2.2.2.2.1
  have hA := hX.2.2.2.2.2.2
  refine lv_istore (lv' := [(6, .int t0), (0, .ref (ad 145)), (1, .int v1), (2, .int v2), (3, .int v3), (4, .int v4)]) hx hb dL_sets_70 hl (Nat.le_of_ble_eq_true rfl) rfl (fun ls hl => ?_)
  refine lv_iconst (v := 0) hx hb dL_sets_72 kc_i0 ?_
  refine lv_istore (lv' := [(7, .int 0), (6, .int t0), (0, .ref (ad 145)), (1, .int v1), (2, .int v2), (3, .int v3), (4, .int v4)]) hx hb dL_sets_73 hl (Nat.le_of_ble_eq_true rfl) rfl (fun ls hl => ?_)
  exact t_L_sets_l75 hX hr hlk  10000 _ _ _ _ _ _ _ h _ _ _ hP hS (lv_sub hl [2, 3, 4, 5, 6, 1, 0] rfl)
set_option maxHeartbeats 4000000 in
set_option maxRecDepth 100000 in
theorem t_L_sets_b69 {p : Program} {l : Launch} {e : Env} {s : State} {m : MethodId} {args : Array Value} {below : List Frame} {meth : Method} {c : Code} {D : va_G} {tc : Tc} {ad : Nat → Nat} {A : Nat → Prop} {M : St} {rr : Int32} (hX : cx p s m args c cL_sets 8 RL D tc ad A) (hr : meth.sig.returnType = some .boolean) (hlk : meth.locks = false) : ∀ (v1 : Int32) (v2 : Int32) (v3 : Int32) (v4 : Int32) (I : St), f_L_sets_b69 v1 v2 v3 v4 I = some rr → ∀ (H : Heap) (locs : List Loc) (ls : Array Slot), va_P D vwCl (wl tc ad (cmb I M)) H → va_S A s.heap H locs → lv_has ls 8 [(0, .ref (ad 145)), (1, .int v1), (2, .int v2), (3, .int v3), (4, .int v4)] → W p l e rm_L_sets s m args below meth c H locs 0 0 (MQ below (qi D tc ad A rr (cmb I M)) args s 0 0 A) (F0 m 69 ls []) := by
  intro v1 v2 v3 v4 I h H locs ls hP hS hl
  unfold f_L_sets_b69 at h
  have hx := hX.1
  have hb := hX.2.1
  have hown := hX.2.2.2.1
  have hts := hX.2.2.2.2.1
  have hA := hX.2.2.2.2.2.2
  refine lv_iconst (v := 0) hx hb dL_sets_69 kc_i0 ?_
  exact t_L_sets_b70 hX hr hlk  _ _ _ _ _ _ h _ _ _ hP hS (lv_sub hl [0, 1, 2, 3, 4] rfl)
set_option maxHeartbeats 4000000 in
set_option maxRecDepth 100000 in
theorem c_L_sets {l : Launch} {D : va_G} {tc : Tc} {ad : Nat → Nat} {A : Nat → Prop} (hA : adok ad A) {I M : St} {v1 : Int32} {rr : Int32} (h : f_L_sets v1 I = some rr) : Met l yL_sets (Cond.code yL_sets cL_sets 8 (some .boolean) :: tw) rm_L_sets (pre D tc ad [.ref (ad 145), .int v1] (cmb I M)) (qi D tc ad A rr (cmb I M)) 0 0 A := by
  unfold f_L_sets at h
  refine mk_met (own := RL) (by decide +kernel) rfl hA (Nat.le_of_ble_eq_true rfl) ?_
  intro p e s m below meth c ls hX hr hlk hl hP hS
  have hl : lv_has ls 8 [(0, .ref (ad 145)), (1, .int v1)] := hl
  have hx := hX.1
  have hb := hX.2.1
  have hown := hX.2.2.2.1
  have hts := hX.2.2.2.2.1
  refine lv_aload_n hx hb dL_sets_0 rfl (lv_at hl 0 rfl) ?_
  obtain ⟨r17, e16, h⟩ := ob1_some h
  refine j_i (j_runV (rest := []) hX hP hl.1 Y_X7_phase cok5 (lt157 sl_145) sk_145 (c_X7_phase hA e16) ⟨rfl, rfl⟩ q525 ⟨Nat.le_of_ble_eq_true rfl, Nat.le_of_ble_eq_true rfl⟩ rfl rfl (Nat.le_of_ble_eq_true rfl) dL_sets_1) hS (fun H locs hP hS => ?_)
  refine x_if_ne (tgt := 9) hx hb dL_sets_4 (by decide) h (fun c18 h => ?_) (fun c18 h => ?_)
  · refine lv_aload_n hx hb dL_sets_9 rfl (lv_at hl 0 rfl) ?_
    refine lv_iconst (v := 0) hx hb dL_sets_10 kc_i0 ?_
    obtain ⟨r20, e19, h⟩ := ob1_some h
    refine j_i (j_runV (rest := []) hX hP hl.1 Y_X7_set cok5 (lt157 sl_145) sk_145 (c_X7_set hA e19) ⟨rfl, rfl⟩ q457 ⟨Nat.le_of_ble_eq_true rfl, Nat.le_of_ble_eq_true rfl⟩ rfl rfl (Nat.le_of_ble_eq_true rfl) dL_sets_11) hS (fun H locs hP hS => ?_)
    refine lv_istore_n (lv' := [(2, .int r20), (0, .ref (ad 145)), (1, .int v1)]) hx hb dL_sets_14 rfl hl (Nat.le_of_ble_eq_true rfl) rfl (fun ls hl => ?_)
    refine lv_aload_n hx hb dL_sets_15 rfl (lv_at hl 1 rfl) ?_
    refine lv_iconst (v := 1) hx hb dL_sets_16 kc_i1 ?_
    obtain ⟨r22, e21, h⟩ := ob1_some h
    refine j_i (j_runV (rest := []) hX hP hl.1 Y_X7_set cok5 (lt157 sl_145) sk_145 (c_X7_set hA e21) ⟨rfl, rfl⟩ q457 ⟨Nat.le_of_ble_eq_true rfl, Nat.le_of_ble_eq_true rfl⟩ rfl rfl (Nat.le_of_ble_eq_true rfl) dL_sets_17) hS (fun H locs hP hS => ?_)
    refine lv_istore_n (lv' := [(3, .int r22), (2, .int r20), (0, .ref (ad 145)), (1, .int v1)]) hx hb dL_sets_20 rfl hl (Nat.le_of_ble_eq_true rfl) rfl (fun ls hl => ?_)
    refine lv_aload_n hx hb dL_sets_21 rfl (lv_at hl 2 rfl) ?_
    refine lv_iconst (v := 2) hx hb dL_sets_22 kc_i2 ?_
    obtain ⟨r24, e23, h⟩ := ob1_some h
    refine j_i (j_runV (rest := []) hX hP hl.1 Y_X7_set cok5 (lt157 sl_145) sk_145 (c_X7_set hA e23) ⟨rfl, rfl⟩ q457 ⟨Nat.le_of_ble_eq_true rfl, Nat.le_of_ble_eq_true rfl⟩ rfl rfl (Nat.le_of_ble_eq_true rfl) dL_sets_23) hS (fun H locs hP hS => ?_)
    refine lv_istore (lv' := [(4, .int r24), (3, .int r22), (2, .int r20), (0, .ref (ad 145)), (1, .int v1)]) hx hb dL_sets_26 hl (Nat.le_of_ble_eq_true rfl) rfl (fun ls hl => ?_)
    refine lv_aload_n hx hb dL_sets_28 rfl (lv_at hl 3 rfl) ?_
    refine lv_iconst (v := 3) hx hb dL_sets_29 kc_i3 ?_
    obtain ⟨r26, e25, h⟩ := ob1_some h
    refine j_i (j_runV (rest := []) hX hP hl.1 Y_X7_set cok5 (lt157 sl_145) sk_145 (c_X7_set hA e25) ⟨rfl, rfl⟩ q457 ⟨Nat.le_of_ble_eq_true rfl, Nat.le_of_ble_eq_true rfl⟩ rfl rfl (Nat.le_of_ble_eq_true rfl) dL_sets_30) hS (fun H locs hP hS => ?_)
    refine lv_istore (lv' := [(5, .int r26), (4, .int r24), (3, .int r22), (2, .int r20), (0, .ref (ad 145)), (1, .int v1)]) hx hb dL_sets_33 hl (Nat.le_of_ble_eq_true rfl) rfl (fun ls hl => ?_)
    refine lv_iload_n hx hb dL_sets_35 rfl (lv_at hl 3 rfl) ?_
    refine lv_iload_n hx hb dL_sets_36 rfl (lv_at hl 5 rfl) ?_
    refine lv_ishr hx hb dL_sets_37 ?_
    refine x_if_ne (tgt := 69) hx hb dL_sets_38 (by decide) h (fun c27 h => ?_) (fun c27 h => ?_)
    · exact t_L_sets_b69 hX hr hlk  _ _ _ _ _ h _ _ _ hP hS (lv_sub hl [4, 5, 3, 2, 1] rfl)
    · refine lv_iload_n hx hb dL_sets_41 rfl (lv_at hl 2 rfl) ?_
      refine lv_iload_n hx hb dL_sets_42 rfl (lv_at hl 3 rfl) ?_
      refine lv_iconst (v := (-1)) hx hb dL_sets_43 kc_im1 ?_
      refine lv_ixor hx hb dL_sets_44 ?_
      refine lv_iand hx hb dL_sets_45 ?_
      refine x_if_ne (tgt := 69) hx hb dL_sets_46 (by decide) h (fun c28 h => ?_) (fun c28 h => ?_)
      · exact t_L_sets_b69 hX hr hlk  _ _ _ _ _ h _ _ _ hP hS (lv_sub hl [4, 5, 3, 2, 1] rfl)
      · refine lv_iload hx hb dL_sets_49 (lv_at hl 1 rfl) ?_
        refine lv_iload_n hx hb dL_sets_51 rfl (lv_at hl 2 rfl) ?_
        refine lv_iconst (v := (-1)) hx hb dL_sets_52 kc_im1 ?_
        refine lv_ixor hx hb dL_sets_53 ?_
        refine lv_iand hx hb dL_sets_54 ?_
        refine x_if_ne (tgt := 69) hx hb dL_sets_55 (by decide) h (fun c29 h => ?_) (fun c29 h => ?_)
        · exact t_L_sets_b69 hX hr hlk  _ _ _ _ _ h _ _ _ hP hS (lv_sub hl [4, 5, 3, 2, 1] rfl)
        · refine lv_iload hx hb dL_sets_58 (lv_at hl 0 rfl) ?_
          refine lv_iload_n hx hb dL_sets_60 rfl (lv_at hl 3 rfl) ?_
          refine lv_iand hx hb dL_sets_61 ?_
          refine x_if_ne (tgt := 69) hx hb dL_sets_62 (by decide) h (fun c30 h => ?_) (fun c30 h => ?_)
          · exact t_L_sets_b69 hX hr hlk  _ _ _ _ _ h _ _ _ hP hS (lv_sub hl [4, 5, 3, 2, 1] rfl)
          · refine lv_iconst (v := 1) hx hb dL_sets_65 kc_i1 ?_
            refine lv_goto (tgt := 70) hx hb dL_sets_66 (by decide) ?_
            exact t_L_sets_b70 hX hr hlk  _ _ _ _ _ _ h _ _ _ hP hS (lv_sub hl [4, 5, 3, 2, 1] rfl)
  · refine lv_iconst (v := 1) hx hb dL_sets_7 kc_i1 ?_
    cases h
    exact j_zret hX hr hlk hP hS (Or.inr rfl) dL_sets_8
/-! OwnerlessCoinLaw.accounts(LOwnerlessCoin;IJ)Z -/
def rm_L_accounts : Room := { frames := 3, cells := 0, slots := 0, locals := 69 }
theorem Y_L_accounts : ys yL_accounts cL_accounts 7 (some .boolean) 3 := ⟨q631, q630, q11, by decide +kernel⟩
set_option maxHeartbeats 4000000 in
set_option maxRecDepth 100000 in
theorem t_L_accounts_b65 {p : Program} {l : Launch} {e : Env} {s : State} {m : MethodId} {args : Array Value} {below : List Frame} {meth : Method} {c : Code} {D : va_G} {tc : Tc} {ad : Nat → Nat} {A : Nat → Prop} {M : St} {rr : Int32} (hX : cx p s m args c cL_accounts 7 RL D tc ad A) (hr : meth.sig.returnType = some .boolean) (hlk : meth.locks = false) : ∀ (I : St), f_L_accounts_b65 I = some rr → ∀ (H : Heap) (locs : List Loc) (ls : Array Slot), va_P D vwCl (wl tc ad (cmb I M)) H → va_S A s.heap H locs → lv_has ls 7 [] → W p l e rm_L_accounts s m args below meth c H locs 0 0 (MQ below (qi D tc ad A rr (cmb I M)) args s 0 0 A) (F0 m 65 ls []) := by
  intro I h H locs ls hP hS hl
  unfold f_L_accounts_b65 at h
  have hx := hX.1
  have hb := hX.2.1
  have hown := hX.2.2.2.1
  have hts := hX.2.2.2.2.1
  have hA := hX.2.2.2.2.2.2
  refine lv_iconst (v := 0) hx hb dL_accounts_65 kc_i0 ?_
  cases h
  exact j_zret hX hr hlk hP hS (Or.inl rfl) dL_accounts_66
set_option maxHeartbeats 4000000 in
set_option maxRecDepth 100000 in
theorem t_L_accounts_b154 {p : Program} {l : Launch} {e : Env} {s : State} {m : MethodId} {args : Array Value} {below : List Frame} {meth : Method} {c : Code} {D : va_G} {tc : Tc} {ad : Nat → Nat} {A : Nat → Prop} {M : St} {rr : Int32} (hX : cx p s m args c cL_accounts 7 RL D tc ad A) (hr : meth.sig.returnType = some .boolean) (hlk : meth.locks = false) : ∀ (t0 : Int32) (I : St), f_L_accounts_b154 t0 I = some rr → ∀ (H : Heap) (locs : List Loc) (ls : Array Slot), va_P D vwCl (wl tc ad (cmb I M)) H → va_S A s.heap H locs → lv_has ls 7 [] → W p l e rm_L_accounts s m args below meth c H locs 0 0 (MQ below (qi D tc ad A rr (cmb I M)) args s 0 0 A) (F0 m 154 ls [.int t0]) := by
  intro t0 I h H locs ls hP hS hl
  unfold f_L_accounts_b154 at h
  have hx := hX.1
  have hb := hX.2.1
  have hown := hX.2.2.2.1
  have hts := hX.2.2.2.2.1
  have hA := hX.2.2.2.2.2.2
  obtain ⟨gz, h⟩ := ck_some h
  cases h
  exact j_zret hX hr hlk hP hS (isB_or gz) dL_accounts_154
set_option maxHeartbeats 4000000 in
set_option maxRecDepth 100000 in
theorem t_L_accounts_b153 {p : Program} {l : Launch} {e : Env} {s : State} {m : MethodId} {args : Array Value} {below : List Frame} {meth : Method} {c : Code} {D : va_G} {tc : Tc} {ad : Nat → Nat} {A : Nat → Prop} {M : St} {rr : Int32} (hX : cx p s m args c cL_accounts 7 RL D tc ad A) (hr : meth.sig.returnType = some .boolean) (hlk : meth.locks = false) : ∀ (I : St), f_L_accounts_b153 I = some rr → ∀ (H : Heap) (locs : List Loc) (ls : Array Slot), va_P D vwCl (wl tc ad (cmb I M)) H → va_S A s.heap H locs → lv_has ls 7 [] → W p l e rm_L_accounts s m args below meth c H locs 0 0 (MQ below (qi D tc ad A rr (cmb I M)) args s 0 0 A) (F0 m 153 ls []) := by
  intro I h H locs ls hP hS hl
  unfold f_L_accounts_b153 at h
  have hx := hX.1
  have hb := hX.2.1
  have hown := hX.2.2.2.1
  have hts := hX.2.2.2.2.1
  have hA := hX.2.2.2.2.2.2
  refine lv_iconst (v := 0) hx hb dL_accounts_153 kc_i0 ?_
  exact t_L_accounts_b154 hX hr hlk  _ _ h _ _ _ hP hS (lv_sub hl [] rfl)
set_option maxHeartbeats 4000000 in
set_option maxRecDepth 100000 in
theorem t_L_accounts_b146 {p : Program} {l : Launch} {e : Env} {s : State} {m : MethodId} {args : Array Value} {below : List Frame} {meth : Method} {c : Code} {D : va_G} {tc : Tc} {ad : Nat → Nat} {A : Nat → Prop} {M : St} {rr : Int32} (hX : cx p s m args c cL_accounts 7 RL D tc ad A) (hr : meth.sig.returnType = some .boolean) (hlk : meth.locks = false) : ∀ (t0 : Int32) (t1 : Int32) (I : St), f_L_accounts_b146 t0 t1 I = some rr → ∀ (H : Heap) (locs : List Loc) (ls : Array Slot), va_P D vwCl (wl tc ad (cmb I M)) H → va_S A s.heap H locs → lv_has ls 7 [] → W p l e rm_L_accounts s m args below meth c H locs 0 0 (MQ below (qi D tc ad A rr (cmb I M)) args s 0 0 A) (F0 m 146 ls [.int t1, .int t0]) := by
  intro t0 t1 I h H locs ls hP hS hl
  unfold f_L_accounts_b146 at h
  have hx := hX.1
  have hb := hX.2.1
  have hown := hX.2.2.2.1
  have hts := hX.2.2.2.2.1
  have hA := hX.2.2.2.2.2.2
  refine x_icmp_ne (tgt := 153) hx hb dL_accounts_146 (by decide) h (fun c1 h => ?_) (fun c1 h => ?_)
  · exact t_L_accounts_b153 hX hr hlk  _ h _ _ _ hP hS (lv_sub hl [] rfl)
  · refine lv_iconst (v := 1) hx hb dL_accounts_149 kc_i1 ?_
    refine lv_goto (tgt := 154) hx hb dL_accounts_150 (by decide) ?_
    exact t_L_accounts_b154 hX hr hlk  _ _ h _ _ _ hP hS (lv_sub hl [] rfl)
set_option maxHeartbeats 4000000 in
set_option maxRecDepth 100000 in
theorem t_L_accounts_b127 {p : Program} {l : Launch} {e : Env} {s : State} {m : MethodId} {args : Array Value} {below : List Frame} {meth : Method} {c : Code} {D : va_G} {tc : Tc} {ad : Nat → Nat} {A : Nat → Prop} {M : St} {rr : Int32} (hX : cx p s m args c cL_accounts 7 RL D tc ad A) (hr : meth.sig.returnType = some .boolean) (hlk : meth.locks = false) : ∀ (t0 : Int32) (I : St), f_L_accounts_b127 t0 I = some rr → ∀ (H : Heap) (locs : List Loc) (ls : Array Slot), va_P D vwCl (wl tc ad (cmb I M)) H → va_S A s.heap H locs → lv_has ls 7 [(0, .ref (ad 145))] → W p l e rm_L_accounts s m args below meth c H locs 0 0 (MQ below (qi D tc ad A rr (cmb I M)) args s 0 0 A) (F0 m 127 ls [.int t0]) := by
  intro t0 I h H locs ls hP hS hl
  unfold f_L_accounts_b127 at h
  have hx := hX.1
  have hb := hX.2.1
  have hown := hX.2.2.2.1
  have hts := hX.2.2.2.2.1
  have hA := hX.2.2.2.2.2.2
  refine lv_aload_n hx hb dL_accounts_127 rfl (lv_at hl 0 rfl) ?_
  refine lv_iconst (v := 0) hx hb dL_accounts_128 kc_i0 ?_
  obtain ⟨r3, e2, h⟩ := ob1_some h
  refine j_i (j_runV (rest := [.int t0]) hX hP hl.1 Y_X7_coins cok5 (lt157 sl_145) sk_145 (c_X7_coins hA e2) ⟨rfl, rfl⟩ q638 ⟨Nat.le_of_ble_eq_true rfl, Nat.le_of_ble_eq_true rfl⟩ rfl rfl (Nat.le_of_ble_eq_true rfl) dL_accounts_129) hS (fun H locs hP hS => ?_)
  refine lv_aload_n hx hb dL_accounts_132 rfl (lv_at hl 0 rfl) ?_
  refine lv_iconst (v := 1) hx hb dL_accounts_133 kc_i1 ?_
  obtain ⟨r5, e4, h⟩ := ob1_some h
  refine j_i (j_runV (rest := [.int r3, .int t0]) hX hP hl.1 Y_X7_coins cok5 (lt157 sl_145) sk_145 (c_X7_coins hA e4) ⟨rfl, rfl⟩ q638 ⟨Nat.le_of_ble_eq_true rfl, Nat.le_of_ble_eq_true rfl⟩ rfl rfl (Nat.le_of_ble_eq_true rfl) dL_accounts_134) hS (fun H locs hP hS => ?_)
  refine lv_iadd hx hb dL_accounts_137 ?_
  refine x_if_le (tgt := 145) hx hb dL_accounts_138 (by decide) h (fun c6 h => ?_) (fun c6 h => ?_)
  · refine lv_iconst (v := 0) hx hb dL_accounts_145 kc_i0 ?_
    exact t_L_accounts_b146 hX hr hlk  _ _ _ h _ _ _ hP hS (lv_sub hl [] rfl)
  · refine lv_iconst (v := 1) hx hb dL_accounts_141 kc_i1 ?_
    refine lv_goto (tgt := 146) hx hb dL_accounts_142 (by decide) ?_
    exact t_L_accounts_b146 hX hr hlk  _ _ _ h _ _ _ hP hS (lv_sub hl [] rfl)
set_option maxHeartbeats 4000000 in
set_option maxRecDepth 100000 in
theorem t_L_accounts_l9 {p : Program} {l : Launch} {e : Env} {s : State} {m : MethodId} {args : Array Value} {below : List Frame} {meth : Method} {c : Code} {D : va_G} {tc : Tc} {ad : Nat → Nat} {A : Nat → Prop} {M : St} {rr : Int32} (hX : cx p s m args c cL_accounts 7 RL D tc ad A) (hr : meth.sig.returnType = some .boolean) (hlk : meth.locks = false) : ∀ (n : Nat), ∀ (v1 : Int32) (v2 : Int64) (v4 : Int32) (v5 : Int32) (I : St), f_L_accounts_l9 n v1 v2 v4 v5 I = some rr → ∀ (H : Heap) (locs : List Loc) (ls : Array Slot), va_P D vwCl (wl tc ad (cmb I M)) H → va_S A s.heap H locs → lv_has ls 7 [(0, .ref (ad 145)), (1, .int v1), (2, .long v2), (4, .int v4), (5, .int v5)] → W p l e rm_L_accounts s m args below meth c H locs 0 0 (MQ below (qi D tc ad A rr (cmb I M)) args s 0 0 A) (F0 m 9 ls []) := by
  intro n
  induction n with
  | zero =>
    intro _ _ _ _ _ h
    cases h
  | succ n ih =>
    intro v1 v2 v4 v5 I h H locs ls hP hS hl
    rw [f_L_accounts_l9] at h
    have hx := hX.1
    have hb := hX.2.1
    have hown := hX.2.2.2.1
    have hts := hX.2.2.2.2.1
    have hA := hX.2.2.2.2.2.2
    refine lv_iload hx hb dL_accounts_9 (lv_at hl 4 rfl) ?_
    refine lv_iload_n hx hb dL_accounts_11 rfl (lv_at hl 1 rfl) ?_
    refine x_icmp_ge (tgt := 73) hx hb dL_accounts_12 (by decide) h (fun c7 h => ?_) (fun c7 h => ?_)
    · refine lv_aload_n hx hb dL_accounts_73 rfl (lv_at hl 0 rfl) ?_
      refine lv_iload_n hx hb dL_accounts_74 rfl (lv_at hl 1 rfl) ?_
      obtain ⟨r9, e8, h⟩ := ob1_some h
      refine j_l (j_runS (rest := []) hX hP hl.1 Y_L_sum (c_L_sum hA e8) ⟨rfl, rfl⟩ q634 ⟨Nat.le_of_ble_eq_true rfl, Nat.le_of_ble_eq_true rfl⟩ rfl rfl (Nat.le_of_ble_eq_true rfl) dL_accounts_75) hS (fun H locs hP hS => ?_)
      refine lv_lload_n hx hb dL_accounts_78 rfl (lv_at hl 2 rfl) ?_
      refine W.lcmp hx hb dL_accounts_79 ?_
      refine x_if_ne (tgt := 153) hx hb dL_accounts_80 (by decide) h (fun c10 h => ?_) (fun c10 h => ?_)
      · exact t_L_accounts_b153 hX hr hlk  _ h _ _ _ hP hS (lv_sub hl [] rfl)
      · refine lv_aload_n hx hb dL_accounts_83 rfl (lv_at hl 0 rfl) ?_
        obtain ⟨r12, e11, h⟩ := ob1_some h
        refine j_i (j_runV (rest := []) hX hP hl.1 Y_X7_pot cok5 (lt157 sl_145) sk_145 (c_X7_pot hA e11) ⟨rfl, rfl⟩ q637 ⟨Nat.le_of_ble_eq_true rfl, Nat.le_of_ble_eq_true rfl⟩ rfl rfl (Nat.le_of_ble_eq_true rfl) dL_accounts_84) hS (fun H locs hP hS => ?_)
        refine x_if_lt (tgt := 153) hx hb dL_accounts_87 (by decide) h (fun c13 h => ?_) (fun c13 h => ?_)
        · exact t_L_accounts_b153 hX hr hlk  _ h _ _ _ hP hS (lv_sub hl [] rfl)
        · refine lv_aload_n hx hb dL_accounts_90 rfl (lv_at hl 0 rfl) ?_
          refine lv_iconst (v := 0) hx hb dL_accounts_91 kc_i0 ?_
          obtain ⟨r15, e14, h⟩ := ob1_some h
          refine j_i (j_runV (rest := []) hX hP hl.1 Y_X7_coins cok5 (lt157 sl_145) sk_145 (c_X7_coins hA e14) ⟨rfl, rfl⟩ q638 ⟨Nat.le_of_ble_eq_true rfl, Nat.le_of_ble_eq_true rfl⟩ rfl rfl (Nat.le_of_ble_eq_true rfl) dL_accounts_92) hS (fun H locs hP hS => ?_)
          refine lv_aload_n hx hb dL_accounts_95 rfl (lv_at hl 0 rfl) ?_
          refine lv_iconst (v := 1) hx hb dL_accounts_96 kc_i1 ?_
          obtain ⟨r17, e16, h⟩ := ob1_some h
          refine j_i (j_runV (rest := [.int r15]) hX hP hl.1 Y_X7_coins cok5 (lt157 sl_145) sk_145 (c_X7_coins hA e16) ⟨rfl, rfl⟩ q638 ⟨Nat.le_of_ble_eq_true rfl, Nat.le_of_ble_eq_true rfl⟩ rfl rfl (Nat.le_of_ble_eq_true rfl) dL_accounts_97) hS (fun H locs hP hS => ?_)
          refine lv_iadd hx hb dL_accounts_100 ?_
          refine x_let h (fun x18 h => ?_)
          refine lv_iload hx hb dL_accounts_101 (lv_at hl 3 rfl) ?_
          refine x_icmp_gt (tgt := 153) hx hb dL_accounts_103 (by decide) h (fun c19 h => ?_) (fun c19 h => ?_)
          · exact t_L_accounts_b153 hX hr hlk  _ h _ _ _ hP hS (lv_sub hl [] rfl)
          · refine lv_aload_n hx hb dL_accounts_106 rfl (lv_at hl 0 rfl) ?_
            obtain ⟨r21, e20, h⟩ := ob1_some h
            refine j_i (j_runV (rest := []) hX hP hl.1 Y_X7_longestRun cok5 (lt157 sl_145) sk_145 (c_X7_longestRun hA e20) ⟨rfl, rfl⟩ q642 ⟨Nat.le_of_ble_eq_true rfl, Nat.le_of_ble_eq_true rfl⟩ rfl rfl (Nat.le_of_ble_eq_true rfl) dL_accounts_107) hS (fun H locs hP hS => ?_)
            refine lv_iload hx hb dL_accounts_110 (lv_at hl 3 rfl) ?_
            refine x_icmp_gt (tgt := 153) hx hb dL_accounts_112 (by decide) h (fun c22 h => ?_) (fun c22 h => ?_)
            · exact t_L_accounts_b153 hX hr hlk  _ h _ _ _ hP hS (lv_sub hl [] rfl)
            · refine lv_aload_n hx hb dL_accounts_115 rfl (lv_at hl 0 rfl) ?_
              obtain ⟨r24, e23, h⟩ := ob1_some h
              refine j_i (j_runV (rest := []) hX hP hl.1 Y_X7_longestRun cok5 (lt157 sl_145) sk_145 (c_X7_longestRun hA e23) ⟨rfl, rfl⟩ q642 ⟨Nat.le_of_ble_eq_true rfl, Nat.le_of_ble_eq_true rfl⟩ rfl rfl (Nat.le_of_ble_eq_true rfl) dL_accounts_116) hS (fun H locs hP hS => ?_)
              refine x_if_le (tgt := 126) hx hb dL_accounts_119 (by decide) h (fun c25 h => ?_) (fun c25 h => ?_)
              · refine lv_iconst (v := 0) hx hb dL_accounts_126 kc_i0 ?_
                exact t_L_accounts_b127 hX hr hlk  _ _ h _ _ _ hP hS (lv_sub hl [0] rfl)
              · refine lv_iconst (v := 1) hx hb dL_accounts_122 kc_i1 ?_
                refine lv_goto (tgt := 127) hx hb dL_accounts_123 (by decide) ?_
                exact t_L_accounts_b127 hX hr hlk  _ _ h _ _ _ hP hS (lv_sub hl [0] rfl)
    · refine lv_aload_n hx hb dL_accounts_15 rfl (lv_at hl 0 rfl) ?_
      refine lv_iload hx hb dL_accounts_16 (lv_at hl 4 rfl) ?_
      refine lv_iconst (v := 4) hx hb dL_accounts_18 kc_i4 ?_
      obtain ⟨r27, e26, h⟩ := ob1_some h
      refine j_i (j_runV (rest := []) hX hP hl.1 Y_X7_account cok5 (lt157 sl_145) sk_145 (c_X7_account hA e26) ⟨rfl, rfl⟩ q633 ⟨Nat.le_of_ble_eq_true rfl, Nat.le_of_ble_eq_true rfl⟩ rfl rfl (Nat.le_of_ble_eq_true rfl) dL_accounts_19) hS (fun H locs hP hS => ?_)
      refine lv_istore (lv' := [(6, .int r27), (0, .ref (ad 145)), (1, .int v1), (2, .long v2), (4, .int v4), (5, .int v5)]) hx hb dL_accounts_22 hl (Nat.le_of_ble_eq_true rfl) rfl (fun ls hl => ?_)
      refine lv_aload_n hx hb dL_accounts_24 rfl (lv_at hl 1 rfl) ?_
      refine lv_iload hx hb dL_accounts_25 (lv_at hl 5 rfl) ?_
      refine lv_iconst (v := 0) hx hb dL_accounts_27 kc_i0 ?_
      obtain ⟨r29, e28, h⟩ := ob1_some h
      refine j_i (j_runV (rest := []) hX hP hl.1 Y_X7_account cok5 (lt157 sl_145) sk_145 (c_X7_account hA e28) ⟨rfl, rfl⟩ q633 ⟨Nat.le_of_ble_eq_true rfl, Nat.le_of_ble_eq_true rfl⟩ rfl rfl (Nat.le_of_ble_eq_true rfl) dL_accounts_28) hS (fun H locs hP hS => ?_)
      refine x_if_lt (tgt := 65) hx hb dL_accounts_31 (by decide) h (fun c30 h => ?_) (fun c30 h => ?_)
      · exact t_L_accounts_b65 hX hr hlk  _ h _ _ _ hP hS (lv_sub hl [] rfl)
      · refine lv_aload_n hx hb dL_accounts_34 rfl (lv_at hl 1 rfl) ?_
        refine lv_iload hx hb dL_accounts_35 (lv_at hl 5 rfl) ?_
        refine lv_iconst (v := 1) hx hb dL_accounts_37 kc_i1 ?_
        obtain ⟨r32, e31, h⟩ := ob1_some h
        refine j_i (j_runV (rest := []) hX hP hl.1 Y_X7_account cok5 (lt157 sl_145) sk_145 (c_X7_account hA e31) ⟨rfl, rfl⟩ q633 ⟨Nat.le_of_ble_eq_true rfl, Nat.le_of_ble_eq_true rfl⟩ rfl rfl (Nat.le_of_ble_eq_true rfl) dL_accounts_38) hS (fun H locs hP hS => ?_)
        refine lv_aload_n hx hb dL_accounts_41 rfl (lv_at hl 1 rfl) ?_
        refine lv_iload hx hb dL_accounts_42 (lv_at hl 5 rfl) ?_
        refine lv_iconst (v := 2) hx hb dL_accounts_44 kc_i2 ?_
        obtain ⟨r34, e33, h⟩ := ob1_some h
        refine j_i (j_runV (rest := [.int r32]) hX hP hl.1 Y_X7_account cok5 (lt157 sl_145) sk_145 (c_X7_account hA e33) ⟨rfl, rfl⟩ q633 ⟨Nat.le_of_ble_eq_true rfl, Nat.le_of_ble_eq_true rfl⟩ rfl rfl (Nat.le_of_ble_eq_true rfl) dL_accounts_45) hS (fun H locs hP hS => ?_)
        refine lv_iadd hx hb dL_accounts_48 ?_
        refine x_let h (fun x35 h => ?_)
        refine lv_iload hx hb dL_accounts_49 (lv_at hl 4 rfl) ?_
        refine x_icmp_gt (tgt := 65) hx hb dL_accounts_51 (by decide) h (fun c36 h => ?_) (fun c36 h => ?_)
        · exact t_L_accounts_b65 hX hr hlk  _ h _ _ _ hP hS (lv_sub hl [] rfl)
        · refine lv_iload hx hb dL_accounts_54 (lv_at hl 0 rfl) ?_
          refine x_if_lt (tgt := 65) hx hb dL_accounts_56 (by decide) h (fun c37 h => ?_) (fun c37 h => ?_)
          · exact t_L_accounts_b65 hX hr hlk  _ h _ _ _ hP hS (lv_sub hl [] rfl)
          · refine lv_iload hx hb dL_accounts_59 (lv_at hl 0 rfl) ?_
            refine lv_iconst (v := 3) hx hb dL_accounts_61 kc_i3 ?_
            refine x_icmp_le (tgt := 67) hx hb dL_accounts_62 (by decide) h (fun c38 h => ?_) (fun c38 h => ?_)
            · refine lv_iinc (v := (v5 + 1)) (lv' := [(5, .int (v5 + 1)), (6, .int r27), (0, .ref (ad 145)), (1, .int v1), (2, .long v2), (4, .int v4)]) hx hb dL_accounts_67 hl (k := 5) rfl rfl (Nat.le_of_ble_eq_true rfl) rfl (fun ls hl => ?_)
              refine lv_goto (tgt := 9) hx hb dL_accounts_70 (by decide) ?_
              exact ih _ _ _ _ _ h _ _ _ hP hS (lv_sub hl [2, 3, 4, 5, 0] rfl)
            · exact t_L_accounts_b65 hX hr hlk  _ h _ _ _ hP hS (lv_sub hl [] rfl)
set_option maxHeartbeats 4000000 in
set_option maxRecDepth 100000 in
theorem c_L_accounts {l : Launch} {D : va_G} {tc : Tc} {ad : Nat → Nat} {A : Nat → Prop} (hA : adok ad A) {I M : St} {v1 : Int32} {v2 : Int64} {rr : Int32} (h : f_L_accounts v1 v2 I = some rr) : Met l yL_accounts (Cond.code yL_accounts cL_accounts 7 (some .boolean) :: tw) rm_L_accounts (pre D tc ad [.ref (ad 145), .int v1, .long v2] (cmb I M)) (qi D tc ad A rr (cmb I M)) 0 0 A := by
  unfold f_L_accounts at h
  refine mk_met (own := RL) (by decide +kernel) rfl hA (Nat.le_of_ble_eq_true rfl) ?_
  intro p e s m below meth c ls hX hr hlk hl hP hS
  have hl : lv_has ls 7 [(0, .ref (ad 145)), (1, .int v1), (2, .long v2)] := hl
  have hx := hX.1
  have hb := hX.2.1
  have hown := hX.2.2.2.1
  have hts := hX.2.2.2.2.1
  refine lv_aload_n hx hb dL_accounts_0 rfl (lv_at hl 0 rfl) ?_
  obtain ⟨r40, e39, h⟩ := ob1_some h
  refine j_i (j_runV (rest := []) hX hP hl.1 Y_X7_rounds cok5 (lt157 sl_145) sk_145 (c_X7_rounds hA e39) ⟨rfl, rfl⟩ q632 ⟨Nat.le_of_ble_eq_true rfl, Nat.le_of_ble_eq_true rfl⟩ rfl rfl (Nat.le_of_ble_eq_true rfl) dL_accounts_1) hS (fun H locs hP hS => ?_)
  refine lv_istore (lv' := [(4, .int r40), (0, .ref (ad 145)), (1, .int v1), (2, .long v2)]) hx hb dL_accounts_4 hl (Nat.le_of_ble_eq_true rfl) rfl (fun ls hl => ?_)
  refine lv_iconst (v := 0) hx hb dL_accounts_6 kc_i0 ?_
  refine lv_istore (lv' := [(5, .int 0), (4, .int r40), (0, .ref (ad 145)), (1, .int v1), (2, .long v2)]) hx hb dL_accounts_7 hl (Nat.le_of_ble_eq_true rfl) rfl (fun ls hl => ?_)
  exact t_L_accounts_l9 hX hr hlk  10000 _ _ _ _ _ h _ _ _ hP hS (lv_sub hl [2, 3, 4, 1, 0] rfl)
/-! OwnerlessCoinLaw.coalitions(LOwnerlessCoin;I)Z -/
def rm_L_coalitions : Room := { frames := 5, cells := 0, slots := 0, locals := 119 }
theorem Y_L_coalitions : ys yL_coalitions cL_coalitions 10 (some .boolean) 2 := ⟨q678, q677, q11, by decide +kernel⟩
set_option maxHeartbeats 4000000 in
set_option maxRecDepth 100000 in
theorem t_L_coalitions_b45 {p : Program} {l : Launch} {e : Env} {s : State} {m : MethodId} {args : Array Value} {below : List Frame} {meth : Method} {c : Code} {D : va_G} {tc : Tc} {ad : Nat → Nat} {A : Nat → Prop} {M : St} {rr : Int32} {II : St} (hX : cx p s m args c cL_coalitions 10 RL D tc ad A) (hr : meth.sig.returnType = some .boolean) (hlk : meth.locks = false) : ∀ (t0 : Int32) (I : St), f_L_coalitions_b45 t0 I = some (rr, II) → ∀ (H : Heap) (locs : List Loc) (ls : Array Slot), va_P D vwCl (wl tc ad (cmb I M)) H → va_S A s.heap H locs → lv_has ls 10 [] → W p l e rm_L_coalitions s m args below meth c H locs 0 0 (MQ below (qi D tc ad A rr (cmb II M)) args s 0 0 A) (F0 m 45 ls [.int t0]) := by
  intro t0 I h H locs ls hP hS hl
  unfold f_L_coalitions_b45 at h
  have hx := hX.1
  have hb := hX.2.1
  have hown := hX.2.2.2.1
  have hts := hX.2.2.2.2.1
  have hA := hX.2.2.2.2.2.2
  obtain ⟨gz, h⟩ := ck_some h
  cases h
  exact j_zret hX hr hlk hP hS (isB_or gz) dL_coalitions_45
set_option maxHeartbeats 4000000 in
set_option maxRecDepth 100000 in
theorem t_L_coalitions_b44 {p : Program} {l : Launch} {e : Env} {s : State} {m : MethodId} {args : Array Value} {below : List Frame} {meth : Method} {c : Code} {D : va_G} {tc : Tc} {ad : Nat → Nat} {A : Nat → Prop} {M : St} {rr : Int32} {II : St} (hX : cx p s m args c cL_coalitions 10 RL D tc ad A) (hr : meth.sig.returnType = some .boolean) (hlk : meth.locks = false) : ∀ (I : St), f_L_coalitions_b44 I = some (rr, II) → ∀ (H : Heap) (locs : List Loc) (ls : Array Slot), va_P D vwCl (wl tc ad (cmb I M)) H → va_S A s.heap H locs → lv_has ls 10 [] → W p l e rm_L_coalitions s m args below meth c H locs 0 0 (MQ below (qi D tc ad A rr (cmb II M)) args s 0 0 A) (F0 m 44 ls []) := by
  intro I h H locs ls hP hS hl
  unfold f_L_coalitions_b44 at h
  have hx := hX.1
  have hb := hX.2.1
  have hown := hX.2.2.2.1
  have hts := hX.2.2.2.2.1
  have hA := hX.2.2.2.2.2.2
  refine lv_iconst (v := 0) hx hb dL_coalitions_44 kc_i0 ?_
  exact t_L_coalitions_b45 hX hr hlk  _ _ h _ _ _ hP hS (lv_sub hl [] rfl)
set_option maxHeartbeats 4000000 in
set_option maxRecDepth 100000 in
theorem t_L_coalitions_b122 {p : Program} {l : Launch} {e : Env} {s : State} {m : MethodId} {args : Array Value} {below : List Frame} {meth : Method} {c : Code} {D : va_G} {tc : Tc} {ad : Nat → Nat} {A : Nat → Prop} {M : St} {rr : Int32} {II : St} (hX : cx p s m args c cL_coalitions 10 RL D tc ad A) (hr : meth.sig.returnType = some .boolean) (hlk : meth.locks = false) {K96 : Int32 → Int32 → Int32 → Int32 → Int32 → Int32 → Int32 → St → Option (Int32 × St)} (hK96 : ∀ (v3 : Int32) (v4 : Int32) (v5 : Int32) (v6 : Int32) (v7 : Int32) (v8 : Int32) (v9 : Int32) (I : St), K96 v3 v4 v5 v6 v7 v8 v9 I = some (rr, II) → ∀ (H : Heap) (locs : List Loc) (ls : Array Slot), va_P D vwCl (wl tc ad (cmb I M)) H → va_S A s.heap H locs → lv_has ls 10 [(0, .ref (ad 145)), (3, .int v3), (4, .int v4), (5, .int v5), (6, .int v6), (7, .int v7), (8, .int v8), (9, .int v9)] → W p l e rm_L_coalitions s m args below meth c H locs 0 0 (MQ below (qi D tc ad A rr (cmb II M)) args s 0 0 A) (F0 m 96 ls [])) : ∀ (v3 : Int32) (v4 : Int32) (v5 : Int32) (v6 : Int32) (v8 : Int32) (v9 : Int32) (t0 : Int32) (I : St), f_L_coalitions_b122 K96 v3 v4 v5 v6 v8 v9 t0 I = some (rr, II) → ∀ (H : Heap) (locs : List Loc) (ls : Array Slot), va_P D vwCl (wl tc ad (cmb I M)) H → va_S A s.heap H locs → lv_has ls 10 [(0, .ref (ad 145)), (3, .int v3), (4, .int v4), (5, .int v5), (6, .int v6), (8, .int v8), (9, .int v9)] → W p l e rm_L_coalitions s m args below meth c H locs 0 0 (MQ below (qi D tc ad A rr (cmb II M)) args s 0 0 A) (F0 m 122 ls [.int t0]) := by
  intro v3 v4 v5 v6 v8 v9 t0 I h H locs ls hP hS hl
  unfold f_L_coalitions_b122 at h
  have hx := hX.1
  have hb := hX.2.1
  have hown := hX.2.2.2.1
  have hts := hX.2.2.2.2.1
  have hA := hX.2.2.2.2.2.2
  refine lv_istore (lv' := [(7, .int t0), (0, .ref (ad 145)), (3, .int v3), (4, .int v4), (5, .int v5), (6, .int v6), (8, .int v8), (9, .int v9)]) hx hb dL_coalitions_122 hl (Nat.le_of_ble_eq_true rfl) rfl (fun ls hl => ?_)
  refine lv_iload hx hb dL_coalitions_124 (lv_at hl 6 rfl) ?_
  refine lv_aload_n hx hb dL_coalitions_126 rfl (lv_at hl 1 rfl) ?_
  refine lv_iconst (v := 0) hx hb dL_coalitions_127 kc_i0 ?_
  obtain ⟨r2, e1, h⟩ := ob1_some h
  refine j_i (j_runV (rest := [.int v8]) hX hP hl.1 Y_X7_set cok5 (lt157 sl_145) sk_145 (c_X7_set hA e1) ⟨rfl, rfl⟩ q457 ⟨Nat.le_of_ble_eq_true rfl, Nat.le_of_ble_eq_true rfl⟩ rfl rfl (Nat.le_of_ble_eq_true rfl) dL_coalitions_128) hS (fun H locs hP hS => ?_)
  refine lv_iload_n hx hb dL_coalitions_131 rfl (lv_at hl 2 rfl) ?_
  refine lv_iconst (v := (-1)) hx hb dL_coalitions_132 kc_im1 ?_
  refine lv_ixor hx hb dL_coalitions_133 ?_
  refine lv_iand hx hb dL_coalitions_134 ?_
  refine x_let h (fun x3 h => ?_)
  refine lv_iload hx hb dL_coalitions_135 (lv_at hl 7 rfl) ?_
  refine lv_ishr hx hb dL_coalitions_137 ?_
  refine x_let h (fun x4 h => ?_)
  refine lv_iconst (v := 1) hx hb dL_coalitions_138 kc_i1 ?_
  refine lv_iand hx hb dL_coalitions_139 ?_
  refine lv_iadd hx hb dL_coalitions_140 ?_
  refine x_let h (fun x5 h => ?_)
  refine lv_istore (lv' := [(8, .int x5), (7, .int t0), (0, .ref (ad 145)), (3, .int v3), (4, .int v4), (5, .int v5), (6, .int v6), (9, .int v9)]) hx hb dL_coalitions_141 hl (Nat.le_of_ble_eq_true rfl) rfl (fun ls hl => ?_)
  refine lv_iinc (v := (v9 + 1)) (lv' := [(9, .int (v9 + 1)), (8, .int x5), (7, .int t0), (0, .ref (ad 145)), (3, .int v3), (4, .int v4), (5, .int v5), (6, .int v6)]) hx hb dL_coalitions_143 hl (k := 7) rfl rfl (Nat.le_of_ble_eq_true rfl) rfl (fun ls hl => ?_)
  refine lv_goto (tgt := 96) hx hb dL_coalitions_146 (by decide) ?_
  exact hK96 _ _ _ _ _ _ _ _ h _ _ _ hP hS (lv_sub hl [3, 4, 5, 6, 7, 2, 1, 0] rfl)
set_option maxHeartbeats 4000000 in
set_option maxRecDepth 100000 in
theorem t_L_coalitions_b196 {p : Program} {l : Launch} {e : Env} {s : State} {m : MethodId} {args : Array Value} {below : List Frame} {meth : Method} {c : Code} {D : va_G} {tc : Tc} {ad : Nat → Nat} {A : Nat → Prop} {M : St} {rr : Int32} {II : St} (hX : cx p s m args c cL_coalitions 10 RL D tc ad A) (hr : meth.sig.returnType = some .boolean) (hlk : meth.locks = false) : ∀ (I : St), f_L_coalitions_b196 I = some (rr, II) → ∀ (H : Heap) (locs : List Loc) (ls : Array Slot), va_P D vwCl (wl tc ad (cmb I M)) H → va_S A s.heap H locs → lv_has ls 10 [] → W p l e rm_L_coalitions s m args below meth c H locs 0 0 (MQ below (qi D tc ad A rr (cmb II M)) args s 0 0 A) (F0 m 196 ls []) := by
  intro I h H locs ls hP hS hl
  unfold f_L_coalitions_b196 at h
  have hx := hX.1
  have hb := hX.2.1
  have hown := hX.2.2.2.1
  have hts := hX.2.2.2.2.1
  have hA := hX.2.2.2.2.2.2
  refine lv_iconst (v := 0) hx hb dL_coalitions_196 kc_i0 ?_
  cases h
  exact j_zret hX hr hlk hP hS (Or.inl rfl) dL_coalitions_197
set_option maxHeartbeats 4000000 in
set_option maxRecDepth 100000 in
theorem t_L_coalitions_b247 {p : Program} {l : Launch} {e : Env} {s : State} {m : MethodId} {args : Array Value} {below : List Frame} {meth : Method} {c : Code} {D : va_G} {tc : Tc} {ad : Nat → Nat} {A : Nat → Prop} {M : St} {rr : Int32} {II : St} (hX : cx p s m args c cL_coalitions 10 RL D tc ad A) (hr : meth.sig.returnType = some .boolean) (hlk : meth.locks = false) : ∀ (t0 : Int32) (I : St), f_L_coalitions_b247 t0 I = some (rr, II) → ∀ (H : Heap) (locs : List Loc) (ls : Array Slot), va_P D vwCl (wl tc ad (cmb I M)) H → va_S A s.heap H locs → lv_has ls 10 [] → W p l e rm_L_coalitions s m args below meth c H locs 0 0 (MQ below (qi D tc ad A rr (cmb II M)) args s 0 0 A) (F0 m 247 ls [.int t0]) := by
  intro t0 I h H locs ls hP hS hl
  unfold f_L_coalitions_b247 at h
  have hx := hX.1
  have hb := hX.2.1
  have hown := hX.2.2.2.1
  have hts := hX.2.2.2.2.1
  have hA := hX.2.2.2.2.2.2
  obtain ⟨gz, h⟩ := ck_some h
  cases h
  exact j_zret hX hr hlk hP hS (isB_or gz) dL_coalitions_247
set_option maxHeartbeats 4000000 in
set_option maxRecDepth 100000 in
theorem t_L_coalitions_b246 {p : Program} {l : Launch} {e : Env} {s : State} {m : MethodId} {args : Array Value} {below : List Frame} {meth : Method} {c : Code} {D : va_G} {tc : Tc} {ad : Nat → Nat} {A : Nat → Prop} {M : St} {rr : Int32} {II : St} (hX : cx p s m args c cL_coalitions 10 RL D tc ad A) (hr : meth.sig.returnType = some .boolean) (hlk : meth.locks = false) : ∀ (I : St), f_L_coalitions_b246 I = some (rr, II) → ∀ (H : Heap) (locs : List Loc) (ls : Array Slot), va_P D vwCl (wl tc ad (cmb I M)) H → va_S A s.heap H locs → lv_has ls 10 [] → W p l e rm_L_coalitions s m args below meth c H locs 0 0 (MQ below (qi D tc ad A rr (cmb II M)) args s 0 0 A) (F0 m 246 ls []) := by
  intro I h H locs ls hP hS hl
  unfold f_L_coalitions_b246 at h
  have hx := hX.1
  have hb := hX.2.1
  have hown := hX.2.2.2.1
  have hts := hX.2.2.2.2.1
  have hA := hX.2.2.2.2.2.2
  refine lv_iconst (v := 0) hx hb dL_coalitions_246 kc_i0 ?_
  exact t_L_coalitions_b247 hX hr hlk  _ _ h _ _ _ hP hS (lv_sub hl [] rfl)
set_option maxHeartbeats 4000000 in
set_option maxRecDepth 100000 in
theorem t_L_coalitions_b198 {p : Program} {l : Launch} {e : Env} {s : State} {m : MethodId} {args : Array Value} {below : List Frame} {meth : Method} {c : Code} {D : va_G} {tc : Tc} {ad : Nat → Nat} {A : Nat → Prop} {M : St} {rr : Int32} {II : St} (hX : cx p s m args c cL_coalitions 10 RL D tc ad A) (hr : meth.sig.returnType = some .boolean) (hlk : meth.locks = false) : ∀ (v3 : Int32) (v8 : Int32) (I : St), f_L_coalitions_b198 v3 v8 I = some (rr, II) → ∀ (H : Heap) (locs : List Loc) (ls : Array Slot), va_P D vwCl (wl tc ad (cmb I M)) H → va_S A s.heap H locs → lv_has ls 10 [(0, .ref (ad 145)), (3, .int v3), (8, .int v8)] → W p l e rm_L_coalitions s m args below meth c H locs 0 0 (MQ below (qi D tc ad A rr (cmb II M)) args s 0 0 A) (F0 m 198 ls []) := by
  intro v3 v8 I h H locs ls hP hS hl
  unfold f_L_coalitions_b198 at h
  have hx := hX.1
  have hb := hX.2.1
  have hown := hX.2.2.2.1
  have hts := hX.2.2.2.2.1
  have hA := hX.2.2.2.2.2.2
  refine lv_aload_n hx hb dL_coalitions_198 rfl (lv_at hl 0 rfl) ?_
  refine lv_iload_n hx hb dL_coalitions_199 rfl (lv_at hl 1 rfl) ?_
  refine lv_iconst (v := 1) hx hb dL_coalitions_200 kc_i1 ?_
  obtain ⟨r8, I7, e6, h⟩ := ob2_some h
  refine j_i (j_runV (rest := []) hX hP hl.1 Y_X7_bias cok5 (lt157 sl_145) sk_145 (c_X7_bias hA e6) ⟨rfl, rfl⟩ q500 ⟨Nat.le_of_ble_eq_true rfl, Nat.le_of_ble_eq_true rfl⟩ rfl rfl (Nat.le_of_ble_eq_true rfl) dL_coalitions_201) hS (fun H locs hP hS => ?_)
  refine lv_istore (lv' := [(9, .int r8), (0, .ref (ad 145)), (3, .int v3), (8, .int v8)]) hx hb dL_coalitions_204 hl (Nat.le_of_ble_eq_true rfl) rfl (fun ls hl => ?_)
  refine lv_iload hx hb dL_coalitions_206 (lv_at hl 3 rfl) ?_
  refine lv_bipush (v := 12) hx hb dL_coalitions_208 kc_b12 ?_
  refine x_icmp_le (tgt := 228) hx hb dL_coalitions_210 (by decide) h (fun c9 h => ?_) (fun c9 h => ?_)
  · refine lv_iload hx hb dL_coalitions_228 (lv_at hl 0 rfl) ?_
    refine x_if_lt (tgt := 246) hx hb dL_coalitions_230 (by decide) h (fun c10 h => ?_) (fun c10 h => ?_)
    · exact t_L_coalitions_b246 hX hr hlk  _ h _ _ _ hP hS (lv_sub hl [] rfl)
    · refine lv_iload hx hb dL_coalitions_233 (lv_at hl 0 rfl) ?_
      refine lv_iconst (v := 1) hx hb dL_coalitions_235 kc_i1 ?_
      refine lv_iload hx hb dL_coalitions_236 (lv_at hl 3 rfl) ?_
      refine lv_ishl hx hb dL_coalitions_238 ?_
      refine x_icmp_gt (tgt := 246) hx hb dL_coalitions_239 (by decide) h (fun c11 h => ?_) (fun c11 h => ?_)
      · exact t_L_coalitions_b246 hX hr hlk  _ h _ _ _ hP hS (lv_sub hl [] rfl)
      · refine lv_iconst (v := 1) hx hb dL_coalitions_242 kc_i1 ?_
        refine lv_goto (tgt := 247) hx hb dL_coalitions_243 (by decide) ?_
        exact t_L_coalitions_b247 hX hr hlk  _ _ h _ _ _ hP hS (lv_sub hl [] rfl)
  · refine lv_iload hx hb dL_coalitions_213 (lv_at hl 0 rfl) ?_
    refine lv_bipush (v := (-3)) hx hb dL_coalitions_215 kc_bm3 ?_
    refine x_icmp_ne (tgt := 224) hx hb dL_coalitions_217 (by decide) h (fun c12 h => ?_) (fun c12 h => ?_)
    · refine lv_iconst (v := 0) hx hb dL_coalitions_224 kc_i0 ?_
      refine lv_goto (tgt := 247) hx hb dL_coalitions_225 (by decide) ?_
      exact t_L_coalitions_b247 hX hr hlk  _ _ h _ _ _ hP hS (lv_sub hl [] rfl)
    · refine lv_iconst (v := 1) hx hb dL_coalitions_220 kc_i1 ?_
      refine lv_goto (tgt := 247) hx hb dL_coalitions_221 (by decide) ?_
      exact t_L_coalitions_b247 hX hr hlk  _ _ h _ _ _ hP hS (lv_sub hl [] rfl)
set_option maxHeartbeats 4000000 in
set_option maxRecDepth 100000 in
theorem t_L_coalitions_l96 {p : Program} {l : Launch} {e : Env} {s : State} {m : MethodId} {args : Array Value} {below : List Frame} {meth : Method} {c : Code} {D : va_G} {tc : Tc} {ad : Nat → Nat} {A : Nat → Prop} {M : St} {rr : Int32} {II : St} (hX : cx p s m args c cL_coalitions 10 RL D tc ad A) (hr : meth.sig.returnType = some .boolean) (hlk : meth.locks = false) : ∀ (n : Nat), ∀ (v3 : Int32) (v4 : Int32) (v5 : Int32) (v6 : Int32) (v7 : Int32) (v8 : Int32) (v9 : Int32) (I : St), f_L_coalitions_l96 n v3 v4 v5 v6 v7 v8 v9 I = some (rr, II) → ∀ (H : Heap) (locs : List Loc) (ls : Array Slot), va_P D vwCl (wl tc ad (cmb I M)) H → va_S A s.heap H locs → lv_has ls 10 [(0, .ref (ad 145)), (3, .int v3), (4, .int v4), (5, .int v5), (6, .int v6), (7, .int v7), (8, .int v8), (9, .int v9)] → W p l e rm_L_coalitions s m args below meth c H locs 0 0 (MQ below (qi D tc ad A rr (cmb II M)) args s 0 0 A) (F0 m 96 ls []) := by
  intro n
  induction n with
  | zero =>
    intro _ _ _ _ _ _ _ _ h
    cases h
  | succ n ih =>
    intro v3 v4 v5 v6 v7 v8 v9 I h H locs ls hP hS hl
    rw [f_L_coalitions_l96] at h
    have hx := hX.1
    have hb := hX.2.1
    have hown := hX.2.2.2.1
    have hts := hX.2.2.2.2.1
    have hA := hX.2.2.2.2.2.2
    refine lv_iload hx hb dL_coalitions_96 (lv_at hl 7 rfl) ?_
    refine lv_bipush (v := 8) hx hb dL_coalitions_98 kc_b8 ?_
    refine x_icmp_ge (tgt := 149) hx hb dL_coalitions_100 (by decide) h (fun c13 h => ?_) (fun c13 h => ?_)
    · refine lv_iload hx hb dL_coalitions_149 (lv_at hl 2 rfl) ?_
      refine lv_iconst (v := 1) hx hb dL_coalitions_151 kc_i1 ?_
      refine x_icmp_lt (tgt := 196) hx hb dL_coalitions_152 (by decide) h (fun c14 h => ?_) (fun c14 h => ?_)
      · exact t_L_coalitions_b196 hX hr hlk  _ h _ _ _ hP hS (lv_sub hl [] rfl)
      · refine lv_iload hx hb dL_coalitions_155 (lv_at hl 2 rfl) ?_
        refine lv_iload hx hb dL_coalitions_157 (lv_at hl 5 rfl) ?_
        refine x_icmp_gt (tgt := 196) hx hb dL_coalitions_159 (by decide) h (fun c15 h => ?_) (fun c15 h => ?_)
        · exact t_L_coalitions_b196 hX hr hlk  _ h _ _ _ hP hS (lv_sub hl [] rfl)
        · refine lv_iload hx hb dL_coalitions_162 (lv_at hl 3 rfl) ?_
          refine lv_iload hx hb dL_coalitions_164 (lv_at hl 4 rfl) ?_
          refine lv_iadd hx hb dL_coalitions_166 ?_
          refine x_let h (fun x16 h => ?_)
          refine lv_iload hx hb dL_coalitions_167 (lv_at hl 2 rfl) ?_
          refine x_icmp_gt (tgt := 196) hx hb dL_coalitions_169 (by decide) h (fun c17 h => ?_) (fun c17 h => ?_)
          · exact t_L_coalitions_b196 hX hr hlk  _ h _ _ _ hP hS (lv_sub hl [] rfl)
          · refine lv_iload hx hb dL_coalitions_172 (lv_at hl 3 rfl) ?_
            refine x_if_lt (tgt := 196) hx hb dL_coalitions_174 (by decide) h (fun c18 h => ?_) (fun c18 h => ?_)
            · exact t_L_coalitions_b196 hX hr hlk  _ h _ _ _ hP hS (lv_sub hl [] rfl)
            · refine lv_iload hx hb dL_coalitions_177 (lv_at hl 4 rfl) ?_
              refine x_if_lt (tgt := 196) hx hb dL_coalitions_179 (by decide) h (fun c19 h => ?_) (fun c19 h => ?_)
              · exact t_L_coalitions_b196 hX hr hlk  _ h _ _ _ hP hS (lv_sub hl [] rfl)
              · refine lv_iload hx hb dL_coalitions_182 (lv_at hl 3 rfl) ?_
                refine lv_iload hx hb dL_coalitions_184 (lv_at hl 4 rfl) ?_
                refine lv_iadd hx hb dL_coalitions_186 ?_
                refine x_if_ne (tgt := 198) hx hb dL_coalitions_187 (by decide) h (fun c20 h => ?_) (fun c20 h => ?_)
                · exact t_L_coalitions_b198 hX hr hlk  _ _ _ h _ _ _ hP hS (lv_sub hl [0, 1, 6] rfl)
                · refine lv_iload hx hb dL_coalitions_190 (lv_at hl 2 rfl) ?_
                  refine lv_iconst (v := 1) hx hb dL_coalitions_192 kc_i1 ?_
                  refine x_icmp_eq (tgt := 198) hx hb dL_coalitions_193 (by decide) h (fun c21 h => ?_) (fun c21 h => ?_)
                  · exact t_L_coalitions_b198 hX hr hlk  _ _ _ h _ _ _ hP hS (lv_sub hl [0, 1, 6] rfl)
                  · exact t_L_coalitions_b196 hX hr hlk  _ h _ _ _ hP hS (lv_sub hl [] rfl)
    · refine lv_iload_n hx hb dL_coalitions_103 rfl (lv_at hl 1 rfl) ?_
      refine lv_iload hx hb dL_coalitions_104 (lv_at hl 7 rfl) ?_
      refine lv_ishr hx hb dL_coalitions_106 ?_
      refine x_let h (fun x22 h => ?_)
      refine lv_iconst (v := 1) hx hb dL_coalitions_107 kc_i1 ?_
      refine lv_iand hx hb dL_coalitions_108 ?_
      refine x_let h (fun x23 h => ?_)
      refine lv_iconst (v := 1) hx hb dL_coalitions_109 kc_i1 ?_
      refine x_icmp_ne (tgt := 120) hx hb dL_coalitions_110 (by decide) h (fun c24 h => ?_) (fun c24 h => ?_)
      · refine lv_iload hx hb dL_coalitions_120 (lv_at hl 5 rfl) ?_
        exact t_L_coalitions_b122 hX hr hlk ih _ _ _ _ _ _ _ _ h _ _ _ hP hS (lv_sub hl [0, 1, 2, 3, 4, 6, 7] rfl)
      · refine lv_iconst (v := 2) hx hb dL_coalitions_113 kc_i2 ?_
        refine lv_iload hx hb dL_coalitions_114 (lv_at hl 5 rfl) ?_
        refine lv_imul hx hb dL_coalitions_116 ?_
        refine lv_goto (tgt := 122) hx hb dL_coalitions_117 (by decide) ?_
        exact t_L_coalitions_b122 hX hr hlk ih _ _ _ _ _ _ _ _ h _ _ _ hP hS (lv_sub hl [0, 1, 2, 3, 4, 6, 7] rfl)
set_option maxHeartbeats 4000000 in
set_option maxRecDepth 100000 in
theorem c_L_coalitions {l : Launch} {D : va_G} {tc : Tc} {ad : Nat → Nat} {A : Nat → Prop} (hA : adok ad A) {I M : St} {v1 : Int32} {rr : Int32} {II : St} (h : f_L_coalitions v1 I = some (rr, II)) : Met l yL_coalitions (Cond.code yL_coalitions cL_coalitions 10 (some .boolean) :: tw) rm_L_coalitions (pre D tc ad [.ref (ad 145), .int v1] (cmb I M)) (qi D tc ad A rr (cmb II M)) 0 0 A := by
  unfold f_L_coalitions at h
  refine mk_met (own := RL) (by decide +kernel) rfl hA (Nat.le_of_ble_eq_true rfl) ?_
  intro p e s m below meth c ls hX hr hlk hl hP hS
  have hl : lv_has ls 10 [(0, .ref (ad 145)), (1, .int v1)] := hl
  have hx := hX.1
  have hb := hX.2.1
  have hown := hX.2.2.2.1
  have hts := hX.2.2.2.2.1
  refine lv_aload_n hx hb dL_coalitions_0 rfl (lv_at hl 0 rfl) ?_
  obtain ⟨r26, e25, h⟩ := ob1_some h
  refine j_i (j_runV (rest := []) hX hP hl.1 Y_X7_phase cok5 (lt157 sl_145) sk_145 (c_X7_phase hA e25) ⟨rfl, rfl⟩ q525 ⟨Nat.le_of_ble_eq_true rfl, Nat.le_of_ble_eq_true rfl⟩ rfl rfl (Nat.le_of_ble_eq_true rfl) dL_coalitions_1) hS (fun H locs hP hS => ?_)
  refine lv_iconst (v := 2) hx hb dL_coalitions_4 kc_i2 ?_
  refine x_icmp_eq (tgt := 46) hx hb dL_coalitions_5 (by decide) h (fun c27 h => ?_) (fun c27 h => ?_)
  · refine lv_aload_n hx hb dL_coalitions_46 rfl (lv_at hl 0 rfl) ?_
    refine lv_iconst (v := 0) hx hb dL_coalitions_47 kc_i0 ?_
    obtain ⟨r29, e28, h⟩ := ob1_some h
    refine j_i (j_runV (rest := []) hX hP hl.1 Y_X7_set cok5 (lt157 sl_145) sk_145 (c_X7_set hA e28) ⟨rfl, rfl⟩ q457 ⟨Nat.le_of_ble_eq_true rfl, Nat.le_of_ble_eq_true rfl⟩ rfl rfl (Nat.le_of_ble_eq_true rfl) dL_coalitions_48) hS (fun H locs hP hS => ?_)
    refine lv_aload_n hx hb dL_coalitions_51 rfl (lv_at hl 0 rfl) ?_
    refine lv_iconst (v := 2) hx hb dL_coalitions_52 kc_i2 ?_
    obtain ⟨r31, e30, h⟩ := ob1_some h
    refine j_i (j_runV (rest := [.int r29]) hX hP hl.1 Y_X7_set cok5 (lt157 sl_145) sk_145 (c_X7_set hA e30) ⟨rfl, rfl⟩ q457 ⟨Nat.le_of_ble_eq_true rfl, Nat.le_of_ble_eq_true rfl⟩ rfl rfl (Nat.le_of_ble_eq_true rfl) dL_coalitions_53) hS (fun H locs hP hS => ?_)
    refine lv_iconst (v := (-1)) hx hb dL_coalitions_56 kc_im1 ?_
    refine lv_ixor hx hb dL_coalitions_57 ?_
    refine lv_iand hx hb dL_coalitions_58 ?_
    refine x_let h (fun x32 h => ?_)
    refine lv_istore_n (lv' := [(2, .int x32), (0, .ref (ad 145)), (1, .int v1)]) hx hb dL_coalitions_59 rfl hl (Nat.le_of_ble_eq_true rfl) rfl (fun ls hl => ?_)
    refine lv_iload_n hx hb dL_coalitions_60 rfl (lv_at hl 0 rfl) ?_
    refine lv_iload_n hx hb dL_coalitions_61 rfl (lv_at hl 2 rfl) ?_
    refine lv_iand hx hb dL_coalitions_62 ?_
    refine x_let h (fun x33 h => ?_)
    refine lv_istore_n (lv' := [(3, .int x33), (2, .int x32), (0, .ref (ad 145)), (1, .int v1)]) hx hb dL_coalitions_63 rfl hl (Nat.le_of_ble_eq_true rfl) rfl (fun ls hl => ?_)
    refine lv_aload_n hx hb dL_coalitions_64 rfl (lv_at hl 2 rfl) ?_
    refine lv_iload_n hx hb dL_coalitions_65 rfl (lv_at hl 0 rfl) ?_
    obtain ⟨r36, I35, e34, h⟩ := ob2_some h
    refine j_i (j_runV (rest := []) hX hP hl.1 Y_X7_results cok5 (lt157 sl_145) sk_145 (c_X7_results hA e34) ⟨rfl, rfl⟩ q458 ⟨Nat.le_of_ble_eq_true rfl, Nat.le_of_ble_eq_true rfl⟩ rfl rfl (Nat.le_of_ble_eq_true rfl) dL_coalitions_66) hS (fun H locs hP hS => ?_)
    refine lv_istore (lv' := [(4, .int r36), (3, .int x33), (2, .int x32), (0, .ref (ad 145)), (1, .int v1)]) hx hb dL_coalitions_69 hl (Nat.le_of_ble_eq_true rfl) rfl (fun ls hl => ?_)
    refine lv_aload_n hx hb dL_coalitions_71 rfl (lv_at hl 3 rfl) ?_
    refine lv_iload_n hx hb dL_coalitions_72 rfl (lv_at hl 1 rfl) ?_
    refine lv_iconst (v := 0) hx hb dL_coalitions_73 kc_i0 ?_
    obtain ⟨r39, I38, e37, h⟩ := ob2_some h
    refine j_i (j_runV (rest := []) hX hP hl.1 Y_X7_canForce cok5 (lt157 sl_145) sk_145 (c_X7_canForce hA e37) ⟨rfl, rfl⟩ q520 ⟨Nat.le_of_ble_eq_true rfl, Nat.le_of_ble_eq_true rfl⟩ rfl rfl (Nat.le_of_ble_eq_true rfl) dL_coalitions_74) hS (fun H locs hP hS => ?_)
    refine lv_istore (lv' := [(5, .int r39), (4, .int r36), (3, .int x33), (2, .int x32), (0, .ref (ad 145)), (1, .int v1)]) hx hb dL_coalitions_77 hl (Nat.le_of_ble_eq_true rfl) rfl (fun ls hl => ?_)
    refine lv_aload_n hx hb dL_coalitions_79 rfl (lv_at hl 4 rfl) ?_
    refine lv_iload_n hx hb dL_coalitions_80 rfl (lv_at hl 2 rfl) ?_
    refine lv_iconst (v := 1) hx hb dL_coalitions_81 kc_i1 ?_
    obtain ⟨r42, I41, e40, h⟩ := ob2_some h
    refine j_i (j_runV (rest := []) hX hP hl.1 Y_X7_canForce cok5 (lt157 sl_145) sk_145 (c_X7_canForce hA e40) ⟨rfl, rfl⟩ q520 ⟨Nat.le_of_ble_eq_true rfl, Nat.le_of_ble_eq_true rfl⟩ rfl rfl (Nat.le_of_ble_eq_true rfl) dL_coalitions_82) hS (fun H locs hP hS => ?_)
    refine lv_istore (lv' := [(6, .int r42), (5, .int r39), (4, .int r36), (3, .int x33), (2, .int x32), (0, .ref (ad 145)), (1, .int v1)]) hx hb dL_coalitions_85 hl (Nat.le_of_ble_eq_true rfl) rfl (fun ls hl => ?_)
    refine lv_iconst (v := 1) hx hb dL_coalitions_87 kc_i1 ?_
    refine lv_istore (lv' := [(7, .int 1), (6, .int r42), (5, .int r39), (4, .int r36), (3, .int x33), (2, .int x32), (0, .ref (ad 145)), (1, .int v1)]) hx hb dL_coalitions_88 hl (Nat.le_of_ble_eq_true rfl) rfl (fun ls hl => ?_)
    refine lv_iconst (v := 0) hx hb dL_coalitions_90 kc_i0 ?_
    refine lv_istore (lv' := [(8, .int 0), (7, .int 1), (6, .int r42), (5, .int r39), (4, .int r36), (3, .int x33), (2, .int x32), (0, .ref (ad 145)), (1, .int v1)]) hx hb dL_coalitions_91 hl (Nat.le_of_ble_eq_true rfl) rfl (fun ls hl => ?_)
    refine lv_iconst (v := 0) hx hb dL_coalitions_93 kc_i0 ?_
    refine lv_istore (lv' := [(9, .int 0), (8, .int 0), (7, .int 1), (6, .int r42), (5, .int r39), (4, .int r36), (3, .int x33), (2, .int x32), (0, .ref (ad 145)), (1, .int v1)]) hx hb dL_coalitions_94 hl (Nat.le_of_ble_eq_true rfl) rfl (fun ls hl => ?_)
    exact t_L_coalitions_l96 hX hr hlk  10000 _ _ _ _ _ _ _ _ h _ _ _ hP hS (lv_sub hl [8, 6, 5, 4, 3, 2, 1, 0] rfl)
  · refine lv_aload_n hx hb dL_coalitions_8 rfl (lv_at hl 0 rfl) ?_
    refine lv_iconst (v := 0) hx hb dL_coalitions_9 kc_i0 ?_
    obtain ⟨r45, I44, e43, h⟩ := ob2_some h
    refine j_i (j_runV (rest := []) hX hP hl.1 Y_X7_results cok5 (lt157 sl_145) sk_145 (c_X7_results hA e43) ⟨rfl, rfl⟩ q458 ⟨Nat.le_of_ble_eq_true rfl, Nat.le_of_ble_eq_true rfl⟩ rfl rfl (Nat.le_of_ble_eq_true rfl) dL_coalitions_10) hS (fun H locs hP hS => ?_)
    refine lv_bipush (v := (-2)) hx hb dL_coalitions_13 kc_bm2 ?_
    refine x_icmp_ne (tgt := 44) hx hb dL_coalitions_15 (by decide) h (fun c46 h => ?_) (fun c46 h => ?_)
    · exact t_L_coalitions_b44 hX hr hlk  _ h _ _ _ hP hS (lv_sub hl [] rfl)
    · refine lv_aload_n hx hb dL_coalitions_18 rfl (lv_at hl 0 rfl) ?_
      refine lv_iconst (v := 0) hx hb dL_coalitions_19 kc_i0 ?_
      refine lv_iconst (v := 0) hx hb dL_coalitions_20 kc_i0 ?_
      obtain ⟨r49, I48, e47, h⟩ := ob2_some h
      refine j_i (j_runV (rest := []) hX hP hl.1 Y_X7_canForce cok5 (lt157 sl_145) sk_145 (c_X7_canForce hA e47) ⟨rfl, rfl⟩ q520 ⟨Nat.le_of_ble_eq_true rfl, Nat.le_of_ble_eq_true rfl⟩ rfl rfl (Nat.le_of_ble_eq_true rfl) dL_coalitions_21) hS (fun H locs hP hS => ?_)
      refine lv_bipush (v := (-2)) hx hb dL_coalitions_24 kc_bm2 ?_
      refine x_icmp_ne (tgt := 44) hx hb dL_coalitions_26 (by decide) h (fun c50 h => ?_) (fun c50 h => ?_)
      · exact t_L_coalitions_b44 hX hr hlk  _ h _ _ _ hP hS (lv_sub hl [] rfl)
      · refine lv_aload_n hx hb dL_coalitions_29 rfl (lv_at hl 0 rfl) ?_
        refine lv_iconst (v := 0) hx hb dL_coalitions_30 kc_i0 ?_
        refine lv_iconst (v := 1) hx hb dL_coalitions_31 kc_i1 ?_
        obtain ⟨r53, I52, e51, h⟩ := ob2_some h
        refine j_i (j_runV (rest := []) hX hP hl.1 Y_X7_bias cok5 (lt157 sl_145) sk_145 (c_X7_bias hA e51) ⟨rfl, rfl⟩ q500 ⟨Nat.le_of_ble_eq_true rfl, Nat.le_of_ble_eq_true rfl⟩ rfl rfl (Nat.le_of_ble_eq_true rfl) dL_coalitions_32) hS (fun H locs hP hS => ?_)
        refine lv_bipush (v := (-2)) hx hb dL_coalitions_35 kc_bm2 ?_
        refine x_icmp_ne (tgt := 44) hx hb dL_coalitions_37 (by decide) h (fun c54 h => ?_) (fun c54 h => ?_)
        · exact t_L_coalitions_b44 hX hr hlk  _ h _ _ _ hP hS (lv_sub hl [] rfl)
        · refine lv_iconst (v := 1) hx hb dL_coalitions_40 kc_i1 ?_
          refine lv_goto (tgt := 45) hx hb dL_coalitions_41 (by decide) ?_
          exact t_L_coalitions_b45 hX hr hlk  _ _ h _ _ _ hP hS (lv_sub hl [] rfl)
/-! OwnerlessCoinLaw.plays(LOwnerlessCoin;I)Z -/
def rm_L_plays : Room := { frames := 7, cells := 0, slots := 0, locals := 163 }
theorem Y_L_plays : ys yL_plays cL_plays 8 (some .boolean) 2 := ⟨q651, q650, q11, by decide +kernel⟩
set_option maxHeartbeats 4000000 in
set_option maxRecDepth 100000 in
theorem t_L_plays_b39 {p : Program} {l : Launch} {e : Env} {s : State} {m : MethodId} {args : Array Value} {below : List Frame} {meth : Method} {c : Code} {D : va_G} {tc : Tc} {ad : Nat → Nat} {A : Nat → Prop} {M : St} {rr : Int32} {II : St} (hX : cx p s m args c cL_plays 8 RL D tc ad A) (hr : meth.sig.returnType = some .boolean) (hlk : meth.locks = false) : ∀ (t0 : Int32) (I : St), f_L_plays_b39 t0 I = some (rr, II) → ∀ (H : Heap) (locs : List Loc) (ls : Array Slot), va_P D vwCl (wl tc ad (cmb I M)) H → va_S A s.heap H locs → lv_has ls 8 [] → W p l e rm_L_plays s m args below meth c H locs 0 0 (MQ below (qi D tc ad A rr (cmb II M)) args s 0 0 A) (F0 m 39 ls [.int t0]) := by
  intro t0 I h H locs ls hP hS hl
  unfold f_L_plays_b39 at h
  have hx := hX.1
  have hb := hX.2.1
  have hown := hX.2.2.2.1
  have hts := hX.2.2.2.2.1
  have hA := hX.2.2.2.2.2.2
  obtain ⟨gz, h⟩ := ck_some h
  cases h
  exact j_zret hX hr hlk hP hS (isB_or gz) dL_plays_39
set_option maxHeartbeats 4000000 in
set_option maxRecDepth 100000 in
theorem t_L_plays_b94 {p : Program} {l : Launch} {e : Env} {s : State} {m : MethodId} {args : Array Value} {below : List Frame} {meth : Method} {c : Code} {D : va_G} {tc : Tc} {ad : Nat → Nat} {A : Nat → Prop} {M : St} {rr : Int32} {II : St} (hX : cx p s m args c cL_plays 8 RL D tc ad A) (hr : meth.sig.returnType = some .boolean) (hlk : meth.locks = false) : ∀ (I : St), f_L_plays_b94 I = some (rr, II) → ∀ (H : Heap) (locs : List Loc) (ls : Array Slot), va_P D vwCl (wl tc ad (cmb I M)) H → va_S A s.heap H locs → lv_has ls 8 [] → W p l e rm_L_plays s m args below meth c H locs 0 0 (MQ below (qi D tc ad A rr (cmb II M)) args s 0 0 A) (F0 m 94 ls []) := by
  intro I h H locs ls hP hS hl
  unfold f_L_plays_b94 at h
  have hx := hX.1
  have hb := hX.2.1
  have hown := hX.2.2.2.1
  have hts := hX.2.2.2.2.1
  have hA := hX.2.2.2.2.2.2
  refine lv_iconst (v := 0) hx hb dL_plays_94 kc_i0 ?_
  cases h
  exact j_zret hX hr hlk hP hS (Or.inl rfl) dL_plays_95
set_option maxHeartbeats 4000000 in
set_option maxRecDepth 100000 in
theorem t_L_plays_b137 {p : Program} {l : Launch} {e : Env} {s : State} {m : MethodId} {args : Array Value} {below : List Frame} {meth : Method} {c : Code} {D : va_G} {tc : Tc} {ad : Nat → Nat} {A : Nat → Prop} {M : St} {rr : Int32} {II : St} (hX : cx p s m args c cL_plays 8 RL D tc ad A) (hr : meth.sig.returnType = some .boolean) (hlk : meth.locks = false) : ∀ (t0 : Int32) (I : St), f_L_plays_b137 t0 I = some (rr, II) → ∀ (H : Heap) (locs : List Loc) (ls : Array Slot), va_P D vwCl (wl tc ad (cmb I M)) H → va_S A s.heap H locs → lv_has ls 8 [] → W p l e rm_L_plays s m args below meth c H locs 0 0 (MQ below (qi D tc ad A rr (cmb II M)) args s 0 0 A) (F0 m 137 ls [.int t0]) := by
  intro t0 I h H locs ls hP hS hl
  unfold f_L_plays_b137 at h
  have hx := hX.1
  have hb := hX.2.1
  have hown := hX.2.2.2.1
  have hts := hX.2.2.2.2.1
  have hA := hX.2.2.2.2.2.2
  obtain ⟨gz, h⟩ := ck_some h
  cases h
  exact j_zret hX hr hlk hP hS (isB_or gz) dL_plays_137
set_option maxHeartbeats 4000000 in
set_option maxRecDepth 100000 in
theorem t_L_plays_b136 {p : Program} {l : Launch} {e : Env} {s : State} {m : MethodId} {args : Array Value} {below : List Frame} {meth : Method} {c : Code} {D : va_G} {tc : Tc} {ad : Nat → Nat} {A : Nat → Prop} {M : St} {rr : Int32} {II : St} (hX : cx p s m args c cL_plays 8 RL D tc ad A) (hr : meth.sig.returnType = some .boolean) (hlk : meth.locks = false) : ∀ (I : St), f_L_plays_b136 I = some (rr, II) → ∀ (H : Heap) (locs : List Loc) (ls : Array Slot), va_P D vwCl (wl tc ad (cmb I M)) H → va_S A s.heap H locs → lv_has ls 8 [] → W p l e rm_L_plays s m args below meth c H locs 0 0 (MQ below (qi D tc ad A rr (cmb II M)) args s 0 0 A) (F0 m 136 ls []) := by
  intro I h H locs ls hP hS hl
  unfold f_L_plays_b136 at h
  have hx := hX.1
  have hb := hX.2.1
  have hown := hX.2.2.2.1
  have hts := hX.2.2.2.2.1
  have hA := hX.2.2.2.2.2.2
  refine lv_iconst (v := 0) hx hb dL_plays_136 kc_i0 ?_
  exact t_L_plays_b137 hX hr hlk  _ _ h _ _ _ hP hS (lv_sub hl [] rfl)
set_option maxHeartbeats 4000000 in
set_option maxRecDepth 100000 in
theorem t_L_plays_b96 {p : Program} {l : Launch} {e : Env} {s : State} {m : MethodId} {args : Array Value} {below : List Frame} {meth : Method} {c : Code} {D : va_G} {tc : Tc} {ad : Nat → Nat} {A : Nat → Prop} {M : St} {rr : Int32} {II : St} (hX : cx p s m args c cL_plays 8 RL D tc ad A) (hr : meth.sig.returnType = some .boolean) (hlk : meth.locks = false) : ∀ (v1 : Int32) (v2 : Int64) (v5 : Int32) (v6 : Int64) (I : St), f_L_plays_b96 v1 v2 v5 v6 I = some (rr, II) → ∀ (H : Heap) (locs : List Loc) (ls : Array Slot), va_P D vwCl (wl tc ad (cmb I M)) H → va_S A s.heap H locs → lv_has ls 8 [(0, .ref (ad 145)), (1, .int v1), (2, .long v2), (5, .int v5), (6, .long v6)] → W p l e rm_L_plays s m args below meth c H locs 0 0 (MQ below (qi D tc ad A rr (cmb II M)) args s 0 0 A) (F0 m 96 ls []) := by
  intro v1 v2 v5 v6 I h H locs ls hP hS hl
  unfold f_L_plays_b96 at h
  have hx := hX.1
  have hb := hX.2.1
  have hown := hX.2.2.2.1
  have hts := hX.2.2.2.2.1
  have hA := hX.2.2.2.2.2.2
  refine lv_aload_n hx hb dL_plays_96 rfl (lv_at hl 0 rfl) ?_
  obtain ⟨r3, I2, e1, h⟩ := ob2_some h
  refine j_i (j_runV (rest := []) hX hP hl.1 Y_X7_undo cok5 (lt157 sl_145) sk_145 (c_X7_undo hA e1) ⟨rfl, rfl⟩ q668 ⟨Nat.le_of_ble_eq_true rfl, Nat.le_of_ble_eq_true rfl⟩ rfl rfl (Nat.le_of_ble_eq_true rfl) dL_plays_97) hS (fun H locs hP hS => ?_)
  refine x_if_lt (tgt := 136) hx hb dL_plays_100 (by decide) h (fun c4 h => ?_) (fun c4 h => ?_)
  · exact t_L_plays_b136 hX hr hlk  _ h _ _ _ hP hS (lv_sub hl [] rfl)
  · refine lv_aload_n hx hb dL_plays_103 rfl (lv_at hl 0 rfl) ?_
    obtain ⟨r6, e5, h⟩ := ob1_some h
    refine j_l (j_runV (rest := []) hX hP hl.1 Y_X7_fingerprint cok5 (lt157 sl_145) sk_145 (c_X7_fingerprint hA e5) ⟨rfl, rfl⟩ q309 ⟨Nat.le_of_ble_eq_true rfl, Nat.le_of_ble_eq_true rfl⟩ rfl rfl (Nat.le_of_ble_eq_true rfl) dL_plays_104) hS (fun H locs hP hS => ?_)
    refine lv_lload_n hx hb dL_plays_107 rfl (lv_at hl 2 rfl) ?_
    refine W.lcmp hx hb dL_plays_108 ?_
    refine x_if_ne (tgt := 136) hx hb dL_plays_109 (by decide) h (fun c7 h => ?_) (fun c7 h => ?_)
    · exact t_L_plays_b136 hX hr hlk  _ h _ _ _ hP hS (lv_sub hl [] rfl)
    · refine lv_aload_n hx hb dL_plays_112 rfl (lv_at hl 0 rfl) ?_
      refine lv_iload_n hx hb dL_plays_113 rfl (lv_at hl 1 rfl) ?_
      obtain ⟨r10, I9, e8, h⟩ := ob2_some h
      refine j_i (j_runV (rest := []) hX hP hl.1 Y_X7_play cok5 (lt157 sl_145) sk_145 (c_X7_play hA e8) ⟨rfl, rfl⟩ q585 ⟨Nat.le_of_ble_eq_true rfl, Nat.le_of_ble_eq_true rfl⟩ rfl rfl (Nat.le_of_ble_eq_true rfl) dL_plays_114) hS (fun H locs hP hS => ?_)
      refine lv_iload hx hb dL_plays_117 (lv_at hl 3 rfl) ?_
      refine x_icmp_ne (tgt := 136) hx hb dL_plays_119 (by decide) h (fun c11 h => ?_) (fun c11 h => ?_)
      · exact t_L_plays_b136 hX hr hlk  _ h _ _ _ hP hS (lv_sub hl [] rfl)
      · refine lv_aload_n hx hb dL_plays_122 rfl (lv_at hl 0 rfl) ?_
        obtain ⟨r13, e12, h⟩ := ob1_some h
        refine j_l (j_runV (rest := []) hX hP hl.1 Y_X7_fingerprint cok5 (lt157 sl_145) sk_145 (c_X7_fingerprint hA e12) ⟨rfl, rfl⟩ q309 ⟨Nat.le_of_ble_eq_true rfl, Nat.le_of_ble_eq_true rfl⟩ rfl rfl (Nat.le_of_ble_eq_true rfl) dL_plays_123) hS (fun H locs hP hS => ?_)
        refine lv_lload hx hb dL_plays_126 (lv_at hl 4 rfl) ?_
        refine W.lcmp hx hb dL_plays_128 ?_
        refine x_if_ne (tgt := 136) hx hb dL_plays_129 (by decide) h (fun c14 h => ?_) (fun c14 h => ?_)
        · exact t_L_plays_b136 hX hr hlk  _ h _ _ _ hP hS (lv_sub hl [] rfl)
        · refine lv_iconst (v := 1) hx hb dL_plays_132 kc_i1 ?_
          refine lv_goto (tgt := 137) hx hb dL_plays_133 (by decide) ?_
          exact t_L_plays_b137 hX hr hlk  _ _ h _ _ _ hP hS (lv_sub hl [] rfl)
set_option maxHeartbeats 4000000 in
set_option maxRecDepth 100000 in
theorem c_L_plays {l : Launch} {D : va_G} {tc : Tc} {ad : Nat → Nat} {A : Nat → Prop} (hA : adok ad A) {I M : St} {v1 : Int32} {rr : Int32} {II : St} (h : f_L_plays v1 I = some (rr, II)) : Met l yL_plays (Cond.code yL_plays cL_plays 8 (some .boolean) :: tw) rm_L_plays (pre D tc ad [.ref (ad 145), .int v1] (cmb I M)) (qi D tc ad A rr (cmb II M)) 0 0 A := by
  unfold f_L_plays at h
  refine mk_met (own := RL) (by decide +kernel) rfl hA (Nat.le_of_ble_eq_true rfl) ?_
  intro p e s m below meth c ls hX hr hlk hl hP hS
  have hl : lv_has ls 8 [(0, .ref (ad 145)), (1, .int v1)] := hl
  have hx := hX.1
  have hb := hX.2.1
  have hown := hX.2.2.2.1
  have hts := hX.2.2.2.2.1
  refine lv_aload_n hx hb dL_plays_0 rfl (lv_at hl 0 rfl) ?_
  obtain ⟨r16, e15, h⟩ := ob1_some h
  refine j_l (j_runV (rest := []) hX hP hl.1 Y_X7_fingerprint cok5 (lt157 sl_145) sk_145 (c_X7_fingerprint hA e15) ⟨rfl, rfl⟩ q309 ⟨Nat.le_of_ble_eq_true rfl, Nat.le_of_ble_eq_true rfl⟩ rfl rfl (Nat.le_of_ble_eq_true rfl) dL_plays_1) hS (fun H locs hP hS => ?_)
  refine lv_lstore_n (lv' := [(2, .long r16), (0, .ref (ad 145)), (1, .int v1)]) hx hb dL_plays_4 rfl hl (Nat.le_of_ble_eq_true rfl) rfl (fun ls hl => ?_)
  refine lv_aload_n hx hb dL_plays_5 rfl (lv_at hl 1 rfl) ?_
  obtain ⟨r18, e17, h⟩ := ob1_some h
  refine j_i (j_runV (rest := []) hX hP hl.1 Y_X7_rounds cok5 (lt157 sl_145) sk_145 (c_X7_rounds hA e17) ⟨rfl, rfl⟩ q632 ⟨Nat.le_of_ble_eq_true rfl, Nat.le_of_ble_eq_true rfl⟩ rfl rfl (Nat.le_of_ble_eq_true rfl) dL_plays_6) hS (fun H locs hP hS => ?_)
  refine lv_istore (lv' := [(4, .int r18), (2, .long r16), (0, .ref (ad 145)), (1, .int v1)]) hx hb dL_plays_9 hl (Nat.le_of_ble_eq_true rfl) rfl (fun ls hl => ?_)
  refine lv_aload_n hx hb dL_plays_11 rfl (lv_at hl 2 rfl) ?_
  refine lv_iload_n hx hb dL_plays_12 rfl (lv_at hl 3 rfl) ?_
  obtain ⟨r21, I20, e19, h⟩ := ob2_some h
  refine j_i (j_runV (rest := []) hX hP hl.1 Y_X7_play cok5 (lt157 sl_145) sk_145 (c_X7_play hA e19) ⟨rfl, rfl⟩ q585 ⟨Nat.le_of_ble_eq_true rfl, Nat.le_of_ble_eq_true rfl⟩ rfl rfl (Nat.le_of_ble_eq_true rfl) dL_plays_13) hS (fun H locs hP hS => ?_)
  refine lv_istore (lv' := [(5, .int r21), (4, .int r18), (2, .long r16), (0, .ref (ad 145)), (1, .int v1)]) hx hb dL_plays_16 hl (Nat.le_of_ble_eq_true rfl) rfl (fun ls hl => ?_)
  refine lv_iload hx hb dL_plays_18 (lv_at hl 0 rfl) ?_
  refine lv_bipush (v := (-2)) hx hb dL_plays_20 kc_bm2 ?_
  refine x_icmp_ne (tgt := 40) hx hb dL_plays_22 (by decide) h (fun c22 h => ?_) (fun c22 h => ?_)
  · refine lv_aload_n hx hb dL_plays_40 rfl (lv_at hl 3 rfl) ?_
    obtain ⟨r24, e23, h⟩ := ob1_some h
    refine j_l (j_runV (rest := []) hX hP hl.1 Y_X7_fingerprint cok5 (lt157 sl_145) sk_145 (c_X7_fingerprint hA e23) ⟨rfl, rfl⟩ q309 ⟨Nat.le_of_ble_eq_true rfl, Nat.le_of_ble_eq_true rfl⟩ rfl rfl (Nat.le_of_ble_eq_true rfl) dL_plays_41) hS (fun H locs hP hS => ?_)
    refine lv_lstore (lv' := [(6, .long r24), (5, .int r21), (4, .int r18), (2, .long r16), (0, .ref (ad 145)), (1, .int v1)]) hx hb dL_plays_44 hl (Nat.le_of_ble_eq_true rfl) rfl (fun ls hl => ?_)
    refine lv_aload_n hx hb dL_plays_46 rfl (lv_at hl 4 rfl) ?_
    obtain ⟨r26, e25, h⟩ := ob1_some h
    refine j_i (j_runV (rest := []) hX hP hl.1 Y_X7_phase cok5 (lt157 sl_145) sk_145 (c_X7_phase hA e25) ⟨rfl, rfl⟩ q525 ⟨Nat.le_of_ble_eq_true rfl, Nat.le_of_ble_eq_true rfl⟩ rfl rfl (Nat.le_of_ble_eq_true rfl) dL_plays_47) hS (fun H locs hP hS => ?_)
    refine x_if_ne (tgt := 94) hx hb dL_plays_50 (by decide) h (fun c27 h => ?_) (fun c27 h => ?_)
    · exact t_L_plays_b94 hX hr hlk  _ h _ _ _ hP hS (lv_sub hl [] rfl)
    · refine lv_aload_n hx hb dL_plays_53 rfl (lv_at hl 4 rfl) ?_
      obtain ⟨r29, e28, h⟩ := ob1_some h
      refine j_i (j_runV (rest := []) hX hP hl.1 Y_X7_rounds cok5 (lt157 sl_145) sk_145 (c_X7_rounds hA e28) ⟨rfl, rfl⟩ q632 ⟨Nat.le_of_ble_eq_true rfl, Nat.le_of_ble_eq_true rfl⟩ rfl rfl (Nat.le_of_ble_eq_true rfl) dL_plays_54) hS (fun H locs hP hS => ?_)
      refine lv_iload hx hb dL_plays_57 (lv_at hl 2 rfl) ?_
      refine lv_iconst (v := 1) hx hb dL_plays_59 kc_i1 ?_
      refine lv_iadd hx hb dL_plays_60 ?_
      refine x_icmp_ne (tgt := 94) hx hb dL_plays_61 (by decide) h (fun c30 h => ?_) (fun c30 h => ?_)
      · exact t_L_plays_b94 hX hr hlk  _ h _ _ _ hP hS (lv_sub hl [] rfl)
      · refine lv_aload_n hx hb dL_plays_64 rfl (lv_at hl 4 rfl) ?_
        refine lv_iload hx hb dL_plays_65 (lv_at hl 2 rfl) ?_
        refine lv_iconst (v := 0) hx hb dL_plays_67 kc_i0 ?_
        obtain ⟨r32, e31, h⟩ := ob1_some h
        refine j_i (j_runV (rest := []) hX hP hl.1 Y_X7_past cok5 (lt157 sl_145) sk_145 (c_X7_past hA e31) ⟨rfl, rfl⟩ q652 ⟨Nat.le_of_ble_eq_true rfl, Nat.le_of_ble_eq_true rfl⟩ rfl rfl (Nat.le_of_ble_eq_true rfl) dL_plays_68) hS (fun H locs hP hS => ?_)
        refine lv_iload hx hb dL_plays_71 (lv_at hl 1 rfl) ?_
        refine x_icmp_ne (tgt := 94) hx hb dL_plays_73 (by decide) h (fun c33 h => ?_) (fun c33 h => ?_)
        · exact t_L_plays_b94 hX hr hlk  _ h _ _ _ hP hS (lv_sub hl [] rfl)
        · refine lv_iload hx hb dL_plays_76 (lv_at hl 1 rfl) ?_
          refine x_if_lt (tgt := 96) hx hb dL_plays_78 (by decide) h (fun c34 h => ?_) (fun c34 h => ?_)
          · exact t_L_plays_b96 hX hr hlk  _ _ _ _ _ h _ _ _ hP hS (lv_sub hl [4, 5, 3, 1, 0] rfl)
          · refine lv_aload_n hx hb dL_plays_81 rfl (lv_at hl 4 rfl) ?_
            refine lv_iload hx hb dL_plays_82 (lv_at hl 2 rfl) ?_
            obtain ⟨r36, e35, h⟩ := ob1_some h
            refine j_i (j_runV (rest := []) hX hP hl.1 Y_X7_output cok5 (lt157 sl_145) sk_145 (c_X7_output hA e35) ⟨rfl, rfl⟩ q664 ⟨Nat.le_of_ble_eq_true rfl, Nat.le_of_ble_eq_true rfl⟩ rfl rfl (Nat.le_of_ble_eq_true rfl) dL_plays_84) hS (fun H locs hP hS => ?_)
            refine lv_iconst (v := 1) hx hb dL_plays_87 kc_i1 ?_
            refine lv_iand hx hb dL_plays_88 ?_
            refine x_let h (fun x37 h => ?_)
            refine lv_iload hx hb dL_plays_89 (lv_at hl 1 rfl) ?_
            refine x_icmp_eq (tgt := 96) hx hb dL_plays_91 (by decide) h (fun c38 h => ?_) (fun c38 h => ?_)
            · exact t_L_plays_b96 hX hr hlk  _ _ _ _ _ h _ _ _ hP hS (lv_sub hl [4, 5, 3, 1, 0] rfl)
            · exact t_L_plays_b94 hX hr hlk  _ h _ _ _ hP hS (lv_sub hl [] rfl)
  · refine lv_aload_n hx hb dL_plays_25 rfl (lv_at hl 3 rfl) ?_
    obtain ⟨r40, e39, h⟩ := ob1_some h
    refine j_l (j_runV (rest := []) hX hP hl.1 Y_X7_fingerprint cok5 (lt157 sl_145) sk_145 (c_X7_fingerprint hA e39) ⟨rfl, rfl⟩ q309 ⟨Nat.le_of_ble_eq_true rfl, Nat.le_of_ble_eq_true rfl⟩ rfl rfl (Nat.le_of_ble_eq_true rfl) dL_plays_26) hS (fun H locs hP hS => ?_)
    refine lv_lload_n hx hb dL_plays_29 rfl (lv_at hl 2 rfl) ?_
    refine W.lcmp hx hb dL_plays_30 ?_
    refine x_if_ne (tgt := 38) hx hb dL_plays_31 (by decide) h (fun c41 h => ?_) (fun c41 h => ?_)
    · refine lv_iconst (v := 0) hx hb dL_plays_38 kc_i0 ?_
      exact t_L_plays_b39 hX hr hlk  _ _ h _ _ _ hP hS (lv_sub hl [] rfl)
    · refine lv_iconst (v := 1) hx hb dL_plays_34 kc_i1 ?_
      refine lv_goto (tgt := 39) hx hb dL_plays_35 (by decide) ?_
      exact t_L_plays_b39 hX hr hlk  _ _ h _ _ _ hP hS (lv_sub hl [] rfl)
/-! OwnerlessCoinLaw.commits(LOwnerlessCoin;II)Z -/
def rm_L_commits : Room := { frames := 5, cells := 0, slots := 0, locals := 120 }
theorem Y_L_commits : ys yL_commits cL_commits 6 (some .boolean) 3 := ⟨q681, q680, q11, by decide +kernel⟩
set_option maxHeartbeats 4000000 in
set_option maxRecDepth 100000 in
theorem t_L_commits_b33 {p : Program} {l : Launch} {e : Env} {s : State} {m : MethodId} {args : Array Value} {below : List Frame} {meth : Method} {c : Code} {D : va_G} {tc : Tc} {ad : Nat → Nat} {A : Nat → Prop} {M : St} {rr : Int32} {II : St} (hX : cx p s m args c cL_commits 6 RL D tc ad A) (hr : meth.sig.returnType = some .boolean) (hlk : meth.locks = false) : ∀ (I : St), f_L_commits_b33 I = some (rr, II) → ∀ (H : Heap) (locs : List Loc) (ls : Array Slot), va_P D vwCl (wl tc ad (cmb I M)) H → va_S A s.heap H locs → lv_has ls 6 [] → W p l e rm_L_commits s m args below meth c H locs 0 0 (MQ below (qi D tc ad A rr (cmb II M)) args s 0 0 A) (F0 m 33 ls []) := by
  intro I h H locs ls hP hS hl
  unfold f_L_commits_b33 at h
  have hx := hX.1
  have hb := hX.2.1
  have hown := hX.2.2.2.1
  have hts := hX.2.2.2.2.1
  have hA := hX.2.2.2.2.2.2
  refine lv_iconst (v := 1) hx hb dL_commits_33 kc_i1 ?_
  cases h
  exact j_zret hX hr hlk hP hS (Or.inr rfl) dL_commits_34
set_option maxHeartbeats 4000000 in
set_option maxRecDepth 100000 in
theorem t_L_commits_b112 {p : Program} {l : Launch} {e : Env} {s : State} {m : MethodId} {args : Array Value} {below : List Frame} {meth : Method} {c : Code} {D : va_G} {tc : Tc} {ad : Nat → Nat} {A : Nat → Prop} {M : St} {rr : Int32} {II : St} (hX : cx p s m args c cL_commits 6 RL D tc ad A) (hr : meth.sig.returnType = some .boolean) (hlk : meth.locks = false) : ∀ (t0 : Int32) (I : St), f_L_commits_b112 t0 I = some (rr, II) → ∀ (H : Heap) (locs : List Loc) (ls : Array Slot), va_P D vwCl (wl tc ad (cmb I M)) H → va_S A s.heap H locs → lv_has ls 6 [] → W p l e rm_L_commits s m args below meth c H locs 0 0 (MQ below (qi D tc ad A rr (cmb II M)) args s 0 0 A) (F0 m 112 ls [.int t0]) := by
  intro t0 I h H locs ls hP hS hl
  unfold f_L_commits_b112 at h
  have hx := hX.1
  have hb := hX.2.1
  have hown := hX.2.2.2.1
  have hts := hX.2.2.2.2.1
  have hA := hX.2.2.2.2.2.2
  obtain ⟨gz, h⟩ := ck_some h
  cases h
  exact j_zret hX hr hlk hP hS (isB_or gz) dL_commits_112
set_option maxHeartbeats 4000000 in
set_option maxRecDepth 100000 in
theorem t_L_commits_b107 {p : Program} {l : Launch} {e : Env} {s : State} {m : MethodId} {args : Array Value} {below : List Frame} {meth : Method} {c : Code} {D : va_G} {tc : Tc} {ad : Nat → Nat} {A : Nat → Prop} {M : St} {rr : Int32} {II : St} (hX : cx p s m args c cL_commits 6 RL D tc ad A) (hr : meth.sig.returnType = some .boolean) (hlk : meth.locks = false) : ∀ (I : St), f_L_commits_b107 I = some (rr, II) → ∀ (H : Heap) (locs : List Loc) (ls : Array Slot), va_P D vwCl (wl tc ad (cmb I M)) H → va_S A s.heap H locs → lv_has ls 6 [] → W p l e rm_L_commits s m args below meth c H locs 0 0 (MQ below (qi D tc ad A rr (cmb II M)) args s 0 0 A) (F0 m 107 ls []) := by
  intro I h H locs ls hP hS hl
  unfold f_L_commits_b107 at h
  have hx := hX.1
  have hb := hX.2.1
  have hown := hX.2.2.2.1
  have hts := hX.2.2.2.2.1
  have hA := hX.2.2.2.2.2.2
  refine lv_iconst (v := 1) hx hb dL_commits_107 kc_i1 ?_
  refine lv_goto (tgt := 112) hx hb dL_commits_108 (by decide) ?_
  exact t_L_commits_b112 hX hr hlk  _ _ h _ _ _ hP hS (lv_sub hl [] rfl)
set_option maxHeartbeats 4000000 in
set_option maxRecDepth 100000 in
theorem t_L_commits_b111 {p : Program} {l : Launch} {e : Env} {s : State} {m : MethodId} {args : Array Value} {below : List Frame} {meth : Method} {c : Code} {D : va_G} {tc : Tc} {ad : Nat → Nat} {A : Nat → Prop} {M : St} {rr : Int32} {II : St} (hX : cx p s m args c cL_commits 6 RL D tc ad A) (hr : meth.sig.returnType = some .boolean) (hlk : meth.locks = false) : ∀ (I : St), f_L_commits_b111 I = some (rr, II) → ∀ (H : Heap) (locs : List Loc) (ls : Array Slot), va_P D vwCl (wl tc ad (cmb I M)) H → va_S A s.heap H locs → lv_has ls 6 [] → W p l e rm_L_commits s m args below meth c H locs 0 0 (MQ below (qi D tc ad A rr (cmb II M)) args s 0 0 A) (F0 m 111 ls []) := by
  intro I h H locs ls hP hS hl
  unfold f_L_commits_b111 at h
  have hx := hX.1
  have hb := hX.2.1
  have hown := hX.2.2.2.1
  have hts := hX.2.2.2.2.1
  have hA := hX.2.2.2.2.2.2
  refine lv_iconst (v := 0) hx hb dL_commits_111 kc_i0 ?_
  exact t_L_commits_b112 hX hr hlk  _ _ h _ _ _ hP hS (lv_sub hl [] rfl)
set_option maxHeartbeats 4000000 in
set_option maxRecDepth 100000 in
theorem t_L_commits_b67 {p : Program} {l : Launch} {e : Env} {s : State} {m : MethodId} {args : Array Value} {below : List Frame} {meth : Method} {c : Code} {D : va_G} {tc : Tc} {ad : Nat → Nat} {A : Nat → Prop} {M : St} {rr : Int32} {II : St} (hX : cx p s m args c cL_commits 6 RL D tc ad A) (hr : meth.sig.returnType = some .boolean) (hlk : meth.locks = false) : ∀ (v1 : Int32) (v3 : Int32) (t0 : Int32) (I : St), f_L_commits_b67 v1 v3 t0 I = some (rr, II) → ∀ (H : Heap) (locs : List Loc) (ls : Array Slot), va_P D vwCl (wl tc ad (cmb I M)) H → va_S A s.heap H locs → lv_has ls 6 [(0, .ref (ad 145)), (1, .int v1), (3, .int v3)] → W p l e rm_L_commits s m args below meth c H locs 0 0 (MQ below (qi D tc ad A rr (cmb II M)) args s 0 0 A) (F0 m 67 ls [.int t0]) := by
  intro v1 v3 t0 I h H locs ls hP hS hl
  unfold f_L_commits_b67 at h
  have hx := hX.1
  have hb := hX.2.1
  have hown := hX.2.2.2.1
  have hts := hX.2.2.2.2.1
  have hA := hX.2.2.2.2.2.2
  refine lv_istore (lv' := [(5, .int t0), (0, .ref (ad 145)), (1, .int v1), (3, .int v3)]) hx hb dL_commits_67 hl (Nat.le_of_ble_eq_true rfl) rfl (fun ls hl => ?_)
  refine lv_iload hx hb dL_commits_69 (lv_at hl 0 rfl) ?_
  refine x_if_eq (tgt := 111) hx hb dL_commits_71 (by decide) h (fun c1 h => ?_) (fun c1 h => ?_)
  · exact t_L_commits_b111 hX hr hlk  _ h _ _ _ hP hS (lv_sub hl [] rfl)
  · refine lv_aload_n hx hb dL_commits_74 rfl (lv_at hl 1 rfl) ?_
    refine lv_iload_n hx hb dL_commits_75 rfl (lv_at hl 2 rfl) ?_
    refine lv_iload_n hx hb dL_commits_76 rfl (lv_at hl 2 rfl) ?_
    obtain ⟨r3, e2, h⟩ := ob1_some h
    refine j_i (j_runV (rest := []) hX hP hl.1 Y_X7_share cok5 (lt157 sl_145) sk_145 (c_X7_share hA e2) ⟨rfl, rfl⟩ q682 ⟨Nat.le_of_ble_eq_true rfl, Nat.le_of_ble_eq_true rfl⟩ rfl rfl (Nat.le_of_ble_eq_true rfl) dL_commits_77) hS (fun H locs hP hS => ?_)
    refine x_if_lt (tgt := 107) hx hb dL_commits_80 (by decide) h (fun c4 h => ?_) (fun c4 h => ?_)
    · exact t_L_commits_b107 hX hr hlk  _ h _ _ _ hP hS (lv_sub hl [] rfl)
    · refine lv_aload_n hx hb dL_commits_83 rfl (lv_at hl 1 rfl) ?_
      refine lv_iload_n hx hb dL_commits_84 rfl (lv_at hl 2 rfl) ?_
      refine lv_iload_n hx hb dL_commits_85 rfl (lv_at hl 2 rfl) ?_
      obtain ⟨r6, e5, h⟩ := ob1_some h
      refine j_i (j_runV (rest := []) hX hP hl.1 Y_X7_isRight cok5 (lt157 sl_145) sk_145 (c_X7_isRight hA e5) ⟨rfl, rfl⟩ q686 ⟨Nat.le_of_ble_eq_true rfl, Nat.le_of_ble_eq_true rfl⟩ rfl rfl (Nat.le_of_ble_eq_true rfl) dL_commits_86) hS (fun H locs hP hS => ?_)
      refine lv_iconst (v := 1) hx hb dL_commits_89 kc_i1 ?_
      refine x_icmp_ne (tgt := 111) hx hb dL_commits_90 (by decide) h (fun c7 h => ?_) (fun c7 h => ?_)
      · exact t_L_commits_b111 hX hr hlk  _ h _ _ _ hP hS (lv_sub hl [] rfl)
      · refine lv_aload_n hx hb dL_commits_93 rfl (lv_at hl 1 rfl) ?_
        refine lv_iload_n hx hb dL_commits_94 rfl (lv_at hl 2 rfl) ?_
        refine lv_aload_n hx hb dL_commits_95 rfl (lv_at hl 1 rfl) ?_
        refine lv_iconst (v := 0) hx hb dL_commits_96 kc_i0 ?_
        obtain ⟨r9, e8, h⟩ := ob1_some h
        refine j_i (j_runV (rest := [.int v1, .ref (ad 145)]) hX hP hl.1 Y_X7_set cok5 (lt157 sl_145) sk_145 (c_X7_set hA e8) ⟨rfl, rfl⟩ q457 ⟨Nat.le_of_ble_eq_true rfl, Nat.le_of_ble_eq_true rfl⟩ rfl rfl (Nat.le_of_ble_eq_true rfl) dL_commits_97) hS (fun H locs hP hS => ?_)
        obtain ⟨r11, e10, h⟩ := ob1_some h
        refine j_i (j_runV (rest := []) hX hP hl.1 Y_X7_recover cok5 (lt157 sl_145) sk_145 (c_X7_recover hA e10) ⟨rfl, rfl⟩ q690 ⟨Nat.le_of_ble_eq_true rfl, Nat.le_of_ble_eq_true rfl⟩ rfl rfl (Nat.le_of_ble_eq_true rfl) dL_commits_100) hS (fun H locs hP hS => ?_)
        refine lv_iload_n hx hb dL_commits_103 rfl (lv_at hl 3 rfl) ?_
        refine x_icmp_ne (tgt := 111) hx hb dL_commits_104 (by decide) h (fun c12 h => ?_) (fun c12 h => ?_)
        · exact t_L_commits_b111 hX hr hlk  _ h _ _ _ hP hS (lv_sub hl [] rfl)
        · exact t_L_commits_b107 hX hr hlk  _ h _ _ _ hP hS (lv_sub hl [] rfl)
set_option maxHeartbeats 4000000 in
set_option maxRecDepth 100000 in
theorem t_L_commits_b66 {p : Program} {l : Launch} {e : Env} {s : State} {m : MethodId} {args : Array Value} {below : List Frame} {meth : Method} {c : Code} {D : va_G} {tc : Tc} {ad : Nat → Nat} {A : Nat → Prop} {M : St} {rr : Int32} {II : St} (hX : cx p s m args c cL_commits 6 RL D tc ad A) (hr : meth.sig.returnType = some .boolean) (hlk : meth.locks = false) : ∀ (v1 : Int32) (v3 : Int32) (I : St), f_L_commits_b66 v1 v3 I = some (rr, II) → ∀ (H : Heap) (locs : List Loc) (ls : Array Slot), va_P D vwCl (wl tc ad (cmb I M)) H → va_S A s.heap H locs → lv_has ls 6 [(0, .ref (ad 145)), (1, .int v1), (3, .int v3)] → W p l e rm_L_commits s m args below meth c H locs 0 0 (MQ below (qi D tc ad A rr (cmb II M)) args s 0 0 A) (F0 m 66 ls []) := by
  intro v1 v3 I h H locs ls hP hS hl
  unfold f_L_commits_b66 at h
  have hx := hX.1
  have hb := hX.2.1
  have hown := hX.2.2.2.1
  have hts := hX.2.2.2.2.1
  have hA := hX.2.2.2.2.2.2
  refine lv_iconst (v := 0) hx hb dL_commits_66 kc_i0 ?_
  exact t_L_commits_b67 hX hr hlk  _ _ _ _ h _ _ _ hP hS (lv_sub hl [0, 1, 2] rfl)
set_option maxHeartbeats 4000000 in
set_option maxRecDepth 100000 in
theorem c_L_commits {l : Launch} {D : va_G} {tc : Tc} {ad : Nat → Nat} {A : Nat → Prop} (hA : adok ad A) {I M : St} {v1 : Int32} {v2 : Int32} {rr : Int32} {II : St} (h : f_L_commits v1 v2 I = some (rr, II)) : Met l yL_commits (Cond.code yL_commits cL_commits 6 (some .boolean) :: tw) rm_L_commits (pre D tc ad [.ref (ad 145), .int v1, .int v2] (cmb I M)) (qi D tc ad A rr (cmb II M)) 0 0 A := by
  unfold f_L_commits at h
  refine mk_met (own := RL) (by decide +kernel) rfl hA (Nat.le_of_ble_eq_true rfl) ?_
  intro p e s m below meth c ls hX hr hlk hl hP hS
  have hl : lv_has ls 6 [(0, .ref (ad 145)), (1, .int v1), (2, .int v2)] := hl
  have hx := hX.1
  have hb := hX.2.1
  have hown := hX.2.2.2.1
  have hts := hX.2.2.2.2.1
  refine lv_iload_n hx hb dL_commits_0 rfl (lv_at hl 2 rfl) ?_
  refine lv_iconst (v := 4) hx hb dL_commits_1 kc_i4 ?_
  refine lv_ishr hx hb dL_commits_2 ?_
  refine x_let h (fun x13 h => ?_)
  refine lv_sipush (v := 1019) hx hb dL_commits_3 kc_s1019 ?_
  obtain ⟨r15, e14, h⟩ := ob1_some h
  refine j_i (j_runS (rest := []) hX hP hl.1 Y_L_up (c_L_up hA e14) ⟨rfl, rfl⟩ q302 ⟨Nat.le_of_ble_eq_true rfl, Nat.le_of_ble_eq_true rfl⟩ rfl rfl (Nat.le_of_ble_eq_true rfl) dL_commits_6) hS (fun H locs hP hS => ?_)
  refine lv_istore_n (lv' := [(3, .int r15), (0, .ref (ad 145)), (1, .int v1), (2, .int v2)]) hx hb dL_commits_9 rfl hl (Nat.le_of_ble_eq_true rfl) rfl (fun ls hl => ?_)
  refine lv_aload_n hx hb dL_commits_10 rfl (lv_at hl 1 rfl) ?_
  refine lv_iload_n hx hb dL_commits_11 rfl (lv_at hl 2 rfl) ?_
  refine lv_iload_n hx hb dL_commits_12 rfl (lv_at hl 0 rfl) ?_
  refine lv_iload_n hx hb dL_commits_13 rfl (lv_at hl 3 rfl) ?_
  obtain ⟨r18, I17, e16, h⟩ := ob2_some h
  refine j_i (j_runV (rest := []) hX hP hl.1 Y_X7_commit cok5 (lt157 sl_145) sk_145 (c_X7_commit hA e16) ⟨rfl, rfl⟩ q367 ⟨Nat.le_of_ble_eq_true rfl, Nat.le_of_ble_eq_true rfl⟩ rfl rfl (Nat.le_of_ble_eq_true rfl) dL_commits_14) hS (fun H locs hP hS => ?_)
  refine lv_istore (lv' := [(4, .int r18), (3, .int r15), (0, .ref (ad 145)), (1, .int v1), (2, .int v2)]) hx hb dL_commits_17 hl (Nat.le_of_ble_eq_true rfl) rfl (fun ls hl => ?_)
  refine lv_iload hx hb dL_commits_19 (lv_at hl 0 rfl) ?_
  refine lv_bipush (v := (-2)) hx hb dL_commits_21 kc_bm2 ?_
  refine x_icmp_eq (tgt := 33) hx hb dL_commits_23 (by decide) h (fun c19 h => ?_) (fun c19 h => ?_)
  · exact t_L_commits_b33 hX hr hlk  _ h _ _ _ hP hS (lv_sub hl [] rfl)
  · refine lv_iload hx hb dL_commits_26 (lv_at hl 0 rfl) ?_
    refine lv_bipush (v := (-4)) hx hb dL_commits_28 kc_bm4 ?_
    refine x_icmp_ne (tgt := 35) hx hb dL_commits_30 (by decide) h (fun c20 h => ?_) (fun c20 h => ?_)
    · refine lv_iload hx hb dL_commits_35 (lv_at hl 0 rfl) ?_
      refine x_if_lt (tgt := 66) hx hb dL_commits_37 (by decide) h (fun c21 h => ?_) (fun c21 h => ?_)
      · exact t_L_commits_b66 hX hr hlk  _ _ _ h _ _ _ hP hS (lv_sub hl [2, 3, 1] rfl)
      · refine lv_aload_n hx hb dL_commits_40 rfl (lv_at hl 2 rfl) ?_
        refine lv_iload_n hx hb dL_commits_41 rfl (lv_at hl 3 rfl) ?_
        obtain ⟨r23, e22, h⟩ := ob1_some h
        refine j_i (j_runV (rest := []) hX hP hl.1 Y_X7_digest cok5 (lt157 sl_145) sk_145 (c_X7_digest hA e22) ⟨rfl, rfl⟩ q568 ⟨Nat.le_of_ble_eq_true rfl, Nat.le_of_ble_eq_true rfl⟩ rfl rfl (Nat.le_of_ble_eq_true rfl) dL_commits_42) hS (fun H locs hP hS => ?_)
        refine lv_iload hx hb dL_commits_45 (lv_at hl 0 rfl) ?_
        refine x_icmp_ne (tgt := 66) hx hb dL_commits_47 (by decide) h (fun c24 h => ?_) (fun c24 h => ?_)
        · exact t_L_commits_b66 hX hr hlk  _ _ _ h _ _ _ hP hS (lv_sub hl [2, 3, 1] rfl)
        · refine lv_aload_n hx hb dL_commits_50 rfl (lv_at hl 2 rfl) ?_
          refine lv_iload_n hx hb dL_commits_51 rfl (lv_at hl 3 rfl) ?_
          refine lv_iload_n hx hb dL_commits_52 rfl (lv_at hl 1 rfl) ?_
          refine lv_iload_n hx hb dL_commits_53 rfl (lv_at hl 4 rfl) ?_
          obtain ⟨r27, I26, e25, h⟩ := ob2_some h
          refine j_i (j_runV (rest := []) hX hP hl.1 Y_X7_commit cok5 (lt157 sl_145) sk_145 (c_X7_commit hA e25) ⟨rfl, rfl⟩ q367 ⟨Nat.le_of_ble_eq_true rfl, Nat.le_of_ble_eq_true rfl⟩ rfl rfl (Nat.le_of_ble_eq_true rfl) dL_commits_54) hS (fun H locs hP hS => ?_)
          refine lv_bipush (v := (-2)) hx hb dL_commits_57 kc_bm2 ?_
          refine x_icmp_ne (tgt := 66) hx hb dL_commits_59 (by decide) h (fun c28 h => ?_) (fun c28 h => ?_)
          · exact t_L_commits_b66 hX hr hlk  _ _ _ h _ _ _ hP hS (lv_sub hl [2, 3, 1] rfl)
          · refine lv_iconst (v := 1) hx hb dL_commits_62 kc_i1 ?_
            refine lv_goto (tgt := 67) hx hb dL_commits_63 (by decide) ?_
            exact t_L_commits_b67 hX hr hlk  _ _ _ _ h _ _ _ hP hS (lv_sub hl [2, 3, 1] rfl)
    · exact t_L_commits_b33 hX hr hlk  _ h _ _ _ hP hS (lv_sub hl [] rfl)
