/-! History() -/
def eX_X3 : va_E := .inr (2, [.null, .int 0])
abbrev B2 (tc : Tc) (h0 q1 : Nat) (f : Nat → Option Nat) : va_W := [(h0, .inr (2, [.ref q1, .int 0])), (q1, .inl (tc.2.1, 4, .inr (.inr (.inr (.inr f)))))]
def LL (tc : Tc) (aa : Nat → Nat → Nat) : Nat → va_W
  | 0 => []
  | n + 1 => LL tc aa n ++ LW tc (aa n)
theorem LL_congr {tc : Tc} {aa bb : Nat → Nat → Nat} : ∀ n, (∀ k, k < n → aa k = bb k) → LL tc aa n = LL tc bb n
  | 0, _ => rfl
  | n + 1, h => by rw [LL, LL, LL_congr n (fun k hk => h k (by omega)), h n (by omega)]
theorem LL_len {tc : Tc} {aa : Nat → Nat → Nat} : ∀ n, (LL tc aa n).length = 29 * n
  | 0 => rfl
  | n + 1 => by rw [LL, List.length_append, LL_len n, LW_len]; omega
theorem LL_get {tc : Tc} {aa : Nat → Nat → Nat} {j : Nat} (hj : j < 29) : ∀ n i, i < n → (LL tc aa n)[29 * i + j]? = some (aa i j, cel tc (aa i) (LI j) j)
  | 0, _, h => absurd h (by omega)
  | n + 1, i, h => by
    rw [LL]
    by_cases e : i = n
    · subst e
      rw [List.getElem?_append_right (by rw [LL_len]; omega), LL_len, show 29 * i + j - 29 * i = j by omega]
      exact LW_get hj
    · rw [List.getElem?_append_left (by rw [LL_len]; omega)]
      exact LL_get hj n i (by omega)
def apL (f : Nat → Nat → Nat) (i : Nat) (a : Nat → Nat) : Nat → Nat → Nat := fun k => if k = i then a else f k
def hf (aa : Nat → Nat → Nat) (i : Nat) : Nat → Option Nat := pf (fun k => aa k 0) i
theorem hf_up {aa : Nat → Nat → Nat} {a : Nat → Nat} {i q : Nat} (hi : i < 2 ^ 31) (h : a 0 = q) : va_up (hf aa i) (nI i).toNatClampNeg (some q) = hf (apL aa i a) (i + 1) := by
  unfold hf
  rw [pf_up hi]
  refine congrArg (fun g => pf g (i + 1)) ?_
  funext k
  unfold ap apL
  by_cases e : k = i
  · rw [if_pos e, if_pos e, h]
  · rw [if_neg e, if_neg e]
def rmX_X3 : Room := { frames := 3, cells := 117, slots := 1436, locals := 53 }
section
variable {p : Program} {l : Launch} {e : Env} {s : State} {m : MethodId} {below : List Frame} {meth : Method} {c : Code} {D : va_G} {tc : Tc} {h0 : Nat} {A : Nat → Prop} {Q : State → Prop}
set_option maxHeartbeats 4000000 in
set_option maxRecDepth 100000 in
theorem hist_loop (hx : p.tables.exec = Jvm.exec) (hb : c.code = cX3_init) (hml : c.maxLocals = 2) (hown : s.vm.findClass RX3 = some m.cls) (hts : ∀ w ∈ tw, w.before #[Value.ref h0] s = true) (hKK : kk D tc s) (hA : ∀ q : Nat, s.heap.size ≤ q → A q) {q1 : Nat}
    (kd : ∀ (H : Heap) (locs : List Loc) (ls : Array Slot) (aa : Nat → Nat → Nat), va_P D vwCl (B2 tc h0 q1 (hf aa 4) ++ LL tc aa 4) H → va_D A (B2 tc h0 q1 (hf aa 4) ++ LL tc aa 4) → va_S A s.heap H locs → W p l e rmX_X3 s m #[Value.ref h0] below meth c H locs 117 1436 Q (F0 m 38 ls [])) :
    ∀ (d i : Nat), i + d = 4 → ∀ (H : Heap) (locs : List Loc) (ls : Array Slot) (aa : Nat → Nat → Nat), va_P D vwCl (B2 tc h0 q1 (hf aa i) ++ LL tc aa i) H → va_D A (B2 tc h0 q1 (hf aa i) ++ LL tc aa i) → va_S A s.heap H locs → lv_has ls 2 [(1, .int (nI i)), (0, .ref h0)] → W p l e rmX_X3 s m #[Value.ref h0] below meth c H locs (1 + 29 * i) (4 + 358 * i) Q (F0 m 14 ls []) := by
  have hK := hKK.1
  intro d
  induction d with
  | zero =>
    intro i hi H locs ls aa hP hD hS hl
    have e : i = 4 := by omega
    subst e
    refine lv_iload_n hx hb dX3_init_14 rfl (lv_at hl 0 rfl) ?_
    refine lv_iconst (v := 4) hx hb dX3_init_15 (by decide) ?_
    refine lv_icmp_ge (tgt := 38) hx hb dX3_init_16 (by decide) (fun _ => ?_) (fun c1 => absurd (show (4 : Int32) ≤ nI 4 by decide) c1)
    exact kd H locs ls aa hP hD hS
  | succ d ih =>
    intro i hi H locs ls aa hP hD hS hl
    refine lv_iload_n hx hb dX3_init_14 rfl (lv_at hl 0 rfl) ?_
    refine lv_iconst (v := 4) hx hb dX3_init_15 (by decide) ?_
    refine lv_icmp_ge (tgt := 38) hx hb dX3_init_16 (by decide) (fun c1 => absurd c1 (show ¬ (4 : Int32) ≤ nI i from nI_ge (b := 4) (by omega) (by decide))) (fun _ => ?_)
    refine lv_aload_n hx hb dX3_init_19 rfl (lv_at hl 1 rfl) ?_
    refine va_get (D := D) (ci := 2) (v := .ref q1) (C := RX3) (T := TX3) (N := 2) hx hb hts cok2.2.2.2.1 hown hK hP 0 rfl rfl 0 (by decide) (hts _ q213) (fun _ h9 => h9) rfl dX3_init_20 ?_
    refine lv_iload_n hx hb dX3_init_23 rfl (lv_at hl 0 rfl) ?_
    have r1 : 1 + 29 * i + 1 ≤ rmX_X3.cells := by show _ ≤ 117; omega
    have r2 : 4 + 358 * i + 14 ≤ rmX_X3.slots := by show _ ≤ 1436; omega
    refine va_new (ci := 3) (fs := [.null, .null, .null, .int 0, .int 0, .int 0, .int 0, .int 0, .int 0, .int 0, .int 0, .int 0, .int 0, .int 0]) (C := RX4) (T := TX4) (N := 14) hx hb hts cok3.2.2.2.1 tyX4 tyX4_ok hown (hts _ q210) (hts _ q32) (hts _ q13) hK hP hD hS hA rfl (fun j hj => by rcases (show j = 0 ∨ j = 1 ∨ j = 2 ∨ j = 3 ∨ j = 4 ∨ j = 5 ∨ j = 6 ∨ j = 7 ∨ j = 8 ∨ j = 9 ∨ j = 10 ∨ j = 11 ∨ j = 12 ∨ j = 13 by omega) with rfl | rfl | rfl | rfl | rfl | rfl | rfl | rfl | rfl | rfl | rfl | rfl | rfl | rfl <;> rfl) r1 r2 dX3_init_24 (fun q H hP hD hS => ?_)
    refine lv_dup hx hb dX3_init_27 rfl ?_
    have hP : va_P D vwCl ((B2 tc h0 q1 (hf aa i) ++ LL tc aa i) ++ [(q, eX_X4)]) H := hP
    have hD : va_D A ((B2 tc h0 q1 (hf aa i) ++ LL tc aa i) ++ [(q, eX_X4)]) := hD
    have hF := va_fr hD hS hA
    have hPc : va_P D vwCl [(q, eX_X4)] H := fun k x hk => by
      have k1 := (List.getElem?_eq_some_iff.mp hk).1
      simp at k1
      subst k1
      exact hP (B2 tc h0 q1 (hf aa i) ++ LL tc aa i).length x (by rw [← hk]; simp)
    refine va_callv (va_runI (As := []) (rest := [.ref q, .int (nI i), .ref q1]) ⟨hx, hb, hml, hown, hts⟩ (c_X4_init l (D := D) (tc := tc) q H.size) (cwI 0 hts (goodIn_tw (good_cons q35)) rfl rfl rfl (hts _ q13) (hts _ q212) (hts _ q34) rfl (by decide +kernel) ⟨Nat.le_of_ble_eq_true rfl, Nat.le_of_ble_eq_true rfl⟩) ⟨iPre_blind, fun U hU hW => ⟨rfl, by rw [hU], by rw [hU]; exact hPc, kk_warm hKK hW⟩⟩ rfl rfl hl.1 rfl (lv_room (Nat.le_of_ble_eq_true rfl)) dX3_init_28 ⟨by show _ ≤ 117; omega, by show _ ≤ 1436; omega⟩) hS (fun q' _ h => hF q' h) hF (fun u t H1 locs ht hvm hw hB hz1 hk1 hS => ?_)
    obtain ⟨a, a0, hP1, hD1⟩ := hB
    rw [ht] at hP1
    obtain ⟨hP, hD⟩ := va_jn hP hD hk1 hF hP1 hD1
    have hv : ((B2 tc h0 q1 (hf aa i) ++ LL tc aa i) ++ LW tc a)[(B2 tc h0 q1 (hf aa i) ++ LL tc aa i).length]? = some (q, .inr (3, (List.range (nf 3)).map (fv a (LI 0) 3 0))) := by
      rw [List.getElem?_append_right (Nat.le_refl _), Nat.sub_self, LW_get (by decide), a0]; rfl
    refine va_astq (D := D) hx hb hK hP hD hS 1 1 _ 3 (r := (RX4, TX4, 14)) (cA := tc.2.1) (n := 4) (f := hf aa i) rfl rfl hv rfl (vp_in_nI (by omega) (by decide)) dX3_init_31 (fun H locs hP hD hS => ?_)
    rw [hf_up (a := a) (by omega) a0] at hP hD
    have hP : va_P D vwCl ((B2 tc h0 q1 (hf (apL aa i a) (i + 1)) ++ LL tc aa i) ++ LW tc a) H := hP
    have hD : va_D A ((B2 tc h0 q1 (hf (apL aa i a) (i + 1)) ++ LL tc aa i) ++ LW tc a) := hD
    have eL : LL tc aa i ++ LW tc a = LL tc (apL aa i a) (i + 1) := by
      have e1 : apL aa i a i = a := if_pos rfl
      rw [LL, e1, LL_congr (bb := apL aa i a) i (fun k hk => (if_neg (by omega)).symm)]
    rw [List.append_assoc, eL] at hP hD
    refine lv_iinc (v := nI (i + 1)) (lv' := [(1, .int (nI (i + 1))), (0, .ref h0)]) hx hb dX3_init_32 hl (k := 0) rfl (nI_1 i) (by decide) rfl (fun ls hl => ?_)
    refine lv_goto (tgt := 14) hx hb dX3_init_35 (by decide) ?_
    refine W.widen (k := 1 + 29 * (i + 1)) (n := 4 + 358 * (i + 1)) (by omega) (by omega) ?_
    exact ih (i + 1) (by omega) H locs ls _ hP hD hS hl
end
set_option maxHeartbeats 4000000 in
set_option maxRecDepth 100000 in
/-- History() -/
theorem c_X3_init (l : Launch) {D : va_G} {tc : Tc} (h0 sz : Nat) : Met l yX3_init (Cond.code yX3_init cX3_init 2 none :: tw) rmX_X3 (iPre D tc h0 sz eX_X3) (iQc (fun t => ∃ (q1 : Nat) (aa : Nat → Nat → Nat), va_P D vwCl (B2 tc h0 q1 (hf aa 4) ++ LL tc aa 4) t.heap ∧ va_D (va_A [(h0, eX_X3)] sz) (B2 tc h0 q1 (hf aa 4) ++ LL tc aa 4)) h0 sz eX_X3) 117 1436 (va_A [(h0, eX_X3)] sz) := by
  refine mk_ini (own := RX3) (by decide +kernel) rfl rfl (by decide) ?_
  intro p e s m below meth c ls hx hb hml hown hts hKK hr hlk hin hsz hl hP
  subst hsz
  have hK := hKK.1
  unfold iQc
  generalize hAe : va_A [(h0, eX_X3)] s.heap.size = A
  have hA : ∀ q : Nat, s.heap.size ≤ q → A q := fun q h => by rw [← hAe]; exact Or.inr h
  have hD : va_D A [(h0, .inr (2, [.null, .int 0]))] := va_D1 (by rw [← hAe]; exact Or.inl ⟨0, eX_X3, rfl⟩)
  have hP : va_P D vwCl [(h0, .inr (2, [.null, .int 0]))] s.heap := hP
  have hS : va_S A s.heap s.heap [] := va_S.rf
  refine lv_aload_n hx hb dX3_init_0 rfl (lv_at hl 0 rfl) ?_
  refine W.objInit hx hb hown (hts _ q209) (hts _ q29) (hts _ q30) rfl (by rw [hml]; exact hl.1) rfl dX3_init_1 (Nat.le_of_ble_eq_true rfl) (Nat.le_of_ble_eq_true rfl) ?_
  refine W.eq (g2 := F0 m 4 ls []) rfl ?_
  refine lv_aload_n hx hb dX3_init_4 rfl (lv_at hl 0 rfl) ?_
  refine lv_iconst (v := 4) hx hb dX3_init_5 (by decide) ?_
  refine va_newq (C := RX4) (N' := 4) hx hb hown (hts _ q210) hKK.2.2.1 hK hP hD hS hA (by decide) rfl (Nat.le_of_ble_eq_true rfl) (Nat.le_of_ble_eq_true rfl) (Nat.le_of_ble_eq_true rfl) dX3_init_6 (fun q1 cA H hKn hP hD hS => ?_)
  obtain rfl := cA_lab hKn
  have hP : va_P D vwCl [(h0, .inr (2, [.null, .int 0])), (q1, aQ tc.2.1 4 (fun _ => none))] H := hP
  have hD : va_D A [(h0, .inr (2, [.null, .int 0])), (q1, aQ tc.2.1 4 (fun _ => none))] := hD
  refine va_putF (D := D) (ci := 2) (v := .ref q1) (ty := .array (.object RX4)) (C := RX3) (T := TX3) (N := 2) hx hb hts cok2.2.2.2.1 tyX3 tyX3_ok nmX3 hown hK hP hD hS 0 rfl rfl 0 (by decide) (hts _ q213) (fun _ h9 => h9) rfl hin rfl (by decide +kernel) rfl rfl (Nat.le_of_ble_eq_true rfl) dX3_init_9 (fun H locs hP hD hS => ?_)
  have ep : hf (fun _ _ => 0) 0 = fun _ => none := by funext k; unfold hf pf; rw [if_neg (Nat.not_lt_zero k)]
  have hP : va_P D vwCl (B2 tc h0 q1 (hf (fun _ _ => 0) 0) ++ LL tc (fun _ _ => 0) 0) H := by rw [ep]; exact hP
  have hD : va_D A (B2 tc h0 q1 (hf (fun _ _ => 0) 0) ++ LL tc (fun _ _ => 0) 0) := by rw [ep]; exact hD
  refine lv_iconst (v := 0) hx hb dX3_init_12 (by decide) ?_
  refine lv_istore_n (lv' := [(1, .int 0), (0, .ref h0)]) hx hb dX3_init_13 rfl hl (by decide) rfl (fun ls hl => ?_)
  refine W.widen (k := 1 + 29 * 0) (n := 4 + 358 * 0) (Nat.le_of_ble_eq_true rfl) (Nat.le_of_ble_eq_true rfl) ?_
  refine hist_loop hx hb hml hown hts hKK hA (fun H locs ls aa hP hD hS => ?_) 4 0 rfl H locs ls _ hP hD hS hl
  exact W.vret hx hb hr (fun t ht hW => ⟨⟨(), rfl, trivial, q1, aa, by rw [ht]; exact hP, hD⟩, hS.F ht⟩) hS.2.2 dX3_init_38 hlk
/-! OwnerlessCoin() -/
def eX_X7 : va_E := .inr (5, [.null, .null, .null])
def rmX_X7 : Room := { frames := 4, cells := 151, slots := 2321, locals := 74 }
def HWl (tc : Tc) (qh qs : Nat) (aa : Nat → Nat → Nat) : va_W := B2 tc qh qs (hf aa 4) ++ LL tc aa 4
def OW (tc : Tc) (h0 : Nat) (v0 v1 v2 : Value) (a : Nat → Nat) : va_W := (h0, .inr (5, [v0, v1, v2])) :: LW tc a
def OWl (tc : Tc) (h0 : Nat) (a : Nat → Nat) (qh qs : Nat) (aa : Nat → Nat → Nat) (qc c1 c2 c3 : Nat) : va_W := (OW tc h0 (.ref (a 0)) (.ref qh) (.ref qc) a ++ HWl tc qh qs aa) ++ wX_X1 tc qc c1 c2 c3
theorem va_P1 {D : va_G} {cl : List vw_C} {ws : va_W} {x : Nat × va_E} {H : Heap} (hP : va_P D cl (ws ++ [x]) H) : va_P D cl [x] H := fun k y hk => by
  have k1 := (List.getElem?_eq_some_iff.mp hk).1
  simp at k1
  subst k1
  exact hP ws.length y (by rw [← hk]; simp)
set_option maxHeartbeats 4000000 in
set_option maxRecDepth 100000 in
/-- OwnerlessCoin() -/
theorem c_X7_init (l : Launch) {D : va_G} {tc : Tc} (h0 sz : Nat) : Met l yX7_init (Cond.code yX7_init cX7_init 1 none :: tw) rmX_X7 (iPre D tc h0 sz eX_X7) (iQc (fun t => ∃ (a : Nat → Nat) (qh qs : Nat) (aa : Nat → Nat → Nat) (qc c1 c2 c3 : Nat), va_P D vwCl (OWl tc h0 a qh qs aa qc c1 c2 c3) t.heap ∧ va_D (va_A [(h0, eX_X7)] sz) (OWl tc h0 a qh qs aa qc c1 c2 c3)) h0 sz eX_X7) 151 2321 (va_A [(h0, eX_X7)] sz) := by
  refine mk_ini (own := RX7) (by decide +kernel) rfl rfl (by decide) ?_
  intro p e s m below meth c ls hx hb hml hown hts hKK hr hlk hin hsz hl hP
  subst hsz
  have hK := hKK.1
  unfold iQc
  generalize hAe : va_A [(h0, eX_X7)] s.heap.size = A
  have hA : ∀ q : Nat, s.heap.size ≤ q → A q := fun q h => by rw [← hAe]; exact Or.inr h
  have hD : va_D A [(h0, .inr (5, [.null, .null, .null]))] := va_D1 (by rw [← hAe]; exact Or.inl ⟨0, eX_X7, rfl⟩)
  have hP : va_P D vwCl [(h0, .inr (5, [.null, .null, .null]))] s.heap := hP
  have hS : va_S A s.heap s.heap [] := va_S.rf
  refine lv_aload_n hx hb dX7_init_0 rfl (lv_at hl 0 rfl) ?_
  refine W.objInit hx hb hown (hts _ q28) (hts _ q29) (hts _ q30) rfl (by rw [hml]; exact hl.1) rfl dX7_init_1 (Nat.le_of_ble_eq_true rfl) (Nat.le_of_ble_eq_true rfl) ?_
  refine W.eq (g2 := F0 m 4 ls []) rfl ?_
  -- the lab
  refine lv_aload_n hx hb dX7_init_4 rfl (lv_at hl 0 rfl) ?_
  refine va_new (ci := 3) (fs := [.null, .null, .null, .int 0, .int 0, .int 0, .int 0, .int 0, .int 0, .int 0, .int 0, .int 0, .int 0, .int 0]) (C := RX4) (T := TX4) (N := 14) hx hb hts cok3.2.2.2.1 tyX4 tyX4_ok hown (hts _ q31) (hts _ q32) (hts _ q13) hK hP hD hS hA rfl (fun j hj => by rcases (show j = 0 ∨ j = 1 ∨ j = 2 ∨ j = 3 ∨ j = 4 ∨ j = 5 ∨ j = 6 ∨ j = 7 ∨ j = 8 ∨ j = 9 ∨ j = 10 ∨ j = 11 ∨ j = 12 ∨ j = 13 by omega) with rfl | rfl | rfl | rfl | rfl | rfl | rfl | rfl | rfl | rfl | rfl | rfl | rfl | rfl <;> rfl) (Nat.le_of_ble_eq_true rfl) (Nat.le_of_ble_eq_true rfl) dX7_init_5 (fun q H hP hD hS => ?_)
  refine lv_dup hx hb dX7_init_8 rfl ?_
  have hP : va_P D vwCl ([(h0, .inr (5, [.null, .null, .null]))] ++ [(q, eX_X4)]) H := hP
  have hD : va_D A ([(h0, .inr (5, [.null, .null, .null]))] ++ [(q, eX_X4)]) := hD
  have hF := va_fr hD hS hA
  have hPc := va_P1 hP
  refine va_callv (va_runI (As := []) (rest := [.ref q, .ref h0]) ⟨hx, hb, hml, hown, hts⟩ (c_X4_init l (D := D) (tc := tc) q H.size) (cwI 0 hts (goodIn_tw (good_cons q35)) rfl rfl rfl (hts _ q13) (hts _ q33) (hts _ q34) rfl (by decide +kernel) ⟨Nat.le_of_ble_eq_true rfl, Nat.le_of_ble_eq_true rfl⟩) ⟨iPre_blind, fun U hU hW => ⟨rfl, by rw [hU], by rw [hU]; exact hPc, kk_warm hKK hW⟩⟩ rfl rfl hl.1 rfl (lv_room (Nat.le_of_ble_eq_true rfl)) dX7_init_9 ⟨Nat.le_of_ble_eq_true rfl, Nat.le_of_ble_eq_true rfl⟩) hS (fun q' _ h => hF q' h) hF (fun u t H1 locs ht hvm hw hB hz1 hk1 hS => ?_)
  obtain ⟨a, rfl, hP1, hD1⟩ := hB
  rw [ht] at hP1
  obtain ⟨hP, hD⟩ := va_jn hP hD hk1 hF hP1 hD1
  have hP : va_P D vwCl (OW tc h0 .null .null .null a) H1 := hP
  have hD : va_D A (OW tc h0 .null .null .null a) := hD
  refine va_putF (D := D) (ci := 5) (v := .ref (a 0)) (ty := .object RX4) (C := RX7) (T := TX7) (N := 3) hx hb hts cok5.2.2.2.1 tyX7 tyX7_ok nmX7 hown hK hP hD hS 0 rfl rfl 0 (by decide) (hts _ q243) (fun _ h9 => h9) rfl hin rfl (by decide +kernel) rfl rfl (Nat.le_of_ble_eq_true rfl) dX7_init_12 (fun H locs hP hD hS => ?_)
  have hP : va_P D vwCl (OW tc h0 (.ref (a 0)) .null .null a) H := hP
  have hD : va_D A (OW tc h0 (.ref (a 0)) .null .null a) := hD
  -- the history
  refine lv_aload_n hx hb dX7_init_15 rfl (lv_at hl 0 rfl) ?_
  refine va_new (ci := 2) (fs := [.null, .int 0]) (C := RX3) (T := TX3) (N := 2) hx hb hts cok2.2.2.2.1 tyX3 tyX3_ok hown (hts _ q204) (hts _ q205) (hts _ q16) hK hP hD hS hA rfl (fun j hj => by rcases (show j = 0 ∨ j = 1 by omega) with rfl | rfl <;> rfl) (Nat.le_of_ble_eq_true rfl) (Nat.le_of_ble_eq_true rfl) dX7_init_16 (fun qh H hP hD hS => ?_)
  refine lv_dup hx hb dX7_init_19 rfl ?_
  have hP : va_P D vwCl (OW tc h0 (.ref (a 0)) .null .null a ++ [(qh, eX_X3)]) H := hP
  have hD : va_D A (OW tc h0 (.ref (a 0)) .null .null a ++ [(qh, eX_X3)]) := hD
  have hF := va_fr hD hS hA
  have hPc := va_P1 hP
  refine va_callv (va_runI (As := []) (rest := [.ref qh, .ref h0]) ⟨hx, hb, hml, hown, hts⟩ (c_X3_init l (D := D) (tc := tc) qh H.size) (cwI 0 hts (goodIn_tw (good_cons q208)) rfl rfl rfl (hts _ q16) (hts _ q206) (hts _ q207) rfl (by decide +kernel) ⟨Nat.le_of_ble_eq_true rfl, Nat.le_of_ble_eq_true rfl⟩) ⟨iPre_blind, fun U hU hW => ⟨rfl, by rw [hU], by rw [hU]; exact hPc, kk_warm hKK hW⟩⟩ rfl rfl hl.1 rfl (lv_room (Nat.le_of_ble_eq_true rfl)) dX7_init_20 ⟨Nat.le_of_ble_eq_true rfl, Nat.le_of_ble_eq_true rfl⟩) hS (fun q' _ h => hF q' h) hF (fun u t H1 locs ht hvm hw hB hz1 hk1 hS => ?_)
  obtain ⟨qs, aa, hP1, hD1⟩ := hB
  rw [ht] at hP1
  obtain ⟨hP, hD⟩ := va_jn hP hD hk1 hF hP1 hD1
  have hP : va_P D vwCl (OW tc h0 (.ref (a 0)) .null .null a ++ HWl tc qh qs aa) H1 := hP
  have hD : va_D A (OW tc h0 (.ref (a 0)) .null .null a ++ HWl tc qh qs aa) := hD
  refine va_putF (D := D) (ci := 5) (v := .ref qh) (ty := .object RX3) (C := RX7) (T := TX7) (N := 3) hx hb hts cok5.2.2.2.1 tyX7 tyX7_ok nmX7 hown hK hP hD hS 0 rfl rfl 1 (by decide) (hts _ q244) (fun _ h9 => h9) rfl hin rfl (by decide +kernel) rfl rfl (Nat.le_of_ble_eq_true rfl) dX7_init_23 (fun H locs hP hD hS => ?_)
  have hP : va_P D vwCl (OW tc h0 (.ref (a 0)) (.ref qh) .null a ++ HWl tc qh qs aa) H := hP
  have hD : va_D A (OW tc h0 (.ref (a 0)) (.ref qh) .null a ++ HWl tc qh qs aa) := hD
  -- the coalitions
  refine lv_aload_n hx hb dX7_init_26 rfl (lv_at hl 0 rfl) ?_
  refine va_new (ci := 1) (fs := [.null, .null, .null, .int 0, .int 0]) (C := RX1) (T := TX1) (N := 5) hx hb hts cok1.2.2.2.1 tyX1 tyX1_ok hown (hts _ q221) (hts _ q222) (hts _ q17) hK hP hD hS hA rfl (fun j hj => by rcases (show j = 0 ∨ j = 1 ∨ j = 2 ∨ j = 3 ∨ j = 4 by omega) with rfl | rfl | rfl | rfl | rfl <;> rfl) (Nat.le_of_ble_eq_true rfl) (Nat.le_of_ble_eq_true rfl) dX7_init_27 (fun qc H hP hD hS => ?_)
  refine lv_dup hx hb dX7_init_30 rfl ?_
  have hP : va_P D vwCl ((OW tc h0 (.ref (a 0)) (.ref qh) .null a ++ HWl tc qh qs aa) ++ [(qc, eX_X1)]) H := hP
  have hD : va_D A ((OW tc h0 (.ref (a 0)) (.ref qh) .null a ++ HWl tc qh qs aa) ++ [(qc, eX_X1)]) := hD
  have hF := va_fr hD hS hA
  have hPc := va_P1 hP
  refine va_callv (va_runIN (As := []) (rest := [.ref qc, .ref h0]) ⟨hx, hb, hml, hown, hts⟩ (c_X1_init l (D := D) (tc := tc) qc H.size) ⟨va_cnB 0 hts (goodIn_tw (good_cons q225)) rfl rfl rfl (hKK.2.1 _ nw2) (hts _ q17) (by decide +kernel) ⟨Nat.le_of_ble_eq_true rfl, Nat.le_of_ble_eq_true rfl⟩, rfl, hts _ q224⟩ ⟨iPre_blind, fun U hU hW => ⟨rfl, by rw [hU], by rw [hU]; exact hPc, kk_warm hKK hW⟩⟩ rfl rfl hl.1 rfl (lv_room (Nat.le_of_ble_eq_true rfl)) dX7_init_31 ⟨Nat.le_of_ble_eq_true rfl, Nat.le_of_ble_eq_true rfl⟩) hS (fun q' _ h => hF q' h) hF (fun u t H1 locs ht hvm hw hB hz1 hk1 hS => ?_)
  obtain ⟨c1, c2, c3, hP1, hD1⟩ := hB
  rw [ht] at hP1
  obtain ⟨hP, hD⟩ := va_jn hP hD hk1 hF hP1 hD1
  refine va_putF (D := D) (ci := 5) (v := .ref qc) (ty := .object RX1) (C := RX7) (T := TX7) (N := 3) hx hb hts cok5.2.2.2.1 tyX7 tyX7_ok nmX7 hown hK hP hD hS 0 rfl rfl 2 (by decide) (hts _ q245) (fun _ h9 => h9) rfl hin rfl (by decide +kernel) rfl rfl (Nat.le_of_ble_eq_true rfl) dX7_init_34 (fun H locs hP hD hS => ?_)
  have hP : va_P D vwCl (OWl tc h0 a qh qs aa qc c1 c2 c3) H := hP
  have hD : va_D A (OWl tc h0 a qh qs aa qc c1 c2 c3) := hD
  refine W.widen (k := 151) (n := 2321) (Nat.le_of_ble_eq_true rfl) (Nat.le_of_ble_eq_true rfl) ?_
  exact W.vret hx hb hr (fun t ht hW => ⟨⟨(), rfl, trivial, a, qh, qs, aa, qc, c1, c2, c3, by rw [ht]; exact hP, hD⟩, hS.F ht⟩) hS.2.2 dX7_init_37 hlk
