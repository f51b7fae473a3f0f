/-! Lab() -/
def eX_X4 : va_E := .inr (3, [.null, .null, .null, .int 0, .int 0, .int 0, .int 0, .int 0, .int 0, .int 0, .int 0, .int 0, .int 0, .int 0])
def aQ (cA : ClassId) (n : Nat) (f : Nat → Option Nat) : va_E := .inl (cA, n, .inr (.inr (.inr (.inr f))))
abbrev obL (v0 v1 v2 : Value) (x5 x6 x7 x8 x9 : Int32) : va_E := .inr (3, [v0, v1, v2, .int 0, .int 0, .int x5, .int x6, .int x7, .int x8, .int x9, .int 0, .int 0, .int 0, .int 0])
abbrev B5 (tc : Tc) (h0 q1 q2 q3 q4 : Nat) (f : Nat → Option Nat) : va_W := [(h0, obL (.ref q1) (.ref q2) (.ref q3) 0 2 10 100 0), (q1, .inl (tc.2.2, 8, .inr (.inr (.inr (.inr f))))), (q2, aZ tc 8), (q3, .inr (0, [.int 0, .int 0, .int 0, .int 0, .int 0, .int 0, .int 0, .ref q4])), (q4, aZ tc 96)]
def PL (tc : Tc) (pa p1 p2 : Nat → Nat) : Nat → va_W
  | 0 => []
  | n + 1 => PL tc pa p1 p2 n ++ wX_X5 tc (pa n) (p1 n) (p2 n)
theorem PL_congr {tc : Tc} {pa p1 p2 pa' p1' p2' : Nat → Nat} : ∀ n, (∀ k, k < n → pa k = pa' k ∧ p1 k = p1' k ∧ p2 k = p2' k) → PL tc pa p1 p2 n = PL tc pa' p1' p2' n
  | 0, _ => rfl
  | n + 1, h => by
    obtain ⟨h1, h2, h3⟩ := h n (by omega)
    rw [PL, PL, PL_congr n (fun k hk => h k (by omega)), h1, h2, h3]
def pf (pa : Nat → Nat) (i : Nat) : Nat → Option Nat := fun k => if k < i then some (pa k) else none
def ap (f : Nat → Nat) (i q : Nat) : Nat → Nat := fun k => if k = i then q else f k
theorem pf_up {pa : Nat → Nat} {i q : Nat} (hi : i < 2 ^ 31) : va_up (pf pa i) (nI i).toNatClampNeg (some q) = pf (ap pa i q) (i + 1) := by
  rw [nI_clamp hi]
  funext k
  unfold va_up pf ap
  by_cases e : k = i
  · rw [if_pos e, if_pos (by omega), if_pos e]
  · rw [if_neg e, if_neg e]
    by_cases c : k < i
    · rw [if_pos c, if_pos (by omega)]
    · rw [if_neg c, if_neg (by omega)]
def rmX_X4 : Room := { frames := 2, cells := 28, slots := 344, locals := 32 }
/-- the initial ints of a lab -/
def LI (j k : Nat) : Int32 := if j = 0 then (if k = 6 then 2 else if k = 7 then 10 else if k = 8 then 100 else 0) else 0
def LW (tc : Tc) (a : Nat → Nat) : va_W := (List.range 29).map fun j => (a j, cel tc a (LI j) j)
section
variable {p : Program} {l : Launch} {e : Env} {s : State} {m : MethodId} {below : List Frame} {meth : Method} {c : Code} {D : va_G} {tc : Tc} {h0 : Nat} {A : Nat → Prop} {Q : State → Prop}
set_option maxHeartbeats 4000000 in
set_option maxRecDepth 100000 in
theorem lab_loop (hx : p.tables.exec = Jvm.exec) (hb : c.code = cX4_init) (hml : c.maxLocals = 2) (hown : s.vm.findClass RX4 = some m.cls) (hts : ∀ w ∈ tw, w.before #[Value.ref h0] s = true) (hKK : kk D tc s) (hA : ∀ q : Nat, s.heap.size ≤ q → A q) {q1 q2 q3 q4 : Nat}
    (kd : ∀ (H : Heap) (locs : List Loc) (ls : Array Slot) (pa p1 p2 : Nat → Nat), va_P D vwCl (B5 tc h0 q1 q2 q3 q4 (pf pa 8) ++ PL tc pa p1 p2 8) H → va_D A (B5 tc h0 q1 q2 q3 q4 (pf pa 8) ++ PL tc pa p1 p2 8) → va_S A s.heap H locs → W p l e rmX_X4 s m #[Value.ref h0] below meth c H locs 28 344 Q (F0 m 86 ls [])) :
    ∀ (d i : Nat), i + d = 8 → ∀ (H : Heap) (locs : List Loc) (ls : Array Slot) (pa p1 p2 : Nat → Nat), va_P D vwCl (B5 tc h0 q1 q2 q3 q4 (pf pa i) ++ PL tc pa p1 p2 i) H → va_D A (B5 tc h0 q1 q2 q3 q4 (pf pa i) ++ PL tc pa p1 p2 i) → va_S A s.heap H locs → lv_has ls 2 [(1, .int (nI i)), (0, .ref h0)] → W p l e rmX_X4 s m #[Value.ref h0] below meth c H locs (4 + 3 * i) (120 + 28 * i) Q (F0 m 61 ls []) := by
  have hK := hKK.1
  intro d
  induction d with
  | zero =>
    intro i hi H locs ls pa p1 p2 hP hD hS hl
    have e : i = 8 := by omega
    subst e
    refine lv_iload_n hx hb dX4_init_61 rfl (lv_at hl 0 rfl) ?_
    refine lv_bipush (v := 8) hx hb dX4_init_62 (by decide) ?_
    refine lv_icmp_ge (tgt := 86) hx hb dX4_init_64 (by decide) (fun _ => ?_) (fun c1 => absurd (show (8 : Int32) ≤ nI 8 by decide) c1)
    exact kd H locs ls pa p1 p2 hP hD hS
  | succ d ih =>
    intro i hi H locs ls pa p1 p2 hP hD hS hl
    refine lv_iload_n hx hb dX4_init_61 rfl (lv_at hl 0 rfl) ?_
    refine lv_bipush (v := 8) hx hb dX4_init_62 (by decide) ?_
    refine lv_icmp_ge (tgt := 86) hx hb dX4_init_64 (by decide) (fun c1 => absurd c1 (show ¬ (8 : Int32) ≤ nI i from nI_ge (b := 8) (by omega) (by decide))) (fun _ => ?_)
    refine lv_aload_n hx hb dX4_init_67 rfl (lv_at hl 1 rfl) ?_
    refine va_get (D := D) (ci := 3) (v := .ref q1) (C := RX4) (T := TX4) (N := 14) hx hb hts cok3.2.2.2.1 hown hK hP 0 rfl rfl 0 (by decide) (hts _ q138) (fun _ h9 => h9) rfl dX4_init_68 ?_
    refine lv_iload_n hx hb dX4_init_71 rfl (lv_at hl 0 rfl) ?_
    have r1 : 4 + 3 * i + 1 ≤ rmX_X4.cells := by show _ ≤ 28; omega
    have r2 : 120 + 28 * i + 12 ≤ rmX_X4.slots := by show _ ≤ 344; omega
    refine va_new (ci := 4) (fs := [.int 0, .int 0, .int 0, .int 0, .int 0, .int 0, .int 0, .int 0, .int 0, .int 0, .null, .null]) (C := RX5) (T := TX5) (N := 12) hx hb hts cok4.2.2.2.1 tyX5 tyX5_ok hown (hts _ q37) (hts _ q78) (hts _ q15) hK hP hD hS hA rfl (fun j hj => by rcases (show j = 0 ∨ j = 1 ∨ j = 2 ∨ j = 3 ∨ j = 4 ∨ j = 5 ∨ j = 6 ∨ j = 7 ∨ j = 8 ∨ j = 9 ∨ j = 10 ∨ j = 11 by omega) with rfl | rfl | rfl | rfl | rfl | rfl | rfl | rfl | rfl | rfl | rfl | rfl <;> rfl) r1 r2 dX4_init_72 (fun q H hP hD hS => ?_)
    refine lv_dup hx hb dX4_init_75 rfl ?_
    have hP : va_P D vwCl ((B5 tc h0 q1 q2 q3 q4 (pf pa i) ++ PL tc pa p1 p2 i) ++ [(q, eX_X5)]) H := hP
    have hD : va_D A ((B5 tc h0 q1 q2 q3 q4 (pf pa i) ++ PL tc pa p1 p2 i) ++ [(q, eX_X5)]) := hD
    have hF := va_fr hD hS hA
    have hPc : va_P D vwCl [(q, eX_X5)] H := fun k x hk => by
      have k1 := (List.getElem?_eq_some_iff.mp hk).1
      simp at k1
      subst k1
      exact hP (B5 tc h0 q1 q2 q3 q4 (pf pa i) ++ PL tc pa p1 p2 i).length x (by rw [← hk]; simp)
    refine va_callv (va_runIN (As := []) (rest := [.ref q, .int (nI i), .ref q1]) ⟨hx, hb, hml, hown, hts⟩ (c_X5_init l (D := D) (tc := tc) q H.size) ⟨va_cnB 0 hts (goodIn_tw (good_cons q81)) rfl rfl rfl (hKK.2.1 _ nw1) (hts _ q15) (by decide +kernel) ⟨Nat.le_of_ble_eq_true rfl, Nat.le_of_ble_eq_true rfl⟩, rfl, hts _ q80⟩ ⟨iPre_blind, fun U hU hW => ⟨rfl, by rw [hU], by rw [hU]; exact hPc, kk_warm hKK hW⟩⟩ rfl rfl hl.1 rfl (lv_room (Nat.le_of_ble_eq_true rfl)) dX4_init_76 ⟨by show _ ≤ 28; omega, by show _ ≤ 344; omega⟩) hS (fun q' _ h => hF q' h) hF (fun u t H1 locs ht hvm hw hB hz1 hk1 hS => ?_)
    obtain ⟨s1, s2, hP1, hD1⟩ := hB
    rw [ht] at hP1
    obtain ⟨hP, hD⟩ := va_jn hP hD hk1 hF hP1 hD1
    have hv : ((B5 tc h0 q1 q2 q3 q4 (pf pa i) ++ PL tc pa p1 p2 i) ++ wX_X5 tc q s1 s2)[(B5 tc h0 q1 q2 q3 q4 (pf pa i) ++ PL tc pa p1 p2 i).length]? = some (q, .inr (4, [.int 0, .int 0, .int 0, .int 0, .int 0, .int 0, .int 0, .int 0, .int 0, .int 0, .ref s1, .ref s2])) := by
      rw [List.getElem?_append_right (Nat.le_refl _), Nat.sub_self]; rfl
    refine va_astq (D := D) hx hb hK hP hD hS 1 2 _ 4 (r := (RX5, TX5, 12)) (cA := tc.2.2) (n := 8) (f := pf pa i) rfl rfl hv rfl (vp_in_nI (by omega) (by decide)) dX4_init_79 (fun H locs hP hD hS => ?_)
    rw [pf_up (by omega)] at hP hD
    have hP : va_P D vwCl ((B5 tc h0 q1 q2 q3 q4 (pf (ap pa i q) (i + 1)) ++ PL tc pa p1 p2 i) ++ wX_X5 tc q s1 s2) H := hP
    have hD : va_D A ((B5 tc h0 q1 q2 q3 q4 (pf (ap pa i q) (i + 1)) ++ PL tc pa p1 p2 i) ++ wX_X5 tc q s1 s2) := hD
    have eL : PL tc pa p1 p2 i ++ wX_X5 tc q s1 s2 = PL tc (ap pa i q) (ap p1 i s1) (ap p2 i s2) (i + 1) := by
      have e1 : ∀ (f : Nat → Nat) (x : Nat), ap f i x i = x := fun f x => if_pos rfl
      rw [PL, e1, e1, e1, PL_congr (pa' := ap pa i q) (p1' := ap p1 i s1) (p2' := ap p2 i s2) i (fun k hk => ⟨(if_neg (by omega)).symm, (if_neg (by omega)).symm, (if_neg (by omega)).symm⟩)]
    rw [List.append_assoc, eL] at hP hD
    refine lv_iinc (v := nI (i + 1)) (lv' := [(1, .int (nI (i + 1))), (0, .ref h0)]) hx hb dX4_init_80 hl (k := 0) rfl (nI_1 i) (by decide) rfl (fun ls hl => ?_)
    refine lv_goto (tgt := 61) hx hb dX4_init_83 (by decide) ?_
    refine W.widen (k := 4 + 3 * (i + 1)) (n := 120 + 28 * (i + 1)) (by omega) (by omega) ?_
    exact ih (i + 1) (by omega) H locs ls _ _ _ hP hD hS hl
end
/-! what it has made, by numbers -/
def la (h0 q1 q2 q3 q4 : Nat) (pa p1 p2 : Nat → Nat) (j : Nat) : Nat := if j = 0 then h0 else if j = 1 then q1 else if j = 2 then q2 else if j = 3 then q3 else if j = 4 then q4 else if j < 13 then pa (j - 5) else if j < 21 then p1 (j - 13) else p2 (j - 21)
def gl (j : Nat) : Nat := if j < 5 then j else if j < 13 then 5 + 3 * (j - 5) else if j < 21 then 6 + 3 * (j - 13) else 7 + 3 * (j - 21)
theorem gl_inj : ∀ i, i < 29 → ∀ j, j < 29 → gl i = gl j → i = j := by decide +kernel
theorem arrV_ext {cA : ClassId} {n : Nat} {f g : Nat → Value} (h : ∀ k, k < n → f k = g k) : arrV cA n f = arrV cA n g := by
  unfold arrV
  congr 2
  funext j
  exact h j.1 j.2
set_option maxHeartbeats 4000000 in
set_option maxRecDepth 100000 in
theorem la_at {tc : Tc} {h0 q1 q2 q3 q4 : Nat} {pa p1 p2 : Nat → Nat} {j : Nat} (hj : j < 29) (h1 : j ≠ 1) : (B5 tc h0 q1 q2 q3 q4 (pf pa 8) ++ PL tc pa p1 p2 8)[gl j]? = some (la h0 q1 q2 q3 q4 pa p1 p2 j, cel tc (la h0 q1 q2 q3 q4 pa p1 p2) (LI j) j) := by
  rcases (show j = 0 ∨ j = 2 ∨ j = 3 ∨ j = 4 ∨ j = 5 ∨ j = 6 ∨ j = 7 ∨ j = 8 ∨ j = 9 ∨ j = 10 ∨ j = 11 ∨ j = 12 ∨ j = 13 ∨ j = 14 ∨ j = 15 ∨ j = 16 ∨ j = 17 ∨ j = 18 ∨ j = 19 ∨ j = 20 ∨ j = 21 ∨ j = 22 ∨ j = 23 ∨ j = 24 ∨ j = 25 ∨ j = 26 ∨ j = 27 ∨ j = 28 by omega) with rfl | rfl | rfl | rfl | rfl | rfl | rfl | rfl | rfl | rfl | rfl | rfl | rfl | rfl | rfl | rfl | rfl | rfl | rfl | rfl | rfl | rfl | rfl | rfl | rfl | rfl | rfl | rfl <;> rfl
theorem LW_at {tc : Tc} {a : Nat → Nat} {k : Nat} {q : Nat × va_E} (h : (LW tc a)[k]? = some q) : k < 29 ∧ q = (a k, cel tc a (LI k) k) := by
  have k1 : k < 29 := by
    have := (List.getElem?_eq_some_iff.mp h).1
    simpa [LW] using this
  refine ⟨k1, ?_⟩
  simp [LW, List.getElem?_map, List.getElem?_range k1] at h
  exact h.symm
theorem LW_get {tc : Tc} {a : Nat → Nat} {k : Nat} (h : k < 29) : (LW tc a)[k]? = some (a k, cel tc a (LI k) k) := by
  simp [LW, List.getElem?_map, List.getElem?_range h]
theorem LW_len {tc : Tc} {a : Nat → Nat} : (LW tc a).length = 29 := by simp [LW]
theorem lab_fin {D : va_G} {tc : Tc} {A : Nat → Prop} {H : Heap} {h0 q1 q2 q3 q4 : Nat} {pa p1 p2 : Nat → Nat} (hP : va_P D vwCl (B5 tc h0 q1 q2 q3 q4 (pf pa 8) ++ PL tc pa p1 p2 8) H) (hD : va_D A (B5 tc h0 q1 q2 q3 q4 (pf pa 8) ++ PL tc pa p1 p2 8)) : va_P D vwCl (LW tc (la h0 q1 q2 q3 q4 pa p1 p2)) H ∧ va_D A (LW tc (la h0 q1 q2 q3 q4 pa p1 p2)) := by
  have ex : ∀ j, j < 29 → ∃ e, (B5 tc h0 q1 q2 q3 q4 (pf pa 8) ++ PL tc pa p1 p2 8)[gl j]? = some (la h0 q1 q2 q3 q4 pa p1 p2 j, e) := fun j hj => by
    by_cases h1 : j = 1
    · subst h1; exact ⟨_, rfl⟩
    · exact ⟨_, la_at hj h1⟩
  refine ⟨fun k q hk => ?_, fun i j p q hi hj hpq => ?_, fun k q hk => ?_⟩
  · obtain ⟨k1, rfl⟩ := LW_at hk
    by_cases h1 : k = 1
    · subst h1
      have h2 := hP 1 _ rfl
      have e1 : cel tc (la h0 q1 q2 q3 q4 pa p1 p2) (LI 1) 1 = .inl (tc.2.2, 8, .inr (.inr (.inr (.inr (fun k => some (la h0 q1 q2 q3 q4 pa p1 p2 (1 + 4 + k))))))) := rfl
      rw [e1]
      have h3 : H[q1]? = some (vp_cell tc.2.2 (8, .inr (.inr (.inr (.inr (pf pa 8)))))) := h2
      show H[q1]? = some (vp_cell tc.2.2 (8, .inr (.inr (.inr (.inr (fun k => some (la h0 q1 q2 q3 q4 pa p1 p2 (1 + 4 + k))))))))
      rw [h3, vp_cell_q, vp_cell_q]
      refine congrArg some (arrV_ext fun k hk => ?_)
      unfold pf la
      rw [if_pos hk, if_neg (by omega), if_neg (by omega), if_neg (by omega), if_neg (by omega), if_neg (by omega), if_pos (by omega), show 1 + 4 + k - 5 = k by omega]
    · exact hP _ _ (la_at k1 h1)
  · obtain ⟨i1, rfl⟩ := LW_at hi
    obtain ⟨j1, rfl⟩ := LW_at hj
    obtain ⟨e1, g1⟩ := ex i i1
    obtain ⟨e2, g2⟩ := ex j j1
    exact gl_inj i i1 j j1 (hD.1 _ _ _ _ g1 g2 hpq)
  · obtain ⟨k1, rfl⟩ := LW_at hk
    obtain ⟨e1, g1⟩ := ex k k1
    exact hD.2 _ (la h0 q1 q2 q3 q4 pa p1 p2 k, e1) g1
set_option maxHeartbeats 4000000 in
set_option maxRecDepth 100000 in
/-- Lab() -/
theorem c_X4_init (l : Launch) {D : va_G} {tc : Tc} (h0 sz : Nat) : Met l yX4_init (Cond.code yX4_init cX4_init 2 none :: tw) rmX_X4 (iPre D tc h0 sz eX_X4) (iQc (fun t => ∃ a : Nat → Nat, a 0 = h0 ∧ va_P D vwCl (LW tc a) t.heap ∧ va_D (va_A [(h0, eX_X4)] sz) (LW tc a)) h0 sz eX_X4) 28 344 (va_A [(h0, eX_X4)] sz) := by
  refine mk_ini (own := RX4) (by decide +kernel) rfl rfl (by decide) ?_
  intro p e s m below meth c ls hx hb hml hown hts hKK hr hlk hin hsz hl hP
  subst hsz
  have hK := hKK.1
  unfold iQc
  generalize hAe : va_A [(h0, eX_X4)] s.heap.size = A
  have hA : ∀ q : Nat, s.heap.size ≤ q → A q := fun q h => by rw [← hAe]; exact Or.inr h
  have hD : va_D A [(h0, obL .null .null .null 0 0 0 0 0)] := va_D1 (by rw [← hAe]; exact Or.inl ⟨0, eX_X4, rfl⟩)
  have hP : va_P D vwCl [(h0, obL .null .null .null 0 0 0 0 0)] s.heap := hP
  have hS : va_S A s.heap s.heap [] := va_S.rf
  refine lv_aload_n hx hb dX4_init_0 rfl (lv_at hl 0 rfl) ?_
  refine W.objInit hx hb hown (hts _ q36) (hts _ q29) (hts _ q30) rfl (by rw [hml]; exact hl.1) rfl dX4_init_1 (Nat.le_of_ble_eq_true rfl) (Nat.le_of_ble_eq_true rfl) ?_
  refine W.eq (g2 := F0 m 4 ls []) rfl ?_
  refine lv_aload_n hx hb dX4_init_4 rfl (lv_at hl 0 rfl) ?_
  refine lv_bipush (v := 8) hx hb dX4_init_5 (by decide) ?_
  refine va_newq (C := RX5) (N' := 8) hx hb hown (hts _ q37) hKK.2.2.2 hK hP hD hS hA (by decide) rfl (Nat.le_of_ble_eq_true rfl) (Nat.le_of_ble_eq_true rfl) (Nat.le_of_ble_eq_true rfl) dX4_init_7 (fun q1 cA H hKn hP hD hS => ?_)
  obtain rfl := cA_per hKn
  have hP : va_P D vwCl [(h0, obL .null .null .null 0 0 0 0 0), (q1, aQ tc.2.2 8 (fun _ => none))] H := hP
  have hD : va_D A [(h0, obL .null .null .null 0 0 0 0 0), (q1, aQ tc.2.2 8 (fun _ => none))] := hD
  refine va_putF (D := D) (ci := 3) (v := .ref q1) (ty := .array (.object RX5)) (C := RX4) (T := TX4) (N := 14) hx hb hts cok3.2.2.2.1 tyX4 tyX4_ok nmX4 hown hK hP hD hS 0 rfl rfl 0 (by decide) (hts _ q138) (fun _ h9 => h9) rfl hin rfl (by decide +kernel) rfl rfl (Nat.le_of_ble_eq_true rfl) dX4_init_10 (fun H locs hP hD hS => ?_)
  have hP : va_P D vwCl [(h0, obL (.ref q1) .null .null 0 0 0 0 0), (q1, aQ tc.2.2 8 (fun _ => none))] H := hP
  have hD : va_D A [(h0, obL (.ref q1) .null .null 0 0 0 0 0), (q1, aQ tc.2.2 8 (fun _ => none))] := hD
  refine lv_aload_n hx hb dX4_init_13 rfl (lv_at hl 0 rfl) ?_
  refine lv_bipush (v := 8) hx hb dX4_init_14 (by decide) ?_
  refine va_newa (atype := .int) (ty := .int) (N' := 8) (a0 := (8, .inl (fun _ => 0))) hx hb (hts _ q77) rfl hK hP hD hS hA (fun _ => rfl) (by decide) rfl (Nat.le_of_ble_eq_true rfl) (Nat.le_of_ble_eq_true rfl) (Nat.le_of_ble_eq_true rfl) dX4_init_16 (fun q2 cA H hKn hP hD hS => ?_)
  obtain rfl := cA_int hKn
  have hP : va_P D vwCl [(h0, obL (.ref q1) .null .null 0 0 0 0 0), (q1, aQ tc.2.2 8 (fun _ => none)), (q2, aZ tc 8)] H := hP
  have hD : va_D A [(h0, obL (.ref q1) .null .null 0 0 0 0 0), (q1, aQ tc.2.2 8 (fun _ => none)), (q2, aZ tc 8)] := hD
  refine va_putF (D := D) (ci := 3) (v := .ref q2) (ty := .array .int) (C := RX4) (T := TX4) (N := 14) hx hb hts cok3.2.2.2.1 tyX4 tyX4_ok nmX4 hown hK hP hD hS 0 rfl rfl 1 (by decide) (hts _ q141) (fun _ h9 => h9) rfl hin rfl (by decide +kernel) rfl rfl (Nat.le_of_ble_eq_true rfl) dX4_init_18 (fun H locs hP hD hS => ?_)
  have hP : va_P D vwCl [(h0, obL (.ref q1) (.ref q2) .null 0 0 0 0 0), (q1, aQ tc.2.2 8 (fun _ => none)), (q2, aZ tc 8)] H := hP
  have hD : va_D A [(h0, obL (.ref q1) (.ref q2) .null 0 0 0 0 0), (q1, aQ tc.2.2 8 (fun _ => none)), (q2, aZ tc 8)] := hD
  refine lv_aload_n hx hb dX4_init_21 rfl (lv_at hl 0 rfl) ?_
  refine va_new (ci := 0) (fs := [.int 0, .int 0, .int 0, .int 0, .int 0, .int 0, .int 0, .null]) (C := RX0) (T := TX0) (N := 8) hx hb hts cok0.2.2.2.1 tyX0 tyX0_ok hown (hts _ q39) (hts _ q40) (hts _ q14) hK hP hD hS hA rfl (fun j hj => by rcases (show j = 0 ∨ j = 1 ∨ j = 2 ∨ j = 3 ∨ j = 4 ∨ j = 5 ∨ j = 6 ∨ j = 7 by omega) with rfl | rfl | rfl | rfl | rfl | rfl | rfl | rfl <;> rfl) (Nat.le_of_ble_eq_true rfl) (Nat.le_of_ble_eq_true rfl) dX4_init_22 (fun q3 H hP hD hS => ?_)
  refine lv_dup hx hb dX4_init_25 rfl ?_
  have hP : va_P D vwCl ([(h0, obL (.ref q1) (.ref q2) .null 0 0 0 0 0), (q1, aQ tc.2.2 8 (fun _ => none)), (q2, aZ tc 8)] ++ [(q3, eX_X0)]) H := hP
  have hD : va_D A ([(h0, obL (.ref q1) (.ref q2) .null 0 0 0 0 0), (q1, aQ tc.2.2 8 (fun _ => none)), (q2, aZ tc 8)] ++ [(q3, eX_X0)]) := hD
  have hF := va_fr hD hS hA
  have hPc : va_P D vwCl [(q3, eX_X0)] H := hP.sub [3] rfl
  refine va_callv (va_runIN (As := []) (rest := [.ref q3, .ref h0]) ⟨hx, hb, hml, hown, hts⟩ (c_X0_init l (D := D) (tc := tc) q3 H.size) ⟨va_cnB 0 hts (goodIn_tw (good_cons q43)) rfl rfl rfl (hKK.2.1 _ nw0) (hts _ q14) (by decide +kernel) ⟨Nat.le_of_ble_eq_true rfl, Nat.le_of_ble_eq_true rfl⟩, rfl, hts _ q42⟩ ⟨iPre_blind, fun U hU hW => ⟨rfl, by rw [hU], by rw [hU]; exact hPc, kk_warm hKK hW⟩⟩ rfl rfl hl.1 rfl (lv_room (Nat.le_of_ble_eq_true rfl)) dX4_init_26 ⟨Nat.le_of_ble_eq_true rfl, Nat.le_of_ble_eq_true rfl⟩) hS (fun q' _ h => hF q' h) hF (fun u t H1 locs ht hvm hw hB hz1 hk1 hS => ?_)
  obtain ⟨q4, hP1, hD1⟩ := hB
  rw [ht] at hP1
  obtain ⟨hP, hD⟩ := va_jn hP hD hk1 hF hP1 hD1
  have hP : va_P D vwCl [(h0, obL (.ref q1) (.ref q2) .null 0 0 0 0 0), (q1, aQ tc.2.2 8 (fun _ => none)), (q2, aZ tc 8), (q3, .inr (0, [.int 0, .int 0, .int 0, .int 0, .int 0, .int 0, .int 0, .ref q4])), (q4, aZ tc 96)] H1 := hP
  have hD : va_D A [(h0, obL (.ref q1) (.ref q2) .null 0 0 0 0 0), (q1, aQ tc.2.2 8 (fun _ => none)), (q2, aZ tc 8), (q3, .inr (0, [.int 0, .int 0, .int 0, .int 0, .int 0, .int 0, .int 0, .ref q4])), (q4, aZ tc 96)] := hD
  refine va_putF (D := D) (ci := 3) (v := .ref q3) (ty := .object RX0) (C := RX4) (T := TX4) (N := 14) hx hb hts cok3.2.2.2.1 tyX4 tyX4_ok nmX4 hown hK hP hD hS 0 rfl rfl 2 (by decide) (hts _ q145) (fun _ h9 => h9) rfl hin rfl (by decide +kernel) rfl rfl (Nat.le_of_ble_eq_true rfl) dX4_init_29 (fun H locs hP hD hS => ?_)
  refine lv_aload_n hx hb dX4_init_32 rfl (lv_at hl 0 rfl) ?_
  refine lv_iconst (v := 0) hx hb dX4_init_33 (by decide) ?_
  refine va_put (D := D) (ci := 3) (v := .int 0) (ty := .int) (C := RX4) (T := TX4) (N := 14) hx hb hts cok3.2.2.2.1 tyX4 tyX4_ok nmX4 hown hK hP hD hS 0 rfl rfl 5 (by decide) (hts _ q151) (fun _ h9 => h9) rfl (by decide +kernel) rfl rfl (Nat.le_of_ble_eq_true rfl) dX4_init_34 (fun H locs hP hD hS => ?_)
  refine lv_aload_n hx hb dX4_init_37 rfl (lv_at hl 0 rfl) ?_
  refine lv_iconst (v := 2) hx hb dX4_init_38 (by decide) ?_
  refine va_put (D := D) (ci := 3) (v := .int 2) (ty := .int) (C := RX4) (T := TX4) (N := 14) hx hb hts cok3.2.2.2.1 tyX4 tyX4_ok nmX4 hown hK hP hD hS 0 rfl rfl 6 (by decide) (hts _ q154) (fun _ h9 => h9) rfl (by decide +kernel) rfl rfl (Nat.le_of_ble_eq_true rfl) dX4_init_39 (fun H locs hP hD hS => ?_)
  refine lv_aload_n hx hb dX4_init_42 rfl (lv_at hl 0 rfl) ?_
  refine lv_bipush (v := 10) hx hb dX4_init_43 (by decide) ?_
  refine va_put (D := D) (ci := 3) (v := .int 10) (ty := .int) (C := RX4) (T := TX4) (N := 14) hx hb hts cok3.2.2.2.1 tyX4 tyX4_ok nmX4 hown hK hP hD hS 0 rfl rfl 7 (by decide) (hts _ q157) (fun _ h9 => h9) rfl (by decide +kernel) rfl rfl (Nat.le_of_ble_eq_true rfl) dX4_init_45 (fun H locs hP hD hS => ?_)
  refine lv_aload_n hx hb dX4_init_48 rfl (lv_at hl 0 rfl) ?_
  refine lv_bipush (v := 100) hx hb dX4_init_49 (by decide) ?_
  refine va_put (D := D) (ci := 3) (v := .int 100) (ty := .int) (C := RX4) (T := TX4) (N := 14) hx hb hts cok3.2.2.2.1 tyX4 tyX4_ok nmX4 hown hK hP hD hS 0 rfl rfl 8 (by decide) (hts _ q159) (fun _ h9 => h9) rfl (by decide +kernel) rfl rfl (Nat.le_of_ble_eq_true rfl) dX4_init_51 (fun H locs hP hD hS => ?_)
  refine lv_aload_n hx hb dX4_init_54 rfl (lv_at hl 0 rfl) ?_
  refine lv_iconst (v := 0) hx hb dX4_init_55 (by decide) ?_
  refine va_put (D := D) (ci := 3) (v := .int 0) (ty := .int) (C := RX4) (T := TX4) (N := 14) hx hb hts cok3.2.2.2.1 tyX4 tyX4_ok nmX4 hown hK hP hD hS 0 rfl rfl 9 (by decide) (hts _ q161) (fun _ h9 => h9) rfl (by decide +kernel) rfl rfl (Nat.le_of_ble_eq_true rfl) dX4_init_56 (fun H locs hP hD hS => ?_)
  have ep : pf (fun _ => 0) 0 = fun _ => none := by funext k; exact if_neg (by omega)
  have hP : va_P D vwCl (B5 tc h0 q1 q2 q3 q4 (pf (fun _ => 0) 0) ++ PL tc (fun _ => 0) (fun _ => 0) (fun _ => 0) 0) H := by rw [ep]; exact hP
  have hD : va_D A (B5 tc h0 q1 q2 q3 q4 (pf (fun _ => 0) 0) ++ PL tc (fun _ => 0) (fun _ => 0) (fun _ => 0) 0) := by rw [ep]; exact hD
  refine lv_iconst (v := 0) hx hb dX4_init_59 (by decide) ?_
  refine lv_istore_n (lv' := [(1, .int 0), (0, .ref h0)]) hx hb dX4_init_60 rfl hl (by decide) rfl (fun ls hl => ?_)
  refine W.widen (k := 4 + 3 * 0) (n := 120 + 28 * 0) (Nat.le_of_ble_eq_true rfl) (Nat.le_of_ble_eq_true rfl) ?_
  refine lab_loop hx hb hml hown hts hKK hA (fun H locs ls pa p1 p2 hP hD hS => ?_) 8 0 rfl H locs ls _ _ _ hP hD hS hl
  obtain ⟨hP, hD⟩ := lab_fin hP hD
  exact W.vret hx hb hr (fun t ht hW => ⟨⟨(), rfl, trivial, la h0 q1 q2 q3 q4 pa p1 p2, rfl, by rw [ht]; exact hP, hD⟩, hS.F ht⟩) hS.2.2 dX4_init_86 hlk
