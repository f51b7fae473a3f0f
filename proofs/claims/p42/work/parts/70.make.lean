/-! constructors -/
theorem cA_int {D : va_G} {tc : Tc} {s : State} {cA : ClassId} {t2 t3 : ClassId × FieldType} (h : va_K D vwCl ([(tc.1, .int), t2, t3] ++ [(cA, .int)]) s) : cA = tc.1 := by
  have h1 : s.vm.findClass ("[" ++ FieldType.int.toString) = some cA := (h.2 3 _ rfl).2
  have h2 : s.vm.findClass ("[" ++ FieldType.int.toString) = some tc.1 := (h.2 0 _ rfl).2
  exact Option.some.inj (h1.symm.trans h2)
theorem cA_lab {D : va_G} {tc : Tc} {s : State} {cA : ClassId} {t1 t3 : ClassId × FieldType} (h : va_K D vwCl ([t1, (tc.2.1, .object RX4), t3] ++ [(cA, .object RX4)]) s) : cA = tc.2.1 := by
  obtain ⟨_, _, -, -, -, h1⟩ := (h.2 3 _ rfl).2
  obtain ⟨_, _, -, -, -, h2⟩ := (h.2 1 _ rfl).2
  exact Option.some.inj (h1.symm.trans h2)
theorem cA_per {D : va_G} {tc : Tc} {s : State} {cA : ClassId} {t1 t2 : ClassId × FieldType} (h : va_K D vwCl ([t1, t2, (tc.2.2, .object RX5)] ++ [(cA, .object RX5)]) s) : cA = tc.2.2 := by
  obtain ⟨_, _, -, -, -, h1⟩ := (h.2 3 _ rfl).2
  obtain ⟨_, _, -, -, -, h2⟩ := (h.2 2 _ rfl).2
  exact Option.some.inj (h1.symm.trans h2)
def aI (tc : Tc) (n : Nat) (f : Nat → Int32) : va_E := .inl (tc.1, n, .inl f)
def aZ (tc : Tc) (n : Nat) : va_E := aI tc n (fun _ => 0)
def iPre (D : va_G) (tc : Tc) (h0 sz : Nat) (e0 : va_E) : Array Value → State → Prop := va_Pc [.ref h0] (fun U => U.heap.size = sz ∧ va_P D vwCl [(h0, e0)] U.heap ∧ kk D tc U)
def iQc (B : State → Prop) (h0 sz : Nat) (e0 : va_E) : Array Value → State → Outcome → State → Prop := va_Qv (fun (_ : Unit) => True) (fun _ t => B t) (va_A [(h0, e0)] sz)
theorem iPre_blind {D : va_G} {tc : Tc} {h0 sz : Nat} {e0 : va_E} : FrameBlind (iPre D tc h0 sz e0) := by
  intro a U g mk h
  exact ⟨h.1, h.2.1, h.2.2.1, kk_same h.2.2.2 rfl⟩
theorem mk_ini {l : Launch} {y : MethodName} {cc' : ByteArray} {n' : Nat} {rm : Room} {h0 sz : Nat} {e0 : va_E} {Qc : Array Value → State → Outcome → State → Prop} {mc ms : Nat} {D : va_G} {tc : Tc} {own : String} (hy : plainName y.cls = true) (hown : own = y.cls) (hyn : y.name = "<init>") (hn : 1 ≤ n')
    (body : ∀ (p : Program) (e : Env) (s : State) (m : MethodId) (below : List Frame) (meth : Method) (c : Code) (ls : Array Slot), p.tables.exec = Jvm.exec → c.code = cc' → c.maxLocals = n' → s.vm.findClass own = some m.cls → (∀ w ∈ tw, w.before #[Value.ref h0] s = true) → kk D tc s → meth.sig.returnType = none → meth.locks = false → meth.name = "<init>" → s.heap.size = sz → lv_has ls n' [(0, .ref h0)] → va_P D vwCl [(h0, e0)] s.heap → W p l e rm s m #[Value.ref h0] below meth c s.heap [] 0 0 (MQ below Qc #[Value.ref h0] s mc ms (va_A [(h0, e0)] sz)) (F0 m 0 ls [])) :
    Met l y (Cond.code y cc' n' none :: tw) rm (iPre D tc h0 sz e0) Qc mc ms (va_A [(h0, e0)] sz) := by
  refine Met.ofW (cc := cc') (maxL := n') (ret := none) hy rfl ?_
  intro p e s m args below meth c s₁ B hml hv
  obtain ⟨rfl, hsz, hP, hK⟩ := hv
  have hts := atoms_spec (ws := Cond.code y cc' n' none :: tw) B.pre
  have hl := lv_entry ([Value.ref h0]) (n := n') hn
  rw [lg_entry_eq]
  exact body p e s m below meth c _ B.exec B.bytes hml (by rw [hown]; exact findClass_of_methodNamed B.named) (fun w hw => hts w (List.mem_cons_of_mem _ hw)) hK B.returns B.notSynchronized ((name_of_methodNamed B.named B.method).1.trans hyn) hsz hl hP
theorem va_D1 {A : Nat → Prop} {h0 : Nat} {e0 : va_E} (h : A h0) : va_D A [(h0, e0)] := by
  refine ⟨fun i j p q hi hj _ => ?_, fun k q hk => ?_⟩
  · have i1 := (List.getElem?_eq_some_iff.mp hi).1
    have j1 := (List.getElem?_eq_some_iff.mp hj).1
    simp at i1 j1
    omega
  · have k1 := (List.getElem?_eq_some_iff.mp hk).1
    simp at k1
    subst k1
    cases hk
    exact h
/-- what a callee made of the last cell joins the rest -/
theorem va_jn {A0 : Nat → Prop} {D : va_G} {cl : List vw_C} {wr w1 : va_W} {x : Nat × va_E} {H H1 : Heap} (hP : va_P D cl (wr ++ [x]) H) (hD : va_D A0 (wr ++ [x])) (hk : ∀ q : Nat, q < H.size → ¬ va_A [x] H.size q → H1[q]? = H[q]?) (hF : ∀ q, va_A [x] H.size q → A0 q) (hP1 : va_P D cl w1 H1) (hD1 : va_D (va_A [x] H.size) w1) : va_P D cl (wr ++ w1) H1 ∧ va_D A0 (wr ++ w1) := by
  have hl : ∀ (k : Nat) (q : Nat × va_E), wr[k]? = some q → (wr ++ [x])[k]? = some q := fun k q hq => by
    rw [List.getElem?_append_left (List.getElem?_eq_some_iff.mp hq).1]; exact hq
  have apart : ∀ (k : Nat) (q : Nat × va_E), wr[k]? = some q → q.1 < H.size ∧ ¬ va_A [x] H.size q.1 := by
    intro k q hq
    have h1 := (hP k q (hl k q hq)).lt
    refine ⟨h1, fun h => ?_⟩
    rcases h with ⟨k', e, h⟩ | h
    · have k1 := (List.getElem?_eq_some_iff.mp h).1
      simp at k1
      subst k1
      cases h
      have h2 : (wr ++ [(q.1, e)])[wr.length]? = some (q.1, e) := by simp
      have := hD.1 k wr.length q _ (hl k q hq) h2 rfl
      have := (List.getElem?_eq_some_iff.mp hq).1
      omega
    · omega
  have hPr : va_P D cl wr H1 := fun k q hq => (hP k q (hl k q hq)).kept (hk q.1 (apart k q hq).1 (apart k q hq).2)
  have hDr : va_D A0 wr := ⟨fun i j p q hi hj h => hD.1 i j p q (hl i p hi) (hl j q hj) h, fun k q hq => hD.2 k q (hl k q hq)⟩
  refine ⟨hPr.app hP1, hDr.app (hD1.weaken fun k q _ h => hF q.1 h) fun i j p q hi hj h => ?_⟩
  exact (apart i p hi).2 (by rw [h]; exact hD1.2 j q hj)
theorem va_fr {A0 : Nat → Prop} {ws : va_W} {x : Nat × va_E} {H0 H : Heap} {locs : List Loc} (hD : va_D A0 (ws ++ [x])) (hS : va_S A0 H0 H locs) (hA : ∀ q, H0.size ≤ q → A0 q) : ∀ q, va_A [x] H.size q → A0 q := fun q h => by
  rcases h with ⟨k, e, h⟩ | h
  · have k1 := (List.getElem?_eq_some_iff.mp h).1
    simp at k1
    subst k1
    cases h
    exact hD.2 ws.length (q, e) (by simp)
  · exact hA q (Nat.le_trans hS.1 h)
def eX_X5 : va_E := .inr (4, [.int 0, .int 0, .int 0, .int 0, .int 0, .int 0, .int 0, .int 0, .int 0, .int 0, .null, .null])
def wX_X5 (tc : Tc) (h0 q1 q2 : Nat) : va_W := [(h0, .inr (4, [.int 0, .int 0, .int 0, .int 0, .int 0, .int 0, .int 0, .int 0, .int 0, .int 0, .ref q1, .ref q2])), (q1, aZ tc 8), (q2, aZ tc 8)]
def rmX_X5 : Room := { frames := 1, cells := 2, slots := 16, locals := 12 }
set_option maxHeartbeats 4000000 in
set_option maxRecDepth 100000 in
/-- Person() -/
theorem c_X5_init (l : Launch) {D : va_G} {tc : Tc} (h0 sz : Nat) : Met l yX5_init (Cond.code yX5_init cX5_init 1 none :: tw) rmX_X5 (iPre D tc h0 sz eX_X5) (iQc (fun t => ∃ q1 q2, va_P D vwCl (wX_X5 tc h0 q1 q2) t.heap ∧ va_D (va_A [(h0, eX_X5)] sz) (wX_X5 tc h0 q1 q2)) h0 sz eX_X5) 2 16 (va_A [(h0, eX_X5)] sz) := by
  refine mk_ini (own := RX5) (by decide +kernel) rfl rfl (by decide) ?_
  intro p e s m below meth c ls hx hb hml hown hts hKK hr hlk hin hsz hl hP
  subst hsz
  have hK := hKK.1
  unfold iQc
  generalize hAe : va_A [(h0, eX_X5)] s.heap.size = A
  have hA : ∀ q : Nat, s.heap.size ≤ q → A q := fun q h => by rw [← hAe]; exact Or.inr h
  have hD : va_D A [(h0, .inr (4, [.int 0, .int 0, .int 0, .int 0, .int 0, .int 0, .int 0, .int 0, .int 0, .int 0, .null, .null]))] := va_D1 (by rw [← hAe]; exact Or.inl ⟨0, eX_X5, rfl⟩)
  have hP : va_P D vwCl [(h0, .inr (4, [.int 0, .int 0, .int 0, .int 0, .int 0, .int 0, .int 0, .int 0, .int 0, .int 0, .null, .null]))] s.heap := hP
  have hS : va_S A s.heap s.heap [] := va_S.rf
  refine lv_aload_n hx hb dX5_init_0 rfl (lv_at hl 0 rfl) ?_
  refine W.objInit hx hb hown (hts _ q82) (hts _ q29) (hts _ q30) rfl (by rw [hml]; exact hl.1) rfl dX5_init_1 (Nat.le_of_ble_eq_true rfl) (Nat.le_of_ble_eq_true rfl) ?_
  refine W.eq (g2 := F0 m 4 ls []) rfl ?_
  refine lv_aload_n hx hb dX5_init_4 rfl (lv_at hl 0 rfl) ?_
  refine lv_bipush (v := 8) hx hb dX5_init_5 (by decide) ?_
  refine va_newa (atype := .int) (ty := .int) (N' := 8) (a0 := (8, .inl (fun _ => 0))) hx hb (hts _ q77) rfl hK hP hD hS hA (fun _ => rfl) (by decide) rfl (Nat.le_of_ble_eq_true rfl) (Nat.le_of_ble_eq_true rfl) (Nat.le_of_ble_eq_true rfl) dX5_init_7 (fun q1 cA H hKn hP hD hS => ?_)
  obtain rfl := cA_int hKn
  have hP : va_P D vwCl [(h0, .inr (4, [.int 0, .int 0, .int 0, .int 0, .int 0, .int 0, .int 0, .int 0, .int 0, .int 0, .null, .null])), (q1, aZ tc 8)] H := hP
  have hD : va_D A [(h0, .inr (4, [.int 0, .int 0, .int 0, .int 0, .int 0, .int 0, .int 0, .int 0, .int 0, .int 0, .null, .null])), (q1, aZ tc 8)] := hD
  refine va_putF (D := D) (ci := 4) (v := .ref q1) (ty := .array .int) (C := RX5) (T := TX5) (N := 12) hx hb hts cok4.2.2.2.1 tyX5 tyX5_ok nmX5 hown hK hP hD hS 0 rfl rfl 10 (by decide) (hts _ q110) (fun _ h9 => h9) rfl hin rfl (by decide +kernel) rfl rfl (Nat.le_of_ble_eq_true rfl) dX5_init_9 (fun H locs hP hD hS => ?_)
  have hP : va_P D vwCl [(h0, .inr (4, [.int 0, .int 0, .int 0, .int 0, .int 0, .int 0, .int 0, .int 0, .int 0, .int 0, .ref q1, .null])), (q1, aZ tc 8)] H := hP
  have hD : va_D A [(h0, .inr (4, [.int 0, .int 0, .int 0, .int 0, .int 0, .int 0, .int 0, .int 0, .int 0, .int 0, .ref q1, .null])), (q1, aZ tc 8)] := hD
  refine lv_aload_n hx hb dX5_init_12 rfl (lv_at hl 0 rfl) ?_
  refine lv_bipush (v := 8) hx hb dX5_init_13 (by decide) ?_
  refine va_newa (atype := .int) (ty := .int) (N' := 8) (a0 := (8, .inl (fun _ => 0))) hx hb (hts _ q77) rfl hK hP hD hS hA (fun _ => rfl) (by decide) rfl (Nat.le_of_ble_eq_true rfl) (Nat.le_of_ble_eq_true rfl) (Nat.le_of_ble_eq_true rfl) dX5_init_15 (fun q2 cA H hKn hP hD hS => ?_)
  obtain rfl := cA_int hKn
  have hP : va_P D vwCl [(h0, .inr (4, [.int 0, .int 0, .int 0, .int 0, .int 0, .int 0, .int 0, .int 0, .int 0, .int 0, .ref q1, .null])), (q1, aZ tc 8), (q2, aZ tc 8)] H := hP
  have hD : va_D A [(h0, .inr (4, [.int 0, .int 0, .int 0, .int 0, .int 0, .int 0, .int 0, .int 0, .int 0, .int 0, .ref q1, .null])), (q1, aZ tc 8), (q2, aZ tc 8)] := hD
  refine va_putF (D := D) (ci := 4) (v := .ref q2) (ty := .array .int) (C := RX5) (T := TX5) (N := 12) hx hb hts cok4.2.2.2.1 tyX5 tyX5_ok nmX5 hown hK hP hD hS 0 rfl rfl 11 (by decide) (hts _ q112) (fun _ h9 => h9) rfl hin rfl (by decide +kernel) rfl rfl (Nat.le_of_ble_eq_true rfl) dX5_init_17 (fun H locs hP hD hS => ?_)
  have hP : va_P D vwCl [(h0, .inr (4, [.int 0, .int 0, .int 0, .int 0, .int 0, .int 0, .int 0, .int 0, .int 0, .int 0, .ref q1, .ref q2])), (q1, aZ tc 8), (q2, aZ tc 8)] H := hP
  have hD : va_D A [(h0, .inr (4, [.int 0, .int 0, .int 0, .int 0, .int 0, .int 0, .int 0, .int 0, .int 0, .int 0, .ref q1, .ref q2])), (q1, aZ tc 8), (q2, aZ tc 8)] := hD
  refine W.widen (k := 2) (n := 16) (Nat.le_of_ble_eq_true rfl) (Nat.le_of_ble_eq_true rfl) ?_
  exact W.vret hx hb hr (fun t ht hW => ⟨⟨(), rfl, trivial, q1, q2, by rw [ht]; exact hP, hD⟩, hS.F ht⟩) hS.2.2 dX5_init_20 hlk
def eX_X0 : va_E := .inr (0, [.int 0, .int 0, .int 0, .int 0, .int 0, .int 0, .int 0, .null])
def wX_X0 (tc : Tc) (h0 q1 : Nat) : va_W := [(h0, .inr (0, [.int 0, .int 0, .int 0, .int 0, .int 0, .int 0, .int 0, .ref q1])), (q1, aZ tc 96)]
def rmX_X0 : Room := { frames := 1, cells := 1, slots := 96, locals := 12 }
set_option maxHeartbeats 4000000 in
set_option maxRecDepth 100000 in
/-- Chronicle() -/
theorem c_X0_init (l : Launch) {D : va_G} {tc : Tc} (h0 sz : Nat) : Met l yX0_init (Cond.code yX0_init cX0_init 1 none :: tw) rmX_X0 (iPre D tc h0 sz eX_X0) (iQc (fun t => ∃ q1, va_P D vwCl (wX_X0 tc h0 q1) t.heap ∧ va_D (va_A [(h0, eX_X0)] sz) (wX_X0 tc h0 q1)) h0 sz eX_X0) 1 96 (va_A [(h0, eX_X0)] sz) := by
  refine mk_ini (own := RX0) (by decide +kernel) rfl rfl (by decide) ?_
  intro p e s m below meth c ls hx hb hml hown hts hKK hr hlk hin hsz hl hP
  subst hsz
  have hK := hKK.1
  unfold iQc
  generalize hAe : va_A [(h0, eX_X0)] s.heap.size = A
  have hA : ∀ q : Nat, s.heap.size ≤ q → A q := fun q h => by rw [← hAe]; exact Or.inr h
  have hD : va_D A [(h0, .inr (0, [.int 0, .int 0, .int 0, .int 0, .int 0, .int 0, .int 0, .null]))] := va_D1 (by rw [← hAe]; exact Or.inl ⟨0, eX_X0, rfl⟩)
  have hP : va_P D vwCl [(h0, .inr (0, [.int 0, .int 0, .int 0, .int 0, .int 0, .int 0, .int 0, .null]))] s.heap := hP
  have hS : va_S A s.heap s.heap [] := va_S.rf
  refine lv_aload_n hx hb dX0_init_0 rfl (lv_at hl 0 rfl) ?_
  refine W.objInit hx hb hown (hts _ q44) (hts _ q29) (hts _ q30) rfl (by rw [hml]; exact hl.1) rfl dX0_init_1 (Nat.le_of_ble_eq_true rfl) (Nat.le_of_ble_eq_true rfl) ?_
  refine W.eq (g2 := F0 m 4 ls []) rfl ?_
  refine lv_aload_n hx hb dX0_init_4 rfl (lv_at hl 0 rfl) ?_
  refine lv_bipush (v := 96) hx hb dX0_init_5 (by decide) ?_
  refine va_newa (atype := .int) (ty := .int) (N' := 96) (a0 := (96, .inl (fun _ => 0))) hx hb (hts _ q77) rfl hK hP hD hS hA (fun _ => rfl) (by decide) rfl (Nat.le_of_ble_eq_true rfl) (Nat.le_of_ble_eq_true rfl) (Nat.le_of_ble_eq_true rfl) dX0_init_7 (fun q1 cA H hKn hP hD hS => ?_)
  obtain rfl := cA_int hKn
  have hP : va_P D vwCl [(h0, .inr (0, [.int 0, .int 0, .int 0, .int 0, .int 0, .int 0, .int 0, .null])), (q1, aZ tc 96)] H := hP
  have hD : va_D A [(h0, .inr (0, [.int 0, .int 0, .int 0, .int 0, .int 0, .int 0, .int 0, .null])), (q1, aZ tc 96)] := hD
  refine va_putF (D := D) (ci := 0) (v := .ref q1) (ty := .array .int) (C := RX0) (T := TX0) (N := 8) hx hb hts cok0.2.2.2.1 tyX0 tyX0_ok nmX0 hown hK hP hD hS 0 rfl rfl 7 (by decide) (hts _ q59) (fun _ h9 => h9) rfl hin rfl (by decide +kernel) rfl rfl (Nat.le_of_ble_eq_true rfl) dX0_init_9 (fun H locs hP hD hS => ?_)
  have hP : va_P D vwCl [(h0, .inr (0, [.int 0, .int 0, .int 0, .int 0, .int 0, .int 0, .int 0, .ref q1])), (q1, aZ tc 96)] H := hP
  have hD : va_D A [(h0, .inr (0, [.int 0, .int 0, .int 0, .int 0, .int 0, .int 0, .int 0, .ref q1])), (q1, aZ tc 96)] := hD
  refine W.widen (k := 1) (n := 96) (Nat.le_of_ble_eq_true rfl) (Nat.le_of_ble_eq_true rfl) ?_
  exact W.vret hx hb hr (fun t ht hW => ⟨⟨(), rfl, trivial, q1, by rw [ht]; exact hP, hD⟩, hS.F ht⟩) hS.2.2 dX0_init_12 hlk
def eX_X1 : va_E := .inr (1, [.null, .null, .null, .int 0, .int 0])
def wX_X1 (tc : Tc) (h0 q1 q2 q3 : Nat) : va_W := [(h0, .inr (1, [.ref q1, .ref q2, .ref q3, .int 0, .int 0])), (q1, aZ tc 256), (q2, aZ tc 256), (q3, aZ tc 8)]
def rmX_X1 : Room := { frames := 1, cells := 3, slots := 520, locals := 12 }
set_option maxHeartbeats 4000000 in
set_option maxRecDepth 100000 in
/-- Coalition() -/
theorem c_X1_init (l : Launch) {D : va_G} {tc : Tc} (h0 sz : Nat) : Met l yX1_init (Cond.code yX1_init cX1_init 1 none :: tw) rmX_X1 (iPre D tc h0 sz eX_X1) (iQc (fun t => ∃ q1 q2 q3, va_P D vwCl (wX_X1 tc h0 q1 q2 q3) t.heap ∧ va_D (va_A [(h0, eX_X1)] sz) (wX_X1 tc h0 q1 q2 q3)) h0 sz eX_X1) 3 520 (va_A [(h0, eX_X1)] sz) := by
  refine mk_ini (own := RX1) (by decide +kernel) rfl rfl (by decide) ?_
  intro p e s m below meth c ls hx hb hml hown hts hKK hr hlk hin hsz hl hP
  subst hsz
  have hK := hKK.1
  unfold iQc
  generalize hAe : va_A [(h0, eX_X1)] s.heap.size = A
  have hA : ∀ q : Nat, s.heap.size ≤ q → A q := fun q h => by rw [← hAe]; exact Or.inr h
  have hD : va_D A [(h0, .inr (1, [.null, .null, .null, .int 0, .int 0]))] := va_D1 (by rw [← hAe]; exact Or.inl ⟨0, eX_X1, rfl⟩)
  have hP : va_P D vwCl [(h0, .inr (1, [.null, .null, .null, .int 0, .int 0]))] s.heap := hP
  have hS : va_S A s.heap s.heap [] := va_S.rf
  refine lv_aload_n hx hb dX1_init_0 rfl (lv_at hl 0 rfl) ?_
  refine W.objInit hx hb hown (hts _ q226) (hts _ q29) (hts _ q30) rfl (by rw [hml]; exact hl.1) rfl dX1_init_1 (Nat.le_of_ble_eq_true rfl) (Nat.le_of_ble_eq_true rfl) ?_
  refine W.eq (g2 := F0 m 4 ls []) rfl ?_
  refine lv_aload_n hx hb dX1_init_4 rfl (lv_at hl 0 rfl) ?_
  refine lv_sipush (v := 256) hx hb dX1_init_5 (by decide) ?_
  refine va_newa (atype := .int) (ty := .int) (N' := 256) (a0 := (256, .inl (fun _ => 0))) hx hb (hts _ q77) rfl hK hP hD hS hA (fun _ => rfl) (by decide) rfl (Nat.le_of_ble_eq_true rfl) (Nat.le_of_ble_eq_true rfl) (Nat.le_of_ble_eq_true rfl) dX1_init_8 (fun q1 cA H hKn hP hD hS => ?_)
  obtain rfl := cA_int hKn
  have hP : va_P D vwCl [(h0, .inr (1, [.null, .null, .null, .int 0, .int 0])), (q1, aZ tc 256)] H := hP
  have hD : va_D A [(h0, .inr (1, [.null, .null, .null, .int 0, .int 0])), (q1, aZ tc 256)] := hD
  refine va_putF (D := D) (ci := 1) (v := .ref q1) (ty := .array .int) (C := RX1) (T := TX1) (N := 5) hx hb hts cok1.2.2.2.1 tyX1 tyX1_ok nmX1 hown hK hP hD hS 0 rfl rfl 0 (by decide) (hts _ q227) (fun _ h9 => h9) rfl hin rfl (by decide +kernel) rfl rfl (Nat.le_of_ble_eq_true rfl) dX1_init_10 (fun H locs hP hD hS => ?_)
  have hP : va_P D vwCl [(h0, .inr (1, [.ref q1, .null, .null, .int 0, .int 0])), (q1, aZ tc 256)] H := hP
  have hD : va_D A [(h0, .inr (1, [.ref q1, .null, .null, .int 0, .int 0])), (q1, aZ tc 256)] := hD
  refine lv_aload_n hx hb dX1_init_13 rfl (lv_at hl 0 rfl) ?_
  refine lv_sipush (v := 256) hx hb dX1_init_14 (by decide) ?_
  refine va_newa (atype := .int) (ty := .int) (N' := 256) (a0 := (256, .inl (fun _ => 0))) hx hb (hts _ q77) rfl hK hP hD hS hA (fun _ => rfl) (by decide) rfl (Nat.le_of_ble_eq_true rfl) (Nat.le_of_ble_eq_true rfl) (Nat.le_of_ble_eq_true rfl) dX1_init_17 (fun q2 cA H hKn hP hD hS => ?_)
  obtain rfl := cA_int hKn
  have hP : va_P D vwCl [(h0, .inr (1, [.ref q1, .null, .null, .int 0, .int 0])), (q1, aZ tc 256), (q2, aZ tc 256)] H := hP
  have hD : va_D A [(h0, .inr (1, [.ref q1, .null, .null, .int 0, .int 0])), (q1, aZ tc 256), (q2, aZ tc 256)] := hD
  refine va_putF (D := D) (ci := 1) (v := .ref q2) (ty := .array .int) (C := RX1) (T := TX1) (N := 5) hx hb hts cok1.2.2.2.1 tyX1 tyX1_ok nmX1 hown hK hP hD hS 0 rfl rfl 1 (by decide) (hts _ q228) (fun _ h9 => h9) rfl hin rfl (by decide +kernel) rfl rfl (Nat.le_of_ble_eq_true rfl) dX1_init_19 (fun H locs hP hD hS => ?_)
  have hP : va_P D vwCl [(h0, .inr (1, [.ref q1, .ref q2, .null, .int 0, .int 0])), (q1, aZ tc 256), (q2, aZ tc 256)] H := hP
  have hD : va_D A [(h0, .inr (1, [.ref q1, .ref q2, .null, .int 0, .int 0])), (q1, aZ tc 256), (q2, aZ tc 256)] := hD
  refine lv_aload_n hx hb dX1_init_22 rfl (lv_at hl 0 rfl) ?_
  refine lv_bipush (v := 8) hx hb dX1_init_23 (by decide) ?_
  refine va_newa (atype := .int) (ty := .int) (N' := 8) (a0 := (8, .inl (fun _ => 0))) hx hb (hts _ q77) rfl hK hP hD hS hA (fun _ => rfl) (by decide) rfl (Nat.le_of_ble_eq_true rfl) (Nat.le_of_ble_eq_true rfl) (Nat.le_of_ble_eq_true rfl) dX1_init_25 (fun q3 cA H hKn hP hD hS => ?_)
  obtain rfl := cA_int hKn
  have hP : va_P D vwCl [(h0, .inr (1, [.ref q1, .ref q2, .null, .int 0, .int 0])), (q1, aZ tc 256), (q2, aZ tc 256), (q3, aZ tc 8)] H := hP
  have hD : va_D A [(h0, .inr (1, [.ref q1, .ref q2, .null, .int 0, .int 0])), (q1, aZ tc 256), (q2, aZ tc 256), (q3, aZ tc 8)] := hD
  refine va_putF (D := D) (ci := 1) (v := .ref q3) (ty := .array .int) (C := RX1) (T := TX1) (N := 5) hx hb hts cok1.2.2.2.1 tyX1 tyX1_ok nmX1 hown hK hP hD hS 0 rfl rfl 2 (by decide) (hts _ q229) (fun _ h9 => h9) rfl hin rfl (by decide +kernel) rfl rfl (Nat.le_of_ble_eq_true rfl) dX1_init_27 (fun H locs hP hD hS => ?_)
  have hP : va_P D vwCl [(h0, .inr (1, [.ref q1, .ref q2, .ref q3, .int 0, .int 0])), (q1, aZ tc 256), (q2, aZ tc 256), (q3, aZ tc 8)] H := hP
  have hD : va_D A [(h0, .inr (1, [.ref q1, .ref q2, .ref q3, .int 0, .int 0])), (q1, aZ tc 256), (q2, aZ tc 256), (q3, aZ tc 8)] := hD
  refine W.widen (k := 3) (n := 520) (Nat.le_of_ble_eq_true rfl) (Nat.le_of_ble_eq_true rfl) ?_
  exact W.vret hx hb hr (fun t ht hW => ⟨⟨(), rfl, trivial, q1, q2, q3, by rw [ht]; exact hP, hD⟩, hS.F ht⟩) hS.2.2 dX1_init_30 hlk
