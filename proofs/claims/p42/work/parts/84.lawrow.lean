/-! the law's calls: rows as j_ ones, with cells and slots made before -/
section
variable {p : Program} {l : Launch} {e : Env} {R : Room} {s : State} {m : MethodId} {args : Array Value} {below : List Frame} {meth : Method} {c : Code} {H : Heap} {locs : List Loc} {Q : State → Prop}
variable {cc : ByteArray} {pc nL : Nat} {ls : Array Slot} {rest st0 : List Value} {D : va_G} {tc : Tc} {ad : Nat → Nat} {A : Nat → Prop} {own : String} {J J' : St} {K S : Nat}
variable {y : MethodName} {cc' : ByteArray} {n' k idx : Nat} {ret : Option FieldType} {rm : Room} {vals : List Value} {Qc : Array Value → State → Outcome → State → Prop}
theorem k_runV (hX : cx p s m args c cc nL own D tc ad A) (hP : va_P D vwCl (wl tc ad J) H) (hsz : ls.size = nL) {C : String} (Y : yv y cc' n' ret k C) {ci N o : Nat} {T : u_T} (hC : cok ci C T N) (ho : o < 152) (hkd : kd o = ci) (hM : Met l y (Cond.code y cc' n' ret :: tw) rm (pre D tc ad (.ref (ad o) :: vals) J) Qc 0 0 A) (hrm : rm.cells = 0 ∧ rm.slots = 0) (hq : Cond.methodLink own idx y ∈ tw) (hR : rm.frames + 1 ≤ R.frames ∧ 8 + (n' + 11) + rm.locals ≤ R.locals) (hlen : vals.length = k) (hst : st0 = vals.reverse ++ .ref (ad o) :: rest) (hw : (rest.map fun v => v.category).sum ≤ 8) (hKS : K ≤ R.cells ∧ S ≤ R.slots) (hd : decode cc pc = .ok (.invokevirtual idx, 3)) :
    va_Run p l e R s m args below meth c H locs K S 0 0 (F0 m pc ls st0) rest (Qc (Value.ref (ad o) :: vals).toArray) A := by
  obtain ⟨hx, hb, hml, hown, hts, hK, hA⟩ := hX
  obtain ⟨y1, y2, y3, y4, y5⟩ := Y
  obtain ⟨c1, c2, c3, -⟩ := hC
  refine va_runV (As := vals) (rest := rest) (C := C) (b := ad o) ⟨hx, hb, hml, hown, hts⟩ hM (cwV k hts (goodIn_tw ?_) rfl hrm.1 hrm.2 y5 hR) ⟨pre_blind, va_recv (q := (C, T, N)) hK.1 hP c1 (q0 := o) ((wl_at ho).trans (by rw [cel_obj hkd c3])), fun U hU hW => ⟨rfl, by rw [hU]; exact hP, kk_warm hK hW⟩⟩ rfl hlen hsz hst (lv_room hw) hd hKS
  intro w hw
  rcases List.mem_append.mp hw with h | h
  · simp only [List.mem_cons, List.not_mem_nil, or_false] at h
    rcases h with rfl | rfl | rfl | rfl
    · exact hq
    · exact y2
    · exact y3
    · exact y4
  · exact good_cons y1 w h
theorem k_i {a : Array Value} {r : Int32} (hr : va_Run p l e R s m args below meth c H locs K S 0 0 (F0 m pc ls st0) rest (qi D tc ad A r J' a) A) (hS : va_S A s.heap H locs)
    (kk : ∀ (H1 : Heap) (locs1 : List Loc), va_P D vwCl (wl tc ad J') H1 → va_S A s.heap H1 locs1 → W p l e R s m args below meth c H1 locs1 K S Q (F0 m (pc + 3) ls (.int r :: rest))) : W p l e R s m args below meth c H locs K S Q (F0 m pc ls st0) :=
  va_calli hr hS (fun _ _ h => h) (fun _ h => h) fun x u t H1 locs1 ht _ hw hB _ _ hS1 => by
    subst hw
    rw [ht] at hB
    exact kk H1 locs1 hB hS1
theorem k_l {a : Array Value} {r : Int64} (hr : va_Run p l e R s m args below meth c H locs K S 0 0 (F0 m pc ls st0) rest (ql D tc ad A r J' a) A) (hS : va_S A s.heap H locs)
    (kk : ∀ (H1 : Heap) (locs1 : List Loc), va_P D vwCl (wl tc ad J') H1 → va_S A s.heap H1 locs1 → W p l e R s m args below meth c H1 locs1 K S Q (F0 m (pc + 3) ls (.long r :: rest))) : W p l e R s m args below meth c H locs K S Q (F0 m pc ls st0) :=
  va_calll hr hS (fun _ _ h => h) (fun _ h => h) fun x u t H1 locs1 ht _ hw hB _ _ hS1 => by
    subst hw
    rw [ht] at hB
    exact kk H1 locs1 hB hS1
theorem k_runS (hX : cx p s m args c cc nL own D tc ad A) (hP : va_P D vwCl (wl tc ad J) H) (hsz : ls.size = nL) (Y : ys y cc' n' ret k) (hM : Met l y (Cond.code y cc' n' ret :: tw) rm (pre D tc ad vals J) Qc 0 0 A) (hrm : rm.cells = 0 ∧ rm.slots = 0) (hq : Cond.methodLink own idx y ∈ tw) (hR : rm.frames + 1 ≤ R.frames ∧ 8 + (n' + 11) + rm.locals ≤ R.locals) (hlen : vals.length = k) (hst : st0 = vals.reverse ++ rest) (hw : (rest.map fun v => v.category).sum ≤ 8) (hKS : K ≤ R.cells ∧ S ≤ R.slots) (hd : decode cc pc = .ok (.invokestatic idx, 3)) :
    va_Run p l e R s m args below meth c H locs K S 0 0 (F0 m pc ls st0) rest (Qc vals.toArray) A := by
  obtain ⟨hx, hb, hml, hown, hts, hK, hA⟩ := hX
  obtain ⟨y1, y2, y3, y4⟩ := Y
  refine va_runS (As := vals) (rest := rest) ⟨hx, hb, hml, hown, hts⟩ hM (va_cwS k hts (goodIn_tw ?_) rfl hrm.1 hrm.2 y4 hR) ⟨pre_blind, fun U hU hW => ⟨rfl, by rw [hU]; exact hP, kk_warm hK hW⟩⟩ rfl hlen hsz hst (lv_room hw) hd hKS
  intro w hw
  rcases List.mem_append.mp hw with h | h
  · simp only [List.mem_cons, List.not_mem_nil, or_false] at h
    rcases h with rfl | rfl | rfl
    · exact hq
    · exact y2
    · exact y3
  · exact good_cons y1 w h
/-! cell: any number comes back -/
def rm_L_cell : Room := { frames := 0, cells := 0, slots := 0, locals := 0 }
theorem Y_L_cell : ys yL_cell cL_cell 2 (some .int) 2 := ⟨q300, q299, q11, by decide +kernel⟩
def pcX (b L : Nat) (xs : Nat → Int32) (k : Nat) : Array Value → State → Prop := va_Pc [.ref b, .int (nI k)] (fun U => va_X b L xs U U.heap ∧ b < U.heap.size)
def qcX : Array Value → State → Outcome → State → Prop := va_Qi (fun (_ : Int32) (_ : Unit) => True) (fun _ _ => True) (fun _ => False)
theorem pcX_blind {b L k : Nat} {xs : Nat → Int32} : FrameBlind (pcX b L xs k) := by
  intro a U g mk h
  exact ⟨h.1, h.2.1.moved (Vm.Alike.refl _), h.2.2⟩
set_option maxHeartbeats 4000000 in
set_option maxRecDepth 100000 in
theorem c_L_cell {l : Launch} {b L k : Nat} {xs : Nat → Int32} (hL : L < 2 ^ 31) (hk : k < 2 ^ 31) : Met l yL_cell (Cond.code yL_cell cL_cell 2 (some .int) :: tw) rm_L_cell (pcX b L xs k) qcX 0 0 (fun _ => False) := by
  refine Met.ofW (cc := cL_cell) (maxL := 2) (ret := some .int) (by decide +kernel) rfl ?_
  intro p e s m args below meth c s₁ B hml hv
  obtain ⟨rfl, hsc, hbl⟩ := hv
  have hts0 := atoms_spec (ws := Cond.code yL_cell cL_cell 2 (some .int) :: tw) B.pre
  have hts : ∀ w ∈ tw, w.before #[Value.ref b, .int (nI k)] s = true := fun w hw => hts0 w (List.mem_cons_of_mem _ hw)
  have hl := lv_entry ([Value.ref b, .int (nI k)]) (n := 2) (Nat.le_of_ble_eq_true rfl)
  rw [lg_entry_eq]
  have hx := B.exec
  have hb : c.code = cL_cell := B.bytes
  have hown : s.vm.findClass RL = some m.cls := findClass_of_methodNamed B.named
  have hS : va_S (fun _ : Nat => False) s.heap s.heap [] := va_S.rf
  generalize (lg_sl ([Value.ref b, .int (nI k)]) ++ List.replicate (2 - (lg_sl ([Value.ref b, .int (nI k)])).length) Slot.unset).toArray = ls at hl ⊢
  have hl : lv_has ls 2 [(0, .ref b), (1, .int (nI k))] := hl
  have fin : ∀ v : Int32, W p l e rm_L_cell s m #[Value.ref b, .int (nI k)] below meth c s.heap [] 0 0 (MQ below qcX #[Value.ref b, .int (nI k)] s 0 0 (fun _ => False)) (F0 m 18 ls [.int v]) := fun v =>
    W.iret (v := v) hx hb B.returns (fun t ht hW => ⟨⟨v, (), rfl, trivial, trivial⟩, hS.F ht⟩) hS.2.2 dL_cell_18 B.notSynchronized
  refine lv_iload_n hx hb dL_cell_0 rfl (lv_at hl 1 rfl) ?_
  refine lv_aload_n hx hb dL_cell_1 rfl (lv_at hl 0 rfl) ?_
  refine va_slen (A := fun _ : Nat => False) hx hb hsc hbl id hS dL_cell_2 ?_
  refine lv_icmp_ge (tgt := 12) hx hb dL_cell_3 (by decide) (fun _ => ?_) (fun q => ?_)
  · refine lv_ldc (v := 763049417) hx hb hown (hts _ q301) dL_cell_12 ?_
    refine lv_iload_n hx hb dL_cell_14 rfl (lv_at hl 1 rfl) ?_
    refine lv_iconst (v := 3) hx hb dL_cell_15 kc_i3 ?_
    refine lv_iadd hx hb dL_cell_16 ?_
    refine lv_imul hx hb dL_cell_17 ?_
    exact fin _
  · have hkL : k < L := Nat.lt_of_not_le fun z => q (nI_le z hk)
    refine lv_aload_n hx hb dL_cell_6 rfl (lv_at hl 0 rfl) ?_
    refine lv_iload_n hx hb dL_cell_7 rfl (lv_at hl 1 rfl) ?_
    refine va_sld (A := fun _ : Nat => False) hx hb hsc hbl id hS (vp_in_nI hkL hL) dL_cell_8 ?_
    refine lv_goto (tgt := 18) hx hb dL_cell_9 (by decide) ?_
    exact fin _
end
/-- what stays during the law -/
def LX (p : Program) (s : State) (m : MethodId) (c : Code) (b L : Nat) (xs : Nat → Int32) (D : va_G) (tc : Tc) (ad : Nat → Nat) (K S : Nat) : Prop := cx p s m #[Value.ref b] c cL_law 8 RL D tc ad (fun q : Nat => s.heap.size ≤ q) ∧ va_X b L xs s s.heap ∧ b < s.heap.size ∧ L < 2 ^ 31 ∧ (K ≤ room_1.cells ∧ S ≤ room_1.slots)
section
variable {p : Program} {l : Launch} {e : Env} {s : State} {m : MethodId} {below : List Frame} {meth : Method} {c : Code} {b L : Nat} {xs : Nat → Int32} {D : va_G} {tc : Tc} {ad : Nat → Nat} {K S : Nat} {Q : State → Prop} {H : Heap} {locs : List Loc} {ls : Array Slot} {rest : List Value} {pc : Nat} {J J' : St}
set_option maxHeartbeats 4000000 in
theorem k_cell (X : LX p s m c b L xs D tc ad K S) {k : Nat} (hk : k < 2 ^ 31) (hP : va_P D vwCl (wl tc ad J) H) (hS : va_S (fun q : Nat => s.heap.size ≤ q) s.heap H locs) (hsz : ls.size = 8) (hw : (rest.map fun v => v.category).sum ≤ 8) (hd : decode cL_law pc = .ok (.invokestatic 136, 3))
    (kk : ∀ (x : Int32) (H1 : Heap) (locs1 : List Loc), va_P D vwCl (wl tc ad J) H1 → va_S (fun q : Nat => s.heap.size ≤ q) s.heap H1 locs1 → W p l e room_1 s m #[Value.ref b] below meth c H1 locs1 K S Q (F0 m (pc + 3) ls (.int x :: rest))) : W p l e room_1 s m #[Value.ref b] below meth c H locs K S Q (F0 m pc ls (.int (nI k) :: .ref b :: rest)) := by
  obtain ⟨⟨hx, hb, hml, hown, hts, hKK, hA⟩, hsc, hbl, hL, hKS⟩ := X
  obtain ⟨y1, y2, y3, y4⟩ := Y_L_cell
  have hH : va_X b L xs s H := hsc.kept (hS.2.1 b hbl (Nat.not_le.mpr hbl))
  have hbH : b < H.size := Nat.lt_of_lt_of_le hbl hS.1
  have hr : va_Run p l e room_1 s m #[Value.ref b] below meth c H locs K S 0 0 (F0 m pc ls (.int (nI k) :: .ref b :: rest)) rest (qcX ([Value.ref b, .int (nI k)] : List Value).toArray) (fun _ => False) := by
    refine va_runS (As := [.ref b, .int (nI k)]) (rest := rest) ⟨hx, hb, hml, hown, hts⟩ (c_L_cell (L := L) (xs := xs) (k := k) hL hk) (va_cwS 2 hts (goodIn_tw ?_) rfl rfl rfl y4 ⟨Nat.le_of_ble_eq_true rfl, Nat.le_of_ble_eq_true rfl⟩) ⟨pcX_blind, fun U hU hW => ⟨rfl, by rw [hU]; exact hH.moved hW.alike, by rw [hU]; exact hbH⟩⟩ rfl rfl hsz rfl (lv_room hw) hd hKS
    intro w hw
    rcases List.mem_append.mp hw with h | h
    · simp only [List.mem_cons, List.not_mem_nil, or_false] at h
      rcases h with rfl | rfl | rfl
      · exact q298
      · exact y2
      · exact y3
    · exact good_cons y1 w h
  refine va_calli hr hS (fun _ _ h => h.elim) (fun _ h => h.elim) (fun x u t H1 locs1 ht _ _ _ _ hq hS1 => ?_)
  exact kk x H1 locs1 (fun i y hy => (hP i y hy).kept (hq y.1 (hP i y hy).lt id)) hS1
theorem k_up (X : LX p s m c b L xs D tc ad K S) {v y : Int32} {j : Nat} (e1 : f_L_up v y = some (nI j)) (hP : va_P D vwCl (wl tc ad J) H) (hS : va_S (fun q : Nat => s.heap.size ≤ q) s.heap H locs) (hsz : ls.size = 8) (hw : (rest.map fun v => v.category).sum ≤ 8) (hd : decode cL_law pc = .ok (.invokestatic 109, 3))
    (kk : ∀ (H1 : Heap) (locs1 : List Loc), va_P D vwCl (wl tc ad J) H1 → va_S (fun q : Nat => s.heap.size ≤ q) s.heap H1 locs1 → W p l e room_1 s m #[Value.ref b] below meth c H1 locs1 K S Q (F0 m (pc + 3) ls (.int (nI j) :: rest))) : W p l e room_1 s m #[Value.ref b] below meth c H locs K S Q (F0 m pc ls (.int y :: .int v :: rest)) := by
  have hA := X.1.2.2.2.2.2.2
  exact k_i (k_runS (vals := [.int v, .int y]) (rest := rest) X.1 hP hsz Y_L_up (c_L_up (J := J) hA e1) ⟨rfl, rfl⟩ q302 ⟨Nat.le_of_ble_eq_true rfl, Nat.le_of_ble_eq_true rfl⟩ rfl rfl hw X.2.2.2.2 hd) hS kk
end
