/-! the law's calls: rows as j_ ones, with cells and slots made before -/
section
variable {p : Program} {l : Launch} {e : Env} {R : Room} {s : State} {m : MethodId} {args : Array Value} {below : List Frame} {meth : Method} {c : Code} {H : Heap} {locs : List Loc} {Q : State → Prop}
variable {cc : ByteArray} {pc nL : Nat} {ls : Array Slot} {rest st0 : List Value} {D : va_G} {tc : Tc} {ad : Nat → Nat} {A : Nat → Prop} {own : String} {J J' : St} {K S : Nat}
variable {y : MethodName} {cc' : ByteArray} {n' k idx : Nat} {ret : Option FieldType} {rm : Room} {vals : List Value} {Qc : Array Value → State → Outcome → State → Prop}
theorem k_runV (hX : cx p s m args c cc nL own D tc ad A) (hP : va_P D vwCl (wl tc ad J) H) (hsz : ls.size = nL) {C : String} (Y : yv y cc' n' ret k C) {ci N o : Nat} {T : u_T} (hC : cok ci C T N) (ho : o < 157) (hkd : kd o = ci) (hM : Met l y (Cond.code y cc' n' ret :: tw) rm (pre D tc ad (.ref (ad o) :: vals) J) Qc 0 0 A) (hrm : rm.cells = 0 ∧ rm.slots = 0) (hq : Cond.methodLink own idx y ∈ tw) (hR : rm.frames + 1 ≤ R.frames ∧ 8 + (n' + 11) + rm.locals ≤ R.locals) (hlen : vals.length = k) (hst : st0 = vals.reverse ++ .ref (ad o) :: rest) (hw : (rest.map fun v => v.category).sum ≤ 8) (hKS : K ≤ R.cells ∧ S ≤ R.slots) (hd : decode cc pc = .ok (.invokevirtual idx, 3)) :
    va_Run p l e R s m args below meth c H locs K S 0 0 (F0 m pc ls st0) rest (Qc (Value.ref (ad o) :: vals).toArray) A := by
  obtain ⟨hx, hb, hml, hown, hts, hK, hA⟩ := hX
  obtain ⟨y1, y2, y3, y4, y5⟩ := Y
  obtain ⟨c1, c2, c3, -⟩ := hC
  refine va_runV (As := vals) (rest := rest) (C := C) (b := ad o) ⟨hx, hb, hml, hown, hts⟩ hM (cwV k hts (goodIn_tw ?_) rfl hrm.1 hrm.2 y5 hR) ⟨pre_blind, va_recv (q := (C, T, N)) hK.1 hP c1 (q0 := o) ((wl_at ho).trans (by rw [cel_obj hkd c3])), fun U hU hW => ⟨rfl, by rw [hU]; exact hP, kk_warm hK hW⟩⟩ rfl hlen hsz hst (lv_room hw) hd hKS
  intro w hw
  rcases List.mem_append.mp hw with h | h
  · simp only [List.mem_cons, List.not_mem_nil, or_false] at h
    rcases h with rfl | rfl | rfl | rfl
    · exact hq
    · exact y2
    · exact y3
    · exact y4
  · exact good_cons y1 w h
theorem k_i {a : Array Value} {r : Int32} (hr : va_Run p l e R s m args below meth c H locs K S 0 0 (F0 m pc ls st0) rest (qi D tc ad A r J' a) A) (hS : va_S A s.heap H locs)
    (kk : ∀ (H1 : Heap) (locs1 : List Loc), va_P D vwCl (wl tc ad J') H1 → va_S A s.heap H1 locs1 → W p l e R s m args below meth c H1 locs1 K S Q (F0 m (pc + 3) ls (.int r :: rest))) : W p l e R s m args below meth c H locs K S Q (F0 m pc ls st0) :=
  va_calli hr hS (fun _ _ h => h) (fun _ h => h) fun x u t H1 locs1 ht _ hw hB _ _ hS1 => by
    subst hw
    rw [ht] at hB
    exact kk H1 locs1 hB hS1
theorem k_l {a : Array Value} {r : Int64} (hr : va_Run p l e R s m args below meth c H locs K S 0 0 (F0 m pc ls st0) rest (ql D tc ad A r J' a) A) (hS : va_S A s.heap H locs)
    (kk : ∀ (H1 : Heap) (locs1 : List Loc), va_P D vwCl (wl tc ad J') H1 → va_S A s.heap H1 locs1 → W p l e R s m args below meth c H1 locs1 K S Q (F0 m (pc + 3) ls (.long r :: rest))) : W p l e R s m args below meth c H locs K S Q (F0 m pc ls st0) :=
  va_calll hr hS (fun _ _ h => h) (fun _ h => h) fun x u t H1 locs1 ht _ hw hB _ _ hS1 => by
    subst hw
    rw [ht] at hB
    exact kk H1 locs1 hB hS1
/-- what stays during the law -/
def LX (p : Program) (s : State) (m : MethodId) (c : Code) (b L : Nat) (xs : Nat → Int32) (D : va_G) (tc : Tc) (ad : Nat → Nat) (K S : Nat) : Prop := cx p s m #[Value.ref b] c cL_law 4 RL D tc ad (fun q : Nat => s.heap.size ≤ q) ∧ va_X b L xs s s.heap ∧ b < s.heap.size ∧ L < 2 ^ 31 ∧ (K ≤ room_1.cells ∧ S ≤ room_1.slots)
/-- a case of the law, from its first instruction: the two answers are equal, what comes behind goes on -/
def CS (p : Program) (l : Launch) (e : Env) (s : State) (m : MethodId) (below : List Frame) (meth : Method) (c : Code) (b L : Nat) (xs : Nat → Int32) (D : va_G) (tc : Tc) (ad : Nat → Nat) (K S : Nat) (Q : State → Prop) (pc : Nat) : Prop :=
  ∀ (n i : Nat) (I M : St) (H : Heap) (locs : List Loc) (ls : Array Slot), lv_has ls 4 [(0, .ref b), (1, .ref (ad 145)), (2, .ref (ad 152)), (3, .int (nI i))] → i + 5 ≤ L → n < 2 ^ 30 → RR n I M → va_P D vwCl (wl tc ad (cmb I M)) H → va_S (fun q : Nat => s.heap.size ≤ q) s.heap H locs → (∀ (n' : Nat) (I M : St) (H : Heap) (locs : List Loc), n' ≤ n + 1 → RR n' I M → va_P D vwCl (wl tc ad (cmb I M)) H → va_S (fun q : Nat => s.heap.size ≤ q) s.heap H locs → W p l e room_1 s m #[Value.ref b] below meth c H locs K S Q (F0 m 1252 ls [])) → W p l e room_1 s m #[Value.ref b] below meth c H locs K S Q (F0 m pc ls [])
theorem k_cmp (r : Int64) : lg_cmp r r = 0 := by simp [lg_cmp]
theorem k_arg {b L : Nat} {xs : Nat → Int32} (X : LX p s m c b L xs D tc ad K S) {i : Nat} (hl : lv_has ls 4 [(0, .ref b), (1, .ref (ad 145)), (2, .ref (ad 152)), (3, .int (nI i))]) (hS : va_S (fun q : Nat => s.heap.size ≤ q) s.heap H locs) (k : Nat) {kz : Int} (hz : Int32.ofInt kz = nI k) (hi : i + k < L) (d0 : decode cL_law pc = .ok (.aload_n 0, 1)) (d1 : decode cL_law (pc + 1) = .ok (.iload_n 3, 1)) (d2 : decode cL_law (pc + 2) = .ok (.iconst kz, 1)) (d3 : decode cL_law (pc + 3) = .ok (.iadd, 1)) (d4 : decode cL_law (pc + 4) = .ok (.iaload, 1))
    (kk : W p l e room_1 s m #[Value.ref b] below meth c H locs K S Q (F0 m (pc + 5) ls (.int (xs (i + k)) :: rest))) : W p l e room_1 s m #[Value.ref b] below meth c H locs K S Q (F0 m pc ls rest) := by
  obtain ⟨hX, hsc, hbl, hL, -⟩ := X
  have hx := hX.1
  have hb := hX.2.1
  refine lv_aload_n hx hb d0 rfl (lv_at hl 0 rfl) ?_
  refine lv_iload_n hx hb d1 rfl (lv_at hl 3 rfl) ?_
  refine lv_iconst (v := nI k) hx hb d2 hz ?_
  refine lv_iadd hx hb d3 ?_
  rw [nI_add]
  have e1 : (nI (i + k)).toNatClampNeg = i + k := nI_clamp (by omega)
  refine va_sld (A := fun q : Nat => s.heap.size ≤ q) hx hb hsc hbl (Nat.not_le.mpr hbl) hS (vp_in_nI hi hL) d4 ?_
  rw [e1]
  exact kk
end
