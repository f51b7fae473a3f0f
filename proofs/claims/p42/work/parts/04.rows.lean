abbrev St : Type := Nat → Nat → Int32
abbrev Tc : Type := ClassId × ClassId × ClassId
def kl (j : Nat) : Nat := if j = 0 then 3 else if j = 1 then 9 else if j = 2 then 7 else if j = 3 then 0 else if j = 4 then 7 else if j < 13 then 4 else 7
def km (j : Nat) : Nat := if j = 0 then 5 else if j = 1 then 2 else if j = 2 then 8 else if j = 3 then 1 else if j = 7 then 6 else 7
/-- the kind of the object of number o: its class's place in vwCl, 7 an int row, 8 a row of Lab, 9 a row of Person -/
def kd (o : Nat) : Nat := if o < 145 then kl (o % 29) else km (o - 145)
def ln (o : Nat) : Nat := if o < 145 then (if o % 29 = 4 then 96 else 8) else if o = 147 then 4 else if o = 149 then 256 else if o = 150 then 256 else if o = 151 then 8 else if o = 153 then 420 else if o = 154 then 1680 else if o = 155 then 8 else 256
def nf (c : Nat) : Nat := match c with | 0 => 8 | 1 => 5 | 2 => 2 | 3 => 14 | 4 => 12 | 5 => 3 | _ => 7
def rt (c k o : Nat) : Option Nat := match c, k with
  | 0, 7 => some (o + 1)
  | 1, 0 => some (o + 1)
  | 1, 1 => some (o + 2)
  | 1, 2 => some (o + 3)
  | 2, 0 => some (o + 1)
  | 3, 0 => some (o + 1)
  | 3, 1 => some (o + 2)
  | 3, 2 => some (o + 3)
  | 4, 10 => some (o + 8)
  | 4, 11 => some (o + 16)
  | 5, 0 => some 0
  | 5, 1 => some 146
  | 5, 2 => some 148
  | _, _ => none
def fv (ad : Nat → Nat) (f : Nat → Int32) (c o k : Nat) : Value := match rt c k o with
  | none => .int (f k)
  | some t => .ref (ad t)
def cel (tc : Tc) (ad : Nat → Nat) (f : Nat → Int32) (o : Nat) : va_E :=
  if kd o < 7 then .inr (kd o, (List.range (nf (kd o))).map (fv ad f (kd o) o))
  else if kd o = 7 then .inl (tc.1, ln o, .inl f)
  else if kd o = 8 then .inl (tc.2.1, ln o, .inr (.inr (.inr (.inr (fun k => some (ad (29 * (f k).toNatClampNeg)))))))
  else .inl (tc.2.2, ln o, .inr (.inr (.inr (.inr (fun k => some (ad (o + 4 + k)))))))
def wl (tc : Tc) (ad : Nat → Nat) (J : St) : va_W := (List.range 152).map fun o => (ad o, cel tc ad (J o) o)
def ur (J : St) (o : Nat) (f : Nat → Int32) : St := fun q => if q = o then f else J q
def u2 (J : St) (o k : Nat) (x : Int32) : St := ur J o (upd (J o) k x)
def cmb (I M : St) : St := I
def adok (ad : Nat → Nat) (A : Nat → Prop) : Prop := (∀ i j, i < 152 → j < 152 → ad i = ad j → i = j) ∧ ∀ o, o < 152 → A (ad o)
theorem cmb_lt {I M : St} {o : Nat} (h : o < 152) : cmb I M o = I o := rfl
theorem ur_lt {I M : St} {o : Nat} {f : Nat → Int32} (h : o < 152) : ur (cmb I M) o f = cmb (ur I o f) M := rfl
theorem wl_at {tc : Tc} {ad : Nat → Nat} {J : St} {o : Nat} (h : o < 152) : (wl tc ad J)[o]? = some (ad o, cel tc ad (J o) o) := by
  simp [wl, List.getElem?_map, List.getElem?_range h]
theorem wl_len {tc : Tc} {ad : Nat → Nat} {J : St} : (wl tc ad J).length = 152 := by simp [wl]
theorem wl_inv {tc : Tc} {ad : Nat → Nat} {J : St} {o : Nat} {q : Nat × va_E} (h : (wl tc ad J)[o]? = some q) : o < 152 ∧ q = (ad o, cel tc ad (J o) o) := by
  have h1 : o < 152 := by
    have := (List.getElem?_eq_some_iff.mp h).1
    rwa [wl_len] at this
  rw [wl_at h1] at h
  exact ⟨h1, (Option.some.inj h).symm⟩
theorem wl_set {tc : Tc} {ad : Nat → Nat} {J : St} {o : Nat} {f : Nat → Int32} (h : o < 152) : (wl tc ad J).set o (ad o, cel tc ad f o) = wl tc ad (ur J o f) := by
  apply List.ext_getElem?
  intro k
  by_cases hk : k = o
  · subst hk
    rw [List.getElem?_set_self (by rw [wl_len]; exact h), wl_at h]
    simp [ur]
  · rw [List.getElem?_set_ne (Ne.symm hk)]
    by_cases hk2 : k < 152
    · rw [wl_at hk2, wl_at hk2]
      simp [ur, hk]
    · rw [List.getElem?_eq_none (by rw [wl_len]; omega), List.getElem?_eq_none (by rw [wl_len]; omega)]
theorem wl_D {tc : Tc} {ad : Nat → Nat} {A : Nat → Prop} {J : St} (h : adok ad A) : va_D A (wl tc ad J) := by
  refine ⟨fun i j p q hi hj hpq => ?_, fun k q hk => ?_⟩
  · obtain ⟨i1, rfl⟩ := wl_inv hi
    obtain ⟨j1, rfl⟩ := wl_inv hj
    exact h.1 i j i1 j1 hpq
  · obtain ⟨k1, rfl⟩ := wl_inv hk
    exact h.2 k k1
theorem cel_obj {tc : Tc} {ad : Nat → Nat} {f : Nat → Int32} {o ci : Nat} (h : kd o = ci) (h2 : ci < 7) : cel tc ad f o = .inr (ci, (List.range (nf ci)).map (fv ad f ci o)) := by
  subst h
  exact if_pos h2
theorem cel_int {tc : Tc} {ad : Nat → Nat} {f : Nat → Int32} {o : Nat} (h : kd o = 7) : cel tc ad f o = .inl (tc.1, ln o, .inl f) := by
  unfold cel
  rw [h]
  rfl
theorem cel_lab {tc : Tc} {ad : Nat → Nat} {f : Nat → Int32} {o : Nat} (h : kd o = 8) : cel tc ad f o = .inl (tc.2.1, ln o, .inr (.inr (.inr (.inr (fun k => some (ad (29 * (f k).toNatClampNeg))))))) := by
  unfold cel
  rw [h]
  rfl
theorem cel_per {tc : Tc} {ad : Nat → Nat} {f : Nat → Int32} {o : Nat} (h : kd o = 9) : cel tc ad f o = .inl (tc.2.2, ln o, .inr (.inr (.inr (.inr (fun k => some (ad (o + 4 + k))))))) := by
  unfold cel
  rw [h]
  rfl
theorem fs_set {ad : Nat → Nat} {f : Nat → Int32} {c o k n : Nat} {x : Int32} (hrt : rt c k o = none) (hk : k < n) : ((List.range n).map (fv ad f c o)).set k (.int x) = (List.range n).map (fv ad (upd f k x) c o) := by
  apply List.ext_getElem?
  intro j
  by_cases hj : j = k
  · subst hj
    rw [List.getElem?_set_self (by simp [hk]), List.getElem?_map, List.getElem?_range hk]
    simp [fv, hrt, upd]
  · rw [List.getElem?_set_ne (Ne.symm hj), List.getElem?_map, List.getElem?_map]
    by_cases hj2 : j < n
    · rw [List.getElem?_range hj2]
      simp [fv, upd, hj]
    · rw [List.getElem?_eq_none (by simp; omega)]
      rfl
/-! value functions: a checked step, a named value, a call -/
def inb (x : Int32) (n : Nat) : Bool := !(decide (x < 0) || decide (n ≤ x.toNatClampNeg))
def ck {β : Type} (b : Bool) (k : Option β) : Option β := if b = true then k else none
def lb {α β : Type} (a : α) (f : α → β) : β := f a
def ob1 {α β : Type} (x : Option α) (f : α → Option β) : Option β := match x with
  | none => none
  | some a => f a
def ob2 {α γ β : Type} (x : Option (α × γ)) (f : α → γ → Option β) : Option β := match x with
  | none => none
  | some a => f a.1 a.2
def irem (x y : Int32) : Int32 := x - x / y * y
def ishl (x y : Int32) : Int32 := x <<< (y &&& 31)
def ishr (x y : Int32) : Int32 := x >>> (y &&& 31)
def iushr (x y : Int32) : Int32 := (x.toUInt32 >>> (y.toUInt32 &&& Int32.toUInt32 31)).toInt32
def imin (x y : Int32) : Int32 := if y < x then y else x
def imax (x y : Int32) : Int32 := if x < y then y else x
def lrem (x y : Int64) : Int64 := x - x / y * y
theorem inb_in {x : Int32} {n : Nat} (h : inb x n = true) : vp_in x n := by
  simpa [inb, vp_in] using h
theorem inb_lt {x : Int32} {n : Nat} (h : inb x n = true) : x.toNatClampNeg < n := Nat.not_le.mp fun q => inb_in h (Or.inr q)
theorem ck_some {β : Type} {b : Bool} {k : Option β} {r : β} (h : ck b k = some r) : b = true ∧ k = some r := by
  cases b
  · cases h
  · exact ⟨rfl, h⟩
theorem ob1_some {α β : Type} {x : Option α} {f : α → Option β} {r : β} (h : ob1 x f = some r) : ∃ a, x = some a ∧ f a = some r := by
  cases x with
  | none => cases h
  | some a => exact ⟨a, rfl, h⟩
theorem ob2_some {α γ β : Type} {x : Option (α × γ)} {f : α → γ → Option β} {r : β} (h : ob2 x f = some r) : ∃ a b, x = some (a, b) ∧ f a b = some r := by
  cases x with
  | none => cases h
  | some a => exact ⟨a.1, a.2, rfl, h⟩
/-! what holds of a method's state -/
def nwl : List (String × Nat × MethodName × String) := [(RX4, 23, yX0_init, "OwnerlessCoin"), (RX4, 44, yX5_init, "OwnerlessCoin"), (RX7, 25, yX1_init, "OwnerlessCoin"), (RX4, 76, yX7_has, "OwnerlessCoin"), (RX4, 103, yX7_mix, "OwnerlessCoin"), (RX5, 55, yX7_power, "OwnerlessCoin"), (RX5, 59, yX7_stepped, "OwnerlessCoin"), (RX5, 63, yX7_drawn, "OwnerlessCoin"), (RX6, 10, yX7_product, "OwnerlessCoin"), (RX5, 75, yX7_product, "OwnerlessCoin"), (RX1, 70, yX7_has, "OwnerlessCoin"), (RX2, 47, yX7_has, "OwnerlessCoin"), (RX2, 51, yX7_stepped, "OwnerlessCoin"), (RX2, 55, yX7_drawn, "OwnerlessCoin"), (RX5, 78, yX7_has, "OwnerlessCoin")]
def kk (D : va_G) (tc : Tc) (U : State) : Prop := va_K D vwCl [(tc.1, .int), (tc.2.1, .object RX4), (tc.2.2, .object RX5)] U ∧ (∀ q ∈ nwl, va_Nw (.methodLinkNest q.1 q.2.1 q.2.2.1 q.2.2.2) U) ∧ va_AO RX4 U ∧ va_AO RX5 U
theorem kk_warm {D : va_G} {tc : Tc} {s U : State} (h : kk D tc s) (hW : s.WarmedH U.vm) : kk D tc U := ⟨va_K.moved hW.alike h.1, fun q hq => va_Nw.warmM hW (h.2.1 q hq), h.2.2.1.moved hW.alike, h.2.2.2.moved hW.alike⟩
theorem kk_same {D : va_G} {tc : Tc} {u U : State} (h : kk D tc u) (e : u.vm = U.vm) : kk D tc U := by
  have ha : u.vm.Alike U.vm := by rw [e]; exact Vm.Alike.refl _
  exact ⟨va_K.moved ha h.1, fun q hq => va_Nw.same rfl e (h.2.1 q hq), h.2.2.1.moved ha, h.2.2.2.moved ha⟩
def cx (p : Program) (s : State) (m : MethodId) (args : Array Value) (c : Code) (cc : ByteArray) (nL : Nat) (own : String) (D : va_G) (tc : Tc) (ad : Nat → Nat) (A : Nat → Prop) : Prop :=
  p.tables.exec = Jvm.exec ∧ c.code = cc ∧ c.maxLocals = nL ∧ s.vm.findClass own = some m.cls ∧ (∀ w ∈ tw, w.before args s = true) ∧ kk D tc s ∧ adok ad A
def cok (ci : Nat) (C : String) (T : u_T) (N : Nat) : Prop := vwCl[ci]? = some (C, T, N) ∧ nf ci = N ∧ ci < 7 ∧ (∀ w ∈ u_ws C T N, w ∈ tw) ∧ (∃ ty : Nat → FieldType, ∀ k, k < N → parseFieldDescriptor (T k).2.2.1 = some (ty k)) ∧ (∀ a, a < N → ∀ b, b < N → a ≠ b → (T a).2.1 ≠ (T b).2.1)
def pre (D : va_G) (tc : Tc) (ad : Nat → Nat) (vals : List Value) (J : St) : Array Value → State → Prop := va_Pc vals (fun U => va_P D vwCl (wl tc ad J) U.heap ∧ kk D tc U)
def qi (D : va_G) (tc : Tc) (ad : Nat → Nat) (A : Nat → Prop) (r : Int32) (J : St) : Array Value → State → Outcome → State → Prop := va_Qi (fun (x : Int32) (_ : Unit) => x = r) (fun _ t => va_P D vwCl (wl tc ad J) t.heap) A
def ql (D : va_G) (tc : Tc) (ad : Nat → Nat) (A : Nat → Prop) (r : Int64) (J : St) : Array Value → State → Outcome → State → Prop := va_Ql (fun (x : Int64) (_ : Unit) => x = r) (fun _ t => va_P D vwCl (wl tc ad J) t.heap) A
def qv (D : va_G) (tc : Tc) (ad : Nat → Nat) (A : Nat → Prop) (J : St) : Array Value → State → Outcome → State → Prop := va_Qv (fun (_ : Unit) => True) (fun _ t => va_P D vwCl (wl tc ad J) t.heap) A
theorem pre_blind {D : va_G} {tc : Tc} {ad : Nat → Nat} {vals : List Value} {J : St} : FrameBlind (pre D tc ad vals J) := by
  intro a U g mk h
  exact ⟨h.1, h.2.1, kk_same h.2.2 rfl⟩
theorem goodIn_tw {ws : List Cond} (h : ∀ w ∈ ws, w ∈ tw) : GoodIn tw ws := fun w hw => ⟨h w hw, good_of_word (List.mem_filter.mp (h w hw)).2⟩


section
variable {p : Program} {l : Launch} {e : Env} {R : Room} {s : State} {m : MethodId} {args : Array Value} {below : List Frame} {meth : Method} {c : Code} {H : Heap} {locs : List Loc} {Q : State → Prop}
variable {cc : ByteArray} {pc nL : Nat} {ls : Array Slot} {rest st0 : List Value} {D : va_G} {tc : Tc} {ad : Nat → Nat} {A : Nat → Prop} {own : String} {I M J J' : St} {β : Type} {r : β}
theorem j_get (hX : cx p s m args c cc nL own D tc ad A) (hP : va_P D vwCl (wl tc ad J) H) {ci N : Nat} {C : String} {T : u_T} (h : cok ci C T N) {o k : Nat} (ho : o < 152) (hkd : kd o = ci) (hk : k < N) {index : Nat} (hq : Cond.fieldLink own index (T k).1 (T k).2.1 (T k).2.2.1 ∈ tw) {v : Value} (hv : fv ad (J o) ci o k = v) (hd : decode cc pc = .ok (.getfield index, 3))
    (kk : W p l e R s m args below meth c H locs 0 0 Q (F0 m (pc + 3) ls (v :: rest))) : W p l e R s m args below meth c H locs 0 0 Q (F0 m pc ls (.ref (ad o) :: rest)) := by
  obtain ⟨h1, h2, h3, h4, h5, h6⟩ := h
  obtain ⟨hx, hb, hml, hown, hts, hK, hA⟩ := hX
  refine va_get (D := D) (ci := ci) (C := C) (T := T) (N := N) (fs := (List.range (nf ci)).map (fv ad (J o) ci o)) hx hb hts h4 hown hK.1 hP o ((wl_at ho).trans (by rw [cel_obj hkd h3])) h1 k hk (hts _ hq) (fun _ h9 => h9) (v := v) ?_ hd kk
  rw [h2, List.getElem?_map, List.getElem?_range hk]
  simp [hv]
theorem j_put (hX : cx p s m args c cc nL own D tc ad A) (hP : va_P D vwCl (wl tc ad J) H) (hS : va_S A s.heap H locs) {ci N : Nat} {C : String} {T : u_T} (h : cok ci C T N) {o k : Nat} (ho : o < 152) (hkd : kd o = ci) (hk : k < N) (hrt : rt ci k o = none) (hf : (T k).2.2.2 = false) {index : Nat} (hq : Cond.fieldLink own index (T k).1 (T k).2.1 (T k).2.2.1 ∈ tw) {ty : FieldType} (hty : parseFieldDescriptor (T k).2.2.1 = some ty) {x : Int32} (hn : narrow ty (.int x) = .int x) (hfit : fits ty (.int x) = true) (hd : decode cc pc = .ok (.putfield index, 3))
    (kk : ∀ (H1 : Heap) (locs1 : List Loc), va_P D vwCl (wl tc ad (ur J o (upd (J o) k x))) H1 → va_S A s.heap H1 locs1 → W p l e R s m args below meth c H1 locs1 0 0 Q (F0 m (pc + 3) ls rest)) : W p l e R s m args below meth c H locs 0 0 Q (F0 m pc ls (.int x :: .ref (ad o) :: rest)) := by
  obtain ⟨h1, h2, h3, h4, ⟨ty0, h5⟩, h6⟩ := h
  obtain ⟨hx, hb, hml, hown, hts, hK, hA⟩ := hX
  refine va_put (D := D) (ci := ci) (C := C) (T := T) (N := N) (fs := (List.range (nf ci)).map (fv ad (J o) ci o)) hx hb hts h4 ty0 h5 h6 hown hK.1 hP (wl_D hA) hS o ((wl_at ho).trans (by rw [cel_obj hkd h3])) h1 k hk (hts _ hq) (fun _ h9 => h9) hf hty hn hfit (by simp [h2, hk]) hd (fun H1 locs1 hP1 _ hS1 => kk H1 locs1 ?_ hS1)
  rw [fs_set hrt (by rw [h2]; exact hk), ← cel_obj (tc := tc) hkd h3, wl_set ho] at hP1
  exact hP1
theorem j_ald (hX : cx p s m args c cc nL own D tc ad A) (hP : va_P D vwCl (wl tc ad J) H) {o n : Nat} (ho : o < 152) (hkd : kd o = 7) (hn : ln o = n) {i : Int32} (hin : inb i n = true) (hd : decode cc pc = .ok (.iaload, 1))
    (kk : W p l e R s m args below meth c H locs 0 0 Q (F0 m (pc + 1) ls (.int (J o i.toNatClampNeg) :: rest))) : W p l e R s m args below meth c H locs 0 0 Q (F0 m pc ls (.int i :: .ref (ad o) :: rest)) := by
  obtain ⟨hx, hb, hml, hown, hts, hK, hA⟩ := hX
  exact va_iald (D := D) hx hb hK.1 hP o 0 (n := n) ((wl_at ho).trans (by rw [cel_int hkd, hn])) rfl (inb_in hin) hd kk
theorem j_ast (hX : cx p s m args c cc nL own D tc ad A) (hP : va_P D vwCl (wl tc ad J) H) (hS : va_S A s.heap H locs) {o n : Nat} (ho : o < 152) (hkd : kd o = 7) (hn : ln o = n) {i x : Int32} (hin : inb i n = true) (hd : decode cc pc = .ok (.iastore, 1))
    (kk : ∀ (H1 : Heap) (locs1 : List Loc), va_P D vwCl (wl tc ad (ur J o (upd (J o) i.toNatClampNeg x))) H1 → va_S A s.heap H1 locs1 → W p l e R s m args below meth c H1 locs1 0 0 Q (F0 m (pc + 1) ls rest)) : W p l e R s m args below meth c H locs 0 0 Q (F0 m pc ls (.int x :: .int i :: .ref (ad o) :: rest)) := by
  obtain ⟨hx, hb, hml, hown, hts, hK, hA⟩ := hX
  refine va_iast (D := D) hx hb hK.1 hP (wl_D hA) hS o 0 (n := n) ((wl_at ho).trans (by rw [cel_int hkd, hn])) rfl (inb_in hin) hd (fun H1 locs1 hP1 _ hS1 => kk H1 locs1 ?_ hS1)
  rw [← hn, ← cel_int (tc := tc) (ad := ad) hkd, wl_set ho] at hP1
  exact hP1
theorem j_ldq (hX : cx p s m args c cc nL own D tc ad A) (hP : va_P D vwCl (wl tc ad J) H) {o : Nat} (ho : o < 152) (hkd : kd o = 9) (hn : ln o = 8) {i : Int32} (hin : inb i 8 = true) (hd : decode cc pc = .ok (.aaload, 1))
    (kk : W p l e R s m args below meth c H locs 0 0 Q (F0 m (pc + 1) ls (.ref (ad (o + 4 + i.toNatClampNeg)) :: rest))) : W p l e R s m args below meth c H locs 0 0 Q (F0 m pc ls (.int i :: .ref (ad o) :: rest)) := by
  obtain ⟨hx, hb, hml, hown, hts, hK, hA⟩ := hX
  exact va_aldq (D := D) hx hb hK.1 hP o 2 (f := fun k => some (ad (o + 4 + k))) (n := 8) (C := RX5) ((wl_at ho).trans (by rw [cel_per hkd, hn])) rfl (inb_in hin) hd kk
theorem j_ldL (hX : cx p s m args c cc nL own D tc ad A) (hP : va_P D vwCl (wl tc ad J) H) {o : Nat} (ho : o < 152) (hkd : kd o = 8) (hn : ln o = 4) {i : Int32} (hin : inb i 4 = true) (hd : decode cc pc = .ok (.aaload, 1))
    (kk : W p l e R s m args below meth c H locs 0 0 Q (F0 m (pc + 1) ls (.ref (ad (29 * (J o i.toNatClampNeg).toNatClampNeg)) :: rest))) : W p l e R s m args below meth c H locs 0 0 Q (F0 m pc ls (.int i :: .ref (ad o) :: rest)) := by
  obtain ⟨hx, hb, hml, hown, hts, hK, hA⟩ := hX
  exact va_aldq (D := D) hx hb hK.1 hP o 1 (f := fun k => some (ad (29 * (J o k).toNatClampNeg))) (n := 4) (C := RX4) ((wl_at ho).trans (by rw [cel_lab hkd, hn])) rfl (inb_in hin) hd kk
theorem kd_lab {n : Nat} (h : n < 5) : kd (29 * n) = 3 := by
  have : ∀ n, n < 5 → kd (29 * n) = 3 := by decide
  exact this n h
theorem j_stL (hX : cx p s m args c cc nL own D tc ad A) (hP : va_P D vwCl (wl tc ad J) H) (hS : va_S A s.heap H locs) {o : Nat} (ho : o < 152) (hkd : kd o = 8) (hn : ln o = 4) {i x : Int32} (hin : inb i 4 = true) (hxn : inb x 5 = true) (hd : decode cc pc = .ok (.aastore, 1))
    (kk : ∀ (H1 : Heap) (locs1 : List Loc), va_P D vwCl (wl tc ad (ur J o (upd (J o) i.toNatClampNeg x))) H1 → va_S A s.heap H1 locs1 → W p l e R s m args below meth c H1 locs1 0 0 Q (F0 m (pc + 1) ls rest)) : W p l e R s m args below meth c H locs 0 0 Q (F0 m pc ls (.ref (ad (29 * x.toNatClampNeg)) :: .int i :: .ref (ad o) :: rest)) := by
  obtain ⟨hx, hb, hml, hown, hts, hK, hA⟩ := hX
  have hx5 := inb_lt hxn
  refine va_astq (D := D) hx hb hK.1 hP (wl_D hA) hS o 1 (29 * x.toNatClampNeg) 3 (r := (RX4, TX4, 14)) (n := 4) (vs := (List.range (nf 3)).map (fv ad (J (29 * x.toNatClampNeg)) 3 (29 * x.toNatClampNeg))) ((wl_at ho).trans (by rw [cel_lab hkd, hn])) rfl ((wl_at (by omega)).trans (by rw [cel_obj (kd_lab hx5) (by decide)])) rfl (inb_in hin) hd (fun H1 locs1 hP1 _ hS1 => kk H1 locs1 ?_ hS1)
  have e : (va_up (fun k => some (ad (29 * (J o k).toNatClampNeg))) i.toNatClampNeg (some (ad (29 * x.toNatClampNeg)))) = (fun k => some (ad (29 * (upd (J o) i.toNatClampNeg x k).toNatClampNeg))) := by
    funext k
    by_cases hk : k = i.toNatClampNeg
    · simp [va_up, upd, hk]
    · simp [va_up, upd, hk]
  rw [e, ← hn, ← cel_lab hkd, wl_set ho] at hP1
  exact hP1
theorem j_len (hX : cx p s m args c cc nL own D tc ad A) (hP : va_P D vwCl (wl tc ad J) H) {o n : Nat} (ho : o < 152) (hkd : kd o = 7) (hn : ln o = n) {v : Int32} (hv : Int32.ofNat n = v) (hd : decode cc pc = .ok (.arraylength, 1))
    (kk : W p l e R s m args below meth c H locs 0 0 Q (F0 m (pc + 1) ls (.int v :: rest))) : W p l e R s m args below meth c H locs 0 0 Q (F0 m pc ls (.ref (ad o) :: rest)) := by
  obtain ⟨hx, hb, hml, hown, hts, hK, hA⟩ := hX
  exact va_alen (D := D) hx hb hK.1 hP o 0 ((wl_at ho).trans (by rw [cel_int hkd])) rfl (by rw [hn]; exact hv) hd kk
theorem j_cpy (hX : cx p s m args c cc nL own D tc ad A) (hP : va_P D vwCl (wl tc ad J) H) (hS : va_S A s.heap H locs) (hsz : ls.size = nL) {index : Nat} (hq : Cond.methodLink own index arraycopyName ∈ tw) (hq1 : Cond.native arraycopyName ∈ tw) (hq2 : Cond.static arraycopyName ∈ tw) (hq3 : Cond.initialized "java/lang/System" ∈ tw) {o0 o1 n : Nat} (h0 : o0 < 152) (k0 : kd o0 = 7) (n0 : ln o0 = n) (h1 : o1 < 152) (k1 : kd o1 = 7) (n1 : ln o1 = n) {x : Int32} (hx1 : ¬ x < 0) (hxn : x.toNatClampNeg = n) (hfr : 1 ≤ R.frames) (hlo : (rest.map fun v => v.category).sum + (nativeFrameWords "java/lang/System" "arraycopy" 5 + 11) ≤ R.locals) (hd : decode cc pc = .ok (.invokestatic index, 3))
    (kk : ∀ (H1 : Heap) (locs1 : List Loc), va_P D vwCl (wl tc ad (ur J o1 (va_cpy (J o0) (J o1) 0 0 n))) H1 → va_S A s.heap H1 locs1 → W p l e R s m args below meth c H1 locs1 0 0 Q (F0 m (pc + 3) ls rest)) : W p l e R s m args below meth c H locs 0 0 Q (F0 m pc ls (.int x :: .int 0 :: .ref (ad o1) :: .int 0 :: .ref (ad o0) :: rest)) := by
  obtain ⟨hx, hb, hml, hown, hts, hK, hA⟩ := hX
  refine va_copyi (D := D) (n0 := n) (n1 := n) (ty := .int) hx hb (hml.trans hsz.symm) hown (hts _ hq) (hts _ hq1) (hts _ hq2) (hts _ hq3) hK.1 hP (wl_D hA) hS o0 o1 0 0 ((wl_at h0).trans (by rw [cel_int k0, n0])) ((wl_at h1).trans (by rw [cel_int k1, n1])) rfl rfl rfl (by decide) (by decide) hx1 (by rw [hxn]; show 0 + n ≤ n; omega) (by rw [hxn]; show 0 + n ≤ n; omega) (fun i _ => rfl) hfr hlo hd (fun H1 locs1 hP1 _ hS1 => kk H1 locs1 ?_ hS1)
  have e : (va_cpy (J o0) (J o1) (0 : Int32).toNatClampNeg (0 : Int32).toNatClampNeg x.toNatClampNeg) = va_cpy (J o0) (J o1) 0 0 n := by rw [hxn]; rfl
  rw [e, ← n1, ← cel_int (tc := tc) (ad := ad) k1, wl_set h1] at hP1
  rw [← n1]
  exact hP1
/-! calls -/
def ys (y : MethodName) (cc : ByteArray) (nL : Nat) (ret : Option FieldType) (k : Nat) : Prop := Cond.code y cc nL ret ∈ tw ∧ Cond.static y ∈ tw ∧ Cond.initialized y.cls ∈ tw ∧ (y.cls ≠ "java/lang/invoke/MethodHandle" ∧ y.cls ≠ "java/lang/invoke/VarHandle" ∧ (parseMethodDescriptor y.desc).map (fun d => d.parameters.length) = some k)
def yv (y : MethodName) (cc : ByteArray) (nL : Nat) (ret : Option FieldType) (k : Nat) (C : String) : Prop := Cond.code y cc nL ret ∈ tw ∧ Cond.instanceMethod y ∈ tw ∧ Cond.selects C y y ∈ tw ∧ Cond.initialized C ∈ tw ∧ (y.cls = C ∧ y.cls ≠ "java/lang/invoke/MethodHandle" ∧ y.cls ≠ "java/lang/invoke/VarHandle" ∧ (parseMethodDescriptor y.desc).map (fun d => d.parameters.length) = some k)
variable {y : MethodName} {cc' : ByteArray} {n' k idx : Nat} {ret : Option FieldType} {rm : Room} {vals : List Value} {Qc : Array Value → State → Outcome → State → Prop}
theorem good_cons (h : Cond.code y cc' n' ret ∈ tw) : ∀ w ∈ Cond.code y cc' n' ret :: tw, w ∈ tw := fun w hw => (List.mem_cons.mp hw).elim (fun q => by rw [q]; exact h) id
theorem j_runS (hX : cx p s m args c cc nL own D tc ad A) (hP : va_P D vwCl (wl tc ad J) H) (hsz : ls.size = nL) (Y : ys y cc' n' ret k) (hM : Met l y (Cond.code y cc' n' ret :: tw) rm (pre D tc ad vals J) Qc 0 0 A) (hrm : rm.cells = 0 ∧ rm.slots = 0) (hq : Cond.methodLink own idx y ∈ tw) (hR : rm.frames + 1 ≤ R.frames ∧ 8 + (n' + 11) + rm.locals ≤ R.locals) (hlen : vals.length = k) (hst : st0 = vals.reverse ++ rest) (hw : (rest.map fun v => v.category).sum ≤ 8) (hd : decode cc pc = .ok (.invokestatic idx, 3)) :
    va_Run p l e R s m args below meth c H locs 0 0 0 0 (F0 m pc ls st0) rest (Qc vals.toArray) A := by
  obtain ⟨hx, hb, hml, hown, hts, hK, hA⟩ := hX
  obtain ⟨y1, y2, y3, y4⟩ := Y
  refine va_runS (As := vals) (rest := rest) ⟨hx, hb, hml, hown, hts⟩ hM (va_cwS k hts (goodIn_tw ?_) rfl hrm.1 hrm.2 y4 hR) ⟨pre_blind, fun U hU hW => ⟨rfl, by rw [hU]; exact hP, kk_warm hK hW⟩⟩ rfl hlen hsz hst (lv_room hw) hd ⟨Nat.zero_le _, Nat.zero_le _⟩
  intro w hw
  rcases List.mem_append.mp hw with h | h
  · simp only [List.mem_cons, List.not_mem_nil, or_false] at h
    rcases h with rfl | rfl | rfl
    · exact hq
    · exact y2
    · exact y3
  · exact good_cons y1 w h
theorem j_runN (hX : cx p s m args c cc nL own D tc ad A) (hP : va_P D vwCl (wl tc ad J) H) (hsz : ls.size = nL) (Y : ys y cc' n' ret k) (hM : Met l y (Cond.code y cc' n' ret :: tw) rm (pre D tc ad vals J) Qc 0 0 A) (hrm : rm.cells = 0 ∧ rm.slots = 0) {host : String} (hq : (own, idx, y, host) ∈ nwl) (hR : rm.frames + 1 ≤ R.frames ∧ 8 + (n' + 11) + rm.locals ≤ R.locals) (hlen : vals.length = k) (hst : st0 = vals.reverse ++ rest) (hw : (rest.map fun v => v.category).sum ≤ 8) (hd : decode cc pc = .ok (.invokestatic idx, 3)) :
    va_Run p l e R s m args below meth c H locs 0 0 0 0 (F0 m pc ls st0) rest (Qc vals.toArray) A := by
  obtain ⟨hx, hb, hml, hown, hts, hK, hA⟩ := hX
  obtain ⟨y1, y2, y3, y4⟩ := Y
  exact va_runSN (As := vals) (rest := rest) (host := host) ⟨hx, hb, hml, hown, hts⟩ hM ⟨va_cnB k hts (goodIn_tw (good_cons y1)) rfl hrm.1 hrm.2 (hK.2.1 _ hq) (hts _ y3) y4 hR, hts _ y2, trivial⟩ ⟨pre_blind, fun U hU hW => ⟨rfl, by rw [hU]; exact hP, kk_warm hK hW⟩⟩ rfl hlen hsz hst (lv_room hw) hd ⟨Nat.zero_le _, Nat.zero_le _⟩
theorem j_runV (hX : cx p s m args c cc nL own D tc ad A) (hP : va_P D vwCl (wl tc ad J) H) (hsz : ls.size = nL) {C : String} (Y : yv y cc' n' ret k C) {ci N o : Nat} {T : u_T} (hC : cok ci C T N) (ho : o < 152) (hkd : kd o = ci) (hM : Met l y (Cond.code y cc' n' ret :: tw) rm (pre D tc ad (.ref (ad o) :: vals) J) Qc 0 0 A) (hrm : rm.cells = 0 ∧ rm.slots = 0) (hq : Cond.methodLink own idx y ∈ tw) (hR : rm.frames + 1 ≤ R.frames ∧ 8 + (n' + 11) + rm.locals ≤ R.locals) (hlen : vals.length = k) (hst : st0 = vals.reverse ++ .ref (ad o) :: rest) (hw : (rest.map fun v => v.category).sum ≤ 8) (hd : decode cc pc = .ok (.invokevirtual idx, 3)) :
    va_Run p l e R s m args below meth c H locs 0 0 0 0 (F0 m pc ls st0) rest (Qc (Value.ref (ad o) :: vals).toArray) A := by
  obtain ⟨hx, hb, hml, hown, hts, hK, hA⟩ := hX
  obtain ⟨y1, y2, y3, y4, y5⟩ := Y
  obtain ⟨c1, c2, c3, -⟩ := hC
  refine va_runV (As := vals) (rest := rest) (C := C) (b := ad o) ⟨hx, hb, hml, hown, hts⟩ hM (cwV k hts (goodIn_tw ?_) rfl hrm.1 hrm.2 y5 hR) ⟨pre_blind, va_recv (q := (C, T, N)) hK.1 hP c1 (q0 := o) ((wl_at ho).trans (by rw [cel_obj hkd c3])), fun U hU hW => ⟨rfl, by rw [hU]; exact hP, kk_warm hK hW⟩⟩ rfl hlen hsz hst (lv_room hw) hd ⟨Nat.zero_le _, Nat.zero_le _⟩
  intro w hw
  rcases List.mem_append.mp hw with h | h
  · simp only [List.mem_cons, List.not_mem_nil, or_false] at h
    rcases h with rfl | rfl | rfl | rfl
    · exact hq
    · exact y2
    · exact y3
    · exact y4
  · exact good_cons y1 w h
theorem j_i {a : Array Value} {r : Int32} (hr : va_Run p l e R s m args below meth c H locs 0 0 0 0 (F0 m pc ls st0) rest (qi D tc ad A r J' a) A) (hS : va_S A s.heap H locs)
    (kk : ∀ (H1 : Heap) (locs1 : List Loc), va_P D vwCl (wl tc ad J') H1 → va_S A s.heap H1 locs1 → W p l e R s m args below meth c H1 locs1 0 0 Q (F0 m (pc + 3) ls (.int r :: rest))) : W p l e R s m args below meth c H locs 0 0 Q (F0 m pc ls st0) :=
  va_calli hr hS (fun _ _ h => h) (fun _ h => h) fun x u t H1 locs1 ht _ hw hB _ _ hS1 => by
    subst hw
    rw [ht] at hB
    exact kk H1 locs1 hB hS1
theorem j_l {a : Array Value} {r : Int64} (hr : va_Run p l e R s m args below meth c H locs 0 0 0 0 (F0 m pc ls st0) rest (ql D tc ad A r J' a) A) (hS : va_S A s.heap H locs)
    (kk : ∀ (H1 : Heap) (locs1 : List Loc), va_P D vwCl (wl tc ad J') H1 → va_S A s.heap H1 locs1 → W p l e R s m args below meth c H1 locs1 0 0 Q (F0 m (pc + 3) ls (.long r :: rest))) : W p l e R s m args below meth c H locs 0 0 Q (F0 m pc ls st0) :=
  va_calll hr hS (fun _ _ h => h) (fun _ h => h) fun x u t H1 locs1 ht _ hw hB _ _ hS1 => by
    subst hw
    rw [ht] at hB
    exact kk H1 locs1 hB hS1
theorem j_v {a : Array Value} (hr : va_Run p l e R s m args below meth c H locs 0 0 0 0 (F0 m pc ls st0) rest (qv D tc ad A J' a) A) (hS : va_S A s.heap H locs)
    (kk : ∀ (H1 : Heap) (locs1 : List Loc), va_P D vwCl (wl tc ad J') H1 → va_S A s.heap H1 locs1 → W p l e R s m args below meth c H1 locs1 0 0 Q (F0 m (pc + 3) ls rest)) : W p l e R s m args below meth c H locs 0 0 Q (F0 m pc ls st0) :=
  va_callv hr hS (fun _ _ h => h) (fun _ h => h) fun u t H1 locs1 ht _ hw hB _ _ hS1 => by
    rw [ht] at hB
    exact kk H1 locs1 hB hS1
theorem j_mmin (hX : cx p s m args c cc nL own D tc ad A) (hsz : ls.size = nL) (hq : Cond.methodLink own idx Lib.Math.min.name ∈ tw) (q1 : Cond.static Lib.Math.min.name ∈ tw) (q2 : Cond.initialized "java/lang/Math" ∈ tw) (q3 : Cond.code Lib.Math.min.name Lib.Math.min.code 2 (some .int) ∈ tw) (hfr : 1 ≤ R.frames) (hlo : (rest.map fun v => v.category).sum + 13 ≤ R.locals) {x y : Int32} (hd : decode cc pc = .ok (.invokestatic idx, 3))
    (kk : W p l e R s m args below meth c H locs 0 0 Q (F0 m (pc + 3) ls (.int (imin x y) :: rest))) : W p l e R s m args below meth c H locs 0 0 Q (F0 m pc ls (.int y :: .int x :: rest)) := by
  obtain ⟨hx, hb, hml, hown, hts, hK, hA⟩ := hX
  exact va_mmin hx hb (hml.trans hsz.symm) hown (hts _ hq) (hts _ q1) (hts _ q2) (hts _ q3) hfr hlo (Nat.zero_le _) (Nat.zero_le _) hd kk
theorem j_mmax (hX : cx p s m args c cc nL own D tc ad A) (hsz : ls.size = nL) (hq : Cond.methodLink own idx Lib.Math.max.name ∈ tw) (q1 : Cond.static Lib.Math.max.name ∈ tw) (q2 : Cond.initialized "java/lang/Math" ∈ tw) (q3 : Cond.code Lib.Math.max.name Lib.Math.max.code 2 (some .int) ∈ tw) (hfr : 1 ≤ R.frames) (hlo : (rest.map fun v => v.category).sum + 13 ≤ R.locals) {x y : Int32} (hd : decode cc pc = .ok (.invokestatic idx, 3))
    (kk : W p l e R s m args below meth c H locs 0 0 Q (F0 m (pc + 3) ls (.int (imax x y) :: rest))) : W p l e R s m args below meth c H locs 0 0 Q (F0 m pc ls (.int y :: .int x :: rest)) := by
  obtain ⟨hx, hb, hml, hown, hts, hK, hA⟩ := hX
  exact va_mmax hx hb (hml.trans hsz.symm) hown (hts _ hq) (hts _ q1) (hts _ q2) (hts _ q3) hfr hlo (Nat.zero_le _) (Nat.zero_le _) hd kk
/-! the ends -/
theorem j_iret (hX : cx p s m args c cc nL own D tc ad A) (hr : meth.sig.returnType = some .int) (hlk : meth.locks = false) (hP : va_P D vwCl (wl tc ad J) H) (hS : va_S A s.heap H locs) {v : Int32} (hd : decode cc pc = .ok (.ireturn, 1)) : W p l e R s m args below meth c H locs 0 0 (MQ below (qi D tc ad A v J) args s 0 0 A) (F0 m pc ls [.int v]) :=
  W.iret (v := v) hX.1 hX.2.1 hr (fun t ht hW => ⟨⟨v, (), rfl, rfl, by show va_P D vwCl (wl tc ad J) t.heap; rw [ht]; exact hP⟩, hS.F ht⟩) hS.2.2 hd hlk
theorem j_zret (hX : cx p s m args c cc nL own D tc ad A) (hr : meth.sig.returnType = some .boolean) (hlk : meth.locks = false) (hP : va_P D vwCl (wl tc ad J) H) (hS : va_S A s.heap H locs) {v : Int32} (hz : v = 0 ∨ v = 1) (hd : decode cc pc = .ok (.ireturn, 1)) : W p l e R s m args below meth c H locs 0 0 (MQ below (qi D tc ad A v J) args s 0 0 A) (F0 m pc ls [.int v]) :=
  W.zret (v := v) hX.1 hX.2.1 hr (by rcases hz with rfl | rfl <;> decide) (fun t ht hW => ⟨⟨v, (), rfl, rfl, by show va_P D vwCl (wl tc ad J) t.heap; rw [ht]; exact hP⟩, hS.F ht⟩) hS.2.2 hd hlk
theorem j_lret (hX : cx p s m args c cc nL own D tc ad A) (hr : meth.sig.returnType = some .long) (hlk : meth.locks = false) (hP : va_P D vwCl (wl tc ad J) H) (hS : va_S A s.heap H locs) {v : Int64} (hd : decode cc pc = .ok (.lreturn, 1)) : W p l e R s m args below meth c H locs 0 0 (MQ below (ql D tc ad A v J) args s 0 0 A) (F0 m pc ls [.long v]) :=
  W.lret (v := v) hX.1 hX.2.1 hr (fun t ht hW => ⟨⟨v, (), rfl, rfl, by show va_P D vwCl (wl tc ad J) t.heap; rw [ht]; exact hP⟩, hS.F ht⟩) hS.2.2 hd hlk
theorem j_vret (hX : cx p s m args c cc nL own D tc ad A) (hr : meth.sig.returnType = none) (hlk : meth.locks = false) (hP : va_P D vwCl (wl tc ad J) H) (hS : va_S A s.heap H locs) (hd : decode cc pc = .ok (.return_, 1)) : W p l e R s m args below meth c H locs 0 0 (MQ below (qv D tc ad A J) args s 0 0 A) (F0 m pc ls []) :=
  W.vret hX.1 hX.2.1 hr (fun t ht hW => ⟨⟨(), rfl, trivial, by show va_P D vwCl (wl tc ad J) t.heap; rw [ht]; exact hP⟩, hS.F ht⟩) hS.2.2 hd hlk
theorem mk_met (hy : plainName y.cls = true) (hown : own = y.cls) (hA : adok ad A) (hn : (lg_sl vals).length ≤ nL)
    (body : ∀ (p : Program) (e : Env) (s : State) (m : MethodId) (below : List Frame) (meth : Method) (c : Code) (ls : Array Slot), cx p s m vals.toArray c cc nL own D tc ad A → meth.sig.returnType = ret → meth.locks = false → lv_has ls nL (lv_args 0 vals) → va_P D vwCl (wl tc ad J) s.heap → va_S A s.heap s.heap [] → W p l e rm s m vals.toArray below meth c s.heap [] 0 0 (MQ below Qc vals.toArray s 0 0 A) (F0 m 0 ls [])) :
    Met l y (Cond.code y cc nL ret :: tw) rm (pre D tc ad vals J) Qc 0 0 A := by
  refine Met.ofW (cc := cc) (maxL := nL) (ret := ret) hy rfl ?_
  intro p e s m args below meth c s₁ B hml hv
  obtain ⟨rfl, hP, hK⟩ := hv
  have hts := atoms_spec (ws := Cond.code y cc nL ret :: tw) B.pre
  have hl := lv_entry vals (n := nL) hn
  rw [lg_entry_eq]
  exact body p e s m below meth c _ ⟨B.exec, B.bytes, hml, by rw [hown]; exact findClass_of_methodNamed B.named, fun w hw => hts w (List.mem_cons_of_mem _ hw), hK, hA⟩ B.returns B.notSynchronized hl hP va_S.rf
/-! named values -/
theorem x_let {x : Int32} {f : Int32 → Option β} (h : lb x f = some r) (k : ∀ y : Int32, f y = some r → W p l e R s m args below meth c H locs 0 0 Q (F0 m pc ls (.int y :: rest))) : W p l e R s m args below meth c H locs 0 0 Q (F0 m pc ls (.int x :: rest)) := k x h
theorem x_letL {x : Int64} {f : Int64 → Option β} (h : lb x f = some r) (k : ∀ y : Int64, f y = some r → W p l e R s m args below meth c H locs 0 0 Q (F0 m pc ls (.long y :: rest))) : W p l e R s m args below meth c H locs 0 0 Q (F0 m pc ls (.long x :: rest)) := k x h


theorem r_get (hX : cx p s m args c cc nL own D tc ad A) (hP : va_P D vwCl (wl tc ad (cmb I M)) H) {ci N : Nat} {C : String} {T : u_T} (h : cok ci C T N) (k : Nat) {o : Nat} (ho : o < 152) (hkd : kd o = ci) (hk : k < N) (hrt : rt ci k o = none) {index : Nat} (hq : Cond.fieldLink own index (T k).1 (T k).2.1 (T k).2.2.1 ∈ tw) (hd : decode cc pc = .ok (.getfield index, 3))
    (kk : W p l e R s m args below meth c H locs 0 0 Q (F0 m (pc + 3) ls (.int (I o k) :: rest))) : W p l e R s m args below meth c H locs 0 0 Q (F0 m pc ls (.ref (ad o) :: rest)) :=
  j_get hX hP h ho hkd hk hq (by simp only [fv, hrt]; rw [cmb_lt ho]) hd kk
theorem r_getq (hX : cx p s m args c cc nL own D tc ad A) (hP : va_P D vwCl (wl tc ad (cmb I M)) H) {ci N : Nat} {C : String} {T : u_T} (h : cok ci C T N) (k : Nat) {o t : Nat} (ho : o < 152) (hkd : kd o = ci) (hk : k < N) (hrt : rt ci k o = some t) {index : Nat} (hq : Cond.fieldLink own index (T k).1 (T k).2.1 (T k).2.2.1 ∈ tw) (hd : decode cc pc = .ok (.getfield index, 3))
    (kk : W p l e R s m args below meth c H locs 0 0 Q (F0 m (pc + 3) ls (.ref (ad t) :: rest))) : W p l e R s m args below meth c H locs 0 0 Q (F0 m pc ls (.ref (ad o) :: rest)) :=
  j_get hX hP h ho hkd hk hq (by simp only [fv, hrt]) hd kk
theorem r_put {f : St → Option β} (hX : cx p s m args c cc nL own D tc ad A) (hP : va_P D vwCl (wl tc ad (cmb I M)) H) (hS : va_S A s.heap H locs) {ci N : Nat} {C : String} {T : u_T} (h : cok ci C T N) (k : Nat) {o : Nat} {x : Int32} (hf0 : lb (u2 I o k x) f = some r) (ho : o < 152) (hkd : kd o = ci) (hk : k < N) (hrt : rt ci k o = none) (hf : (T k).2.2.2 = false) {index : Nat} (hq : Cond.fieldLink own index (T k).1 (T k).2.1 (T k).2.2.1 ∈ tw) (hty : parseFieldDescriptor (T k).2.2.1 = some .int) (hd : decode cc pc = .ok (.putfield index, 3))
    (kk : ∀ (I1 : St) (H1 : Heap) (locs1 : List Loc), f I1 = some r → va_P D vwCl (wl tc ad (cmb I1 M)) H1 → va_S A s.heap H1 locs1 → W p l e R s m args below meth c H1 locs1 0 0 Q (F0 m (pc + 3) ls rest)) : W p l e R s m args below meth c H locs 0 0 Q (F0 m pc ls (.int x :: .ref (ad o) :: rest)) := by
  refine j_put hX hP hS h ho hkd hk hrt hf hq hty (vp_nar_int x) rfl hd (fun H1 locs1 hP1 hS1 => kk (u2 I o k x) H1 locs1 hf0 ?_ hS1)
  rw [ur_lt ho, cmb_lt ho] at hP1
  exact hP1
theorem r_putZ {f : St → Option β} (hX : cx p s m args c cc nL own D tc ad A) (hP : va_P D vwCl (wl tc ad (cmb I M)) H) (hS : va_S A s.heap H locs) {ci N : Nat} {C : String} {T : u_T} (h : cok ci C T N) (k : Nat) {o : Nat} {x : Int32} (hz : x = 0 ∨ x = 1) (hf0 : lb (u2 I o k x) f = some r) (ho : o < 152) (hkd : kd o = ci) (hk : k < N) (hrt : rt ci k o = none) (hf : (T k).2.2.2 = false) {index : Nat} (hq : Cond.fieldLink own index (T k).1 (T k).2.1 (T k).2.2.1 ∈ tw) (hty : parseFieldDescriptor (T k).2.2.1 = some .boolean) (hd : decode cc pc = .ok (.putfield index, 3))
    (kk : ∀ (I1 : St) (H1 : Heap) (locs1 : List Loc), f I1 = some r → va_P D vwCl (wl tc ad (cmb I1 M)) H1 → va_S A s.heap H1 locs1 → W p l e R s m args below meth c H1 locs1 0 0 Q (F0 m (pc + 3) ls rest)) : W p l e R s m args below meth c H locs 0 0 Q (F0 m pc ls (.int x :: .ref (ad o) :: rest)) := by
  refine j_put hX hP hS h ho hkd hk hrt hf hq hty (by rcases hz with rfl | rfl <;> decide) (by rcases hz with rfl | rfl <;> decide) hd (fun H1 locs1 hP1 hS1 => kk (u2 I o k x) H1 locs1 hf0 ?_ hS1)
  rw [ur_lt ho, cmb_lt ho] at hP1
  exact hP1
theorem r_ald (hX : cx p s m args c cc nL own D tc ad A) (hP : va_P D vwCl (wl tc ad (cmb I M)) H) {o n : Nat} {i : Int32} {K : Option β} (h : ck (inb i n) K = some r) (ho : o < 152) (hkd : kd o = 7) (hn : ln o = n) (hd : decode cc pc = .ok (.iaload, 1))
    (kk : K = some r → W p l e R s m args below meth c H locs 0 0 Q (F0 m (pc + 1) ls (.int (I o i.toNatClampNeg) :: rest))) : W p l e R s m args below meth c H locs 0 0 Q (F0 m pc ls (.int i :: .ref (ad o) :: rest)) := by
  obtain ⟨h1, h2⟩ := ck_some h
  have k2 := kk h2
  refine j_ald hX hP ho hkd hn h1 hd ?_
  rw [cmb_lt ho]
  exact k2
theorem r_ast {f : St → Option β} (hX : cx p s m args c cc nL own D tc ad A) (hP : va_P D vwCl (wl tc ad (cmb I M)) H) (hS : va_S A s.heap H locs) {o n : Nat} {i x : Int32} (h : ck (inb i n) (lb (u2 I o i.toNatClampNeg x) f) = some r) (ho : o < 152) (hkd : kd o = 7) (hn : ln o = n) (hd : decode cc pc = .ok (.iastore, 1))
    (kk : ∀ (I1 : St) (H1 : Heap) (locs1 : List Loc), f I1 = some r → va_P D vwCl (wl tc ad (cmb I1 M)) H1 → va_S A s.heap H1 locs1 → W p l e R s m args below meth c H1 locs1 0 0 Q (F0 m (pc + 1) ls rest)) : W p l e R s m args below meth c H locs 0 0 Q (F0 m pc ls (.int x :: .int i :: .ref (ad o) :: rest)) := by
  obtain ⟨h1, h2⟩ := ck_some h
  refine j_ast hX hP hS ho hkd hn h1 hd (fun H1 locs1 hP1 hS1 => kk (u2 I o i.toNatClampNeg x) H1 locs1 h2 ?_ hS1)
  rw [ur_lt ho, cmb_lt ho] at hP1
  exact hP1


theorem r_ldq (hX : cx p s m args c cc nL own D tc ad A) (hP : va_P D vwCl (wl tc ad (cmb I M)) H) {o : Nat} {i : Int32} {K : Option β} (h : ck (inb i 8) K = some r) (ho : o < 152) (hkd : kd o = 9) (hn : ln o = 8) (hd : decode cc pc = .ok (.aaload, 1))
    (kk : i.toNatClampNeg < 8 → K = some r → W p l e R s m args below meth c H locs 0 0 Q (F0 m (pc + 1) ls (.ref (ad (o + 4 + i.toNatClampNeg)) :: rest))) : W p l e R s m args below meth c H locs 0 0 Q (F0 m pc ls (.int i :: .ref (ad o) :: rest)) := by
  obtain ⟨h1, h2⟩ := ck_some h
  exact j_ldq hX hP ho hkd hn h1 hd (kk (inb_lt h1) h2)
theorem r_ldL (hX : cx p s m args c cc nL own D tc ad A) (hP : va_P D vwCl (wl tc ad (cmb I M)) H) {o : Nat} {i : Int32} {K : Option β} (h : ck (inb i 4) K = some r) (ho : o < 152) (hkd : kd o = 8) (hn : ln o = 4) (hd : decode cc pc = .ok (.aaload, 1))
    (kk : K = some r → W p l e R s m args below meth c H locs 0 0 Q (F0 m (pc + 1) ls (.ref (ad (29 * (I o i.toNatClampNeg).toNatClampNeg)) :: rest))) : W p l e R s m args below meth c H locs 0 0 Q (F0 m pc ls (.int i :: .ref (ad o) :: rest)) := by
  obtain ⟨h1, h2⟩ := ck_some h
  have k2 := kk h2
  refine j_ldL hX hP ho hkd hn h1 hd ?_
  rw [cmb_lt ho]
  exact k2
theorem r_stL {f : St → Option β} (hX : cx p s m args c cc nL own D tc ad A) (hP : va_P D vwCl (wl tc ad (cmb I M)) H) (hS : va_S A s.heap H locs) {o : Nat} {i x : Int32} (h : ck (inb i 4) (ck (inb x 5) (lb (u2 I o i.toNatClampNeg x) f)) = some r) (ho : o < 152) (hkd : kd o = 8) (hn : ln o = 4) (hd : decode cc pc = .ok (.aastore, 1))
    (kk : ∀ (I1 : St) (H1 : Heap) (locs1 : List Loc), f I1 = some r → va_P D vwCl (wl tc ad (cmb I1 M)) H1 → va_S A s.heap H1 locs1 → W p l e R s m args below meth c H1 locs1 0 0 Q (F0 m (pc + 1) ls rest)) : W p l e R s m args below meth c H locs 0 0 Q (F0 m pc ls (.ref (ad (29 * x.toNatClampNeg)) :: .int i :: .ref (ad o) :: rest)) := by
  obtain ⟨h1, h2⟩ := ck_some h
  obtain ⟨h3, h4⟩ := ck_some h2
  refine j_stL hX hP hS ho hkd hn h1 h3 hd (fun H1 locs1 hP1 hS1 => kk (u2 I o i.toNatClampNeg x) H1 locs1 h4 ?_ hS1)
  rw [ur_lt ho, cmb_lt ho] at hP1
  exact hP1
theorem r_cpy {f : St → Option β} (hX : cx p s m args c cc nL own D tc ad A) (hP : va_P D vwCl (wl tc ad (cmb I M)) H) (hS : va_S A s.heap H locs) (hsz : ls.size = nL) {o0 o1 n : Nat} (h : lb (ur I o1 (va_cpy (I o0) (I o1) 0 0 n)) f = some r) {index : Nat} (hq : Cond.methodLink own index arraycopyName ∈ tw) (hq1 : Cond.native arraycopyName ∈ tw) (hq2 : Cond.static arraycopyName ∈ tw) (hq3 : Cond.initialized "java/lang/System" ∈ tw) (h0 : o0 < 152) (k0 : kd o0 = 7) (n0 : ln o0 = n) (h1 : o1 < 152) (k1 : kd o1 = 7) (n1 : ln o1 = n) {x : Int32} (hx1 : ¬ x < 0) (hxn : x.toNatClampNeg = n) (hfr : 1 ≤ R.frames) (hlo : (rest.map fun v => v.category).sum + (nativeFrameWords "java/lang/System" "arraycopy" 5 + 11) ≤ R.locals) (hd : decode cc pc = .ok (.invokestatic index, 3))
    (kk : ∀ (I1 : St) (H1 : Heap) (locs1 : List Loc), f I1 = some r → va_P D vwCl (wl tc ad (cmb I1 M)) H1 → va_S A s.heap H1 locs1 → W p l e R s m args below meth c H1 locs1 0 0 Q (F0 m (pc + 3) ls rest)) : W p l e R s m args below meth c H locs 0 0 Q (F0 m pc ls (.int x :: .int 0 :: .ref (ad o1) :: .int 0 :: .ref (ad o0) :: rest)) := by
  refine j_cpy hX hP hS hsz hq hq1 hq2 hq3 h0 k0 n0 h1 k1 n1 hx1 hxn hfr hlo hd (fun H1 locs1 hP1 hS1 => kk (ur I o1 (va_cpy (I o0) (I o1) 0 0 n)) H1 locs1 h ?_ hS1)
  rw [ur_lt h1, cmb_lt h1, cmb_lt h0] at hP1
  exact hP1

theorem x_if_eq {x : Int32} {X Y : Option β} {off : Int} {tgt : Nat} (hexec : p.tables.exec = Jvm.exec) (hb : c.code = cc) (hdg : decode cc pc = .ok (.ifCond .eq off, 3)) (ht : (pc : Int) + off = (tgt : Int)) (h : (if x = 0 then X else Y) = some r)
    (kt : x = 0 → X = some r → W p l e R s m args below meth c H locs 0 0 Q (F0 m tgt ls rest)) (kf : ¬ x = 0 → Y = some r → W p l e R s m args below meth c H locs 0 0 Q (F0 m (pc + 3) ls rest)) : W p l e R s m args below meth c H locs 0 0 Q (F0 m pc ls (.int x :: rest)) :=
  lv_if_eq hexec hb hdg ht (fun q => kt q ((if_pos q).symm.trans h)) (fun q => kf q ((if_neg q).symm.trans h))
theorem x_icmp_eq {x y : Int32} {X Y : Option β} {off : Int} {tgt : Nat} (hexec : p.tables.exec = Jvm.exec) (hb : c.code = cc) (hdg : decode cc pc = .ok (.if_icmp .eq off, 3)) (ht : (pc : Int) + off = (tgt : Int)) (h : (if x = y then X else Y) = some r)
    (kt : x = y → X = some r → W p l e R s m args below meth c H locs 0 0 Q (F0 m tgt ls rest)) (kf : ¬ x = y → Y = some r → W p l e R s m args below meth c H locs 0 0 Q (F0 m (pc + 3) ls rest)) : W p l e R s m args below meth c H locs 0 0 Q (F0 m pc ls (.int y :: .int x :: rest)) :=
  lv_icmp_eq hexec hb hdg ht (fun q => kt q ((if_pos q).symm.trans h)) (fun q => kf q ((if_neg q).symm.trans h))
theorem x_if_ne {x : Int32} {X Y : Option β} {off : Int} {tgt : Nat} (hexec : p.tables.exec = Jvm.exec) (hb : c.code = cc) (hdg : decode cc pc = .ok (.ifCond .ne off, 3)) (ht : (pc : Int) + off = (tgt : Int)) (h : (if x = 0 then X else Y) = some r)
    (kt : ¬ x = 0 → Y = some r → W p l e R s m args below meth c H locs 0 0 Q (F0 m tgt ls rest)) (kf : x = 0 → X = some r → W p l e R s m args below meth c H locs 0 0 Q (F0 m (pc + 3) ls rest)) : W p l e R s m args below meth c H locs 0 0 Q (F0 m pc ls (.int x :: rest)) :=
  lv_if_ne hexec hb hdg ht (fun q => kt q ((if_neg q).symm.trans h)) (fun q => kf q ((if_pos q).symm.trans h))
theorem x_icmp_ne {x y : Int32} {X Y : Option β} {off : Int} {tgt : Nat} (hexec : p.tables.exec = Jvm.exec) (hb : c.code = cc) (hdg : decode cc pc = .ok (.if_icmp .ne off, 3)) (ht : (pc : Int) + off = (tgt : Int)) (h : (if x = y then X else Y) = some r)
    (kt : ¬ x = y → Y = some r → W p l e R s m args below meth c H locs 0 0 Q (F0 m tgt ls rest)) (kf : x = y → X = some r → W p l e R s m args below meth c H locs 0 0 Q (F0 m (pc + 3) ls rest)) : W p l e R s m args below meth c H locs 0 0 Q (F0 m pc ls (.int y :: .int x :: rest)) :=
  lv_icmp_ne hexec hb hdg ht (fun q => kt q ((if_neg q).symm.trans h)) (fun q => kf q ((if_pos q).symm.trans h))
theorem x_if_lt {x : Int32} {X Y : Option β} {off : Int} {tgt : Nat} (hexec : p.tables.exec = Jvm.exec) (hb : c.code = cc) (hdg : decode cc pc = .ok (.ifCond .lt off, 3)) (ht : (pc : Int) + off = (tgt : Int)) (h : (if x < 0 then X else Y) = some r)
    (kt : x < 0 → X = some r → W p l e R s m args below meth c H locs 0 0 Q (F0 m tgt ls rest)) (kf : ¬ x < 0 → Y = some r → W p l e R s m args below meth c H locs 0 0 Q (F0 m (pc + 3) ls rest)) : W p l e R s m args below meth c H locs 0 0 Q (F0 m pc ls (.int x :: rest)) :=
  lv_if_lt hexec hb hdg ht (fun q => kt q ((if_pos q).symm.trans h)) (fun q => kf q ((if_neg q).symm.trans h))
theorem x_icmp_lt {x y : Int32} {X Y : Option β} {off : Int} {tgt : Nat} (hexec : p.tables.exec = Jvm.exec) (hb : c.code = cc) (hdg : decode cc pc = .ok (.if_icmp .lt off, 3)) (ht : (pc : Int) + off = (tgt : Int)) (h : (if x < y then X else Y) = some r)
    (kt : x < y → X = some r → W p l e R s m args below meth c H locs 0 0 Q (F0 m tgt ls rest)) (kf : ¬ x < y → Y = some r → W p l e R s m args below meth c H locs 0 0 Q (F0 m (pc + 3) ls rest)) : W p l e R s m args below meth c H locs 0 0 Q (F0 m pc ls (.int y :: .int x :: rest)) :=
  lv_icmp_lt hexec hb hdg ht (fun q => kt q ((if_pos q).symm.trans h)) (fun q => kf q ((if_neg q).symm.trans h))
theorem x_if_ge {x : Int32} {X Y : Option β} {off : Int} {tgt : Nat} (hexec : p.tables.exec = Jvm.exec) (hb : c.code = cc) (hdg : decode cc pc = .ok (.ifCond .ge off, 3)) (ht : (pc : Int) + off = (tgt : Int)) (h : (if 0 ≤ x then X else Y) = some r)
    (kt : 0 ≤ x → X = some r → W p l e R s m args below meth c H locs 0 0 Q (F0 m tgt ls rest)) (kf : ¬ 0 ≤ x → Y = some r → W p l e R s m args below meth c H locs 0 0 Q (F0 m (pc + 3) ls rest)) : W p l e R s m args below meth c H locs 0 0 Q (F0 m pc ls (.int x :: rest)) :=
  lv_if_ge hexec hb hdg ht (fun q => kt q ((if_pos q).symm.trans h)) (fun q => kf q ((if_neg q).symm.trans h))
theorem x_icmp_ge {x y : Int32} {X Y : Option β} {off : Int} {tgt : Nat} (hexec : p.tables.exec = Jvm.exec) (hb : c.code = cc) (hdg : decode cc pc = .ok (.if_icmp .ge off, 3)) (ht : (pc : Int) + off = (tgt : Int)) (h : (if y ≤ x then X else Y) = some r)
    (kt : y ≤ x → X = some r → W p l e R s m args below meth c H locs 0 0 Q (F0 m tgt ls rest)) (kf : ¬ y ≤ x → Y = some r → W p l e R s m args below meth c H locs 0 0 Q (F0 m (pc + 3) ls rest)) : W p l e R s m args below meth c H locs 0 0 Q (F0 m pc ls (.int y :: .int x :: rest)) :=
  lv_icmp_ge hexec hb hdg ht (fun q => kt q ((if_pos q).symm.trans h)) (fun q => kf q ((if_neg q).symm.trans h))
theorem x_if_gt {x : Int32} {X Y : Option β} {off : Int} {tgt : Nat} (hexec : p.tables.exec = Jvm.exec) (hb : c.code = cc) (hdg : decode cc pc = .ok (.ifCond .gt off, 3)) (ht : (pc : Int) + off = (tgt : Int)) (h : (if 0 < x then X else Y) = some r)
    (kt : 0 < x → X = some r → W p l e R s m args below meth c H locs 0 0 Q (F0 m tgt ls rest)) (kf : ¬ 0 < x → Y = some r → W p l e R s m args below meth c H locs 0 0 Q (F0 m (pc + 3) ls rest)) : W p l e R s m args below meth c H locs 0 0 Q (F0 m pc ls (.int x :: rest)) :=
  lv_if_gt hexec hb hdg ht (fun q => kt q ((if_pos q).symm.trans h)) (fun q => kf q ((if_neg q).symm.trans h))
theorem x_icmp_gt {x y : Int32} {X Y : Option β} {off : Int} {tgt : Nat} (hexec : p.tables.exec = Jvm.exec) (hb : c.code = cc) (hdg : decode cc pc = .ok (.if_icmp .gt off, 3)) (ht : (pc : Int) + off = (tgt : Int)) (h : (if y < x then X else Y) = some r)
    (kt : y < x → X = some r → W p l e R s m args below meth c H locs 0 0 Q (F0 m tgt ls rest)) (kf : ¬ y < x → Y = some r → W p l e R s m args below meth c H locs 0 0 Q (F0 m (pc + 3) ls rest)) : W p l e R s m args below meth c H locs 0 0 Q (F0 m pc ls (.int y :: .int x :: rest)) :=
  lv_icmp_gt hexec hb hdg ht (fun q => kt q ((if_pos q).symm.trans h)) (fun q => kf q ((if_neg q).symm.trans h))
theorem x_if_le {x : Int32} {X Y : Option β} {off : Int} {tgt : Nat} (hexec : p.tables.exec = Jvm.exec) (hb : c.code = cc) (hdg : decode cc pc = .ok (.ifCond .le off, 3)) (ht : (pc : Int) + off = (tgt : Int)) (h : (if x ≤ 0 then X else Y) = some r)
    (kt : x ≤ 0 → X = some r → W p l e R s m args below meth c H locs 0 0 Q (F0 m tgt ls rest)) (kf : ¬ x ≤ 0 → Y = some r → W p l e R s m args below meth c H locs 0 0 Q (F0 m (pc + 3) ls rest)) : W p l e R s m args below meth c H locs 0 0 Q (F0 m pc ls (.int x :: rest)) :=
  lv_if_le hexec hb hdg ht (fun q => kt q ((if_pos q).symm.trans h)) (fun q => kf q ((if_neg q).symm.trans h))
theorem x_icmp_le {x y : Int32} {X Y : Option β} {off : Int} {tgt : Nat} (hexec : p.tables.exec = Jvm.exec) (hb : c.code = cc) (hdg : decode cc pc = .ok (.if_icmp .le off, 3)) (ht : (pc : Int) + off = (tgt : Int)) (h : (if x ≤ y then X else Y) = some r)
    (kt : x ≤ y → X = some r → W p l e R s m args below meth c H locs 0 0 Q (F0 m tgt ls rest)) (kf : ¬ x ≤ y → Y = some r → W p l e R s m args below meth c H locs 0 0 Q (F0 m (pc + 3) ls rest)) : W p l e R s m args below meth c H locs 0 0 Q (F0 m pc ls (.int y :: .int x :: rest)) :=
  lv_icmp_le hexec hb hdg ht (fun q => kt q ((if_pos q).symm.trans h)) (fun q => kf q ((if_neg q).symm.trans h))
end
theorem tw_f0 : ∀ w ∈ u_ws RX0 TX0 8, w ∈ tw := by decide +kernel
theorem cok0 : cok 0 RX0 TX0 8 := ⟨rfl, rfl, by decide, tw_f0, ⟨tyX0, tyX0_ok⟩, nmX0⟩
theorem tw_f1 : ∀ w ∈ u_ws RX1 TX1 5, w ∈ tw := by decide +kernel
theorem cok1 : cok 1 RX1 TX1 5 := ⟨rfl, rfl, by decide, tw_f1, ⟨tyX1, tyX1_ok⟩, nmX1⟩
theorem tw_f2 : ∀ w ∈ u_ws RX3 TX3 2, w ∈ tw := by decide +kernel
theorem cok2 : cok 2 RX3 TX3 2 := ⟨rfl, rfl, by decide, tw_f2, ⟨tyX3, tyX3_ok⟩, nmX3⟩
theorem tw_f3 : ∀ w ∈ u_ws RX4 TX4 14, w ∈ tw := by decide +kernel
theorem cok3 : cok 3 RX4 TX4 14 := ⟨rfl, rfl, by decide, tw_f3, ⟨tyX4, tyX4_ok⟩, nmX4⟩
theorem tw_f4 : ∀ w ∈ u_ws RX5 TX5 12, w ∈ tw := by decide +kernel
theorem cok4 : cok 4 RX5 TX5 12 := ⟨rfl, rfl, by decide, tw_f4, ⟨tyX5, tyX5_ok⟩, nmX5⟩
theorem tw_f5 : ∀ w ∈ u_ws RX7 TX7 3, w ∈ tw := by decide +kernel
theorem cok5 : cok 5 RX7 TX7 3 := ⟨rfl, rfl, by decide, tw_f5, ⟨tyX7, tyX7_ok⟩, nmX7⟩
theorem nw0 : ((RX4, 23, yX0_init, "OwnerlessCoin") ∈ nwl) := List.mem_of_getElem? (i := 0) rfl
theorem nw1 : ((RX4, 44, yX5_init, "OwnerlessCoin") ∈ nwl) := List.mem_of_getElem? (i := 1) rfl
theorem nw2 : ((RX7, 25, yX1_init, "OwnerlessCoin") ∈ nwl) := List.mem_of_getElem? (i := 2) rfl
theorem nw3 : ((RX4, 76, yX7_has, "OwnerlessCoin") ∈ nwl) := List.mem_of_getElem? (i := 3) rfl
theorem nw4 : ((RX4, 103, yX7_mix, "OwnerlessCoin") ∈ nwl) := List.mem_of_getElem? (i := 4) rfl
theorem nw5 : ((RX5, 55, yX7_power, "OwnerlessCoin") ∈ nwl) := List.mem_of_getElem? (i := 5) rfl
theorem nw6 : ((RX5, 59, yX7_stepped, "OwnerlessCoin") ∈ nwl) := List.mem_of_getElem? (i := 6) rfl
theorem nw7 : ((RX5, 63, yX7_drawn, "OwnerlessCoin") ∈ nwl) := List.mem_of_getElem? (i := 7) rfl
theorem nw8 : ((RX6, 10, yX7_product, "OwnerlessCoin") ∈ nwl) := List.mem_of_getElem? (i := 8) rfl
theorem nw9 : ((RX5, 75, yX7_product, "OwnerlessCoin") ∈ nwl) := List.mem_of_getElem? (i := 9) rfl
theorem nw10 : ((RX1, 70, yX7_has, "OwnerlessCoin") ∈ nwl) := List.mem_of_getElem? (i := 10) rfl
theorem nw11 : ((RX2, 47, yX7_has, "OwnerlessCoin") ∈ nwl) := List.mem_of_getElem? (i := 11) rfl
theorem nw12 : ((RX2, 51, yX7_stepped, "OwnerlessCoin") ∈ nwl) := List.mem_of_getElem? (i := 12) rfl
theorem nw13 : ((RX2, 55, yX7_drawn, "OwnerlessCoin") ∈ nwl) := List.mem_of_getElem? (i := 13) rfl
theorem nw14 : ((RX5, 78, yX7_has, "OwnerlessCoin") ∈ nwl) := List.mem_of_getElem? (i := 14) rfl
