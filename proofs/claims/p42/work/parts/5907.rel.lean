/-! closed facts, truth values, the relation between the class's lab and the model's row -/
theorem ib_0 : inb 0 420 = true := by decide
theorem ib_1 : inb 1 420 = true := by decide
theorem ib_2 : inb 2 420 = true := by decide
theorem ib_3 : inb 3 420 = true := by decide
theorem ib_4 : inb 4 420 = true := by decide
theorem ib_5 : inb 5 420 = true := by decide
theorem ib_6 : inb 6 420 = true := by decide
theorem ib_7 : inb 7 420 = true := by decide
theorem ib_8 : inb 8 420 = true := by decide
theorem ib_9 : inb 9 420 = true := by decide
theorem ib_10 : inb 10 420 = true := by decide
theorem ib_11 : inb 11 420 = true := by decide
theorem ib_12 : inb 12 420 = true := by decide
theorem ib_13 : inb 13 420 = true := by decide
theorem ib3_4 : inb 3 4 = true := by decide
theorem ib0_4 : inb 0 4 = true := by decide
theorem cl_0 : (0 : Int32).toNatClampNeg = 0 := by decide
theorem cl_1 : (1 : Int32).toNatClampNeg = 1 := by decide
theorem cl_2 : (2 : Int32).toNatClampNeg = 2 := by decide
theorem cl_3 : (3 : Int32).toNatClampNeg = 3 := by decide
theorem cl_4 : (4 : Int32).toNatClampNeg = 4 := by decide
theorem cl_5 : (5 : Int32).toNatClampNeg = 5 := by decide
theorem cl_6 : (6 : Int32).toNatClampNeg = 6 := by decide
theorem cl_7 : (7 : Int32).toNatClampNeg = 7 := by decide
theorem cl_8 : (8 : Int32).toNatClampNeg = 8 := by decide
theorem cl_9 : (9 : Int32).toNatClampNeg = 9 := by decide
theorem cl_10 : (10 : Int32).toNatClampNeg = 10 := by decide
theorem cl_11 : (11 : Int32).toNatClampNeg = 11 := by decide
theorem cl_12 : (12 : Int32).toNatClampNeg = 12 := by decide
theorem cl_13 : (13 : Int32).toNatClampNeg = 13 := by decide
def b2 (b : Bool) : Int32 := if b = true then 1 else 0
theorem b2_eq0 (b : Bool) : (b2 b = 0) = (b = false) := by cases b <;> simp [b2]
theorem b2_eq1 (b : Bool) : (b2 b = 1) = (b = true) := by cases b <;> simp [b2]
theorem isB_b2 (b : Bool) : isB (b2 b) = true := by cases b <;> rfl
theorem isB_0 : isB 0 = true := by decide
theorem isB_1 : isB 1 = true := by decide
theorem b2_if (b : Bool) : (if b = true then (1 : Int32) else 0) = b2 b := rfl
theorem b2_t : b2 true = 1 := rfl
theorem b2_f : b2 false = 0 := rfl
def wi (x lo hi : Int32) : Bool := !decide (x < lo) && !decide (hi < x)
theorem e_isWithin (x lo hi : Int32) : f_X7_isWithin x lo hi = some (b2 (wi x lo hi)) := by
  simp only [f_X7_isWithin_b15, f_X7_isWithin_b14, f_X7_isWithin, wi]
  by_cases h1 : x < lo
  · simp [h1, isB_0, ck_t, b2]
  · by_cases h2 : hi < x
    · simp [h1, h2, isB_0, ck_t, b2]
    · simp [h1, h2, isB_1, ck_t, b2]
theorem e_in (x lo hi : Int32) : f_X8_in x lo hi = some (b2 (wi x lo hi)) := by
  simp only [f_X8_in_b15, f_X8_in_b14, f_X8_in, wi]
  by_cases h1 : x < lo
  · simp [h1, isB_0, ck_t, b2]
  · by_cases h2 : hi < x
    · simp [h1, h2, isB_0, ck_t, b2]
    · simp [h1, h2, isB_1, ck_t, b2]
theorem e_has (f : Nat → Bool) {k : Nat} (hk : k < 8) : f_X7_has (bs f) (nI k) = some (b2 (f k)) := by
  simp only [f_X7_has_b14, f_X7_has, ob1_s, ob2_s, ck_t, lb_e, bs_has f hk]
  cases f k <;> simp [isB_0, isB_1, ck_t, b2]
/-- x is the number of one of the first m -/
def pers (m : Nat) (x : Int32) : Bool := decide (0 ≤ x.toInt ∧ x.toInt < m)
theorem pers_ex {m : Nat} (hm : m ≤ 8) {x : Int32} (h : pers m x = true) : ∃ k, k < m ∧ x = nI k := by
  simp only [pers, decide_eq_true_eq] at h
  refine ⟨x.toInt.toNat, by omega, ?_⟩
  apply Int32.toInt_inj.mp
  rw [nI_toInt (by omega)]
  omega
theorem pers_nI {m k : Nat} (hk : k < 2 ^ 31) : pers m (nI k) = decide (k < m) := by
  unfold pers
  rw [nI_toInt hk]
  by_cases h : k < m
  · simp [h]
  · simp [h]
theorem e_isPart {m : Nat} (hm : m ≤ 8) {I : St} (h : I 0 3 = nI m) (x : Int32) : f_X4_isParticipant x I = some (b2 (pers m x)) := by
  have z : (0 : Int32).toInt = 0 := by decide
  have z8 : (8 : Int32).toInt = 8 := by decide
  have zm : (nI m).toInt = m := nI_toInt (by omega)
  simp only [f_X4_isParticipant_b23, f_X4_isParticipant_b22, f_X4_isParticipant, h, pers]
  by_cases h1 : x < 0
  · have := Int32.lt_iff_toInt_lt.mp h1
    have e : ¬ (0 ≤ x.toInt ∧ x.toInt < (m : Int)) := by omega
    simp [h1, isB_0, ck_t, b2, e]
  · by_cases h2 : nI m ≤ x
    · have := Int32.le_iff_toInt_le.mp h2
      have e : ¬ (0 ≤ x.toInt ∧ x.toInt < (m : Int)) := by omega
      simp [h1, h2, isB_0, ck_t, b2, e]
    · have g1 : ¬ x.toInt < (0 : Int32).toInt := fun q => h1 (Int32.lt_iff_toInt_lt.mpr q)
      have g2 : ¬ (nI m).toInt ≤ x.toInt := fun q => h2 (Int32.le_iff_toInt_le.mpr q)
      have h3 : ¬ (8 : Int32) ≤ x := fun q => by
        have := Int32.le_iff_toInt_le.mp q
        omega
      have e : (0 ≤ x.toInt ∧ x.toInt < (m : Int)) := by omega
      simp [h1, h2, h3, isB_1, ck_t, b2, e]
theorem e_isPerson {m : Nat} (hm : m ≤ 8) {M : St} (h : M 1 4 = nI m) (x : Int32) : f_X8_isPerson x M = some (b2 (pers m x)) := by
  have z : (0 : Int32).toInt = 0 := by decide
  have zm : (nI m - 1).toInt = (m : Int) - 1 := by
    have := pk_sub_toInt (a := m) (b := 1) (by omega) (by omega)
    exact this
  simp only [f_X8_isPerson, ib_0, ib_1, ib_2, ib_3, ib_4, ib_5, ib_6, ib_7, ib_8, ib_9, ib_10, ib_11, ib_12, ib_13, ib3_4, ib0_4, cl_0, cl_1, cl_2, cl_3, cl_4, cl_5, cl_6, cl_7, cl_8, cl_9, cl_10, cl_11, cl_12, cl_13, ob1_s, ob2_s, ck_t, lb_e, h, e_in, isB_b2]
  refine congrArg (fun z => some (b2 z)) ?_
  unfold wi pers
  by_cases h1 : x < 0
  · have := Int32.lt_iff_toInt_lt.mp h1
    have e : ¬ (0 ≤ x.toInt ∧ x.toInt < (m : Int)) := by omega
    simp [h1, e]
  · have g1 : ¬ x.toInt < (0 : Int32).toInt := fun q => h1 (Int32.lt_iff_toInt_lt.mpr q)
    by_cases h2 : nI m - 1 < x
    · have := Int32.lt_iff_toInt_lt.mp h2
      have e : ¬ (0 ≤ x.toInt ∧ x.toInt < (m : Int)) := by omega
      simp [h2, e]
    · have g2 : ¬ (nI m - 1).toInt < x.toInt := fun q => h2 (Int32.lt_iff_toInt_lt.mpr q)
      have e : (0 ≤ x.toInt ∧ x.toInt < (m : Int)) := by omega
      simp [h1, h2, e]
theorem e_person (p : Nat) : f_X8_person (nI p) = some (nI (20 + 40 * p)) := by
  simp only [f_X8_person, lit_nI, pk_mul, nI_add]
theorem e_mhas {p w : Nat} (hp : p < 8) (hw : w < 40) (M : St) : f_X8_has (nI p) (nI w) M = some (b2 (decide (M 1 (20 + 40 * p + w) = 1))) := by
  have i1 : inb (nI (20 + 40 * p + w)) 420 = true := inb_nI (by omega) (by decide)
  have i2 : (nI (20 + 40 * p + w)).toNatClampNeg = 20 + 40 * p + w := nI_clamp (by omega)
  simp only [f_X8_has_b20, f_X8_has, e_person, ob1_s, ob2_s, ck_t, lb_e, nI_add, i1, i2, isB_0, isB_1]
  by_cases h : M 1 (20 + 40 * p + w) = 1 <;> simp [h, b2]
/-- a flag of one of the first m -/
def fl (m : Nat) (v : Nat → Int32) (w p : Nat) : Bool := decide (p < m) && decide (v (20 + 40 * p + w) = 1)
/-- the model's place of a place of the class's lab -/
def pr (j k : Nat) : Option Nat :=
  if j = 0 then (if k = 3 then some 4 else if k = 4 then some 2 else if k = 5 then some 5 else if k = 6 then some 6 else if k = 7 then some 7 else if k = 8 then some 8 else if k = 9 then some 0 else none)
  else if j = 2 then (if k < 8 then some (20 + 40 * k + 9) else none)
  else if j = 3 then (if k = 0 then some 1 else if k = 1 then some 3 else if k = 2 then some 9 else if k = 3 then some 10 else if k = 4 then some 13 else if k = 5 then some 11 else none)
  else if j = 4 then (if k < 96 then (if k % 6 = 0 then some (340 + 5 * (k / 6)) else if k % 6 = 1 then some (340 + 5 * (k / 6) + 1) else if k % 6 = 2 then some (340 + 5 * (k / 6) + 2) else if k % 6 = 4 then some (340 + 5 * (k / 6) + 3) else if k % 6 = 5 then some (340 + 5 * (k / 6) + 4) else none) else none)
  else if 5 ≤ j ∧ j < 13 then (if k = 0 then some (20 + 40 * (j - 5) + 0) else if k = 1 then some (20 + 40 * (j - 5) + 4) else if k = 2 then some (20 + 40 * (j - 5) + 1) else if k = 3 then some (20 + 40 * (j - 5) + 2) else if k = 4 then some (20 + 40 * (j - 5) + 3) else if k = 5 then some (20 + 40 * (j - 5) + 10) else if k = 6 then some (20 + 40 * (j - 5) + 11) else if k = 7 then some (20 + 40 * (j - 5) + 12) else if k = 8 then some (20 + 40 * (j - 5) + 13) else none)
  else if 13 ≤ j ∧ j < 21 then (if k < 8 then some (20 + 40 * (j - 13) + 22 + k) else none)
  else none
/-- the class's place of a model's place -/
def ip (i : Nat) : Option (Nat × Nat) :=
  if i < 20 then (if i = 0 then some (0, 9) else if i = 1 then some (3, 0) else if i = 2 then some (0, 4) else if i = 3 then some (3, 1) else if i = 4 then some (0, 3) else if i = 5 then some (0, 5) else if i = 6 then some (0, 6) else if i = 7 then some (0, 7) else if i = 8 then some (0, 8) else if i = 9 then some (3, 2) else if i = 10 then some (3, 3) else if i = 11 then some (3, 5) else if i = 13 then some (3, 4) else none)
  else if i < 340 then
    (if (i - 20) % 40 = 0 then some (5 + (i - 20) / 40, 0) else if (i - 20) % 40 = 4 then some (5 + (i - 20) / 40, 1) else if (i - 20) % 40 = 1 then some (5 + (i - 20) / 40, 2) else if (i - 20) % 40 = 2 then some (5 + (i - 20) / 40, 3) else if (i - 20) % 40 = 3 then some (5 + (i - 20) / 40, 4) else if (i - 20) % 40 = 10 then some (5 + (i - 20) / 40, 5) else if (i - 20) % 40 = 11 then some (5 + (i - 20) / 40, 6) else if (i - 20) % 40 = 12 then some (5 + (i - 20) / 40, 7) else if (i - 20) % 40 = 13 then some (5 + (i - 20) / 40, 8) else if (i - 20) % 40 = 9 then some (2, (i - 20) / 40) else if 22 ≤ (i - 20) % 40 ∧ (i - 20) % 40 < 30 then some (13 + (i - 20) / 40, (i - 20) % 40 - 22) else none)
  else if i < 420 then (if (i - 340) % 5 = 0 then some (4, 6 * ((i - 340) / 5)) else if (i - 340) % 5 = 1 then some (4, 6 * ((i - 340) / 5) + 1) else if (i - 340) % 5 = 2 then some (4, 6 * ((i - 340) / 5) + 2) else if (i - 340) % 5 = 3 then some (4, 6 * ((i - 340) / 5) + 4) else some (4, 6 * ((i - 340) / 5) + 5))
  else none
theorem pr_ip_all : ∀ j, j < 29 → ∀ k, k < 96 → (match pr j k with | none => true | some i => decide (i < 420) && decide (ip i = some (j, k))) = true := by decide +kernel
theorem pr_out {j k : Nat} (h : 29 ≤ j ∨ 96 ≤ k) : pr j k = none := by
  rcases h with h | h
  · unfold pr
    rw [if_neg (by omega), if_neg (by omega), if_neg (by omega), if_neg (by omega), if_neg (by omega), if_neg (by omega)]
  · unfold pr
    simp [show ¬ k = 0 by omega, show ¬ k = 1 by omega, show ¬ k = 2 by omega, show ¬ k = 3 by omega, show ¬ k = 4 by omega, show ¬ k = 5 by omega, show ¬ k = 6 by omega, show ¬ k = 7 by omega, show ¬ k = 8 by omega, show ¬ k = 9 by omega, show ¬ k < 8 by omega, show ¬ k < 96 by omega]
theorem pr_dom {j k i : Nat} (h : pr j k = some i) : j < 29 ∧ k < 96 := by
  refine ⟨Nat.lt_of_not_le fun q => ?_, Nat.lt_of_not_le fun q => ?_⟩
  · rw [pr_out (Or.inl q)] at h; cases h
  · rw [pr_out (Or.inr q)] at h; cases h
theorem pr_ip {j k i : Nat} (h : pr j k = some i) : i < 420 ∧ ip i = some (j, k) := by
  obtain ⟨h1, h2⟩ := pr_dom h
  have := pr_ip_all j h1 k h2
  rw [h] at this
  simpa using this
def LE (L : St) (v : Nat → Int32) : Prop := ∀ j k i, pr j k = some i → L j k = v i
theorem LE_set {L : St} {v : Nat → Int32} (h : LE L v) {j k i : Nat} (hp : pr j k = some i) (x : Int32) : LE (u2 L j k x) (upd v i x) := by
  intro j' k' i' h'
  rw [u2_ap, upd_ap]
  have e1 := (pr_ip hp).2
  have e2 := (pr_ip h').2
  by_cases hi : i' = i
  · subst hi
    rw [e1] at e2
    cases e2
    simp
  · rw [if_neg hi]
    by_cases hj : j' = j
    · rw [if_pos hj]
      by_cases hk : k' = k
      · subst hj; subst hk
        rw [hp] at h'
        cases h'
        exact absurd rfl hi
      · rw [if_neg hk]
        subst hj
        exact h _ _ _ h'
    · rw [if_neg hj]
      exact h _ _ _ h'
theorem LE_cls {L : St} {v : Nat → Int32} (h : LE L v) {j k : Nat} (hp : pr j k = none) (x : Int32) : LE (u2 L j k x) v := by
  intro j' k' i' h'
  rw [u2_ap]
  by_cases hj : j' = j
  · rw [if_pos hj]
    by_cases hk : k' = k
    · subst hj; subst hk
      rw [hp] at h'
      cases h'
    · rw [if_neg hk]
      subst hj
      exact h _ _ _ h'
  · rw [if_neg hj]
    exact h _ _ _ h'
theorem LE_mod {L : St} {v : Nat → Int32} (h : LE L v) {i : Nat} (hp : ip i = none) (x : Int32) : LE L (upd v i x) := by
  intro j' k' i' h'
  rw [upd_ap]
  by_cases hi : i' = i
  · subst hi
    rw [(pr_ip h').2] at hp
    cases hp
  · rw [if_neg hi]
    exact h _ _ _ h'
theorem LE_far {L L' : St} {v : Nat → Int32} (h : LE L v) (hL : ∀ o, o < 29 → L' o = L o) : LE L' v := fun j k i hp => by rw [hL j (pr_dom hp).1]; exact h j k i hp
theorem prS (s : Nat) (h : s < 16) : pr 4 (6 * s) = some (340 + 5 * s) ∧ pr 4 (6 * s + 1) = some (340 + 5 * s + 1) ∧ pr 4 (6 * s + 2) = some (340 + 5 * s + 2) ∧ pr 4 (6 * s + 3) = none ∧ pr 4 (6 * s + 4) = some (340 + 5 * s + 3) ∧ pr 4 (6 * s + 5) = some (340 + 5 * s + 4) := by
  have : ∀ s, s < 16 → pr 4 (6 * s) = some (340 + 5 * s) ∧ pr 4 (6 * s + 1) = some (340 + 5 * s + 1) ∧ pr 4 (6 * s + 2) = some (340 + 5 * s + 2) ∧ pr 4 (6 * s + 3) = none ∧ pr 4 (6 * s + 4) = some (340 + 5 * s + 3) ∧ pr 4 (6 * s + 5) = some (340 + 5 * s + 4) := by decide
  exact this s h
theorem prP (p : Nat) (h : p < 8) : pr (5 + p) 0 = some (20 + 40 * p + 0) ∧ pr (5 + p) 1 = some (20 + 40 * p + 4) ∧ pr (5 + p) 2 = some (20 + 40 * p + 1) ∧ pr (5 + p) 3 = some (20 + 40 * p + 2) ∧ pr (5 + p) 4 = some (20 + 40 * p + 3) ∧ pr (5 + p) 5 = some (20 + 40 * p + 10) ∧ pr (5 + p) 6 = some (20 + 40 * p + 11) ∧ pr (5 + p) 7 = some (20 + 40 * p + 12) ∧ pr (5 + p) 8 = some (20 + 40 * p + 13) ∧ pr (5 + p) 9 = none ∧ pr 2 p = some (20 + 40 * p + 9) := by
  have : ∀ p, p < 8 → pr (5 + p) 0 = some (20 + 40 * p + 0) ∧ pr (5 + p) 1 = some (20 + 40 * p + 4) ∧ pr (5 + p) 2 = some (20 + 40 * p + 1) ∧ pr (5 + p) 3 = some (20 + 40 * p + 2) ∧ pr (5 + p) 4 = some (20 + 40 * p + 3) ∧ pr (5 + p) 5 = some (20 + 40 * p + 10) ∧ pr (5 + p) 6 = some (20 + 40 * p + 11) ∧ pr (5 + p) 7 = some (20 + 40 * p + 12) ∧ pr (5 + p) 8 = some (20 + 40 * p + 13) ∧ pr (5 + p) 9 = none ∧ pr 2 p = some (20 + 40 * p + 9) := by decide
  exact this p h
theorem prSh (p j : Nat) (h : p < 8) (hj : j < 8) : pr (5 + p + 8) j = some (20 + 40 * p + 22 + j) := by
  have : ∀ p, p < 8 → ∀ j, j < 8 → pr (5 + p + 8) j = some (20 + 40 * p + 22 + j) := by decide
  exact this p h j hj
/-- the polynomial by Horner's rule, from the highest of d coefficients down -/
def hq (c : Nat → Nat) (x : Nat) : Nat → Nat → Nat
  | 0, s => s
  | d + 1, s => hq c x d ((s * x + c d) % 1019)
def co (v : Nat → Int32) (p k : Nat) : Nat := (v (20 + 40 * p + 14 + k)).toNatClampNeg
/-- share j of p is what the polynomial says -/
def gd (t : Nat) (v : Nat → Int32) (p j : Nat) : Bool := decide (v (20 + 40 * p + 22 + j) = nI (hq (co v p) (j + 1) t 0))
/-- what has been dealt by p -/
def DL (t : Nat) (L : St) (v : Nat → Int32) (p : Nat) : Prop :=
  (∀ k, k < t → ∃ c, c < 1019 ∧ v (20 + 40 * p + 14 + k) = nI c ∧ L (5 + p + 16) k = nI (4 ^ c % 2039)) ∧ (∀ j, j < 8 → ∃ s, s < 1019 ∧ v (20 + 40 * p + 22 + j) = nI s) ∧ L (5 + p) 9 = bs (gd t v p)
/-- the round that is going on -/
def RP (m t : Nat) (L : St) (v : Nat → Int32) : Prop :=
  L 0 10 = bs (fl m v 5) ∧ L 0 11 = bs (fun p => fl m v 5 p && fl m v 6 p) ∧ L 0 12 = bs (fun p => fl m v 5 p && fl m v 7 p) ∧ L 0 13 = bs (fl m v 8) ∧ (v 0 = 1 → ∀ p, p < 8 → fl m v 7 p = false) ∧ (v 0 = 2 → ∀ p, p < 8 → fl m v 5 p = true → fl m v 6 p = true) ∧ (v 5 = 1 → ∀ p, p < 8 → fl m v 5 p = true → fl m v 6 p = true → DL t L v p)
/-- bounds -/
def WV (m e t n : Nat) (v : Nat → Int32) : Prop :=
  m ≤ 8 ∧ v 4 = nI m ∧ e ≤ n ∧ v 1 = nI e ∧ 1 ≤ t ∧ t ≤ 8 ∧ v 6 = nI t ∧ (v 0 = 0 ∨ v 0 = 1 ∨ v 0 = 2) ∧ (v 5 = 0 ∨ v 5 = 1 ∨ v 5 = 2) ∧ (∃ d, d ≤ 5000 ∧ v 8 = nI d) ∧ (∃ r q, r ≤ e ∧ v 11 = nI r ∧ q ≤ e ∧ v 13 = nI q)
/-- the class's entries that the model works out -/
def UN (L : St) (v : Nat → Int32) : Prop := ∀ s, s < 16 → ∃ f : Nat → Bool, v (340 + 5 * s + 1) = bs f ∧ L 4 (6 * s + 3) = if v (340 + 5 * s) = -5 then 0 else nI (cnt8 f) - v (340 + 5 * s + 2)
def LR (n : Nat) (L : St) (v : Nat → Int32) : Prop := ∃ m e t, LE L v ∧ WV m e t n v ∧ UN L v ∧ (v 11 = 0 ∨ L 3 6 = v 12) ∧ (v 0 ≠ 0 → RP m t L v)
