/-! what the calls that only read answer -/
def Rd (a b : Option Int32) : Prop := ∃ r, a = some r ∧ b = some r
theorem or_0 (f : Nat → Bool) : bs f ||| 0 = bs f := by
  rw [bs_zero, bs_or]
  exact bs_congr fun p _ => by simp
theorem e_setOf_l {m w : Nat} (hm : m ≤ 8) (hw : w < 40) {M : St} (h : M 1 4 = nI m) : ∀ (d i F : Nat), i + d = m → d < F → f_X8_setOf_l4 F (nI w) (bs (fun p => decide (p < i) && fl m (M 1) w p)) (nI i) M = some (bs (fl m (M 1) w)) := by
  intro d
  induction d with
  | zero =>
    intro i F hi hF
    obtain ⟨F, rfl⟩ : ∃ g, F = g + 1 := ⟨F - 1, by omega⟩
    have hi2 : i = m := by omega
    subst hi2
    rw [f_X8_setOf_l4, ib_4, ck_t, cl_4, h, if_pos (nI_le (Nat.le_refl _) (by omega))]
    refine congrArg some (bs_congr fun p _ => ?_)
    by_cases hp : p < i <;> simp [fl, hp]
  | succ d ih =>
    intro i F hi hF
    obtain ⟨F, rfl⟩ : ∃ g, F = g + 1 := ⟨F - 1, by omega⟩
    have hstep : ∀ b : Bool, fl m (M 1) w i = b → bs (fun p => decide (p < i) && fl m (M 1) w p) ||| (if b = true then ishl 1 (nI i) else 0) = bs (fun p => decide (p < i + 1) && fl m (M 1) w p) := by
      intro b hb
      cases b
      · rw [if_neg (by decide), or_0]
        refine bs_congr fun p _ => ?_
        by_cases hp : p = i
        · subst hp; simp [hb]
        · have : (p < i + 1) ↔ p < i := by omega
          simp [this]
      · rw [if_pos rfl, bs_one (by omega), bs_or]
        refine bs_congr fun p _ => ?_
        by_cases hp : p = i
        · subst hp; simp [hb]
        · have : (p < i + 1) ↔ p < i := by omega
          simp [this, hp]
    have hfl : fl m (M 1) w i = decide (M 1 (20 + 40 * i + w) = 1) := by simp [fl, show i < m by omega]
    rw [f_X8_setOf_l4, ib_4, ck_t, cl_4, h, if_neg (nI_ge (by omega) (by omega)), e_mhas (by omega) hw, ob1_s]
    cases hb : decide (M 1 (20 + 40 * i + w) = 1)
    · rw [if_pos (show b2 false = 0 from rfl), f_X8_setOf_b31, lb_e, nI_1]
      have := hstep false (hfl.trans hb)
      rw [if_neg (by decide)] at this
      rw [this]
      exact ih (i + 1) F (by omega) (by omega)
    · rw [if_neg (show ¬ b2 true = 0 by decide), f_X8_setOf_b31, lb_e, nI_1]
      have := hstep true (hfl.trans hb)
      rw [if_pos rfl] at this
      rw [this]
      exact ih (i + 1) F (by omega) (by omega)
theorem e_setOf {m w : Nat} (hm : m ≤ 8) (hw : w < 40) {M : St} (h : M 1 4 = nI m) : f_X8_setOf (nI w) M = some (bs (fl m (M 1) w)) := by
  rw [f_X8_setOf, lit_nI 0]
  have := e_setOf_l hm hw h m 0 10000 (by omega) (by omega)
  rwa [show bs (fun p => decide (p < 0) && fl m (M 1) w p) = nI 0 from by rw [show nI 0 = (0 : Int32) from rfl, bs_zero]; exact bs_congr fun p _ => by simp] at this
theorem e_countOf (f : Nat → Bool) : f_X8_countOf (bs f) = some (nI (cnt8 f)) := by
  have key : ∀ (d i F c : Nat), i + d = 8 → d < F → f_X8_countOf_l4 F (bs f) (nI c) (nI i) = some (nI (fo (fun p c => c + if f p then 1 else 0) d i c)) := by
    intro d
    induction d with
    | zero =>
      intro i F c hi hF
      obtain ⟨F, rfl⟩ : ∃ g, F = g + 1 := ⟨F - 1, by omega⟩
      rw [f_X8_countOf_l4, if_pos (show (8 : Int32) ≤ nI i from nI_le (a := 8) (b := i) (by omega) (by omega))]
      rfl
    | succ d ih =>
      intro i F c hi hF
      obtain ⟨F, rfl⟩ : ∃ g, F = g + 1 := ⟨F - 1, by omega⟩
      rw [f_X8_countOf_l4, if_neg (show ¬ (8 : Int32) ≤ nI i from nI_ge (a := i) (b := 8) (by omega) (by omega)), lb_e, bs_hasS f (by omega), lb_e, nI_1]
      have e : nI c + (if f i = true then (1 : Int32) else 0) = nI (c + if f i then 1 else 0) := by
        cases f i
        · rw [if_neg (by decide), if_neg (by decide)]
          exact nI_add c 0
        · rw [if_pos rfl, if_pos rfl]
          exact nI_1 c
      rw [e]
      exact ih (i + 1) F _ (by omega) (by omega)
  rw [f_X8_countOf, lit_nI 0, key 8 0 10000 0 rfl (by decide)]
  refine congrArg (fun z => some (nI z)) ?_
  simp only [fo, cnt8, Nat.zero_add, Nat.reduceAdd]
  omega
/-- the relation, opened -/
def LRo (m e t n : Nat) (L : St) (v : Nat → Int32) : Prop := LE L v ∧ WV m e t n v ∧ UN L v ∧ (v 11 = 0 ∨ L 3 6 = v 12) ∧ (v 0 ≠ 0 → RP m t L v)
theorem e_isCom {m t : Nat} {L : St} {v : Nat → Int32} (hph : L 0 9 = v 0) (hr : v 0 ≠ 0 → RP m t L v) {p : Nat} (hp : p < 8) : f_X4_isCommitted (nI p) L = some (b2 (decide (¬ v 0 = 0) && (fl m v 5 p && fl m v 6 p))) := by
  simp only [f_X4_isCommitted_b23, f_X4_isCommitted_b22, f_X4_isCommitted, hph]
  by_cases h : v 0 = 0
  · simp [h, isB_0, ck_t, b2]
  · rw [if_neg h, (hr h).2.1]
    simp only [ob1_s, ob2_s, ck_t, lb_e, e_has _ hp]
    cases hb : (fl m v 5 p && fl m v 6 p) <;> simp [h, isB_0, isB_1, ck_t, b2]
theorem fl_mem {m w p : Nat} {v : Nat → Int32} (hp : p < m) : decide (v (20 + 40 * p + w) = 1) = fl m v w p := by simp [fl, hp]
theorem e_isIn {m : Nat} (hm : m ≤ 8) {M : St} {p : Nat} (hp : p < m) : f_X8_isIn (nI p) M = some (b2 (decide (¬ M 1 0 = 0) && (fl m (M 1) 5 p && fl m (M 1) 6 p))) := by
  simp only [f_X8_isIn_b33, f_X8_isIn_b32, f_X8_isIn, ib_0, ib_1, ib_2, ib_3, ib_4, ib_5, ib_6, ib_7, ib_8, ib_9, ib_10, ib_11, ib_12, ib_13, ib3_4, ib0_4, cl_0, cl_1, cl_2, cl_3, cl_4, cl_5, cl_6, cl_7, cl_8, cl_9, cl_10, cl_11, cl_12, cl_13, ob1_s, ob2_s, ck_t, lb_e]
  by_cases h : M 1 0 = 0
  · simp [h, isB_0, ck_t, b2]
  · rw [if_neg h, lit_nI 5, lit_nI 6, e_mhas (by omega) (by decide), e_mhas (by omega) (by decide), fl_mem hp, fl_mem hp]
    simp only [ob1_s, ob2_s, ck_t, lb_e]
    cases fl m (M 1) 5 p <;> cases fl m (M 1) 6 p <;> simp [h, isB_0, isB_1, ck_t, b2]
def shB (m : Nat) (v : Nat → Int32) (p : Nat) : Bool := decide (v 5 = 1) && (decide (¬ v 0 = 0) && (fl m v 5 p && fl m v 6 p))
theorem e_hasDealt {m t : Nat} {L : St} {v : Nat → Int32} (hph : L 0 9 = v 0) (h5 : L 0 5 = v 5) (hr : v 0 ≠ 0 → RP m t L v) {p : Nat} (hp : p < 8) : f_X4_hasDealt (nI p) L = some (b2 (shB m v p)) := by
  simp only [f_X4_hasDealt_b21, f_X4_hasDealt_b20, f_X4_hasDealt, e_isCom hph hr hp, h5, ob1_s, ob2_s, ck_t, lb_e, shB]
  by_cases h : v 5 = 1
  · cases (decide (¬ v 0 = 0) && (fl m v 5 p && fl m v 6 p)) <;> simp [h, isB_0, isB_1, ck_t, b2]
  · simp [h, isB_0, ck_t, b2]
theorem e_isMember {m : Nat} (hm : m ≤ 8) {M : St} (h : M 1 4 = nI m) {p : Nat} (hp : p < m) : f_X8_isMember (nI p) M = some (b2 (fl m (M 1) 5 p)) := by
  simp only [f_X8_isMember_b22, f_X8_isMember_b21, f_X8_isMember, e_isPerson hm h, pers_nI (show p < 2 ^ 31 by omega), ob1_s, ob2_s, ck_t, lb_e]
  rw [lit_nI 5, e_mhas (by omega) (by decide), fl_mem hp]
  simp only [ob1_s, ob2_s, ck_t, lb_e]
  cases fl m (M 1) 5 p <;> simp [hp, isB_0, isB_1, ck_t, b2]
theorem e_hasShares {m : Nat} (hm : m ≤ 8) {M : St} (h : M 1 4 = nI m) {p : Nat} (hp : p < m) : f_X8_hasShares (nI p) M = some (b2 (shB m (M 1) p)) := by
  simp only [f_X8_hasShares_b42, f_X8_hasShares_b41, f_X8_hasShares, ib_0, ib_1, ib_2, ib_3, ib_4, ib_5, ib_6, ib_7, ib_8, ib_9, ib_10, ib_11, ib_12, ib_13, ib3_4, ib0_4, cl_0, cl_1, cl_2, cl_3, cl_4, cl_5, cl_6, cl_7, cl_8, cl_9, cl_10, cl_11, cl_12, cl_13, ob1_s, ob2_s, ck_t, lb_e, e_isMember hm h hp, shB]
  rw [lit_nI 6, e_mhas (by omega) (by decide), fl_mem hp]
  simp only [ob1_s, ob2_s, ck_t, lb_e]
  by_cases h0 : M 1 0 = 0
  · simp [h0, isB_0, ck_t, b2]
  · by_cases h5 : M 1 5 = 1
    · cases fl m (M 1) 5 p <;> cases fl m (M 1) 6 p <;> simp [h0, h5, isB_0, isB_1, ck_t, b2]
    · simp [h0, h5, isB_0, ck_t, b2]
theorem e_cShare {m t : Nat} {L : St} {v : Nat → Int32} (hph : L 0 9 = v 0) (h5 : L 0 5 = v 5) (hr : v 0 ≠ 0 → RP m t L v) {p j : Nat} (hp : p < 8) (hj : j < 8) : f_X4_hasShare (nI p) (nI j) L = some (b2 (shB m v p && fl m v 5 j)) := by
  simp only [f_X4_hasShare_b24, f_X4_hasShare_b23, f_X4_hasShare, e_hasDealt hph h5 hr hp, ob1_s, ob2_s, ck_t, lb_e]
  by_cases h0 : v 0 = 0
  · simp [shB, h0, isB_0, ck_t, b2]
  · rw [(hr h0).1]
    simp only [e_has _ hj, ob1_s, ob2_s, ck_t, lb_e]
    cases shB m v p <;> cases fl m v 5 j <;> simp [isB_0, isB_1, ck_t, b2]
theorem e_mShare {m : Nat} (hm : m ≤ 8) {M : St} (h : M 1 4 = nI m) {p j : Nat} (hp : p < m) (hj : j < m) : f_X8_hasShare (nI p) (nI j) M = some (b2 (shB m (M 1) p && fl m (M 1) 5 j)) := by
  simp only [f_X8_hasShare_b21, f_X8_hasShare_b20, f_X8_hasShare, e_hasShares hm h hp, e_isMember hm h hj, ob1_s, ob2_s, ck_t, lb_e]
  cases shB m (M 1) p <;> cases fl m (M 1) 5 j <;> simp [isB_0, isB_1, ck_t, b2]
/-! the simple ones -/
theorem s_phase {n : Nat} {I M : St} (h : RR n I M) : Rd (f_X7_phase I) (f_X8_phase M) := by
  simp only [f_X7_phase, f_X8_phase, ib_0, ib_1, ib_2, ib_3, ib_4, ib_5, ib_6, ib_7, ib_8, ib_9, ib_10, ib_11, ib_12, ib_13, ib3_4, ib0_4, cl_0, cl_1, cl_2, cl_3, cl_4, cl_5, cl_6, cl_7, cl_8, cl_9, cl_10, cl_11, cl_12, cl_13, ob1_s, ob2_s, ck_t, lb_e]
  exact ⟨_, rfl, by rw [h.1.le 0 9 0 rfl]⟩
theorem s_pot {n : Nat} {I M : St} (h : RR n I M) : Rd (f_X7_pot I) (f_X8_pot M) := by
  simp only [f_X7_pot, f_X8_pot, ib_0, ib_1, ib_2, ib_3, ib_4, ib_5, ib_6, ib_7, ib_8, ib_9, ib_10, ib_11, ib_12, ib_13, ib3_4, ib0_4, cl_0, cl_1, cl_2, cl_3, cl_4, cl_5, cl_6, cl_7, cl_8, cl_9, cl_10, cl_11, cl_12, cl_13, ob1_s, ob2_s, ck_t, lb_e]
  exact ⟨_, rfl, by rw [h.1.le 0 4 2 rfl]⟩
theorem s_rounds {n : Nat} {I M : St} (h : RR n I M) : Rd (f_X7_rounds I) (f_X8_rounds M) := by
  simp only [f_X7_rounds, f_X8_rounds, ib_0, ib_1, ib_2, ib_3, ib_4, ib_5, ib_6, ib_7, ib_8, ib_9, ib_10, ib_11, ib_12, ib_13, ib3_4, ib0_4, cl_0, cl_1, cl_2, cl_3, cl_4, cl_5, cl_6, cl_7, cl_8, cl_9, cl_10, cl_11, cl_12, cl_13, ob1_s, ob2_s, ck_t, lb_e]
  exact ⟨_, rfl, by rw [h.1.le 3 0 1 rfl]⟩
theorem s_longestRun {n : Nat} {I M : St} (h : RR n I M) : Rd (f_X7_longestRun I) (f_X8_longestRun M) := by
  simp only [f_X7_longestRun, f_X8_longestRun, ib_0, ib_1, ib_2, ib_3, ib_4, ib_5, ib_6, ib_7, ib_8, ib_9, ib_10, ib_11, ib_12, ib_13, ib3_4, ib0_4, cl_0, cl_1, cl_2, cl_3, cl_4, cl_5, cl_6, cl_7, cl_8, cl_9, cl_10, cl_11, cl_12, cl_13, ob1_s, ob2_s, ck_t, lb_e]
  exact ⟨_, rfl, by rw [h.1.le 3 4 13 rfl]⟩
theorem Rd.of {x : Int32} {a b : Option Int32} (h1 : a = some x) (h2 : b = some x) : Rd a b := ⟨x, h1, h2⟩
theorem s_coins {n : Nat} {I M : St} (h : RR n I M) (x : Int32) : Rd (f_X7_coins x I) (f_X8_coins x M) := by
  simp only [f_X7_coins_b39, f_X7_coins, f_X8_coins_b29, f_X8_coins_b28, f_X8_coins, e_isWithin, e_in, ob1_s, ob2_s, ck_t, lb_e]
  cases hw : wi x 0 1
  · rw [if_pos (show b2 false = 0 from rfl), if_pos (show b2 false = 0 from rfl)]
    exact ⟨_, rfl, rfl⟩
  · rw [if_neg (show ¬ b2 true = 0 by decide), if_neg (show ¬ b2 true = 0 by decide)]
    obtain ⟨j, j1, j2, rfl⟩ := wi_ex (a := 0) (b := 1) (by decide) (by decide) hw
    rcases (show j = 0 ∨ j = 1 by omega) with rfl | rfl
    · rw [if_neg (show ¬ nI 0 = (1 : Int32) by decide), if_pos (show nI 0 = (0 : Int32) from rfl), ib_9, ck_t, cl_9]
      exact ⟨_, rfl, by rw [h.1.le 3 2 9 rfl]⟩
    · rw [if_pos (show nI 1 = (1 : Int32) from rfl), if_neg (show ¬ nI 1 = (0 : Int32) by decide), ib_10, ck_t, cl_10]
      exact ⟨_, rfl, by rw [h.1.le 3 3 10 rfl]⟩
theorem e_account {m n : Nat} {I M : St} (h : RR n I M) (hm : m ≤ 8) (m1 : M 1 4 = nI m) (m2 : I 0 3 = nI m) {p k : Nat} (hp : p < m) (hk : k < 5) : f_X7_account (nI p) (nI k) I = some (M 1 (20 + 40 * p + k)) := by
  have hp8 : p < 8 := by omega
  have i0 : inb (nI p) 8 = true := inb_nI hp8 (by decide)
  have hw : ∀ k, k < 5 → wi (nI k) 0 4 = true := by decide
  have hb : pers m (nI p) = true := by rw [pers_nI (by omega)]; simp [hp]
  obtain ⟨b0, b1, b2', b3, b4, -⟩ := prP p hp8
  simp only [f_X7_account_b20, f_X7_account, e_isPart hm m2, e_isWithin, hw k hk, hb, ob1_s, ob2_s, ck_t, lb_e, i0, nI_clamp (n := p) (by omega)]
  rw [if_neg (show ¬ b2 true = 0 by decide), if_neg (show ¬ b2 true = 0 by decide)]
  match k, hk with
  | 0, _ => rw [if_pos (show nI 0 = (0 : Int32) from rfl), h.1.le _ _ _ b0]
  | 1, _ => rw [if_neg (show ¬ nI 1 = (0 : Int32) by decide), if_pos (show nI 1 = (1 : Int32) from rfl), h.1.le _ _ _ b2']
  | 2, _ => rw [if_neg (show ¬ nI 2 = (0 : Int32) by decide), if_neg (show ¬ nI 2 = (1 : Int32) by decide), if_pos (show nI 2 = (2 : Int32) from rfl), h.1.le _ _ _ b3]
  | 3, _ => rw [if_neg (show ¬ nI 3 = (0 : Int32) by decide), if_neg (show ¬ nI 3 = (1 : Int32) by decide), if_neg (show ¬ nI 3 = (2 : Int32) by decide), if_pos (show nI 3 = (3 : Int32) from rfl), h.1.le _ _ _ b4]
  | 4, _ => rw [if_neg (show ¬ nI 4 = (0 : Int32) by decide), if_neg (show ¬ nI 4 = (1 : Int32) by decide), if_neg (show ¬ nI 4 = (2 : Int32) by decide), if_neg (show ¬ nI 4 = (3 : Int32) by decide), h.1.le _ _ _ b1]
theorem s_account {n : Nat} {I M : St} (h : RR n I M) (x y : Int32) : Rd (f_X7_account x y I) (f_X8_account x y M) := by
  obtain ⟨m, hm, m1, m2⟩ := h.1.many
  cases hp : pers m x
  · simp only [f_X7_account_b20, f_X7_account, f_X8_account_b32, f_X8_account_b31, f_X8_account, e_isPart hm m2, e_isPerson hm m1, hp, ob1_s, ob2_s, ck_t, lb_e]
    rw [if_pos (show b2 false = 0 from rfl), if_pos (show b2 false = 0 from rfl)]
    exact ⟨_, rfl, rfl⟩
  · obtain ⟨p, hpm, rfl⟩ := pers_ex hm hp
    cases hw : wi y 0 4
    · simp only [f_X7_account_b20, f_X7_account, f_X8_account_b32, f_X8_account_b31, f_X8_account, e_isPart hm m2, e_isPerson hm m1, hp, e_isWithin, e_in, hw, ob1_s, ob2_s, ck_t, lb_e]
      rw [if_neg (show ¬ b2 true = 0 by decide), if_neg (show ¬ b2 true = 0 by decide), if_pos (show b2 false = 0 from rfl), if_pos (show b2 false = 0 from rfl)]
      exact ⟨_, rfl, rfl⟩
    · obtain ⟨k, k1, k2, rfl⟩ := wi_ex (a := 0) (b := 4) (by decide) (by decide) hw
      refine ⟨_, e_account h hm m1 m2 hpm (by omega), ?_⟩
      have i1 : inb (nI (20 + 40 * p + k)) 420 = true := inb_nI (by omega) (by decide)
      simp only [f_X8_account_b32, f_X8_account_b31, f_X8_account, e_isPerson hm m1, hp, e_in, hw, e_person, ob1_s, ob2_s, ck_t, lb_e, nI_add, i1, nI_clamp (n := 20 + 40 * p + k) (by omega)]
      rw [if_neg (show ¬ b2 true = 0 by decide), if_neg (show ¬ b2 true = 0 by decide)]
/-! rounds that ended -/
def kp (e : Nat) (x : Int32) : Bool := !decide (x < 0) && (!decide (nI e ≤ x) && !decide (x < nI e - 16))
theorem e_keeps {e : Nat} {I : St} (h : I 3 0 = nI e) (x : Int32) : f_X0_keeps x I = some (b2 (kp e x)) := by
  simp only [f_X0_keeps_b28, f_X0_keeps_b27, f_X0_keeps, h, ob1_s, ob2_s, ck_t, lb_e, kp]
  by_cases h1 : x < 0
  · simp [h1, isB_0, ck_t, b2]
  · by_cases h2 : nI e ≤ x
    · simp [h1, h2, isB_0, ck_t, b2]
    · by_cases h3 : x < nI e - 16 <;> simp [h1, h2, h3, isB_0, isB_1, ck_t, b2]
theorem e_isKept {e : Nat} {M : St} (h : M 1 1 = nI e) (x : Int32) : f_X8_isKept x M = some (b2 (kp e x)) := by
  simp only [f_X8_isKept_b32, f_X8_isKept_b31, f_X8_isKept, ib_0, ib_1, ib_2, ib_3, ib_4, ib_5, ib_6, ib_7, ib_8, ib_9, ib_10, ib_11, ib_12, ib_13, ib3_4, ib0_4, cl_0, cl_1, cl_2, cl_3, cl_4, cl_5, cl_6, cl_7, cl_8, cl_9, cl_10, cl_11, cl_12, cl_13, h, ob1_s, ob2_s, ck_t, lb_e, kp]
  by_cases h1 : x < 0
  · simp [h1, isB_0, ck_t, b2]
  · by_cases h2 : nI e ≤ x
    · simp [h1, h2, isB_0, ck_t, b2]
    · by_cases h3 : x < nI e - 16 <;> simp [h1, h2, h3, isB_0, isB_1, ck_t, b2]
theorem kp_ex {e : Nat} (he : e < 2 ^ 30) {x : Int32} (h : kp e x = true) : ∃ r, r < e ∧ x = nI r := by
  simp only [kp, Bool.and_eq_true, Bool.not_eq_true', decide_eq_false_iff_not] at h
  obtain ⟨h1, h2, -⟩ := h
  obtain ⟨j, j1, rfl⟩ := nI_of h1
  exact ⟨j, by
    rw [nI_leI (by omega) j1] at h2
    omega, rfl⟩
theorem e_ofRound {r w : Nat} (hr : r < 2 ^ 31) (hw : w < 5) (M : St) : f_X8_ofRound (nI r) (nI w) M = some (M 1 (340 + 5 * (r % 16) + w)) := by
  have i1 : inb (nI (340 + 5 * (r % 16) + w)) 420 = true := inb_nI (by omega) (by decide)
  rw [f_X8_ofRound, lit_nI 16, irem_nI hr (by decide) (by decide), lit_nI 5, pk_mul, lit_nI 340, nI_add, lb_e, nI_add, lb_e, i1, ck_t, nI_clamp (by omega)]
theorem e_entry {r w : Nat} (hr : r < 2 ^ 31) (hw : w < 6) (I : St) : f_X0_entry (nI r) (nI w) I = some (I 4 (6 * (r % 16) + w)) := by
  have i1 : inb (nI (r % 16 * 6 + w)) 96 = true := inb_nI (by omega) (by decide)
  rw [f_X0_entry, lit_nI 16, irem_nI hr (by decide) (by decide), lb_e, lit_nI 6, pk_mul, lb_e, nI_add, lb_e, i1, ck_t, nI_clamp (by omega), Nat.mul_comm]
theorem LR.ended {n : Nat} {L : St} {v : Nat → Int32} (h : LR n L v) : ∃ e, e ≤ n ∧ v 1 = nI e ∧ L 3 0 = nI e := by
  obtain ⟨m, e, t, h1, ⟨w1, w2, w3, w4, -⟩, -⟩ := h
  exact ⟨e, w3, w4, by rw [h1 3 0 1 rfl, w4]⟩
theorem s_output {n : Nat} (hn : n < 2 ^ 30) {I M : St} (h : RR n I M) (x : Int32) : Rd (f_X7_output x I) (f_X8_output x M) := by
  obtain ⟨e, e1, e2, e3⟩ := h.1.ended
  simp only [f_X7_output, f_X8_output_b18, f_X8_output, e_keeps e3, e_isKept e2, ob1_s, ob2_s, ck_t, lb_e]
  cases hk : kp e x
  · rw [if_pos (show b2 false = 0 from rfl), if_pos (show b2 false = 0 from rfl)]
    exact ⟨_, rfl, rfl⟩
  · rw [if_neg (show ¬ b2 true = 0 by decide), if_neg (show ¬ b2 true = 0 by decide)]
    obtain ⟨r, r1, rfl⟩ := kp_ex (by omega) hk
    rw [lit_nI 5, lit_nI 4, e_entry (by omega) (by decide), e_ofRound (by omega) (by decide)]
    exact ⟨_, rfl, by rw [ob1_s, h.1.le _ _ _ (prS (r % 16) (by omega)).2.2.2.2.2]⟩
theorem s_past {n : Nat} (hn : n < 2 ^ 30) {I M : St} (h : RR n I M) (x y : Int32) : Rd (f_X7_past x y I) (f_X8_past x y M) := by
  obtain ⟨e, e1, e2, e3⟩ := h.1.ended
  simp only [f_X7_past_b13, f_X7_past, f_X8_past_b13, f_X8_past_b99, f_X8_past_b42, f_X8_past, e_keeps e3, e_isKept e2, e_isWithin, e_in, ob1_s, ob2_s, ck_t, lb_e]
  by_cases hx : x < 0
  · rw [if_pos hx, if_pos hx]
    exact ⟨_, rfl, rfl⟩
  · rw [if_neg hx, if_neg hx]
    cases hw : wi y 0 4
    · rw [if_pos (show b2 false = 0 from rfl), if_pos (show b2 false = 0 from rfl)]
      exact ⟨_, rfl, rfl⟩
    · rw [if_neg (show ¬ b2 true = 0 by decide), if_neg (show ¬ b2 true = 0 by decide)]
      cases hk : kp e x
      · rw [if_pos (show b2 false = 0 from rfl), if_pos (show b2 false = 0 from rfl)]
        exact ⟨_, rfl, rfl⟩
      · rw [if_neg (show ¬ b2 true = 0 by decide), if_neg (show ¬ b2 true = 0 by decide)]
        obtain ⟨r, r1, rfl⟩ := kp_ex (by omega) hk
        obtain ⟨k, k1, k2, rfl⟩ := wi_ex (a := 0) (b := 4) (by decide) (by decide) hw
        obtain ⟨p0, p1, p2, p3, p4, p5⟩ := prS (r % 16) (by omega)
        obtain ⟨m, e', t, -, -, hu, -⟩ := id h.1
        obtain ⟨f, f1, f2⟩ := hu (r % 16) (by omega)
        have o0 : f_X8_ofRound (nI r) 0 M = some (M 1 (340 + 5 * (r % 16))) := e_ofRound (by omega) (w := 0) (by decide) M
        have o1 : f_X8_ofRound (nI r) 1 M = some (M 1 (340 + 5 * (r % 16) + 1)) := e_ofRound (by omega) (w := 1) (by decide) M
        have o2 : f_X8_ofRound (nI r) 2 M = some (M 1 (340 + 5 * (r % 16) + 2)) := e_ofRound (by omega) (w := 2) (by decide) M
        have o3 : f_X8_ofRound (nI r) 3 M = some (M 1 (340 + 5 * (r % 16) + 3)) := e_ofRound (by omega) (w := 3) (by decide) M
        have hq : ∀ w, w < 5 → nI w = (4 : Int32) ∨ ¬ nI w = (4 : Int32) := fun w _ => Classical.em _
        rw [e_entry (by omega) (by omega), o0, ob1_s]
        simp only [f_X8_past_b13, f_X8_past_b99, f_X8_past_b42, f_X8_past, o1, o2, o3, f1, e_countOf, e_ofRound (r := r) (by omega) (show k < 5 by omega), ob1_s, ob2_s, ck_t, lb_e]
        match k, k2 with
        | 0, _ =>
          rw [if_neg (show ¬ nI 0 = (4 : Int32) by decide), if_neg (show ¬ nI 0 = (3 : Int32) by decide)]
          rw [if_neg (show ¬ nI 0 = (4 : Int32) by decide), if_neg (show ¬ nI 0 = (3 : Int32) by decide)]
          rw [ite_self]
          exact ⟨_, rfl, by rw [show 6 * (r % 16) + 0 = 6 * (r % 16) from rfl, h.1.le _ _ _ p0]; rfl⟩
        | 1, _ =>
          rw [if_neg (show ¬ nI 1 = (4 : Int32) by decide), if_neg (show ¬ nI 1 = (3 : Int32) by decide)]
          rw [if_neg (show ¬ nI 1 = (4 : Int32) by decide), if_neg (show ¬ nI 1 = (3 : Int32) by decide)]
          rw [ite_self]
          exact ⟨_, rfl, by rw [h.1.le _ _ _ p1]⟩
        | 2, _ =>
          rw [if_neg (show ¬ nI 2 = (4 : Int32) by decide), if_neg (show ¬ nI 2 = (3 : Int32) by decide)]
          rw [if_neg (show ¬ nI 2 = (4 : Int32) by decide), if_neg (show ¬ nI 2 = (3 : Int32) by decide)]
          rw [ite_self]
          exact ⟨_, rfl, by rw [h.1.le _ _ _ p2]⟩
        | 3, _ =>
          rw [if_neg (show ¬ nI 3 = (4 : Int32) by decide), if_pos (show nI 3 = (3 : Int32) from rfl)]
          rw [if_neg (show ¬ nI 3 = (4 : Int32) by decide), if_pos (show nI 3 = (3 : Int32) from rfl)]
          refine ⟨_, rfl, ?_⟩
          rw [f2]
          by_cases hf : M 1 (340 + 5 * (r % 16)) = -5
          · rw [if_pos hf, if_pos hf, if_neg (show ¬ (1 : Int32) = 0 by decide)]
          · rw [if_neg hf, if_neg hf, if_pos trivial]
        | 4, _ =>
          rw [if_pos (show nI 4 = (4 : Int32) from rfl), if_pos (show nI 4 = (4 : Int32) from rfl)]
          rw [ite_self]
          exact ⟨_, rfl, by rw [h.1.le _ _ _ p4]⟩
