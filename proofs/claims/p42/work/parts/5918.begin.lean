/-! a round begins -/
theorem cnt_step (f : Nat → Bool) {i : Nat} (hi : i < 8) : cnt8 (fun q => decide (q < i + 1) && f q) = cnt8 (fun q => decide (q < i) && f q) + (if f i then 1 else 0) := by
  rcases (show i = 0 ∨ i = 1 ∨ i = 2 ∨ i = 3 ∨ i = 4 ∨ i = 5 ∨ i = 6 ∨ i = 7 by omega) with rfl | rfl | rfl | rfl | rfl | rfl | rfl | rfl <;> simp [cnt8] <;> omega
theorem bs_step (f : Nat → Bool) {i : Nat} (hi : i < 8) : bs (fun q => decide (q < i + 1) && f q) = if f i = true then bs (fun q => decide (q < i) && f q) ||| ishl 1 (nI i) else bs (fun q => decide (q < i) && f q) := by
  by_cases h : f i = true
  · rw [if_pos h, bs_one hi, bs_or]
    refine bs_congr fun q _ => ?_
    by_cases e : q = i
    · subst e; simp [h]
    · have : (q < i + 1) ↔ q < i := by omega
      simp [e, this]
  · rw [if_neg h]
    refine bs_congr fun q _ => ?_
    by_cases e : q = i
    · subst e; simp [h]
    · have : (q < i + 1) ↔ q < i := by omega
      simp [this]
def able (m : Nat) (v : Nat → Int32) (p : Nat) : Bool := decide (p < m) && !decide (v (20 + 40 * p + 0) < v 7)
theorem able_f {m p : Nat} {v : Nat → Int32} (h : v (20 + 40 * p + 0) < v 7) : able m v p = false := by
  unfold able; rw [decide_eq_true h]; simp
theorem able_t {m p : Nat} {v : Nat → Int32} (hp : p < m) (h : ¬ v (20 + 40 * p + 0) < v 7) : able m v p = true := by
  unfold able; rw [decide_eq_true hp, decide_eq_false h]; rfl
theorem e_able_l {m : Nat} (hm : m ≤ 8) {I : St} {v : Nat → Int32} (h : I 0 3 = nI m) (h7 : I 0 7 = v 7) (hb : ∀ p, p < 8 → I (5 + p) 0 = v (20 + 40 * p + 0)) : ∀ (d i F : Nat), i + d = 8 → d < F → f_X4_ableToPay_l4 F (bs (fun q => decide (q < i) && able m v q)) (nI i) I = some (bs (able m v)) := by
  intro d
  induction d with
  | zero =>
    intro i F hi hF
    obtain ⟨F, rfl⟩ : ∃ g, F = g + 1 := ⟨F - 1, by omega⟩
    rw [f_X4_ableToPay_l4, if_pos (show (8 : Int32) ≤ nI i from nI_le (a := 8) (by omega) (by omega))]
    exact congrArg some (bs_congr fun q hq => by simp [show q < i by omega])
  | succ d ih =>
    intro i F hi hF
    obtain ⟨F, rfl⟩ : ∃ g, F = g + 1 := ⟨F - 1, by omega⟩
    have hs := bs_step (able m v) (show i < 8 by omega)
    rw [f_X4_ableToPay_l4, if_neg (show ¬ (8 : Int32) ≤ nI i from nI_ge (b := 8) (by omega) (by omega)), h]
    by_cases c : m ≤ i
    · have ha : able m v i = false := by simp [able, show ¬ i < m by omega]
      rw [ha, if_neg (by decide)] at hs
      rw [if_pos (nI_le c (by omega)), f_X4_ableToPay_b40, nI_1, ← hs]
      exact ih (i + 1) F (by omega) (by omega)
    · rw [if_neg (nI_ge (by omega) (by omega)), inb_nI (by omega) (by decide), ck_t, nI_clamp (by omega), lb_e, hb i (by omega), h7]
      by_cases c2 : v (20 + 40 * i + 0) < v 7
      · have ha : able m v i = false := able_f c2
        rw [ha, if_neg (by decide)] at hs
        rw [if_pos c2, f_X4_ableToPay_b40, nI_1, ← hs]
        exact ih (i + 1) F (by omega) (by omega)
      · have ha : able m v i = true := able_t (by omega) c2
        rw [ha, if_pos rfl] at hs
        rw [if_neg c2, lb_e, f_X4_ableToPay_b40, nI_1, ← hs]
        exact ih (i + 1) F (by omega) (by omega)
theorem e_able {m : Nat} (hm : m ≤ 8) {I : St} {v : Nat → Int32} (h : I 0 3 = nI m) (h7 : I 0 7 = v 7) (hb : ∀ p, p < 8 → I (5 + p) 0 = v (20 + 40 * p + 0)) : f_X4_ableToPay I = some (bs (able m v)) := by
  rw [f_X4_ableToPay, lit_nI 0]
  have := e_able_l hm h h7 hb 8 0 10000 (by decide) (by decide)
  rwa [show bs (fun q => decide (q < 0) && able m v q) = nI 0 from by rw [show nI 0 = (0 : Int32) from rfl, bs_zero]; exact bs_congr fun p _ => by simp] at this
def mayB (m t : Nat) (v : Nat → Int32) : Bool := decide (v 0 = 0) && (decide (2 ≤ cnt8 (able m v)) && (decide (v 5 ≠ 1) || decide (t ≤ cnt8 (able m v))))
theorem e_canStart {m t : Nat} (hm : m ≤ 8) (ht : t ≤ 8) {I : St} {v : Nat → Int32} (h : LE I v) (h4 : v 4 = nI m) (h6 : v 6 = nI t) : f_X4_canStart I = some (b2 (mayB m t v)) := by
  have c8 := cnt8_le (able m v)
  rw [f_X4_canStart, e_able hm (by rw [h 0 3 4 rfl, h4]) (h 0 7 7 rfl) (fun p hp => h _ _ _ (prP p hp).1), ob1_s, bitCount_bs, ob1_s, h 0 9 0 rfl, h 0 5 5 rfl, h 0 6 6 rfl, h6]
  unfold mayB
  by_cases c0 : v 0 = 0
  · rw [if_pos c0]
    by_cases c1 : 2 ≤ cnt8 (able m v)
    · rw [if_neg (show ¬ nI (cnt8 (able m v)) < (2 : Int32) from nI_nlt (b := 2) c1 (by omega)), lb_e]
      by_cases c2 : v 5 = 1
      · rw [if_pos c2]
        by_cases c3 : t ≤ cnt8 (able m v)
        · rw [if_neg (nI_nlt c3 (by omega)), f_X4_canStart_b36, f_X4_canStart_b41, isB_1, ck_t]
          simp [c0, c1, c2, c3, b2]
        · rw [if_pos (nI_lt (by omega) (by omega)), f_X4_canStart_b40, f_X4_canStart_b41, isB_0, ck_t]
          simp [c2, c3, b2]
      · rw [if_neg c2, f_X4_canStart_b36, f_X4_canStart_b41, isB_1, ck_t]
        simp [c0, c1, c2, b2]
    · rw [if_pos (show nI (cnt8 (able m v)) < (2 : Int32) from nI_lt (b := 2) (by omega) (by omega)), f_X4_canStart_b40, f_X4_canStart_b41, isB_0, ck_t]
      simp [c1, b2]
  · rw [if_neg c0, f_X4_canStart_b40, f_X4_canStart_b41, isB_0, ck_t]
    simp [c0, b2]
theorem e_mayBegin_l {m t : Nat} (hm : m ≤ 8) (ht : t ≤ 8) {M : St} (h4 : M 1 4 = nI m) (h6 : M 1 6 = nI t) : ∀ (d i F : Nat), i + d = m → d < F → f_X8_mayBegin_l4 F (nI (cnt8 (fun q => decide (q < i) && able m (M 1) q))) (nI i) M = some (b2 (mayB m t (M 1))) := by
  intro d
  induction d with
  | zero =>
    intro i F hi hF
    obtain ⟨F, rfl⟩ : ∃ g, F = g + 1 := ⟨F - 1, by omega⟩
    have c8 := cnt8_le (able m (M 1))
    have ec : cnt8 (fun q => decide (q < i) && able m (M 1) q) = cnt8 (able m (M 1)) := cnt8_congr fun q _ => by
      by_cases hq : q < i
      · simp [hq]
      · simp [able, show ¬ q < m by omega, hq]
    rw [f_X8_mayBegin_l4, ib_4, ck_t, cl_4, h4, if_pos (nI_le (by omega) (by omega)), ec, ib_0, ck_t, cl_0, ib_5, ck_t, cl_5, ib_6, ck_t, cl_6, h6]
    unfold mayB
    by_cases c0 : M 1 0 = 0
    · rw [if_pos c0]
      by_cases c1 : 2 ≤ cnt8 (able m (M 1))
      · rw [if_neg (show ¬ nI (cnt8 (able m (M 1))) < (2 : Int32) from nI_nlt (b := 2) c1 (by omega)), lb_e]
        by_cases c2 : M 1 5 = 1
        · rw [if_pos c2]
          by_cases c3 : t ≤ cnt8 (able m (M 1))
          · rw [if_neg (nI_nlt c3 (by omega)), f_X8_mayBegin_b84, f_X8_mayBegin_b89, isB_1, ck_t]
            simp [c0, c1, c2, c3, b2]
          · rw [if_pos (nI_lt (by omega) (by omega)), f_X8_mayBegin_b88, f_X8_mayBegin_b89, isB_0, ck_t]
            simp [c2, c3, b2]
        · rw [if_neg c2, f_X8_mayBegin_b84, f_X8_mayBegin_b89, isB_1, ck_t]
          simp [c0, c1, c2, b2]
      · rw [if_pos (show nI (cnt8 (able m (M 1))) < (2 : Int32) from nI_lt (b := 2) (by omega) (by omega)), f_X8_mayBegin_b88, f_X8_mayBegin_b89, isB_0, ck_t]
        simp [c1, b2]
    · rw [if_neg c0, f_X8_mayBegin_b88, f_X8_mayBegin_b89, isB_0, ck_t]
      simp [c0, b2]
  | succ d ih =>
    intro i F hi hF
    obtain ⟨F, rfl⟩ : ∃ g, F = g + 1 := ⟨F - 1, by omega⟩
    have hs := cnt_step (able m (M 1)) (show i < 8 by omega)
    have i1 : inb (nI (20 + 40 * i + 0)) 420 = true := inb_nI (by omega) (by decide)
    rw [f_X8_mayBegin_l4, ib_4, ck_t, cl_4, h4, if_neg (nI_ge (by omega) (by omega)), e_person, ob1_s, lit_nI 0, nI_add, lb_e, i1, ck_t, nI_clamp (by omega), lb_e, ib_7, ck_t, cl_7]
    by_cases c2 : M 1 (20 + 40 * i + 0) < M 1 7
    · have ha : able m (M 1) i = false := able_f c2
      rw [ha] at hs
      simp only [Bool.false_eq_true, if_false, Nat.add_zero] at hs
      rw [if_pos c2, f_X8_mayBegin_b41, nI_add, lb_e, nI_1, Nat.add_zero, ← hs]
      exact ih (i + 1) F (by omega) (by omega)
    · have ha : able m (M 1) i = true := able_t (by omega) c2
      rw [ha, if_pos rfl] at hs
      rw [if_neg c2, f_X8_mayBegin_b41, nI_1, lb_e, nI_1, ← hs]
      exact ih (i + 1) F (by omega) (by omega)
theorem e_mayBegin {m t : Nat} (hm : m ≤ 8) (ht : t ≤ 8) {M : St} (h4 : M 1 4 = nI m) (h6 : M 1 6 = nI t) : f_X8_mayBegin M = some (b2 (mayB m t (M 1))) := by
  rw [f_X8_mayBegin, lit_nI 0]
  have := e_mayBegin_l hm ht h4 h6 m 0 10000 (by omega) (by omega)
  rwa [show cnt8 (fun q => decide (q < 0) && able m (M 1) q) = 0 from by simp [cnt8]] at this
/-- a place of a member's marks -/
def mk (i : Nat) : Prop := 20 ≤ i ∧ i < 340 ∧ 5 ≤ (i - 20) % 40 ∧ (i - 20) % 40 ≤ 8
theorem ip_mk : ∀ i, i < 340 → 20 ≤ i → 5 ≤ (i - 20) % 40 → (i - 20) % 40 ≤ 8 → ip i = none := by decide +kernel
theorem mk_ip {i : Nat} (h : ip i ≠ none ∨ i = 12) : ¬ mk i := fun ⟨a, b, c, d⟩ => by
  rcases h with h | h
  · exact h (ip_mk i b a c d)
  · omega
theorem e_begins_l {m : Nat} (hm : m ≤ 8) : ∀ (d i F : Nat) (M : St), i + d = m → d < F → M 1 4 = nI m → ∃ M', f_X8_begins_l9 F (nI i) M = some M' ∧ (∀ o, o ≠ 1 → M' o = M o) ∧ (∀ q, ¬ mk q → M' 1 q = M 1 q) ∧ (∀ p w, p < i → 5 ≤ w → w ≤ 8 → M' 1 (20 + 40 * p + w) = M 1 (20 + 40 * p + w)) ∧ (∀ p, i ≤ p → p < m → M' 1 (20 + 40 * p + 5) = (if M 1 (20 + 40 * p + 0) < M 1 7 then 0 else 1) ∧ M' 1 (20 + 40 * p + 6) = 0 ∧ M' 1 (20 + 40 * p + 7) = 0 ∧ M' 1 (20 + 40 * p + 8) = 0) := by
  intro d
  induction d with
  | zero =>
    intro i F M hi hF h4
    obtain ⟨F, rfl⟩ : ∃ g, F = g + 1 := ⟨F - 1, by omega⟩
    rw [f_X8_begins_l9, ib_4, ck_t, cl_4, h4, if_pos (nI_le (by omega) (by omega))]
    exact ⟨M, rfl, fun _ _ => rfl, fun _ _ => rfl, fun _ _ _ _ _ => rfl, fun p a b => absurd b (by omega)⟩
  | succ d ih =>
    intro i F M hi hF h4
    obtain ⟨F, rfl⟩ : ∃ g, F = g + 1 := ⟨F - 1, by omega⟩
    have i1 : ∀ w, w < 40 → inb (nI (20 + 40 * i + w)) 420 = true := fun w hw => inb_nI (by omega) (by decide)
    have i2 : ∀ w, w < 40 → (nI (20 + 40 * i + w)).toNatClampNeg = 20 + 40 * i + w := fun w hw => nI_clamp (by omega)
    obtain ⟨x, hx⟩ : ∃ x, x = (if M 1 (20 + 40 * i + 0) < M 1 7 then (0 : Int32) else 1) := ⟨_, rfl⟩
    obtain ⟨M2, hM2⟩ : ∃ M2, M2 = u2 (u2 (u2 (u2 M 1 (20 + 40 * i + 5) x) 1 (20 + 40 * i + 6) 0) 1 (20 + 40 * i + 7) 0) 1 (20 + 40 * i + 8) 0 := ⟨_, rfl⟩
    have r1 : ∀ q, M2 1 q = if q = 20 + 40 * i + 8 then 0 else if q = 20 + 40 * i + 7 then 0 else if q = 20 + 40 * i + 6 then 0 else if q = 20 + 40 * i + 5 then x else M 1 q := fun q => by
      rw [hM2]; simp only [u2_row, upd_ap]
    have r2 : ∀ o, o ≠ 1 → M2 o = M o := fun o ho => by
      rw [hM2, u2_off _ _ _ _ ho, u2_off _ _ _ _ ho, u2_off _ _ _ _ ho, u2_off _ _ _ _ ho]
    have step : ∀ y, y = x → f_X8_begins_b54 (f_X8_begins_l9 F) (nI i) (nI (20 + 40 * i)) (nI (20 + 40 * i + 5)) y M = f_X8_begins_l9 F (nI (i + 1)) M2 := fun y hy => by
      rw [f_X8_begins_b54, i1 5 (by decide), ck_t, i2 5 (by decide), lb_e, lit_nI 6, nI_add, lb_e, i1 6 (by decide), ck_t, i2 6 (by decide), lb_e, lit_nI 7, nI_add, lb_e, i1 7 (by decide), ck_t, i2 7 (by decide), lb_e, lit_nI 8, nI_add, lb_e, i1 8 (by decide), ck_t, i2 8 (by decide), lb_e, nI_1, hM2, hy]
    have f4 : M2 1 4 = nI m := by rw [r1, if_neg (by omega), if_neg (by omega), if_neg (by omega), if_neg (by omega)]; exact h4
    obtain ⟨M', k1, k2, k3, k4, k5⟩ := ih (i + 1) F M2 (by omega) (by omega) f4
    refine ⟨M', ?_, fun o ho => by rw [k2 o ho, r2 o ho], fun q hq => ?_, fun p w hp a b => ?_, fun p a b => ?_⟩
    · rw [f_X8_begins_l9, ib_4, ck_t, cl_4, h4, if_neg (nI_ge (by omega) (by omega)), e_person, ob1_s, lit_nI 5, nI_add, lb_e, lit_nI 0, nI_add, lb_e, i1 0 (by decide), ck_t, i2 0 (by decide), lb_e, ib_7, ck_t, cl_7]
      by_cases c : M 1 (20 + 40 * i + 0) < M 1 7
      · rw [if_pos c, step _ (by rw [hx, if_pos c]; rfl)]
        exact k1
      · rw [if_neg c, step _ (by rw [hx, if_neg c])]
        exact k1
    · have hq2 : ∀ w, 5 ≤ w → w ≤ 8 → q ≠ 20 + 40 * i + w := fun w a b e => hq ⟨by omega, by omega, by omega, by omega⟩
      rw [k3 q hq, r1, if_neg (hq2 8 (by decide) (by decide)), if_neg (hq2 7 (by decide) (by decide)), if_neg (hq2 6 (by decide) (by decide)), if_neg (hq2 5 (by decide) (by decide))]
    · rw [k4 p w (by omega) a b, r1, if_neg (by omega), if_neg (by omega), if_neg (by omega), if_neg (by omega)]
    · by_cases e : p = i
      · subst e
        rw [k4 p 5 (by omega) (by decide) (by decide), k4 p 6 (by omega) (by decide) (by decide), k4 p 7 (by omega) (by decide) (by decide), k4 p 8 (by omega) (by decide) (by decide), r1, r1, r1, r1]
        refine ⟨?_, ?_, ?_, ?_⟩
        · rw [if_neg (by omega), if_neg (by omega), if_neg (by omega), if_pos rfl, hx]
        · rw [if_neg (by omega), if_neg (by omega), if_pos rfl]
        · rw [if_neg (by omega), if_pos rfl]
        · rw [if_pos rfl]
      · obtain ⟨a1, a2⟩ := k5 p (by omega) b
        refine ⟨?_, a2⟩
        have e1 : M2 1 (20 + 40 * p + 0) = M 1 (20 + 40 * p + 0) := by rw [r1, if_neg (by omega), if_neg (by omega), if_neg (by omega), if_neg (by omega)]
        have e2 : M2 1 7 = M 1 7 := by rw [r1, if_neg (by omega), if_neg (by omega), if_neg (by omega), if_neg (by omega)]
        rw [a1, e1, e2]
theorem e_starts {m e t n : Nat} {I0 M0 I M : St} (h : LC m e t n I (M 1)) (hI : FI I0 I) (hM : FM M0 M) : ∃ I' M', f_X4_start I = some I' ∧ f_X8_begins M = some M' ∧ K m e t n 1 I0 M0 I' M' ∧ (∀ p, fl m (M' 1) 6 p = false) := by
  obtain ⟨h1, w, h3, h4⟩ := id h
  have hm := w.1
  have ht : t ≤ 8 := w.2.2.2.2.2.1
  have v4 : M 1 4 = nI m := w.2.1
  obtain ⟨M', k1, k2, k3, -, k5⟩ := e_begins_l hm m 0 10000 (u2 M 1 0 1) (by omega) (by omega) (show u2 M 1 0 1 1 4 = nI m from v4)
  have ea := e_able (I := u2 I 0 9 1) (v := M 1) hm (by rw [show u2 I 0 9 1 0 3 = I 0 3 from rfl, h1 0 3 4 rfl, v4]) (h1 0 7 7 rfl) (fun p hp => by rw [u2_off _ _ _ _ (by omega)]; exact h1 _ _ _ (prP p hp).1)
  have lc : LC m e t n (u2 I 0 9 1) (upd (M 1) 0 1) := h.ph (Or.inr (Or.inl rfl))
  have g : ∀ q, ¬ mk q → M' 1 q = upd (M 1) 0 1 q := fun q hq => by rw [k3 q hq, u2_row]
  have fz : ∀ p w, p < m → 6 ≤ w → w ≤ 8 → M' 1 (20 + 40 * p + w) = 0 := fun p w hp a b => by
    obtain ⟨-, z1, z2, z3⟩ := k5 p (Nat.zero_le _) hp
    rcases (show w = 6 ∨ w = 7 ∨ w = 8 by omega) with rfl | rfl | rfl
    · exact z1
    · exact z2
    · exact z3
  have f5 : ∀ p, fl m (M' 1) 5 p = able m (M 1) p := fun p => by
    unfold fl able
    by_cases hp : p < m
    · obtain ⟨z0, -⟩ := k5 p (Nat.zero_le _) hp
      rw [z0, show u2 M 1 0 1 1 (20 + 40 * p + 0) = M 1 (20 + 40 * p + 0) from by rw [u2_row, upd_ap, if_neg (by omega)], show u2 M 1 0 1 1 7 = M 1 7 from rfl]
      by_cases c : M 1 (20 + 40 * p + 0) < M 1 7
      · rw [if_pos c, decide_eq_true c]; simp
      · rw [if_neg c, decide_eq_false c]; simp
    · simp [hp]
  have fw : ∀ p w, 6 ≤ w → w ≤ 8 → fl m (M' 1) w p = false := fun p w a b => by
    unfold fl
    by_cases hp : p < m
    · rw [fz p w hp a b]; simp
    · simp [hp]
  refine ⟨u2 (u2 (u2 (u2 (u2 I 0 9 1) 0 10 (bs (able m (M 1)))) 0 11 0) 0 12 0) 0 13 0, M', ?_, ?_, ⟨?_, ?_, ?_, ?_, ?_⟩, fun p => fw p 6 (by decide) (by decide)⟩
  · rw [f_X4_start, lb_e, ea, ob1_s, lb_e, lb_e, lb_e, lb_e]
  · rw [f_X8_begins, ib_0, ck_t, cl_0, lb_e]
    exact k1
  · have l1 := (((lc.cls (j := 0) (k := 10) (by decide) (by decide) (bs (able m (M 1)))).cls (j := 0) (k := 11) (by decide) (by decide) 0).cls (j := 0) (k := 12) (by decide) (by decide) 0).cls (j := 0) (k := 13) (by decide) (by decide) 0
    exact l1.cg (fun _ _ _ => rfl) (fun q hq => g q (mk_ip hq))
  · refine ⟨?_, ?_, ?_, ?_, fun _ p _ => fw p 7 (by decide) (by decide), fun q => ?_, fun _ p hp _ c => ?_⟩
    · show bs (able m (M 1)) = _
      exact bs_congr fun p _ => (f5 p).symm
    · show (0 : Int32) = _
      rw [bs_zero]
      exact bs_congr fun p _ => by rw [fw p 6 (by decide) (by decide)]; simp
    · show (0 : Int32) = _
      rw [bs_zero]
      exact bs_congr fun p _ => by rw [fw p 7 (by decide) (by decide)]; simp
    · show (0 : Int32) = _
      rw [bs_zero]
      exact bs_congr fun p _ => (fw p 8 (by decide) (by decide)).symm
    · exfalso
      rw [g 0 (fun z => by have := z.1; omega)] at q
      exact absurd q (show ¬ (1 : Int32) = 2 by decide)
    · rw [fw p 6 (by decide) (by decide)] at c
      cases c
  · rw [g 0 (fun z => by have := z.1; omega)]
    rfl
  · exact ((((hI.u2 (Or.inl (by decide))).u2 (Or.inl (by decide))).u2 (Or.inl (by decide))).u2 (Or.inl (by decide))).u2 (Or.inl (by decide))
  · exact ⟨by rw [k2 2 (by decide), u2_off _ _ _ _ (by decide)]; exact hM.1, by rw [k2 0 (by decide), u2_off _ _ _ _ (by decide)]; exact hM.2⟩
theorem s_begin {n : Nat} {I M : St} (h : RR n I M) : Sm n (f_X7_begin I) (f_X8_begin M) := by
  obtain ⟨m, e, t, h1, w, h3, h4, h5⟩ := id h.1
  rw [f_X7_begin, f_X8_begin, e_canStart w.1 w.2.2.2.2.2.1 h1 w.2.1 w.2.2.2.2.2.2.1, e_mayBegin w.1 w.2.2.2.2.2.1 w.2.1 w.2.2.2.2.2.2.1, ob1_s, ob1_s]
  cases hc : mayB m t (M 1)
  · rw [if_pos (show b2 false = 0 from rfl), if_pos (show b2 false = 0 from rfl)]
    exact Sm.same h _
  · rw [if_neg (show ¬ b2 true = 0 by decide), if_neg (show ¬ b2 true = 0 by decide)]
    obtain ⟨I1, M1, a1, a2, a3, a4, a5⟩ := e_rem h
    have lc : LC m e t n I1 (M1 1) := by
      rw [a5]
      exact LC.cg ⟨h1, w, h3, h4⟩ (fun j k q => by
        rw [a4 j]
        rcases q with q | q | q
        · exact Nat.lt_of_not_le fun z => q (pr_out (Or.inl z))
        · omega
        · omega) (fun _ _ => rfl)
    obtain ⟨I', M', b1, b2, b3, -⟩ := e_starts lc FI.rf FM.rf
    rw [a1, ob1_s, b1, ob1_s, a2, ob1_s, b2, ob1_s, ib_1, ck_t, cl_1]
    exact ⟨_, I', M', rfl, by rw [b3.1.1 3 0 1 rfl], b3.RR a3⟩
