/-! outputs -/
def mixr (f5 c : Nat → Bool) (R : Nat → Int32) : Nat → Nat → Int32 → Int32
  | 0, _, h => h
  | d + 1, i, h => mixr f5 c R d (i + 1) (if f5 i = true then mx h (if c i = true then R i else 0) else h)
theorem mixr_congr {f5 f5' c c' : Nat → Bool} {R R' : Nat → Int32} : ∀ d i h, (∀ p, i ≤ p → p < i + d → f5 p = f5' p ∧ (f5 p = true → (if c p = true then R p else 0) = (if c' p = true then R' p else 0))) → mixr f5 c R d i h = mixr f5' c' R' d i h
  | 0, _, _, _ => rfl
  | d + 1, i, h, H => by
    rw [mixr, mixr, mixr_congr d (i + 1) _ (fun p a b => H p (by omega) (by omega))]
    obtain ⟨h1, h2⟩ := H i (Nat.le_refl _) (by omega)
    rw [← h1]
    by_cases e : f5 i = true
    · rw [if_pos e, if_pos e, h2 e]
    · rw [if_neg e, if_neg e]
theorem mixr_id {f5 c : Nat → Bool} {R : Nat → Int32} : ∀ d i h, (∀ p, i ≤ p → p < i + d → f5 p = false) → mixr f5 c R d i h = h
  | 0, _, _, _ => rfl
  | d + 1, i, h, H => by
    rw [mixr, H i (Nat.le_refl _) (by omega), if_neg (by decide), mixr_id d (i + 1) h (fun p a b => H p (by omega) (by omega))]
theorem mixr_add {f5 c : Nat → Bool} {R : Nat → Int32} : ∀ a b i h, mixr f5 c R (a + b) i h = mixr f5 c R b (i + a) (mixr f5 c R a i h)
  | 0, b, i, h => by rw [Nat.zero_add]; rfl
  | a + 1, b, i, h => by
    rw [show a + 1 + b = (a + b) + 1 by omega, mixr, mixr, mixr_add a b (i + 1), show i + 1 + a = i + (a + 1) by omega]
theorem mixr_8 {m : Nat} (hm : m ≤ 8) {f5 c : Nat → Bool} {R : Nat → Int32} (h : Int32) (H : ∀ p, m ≤ p → f5 p = false) : mixr f5 c R 8 0 h = mixr f5 c R m 0 h := by
  have := mixr_add (f5 := f5) (c := c) (R := R) m (8 - m) 0 h
  rw [show m + (8 - m) = 8 by omega] at this
  rw [this, mixr_id _ _ _ (fun p a _ => H p (by omega))]
theorem e_mixed_l {I : St} {o : Nat} {f5 c : Nat → Bool} {R : Nat → Int32} (h10 : I 0 10 = bs f5) (hR : ∀ p, p < 8 → f5 p = true → I o p = R p) : ∀ (d i F : Nat) (h : Int32), i + d = 8 → d < F → f_X4_mixed_l11 o F (bs c) h (nI i) I = some (mixr f5 c R d i h) := by
  intro d
  induction d with
  | zero =>
    intro i F h hi hF
    obtain ⟨F, rfl⟩ : ∃ g, F = g + 1 := ⟨F - 1, by omega⟩
    rw [f_X4_mixed_l11, if_pos (show (8 : Int32) ≤ nI i from nI_le (a := 8) (by omega) (by omega)), f_X4_mixed_b65, mixr]
  | succ d ih =>
    intro i F h hi hF
    obtain ⟨F, rfl⟩ : ∃ g, F = g + 1 := ⟨F - 1, by omega⟩
    have hlt : ¬ (8 : Int32) ≤ nI i := nI_ge (b := 8) (by omega) (by omega)
    rw [f_X4_mixed_l11, if_neg hlt, if_neg hlt, lb_e, h10, e_has _ (by omega), ob1_s, mixr]
    cases hf : f5 i
    · rw [if_pos (show b2 false = 0 from rfl), if_neg (by decide), f_X4_mixed_b59, nI_1]
      exact ih (i + 1) F h (by omega) (by omega)
    · rw [if_neg (show ¬ b2 true = 0 by decide), if_pos rfl, e_has _ (by omega), ob1_s]
      cases hc : c i
      · rw [if_pos (show b2 false = 0 from rfl), if_neg (by decide), f_X4_mixed_b55, e_mix, ob1_s, f_X4_mixed_b59, nI_1]
        exact ih (i + 1) F _ (by omega) (by omega)
      · rw [if_neg (show ¬ b2 true = 0 by decide), if_pos rfl, inb_nI (by omega) (by decide), ck_t, nI_clamp (by omega), hR i (by omega) hf, f_X4_mixed_b55, e_mix, ob1_s, f_X4_mixed_b59, nI_1]
        exact ih (i + 1) F _ (by omega) (by omega)
theorem e_mixed {I : St} {o : Nat} (ho : isA o = true) {f5 c : Nat → Bool} {R : Nat → Int32} {x : Int32} (h3 : I 3 1 = x) (h10 : I 0 10 = bs f5) (hR : ∀ p, p < 8 → f5 p = true → I o p = R p) : f_X4_mixed o (bs c) I = some (mixr f5 c R 8 0 x) := by
  rw [f_X4_mixed, ho, ck_t, h3, lb_e, lit_nI 0]
  exact e_mixed_l h10 hR 8 0 10000 x (by decide) (by decide)
/-- what is not recovered -/
def gap (m t : Nat) (v : Nat → Int32) (g : Nat → Bool) (p : Nat) : Bool := fl m v 5 p && (!g p && (decide (v 5 = 1) && decide (cnt8 (fun j => g j && gd t v p j) < t)))
def lost (m t : Nat) (v : Nat → Int32) (g : Nat → Bool) : Bool := an (gap m t v g) 8 0
def csF (m t : Nat) (v : Nat → Int32) (g : Nat → Bool) : Int32 := if lost m t v g = true then -1 else if v 5 = 0 then bs g else bs (fl m v 5)
def cnF (v : Nat → Int32) (g : Nat → Bool) (p : Nat) : Bool := g p || !decide (v 5 = 0)
def outF (m : Nat) (v : Nat → Int32) (R : Nat → Int32) (g : Nat → Bool) : Int32 := mixr (fl m v 5) (cnF v g) R 8 0 (v 3)
theorem fl_ge {m w p : Nat} {v : Nat → Int32} (h : m ≤ p) : fl m v w p = false := by simp [fl, show ¬ p < m by omega]
theorem gap_ge {m t p : Nat} {v : Nat → Int32} {g : Nat → Bool} (h : m ≤ p) : gap m t v g p = false := by simp [gap, fl_ge h]
theorem K.DL {m e t n : Nat} {I0 M0 I M : St} (h : K m e t n 2 I0 M0 I M) {p : Nat} (hp : p < 8) (c5 : M 1 5 = 1) (f5 : fl m (M 1) 5 p = true) : DL t I (M 1) p :=
  h.2.1.2.2.2.2.2.2 c5 p hp f5 (h.2.1.2.2.2.2.2.1 (by rw [h.2.2.1]; rfl) p hp f5)
theorem e_recAll {m e t n : Nat} {I0 M0 I M : St} (h : K m e t n 2 I0 M0 I M) (c5 : M 1 5 = 1) (g : Nat → Bool) : ∀ (d i F : Nat), i + d = 8 → d < F → f_X4_canRecoverAll_l2 F (bs g) (nI i) I = some (b2 (!an (gap m t (M 1) g) d i)) := by
  have w6 : t ≤ 8 := h.1.2.1.2.2.2.2.2.1
  have I6 : I 0 6 = nI t := by rw [h.1.1 0 6 6 rfl]; exact h.1.2.1.2.2.2.2.2.2.1
  intro d
  induction d with
  | zero =>
    intro i F hi hF
    obtain ⟨F, rfl⟩ : ∃ g, F = g + 1 := ⟨F - 1, by omega⟩
    rw [f_X4_canRecoverAll_l2, if_pos (show (8 : Int32) ≤ nI i from nI_le (a := 8) (by omega) (by omega))]
    rfl
  | succ d ih =>
    intro i F hi hF
    obtain ⟨F, rfl⟩ : ∃ g, F = g + 1 := ⟨F - 1, by omega⟩
    rw [f_X4_canRecoverAll_l2, if_neg (show ¬ (8 : Int32) ≤ nI i from nI_ge (b := 8) (by omega) (by omega)), lb_e, h.2.1.1, bs_andn, lb_e, e_has _ (by omega), ob1_s, an]
    have eg : gap m t (M 1) g i = (fl m (M 1) 5 i && (!g i && (decide (M 1 5 = 1) && decide (cnt8 (fun j => g j && gd t (M 1) i j) < t)))) := rfl
    rw [eg]
    cases hf : (fl m (M 1) 5 i && !g i)
    · have : (fl m (M 1) 5 i && (!g i && (decide (M 1 5 = 1) && decide (cnt8 (fun j => g j && gd t (M 1) i j) < t)))) = false := by rw [← Bool.and_assoc, hf]; rfl
      rw [if_pos (show b2 false = 0 from rfl), f_X4_canRecoverAll_b46, nI_1, ih (i + 1) F (by omega) (by omega), this, Bool.false_or]
    · obtain ⟨hf1, hf2⟩ := Bool.and_eq_true_iff.mp hf
      have hd := h.DL (by omega) c5 hf1
      have c8 := cnt8_le (fun j => g j && gd t (M 1) i j)
      rw [if_neg (show ¬ b2 true = 0 by decide), inb_nI (by omega) (by decide), ck_t, nI_clamp (by omega), hd.2.2, bs_and, bitCount_bs, ob1_s, I6, ← Bool.and_assoc, hf, Bool.true_and, decide_eq_true c5, Bool.true_and]
      by_cases c : t ≤ cnt8 (fun j => g j && gd t (M 1) i j)
      · rw [if_pos (nI_le c (by omega)), f_X4_canRecoverAll_b46, nI_1, ih (i + 1) F (by omega) (by omega), decide_eq_false (show ¬ cnt8 (fun j => g j && gd t (M 1) i j) < t by omega), Bool.false_or]
      · rw [if_neg (nI_ge (by omega) (by omega)), decide_eq_true (show cnt8 (fun j => g j && gd t (M 1) i j) < t by omega)]
        rfl
theorem lost_n1 {m t : Nat} {v : Nat → Int32} {g : Nat → Bool} (h : v 5 ≠ 1) : lost m t v g = false := by
  refine an_f _ 8 0 (fun p _ _ => ?_)
  simp [gap, h]
theorem e_counted {m e t n : Nat} {I0 M0 I M : St} (h : K m e t n 2 I0 M0 I M) (g : Nat → Bool) : f_X4_countedIf (bs g) I = some (csF m t (M 1) g) := by
  have I5 : I 0 5 = M 1 5 := h.1.1 0 5 5 rfl
  rw [f_X4_countedIf, I5]
  unfold csF
  by_cases c0 : M 1 5 = 0
  · rw [if_pos c0, if_pos c0, lost_n1 (by rw [c0]; decide), if_neg (by decide)]
  · rw [if_neg c0, if_neg c0, lb_e]
    by_cases c1 : M 1 5 = 1
    · rw [if_pos c1, f_X4_canRecoverAll, lit_nI 0, e_recAll h c1 g 8 0 10000 (by decide) (by decide), ob1_s]
      show _ = some (if an (gap m t (M 1) g) 8 0 = true then _ else _)
      cases an (gap m t (M 1) g) 8 0
      · rw [if_neg (show ¬ b2 (!false) = nI 0 by decide), f_X4_countedIf_b27, h.2.1.1, if_neg (by decide)]
      · rw [if_pos (show b2 (!true) = nI 0 by decide), if_pos rfl]
    · rw [if_neg c1, f_X4_countedIf_b27, h.2.1.1, lost_n1 c1, if_neg (by decide)]
/-! the model's output -/
theorem e_right_l {m p t : Nat} {M : St} (hm : m ≤ 8) (h4 : M 1 4 = nI m) (hp : p < 8) (h1 : 1 ≤ t) (ht : t ≤ 8) (h6 : M 1 6 = nI t) (hc : ∀ k, k < t → ∃ c, c < 1019 ∧ M 1 (20 + 40 * p + 14 + k) = nI c) (g : Nat → Bool) : ∀ (d i F : Nat), i + d = m → d < F → f_X8_rightOnes_l5 F (nI p) (bs g) (nI (cnt8 (fun j => decide (j < i) && (g j && gd t (M 1) p j)))) (nI i) M = some (nI (cnt8 (fun j => decide (j < m) && (g j && gd t (M 1) p j)))) := by
  intro d
  induction d with
  | zero =>
    intro i F hi hF
    obtain ⟨F, rfl⟩ : ∃ g, F = g + 1 := ⟨F - 1, by omega⟩
    have e : i = m := by omega
    subst e
    rw [f_X8_rightOnes_l5, ib_4, ck_t, cl_4, h4, if_pos (nI_le (Nat.le_refl _) (by omega))]
  | succ d ih =>
    intro i F hi hF
    obtain ⟨F, rfl⟩ : ∃ g, F = g + 1 := ⟨F - 1, by omega⟩
    have hs := cnt_step (fun j => g j && gd t (M 1) p j) (show i < 8 by omega)
    have k0 : (g i && gd t (M 1) p i) = false → f_X8_rightOnes_b41 (f_X8_rightOnes_l5 F) (nI p) (bs g) (nI i) (nI (cnt8 (fun j => decide (j < i) && (g j && gd t (M 1) p j)))) M = some (nI (cnt8 (fun j => decide (j < m) && (g j && gd t (M 1) p j)))) := fun z => by
      simp only [z, Bool.false_eq_true, if_false, Nat.add_zero] at hs
      rw [f_X8_rightOnes_b41, f_X8_rightOnes_b42, Int32.add_zero, lb_e, nI_1, ← hs]
      exact ih (i + 1) F (by omega) (by omega)
    rw [f_X8_rightOnes_l5, ib_4, ck_t, cl_4, h4, if_neg (nI_ge (by omega) (by omega)), lb_e, bs_hasS g (by omega), lb_e]
    cases hg : g i
    · rw [if_neg (show ¬ false = true by decide), if_neg (show ¬ (0 : Int32) = 1 by decide)]
      exact k0 (by rw [hg]; rfl)
    · rw [if_pos rfl, if_pos rfl, e_isGood hp (by omega) h1 ht h6 hc, ob1_s]
      cases hgd : gd t (M 1) p i
      · rw [if_pos (show b2 false = 0 from rfl)]
        exact k0 (by rw [hg, hgd]; rfl)
      · simp only [hg, hgd, Bool.and_self, if_true] at hs
        rw [if_neg (show ¬ b2 true = 0 by decide), f_X8_rightOnes_b42, nI_1, lb_e, nI_1, ← hs]
        exact ih (i + 1) F (by omega) (by omega)
theorem u2_u2 (I : St) (o k : Nat) (x y : Int32) : u2 (u2 I o k x) o k y = u2 I o k y := by
  funext o' k'
  simp only [u2_ap]
  by_cases e : o' = o
  · subst e
    by_cases e2 : k' = k <;> simp [e2]
  · simp [e]
theorem e_out_l {m e t n : Nat} {I0 M0 I M : St} (h : K m e t n 2 I0 M0 I M) (g : Nat → Bool) (hg : ∀ j, g j = true → j < m) : ∀ (d i F : Nat) (hh : Int32) (b : Bool), i + d = m → d < F → f_X8_outputOf_l14 F (bs g) hh (nI i) (u2 M 0 4 (b2 b)) = some (mixr (fl m (M 1) 5) (cnF (M 1) g) (M 3) d i hh, u2 M 0 4 (b2 (b || an (gap m t (M 1) g) d i))) := by
  have w := h.1.2.1
  have w1 := w.1
  have w2 := w.2.1
  have w5 := w.2.2.2.2.1
  have w6 := w.2.2.2.2.2.1
  have w7 := w.2.2.2.2.2.2.1
  have r1 : ∀ x, u2 M 0 4 x 1 = M 1 := fun x => u2_off _ _ _ _ (by decide)
  have r3 : ∀ x, u2 M 0 4 x 3 = M 3 := fun x => u2_off _ _ _ _ (by decide)
  have r0 : ∀ x, u2 M 0 4 x 0 4 = x := fun x => by rw [u2_row, upd_ap, if_pos rfl]
  intro d
  induction d with
  | zero =>
    intro i F hh b hi hF
    obtain ⟨F, rfl⟩ : ∃ g, F = g + 1 := ⟨F - 1, by omega⟩
    rw [f_X8_outputOf_l14, ib_4, ck_t, cl_4, r1, w2, if_pos (nI_le (by omega) (by omega)), mixr, an, Bool.or_false]
  | succ d ih =>
    intro i F hh b hi hF
    obtain ⟨F, rfl⟩ : ∃ g, F = g + 1 := ⟨F - 1, by omega⟩
    have i8 : inb (nI i) 8 = true := inb_nI (by omega) (by decide)
    have eg : gap m t (M 1) g i = (fl m (M 1) 5 i && (!g i && (decide (M 1 5 = 1) && decide (cnt8 (fun j => g j && gd t (M 1) i j) < t)))) := rfl
    rw [f_X8_outputOf_l14, ib_4, ck_t, cl_4, r1, w2, if_neg (nI_ge (by omega) (by omega)), lit_nI 5, e_mhas (by omega) (by decide), ob1_s, r1, fl_mem (show i < m by omega), mixr, an, ← Bool.or_assoc]
    cases hf : fl m (M 1) 5 i
    · have : gap m t (M 1) g i = false := by rw [eg, hf]; rfl
      rw [if_pos (show b2 false = 0 from rfl), if_neg (by decide), this, Bool.or_false, f_X8_outputOf_b125, nI_1]
      exact ih (i + 1) F hh b (by omega) (by omega)
    · rw [if_neg (show ¬ b2 true = 0 by decide), if_pos rfl, lb_e, bs_hasS g (by omega), lb_e]
      -- the last stage
      have stage : ∀ (b' : Bool) (o : Bool), o = g i → f_X8_outputOf_b93 (f_X8_outputOf_l14 F) (bs g) hh (nI i) (b2 o) (b2 b') (u2 M 0 4 (b2 b)) = some (mixr (fl m (M 1) 5) (cnF (M 1) g) (M 3) d (i + 1) (mx hh (if cnF (M 1) g i = true then M 3 i else 0)), u2 M 0 4 (b2 (b' || an (gap m t (M 1) g) d (i + 1)))) := fun b' o ho => by
        have eb : isB (b2 b') = true := by cases b' <;> decide
        have fin : ∀ y, f_X8_outputOf_b121 (f_X8_outputOf_l14 F) (bs g) (nI i) hh y (u2 M 0 4 (b2 b')) = some (mixr (fl m (M 1) 5) (cnF (M 1) g) (M 3) d (i + 1) (mx hh y), u2 M 0 4 (b2 (b' || an (gap m t (M 1) g) d (i + 1)))) := fun y => by
          rw [f_X8_outputOf_b121, e_mmix, ob1_s, f_X8_outputOf_b125, nI_1]
          exact ih (i + 1) F _ b' (by omega) (by omega)
        have fin2 : f_X8_outputOf_b111 (f_X8_outputOf_l14 F) (bs g) (nI i) hh (u2 M 0 4 (b2 b')) = some (mixr (fl m (M 1) 5) (cnF (M 1) g) (M 3) d (i + 1) (mx hh (M 3 i)), u2 M 0 4 (b2 (b' || an (gap m t (M 1) g) d (i + 1)))) := by
          rw [f_X8_outputOf_b111, i8, ck_t, r3, nI_clamp (by omega), fin]
        have ecn : cnF (M 1) g i = (g i || !decide (M 1 5 = 0)) := rfl
        rw [f_X8_outputOf_b93, eb, ck_t, u2_u2, lb_e, ecn, ← ho]
        cases o
        · rw [if_pos (show b2 false = 0 from rfl), ib_5, ck_t, cl_5, r1, Bool.false_or]
          by_cases c0 : M 1 5 = 0
          · rw [if_pos c0, decide_eq_true c0, fin]
            rfl
          · rw [if_neg c0, decide_eq_false c0, fin2]
            rfl
        · rw [if_neg (show ¬ b2 true = 0 by decide), fin2]
          rfl
      have key : ∀ o : Bool, o = g i → f_X8_outputOf_b47 (f_X8_outputOf_l14 F) (bs g) hh (nI i) (b2 o) (u2 M 0 4 (b2 b)) = some (mixr (fl m (M 1) 5) (cnF (M 1) g) (M 3) d (i + 1) (mx hh (if cnF (M 1) g i = true then M 3 i else 0)), u2 M 0 4 (b2 (b || gap m t (M 1) g i || an (gap m t (M 1) g) d (i + 1)))) := fun o ho => by
        have k1 := stage true o ho
        have k0 := stage false o ho
        rw [show b2 true = 1 from rfl] at k1
        rw [show b2 false = 0 from rfl] at k0
        rw [f_X8_outputOf_b47, r0, eg, hf, Bool.true_and, ← ho]
        cases b
        · rw [if_pos (show b2 false = 0 from rfl)]
          cases o
          · rw [if_pos (show b2 false = 0 from rfl), ib_5, ck_t, cl_5, r1, lb_e]
            by_cases c1 : M 1 5 = 1
            · have hd := h.DL (by omega) c1 hf
              have er : f_X8_rightOnes (nI i) (bs g) (u2 M 0 4 (b2 false)) = some (nI (cnt8 (fun j => g j && gd t (M 1) i j))) := by
                have q := e_right_l (M := u2 M 0 4 (b2 false)) (p := i) (t := t) w1 (by rw [r1]; exact w2) (by omega) w5 w6 (by rw [r1]; exact w7) (by rw [r1]; exact hd.co) g m 0 10000 (by omega) (by omega)
                rw [r1] at q
                rw [f_X8_rightOnes, lit_nI 0]
                rw [show cnt8 (fun j => decide (j < 0) && (g j && gd t (M 1) i j)) = 0 from by simp [cnt8]] at q
                rw [q]
                refine congrArg (fun z => some (nI z)) (cnt8_congr fun j _ => ?_)
                cases hj : g j
                · simp
                · simp [hg j hj]
              have c8 := cnt8_le (fun j => g j && gd t (M 1) i j)
              rw [if_pos c1, er, ob1_s, ib_6, ck_t, cl_6, w7, decide_eq_true c1]
              by_cases c : t ≤ cnt8 (fun j => g j && gd t (M 1) i j)
              · rw [if_pos (nI_le c (by omega)), f_X8_outputOf_b92, decide_eq_false (show ¬ cnt8 (fun j => g j && gd t (M 1) i j) < t by omega)]
                exact k0
              · rw [if_neg (nI_ge (by omega) (by omega)), f_X8_outputOf_b88, decide_eq_true (show cnt8 (fun j => g j && gd t (M 1) i j) < t by omega)]
                exact k1
            · rw [if_neg c1, f_X8_outputOf_b92, decide_eq_false c1]
              exact k0
          · rw [if_neg (show ¬ b2 true = 0 by decide), f_X8_outputOf_b92]
            exact k0
        · rw [if_neg (show ¬ b2 true = 0 by decide), f_X8_outputOf_b88]
          exact k1
      cases hgi : g i
      · rw [if_neg (show ¬ false = true by decide), if_neg (show ¬ (0 : Int32) = 1 by decide)]
        exact key false hgi.symm
      · rw [if_pos rfl, if_pos rfl]
        exact key true hgi.symm
theorem e_outputOf {m e t n : Nat} {I0 M0 I M : St} (h : K m e t n 2 I0 M0 I M) (g : Nat → Bool) (hg : ∀ j, g j = true → j < m) : f_X8_outputOf (bs g) M = some (outF m (M 1) (M 3) g, u2 M 0 4 (b2 (lost m t (M 1) g))) := by
  have w1 := h.1.2.1.1
  have := e_out_l h g hg m 0 10000 (M 1 3) false (by omega) (by omega)
  rw [show b2 false = 0 from rfl] at this
  rw [f_X8_outputOf, ib_3, ck_t, cl_3, lb_e, lb_e, lit_nI 0, show u2 M 0 4 (nI 0) = u2 M 0 4 0 from rfl, this, Bool.false_or, outF, lost, an_8 w1 _ (fun q hq => gap_ge hq), mixr_8 w1 _ (fun q hq => fl_ge hq)]
/-- the class's mixture, where nothing is lost -/
theorem e_cmix {I : St} {o m t : Nat} {v R : Nat → Int32} (ho : isA o = true) {g : Nat → Bool} (hl : lost m t v g = false) (h3 : I 3 1 = v 3) (h10 : I 0 10 = bs (fl m v 5)) (hR : ∀ p, p < m → p < 8 → I o p = R p) : f_X4_mixed o (csF m t v g) I = some (outF m v R g) := by
  have hR' : ∀ p, p < 8 → fl m v 5 p = true → I o p = R p := fun p hp f => hR p (Nat.lt_of_not_le fun z => by rw [fl_ge z] at f; cases f) hp
  unfold csF outF
  rw [hl, if_neg (by decide)]
  by_cases c0 : v 5 = 0
  · rw [if_pos c0, e_mixed ho h3 h10 hR']
    refine congrArg some (mixr_congr 8 0 _ fun p _ _ => ⟨rfl, fun _ => ?_⟩)
    simp [cnF, c0]
  · rw [if_neg c0, e_mixed ho h3 h10 hR']
    refine congrArg some (mixr_congr 8 0 _ fun p _ _ => ⟨rfl, fun f => ?_⟩)
    simp [cnF, c0, f]
theorem e_takes_l {m : Nat} (hm : m ≤ 8) : ∀ (d i F : Nat) (M : St), i + d = m → d < F → M 1 4 = nI m → ∃ M', f_X8_takesSecrets_l2 F (nI i) M = some M' ∧ (∀ o, o ≠ 3 → M' o = M o) ∧ (∀ p, p < i → M' 3 p = M 3 p) ∧ (∀ p, i ≤ p → p < m → M' 3 p = M 1 (20 + 40 * p + 9)) := by
  intro d
  induction d with
  | zero =>
    intro i F M hi hF h4
    obtain ⟨F, rfl⟩ : ∃ g, F = g + 1 := ⟨F - 1, by omega⟩
    refine ⟨M, ?_, fun _ _ => rfl, fun _ _ => rfl, fun p a b => absurd b (by omega)⟩
    rw [f_X8_takesSecrets_l2, ib_4, ck_t, cl_4, h4, if_pos (nI_le (by omega) (by omega))]
  | succ d ih =>
    intro i F M hi hF h4
    obtain ⟨F, rfl⟩ : ∃ g, F = g + 1 := ⟨F - 1, by omega⟩
    obtain ⟨M2, hM2⟩ : ∃ M2, M2 = u2 M 3 i (M 1 (20 + 40 * i + 9)) := ⟨_, rfl⟩
    have r1 : ∀ q, M2 3 q = if q = i then M 1 (20 + 40 * i + 9) else M 3 q := fun q => by rw [hM2, u2_row, upd_ap]
    have r2 : ∀ o, o ≠ 3 → M2 o = M o := fun o ho => by rw [hM2, u2_off _ _ _ _ ho]
    obtain ⟨M', k1, k2, k3, k4⟩ := ih (i + 1) F M2 (by omega) (by omega) (by rw [r2 1 (by decide)]; exact h4)
    refine ⟨M', ?_, fun o ho => by rw [k2 o ho, r2 o ho], fun p hp => by rw [k3 p (by omega), r1, if_neg (by omega)], fun p a b => ?_⟩
    · rw [f_X8_takesSecrets_l2, ib_4, ck_t, cl_4, h4, if_neg (nI_ge (by omega) (by omega)), e_person, ob1_s, lit_nI 9, nI_add, lb_e, inb_nI (by omega) (by decide), ck_t, inb_nI (by omega) (by decide), ck_t, nI_clamp (n := 20 + 40 * i + 9) (by omega), nI_clamp (n := i) (by omega), lb_e, ← hM2, nI_1]
      exact k1
    · by_cases e : p = i
      · subst e
        rw [k3 p (by omega), r1, if_pos rfl]
      · rw [k4 p (by omega) b, r2 1 (by decide)]
theorem e_takes {m : Nat} (hm : m ≤ 8) (M : St) (h4 : M 1 4 = nI m) : ∃ M', f_X8_takesSecrets M = some M' ∧ (∀ o, o ≠ 3 → M' o = M o) ∧ (∀ p, p < m → M' 3 p = M 1 (20 + 40 * p + 9)) := by
  obtain ⟨M', a, b, -, d⟩ := e_takes_l hm m 0 10000 M (by omega) (by omega) h4
  exact ⟨M', by rw [f_X8_takesSecrets, lit_nI 0]; exact a, b, fun p hp => d p (Nat.zero_le _) hp⟩
