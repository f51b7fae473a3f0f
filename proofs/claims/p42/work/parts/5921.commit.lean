/-! copies; commit -/
def an (f : Nat → Bool) : Nat → Nat → Bool
  | 0, _ => false
  | d + 1, i => f i || an f d (i + 1)
theorem an_f (f : Nat → Bool) : ∀ d i, (∀ q, i ≤ q → q < i + d → f q = false) → an f d i = false
  | 0, _, _ => rfl
  | d + 1, i, h => by rw [an, h i (Nat.le_refl _) (by omega), an_f f d (i + 1) (fun q a b => h q (by omega) (by omega))]; rfl
theorem an_add (f : Nat → Bool) : ∀ a b i, an f (a + b) i = (an f a i || an f b (i + a))
  | 0, b, i => by rw [Nat.zero_add]; rfl
  | a + 1, b, i => by
    rw [show a + 1 + b = (a + b) + 1 by omega, an, an, an_add f a b (i + 1), Bool.or_assoc, show i + 1 + a = i + (a + 1) by omega]
theorem an_8 {m : Nat} (hm : m ≤ 8) (f : Nat → Bool) (h : ∀ q, m ≤ q → f q = false) : an f 8 0 = an f m 0 := by
  have := an_add f m (8 - m) 0
  rw [show m + (8 - m) = 8 by omega] at this
  rw [this, an_f f (8 - m) (0 + m) (fun q a _ => h q (by omega)), Bool.or_false]
theorem an_congr {f g : Nat → Bool} : ∀ d i, (∀ q, i ≤ q → q < i + d → f q = g q) → an f d i = an g d i
  | 0, _, _ => rfl
  | d + 1, i, h => by rw [an, an, h i (Nat.le_refl _) (by omega), an_congr d (i + 1) (fun q a b => h q (by omega) (by omega))]
def cpy (m : Nat) (v : Nat → Int32) (D : Int32) (q : Nat) : Bool := fl m v 5 q && fl m v 6 q && decide (v (20 + 40 * q + 11) = D)
theorem e_taken_l {m : Nat} {I : St} {v : Nat → Int32} (h11 : I 0 11 = bs (fun q => fl m v 5 q && fl m v 6 q)) (h6 : ∀ q, q < 8 → I (5 + q) 6 = v (20 + 40 * q + 11)) (D : Int32) : ∀ (d i F : Nat), i + d = 8 → d < F → f_X4_isTaken_l2 F D (nI i) I = some (b2 (an (cpy m v D) d i)) := by
  intro d
  induction d with
  | zero =>
    intro i F hi hF
    obtain ⟨F, rfl⟩ : ∃ g, F = g + 1 := ⟨F - 1, by omega⟩
    rw [f_X4_isTaken_l2, if_pos (show (8 : Int32) ≤ nI i from nI_le (a := 8) (by omega) (by omega))]
    rfl
  | succ d ih =>
    intro i F hi hF
    obtain ⟨F, rfl⟩ : ∃ g, F = g + 1 := ⟨F - 1, by omega⟩
    rw [f_X4_isTaken_l2, if_neg (show ¬ (8 : Int32) ≤ nI i from nI_ge (b := 8) (by omega) (by omega)), lb_e, h11, e_has _ (by omega), ob1_s, an]
    have ec : cpy m v D i = (fl m v 5 i && fl m v 6 i && decide (v (20 + 40 * i + 11) = D)) := rfl
    rw [ec]
    cases hf : (fl m v 5 i && fl m v 6 i)
    · rw [if_pos (show b2 false = 0 from rfl), f_X4_isTaken_b34, nI_1, ih (i + 1) F (by omega) (by omega)]
      simp
    · rw [if_neg (show ¬ b2 true = 0 by decide), inb_nI (by omega) (by decide), ck_t, nI_clamp (by omega), lb_e, h6 i (by omega)]
      by_cases c : v (20 + 40 * i + 11) = D
      · rw [if_pos c, decide_eq_true c]; rfl
      · rw [if_neg c, decide_eq_false c, f_X4_isTaken_b34, nI_1, ih (i + 1) F (by omega) (by omega)]
        simp
theorem e_copy_l {m p : Nat} (hm : m ≤ 8) {M : St} (h4 : M 1 4 = nI m) (D : Int32) (hp : p < m) (hc : (fl m (M 1) 5 p && fl m (M 1) 6 p) = false) : ∀ (d i F : Nat) (b : Bool), i + d = m → d < F → f_X8_isCopy_l5 F (nI p) D (b2 b) (nI i) M = some (b2 (b || an (cpy m (M 1) D) d i)) := by
  intro d
  induction d with
  | zero =>
    intro i F b hi hF
    obtain ⟨F, rfl⟩ : ∃ g, F = g + 1 := ⟨F - 1, by omega⟩
    rw [f_X8_isCopy_l5, ib_4, ck_t, cl_4, h4, if_pos (nI_le (by omega) (by omega))]
    cases b
    · rw [show b2 false = 0 from rfl, isB_0, ck_t]; rfl
    · rw [show b2 true = 1 from rfl, isB_1, ck_t]; rfl
  | succ d ih =>
    intro i F b hi hF
    obtain ⟨F, rfl⟩ : ∃ g, F = g + 1 := ⟨F - 1, by omega⟩
    have i1 : inb (nI (20 + 40 * i + 11)) 420 = true := inb_nI (by omega) (by decide)
    have k0 : f_X8_isCopy_b68 (f_X8_isCopy_l5 F) (nI p) D (nI i) M = some (b2 (false || an (cpy m (M 1) D) d (i + 1))) := by
      rw [f_X8_isCopy_b68, f_X8_isCopy_b69, nI_1]
      exact ih (i + 1) F false (by omega) (by omega)
    have k1 : f_X8_isCopy_b64 (f_X8_isCopy_l5 F) (nI p) D (nI i) M = some (b2 (true || an (cpy m (M 1) D) d (i + 1))) := by
      rw [f_X8_isCopy_b64, f_X8_isCopy_b69, nI_1]
      exact ih (i + 1) F true (by omega) (by omega)
    have ec : cpy m (M 1) D i = (fl m (M 1) 5 i && fl m (M 1) 6 i && decide (M 1 (20 + 40 * i + 11) = D)) := rfl
    rw [f_X8_isCopy_l5, ib_4, ck_t, cl_4, h4, if_neg (nI_ge (by omega) (by omega)), an]
    cases b
    · rw [if_pos (show b2 false = 0 from rfl)]
      by_cases e : i = p
      · subst e
        rw [if_pos rfl, k0, ec, hc]; simp
      · rw [if_neg (fun q => e ((nI_eq (by omega) (by omega)).1 q)), lit_nI 5, e_mhas (by omega) (by decide), ob1_s, fl_mem (show i < m by omega), ec]
        cases hf : fl m (M 1) 5 i
        · rw [if_pos (show b2 false = 0 from rfl), k0]; simp
        · rw [if_neg (show ¬ b2 true = 0 by decide), lit_nI 6, e_mhas (by omega) (by decide), ob1_s, fl_mem (show i < m by omega)]
          cases hg : fl m (M 1) 6 i
          · rw [if_pos (show b2 false = 0 from rfl), k0]; simp
          · rw [if_neg (show ¬ b2 true = 0 by decide), e_person, ob1_s, lit_nI 11, nI_add, lb_e, i1, ck_t, nI_clamp (by omega), lb_e]
            by_cases c : M 1 (20 + 40 * i + 11) = D
            · rw [if_pos c, k1, decide_eq_true c]; simp
            · rw [if_neg c, k0, decide_eq_false c]; simp
    · rw [if_neg (show ¬ b2 true = 0 by decide), k1]
      simp
theorem K.copies {m e t n : Nat} {I0 M0 I M : St} (h : K m e t n 1 I0 M0 I M) {p : Nat} (hp : p < m) (D : Int32) (hc : (fl m (M 1) 5 p && fl m (M 1) 6 p) = false) : ∃ b, f_X4_isTaken D I = some (b2 b) ∧ f_X8_isCopy (nI p) D M = some (b2 b) := by
  have w1 := h.1.2.1.1
  refine ⟨an (cpy m (M 1) D) m 0, ?_, ?_⟩
  · rw [f_X4_isTaken, lit_nI 0, e_taken_l h.2.1.2.1 (fun q hq => h.1.1 _ _ _ (prP q hq).2.2.2.2.2.2.1) D 8 0 10000 (by decide) (by decide), an_8 w1]
    intro q hq
    unfold cpy fl
    simp [show ¬ q < m by omega]
  · rw [f_X8_isCopy, show (0 : Int32) = b2 false from rfl]
    have := e_copy_l w1 h.1.2.1.2.1 D hp hc m 0 10000 false (by omega) (by omega)
    rw [Bool.false_or] at this
    exact this
theorem rem_K {n m e t ph : Nat} {I M : St} (h : RR n I M) (lc : LC m e t n I (M 1)) (rp : RP m t I (M 1)) (hph : M 1 0 = nI ph) : ∃ I1 M1, f_X3_remember I = some I1 ∧ f_X8_act M = some M1 ∧ RR n I1 M1 ∧ K m e t n ph I1 M1 I1 M1 ∧ M1 1 = M 1 ∧ (∀ o, o < 29 → I1 o = I o) := by
  obtain ⟨I1, M1, a1, a2, a3, a4, a5⟩ := e_rem h
  have hm := lc.2.1.1
  have ht := lc.2.1.2.2.2.2.2.1
  refine ⟨I1, M1, a1, a2, a3, ⟨?_, ?_, by rw [a5]; exact hph, FI.rf, FM.rf⟩, a5, a4⟩
  · rw [a5]
    exact lc.cg (fun j k q => by
      rw [a4 j]
      rcases q with q | q | q
      · exact Nat.lt_of_not_le fun z => q (pr_out (Or.inl z))
      · omega
      · omega) (fun _ _ => rfl)
  · rw [a5]
    exact rp.cg hm ht (by rw [a4 0 (by decide)]) (by rw [a4 0 (by decide)]) (by rw [a4 0 (by decide)]) (by rw [a4 0 (by decide)]) (fun p hp => by rw [a4 _ (by omega)]) (fun p k hp _ => by rw [a4 _ (by omega)]) rfl rfl (fun _ _ _ _ => rfl)
theorem s_commit {n : Nat} {I M : St} (h : RR n I M) (x y z : Int32) : Sm n (f_X7_commit x y z I) (f_X8_commit x y z M) := by
  obtain ⟨m, e, t, h1, w, h3, h4, h5⟩ := id h.1
  have w1 := w.1
  have w2 := w.2.1
  have hc : I 0 3 = nI m := by rw [h1 0 3 4 rfl, w2]
  rw [f_X7_commit, f_X8_commit, e_isPart w1 hc, ob1_s, e_isPerson w1 w2, ob1_s]
  cases hp : pers m x
  · rw [if_pos (show b2 false = 0 from rfl), if_pos (show b2 false = 0 from rfl)]
    exact Sm.same h _
  obtain ⟨p, hpm, rfl⟩ := pers_ex (by omega) hp
  rw [if_neg (show ¬ b2 true = 0 by decide), if_neg (show ¬ b2 true = 0 by decide), e_isWithin y, ob1_s, e_in y, ob1_s]
  by_cases hw : wi y 0 1018 = true
  case neg =>
    rw [Bool.eq_false_iff.mpr hw, if_pos (show b2 false = 0 from rfl), if_pos (show b2 false = 0 from rfl)]
    exact Sm.same h _
  obtain ⟨s, s1, s2, rfl⟩ := wi_ex (a := 0) (b := 1018) (by decide) (by decide) hw
  rw [hw, if_neg (show ¬ b2 true = 0 by decide), if_neg (show ¬ b2 true = 0 by decide), lb_e (I 0 9), ib_0, ck_t, cl_0, lb_e (M 1 0), h1 0 9 0 rfl]
  by_cases c1 : M 1 0 = 1
  case neg =>
    rw [if_neg c1, if_neg c1]
    exact Sm.same h _
  have rp := h5 (by rw [c1]; decide)
  rw [if_pos c1, if_pos c1, lb_e (I 0 10), rp.1, e_has _ (by omega), ob1_s, lit_nI 5, e_mhas (by omega) (by decide), fl_mem hpm, ob1_s]
  cases f5 : fl m (M 1) 5 p
  · rw [if_pos (show b2 false = 0 from rfl), if_pos (show b2 false = 0 from rfl)]
    exact Sm.same h _
  rw [if_neg (show ¬ b2 true = 0 by decide), if_neg (show ¬ b2 true = 0 by decide), lb_e (I 0 11), rp.2.1, e_has _ (by omega), ob1_s, f5, Bool.true_and, lit_nI 6, e_mhas (by omega) (by decide), fl_mem hpm, ob1_s]
  cases f6 : fl m (M 1) 6 p
  case true =>
    rw [if_neg (show ¬ b2 true = 0 by decide), if_neg (show ¬ b2 true = 0 by decide)]
    exact Sm.same h _
  have k0 : K m e t n 1 I M I M := ⟨⟨h1, w, h3, h4⟩, rp, by rw [c1]; rfl, FI.rf, FM.rf⟩
  obtain ⟨b, t1, t2⟩ := k0.copies hpm (dg (M 1) (nI s) z) (by rw [f5, f6]; rfl)
  rw [if_pos (show b2 false = 0 from rfl), if_pos (show b2 false = 0 from rfl), e_cdig (h1 3 0 1 rfl), ob1_s, e_mdig, ob1_s, t1, ob1_s, t2, ob1_s]
  cases b
  case true =>
    rw [if_neg (show ¬ b2 true = 0 by decide), if_neg (show ¬ b2 true = 0 by decide)]
    exact Sm.same h _
  obtain ⟨I1, M1, a1, a2, a3, k1, a5, a4⟩ := rem_K h k0.1 rp k0.2.2.1
  obtain ⟨I', M', g1, g2, g3, g4, -⟩ := k1.acc hpm (show s < 1019 by omega) z (by rw [a5]; exact f5)
  rw [if_pos (show b2 false = 0 from rfl), if_pos (show b2 false = 0 from rfl), a1, ob1_s, g1, ob1_s, a2, ob1_s, g2, ob1_s, e_person, ob1_s, lit_nI 11, nI_add, lb_e, inb_nI (by omega) (by decide), ck_t, nI_clamp (n := 20 + 40 * p + 11) (by omega), g4, lb_e, a5]
  exact ⟨_, I', M', rfl, rfl, g3.RR a3⟩
