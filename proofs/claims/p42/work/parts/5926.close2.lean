/-! a round is closed -/
def acs (i : Nat) : Prop := i = 2 ∨ (20 ≤ i ∧ i < 340 ∧ (i - 20) % 40 < 5)
theorem K.mrow {m e t n ph : Nat} {I0 M0 I M M' : St} (h : K m e t n ph I0 M0 I M) (h1 : M' 1 = M 1) (h2 : FM M0 M') : K m e t n ph I0 M0 I M' := ⟨by rw [h1]; exact h.1, by rw [h1]; exact h.2.1, by rw [h1]; exact h.2.2.1, h.2.2.2.1, h2⟩
theorem K.irow {m e t n ph : Nat} {I0 M0 I I' M : St} (h : K m e t n ph I0 M0 I M) (h1 : ∀ o, o < 29 → I' o = I o) (h2 : FI I0 I') : K m e t n ph I0 M0 I' M := by
  have hm := h.1.2.1.1
  have ht := h.1.2.1.2.2.2.2.2.1
  refine ⟨h.1.cg (fun j k q => ?_) (fun _ _ => rfl), h.2.1.cg hm ht ?_ ?_ ?_ ?_ (fun p hp => ?_) (fun p k hp hk => ?_) rfl rfl (fun _ _ _ _ => rfl), h.2.2.1, h2, h.2.2.2.2⟩
  · rw [h1 j]
    rcases q with q | q | q
    · exact Nat.lt_of_not_le fun z => q (pr_out (Or.inl z))
    · omega
    · omega
  · rw [h1 0 (by decide)]
  · rw [h1 0 (by decide)]
  · rw [h1 0 (by decide)]
  · rw [h1 0 (by decide)]
  · rw [h1 _ (by omega)]
  · rw [h1 _ (by omega)]
theorem e_charge_tail {m : Nat} {f5 f57 : Nat → Bool} (g5 : ∀ p, m ≤ p → f5 p = false) (g57 : ∀ p, m ≤ p → f57 p = false) {I : St} (h10 : I 0 10 = bs f5) (h12 : I 0 12 = bs f57) : ∀ (d i F : Nat), i + d = 8 → d < F → m ≤ i → f_X4_chargeOrCredit_l2 F (nI i) I = some I := by
  intro d
  induction d with
  | zero =>
    intro i F hi hF _
    obtain ⟨F, rfl⟩ : ∃ g, F = g + 1 := ⟨F - 1, by omega⟩
    rw [f_X4_chargeOrCredit_l2, if_pos (show (8 : Int32) ≤ nI i from nI_le (a := 8) (by omega) (by omega))]
  | succ d ih =>
    intro i F hi hF hm
    obtain ⟨F, rfl⟩ : ∃ g, F = g + 1 := ⟨F - 1, by omega⟩
    rw [f_X4_chargeOrCredit_l2, if_neg (show ¬ (8 : Int32) ≤ nI i from nI_ge (b := 8) (by omega) (by omega)), lb_e, h12, e_has _ (by omega), ob1_s, g57 i hm, if_pos (show b2 false = 0 from rfl), lb_e, h10, e_has _ (by omega), ob1_s, g5 i hm, if_pos (show b2 false = 0 from rfl), f_X4_chargeOrCredit_b68, nI_1]
    exact ih (i + 1) F (by omega) (by omega) (by omega)
theorem e_charge_l {m e t n : Nat} {I0 M0 : St} {f5 f57 : Nat → Bool} (hsub : ∀ p, f57 p = true → f5 p = true) (g5 : ∀ p, m ≤ p → f5 p = false) : ∀ (d i F G : Nat) (I M : St), i + d = m → d + 9 < F → d < G → K m e t n 2 I0 M0 I M → (∀ p, p < 8 → fl m (M 1) 5 p = f5 p) → (∀ p, p < 8 → (fl m (M 1) 5 p && fl m (M 1) 7 p) = f57 p) → ∃ I' M', f_X4_chargeOrCredit_l2 F (nI i) I = some I' ∧ (∀ v3 v4, f_X8_closes_l34 G (bs f5) (bs f57) v3 v4 (nI i) M = f_X8_closes_l34 1 (bs f5) (bs f57) v3 v4 (nI m) M') ∧ K m e t n 2 I0 M0 I' M' ∧ (∀ o, o = 2 ∨ o = 3 ∨ o = 4 → I' o = I o) ∧ (∀ o, o ≠ 1 → M' o = M o) ∧ (∀ q, ¬ acs q → M' 1 q = M 1 q) := by
  intro d
  induction d with
  | zero =>
    intro i F G I M hi hF hG h h5 h57
    obtain ⟨G, rfl⟩ : ∃ g, G = g + 1 := ⟨G - 1, by omega⟩
    have w1 := h.1.2.1.1
    have w2 := h.1.2.1.2.1
    have em : i = m := by omega
    subst em
    have hl : nI i ≤ nI i := nI_le (Nat.le_refl _) (by omega)
    have g57 : ∀ p, i ≤ p → f57 p = false := fun p hp => Bool.eq_false_iff.mpr fun z => by
      have := hsub p z
      rw [g5 p hp] at this; cases this
    refine ⟨I, M, ?_, fun v3 v4 => ?_, h, fun _ _ => rfl, fun _ _ => rfl, fun _ _ => rfl⟩
    · exact e_charge_tail g5 g57 (by rw [h.2.1.1]; exact bs_congr h5) (by rw [h.2.1.2.2.1]; exact bs_congr h57) (8 - i) i F (by omega) (by omega) (Nat.le_refl _)
    · rw [f_X8_closes_l34, f_X8_closes_l34, ib_4, ck_t, cl_4, w2, if_pos hl, ck_t, if_pos hl]
  | succ d ih =>
    intro i F G I M hi hF hG h h5 h57
    obtain ⟨F, rfl⟩ : ∃ g, F = g + 1 := ⟨F - 1, by omega⟩
    obtain ⟨G, rfl⟩ : ∃ g, G = g + 1 := ⟨G - 1, by omega⟩
    have w1 := h.1.2.1.1
    have w2 := h.1.2.1.2.1
    have i8 : i < 8 := by omega
    have ii : inb (nI i) 8 = true := inb_nI i8 (by decide)
    have ci : (nI i).toNatClampNeg = i := nI_clamp (by omega)
    have h10 : I 0 10 = bs f5 := by rw [h.2.1.1]; exact bs_congr h5
    have h12 : I 0 12 = bs f57 := by rw [h.2.1.2.2.1]; exact bs_congr h57
    have in1 : ∀ w, w < 40 → inb (nI (20 + 40 * i + w)) 420 = true := fun w hw => inb_nI (by omega) (by decide)
    have cl1 : ∀ w, w < 40 → (nI (20 + 40 * i + w)).toNatClampNeg = 20 + 40 * i + w := fun w hw => nI_clamp (by omega)
    have nI1 : nI (20 + 40 * i) + 1 = nI (20 + 40 * i + 1) := nI_add _ 1
    have nI2 : nI (20 + 40 * i) + 2 = nI (20 + 40 * i + 2) := nI_add _ 2
    have ec : f_X4_chargeOrCredit_l2 (F + 1) (nI i) I = (if b2 (f57 i) = 0 then (if b2 (f5 i) = 0 then f_X4_chargeOrCredit_b68 (f_X4_chargeOrCredit_l2 F) (nI i) I else lb (I (5 + i) 3) fun x11 => lb (u2 I (5 + i) 3 (x11 + 1)) fun I12 => ob1 (f_X4_payFine (nI i) I12) fun I14 => f_X4_chargeOrCredit_b68 (f_X4_chargeOrCredit_l2 F) (nI i) I14) else lb (I (5 + i) 2) fun x16 => lb (u2 I (5 + i) 2 (x16 + 1)) fun I17 => f_X4_chargeOrCredit_b68 (f_X4_chargeOrCredit_l2 F) (nI i) I17) := by
      rw [f_X4_chargeOrCredit_l2, if_neg (show ¬ (8 : Int32) ≤ nI i from nI_ge (b := 8) (by omega) (by omega)), lb_e, h12, e_has _ i8, ob1_s, lb_e, h10, e_has _ i8, ob1_s, ii, ck_t, ci]
      rfl
    have em : ∀ v3 v4, f_X8_closes_l34 (G + 1) (bs f5) (bs f57) v3 v4 (nI i) M = (if (if f5 i = true then (1 : Int32) else 0) = 1 then (if (if f57 i = true then (1 : Int32) else 0) = 1 then f_X8_closes_b70 (f_X8_closes_l34 G) (bs f5) (bs f57) v3 v4 (nI i) 1 M else f_X8_closes_b70 (f_X8_closes_l34 G) (bs f5) (bs f57) v3 v4 (nI i) 0 M) else f_X8_closes_l34 G (bs f5) (bs f57) v3 v4 (nI (i + 1)) M) := fun v3 v4 => by
      rw [f_X8_closes_l34, ib_4, ck_t, cl_4, w2, if_neg (nI_ge (by omega) (by omega)), lb_e, bs_hasS f5 i8, lb_e, lb_e, bs_hasS f57 i8, lb_e, f_X8_closes_b133, nI_1]
    cases hf : f5 i
    · have hg : f57 i = false := Bool.eq_false_iff.mpr fun z => by rw [hsub i z] at hf; cases hf
      obtain ⟨I', M', k1, k2, k3, k4, k5, k6⟩ := ih (i + 1) F G I M (by omega) (by omega) (by omega) h h5 h57
      refine ⟨I', M', ?_, fun v3 v4 => ?_, k3, k4, k5, k6⟩
      · rw [ec, hg, hf, if_pos (show b2 false = 0 from rfl), f_X4_chargeOrCredit_b68, nI_1]; exact k1
      · rw [em, hf, if_neg (show ¬ false = true by decide), if_neg (show ¬ (0 : Int32) = 1 by decide)]; exact k2 v3 v4
    · obtain ⟨-, -, q2, q3, -⟩ := prP i i8
      cases hg : f57 i
      · have x2 : I (5 + i) 3 = M 1 (20 + 40 * i + 2) := h.1.1 _ _ _ q3
        have hk := h.st q3 (Or.inr ⟨by omega, by omega, Or.inl (by omega)⟩) (M 1 (20 + 40 * i + 2) + 1)
        obtain ⟨I2, M2, p1, p2, p3, p4, p5⟩ := hk.pay i8
        have fr : ∀ q, ¬ acs q → M2 1 q = M 1 q := fun q hq => by
          rw [p4 q (fun z => hq (Or.inl z)) (fun z => hq (Or.inr ⟨by omega, by omega, by omega⟩)), u2_row, upd_ap, if_neg (fun z => hq (Or.inr ⟨by omega, by omega, by omega⟩))]
        have nq : ∀ p w, 5 ≤ w → w < 40 → p < 8 → ¬ acs (20 + 40 * p + w) := fun p w a b c z => by
          rcases z with z | ⟨z1, z2, z3⟩ <;> omega
        obtain ⟨I', M', k1, k2, k3, k4, k5, k6⟩ := ih (i + 1) F G I2 M2 (by omega) (by omega) (by omega) p3 (fun p hp => by rw [fl.cg (fun _ => fr _ (nq p 5 (by decide) (by decide) hp))]; exact h5 p hp) (fun p hp => by rw [fl.cg (fun _ => fr _ (nq p 5 (by decide) (by decide) hp)), fl.cg (fun _ => fr _ (nq p 7 (by decide) (by decide) hp))]; exact h57 p hp)
        refine ⟨I', M', ?_, fun v3 v4 => ?_, k3, fun o ho => ?_, fun o ho => by rw [k5 o ho, p5 o ho, u2_off _ _ _ _ ho], fun q hq => by rw [k6 q hq, fr q hq]⟩
        · rw [ec, hg, hf, if_pos (show b2 false = 0 from rfl), if_neg (show ¬ b2 true = 0 by decide), lb_e, lb_e, x2, p1, ob1_s, f_X4_chargeOrCredit_b68, nI_1]; exact k1
        · have s1 : u2 M 1 (20 + 40 * i + 1) (M 1 (20 + 40 * i + 1) + 0) = M := u2_self M _ _ (by rw [Int32.add_zero])
          rw [em, hf, hg, if_pos rfl, if_pos rfl, if_neg (show ¬ false = true by decide), if_neg (show ¬ (0 : Int32) = 1 by decide), f_X8_closes_b70, e_person, ob1_s, nI1, lb_e, in1 1 (by decide), ck_t, cl1 1 (by decide), lb_e, if_pos rfl, f_X8_closes_b95, in1 1 (by decide), ck_t, cl1 1 (by decide), s1, lb_e, e_person, ob1_s, nI2, lb_e, in1 2 (by decide), ck_t, cl1 2 (by decide), lb_e, if_pos rfl, f_X8_closes_b120, in1 2 (by decide), ck_t, cl1 2 (by decide), lb_e, if_pos rfl, p2, ob1_s, f_X8_closes_b133, nI_1]
          exact k2 v3 v4
        · rw [k4 o ho]
          have e1 := e_cpay (u2 I (5 + i) 3 (M 1 (20 + 40 * i + 2) + 1)) i8
          rw [p1] at e1
          cases e1
          rw [u2_off _ _ _ _ (by omega), u2_off _ _ _ _ (by omega), u2_off _ _ _ _ (by omega)]
      · have x1 : I (5 + i) 2 = M 1 (20 + 40 * i + 1) := h.1.1 _ _ _ q2
        have hk := h.st q2 (Or.inr ⟨by omega, by omega, Or.inl (by omega)⟩) (M 1 (20 + 40 * i + 1) + 1)
        have fr : ∀ q, ¬ acs q → u2 M 1 (20 + 40 * i + 1) (M 1 (20 + 40 * i + 1) + 1) 1 q = M 1 q := fun q hq => by
          rw [u2_row, upd_ap, if_neg (fun z => hq (Or.inr ⟨by omega, by omega, by omega⟩))]
        have nq : ∀ p w, 5 ≤ w → w < 40 → p < 8 → ¬ acs (20 + 40 * p + w) := fun p w a b c z => by
          rcases z with z | ⟨z1, z2, z3⟩ <;> omega
        obtain ⟨I', M', k1, k2, k3, k4, k5, k6⟩ := ih (i + 1) F G _ _ (by omega) (by omega) (by omega) hk (fun p hp => by rw [fl.cg (fun _ => fr _ (nq p 5 (by decide) (by decide) hp))]; exact h5 p hp) (fun p hp => by rw [fl.cg (fun _ => fr _ (nq p 5 (by decide) (by decide) hp)), fl.cg (fun _ => fr _ (nq p 7 (by decide) (by decide) hp))]; exact h57 p hp)
        refine ⟨I', M', ?_, fun v3 v4 => ?_, k3, fun o ho => by rw [k4 o ho, u2_off _ _ _ _ (by omega)], fun o ho => by rw [k5 o ho, u2_off _ _ _ _ ho], fun q hq => by rw [k6 q hq, fr q hq]⟩
        · rw [ec, hg, if_neg (show ¬ b2 true = 0 by decide), lb_e, lb_e, x1, f_X4_chargeOrCredit_b68, nI_1]; exact k1
        · have s2 : ∀ T : St, u2 T 1 (20 + 40 * i + 2) (T 1 (20 + 40 * i + 2) + 0) = T := fun T => u2_self T _ _ (by rw [Int32.add_zero])
          rw [em, hf, hg, if_pos rfl, if_pos rfl, if_pos rfl, f_X8_closes_b70, e_person, ob1_s, nI1, lb_e, in1 1 (by decide), ck_t, cl1 1 (by decide), lb_e, if_neg (show ¬ (1 : Int32) = 0 by decide), f_X8_closes_b95, in1 1 (by decide), ck_t, cl1 1 (by decide), lb_e, e_person, ob1_s, nI2, lb_e, in1 2 (by decide), ck_t, cl1 2 (by decide), lb_e, if_neg (show ¬ (1 : Int32) = 0 by decide), f_X8_closes_b120, in1 2 (by decide), ck_t, cl1 2 (by decide), s2, lb_e, if_neg (show ¬ (1 : Int32) = 0 by decide), f_X8_closes_b133, nI_1]
          exact k2 v3 v4
