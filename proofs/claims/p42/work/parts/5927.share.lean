/-! the pot is shared -/
def wz (Z J : St) : St := fun o => if o = 3 ∨ o = 4 then Z o else J o
theorem wz_u2 (Z J : St) {o k : Nat} (ho : o ≠ 3 ∧ o ≠ 4) (x : Int32) : wz Z (u2 J o k x) = u2 (wz Z J) o k x := by
  funext o' k'
  unfold wz
  by_cases c : o' = 3 ∨ o' = 4
  · rw [if_pos c, u2_ap, if_neg (by omega), if_pos c]
  · rw [if_neg c, u2_ap, u2_ap, if_neg c]
    by_cases e : o' = o
    · rw [if_pos e, if_pos e, if_neg (show ¬ (o = 3 ∨ o = 4) by omega)]
    · rw [if_neg e, if_neg e]
theorem Int32_step (P a : Int32) (c : Nat) : P - a * nI c - a = P - a * nI (c + 1) := by
  rw [← nI_1, Int32.mul_add, Int32.mul_one, Int32.sub_eq_add_neg, Int32.sub_eq_add_neg, Int32.sub_eq_add_neg, Int32.neg_add, Int32.sub_eq_add_neg, Int32.add_assoc]
def vz (v : Nat → Int32) (x : Int32) : Nat → Int32 := upd (upd v 0 0) 2 x
theorem e_share_tail {m : Nat} {f57 : Nat → Bool} (g57 : ∀ p, m ≤ p → f57 p = false) {a : Int32} {J : St} (h12 : J 0 12 = bs f57) : ∀ (d i F : Nat), i + d = 8 → d < F → m ≤ i → f_X4_sharePot_l14 F a (nI i) J = some J := by
  intro d
  induction d with
  | zero =>
    intro i F hi hF _
    obtain ⟨F, rfl⟩ : ∃ g, F = g + 1 := ⟨F - 1, by omega⟩
    rw [f_X4_sharePot_l14, if_pos (show (8 : Int32) ≤ nI i from nI_le (a := 8) (by omega) (by omega))]
  | succ d ih =>
    intro i F hi hF hm
    obtain ⟨F, rfl⟩ : ∃ g, F = g + 1 := ⟨F - 1, by omega⟩
    rw [f_X4_sharePot_l14, if_neg (show ¬ (8 : Int32) ≤ nI i from nI_ge (b := 8) (by omega) (by omega)), lb_e, h12, e_has _ (by omega), ob1_s, g57 i hm, if_pos (show b2 false = 0 from rfl), f_X4_sharePot_b56, nI_1]
    exact ih (i + 1) F (by omega) (by omega) (by omega)
theorem e_share_l {m e t n : Nat} {Z : St} {f57 : Nat → Bool} (hm : m ≤ 8) (g57 : ∀ p, m ≤ p → f57 p = false) {a P : Int32} : ∀ (d i F G : Nat) (J M : St), i + d = m → d + 9 < F → d < G → LC m e t n (wz Z J) (vz (M 1) (J 0 4)) → J 0 4 = P - a * nI (cnt8 (fun q => decide (q < i) && f57 q)) → J 0 12 = bs f57 → M 1 4 = nI m → ∃ J' M', f_X4_sharePot_l14 F a (nI i) J = some J' ∧ (∀ v1 v3 v4 v5, f_X8_closes_l169 G v1 (bs f57) v3 v4 v5 a (nI i) M = f_X8_closes_l169 1 v1 (bs f57) v3 v4 v5 a (nI m) M') ∧ LC m e t n (wz Z J') (vz (M' 1) (J' 0 4)) ∧ J' 0 4 = P - a * nI (cnt8 f57) ∧ (∀ o, (5 ≤ o → 13 ≤ o) → o ≠ 0 → J' o = J o) ∧ (∀ k, k ≠ 4 → J' 0 k = J 0 k) ∧ (∀ o, o ≠ 1 → M' o = M o) ∧ (∀ q, (∀ p, p < m → q ≠ 20 + 40 * p + 0) → M' 1 q = M 1 q) := by
  intro d
  induction d with
  | zero =>
    intro i F G J M hi hF hG h hp h12 h4
    obtain ⟨G, rfl⟩ : ∃ g, G = g + 1 := ⟨G - 1, by omega⟩
    have em : i = m := by omega
    subst em
    have hl : nI i ≤ nI i := nI_le (Nat.le_refl _) (by omega)
    refine ⟨J, M, e_share_tail g57 h12 (8 - i) i F (by omega) (by omega) (Nat.le_refl _), fun v1 v3 v4 v5 => ?_, h, ?_, fun _ _ _ => rfl, fun _ _ => rfl, fun _ _ => rfl, fun _ _ => rfl⟩
    · rw [f_X8_closes_l169, f_X8_closes_l169, ib_4, ck_t, cl_4, h4, if_pos hl, ck_t, if_pos hl]
    · rw [hp]
      refine congrArg (fun z => P - a * nI z) (cnt8_congr fun q _ => ?_)
      by_cases c : q < i
      · simp [c]
      · simp [g57 q (by omega)]
  | succ d ih =>
    intro i F G J M hi hF hG h hp h12 h4
    obtain ⟨F, rfl⟩ : ∃ g, F = g + 1 := ⟨F - 1, by omega⟩
    obtain ⟨G, rfl⟩ : ∃ g, G = g + 1 := ⟨G - 1, by omega⟩
    have i8 : i < 8 := by omega
    have hs := cnt_step f57 i8
    have in0 : inb (nI (20 + 40 * i + 0)) 420 = true := inb_nI (by omega) (by decide)
    have cl0 : (nI (20 + 40 * i + 0)).toNatClampNeg = 20 + 40 * i + 0 := nI_clamp (by omega)
    have nI0 : nI (20 + 40 * i) + 0 = nI (20 + 40 * i + 0) := nI_add _ 0
    have ec : f_X4_sharePot_l14 (F + 1) a (nI i) J = (if b2 (f57 i) = 0 then f_X4_sharePot_b56 (f_X4_sharePot_l14 F) a (nI i) J else lb (J (5 + i) 0) fun x7 => lb (u2 J (5 + i) 0 (x7 + a)) fun I8 => lb (I8 0 4) fun x9 => lb (u2 I8 0 4 (x9 - a)) fun I10 => f_X4_sharePot_b56 (f_X4_sharePot_l14 F) a (nI i) I10) := by
      rw [f_X4_sharePot_l14, if_neg (show ¬ (8 : Int32) ≤ nI i from nI_ge (b := 8) (by omega) (by omega)), lb_e, h12, e_has _ i8, ob1_s, inb_nI i8 (by decide), ck_t, nI_clamp (by omega)]
    have em : ∀ v1 v3 v4 v5, f_X8_closes_l169 (G + 1) v1 (bs f57) v3 v4 v5 a (nI i) M = (if (if f57 i = true then (1 : Int32) else 0) = 1 then f_X8_closes_b209 (f_X8_closes_l169 G) v1 (bs f57) v3 v4 v5 a (nI i) (nI (20 + 40 * i + 0)) (M 1 (20 + 40 * i + 0)) a M else f_X8_closes_b209 (f_X8_closes_l169 G) v1 (bs f57) v3 v4 v5 a (nI i) (nI (20 + 40 * i + 0)) (M 1 (20 + 40 * i + 0)) 0 M) := fun v1 v3 v4 v5 => by
      rw [f_X8_closes_l169, ib_4, ck_t, cl_4, h4, if_neg (nI_ge (by omega) (by omega)), e_person, ob1_s, nI0, lb_e, in0, ck_t, cl0, lb_e, lb_e, bs_hasS f57 i8, lb_e]
    cases hg : f57 i
    · simp only [hg, Bool.false_eq_true, if_false, Nat.add_zero] at hs
      obtain ⟨J', M', k1, k2, k3⟩ := ih (i + 1) F G J M (by omega) (by omega) (by omega) h (by rw [hs]; exact hp) h12 h4
      refine ⟨J', M', ?_, fun v1 v3 v4 v5 => ?_, k3⟩
      · rw [ec, hg, if_pos (show b2 false = 0 from rfl), f_X4_sharePot_b56, nI_1]; exact k1
      · have s0 : u2 M 1 (20 + 40 * i + 0) (M 1 (20 + 40 * i + 0) + 0) = M := u2_self M _ _ (by rw [Int32.add_zero])
        rw [em, hg, if_neg (show ¬ false = true by decide), if_neg (show ¬ (0 : Int32) = 1 by decide), f_X8_closes_b209, in0, ck_t, cl0, s0, lb_e, nI_1]
        exact k2 v1 v3 v4 v5
    · simp only [hg, if_true] at hs
      obtain ⟨q0, -⟩ := prP i i8
      have xb : J (5 + i) 0 = M 1 (20 + 40 * i + 0) := by
        have := h.1 _ _ _ q0
        rw [vz, upd_ap, if_neg (by omega), upd_ap, if_neg (by omega)] at this
        rw [← this, wz, if_neg (by omega)]
      have l2 := (h.st q0 (by omega) (M 1 (20 + 40 * i + 0) + a)).st (show pr 0 4 = some 2 from rfl) (by omega) (J 0 4 - a)
      have e4 : u2 J (5 + i) 0 (M 1 (20 + 40 * i + 0) + a) 0 4 = J 0 4 := by rw [u2_off _ _ _ _ (by omega)]
      have ev : upd (upd (vz (M 1) (J 0 4)) (20 + 40 * i + 0) (M 1 (20 + 40 * i + 0) + a)) 2 (J 0 4 - a) = vz (u2 M 1 (20 + 40 * i + 0) (M 1 (20 + 40 * i + 0) + a) 1) (J 0 4 - a) := by
        funext q
        rw [u2_row]
        simp only [vz, upd_ap]
        by_cases a2 : q = 2
        · rw [if_pos a2, if_pos a2]
        · rw [if_neg a2, if_neg a2, if_neg a2]
          by_cases a0 : q = 0
          · rw [if_pos a0, if_neg (by omega), if_pos a0]
          · rw [if_neg a0, if_neg a0]
      rw [ev, ← wz_u2 Z J (by omega), ← wz_u2 Z _ (by omega)] at l2
      obtain ⟨J', M', k1, k2, k3, k4, k5, k6, k7, k8⟩ := ih (i + 1) F G (u2 (u2 J (5 + i) 0 (M 1 (20 + 40 * i + 0) + a)) 0 4 (J 0 4 - a)) (u2 M 1 (20 + 40 * i + 0) (M 1 (20 + 40 * i + 0) + a)) (by omega) (by omega) (by omega) (by
        rw [show u2 (u2 J (5 + i) 0 (M 1 (20 + 40 * i + 0) + a)) 0 4 (J 0 4 - a) 0 4 = J 0 4 - a from by rw [u2_row, upd_ap, if_pos rfl]]
        exact l2) (by
        rw [show u2 (u2 J (5 + i) 0 (M 1 (20 + 40 * i + 0) + a)) 0 4 (J 0 4 - a) 0 4 = J 0 4 - a from by rw [u2_row, upd_ap, if_pos rfl], hp, Int32_step, hs]) (by
        rw [u2_row, upd_ap, if_neg (by decide), u2_off _ _ _ _ (by omega)]; exact h12) (by
        rw [u2_row, upd_ap, if_neg (by omega)]; exact h4)
      refine ⟨J', M', ?_, fun v1 v3 v4 v5 => ?_, k3, k4, fun o a b => by rw [k5 o a b, u2_off _ _ _ _ b, u2_off _ _ _ _ (by omega)], fun k hk => by rw [k6 k hk, u2_row, upd_ap, if_neg hk, u2_off _ _ _ _ (by omega)], fun o ho => by rw [k7 o ho, u2_off _ _ _ _ ho], fun q hq => by rw [k8 q hq, u2_row, upd_ap, if_neg (hq i (by omega))]⟩
      · rw [ec, hg, if_neg (show ¬ b2 true = 0 by decide), lb_e, xb, lb_e, e4, lb_e, lb_e, f_X4_sharePot_b56, nI_1]
        exact k1
      · rw [em, hg, if_pos rfl, if_pos rfl, f_X8_closes_b209, in0, ck_t, cl0, lb_e, nI_1]
        exact k2 v1 v3 v4 v5
/-! closing -/
theorem vz_back {v : Nat → Int32} {x y : Int32} (h : v 0 = y) : upd (vz v x) 0 y = upd v 2 x := by
  funext q
  simp only [vz, upd_ap]
  by_cases a0 : q = 0
  · rw [if_pos a0, if_neg (by omega), a0, h]
  · rw [if_neg a0, if_neg a0]
theorem bs_ne (f : Nat → Bool) : bs f ≠ -1 := by
  have : ∀ k, k < 256 → nI k ≠ -1 := by decide +kernel
  exact this _ (bn_lt f)
theorem K.close {m e t n : Nat} {I0 M0 I M : St} (h : K m e t n 2 I0 M0 I M) (hn : n < 2 ^ 30) : ∃ r I' M', f_X4_finish I = some (r, I') ∧ f_X8_closes M = some (r, M') ∧ FI I0 I' ∧ FM M0 M' ∧ LC m (e + 1) t (n + 1) I' (M' 1) ∧ M' 1 0 = 0 := by
  have w := h.1.2.1
  have w1 := w.1
  have w2 := w.2.1
  obtain ⟨M1, t1, t2, t3⟩ := e_takes w1 M w2
  obtain ⟨f5, hf5⟩ : ∃ f5, f5 = fl m (M 1) 5 := ⟨_, rfl⟩
  obtain ⟨f57, hf57⟩ : ∃ f57 : Nat → Bool, f57 = fun p => fl m (M 1) 5 p && fl m (M 1) 7 p := ⟨_, rfl⟩
  have hf57' : ∀ p, f57 p = (fl m (M 1) 5 p && fl m (M 1) 7 p) := fun p => by rw [hf57]
  have g5 : ∀ p, m ≤ p → f5 p = false := fun p hp => by rw [hf5]; exact fl_ge hp
  have g57 : ∀ p, m ≤ p → f57 p = false := fun p hp => by rw [hf57', fl_ge hp]; rfl
  have hg : ∀ j, f57 j = true → j < m := fun j hj => Nat.lt_of_not_le fun z => by rw [g57 j z] at hj; cases hj
  have hsub : ∀ p, f57 p = true → f5 p = true := fun p hp => by
    rw [hf57'] at hp
    rw [hf5]
    exact (Bool.and_eq_true_iff.mp hp).1
  have row1 : M1 1 = M 1 := t2 1 (by decide)
  have k1 : K m e t n 2 I0 M0 I M1 := h.mrow row1 ⟨by rw [t2 2 (by decide)]; exact h.2.2.2.2.1, by rw [t2 0 (by decide)]; exact h.2.2.2.2.2⟩
  obtain ⟨B, hB⟩ : ∃ B, B = lost m t (M 1) f57 := ⟨_, rfl⟩
  obtain ⟨O, hO⟩ : ∃ O, O = outF m (M 1) (M1 3) f57 := ⟨_, rfl⟩
  have eo := e_outputOf k1 f57 hg
  rw [row1, ← hB, ← hO] at eo
  obtain ⟨M2, hM2⟩ : ∃ M2, M2 = u2 M1 0 4 (b2 B) := ⟨_, rfl⟩
  have row2 : M2 1 = M 1 := by rw [hM2, u2_off _ _ _ _ (by decide)]; exact row1
  have k2 : K m e t n 2 I0 M0 I M2 := k1.mrow (by rw [row2, row1]) (by rw [hM2]; exact k1.2.2.2.2.u0 (by decide))
  obtain ⟨I3, M3, c1, c2, c3, c4, c5, c6⟩ := e_charge_l (f5 := f5) (f57 := f57) hsub g5 m 0 10000 10000 I M2 (by omega) (by omega) (by omega) k2 (fun p _ => by rw [row2, hf5]) (fun p _ => by rw [row2, hf57'])
  have e7 : f_X8_setOf 7 M1 = some (bs (fl m (M 1) 7)) := by
    have := e_setOf (M := M1) (w := 7) w1 (by decide) (by rw [row1]; exact w2)
    rwa [row1] at this
  have e5 : f_X8_setOf 5 M1 = some (bs f5) := by
    have := e_setOf (M := M1) (w := 5) w1 (by decide) (by rw [row1]; exact w2)
    rwa [row1, ← hf5] at this
  have e75 : bs (fl m (M 1) 7) &&& bs f5 = bs f57 := by
    rw [bs_and]
    exact bs_congr fun p _ => by rw [hf57', hf5]; exact Bool.and_comm _ _
  have c8 := cnt8_le f57
  have M24 : M2 0 4 = b2 B := by rw [hM2, u2_row, upd_ap, if_pos rfl]
  have w3 := c3.1.2.1.2.1
  -- the model's tail
  have mod : f_X8_closes M = (if b2 B = 0 then (if nI (cnt8 f57) ≤ 0 then f_X8_closes_b231 (bs f5) O (b2 B) (nI (cnt8 f57)) M3 else ck (nz (nI (cnt8 f57))) <| f_X8_closes_l169 10000 (bs f5) (bs f57) O (b2 B) (nI (cnt8 f57)) (M3 1 2 / nI (cnt8 f57)) 0 M3) else f_X8_closes_b231 (bs f5) O (b2 B) (nI (cnt8 f57)) M3) := by
    have cc := c2 O (b2 B)
    have z0 : f_X8_closes_l34 10000 (bs f5) (bs f57) O (b2 B) 0 M2 = f_X8_closes_l34 1 (bs f5) (bs f57) O (b2 B) (nI m) M3 := by
      rw [← cc, lit_nI 0]
    rw [f_X8_closes, t1, ob1_s, e5, ob1_s, e7, ob1_s, e75, lb_e, eo, ob2_s, ← hM2, M24, lb_e, z0, f_X8_closes_l34, ib_4, ck_t, cl_4, w3, if_pos (nI_le (Nat.le_refl _) (by omega)), e_countOf, ob1_s, ib_2, ck_t, cl_2, lb_e, lb_e]
  -- the class's start
  have I12 : I 0 12 = bs f57 := by rw [h.2.1.2.2.1, hf57]
  have I312 : I3 0 12 = bs f57 := by
    rw [c3.2.1.2.2.1]
    refine bs_congr fun p hp => ?_
    have nq : ∀ p w, 5 ≤ w → w < 40 → p < 8 → ¬ acs (20 + 40 * p + w) := fun p w a b c z => by
      rcases z with z | ⟨z1, z2, z3⟩ <;> omega
    rw [fl.cg (fun _ => c6 _ (nq p 5 (by decide) (by decide) hp)), fl.cg (fun _ => c6 _ (nq p 7 (by decide) (by decide) hp)), row2, hf57']
  have I310 : I3 0 10 = bs f5 := by
    rw [c3.2.1.1]
    refine bs_congr fun p hp => ?_
    have nq : ∀ p w, 5 ≤ w → w < 40 → p < 8 → ¬ acs (20 + 40 * p + w) := fun p w a b c z => by
      rcases z with z | ⟨z1, z2, z3⟩ <;> omega
    rw [fl.cg (fun _ => c6 _ (nq p 5 (by decide) (by decide) hp)), row2, hf5]
  have M35 : M3 1 5 = M 1 5 := by rw [c6 5 (fun z => by rcases z with z | ⟨z, -⟩ <;> omega), row2]
  have M33 : M3 1 3 = M 1 3 := by rw [c6 3 (fun z => by rcases z with z | ⟨z, -⟩ <;> omega), row2]
  obtain ⟨I5, hI5⟩ : ∃ I5, I5 = u2 I3 0 9 0 := ⟨_, rfl⟩
  have I5r : ∀ o, o ≠ 0 → I5 o = I3 o := fun o ho => by rw [hI5, u2_off _ _ _ _ ho]
  have I50 : ∀ k, k ≠ 9 → I5 0 k = I3 0 k := fun k hk => by rw [hI5, u2_row, upd_ap, if_neg hk]
  have I55 : I5 0 5 = M3 1 5 := by rw [I50 5 (by decide)]; exact c3.1.1 0 5 5 rfl
  have cls : f_X4_finish I = (if csF m t (M 1) f57 = -1 then ob1 (f_X0_addFailure (bs f5) (nI (cnt8 f57)) (M3 1 5) I5) fun I18 => some (-5, I18) else ob1 (f_X4_mixed 2 (csF m t (M 1) f57) I5) fun r10 => ob1 (f_X0_addOutput r10 (bs f5) (nI (cnt8 f57)) (M3 1 5) I5) fun I13 => ob1 (f_X4_sharePot (nI (cnt8 f57)) I13) fun I15 => some (r10 &&& 1, I15)) := by
    have c1' : f_X4_chargeOrCredit I = some I3 := by rw [f_X4_chargeOrCredit, lit_nI 0]; exact c1
    rw [f_X4_finish, I12, e_counted h f57, ob1_s, c1', ob1_s, ← hI5, lb_e, I50 12 (by decide), I312, bitCount_bs, ob1_s, I50 10 (by decide), I310, lb_e, I55]
    rfl
  have ph3 : M3 1 0 = 2 := c3.2.2.1
  have fiI5 : FI I0 I5 := by rw [hI5]; exact c3.2.2.2.1.u2 (Or.inl (by decide))
  cases B with
  | true =>
    obtain ⟨I', M', a1, a2, a3, a4, a5, a6⟩ := c3.1.fail hn f5 (nI (cnt8 f57)) (J := I5) (I5r 3 (by decide)) (I5r 4 (by decide))
    have hcs : csF m t (M 1) f57 = -1 := by unfold csF; rw [← hB, if_pos rfl]
    refine ⟨-5, I', M', ?_, ?_, ?_, ?_, ?_, a5⟩
    · rw [cls, if_pos hcs, a1, ob1_s]
    · rw [mod, if_neg (show ¬ b2 true = 0 by decide), f_X8_closes_b231, if_neg (show ¬ b2 true = 0 by decide), f_X8_closes_b245, if_neg (show ¬ b2 true = 0 by decide), f_X8_closes_b255, a2, ob1_s, if_neg (show ¬ b2 true = 0 by decide), f_X8_closes_b274]
    · intro o x y
      rw [a3 o (by omega) (by omega)]
      exact fiI5 o x y
    · exact ⟨by rw [a4 2 (by decide)]; exact c3.2.2.2.2.1, by rw [a4 0 (by decide)]; exact c3.2.2.2.2.2⟩
    · exact a6 I' rfl rfl (fun o x y z => by rw [a3 o y z, I5r o x]) (fun k hk => by rw [a3 0 (by decide) (by decide), I50 k hk]) (by rw [a3 0 (by decide) (by decide), hI5, u2_row, upd_ap, if_pos rfl])
  | false =>
    have hcs : csF m t (M 1) f57 ≠ -1 := by
      unfold csF
      rw [← hB, if_neg (by decide)]
      split
      · exact bs_ne _
      · exact bs_ne _
    have emix : f_X4_mixed 2 (csF m t (M 1) f57) I5 = some O := by
      rw [hO]
      refine e_cmix (R := M1 3) (by decide) hB.symm ?_ ?_ (fun p hp hp8 => ?_)
      · rw [I5r 3 (by decide), c4 3 (Or.inr (Or.inl rfl))]; exact h.1.1 3 1 3 rfl
      · rw [I50 10 (by decide), I310, hf5]
      · rw [I5r 2 (by decide), c4 2 (Or.inl rfl), t3 p hp]; exact h.1.1 _ _ _ (prP p hp8).2.2.2.2.2.2.2.2.2.2
    -- after the sharing
    obtain ⟨I13, _, a1, -, a3, -⟩ := c3.1.out hn f5 (nI (cnt8 f57)) O (J := I5) (I5r 3 (by decide)) (I5r 4 (by decide))
    have sh : ∃ I15 M4, f_X4_sharePot (nI (cnt8 f57)) I13 = some I15 ∧ (if nI (cnt8 f57) ≤ 0 then f_X8_closes_b231 (bs f5) O (b2 false) (nI (cnt8 f57)) M3 else ck (nz (nI (cnt8 f57))) <| f_X8_closes_l169 10000 (bs f5) (bs f57) O (b2 false) (nI (cnt8 f57)) (M3 1 2 / nI (cnt8 f57)) 0 M3) = f_X8_closes_b231 (bs f5) O (b2 false) (nI (cnt8 f57)) M4 ∧ LC m e t n (u2 (wz I5 I15) 0 9 2) (M4 1) ∧ (∀ o, (5 ≤ o → 13 ≤ o) → o ≠ 0 → I15 o = I13 o) ∧ I15 0 9 = I13 0 9 ∧ (∀ o, o ≠ 1 → M4 o = M3 o) ∧ M4 1 5 = M3 1 5 := by
      have wzI : wz I5 I13 = I5 := by
        funext o
        unfold wz
        split
        · rfl
        · rename_i z
          exact a3 o (fun q => z (Or.inl q)) (fun q => z (Or.inr q))
      have lc5 : LC m e t n I5 (upd (M3 1) 0 0) := by rw [hI5]; exact c3.1.ph (Or.inl rfl)
      by_cases n0 : cnt8 f57 = 0
      · refine ⟨I13, M3, ?_, ?_, ?_, fun _ _ _ => rfl, rfl, fun _ _ => rfl, rfl⟩
        · rw [f_X4_sharePot, n0, if_pos (show nI 0 = 0 from rfl)]
        · rw [n0, if_pos (show nI 0 ≤ 0 by decide)]
        · rw [wzI]
          have := lc5.ph (x := 2) (Or.inr (Or.inr rfl))
          rwa [show upd (upd (M3 1) 0 0) 0 2 = M3 1 from by
            funext q
            simp only [upd_ap]
            by_cases z : q = 0
            · rw [if_pos z, z, ph3]
            · rw [if_neg z, if_neg z]] at this
      · have pot : I13 0 4 = M3 1 2 := by rw [a3 0 (by decide) (by decide), I50 4 (by decide)]; exact c3.1.1 0 4 2 rfl
        obtain ⟨J', M', b1, b2', b3, b4, b5, b6, b7, b8⟩ := e_share_l (e := e) (t := t) (n := n) (Z := I5) (f57 := f57) w1 g57 (a := M3 1 2 / nI (cnt8 f57)) (P := M3 1 2) m 0 10000 10000 I13 M3 (by omega) (by omega) (by omega) (by
          rw [wzI, pot]
          have : vz (M3 1) (M3 1 2) = upd (M3 1) 0 0 := by
            funext q
            simp only [vz, upd_ap]
            by_cases z : q = 2
            · rw [if_pos z, if_neg (by omega), z]
            · rw [if_neg z]
          rw [this]; exact lc5) (by
          rw [pot, show cnt8 (fun q => decide (q < 0) && f57 q) = 0 from by simp [cnt8]]
          rw [show nI 0 = (0 : Int32) from rfl, Int32.mul_zero, Int32.sub_zero]) (by rw [a3 0 (by decide) (by decide), I50 12 (by decide)]; exact I312) w3
        have nzc : nz (nI (cnt8 f57)) = true := by
          simp [nz, nI_ne0 (show 0 < cnt8 f57 by omega) (by omega)]
        have M'2 : M' 1 2 = M3 1 2 := b8 2 (fun p _ z => by omega)
        have M'4 : M' 1 4 = nI m := by rw [b8 4 (fun p _ z => by omega)]; exact w3
        have M'0 : M' 1 0 = 2 := by rw [b8 0 (fun p _ z => by omega)]; exact ph3
        refine ⟨J', u2 M' 1 2 (J' 0 4), ?_, ?_, ?_, b5, b6 9 (by decide), fun o ho => by rw [u2_off _ _ _ _ ho, b7 o ho], by rw [u2_row, upd_ap, if_neg (by decide)]; exact b8 5 (fun p _ z => by omega)⟩
        · rw [f_X4_sharePot, if_neg (nI_ne0 (show 0 < cnt8 f57 by omega) (by omega)), pot, lb_e, nzc, ck_t, lb_e, lit_nI 0]
          exact b1
        · rw [if_neg (nI_nle (show 0 < cnt8 f57 by omega) (by omega)), nzc, ck_t]
          have z0 : f_X8_closes_l169 10000 (bs f5) (bs f57) O (b2 false) (nI (cnt8 f57)) (M3 1 2 / nI (cnt8 f57)) 0 M3 = f_X8_closes_l169 1 (bs f5) (bs f57) O (b2 false) (nI (cnt8 f57)) (M3 1 2 / nI (cnt8 f57)) (nI m) M' := by
            rw [← b2', lit_nI 0]
          rw [z0, f_X8_closes_l169, ib_4, ck_t, cl_4, M'4, if_pos (nI_le (Nat.le_refl _) (by omega)), ib_2, ck_t, cl_2, lb_e, ck_t, M'2, ← b4, lb_e]
        · have := b3.ph (x := 2) (Or.inr (Or.inr rfl))
          rw [vz_back M'0] at this
          rw [u2_row]
          exact this
    obtain ⟨I15, M4, s1, s2, s3, s4, s5, s6, s7⟩ := sh
    have j3 : I5 3 = u2 (wz I5 I15) 0 9 2 3 := by rw [u2_off _ _ _ _ (by decide)]; rfl
    have j4 : I5 4 = u2 (wz I5 I15) 0 9 2 4 := by rw [u2_off _ _ _ _ (by decide)]; rfl
    obtain ⟨I', M', d1, d2, d3, d4, d5, d6⟩ := s3.out hn f5 (nI (cnt8 f57)) O (J := I5) j3 j4
    rw [s7, a1] at d1
    cases d1
    refine ⟨O &&& 1, I15, M', ?_, ?_, ?_, ?_, ?_, d5⟩
    · rw [cls, if_neg hcs, emix, ob1_s, a1, ob1_s, s1, ob1_s]
    · rw [mod, if_pos (show b2 false = 0 from rfl), s2, f_X8_closes_b231, if_pos (show b2 false = 0 from rfl), f_X8_closes_b245, if_pos (show b2 false = 0 from rfl), f_X8_closes_b255, d2, ob1_s, if_pos (show b2 false = 0 from rfl), f_X8_closes_b274]
    · intro o x y
      rw [s4 o (by omega) (by omega), a3 o (by omega) (by omega)]
      exact fiI5 o x y
    · exact ⟨by rw [d4 2 (by decide), s6 2 (by decide)]; exact c3.2.2.2.2.1, by rw [d4 0 (by decide), s6 0 (by decide)]; exact c3.2.2.2.2.2⟩
    · refine d6 I15 (s4 3 (by omega) (by decide)) (s4 4 (by omega) (by decide)) (fun o x y z => ?_) (fun k hk => ?_) ?_
      · rw [u2_off _ _ _ _ x, wz, if_neg (by omega)]
      · rw [u2_row, upd_ap, if_neg hk, wz, if_neg (by decide)]
      · rw [s5, a3 0 (by decide) (by decide), hI5, u2_row, upd_ap, if_pos rfl]
theorem s_close {n : Nat} {I M : St} (h : RR n I M) (hn : n < 2 ^ 30) : Sm (n + 1) (f_X7_close I) (f_X8_close M) := by
  obtain ⟨m, e, t, h1, w, h3, h4, h5⟩ := id h.1
  rw [f_X7_close, f_X8_close, lb_e, ib_0, ck_t, cl_0, lb_e, h1 0 9 0 rfl]
  by_cases c1 : M 1 0 = 2
  case neg =>
    rw [if_neg c1, if_neg c1]
    exact Sm.same (h.mono (by omega)) _
  obtain ⟨I1, M1, a1, a2, a3, k1, a5, a4⟩ := rem_K (ph := 2) h ⟨h1, w, h3, h4⟩ (h5 (by rw [c1]; decide)) c1
  obtain ⟨r, I', M', b1, b2, b3, b4, b5, b6⟩ := k1.close hn
  rw [if_pos c1, if_pos c1, a1, ob1_s, b1, ob2_s, a2, ob1_s, b2, ob2_s]
  exact ⟨r, I', M', rfl, rfl, a3.of (b5.LR0 b6) (by omega) b3 b4⟩
