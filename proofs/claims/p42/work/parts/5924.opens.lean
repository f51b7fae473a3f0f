/-! failures, outputs; the opening begins -/
theorem cz (x : Int32) : x + (if (-5 : Int32) = 0 then 1 else 0) = x := by rw [if_neg (by decide), Int32.add_zero]
theorem cz1 (x : Int32) : x + (if (-5 : Int32) = 1 then 1 else 0) = x := by rw [if_neg (by decide), Int32.add_zero]
theorem LC.fail {m e t n : Nat} {I M : St} (h : LC m e t n I (M 1)) (hn : n < 2 ^ 30) (f : Nat → Bool) (op : Int32) {J : St} (j3 : J 3 = I 3) (j4 : J 4 = I 4) : ∃ I' M', f_X0_addFailure (bs f) op (M 1 5) J = some I' ∧ f_X8_ends (-5) 0 op (bs f) M = some M' ∧ (∀ o, o ≠ 3 → o ≠ 4 → I' o = J o) ∧ (∀ o, o ≠ 1 → M' o = M o) ∧ M' 1 0 = 0 ∧ ∀ L' : St, L' 3 = I' 3 → L' 4 = I' 4 → (∀ o, o ≠ 0 → o ≠ 3 → o ≠ 4 → L' o = I o) → (∀ k, k ≠ 9 → L' 0 k = I 0 k) → L' 0 9 = 0 → LC m (e + 1) t (n + 1) L' (M' 1) := by
  have w := h.2.1
  have he : e < 2 ^ 30 := by have := w.2.2.1; omega
  have v1 : M 1 1 = nI e := w.2.2.2.1
  obtain ⟨r, q, r1, r2, q1, q2⟩ := w.2.2.2.2.2.2.2.2.2.2
  have J0 : J 3 0 = nI e := by rw [j3, h.1 3 0 1 rfl, v1]
  obtain ⟨P, g1, g2, g3, g4, g5, g6, g7, g8, g9, g10, g11⟩ := e_put he J0 (-5) (bs f) op 0 (M 1 5) 0
  obtain ⟨M', k1, k2, k3, k4, k5, k6, k7, k8, k9, k10, k11, k12, k13, k14, k15, k16⟩ := e_ends he v1 (-5) 0 op (bs f)
  have hrn : rn (-5) (M 1) = 0 := if_neg (by decide)
  have hlg : lg (-5) (M 1) = M 1 13 := by
    unfold lg
    rw [hrn, q2, if_pos (nI_pos' (by omega))]
  refine ⟨u2 P 3 5 0, M', ?_, k1, fun o a b => by rw [u2_off _ _ _ _ a, g2 o a b], k2, k3, fun L' l3 l4 lo l0 l9 => ?_⟩
  · rw [f_X0_addFailure, g1, ob1_s, lb_e]
  · have P3 : ∀ k, k ≠ 0 → k ≠ 5 → L' 3 k = I 3 k := fun k a b => by rw [l3, u2_row, upd_ap, if_neg b, g3 k a, j3]
    have P4 : ∀ k, L' 4 k = P 4 k := fun k => by rw [l4, u2_off _ _ _ _ (by decide)]
    refine LC.ends h (c := -5) (mem := bs f) (op := op) (un := 0) (out := 0) (f := f) lo l0 l9 (fun k hk => by rw [P4, g5 k hk, j4]) (by rw [P4, g6]) (by rw [P4, g7]) (by rw [P4, g8]) (by rw [P4, g9]) (by rw [P4, g10]) (by rw [P4, g11]) (by rw [l3, u2_row, upd_ap, if_neg (by decide), g4]) ?_ ?_ ?_ ?_ ?_ (Or.inl (by rw [k8, hrn])) k3 k4 k11 k12 k13 k14 k15 k16 ⟨0, q, by omega, by rw [k8, hrn]; rfl, by omega, by rw [k10, hlg, q2]⟩ rfl (if_pos rfl).symm
    · rw [P3 1 (by decide) (by decide), h.1 3 1 3 rfl, k5]; exact (if_neg (by decide)).symm
    · rw [P3 2 (by decide) (by decide), h.1 3 2 9 rfl, k6, cz]
    · rw [P3 3 (by decide) (by decide), h.1 3 3 10 rfl, k7, cz1]
    · rw [P3 4 (by decide) (by decide), h.1 3 4 13 rfl, k10, hlg]
    · rw [l3, u2_row, upd_ap, if_pos rfl, k8, hrn]
theorem and1 (x : Int32) : x &&& 1 = 0 ∨ x &&& 1 = 1 := by
  obtain ⟨j, j1, j2⟩ := pk_andE x (m := 1) 1 (by decide)
  rcases (show j = 0 ∨ j = 1 by omega) with rfl | rfl
  · exact Or.inl j2
  · exact Or.inr j2
theorem LC.out {m e t n : Nat} {I M : St} (h : LC m e t n I (M 1)) (hn : n < 2 ^ 30) (f : Nat → Bool) (op out : Int32) {J : St} (j3 : J 3 = I 3) (j4 : J 4 = I 4) : ∃ I' M', f_X0_addOutput out (bs f) op (M 1 5) J = some I' ∧ f_X8_ends (out &&& 1) out op (bs f) M = some M' ∧ (∀ o, o ≠ 3 → o ≠ 4 → I' o = J o) ∧ (∀ o, o ≠ 1 → M' o = M o) ∧ M' 1 0 = 0 ∧ ∀ L' : St, L' 3 = I' 3 → L' 4 = I' 4 → (∀ o, o ≠ 0 → o ≠ 3 → o ≠ 4 → L' o = I o) → (∀ k, k ≠ 9 → L' 0 k = I 0 k) → L' 0 9 = 0 → LC m (e + 1) t (n + 1) L' (M' 1) := by
  have w := h.2.1
  have he : e < 2 ^ 30 := by have := w.2.2.1; omega
  have hen := w.2.2.1
  have v1 : M 1 1 = nI e := w.2.2.2.1
  obtain ⟨r, q, r1, r2, q1, q2⟩ := w.2.2.2.2.2.2.2.2.2.2
  have J0 : J 3 0 = nI e := by rw [j3, h.1 3 0 1 rfl, v1]
  obtain ⟨c, hc⟩ : ∃ c, c = out &&& 1 := ⟨_, rfl⟩
  have c01 : c = 0 ∨ c = 1 := by rw [hc]; exact and1 out
  have c0 : 0 ≤ c := by rcases c01 with e | e <;> rw [e] <;> decide
  have c5 : c ≠ -5 := by rcases c01 with e | e <;> rw [e] <;> decide
  obtain ⟨P, g1, g2, g3, g4, g5, g6, g7, g8, g9, g10, g11⟩ := e_put he J0 c (bs f) op (nI (cnt8 f) - op) (M 1 5) out
  obtain ⟨M', k1, k2, k3, k4, k5, k6, k7, k8, k9, k10, k11, k12, k13, k14, k15, k16⟩ := e_ends he v1 c out op (bs f)
  have P5 : P 3 5 = nI r := by rw [g3 5 (by decide), j3, h.1 3 5 11 rfl, r2]
  have P4' : P 3 4 = nI q := by rw [g3 4 (by decide), j3, h.1 3 4 13 rfl, q2]
  have P6 : P 3 6 = I 3 6 := by rw [g3 6 (by decide), j3]
  -- the run, alike
  have hrun : (if P 3 6 = c then P 3 5 + 1 else 1) = rn c (M 1) := by
    unfold rn
    rw [if_pos c0, P5, r2]
    rcases h.2.2.2 with z | z
    · rw [r2] at z
      rw [z, if_pos (show (0 : Int32) ≤ 0 by decide)]
      split <;> rfl
    · by_cases r0 : r = 0
      · subst r0
        rw [if_pos (show nI 0 ≤ 0 by decide)]
        split <;> rfl
      · rw [if_neg (nI_nle (by omega) (by omega)), P6, z]
  obtain ⟨R, hR1, hR2⟩ : ∃ R, R ≤ e + 1 ∧ rn c (M 1) = nI R := by
    rw [← hrun, P5]
    split
    · exact ⟨r + 1, by omega, nI_1 r⟩
    · exact ⟨1, by omega, rfl⟩
  have hlg : lg c (M 1) = (if nI q < nI R then nI R else nI q) := by
    unfold lg
    rw [hR2, q2]
    by_cases z : R ≤ q
    · rw [if_pos (nI_le z (by omega)), if_neg (nI_nlt z (by omega))]
    · rw [if_neg (nI_ge (by omega) (by omega)), if_pos (nI_lt (by omega) (by omega))]
  obtain ⟨Q, hQ1, hQ2⟩ : ∃ Q, Q ≤ e + 1 ∧ lg c (M 1) = nI Q := by
    rw [hlg]
    split
    · exact ⟨R, hR1, rfl⟩
    · exact ⟨q, by omega, rfl⟩
  obtain ⟨I', hI', o1, o2, o3, o4, o5, o6, o7, o8⟩ : ∃ I', f_X0_addOutput out (bs f) op (M 1 5) J = some I' ∧ (∀ o, o ≠ 3 → I' o = P o) ∧ I' 3 0 = P 3 0 ∧ I' 3 1 = out ∧ I' 3 2 = (P 3 2 + if c = 0 then 1 else 0) ∧ I' 3 3 = (P 3 3 + if c = 1 then 1 else 0) ∧ I' 3 4 = lg c (M 1) ∧ I' 3 5 = rn c (M 1) ∧ I' 3 6 = c := by
    have b80 : ∀ (T : St), T 3 4 = nI q → f_X0_addOutput_b80 c (rn c (M 1)) T = some (u2 (u2 (u2 T 3 5 (rn c (M 1))) 3 6 c) 3 4 (lg c (M 1))) := fun T hT => by
      have z1 : u2 (u2 T 3 5 (rn c (M 1))) 3 6 c 3 4 = nI q := hT
      have z2 : u2 (u2 T 3 5 (rn c (M 1))) 3 6 c 3 5 = rn c (M 1) := rfl
      rw [f_X0_addOutput_b80, lb_e, lb_e, z1, lb_e, z2, hR2, hlg]
      rfl
    have b60 : ∀ (T : St), T 3 4 = nI q → T 3 5 = P 3 5 → T 3 6 = P 3 6 → f_X0_addOutput_b60 c T = some (u2 (u2 (u2 T 3 5 (rn c (M 1))) 3 6 c) 3 4 (lg c (M 1))) := fun T h4 h5 h6 => by
      rw [f_X0_addOutput_b60, h6, lb_e, h5]
      by_cases z : P 3 6 = c
      · rw [if_pos z] at hrun
        rw [if_pos z, lb_e, hrun, b80 T h4]
      · rw [if_neg z] at hrun
        rw [if_neg z, hrun, b80 T h4]
    by_cases z : c = 1
    · refine ⟨u2 (u2 (u2 (u2 (u2 P 3 1 out) 3 3 (P 3 3 + 1)) 3 5 (rn c (M 1))) 3 6 c) 3 4 (lg c (M 1)), ?_, fun o ho => ?_, ?_, ?_, ?_, ?_, ?_, ?_, ?_⟩
      · rw [f_X0_addOutput, lb_e, bitCount_bs, ob1_s, lb_e, ← hc, g1, ob1_s, lb_e, if_pos z, lb_e, lb_e]
        exact b60 _ P4' rfl rfl
      · rw [u2_off _ _ _ _ ho, u2_off _ _ _ _ ho, u2_off _ _ _ _ ho, u2_off _ _ _ _ ho, u2_off _ _ _ _ ho]
      · rfl
      · rfl
      · show P 3 2 = _
        rw [if_neg (by rw [z]; decide), Int32.add_zero]
      · show P 3 3 + 1 = _
        rw [if_pos z]
      · rfl
      · rfl
      · rfl
    · have z0 : c = 0 := c01.resolve_right z
      refine ⟨u2 (u2 (u2 (u2 (u2 P 3 1 out) 3 2 (P 3 2 + 1)) 3 5 (rn c (M 1))) 3 6 c) 3 4 (lg c (M 1)), ?_, fun o ho => ?_, ?_, ?_, ?_, ?_, ?_, ?_, ?_⟩
      · rw [f_X0_addOutput, lb_e, bitCount_bs, ob1_s, lb_e, ← hc, g1, ob1_s, lb_e, if_neg z, lb_e, lb_e]
        exact b60 _ P4' rfl rfl
      · rw [u2_off _ _ _ _ ho, u2_off _ _ _ _ ho, u2_off _ _ _ _ ho, u2_off _ _ _ _ ho, u2_off _ _ _ _ ho]
      · rfl
      · rfl
      · show P 3 2 + 1 = _
        rw [if_pos z0]
      · show P 3 3 = _
        rw [if_neg z, Int32.add_zero]
      · rfl
      · rfl
      · rfl
  rw [← hc]
  refine ⟨I', M', hI', k1, fun o a b => by rw [o1 o a, g2 o a b], k2, k3, fun L' l3 l4 lo l0 l9 => ?_⟩
  have P4 : ∀ k, L' 4 k = P 4 k := fun k => by rw [l4, o1 4 (by decide)]
  refine LC.ends h (c := c) (mem := bs f) (op := op) (un := nI (cnt8 f) - op) (out := out) (f := f) lo l0 l9 (fun k hk => by rw [P4, g5 k hk, j4]) (by rw [P4, g6]) (by rw [P4, g7]) (by rw [P4, g8]) (by rw [P4, g9]) (by rw [P4, g10]) (by rw [P4, g11]) (by rw [l3, o2, g4]) ?_ ?_ ?_ ?_ ?_ (Or.inr (by rw [l3, o8, k9])) k3 k4 k11 k12 k13 k14 k15 k16 ⟨R, Q, hR1, by rw [k8, hR2], hQ1, by rw [k10, hQ2]⟩ rfl (if_neg c5).symm
  · rw [l3, o3, k5]; exact (if_pos c0).symm
  · rw [l3, o4, g3 2 (by decide), j3, h.1 3 2 9 rfl, k6]
  · rw [l3, o5, g3 3 (by decide), j3, h.1 3 3 10 rfl, k7]
  · rw [l3, o6, k10]
  · rw [l3, o7, k8]
/-! the opening begins -/
theorem e_opens_l {m : Nat} (hm : m ≤ 8) : ∀ (d i F : Nat) (M : St), i + d = m → d < F → M 1 4 = nI m → ∃ M', f_X8_opensUp_l2 F (nI i) M = f_X8_opensUp_l2 1 (nI m) M' ∧ (∀ o, o ≠ 1 → M' o = M o) ∧ (∀ q, (∀ p, p < m → q ≠ 20 + 40 * p + 5) → M' 1 q = M 1 q) ∧ (∀ p, p < i → M' 1 (20 + 40 * p + 5) = M 1 (20 + 40 * p + 5)) ∧ (∀ p, i ≤ p → p < m → M' 1 (20 + 40 * p + 5) = if M 1 (20 + 40 * p + 6) = 1 then M 1 (20 + 40 * p + 5) else 0) := by
  intro d
  induction d with
  | zero =>
    intro i F M hi hF h4
    obtain ⟨F, rfl⟩ : ∃ g, F = g + 1 := ⟨F - 1, by omega⟩
    have e : i = m := by omega
    subst e
    have hl : nI i ≤ nI i := nI_le (Nat.le_refl _) (by omega)
    refine ⟨M, ?_, fun _ _ => rfl, fun _ _ => rfl, fun _ _ => rfl, fun p a b => absurd b (by omega)⟩
    rw [f_X8_opensUp_l2, f_X8_opensUp_l2, ib_4, ck_t, cl_4, h4, if_pos hl, ck_t, if_pos hl]
  | succ d ih =>
    intro i F M hi hF h4
    obtain ⟨F, rfl⟩ : ∃ g, F = g + 1 := ⟨F - 1, by omega⟩
    have i5 : inb (nI (20 + 40 * i + 5)) 420 = true := inb_nI (by omega) (by decide)
    have c5 : (nI (20 + 40 * i + 5)).toNatClampNeg = 20 + 40 * i + 5 := nI_clamp (by omega)
    obtain ⟨y, hy⟩ : ∃ y, y = if M 1 (20 + 40 * i + 6) = 1 then M 1 (20 + 40 * i + 5) else 0 := ⟨_, rfl⟩
    obtain ⟨M2, hM2⟩ : ∃ M2, M2 = u2 M 1 (20 + 40 * i + 5) y := ⟨_, rfl⟩
    have r1 : ∀ q, M2 1 q = if q = 20 + 40 * i + 5 then y else M 1 q := fun q => by rw [hM2, u2_row, upd_ap]
    have r2 : ∀ o, o ≠ 1 → M2 o = M o := fun o ho => by rw [hM2, u2_off _ _ _ _ ho]
    obtain ⟨M', k1, k2, k3, k4, k5⟩ := ih (i + 1) F M2 (by omega) (by omega) (by rw [r1, if_neg (by omega)]; exact h4)
    refine ⟨M', ?_, fun o ho => by rw [k2 o ho, r2 o ho], fun q hq => by rw [k3 q hq, r1, if_neg (hq i (by omega))], fun p hp => by rw [k4 p (by omega), r1, if_neg (by omega)], fun p a b => ?_⟩
    · rw [f_X8_opensUp_l2, ib_4, ck_t, cl_4, h4, if_neg (nI_ge (by omega) (by omega)), e_person, ob1_s, lit_nI 5, nI_add, lb_e, lit_nI 6, e_mhas (by omega) (by decide), ob1_s]
      by_cases c : M 1 (20 + 40 * i + 6) = 1
      · rw [if_pos c] at hy
        rw [decide_eq_true c, if_neg (show ¬ b2 true = 0 by decide), ob1_s, lb_e, nI_add, i5, ck_t, c5, f_X8_opensUp_b47, i5, ck_t, c5, ← hy, lb_e, ← hM2, nI_1]
        exact k1
      · rw [if_neg c] at hy
        rw [decide_eq_false c, if_pos (show b2 false = 0 from rfl), f_X8_opensUp_b47, i5, ck_t, c5, ← hy, lb_e, ← hM2, nI_1]
        exact k1
    · by_cases e : p = i
      · subst e
        rw [k4 p (by omega), r1, if_pos rfl, hy]
      · have e6 : M2 1 (20 + 40 * p + 6) = M 1 (20 + 40 * p + 6) := by rw [r1, if_neg (by omega)]
        have e5 : M2 1 (20 + 40 * p + 5) = M 1 (20 + 40 * p + 5) := by rw [r1, if_neg (by omega)]
        rw [k5 p (by omega) b, e6, e5]
theorem K.opens {m e t n : Nat} {I0 M0 I M : St} (h : K m e t n 1 I0 M0 I M) (hn : n < 2 ^ 30) : ∃ r I' M', f_X4_startOpening I = some (r, I') ∧ f_X8_opensUp M = some (r, M') ∧ FI I0 I' ∧ FM M0 M' ∧ ((r = -5 ∧ LC m (e + 1) t (n + 1) I' (M' 1) ∧ M' 1 0 = 0) ∨ (r ≠ -5 ∧ K m e t n 2 I0 M0 I' M' ∧ ∀ p, p < 8 → fl m (M' 1) 7 p = false)) := by
  obtain ⟨lc, rp, hph, hI, hM⟩ := h
  have w := lc.2.1
  have w1 := w.1
  have w2 := w.2.1
  have w6 : t ≤ 8 := w.2.2.2.2.2.1
  obtain ⟨M1, k1, k2, k3, -, k5⟩ := e_opens_l w1 m 0 10000 M (by omega) (by omega) w2
  have k3' : ∀ q, ¬ mk q → M1 1 q = M 1 q := fun q hq => k3 q (fun p hp z => hq ⟨by omega, by omega, by omega, by omega⟩)
  have r10 : I 0 10 = bs (fl m (M 1) 5) := rp.1
  obtain ⟨cm, hcm⟩ : ∃ cm : Nat → Bool, cm = fun p => fl m (M 1) 5 p && fl m (M 1) 6 p := ⟨_, rfl⟩
  have hcp : ∀ p, cm p = (fl m (M 1) 5 p && fl m (M 1) 6 p) := fun p => by rw [hcm]
  have r11 : I 0 11 = bs cm := by rw [hcm]; exact rp.2.1
  have f5 : ∀ p, fl m (M1 1) 5 p = cm p := fun p => by
    rw [hcp]
    unfold fl
    by_cases hp : p < m
    · rw [k5 p (Nat.zero_le _) hp]
      by_cases c : M 1 (20 + 40 * p + 6) = 1 <;> simp [c, hp]
    · simp [hp]
  have fo' : ∀ w p, w ≠ 5 → w < 40 → fl m (M1 1) w p = fl m (M 1) w p := fun w p a b => fl.cg fun _ => k3 _ (fun p' _ z => by omega)
  obtain ⟨I1, hI1⟩ : ∃ I1, I1 = u2 I 0 10 (bs cm) := ⟨_, rfl⟩
  have I110 : I1 0 10 = bs cm := by rw [hI1, u2_row, upd_ap, if_pos rfl]
  have lc1 : LC m e t n I1 (M1 1) := by
    rw [hI1]
    exact (lc.cls (j := 0) (k := 10) (by decide) (by decide) _).cg (fun _ _ _ => rfl) (fun q hq => k3' q (mk_ip hq))
  have M14 : M1 1 4 = nI m := by rw [k3' 4 (fun z => by have := z.1; omega)]; exact w2
  have c8 := cnt8_le cm
  have M15 : M1 1 5 = M 1 5 := k3' 5 (fun z => by have := z.1; omega)
  have tl : f_X8_opensUp M = (if 2 ≤ nI (cnt8 cm) then some (nI (cnt8 cm), u2 M1 1 0 2) else ob1 (f_X8_ends (-5) 0 0 (bs cm) M1) fun M12 => some (-5, M12)) := by
    have e0 : f_X8_opensUp M = f_X8_opensUp_l2 10000 (nI 0) M := by rw [f_X8_opensUp, lit_nI 0]
    have es : f_X8_setOf 5 M1 = some (bs cm) := (e_setOf w1 (by decide) M14).trans (congrArg some (bs_congr fun p _ => f5 p))
    rw [e0, k1, f_X8_opensUp_l2, ib_4, ck_t, cl_4, M14, if_pos (nI_le (Nat.le_refl _) (by omega)), es, ob1_s, e_countOf, ob1_s, ib_0, ck_t, cl_0]
    rfl
  have cl : f_X4_startOpening I = (if 2 ≤ nI (cnt8 cm) then some (nI (cnt8 cm), u2 I1 0 9 2) else ob1 (f_X0_addFailure (bs cm) 0 (M1 1 5) I1) fun I8 => lb (u2 I8 0 9 0) fun I9 => some (-5, I9)) := by
    have I15 : I1 0 5 = M1 1 5 := lc1.1 0 5 5 rfl
    rw [f_X4_startOpening, r11, ← hI1, lb_e, I110, bitCount_bs, ob1_s, lb_e, lb_e, I15]
  by_cases c : 2 ≤ cnt8 cm
  · have c2 : (2 : Int32) ≤ nI (cnt8 cm) := nI_le (a := 2) c (by omega)
    refine ⟨nI (cnt8 cm), u2 I1 0 9 2, u2 M1 1 0 2, by rw [cl, if_pos c2], by rw [tl, if_pos c2], ?_, ?_, Or.inr ⟨?_, ⟨?_, ?_, ?_, ?_, ?_⟩, ?_⟩⟩
    · rw [hI1]; exact (hI.u2 (Or.inl (by decide))).u2 (Or.inl (by decide))
    · exact FM.u1 ⟨by rw [k2 2 (by decide)]; exact hM.1, by rw [k2 0 (by decide)]; exact hM.2⟩
    · intro z
      have : ∀ k, k ≤ 8 → nI k ≠ -5 := by decide
      exact this _ c8 z
    · rw [u2_row]
      exact lc1.ph (Or.inr (Or.inr rfl))
    · rw [u2_row]
      have g : ∀ w p, 5 ≤ w → fl m (upd (M1 1) 0 2) w p = fl m (M1 1) w p := fun w p a => fl.cg fun _ => by rw [upd_ap, if_neg (by omega)]
      have row0 : ∀ k, k ≠ 9 → k ≠ 10 → u2 I1 0 9 2 0 k = I 0 k := fun k a b => by rw [u2_row, upd_ap, if_neg a, hI1, u2_row, upd_ap, if_neg b]
      obtain ⟨-, r2, r3, r4, r5, r6, r7⟩ := rp
      refine ⟨?_, ?_, ?_, ?_, fun z => ?_, fun _ p hp a => ?_, fun z p hp a b => ?_⟩
      · rw [u2_row, upd_ap, if_neg (by decide), I110]
        exact bs_congr fun p _ => by rw [g 5 p (by decide), f5]
      · rw [row0 11 (by decide) (by decide), r11]
        refine bs_congr fun p _ => ?_
        rw [g 5 p (by decide), f5, g 6 p (by decide), fo' 6 p (by decide) (by decide), hcp]
        cases fl m (M 1) 5 p <;> cases fl m (M 1) 6 p <;> rfl
      · rw [row0 12 (by decide) (by decide), r3]
        refine bs_congr fun p hp => ?_
        rw [g 7 p (by decide), fo' 7 p (by decide) (by decide), r5 (by rw [hph]; rfl) p hp, Bool.and_false, Bool.and_false]
      · rw [row0 13 (by decide) (by decide), r4]
        exact bs_congr fun p _ => by rw [g 8 p (by decide), fo' 8 p (by decide) (by decide)]
      · exact absurd z (show ¬ (2 : Int32) = 1 by decide)
      · rw [g 5 p (by decide), f5, hcp] at a
        rw [g 6 p (by decide), fo' 6 p (by decide) (by decide)]
        exact (Bool.and_eq_true_iff.mp a).2
      · rw [g 5 p (by decide), f5, hcp] at a
        obtain ⟨a1, a2⟩ := Bool.and_eq_true_iff.mp a
        have z' : M 1 5 = 1 := by rw [← M15]; exact z
        refine (r7 z' p hp a1 a2).cg w6 ?_ (fun k hk => ?_) (fun w' _ _ => ?_)
        · rw [u2_off _ _ _ _ (by omega), hI1, u2_off _ _ _ _ (by omega)]
        · rw [u2_off _ _ _ _ (by omega), hI1, u2_off _ _ _ _ (by omega)]
        · rw [upd_ap, if_neg (by omega), k3 _ (fun p' _ q => by omega)]
    · rfl
    · rw [hI1]; exact (hI.u2 (Or.inl (by decide))).u2 (Or.inl (by decide))
    · exact FM.u1 ⟨by rw [k2 2 (by decide)]; exact hM.1, by rw [k2 0 (by decide)]; exact hM.2⟩
    · intro p hp
      rw [u2_row, fl.cg (v := M1 1) (fun _ => by rw [upd_ap, if_neg (by omega)]), fo' 7 p (by decide) (by decide)]
      exact rp.2.2.2.2.1 (by rw [hph]; rfl) p hp
  · have c2 : ¬ (2 : Int32) ≤ nI (cnt8 cm) := nI_ge (b := 2) (by omega) (by omega)
    obtain ⟨I', M', a1, a2, a3, a4, a5, a6⟩ := lc1.fail hn cm 0 (J := I1) rfl rfl
    refine ⟨-5, u2 I' 0 9 0, M', by rw [cl, if_neg c2, a1, ob1_s, lb_e], by rw [tl, if_neg c2, a2, ob1_s], ?_, ?_, Or.inl ⟨rfl, ?_, a5⟩⟩
    · intro o x y
      rw [u2_off _ _ _ _ (by omega), a3 o (by omega) (by omega), hI1, u2_off _ _ _ _ (by omega)]
      exact hI o x y
    · exact ⟨by rw [a4 2 (by decide), k2 2 (by decide)]; exact hM.1, by rw [a4 0 (by decide), k2 0 (by decide)]; exact hM.2⟩
    · refine a6 _ (by rw [u2_off _ _ _ _ (by decide)]) (by rw [u2_off _ _ _ _ (by decide)]) (fun o x y z => by rw [u2_off _ _ _ _ x, a3 o y z]) (fun k hk => by rw [u2_row, upd_ap, if_neg hk, a3 0 (by decide) (by decide)]) (by rw [u2_row, upd_ap, if_pos rfl])
theorem LC.LR0 {m e t n : Nat} {L : St} {v : Nat → Int32} (h : LC m e t n L v) (h0 : v 0 = 0) : LR n L v := ⟨m, e, t, h.1, h.2.1, h.2.2.1, h.2.2.2, fun q => absurd h0 q⟩
theorem s_beginOpening {n : Nat} {I M : St} (h : RR n I M) (hn : n < 2 ^ 30) : Sm (n + 1) (f_X7_beginOpening I) (f_X8_beginOpening M) := by
  obtain ⟨m, e, t, h1, w, h3, h4, h5⟩ := id h.1
  rw [f_X7_beginOpening, f_X8_beginOpening, lb_e, ib_0, ck_t, cl_0, lb_e, h1 0 9 0 rfl]
  by_cases c1 : M 1 0 = 1
  case neg =>
    rw [if_neg c1, if_neg c1]
    exact Sm.same (h.mono (by omega)) _
  obtain ⟨I1, M1, a1, a2, a3, k1, a5, a4⟩ := rem_K (ph := 1) h ⟨h1, w, h3, h4⟩ (h5 (by rw [c1]; decide)) c1
  obtain ⟨r, I', M', b1, b2, b3, b4, b5⟩ := k1.opens hn
  rw [if_pos c1, if_pos c1, a1, ob1_s, b1, ob2_s, a2, ob1_s, b2, ob2_s]
  refine ⟨r, I', M', rfl, rfl, a3.of ?_ (by omega) b3 b4⟩
  rcases b5 with ⟨-, b5, b6⟩ | ⟨-, b5, -⟩
  · exact b5.LR0 b6
  · exact LR_mono b5.LR (by omega)
