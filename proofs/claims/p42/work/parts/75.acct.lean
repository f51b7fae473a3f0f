/-! accounts: what is paid in stays in, counts agree -/
def su (B : Nat → Nat) : Nat := B 0 + (B 1 + (B 2 + (B 3 + (B 4 + (B 5 + (B 6 + B 7))))))
theorem su_upd {B : Nat → Nat} {p c : Nat} (hp : p < 8) : su (fun q => if q = p then c else B q) + B p = su B + c := by
  unfold su
  rcases (show p = 0 ∨ p = 1 ∨ p = 2 ∨ p = 3 ∨ p = 4 ∨ p = 5 ∨ p = 6 ∨ p = 7 by omega) with rfl | rfl | rfl | rfl | rfl | rfl | rfl | rfl
  · show c + (B 1 + (B 2 + (B 3 + (B 4 + (B 5 + (B 6 + B 7)))))) + B 0 = _
    omega
  · show B 0 + (c + (B 2 + (B 3 + (B 4 + (B 5 + (B 6 + B 7)))))) + B 1 = _
    omega
  · show B 0 + (B 1 + (c + (B 3 + (B 4 + (B 5 + (B 6 + B 7)))))) + B 2 = _
    omega
  · show B 0 + (B 1 + (B 2 + (c + (B 4 + (B 5 + (B 6 + B 7)))))) + B 3 = _
    omega
  · show B 0 + (B 1 + (B 2 + (B 3 + (c + (B 5 + (B 6 + B 7)))))) + B 4 = _
    omega
  · show B 0 + (B 1 + (B 2 + (B 3 + (B 4 + (c + (B 6 + B 7)))))) + B 5 = _
    omega
  · show B 0 + (B 1 + (B 2 + (B 3 + (B 4 + (B 5 + (c + B 7)))))) + B 6 = _
    omega
  · show B 0 + (B 1 + (B 2 + (B 3 + (B 4 + (B 5 + (B 6 + c)))))) + B 7 = _
    omega
theorem su_le {B : Nat → Nat} {p : Nat} (hp : p < 8) : B p ≤ su B := by
  unfold su
  rcases (show p = 0 ∨ p = 1 ∨ p = 2 ∨ p = 3 ∨ p = 4 ∨ p = 5 ∨ p = 6 ∨ p = 7 by omega) with rfl | rfl | rfl | rfl | rfl | rfl | rfl | rfl
  all_goals omega
/-- balances and pot, from c on in the pot -/
def AB (m paid c : Nat) (I : St) : Prop := ∃ (B : Nat → Nat) (P : Nat), c ≤ P ∧ (∀ p, p < 8 → I (5 + p) 0 = nI (B p)) ∧ (∀ p, m ≤ p → B p = 0) ∧ I 0 4 = nI P ∧ su B + P = paid ∧ paid < 2 ^ 20
def FN (I : St) : Prop := ∃ f, f < 2 ^ 20 ∧ I 0 7 = nI f
/-- counts of openings and withholdings, of those below i of one round more -/
def AO (e i : Nat) (I : St) : Prop := ∀ p, p < 8 → ∃ a b, a + b ≤ e + (if p < i then 1 else 0) ∧ I (5 + p) 2 = nI a ∧ I (5 + p) 3 = nI b
def AH (I : St) : Prop := ∀ p, p < 8 → ∃ h, h ≤ 3 ∧ I (5 + p) 1 = nI h
def AC (e : Nat) (I : St) : Prop := ∃ z u q r, z + u ≤ e ∧ q ≤ e ∧ r ≤ e ∧ (0 < q ↔ 0 < z + u) ∧ I 3 0 = nI e ∧ I 3 2 = nI z ∧ I 3 3 = nI u ∧ I 3 4 = nI q ∧ I 3 5 = nI r
def PV (m paid e : Nat) (I : St) : Prop := AB m paid 0 I ∧ FN I ∧ AO e 0 I ∧ AH I ∧ AC e I
theorem AB.cg {m paid c : Nat} {I J : St} (h : AB m paid c I) (g : ∀ p, p < 8 → J (5 + p) 0 = I (5 + p) 0) (g4 : J 0 4 = I 0 4) : AB m paid c J := by
  obtain ⟨B, P, b0, b1, b2, b3, b4⟩ := h
  exact ⟨B, P, b0, fun p hp => by rw [g p hp]; exact b1 p hp, b2, by rw [g4]; exact b3, b4⟩
theorem FN.cg {I J : St} (h : FN I) (g : J 0 7 = I 0 7) : FN J := by
  obtain ⟨f, f1, f2⟩ := h
  exact ⟨f, f1, by rw [g]; exact f2⟩
theorem AO.cg {e i : Nat} {I J : St} (h : AO e i I) (g : ∀ p, p < 8 → J (5 + p) 2 = I (5 + p) 2 ∧ J (5 + p) 3 = I (5 + p) 3) : AO e i J := fun p hp => by
  obtain ⟨a, b, q1, q2, q3⟩ := h p hp
  exact ⟨a, b, q1, by rw [(g p hp).1]; exact q2, by rw [(g p hp).2]; exact q3⟩
theorem AH.cg {I J : St} (h : AH I) (g : ∀ p, p < 8 → J (5 + p) 1 = I (5 + p) 1) : AH J := fun p hp => by
  obtain ⟨a, q1, q2⟩ := h p hp
  exact ⟨a, q1, by rw [g p hp]; exact q2⟩
theorem AC.cg {e : Nat} {I J : St} (h : AC e I) (g : ∀ k, k < 6 → J 3 k = I 3 k) : AC e J := by
  obtain ⟨z, u, q, r, h1, h2, h3, h4, h5, h6, h7, h8, h9⟩ := h
  exact ⟨z, u, q, r, h1, h2, h3, h4, by rw [g 0 (by decide)]; exact h5, by rw [g 2 (by decide)]; exact h6, by rw [g 3 (by decide)]; exact h7, by rw [g 4 (by decide)]; exact h8, by rw [g 5 (by decide)]; exact h9⟩
theorem PV.cg {m paid e : Nat} {I J : St} (h : PV m paid e I) (g : ∀ o k, acc o k = true → k < 6 ∨ o = 0 → J o k = I o k) : PV m paid e J := by
  obtain ⟨h1, h2, h3, h4, h5⟩ := h
  refine ⟨h1.cg (fun p hp => g _ _ (acc_p hp (by decide)) (Or.inl (by decide))) (g _ _ rfl (Or.inl (by decide))), h2.cg (g _ _ rfl (Or.inr rfl)), h3.cg (fun p hp => ⟨g _ _ (acc_p hp (by decide)) (Or.inl (by decide)), g _ _ (acc_p hp (by decide)) (Or.inl (by decide))⟩), h4.cg (fun p hp => g _ _ (acc_p hp (by decide)) (Or.inl (by decide))), h5.cg (fun k hk => g _ _ (acc_3 k) (Or.inl hk))⟩
theorem PV.set0 {m paid e k : Nat} {I : St} (h : PV m paid e I) (hk : k = 5 ∨ k = 6 ∨ k = 8) (x : Int32) : PV m paid e (u2 I 0 k x) := by
  obtain ⟨h1, h2, h3, h4, h5⟩ := h
  have o : ∀ q, q ≠ 0 → u2 I 0 k x q = I q := fun q hq => u2_off _ _ _ _ hq
  exact ⟨h1.cg (fun p hp => by rw [o _ (by omega)]) (by rw [u2_row, upd_ap, if_neg (by omega)]), h2.cg (by rw [u2_row, upd_ap, if_neg (by omega)]), h3.cg (fun p hp => by rw [o _ (by omega)]; exact ⟨rfl, rfl⟩), h4.cg (fun p hp => by rw [o _ (by omega)]), h5.cg (fun k hk => by rw [o _ (by omega)])⟩
theorem PV.fr {m paid e : Nat} {I J : St} (h : PV m paid e I) (g : FR I J) : PV m paid e J := h.cg fun o k a _ => g o k a
theorem imin_nI {a b : Nat} (ha : a < 2 ^ 31) (hb : b < 2 ^ 31) : imin (nI a) (nI b) = nI (min a b) := by
  unfold imin
  by_cases c : b < a
  · rw [if_pos (nI_lt c ha), Nat.min_eq_right (by omega)]
  · rw [if_neg (nI_nlt (by omega) hb), Nat.min_eq_left (by omega)]
theorem imax_nI {a b : Nat} (ha : a < 2 ^ 31) (hb : b < 2 ^ 31) : imax (nI a) (nI b) = nI (max a b) := by
  unfold imax
  by_cases c : a < b
  · rw [if_pos (nI_lt c hb), Nat.max_eq_right (by omega)]
  · rw [if_neg (nI_nlt (by omega) ha), Nat.max_eq_left (by omega)]
theorem pay_AB {m paid : Nat} {x : Int32} {I I' : St} (h : f_X4_payFine x I = some I') (hA : AB m paid 0 I) (hF : FN I) : AB m paid 0 I' ∧ ∀ o k, ¬ (o = 0 ∧ k = 4) → ¬ (5 ≤ o ∧ k = 0) → I' o k = I o k := by
  obtain ⟨B, P, -, b1, b2, b3, b4, b5⟩ := hA
  obtain ⟨f, f1, f2⟩ := hF
  rw [f_X4_payFine] at h
  simp only [lb_e] at h
  obtain ⟨g, h⟩ := ck_some h
  obtain ⟨_, h⟩ := ck_some h
  have hp := inb_lt g
  generalize x.toNatClampNeg = p at h hp
  have hle := su_le (B := B) hp
  have e4 : ∀ y, u2 I (5 + p) 0 y 0 4 = nI P := fun y => by rw [u2_off _ _ _ _ (by omega)]; exact b3
  rw [b1 p hp, f2, imin_nI (by omega) (by omega), pk_sub (Nat.min_le_right _ _), e4, nI_add] at h
  cases h
  have us := su_upd (B := B) (c := B p - min f (B p)) hp
  have mr := Nat.min_le_right f (B p)
  refine ⟨⟨fun q => if q = p then B p - min f (B p) else B q, P + min f (B p), Nat.zero_le _, fun q hq => ?_, fun q hq => ?_, ?_, by omega, b5⟩, fun o k n1 n2 => ?_⟩
  · show _ = nI (if q = p then B p - min f (B p) else B q)
    rw [u2_off _ _ _ _ (by omega), u2_ap]
    by_cases c : q = p
    · rw [if_pos (by omega), if_pos rfl, if_pos c]
    · rw [if_neg (by omega), if_neg c]; exact b1 q hq
  · show (if q = p then B p - min f (B p) else B q) = 0
    by_cases c : q = p
    · rw [if_pos c, ← c, b2 q hq]; omega
    · rw [if_neg c]; exact b2 q hq
  · rw [u2_row, upd_ap, if_pos rfl]
  · rw [u2_ap]
    by_cases c : o = 0
    · subst c
      rw [if_pos rfl, if_neg (fun z => n1 ⟨rfl, z⟩), u2_off _ _ _ _ (by omega)]
    · rw [if_neg c, u2_ap]
      by_cases d : o = 5 + p
      · rw [if_pos d, if_neg (fun z => n2 ⟨by omega, z⟩), ← d]
      · rw [if_neg d]
theorem pv_pay {m paid e : Nat} {x : Int32} {I I' : St} (h : f_X4_payFine x I = some I') (hA : PV m paid e I) : PV m paid e I' := by
  obtain ⟨h1, h2, h3, h4, h5⟩ := hA
  obtain ⟨g1, g2⟩ := pay_AB h h1 h2
  exact ⟨g1, h2.cg (g2 _ _ (by decide) (by decide)), h3.cg (fun p hp => ⟨g2 _ _ (by omega) (by omega), g2 _ _ (by omega) (by omega)⟩), h4.cg (fun p hp => g2 _ _ (by omega) (by omega)), h5.cg (fun k hk => g2 _ _ (by omega) (by omega))⟩
theorem pv_expel {m paid e : Nat} {x : Int32} {I I' : St} (h : f_X4_expel x I = some I') (hA : PV m paid e I) : PV m paid e I' := by
  rw [f_X4_expel] at h
  obtain ⟨I2, e1, h⟩ := ob1_some h
  simp only [lb_e] at h
  obtain ⟨g, h⟩ := ck_some h
  cases h
  exact (pv_pay e1 hA).fr ((((FR.rf.u2 (acc_hi (by omega) (Or.inl (by decide)))).u2 rfl).u2 rfl).u2 rfl)
theorem pv_comp_in {m paid e : Nat} {I' : St} (K2 : Int32 → St → Option St) (hK : ∀ a I, K2 a I = some I' → PV m paid e I → PV m paid e I') : ∀ F j p I, f_X2_complainAll_l10 K2 F j p I = some I' → PV m paid e I → PV m paid e I' := by
  intro F
  induction F with
  | zero =>
    intro j p I h
    rw [f_X2_complainAll_l10] at h
    cases h
  | succ n ih =>
    intro j p I h hA
    have b64 : ∀ J, f_X2_complainAll_b64 K2 (f_X2_complainAll_l10 K2 n) j p J = some I' → PV m paid e J → PV m paid e I' := fun J q z => by
      rw [f_X2_complainAll_b64] at q
      exact ih _ _ _ q z
    rw [f_X2_complainAll_l10] at h
    split at h
    · exact hK _ _ h hA
    · split at h
      · exact b64 _ h hA
      · rw [lb_e] at h
        obtain ⟨_, _, h⟩ := ob1_some h
        split at h
        · exact b64 _ h hA
        · rw [lb_e] at h
          obtain ⟨_, _, h⟩ := ob1_some h
          split at h
          · exact b64 _ h hA
          · obtain ⟨_, h⟩ := ck_some h
            rw [lb_e] at h
            obtain ⟨_, _, h⟩ := ob1_some h
            split at h
            · obtain ⟨I2, e2, h⟩ := ob1_some h
              exact b64 _ h (pv_expel e2 hA)
            · exact b64 _ h hA
theorem pv_comp_out {m paid e : Nat} {I' : St} : ∀ F j I, f_X2_complainAll_l2 F j I = some I' → PV m paid e I → PV m paid e I' := by
  intro F
  induction F with
  | zero =>
    intro j I h
    rw [f_X2_complainAll_l2] at h
    cases h
  | succ n ih =>
    intro j I h hA
    rw [f_X2_complainAll_l2] at h
    split at h
    · cases h; exact hA
    · exact pv_comp_in _ (fun a I q z => ih a I q z) _ _ _ _ h hA
theorem pv_complainAll {m paid e : Nat} {I I' : St} (h : f_X2_complainAll I = some I') (hA : PV m paid e I) : PV m paid e I' := by
  rw [f_X2_complainAll] at h
  exact pv_comp_out _ _ _ h hA
/-! the closing -/
theorem ch_l {m paid e : Nat} {I' : St} : ∀ F i I, i ≤ 8 → f_X4_chargeOrCredit_l2 F (nI i) I = some I' → AB m paid 0 I → FN I → AH I → AO e i I → (AB m paid 0 I' ∧ FN I' ∧ AH I' ∧ AO e 8 I') ∧ (∀ o k, o = 3 ∨ o = 4 ∨ (o = 0 ∧ k ≠ 4) → I' o k = I o k) := by
  intro F
  induction F with
  | zero =>
    intro i I hi h
    rw [f_X4_chargeOrCredit_l2] at h
    cases h
  | succ n ih =>
    intro i I hi h hA hF hH hO
    by_cases c : i = 8
    · subst c
      rw [f_X4_chargeOrCredit_l2, if_geL (Nat.le_refl 8) (by decide)] at h
      cases h
      exact ⟨⟨hA, hF, hH, hO⟩, fun _ _ _ => rfl⟩
    · have i8 : i < 8 := by omega
      obtain ⟨a, b, q1, q2, q3⟩ := hO i i8
      rw [if_neg (Nat.lt_irrefl i)] at q1
      rw [f_X4_chargeOrCredit_l2, if_ngeL i8 (by decide)] at h
      simp only [lb_e] at h
      obtain ⟨r, _, h⟩ := ob1_some h
      split at h
      · obtain ⟨r2, _, h⟩ := ob1_some h
        split at h
        · rw [f_X4_chargeOrCredit_b68, nI_1] at h
          exact ih (i + 1) I i8 h hA hF hH (fun p hp => by
            obtain ⟨a, b, q1, q2⟩ := hO p hp
            refine ⟨a, b, ?_, q2⟩
            by_cases d : p < i
            · rw [if_pos (by omega)]; rw [if_pos d] at q1; exact q1
            · rw [if_neg d] at q1; split <;> omega)
        · obtain ⟨_, h⟩ := ck_some h
          obtain ⟨I2, e1, h⟩ := ob1_some h
          rw [f_X4_chargeOrCredit_b68, nI_1] at h
          rw [nI_clamp (by omega), q3, nI_1] at e1
          have o0 : ∀ o k, ¬ (o = 5 + i ∧ k = 3) → u2 I (5 + i) 3 (nI (b + 1)) o k = I o k := fun o k z => by
            rw [u2_ap]
            by_cases d : o = 5 + i
            · rw [if_pos d, if_neg (fun w => z ⟨d, w⟩), ← d]
            · rw [if_neg d]
          obtain ⟨g1, g2⟩ := pay_AB e1 (hA.cg (fun p hp => o0 _ _ (by omega)) (o0 _ _ (by omega))) (hF.cg (o0 _ _ (by omega)))
          have i2 : ∀ o k, ¬ (o = 0 ∧ k = 4) → ¬ (5 ≤ o ∧ k = 0) → ¬ (o = 5 + i ∧ k = 3) → I2 o k = I o k := fun o k z1 z2 z3 => by rw [g2 o k z1 z2, o0 o k z3]
          obtain ⟨w1, w2⟩ := ih (i + 1) I2 i8 h g1 (hF.cg (i2 _ _ (by omega) (by omega) (by omega))) (hH.cg (fun p hp => i2 _ _ (by omega) (by omega) (by omega))) (fun p hp => by
            by_cases d : p = i
            · subst d
              refine ⟨a, b + 1, ?_, by rw [i2 _ _ (by omega) (by omega) (by omega)]; exact q2, ?_⟩
              · rw [if_pos (by omega)]; omega
              · rw [g2 _ _ (by omega) (by omega), u2_row, upd_ap, if_pos rfl]
            · obtain ⟨a, b, q1, q2, q3⟩ := hO p hp
              refine ⟨a, b, ?_, by rw [i2 _ _ (by omega) (by omega) (by omega)]; exact q2, by rw [i2 _ _ (by omega) (by omega) (by omega)]; exact q3⟩
              by_cases f : p < i
              · rw [if_pos (by omega)]; rw [if_pos f] at q1; exact q1
              · rw [if_neg f] at q1; rw [if_neg (by omega)]; exact q1)
          exact ⟨w1, fun o k z => by rw [w2 o k z, i2 o k (by omega) (by omega) (by omega)]⟩
      · obtain ⟨_, h⟩ := ck_some h
        rw [f_X4_chargeOrCredit_b68, nI_1, nI_clamp (by omega), q2, nI_1] at h
        have o0 : ∀ o k, ¬ (o = 5 + i ∧ k = 2) → u2 I (5 + i) 2 (nI (a + 1)) o k = I o k := fun o k z => by
          rw [u2_ap]
          by_cases d : o = 5 + i
          · rw [if_pos d, if_neg (fun w => z ⟨d, w⟩), ← d]
          · rw [if_neg d]
        obtain ⟨w1, w2⟩ := ih (i + 1) _ i8 h (hA.cg (fun p hp => o0 _ _ (by omega)) (o0 _ _ (by omega))) (hF.cg (o0 _ _ (by omega))) (hH.cg (fun p hp => o0 _ _ (by omega))) (fun p hp => by
          by_cases d : p = i
          · subst d
            refine ⟨a + 1, b, ?_, ?_, by rw [o0 _ _ (by omega)]; exact q3⟩
            · rw [if_pos (by omega)]; omega
            · rw [u2_row, upd_ap, if_pos rfl]
          · obtain ⟨a, b, q1, q2, q3⟩ := hO p hp
            refine ⟨a, b, ?_, by rw [o0 _ _ (by omega)]; exact q2, by rw [o0 _ _ (by omega)]; exact q3⟩
            by_cases f : p < i
            · rw [if_pos (by omega)]; rw [if_pos f] at q1; exact q1
            · rw [if_neg f] at q1; rw [if_neg (by omega)]; exact q1)
        exact ⟨w1, fun o k z => by rw [w2 o k z, o0 o k (by omega)]⟩
theorem ac_fail {e : Nat} (he : e < 2 ^ 30) {x y z : Int32} {I I' : St} (h : f_X0_addFailure x y z I = some I') (hC : AC e I) : AC (e + 1) I' ∧ (∀ o, o ≠ 3 → o ≠ 4 → I' o = I o) ∧ I' 4 (6 * (e % 16)) = -5 := by
  obtain ⟨z0, u, q, r, h1, h2, h3, h4, h5, h6, h7, h8, h9⟩ := hC
  obtain ⟨I2, p1, p2, p3, p4, p5, p6, -⟩ := e_put he h5 (-5) x y 0 z 0
  rw [f_X0_addFailure, p1, ob1_s, lb_e] at h
  cases h
  have k3 : ∀ k, k ≠ 5 → u2 I2 3 5 0 3 k = I2 3 k := fun k hk => by rw [u2_row, upd_ap, if_neg hk]
  refine ⟨⟨z0, u, q, 0, by omega, by omega, by omega, h4, by rw [k3 0 (by decide)]; exact p4, by rw [k3 2 (by decide), p3 2 (by decide)]; exact h6, by rw [k3 3 (by decide), p3 3 (by decide)]; exact h7, by rw [k3 4 (by decide), p3 4 (by decide)]; exact h8, by rw [u2_row, upd_ap, if_pos rfl]; rfl⟩, fun o a b => by rw [u2_off _ _ _ _ a, p2 o a b], by rw [u2_off _ _ _ _ (by decide)]; exact p6⟩
theorem ac_out {e : Nat} (he : e < 2 ^ 30) {x z : Int32} {f : Nat → Bool} {y : Int32} {I I' : St} (h : f_X0_addOutput x (bs f) y z I = some I') (hC : AC e I) : AC (e + 1) I' ∧ (∀ o, o ≠ 3 → o ≠ 4 → I' o = I o) ∧ I' 4 (6 * (e % 16)) = x &&& 1 ∧ I' 4 (6 * (e % 16) + 5) = x := by
  obtain ⟨z0, u, q, r, h1, h2, h3, h4, h5, h6, h7, h8, h9⟩ := hC
  obtain ⟨I2, p1, p2, p3, p4, p5, p6, -, -, -, -, p11⟩ := e_put he h5 (x &&& 1) (bs f) y (nI (cnt8 f) - y) z x
  rw [f_X0_addOutput, lb_e, bitCount_bs, ob1_s, lb_e, p1, ob1_s, lb_e] at h
  -- the last rows: the run
  have b80 : ∀ (J : St) (r' : Nat) (z1 u1 : Nat), 1 ≤ r' → r' ≤ e + 1 → z1 + u1 = z0 + u + 1 → J 3 0 = nI (e + 1) → J 3 2 = nI z1 → J 3 3 = nI u1 → J 3 4 = nI q → (∀ o, o ≠ 3 → o ≠ 4 → J o = I o) → J 4 = I2 4 → f_X0_addOutput_b80 (x &&& 1) (nI r') J = some I' → AC (e + 1) I' ∧ (∀ o, o ≠ 3 → o ≠ 4 → I' o = I o) ∧ I' 4 (6 * (e % 16)) = x &&& 1 ∧ I' 4 (6 * (e % 16) + 5) = x := by
    intro J r' z1 u1 r1 r2 hz j0 j2 j3 j4 jo j44 hh
    have e5 : u2 (u2 J 3 5 (nI r')) 3 6 (x &&& 1) 3 5 = nI r' := rfl
    have e4 : u2 (u2 J 3 5 (nI r')) 3 6 (x &&& 1) 3 4 = nI q := j4
    rw [f_X0_addOutput_b80, lb_e, lb_e, lb_e, lb_e, e5, e4, imax_nI (by omega) (by omega)] at hh
    cases hh
    refine ⟨⟨z1, u1, max q r', r', by omega, by omega, r2, by omega, j0, j2, j3, rfl, rfl⟩, fun o a b => ?_, ?_, ?_⟩
    · rw [u2_off _ _ _ _ a, u2_off _ _ _ _ a, u2_off _ _ _ _ a]; exact jo o a b
    · rw [u2_off _ _ _ _ (by decide), u2_off _ _ _ _ (by decide), u2_off _ _ _ _ (by decide), j44]; exact p6
    · rw [u2_off _ _ _ _ (by decide), u2_off _ _ _ _ (by decide), u2_off _ _ _ _ (by decide), j44]; exact p11
  have b60 : ∀ (J : St) (z1 u1 : Nat), z1 + u1 = z0 + u + 1 → J 3 0 = nI (e + 1) → J 3 2 = nI z1 → J 3 3 = nI u1 → J 3 4 = nI q → J 3 5 = nI r → (∀ o, o ≠ 3 → o ≠ 4 → J o = I o) → J 4 = I2 4 → f_X0_addOutput_b60 (x &&& 1) J = some I' → AC (e + 1) I' ∧ (∀ o, o ≠ 3 → o ≠ 4 → I' o = I o) ∧ I' 4 (6 * (e % 16)) = x &&& 1 ∧ I' 4 (6 * (e % 16) + 5) = x := by
    intro J z1 u1 hz j0 j2 j3 j4 j5 jo j44 hh
    rw [f_X0_addOutput_b60, lb_e, lb_e, j5, nI_1] at hh
    split at hh
    · exact b80 J (r + 1) z1 u1 (by omega) (by omega) hz j0 j2 j3 j4 jo j44 hh
    · exact b80 J 1 z1 u1 (by omega) (by omega) hz j0 j2 j3 j4 jo j44 hh
  split at h
  · rw [lb_e, lb_e, show u2 I2 3 1 x 3 3 = nI u from (p3 3 (by decide)).trans h7, nI_1] at h
    exact b60 (u2 (u2 I2 3 1 x) 3 3 (nI (u + 1))) z0 (u + 1) (by omega) p4 ((p3 2 (by decide)).trans h6) rfl ((p3 4 (by decide)).trans h8) ((p3 5 (by decide)).trans h9) (fun o a b => by rw [u2_off _ _ _ _ a, u2_off _ _ _ _ a]; exact p2 o a b) rfl h
  · rw [lb_e, lb_e, show u2 I2 3 1 x 3 2 = nI z0 from (p3 2 (by decide)).trans h6, nI_1] at h
    exact b60 (u2 (u2 I2 3 1 x) 3 2 (nI (z0 + 1))) (z0 + 1) u (by omega) p4 rfl ((p3 3 (by decide)).trans h7) ((p3 4 (by decide)).trans h8) ((p3 5 (by decide)).trans h9) (fun o a b => by rw [u2_off _ _ _ _ a, u2_off _ _ _ _ a]; exact p2 o a b) rfl h
def ct (f : Nat → Bool) : Nat → Nat → Nat
  | 0, _ => 0
  | d + 1, i => (if f i = true then 1 else 0) + ct f d (i + 1)
theorem ct_8 (f : Nat → Bool) : ct f 8 0 = cnt8 f := by simp only [ct, cnt8, Nat.add_zero, Nat.zero_add, Nat.reduceAdd]
theorem sp_l {m paid a : Nat} {f : Nat → Bool} (hf : ∀ p, f p = true → p < m) {I' : St} : ∀ d F i I, i + d = 8 → f_X4_sharePot_l14 F (nI a) (nI i) I = some I' → I 0 12 = bs f → AB m paid (a * ct f d i) I → AB m paid 0 I' ∧ (∀ o k, ¬ (o = 0 ∧ k = 4) → ¬ (5 ≤ o ∧ k = 0) → I' o k = I o k) := by
  intro d
  induction d with
  | zero =>
    intro F i I hi h h12 hA
    cases F with
    | zero => rw [f_X4_sharePot_l14] at h; cases h
    | succ n =>
      have i8 : i = 8 := by omega
      subst i8
      rw [f_X4_sharePot_l14, if_geL (Nat.le_refl 8) (by decide)] at h
      cases h
      obtain ⟨B, P, b0, b1⟩ := hA
      exact ⟨⟨B, P, Nat.zero_le _, b1⟩, fun _ _ _ _ => rfl⟩
  | succ d ih =>
    intro F i I hi h h12 hA
    cases F with
    | zero => rw [f_X4_sharePot_l14] at h; cases h
    | succ n =>
      have i8 : i < 8 := by omega
      rw [f_X4_sharePot_l14, if_ngeL i8 (by decide), lb_e, h12, e_has f i8, ob1_s] at h
      rw [ct] at hA
      cases hfi : f i
      · rw [hfi, if_pos (show b2 false = 0 from rfl), f_X4_sharePot_b56, nI_1] at h
        rw [hfi, if_neg (by decide), Nat.zero_add] at hA
        exact ih n (i + 1) I (by omega) h h12 hA
      · rw [hfi, if_neg (show ¬ b2 true = 0 by decide)] at h
        rw [hfi, if_pos rfl, Nat.mul_add, Nat.mul_one] at hA
        obtain ⟨B, P, b0, b1, b2', b3, b4, b5⟩ := hA
        obtain ⟨_, h⟩ := ck_some h
        have hle := su_le (B := B) i8
        have e4 : ∀ y, u2 I (5 + i) 0 y 0 4 = nI P := fun y => by rw [u2_off _ _ _ _ (by omega)]; exact b3
        rw [lb_e, lb_e, lb_e, lb_e, nI_clamp (by omega), b1 i i8, nI_add, e4, pk_sub (by omega), f_X4_sharePot_b56, nI_1] at h
        have us := su_upd (B := B) (c := B i + a) i8
        have im := hf i hfi
        obtain ⟨w1, w2⟩ := ih n (i + 1) _ (by omega) h (by rw [u2_row, upd_ap, if_neg (by decide), u2_off _ _ _ _ (by omega)]; exact h12) ⟨fun q => if q = i then B i + a else B q, P - a, by omega, fun q hq => by
            show _ = nI (if q = i then B i + a else B q)
            rw [u2_off _ _ _ _ (by omega), u2_ap]
            by_cases c : q = i
            · rw [if_pos (by omega), if_pos rfl, if_pos c]
            · rw [if_neg (by omega), if_neg c]; exact b1 q hq, fun q hq => by
            show (if q = i then B i + a else B q) = 0
            rw [if_neg (by omega)]; exact b2' q hq, by rw [u2_row, upd_ap, if_pos rfl], by omega, b5⟩
        refine ⟨w1, fun o k n1 n2 => ?_⟩
        rw [w2 o k n1 n2, u2_ap]
        by_cases c : o = 0
        · subst c
          rw [if_pos rfl, if_neg (fun z => n1 ⟨rfl, z⟩), u2_off _ _ _ _ (by omega)]
        · rw [if_neg c, u2_ap]
          by_cases d : o = 5 + i
          · rw [if_pos d, if_neg (fun z => n2 ⟨by omega, z⟩), ← d]
          · rw [if_neg d]
theorem sp_all {m paid : Nat} {f : Nat → Bool} (hf : ∀ p, f p = true → p < m) {I I' : St} (h : f_X4_sharePot (nI (cnt8 f)) I = some I') (h12 : I 0 12 = bs f) (hA : AB m paid 0 I) : AB m paid 0 I' ∧ (∀ o k, ¬ (o = 0 ∧ k = 4) → ¬ (5 ≤ o ∧ k = 0) → I' o k = I o k) := by
  have c8 := cnt8_le f
  rw [f_X4_sharePot] at h
  by_cases c : cnt8 f = 0
  · rw [c, if_pos (show nI 0 = 0 from rfl)] at h
    cases h
    exact ⟨hA, fun _ _ _ _ => rfl⟩
  · rw [if_neg (nI_ne0 (by omega) (by omega)), lb_e] at h
    obtain ⟨_, h⟩ := ck_some h
    obtain ⟨B, P, b0, b1, b2', b3, b4, b5⟩ := hA
    rw [b3, pk_div (by omega) (by omega) (by omega), lb_e, lit_nI 0] at h
    refine sp_l hf 8 10000 0 I rfl h h12 ⟨B, P, ?_, b1, b2', b3, b4, b5⟩
    rw [ct_8]
    exact Nat.div_mul_le_self P (cnt8 f)
/-- the newest entry: the coin r, or a failure -/
def PE (e : Nat) (r : Int32) (I : St) : Prop := I 4 (6 * (e % 16)) = r ∧ (r = -5 ∨ ((r = 0 ∨ r = 1) ∧ I 4 (6 * (e % 16) + 5) &&& 1 = r))
theorem pv_finish {m paid e : Nat} (he : e < 2 ^ 30) {f g : Nat → Bool} {r : Int32} {I I' : St} (h : f_X4_finish I = some (r, I')) (hA : PV m paid e I) (h10 : I 0 10 = bs g) (h12 : I 0 12 = bs f) (hf : ∀ p, f p = true → p < m) : PV m paid (e + 1) I' ∧ PE e r I' ∧ I' 0 9 = 0 ∧ I' 0 3 = I 0 3 := by
  obtain ⟨h1, h2, h3, h4, h5⟩ := hA
  rw [f_X4_finish] at h
  obtain ⟨r2, _, h⟩ := ob1_some h
  obtain ⟨I4, e1, h⟩ := ob1_some h
  rw [f_X4_chargeOrCredit, lit_nI 0] at e1
  obtain ⟨⟨w1, w2, w3, w4⟩, w5⟩ := ch_l _ 0 I (by decide) e1 h1 h2 h4 h3
  rw [lb_e] at h
  have o5 : ∀ o k, ¬ (o = 0 ∧ k = 9) → u2 I4 0 9 0 o k = I4 o k := fun o k z => by
    rw [u2_ap]
    by_cases d : o = 0
    · rw [if_pos d, if_neg (fun w => z ⟨d, w⟩), ← d]
    · rw [if_neg d]
  have g9 : u2 I4 0 9 0 0 9 = 0 := rfl
  have g3 : u2 I4 0 9 0 0 3 = I 0 3 := w5 0 3 (by omega)
  generalize hI5 : u2 I4 0 9 0 = I5 at h o5 g9 g3
  have g12 : I5 0 12 = bs f := by rw [o5 _ _ (by omega), w5 _ _ (by omega)]; exact h12
  have g10 : I5 0 10 = bs g := by rw [o5 _ _ (by omega), w5 _ _ (by omega)]; exact h10
  have v1 : AB m paid 0 I5 := w1.cg (fun p hp => o5 _ _ (by omega)) (o5 _ _ (by omega))
  have v2 : FN I5 := w2.cg (o5 _ _ (by omega))
  have v3 : AH I5 := w3.cg (fun p hp => o5 _ _ (by omega))
  have v4 : AO e 8 I5 := w4.cg (fun p hp => ⟨o5 _ _ (by omega), o5 _ _ (by omega)⟩)
  have v5 : AC e I5 := h5.cg (fun k _ => by rw [o5 _ _ (by omega), w5 _ _ (by omega)])
  have v4' : AO (e + 1) 0 I5 := fun p hp => by
    obtain ⟨a, b, q1, q2⟩ := v4 p hp
    rw [if_pos hp] at q1
    exact ⟨a, b, by omega, q2⟩
  rw [g12, bitCount_bs, ob1_s] at h
  split at h
  · rw [lb_e] at h
    obtain ⟨I6, e6, h⟩ := ob1_some h
    cases h
    obtain ⟨k1, k2, k3⟩ := ac_fail he e6 v5
    exact ⟨⟨v1.cg (fun p hp => by rw [k2 _ (by omega) (by omega)]) (by rw [k2 _ (by omega) (by omega)]), v2.cg (by rw [k2 _ (by omega) (by omega)]), v4'.cg (fun p hp => by rw [k2 _ (by omega) (by omega)]; exact ⟨rfl, rfl⟩), v3.cg (fun p hp => by rw [k2 _ (by omega) (by omega)]), k1⟩, ⟨k3, Or.inl rfl⟩, by rw [k2 _ (by omega) (by omega)]; exact g9, by rw [k2 _ (by omega) (by omega)]; exact g3⟩
  · obtain ⟨x, _, h⟩ := ob1_some h
    rw [lb_e, g10] at h
    obtain ⟨I6, e6, h⟩ := ob1_some h
    obtain ⟨I7, e7, h⟩ := ob1_some h
    cases h
    obtain ⟨k1, k2, k3, k4⟩ := ac_out he e6 v5
    obtain ⟨s1, s2⟩ := sp_all hf e7 (by rw [k2 _ (by omega) (by omega)]; exact g12) (v1.cg (fun p hp => by rw [k2 _ (by omega) (by omega)]) (by rw [k2 _ (by omega) (by omega)]))
    refine ⟨⟨s1, v2.cg (by rw [s2 _ _ (by omega) (by omega), k2 _ (by omega) (by omega)]), v4'.cg (fun p hp => ⟨by rw [s2 _ _ (by omega) (by omega), k2 _ (by omega) (by omega)], by rw [s2 _ _ (by omega) (by omega), k2 _ (by omega) (by omega)]⟩), v3.cg (fun p hp => by rw [s2 _ _ (by omega) (by omega), k2 _ (by omega) (by omega)]), k1.cg (fun k _ => s2 _ _ (by omega) (by omega))⟩, ⟨?_, Or.inr ⟨and1 x, ?_⟩⟩, by rw [s2 _ _ (by omega) (by omega), k2 _ (by omega) (by omega)]; exact g9, by rw [s2 _ _ (by omega) (by omega), k2 _ (by omega) (by omega)]; exact g3⟩
    · rw [s2 _ _ (by omega) (by omega)]; exact k3
    · rw [s2 _ _ (by omega) (by omega), k4]
theorem pv_opening {m paid e : Nat} (he : e < 2 ^ 30) {r : Int32} {I I' : St} (h : f_X4_startOpening I = some (r, I')) (hA : PV m paid e I) : (PV m paid e I' ∧ I' 0 9 = 2 ∧ 2 ≤ r ∧ (∀ k, k ≠ 9 → k ≠ 10 → I' 0 k = I 0 k) ∧ ∀ o, o ≠ 0 → I' o = I o) ∨ (r = -5 ∧ PV m paid (e + 1) I' ∧ I' 0 9 = 0 ∧ PE e r I' ∧ I' 0 3 = I 0 3) := by
  rw [f_X4_startOpening, lb_e] at h
  obtain ⟨r3, _, h⟩ := ob1_some h
  split at h
  · rename_i h2
    rw [lb_e] at h
    cases h
    exact Or.inl ⟨hA.fr ((FR.rf.u2 rfl).u2 rfl), rfl, h2, fun k a b => by rw [u2_row, upd_ap, if_neg a, u2_row, upd_ap, if_neg b], fun o a => by rw [u2_off _ _ _ _ a, u2_off _ _ _ _ a]⟩
  · rw [lb_e] at h
    obtain ⟨I6, e6, h⟩ := ob1_some h
    rw [lb_e] at h
    cases h
    have a1 : PV m paid e (u2 I 0 10 (I 0 11)) := hA.fr (FR.rf.u2 rfl)
    obtain ⟨h1, h2, h3, h4, h5⟩ := a1
    obtain ⟨k1, k2, k3⟩ := ac_fail he e6 h5
    have a6 : PV m paid (e + 1) I6 := ⟨h1.cg (fun p hp => by rw [k2 _ (by omega) (by omega)]) (by rw [k2 _ (by omega) (by omega)]), h2.cg (by rw [k2 _ (by omega) (by omega)]), fun p hp => by
      obtain ⟨a, b, q1, q2⟩ := h3 p hp
      rw [if_neg (Nat.not_lt_zero p)] at q1
      rw [k2 _ (by omega) (by omega)]
      exact ⟨a, b, by omega, q2⟩, h4.cg (fun p hp => by rw [k2 _ (by omega) (by omega)]), k1⟩
    exact Or.inr ⟨rfl, a6.fr (FR.rf.u2 rfl), rfl, ⟨by rw [u2_off _ _ _ _ (by decide)]; exact k3, Or.inl rfl⟩, by rw [u2_row, upd_ap, if_neg (by decide), k2 _ (by omega) (by omega)]; rfl⟩
