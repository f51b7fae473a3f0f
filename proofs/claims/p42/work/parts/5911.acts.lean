/-! settings, behaviours, new participants -/
theorem wi_ex {x : Int32} {a b : Nat} (ha : a ≤ b) (hb : b < 2 ^ 31) (h : wi x (nI a) (nI b) = true) : ∃ j, a ≤ j ∧ j ≤ b ∧ x = nI j := by
  simp only [wi, Bool.and_eq_true, Bool.not_eq_true', decide_eq_false_iff_not] at h
  obtain ⟨h1, h2⟩ := h
  have a1 := nI_toInt (n := a) (by omega)
  have b1 := nI_toInt (n := b) hb
  rw [Int32.lt_iff_toInt_lt] at h1 h2
  refine ⟨x.toInt.toNat, by omega, by omega, ?_⟩
  apply Int32.toInt_inj.mp
  rw [nI_toInt (by omega)]
  omega
theorem e_setErr (x lo hi : Int32) (I : St) : f_X7_settingError x lo hi I = some (if wi x lo hi = true then (if I 0 9 = 0 then 0 else -2) else -1) := by
  simp only [f_X7_settingError_b27, f_X7_settingError, e_isWithin, ob1_s, ob2_s, ck_t, lb_e]
  cases wi x lo hi
  · simp [b2]
  · rw [if_neg (show ¬ b2 true = 0 by decide), if_pos (show true = true from rfl)]
    by_cases ph : I 0 9 = 0
    · rw [if_pos ph, if_pos ph]
    · rw [if_neg ph, if_neg ph]
theorem LR_set0 {n : Nat} {L : St} {v : Nat → Int32} (h : LR n L v) (ph : v 0 = 0) {k i : Nat} (hp : pr 0 k = some i) (hi : 5 ≤ i ∧ i ≤ 8) {x : Int32} (v5 : i = 5 → x = 0 ∨ x = 1 ∨ x = 2) (v6 : i = 6 → ∃ t, 1 ≤ t ∧ t ≤ 8 ∧ x = nI t) (v8 : i = 8 → ∃ d, d ≤ 5000 ∧ x = nI d) : LR n (u2 L 0 k x) (upd v i x) := by
  obtain ⟨m, e, t, h1, ⟨w1, w2, w3, w4, w5, w6, w7, w8, w9, w10, w11⟩, h3, h4, h5⟩ := h
  have off : ∀ j, j ≠ i → upd v i x j = v j := fun j hj => by rw [upd_ap, if_neg hj]
  obtain ⟨t', q1, q2, q3⟩ : ∃ t', 1 ≤ t' ∧ t' ≤ 8 ∧ upd v i x 6 = nI t' := by
    by_cases hi6 : i = 6
    · obtain ⟨t', a, b, c⟩ := v6 hi6
      exact ⟨t', a, b, by rw [upd_ap, if_pos hi6.symm]; exact c⟩
    · exact ⟨t, w5, w6, by rw [off 6 (Ne.symm hi6)]; exact w7⟩
  refine ⟨m, e, t', LE_set h1 hp x, ⟨w1, by rw [off 4 (by omega)]; exact w2, w3, by rw [off 1 (by omega)]; exact w4, q1, q2, q3, by rw [off 0 (by omega)]; exact w8, ?_, ?_, by rw [off 11 (by omega), off 13 (by omega)]; exact w11⟩, fun s hs => ?_, ?_, fun hph => ?_⟩
  · by_cases hi5 : i = 5
    · rw [upd_ap, if_pos hi5.symm]; exact v5 hi5
    · rw [off 5 (Ne.symm hi5)]; exact w9
  · by_cases hi8 : i = 8
    · rw [upd_ap, if_pos hi8.symm]; exact v8 hi8
    · rw [off 8 (Ne.symm hi8)]; exact w10
  · obtain ⟨f, f1, f2⟩ := h3 s hs
    exact ⟨f, by rw [off _ (by omega)]; exact f1, by rw [u2_off _ _ _ _ (by decide), off _ (by omega), off _ (by omega)]; exact f2⟩
  · rw [off 11 (by omega), off 12 (by omega), u2_off _ _ _ _ (by decide)]; exact h4
  · rw [off 0 (by omega)] at hph
    exact absurd ph hph
theorem LR.le {n : Nat} {L : St} {v : Nat → Int32} (h : LR n L v) : LE L v := by
  obtain ⟨m, e, t, h1, -⟩ := h
  exact h1
/-- a setting of the class and of the model -/
theorem s_sett {n : Nat} {I M : St} (h : RR n I M) {k i lo hi : Nat} (hp : pr 0 k = some i) (hi5 : 5 ≤ i ∧ i ≤ 8) (hlo : lo ≤ hi) (hhi : hi < 2 ^ 31) (x : Int32) (v5 : i = 5 → nI lo = 0 ∧ nI hi = 2) (v6 : i = 6 → lo = 1 ∧ hi = 8) (v8 : i = 8 → lo = 1 ∧ hi = 5000)
    {a : Option (Int32 × St)} (ha : a = ob1 (f_X7_settingError x (nI lo) (nI hi) I) fun r2 => if 0 ≤ r2 then ob1 (f_X3_remember I) fun I5 => lb (I5 0 k) fun x6 => lb (u2 I5 0 k x) fun I7 => some (x6, I7) else some (r2, I)) : Sm n a (f_X8_settles (nI i) x (nI lo) (nI hi) M) := by
  subst ha
  have hph : I 0 9 = M 1 0 := h.1.le 0 9 0 rfl
  rw [e_setErr]
  simp only [f_X8_settles_b34, f_X8_settles, f_X8_sets, e_in, ib_0, ib_1, ib_2, ib_3, ib_4, ib_5, ib_6, ib_7, ib_8, ib_9, ib_10, ib_11, ib_12, ib_13, ib3_4, ib0_4, cl_0, cl_1, cl_2, cl_3, cl_4, cl_5, cl_6, cl_7, cl_8, cl_9, cl_10, cl_11, cl_12, cl_13, ob1_s, ob2_s, ck_t, lb_e]
  cases hw : wi x (nI lo) (nI hi)
  · rw [if_neg (show ¬ false = true by decide), if_neg (show ¬ (0 : Int32) ≤ -1 by decide), if_pos (show b2 false = 0 from rfl)]
    exact Sm.same h _
  · rw [if_pos rfl, if_neg (show ¬ b2 true = 0 by decide)]
    by_cases ph : M 1 0 = 0
    · rw [hph, if_pos ph, if_pos ph, if_pos (by decide)]
      obtain ⟨I1, M1, a1, a2, a3, a4, a5⟩ := e_rem h
      have i1 : inb (nI i) 420 = true := inb_nI (by omega) (by decide)
      rw [a1, a2]
      simp only [ob1_s, ob2_s, ck_t, lb_e, i1, nI_clamp (n := i) (by omega)]
      refine ⟨M 1 i, u2 I1 0 k x, u2 M1 1 i x, ?_, ?_, a3.of ?_ (Nat.le_refl _) (FI.rf.u2 (Or.inl (by decide))) FM.rf.u1⟩
      · rw [a4 0 (by decide), h.1.le 0 k i hp]
      · rw [a5]
      · rw [u2_row]
        refine LR_set0 a3.1 (by rw [a5]; exact ph) hp hi5 (fun e => ?_) (fun e => ?_) (fun e => ?_)
        · obtain ⟨z1, z2⟩ := v5 e
          rw [z1, z2] at hw
          obtain ⟨j, j1, j2, rfl⟩ := wi_ex (a := 0) (b := 2) (by decide) (by decide) hw
          rcases (show j = 0 ∨ j = 1 ∨ j = 2 by omega) with rfl | rfl | rfl
          · exact Or.inl rfl
          · exact Or.inr (Or.inl rfl)
          · exact Or.inr (Or.inr rfl)
        · obtain ⟨rfl, rfl⟩ := v6 e
          exact wi_ex (by decide) (by decide) hw
        · obtain ⟨rfl, rfl⟩ := v8 e
          obtain ⟨j, j1, j2, j3⟩ := wi_ex (by decide) (by decide) hw
          exact ⟨j, j2, j3⟩
    · rw [hph, if_neg ph, if_neg ph, if_neg (by decide)]
      exact Sm.same h _
theorem Sm.via {n : Nat} {a : Option (Int32 × St)} {b : Option (Int32 × St)} (h : Sm n a b) : Sm n a (ob2 b fun r M => some (r, M)) := by
  obtain ⟨r, I', M', h1, h2, h3⟩ := h
  exact ⟨r, I', M', h1, by rw [h2]; rfl, h3⟩
theorem s_setMethod {n : Nat} {I M : St} (h : RR n I M) (x : Int32) : Sm n (f_X7_setMethod x I) (f_X8_setMethod x M) := by
  unfold f_X8_setMethod
  exact (s_sett h (k := 5) (i := 5) (lo := 0) (hi := 2) rfl (by decide) (by decide) (by decide) x (fun _ => ⟨rfl, rfl⟩) (fun e => absurd e (by decide)) (fun e => absurd e (by decide)) rfl).via
theorem s_setThreshold {n : Nat} {I M : St} (h : RR n I M) (x : Int32) : Sm n (f_X7_setThreshold x I) (f_X8_setThreshold x M) := by
  unfold f_X8_setThreshold
  exact (s_sett h (k := 6) (i := 6) (lo := 1) (hi := 8) rfl (by decide) (by decide) (by decide) x (fun e => absurd e (by decide)) (fun _ => ⟨rfl, rfl⟩) (fun e => absurd e (by decide)) rfl).via
theorem s_setFine {n : Nat} {I M : St} (h : RR n I M) (x : Int32) : Sm n (f_X7_setFine x I) (f_X8_setFine x M) := by
  unfold f_X8_setFine
  exact (s_sett h (k := 7) (i := 7) (lo := 0) (hi := 1000) rfl (by decide) (by decide) (by decide) x (fun e => absurd e (by decide)) (fun e => absurd e (by decide)) (fun e => absurd e (by decide)) rfl).via
theorem s_setDelay {n : Nat} {I M : St} (h : RR n I M) (x : Int32) : Sm n (f_X7_setDelay x I) (f_X8_setDelay x M) := by
  unfold f_X8_setDelay
  exact (s_sett h (k := 8) (i := 8) (lo := 1) (hi := 5000) rfl (by decide) (by decide) (by decide) x (fun e => absurd e (by decide)) (fun e => absurd e (by decide)) (fun _ => ⟨rfl, rfl⟩) rfl).via
/-- a pair of places of no account for the rest of the relation -/
theorem LR_acc {n : Nat} {L : St} {v : Nat → Int32} (h : LR n L v) {j k i : Nat} (hp : pr j k = some i) (hi : i = 2 ∨ (20 ≤ i ∧ i < 340 ∧ (i - 20) % 40 < 5)) (x : Int32) : LR n (u2 L j k x) (upd v i x) := by
  obtain ⟨m, e, t, h1, ⟨w1, w2, w3, w4, w5, w6, w7, w8, w9, w10, w11⟩, h3, h4, h5⟩ := h
  have off : ∀ q, q ≠ i → upd v i x q = v q := fun q hq => by rw [upd_ap, if_neg hq]
  have e1 := (pr_ip hp).2
  have hne : ∀ j' k', ip i ≠ some (j', k') → (u2 L j k x) j' k' = L j' k' := fun j' k' hz => by
    rw [u2_ap]
    by_cases a : j' = j
    · by_cases b : k' = k
      · subst a; subst b; exact absurd e1 hz
      · rw [if_pos a, if_neg b, a]
    · rw [if_neg a]
  have hj : (j = 0 ∧ k = 4) ∨ (∃ p, p < 8 ∧ j = 5 + p ∧ k < 5) := by
    rcases hi with rfl | ⟨g1, g2, g3⟩
    · left
      have : ip 2 = some (0, 4) := rfl
      rw [this] at e1
      cases e1
      exact ⟨rfl, rfl⟩
    · right
      have : ∀ i, i < 340 → 20 ≤ i → (i - 20) % 40 < 5 → ∃ p, p < 8 ∧ ∃ k, k < 5 ∧ ip i = some (5 + p, k) := by
        intro i a b c
        have d : ∀ i, i < 340 → (20 ≤ i ∧ (i - 20) % 40 < 5) → ((ip i).any fun z => decide (5 ≤ z.1) && decide (z.1 < 13) && decide (z.2 < 5)) = true := by decide +kernel
        have := d i a ⟨b, c⟩
        cases hz : ip i with
        | none => rw [hz] at this; cases this
        | some z =>
          rw [hz] at this
          simp only [Option.any_some, Bool.and_eq_true, decide_eq_true_eq] at this
          exact ⟨z.1 - 5, by omega, z.2, this.2, by rw [show 5 + (z.1 - 5) = z.1 by omega]⟩
      obtain ⟨p, p1, k2, p3, p4⟩ := this i g2 g1 g3
      rw [p4] at e1
      cases e1
      exact ⟨p, p1, rfl, p3⟩
  have cls : ∀ j' k', (∀ p, p < 8 → ¬ (j' = 5 + p ∧ k' < 5)) → ¬ (j' = 0 ∧ k' = 4) → u2 L j k x j' k' = L j' k' := fun j' k' a b => by
    rw [u2_ap]
    by_cases c : j' = j
    · by_cases d : k' = k
      · subst c; subst d
        rcases hj with q | ⟨p, p1, p2, p3⟩
        · exact absurd q b
        · exact absurd ⟨p2, p3⟩ (a p p1)
      · rw [if_pos c, if_neg d, c]
    · rw [if_neg c]
  have mo : ∀ w p, 5 ≤ w → w < 40 → upd v i x (20 + 40 * p + w) = v (20 + 40 * p + w) := fun w p a b => off _ (by omega)
  refine ⟨m, e, t, LE_set h1 hp x, ⟨w1, by rw [off 4 (by omega)]; exact w2, w3, by rw [off 1 (by omega)]; exact w4, w5, w6, by rw [off 6 (by omega)]; exact w7, by rw [off 0 (by omega)]; exact w8, by rw [off 5 (by omega)]; exact w9, by rw [off 8 (by omega)]; exact w10, by rw [off 11 (by omega), off 13 (by omega)]; exact w11⟩, fun s hs => ?_, ?_, fun hph => ?_⟩
  · obtain ⟨f, f1, f2⟩ := h3 s hs
    exact ⟨f, by rw [off _ (by omega)]; exact f1, by rw [cls 4 _ (fun p _ => by omega) (by omega), off _ (by omega), off _ (by omega)]; exact f2⟩
  · rw [off 11 (by omega), off 12 (by omega), cls 3 6 (fun p _ => by omega) (by omega)]; exact h4
  · rw [off 0 (by omega)] at hph
    obtain ⟨r1, r2, r3, r4, r5, r6, r7⟩ := h5 hph
    have ef : ∀ w p, 5 ≤ w → w < 40 → fl m (upd v i x) w p = fl m v w p := fun w p a b => by unfold fl; rw [mo w p a b]
    refine ⟨?_, ?_, ?_, ?_, ?_, ?_, ?_⟩
    · rw [cls 0 10 (fun p _ => by omega) (by omega), r1]; exact bs_congr fun p _ => (ef 5 p (by decide) (by decide)).symm
    · rw [cls 0 11 (fun p _ => by omega) (by omega), r2]; exact bs_congr fun p _ => by rw [ef 5 p (by decide) (by decide), ef 6 p (by decide) (by decide)]
    · rw [cls 0 12 (fun p _ => by omega) (by omega), r3]; exact bs_congr fun p _ => by rw [ef 5 p (by decide) (by decide), ef 7 p (by decide) (by decide)]
    · rw [cls 0 13 (fun p _ => by omega) (by omega), r4]; exact bs_congr fun p _ => (ef 8 p (by decide) (by decide)).symm
    · rw [off 0 (by omega)]; intro q p hp; rw [ef 7 p (by decide) (by decide)]; exact r5 q p hp
    · rw [off 0 (by omega)]; intro q p hp; rw [ef 5 p (by decide) (by decide), ef 6 p (by decide) (by decide)]; exact r6 q p hp
    · rw [off 5 (by omega)]
      intro q p hp
      rw [ef 5 p (by decide) (by decide), ef 6 p (by decide) (by decide)]
      intro a b
      obtain ⟨d1, d2, d3⟩ := r7 q p hp a b
      refine ⟨fun k' hk' => ?_, fun j' hj' => ?_, ?_⟩
      · obtain ⟨c, c1, c2, c3⟩ := d1 k' hk'
        exact ⟨c, c1, by rw [show 20 + 40 * p + 14 + k' = 20 + 40 * p + (14 + k') by omega, mo _ _ (by omega) (by omega), ← Nat.add_assoc]; exact c2, by rw [cls _ _ (fun p' _ => by omega) (by omega)]; exact c3⟩
      · obtain ⟨c, c1, c2⟩ := d2 j' hj'
        exact ⟨c, c1, by rw [show 20 + 40 * p + 22 + j' = 20 + 40 * p + (22 + j') by omega, mo _ _ (by omega) (by omega), ← Nat.add_assoc]; exact c2⟩
      · rw [cls _ _ (fun p' _ => by omega) (by omega), d3]
        exact bs_congr fun j' hj' => (gd_congr w6 hj' (fun k' a b => mo k' p (by omega) (by omega))).symm
theorem LR.many {n : Nat} {L : St} {v : Nat → Int32} (h : LR n L v) : ∃ m, m ≤ 8 ∧ v 4 = nI m ∧ L 0 3 = nI m := by
  obtain ⟨m, e, t, h1, ⟨w1, w2, -⟩, -⟩ := h
  exact ⟨m, w1, w2, by rw [h1 0 3 4 rfl, w2]⟩
theorem s_behave {n : Nat} {I M : St} (h : RR n I M) (x y : Int32) : Sm n (f_X7_behave x y I) (f_X8_behave x y M) := by
  obtain ⟨m, hm, m1, m2⟩ := h.1.many
  simp only [f_X7_behave_b20, f_X7_behave, f_X8_behave_b32, f_X8_behave_b31, f_X8_behave, e_isPart hm m2, e_isPerson hm m1, e_isWithin, e_in, ob1_s, ob2_s, ck_t, lb_e]
  cases hp : pers m x
  · rw [if_pos (show b2 false = 0 from rfl), if_pos (show b2 false = 0 from rfl)]
    exact Sm.same h _
  · obtain ⟨p, hpm, rfl⟩ := pers_ex hm hp
    rw [if_neg (show ¬ b2 true = 0 by decide), if_neg (show ¬ b2 true = 0 by decide)]
    cases hw : wi y 0 3
    · rw [if_pos (show b2 false = 0 from rfl), if_pos (show b2 false = 0 from rfl)]
      exact Sm.same h _
    · rw [if_neg (show ¬ b2 true = 0 by decide), if_neg (show ¬ b2 true = 0 by decide)]
      obtain ⟨I1, M1, a1, a2, a3, a4, a5⟩ := e_rem h
      have hp8 : p < 8 := by omega
      have i0 : inb (nI p) 8 = true := inb_nI hp8 (by decide)
      have i1 : inb (nI (20 + 40 * p + 4)) 420 = true := inb_nI (by omega) (by decide)
      rw [lit_nI 4]
      simp only [e_person, ob1_s, ob2_s, ck_t, lb_e, nI_add, f_X8_sets, a1, a2, i0, i1, nI_clamp (n := p) (by omega), nI_clamp (n := 20 + 40 * p + 4) (by omega)]
      refine ⟨M 1 (20 + 40 * p + 4), u2 I1 (5 + p) 1 y, u2 M1 1 (20 + 40 * p + 4) y, ?_, ?_, a3.of ?_ (Nat.le_refl _) (FI.rf.u2 (Or.inl (by omega))) FM.rf.u1⟩
      · rw [a4 _ (by omega), h.1.le _ _ _ (prP p hp8).2.1]
      · rw [a5]
      · rw [u2_row]
        exact LR_acc a3.1 (prP p hp8).2.1 (Or.inr ⟨by omega, by omega, by omega⟩) y
theorem s_addParticipant {n : Nat} {I M : St} (h : RR n I M) (x : Int32) : Sm n (f_X7_addParticipant x I) (f_X8_addParticipant x M) := by
  obtain ⟨m, hm, m1, m2⟩ := h.1.many
  have hph : I 0 9 = M 1 0 := h.1.le 0 9 0 rfl
  simp only [f_X7_addParticipant, f_X8_addParticipant, ib_0, ib_1, ib_2, ib_3, ib_4, ib_5, ib_6, ib_7, ib_8, ib_9, ib_10, ib_11, ib_12, ib_13, ib3_4, ib0_4, cl_0, cl_1, cl_2, cl_3, cl_4, cl_5, cl_6, cl_7, cl_8, cl_9, cl_10, cl_11, cl_12, cl_13, e_isWithin, e_in, ob1_s, ob2_s, ck_t, lb_e, hph, m1, m2]
  cases hw : wi x 0 1000000
  · rw [if_pos (show b2 false = 0 from rfl), if_pos (show b2 false = 0 from rfl)]
    exact Sm.same h _
  · rw [if_neg (show ¬ b2 true = 0 by decide), if_neg (show ¬ b2 true = 0 by decide)]
    by_cases ph : M 1 0 = 0
    · rw [if_pos ph, if_pos ph]
      by_cases h8 : m = 8
      · subst h8
        rw [if_neg (show ¬ nI 8 < (8 : Int32) by decide), if_pos (show nI 8 = (8 : Int32) by decide)]
        exact Sm.same h _
      · have c1 : nI m < (8 : Int32) := nI_lt (a := m) (b := 8) (by omega) (by decide)
        have c2 : ¬ nI m = (8 : Int32) := fun q => h8 ((nI_eq (a := m) (b := 8) (by omega) (by decide)).mp q)
        rw [if_pos c1, if_neg c2]
        obtain ⟨I1, M1, a1, a2, a3, a4, a5⟩ := e_rem h
        have hm8 : m < 8 := by omega
        have i0 : inb (nI m) 8 = true := inb_nI hm8 (by decide)
        have i1 : inb (nI (20 + 40 * m + 0)) 420 = true := inb_nI (by omega) (by decide)
        have z : I1 0 3 = nI m := by rw [a4 0 (by decide)]; exact m2
        have z2 : M1 1 4 = nI m := by rw [a5]; exact m1
        rw [a1, a2]
        simp only [ob1_s, ob2_s, ck_t, lb_e, z2, e_person]
        rw [lit_nI 0, nI_add]
        have u1 : u2 M1 1 (20 + 40 * m + 0) x 1 4 = nI m := by rw [u2_ap, if_pos rfl, if_neg (by omega)]; exact z2
        simp only [f_X4_admit, ob1_s, ob2_s, ck_t, lb_e, z, if_pos c1, i0, i1, nI_clamp (n := m) (by omega), nI_clamp (n := 20 + 40 * m + 0) (by omega), u1]
        have u3 : u2 I1 (5 + m) 0 x 0 3 = nI m := by rw [u2_off _ _ _ _ (by omega)]; exact z
        have u4 : ∀ (J : St) (y : Int32), u2 J 0 3 y 0 3 = y := fun J y => rfl
        have u5 : ∀ (J : St) (y : Int32), u2 J 1 4 y 1 4 = y := fun J y => rfl
        rw [u3, u4, u5]
        refine ⟨_, _, _, rfl, rfl, a3.of ?_ (Nat.le_refl _) ((FI.rf.u2 (Or.inl (by omega))).u2 (Or.inl (by decide))) FM.rf.u1.u1⟩
        rw [u2_row, u2_row, nI_1]
        have b1 := LR_acc a3.1 (prP m hm8).1 (Or.inr ⟨by omega, by omega, by omega⟩) x
        obtain ⟨m', e, t, h1, ⟨w1, w2, w3, w4, w5, w6, w7, w8, w9, w10, w11⟩, h3, h4, h5⟩ := b1
        have off : ∀ q, q ≠ 4 → upd (upd (M1 1) (20 + 40 * m + 0) x) 4 (nI (m + 1)) q = upd (M1 1) (20 + 40 * m + 0) x q := fun q hq => by rw [upd_ap, if_neg hq]
        have p0 : upd (M1 1) (20 + 40 * m + 0) x 0 = 0 := by rw [upd_ap, if_neg (by omega), a5]; exact ph
        refine ⟨m + 1, e, t, LE_set h1 (show pr 0 3 = some 4 from rfl) _, ⟨by omega, rfl, w3, by rw [off 1 (by decide)]; exact w4, w5, w6, by rw [off 6 (by decide)]; exact w7, by rw [off 0 (by decide)]; exact w8, by rw [off 5 (by decide)]; exact w9, by rw [off 8 (by decide)]; exact w10, by rw [off 11 (by decide), off 13 (by decide)]; exact w11⟩, fun s hs => ?_, ?_, fun hq => ?_⟩
        · obtain ⟨f, f1, f2⟩ := h3 s hs
          exact ⟨f, by rw [off _ (by omega)]; exact f1, by rw [u2_off _ _ _ _ (by decide), off _ (by omega), off _ (by omega)]; exact f2⟩
        · rw [off 11 (by decide), off 12 (by decide), u2_off _ _ _ _ (by decide)]; exact h4
        · rw [off 0 (by decide)] at hq
          exact absurd p0 hq
    · rw [if_neg ph, if_neg ph]
      exact Sm.same h _
