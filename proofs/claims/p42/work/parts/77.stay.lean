/-! what stays between two steps of the law; calls that fail; sets; accounts -/
def RX (I : St) : Prop := I 0 9 ≠ 0 → I 0 13 = 0 ∧ (I 0 5 = 1 → (I 0 9 = 1 → ∃ f t, I 0 10 = bs f ∧ I 0 6 = nI t ∧ t ≤ cnt8 f ∧ t ≤ 8) ∧ ∀ p f, p < 8 → I 0 11 = bs f → f p = true → I (5 + p) 9 = 255)
def IV (n m paid : Nat) (I : St) : Prop := 2 ≤ m ∧ m ≤ 6 ∧ I 0 3 = nI m ∧ ∃ M e, e ≤ n ∧ RR n I M ∧ PV m paid e I ∧ RX I
theorem AC.e {e : Nat} {I : St} (h : AC e I) : I 3 0 = nI e := by
  obtain ⟨z, u, q, r, h1, h2, h3, h4, h5, -⟩ := h
  exact h5
theorem PV.e {m paid e : Nat} {I : St} (h : PV m paid e I) : I 3 0 = nI e := h.2.2.2.2.e
theorem IV.op {n m paid : Nat} {I : St} (h : IV n m paid I) (hn : n < 2 ^ 30) : ∃ M e t, RR n I M ∧ LC m e t n I (M 1) ∧ (M 1 0 ≠ 0 → RP m t I (M 1)) ∧ PV m paid e I ∧ RX I := by
  obtain ⟨m2, m6, h3, M, e, he, hR, hA, hX⟩ := h
  obtain ⟨m', e', t, h1, wv, h4, h5, h6⟩ := id hR.1
  have q1 : nI m' = nI m := wv.2.1.symm.trans ((h1 0 3 4 rfl).symm.trans h3)
  have q2 : nI e' = nI e := wv.2.2.2.1.symm.trans ((h1 3 0 1 rfl).symm.trans hA.e)
  have w1 := wv.1
  have w3 := wv.2.2.1
  rw [nI_eq (by omega) (by omega)] at q1 q2
  subst q1; subst q2
  exact ⟨M, e', t, hR, ⟨h1, wv, h4, h5⟩, h6, hA, hX⟩
theorem IV.mono {n n' m paid : Nat} {I : St} (h : IV n m paid I) (hn : n ≤ n') : IV n' m paid I := by
  obtain ⟨m2, m6, h3, M, e, he, hR, hA, hX⟩ := h
  exact ⟨m2, m6, h3, M, e, by omega, hR.mono hn, hA, hX⟩
theorem RX.rest {I : St} (h : I 0 9 = 0) : RX I := fun q => absurd h q
theorem RX.cg {I J : St} (h : RX I) (g : ∀ k, k = 5 ∨ k = 6 ∨ k = 9 ∨ k = 10 ∨ k = 11 ∨ k = 13 → J 0 k = I 0 k) (g9 : ∀ p, p < 8 → J (5 + p) 9 = I (5 + p) 9) : RX J := by
  unfold RX
  rw [g 5 (by decide), g 6 (by decide), g 9 (by decide), g 10 (by decide), g 11 (by decide), g 13 (by decide)]
  intro q
  obtain ⟨a, b⟩ := h q
  refine ⟨a, fun c => ⟨(b c).1, fun p f hp x y => ?_⟩⟩
  rw [g9 p hp]
  exact (b c).2 p f hp x y
theorem lgc (r : Int64) : lg_cmp r r = 0 := by simp [lg_cmp]
theorem pers_t {m k : Nat} (h : k < m) (hk : k < 2 ^ 31) : pers m (nI k) = true := by rw [pers_nI hk, decide_eq_true h]
theorem pers_f {m k : Nat} (h : m ≤ k) (hk : k < 2 ^ 31) : pers m (nI k) = false := by rw [pers_nI hk, decide_eq_false (by omega)]
theorem bt1 : ¬ b2 true = 0 := by decide
theorem bf0 : b2 false = 0 := rfl
/-- calls that fail -/
theorem L_fails {n m paid : Nat} {I : St} (h : IV n m paid I) (hn : n < 2 ^ 30) : f_L_fails (nI m) I = some (1, I) := by
  obtain ⟨M, e, t, hR, hL, hP, hA, hX⟩ := h.op hn
  obtain ⟨m2, m6, h3, -⟩ := h
  obtain ⟨r, f1, -⟩ := s_fingerprint hR
  have pm : f_X4_isParticipant (nI m) I = some (b2 false) := by rw [e_isPart (by omega) h3, pers_f (Nat.le_refl _) (by omega)]
  have p0 : f_X4_isParticipant 0 I = some (b2 true) := by rw [lit_nI 0, e_isPart (by omega) h3, pers_t (by omega) (by omega)]
  have p1 : f_X4_isParticipant 1 I = some (b2 true) := by rw [lit_nI 1, e_isPart (by omega) h3, pers_t (by omega) (by omega)]
  have pn : f_X4_isParticipant (-1) I = some (b2 false) := by
    rw [e_isPart (by omega) h3, show pers m (-1) = false from decide_eq_false (fun q => absurd q.1 (by decide))]
  have w1 : f_X7_isWithin (-1) 0 1000000 = some 0 := by rw [e_isWithin]; decide +kernel
  have w2 : f_X7_isWithin 4 0 3 = some 0 := by rw [e_isWithin]; decide +kernel
  have w3 : f_X7_isWithin 1019 0 1018 = some 0 := by rw [e_isWithin]; decide +kernel
  have w4 : f_X7_isWithin 0 1 1018 = some 0 := by rw [e_isWithin]; decide +kernel
  have w5 : f_X7_isWithin 256 0 255 = some 0 := by rw [e_isWithin]; decide +kernel
  have w6 : f_X7_isWithin 0 0 255 = some 1 := by rw [e_isWithin]; decide +kernel
  have w7 : f_X7_isWithin 5 1 4 = some 0 := by rw [e_isWithin]; decide +kernel
  have w8 : f_X7_isWithin 2 0 1 = some 0 := by rw [e_isWithin]; decide +kernel
  have w9 : f_X7_isWithin 0 0 3 = some 1 := by rw [e_isWithin]; decide +kernel
  have w10 : f_X7_isWithin 5 0 1000000 = some 1 := by rw [e_isWithin]; decide +kernel
  have n10 : ¬ (1 : Int32) = 0 := by decide
  have ng : ¬ (0 : Int32) ≤ -1 := by decide
  have ng2 : ¬ (0 : Int32) ≤ -2 := by decide
  have se : ∀ x lo hi, wi x lo hi = false → f_X7_settingError x lo hi I = some (-1) := fun x lo hi z => by rw [e_setErr, z, if_neg (by decide)]
  have a1 : f_X7_addParticipant (-1) I = some (-1, I) := by rw [f_X7_addParticipant, w1, ob1_s, if_pos rfl]
  have a2 : f_X7_behave (nI m) 0 I = some (-1, I) := by rw [f_X7_behave, pm, ob1_s, if_pos bf0, f_X7_behave_b20]
  have a3 : f_X7_behave 0 4 I = some (-1, I) := by rw [f_X7_behave, p0, ob1_s, if_neg bt1, w2, ob1_s, if_pos rfl, f_X7_behave_b20]
  have a4 : f_X7_setMethod 3 I = some (-1, I) := by rw [f_X7_setMethod, se _ _ _ (by decide +kernel), ob1_s, if_neg ng]
  have a5 : f_X7_setThreshold 0 I = some (-1, I) := by rw [f_X7_setThreshold, se _ _ _ (by decide +kernel), ob1_s, if_neg ng]
  have a6 : f_X7_setFine 1001 I = some (-1, I) := by rw [f_X7_setFine, se _ _ _ (by decide +kernel), ob1_s, if_neg ng]
  have a7 : f_X7_setDelay 0 I = some (-1, I) := by rw [f_X7_setDelay, se _ _ _ (by decide +kernel), ob1_s, if_neg ng]
  have b1 : f_X7_commit (nI m) 0 0 I = some (-1, I) := by rw [f_X7_commit, pm, ob1_s, if_pos bf0, f_X7_commit_b22]
  have b2' : f_X7_commit 0 1019 0 I = some (-1, I) := by rw [f_X7_commit, p0, ob1_s, if_neg bt1, w3, ob1_s, if_pos rfl, f_X7_commit_b22]
  have b3 : f_X7_spoil 0 1 0 I = some (-1, I) := by rw [f_X7_spoil, p0, ob1_s, if_neg bt1, p1, ob1_s, if_neg bt1, w4, ob1_s, if_pos rfl, f_X7_spoil_b33]
  have b4 : f_X7_complain 1 1 I = some (-1, I) := by rw [f_X7_complain, p1, ob1_s, if_neg bt1, ob1_s, if_neg bt1, if_pos rfl, f_X7_complain_b27]
  have b5 : f_X7_open (-1) 0 0 I = some (-1, I) := by rw [f_X7_open, pn, ob1_s, if_pos bf0]
  have b6 : f_X7_set 4 I = some (-1) := by rw [f_X7_set, w2, ob1_s, if_pos rfl]
  have b7 : f_X7_results 256 I = some (-1, I) := by rw [f_X7_results, w5, ob1_s, if_pos rfl]
  have b8 : f_X7_bias 0 5 I = some (-1, I) := by rw [f_X7_bias, w6, ob1_s, if_neg n10, w7, ob1_s, if_pos rfl, f_X7_bias_b20]
  have b9 : f_X7_canForce 0 2 I = some (-1, I) := by rw [f_X7_canForce, w6, ob1_s, if_neg n10, w8, ob1_s, if_pos rfl, f_X7_canForce_b20]
  have fin : f_L_fails_b279 r I = some (1, I) := by
    rw [f_L_fails_b279, f_L_fails_b284, if_neg n10, f1, ob1_s, if_pos (lgc r), f_L_fails_b305, isB_1, ck_t]
  have c : f_L_fails_b185 r 1 I = some (1, I) := by
    rw [f_L_fails_b185, if_neg n10, f_X7_phase, ob1_s]
    by_cases ph : I 0 9 = 0
    · have n02 : ¬ (0 : Int32) = 2 := by decide
      have n01 : ¬ (0 : Int32) = 1 := by decide
      have c1 : f_X7_close I = some (-2, I) := by rw [f_X7_close, ph, lb_e, if_neg n02]
      have c2 : f_X7_beginOpening I = some (-2, I) := by rw [f_X7_beginOpening, ph, lb_e, if_neg n01]
      have c3 : f_X7_set 0 I = some (-2) := by rw [f_X7_set, w9, ob1_s, if_neg n10, if_pos ph]
      have c4 : f_X7_digest 0 I = some (-9) := by rw [f_X7_digest, p0, ob1_s, if_neg bt1, f_X4_isCommitted, if_pos ph, f_X4_isCommitted_b22, f_X4_isCommitted_b23, isB_0, ck_t, ob1_s, if_pos rfl]
      rw [if_pos ph, c1, ob2_s, if_pos rfl, c2, ob2_s, if_pos rfl, c3, ob1_s, if_pos rfl, c4, ob1_s, if_pos rfl, fin]
    · have w := hL.2.1
      have v0 : ¬ M 1 0 = 0 := fun z => ph ((hL.1 0 9 0 rfl).trans z)
      have cs : f_X4_canStart I = some (b2 false) := by
        rw [e_canStart w.1 w.2.2.2.2.2.1 hL.1 w.2.1 w.2.2.2.2.2.2.1, mayB, decide_eq_false v0, Bool.false_and]
      have c1 : f_X7_begin I = some (-2, I) := by rw [f_X7_begin, cs, ob1_s, if_pos bf0]
      have c2 : f_X7_play 1 I = some (-2, I) := by rw [f_X7_play, cs, ob1_s, if_pos bf0]
      have c3 : f_X7_setMethod 0 I = some (-2, I) := by rw [f_X7_setMethod, e_setErr, if_pos (by decide +kernel), if_neg ph, ob1_s, if_neg ng2]
      have c4 : f_X7_addParticipant 5 I = some (-2, I) := by rw [f_X7_addParticipant, w10, ob1_s, if_neg n10, if_neg ph]
      rw [if_neg ph, c1, ob2_s, if_pos rfl, c2, ob2_s, if_pos rfl, c3, ob2_s, if_pos rfl, c4, ob2_s, if_pos rfl, fin]
  rw [f_L_fails, f1, ob1_s, a1, ob2_s, if_pos rfl, a2, ob2_s, if_pos rfl, a3, ob2_s, if_pos rfl, a4, ob2_s, if_pos rfl, a5, ob2_s, if_pos rfl, a6, ob2_s, if_pos rfl, a7, ob2_s, if_pos rfl]
  rw [f_L_fails_b77, if_neg n10, b1, ob2_s, if_pos rfl, b2', ob2_s, if_pos rfl, b3, ob2_s, if_pos rfl, b4, ob2_s, if_pos rfl, b5, ob2_s, if_pos rfl, b6, ob1_s, if_pos rfl, b7, ob2_s, if_pos rfl, b8, ob2_s, if_pos rfl, b9, ob2_s, if_pos rfl, c]
/-- sets of the round -/
theorem bn_small {m : Nat} {f : Nat → Bool} (h : ∀ p, m ≤ p → f p = false) : bn f < 2 ^ m := by
  refine Nat.lt_pow_two_of_testBit _ fun i hi => ?_
  by_cases c : i < 8
  · rw [bn_tb f c, h i hi]
  · refine Nat.testBit_lt_two_pow (Nat.lt_of_lt_of_le (bn_lt f) ?_)
    exact Nat.pow_le_pow_right (n := 2) (i := 8) (by decide) (by omega)
theorem e_set {I : St} (ph : ¬ I 0 9 = 0) : f_X7_set 0 I = some (I 0 10) ∧ f_X7_set 1 I = some (I 0 11) ∧ f_X7_set 2 I = some (I 0 12) ∧ f_X7_set 3 I = some (I 0 13) := by
  have w0 : f_X7_isWithin 0 0 3 = some 1 := by rw [e_isWithin]; decide +kernel
  have w1 : f_X7_isWithin 1 0 3 = some 1 := by rw [e_isWithin]; decide +kernel
  have w2 : f_X7_isWithin 2 0 3 = some 1 := by rw [e_isWithin]; decide +kernel
  have w3 : f_X7_isWithin 3 0 3 = some 1 := by rw [e_isWithin]; decide +kernel
  have n10 : ¬ (1 : Int32) = 0 := by decide
  refine ⟨?_, ?_, ?_, ?_⟩
  · rw [f_X7_set, w0, ob1_s, if_neg n10, if_neg ph, if_pos rfl]
  · rw [f_X7_set, w1, ob1_s, if_neg n10, if_neg ph, if_neg n10, if_pos rfl]
  · rw [f_X7_set, w2, ob1_s, if_neg n10, if_neg ph, if_neg (by decide), if_neg (by decide), if_pos rfl]
  · rw [f_X7_set, w3, ob1_s, if_neg n10, if_neg ph, if_neg (by decide), if_neg (by decide), if_neg (by decide)]
theorem sets_l {m t : Nat} {I : St} {v : Nat → Int32} (m6 : m ≤ 6) (h3 : I 0 3 = nI m) (hv : LE I v) (ph : ¬ v 0 = 0) (hr : RP m t I v) (p12 : v 0 = 1 ∨ v 0 = 2) : ∀ d F i, i + d = m → d < F → f_L_sets_l75 F (nI m) (bs (fl m v 5)) (bs (fun p => fl m v 5 p && fl m v 6 p)) (bs (fun p => fl m v 5 p && fl m v 7 p)) 1 (nI i) I = some 1 := by
  have n10 : ¬ (1 : Int32) = 0 := by decide
  have h9 : I 0 9 = v 0 := hv 0 9 0 rfl
  obtain ⟨r1, r2, r3, r4, r5, r6, r7⟩ := hr
  intro d
  induction d with
  | zero =>
    intro F i hi hF
    obtain ⟨F, rfl⟩ : ∃ g, F = g + 1 := ⟨F - 1, by omega⟩
    rw [f_L_sets_l75, if_pos (nI_le (by omega) (by omega)), if_neg n10, f_X7_phase, ob1_s, h9]
    rcases p12 with q | q
    · rw [if_pos q, if_pos (by rw [bs_zero]; exact bs_congr fun p hp => by rw [r5 q p hp, Bool.and_false]), f_L_sets_b157, f_L_sets_b162, isB_1, ck_t]
    · rw [if_neg (by rw [q]; decide), if_pos (bs_congr fun p hp => by
        cases e : fl m v 5 p
        · rfl
        · rw [r6 q p hp e]; rfl), f_L_sets_b157, f_L_sets_b162, isB_1, ck_t]
  | succ d ih =>
    intro F i hi hF
    obtain ⟨F, rfl⟩ : ∃ g, F = g + 1 := ⟨F - 1, by omega⟩
    have i8 : i < 8 := by omega
    rw [f_L_sets_l75, if_neg (nI_ge (by omega) (by omega)), if_neg n10, f_X7_digest, e_isPart (by omega) h3, pers_t (by omega) (by omega), ob1_s, if_neg bt1, e_isCom h9 (fun _ => ⟨r1, r2, r3, r4, r5, r6, r7⟩) i8, decide_eq_true ph, Bool.true_and, ob1_s, inb_nI i8 (by decide), ck_t, nI_clamp (by omega)]
    have nx := ih F (i + 1) (by omega) (by omega)
    have hb : ishr (bs (fun p => fl m v 5 p && fl m v 6 p)) (nI i) &&& 1 = if (fl m v 5 i && fl m v 6 i) = true then 1 else 0 := bs_hasS _ i8
    cases e : fl m v 5 i && fl m v 6 i
    · rw [if_pos bf0, ob1_s, if_pos (by decide), f_L_sets_b100, lb_e, hb, lb_e, e, if_neg (by decide), f_L_sets_b115, if_pos rfl, f_L_sets_b123, nI_1]
      exact nx
    · obtain ⟨j, j1, j2⟩ := pk_andE (I (5 + i) 6) (m := 1073741823) 30 (by decide)
      rw [if_neg bt1, lb_e, j2, ob1_s, if_neg (nI_pos (by omega)), f_L_sets_b100, lb_e, hb, lb_e, e, if_pos rfl, if_pos rfl, f_L_sets_b115, if_pos rfl, f_L_sets_b123, nI_1]
      exact nx
theorem L_sets {n m paid : Nat} {I : St} (h : IV n m paid I) (hn : n < 2 ^ 30) : f_L_sets (nI m) I = some 1 := by
  obtain ⟨M, e, t, hR, hL, hP, hA, hX⟩ := h.op hn
  obtain ⟨m2, m6, h3, -⟩ := h
  have h9 : I 0 9 = M 1 0 := hL.1 0 9 0 rfl
  rw [f_L_sets, f_X7_phase, ob1_s]
  by_cases ph : I 0 9 = 0
  · rw [if_pos ph]
  · have v0 : ¬ M 1 0 = 0 := fun z => ph (h9.trans z)
    have hr := hP v0
    obtain ⟨r1, r2, r3, r4, r5, r6, r7⟩ := id hr
    obtain ⟨s0, s1, s2, s3⟩ := e_set ph
    have x13 : I 0 13 = 0 := (hX ph).1
    have p12 : M 1 0 = 1 ∨ M 1 0 = 2 := by
      rcases hL.2.1.2.2.2.2.2.2.2.1 with q | q | q
      · exact absurd q v0
      · exact Or.inl q
      · exact Or.inr q
    have z1 : ishr (bs (fl m (M 1) 5)) (nI m) = 0 := by
      rw [bs, ishr_nI (Nat.lt_trans (bn_lt _) (by decide)) (by omega), Nat.div_eq_of_lt (bn_small fun p hp => fl_ge hp)]
      rfl
    have z2 : bs (fun p => fl m (M 1) 5 p && fl m (M 1) 6 p) &&& (bs (fl m (M 1) 5) ^^^ (-1)) = 0 := by
      rw [bs_andn, bs_zero]
      exact bs_congr fun p hp => by cases fl m (M 1) 5 p <;> simp
    have z3 : bs (fun p => fl m (M 1) 5 p && fl m (M 1) 7 p) &&& (bs (fun p => fl m (M 1) 5 p && fl m (M 1) 6 p) ^^^ (-1)) = 0 := by
      rw [bs_andn, bs_zero]
      refine bs_congr fun p hp => ?_
      rcases p12 with q | q
      · rw [r5 q p hp]; simp
      · cases e5 : fl m (M 1) 5 p
        · rfl
        · rw [r6 q p hp e5]; simp
    have z4 : (0 : Int32) &&& bs (fl m (M 1) 5) = 0 := by
      rw [bs_zero, bs_and]
      exact bs_congr fun p hp => rfl
    rw [if_neg ph, s0, ob1_s, s1, ob1_s, s2, ob1_s, s3, ob1_s, r1, r2, r3, x13, if_pos z1, if_pos z2, if_pos z3, if_pos z4, f_L_sets_b70, lit_nI 0]
    exact sets_l m6 h3 hL.1 v0 hr p12 m 10000 0 (by omega) (by omega)
/-- balances and pot, counts -/
def sm (B : Nat → Nat) : Nat → Nat
  | 0 => 0
  | i + 1 => sm B i + B i
theorem sm_8 (B : Nat → Nat) : sm B 8 = su B := by
  simp only [sm, su]
  omega
theorem sm_z {B : Nat → Nat} {m : Nat} (h : ∀ p, m ≤ p → B p = 0) : ∀ d, sm B (m + d) = sm B m
  | 0 => rfl
  | d + 1 => by
    show sm B (m + d) + B (m + d) = _
    rw [sm_z h d, h _ (by omega), Nat.add_zero]
theorem e_acct {m : Nat} {I : St} (m6 : m ≤ 6) (h3 : I 0 3 = nI m) {p : Nat} (hp : p < m) : f_X7_account (nI p) 0 I = some (I (5 + p) 0) ∧ f_X7_account (nI p) 1 I = some (I (5 + p) 2) ∧ f_X7_account (nI p) 2 I = some (I (5 + p) 3) ∧ f_X7_account (nI p) 4 I = some (I (5 + p) 1) := by
  have w0 : f_X7_isWithin 0 0 4 = some 1 := by rw [e_isWithin]; decide +kernel
  have w1 : f_X7_isWithin 1 0 4 = some 1 := by rw [e_isWithin]; decide +kernel
  have w2 : f_X7_isWithin 2 0 4 = some 1 := by rw [e_isWithin]; decide +kernel
  have w4 : f_X7_isWithin 4 0 4 = some 1 := by rw [e_isWithin]; decide +kernel
  have n10 : ¬ (1 : Int32) = 0 := by decide
  have pp : f_X4_isParticipant (nI p) I = some (b2 true) := by rw [e_isPart (by omega) h3, pers_t hp (by omega)]
  have i8 : inb (nI p) 8 = true := inb_nI (by omega) (by decide)
  have cl : (nI p).toNatClampNeg = p := nI_clamp (by omega)
  refine ⟨?_, ?_, ?_, ?_⟩
  · rw [f_X7_account, pp, ob1_s, if_neg bt1, w0, ob1_s, if_neg n10, i8, ck_t, cl, if_pos rfl]
  · rw [f_X7_account, pp, ob1_s, if_neg bt1, w1, ob1_s, if_neg n10, i8, ck_t, cl, if_neg n10, if_pos rfl]
  · rw [f_X7_account, pp, ob1_s, if_neg bt1, w2, ob1_s, if_neg n10, i8, ck_t, cl, if_neg (by decide), if_neg (by decide), if_pos rfl]
  · rw [f_X7_account, pp, ob1_s, if_neg bt1, w4, ob1_s, if_neg n10, i8, ck_t, cl, if_neg (by decide), if_neg (by decide), if_neg (by decide), if_neg (by decide)]
theorem sum_l {m P : Nat} {B : Nat → Nat} {I : St} (m6 : m ≤ 6) (h3 : I 0 3 = nI m) (hB : ∀ p, p < 8 → I (5 + p) 0 = nI (B p)) (hb : ∀ p, p < 8 → B p < 2 ^ 31) : ∀ d F i, i + d = m → d < F → f_L_sum_l9 F (nI m) (lN (P + sm B i)) (nI i) I = some (lN (P + sm B m)) := by
  intro d
  induction d with
  | zero =>
    intro F i hi hF
    obtain ⟨F, rfl⟩ : ∃ g, F = g + 1 := ⟨F - 1, by omega⟩
    have e : i = m := by omega
    subst e
    rw [f_L_sum_l9, if_pos (nI_le (Nat.le_refl _) (by omega))]
  | succ d ih =>
    intro F i hi hF
    obtain ⟨F, rfl⟩ : ∃ g, F = g + 1 := ⟨F - 1, by omega⟩
    rw [f_L_sum_l9, if_neg (nI_ge (by omega) (by omega)), (e_acct m6 h3 (show i < m by omega)).1, ob1_s, lb_e, hB i (by omega), nI_l (hb i (by omega)), lN_add, nI_1, Nat.add_assoc]
    exact ih F (i + 1) (by omega) (by omega)
theorem acts_l {m paid e : Nat} {I : St} (he : e < 2 ^ 30) (m6 : m ≤ 6) (h3 : I 0 3 = nI m) (hA : PV m paid e I) : ∀ d F i, i + d = m → d < F → f_L_accounts_l9 F (nI m) (lN paid) (nI e) (nI i) I = some 1 := by
  obtain ⟨⟨B, P, -, b1, b2', b3, b4, b5⟩, hF, hO, hH, ⟨z, u, q, r, c1, c2, c3, c4, c5, c6, c7, c8, c9⟩⟩ := hA
  have hb : ∀ p, p < 8 → B p ≤ paid := fun p hp => by
    have := su_le (B := B) hp
    omega
  have k0 : f_X7_coins 0 I = some (nI z) := by
    rw [f_X7_coins, show f_X7_isWithin 0 0 1 = some 1 by rw [e_isWithin]; decide +kernel, ob1_s, if_neg (by decide), if_neg (by decide), f_X7_coins_b39, c6]
  have k1 : f_X7_coins 1 I = some (nI u) := by
    rw [f_X7_coins, show f_X7_isWithin 1 0 1 = some 1 by rw [e_isWithin]; decide +kernel, ob1_s, if_neg (by decide), if_pos rfl, f_X7_coins_b39, c7]
  have n10 : ¬ (1 : Int32) = 0 := by decide
  intro d
  induction d with
  | zero =>
    intro F i hi hF'
    obtain ⟨F, rfl⟩ : ∃ g, F = g + 1 := ⟨F - 1, by omega⟩
    have es : f_L_sum (nI m) I = some (lN paid) := by
      have h0 := sum_l (P := P) (B := B) m6 h3 b1 (fun p hp => by have := hb p hp; omega) m 10000 0 (by omega) (by omega)
      have h8 := sm_z b2' (8 - m)
      rw [show m + (8 - m) = 8 by omega, sm_8] at h8
      rw [f_L_sum, f_X7_pot, ob1_s, b3, nI_l (by omega), lb_e, lit_nI 0]
      rw [← h8, show P + su B = paid by omega] at h0
      exact h0
    rw [f_L_accounts_l9, if_pos (nI_le (by omega) (by omega)), es, ob1_s, if_pos (lgc _), f_X7_pot, ob1_s, b3, if_neg (nI_pos (by omega)), k0, ob1_s, k1, ob1_s, nI_add, lb_e, if_neg (nI_nlt (by omega) (by omega)), f_X7_longestRun, ob1_s, c8, if_neg (nI_nlt (by omega) (by omega)), ob1_s]
    by_cases q0 : q = 0
    · have zu : z + u = 0 := by omega
      rw [q0, if_pos (by decide), f_L_accounts_b127, k0, ob1_s, k1, ob1_s, nI_add, zu, if_pos (by decide), f_L_accounts_b146, if_pos rfl, f_L_accounts_b154, isB_1, ck_t]
    · rw [if_neg (nI_nle (by omega) (by omega)), f_L_accounts_b127, k0, ob1_s, k1, ob1_s, nI_add, if_neg (nI_nle (by omega) (by omega)), f_L_accounts_b146, if_pos rfl, f_L_accounts_b154, isB_1, ck_t]
  | succ d ih =>
    intro F i hi hF'
    obtain ⟨F, rfl⟩ : ∃ g, F = g + 1 := ⟨F - 1, by omega⟩
    obtain ⟨a0, a1, a2, a4⟩ := e_acct m6 h3 (show i < m by omega)
    obtain ⟨a, b, q1, q2, q3⟩ := hO i (by omega)
    obtain ⟨y, y1, y2⟩ := hH i (by omega)
    rw [if_neg (Nat.not_lt_zero i)] at q1
    have hbi := hb i (by omega)
    rw [f_L_accounts_l9, if_neg (nI_ge (by omega) (by omega)), a4, ob1_s, a0, ob1_s, b1 i (by omega), if_neg (nI_pos (by omega)), a1, ob1_s, a2, ob1_s, q2, q3, nI_add, lb_e, if_neg (nI_nlt (by omega) (by omega)), y2, if_neg (nI_pos (by omega)), if_pos (show nI y ≤ (3 : Int32) from nI_le (b := 3) y1 (by decide)), nI_1]
    exact ih F (i + 1) (by omega) (by omega)
theorem L_accounts {n m paid : Nat} {I : St} (h : IV n m paid I) (hn : n < 2 ^ 30) : f_L_accounts (nI m) (lN paid) I = some 1 := by
  obtain ⟨m2, m6, h3, M, e, he, hR, hA, hX⟩ := h
  rw [f_L_accounts, f_X7_rounds, ob1_s, hA.e, lit_nI 0]
  exact acts_l (by omega) m6 h3 hA m 10000 0 (by omega) (by omega)
