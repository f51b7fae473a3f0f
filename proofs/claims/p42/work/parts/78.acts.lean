/-! the acts of the law: each answers within its bounds, and what stays stays -/
theorem rem_same {n : Nat} {I M I1 : St} (hR : RR n I M) (a : f_X3_remember I = some I1) : ∀ o, o < 29 → I1 o = I o := by
  obtain ⟨J, M1, b1, -, -, b4, -⟩ := e_rem hR
  rw [a] at b1
  cases b1
  exact b4
theorem PV.rem {m paid e : Nat} {I J : St} (h : PV m paid e I) (g : ∀ o, o < 29 → J o = I o) : PV m paid e J := h.cg fun o k a _ => by rw [g o (by have := acc_lt a; omega)]
theorem RX.rem {I J : St} (h : RX I) (g : ∀ o, o < 29 → J o = I o) : RX J := h.cg (fun k _ => by rw [g 0 (by decide)]) (fun p hp => by rw [g _ (by omega)])
theorem nlt_n {e b : Nat} (he : e < 2 ^ 31) {x : Int32} (hx : x.toInt = -(b : Int)) : ¬ nI e < x := fun q => by
  rw [Int32.lt_iff_toInt_lt, nI_toInt he, hx] at q
  omega
theorem L_begin {n m paid : Nat} {I : St} (h : IV n m paid I) (hn : n < 2 ^ 30) : ∃ r I', f_X7_begin I = some (r, I') ∧ ¬ r < -2 ∧ IV n m paid I' := by
  obtain ⟨M, e, t, hR, hL, hP, hA, hX⟩ := h.op hn
  obtain ⟨m2, m6, h3, -⟩ := h
  obtain ⟨r, I', M', e1, -, e3⟩ := s_begin hR
  refine ⟨r, I', e1, ?_⟩
  have w := hL.2.1
  have he := w.2.2.1
  rw [f_X7_begin, e_canStart w.1 w.2.2.2.2.2.1 hL.1 w.2.1 w.2.2.2.2.2.2.1, ob1_s] at e1
  cases hc : mayB m t (M 1)
  · rw [hc, if_pos bf0] at e1
    cases e1
    exact ⟨by decide, m2, m6, h3, M, e, w.2.2.1, hR, hA, hX⟩
  · rw [hc, if_neg bt1] at e1
    obtain ⟨I1, a1, e1⟩ := ob1_some e1
    obtain ⟨I2, a2, e1⟩ := ob1_some e1
    cases e1
    have rs := rem_same hR a1
    have A1 := hA.rem rs
    have A2 := A1.fr (fr_start a2)
    have r0 : ∀ k, I1 0 k = I 0 k := fun k => by rw [rs 0 (by decide)]
    refine ⟨by rw [A2.e]; exact nlt_n (b := 2) (by omega) (by decide), m2, m6, by rw [fr_start a2 0 3 rfl, r0]; exact h3, M', e, w.2.2.1, e3, A2, ?_⟩
    have ab : f_X4_ableToPay (u2 I1 0 9 1) = some (bs (able m (M 1))) := e_able w.1 ((r0 3).trans h3) ((r0 7).trans (hL.1 0 7 7 rfl)) (fun p hp => by
      rw [u2_off _ _ _ _ (by omega), rs _ (by omega)]
      exact hL.1 _ _ _ (prP p hp).1)
    rw [f_X4_start] at a2
    simp only [lb_e] at a2
    rw [ab, ob1_s] at a2
    cases a2
    intro _
    refine ⟨rfl, fun c => ⟨fun _ => ⟨able m (M 1), t, rfl, (r0 6).trans ((hL.1 0 6 6 rfl).trans w.2.2.2.2.2.2.1), ?_, w.2.2.2.2.2.1⟩, fun p f hp z hf => ?_⟩⟩
    · have c5 : M 1 5 = 1 := (hL.1 0 5 5 rfl).symm.trans ((r0 5).symm.trans c)
      unfold mayB at hc
      rw [Bool.and_eq_true_iff, Bool.and_eq_true_iff, Bool.or_eq_true_iff] at hc
      rcases hc.2.2 with q | q
      · exact absurd c5 (of_decide_eq_true q)
      · exact of_decide_eq_true q
    · have z : (0 : Int32) = bs f := z
      rw [bs_zero, bs_inj] at z
      rw [← z p hp] at hf
      cases hf
theorem L_opening {n m paid : Nat} {I : St} (h : IV n m paid I) (hn : n < 2 ^ 30) : ∃ r I', f_X7_beginOpening I = some (r, I') ∧ ¬ r < -5 ∧ IV (n + 1) m paid I' := by
  obtain ⟨M, e, t, hR, hL, hP, hA, hX⟩ := h.op hn
  obtain ⟨m2, m6, h3, -⟩ := h
  obtain ⟨r, I', M', e1, -, e3⟩ := s_beginOpening hR hn
  refine ⟨r, I', e1, ?_⟩
  have w := hL.2.1
  have he := w.2.2.1
  rw [f_X7_beginOpening, lb_e] at e1
  split at e1
  · rename_i ph
    obtain ⟨I1, a1, e1⟩ := ob1_some e1
    obtain ⟨a, I2, a2, e1⟩ := ob2_some e1
    cases e1
    have rs := rem_same hR a1
    have r0 : ∀ k, I1 0 k = I 0 k := fun k => by rw [rs 0 (by decide)]
    obtain ⟨x1, x2⟩ := hX (by rw [ph]; decide)
    rcases pv_opening (by omega) a2 (hA.rem rs) with ⟨v, p2, q2, g0, g1⟩ | ⟨rfl, v, p0, -, g3⟩
    · refine ⟨fun q => ?_, m2, m6, by rw [g0 3 (by decide) (by decide), r0]; exact h3, M', e, by omega, e3, v, fun _ => ⟨by rw [g0 13 (by decide) (by decide), r0]; exact x1, fun c => ⟨fun z => absurd (p2.symm.trans z) (by decide), fun p f hp z hf => ?_⟩⟩⟩
      · rw [Int32.lt_iff_toInt_lt, show ((-5 : Int32)).toInt = -5 by decide] at q
        rw [Int32.le_iff_toInt_le, show ((2 : Int32)).toInt = 2 by decide] at q2
        omega
      · rw [g0 5 (by decide) (by decide), r0] at c
        rw [g0 11 (by decide) (by decide), r0] at z
        rw [g1 _ (by omega), rs _ (by omega)]
        exact (x2 c).2 p f hp z hf
    · exact ⟨by decide, m2, m6, by rw [g3, r0]; exact h3, M', e + 1, by omega, e3, v, RX.rest p0⟩
  · cases e1
    exact ⟨by decide, m2, m6, h3, M, e, by omega, hR.mono (by omega), hA, hX⟩
theorem L_close {n m paid : Nat} {I : St} (h : IV n m paid I) (hn : n < 2 ^ 30) : ∃ r I', f_X7_close I = some (r, I') ∧ ¬ r < -5 ∧ IV (n + 1) m paid I' := by
  obtain ⟨M, e, t, hR, hL, hP, hA, hX⟩ := h.op hn
  obtain ⟨m2, m6, h3, -⟩ := h
  obtain ⟨r, I', M', e1, -, e3⟩ := s_close hR hn
  refine ⟨r, I', e1, ?_⟩
  have w := hL.2.1
  have he := w.2.2.1
  rw [f_X7_close, lb_e] at e1
  split at e1
  · rename_i ph
    obtain ⟨I1, a1, e1⟩ := ob1_some e1
    obtain ⟨a, I2, a2, e1⟩ := ob2_some e1
    cases e1
    have rs := rem_same hR a1
    have r0 : ∀ k, I1 0 k = I 0 k := fun k => by rw [rs 0 (by decide)]
    have rp := hP (by rw [← hL.1 0 9 0 rfl, ph]; decide)
    obtain ⟨v, pe, p0, g3⟩ := pv_finish (f := fun p => fl m (M 1) 5 p && fl m (M 1) 7 p) (g := fl m (M 1) 5) (by omega) a2 (hA.rem rs) (by rw [r0]; exact rp.1) (by rw [r0]; exact rp.2.2.1) (fun p hp => fl_lt (Bool.and_eq_true_iff.mp hp).1)
    refine ⟨?_, m2, m6, by rw [g3, r0]; exact h3, M', e + 1, by omega, e3, v, RX.rest p0⟩
    rcases pe.2 with q | ⟨q | q, -⟩
    all_goals
      rw [q]
      decide
  · cases e1
    exact ⟨by decide, m2, m6, h3, M, e, by omega, hR.mono (by omega), hA, hX⟩
theorem L_complain {n m paid p j : Nat} {I : St} (h : IV n m paid I) (hn : n < 2 ^ 30) (hp : p < m) (hj : j < m) (hne : ¬ nI j = nI p) : ∃ r I', f_X7_complain (nI j) (nI p) I = some (r, I') ∧ ¬ r < -9 ∧ IV n m paid I' := by
  obtain ⟨M, e, t, hR, hL, hP, hA, hX⟩ := h.op hn
  obtain ⟨m2, m6, h3, -⟩ := h
  obtain ⟨r, I', M', e1, -, e3⟩ := s_complain hR (nI j) (nI p)
  refine ⟨r, I', e1, ?_⟩
  have w := hL.2.1
  have he := w.2.2.1
  rw [f_X7_complain, e_isPart (by omega) h3, pers_t hj (by omega), ob1_s, if_neg bt1, e_isPart (by omega) h3, pers_t hp (by omega), ob1_s, if_neg bt1, if_neg hne, lb_e] at e1
  split at e1
  · rename_i ph
    rw [e_cShare (hL.1 0 9 0 rfl) (hL.1 0 5 5 rfl) hP (by omega) (by omega), ob1_s] at e1
    cases hs : shB m (M 1) p && fl m (M 1) 5 j
    · rw [hs, if_pos bf0] at e1
      cases e1
      exact ⟨by decide, m2, m6, h3, M, e, he, hR, hA, hX⟩
    · rw [hs, if_neg bt1] at e1
      obtain ⟨I1, a1, e1⟩ := ob1_some e1
      obtain ⟨_, e1⟩ := ck_some e1
      have rs := rem_same hR a1
      have hs1 := (Bool.and_eq_true_iff.mp hs).1
      unfold shB at hs1
      rw [Bool.and_eq_true_iff, Bool.and_eq_true_iff] at hs1
      obtain ⟨c5, c0, c56⟩ := hs1
      have rp := hP (of_decide_eq_true c0)
      have x9 : I (5 + p) 9 = 255 := ((hX (by rw [ph]; decide)).2 ((hL.1 0 5 5 rfl).trans (of_decide_eq_true c5))).2 p _ (by omega) rp.2.1 c56
      have b255 : (255 : Int32) = bs (fun _ => true) := by decide
      rw [nI_clamp (by omega), rs _ (by omega), x9, lb_e, b255, e_has _ (by omega), ob1_s, if_neg bt1] at e1
      obtain ⟨I2, a2, e1⟩ := ob1_some e1
      cases e1
      have A1 := hA.rem rs
      obtain ⟨-, g⟩ := pay_AB a2 A1.1 A1.2.1
      exact ⟨by decide, m2, m6, by rw [g _ _ (by omega) (by omega), rs 0 (by decide)]; exact h3, M', e, he, e3, pv_pay a2 A1, (hX.rem rs).cg (fun k hk => g _ _ (by omega) (by omega)) (fun p hp => g _ _ (by omega) (by omega))⟩
  · cases e1
    exact ⟨by decide, m2, m6, h3, M, e, he, hR, hA, hX⟩
theorem L_open {n m paid p : Nat} {I : St} (h : IV n m paid I) (hn : n < 2 ^ 30) (hp : p < m) (x y : Int32) : ∃ r I', f_X7_open (nI p) x y I = some (r, I') ∧ ¬ r < -2 ∧ IV n m paid I' := by
  obtain ⟨M, e, t, hR, hL, hP, hA, hX⟩ := h.op hn
  obtain ⟨m2, m6, h3, -⟩ := h
  obtain ⟨r, I', M', e1, -, e3⟩ := s_open hR (nI p) x y
  refine ⟨r, I', e1, ?_⟩
  have w := hL.2.1
  have he := w.2.2.1
  have b52 : f_X7_open_b52 I = some (r, I') → ¬ r < -2 ∧ IV n m paid I' := fun q => by
    rw [f_X7_open_b52] at q
    cases q
    exact ⟨by decide, m2, m6, h3, M, e, he, hR, hA, hX⟩
  rw [f_X7_open, e_isPart (by omega) h3, pers_t hp (by omega), ob1_s, if_neg bt1, lb_e] at e1
  split at e1
  · rw [lb_e] at e1
    obtain ⟨_, _, e1⟩ := ob1_some e1
    split at e1
    · exact b52 e1
    · rw [lb_e] at e1
      obtain ⟨_, _, e1⟩ := ob1_some e1
      split at e1
      · obtain ⟨I1, a1, e1⟩ := ob1_some e1
        have rs := rem_same hR a1
        have A1 := hA.rem rs
        have X1 := hX.rem rs
        have b95 : f_X7_open_b95 I1 = some (r, I') → ¬ r < -2 ∧ IV n m paid I' := fun q => by
          rw [f_X7_open_b95] at q
          cases q
          exact ⟨by decide, m2, m6, by rw [rs 0 (by decide)]; exact h3, M', e, he, e3, A1, X1⟩
        obtain ⟨_, e1⟩ := ck_some e1
        rw [lb_e] at e1
        split at e1
        · obtain ⟨_, e1⟩ := ck_some e1
          rw [lb_e] at e1
          split at e1
          · rw [lb_e, lb_e] at e1
            cases e1
            refine ⟨by decide, m2, m6, by rw [u2_row, upd_ap, if_neg (by decide), rs 0 (by decide)]; exact h3, M', e, he, e3, A1.fr (FR.rf.u2 rfl), X1.cg (fun k hk => ?_) (fun p hp => by rw [u2_off _ _ _ _ (by omega)])⟩
            rw [u2_row, upd_ap, if_neg (by omega)]
          · exact b95 e1
        · exact b95 e1
      · exact b52 e1
  · exact b52 e1
theorem L_behave {n m paid p : Nat} {I : St} (h : IV n m paid I) (hn : n < 2 ^ 30) (hp : p < m) {j : Nat} (hj : j < 4) : ∃ r I', f_X7_behave (nI p) (nI j) I = some (r, I') ∧ ¬ r < 0 ∧ IV n m paid I' := by
  obtain ⟨M, e, t, hR, hL, hP, hA, hX⟩ := h.op hn
  obtain ⟨m2, m6, h3, -⟩ := h
  obtain ⟨r, I', M', e1, -, e3⟩ := s_behave hR (nI p) (nI j)
  refine ⟨r, I', e1, ?_⟩
  have w := hL.2.1
  have he := w.2.2.1
  have hw : wi (nI j) 0 3 = true := by
    have : ∀ j, j < 4 → wi (nI j) 0 3 = true := by decide +kernel
    exact this j hj
  rw [f_X7_behave, e_isPart (by omega) h3, pers_t hp (by omega), ob1_s, if_neg bt1, e_isWithin, hw, ob1_s, if_neg bt1] at e1
  obtain ⟨I1, a1, e1⟩ := ob1_some e1
  have rs := rem_same hR a1
  obtain ⟨A1, A2, A3, A4, A5⟩ := hA.rem rs
  have X1 := hX.rem rs
  obtain ⟨_, e1⟩ := ck_some e1
  obtain ⟨y, y1, y2⟩ := A4 p (by omega)
  rw [nI_clamp (by omega), y2, lb_e] at e1
  obtain ⟨_, e1⟩ := ck_some e1
  rw [lb_e] at e1
  cases e1
  have o0 : ∀ o k, ¬ (o = 5 + p ∧ k = 1) → u2 I1 (5 + p) 1 (nI j) o k = I1 o k := fun o k z => by
    rw [u2_ap]
    by_cases d : o = 5 + p
    · rw [if_pos d, if_neg (fun w => z ⟨d, w⟩), ← d]
    · rw [if_neg d]
  refine ⟨nI_pos (by omega), m2, m6, by rw [o0 _ _ (by omega), rs 0 (by decide)]; exact h3, M', e, he, e3, ⟨A1.cg (fun p hp => o0 _ _ (by omega)) (o0 _ _ (by omega)), A2.cg (o0 _ _ (by omega)), A3.cg (fun p hp => ⟨o0 _ _ (by omega), o0 _ _ (by omega)⟩), fun q hq => ?_, A5.cg (fun k hk => o0 _ _ (by omega))⟩, X1.cg (fun k hk => o0 _ _ (by omega)) (fun p hp => o0 _ _ (by omega))⟩
  by_cases d : q = p
  · subst d
    exact ⟨j, by omega, by rw [u2_row, upd_ap, if_pos rfl]⟩
  · rw [o0 _ _ (by omega)]
    exact A4 q hq
theorem set_fin {n m paid e k : Nat} {I I1 M' : St} (m2 : 2 ≤ m) (m6 : m ≤ 6) (h3 : I 0 3 = nI m) (he : e ≤ n) (hA : PV m paid e I) (rs : ∀ o, o < 29 → I1 o = I o) (ph : I 0 9 = 0) (hk : k = 5 ∨ k = 6 ∨ k = 8) {x : Int32} (e3 : RR n (u2 I1 0 k x) M') : IV n m paid (u2 I1 0 k x) :=
  ⟨m2, m6, by rw [u2_row, upd_ap, if_neg (by omega), rs 0 (by decide)]; exact h3, M', e, he, e3, (hA.rem rs).set0 hk x, RX.rest (by rw [u2_row, upd_ap, if_neg (by omega), rs 0 (by decide)]; exact ph)⟩
theorem L_setMethod {n m paid : Nat} {I : St} (h : IV n m paid I) (hn : n < 2 ^ 30) {x : Int32} (hw : wi x 0 2 = true) : ∃ r I', f_X7_setMethod x I = some (r, I') ∧ ¬ r < -2 ∧ IV n m paid I' := by
  obtain ⟨M, e, t, hR, hL, hP, hA, hX⟩ := h.op hn
  obtain ⟨m2, m6, h3, -⟩ := h
  obtain ⟨r, I', M', e1, -, e3⟩ := s_setMethod hR x
  refine ⟨r, I', e1, ?_⟩
  have w := hL.2.1
  rw [f_X7_setMethod, e_setErr, if_pos hw, ob1_s] at e1
  by_cases ph : I 0 9 = 0
  · rw [if_pos ph, if_pos (by decide)] at e1
    obtain ⟨I1, a1, e1⟩ := ob1_some e1
    rw [lb_e, lb_e] at e1
    cases e1
    have rs := rem_same hR a1
    refine ⟨?_, set_fin m2 m6 h3 w.2.2.1 hA rs ph (Or.inl rfl) e3⟩
    rw [rs 0 (by decide), hL.1 0 5 5 rfl]
    rcases w.2.2.2.2.2.2.2.2.1 with q | q | q
    all_goals
      rw [q]
      decide
  · rw [if_neg ph, if_neg (by decide)] at e1
    cases e1
    exact ⟨by decide, m2, m6, h3, M, e, w.2.2.1, hR, hA, hX⟩
theorem L_setThreshold {n m paid : Nat} {I : St} (h : IV n m paid I) (hn : n < 2 ^ 30) {x : Int32} (hw : wi x 1 8 = true) : ∃ r I', f_X7_setThreshold x I = some (r, I') ∧ ¬ r < -2 ∧ IV n m paid I' := by
  obtain ⟨M, e, t, hR, hL, hP, hA, hX⟩ := h.op hn
  obtain ⟨m2, m6, h3, -⟩ := h
  obtain ⟨r, I', M', e1, -, e3⟩ := s_setThreshold hR x
  refine ⟨r, I', e1, ?_⟩
  have w := hL.2.1
  have t8 := w.2.2.2.2.2.1
  rw [f_X7_setThreshold, e_setErr, if_pos hw, ob1_s] at e1
  by_cases ph : I 0 9 = 0
  · rw [if_pos ph, if_pos (by decide)] at e1
    obtain ⟨I1, a1, e1⟩ := ob1_some e1
    rw [lb_e, lb_e] at e1
    cases e1
    have rs := rem_same hR a1
    refine ⟨?_, set_fin m2 m6 h3 w.2.2.1 hA rs ph (Or.inr (Or.inl rfl)) e3⟩
    rw [rs 0 (by decide), hL.1 0 6 6 rfl, w.2.2.2.2.2.2.1]
    exact nlt_n (b := 2) (by omega) (by decide)
  · rw [if_neg ph, if_neg (by decide)] at e1
    cases e1
    exact ⟨by decide, m2, m6, h3, M, e, w.2.2.1, hR, hA, hX⟩
theorem L_setDelay {n m paid : Nat} {I : St} (h : IV n m paid I) (hn : n < 2 ^ 30) {x : Int32} (hw : wi x 1 5000 = true) : ∃ r I', f_X7_setDelay x I = some (r, I') ∧ ¬ r < -2 ∧ IV n m paid I' := by
  obtain ⟨M, e, t, hR, hL, hP, hA, hX⟩ := h.op hn
  obtain ⟨m2, m6, h3, -⟩ := h
  obtain ⟨r, I', M', e1, -, e3⟩ := s_setDelay hR x
  refine ⟨r, I', e1, ?_⟩
  have w := hL.2.1
  obtain ⟨d, d1, d2⟩ := w.2.2.2.2.2.2.2.2.2.1
  rw [f_X7_setDelay, e_setErr, if_pos hw, ob1_s] at e1
  by_cases ph : I 0 9 = 0
  · rw [if_pos ph, if_pos (by decide)] at e1
    obtain ⟨I1, a1, e1⟩ := ob1_some e1
    rw [lb_e, lb_e] at e1
    cases e1
    have rs := rem_same hR a1
    refine ⟨?_, set_fin m2 m6 h3 w.2.2.1 hA rs ph (Or.inr (Or.inr rfl)) e3⟩
    rw [rs 0 (by decide), hL.1 0 8 8 rfl, d2]
    exact nlt_n (b := 2) (by omega) (by decide)
  · rw [if_neg ph, if_neg (by decide)] at e1
    cases e1
    exact ⟨by decide, m2, m6, h3, M, e, w.2.2.1, hR, hA, hX⟩
