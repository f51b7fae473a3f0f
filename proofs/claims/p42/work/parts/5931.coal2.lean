/-! the model's counts -/
theorem e_same_l {M : St} {n : Nat} (K : Int32 → Int32 → Int32 → Int32 → Int32 → St → Option (Int32 × St)) (v1 v2 v4 v5 X : Int32) (hn : n ≤ 256) : ∀ (d k F : Nat), k + d = n → d < F → f_X8_results_l105 K F v1 v2 (nI n) v4 v5 X 1 (nI k) M = f_X8_results_b141 K v1 v2 (nI n) v4 v5 X (b2 (!an (fun q => decide (M 4 q = X)) d k)) M := by
  intro d
  induction d with
  | zero =>
    intro k F hk hF
    obtain ⟨F, rfl⟩ : ∃ g, F = g + 1 := ⟨F - 1, by omega⟩
    rw [f_X8_results_l105, if_pos (nI_le (by omega) (by omega))]; rfl
  | succ d ih =>
    intro k F hk hF
    obtain ⟨F, rfl⟩ : ∃ g, F = g + 1 := ⟨F - 1, by omega⟩
    rw [f_X8_results_l105, if_neg (nI_ge (by omega) (by omega)), if_neg (show ¬ (1 : Int32) = 0 by decide), inb_nI (by omega) (by decide), ck_t, nI_clamp (by omega), lb_e, an]
    by_cases c : M 4 k = X
    · rw [if_pos c, decide_eq_true c, f_X8_results_b133, Bool.true_or, nI_1]
      cases d with
      | zero =>
        obtain ⟨F, rfl⟩ : ∃ g, F = g + 1 := ⟨F - 1, by omega⟩
        rw [f_X8_results_l105, if_pos (nI_le (by omega) (by omega))]; rfl
      | succ d =>
        obtain ⟨F, rfl⟩ : ∃ g, F = g + 1 := ⟨F - 1, by omega⟩
        rw [f_X8_results_l105, if_neg (nI_ge (by omega) (by omega)), if_pos rfl]; rfl
    · rw [if_neg c, decide_eq_false c, Bool.false_or, f_X8_results_b133, nI_1]
      exact ih (k + 1) F (by omega) (by omega)
theorem mdc_le (ok : Nat → Bool) (y : Nat → Int32) : ∀ d i seen, mdc ok y d i seen ≤ d
  | 0, _, _ => Nat.le_refl _
  | d + 1, i, seen => by
    rw [mdc]
    have h1 := mdc_le ok y d (i + 1) seen
    have h2 := mdc_le ok y d (i + 1) (fun z => seen z || decide (y i = z))
    split
    · split <;> omega
    · omega
theorem e_res_l {m e t n w : Nat} {I0 M0 I : St} (hw : w < 256) : ∀ (d i F c : Nat) (f : Bool) (M : St), i + d = 256 → d < F → K m e t n 2 I0 M0 I M → nI w &&& (bs (free m (M 1)) ^^^ (-1)) = 0 → (∀ p, p < m → M 3 p = sec (M 1) p) → c ≤ i → ∃ M', f_X8_results_l42 F (nI w) (bs (fl m (M 1) 5)) (nI c) (b2 f) (nI i) M = some (nI (c + mdc (okc m t (M 1) w) (fun q => oN m (M 1) (sec (M 1)) (csN m (M 1) (gc m (M 1) w q))) d i (fun z => an (fun k => decide (M 4 k = z)) c 0)) + b2 (f || an (lsc m t (M 1) w) d i), M') ∧ K m e t n 2 I0 M0 I M' ∧ M' 1 = M 1 := by
  intro d
  induction d with
  | zero =>
    intro i F c f M hi hF h hf hR hc
    obtain ⟨F, rfl⟩ : ∃ g, F = g + 1 := ⟨F - 1, by omega⟩
    refine ⟨M, ?_, h, rfl⟩
    rw [f_X8_results_l42, if_pos (show (256 : Int32) ≤ nI i from nI_le (a := 256) (by omega) (by omega)), mdc, Nat.add_zero, an, Bool.or_false]
  | succ d ih =>
    intro i F c f M hi hF h hf hR hc
    obtain ⟨F, rfl⟩ : ∃ g, F = g + 1 := ⟨F - 1, by omega⟩
    have w1 := h.1.2.1.1
    rw [f_X8_results_l42, if_neg (show ¬ (256 : Int32) ≤ nI i from nI_ge (b := 256) (by omega) (by decide)), an, mdc]
    by_cases hs : nI i &&& (nI w ^^^ (-1)) = 0
    · have esb : sb w i = true := decide_eq_true hs
      have eo : bs (fl m (M 1) 5) &&& (nI w ^^^ (-1)) = bs (oth m (M 1) w) := by rw [nbs hw, bs_andn]; rfl
      have eout := e_outputOf h (gc m (M 1) w i) (gc_lt hw (by omega) w1 hf esb)
      rw [outF_congr (R' := sec (M 1)) hR, ← oN_cs] at eout
      obtain ⟨X, hX⟩ : ∃ X, X = oN m (M 1) (sec (M 1)) (csN m (M 1) (gc m (M 1) w i)) := ⟨_, rfl⟩
      rw [← hX] at eout
      obtain ⟨M2, hM2⟩ : ∃ M2, M2 = u2 M 0 4 (b2 (lost m t (M 1) (gc m (M 1) w i))) := ⟨_, rfl⟩
      have r2 : ∀ o, o ≠ 0 → M2 o = M o := fun o ho => by rw [hM2, u2_off _ _ _ _ ho]
      have k2 : K m e t n 2 I0 M0 I M2 := h.mrow (r2 1 (by decide)) (by rw [hM2]; exact h.2.2.2.2.u0 (by decide))
      have M24 : M2 0 4 = b2 (lost m t (M 1) (gc m (M 1) w i)) := by rw [hM2, u2_row, upd_ap, if_pos rfl]
      rw [if_pos hs, eo, lb_e, gc_set (by omega), eout, ob2_s, ← hM2, M24]
      cases hls : lost m t (M 1) (gc m (M 1) w i)
      · have eok : okc m t (M 1) w i = true := by unfold okc; rw [esb, hls]; rfl
        have elc : lsc m t (M 1) w i = false := by unfold lsc; rw [hls, Bool.and_false]
        rw [if_pos (show b2 false = 0 from rfl), f_X8_results_b85, M24, hls, if_pos (show b2 false = 0 from rfl), f_X8_results_b100, lit_nI 0, show (1 : Int32) = 1 from rfl, e_same_l (n := c) _ _ _ _ _ _ (by omega) c 0 10000 (by omega) (by omega), r2 4 (by decide), eok, if_pos rfl, elc, Bool.false_or, ← hX]
        rw [f_X8_results_b141]
        cases hn : an (fun q => decide (M 4 q = X)) c 0
        · rw [if_neg (show ¬ b2 (!false) = 0 by decide), if_neg (by decide), inb_nI (by omega) (by decide), ck_t, nI_clamp (n := c) (by omega), lb_e, f_X8_results_b157, nI_1, nI_1]
          obtain ⟨M3, hM3⟩ : ∃ M3, M3 = u2 M2 4 c X := ⟨_, rfl⟩
          have r3 : ∀ o, o ≠ 0 → o ≠ 4 → M3 o = M o := fun o a b => by rw [hM3, u2_off _ _ _ _ b, r2 o a]
          have k3 : K m e t n 2 I0 M0 I M3 := k2.mrow (by rw [r3 1 (by decide) (by decide), r2 1 (by decide)]) (by rw [hM3]; exact k2.2.2.2.2.u3 (by decide))
          obtain ⟨M', p1, p2, p3⟩ := ih (i + 1) F (c + 1) f M3 (by omega) (by omega) k3 (by rw [r3 1 (by decide) (by decide)]; exact hf) (by rw [r3 1 (by decide) (by decide), r3 3 (by decide) (by decide)]; exact hR) (by omega)
          have e2 : (fun z => an (fun k => decide (M3 4 k = z)) (c + 1) 0) = fun z => (an (fun k => decide (M 4 k = z)) c 0 || decide (X = z)) := by
            funext z
            have q4 : ∀ k, M3 4 k = if k = c then X else M 4 k := fun k => by rw [hM3, u2_row, upd_ap, r2 4 (by decide)]
            rw [an_last, an_congr c 0 (g := fun k => decide (M 4 k = z)) (fun q _ hq => by rw [q4, if_neg (by omega)]), q4, if_pos rfl]
          rw [e2, r3 1 (by decide) (by decide)] at p1
          rw [← hM3, ← Nat.add_assoc]
          exact ⟨M', p1, p2, by rw [p3, r3 1 (by decide) (by decide)]⟩
        · rw [if_pos (show b2 (!true) = 0 by decide), if_pos rfl, f_X8_results_b157, nI_1]
          obtain ⟨M', p1, p2, p3⟩ := ih (i + 1) F c f M2 (by omega) (by omega) k2 (by rw [r2 1 (by decide)]; exact hf) (by rw [r2 1 (by decide), r2 3 (by decide)]; exact hR) (by omega)
          rw [r2 1 (by decide), r2 4 (by decide)] at p1
          exact ⟨M', p1, p2, by rw [p3, r2 1 (by decide)]⟩
      · have eok : okc m t (M 1) w i = false := by unfold okc; rw [hls, esb]; rfl
        have elc : lsc m t (M 1) w i = true := by unfold lsc; rw [hls, esb]; rfl
        have l0 : ∀ F', f_X8_results_l105 (f_X8_results_l42 F) (F' + 1) (nI w) (bs (fl m (M 1) 5)) (nI c) 1 (nI i) X 0 0 M2 = f_X8_results_l42 F (nI w) (bs (fl m (M 1) 5)) (nI c) 1 (nI (i + 1)) M2 := fun F' => by
          rw [f_X8_results_l105, f_X8_results_b141, if_pos rfl, f_X8_results_b157, nI_1]
          split <;> rfl
        have l1 := l0 9999
        rw [if_neg (show ¬ b2 true = 0 by decide), f_X8_results_b85, M24, hls, if_neg (show ¬ b2 true = 0 by decide), f_X8_results_b100, l1, eok, if_neg (by decide), elc, Bool.true_or, Bool.or_true]
        obtain ⟨M', p1, p2, p3⟩ := ih (i + 1) F c true M2 (by omega) (by omega) k2 (by rw [r2 1 (by decide)]; exact hf) (by rw [r2 1 (by decide), r2 3 (by decide)]; exact hR) (by omega)
        rw [r2 1 (by decide), r2 4 (by decide), Bool.true_or] at p1
        exact ⟨M', p1, p2, by rw [p3, r2 1 (by decide)]⟩
    · have esb : sb w i = false := decide_eq_false hs
      have eok : okc m t (M 1) w i = false := by unfold okc; rw [esb]; rfl
      have elc : lsc m t (M 1) w i = false := by unfold lsc; rw [esb]; rfl
      rw [if_neg hs, f_X8_results_b157, nI_1, eok, if_neg (by decide), elc, Bool.false_or]
      exact ih (i + 1) F c f M (by omega) (by omega) h hf hR (by omega)
theorem s_results {n : Nat} {I M : St} (h : RR n I M) (x : Int32) : Sm n (f_X7_results x I) (f_X8_results x M) := by
  obtain ⟨m, e, t, h1, wv, h3, h4, h5⟩ := id h.1
  have w1 := wv.1
  rw [f_X7_results, f_X8_results, e_isWithin x, ob1_s, e_in x, ob1_s]
  by_cases hw : wi x 0 255 = true
  case neg =>
    rw [Bool.eq_false_iff.mpr hw, if_pos (show b2 false = 0 from rfl), if_pos (show b2 false = 0 from rfl)]
    exact Sm.same h _
  obtain ⟨w, s1, s2, rfl⟩ := wi_ex (a := 0) (b := 255) (by decide) (by decide) hw
  rw [hw, if_neg (show ¬ b2 true = 0 by decide), if_neg (show ¬ b2 true = 0 by decide), e_conspire (h1 0 9 0 rfl) h5, ob1_s, e_mayJoin w1 wv.2.1, ob1_s]
  cases hc : mayC m (M 1) w
  · rw [if_pos (show b2 false = 0 from rfl), if_pos (show b2 false = 0 from rfl)]
    exact Sm.same h _
  obtain ⟨z1, z2⟩ := Bool.and_eq_true_iff.mp hc
  have ph := of_decide_eq_true z1
  have hf := of_decide_eq_true z2
  have w256 : w < 256 := by omega
  have k0 : K m e t n 2 I M I M := ⟨⟨h1, wv, h3, h4⟩, h5 (by rw [ph]; decide), by rw [ph]; rfl, FI.rf, FM.rf⟩
  obtain ⟨M1, t1, t2, t3⟩ := e_takes w1 M wv.2.1
  have row1 : M1 1 = M 1 := t2 1 (by decide)
  have k1 : K m e t n 2 I M I M1 := k0.mrow row1 ⟨t2 2 (by decide), by rw [t2 0 (by decide)]⟩
  obtain ⟨I2, l, a, g1, g2, g3, g4, g5, g6⟩ := e_gather w256 k1
  rw [row1] at g3 g5 g6
  have e5 : f_X8_setOf 5 M1 = some (bs (fl m (M 1) 5)) := by
    have := e_setOf (M := M1) (w := 5) w1 (by decide) (by rw [row1]; exact wv.2.1)
    rwa [row1] at this
  obtain ⟨M2, p1, p2, p2r⟩ := e_res_l w256 256 0 10000 0 false M1 (by decide) (by decide) g2 (by rw [row1]; exact hf) (by rw [row1]; exact t3) (Nat.le_refl _)
  rw [row1, Bool.false_or, Nat.zero_add] at p1
  have hB : I2 148 4 = b2 (an (lsc m t (M 1) w) 256 0) := g3.2.2.2
  have hl := g3.2.1
  have hG : GA I2 l a (an (lsc m t (M 1) w) 256 0) := g3
  have cnt : ∀ c, ∃ I3, f_X1_countResults_b12 (nI c) I2 = some (nI (c + nd (fun k => oN m (M1 1) (sec (M1 1)) (a k)) l), I3) ∧ K m e t n 2 I M I3 M1 := fun c => by
    obtain ⟨I3, q1, q2⟩ := e_count_l (M := M1) (l := l) (a := a) l 0 10000 c I2 (by omega) (by omega) g2 hG (fun k hk => absurd hk (by omega))
    refine ⟨I3, ?_, q2⟩
    rw [f_X1_countResults_b12, lit_nI 0]
    exact q1
  have eX := g6 (oN m (M 1) (sec (M 1)))
  rw [row1] at cnt
  rw [eX] at cnt
  obtain ⟨N, hN⟩ : ∃ N, N = mdc (okc m t (M 1) w) (fun c => oN m (M 1) (sec (M 1)) (csN m (M 1) (gc m (M 1) w c))) 256 0 (fun _ => false) := ⟨_, rfl⟩
  have p1' : f_X8_results_l42 10000 (nI w) (bs (fl m (M 1) 5)) (nI 0) (b2 false) (nI 0) M1 = some (nI N + b2 (an (lsc m t (M 1) w) 256 0), M2) := by rw [hN]; exact p1
  rw [← hN] at cnt
  have p3 : f_X8_results_l42 10000 (nI w) (bs (fl m (M 1) 5)) 0 0 0 M1 = some (nI N + b2 (an (lsc m t (M 1) w) 256 0), M2) := by
    rw [lit_nI 0]; exact p1'
  rw [if_neg (show ¬ b2 true = 0 by decide), if_neg (show ¬ b2 true = 0 by decide), g1, ob1_s, f_X1_countResults, hB, t1, ob1_s, e5, ob1_s, p3]
  cases an (lsc m t (M 1) w) 256 0
  · obtain ⟨I3, q1, q2⟩ := cnt 0
    have q1' : f_X1_countResults_b12 0 I2 = some (nI (0 + N), I3) := by rw [lit_nI 0]; exact q1
    rw [if_pos (show b2 false = 0 from rfl), q1', ob2_s]
    exact ⟨_, I3, M2, rfl, by rw [Nat.zero_add, show b2 false = (0 : Int32) from rfl, Int32.add_zero], (q2.mrow p2r p2.2.2.2.2).RR h⟩
  · obtain ⟨I3, q1, q2⟩ := cnt 1
    have q1' : f_X1_countResults_b12 1 I2 = some (nI (1 + N), I3) := by rw [lit_nI 1]; exact q1
    rw [if_neg (show ¬ b2 true = 0 by decide), q1', ob2_s]
    exact ⟨_, I3, M2, rfl, by rw [show b2 true = (1 : Int32) from rfl, nI_1, Nat.add_comm], (q2.mrow p2r p2.2.2.2.2).RR h⟩
/-! what can be forced -/
def frc (m t : Nat) (v R : Nat → Int32) (w : Nat) (coin : Int32) : Bool := an (fun c => okc m t v w c && decide (outF m v R (gc m v w c) &&& 1 = coin)) 256 0
theorem e_forces_l {m e t n w : Nat} {I0 M0 I : St} (hw : w < 256) (coin : Int32) : ∀ (d i F : Nat) (M : St), i + d = 256 → d < F → K m e t n 2 I0 M0 I M → nI w &&& (bs (free m (M 1)) ^^^ (-1)) = 0 → ∃ M', f_X8_forces_l13 F (nI w) coin (bs (oth m (M 1) w)) (nI i) M = some (b2 (an (fun c => okc m t (M 1) w c && decide (outF m (M 1) (M 3) (gc m (M 1) w c) &&& 1 = coin)) d i), M') ∧ K m e t n 2 I0 M0 I M' ∧ M' 1 = M 1 ∧ M' 3 = M 3 := by
  intro d
  induction d with
  | zero =>
    intro i F M hi hF h hf
    obtain ⟨F, rfl⟩ : ∃ g, F = g + 1 := ⟨F - 1, by omega⟩
    refine ⟨M, ?_, h, rfl, rfl⟩
    rw [f_X8_forces_l13, if_pos (show (256 : Int32) ≤ nI i from nI_le (a := 256) (by omega) (by omega))]; rfl
  | succ d ih =>
    intro i F M hi hF h hf
    obtain ⟨F, rfl⟩ : ∃ g, F = g + 1 := ⟨F - 1, by omega⟩
    have w1 := h.1.2.1.1
    rw [f_X8_forces_l13, if_neg (show ¬ (256 : Int32) ≤ nI i from nI_ge (b := 256) (by omega) (by decide)), an]
    by_cases hs : nI i &&& (nI w ^^^ (-1)) = 0
    · have esb : sb w i = true := decide_eq_true hs
      have eout := e_outputOf h (gc m (M 1) w i) (gc_lt hw (by omega) w1 hf esb)
      obtain ⟨M2, hM2⟩ : ∃ M2, M2 = u2 M 0 4 (b2 (lost m t (M 1) (gc m (M 1) w i))) := ⟨_, rfl⟩
      have r2 : ∀ o, o ≠ 0 → M2 o = M o := fun o ho => by rw [hM2, u2_off _ _ _ _ ho]
      have k2 : K m e t n 2 I0 M0 I M2 := h.mrow (r2 1 (by decide)) (by rw [hM2]; exact h.2.2.2.2.u0 (by decide))
      have M24 : M2 0 4 = b2 (lost m t (M 1) (gc m (M 1) w i)) := by rw [hM2, u2_row, upd_ap, if_pos rfl]
      have go : ∃ M', f_X8_forces_b57 (f_X8_forces_l13 F) (nI w) coin (bs (oth m (M 1) w)) (nI i) M2 = some (b2 (an (fun c => okc m t (M 1) w c && decide (outF m (M 1) (M 3) (gc m (M 1) w c) &&& 1 = coin)) d (i + 1)), M') ∧ K m e t n 2 I0 M0 I M' ∧ M' 1 = M 1 ∧ M' 3 = M 3 := by
        obtain ⟨M', p1, p2, p3, p4⟩ := ih (i + 1) F M2 (by omega) (by omega) k2 (by rw [r2 1 (by decide)]; exact hf)
        rw [r2 1 (by decide), r2 3 (by decide)] at p1
        rw [f_X8_forces_b57, nI_1]
        exact ⟨M', p1, p2, by rw [p3, r2 1 (by decide)], by rw [p4, r2 3 (by decide)]⟩
      rw [if_pos hs, gc_set (by omega), eout, ob2_s, ← hM2, M24]
      cases hls : lost m t (M 1) (gc m (M 1) w i)
      · have eok : okc m t (M 1) w i = true := by unfold okc; rw [esb, hls]; rfl
        rw [if_pos (show b2 false = 0 from rfl), lb_e, eok, Bool.true_and]
        by_cases c : outF m (M 1) (M 3) (gc m (M 1) w i) &&& 1 = coin
        · rw [if_pos c, decide_eq_true c, Bool.true_or]
          exact ⟨M2, rfl, k2, r2 1 (by decide), r2 3 (by decide)⟩
        · rw [if_neg c, decide_eq_false c, Bool.false_or]
          exact go
      · have eok : okc m t (M 1) w i = false := by unfold okc; rw [hls, esb]; rfl
        rw [if_neg (show ¬ b2 true = 0 by decide), eok, Bool.false_and, Bool.false_or]
        exact go
    · have esb : sb w i = false := decide_eq_false hs
      have eok : okc m t (M 1) w i = false := by unfold okc; rw [esb]; rfl
      rw [if_neg hs, eok, Bool.false_and, Bool.false_or, f_X8_forces_b57, nI_1]
      exact ih (i + 1) F M (by omega) (by omega) h hf
theorem e_forces {m e t n w : Nat} {I0 M0 I M : St} (hw : w < 256) (coin : Int32) (h : K m e t n 2 I0 M0 I M) (hf : nI w &&& (bs (free m (M 1)) ^^^ (-1)) = 0) : ∃ M', f_X8_forces (nI w) coin M = some (b2 (frc m t (M 1) (M 3) w coin), M') ∧ K m e t n 2 I0 M0 I M' ∧ M' 1 = M 1 ∧ M' 3 = M 3 := by
  have e5 : f_X8_setOf 5 M = some (bs (fl m (M 1) 5)) := e_setOf h.1.2.1.1 (by decide) h.1.2.1.2.1
  have eo : bs (fl m (M 1) 5) &&& (nI w ^^^ (-1)) = bs (oth m (M 1) w) := by rw [nbs hw, bs_andn]; rfl
  rw [f_X8_forces, e5, ob1_s, eo, lb_e, lit_nI 0]
  exact e_forces_l hw coin 256 0 10000 M (by decide) (by decide) h hf
theorem e_frc {m t w l : Nat} {v R : Nat → Int32} {a : Nat → Nat} (h : ∀ P : Nat → Bool, an (fun k => P (a k)) l 0 = an (fun c => okc m t v w c && P (csN m v (gc m v w c))) 256 0) (coin : Int32) : an (fun k => decide (oN m v R (a k) &&& 1 = coin)) l 0 = frc m t v R w coin := by
  rw [h (fun s => decide (oN m v R s &&& 1 = coin))]
  unfold frc
  exact an_congr 256 0 (fun c _ _ => by rw [oN_cs])
theorem frc_congr {m t w : Nat} {v R R' : Nat → Int32} (h : ∀ p, p < m → R p = R' p) (coin : Int32) : frc m t v R w coin = frc m t v R' w coin := by
  unfold frc
  exact an_congr 256 0 (fun c _ _ => by rw [outF_congr h])
theorem s_canForce {n : Nat} {I M : St} (h : RR n I M) (x y : Int32) : Sm n (f_X7_canForce x y I) (f_X8_canForce x y M) := by
  obtain ⟨m, e, t, h1, wv, h3, h4, h5⟩ := id h.1
  have w1 := wv.1
  rw [f_X7_canForce, f_X8_canForce, e_isWithin x, ob1_s, e_in x, ob1_s]
  by_cases hw : wi x 0 255 = true
  case neg =>
    rw [Bool.eq_false_iff.mpr hw, if_pos (show b2 false = 0 from rfl), if_pos (show b2 false = 0 from rfl)]
    exact Sm.same h _
  obtain ⟨w, s1, s2, rfl⟩ := wi_ex (a := 0) (b := 255) (by decide) (by decide) hw
  rw [hw, if_neg (show ¬ b2 true = 0 by decide), if_neg (show ¬ b2 true = 0 by decide), e_isWithin y, ob1_s, e_in y, ob1_s]
  cases hy : wi y 0 1
  · rw [if_pos (show b2 false = 0 from rfl), if_pos (show b2 false = 0 from rfl)]
    exact Sm.same h _
  rw [if_neg (show ¬ b2 true = 0 by decide), if_neg (show ¬ b2 true = 0 by decide), e_conspire (h1 0 9 0 rfl) h5, ob1_s, e_mayJoin w1 wv.2.1, ob1_s]
  cases hc : mayC m (M 1) w
  · rw [if_pos (show b2 false = 0 from rfl), if_pos (show b2 false = 0 from rfl)]
    exact Sm.same h _
  obtain ⟨z1, z2⟩ := Bool.and_eq_true_iff.mp hc
  have ph := of_decide_eq_true z1
  have hf := of_decide_eq_true z2
  have w256 : w < 256 := by omega
  have k0 : K m e t n 2 I M I M := ⟨⟨h1, wv, h3, h4⟩, h5 (by rw [ph]; decide), by rw [ph]; rfl, FI.rf, FM.rf⟩
  obtain ⟨M1, t1, t2, t3⟩ := e_takes w1 M wv.2.1
  have row1 : M1 1 = M 1 := t2 1 (by decide)
  have k1 : K m e t n 2 I M I M1 := k0.mrow row1 ⟨t2 2 (by decide), by rw [t2 0 (by decide)]⟩
  obtain ⟨I2, l, a, g1, g2, g3, g4, g5, g6⟩ := e_gather w256 k1
  obtain ⟨M2, p1, p2, p3, p4⟩ := e_forces w256 y g2 (by rw [row1]; exact hf)
  have er := e_reaches (R := sec (M1 1)) (I := I2) (o := 2) (by decide) g3 (g2.1.1 3 1 3 rfl) g2.2.1.1 g2.sec y
  rw [e_frc g5, row1] at er
  rw [row1, frc_congr (R' := sec (M 1)) t3] at p1
  rw [if_neg (show ¬ b2 true = 0 by decide), if_neg (show ¬ b2 true = 0 by decide), g1, ob1_s, er, ob1_s, t1, ob1_s, p1, ob2_s]
  have kk := (g2.mrow (M' := M2) p3 p2.2.2.2.2).RR h
  cases frc m t (M 1) (sec (M 1)) w y
  · rw [if_pos (show b2 false = 0 from rfl), if_pos (show b2 false = 0 from rfl)]
    exact ⟨_, I2, M2, rfl, rfl, kk⟩
  · rw [if_neg (show ¬ b2 true = 0 by decide), if_neg (show ¬ b2 true = 0 by decide)]
    exact ⟨_, I2, M2, rfl, rfl, kk⟩
/-! bias -/
def spr (f : Nat → Bool) (b : Nat) : Nat → Nat → Nat → (Nat → Int32) → Nat → Int32
  | 0, _, _, T => T
  | d + 1, i, r, T => if f i = true then spr f b d (i + 1) (r / 2 ^ b) (upd T i (nI (r % 2 ^ b))) else spr f b d (i + 1) r T
theorem spr_off {f : Nat → Bool} {b : Nat} : ∀ (d i r : Nat) (T : Nat → Int32) (p : Nat), (f p = false ∨ p < i) → spr f b d i r T p = T p
  | 0, _, _, _, _, _ => rfl
  | d + 1, i, r, T, p, h => by
    rw [spr]
    split
    · rename_i z
      rw [spr_off d (i + 1) _ _ p (h.imp id (fun q => by omega)), upd_ap, if_neg (fun q => by
        rcases h with y | y
        · rw [q, z] at y; cases y
        · omega)]
    · exact spr_off d (i + 1) _ _ p (h.imp id (fun q => by omega))
theorem spr_congr {f : Nat → Bool} {b : Nat} : ∀ (d i r : Nat) (T T' : Nat → Int32) (p : Nat), (T p = T' p ∨ (f p = true ∧ i ≤ p ∧ p < i + d)) → spr f b d i r T p = spr f b d i r T' p
  | 0, i, r, T, T', p, h => by
    rcases h with q | q
    · exact q
    · omega
  | d + 1, i, r, T, T', p, h => by
    rw [spr, spr]
    split
    · refine spr_congr d (i + 1) _ _ _ p ?_
      rw [upd_ap, upd_ap]
      by_cases e : p = i
      · rw [if_pos e, if_pos e]; exact Or.inl rfl
      · rw [if_neg e, if_neg e]
        rcases h with q | q
        · exact Or.inl q
        · exact Or.inr ⟨q.1, by omega, by omega⟩
    · rename_i z
      refine spr_congr d (i + 1) _ _ _ p ?_
      rcases h with q | q
      · exact Or.inl q
      · refine Or.inr ⟨q.1, ?_, by omega⟩
        rcases Nat.eq_or_lt_of_le q.2.1 with y | y
        · rw [y] at z; exact absurd q.1 z
        · omega
theorem mask_nI {r b : Nat} (hr : r < 2 ^ 32) (h1 : 1 ≤ b) (hb : b ≤ 4) : nI r &&& (ishl 1 (nI b) - 1) = nI (r % 2 ^ b) := by
  have : (ishl 1 (nI b) - 1).toBitVec.toNat = 2 ^ b - 1 := by
    have key : ∀ b, b < 5 → 1 ≤ b → (ishl 1 (nI b) - 1).toBitVec.toNat = 2 ^ b - 1 := by decide +kernel
    exact key b (by omega) h1
  exact pk_andN hr b this
theorem e_spread_l {f : Nat → Bool} {b : Nat} (h1 : 1 ≤ b) (hb : b ≤ 4) : ∀ (d i F r : Nat) (I : St), i + d = 8 → d < F → r < 2 ^ 31 → ∃ I', f_X1_spread_l6 F (bs f) (nI b) (nI r) (nI i) I = some I' ∧ (∀ o, o ≠ 151 → I' o = I o) ∧ I' 151 = spr f b d i r (I 151) := by
  intro d
  induction d with
  | zero =>
    intro i F r I hi hF hr
    obtain ⟨F, rfl⟩ : ∃ g, F = g + 1 := ⟨F - 1, by omega⟩
    refine ⟨I, ?_, fun _ _ => rfl, rfl⟩
    rw [f_X1_spread_l6, if_pos (show (8 : Int32) ≤ nI i from nI_le (a := 8) (by omega) (by omega))]
  | succ d ih =>
    intro i F r I hi hF hr
    obtain ⟨F, rfl⟩ : ∃ g, F = g + 1 := ⟨F - 1, by omega⟩
    rw [f_X1_spread_l6, if_neg (show ¬ (8 : Int32) ≤ nI i from nI_ge (b := 8) (by omega) (by omega)), e_has _ (by omega), ob1_s, spr]
    cases hf : f i
    · rw [if_pos (show b2 false = 0 from rfl), if_neg (by decide), f_X1_spread_b43, nI_1]
      exact ih (i + 1) F r I (by omega) (by omega) hr
    · have hd : r / 2 ^ b < 2 ^ 31 := Nat.lt_of_le_of_lt (Nat.div_le_self _ _) hr
      obtain ⟨I', q1, q2, q3⟩ := ih (i + 1) F (r / 2 ^ b) (u2 I 151 i (nI (r % 2 ^ b))) (by omega) (by omega) hd
      rw [if_neg (show ¬ b2 true = 0 by decide), if_pos rfl, lb_e, inb_nI (by omega) (by decide), ck_t, nI_clamp (by omega), mask_nI (by omega) h1 hb, lb_e, iushr_nI (by omega) (by omega), lb_e, f_X1_spread_b43, nI_1]
      exact ⟨I', q1, fun o ho => by rw [q2 o ho, u2_off _ _ _ _ ho], by rw [q3, u2_row]⟩
theorem e_spreadM {f : Nat → Bool} {b : Nat} (h1 : 1 ≤ b) (hb : b ≤ 4) (K : Int32 → Int32 → Int32 → Int32 → Int32 → Int32 → St → Option (Int32 × St)) (v1 v4 v5 v6 : Int32) : ∀ (d i F r : Nat) (M : St), i + d = 8 → d < F → r < 2 ^ 31 → ∃ M', f_X8_bias_l87 K F v1 (nI b) (bs f) v4 v5 v6 (nI r) (nI i) M = (ob2 (f_X8_forces v1 1 M') fun r5 M4 => if r5 = 0 then f_X8_bias_b147 K v1 (nI b) (bs f) v4 v6 v5 0 M4 else f_X8_bias_b147 K v1 (nI b) (bs f) v4 v6 v5 1 M4) ∧ (∀ o, o ≠ 3 → M' o = M o) ∧ M' 3 = spr f b d i r (M 3) := by
  intro d
  induction d with
  | zero =>
    intro i F r M hi hF hr
    obtain ⟨F, rfl⟩ : ∃ g, F = g + 1 := ⟨F - 1, by omega⟩
    refine ⟨M, ?_, fun _ _ => rfl, rfl⟩
    rw [f_X8_bias_l87, if_pos (show (8 : Int32) ≤ nI i from nI_le (a := 8) (by omega) (by omega))]
  | succ d ih =>
    intro i F r M hi hF hr
    obtain ⟨F, rfl⟩ : ∃ g, F = g + 1 := ⟨F - 1, by omega⟩
    rw [f_X8_bias_l87, if_neg (show ¬ (8 : Int32) ≤ nI i from nI_ge (b := 8) (by omega) (by omega)), lb_e, bs_hasS f (by omega), lb_e, spr]
    cases hf : f i
    · rw [if_neg (show ¬ false = true by decide), if_neg (show ¬ (0 : Int32) = 1 by decide), if_neg (show ¬ false = true by decide), f_X8_bias_b125, nI_1]
      exact ih (i + 1) F r M (by omega) (by omega) hr
    · have hd : r / 2 ^ b < 2 ^ 31 := Nat.lt_of_le_of_lt (Nat.div_le_self _ _) hr
      obtain ⟨M', q1, q2, q3⟩ := ih (i + 1) F (r / 2 ^ b) (u2 M 3 i (nI (r % 2 ^ b))) (by omega) (by omega) hd
      rw [if_pos rfl, if_pos (show (1 : Int32) = 1 from rfl), if_pos rfl, lb_e, inb_nI (by omega) (by decide), ck_t, nI_clamp (by omega), mask_nI (by omega) h1 hb, lb_e, ishr_nI hr (by omega), lb_e, f_X8_bias_b125, nI_1]
      exact ⟨M', q1, fun o ho => by rw [q2 o ho, u2_off _ _ _ _ ho], by rw [q3, u2_row]⟩
theorem e_bias_l {m e t n w b : Nat} {I0 M0 : St} {v : Nat → Int32} (hw : w < 256) (h1 : 1 ≤ b) (hb : b ≤ 4) {l : Nat} {a : Nat → Nat} {fb : Bool} (hf : nI w &&& (bs (free m v) ^^^ (-1)) = 0) (hA : ∀ P : Nat → Bool, an (fun k => P (a k)) l 0 = an (fun c => okc m t v w c && P (csN m v (gc m v w c))) 256 0) {A : Nat} (hA12 : A ≤ 12) : ∀ (d i F G c : Nat) (I M : St), i + d = 2 ^ A → d < F → d < G → K m e t n 2 I0 M0 I M → M 1 = v → GA I l a fb → (∀ p, p < m → I 151 p = sec v p ∨ oth m v w p = true) → ∃ r I' M', f_X1_countForced_l31 F (bs (oth m v w)) (nI b) (nI (2 ^ A)) (nI c) (nI i) I = some (r, I') ∧ f_X8_bias_l67 G (nI w) (nI b) (bs (oth m v w)) (nI A) (nI c) (nI i) M = some (r, M') ∧ K m e t n 2 I0 M0 I' M' := by
  have e2A : 2 ^ A ≤ 4096 := Nat.pow_le_pow_right (n := 2) (i := A) (j := 12) (by decide) hA12
  have eA : ishl 1 (nI A) = nI (2 ^ A) := by rw [lit_nI 1, ishl_nI (by omega) (by omega), Nat.one_mul]
  intro d
  induction d with
  | zero =>
    intro i F G c I M hi hF hG h hv hGA hT
    obtain ⟨F, rfl⟩ : ∃ g, F = g + 1 := ⟨F - 1, by omega⟩
    obtain ⟨G, rfl⟩ : ∃ g, G = g + 1 := ⟨G - 1, by omega⟩
    rw [f_X1_countForced_l31, f_X8_bias_l67, eA, if_pos (nI_le (by omega) (by omega)), if_pos (nI_le (by omega) (by omega))]
    exact ⟨_, I, M, rfl, rfl, h⟩
  | succ d ih =>
    intro i F G c I M hi hF hG h hv hGA hT
    obtain ⟨F, rfl⟩ : ∃ g, F = g + 1 := ⟨F - 1, by omega⟩
    obtain ⟨G, rfl⟩ : ∃ g, G = g + 1 := ⟨G - 1, by omega⟩
    have w1 := h.1.2.1.1
    obtain ⟨I1, a1, a2, a3⟩ := e_spread_l (f := oth m v w) h1 hb 8 0 10000 i I (by decide) (by decide) (by omega)
    have a1' : f_X1_spread (nI i) (bs (oth m v w)) (nI b) I = some I1 := by rw [f_X1_spread, lit_nI 0]; exact a1
    have k1 := h.irow (I' := I1) (fun o ho => a2 o (by omega)) (fun o x y => by rw [a2 o (by omega)]; exact h.2.2.2.1 o x y)
    have hGA1 : GA I1 l a fb := ⟨by rw [a2 _ (by decide)]; exact hGA.1, hGA.2.1, fun k hk => by rw [a2 _ (by decide)]; exact hGA.2.2.1 k hk, by rw [a2 _ (by decide)]; exact hGA.2.2.2⟩
    obtain ⟨M1, t1, t2, t3⟩ := e_takes w1 M h.1.2.1.2.1
    rw [hv] at t3
    obtain ⟨M2, b1, b2', b3⟩ := e_spreadM (f := oth m v w) h1 hb (f_X8_bias_l67 G) (nI w) (nI A) (nI c) (nI i) 8 0 10000 i M1 (by decide) (by decide) (by omega)
    have row2 : M2 1 = v := by rw [b2' 1 (by decide), t2 1 (by decide), hv]
    have k2 : K m e t n 2 I0 M0 I1 M2 := k1.mrow (by rw [row2, hv]) ⟨by rw [b2' 2 (by decide), t2 2 (by decide)]; exact h.2.2.2.2.1, by rw [b2' 0 (by decide), t2 0 (by decide)]; exact h.2.2.2.2.2⟩
    obtain ⟨M3, c1, c2, c3, c4⟩ := e_forces hw 1 k2 (by rw [row2]; exact hf)
    have eqT : ∀ p, p < m → p < 8 → I1 151 p = M2 3 p := fun p hp hp8 => by
      rw [a3, b3]
      refine spr_congr 8 0 i _ _ p ?_
      rcases hT p hp with q | q
      · exact Or.inl (by rw [q, t3 p hp]; rfl)
      · exact Or.inr ⟨q, by omega, by omega⟩
    have er := e_reaches (m := m) (v := v) (R := M2 3) (I := I1) (o := 151) (by decide) hGA1 (by rw [← row2]; exact k2.1.1 3 1 3 rfl) (by rw [← row2]; exact k2.2.1.1) eqT 1
    rw [e_frc hA] at er
    rw [row2] at c1 c3
    have k3 : K m e t n 2 I0 M0 I1 M3 := c2
    have hT1 : ∀ p, p < m → I1 151 p = sec v p ∨ oth m v w p = true := fun p hp => by
      cases ho : oth m v w p
      · refine Or.inl ?_
        rw [a3, spr_off _ _ _ _ _ (Or.inl ho)]
        rcases hT p hp with q | q
        · exact q
        · rw [ho] at q; cases q
      · exact Or.inr rfl
    have b1' : f_X8_bias_l87 (f_X8_bias_l67 G) 10000 (nI w) (nI b) (bs (oth m v w)) (nI A) (nI c) (nI i) (nI i) 0 M1 = (ob2 (f_X8_forces (nI w) 1 M2) fun r5 M4 => if r5 = 0 then f_X8_bias_b147 (f_X8_bias_l67 G) (nI w) (nI b) (bs (oth m v w)) (nI A) (nI i) (nI c) 0 M4 else f_X8_bias_b147 (f_X8_bias_l67 G) (nI w) (nI b) (bs (oth m v w)) (nI A) (nI i) (nI c) 1 M4) := by
      rw [lit_nI 0]; exact b1
    rw [f_X1_countForced_l31, if_neg (nI_ge (by omega) (by omega)), a1', ob1_s, er, ob1_s, f_X8_bias_l67, eA, if_neg (nI_ge (by omega) (by omega)), t1, ob1_s, b1', c1, ob2_s]
    cases frc m t v (M2 3) w 1
    · obtain ⟨r, I', M', p1, p2, p3⟩ := ih (i + 1) F G c I1 M3 (by omega) (by omega) (by omega) k3 c3 hGA1 hT1
      rw [if_pos (show b2 false = 0 from rfl), if_pos (show b2 false = 0 from rfl), f_X1_countForced_b62, f_X8_bias_b147, Int32.add_zero, lb_e, nI_1]
      exact ⟨r, I', M', p1, p2, p3⟩
    · obtain ⟨r, I', M', p1, p2, p3⟩ := ih (i + 1) F G (c + 1) I1 M3 (by omega) (by omega) (by omega) k3 c3 hGA1 hT1
      rw [if_neg (show ¬ b2 true = 0 by decide), if_neg (show ¬ b2 true = 0 by decide), f_X1_countForced_b62, f_X8_bias_b147, nI_1, lb_e, nI_1]
      exact ⟨r, I', M', p1, p2, p3⟩
theorem s_bias {n : Nat} {I M : St} (h : RR n I M) (x y : Int32) : Sm n (f_X7_bias x y I) (f_X8_bias x y M) := by
  obtain ⟨m, e, t, h1, wv, h3, h4, h5⟩ := id h.1
  have w1 := wv.1
  rw [f_X7_bias, f_X8_bias, e_isWithin x, ob1_s, e_in x, ob1_s]
  by_cases hw : wi x 0 255 = true
  case neg =>
    rw [Bool.eq_false_iff.mpr hw, if_pos (show b2 false = 0 from rfl), if_pos (show b2 false = 0 from rfl)]
    exact Sm.same h _
  obtain ⟨w, s1, s2, rfl⟩ := wi_ex (a := 0) (b := 255) (by decide) (by decide) hw
  rw [hw, if_neg (show ¬ b2 true = 0 by decide), if_neg (show ¬ b2 true = 0 by decide), e_isWithin y, ob1_s, e_in y, ob1_s]
  by_cases hy : wi y 1 4 = true
  case neg =>
    rw [Bool.eq_false_iff.mpr hy, if_pos (show b2 false = 0 from rfl), if_pos (show b2 false = 0 from rfl)]
    exact Sm.same h _
  obtain ⟨b, y1, y2, rfl⟩ := wi_ex (a := 1) (b := 4) (by decide) (by decide) hy
  rw [hy, if_neg (show ¬ b2 true = 0 by decide), if_neg (show ¬ b2 true = 0 by decide), e_conspire (h1 0 9 0 rfl) h5, ob1_s, e_mayJoin w1 wv.2.1, ob1_s]
  cases hc : mayC m (M 1) w
  · rw [if_pos (show b2 false = 0 from rfl), if_pos (show b2 false = 0 from rfl)]
    exact Sm.same h _
  obtain ⟨z1, z2⟩ := Bool.and_eq_true_iff.mp hc
  have ph := of_decide_eq_true z1
  have hf := of_decide_eq_true z2
  have w256 : w < 256 := by omega
  have k0 : K m e t n 2 I M I M := ⟨⟨h1, wv, h3, h4⟩, h5 (by rw [ph]; decide), by rw [ph]; rfl, FI.rf, FM.rf⟩
  have e5 : f_X8_setOf 5 M = some (bs (fl m (M 1) 5)) := e_setOf w1 (by decide) wv.2.1
  have eo : bs (fl m (M 1) 5) &&& (nI w ^^^ (-1)) = bs (oth m (M 1) w) := by rw [nbs w256, bs_andn]; rfl
  have c8 := cnt8_le (oth m (M 1) w)
  have hb8 : b * cnt8 (oth m (M 1) w) ≤ 4 * 8 := Nat.mul_le_mul y2 c8
  rw [if_neg (show ¬ b2 true = 0 by decide), if_neg (show ¬ b2 true = 0 by decide), lb_e, k0.2.1.1, eo, lb_e, bitCount_bs, ob1_s, pk_mul, lb_e, e5, ob1_s, eo, lb_e, e_countOf, ob1_s, pk_mul, lb_e]
  by_cases hA : b * cnt8 (oth m (M 1) w) ≤ 12
  case neg =>
    rw [if_neg (show ¬ nI (b * cnt8 (oth m (M 1) w)) ≤ (12 : Int32) from nI_ge (a := 12) (by omega) (by omega)), if_neg (show ¬ nI (b * cnt8 (oth m (M 1) w)) ≤ (12 : Int32) from nI_ge (a := 12) (by omega) (by omega))]
    exact Sm.same h _
  have hle : nI (b * cnt8 (oth m (M 1) w)) ≤ (12 : Int32) := nI_le (b := 12) hA (by decide)
  rw [if_pos hle, if_pos hle]
  obtain ⟨I2, l, a, g1, g2, g3, g4, g5, g6⟩ := e_gather w256 k0
  obtain ⟨A, hAe⟩ : ∃ A, A = b * cnt8 (oth m (M 1) w) := ⟨_, rfl⟩
  rw [← hAe] at hA ⊢
  have e2A : 2 ^ A ≤ 4096 := Nat.pow_le_pow_right (n := 2) (i := A) (j := 12) (by decide) hA
  have eA : ishl 1 (nI A) = nI (2 ^ A) := by rw [lit_nI 1, ishl_nI (by omega) (by omega), Nat.one_mul]
  obtain ⟨I3, hI3⟩ : ∃ I3, I3 = ur I2 151 (va_cpy (I2 2) (I2 151) 0 0 8) := ⟨_, rfl⟩
  have r3 : ∀ o, o ≠ 151 → I3 o = I2 o := fun o ho => by funext k; rw [hI3, ur_ap, if_neg ho]
  have k3 := g2.irow (I' := I3) (fun o ho => r3 o (by omega)) (fun o x y => by rw [r3 o (by omega)]; exact g2.2.2.2.1 o x y)
  have hG3 : GA I3 l a (an (lsc m t (M 1) w) 256 0) := ⟨by rw [r3 _ (by decide)]; exact g3.1, g3.2.1, fun k hk => by rw [r3 _ (by decide)]; exact g3.2.2.1 k hk, by rw [r3 _ (by decide)]; exact g3.2.2.2⟩
  obtain ⟨r, I', M', p1, p2, p3⟩ := e_bias_l (v := M 1) (l := l) (a := a) w256 y1 y2 hf g5 hA (2 ^ A) 0 10000 10000 0 I3 M (by omega) (by omega) (by omega) k3 rfl hG3 (fun p hp => Or.inl (by
    rw [hI3, ur_ap, if_pos rfl, pk_cpy_in (Nat.zero_le _) (by omega), Nat.sub_zero, Nat.zero_add]
    exact g2.sec p hp (by omega)))
  have q1 : f_X1_countForced (bs (oth m (M 1) w)) (nI b) I2 = some (r, I') := by
    rw [f_X1_countForced, ← hI3, lb_e, bitCount_bs, ob1_s, pk_mul, ← hAe, eA, lb_e, lit_nI 0]
    exact p1
  have q2 : f_X8_bias_l67 10000 (nI w) (nI b) (bs (oth m (M 1) w)) (nI A) 0 0 M = some (r, M') := by
    rw [lit_nI 0]; exact p2
  rw [g1, ob1_s, q1, ob2_s, q2]
  exact ⟨r, I', M', rfl, rfl, p3.RR h⟩
