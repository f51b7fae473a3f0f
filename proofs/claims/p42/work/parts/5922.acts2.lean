/-! changed shares, complaints, openings -/
theorem RP.dl {m t p : Nat} {L L' : St} {v v' : Nat → Int32} (h : RP m t L v) (hm : m ≤ 8) (ht : t ≤ 8) (h0 : ∀ k, 10 ≤ k → k ≤ 13 → L' 0 k = L 0 k) (v0 : v' 0 = v 0) (v5 : v' 5 = v 5) (hv : ∀ q w, q < 8 → 5 ≤ w → w ≤ 8 → v' (20 + 40 * q + w) = v (20 + 40 * q + w)) (hD : ∀ q, q < 8 → q ≠ p → L' (5 + q) 9 = L (5 + q) 9 ∧ (∀ k, k < 8 → L' (5 + q + 16) k = L (5 + q + 16) k) ∧ (∀ w, 14 ≤ w → w < 30 → v' (20 + 40 * q + w) = v (20 + 40 * q + w))) (hDL : DL t L' v' p) : RP m t L' v' := by
  obtain ⟨r1, r2, r3, r4, r5, r6, r7⟩ := h
  have f : ∀ w, 5 ≤ w → w ≤ 8 → ∀ q, fl m v' w q = fl m v w q := fun w a b q => fl.cg fun z => hv q w (by omega) a b
  have f5 := f 5 (by decide) (by decide)
  have f6 := f 6 (by decide) (by decide)
  have f7 := f 7 (by decide) (by decide)
  have f8 := f 8 (by decide) (by decide)
  refine ⟨?_, ?_, ?_, ?_, ?_, ?_, ?_⟩
  · rw [h0 10 (by decide) (by decide), r1]; exact bs_congr fun q _ => (f5 q).symm
  · rw [h0 11 (by decide) (by decide), r2]; exact bs_congr fun q _ => by rw [f5, f6]
  · rw [h0 12 (by decide) (by decide), r3]; exact bs_congr fun q _ => by rw [f5, f7]
  · rw [h0 13 (by decide) (by decide), r4]; exact bs_congr fun q _ => (f8 q).symm
  · rw [v0]; intro z q hq; rw [f7]; exact r5 z q hq
  · rw [v0]; intro z q hq; rw [f5, f6]; exact r6 z q hq
  · rw [v5]
    intro z q hq a b
    by_cases e : q = p
    · subst e; exact hDL
    · obtain ⟨d1, d2, d3⟩ := hD q hq e
      rw [f5] at a
      rw [f6] at b
      exact (r7 z q hq a b).cg ht d1 d2 d3
theorem e_shareOf' {M : St} {p j : Nat} (hp : p < 8) (hj : j < 8) : f_X8_shareOf (nI p) (nI j) M = some (M 1 (20 + 40 * p + 22 + j)) := e_shareOf hp hj
theorem K.cheat {m e t n ph : Nat} {I0 M0 I M : St} (h : K m e t n ph I0 M0 I M) {p j b : Nat} (hp : p < m) (hj : j < 8) (hb : b < 1019) (c5 : M 1 5 = 1) (f5 : fl m (M 1) 5 p = true) (f6 : fl m (M 1) 6 p = true) : ∃ I' M', f_X5_changeShare (5 + p) (nI j) (nI b) (nI t) I = some I' ∧ f_X8_spoils (nI p) (nI j) (nI b) M = some M' ∧ K m e t n ph I0 M0 I' M' ∧ (∀ i, i ≠ 20 + 40 * p + 22 + j → M' 1 i = M 1 i) := by
  obtain ⟨lc, rp, hph, hI, hM⟩ := h
  have w1 := lc.2.1.1
  have w6 : t ≤ 8 := lc.2.1.2.2.2.2.2.1
  have hp8 : p < 8 := by omega
  obtain ⟨d1, d2, d3⟩ := rp.2.2.2.2.2.2 c5 p hp8 f5 f6
  obtain ⟨s, s1, s2⟩ := d2 j hj
  have cS : I (5 + p + 8) j = nI s := by rw [lc.1 _ _ _ (prSh p j hp8 hj), s2]
  obtain ⟨s', hs'⟩ : ∃ s', s' = (s + b) % 1019 := ⟨_, rfl⟩
  have sl : s' < 1019 := by rw [hs']; exact Nat.mod_lt _ (by decide)
  obtain ⟨v', hv'⟩ : ∃ v', v' = upd (M 1) (20 + 40 * p + 22 + j) (nI s') := ⟨_, rfl⟩
  have vo : ∀ i, i ≠ 20 + 40 * p + 22 + j → v' i = M 1 i := fun i hi => by rw [hv', upd_ap, if_neg hi]
  have co' : ∀ k, k < t → co v' p k = co (M 1) p k := fun k hk => by unfold co; rw [vo _ (by omega)]
  obtain ⟨H, hH⟩ : ∃ H, H = hq (co (M 1) p) (j + 1) t 0 := ⟨_, rfl⟩
  have Hl : H < 1019 := by rw [hH]; exact hq_lt t 0 (by decide)
  have gj : gd t v' p j = decide (s' = H) := by
    unfold gd
    rw [hq_cg (c' := co (M 1) p) t 0 co', ← hH, show v' (20 + 40 * p + 22 + j) = nI s' from by rw [hv', upd_ap, if_pos rfl]]
    exact decide_eq_decide.mpr (nI_eq (by omega) (by omega))
  have go : ∀ q, q ≠ j → gd t v' p q = gd t (M 1) p q := fun q hq' => by
    unfold gd
    rw [hq_cg (c' := co (M 1) p) t 0 co', vo _ (by omega)]
  obtain ⟨I3, hI3⟩ : ∃ I3, I3 = u2 I (5 + p + 8) j (nI s') := ⟨_, rfl⟩
  obtain ⟨I6, hI6⟩ : ∃ I6, I6 = u2 I3 (5 + p) 9 (I3 (5 + p) 9 &&& (ishl 1 (nI j) ^^^ (-1))) := ⟨_, rfl⟩
  have i39 : I3 (5 + p) 9 = bs (gd t (M 1) p) := by rw [hI3, u2_off _ _ _ _ (by omega)]; exact d3
  have i69 : I6 (5 + p) 9 = bs (fun q => gd t (M 1) p q && !decide (q = j)) := by rw [hI6, u2_row, upd_ap, if_pos rfl, i39, bs_sub _ hj]
  have i6s : I6 (5 + p + 8) j = nI s' := by rw [hI6, u2_off _ _ _ _ (by omega), hI3, u2_row, upd_ap, if_pos rfl]
  have hcc : ∀ k, k < t → I6 (5 + p + 16) k = nI (4 ^ co (M 1) p k % 2039) := fun k hk => by
    obtain ⟨c, c1, c2, c3⟩ := d1 k hk
    rw [hI6, u2_off _ _ _ _ (by omega), hI3, u2_off _ _ _ _ (by omega), c3, show co (M 1) p k = c by unfold co; rw [c2, nI_clamp (by omega)]]
  have pw := e_proven (I := I6) (p := p) (j := j) (t := t) (c := co (M 1) p) hp8 hj w6 hcc
  rw [← hH] at pw
  have lm : ∀ k, k % 2039 < 2 ^ 31 := fun k => Nat.lt_trans (Nat.mod_lt k (by decide)) (by decide)
  have em : f_X8_spoils (nI p) (nI j) (nI b) M = some (u2 M 1 (20 + 40 * p + 22 + j) (nI s')) := by
    rw [f_X8_spoils, e_person, ob1_s, lit_nI 22, nI_add, lb_e, nI_add, lb_e, e_shareOf hp8 hj, ob1_s, s2, nI_add, lb_e, inb_nI (by omega) (by decide), ck_t, nI_clamp (n := 20 + 40 * p + 22 + j) (by omega), lit_nI 1019, irem_nI (by omega) (by decide) (by decide), lb_e, ← hs']
  obtain ⟨I', hI', h9, hoth⟩ : ∃ I', f_X5_changeShare (5 + p) (nI j) (nI b) (nI t) I = some I' ∧ I' (5 + p) 9 = bs (gd t v' p) ∧ ∃ y, (I' = u2 I6 (5 + p) 9 y) := by
    have ecl : f_X5_changeShare (5 + p) (nI j) (nI b) (nI t) I = (if nI (4 ^ s' % 2039) = nI (4 ^ H % 2039) then some (u2 I6 (5 + p) 9 (I6 (5 + p) 9 ||| ishl 1 (nI j))) else some I6) := by
      rw [f_X5_changeShare, isP_of hp8, ck_t, inb_nI hj (by decide), ck_t, nI_clamp (n := j) (by omega), cS, lb_e, nI_add, lb_e, ck_t, lit_nI 1019, irem_nI (by omega) (by decide) (by decide), ← hs', lb_e, ← hI3, lb_e, lb_e, ← hI6, lb_e, ck_t, i6s, lb_e, lit_nI 4, lit_nI 2039, e_power (by decide) (by omega) (by decide) (by decide), ob1_s, pw, ob1_s]
      rfl
    by_cases c : s' = H
    · refine ⟨_, ecl.trans (if_pos (by rw [c])), ?_, _, rfl⟩
      rw [u2_row, upd_ap, if_pos rfl, i69, bs_add _ hj]
      refine bs_congr fun q hq' => ?_
      by_cases e : q = j
      · rw [e, gj, decide_eq_true c]; simp
      · rw [go q e]; simp [e]
    · refine ⟨I6, ecl.trans (if_neg (fun q => c (g_inj sl Hl ((nI_eq (lm _) (lm _)).1 q)))), ?_, I6 (5 + p) 9, ?_⟩
      · rw [i69]
        refine bs_congr fun q hq' => ?_
        by_cases e : q = j
        · rw [e, gj, decide_eq_false c]; simp
        · rw [go q e]; simp [e]
      · funext o k
        rw [u2_ap]
        by_cases e : o = 5 + p
        · by_cases e2 : k = 9
          · rw [if_pos e, if_pos e2, e, e2]
          · rw [if_pos e, if_neg e2, e]
        · rw [if_neg e]
  obtain ⟨y, hy⟩ := hoth
  have rowI : ∀ o, o ≠ 5 + p → o ≠ 5 + p + 8 → I' o = I o := fun o a b => by rw [hy, u2_off _ _ _ _ a, hI6, u2_off _ _ _ _ a, hI3, u2_off _ _ _ _ b]
  refine ⟨I', u2 M 1 (20 + 40 * p + 22 + j) (nI s'), hI', em, ⟨?_, ?_, ?_, ?_, hM.u1⟩, fun i hi => by rw [u2_row, upd_ap, if_neg hi]⟩
  · rw [u2_row, hy, hI6, hI3]
    exact ((lc.st (prSh p j hp8 hj) (by omega) (nI s')).cls (pr9 p hp8) (by omega) _).cls (pr9 p hp8) (by omega) _
  · rw [u2_row, ← hv']
    refine rp.dl (p := p) w1 w6 (fun k _ _ => by rw [rowI 0 (by omega) (by omega)]) (vo 0 (by omega)) (vo 5 (by omega)) (fun q w' _ _ _ => vo _ (by omega)) (fun q hq' hne => ⟨by rw [rowI _ (by omega) (by omega)], fun k _ => by rw [rowI _ (by omega) (by omega)], fun w' _ _ => vo _ (by omega)⟩) ⟨fun k hk => ?_, fun q hq' => ?_, h9⟩
    · obtain ⟨c, c1, c2, c3⟩ := d1 k hk
      exact ⟨c, c1, by rw [vo _ (by omega)]; exact c2, by rw [rowI _ (by omega) (by omega)]; exact c3⟩
    · by_cases e : q = j
      · exact ⟨s', sl, by rw [e, hv', upd_ap, if_pos rfl]⟩
      · obtain ⟨z, z1, z2⟩ := d2 q hq'
        exact ⟨z, z1, by rw [vo _ (by omega)]; exact z2⟩
  · rw [u2_row, upd_ap, if_neg (by omega)]; exact hph
  · rw [hy, hI6, hI3]
    exact ((hI.u2 (Or.inl (by omega))).u2 (Or.inl (by omega))).u2 (Or.inl (by omega))
theorem s_spoil {n : Nat} {I M : St} (h : RR n I M) (x y z : Int32) : Sm n (f_X7_spoil x y z I) (f_X8_spoil x y z M) := by
  obtain ⟨m, e, t, h1, w, h3, h4, h5⟩ := id h.1
  have w1 := w.1
  have w2 := w.2.1
  have hc : I 0 3 = nI m := by rw [h1 0 3 4 rfl, w2]
  rw [f_X7_spoil, f_X8_spoil, e_isPart w1 hc x, ob1_s, e_isPerson w1 w2 x, ob1_s]
  cases hp : pers m x
  · rw [if_pos (show b2 false = 0 from rfl), if_pos (show b2 false = 0 from rfl)]
    exact Sm.same h _
  obtain ⟨p, hpm, rfl⟩ := pers_ex (by omega) hp
  rw [if_neg (show ¬ b2 true = 0 by decide), if_neg (show ¬ b2 true = 0 by decide), e_isPart w1 hc y, ob1_s, e_isPerson w1 w2 y, ob1_s]
  cases hq : pers m y
  · rw [if_pos (show b2 false = 0 from rfl), if_pos (show b2 false = 0 from rfl)]
    exact Sm.same h _
  obtain ⟨j, hjm, rfl⟩ := pers_ex (by omega) hq
  rw [if_neg (show ¬ b2 true = 0 by decide), if_neg (show ¬ b2 true = 0 by decide), e_isWithin z, ob1_s, e_in z, ob1_s]
  by_cases hw : wi z 1 1018 = true
  case neg =>
    rw [Bool.eq_false_iff.mpr hw, if_pos (show b2 false = 0 from rfl), if_pos (show b2 false = 0 from rfl)]
    exact Sm.same h _
  obtain ⟨b, s1, s2, rfl⟩ := wi_ex (a := 1) (b := 1018) (by decide) (by decide) hw
  rw [hw, if_neg (show ¬ b2 true = 0 by decide), if_neg (show ¬ b2 true = 0 by decide), e_cShare (h1 0 9 0 rfl) (h1 0 5 5 rfl) h5 (by omega) (by omega), ob1_s, e_mShare w1 w2 hpm hjm, ob1_s]
  cases hs : (shB m (M 1) p && fl m (M 1) 5 j)
  · rw [if_pos (show b2 false = 0 from rfl), if_pos (show b2 false = 0 from rfl)]
    exact Sm.same h _
  obtain ⟨hs1, hs2⟩ := Bool.and_eq_true_iff.mp hs
  simp only [shB, Bool.and_eq_true, decide_eq_true_eq] at hs1
  obtain ⟨c5, c0, f5, f6⟩ := hs1
  have rp := h5 c0
  obtain ⟨ph, hph⟩ : ∃ ph, M 1 0 = nI ph := by
    rcases w.2.2.2.2.2.2.2.1 with q | q | q
    · exact ⟨0, q⟩
    · exact ⟨1, q⟩
    · exact ⟨2, q⟩
  obtain ⟨I1, M1, a1, a2, a3, k1, a5, a4⟩ := rem_K h ⟨h1, w, h3, h4⟩ rp hph
  obtain ⟨I', M', g1, g2, g3, -⟩ := k1.cheat (p := p) (j := j) (b := b) hpm (by omega) (by omega) (by rw [a5]; exact c5) (by rw [a5]; exact f5) (by rw [a5]; exact f6)
  have e6 : I1 0 6 = nI t := by rw [k1.1.1 0 6 6 rfl, a5]; exact w.2.2.2.2.2.2.1
  rw [if_neg (show ¬ b2 true = 0 by decide), if_neg (show ¬ b2 true = 0 by decide), a1, ob1_s, inb_nI (by omega) (by decide), ck_t, nI_clamp (n := p) (by omega), e6, g1, ob1_s, ck_t, inb_nI (by omega) (by decide), ck_t, nI_clamp (n := j) (by omega), a2, ob1_s, g2, ob1_s, e_shareOf (by omega) (by omega), ob1_s]
  exact ⟨_, I', M', rfl, by rw [g3.1.1 _ _ _ (prSh p j (by omega) (by omega))], g3.RR a3⟩
/-! expelled -/
theorem RP.exp {m t p : Nat} {L L' : St} {v v' : Nat → Int32} (h : RP m t L v) (hm : m ≤ 8) (ht : t ≤ 8) (hp : p < m) (ph : v 0 = 1) (h10 : L' 0 10 = L 0 10 &&& (ishl 1 (nI p) ^^^ (-1))) (h11 : L' 0 11 = L 0 11 &&& (ishl 1 (nI p) ^^^ (-1))) (h12 : L' 0 12 = L 0 12) (h13 : L' 0 13 = L 0 13 ||| ishl 1 (nI p)) (v0 : v' 0 = v 0) (v5 : v' 5 = v 5) (hv : ∀ q w, q < 8 → 5 ≤ w → w ≤ 8 → ¬ (q = p ∧ (w = 5 ∨ w = 8)) → v' (20 + 40 * q + w) = v (20 + 40 * q + w)) (f5' : v' (20 + 40 * p + 5) = 0) (f8' : v' (20 + 40 * p + 8) = 1) (hD : ∀ q, q < 8 → L' (5 + q) 9 = L (5 + q) 9 ∧ (∀ k, k < 8 → L' (5 + q + 16) k = L (5 + q + 16) k) ∧ (∀ w, 14 ≤ w → w < 30 → v' (20 + 40 * q + w) = v (20 + 40 * q + w))) : RP m t L' v' := by
  obtain ⟨r1, r2, r3, r4, r5, r6, r7⟩ := h
  have f6 : ∀ q, fl m v' 6 q = fl m v 6 q := fun q => fl.cg fun z => hv q 6 (by omega) (by omega) (by omega) (by omega)
  have f7 : ∀ q, fl m v' 7 q = fl m v 7 q := fun q => fl.cg fun z => hv q 7 (by omega) (by omega) (by omega) (by omega)
  have f8 : ∀ q, fl m v' 8 q = (fl m v 8 q || decide (q = p)) := fun q => by
    by_cases e : q = p
    · subst e
      unfold fl
      rw [f8']; simp [hp]
    · rw [fl.cg fun z => hv q 8 (by omega) (by omega) (by omega) (by omega)]
      simp [e]
  have f5 : ∀ q, fl m v' 5 q = (fl m v 5 q && !decide (q = p)) := fun q => by
    by_cases e : q = p
    · subst e
      unfold fl
      rw [f5']; simp
    · rw [fl.cg fun z => hv q 5 (by omega) (by omega) (by omega) (by omega)]
      simp [e]
  refine ⟨?_, ?_, ?_, ?_, ?_, ?_, ?_⟩
  · rw [h10, r1, bs_sub _ (by omega)]; exact bs_congr fun q _ => (f5 q).symm
  · rw [h11, r2, bs_sub _ (by omega)]
    refine bs_congr fun q _ => ?_
    rw [f5, f6]
    cases fl m v 5 q <;> cases fl m v 6 q <;> simp
  · rw [h12, r3]
    refine bs_congr fun q hq => ?_
    rw [f7, r5 ph q hq]; simp
  · rw [h13, r4, bs_add _ (by omega)]; exact bs_congr fun q _ => (f8 q).symm
  · rw [v0]; intro z q hq; rw [f7]; exact r5 z q hq
  · rw [v0, ph]; intro z
    exact absurd z (by decide)
  · rw [v5]
    intro z q hq a b
    obtain ⟨d1, d2, d3⟩ := hD q hq
    rw [f5] at a
    rw [f6] at b
    exact (r7 z q hq (Bool.and_eq_true_iff.mp a).1 b).cg ht d1 d2 d3
theorem K.expel {m e t n : Nat} {I0 M0 I M : St} (h : K m e t n 1 I0 M0 I M) {p j : Nat} (hp : p < m) (hj : j < 8) (c5 : M 1 5 = 1) (f5 : fl m (M 1) 5 p = true) (f6 : fl m (M 1) 6 p = true) (hg : gd t (M 1) p j = false) : ∃ I' M', f_X4_expel (nI p) I = some I' ∧ f_X8_complains (nI j) (nI p) M = some (1, M') ∧ K m e t n 1 I0 M0 I' M' ∧ M' 1 5 = 1 := by
  have w1 := h.1.2.1.1
  have w5 : 1 ≤ t := h.1.2.1.2.2.2.2.1
  have w6 : t ≤ 8 := h.1.2.1.2.2.2.2.2.1
  have w7 : M 1 6 = nI t := h.1.2.1.2.2.2.2.2.2.1
  have hp8 : p < 8 := by omega
  have hd := h.2.1.2.2.2.2.2.2 c5 p hp8 f5 f6
  obtain ⟨I1, M1, a1, a2, k1, a4, a5⟩ := h.pay hp8
  obtain ⟨lc, rp, hph, hI, hM⟩ := k1
  have x3 : I1 (5 + p) 4 = M1 1 (20 + 40 * p + 3) := lc.1 _ _ _ (prP p hp8).2.2.2.2.1
  obtain ⟨X, hX⟩ : ∃ X, X = M1 1 (20 + 40 * p + 3) + 1 := ⟨_, rfl⟩
  obtain ⟨I2, hI2⟩ : ∃ I2, I2 = u2 I1 (5 + p) 4 X := ⟨_, rfl⟩
  have z0 : I2 0 = I1 0 := by rw [hI2, u2_off _ _ _ _ (by omega)]
  refine ⟨u2 (u2 (u2 I2 0 13 (I1 0 13 ||| ishl 1 (nI p))) 0 10 (I1 0 10 &&& (ishl 1 (nI p) ^^^ (-1)))) 0 11 (I1 0 11 &&& (ishl 1 (nI p) ^^^ (-1))), u2 (u2 (u2 M1 1 (20 + 40 * p + 5) 0) 1 (20 + 40 * p + 8) 1) 1 (20 + 40 * p + 3) X, ?_, ?_, ⟨?_, ?_, ?_, ?_, hM.u1.u1.u1⟩, ?_⟩
  · rw [f_X4_expel, a1, ob1_s, inb_nI hp8 (by decide), ck_t, nI_clamp (n := p) (by omega), lb_e, x3, ← hX, lb_e, ← hI2, lb_e, z0, lb_e, lb_e, lb_e, lb_e, lb_e, lb_e]
    rw [show u2 I2 0 13 (I1 0 13 ||| ishl 1 (nI p)) 0 10 = I1 0 10 from by rw [u2_row, upd_ap, if_neg (by decide), z0], show ∀ y, u2 (u2 I2 0 13 (I1 0 13 ||| ishl 1 (nI p))) 0 10 y 0 11 = I1 0 11 from fun y => by rw [u2_row, upd_ap, if_neg (by decide), u2_row, upd_ap, if_neg (by decide), z0], lb_e]
  · have e3 : u2 (u2 M1 1 (20 + 40 * p + 5) 0) 1 (20 + 40 * p + 8) 1 1 (20 + 40 * p + 3) = M1 1 (20 + 40 * p + 3) := by rw [u2_row, upd_ap, if_neg (by omega), u2_row, upd_ap, if_neg (by omega)]
    rw [f_X8_complains, e_isGood hp8 hj w5 w6 w7 hd.co, ob1_s, hg, if_pos (show b2 false = 0 from rfl), a2, ob1_s, e_person, ob1_s, lit_nI 5, nI_add, lb_e, inb_nI (by omega) (by decide), ck_t, nI_clamp (n := 20 + 40 * p + 5) (by omega), lb_e, ob1_s, lit_nI 8, nI_add, lb_e, inb_nI (by omega) (by decide), ck_t, nI_clamp (n := 20 + 40 * p + 8) (by omega), lb_e, ob1_s, lit_nI 3, nI_add, lb_e, inb_nI (by omega) (by decide), ck_t, nI_clamp (n := 20 + 40 * p + 3) (by omega), e3, lb_e, ck_t, ← hX, lb_e]
  · simp only [u2_row]
    rw [hI2]
    have l0 := ((((lc.mod (i := 20 + 40 * p + 5) (ip_mk _ (by omega) (by omega) (by omega) (by omega)) (by omega) 0).mod (i := 20 + 40 * p + 8) (ip_mk _ (by omega) (by omega) (by omega) (by omega)) (by omega) 1).st (prP p hp8).2.2.2.2.1 (by omega) X))
    exact ((l0.cls (j := 0) (k := 13) (by decide) (by decide) _).cls (j := 0) (k := 10) (by decide) (by decide) _).cls (j := 0) (k := 11) (by decide) (by decide) _
  · simp only [u2_row]
    refine rp.exp (p := p) w1 w6 hp (by rw [hph]; rfl) rfl ?_ ?_ rfl ?_ ?_ (fun q w' _ _ _ z => ?_) ?_ ?_ (fun q hq => ⟨?_, fun k hk => ?_, fun w' _ _ => ?_⟩)
    · rw [u2_row, upd_ap, if_pos rfl]
    · rw [u2_row, upd_ap, if_neg (by decide), u2_row, upd_ap, if_neg (by decide), u2_row, upd_ap, if_neg (by decide), z0]
    · rw [upd_ap, if_neg (by omega), upd_ap, if_neg (by omega), upd_ap, if_neg (by omega)]
    · rw [upd_ap, if_neg (by omega), upd_ap, if_neg (by omega), upd_ap, if_neg (by omega)]
    · rw [upd_ap, if_neg (by omega), upd_ap, if_neg (by omega), upd_ap, if_neg (by omega)]
    · rw [upd_ap, if_neg (by omega), upd_ap, if_neg (by omega), upd_ap, if_pos rfl]
    · rw [upd_ap, if_neg (by omega), upd_ap, if_pos rfl]
    · rw [u2_off _ _ _ _ (by omega), u2_off _ _ _ _ (by omega), u2_off _ _ _ _ (by omega), hI2, u2_ap]
      by_cases e : 5 + q = 5 + p
      · rw [if_pos e, if_neg (by decide), e]
      · rw [if_neg e]
    · rw [u2_off _ _ _ _ (by omega), u2_off _ _ _ _ (by omega), u2_off _ _ _ _ (by omega), hI2, u2_off _ _ _ _ (by omega)]
    · rw [upd_ap, if_neg (by omega), upd_ap, if_neg (by omega), upd_ap, if_neg (by omega)]
  · simp only [u2_row]
    rw [upd_ap, if_neg (by omega), upd_ap, if_neg (by omega), upd_ap, if_neg (by omega)]; exact hph
  · rw [hI2]
    exact (((hI.u2 (Or.inl (by omega))).u2 (Or.inl (by decide))).u2 (Or.inl (by decide))).u2 (Or.inl (by decide))
  · simp only [u2_row]
    rw [upd_ap, if_neg (by omega), upd_ap, if_neg (by omega), upd_ap, if_neg (by omega), a4 5 (by omega) (by omega)]; exact c5
theorem s_complain {n : Nat} {I M : St} (h : RR n I M) (x y : Int32) : Sm n (f_X7_complain x y I) (f_X8_complain x y M) := by
  obtain ⟨m, e, t, h1, w, h3, h4, h5⟩ := id h.1
  have w1 := w.1
  have w2 := w.2.1
  have hc : I 0 3 = nI m := by rw [h1 0 3 4 rfl, w2]
  rw [f_X7_complain, f_X8_complain, e_isPart w1 hc x, ob1_s, e_isPerson w1 w2 x, ob1_s]
  cases hp : pers m x
  · rw [if_pos (show b2 false = 0 from rfl), if_pos (show b2 false = 0 from rfl)]
    exact Sm.same h _
  obtain ⟨j, hjm, rfl⟩ := pers_ex (by omega) hp
  rw [if_neg (show ¬ b2 true = 0 by decide), if_neg (show ¬ b2 true = 0 by decide), e_isPart w1 hc y, ob1_s, e_isPerson w1 w2 y, ob1_s]
  cases hq : pers m y
  · rw [if_pos (show b2 false = 0 from rfl), if_pos (show b2 false = 0 from rfl)]
    exact Sm.same h _
  obtain ⟨p, hpm, rfl⟩ := pers_ex (by omega) hq
  rw [if_neg (show ¬ b2 true = 0 by decide), if_neg (show ¬ b2 true = 0 by decide)]
  by_cases hne : nI j = nI p
  · rw [if_pos hne, if_pos hne]
    exact Sm.same h _
  rw [if_neg hne, if_neg hne, lb_e (I 0 9), ib_0, ck_t, cl_0, lb_e (M 1 0), h1 0 9 0 rfl]
  by_cases c1 : M 1 0 = 1
  case neg =>
    rw [if_neg c1, if_neg c1]
    exact Sm.same h _
  rw [if_pos c1, if_pos c1, e_cShare (h1 0 9 0 rfl) (h1 0 5 5 rfl) h5 (by omega) (by omega), ob1_s, e_mShare w1 w2 hpm hjm, ob1_s]
  cases hs : (shB m (M 1) p && fl m (M 1) 5 j)
  · rw [if_pos (show b2 false = 0 from rfl), if_pos (show b2 false = 0 from rfl)]
    exact Sm.same h _
  obtain ⟨hs1, hs2⟩ := Bool.and_eq_true_iff.mp hs
  simp only [shB, Bool.and_eq_true, decide_eq_true_eq] at hs1
  obtain ⟨c5, c0, f5, f6⟩ := hs1
  have rp := h5 c0
  obtain ⟨I1, M1, a1, a2, a3, k1, a5, a4⟩ := rem_K (ph := 1) h ⟨h1, w, h3, h4⟩ rp c1
  have hd := k1.2.1.2.2.2.2.2.2 (by rw [a5]; exact c5) p (by omega) (by rw [a5]; exact f5) (by rw [a5]; exact f6)
  rw [if_neg (show ¬ b2 true = 0 by decide), if_neg (show ¬ b2 true = 0 by decide), a1, ob1_s, inb_nI (by omega) (by decide), ck_t, nI_clamp (n := p) (by omega), lb_e, hd.2.2, e_has _ (by omega), ob1_s, a2, ob1_s]
  cases hg : gd t (M1 1) p j
  · obtain ⟨I', M', g1, g2, g3, -⟩ := k1.expel (p := p) (j := j) hpm (by omega) (by rw [a5]; exact c5) (by rw [a5]; exact f5) (by rw [a5]; exact f6) hg
    rw [if_pos (show b2 false = 0 from rfl), g1, ob1_s, g2, ob2_s]
    exact ⟨_, I', M', rfl, rfl, g3.RR a3⟩
  · obtain ⟨I', M', g1, g2, g3, -⟩ := k1.pay (p := j) (by omega)
    rw [if_neg (show ¬ b2 true = 0 by decide), g1, ob1_s, f_X8_complains, e_isGood (by omega) (by omega) w.2.2.2.2.1 w.2.2.2.2.2.1 (by rw [a5]; exact w.2.2.2.2.2.2.1) hd.co, ob1_s, hg, if_neg (show ¬ b2 true = 0 by decide), g2, ob1_s, ob2_s]
    exact ⟨_, I', M', rfl, rfl, g3.RR a3⟩
/-! an opening -/
theorem RP.opn {m t p : Nat} {L L' : St} {v v' : Nat → Int32} (h : RP m t L v) (hp : p < m) (hm : m ≤ 8) (ht : t ≤ 8) (ph : v 0 = 2) (f5 : fl m v 5 p = true) {b : Bool} (h0 : ∀ k, 10 ≤ k → k ≤ 13 → k ≠ 12 → L' 0 k = L 0 k) (h12 : L' 0 12 = bs (fun q => if q = p then b else fl m v 5 q && fl m v 7 q)) (v0 : v' 0 = v 0) (v5 : v' 5 = v 5) (hv : ∀ q w, q < 8 → 5 ≤ w → w ≤ 8 → ¬ (q = p ∧ w = 7) → v' (20 + 40 * q + w) = v (20 + 40 * q + w)) (h7 : v' (20 + 40 * p + 7) = if b = true then 1 else 0) (hD : ∀ q, q < 8 → L' (5 + q) 9 = L (5 + q) 9 ∧ (∀ k, k < 8 → L' (5 + q + 16) k = L (5 + q + 16) k) ∧ (∀ w, 14 ≤ w → w < 30 → v' (20 + 40 * q + w) = v (20 + 40 * q + w))) : RP m t L' v' := by
  obtain ⟨r1, r2, r3, r4, r5, r6, r7⟩ := h
  have e5 : ∀ q, fl m v' 5 q = fl m v 5 q := fun q => fl.cg fun z => hv q 5 (by omega) (by omega) (by omega) (by omega)
  have e6 : ∀ q, fl m v' 6 q = fl m v 6 q := fun q => fl.cg fun z => hv q 6 (by omega) (by omega) (by omega) (by omega)
  have e8 : ∀ q, fl m v' 8 q = fl m v 8 q := fun q => fl.cg fun z => hv q 8 (by omega) (by omega) (by omega) (by omega)
  have e7 : ∀ q, fl m v' 7 q = if q = p then b else fl m v 7 q := fun q => by
    by_cases e : q = p
    · subst e
      rw [if_pos rfl]
      unfold fl
      rw [h7]
      cases b <;> simp [hp]
    · rw [if_neg e]
      exact fl.cg fun z => hv q 7 (by omega) (by omega) (by omega) (by omega)
  refine ⟨?_, ?_, ?_, ?_, ?_, ?_, ?_⟩
  · rw [h0 10 (by decide) (by decide) (by decide), r1]; exact bs_congr fun q _ => (e5 q).symm
  · rw [h0 11 (by decide) (by decide) (by decide), r2]; exact bs_congr fun q _ => by rw [e5, e6]
  · rw [h12]
    refine bs_congr fun q _ => ?_
    rw [e5, e7]
    by_cases e : q = p
    · subst e; simp [f5]
    · simp [e]
  · rw [h0 13 (by decide) (by decide) (by decide), r4]; exact bs_congr fun q _ => (e8 q).symm
  · rw [v0, ph]; intro z; exact absurd z (by decide)
  · rw [v0]; intro z q hq; rw [e5, e6]; exact r6 z q hq
  · rw [v5]
    intro z q hq a b
    obtain ⟨d1, d2, d3⟩ := hD q hq
    rw [e5] at a
    rw [e6] at b
    exact (r7 z q hq a b).cg ht d1 d2 d3
/-- p's opening is marked, or its absence -/
theorem K.mark {m e t n : Nat} {I0 M0 I M : St} (h : K m e t n 2 I0 M0 I M) {p : Nat} (hp : p < m) (f5 : fl m (M 1) 5 p = true) (b : Bool) {I' : St} (hI' : I' = u2 I 0 12 (bs (fun q => if q = p then b else fl m (M 1) 5 q && fl m (M 1) 7 q))) : K m e t n 2 I0 M0 I' (u2 M 1 (20 + 40 * p + 7) (if b = true then 1 else 0)) := by
  obtain ⟨lc, rp, hph, hI, hM⟩ := h
  have w1 := lc.2.1.1
  have w6 : t ≤ 8 := lc.2.1.2.2.2.2.2.1
  subst hI'
  refine ⟨?_, ?_, ?_, hI.u2 (Or.inl (by decide)), hM.u1⟩
  · rw [u2_row]
    exact (lc.mod (i := 20 + 40 * p + 7) (ip_mk _ (by omega) (by omega) (by omega) (by omega)) (by omega) _).cls (j := 0) (k := 12) (by decide) (by decide) _
  · rw [u2_row]
    refine rp.opn (p := p) (b := b) hp w1 w6 (by rw [hph]; rfl) f5 (fun k _ _ c => ?_) rfl ?_ ?_ (fun q w' _ _ _ z => ?_) ?_ (fun q _ => ⟨?_, fun k _ => ?_, fun w' _ _ => ?_⟩)
    · rw [u2_row, upd_ap, if_neg c]
    · rw [upd_ap, if_neg (by omega)]
    · rw [upd_ap, if_neg (by omega)]
    · rw [upd_ap, if_neg (by omega)]
    · rw [upd_ap, if_pos rfl]
    · rw [u2_off _ _ _ _ (by omega)]
    · rw [u2_off _ _ _ _ (by omega)]
    · rw [upd_ap, if_neg (by omega)]
  · rw [u2_row, upd_ap, if_neg (by omega)]; exact hph
theorem u2_self (I : St) (o k : Nat) {x : Int32} (h : I o k = x) : u2 I o k x = I := by
  funext o' k'
  rw [u2_ap]
  by_cases e : o' = o
  · by_cases e2 : k' = k
    · rw [if_pos e, if_pos e2, e, e2, h]
    · rw [if_pos e, if_neg e2, e]
  · rw [if_neg e]
theorem s_open {n : Nat} {I M : St} (h : RR n I M) (x y z : Int32) : Sm n (f_X7_open x y z I) (f_X8_open x y z M) := by
  obtain ⟨m, e, t, h1, w, h3, h4, h5⟩ := id h.1
  have w1 := w.1
  have w2 := w.2.1
  have hc : I 0 3 = nI m := by rw [h1 0 3 4 rfl, w2]
  rw [f_X7_open, f_X8_open, e_isPart w1 hc x, ob1_s, e_isPerson w1 w2 x, ob1_s]
  cases hp : pers m x
  · rw [if_pos (show b2 false = 0 from rfl), if_pos (show b2 false = 0 from rfl)]
    exact Sm.same h _
  obtain ⟨p, hpm, rfl⟩ := pers_ex (by omega) hp
  rw [if_neg (show ¬ b2 true = 0 by decide), if_neg (show ¬ b2 true = 0 by decide), lb_e (I 0 9), ib_0, ck_t, cl_0, lb_e (M 1 0), h1 0 9 0 rfl]
  by_cases c1 : M 1 0 = 2
  case neg =>
    rw [if_neg c1, if_neg c1]
    exact Sm.same h _
  have rp := h5 (by rw [c1]; decide)
  rw [if_pos c1, if_pos c1, lb_e (I 0 10), rp.1, e_has _ (by omega), ob1_s, lit_nI 5, e_mhas (by omega) (by decide), fl_mem hpm, ob1_s]
  cases f5 : fl m (M 1) 5 p
  · rw [if_pos (show b2 false = 0 from rfl), if_pos (show b2 false = 0 from rfl)]
    exact Sm.same h _
  rw [if_neg (show ¬ b2 true = 0 by decide), if_neg (show ¬ b2 true = 0 by decide), lb_e (I 0 12), rp.2.2.1, e_has _ (by omega), ob1_s, f5, Bool.true_and, lit_nI 7, e_mhas (by omega) (by decide), fl_mem hpm, ob1_s]
  cases f7 : fl m (M 1) 7 p
  case true =>
    rw [if_neg (show ¬ b2 true = 0 by decide), if_neg (show ¬ b2 true = 0 by decide)]
    exact Sm.same h _
  obtain ⟨I1, M1, a1, a2, a3, k1, a5, a4⟩ := rem_K (ph := 2) h ⟨h1, w, h3, h4⟩ rp c1
  have q9 : I1 2 p = M1 1 (20 + 40 * p + 9) := k1.1.1 _ _ _ (prP p (by omega)).2.2.2.2.2.2.2.2.2.2
  have q10 : I1 (5 + p) 5 = M1 1 (20 + 40 * p + 10) := k1.1.1 _ _ _ (prP p (by omega)).2.2.2.2.2.1
  have r12 := k1.2.1.2.2.1
  have i7 : inb (nI (20 + 40 * p + 7)) 420 = true := inb_nI (by omega) (by decide)
  rw [if_pos (show b2 false = 0 from rfl), if_pos (show b2 false = 0 from rfl), a1, ob1_s, inb_nI (by omega) (by decide), ck_t, nI_clamp (n := p) (by omega), q9, lb_e (M1 1 (20 + 40 * p + 9)), ck_t, q10, a2, ob1_s, e_person, ob1_s, lit_nI 9, nI_add, lb_e (nI (20 + 40 * p + 9)), inb_nI (by omega) (by decide), ck_t, nI_clamp (n := 20 + 40 * p + 9) (by omega), lb_e (M1 1 (20 + 40 * p + 9)), ob1_s, lit_nI 10, nI_add, lb_e (nI (20 + 40 * p + 10)), inb_nI (by omega) (by decide), ck_t, nI_clamp (n := 20 + 40 * p + 10) (by omega), lb_e (M1 1 (20 + 40 * p + 10)), lb_e (M1 1 (20 + 40 * p + 10))]
  have no : Sm n (f_X7_open_b95 I1) (f_X8_open_b82 (nI p) M1) := by
    rw [f_X7_open_b95, f_X8_open_b82, f_X8_open_b83, e_person, ob1_s, lit_nI 7, nI_add, lb_e, if_pos rfl, f_X8_open_b106, i7, ck_t, nI_clamp (n := 20 + 40 * p + 7) (by omega), lb_e, if_pos rfl, f_X8_open_b117]
    have k2 := k1.mark hpm (by rw [a5]; exact f5) false (I' := I1) (by
      refine (u2_self I1 0 12 ?_).symm
      rw [r12]
      refine bs_congr fun q _ => ?_
      by_cases e : q = p
      · rw [e, if_pos rfl, a5, f7]; simp
      · rw [if_neg e])
    exact ⟨0, I1, _, rfl, rfl, k2.RR a3⟩
  by_cases g1 : M1 1 (20 + 40 * p + 9) = y
  case neg =>
    rw [if_neg g1, if_neg g1]
    exact no
  rw [if_pos g1, if_pos g1]
  by_cases g2 : M1 1 (20 + 40 * p + 10) = z
  case neg =>
    rw [if_neg g2, if_neg g2]
    exact no
  rw [if_pos g2, if_pos g2, lb_e, r12, bs_add _ (by omega), lb_e, f_X8_open_b83, e_person, ob1_s, lit_nI 7, nI_add, lb_e, if_neg (show ¬ (1 : Int32) = 0 by decide), f_X8_open_b106, i7, ck_t, nI_clamp (n := 20 + 40 * p + 7) (by omega), lb_e, if_neg (show ¬ (1 : Int32) = 0 by decide), f_X8_open_b117]
  have k2 := k1.mark hpm (by rw [a5]; exact f5) true (I' := u2 I1 0 12 (bs (fun q => fl m (M1 1) 5 q && fl m (M1 1) 7 q || decide (q = p)))) (by
    refine congrArg (u2 I1 0 12) (bs_congr fun q _ => ?_)
    by_cases e : q = p
    · rw [e, if_pos rfl]; simp
    · rw [if_neg e]; simp [e])
  exact ⟨1, _, _, rfl, rfl, k2.RR a3⟩
