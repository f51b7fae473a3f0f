/-! a played round, undone and played again; one step of the law -/
theorem L_plays {n m paid : Nat} {I : St} (h : IV n m paid I) (hn : n + 2 < 2 ^ 30) (x : Int32) : ∃ I', f_L_plays x I = some (1, I') ∧ IV (n + 2) m paid I' := by
  obtain ⟨M, e, t, hR, hL, hP, hA, hX⟩ := h.op (by omega)
  have hIV := h
  obtain ⟨m2, m6, h3, -⟩ := h
  have w := hL.2.1
  have he := w.2.2.1
  have n10 : ¬ (1 : Int32) = 0 := by decide
  obtain ⟨f, f1, -⟩ := s_fingerprint hR
  have cs : f_X4_canStart I = some (b2 (mayB m t (M 1))) := e_canStart w.1 w.2.2.2.2.2.1 hL.1 w.2.1 w.2.2.2.2.2.2.1
  rw [f_L_plays, f1, ob1_s, f_X7_rounds, ob1_s, hA.e]
  cases hc : mayB m t (M 1)
  · have p1 : f_X7_play x I = some (-2, I) := by rw [f_X7_play, cs, hc, ob1_s, if_pos bf0]
    rw [p1, ob2_s, if_pos rfl, f1, ob1_s, if_pos (lgc f), f_L_plays_b39, isB_1, ck_t]
    exact ⟨I, rfl, hIV.mono (by omega)⟩
  have hc' := hc
  unfold mayB at hc'
  have v0 : M 1 0 = 0 := of_decide_eq_true (Bool.and_eq_true_iff.mp hc').1
  have i9 : I 0 9 = 0 := (hL.1 0 9 0 rfl).trans v0
  obtain ⟨I1, c, r, a1, a2, a3, a4, a5, a6, a7, a8⟩ := e_rem2 hR
  have lc1 : LC m e t n I1 (M 1) := hL.ofkv fun j k hk => by rw [a7 j (kv_lt hk).1]
  obtain ⟨r1, I2, M2, b1, b2', b3, b4, b5, b6, b7⟩ := p_round lc1 (by omega) (hA.rem a7) x
  have p1 : f_X7_play x I = some (r1, I2) := by rw [f_X7_play, cs, hc, ob1_s, if_neg bt1, a1, ob1_s, b1, ob2_s]
  obtain ⟨r1', I2', M2', p1', -, hR2⟩ := s_play hR (by omega) x
  rw [p1] at p1'
  cases p1'
  have i29 : I2 0 9 = 0 := (b4.1 0 9 0 rfl).trans b5
  have i23 : I2 0 3 = nI m := (b4.1 0 3 4 rfl).trans b4.2.1.2.1
  obtain ⟨g, g1, -⟩ := s_fingerprint hR2
  obtain ⟨I3, u1, u2'⟩ := un_2 (I := I2) a2 a3 a4 (by rw [b3 146 (by decide) (by decide)]; exact a5) (by rw [b3 147 (by decide) (by decide)]; exact a6)
  have kv3 : ∀ j k, kv j k = true → I3 j k = I j k := fun j k hk => by
    have := (kv_lt hk).1
    rw [u2' j k hk, b3 _ (by omega) (by omega)]
    exact a8 j k hk
  obtain ⟨r3', I3', M3, u3, -, hR3⟩ := s_undo hR2
  rw [u1] at u3
  cases u3
  have rc3 := RC.ofkv kv3
  have fp3 : f_X7_fingerprint I3 = some f := by rw [fp_rc rc3 (by omega) h3 i9]; exact f1
  have lc3 : LC m e t n I3 (M 1) := hL.ofkv kv3
  have cs3 : f_X4_canStart I3 = some (b2 true) := by rw [e_canStart w.1 w.2.2.2.2.2.1 lc3.1 w.2.1 w.2.2.2.2.2.2.1, hc]
  obtain ⟨I4, c4, r4, d1, d2, d3, d4, d5, d6, d7, d8⟩ := e_rem2 hR3
  have lc4 : LC m e t n I4 (M 1) := lc3.ofkv fun j k hk => by rw [d7 j (kv_lt hk).1]
  obtain ⟨r5, I5, M5, k1, k2, k3, k4, k5, k6, k7⟩ := p_round lc4 (by omega) ((hA.rc rc3).rem d7) x
  rw [b2'] at k2
  cases k2
  have p3 : f_X7_play x I3 = some (r1, I5) := by rw [f_X7_play, cs3, ob1_s, if_neg bt1, d1, ob1_s, k1, ob2_s]
  obtain ⟨r6, I6, M6, p3', -, hR5⟩ := s_play hR3 (by omega) x
  rw [p3] at p3'
  cases p3'
  have fp5 : f_X7_fingerprint I5 = some g := by rw [fp_rc (RC.le b4.1 k4.1) (by omega) i23 i29]; exact g1
  have e2 := b6.e
  have kpt : kp (e + 1) (nI e) = true := by
    unfold kp
    have s16 : ¬ nI e < nI (e + 1) - 16 := fun q => by
      have z : (nI (e + 1) - 16).toInt = ((e + 1 : Nat) : Int) - (16 : Nat) := pk_sub_toInt (a := e + 1) (b := 16) (by omega) (by omega)
      rw [Int32.lt_iff_toInt_lt, nI_toInt (by omega), z] at q
      omega
    rw [decide_eq_false (nI_pos (by omega)), decide_eq_false (nI_ge (by omega) (by omega)), decide_eq_false s16]
    rfl
  have en0 : f_X0_entry (nI e) 0 I2 = some (I2 4 (6 * (e % 16))) := e_entry (w := 0) (by omega) (by decide) I2
  have en5 : f_X0_entry (nI e) 5 I2 = some (I2 4 (6 * (e % 16) + 5)) := e_entry (w := 5) (by omega) (by decide) I2
  have pst : f_X7_past (nI e) 0 I2 = some r1 := by
    rw [f_X7_past, if_neg (nI_pos (by omega)), show f_X7_isWithin 0 0 4 = some 1 by rw [e_isWithin]; decide +kernel, ob1_s, if_neg n10, e_keeps e2, kpt, ob1_s, if_neg bt1, en0, ob1_s, b7.1]
  have otp : f_X7_output (nI e) I2 = some (I2 4 (6 * (e % 16) + 5)) := by
    rw [f_X7_output, e_keeps e2, kpt, ob1_s, if_neg bt1, en5, ob1_s]
  have b96 : f_L_plays_b96 x f r1 g I2 = some (1, I5) := by
    rw [f_L_plays_b96, u1, ob2_s, if_neg (nI_pos (by omega)), fp3, ob1_s, if_pos (lgc f), p3, ob2_s, if_pos rfl, fp5, ob1_s, if_pos (lgc g), f_L_plays_b137, isB_1, ck_t]
  have iv : IV (n + 2) m paid I5 := ⟨m2, m6, (k4.1 0 3 4 rfl).trans k4.2.1.2.1, M6, e + 1, by omega, hR5, k6, RX.rest ((k4.1 0 9 0 rfl).trans k5)⟩
  refine ⟨I5, ?_, iv⟩
  rcases b7.2 with q | ⟨q, q5⟩
  · rw [p1, ob2_s, if_neg (by rw [q]; decide), g1, ob1_s, f_X7_phase, ob1_s, if_pos i29, f_X7_rounds, ob1_s, e2, if_pos (nI_1 e).symm, pst, ob1_s, if_pos rfl, if_pos (by rw [q]; decide)]
    exact b96
  · rw [p1, ob2_s, if_neg (by rcases q with q | q <;> rw [q] <;> decide), g1, ob1_s, f_X7_phase, ob1_s, if_pos i29, f_X7_rounds, ob1_s, e2, if_pos (nI_1 e).symm, pst, ob1_s, if_pos rfl, if_neg (by rcases q with q | q <;> rw [q] <;> decide), otp, ob1_s, lb_e, if_pos q5]
    exact b96
theorem L_steps {n m paid p j : Nat} {I : St} (h : IV n m paid I) (hn : n + 2 < 2 ^ 30) (hp : p < m) (hj : j < m) (x : Int32) : ∃ I', f_L_steps (nI p) (nI j) x (nI m) I = some (1, I') ∧ IV (n + 2) m paid I' := by
  obtain ⟨u, u1, u2'⟩ := e_up x (k := 12) (by decide) (by decide)
  have u2' : f_L_up x 12 = some (nI u) := u2'
  have hn0 : n < 2 ^ 30 := by omega
  rw [f_L_steps, u2', ob1_s]
  by_cases c0 : nI u = 0
  · obtain ⟨r, I', a, b, c⟩ := L_begin h hn0
    rw [if_pos c0, a, ob2_s, if_neg b, f_L_steps_b74, isB_1, ck_t]
    exact ⟨I', rfl, c.mono (by omega)⟩
  rw [if_neg c0]
  by_cases c1 : nI u = 1
  · obtain ⟨r, I', a, b, c⟩ := L_opening h hn0
    rw [if_pos c1, a, ob2_s, if_neg b, f_L_steps_b89, isB_1, ck_t]
    exact ⟨I', rfl, c.mono (by omega)⟩
  rw [if_neg c1]
  by_cases c2 : nI u = 2
  · obtain ⟨r, I', a, b, c⟩ := L_close h hn0
    rw [if_pos c2, a, ob2_s, if_neg b, f_L_steps_b104, isB_1, ck_t]
    exact ⟨I', rfl, c.mono (by omega)⟩
  rw [if_neg c2]
  by_cases c3 : nI u = 3
  · obtain ⟨I', a, c⟩ := L_plays h hn x
    rw [if_pos c3, a, ob2_s, isB_1, ck_t]
    exact ⟨I', rfl, c⟩
  rw [if_neg c3]
  by_cases c4 : nI u = 4
  · rw [if_pos c4]
    by_cases d : nI p = nI j
    · rw [if_pos d, f_L_steps_b127, f_L_steps_b132, isB_1, ck_t]
      exact ⟨I, rfl, h.mono (by omega)⟩
    · obtain ⟨r, I', a, b, c⟩ := L_complain h hn0 hp hj (fun z => d z.symm)
      rw [if_neg d, a, ob2_s, if_neg b, f_L_steps_b127, f_L_steps_b132, isB_1, ck_t]
      exact ⟨I', rfl, c.mono (by omega)⟩
  rw [if_neg c4]
  by_cases c5 : nI u = 5
  · obtain ⟨v, v1, v2⟩ := e_up (ishr x 4) (k := 1019) (by decide) (by decide)
    have v2 : f_L_up (ishr x 4) 1019 = some (nI v) := v2
    obtain ⟨r, I', a, b, c⟩ := L_open h hn0 hp (nI v) x
    rw [if_pos c5, lb_e, v2, ob1_s, a, ob2_s, if_neg b, f_L_steps_b158, isB_1, ck_t]
    exact ⟨I', rfl, c.mono (by omega)⟩
  rw [if_neg c5]
  by_cases c6 : nI u = 6
  · obtain ⟨v, v1, v2⟩ := e_up (ishr x 4) (k := 4) (by decide) (by decide)
    have v2 : f_L_up (ishr x 4) 4 = some (nI v) := v2
    obtain ⟨r, I', a, b, c⟩ := L_behave h hn0 hp v1
    rw [if_pos c6, lb_e, v2, ob1_s, a, ob2_s, if_neg b, f_L_steps_b179, isB_1, ck_t]
    exact ⟨I', rfl, c.mono (by omega)⟩
  rw [if_neg c6]
  by_cases c7 : nI u = 7
  · obtain ⟨I', a, c⟩ := L_coalitions h hn0 (ishr x 5)
    rw [if_pos c7, a, ob2_s, isB_1, ck_t]
    exact ⟨I', rfl, c.mono (by omega)⟩
  rw [if_neg c7]
  by_cases c8 : nI u = 8
  · rw [if_pos c8, L_fails h hn0, ob2_s, isB_1, ck_t]
    exact ⟨I, rfl, h.mono (by omega)⟩
  rw [if_neg c8]
  by_cases c9 : nI u = 9
  · obtain ⟨v, v1, v2⟩ := e_up (ishr x 4) (k := 3) (by decide) (by decide)
    have v2 : f_L_up (ishr x 4) 3 = some (nI v) := v2
    obtain ⟨y, y1, y2⟩ := e_up (ishr x 6) (k := 8) (by decide) (by decide)
    have y2 : f_L_up (ishr x 6) 8 = some (nI y) := y2
    obtain ⟨z, z1, z2⟩ := e_up (ishr x 9) (k := 60) (by decide) (by decide)
    have z2 : f_L_up (ishr x 9) 60 = some (nI z) := z2
    have ey : (1 : Int32) + nI y = nI (1 + y) := by rw [lit_nI 1, nI_add]
    have ez : (1 : Int32) + nI z = nI (1 + z) := by rw [lit_nI 1, nI_add]
    have wv : wi (nI v) 0 2 = true := wi_s (s := v) (lo := 0) (hi := 2) (by omega) (Nat.zero_le _) (by decide)
    have wy : wi (nI (1 + y)) 1 8 = true := wi_s (s := 1 + y) (lo := 1) (hi := 8) (by omega) (by omega) (by decide)
    have wz : wi (nI (1 + z)) 1 5000 = true := wi_s (s := 1 + z) (lo := 1) (hi := 5000) (by omega) (by omega) (by decide)
    obtain ⟨r, I1, a, b, c⟩ := L_setMethod h hn0 wv
    obtain ⟨r', I2, a', b', c'⟩ := L_setThreshold c hn0 wy
    obtain ⟨r'', I3, a'', b'', c''⟩ := L_setDelay c' hn0 wz
    rw [if_pos c9, lb_e, v2, ob1_s, a, ob2_s, if_neg b, lb_e, y2, ob1_s, ey, a', ob2_s, if_neg b', lb_e, z2, ob1_s, ez, a'', ob2_s, if_neg b'', f_L_steps_b256, isB_1, ck_t]
    exact ⟨I3, rfl, c''.mono (by omega)⟩
  · obtain ⟨I', a, c⟩ := L_commits h hn0 hp x
    rw [if_neg c9, a, ob2_s, isB_1, ck_t]
    exact ⟨I', rfl, c.mono (by omega)⟩
