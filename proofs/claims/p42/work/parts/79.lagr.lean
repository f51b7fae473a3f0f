/-! the value at 0 of the polynomial through the shares is the secret -/
theorem md_a (Y a X : Nat) : (Y + a * (X % 1019)) % 1019 = (Y + a * X) % 1019 := by rw [Nat.add_mod, Nat.mul_mod_mod, ← Nat.add_mod]
theorem vs_lin {E s a : Nat} {S T : Nat → Nat} : ∀ d i v1 v2, vs E s (fun j => (S j + a * T j) % 1019) d i ((v1 + a * v2) % 1019) = (vs E s S d i v1 + a * vs E s T d i v2) % 1019 := by
  intro d
  induction d with
  | zero => intro i v1 v2; rfl
  | succ d ih =>
    intro i v1 v2
    rw [vs, vs, vs]
    by_cases c : s.testBit i = true
    · rw [if_pos c, if_pos c, if_pos c, ← ih]
      refine congrArg (vs E s _ d (i + 1)) ?_
      generalize cw E s i 8 0 1 1 = w
      show ((v1 + a * v2) % 1019 + (S i + a * T i) % 1019 * w % 1019) % 1019 = _
      rw [Nat.mod_mul_mod, ← Nat.add_mod, md_a, Nat.mod_add_mod]
      have e1 : (v1 + S i * w % 1019 + a * (v2 + T i * w % 1019)) % 1019 = (v1 + S i * w + a * (v2 + T i * w)) % 1019 := by
        rw [Nat.mul_add, ← Nat.add_assoc, md_a, Nat.mul_add, ← Nat.add_assoc]
        rw [show v1 + S i * w % 1019 + a * v2 + a * (T i * w) = (v1 + a * v2 + a * (T i * w)) + S i * w % 1019 by omega, Nat.add_mod_mod]
        exact congrArg (· % 1019) (by omega)
      rw [e1]
      refine congrArg (· % 1019) ?_
      rw [Nat.add_mul, Nat.mul_add, Nat.mul_assoc]
      omega
    · rw [if_neg c, if_neg c, if_neg c, ih]
theorem vs_0 {E s : Nat} : ∀ d i, vs E s (fun _ => 0) d i 0 = 0 := by
  intro d
  induction d with
  | zero => intro i; rfl
  | succ d ih =>
    intro i
    rw [vs]
    split
    · rw [Nat.zero_mul, Nat.zero_mod, Nat.add_zero]; exact ih _
    · exact ih _
theorem lgr : ∀ s, s < 64 → ∀ k, k < 6 → k < pc s → vs 1017 s (fun j => (j + 1) ^ k % 1019) 8 0 0 = (if k = 0 then 1 else 0) := by decide +kernel
theorem lgr_s {s : Nat} (hs : s < 64) (c : Nat → Nat) (h6 : pc s ≤ 6) : ∀ k, k ≤ pc s → vs 1017 s (fun j => ps c j k) 8 0 0 = (if k = 0 then 0 else c 0 % 1019) := by
  intro k
  induction k with
  | zero => intro _; exact vs_0 8 0
  | succ k ih =>
    intro hk
    have h1 := vs_lin (E := 1017) (s := s) (a := c k) (S := fun j => ps c j k) (T := fun j => (j + 1) ^ k % 1019) 8 0 0 0
    rw [Nat.mul_zero, Nat.add_zero, Nat.zero_mod, ih (by omega), lgr s hs k (by omega) (by omega)] at h1
    rw [if_neg (by omega)]
    refine Eq.trans h1 ?_
    by_cases z : k = 0
    · subst z
      rw [if_pos rfl, if_pos rfl, Nat.mul_one, Nat.zero_add]
    · rw [if_neg z, if_neg z, Nat.mul_zero, Nat.add_zero, Nat.mod_mod]
theorem up_pc : ∀ s, s < 64 → ∀ t, t < 9 → t ≤ pc s → pc (up s t 8 0 0) = t ∧ up s t 8 0 0 < 64 := by decide +kernel
theorem pc_6 : ∀ s, s < 64 → pc s ≤ 6 := by decide +kernel
/-- what a commitment writes -/
theorem ac_ex {m e t n : Nat} {I M : St} (lc : LC m e t n I (M 1)) {p s : Nat} (hp : p < m) (hs : s < 1019) (x : Int32) {I2 : St} (h : f_X4_accept (nI p) (nI s) x I = some I2) : I2 (5 + p) 6 = dg (M 1) (nI s) x ∧ I2 0 11 = I 0 11 ||| ishl 1 (nI p) ∧ (∀ k, k ≠ 11 → I2 0 k = I 0 k) ∧ (∀ q, q < 8 → q ≠ p → I2 (5 + q) = I (5 + q)) ∧ (I 0 5 = 1 → I2 (5 + p) 9 = 255 ∧ ∀ j, j < 8 → I2 (5 + p + 8) j = nI (ps (cf s x) j t)) := by
  obtain ⟨w1, w2, w3, w4, w5, w6, w7, w8, w9, ⟨d, d1, d2⟩, -⟩ := lc.2.1
  have hp8 : p < 8 := by omega
  obtain ⟨D, hD⟩ : ∃ D, D = dg (M 1) (nI s) x := ⟨_, rfl⟩
  obtain ⟨I1, hI1⟩ : ∃ I1, I1 = u2 (u2 (u2 (u2 I 2 p (nI s)) (5 + p) 5 x) (5 + p) 6 D) 0 11 (I 0 11 ||| ishl 1 (nI p)) := ⟨_, rfl⟩
  have i1 : ∀ o, o ≠ 0 → o ≠ 2 → o ≠ 5 + p → I1 o = I o := fun o a b c => by rw [hI1, u2_off _ _ _ _ a, u2_off _ _ _ _ c, u2_off _ _ _ _ c, u2_off _ _ _ _ b]
  have i0 : ∀ k, k ≠ 11 → I1 0 k = I 0 k := fun k hk => by rw [hI1, u2_row, upd_ap, if_neg hk, u2_off _ _ _ _ (by omega), u2_off _ _ _ _ (by omega), u2_off _ _ _ _ (by omega)]
  have i11 : I1 0 11 = I 0 11 ||| ishl 1 (nI p) := by rw [hI1, u2_row, upd_ap, if_pos rfl]
  have ip5 : I1 (5 + p) 5 = x := by rw [hI1, u2_off _ _ _ _ (by omega), u2_row, upd_ap, if_neg (by decide), u2_row, upd_ap, if_pos rfl]
  have ip6 : I1 (5 + p) 6 = D := by rw [hI1, u2_off _ _ _ _ (by omega), u2_row, upd_ap, if_pos rfl]
  have I6 : I1 0 6 = nI t := by rw [i0 6 (by decide), lc.1 0 6 6 rfl, w7]
  have I8 : I1 0 8 = nI d := by rw [i0 8 (by decide), lc.1 0 8 8 rfl, d2]
  have ec : f_X4_accept (nI p) (nI s) x I = (if I 0 5 = 1 then ob1 (f_X5_deal (5 + p) (nI s) (nI t) I1) fun I16 => f_X4_accept_b62 (nI s) (5 + p) I16 else f_X4_accept_b62 (nI s) (5 + p) I1) := by
    have e3 : u2 (u2 I 2 p (nI s)) (5 + p) 5 x 3 0 = M 1 1 := by rw [u2_off _ _ _ _ (by omega), u2_off _ _ _ _ (by omega)]; exact lc.1 3 0 1 rfl
    have e11 : u2 (u2 (u2 I 2 p (nI s)) (5 + p) 5 x) (5 + p) 6 D 0 11 = I 0 11 := by rw [u2_off _ _ _ _ (by omega), u2_off _ _ _ _ (by omega), u2_off _ _ _ _ (by omega)]
    rw [f_X4_accept, inb_nI hp8 (by decide), ck_t, ck_t, nI_clamp (by omega), lb_e, lb_e, e_cdig e3, ob1_s, ← hD, lb_e, e11, lb_e, lb_e, ← hI1, i0 5 (by decide), lb_e, I6]
  rw [ec] at h
  by_cases c1 : I 0 5 = 1
  · obtain ⟨I', k1, k2, k3, k4, k5, k6⟩ := e_deal (o := 5 + p) (t := t) (s := s) (x := x) (isP_of hp8) w6 hs I1 ip5
    have z0 : ∀ k, I' 0 k = I1 0 k := fun k => by rw [k2 0 (by omega) (by omega) (by omega)]
    rw [if_pos c1, k1, ob1_s, f_X4_accept_b62, z0, i0 5 (by decide), c1, lb_e, if_neg (by decide), f_X4_accept_b80] at h
    cases h
    exact ⟨by rw [k3 6 (by decide), ip6, hD], by rw [z0, i11], fun k hk => by rw [z0, i0 k hk], fun q hq hne => by rw [k2 _ (by omega) (by omega) (by omega), i1 _ (by omega) (by omega) (by omega)], fun _ => ⟨k4, k5⟩⟩
  · rw [if_neg c1, f_X4_accept_b62, i0 5 (by decide), lb_e] at h
    by_cases c2 : I 0 5 = 2
    · rw [if_pos c2, I8, e_putLock (b := 0) (isP_of hp8) ip5 d1 hs, ob1_s, f_X4_accept_b80] at h
      cases h
      exact ⟨by rw [u2_row, upd_ap, if_neg (by decide), u2_row, upd_ap, if_neg (by decide), ip6, hD], by rw [u2_off _ _ _ _ (by omega), u2_off _ _ _ _ (by omega), i11], fun k hk => by rw [u2_off _ _ _ _ (by omega), u2_off _ _ _ _ (by omega), i0 k hk], fun q hq hne => by rw [u2_off _ _ _ _ (by omega), u2_off _ _ _ _ (by omega), i1 _ (by omega) (by omega) (by omega)], fun z => absurd z c1⟩
    · rw [if_neg c2, f_X4_accept_b80] at h
      cases h
      exact ⟨by rw [ip6, hD], i11, i0, fun q hq hne => i1 _ (by omega) (by omega) (by omega), fun z => absurd z c1⟩
theorem e_up (v : Int32) {k : Nat} (h0 : 0 < k) (hk : k < 2 ^ 31) : ∃ j, j < k ∧ f_L_up v (nI k) = some (nI j) := by
  refine ⟨v.toBitVec.toNat % 2 ^ 31 % k, Nat.mod_lt _ h0, ?_⟩
  have hz : nz (nI k) = true := by
    unfold nz
    rw [decide_eq_false (nI_ne0 h0 hk)]
    rfl
  rw [f_L_up, pk_and v (m := 2147483647) 31 (by decide), lb_e, hz, ck_t, irem_nI (Nat.mod_lt _ (by decide)) h0 hk]
theorem wi_s {s lo hi : Nat} (h : s ≤ hi) (hl : lo ≤ s) (hh : hi < 2 ^ 31) : wi (nI s) (nI lo) (nI hi) = true := by
  unfold wi
  rw [decide_eq_false (nI_nlt hl (by omega)), decide_eq_false (nI_nlt h hh)]
  rfl
/-- the rest of the law's check behind a commitment -/
theorem com_fin {m p s t : Nat} {I : St} {F G : Nat → Bool} {c : Nat → Nat} (m6 : m ≤ 6) (h3 : I 0 3 = nI m) (hp : p < m) (h9 : I 0 9 = 1) (g10 : I 0 10 = bs F) (g11 : I 0 11 = bs G) (hF : F p = true) (hG : G p = true) (hFm : ∀ q, m ≤ q → F q = false) (h6 : I 0 6 = nI t) (ht1 : 1 ≤ t) (ht : t ≤ 8) (hs : s < 1019) (hc : c 0 = s) (hd : I 0 5 = 1 → t ≤ cnt8 F ∧ I (5 + p) 9 = 255 ∧ ∀ j, j < 8 → I (5 + p + 8) j = nI (ps c j t)) : f_L_commits_b67 (nI p) (nI s) 1 I = some (1, I) := by
  have p8 : p < 8 := by omega
  have pp : f_X4_isParticipant (nI p) I = some (b2 true) := by rw [e_isPart (by omega) h3, pers_t hp (by omega)]
  have n9 : ¬ I 0 9 = 0 := by rw [h9]; decide
  have com : f_X4_isCommitted (nI p) I = some 1 := by rw [f_X4_isCommitted, if_neg n9, g11, lb_e, e_has G p8, hG, ob1_s, if_neg bt1, f_X4_isCommitted_b23, isB_1, ck_t]
  have n10 : ¬ (1 : Int32) = 0 := by decide
  have fin : f_L_commits_b107 I = some (1, I) := by rw [f_L_commits_b107, f_L_commits_b112, isB_1, ck_t]
  rw [f_L_commits_b67, if_neg n10]
  by_cases c5 : I 0 5 = 1
  · obtain ⟨d1, d2, d3⟩ := hd c5
    have deal : f_X4_hasDealt (nI p) I = some 1 := by rw [f_X4_hasDealt, c5, lb_e, if_pos rfl, com, ob1_s, if_neg n10, f_X4_hasDealt_b21, isB_1, ck_t]
    have hsh : f_X4_hasShare (nI p) (nI p) I = some 1 := by rw [f_X4_hasShare, deal, ob1_s, if_neg n10, g10, lb_e, e_has F p8, hF, ob1_s, if_neg bt1, f_X4_hasShare_b24, isB_1, ck_t]
    have sh : f_X7_share (nI p) (nI p) I = some (nI (ps c p t)) := by rw [f_X7_share, pp, ob1_s, if_neg bt1, ob1_s, if_neg bt1, hsh, ob1_s, if_neg n10, inb_nI p8 (by decide), ck_t, ck_t, nI_clamp (by omega), d3 p p8]
    have b255 : (255 : Int32) = bs (fun _ => true) := by decide
    have ri : f_X7_isRight (nI p) (nI p) I = some 1 := by rw [f_X7_isRight, pp, ob1_s, if_neg bt1, ob1_s, if_neg bt1, hsh, ob1_s, if_neg n10, inb_nI p8 (by decide), ck_t, nI_clamp (by omega), d2, lb_e, b255, e_has _ p8, ob1_s, if_neg bt1, f_X7_isRight_b63]
    have f64 : bn F < 64 := Nat.lt_of_lt_of_le (bn_small hFm) (Nat.pow_le_pow_right (n := 2) (i := m) (j := 6) (by decide) m6)
    have epc : pc (bn F) = cnt8 F := cnt8_congr fun q hq => bn_tb F hq
    have tp : t ≤ pc (bn F) := by rw [epc]; exact d1
    obtain ⟨u1, u2'⟩ := up_pc (bn F) f64 t (by omega) tp
    obtain ⟨v1, v2⟩ := e_small_l (s := bn F) (t := t) (bn_lt F) ht 8 0 10000 0 (by decide) (by decide) (by decide)
    have wF : f_X7_isWithin (bs F) 0 255 = some (b2 true) := by
      rw [e_isWithin, bs, lit_nI 0, lit_nI 255, wi_s (by have := bn_lt F; omega) (Nat.zero_le _) (by decide)]
    have ea : bs F &&& bs F = bs F := by rw [bs_and]; exact bs_congr fun q hq => Bool.and_self _
    have val : vs 1017 (up (bn F) t 8 0 0) (fun j => ps c j t) 8 0 0 = s := by
      have := lgr_s u2' c (pc_6 _ u2') t (by rw [u1]; exact Nat.le_refl _)
      rw [if_neg (by omega), hc, Nat.mod_eq_of_lt hs] at this
      exact this
    have vz := e_vz_l (I := I) (p := p) (S := fun j => ps c j t) v2 (fun j hj => ⟨ps_lt _ _ _, d3 j hj⟩) 8 0 10000 0 (by decide) (by decide) (by decide)
    rw [val] at vz
    have rc : f_X7_recover (nI p) (bs F) I = some (nI s) := by
      rw [f_X7_recover, pp, ob1_s, if_neg bt1, wF, ob1_s, if_neg bt1, g10, ea, lb_e, deal, ob1_s, if_neg n10, bitCount_bs, ob1_s, h6, if_pos (nI_le d1 (by have := cnt8_le F; omega)), inb_nI p8 (by decide), ck_t, f_X7_smallest, lit_nI 0, bs, v1, ob1_s, nI_clamp (n := p) (by omega), f_X5_valueAtZero, isP_of p8, ck_t, lit_nI 0, vz, ob1_s]
    rw [sh, ob1_s, if_neg (nI_pos (by have := ps_lt c p t; omega)), ri, ob1_s, if_pos rfl, (e_set n9).1, ob1_s, g10, rc, ob1_s, if_pos rfl, fin]
  · have deal : f_X4_hasDealt (nI p) I = some 0 := by rw [f_X4_hasDealt, lb_e, if_neg c5, f_X4_hasDealt_b20, f_X4_hasDealt_b21, isB_0, ck_t]
    have sh : f_X7_share (nI p) (nI p) I = some (-9) := by rw [f_X7_share, pp, ob1_s, if_neg bt1, ob1_s, if_neg bt1, f_X4_hasShare, deal, ob1_s, if_pos rfl, f_X4_hasShare_b23, f_X4_hasShare_b24, isB_0, ck_t, ob1_s, if_pos rfl]
    rw [sh, ob1_s, if_pos (by decide), fin]
theorem L_commits {n m paid p : Nat} {I : St} (h : IV n m paid I) (hn : n < 2 ^ 30) (hp : p < m) (x : Int32) : ∃ I', f_L_commits (nI p) x I = some (1, I') ∧ IV n m paid I' := by
  obtain ⟨M, e, t, hR, hL, hP, hA, hX⟩ := h.op hn
  have hIV := h
  obtain ⟨m2, m6, h3, -⟩ := h
  have w := hL.2.1
  have he := w.2.2.1
  have p8 : p < 8 := by omega
  obtain ⟨s, s1, s2⟩ := e_up (ishr x 4) (k := 1019) (by decide) (by decide)
  have s2' : f_L_up (ishr x 4) 1019 = some (nI s) := s2
  obtain ⟨r, I', M', e1, -, e3⟩ := s_commit hR (nI p) (nI s) x
  have pp : f_X4_isParticipant (nI p) I = some (b2 true) := by rw [e_isPart (by omega) h3, pers_t hp (by omega)]
  have ws : f_X7_isWithin (nI s) 0 1018 = some (b2 true) := by rw [e_isWithin, lit_nI 0, lit_nI 1018, wi_s (by omega) (Nat.zero_le _) (by decide)]
  have n10 : ¬ (1 : Int32) = 0 := by decide
  rw [f_L_commits, lb_e, s2', ob1_s]
  -- a refused commitment changes nothing
  have no2 : f_X7_commit (nI p) (nI s) x I = some (-2, I) → ∃ I', (ob2 (f_X7_commit (nI p) (nI s) x I) fun r18 I17 => if r18 = -2 then f_L_commits_b33 I17 else if r18 = -4 then f_L_commits_b33 I17 else if r18 < 0 then f_L_commits_b66 (nI p) (nI s) I17 else ob1 (f_X7_digest (nI p) I17) fun r23 => if r23 = r18 then ob2 (f_X7_commit (nI p) (nI s) x I17) fun r27 I26 => if r27 = -2 then f_L_commits_b67 (nI p) (nI s) 1 I26 else f_L_commits_b66 (nI p) (nI s) I26 else f_L_commits_b66 (nI p) (nI s) I17) = some (1, I') ∧ IV n m paid I' := fun q => by
    rw [q, ob2_s, if_pos rfl, f_L_commits_b33]
    exact ⟨I, rfl, hIV⟩
  have e0 := e1
  rw [f_X7_commit, pp, ob1_s, if_neg bt1, ws, ob1_s, if_neg bt1, lb_e] at e1
  by_cases ph : I 0 9 = 1
  case neg =>
    rw [if_neg ph, f_X7_commit_b63] at e1
    exact no2 (e0.trans e1.symm)
  have rp := hP (by rw [← hL.1 0 9 0 rfl, ph]; decide)
  obtain ⟨x1, x2⟩ := hX (by rw [ph]; decide)
  rw [if_pos ph, lb_e, rp.1, e_has _ p8, ob1_s] at e1
  cases f5 : fl m (M 1) 5 p
  · rw [f5, if_pos bf0, f_X7_commit_b63] at e1
    exact no2 (e0.trans e1.symm)
  rw [f5, if_neg bt1, lb_e, rp.2.1, e_has _ p8, ob1_s, f5, Bool.true_and] at e1
  cases f6 : fl m (M 1) 6 p
  case true =>
    rw [f6, if_neg bt1, f_X7_commit_b63] at e1
    exact no2 (e0.trans e1.symm)
  rw [f6, if_pos bf0, e_cdig (hL.1 3 0 1 rfl), ob1_s] at e1
  obtain ⟨r20, -, e1⟩ := ob1_some e1
  by_cases c20 : r20 = 0
  case neg =>
    rw [if_neg c20] at e1
    rw [e0.trans e1.symm, ob2_s, if_neg (by decide), if_pos rfl, f_L_commits_b33]
    exact ⟨I, rfl, hIV⟩
  rw [if_pos c20] at e1
  obtain ⟨I1, a1, e1⟩ := ob1_some e1
  obtain ⟨I2, a2, e1⟩ := ob1_some e1
  have rs := rem_same hR a1
  have r0 : ∀ k, I1 0 k = I 0 k := fun k => by rw [rs 0 (by decide)]
  have lc1 : LC m e t n I1 (M 1) := hL.ofkv fun j k hk => by rw [rs j (kv_lt hk).1]
  obtain ⟨g6, g11, g0, gq, gd⟩ := ac_ex lc1 hp s1 x a2
  cases e1
  obtain ⟨j, j1, j2⟩ := pk_andE (dg (M 1) (nI s) x) (m := 1073741823) 30 (by decide)
  rw [j2] at e0
  -- what stands behind it
  have k9 : I' 0 9 = 1 := by rw [g0 9 (by decide), r0]; exact ph
  have k3 : I' 0 3 = nI m := by rw [g0 3 (by decide), r0]; exact h3
  have k10 : I' 0 10 = bs (fl m (M 1) 5) := by rw [g0 10 (by decide), r0]; exact rp.1
  have k11 : I' 0 11 = bs (fun q => (fl m (M 1) 5 q && fl m (M 1) 6 q) || decide (q = p)) := by rw [g11, r0, rp.2.1, bs_add _ p8]
  have k6 : I' 0 6 = nI t := by rw [g0 6 (by decide), r0, hL.1 0 6 6 rfl]; exact w.2.2.2.2.2.2.1
  have k5 : I' 0 5 = I 0 5 := by rw [g0 5 (by decide), r0]
  have iv : IV n m paid I' := by
    refine ⟨m2, m6, k3, M', e, he, e3, (hA.rem rs).fr (fr_accept a2), fun _ => ⟨by rw [g0 13 (by decide), r0]; exact x1, fun c => ⟨fun _ => ?_, fun q f hq z hf => ?_⟩⟩⟩
    · rw [g0 10 (by decide), g0 6 (by decide), r0, r0]
      exact (x2 (k5.symm.trans c)).1 ph
    · by_cases qp : q = p
      · subst qp
        exact (gd (by rw [r0, ← k5]; exact c)).1
      · rw [gq q hq qp, rs _ (by omega)]
        rw [k11, bs_inj] at z
        have zq := z q hq
        rw [hf, decide_eq_false qp, Bool.or_false] at zq
        exact (x2 (k5.symm.trans c)).2 q _ hq rp.2.1 zq
  have pp' : f_X4_isParticipant (nI p) I' = some (b2 true) := by rw [e_isPart (by omega) k3, pers_t hp (by omega)]
  have Gp : ((fl m (M 1) 5 p && fl m (M 1) 6 p) || decide (p = p)) = true := by rw [decide_eq_true rfl, Bool.or_true]
  have hasG : f_X7_has (I' 0 11) (nI p) = some (b2 true) := by
    rw [k11, e_has _ p8]
    exact congrArg (fun z => some (b2 z)) Gp
  have dgt : f_X7_digest (nI p) I' = some (nI j) := by
    rw [f_X7_digest, pp', ob1_s, if_neg bt1, f_X4_isCommitted, if_neg (by rw [k9]; decide), lb_e, hasG, ob1_s, if_neg bt1, f_X4_isCommitted_b23, isB_1, ck_t, ob1_s, if_neg n10, inb_nI p8 (by decide), ck_t, nI_clamp (by omega), g6, lb_e, j2]
  have again : f_X7_commit (nI p) (nI s) x I' = some (-2, I') := by
    rw [f_X7_commit, pp', ob1_s, if_neg bt1, ws, ob1_s, if_neg bt1, k9, lb_e, if_pos rfl, k10, lb_e, e_has _ p8, f5, ob1_s, if_neg bt1, lb_e, hasG, ob1_s, if_neg bt1, f_X7_commit_b63]
  refine ⟨I', ?_, iv⟩
  have jl : nI j = -2 → False := fun q => nI_pos (n := j) (by omega) (by rw [q]; decide)
  have jl4 : nI j = -4 → False := fun q => nI_pos (n := j) (by omega) (by rw [q]; decide)
  rw [e0, ob2_s, if_neg jl, if_neg jl4, if_neg (nI_pos (by omega)), dgt, ob1_s, if_pos rfl, again, ob2_s, if_pos rfl]
  exact com_fin (c := cf s x) m6 k3 hp k9 k10 k11 f5 Gp (fun q hq => fl_ge hq) k6 w.2.2.2.2.1 w.2.2.2.2.2.1 s1 rfl (fun c => by
    obtain ⟨d1, d2⟩ := gd (by rw [r0, ← k5]; exact c)
    refine ⟨?_, d1, d2⟩
    obtain ⟨f, t', f1, f2, f3, f4⟩ := (x2 (k5.symm.trans c)).1 ph
    have tt : nI t = nI t' := k6.symm.trans ((g0 6 (by decide)).trans ((r0 6).trans f2))
    have t8 := w.2.2.2.2.2.1
    rw [nI_eq (by omega) (by omega)] at tt
    rw [rp.1, bs_inj] at f1
    rw [tt, cnt8_congr f1]
    exact f3)
