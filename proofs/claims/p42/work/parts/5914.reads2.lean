/-! reads of the round that is going on -/
theorem b2n (b : Bool) (h : b = true) : ¬ b2 b = 0 := by rw [h]; decide
theorem b2z (b : Bool) (h : b = false) : b2 b = 0 := by rw [h]; rfl
theorem s_set {n : Nat} {I M : St} (h : RR n I M) (x : Int32) : Rd (f_X7_set x I) (f_X8_set x M) := by
  obtain ⟨m, e, t, h1, ⟨w1, w2, -⟩, -, -, h5⟩ := id h.1
  have hph : I 0 9 = M 1 0 := h1 0 9 0 rfl
  simp only [f_X7_set, f_X8_set_b32, f_X8_set, e_isWithin, e_in, ib_0, ib_1, ib_2, ib_3, ib_4, ib_5, ib_6, ib_7, ib_8, ib_9, ib_10, ib_11, ib_12, ib_13, ib3_4, ib0_4, cl_0, cl_1, cl_2, cl_3, cl_4, cl_5, cl_6, cl_7, cl_8, cl_9, cl_10, cl_11, cl_12, cl_13, ob1_s, ob2_s, ck_t, lb_e, hph]
  cases hw : wi x 0 3
  · rw [if_pos (show b2 false = 0 from rfl), if_pos (show b2 false = 0 from rfl)]
    exact ⟨_, rfl, rfl⟩
  · rw [if_neg (show ¬ b2 true = 0 by decide), if_neg (show ¬ b2 true = 0 by decide)]
    by_cases ph : M 1 0 = 0
    · rw [if_pos ph, if_pos ph]
      exact ⟨_, rfl, rfl⟩
    · rw [if_neg ph, if_neg ph]
      obtain ⟨r1, r2, r3, r4, -⟩ := h5 ph
      obtain ⟨k, k1, k2, rfl⟩ := wi_ex (a := 0) (b := 3) (by decide) (by decide) hw
      have o5 : f_X8_setOf 5 M = some (bs (fl m (M 1) 5)) := e_setOf w1 (by decide) w2
      have o6 : f_X8_setOf 6 M = some (bs (fl m (M 1) 6)) := e_setOf w1 (by decide) w2
      have o7 : f_X8_setOf 7 M = some (bs (fl m (M 1) 7)) := e_setOf w1 (by decide) w2
      have o8 : f_X8_setOf 8 M = some (bs (fl m (M 1) 8)) := e_setOf w1 (by decide) w2
      simp only [f_X8_setNumber_b52, f_X8_setNumber, o5, o6, o7, o8, bs_and, r1, r2, r3, r4, ob1_s, ob2_s, ck_t, lb_e]
      match k, k2 with
      | 0, _ =>
        rw [if_pos (show nI 0 = (0 : Int32) from rfl)]
        exact ⟨_, rfl, rfl⟩
      | 1, _ =>
        rw [if_neg (show ¬ nI 1 = (0 : Int32) by decide), if_pos (show nI 1 = (1 : Int32) from rfl)]
        exact ⟨_, rfl, rfl⟩
      | 2, _ =>
        rw [if_neg (show ¬ nI 2 = (0 : Int32) by decide), if_neg (show ¬ nI 2 = (1 : Int32) by decide), if_pos (show nI 2 = (2 : Int32) from rfl)]
        exact ⟨_, rfl, rfl⟩
      | 3, _ =>
        rw [if_neg (show ¬ nI 3 = (0 : Int32) by decide), if_neg (show ¬ nI 3 = (1 : Int32) by decide), if_neg (show ¬ nI 3 = (2 : Int32) by decide)]
        exact ⟨_, rfl, rfl⟩
theorem s_digest {n : Nat} {I M : St} (h : RR n I M) (x : Int32) : Rd (f_X7_digest x I) (f_X8_digest x M) := by
  obtain ⟨m, e, t, h1, ⟨w1, w2, -⟩, -, -, h5⟩ := id h.1
  have hc : I 0 3 = nI m := by rw [h1 0 3 4 rfl, w2]
  simp only [f_X7_digest, f_X8_digest_b40, f_X8_digest, e_isPart w1 hc, e_isPerson w1 w2, ob1_s, ob2_s, ck_t, lb_e]
  cases hp : pers m x
  · rw [if_pos (show b2 false = 0 from rfl), if_pos (show b2 false = 0 from rfl)]
    exact ⟨_, rfl, rfl⟩
  · obtain ⟨p, hpm, rfl⟩ := pers_ex w1 hp
    have hp8 : p < 8 := by omega
    have i0 : inb (nI p) 8 = true := inb_nI hp8 (by decide)
    have i1 : inb (nI (20 + 40 * p + 11)) 420 = true := inb_nI (by omega) (by decide)
    rw [if_neg (show ¬ b2 true = 0 by decide), if_neg (show ¬ b2 true = 0 by decide), e_isCom (h1 0 9 0 rfl) h5 hp8, e_isIn w1 hpm, e_person, lit_nI 11]
    simp only [ob1_s, ob2_s, ck_t, lb_e, i0, nI_add, i1, nI_clamp (n := p) (by omega), nI_clamp (n := 20 + 40 * p + 11) (by omega)]
    cases (decide (¬ M 1 0 = 0) && (fl m (M 1) 5 p && fl m (M 1) 6 p))
    · rw [if_pos (show b2 false = 0 from rfl), if_pos (show b2 false = 0 from rfl)]
      exact ⟨_, rfl, rfl⟩
    · rw [if_neg (show ¬ b2 true = 0 by decide), if_neg (show ¬ b2 true = 0 by decide)]
      exact ⟨_, rfl, by rw [h1 _ _ _ (prP p hp8).2.2.2.2.2.2.1]⟩
theorem s_lock {n : Nat} {I M : St} (h : RR n I M) (x y : Int32) : Rd (f_X7_lock x y I) (f_X8_lock x y M) := by
  obtain ⟨m, e, t, h1, ⟨w1, w2, -⟩, -, -, h5⟩ := id h.1
  have hc : I 0 3 = nI m := by rw [h1 0 3 4 rfl, w2]
  have hm5 : I 0 5 = M 1 5 := h1 0 5 5 rfl
  simp only [f_X7_lock_b20, f_X7_lock_b44, f_X7_lock_b78, f_X7_lock, f_X8_lock_b17, f_X8_lock_b63, f_X8_lock_b56, f_X8_lock_b61, f_X8_lock, e_isPart w1 hc, e_isPerson w1 w2, e_isWithin, e_in, ib_0, ib_1, ib_2, ib_3, ib_4, ib_5, ib_6, ib_7, ib_8, ib_9, ib_10, ib_11, ib_12, ib_13, ib3_4, ib0_4, cl_0, cl_1, cl_2, cl_3, cl_4, cl_5, cl_6, cl_7, cl_8, cl_9, cl_10, cl_11, cl_12, cl_13, ob1_s, ob2_s, ck_t, lb_e, hm5]
  cases hp : pers m x
  · rw [if_pos (show b2 false = 0 from rfl), if_pos (show b2 false = 0 from rfl)]
    exact ⟨_, rfl, rfl⟩
  · obtain ⟨p, hpm, rfl⟩ := pers_ex w1 hp
    have hp8 : p < 8 := by omega
    have i0 : inb (nI p) 8 = true := inb_nI hp8 (by decide)
    have i1 : inb (nI (20 + 40 * p + 12)) 420 = true := inb_nI (by omega) (by decide)
    have i2 : inb (nI (20 + 40 * p + 13)) 420 = true := inb_nI (by omega) (by decide)
    rw [if_neg (show ¬ b2 true = 0 by decide), if_neg (show ¬ b2 true = 0 by decide)]
    cases hw : wi y 0 1
    · rw [if_pos (show b2 false = 0 from rfl), if_pos (show b2 false = 0 from rfl)]
      exact ⟨_, rfl, rfl⟩
    · rw [if_neg (show ¬ b2 true = 0 by decide), if_neg (show ¬ b2 true = 0 by decide)]
      by_cases h2 : M 1 5 = 2
      · rw [if_pos h2, if_pos h2, e_isCom (h1 0 9 0 rfl) h5 hp8, e_isIn w1 hpm, e_person]
        have a12 : nI (20 + 40 * p) + 12 = nI (20 + 40 * p + 12) := nI_add _ 12
        have a13 : nI (20 + 40 * p) + 13 = nI (20 + 40 * p + 13) := nI_add _ 13
        simp only [ob1_s, ob2_s, ck_t, lb_e, i0, a12, a13, i1, i2, nI_clamp (n := p) (by omega), nI_clamp (n := 20 + 40 * p + 12) (by omega), nI_clamp (n := 20 + 40 * p + 13) (by omega)]
        cases (decide (¬ M 1 0 = 0) && (fl m (M 1) 5 p && fl m (M 1) 6 p))
        · rw [if_pos (show b2 false = 0 from rfl), if_pos (show b2 false = 0 from rfl)]
          exact ⟨_, rfl, rfl⟩
        · rw [if_neg (show ¬ b2 true = 0 by decide), if_neg (show ¬ b2 true = 0 by decide)]
          by_cases hy : y = 0
          · rw [if_pos hy, if_pos hy]
            exact ⟨_, rfl, by rw [h1 _ _ _ (prP p hp8).2.2.2.2.2.2.2.1]⟩
          · rw [if_neg hy, if_neg hy]
            exact ⟨_, rfl, by rw [h1 _ _ _ (prP p hp8).2.2.2.2.2.2.2.2.1]⟩
      · rw [if_neg h2, if_neg h2]
        exact ⟨_, rfl, rfl⟩
/-- a share's holder and its dealer -/
theorem s_share {n : Nat} {I M : St} (h : RR n I M) (x y : Int32) : Rd (f_X7_share x y I) (f_X8_share x y M) := by
  obtain ⟨m, e, t, h1, ⟨w1, w2, -⟩, -, -, h5⟩ := id h.1
  have hc : I 0 3 = nI m := by rw [h1 0 3 4 rfl, w2]
  simp only [f_X7_share_b22, f_X7_share, f_X8_share_b40, f_X8_share_b16, f_X8_share, e_isPart w1 hc, e_isPerson w1 w2, ob1_s, ob2_s, ck_t, lb_e]
  cases hp : pers m x
  · rw [if_pos (show b2 false = 0 from rfl), if_pos (show b2 false = 0 from rfl)]
    exact ⟨_, rfl, rfl⟩
  · rw [if_neg (show ¬ b2 true = 0 by decide), if_neg (show ¬ b2 true = 0 by decide)]
    cases hq : pers m y
    · rw [if_pos (show b2 false = 0 from rfl), if_pos (show b2 false = 0 from rfl)]
      exact ⟨_, rfl, rfl⟩
    · rw [if_neg (show ¬ b2 true = 0 by decide), if_neg (show ¬ b2 true = 0 by decide)]
      obtain ⟨p, hpm, rfl⟩ := pers_ex w1 hp
      obtain ⟨j, hjm, rfl⟩ := pers_ex w1 hq
      have hp8 : p < 8 := by omega
      have hj8 : j < 8 := by omega
      have i0 : inb (nI p) 8 = true := inb_nI hp8 (by decide)
      have i1 : inb (nI j) 8 = true := inb_nI hj8 (by decide)
      rw [e_cShare (h1 0 9 0 rfl) (h1 0 5 5 rfl) h5 hp8 hj8, e_mShare w1 w2 hpm hjm, e_shareOf hp8 hj8]
      simp only [ob1_s, ob2_s, ck_t, lb_e, i0, i1, nI_clamp (n := p) (by omega), nI_clamp (n := j) (by omega)]
      cases (shB m (M 1) p && fl m (M 1) 5 j)
      · rw [if_pos (show b2 false = 0 from rfl), if_pos (show b2 false = 0 from rfl)]
        exact ⟨_, rfl, rfl⟩
      · rw [if_neg (show ¬ b2 true = 0 by decide), if_neg (show ¬ b2 true = 0 by decide)]
        exact ⟨_, rfl, by rw [h1 _ _ _ (prSh p j hp8 hj8)]⟩
theorem shB_DL {m t p : Nat} {L : St} {v : Nat → Int32} (h5 : v 0 ≠ 0 → RP m t L v) (hp : p < 8) (h : shB m v p = true) : DL t L v p := by
  simp only [shB, Bool.and_eq_true, decide_eq_true_eq] at h
  obtain ⟨a, b, c, d⟩ := h
  exact (h5 b).2.2.2.2.2.2 a p hp c d
theorem s_isRight {n : Nat} {I M : St} (h : RR n I M) (x y : Int32) : Rd (f_X7_isRight x y I) (f_X8_isRight x y M) := by
  obtain ⟨m, e, t, h1, ⟨w1, w2, w3, w4, w5, w6, w7, -⟩, -, -, h5⟩ := id h.1
  have hc : I 0 3 = nI m := by rw [h1 0 3 4 rfl, w2]
  simp only [f_X7_isRight_b22, f_X7_isRight_b63, f_X7_isRight, f_X8_isRight_b48, f_X8_isRight_b16, f_X8_isRight, e_isPart w1 hc, e_isPerson w1 w2, ob1_s, ob2_s, ck_t, lb_e]
  cases hp : pers m x
  · rw [if_pos (show b2 false = 0 from rfl), if_pos (show b2 false = 0 from rfl)]
    exact ⟨_, rfl, rfl⟩
  · rw [if_neg (show ¬ b2 true = 0 by decide), if_neg (show ¬ b2 true = 0 by decide)]
    cases hq : pers m y
    · rw [if_pos (show b2 false = 0 from rfl), if_pos (show b2 false = 0 from rfl)]
      exact ⟨_, rfl, rfl⟩
    · rw [if_neg (show ¬ b2 true = 0 by decide), if_neg (show ¬ b2 true = 0 by decide)]
      obtain ⟨p, hpm, rfl⟩ := pers_ex w1 hp
      obtain ⟨j, hjm, rfl⟩ := pers_ex w1 hq
      have hp8 : p < 8 := by omega
      have hj8 : j < 8 := by omega
      have i0 : inb (nI p) 8 = true := inb_nI hp8 (by decide)
      rw [e_cShare (h1 0 9 0 rfl) (h1 0 5 5 rfl) h5 hp8 hj8, e_mShare w1 w2 hpm hjm]
      simp only [ob1_s, ob2_s, ck_t, lb_e, i0, nI_clamp (n := p) (by omega)]
      cases hs : (shB m (M 1) p && fl m (M 1) 5 j)
      · rw [if_pos (show b2 false = 0 from rfl), if_pos (show b2 false = 0 from rfl)]
        exact ⟨_, rfl, rfl⟩
      · rw [if_neg (show ¬ b2 true = 0 by decide), if_neg (show ¬ b2 true = 0 by decide)]
        have hd := shB_DL h5 hp8 (by simp only [Bool.and_eq_true] at hs; exact hs.1)
        rw [hd.2.2, e_has _ hj8, e_isGood hp8 hj8 w5 w6 w7 hd.co]
        simp only [ob1_s]
        cases gd t (M 1) p j
        · rw [if_pos (show b2 false = 0 from rfl)]
          exact ⟨_, rfl, rfl⟩
        · rw [if_neg (show ¬ b2 true = 0 by decide)]
          exact ⟨_, rfl, rfl⟩
theorem e_mcheck {M : St} {p k c : Nat} (hp : p < 8) (hk : k < 8) (hc : c < 1019) (h : M 1 (20 + 40 * p + 14 + k) = nI c) : ∀ (d i F : Nat), i + d = c → d < F → f_X8_check_l41 F (nI p) (nI k) (nI (4 ^ i % 2039)) (nI i) M = some (nI (4 ^ c % 2039)) := by
  intro d
  have i1 : inb (nI (20 + 40 * p + 14 + k)) 420 = true := inb_nI (by omega) (by decide)
  induction d with
  | zero =>
    intro i F hi hF
    obtain ⟨F, rfl⟩ : ∃ g, F = g + 1 := ⟨F - 1, by omega⟩
    rw [f_X8_check_l41, e_person, ob1_s, lit_nI 14, nI_add, lb_e, nI_add, lb_e, i1, ck_t, nI_clamp (by omega), h, if_pos (nI_le (by omega) (by omega)), show i = c by omega]
  | succ d ih =>
    intro i F hi hF
    obtain ⟨F, rfl⟩ : ∃ g, F = g + 1 := ⟨F - 1, by omega⟩
    have hlt : 4 ^ i % 2039 < 2039 := Nat.mod_lt _ (by decide)
    rw [f_X8_check_l41, e_person, ob1_s, lit_nI 14, nI_add, lb_e, nI_add, lb_e, i1, ck_t, nI_clamp (by omega), h, if_neg (nI_ge (by omega) (by omega)), lit_nI 4, pk_mul, lb_e, lit_nI 2039, irem_nI (by omega) (by decide) (by decide), lb_e, nI_1]
    rw [show 4 ^ i % 2039 * 4 % 2039 = 4 ^ (i + 1) % 2039 from by rw [Nat.pow_succ, Nat.mul_mod, Nat.mod_mod, ← Nat.mul_mod]]
    exact ih (i + 1) F (by omega) (by omega)
theorem s_check {n : Nat} {I M : St} (h : RR n I M) (x y : Int32) : Rd (f_X7_check x y I) (f_X8_check x y M) := by
  obtain ⟨m, e, t, h1, ⟨w1, w2, w3, w4, w5, w6, w7, -⟩, -, -, h5⟩ := id h.1
  have hc : I 0 3 = nI m := by rw [h1 0 3 4 rfl, w2]
  have ht : I 0 6 = nI t := by rw [h1 0 6 6 rfl, w7]
  simp only [f_X7_check_b15, f_X7_check_b45, f_X7_check, f_X8_check_b12, f_X8_check_b33, f_X8_check, e_isPart w1 hc, e_isPerson w1 w2, ib_0, ib_1, ib_2, ib_3, ib_4, ib_5, ib_6, ib_7, ib_8, ib_9, ib_10, ib_11, ib_12, ib_13, ib3_4, ib0_4, cl_0, cl_1, cl_2, cl_3, cl_4, cl_5, cl_6, cl_7, cl_8, cl_9, cl_10, cl_11, cl_12, cl_13, ob1_s, ob2_s, ck_t, lb_e, ht, w7]
  cases hp : pers m x
  · rw [if_pos (show b2 false = 0 from rfl), if_pos (show b2 false = 0 from rfl)]
    exact ⟨_, rfl, rfl⟩
  · rw [if_neg (show ¬ b2 true = 0 by decide), if_neg (show ¬ b2 true = 0 by decide)]
    obtain ⟨p, hpm, rfl⟩ := pers_ex w1 hp
    have hp8 : p < 8 := by omega
    by_cases hy : (0 : Int32) ≤ y
    · rw [if_pos hy, if_pos hy, e_hasDealt (h1 0 9 0 rfl) (h1 0 5 5 rfl) h5 hp8, e_hasShares w1 w2 hpm, ob1_s, ob1_s]
      cases hs : shB m (M 1) p
      · rw [if_pos (show b2 false = 0 from rfl), if_pos (show b2 false = 0 from rfl)]
        exact ⟨_, rfl, rfl⟩
      · rw [if_neg (show ¬ b2 true = 0 by decide), if_neg (show ¬ b2 true = 0 by decide)]
        obtain ⟨k, k1, rfl⟩ := nI_of (show ¬ y < 0 from Int32.not_lt.mpr hy)
        by_cases hk : k < t
        · rw [if_neg (nI_ge hk (by omega)), if_pos (show nI k < (8 : Int32) from nI_lt (a := k) (b := 8) (by omega) (by decide)), if_pos (nI_lt hk (by omega))]
          have i0 : inb (nI p) 8 = true := inb_nI hp8 (by decide)
          have i1 : inb (nI k) 8 = true := inb_nI (by omega) (by decide)
          obtain ⟨c, c1, c2, c3⟩ := (shB_DL h5 hp8 hs).1 k hk
          refine ⟨nI (4 ^ c % 2039), ?_, ?_⟩
          · rw [i0, ck_t, i1, ck_t, nI_clamp (by omega), nI_clamp (by omega), c3]
          · rw [show (1 : Int32) = nI (4 ^ 0 % 2039) from rfl, lit_nI 0]
            exact e_mcheck hp8 (by omega) c1 c2 c 0 10000 (by omega) (by omega)
        · rw [if_pos (nI_le (by omega) (by omega)), if_neg (nI_nlt (by omega) (by omega))]
          exact ⟨_, rfl, rfl⟩
    · rw [if_neg hy, if_neg hy]
      exact ⟨_, rfl, rfl⟩
/-! the fingerprint -/
def RdL (a b : Option Int64) : Prop := ∃ r, a = some r ∧ b = some r
theorem f_acc_c {n m : Nat} {I M : St} (h : RR n I M) (hm : m ≤ 8) (m1 : M 1 4 = nI m) (m2 : I 0 3 = nI m) {p : Nat} (hp : p < m) (K : Int64 → Int32 → St → Option Int64) : ∀ (d i F : Nat) (a : Int64), i + d = 5 → d < F → f_X7_fingerprint_l74 K F a (nI p) (nI i) I = K (fo (fun k a => 31 * a + (M 1 (20 + 40 * p + k)).toInt64) d i a) (nI (p + 1)) I := by
  intro d
  induction d with
  | zero =>
    intro i F a hi hF
    obtain ⟨F, rfl⟩ : ∃ g, F = g + 1 := ⟨F - 1, by omega⟩
    rw [f_X7_fingerprint_l74, if_pos (show (4 : Int32) < nI i from nI_lt (a := 4) (by omega) (by omega)), nI_1]
    rfl
  | succ d ih =>
    intro i F a hi hF
    obtain ⟨F, rfl⟩ : ∃ g, F = g + 1 := ⟨F - 1, by omega⟩
    rw [f_X7_fingerprint_l74, if_neg (show ¬ (4 : Int32) < nI i from nI_nlt (a := 4) (by omega) (by omega)), lb_e, e_account h hm m1 m2 hp (by omega), ob1_s, lb_e, nI_1]
    exact ih (i + 1) F _ (by omega) (by omega)
theorem f_acc_m {M : St} {p : Nat} (hp : p < 8) (K : Int64 → Int32 → St → Option Int64) : ∀ (d i F : Nat) (a : Int64), i + d = 5 → d < F → f_X8_fingerprint_l63 K F a (nI p) (nI i) M = K (fo (fun k a => 31 * a + (M 1 (20 + 40 * p + k)).toInt64) d i a) (nI (p + 1)) M := by
  intro d
  induction d with
  | zero =>
    intro i F a hi hF
    obtain ⟨F, rfl⟩ : ∃ g, F = g + 1 := ⟨F - 1, by omega⟩
    rw [f_X8_fingerprint_l63, if_pos (show (5 : Int32) ≤ nI i from nI_le (a := 5) (by omega) (by omega)), nI_1]
    rfl
  | succ d ih =>
    intro i F a hi hF
    obtain ⟨F, rfl⟩ : ∃ g, F = g + 1 := ⟨F - 1, by omega⟩
    have i1 : inb (nI (20 + 40 * p + i)) 420 = true := inb_nI (by omega) (by decide)
    rw [f_X8_fingerprint_l63, if_neg (show ¬ (5 : Int32) ≤ nI i from nI_ge (b := 5) (by omega) (by omega)), lb_e, e_person, ob1_s, nI_add, lb_e, i1, ck_t, nI_clamp (by omega), lb_e, nI_1]
    exact ih (i + 1) F _ (by omega) (by omega)
theorem f_dig {n m : Nat} {I M : St} (h : RR n I M) (hm : m ≤ 8) (m1 : M 1 4 = nI m) (m2 : I 0 3 = nI m) (ph : ¬ M 1 0 = 0) : ∀ (d i F G : Nat) (a : Int64), i + d = m → d < F → d < G → RdL (f_X7_fingerprint_l147 F a (nI i) I) (f_X8_fingerprint_l138 G a (nI i) M) := by
  intro d
  induction d with
  | zero =>
    intro i F G a hi hF hG
    obtain ⟨F, rfl⟩ : ∃ g, F = g + 1 := ⟨F - 1, by omega⟩
    obtain ⟨G, rfl⟩ : ∃ g, G = g + 1 := ⟨G - 1, by omega⟩
    rw [f_X7_fingerprint_l147, m2, if_pos (nI_le (by omega) (by omega)), f_X8_fingerprint_l138, ib_4, ck_t, cl_4, m1, if_pos (nI_le (by omega) (by omega))]
    exact ⟨_, rfl, rfl⟩
  | succ d ih =>
    intro i F G a hi hF hG
    obtain ⟨F, rfl⟩ : ∃ g, F = g + 1 := ⟨F - 1, by omega⟩
    obtain ⟨G, rfl⟩ : ∃ g, G = g + 1 := ⟨G - 1, by omega⟩
    obtain ⟨r, r1, r2⟩ := s_digest h (nI i)
    rw [f_X7_fingerprint_l147, m2, if_neg (nI_ge (by omega) (by omega)), f_X8_fingerprint_l138, ib_4, ck_t, cl_4, m1, if_neg (nI_ge (by omega) (by omega)), ib_0, ck_t, cl_0, if_neg ph, lb_e, lb_e, r1, r2, ob1_s, ob1_s, lb_e, lb_e, nI_1]
    exact ih (i + 1) F G _ (by omega) (by omega) (by omega)
theorem f_sets {n m : Nat} {I M : St} (h : RR n I M) (hm : m ≤ 8) (m1 : M 1 4 = nI m) (m2 : I 0 3 = nI m) (ph : ¬ M 1 0 = 0) : ∀ (d i F G : Nat) (a : Int64), i + d = 4 → d < F → d < G → RdL (f_X7_fingerprint_l121 F a (nI i) I) (f_X8_fingerprint_l103 G a (nI i) M) := by
  intro d
  induction d with
  | zero =>
    intro i F G a hi hF hG
    obtain ⟨F, rfl⟩ : ∃ g, F = g + 1 := ⟨F - 1, by omega⟩
    obtain ⟨G, rfl⟩ : ∃ g, G = g + 1 := ⟨G - 1, by omega⟩
    rw [f_X7_fingerprint_l121, if_pos (show (3 : Int32) < nI i from nI_lt (a := 3) (by omega) (by omega)), f_X8_fingerprint_l103, if_pos (show (4 : Int32) ≤ nI i from nI_le (a := 4) (by omega) (by omega)), f_X8_fingerprint_b136, lit_nI 0]
    exact f_dig h hm m1 m2 ph m 0 10000 10000 a (by omega) (by omega) (by omega)
  | succ d ih =>
    intro i F G a hi hF hG
    obtain ⟨F, rfl⟩ : ∃ g, F = g + 1 := ⟨F - 1, by omega⟩
    obtain ⟨G, rfl⟩ : ∃ g, G = g + 1 := ⟨G - 1, by omega⟩
    obtain ⟨r, r1, r2⟩ := s_set h (nI i)
    have hw : ∀ i, i < 4 → wi (nI i) 0 3 = true := by decide
    have r3 : f_X8_setNumber (nI i) M = some r := by
      simp only [f_X8_set_b32, f_X8_set, e_in, hw i (by omega), ib_0, ib_1, ib_2, ib_3, ib_4, ib_5, ib_6, ib_7, ib_8, ib_9, ib_10, ib_11, ib_12, ib_13, ib3_4, ib0_4, cl_0, cl_1, cl_2, cl_3, cl_4, cl_5, cl_6, cl_7, cl_8, cl_9, cl_10, cl_11, cl_12, cl_13, ob1_s, ob2_s, ck_t, lb_e, if_neg ph] at r2
      rw [if_neg (show ¬ b2 true = 0 by decide)] at r2
      cases hz : f_X8_setNumber (nI i) M with
      | none => rw [hz] at r2; cases r2
      | some z => rw [hz] at r2; exact r2
    rw [f_X7_fingerprint_l121, if_neg (show ¬ (3 : Int32) < nI i from nI_nlt (a := 3) (by omega) (by omega)), f_X8_fingerprint_l103, if_neg (show ¬ (4 : Int32) ≤ nI i from nI_ge (b := 4) (by omega) (by omega)), ib_0, ck_t, cl_0, if_neg ph, lb_e, lb_e, r1, r3, ob1_s, ob1_s, lb_e, lb_e, nI_1]
    exact ih (i + 1) F G _ (by omega) (by omega) (by omega)
theorem f_acc {n m : Nat} {I M : St} (h : RR n I M) (hm : m ≤ 8) (m1 : M 1 4 = nI m) (m2 : I 0 3 = nI m) : ∀ (d i F G : Nat) (a : Int64), i + d = m → d < F → d < G → RdL (f_X7_fingerprint_l60 F a (nI i) I) (f_X8_fingerprint_l50 G a (nI i) M) := by
  have hph : I 0 9 = M 1 0 := h.1.le 0 9 0 rfl
  intro d
  induction d with
  | zero =>
    intro i F G a hi hF hG
    obtain ⟨F, rfl⟩ : ∃ g, F = g + 1 := ⟨F - 1, by omega⟩
    obtain ⟨G, rfl⟩ : ∃ g, G = g + 1 := ⟨G - 1, by omega⟩
    rw [f_X7_fingerprint_l60, m2, if_pos (nI_le (by omega) (by omega)), f_X8_fingerprint_l50, ib_4, ck_t, cl_4, m1, if_pos (nI_le (by omega) (by omega)), hph]
    by_cases ph : M 1 0 = 0
    · rw [if_pos ph]
      have key : ∀ G, 1 < G → ∀ H, 1 < H → f_X8_fingerprint_l138 H a 0 M = some a ∧ (f_X8_fingerprint_l103 G a 0 M = f_X8_fingerprint_b136 a M) := by
        intro G hG H hH
        obtain ⟨G, rfl⟩ : ∃ g, G = g + 1 := ⟨G - 1, by omega⟩
        obtain ⟨H, rfl⟩ : ∃ g, H = g + 1 := ⟨H - 1, by omega⟩
        constructor
        · rw [f_X8_fingerprint_l138, ib_4, ck_t, cl_4, ib_0, ck_t, cl_0, if_pos ph, ite_self]
          rfl
        · rw [f_X8_fingerprint_l103, if_neg (show ¬ (4 : Int32) ≤ 0 by decide), ib_0, ck_t, cl_0, if_pos ph]
      refine ⟨a, rfl, ?_⟩
      rw [(key 10000 (by decide) 10000 (by decide)).2, f_X8_fingerprint_b136]
      exact (key 10000 (by decide) 10000 (by decide)).1
    · rw [if_neg ph, lit_nI 0]
      exact f_sets h hm m1 m2 ph 4 0 10000 10000 a rfl (by decide) (by decide)
  | succ d ih =>
    intro i F G a hi hF hG
    obtain ⟨F, rfl⟩ : ∃ g, F = g + 1 := ⟨F - 1, by omega⟩
    obtain ⟨G, rfl⟩ : ∃ g, G = g + 1 := ⟨G - 1, by omega⟩
    rw [f_X7_fingerprint_l60, m2, if_neg (nI_ge (by omega) (by omega)), f_X8_fingerprint_l50, ib_4, ck_t, cl_4, m1, if_neg (nI_ge (by omega) (by omega)), lit_nI 0, f_acc_c h hm m1 m2 (p := i) (by omega) _ 5 0 10000 a rfl (by decide), f_acc_m (p := i) (by omega) _ 5 0 10000 a rfl (by decide)]
    exact ih (i + 1) F G _ (by omega) (by omega) (by omega)
theorem s_fingerprint {n : Nat} {I M : St} (h : RR n I M) : RdL (f_X7_fingerprint I) (f_X8_fingerprint M) := by
  obtain ⟨m, hm, m1, m2⟩ := h.1.many
  simp only [f_X7_fingerprint, f_X8_fingerprint, f_X7_phase, f_X7_rounds, f_X7_pot, ib_0, ib_1, ib_2, ib_3, ib_4, ib_5, ib_6, ib_7, ib_8, ib_9, ib_10, ib_11, ib_12, ib_13, ib3_4, ib0_4, cl_0, cl_1, cl_2, cl_3, cl_4, cl_5, cl_6, cl_7, cl_8, cl_9, cl_10, cl_11, cl_12, cl_13, ob1_s, ob2_s, ck_t, lb_e, h.1.le 0 9 0 rfl, h.1.le 3 0 1 rfl, h.1.le 0 4 2 rfl, h.1.le 3 1 3 rfl]
  rw [show (31 : Int64) * 23 = 713 by decide, lit_nI 0]
  exact f_acc h hm m1 m2 m 0 10000 10000 _ (by omega) (by omega) (by omega)
