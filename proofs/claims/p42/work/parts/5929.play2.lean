/-! playing: complaints -/
theorem e_comp_in_tail {m : Nat} (hm : m ≤ 8) {g10 g11 : Nat → Bool} (g5 : ∀ p, m ≤ p → g11 p = false) {I : St} (h10 : I 0 10 = bs g10) (h11 : I 0 11 = bs g11) (K2 : Int32 → St → Option St) {j : Nat} (hj : j < 8) : ∀ (d i F : Nat), i + d = 8 → d < F → m ≤ i → f_X2_complainAll_l10 K2 F (nI j) (nI i) I = K2 (nI (j + 1)) I := by
  intro d
  induction d with
  | zero =>
    intro i F hi hF _
    obtain ⟨F, rfl⟩ : ∃ g, F = g + 1 := ⟨F - 1, by omega⟩
    rw [f_X2_complainAll_l10, if_pos (show (8 : Int32) ≤ nI i from nI_le (a := 8) (by omega) (by omega)), nI_1]
  | succ d ih =>
    intro i F hi hF hmi
    obtain ⟨F, rfl⟩ : ∃ g, F = g + 1 := ⟨F - 1, by omega⟩
    have nx : f_X2_complainAll_b64 K2 (f_X2_complainAll_l10 K2 F) (nI j) (nI i) I = K2 (nI (j + 1)) I := by
      rw [f_X2_complainAll_b64, nI_1]
      exact ih (i + 1) F (by omega) (by omega) (by omega)
    rw [f_X2_complainAll_l10, if_neg (show ¬ (8 : Int32) ≤ nI i from nI_ge (b := 8) (by omega) (by omega)), lb_e, h10, e_has _ hj, ob1_s, lb_e, h11, e_has _ (by omega), ob1_s, g5 i hmi, if_pos (show b2 false = 0 from rfl), nx]
    split
    · rfl
    · split <;> rfl
theorem e_comp_out_tail {m : Nat} (hm : m ≤ 8) {g10 : Nat → Bool} (g5 : ∀ p, m ≤ p → g10 p = false) {I : St} (h10 : I 0 10 = bs g10) : ∀ (d i F : Nat), i + d = 8 → d < F → m ≤ i → f_X2_complainAll_l2 F (nI i) I = some I := by
  intro d
  induction d with
  | zero =>
    intro i F hi hF _
    obtain ⟨F, rfl⟩ : ∃ g, F = g + 1 := ⟨F - 1, by omega⟩
    rw [f_X2_complainAll_l2, if_pos (show (8 : Int32) ≤ nI i from nI_le (a := 8) (by omega) (by omega))]
  | succ d ih =>
    intro i F hi hF hmi
    obtain ⟨F, rfl⟩ : ∃ g, F = g + 1 := ⟨F - 1, by omega⟩
    have inner : ∀ (d q G : Nat), q + d = 8 → d < G → f_X2_complainAll_l10 (f_X2_complainAll_l2 F) G (nI i) (nI q) I = f_X2_complainAll_l2 F (nI (i + 1)) I := by
      intro d
      induction d with
      | zero =>
        intro q G hq hG
        obtain ⟨G, rfl⟩ : ∃ g, G = g + 1 := ⟨G - 1, by omega⟩
        rw [f_X2_complainAll_l10, if_pos (show (8 : Int32) ≤ nI q from nI_le (a := 8) (by omega) (by omega)), nI_1]
      | succ d ih2 =>
        intro q G hq hG
        obtain ⟨G, rfl⟩ : ∃ g, G = g + 1 := ⟨G - 1, by omega⟩
        have nx : f_X2_complainAll_b64 (f_X2_complainAll_l2 F) (f_X2_complainAll_l10 (f_X2_complainAll_l2 F) G) (nI i) (nI q) I = f_X2_complainAll_l2 F (nI (i + 1)) I := by
          rw [f_X2_complainAll_b64, nI_1]
          exact ih2 (q + 1) G (by omega) (by omega)
        rw [f_X2_complainAll_l10, if_neg (show ¬ (8 : Int32) ≤ nI q from nI_ge (b := 8) (by omega) (by omega)), lb_e, h10, e_has _ (by omega), ob1_s, g5 i hmi, if_pos (show b2 false = 0 from rfl), nx]
        split <;> rfl
    rw [f_X2_complainAll_l2, if_neg (show ¬ (8 : Int32) ≤ nI i from nI_ge (b := 8) (by omega) (by omega)), lit_nI 0, inner 8 0 10000 (by decide) (by decide)]
    exact ih (i + 1) F (by omega) (by omega) (by omega)
theorem e_comp_in {m e t n : Nat} {I0 M0 : St} (K2 K3 : Int32 → St → Option St) {j : Nat} (hj : j < m) : ∀ (d i F G : Nat) (I M : St), i + d = m → d + 9 < F → d < G → K m e t n 1 I0 M0 I M → M 1 5 = 1 → ∃ I' M', f_X2_complainAll_l10 K2 F (nI j) (nI i) I = K2 (nI (j + 1)) I' ∧ f_X8_cheats_l66 K3 G (nI j) (nI i) M = K3 (nI (j + 1)) M' ∧ K m e t n 1 I0 M0 I' M' ∧ M' 1 5 = 1 := by
  intro d
  induction d with
  | zero =>
    intro i F G I M hi hF hG h h5
    obtain ⟨G, rfl⟩ : ∃ g, G = g + 1 := ⟨G - 1, by omega⟩
    have w1 := h.1.2.1.1
    have w2 := h.1.2.1.2.1
    refine ⟨I, M, e_comp_in_tail w1 (fun p hp => by rw [fl_ge hp]; rfl) h.2.1.1 h.2.1.2.1 K2 (by omega) (8 - i) i F (by omega) (by omega) (by omega), ?_, h, h5⟩
    rw [f_X8_cheats_l66, ib_4, ck_t, cl_4, w2, if_pos (nI_le (by omega) (by omega)), nI_1]
  | succ d ih =>
    intro i F G I M hi hF hG h h5
    obtain ⟨F, rfl⟩ : ∃ g, F = g + 1 := ⟨F - 1, by omega⟩
    obtain ⟨G, rfl⟩ : ∃ g, G = g + 1 := ⟨G - 1, by omega⟩
    have w1 := h.1.2.1.1
    have w2 := h.1.2.1.2.1
    have i8 : i < 8 := by omega
    have im : i < m := by omega
    have skip : ∃ I' M', f_X2_complainAll_b64 K2 (f_X2_complainAll_l10 K2 F) (nI j) (nI i) I = K2 (nI (j + 1)) I' ∧ f_X8_cheats_b106 K3 (f_X8_cheats_l66 K3 G) (nI j) (nI i) M = K3 (nI (j + 1)) M' ∧ K m e t n 1 I0 M0 I' M' ∧ M' 1 5 = 1 := by
      rw [f_X2_complainAll_b64, f_X8_cheats_b106, nI_1]
      exact ih (i + 1) F G I M (by omega) (by omega) (by omega) h h5
    rw [f_X2_complainAll_l10, if_neg (show ¬ (8 : Int32) ≤ nI i from nI_ge (b := 8) (by omega) (by omega)), f_X8_cheats_l66, ib_4, ck_t, cl_4, w2, if_neg (nI_ge (by omega) (by omega))]
    by_cases e : i = j
    · rw [if_pos (by rw [e]), if_pos (by rw [e])]
      exact skip
    · rw [if_neg (fun q => e ((nI_eq (by omega) (by omega)).1 q).symm), if_neg (fun q => e ((nI_eq (by omega) (by omega)).1 q)), lb_e (I 0 10), h.2.1.1, e_has _ (by omega), ob1_s, e_mShare w1 w2 im hj, ob1_s, shB_1 h5 (by rw [h.2.2.1]; rfl)]
      cases hfj : fl m (M 1) 5 j
      · rw [Bool.and_false, if_pos (show b2 false = 0 from rfl), if_pos (show b2 false = 0 from rfl)]
        exact skip
      · rw [Bool.and_true, if_neg (show ¬ b2 true = 0 by decide), lb_e (I 0 11), h.2.1.2.1, e_has _ i8, ob1_s]
        cases hf : (fl m (M 1) 5 i && fl m (M 1) 6 i)
        · rw [if_pos (show b2 false = 0 from rfl), if_pos (show b2 false = 0 from rfl)]
          exact skip
        · obtain ⟨f5, f6⟩ := Bool.and_eq_true_iff.mp hf
          have hd := h.2.1.2.2.2.2.2.2 h5 i i8 f5 f6
          rw [if_neg (show ¬ b2 true = 0 by decide), if_neg (show ¬ b2 true = 0 by decide), inb_nI i8 (by decide), ck_t, nI_clamp (n := i) (by omega), lb_e, hd.2.2, e_has _ (by omega), ob1_s, e_isGood i8 (by omega) h.1.2.1.2.2.2.2.1 h.1.2.1.2.2.2.2.2.1 h.1.2.1.2.2.2.2.2.2.1 hd.co, ob1_s]
          cases hg : gd t (M 1) i j
          · obtain ⟨I', M', g1, g2, g3, g4⟩ := h.expel im (show j < 8 by omega) h5 f5 f6 hg
            obtain ⟨I'', M'', k1, k2, k3⟩ := ih (i + 1) F G I' M' (by omega) (by omega) (by omega) g3 g4
            refine ⟨I'', M'', ?_, ?_, k3⟩
            · rw [if_pos (show b2 false = 0 from rfl), g1, ob1_s, f_X2_complainAll_b64, nI_1]; exact k1
            · rw [if_pos (show b2 false = 0 from rfl), g2, ob2_s, f_X8_cheats_b106, nI_1]; exact k2
          · rw [if_neg (show ¬ b2 true = 0 by decide), if_neg (show ¬ b2 true = 0 by decide)]
            exact skip
theorem e_comp_out {m e t n : Nat} {I0 M0 : St} : ∀ (d i F G : Nat) (I M : St), i + d = m → d + 9 < F → d < G → K m e t n 1 I0 M0 I M → M 1 5 = 1 → ∃ I' M', f_X2_complainAll_l2 F (nI i) I = some I' ∧ f_X8_cheats_l54 G (nI i) M = some M' ∧ K m e t n 1 I0 M0 I' M' := by
  intro d
  induction d with
  | zero =>
    intro i F G I M hi hF hG h h5
    obtain ⟨G, rfl⟩ : ∃ g, G = g + 1 := ⟨G - 1, by omega⟩
    have w1 := h.1.2.1.1
    have w2 := h.1.2.1.2.1
    refine ⟨I, M, e_comp_out_tail w1 (fun p hp => fl_ge hp) h.2.1.1 (8 - i) i F (by omega) (by omega) (by omega), ?_, h⟩
    rw [f_X8_cheats_l54, ib_4, ck_t, cl_4, w2, if_pos (nI_le (by omega) (by omega))]
  | succ d ih =>
    intro i F G I M hi hF hG h h5
    obtain ⟨F, rfl⟩ : ∃ g, F = g + 1 := ⟨F - 1, by omega⟩
    obtain ⟨G, rfl⟩ : ∃ g, G = g + 1 := ⟨G - 1, by omega⟩
    have w1 := h.1.2.1.1
    have w2 := h.1.2.1.2.1
    obtain ⟨I', M', a1, a2, a3, a4⟩ := e_comp_in (f_X2_complainAll_l2 F) (f_X8_cheats_l54 G) (show i < m by omega) m 0 10000 10000 I M (by omega) (by omega) (by omega) h h5
    obtain ⟨I'', M'', k1, k2, k3⟩ := ih (i + 1) F G I' M' (by omega) (by omega) (by omega) a3 a4
    refine ⟨I'', M'', ?_, ?_, k3⟩
    · rw [f_X2_complainAll_l2, if_neg (show ¬ (8 : Int32) ≤ nI i from nI_ge (b := 8) (by omega) (by omega)), lit_nI 0, a1]; exact k1
    · rw [f_X8_cheats_l54, ib_4, ck_t, cl_4, w2, if_neg (nI_ge (by omega) (by omega)), lit_nI 0, a2]; exact k2
/-! playing: openings -/
theorem K.mark0 {m e t n : Nat} {I0 M0 I M : St} (h : K m e t n 2 I0 M0 I M) {p : Nat} (hp : p < m) (f5 : fl m (M 1) 5 p = false) (x : Int32) : K m e t n 2 I0 M0 I (u2 M 1 (20 + 40 * p + 7) x) := by
  obtain ⟨lc, rp, hph, hI, hM⟩ := h
  have w1 := lc.2.1.1
  have w6 : t ≤ 8 := lc.2.1.2.2.2.2.2.1
  refine ⟨?_, ?_, ?_, hI, hM.u1⟩
  · rw [u2_row]
    exact lc.mod (i := 20 + 40 * p + 7) (ip_mk _ (by omega) (by omega) (by omega) (by omega)) (by omega) _
  · rw [u2_row]
    obtain ⟨r1, r2, r3, r4, r5, r6, r7⟩ := rp
    have e : ∀ q w, w < 40 → ¬ (q = p ∧ w = 7) → fl m (upd (M 1) (20 + 40 * p + 7) x) w q = fl m (M 1) w q := fun q w hw z => fl.cg fun _ => by rw [upd_ap, if_neg (by omega)]
    refine ⟨?_, ?_, ?_, ?_, ?_, ?_, ?_⟩
    · rw [r1]; exact bs_congr fun q _ => (e q 5 (by decide) (by omega)).symm
    · rw [r2]; exact bs_congr fun q _ => by rw [e q 5 (by decide) (by omega), e q 6 (by decide) (by omega)]
    · rw [r3]
      refine bs_congr fun q _ => ?_
      rw [e q 5 (by decide) (by omega)]
      by_cases c : q = p
      · rw [c, f5]; rfl
      · rw [e q 7 (by decide) (by omega)]
    · rw [r4]; exact bs_congr fun q _ => (e q 8 (by decide) (by omega)).symm
    · rw [upd_ap, if_neg (by omega), hph]; intro z; exact absurd z (show ¬ (2 : Int32) = 1 by decide)
    · rw [upd_ap, if_neg (by omega)]; intro z q hq; rw [e q 5 (by decide) (by omega), e q 6 (by decide) (by omega)]; exact r6 z q hq
    · rw [upd_ap, if_neg (by omega)]; intro z q hq; rw [e q 5 (by decide) (by omega), e q 6 (by decide) (by omega)]
      exact fun a b => (r7 z q hq a b).cg w6 rfl (fun _ _ => rfl) (fun w' _ _ => by rw [upd_ap, if_neg (by omega)])
  · rw [u2_row, upd_ap, if_neg (by omega)]; exact hph
theorem e_hon_tail {m : Nat} (hm : m ≤ 8) {g10 : Nat → Bool} (g5 : ∀ p, m ≤ p → g10 p = false) {I : St} (h10 : I 0 10 = bs g10) : ∀ (d i F : Nat), i + d = 8 → d < F → m ≤ i → f_X2_openHonest_l2 F (nI i) I = some I := by
  intro d
  induction d with
  | zero =>
    intro i F hi hF _
    obtain ⟨F, rfl⟩ : ∃ g, F = g + 1 := ⟨F - 1, by omega⟩
    rw [f_X2_openHonest_l2, if_pos (show (8 : Int32) ≤ nI i from nI_le (a := 8) (by omega) (by omega))]
  | succ d ih =>
    intro i F hi hF hmi
    obtain ⟨F, rfl⟩ : ∃ g, F = g + 1 := ⟨F - 1, by omega⟩
    rw [f_X2_openHonest_l2, if_neg (show ¬ (8 : Int32) ≤ nI i from nI_ge (b := 8) (by omega) (by omega)), inb_nI (by omega) (by decide), ck_t, lb_e, lb_e, h10, e_has _ (by omega), ob1_s, g5 i hmi, if_pos (show b2 false = 0 from rfl), f_X2_openHonest_b50, nI_1]
    exact ih (i + 1) F (by omega) (by omega) (by omega)
theorem e_hon_l {m e t n : Nat} {I0 M0 : St} : ∀ (d i F G : Nat) (I M : St), i + d = m → d + 9 < F → d < G → K m e t n 2 I0 M0 I M → (∀ q, i ≤ q → q < 8 → fl m (M 1) 7 q = false) → (∀ q, q < i → M 1 (20 + 40 * q + 4) = 2 → fl m (M 1) 5 q = true → fl m (M 1) 7 q = false) → ∃ I' M', f_X2_openHonest_l2 F (nI i) I = some I' ∧ f_X8_decides_l2 G (nI i) M = f_X8_decides_l67 10000 (nI 0) M' ∧ K m e t n 2 I0 M0 I' M' ∧ (∀ q, q < m → M' 1 (20 + 40 * q + 4) = 2 → fl m (M' 1) 5 q = true → fl m (M' 1) 7 q = false) := by
  intro d
  induction d with
  | zero =>
    intro i F G I M hi hF hG h h7 hs
    obtain ⟨G, rfl⟩ : ∃ g, G = g + 1 := ⟨G - 1, by omega⟩
    have w1 := h.1.2.1.1
    have w2 := h.1.2.1.2.1
    refine ⟨I, M, e_hon_tail w1 (fun p hp => fl_ge hp) h.2.1.1 (8 - i) i F (by omega) (by omega) (by omega), ?_, h, fun q hq => hs q (by omega)⟩
    rw [f_X8_decides_l2, ib_4, ck_t, cl_4, w2, if_pos (nI_le (by omega) (by omega)), lit_nI 0]
  | succ d ih =>
    intro i F G I M hi hF hG h h7 hs
    obtain ⟨F, rfl⟩ : ∃ g, F = g + 1 := ⟨F - 1, by omega⟩
    obtain ⟨G, rfl⟩ : ∃ g, G = g + 1 := ⟨G - 1, by omega⟩
    have w1 := h.1.2.1.1
    have w2 := h.1.2.1.2.1
    have i8 : i < 8 := by omega
    have im : i < m := by omega
    have x4 : I (5 + i) 1 = M 1 (20 + 40 * i + 4) := h.1.1 _ _ _ (prP i i8).2.1
    have i7 : inb (nI (20 + 40 * i + 7)) 420 = true := inb_nI (by omega) (by decide)
    have c7 : (nI (20 + 40 * i + 7)).toNatClampNeg = 20 + 40 * i + 7 := nI_clamp (by omega)
    -- what goes on
    have go : ∀ (I2 : St) (x : Int32), K m e t n 2 I0 M0 I2 (u2 M 1 (20 + 40 * i + 7) x) → (M 1 (20 + 40 * i + 4) = 2 → fl m (M 1) 5 i = true → ¬ x = 1) → ∃ I' M', f_X2_openHonest_l2 F (nI (i + 1)) I2 = some I' ∧ f_X8_decides_l2 G (nI (i + 1)) (u2 M 1 (20 + 40 * i + 7) x) = f_X8_decides_l67 10000 (nI 0) M' ∧ K m e t n 2 I0 M0 I' M' ∧ (∀ q, q < m → M' 1 (20 + 40 * q + 4) = 2 → fl m (M' 1) 5 q = true → fl m (M' 1) 7 q = false) := fun I2 x k hx => by
      have row : ∀ r, r ≠ 20 + 40 * i + 7 → u2 M 1 (20 + 40 * i + 7) x 1 r = M 1 r := fun r hr => by rw [u2_row, upd_ap, if_neg hr]
      refine ih (i + 1) F G I2 _ (by omega) (by omega) (by omega) k (fun q a b => ?_) (fun q a b c => ?_)
      · rw [fl.cg (fun _ => row _ (by omega))]
        exact h7 q (by omega) b
      · rw [row _ (by omega)] at b
        rw [fl.cg (fun _ => row _ (by omega))] at c
        by_cases e : q = i
        · subst e
          unfold fl
          rw [u2_row, upd_ap, if_pos rfl, decide_eq_false (hx b c), Bool.and_false]
        · rw [fl.cg (fun _ => row _ (by omega))]
          exact hs q (by omega) b c
    have noI : fl m (M 1) 5 i = true → I = u2 I 0 12 (bs (fun q => if q = i then false else fl m (M 1) 5 q && fl m (M 1) 7 q)) := fun f5 => by
      refine (u2_self I 0 12 ?_).symm
      rw [h.2.1.2.2.1]
      refine bs_congr fun q hq => ?_
      by_cases c : q = i
      · rw [if_pos c, c, h7 i (Nat.le_refl _) i8, Bool.and_false]
      · rw [if_neg c]
    have yesI : I 0 12 ||| ishl 1 (nI i) = bs (fun q => if q = i then true else fl m (M 1) 5 q && fl m (M 1) 7 q) := by
      rw [h.2.1.2.2.1, bs_add _ i8]
      refine bs_congr fun q hq => ?_
      by_cases c : q = i
      · rw [if_pos c, c]; simp
      · rw [if_neg c]; simp [c]
    rw [f_X2_openHonest_l2, if_neg (show ¬ (8 : Int32) ≤ nI i from nI_ge (b := 8) (by omega) (by omega)), inb_nI i8 (by decide), ck_t, nI_clamp (n := i) (by omega), x4, lb_e, lb_e, h.2.1.1, e_has _ i8, ob1_s]
    rw [f_X8_decides_l2, ib_4, ck_t, cl_4, w2, if_neg (nI_ge (by omega) (by omega)), e_person, ob1_s, lit_nI 4, nI_add, lb_e, inb_nI (by omega) (by decide), ck_t, nI_clamp (n := 20 + 40 * i + 4) (by omega), lb_e, ob1_s, lit_nI 7, nI_add, lb_e, lit_nI 5, e_mhas i8 (by decide), ob1_s, fl_mem im]
    cases hf : fl m (M 1) 5 i
    · rw [if_pos (show b2 false = 0 from rfl), if_pos (show b2 false = 0 from rfl), f_X2_openHonest_b50, f_X8_decides_b57, f_X8_decides_b58, i7, ck_t, c7, lb_e, nI_1]
      exact go I 0 (h.mark0 im hf 0) (fun _ z => by rw [hf] at z; cases z)
    · rw [if_neg (show ¬ b2 true = 0 by decide), if_neg (show ¬ b2 true = 0 by decide)]
      have kt := h.mark im hf true (I' := u2 I 0 12 (I 0 12 ||| ishl 1 (nI i))) (by rw [yesI])
      have kf := h.mark im hf false (I' := I) (noI hf)
      have yes : M 1 (20 + 40 * i + 4) ≠ 2 → ∃ I' M', f_X2_openHonest_b38 (f_X2_openHonest_l2 F) (nI i) I = some I' ∧ f_X8_decides_b53 (f_X8_decides_l2 G) (nI i) (nI (20 + 40 * i + 7)) M = f_X8_decides_l67 10000 (nI 0) M' ∧ K m e t n 2 I0 M0 I' M' ∧ (∀ q, q < m → M' 1 (20 + 40 * q + 4) = 2 → fl m (M' 1) 5 q = true → fl m (M' 1) 7 q = false) := fun ne => by
        rw [f_X2_openHonest_b38, lb_e, lb_e, f_X2_openHonest_b50, f_X8_decides_b53, f_X8_decides_b58, i7, ck_t, c7, lb_e, nI_1]
        exact go _ _ kt (fun z _ => absurd z ne)
      by_cases z0 : M 1 (20 + 40 * i + 4) = 0
      · rw [if_pos z0, if_pos z0]
        exact yes (by rw [z0]; decide)
      · rw [if_neg z0, if_neg z0]
        by_cases z3 : M 1 (20 + 40 * i + 4) = 3
        · rw [if_pos z3, if_pos z3]
          exact yes (by rw [z3]; decide)
        · rw [if_neg z3, if_neg z3, f_X2_openHonest_b50, f_X8_decides_b57, f_X8_decides_b58, i7, ck_t, c7, lb_e, nI_1]
          exact go I _ kf (fun _ _ => by decide)
/-! what a selfish one looks at -/
def sec (v : Nat → Int32) (p : Nat) : Int32 := v (20 + 40 * p + 9)
def one (m t : Nat) (v : Nat → Int32) (g : Nat → Bool) : Bool := !lost m t v g && decide (outF m v (sec v) g &&& 1 = 1)
theorem outF_congr {m : Nat} {v R R' : Nat → Int32} {g : Nat → Bool} (h : ∀ p, p < m → R p = R' p) : outF m v R g = outF m v R' g := by
  unfold outF
  refine mixr_congr 8 0 _ fun p _ _ => ⟨rfl, fun f => ?_⟩
  rw [h p (Nat.lt_of_not_le fun z => by rw [fl_ge z] at f; cases f)]
theorem csF_lost {m t : Nat} {v : Nat → Int32} {g : Nat → Bool} (h : lost m t v g = true) : csF m t v g = -1 := if_pos h
theorem csF_not {m t : Nat} {v : Nat → Int32} {g : Nat → Bool} (h : lost m t v g = false) : csF m t v g ≠ -1 := by
  unfold csF
  rw [h, if_neg (by decide)]
  split
  · exact bs_ne _
  · exact bs_ne _
theorem K.sec {m e t n ph : Nat} {I0 M0 I M : St} (h : K m e t n ph I0 M0 I M) : ∀ p, p < m → p < 8 → I 2 p = sec (M 1) p := fun p _ hp => h.1.1 _ _ _ (prP p hp).2.2.2.2.2.2.2.2.2.2
theorem e_gives {m e t n : Nat} {I0 M0 I M : St} (h : K m e t n 2 I0 M0 I M) (g : Nat → Bool) : f_X2_givesOne (bs g) I = some (b2 (one m t (M 1) g)) := by
  rw [f_X2_givesOne, e_counted h g, ob1_s]
  unfold one
  cases hl : lost m t (M 1) g
  · rw [if_neg (csF_not hl), e_cmix (R := sec (M 1)) (by decide) hl (h.1.1 3 1 3 rfl) h.2.1.1 h.sec, ob1_s, lb_e]
    by_cases c : outF m (M 1) (sec (M 1)) g &&& 1 = 1
    · rw [if_pos c, f_X2_givesOne_b31, isB_1, ck_t, decide_eq_true c]; rfl
    · rw [if_neg c, f_X2_givesOne_b30, f_X2_givesOne_b31, isB_0, ck_t, decide_eq_false c]; rfl
  · rw [if_pos (csF_lost hl), f_X2_givesOne_b30, f_X2_givesOne_b31, isB_0, ck_t]; rfl
theorem e_coin {m e t n : Nat} {I0 M0 I M : St} (h : K m e t n 2 I0 M0 I M) (g : Nat → Bool) (hg : ∀ j, g j = true → j < m) : ∃ r M', f_X8_coinOf (bs g) M = some (r, M') ∧ (r = 1 ↔ one m t (M 1) g = true) ∧ K m e t n 2 I0 M0 I M' ∧ M' 1 = M 1 := by
  obtain ⟨M1, t1, t2, t3⟩ := e_takes h.1.2.1.1 M h.1.2.1.2.1
  have row1 : M1 1 = M 1 := t2 1 (by decide)
  have k1 : K m e t n 2 I0 M0 I M1 := h.mrow row1 ⟨by rw [t2 2 (by decide)]; exact h.2.2.2.2.1, by rw [t2 0 (by decide)]; exact h.2.2.2.2.2⟩
  have eo := e_outputOf k1 g hg
  rw [row1, outF_congr (R' := sec (M 1)) t3] at eo
  have row2 : u2 M1 0 4 (b2 (lost m t (M 1) g)) 1 = M1 1 := u2_off _ _ _ _ (by decide)
  have k2 := k1.mrow row2 (k1.2.2.2.2.u0 (i := 4) (x := b2 (lost m t (M 1) g)) (by decide))
  have r4 : ∀ y, u2 M1 0 4 y 0 4 = y := fun y => by rw [u2_row, upd_ap, if_pos rfl]
  unfold one
  cases hl : lost m t (M 1) g
  · rw [hl] at eo k2 row2
    refine ⟨outF m (M 1) (sec (M 1)) g &&& 1, u2 M1 0 4 (b2 false), ?_, ?_, k2, row2.trans row1⟩
    · rw [f_X8_coinOf, t1, ob1_s, eo, ob2_s, r4, if_pos (show b2 false = 0 from rfl), f_X8_coinOf_b25]
    · simp
  · rw [hl] at eo k2 row2
    refine ⟨-5, u2 M1 0 4 (b2 true), ?_, ?_, k2, row2.trans row1⟩
    · rw [f_X8_coinOf, t1, ob1_s, eo, ob2_s, r4, if_neg (show ¬ b2 true = 0 by decide), f_X8_coinOf_b25]
    · simp
theorem e_self_tail {m : Nat} (hm : m ≤ 8) {g10 : Nat → Bool} (g5 : ∀ p, m ≤ p → g10 p = false) {I : St} (h10 : I 0 10 = bs g10) : ∀ (d i F : Nat), i + d = 8 → d < F → m ≤ i → f_X2_openSelfish_l2 F (nI i) I = some I := by
  intro d
  induction d with
  | zero =>
    intro i F hi hF _
    obtain ⟨F, rfl⟩ : ∃ g, F = g + 1 := ⟨F - 1, by omega⟩
    rw [f_X2_openSelfish_l2, if_pos (show (8 : Int32) ≤ nI i from nI_le (a := 8) (by omega) (by omega))]
  | succ d ih =>
    intro i F hi hF hmi
    obtain ⟨F, rfl⟩ : ∃ g, F = g + 1 := ⟨F - 1, by omega⟩
    rw [f_X2_openSelfish_l2, if_neg (show ¬ (8 : Int32) ≤ nI i from nI_ge (b := 8) (by omega) (by omega)), lb_e, h10, e_has _ (by omega), ob1_s, g5 i hmi, if_pos (show b2 false = 0 from rfl), f_X2_openSelfish_b65, nI_1]
    exact ih (i + 1) F (by omega) (by omega) (by omega)
theorem e_self_l {m e t n : Nat} {I0 M0 : St} : ∀ (d i F G : Nat) (I M : St), i + d = m → d + 9 < F → d < G → K m e t n 2 I0 M0 I M → (∀ q, i ≤ q → q < m → M 1 (20 + 40 * q + 4) = 2 → fl m (M 1) 5 q = true → fl m (M 1) 7 q = false) → ∃ I' M', f_X2_openSelfish_l2 F (nI i) I = some I' ∧ f_X8_decides_l67 G (nI i) M = some M' ∧ K m e t n 2 I0 M0 I' M' := by
  intro d
  induction d with
  | zero =>
    intro i F G I M hi hF hG h _
    obtain ⟨G, rfl⟩ : ∃ g, G = g + 1 := ⟨G - 1, by omega⟩
    have w1 := h.1.2.1.1
    have w2 := h.1.2.1.2.1
    refine ⟨I, M, e_self_tail w1 (fun p hp => fl_ge hp) h.2.1.1 (8 - i) i F (by omega) (by omega) (by omega), ?_, h⟩
    rw [f_X8_decides_l67, ib_4, ck_t, cl_4, w2, if_pos (nI_le (by omega) (by omega))]
  | succ d ih =>
    intro i F G I M hi hF hG h hs
    obtain ⟨F, rfl⟩ : ∃ g, F = g + 1 := ⟨F - 1, by omega⟩
    obtain ⟨G, rfl⟩ : ∃ g, G = g + 1 := ⟨G - 1, by omega⟩
    have w1 := h.1.2.1.1
    have w2 := h.1.2.1.2.1
    have i8 : i < 8 := by omega
    have im : i < m := by omega
    have x4 : I (5 + i) 1 = M 1 (20 + 40 * i + 4) := h.1.1 _ _ _ (prP i i8).2.1
    have i7 : inb (nI (20 + 40 * i + 7)) 420 = true := inb_nI (by omega) (by decide)
    have c7 : (nI (20 + 40 * i + 7)).toNatClampNeg = 20 + 40 * i + 7 := nI_clamp (by omega)
    have skip : ∃ I' M', f_X2_openSelfish_b65 (f_X2_openSelfish_l2 F) (nI i) I = some I' ∧ f_X8_decides_b163 (f_X8_decides_l67 G) (nI i) M = some M' ∧ K m e t n 2 I0 M0 I' M' := by
      rw [f_X2_openSelfish_b65, f_X8_decides_b163, nI_1]
      exact ih (i + 1) F G I M (by omega) (by omega) (by omega) h (fun q a => hs q (by omega))
    rw [f_X2_openSelfish_l2, if_neg (show ¬ (8 : Int32) ≤ nI i from nI_ge (b := 8) (by omega) (by omega)), lb_e, h.2.1.1, e_has _ i8, ob1_s, f_X8_decides_l67, ib_4, ck_t, cl_4, w2, if_neg (nI_ge (by omega) (by omega)), lit_nI 5, e_mhas i8 (by decide), ob1_s, fl_mem im]
    cases hf : fl m (M 1) 5 i
    · rw [if_pos (show b2 false = 0 from rfl), if_pos (show b2 false = 0 from rfl)]
      exact skip
    · rw [if_neg (show ¬ b2 true = 0 by decide), if_neg (show ¬ b2 true = 0 by decide), inb_nI i8 (by decide), ck_t, nI_clamp (n := i) (by omega), x4, lb_e (M 1 (20 + 40 * i + 4)), e_person, ob1_s, lit_nI 4, nI_add, lb_e (nI (20 + 40 * i + 4)), inb_nI (by omega) (by decide), ck_t, nI_clamp (n := 20 + 40 * i + 4) (by omega), lb_e (M 1 (20 + 40 * i + 4))]
      by_cases z2 : M 1 (20 + 40 * i + 4) = 2
      · obtain ⟨g, hg⟩ : ∃ g : Nat → Bool, g = fun p => fl m (M 1) 5 p && fl m (M 1) 7 p := ⟨_, rfl⟩
        have hg' : ∀ p, g p = (fl m (M 1) 5 p && fl m (M 1) 7 p) := fun p => by rw [hg]
        obtain ⟨g1, hg1⟩ : ∃ g1 : Nat → Bool, g1 = fun p => g p || decide (p = i) := ⟨_, rfl⟩
        have hg1' : ∀ p, g1 p = (g p || decide (p = i)) := fun p => by rw [hg1]
        have lm : ∀ j, g j = true → j < m := fun j hj => Nat.lt_of_not_le fun z => by rw [hg', fl_ge z] at hj; cases hj
        have lm1 : ∀ j, g1 j = true → j < m := fun j hj => by
          rw [hg1'] at hj
          rcases Bool.or_eq_true_iff.mp hj with q | q
          · exact lm j q
          · rw [of_decide_eq_true q]; exact im
        have r12 : I 0 12 = bs g := by rw [h.2.1.2.2.1, hg]
        have add1 : bs g ||| ishl 1 (nI i) = bs g1 := by rw [bs_add _ i8, hg1]
        have f7 := hs i (Nat.le_refl _) im z2 hf
        obtain ⟨r, M1, c1, c2, c3, c4⟩ := e_coin h g lm
        have e57 : bs (fl m (M 1) 7) &&& bs (fl m (M 1) 5) = bs g := by
          rw [bs_and]; exact bs_congr fun p _ => by rw [hg']; exact Bool.and_comm _ _
        -- after a choice
        have go : ∀ (b : Bool) (I2 M2 : St), K m e t n 2 I0 M0 I M2 → M2 1 = M 1 → I2 = (if b = true then u2 I 0 12 (bs g1) else I) → ∃ I' M', f_X2_openSelfish_l2 F (nI (i + 1)) I2 = some I' ∧ f_X8_decides_l67 G (nI (i + 1)) (u2 M2 1 (20 + 40 * i + 7) (if b = true then 1 else 0)) = some M' ∧ K m e t n 2 I0 M0 I' M' := fun b I2 M2 k r1 hI2 => by
          have k' := k.mark (p := i) im (by rw [r1]; exact hf) b (I' := I2) (by
            rw [hI2, r1]
            cases b
            · rw [if_neg (by decide)]
              refine (u2_self I 0 12 ?_).symm
              rw [r12]
              refine bs_congr fun q _ => ?_
              by_cases c : q = i
              · rw [if_pos c, c, hg', f7, Bool.and_false]
              · rw [if_neg c, hg']
            · rw [if_pos rfl]
              refine congrArg (u2 I 0 12) (bs_congr fun q _ => ?_)
              by_cases c : q = i
              · rw [if_pos c, hg1', c]; simp
              · rw [if_neg c, hg1', hg']; simp [c])
          have row : ∀ r, r ≠ 20 + 40 * i + 7 → u2 M2 1 (20 + 40 * i + 7) (if b = true then 1 else 0) 1 r = M 1 r := fun r hr => by rw [u2_row, upd_ap, if_neg hr, r1]
          refine ih (i + 1) F G I2 _ (by omega) (by omega) (by omega) k' (fun q a b c d => ?_)
          rw [row _ (by omega)] at c
          rw [fl.cg (fun _ => row _ (by omega))] at d
          rw [fl.cg (fun _ => row _ (by omega))]
          exact hs q (by omega) b c d
        have yes : ∀ M2, K m e t n 2 I0 M0 I M2 → M2 1 = M 1 → ∃ I' M', f_X2_openSelfish_b60 (f_X2_openSelfish_l2 F) (nI i) (bs g1) I = some I' ∧ f_X8_decides_b140 (f_X8_decides_l67 G) (nI i) M2 = some M' ∧ K m e t n 2 I0 M0 I' M' := fun M2 k r1 => by
          rw [f_X2_openSelfish_b60, lb_e, f_X2_openSelfish_b65, f_X8_decides_b140, f_X8_decides_b141, e_person, ob1_s, lit_nI 7, nI_add, lb_e, if_pos rfl, f_X8_decides_b162, i7, ck_t, c7, lb_e, f_X8_decides_b163, nI_1]
          exact go true _ M2 k r1 rfl
        have no : ∀ M2, K m e t n 2 I0 M0 I M2 → M2 1 = M 1 → ∃ I' M', f_X2_openSelfish_b65 (f_X2_openSelfish_l2 F) (nI i) I = some I' ∧ f_X8_decides_b141 (f_X8_decides_l67 G) (nI i) 1 M2 = some M' ∧ K m e t n 2 I0 M0 I' M' := fun M2 k r1 => by
          rw [f_X2_openSelfish_b65, f_X8_decides_b141, e_person, ob1_s, lit_nI 7, nI_add, lb_e, if_neg (show ¬ (1 : Int32) = 0 by decide), f_X8_decides_b162, i7, ck_t, c7, lb_e, f_X8_decides_b163, nI_1]
          exact go false I M2 k r1 rfl
        have e7 : f_X8_setOf 7 M = some (bs (fl m (M 1) 7)) := e_setOf w1 (by decide) w2
        have e5 : f_X8_setOf 5 M = some (bs (fl m (M 1) 5)) := e_setOf w1 (by decide) w2
        rw [if_pos z2, if_pos z2, r12, lb_e, add1, lb_e, e_gives h g, ob1_s, e7, ob1_s, ← lit_nI 5, e5, ob1_s, e57, lb_e, c1, ob2_s]
        cases ho : one m t (M 1) g
        · rw [if_pos (show b2 false = 0 from rfl), if_neg (fun q => by rw [c2.1 q] at ho; cases ho)]
          exact yes M1 c3 c4
        · obtain ⟨r', M2, d1, d2, d3, d4⟩ := e_coin c3 g1 lm1
          rw [if_neg (show ¬ b2 true = 0 by decide), if_pos (c2.2 ho), e_gives h g1, ob1_s, add1, d1, ob2_s]
          rw [c4] at d2 d4
          cases ho1 : one m t (M 1) g1
          · rw [if_pos (show b2 false = 0 from rfl), if_neg (fun q => by rw [d2.1 q] at ho1; cases ho1)]
            exact no M2 d3 d4
          · rw [if_neg (show ¬ b2 true = 0 by decide), if_pos (d2.2 ho1)]
            exact yes M2 d3 d4
      · rw [if_neg z2, if_neg z2]
        exact skip
theorem s_play {n : Nat} {I M : St} (h : RR n I M) (hn : n < 2 ^ 30) (x : Int32) : Sm (n + 1) (f_X7_play x I) (f_X8_play x M) := by
  obtain ⟨m, e, t, h1, w, h3, h4, h5⟩ := id h.1
  have w1 := w.1
  rw [f_X7_play, f_X8_play, e_canStart w1 w.2.2.2.2.2.1 h1 w.2.1 w.2.2.2.2.2.2.1, e_mayBegin w1 w.2.2.2.2.2.1 w.2.1 w.2.2.2.2.2.2.1, ob1_s, ob1_s]
  cases hc : mayB m t (M 1)
  · rw [if_pos (show b2 false = 0 from rfl), if_pos (show b2 false = 0 from rfl)]
    exact Sm.same (h.mono (by omega)) _
  · rw [if_neg (show ¬ b2 true = 0 by decide), if_neg (show ¬ b2 true = 0 by decide)]
    obtain ⟨I1, M1, a1, a2, a3, a4, a5⟩ := e_rem h
    have lc : LC m e t n I1 (M1 1) := by
      rw [a5]
      exact LC.cg ⟨h1, w, h3, h4⟩ (fun j k q => by
        rw [a4 j]
        rcases q with q | q | q
        · exact Nat.lt_of_not_le fun z => q (pr_out (Or.inl z))
        · omega
        · omega) (fun _ _ => rfl)
    obtain ⟨I2, M2, b1, b2', b3, b4⟩ := e_starts (I0 := I1) (M0 := M1) lc FI.rf FM.rf
    obtain ⟨I3, M3, c1, c2, c3⟩ := e_plays_l m 0 10000 10000 x I2 M2 (by omega) (by omega) (by omega) b3 (fun q _ => b4 q)
    -- the round's second half
    have half : ∀ I4 M4, K m e t n 1 I1 M1 I4 M4 → ∃ r I' M', f_X2_playRound_b25 I4 = some (r, I') ∧ f_X8_play_b37 M4 = some (r, M') ∧ RR (n + 1) I' M' := fun I4 M4 k => by
      obtain ⟨r, I5, M5, d1, d2, d3, d4, d5⟩ := k.opens hn
      rw [f_X2_playRound_b25, d1, ob2_s, f_X8_play_b37, d2, ob2_s]
      rcases d5 with ⟨rfl, d5, d6⟩ | ⟨dn, d5, d6⟩
      · rw [if_pos rfl, if_pos rfl]
        exact ⟨-5, I5, M5, rfl, rfl, a3.of (d5.LR0 d6) (by omega) d3 d4⟩
      · obtain ⟨I6, M6, g1, g2, g3, g4⟩ := e_hon_l m 0 10000 10000 I5 M5 (by omega) (by omega) (by omega) d5 (fun q _ b => d6 q b) (fun q a => absurd a (by omega))
        obtain ⟨I7, M7, k1, k2, k3⟩ := e_self_l m 0 10000 10000 I6 M6 (by omega) (by omega) (by omega) g3 (fun q _ => g4 q)
        obtain ⟨r', I8, M8, l1, l2, l3, l4, l5, l6⟩ := k3.close hn
        have eh : f_X2_openHonest I5 = some I6 := by rw [f_X2_openHonest, lit_nI 0]; exact g1
        have es : f_X2_openSelfish I6 = some I7 := by rw [f_X2_openSelfish, lit_nI 0]; exact k1
        have ed : f_X8_decides M5 = some M7 := by rw [f_X8_decides, lit_nI 0, g2]; exact k2
        rw [if_neg dn, if_neg dn, eh, ob1_s, es, ob1_s, l1, ob2_s, ed, ob1_s, l2, ob2_s]
        exact ⟨r', I8, M8, rfl, rfl, a3.of (l5.LR0 l6) (by omega) l3 l4⟩
    have ec : f_X2_commitAll x I2 = some I3 := by rw [f_X2_commitAll, lit_nI 0]; exact c1
    have ep : f_X8_plays x M2 = some M3 := by rw [f_X8_plays, lit_nI 0]; exact c2
    have x5 : I3 0 5 = M3 1 5 := c3.1.1 0 5 5 rfl
    rw [a1, ob1_s, f_X2_playRound, b1, ob1_s, ec, ob1_s, x5, lb_e, a2, ob1_s, b2', ob1_s, ep, ob1_s, ib_5, ck_t, cl_5, lb_e]
    by_cases z : M3 1 5 = 1
    · obtain ⟨I4, M4, k1, k2, k3, k4⟩ := e_cheat_l m 0 10000 10000 I3 M3 (by omega) (by omega) (by omega) c3 z
      obtain ⟨I5, M5, l1, l2, l3⟩ := e_comp_out m 0 10000 10000 I4 M4 (by omega) (by omega) (by omega) k3 k4
      obtain ⟨r, I', M', o1, o2, o3⟩ := half I5 M5 l3
      have e1 : f_X2_cheat I3 = some I4 := by rw [f_X2_cheat, lit_nI 0]; exact k1
      have e2 : f_X2_complainAll I4 = some I5 := by rw [f_X2_complainAll, lit_nI 0]; exact l1
      have e3 : f_X8_cheats M3 = some M5 := by rw [f_X8_cheats, lit_nI 0, k2]; exact l2
      rw [if_pos z, if_pos z, e1, ob1_s, e2, ob1_s, e3, ob1_s, o1, ob2_s, o2]
      exact ⟨r, I', M', rfl, rfl, o3⟩
    · obtain ⟨r, I', M', o1, o2, o3⟩ := half I3 M3 c3
      rw [if_neg z, if_neg z, o1, ob2_s, o2]
      exact ⟨r, I', M', rfl, rfl, o3⟩
