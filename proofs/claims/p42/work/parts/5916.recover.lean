/-! recovering a secret from shares -/
theorem nbs {s : Nat} (h : s < 256) : nI s = bs (fun p => s.testBit p) := by rw [bs, bn_of s h]
def up (s t : Nat) : Nat → Nat → Nat → Nat
  | 0, _, a => a
  | d + 1, i, a => up s t d (i + 1) (if s.testBit i = true then (if t ≤ cnt8 (fun p => a.testBit p) then a else a ||| 2 ^ i) else a)
theorem e_small_l {s t : Nat} (hs : s < 256) (ht : t ≤ 8) : ∀ (d i F a : Nat), i + d = 8 → d < F → a < 256 → f_X7_smallest_l4 F (nI s) (nI t) (nI a) (nI i) = some (nI (up s t d i a)) ∧ up s t d i a < 256 := by
  intro d
  induction d with
  | zero =>
    intro i F a hi hF ha
    obtain ⟨F, rfl⟩ : ∃ g, F = g + 1 := ⟨F - 1, by omega⟩
    rw [f_X7_smallest_l4, if_pos (show (8 : Int32) ≤ nI i from nI_le (a := 8) (by omega) (by omega))]
    exact ⟨rfl, ha⟩
  | succ d ih =>
    intro i F a hi hF ha
    obtain ⟨F, rfl⟩ : ∃ g, F = g + 1 := ⟨F - 1, by omega⟩
    have eh : f_X7_has (nI s) (nI i) = some (b2 (s.testBit i)) := by rw [nbs hs]; exact e_has _ (by omega)
    have ec : f_J6_bitCount_0f7a4 (nI a) = some (nI (cnt8 (fun p => a.testBit p))) := by rw [nbs ha]; exact bitCount_bs _
    have c8 := cnt8_le (fun p => a.testBit p)
    rw [f_X7_smallest_l4, if_neg (show ¬ (8 : Int32) ≤ nI i from nI_ge (b := 8) (by omega) (by omega)), eh, ob1_s, up]
    cases hb : s.testBit i
    · rw [if_pos (show b2 false = 0 from rfl), if_neg (show ¬ false = true by decide), f_X7_smallest_b32, nI_1]
      exact ih (i + 1) F a (by omega) (by omega) ha
    · rw [if_neg (show ¬ b2 true = 0 by decide), if_pos (show true = true from rfl), ec, ob1_s]
      by_cases c : t ≤ cnt8 (fun p => a.testBit p)
      · rw [if_pos (nI_le c (by omega)), if_pos c, f_X7_smallest_b32, nI_1]
        exact ih (i + 1) F a (by omega) (by omega) ha
      · have h2 : 2 ^ i < 256 := Nat.pow_lt_pow_right (a := 2) (n := 8) (by decide) (by omega)
        rw [if_neg (nI_ge (by omega) (by omega)), if_neg c, lit_nI 1, ishl_nI (by omega) (by omega), Nat.one_mul, or_nI, lb_e, f_X7_smallest_b32, nI_1]
        exact ih (i + 1) F _ (by omega) (by omega) (Nat.or_lt_two_pow (n := 8) ha h2)
def dr (s : Nat) : Nat := s - 2 ^ s.log2
def it : Nat → Nat → Nat
  | 0, s => s
  | k + 1, s => it k (dr s)
def pc (s : Nat) : Nat := cnt8 (fun p => s.testBit p)
theorem dr_lt : ∀ s, s < 256 → dr s < 256 := by decide +kernel
theorem dr_pc : ∀ s, s < 256 → 0 < s → pc (dr s) + 1 = pc s := by decide +kernel
theorem dr_0 : ∀ s, s < 256 → 0 < pc s → 0 < s := by decide +kernel
theorem dr_bit : ∀ d, d < 8 → ∀ s, s < 2 ^ (d + 1) → s.testBit d = true → s &&& (255 ^^^ 2 ^ d) = dr s := by decide +kernel
theorem up_it : ∀ s, s < 256 → ∀ t, t < 9 → t ≤ pc s → up s t 8 0 0 = it (pc s - t) s := by decide +kernel
theorem e_cutTop {p M : _} (K : Int32 → Int32 → St → Option Int32) : ∀ (d F s : Nat), d < 8 → d < F → 0 < s → s < 2 ^ (d + 1) → f_X8_recover_l72 K F p (nI s) (nI d) M = K p (nI (dr s)) M := by
  intro d
  induction d with
  | zero =>
    intro F s hd hF h0 hs
    obtain ⟨F, rfl⟩ : ∃ g, F = g + 1 := ⟨F - 1, by omega⟩
    have : s = 1 := by omega
    subst this
    rw [f_X8_recover_l72]
    rfl
  | succ d ih =>
    intro F s hd hF h0 hs
    obtain ⟨F, rfl⟩ : ∃ g, F = g + 1 := ⟨F - 1, by omega⟩
    have hs2 : s < 256 := Nat.lt_of_lt_of_le hs (Nat.pow_le_pow_right (n := 2) (i := d + 1 + 1) (j := 8) (by decide) (by omega))
    have h2 : 2 ^ (d + 1) < 256 := Nat.pow_lt_pow_right (a := 2) (n := 8) (by decide) (by omega)
    have eb : ishr (nI s) (nI (d + 1)) &&& 1 = if s.testBit (d + 1) then 1 else 0 := by rw [nbs hs2]; exact bs_hasS _ hd
    rw [f_X8_recover_l72, lb_e, eb]
    by_cases hb : s.testBit (d + 1) = true
    · rw [if_pos hb, if_neg (show ¬ (1 : Int32) = 0 by decide), show ishl 1 (nI (d + 1)) = nI (2 ^ (d + 1)) from by rw [lit_nI 1, ishl_nI (by omega) (by omega), Nat.one_mul], lb_e, bs_nm s hs2 _ h2, lb_e, dr_bit (d + 1) hd s hs hb]
    · rw [if_neg hb, if_pos (show (0 : Int32) = 0 from rfl), pk_m1]
      have hs3 : s < 2 ^ (d + 1) := by
        rcases Nat.lt_or_ge s (2 ^ (d + 1)) with q | q
        · exact q
        · exact absurd (Nat.testBit_of_two_pow_le_and_two_pow_add_one_gt q hs) hb
      exact ih F s (by omega) (by omega) h0 hs3
theorem e_cut {p : Int32} {M : St} {t : Nat} (h1 : 1 ≤ t) (ht : t ≤ 8) (h6 : M 1 6 = nI t) : ∀ (k F s : Nat), pc s = t + k → s < 256 → k < F → f_X8_recover_l54 F p (nI s) M = f_X8_recover_l105 10000 p (nI (it k s)) 0 0 M ∧ it k s < 256 := by
  intro k
  induction k with
  | zero =>
    intro F s hp hs hF
    obtain ⟨F, rfl⟩ : ∃ g, F = g + 1 := ⟨F - 1, by omega⟩
    have e := e_countOf (fun p => s.testBit p)
    rw [← nbs hs, show cnt8 (fun p => s.testBit p) = pc s from rfl] at e
    have c6 : (6 : Int32).toNatClampNeg = 6 := by decide
    rw [f_X8_recover_l54, e, ob1_s, ib_6, ck_t, c6, h6, if_pos (nI_le (by omega) (by omega))]
    exact ⟨rfl, hs⟩
  | succ k ih =>
    intro F s hp hs hF
    obtain ⟨F, rfl⟩ : ∃ g, F = g + 1 := ⟨F - 1, by omega⟩
    have e := e_countOf (fun p => s.testBit p)
    have c8 := cnt8_le (fun p => s.testBit p)
    rw [← nbs hs, show cnt8 (fun p => s.testBit p) = pc s from rfl] at e
    have c6 : (6 : Int32).toNatClampNeg = 6 := by decide
    have c9 : pc s ≤ 8 := c8
    have s0 := dr_0 s hs (by omega)
    have hp2 := dr_pc s hs s0
    rw [f_X8_recover_l54, e, ob1_s, ib_6, ck_t, c6, h6, if_neg (nI_ge (by omega) (by omega)), lit_nI 7, e_cutTop _ 7 10000 s (by decide) (by decide) s0 (by omega)]
    exact ih F (dr s) (by omega) (dr_lt s hs) (by omega)
/-! the weights -/
def cj (i j : Nat) : Nat := (i + 1019 - j) % 1019
theorem cj_c : ∀ i, i < 8 → ∀ j, j < 8 → irem (nI i - nI j + nI 1019) (nI 1019) = nI (cj i j) := by decide +kernel
theorem cj_m : ∀ i, i < 8 → ∀ j, j < 8 → irem (irem (nI i - nI j) (nI 1019) + nI 1019) (nI 1019) = nI (cj i j) := by decide +kernel
def iv (E i j : Nat) : Nat := cj i j ^ E % 1019
theorem iv_1 : ∀ i, i < 8 → ∀ j, j < 8 → i ≠ j → cj i j * iv 1017 i j % 1019 = 1 := by decide +kernel
theorem iv_lt (E i j : Nat) : iv E i j < 1019 := Nat.mod_lt _ (by decide)
theorem cj_lt (i j : Nat) : cj i j < 1019 := Nat.mod_lt _ (by decide)
theorem iv_u {i j u : Nat} (hi : i < 8) (hj : j < 8) (hij : i ≠ j) (hu : u < 1019) (h : cj i j * u % 1019 = 1) : u = iv 1017 i j := by
  have h1 := iv_1 i hi j hj hij
  have hv := iv_lt 1017 i j
  generalize iv 1017 i j = w at *
  generalize cj i j = c at *
  have a : u * (c * w) % 1019 = w * (c * u) % 1019 := by
    rw [show u * (c * w) = w * (c * u) by ac_rfl]
  rw [Nat.mul_mod, h1, Nat.mul_mod w, h, Nat.mul_one, Nat.mul_one, Nat.mod_mod, Nat.mod_mod, Nat.mod_eq_of_lt hu, Nat.mod_eq_of_lt hv] at a
  exact a
theorem e_inv {i j : Nat} (hi : i < 8) (hj : j < 8) (hij : i ≠ j) : ∀ (d u F : Nat), u + d = iv 1017 i j → 1 ≤ u → d < F → f_X8_inverse_l2 F (nI i - nI j) (nI u) = some (nI (iv 1017 i j)) := by
  intro d
  have hv := iv_lt 1017 i j
  induction d with
  | zero =>
    intro u F hu h1 hF
    obtain ⟨F, rfl⟩ : ∃ g, F = g + 1 := ⟨F - 1, by omega⟩
    have hu2 : u = iv 1017 i j := by omega
    have hm : cj i j * u % 1019 = 1 := by rw [hu2]; exact iv_1 i hi j hj hij
    have hc : cj i j * u < 2 ^ 31 := by
      have := Nat.mul_le_mul (Nat.le_of_lt (cj_lt i j)) (show u ≤ 1019 by omega)
      omega
    rw [f_X8_inverse_l2, if_neg (show ¬ (1019 : Int32) ≤ nI u from nI_ge (b := 1019) (by omega) (by decide)), lb_e, lb_e, lb_e, lit_nI 1019, cj_m i hi j hj, pk_mul, lb_e, irem_nI hc (by decide) (by decide), lb_e, hm, if_pos (show nI 1 = 1 from rfl), f_X8_inverse_b38, hu2]
  | succ d ih =>
    intro u F hu h1 hF
    obtain ⟨F, rfl⟩ : ∃ g, F = g + 1 := ⟨F - 1, by omega⟩
    have hm : ¬ cj i j * u % 1019 = 1 := fun q => by
      have := iv_u hi hj hij (by omega) q
      omega
    have hc : cj i j * u < 2 ^ 31 := by
      have := Nat.mul_le_mul (Nat.le_of_lt (cj_lt i j)) (show u ≤ 1019 by omega)
      omega
    have hlt : cj i j * u % 1019 < 1019 := Nat.mod_lt _ (by decide)
    rw [f_X8_inverse_l2, if_neg (show ¬ (1019 : Int32) ≤ nI u from nI_ge (b := 1019) (by omega) (by decide)), lb_e, lb_e, lb_e, lit_nI 1019, cj_m i hi j hj, pk_mul, lb_e, irem_nI hc (by decide) (by decide), lb_e, if_neg (show ¬ nI (cj i j * u % 1019) = 1 from fun q => hm ((nI_eq (b := 1) (by omega) (by decide)).1 q)), nI_1]
    exact ih (u + 1) F (by omega) (by omega) (by omega)
theorem e_inverse {i j : Nat} (hi : i < 8) (hj : j < 8) (hij : i ≠ j) : f_X8_inverse (nI i - nI j) = some (nI (iv 1017 i j)) := by
  have hv := iv_lt 1017 i j
  have h0 : 1 ≤ iv 1017 i j := by
    rcases Nat.eq_zero_or_pos (iv 1017 i j) with q | q
    · have := iv_1 i hi j hj hij
      rw [q, Nat.mul_zero] at this
      exact absurd this (by decide)
    · exact q
  rw [f_X8_inverse, lit_nI 1]
  exact e_inv hi hj hij (iv 1017 i j - 1) 1 10000 (by omega) (by decide) (by omega)
def mp (E s j : Nat) : Nat → Nat → Nat → Nat
  | 0, _, x => x
  | d + 1, i, x => mp E s j d (i + 1) (if i ≠ j ∧ s.testBit i = true then x * (i + 1) % 1019 * iv E i j % 1019 else x)
def cw (E s j : Nat) : Nat → Nat → Nat → Nat → Nat
  | 0, _, a, b => a * (b ^ E % 1019) % 1019
  | d + 1, i, a, b => if i ≠ j ∧ s.testBit i = true then cw E s j d (i + 1) (a * (i + 1) % 1019) (b * cj i j % 1019) else cw E s j d (i + 1) a b
theorem mp_cw {E s j y : Nat} : ∀ (d i x a b : Nat), x < 1019 → x = y * (a * (b ^ E % 1019) % 1019) % 1019 → mp E s j d i x = y * cw E s j d i a b % 1019 := by
  intro d
  induction d with
  | zero => intro i x a b _ h; exact h
  | succ d ih =>
    intro i x a b hx h
    rw [mp, cw]
    by_cases c : i ≠ j ∧ s.testBit i = true
    · rw [if_pos c, if_pos c]
      refine ih (i + 1) _ _ _ (Nat.mod_lt _ (by decide)) ?_
      rw [h, iv]
      generalize cj i j = c
      simp only [Nat.mul_mod_mod, Nat.mod_mul_mod]
      rw [Nat.mul_mod y, Nat.mul_mod (a * (i + 1)), ← Nat.pow_mod, ← Nat.mul_mod (a * (i + 1)), ← Nat.mul_mod y, Nat.mul_pow]
      exact congrArg (· % 1019) (by ac_rfl)
    · rw [if_neg c, if_neg c]
      exact ih (i + 1) x a b hx h
theorem mp_lt {E s j : Nat} : ∀ (d i x : Nat), x < 1019 → mp E s j d i x < 1019 := by
  intro d
  induction d with
  | zero => intro i x h; exact h
  | succ d ih =>
    intro i x h
    rw [mp]
    split
    · exact ih _ _ (Nat.mod_lt _ (by decide))
    · exact ih _ _ h
theorem e_weight_l {s j : Nat} (hs : s < 256) (hj : j < 8) : ∀ (d i F a b : Nat), i + d = 8 → d < F → a < 1019 → b < 1019 → f_X5_weight_l7 F (nI j) (nI s) (nI a) (nI b) (nI i) = some (nI (cw 1017 s j d i a b)) ∧ cw 1017 s j d i a b < 1019 := by
  intro d
  induction d with
  | zero =>
    intro i F a b hi hF ha hb
    obtain ⟨F, rfl⟩ : ∃ g, F = g + 1 := ⟨F - 1, by omega⟩
    have hl : b ^ 1017 % 1019 < 2 ^ 31 := Nat.lt_trans (Nat.mod_lt _ (by decide)) (by decide)
    rw [f_X5_weight_l7, if_pos (show (8 : Int32) ≤ nI i from nI_le (a := 8) (by omega) (by omega)), lit_nI 1017, lit_nI 1019, e_power (by omega) (by decide) (by decide) (by decide), ob1_s, e_product (by omega) hl (by decide) (by decide), ob1_s]
    exact ⟨rfl, Nat.mod_lt _ (by decide)⟩
  | succ d ih =>
    intro i F a b hi hF ha hb
    obtain ⟨F, rfl⟩ : ∃ g, F = g + 1 := ⟨F - 1, by omega⟩
    have eh : f_X7_has (nI s) (nI i) = some (b2 (s.testBit i)) := by rw [nbs hs]; exact e_has _ (by omega)
    have hcl := cj_lt i j
    rw [f_X5_weight_l7, if_neg (show ¬ (8 : Int32) ≤ nI i from nI_ge (b := 8) (by omega) (by omega)), cw]
    by_cases hij : i = j
    · rw [if_pos (by rw [hij]), if_neg (fun q => q.1 hij), f_X5_weight_b61, nI_1]
      exact ih (i + 1) F a b (by omega) (by omega) ha hb
    · rw [if_neg (fun q => hij ((nI_eq (by omega) (by omega)).1 q)), eh, ob1_s]
      cases hb2 : s.testBit i
      · rw [if_pos (show b2 false = 0 from rfl), if_neg (fun q => absurd q.2 (by decide)), f_X5_weight_b61, nI_1]
        exact ih (i + 1) F a b (by omega) (by omega) ha hb
      · rw [if_neg (show ¬ b2 true = 0 by decide), if_pos ⟨hij, rfl⟩, nI_1, lb_e, lit_nI 1019, e_product (by omega) (by omega) (by decide) (by decide), ob1_s, lb_e, lb_e, cj_c i (by omega) j hj, lb_e, e_product (by omega) (by omega) (by decide) (by decide), ob1_s, f_X5_weight_b61, nI_1]
        exact ih (i + 1) F _ _ (by omega) (by omega) (Nat.mod_lt _ (by decide)) (Nat.mod_lt _ (by decide))
theorem e_weight {s j : Nat} (hs : s < 256) (hj : j < 8) : f_X5_weight (nI j) (nI s) = some (nI (cw 1017 s j 8 0 1 1)) ∧ cw 1017 s j 8 0 1 1 < 1019 := by
  rw [f_X5_weight, lit_nI 1, lit_nI 0]
  exact e_weight_l hs hj 8 0 10000 1 1 (by decide) (by decide) (by decide) (by decide)
def vs (E s : Nat) (S : Nat → Nat) : Nat → Nat → Nat → Nat
  | 0, _, v => v
  | d + 1, i, v => vs E s S d (i + 1) (if s.testBit i = true then (v + S i * cw E s i 8 0 1 1 % 1019) % 1019 else v)
theorem e_vz_l {I : St} {p s : Nat} {S : Nat → Nat} (hs : s < 256) (hS : ∀ j, j < 8 → S j < 1019 ∧ I (5 + p + 8) j = nI (S j)) : ∀ (d i F v : Nat), i + d = 8 → d < F → v < 1019 → f_X5_valueAtZero_l4 (5 + p) F (nI s) (nI v) (nI i) I = some (nI (vs 1017 s S d i v)) := by
  intro d
  induction d with
  | zero =>
    intro i F v hi hF hv
    obtain ⟨F, rfl⟩ : ∃ g, F = g + 1 := ⟨F - 1, by omega⟩
    rw [f_X5_valueAtZero_l4, if_pos (show (8 : Int32) ≤ nI i from nI_le (a := 8) (by omega) (by omega)), vs]
  | succ d ih =>
    intro i F v hi hF hv
    obtain ⟨F, rfl⟩ : ∃ g, F = g + 1 := ⟨F - 1, by omega⟩
    have eh : f_X7_has (nI s) (nI i) = some (b2 (s.testBit i)) := by rw [nbs hs]; exact e_has _ (by omega)
    rw [f_X5_valueAtZero_l4, if_neg (show ¬ (8 : Int32) ≤ nI i from nI_ge (b := 8) (by omega) (by omega)), eh, ob1_s, vs]
    cases hb : s.testBit i
    · rw [if_pos (show b2 false = 0 from rfl), if_neg (show ¬ false = true by decide), f_X5_valueAtZero_b42, nI_1]
      exact ih (i + 1) F v (by omega) (by omega) hv
    · obtain ⟨h1, h2⟩ := hS i (by omega)
      obtain ⟨h3, h4⟩ := e_weight (s := s) (j := i) hs (by omega)
      have hl : S i * cw 1017 s i 8 0 1 1 % 1019 < 1019 := Nat.mod_lt _ (by decide)
      rw [if_neg (show ¬ b2 true = 0 by decide), if_pos (show true = true from rfl), inb_nI (by omega) (by decide), ck_t, nI_clamp (by omega), h2, lb_e, h3, ob1_s, lit_nI 1019, e_product (by omega) (by omega) (by decide) (by decide), ob1_s, nI_add, lb_e, irem_nI (by omega) (by decide) (by decide), lb_e, f_X5_valueAtZero_b42, nI_1]
      exact ih (i + 1) F _ (by omega) (by omega) (Nat.mod_lt _ (by decide))
theorem e_mpart {q : Int32} {M : St} {s j sum : Nat} (hs : s < 256) (hj : j < 8) (hsum : sum < 1019) (K : Int32 → Int32 → Int32 → Int32 → St → Option Int32) : ∀ (d i F x : Nat), i + d = 8 → d < F → x < 1019 → f_X8_recover_l138 K F q (nI s) (nI sum) (nI j) (nI x) (nI i) M = K q (nI s) (nI ((sum + mp 1017 s j d i x) % 1019)) (nI (j + 1)) M := by
  intro d
  induction d with
  | zero =>
    intro i F x hi hF hx
    obtain ⟨F, rfl⟩ : ∃ g, F = g + 1 := ⟨F - 1, by omega⟩
    rw [f_X8_recover_l138, if_pos (show (8 : Int32) ≤ nI i from nI_le (a := 8) (by omega) (by omega)), mp, nI_add, lb_e, lit_nI 1019, irem_nI (by omega) (by decide) (by decide), lb_e, nI_1]
  | succ d ih =>
    intro i F x hi hF hx
    obtain ⟨F, rfl⟩ : ∃ g, F = g + 1 := ⟨F - 1, by omega⟩
    have eb : ishr (nI s) (nI i) &&& 1 = if s.testBit i then 1 else 0 := by rw [nbs hs]; exact bs_hasS _ (by omega)
    rw [f_X8_recover_l138, if_neg (show ¬ (8 : Int32) ≤ nI i from nI_ge (b := 8) (by omega) (by omega)), mp]
    by_cases hij : i = j
    · rw [if_pos (by rw [hij]), if_neg (fun q => q.1 hij), f_X8_recover_b188, nI_1]
      exact ih (i + 1) F x (by omega) (by omega) hx
    · rw [if_neg (fun q => hij ((nI_eq (by omega) (by omega)).1 q)), lb_e, eb, lb_e]
      by_cases hb : s.testBit i = true
      · have m1 : x * (i + 1) < 2 ^ 31 := by
          have := Nat.mul_le_mul (show x ≤ 1019 by omega) (show i + 1 ≤ 8 by omega)
          omega
        have m3 : x * (i + 1) % 1019 < 1019 := Nat.mod_lt _ (by decide)
        have hv := iv_lt 1017 i j
        have m2 : x * (i + 1) % 1019 * iv 1017 i j < 2 ^ 31 := by
          have := Nat.mul_le_mul (Nat.le_of_lt m3) (Nat.le_of_lt hv)
          omega
        rw [if_pos hb, if_pos (show (1 : Int32) = 1 from rfl), if_pos ⟨hij, hb⟩, nI_1, pk_mul, lb_e, lit_nI 1019, irem_nI m1 (by decide) (by decide), lb_e, e_inverse (by omega) hj hij, ob1_s, pk_mul, lb_e, irem_nI m2 (by decide) (by decide), lb_e, f_X8_recover_b188, nI_1]
        exact ih (i + 1) F _ (by omega) (by omega) (Nat.mod_lt _ (by decide))
      · rw [if_neg hb, if_neg (show ¬ (0 : Int32) = 1 by decide), if_neg (fun q => hb q.2), f_X8_recover_b188, nI_1]
        exact ih (i + 1) F x (by omega) (by omega) hx
theorem e_msum {M : St} {p s : Nat} {S : Nat → Nat} (hp : p < 8) (hs : s < 256) (hS : ∀ j, j < 8 → S j < 1019 ∧ M 1 (20 + 40 * p + 22 + j) = nI (S j)) : ∀ (d i F v : Nat), i + d = 8 → d < F → v < 1019 → f_X8_recover_l105 F (nI p) (nI s) (nI v) (nI i) M = some (nI (vs 1017 s S d i v)) := by
  intro d
  induction d with
  | zero =>
    intro i F v hi hF hv
    obtain ⟨F, rfl⟩ : ∃ g, F = g + 1 := ⟨F - 1, by omega⟩
    rw [f_X8_recover_l105, if_pos (show (8 : Int32) ≤ nI i from nI_le (a := 8) (by omega) (by omega)), vs]
  | succ d ih =>
    intro i F v hi hF hv
    obtain ⟨F, rfl⟩ : ∃ g, F = g + 1 := ⟨F - 1, by omega⟩
    have eb : ishr (nI s) (nI i) &&& 1 = if s.testBit i then 1 else 0 := by rw [nbs hs]; exact bs_hasS _ (by omega)
    rw [f_X8_recover_l105, if_neg (show ¬ (8 : Int32) ≤ nI i from nI_ge (b := 8) (by omega) (by omega)), lb_e, eb, lb_e, vs]
    obtain ⟨h1, h2⟩ := hS i (by omega)
    by_cases hb : s.testBit i = true
    · rw [if_pos hb, if_pos (show (1 : Int32) = 1 from rfl), if_pos hb, e_shareOf hp (by omega), ob1_s, h2, f_X8_recover_b133, lit_nI 0, e_mpart hs (by omega) hv _ 8 0 10000 (S i) (by decide) (by decide) h1]
      rw [mp_cw (y := S i) 8 0 (S i) 1 1 h1 (by rw [Nat.one_pow, Nat.one_mul, Nat.mod_mod, Nat.mul_mod_mod, Nat.mul_one, Nat.mod_eq_of_lt h1])]
      exact ih (i + 1) F _ (by omega) (by omega) (Nat.mod_lt _ (by decide))
    · rw [if_neg hb, if_neg (show ¬ (0 : Int32) = 1 by decide), if_neg hb, f_X8_recover_b133, lit_nI 0, e_mpart hs (by omega) hv _ 8 0 10000 0 (by decide) (by decide) (by decide)]
      rw [mp_cw (y := 0) 8 0 0 1 1 (by decide) (by rw [Nat.zero_mul]), Nat.zero_mul, Nat.zero_mod, Nat.add_zero, Nat.mod_eq_of_lt hv]
      exact ih (i + 1) F v (by omega) (by omega) hv
def co' (v : Nat → Int32) (p j : Nat) : Nat := (v (20 + 40 * p + 22 + j)).toNatClampNeg
theorem s_recover {n : Nat} {I M : St} (h : RR n I M) (x y : Int32) : Rd (f_X7_recover x y I) (f_X8_recover x y M) := by
  obtain ⟨m, e, t, h1, ⟨w1, w2, w3, w4, w5, w6, w7, -⟩, -, -, h5⟩ := id h.1
  have hc : I 0 3 = nI m := by rw [h1 0 3 4 rfl, w2]
  have h06 : I 0 6 = nI t := by rw [h1 0 6 6 rfl, w7]
  rw [f_X7_recover, f_X8_recover, e_isPart w1 hc, ob1_s, e_isPerson w1 w2, ob1_s]
  cases hp : pers m x
  · rw [if_pos (show b2 false = 0 from rfl), if_pos (show b2 false = 0 from rfl)]
    exact ⟨_, rfl, rfl⟩
  obtain ⟨p, hpm, rfl⟩ := pers_ex (by omega) hp
  rw [if_neg (show ¬ b2 true = 0 by decide), if_neg (show ¬ b2 true = 0 by decide), e_isWithin y, ob1_s, e_in y, ob1_s]
  by_cases hw : wi y 0 255 = true
  case neg =>
    rw [Bool.eq_false_iff.mpr hw, if_pos (show b2 false = 0 from rfl), if_pos (show b2 false = 0 from rfl)]
    exact ⟨_, rfl, rfl⟩
  obtain ⟨g, g1, g2, rfl⟩ := wi_ex (a := 0) (b := 255) (by decide) (by decide) hw
  rw [hw, if_neg (show ¬ b2 true = 0 by decide), if_neg (show ¬ b2 true = 0 by decide), lb_e, lit_nI 5, e_setOf w1 (by decide) w2, ob1_s, lb_e, e_hasDealt (h1 0 9 0 rfl) (h1 0 5 5 rfl) h5 (by omega), ob1_s, e_hasShares w1 w2 hpm, ob1_s]
  cases hsh : shB m (M 1) p
  · rw [if_pos (show b2 false = 0 from rfl), if_pos (show b2 false = 0 from rfl)]
    exact ⟨_, rfl, rfl⟩
  have ph : M 1 0 ≠ 0 := fun q => by simp [shB, q] at hsh
  have hDL := shB_DL h5 (by omega) hsh
  obtain ⟨d1, d2, d3⟩ := hDL
  rw [if_neg (show ¬ b2 true = 0 by decide), if_neg (show ¬ b2 true = 0 by decide), (h5 ph).1, nbs (s := g) (by omega), bs_and]
  obtain ⟨s, hs, es⟩ : ∃ s, s < 256 ∧ bs (fun q => g.testBit q && fl m (M 1) 5 q) = nI s := ⟨_, bn_lt _, rfl⟩
  rw [es]
  have ec := bitCount_bs (fun q => s.testBit q)
  have ec2 := e_countOf (fun q => s.testBit q)
  rw [← nbs hs, show cnt8 (fun q => s.testBit q) = pc s from rfl] at ec ec2
  have c8 : pc s ≤ 8 := cnt8_le _
  have c6 : (6 : Int32).toNatClampNeg = 6 := by decide
  rw [ec, ob1_s, ec2, ob1_s, ib_6, ck_t, c6, w7, h06]
  by_cases c : t ≤ pc s
  case neg =>
    rw [if_neg (nI_ge (by omega) (by omega)), if_neg (nI_ge (by omega) (by omega))]
    exact ⟨_, rfl, rfl⟩
  have hS : ∀ j, j < 8 → co' (M 1) p j < 1019 ∧ M 1 (20 + 40 * p + 22 + j) = nI (co' (M 1) p j) := fun j hj => by
    obtain ⟨z, z1, z2⟩ := d2 j hj
    rw [co', z2, nI_clamp (by omega)]
    exact ⟨z1, rfl⟩
  have hS' : ∀ j, j < 8 → co' (M 1) p j < 1019 ∧ I (5 + p + 8) j = nI (co' (M 1) p j) := fun j hj => ⟨(hS j hj).1, by rw [h1 _ _ _ (prSh p j (by omega) hj)]; exact (hS j hj).2⟩
  obtain ⟨k1, k2⟩ := e_cut (p := nI p) (M := M) w5 w6 w7 (pc s - t) 10000 s (by omega) hs (by omega)
  obtain ⟨u1, u2⟩ := e_small_l hs w6 8 0 10000 0 (by decide) (by decide) (by decide)
  have hui := up_it s hs t (by omega) c
  rw [if_pos (nI_le c (by omega)), if_pos (nI_le c (by omega)), inb_nI (by omega) (by decide), ck_t, k1, f_X7_smallest, lit_nI 0, u1, ob1_s, hui, nI_clamp (n := p) (by omega), f_X5_valueAtZero, isP_of (by omega), ck_t, lit_nI 0, e_vz_l k2 hS' 8 0 10000 0 (by decide) (by decide) (by decide), ob1_s, e_msum (by omega) k2 hS 8 0 10000 0 (by decide) (by decide) (by decide)]
  exact ⟨_, rfl, rfl⟩
