/-! powers and polynomials -/
theorem e_hasN {e k : Nat} (he : e < 2 ^ 32) (hk : k < 32) : f_X7_has (nI e) (nI k) = some (b2 (decide (e / 2 ^ k % 2 = 1))) := by
  simp only [f_X7_has_b14, f_X7_has, iushr_nI he hk, ob1_s, ob2_s, ck_t, lb_e]
  rw [show nI (e / 2 ^ k) &&& 1 = nI (e / 2 ^ k % 2) from by
    rw [show (1 : Int32) = nI 1 from rfl, and_nI, Nat.and_one_is_mod]]
  rcases Nat.mod_two_eq_zero_or_one (e / 2 ^ k) with h | h
  · rw [h, if_neg (show ¬ nI 0 = (1 : Int32) by decide), isB_0]; simp [ck_t, b2]
  · rw [h, if_pos (show nI 1 = (1 : Int32) from rfl), isB_1]; simp [ck_t, b2]
theorem nzL_lN {m : Nat} (h : 1 ≤ m) (hm : m < 2 ^ 31) : nzL (lN m) = true := by
  have : ¬ lN m = 0 := by
    rw [show (0 : Int64) = lN 0 from rfl, lN_eq hm (by decide)]
    omega
  simp [nzL, this]
theorem e_product {a b m : Nat} (ha : a < 2 ^ 31) (hb : b < 2 ^ 31) (h1 : 1 ≤ m) (hm : m < 2 ^ 31) : f_X7_product (nI a) (nI b) (nI m) = some (nI (a * b % m)) := by
  have hab : a * b < 2 ^ 63 := by
    have := Nat.mul_lt_mul'' ha hb
    omega
  have hr : lrem (lN (a * b)) (lN m) = lN (a * b % m) := pk_lRem hab (by omega) (by omega)
  rw [f_X7_product, if_pos (show (1 : Int32) ≤ nI m from nI_le (a := 1) h1 hm), nI_l ha, nI_l hb, nI_l hm, lb_e, lN_mul, lb_e, nzL_lN h1 hm, ck_t, hr, lN_i]
theorem mulmod (a b m : Nat) : (a % m) * (b % m) % m = a * b % m := (Nat.mul_mod a b m).symm
def dn (d : Nat) : Int32 := if d = 0 then -1 else nI (d - 1)
theorem dn_s (d : Nat) : dn (d + 1) = nI d := by simp [dn]
theorem dn_m (d : Nat) : nI d + (-1) = dn d := by
  cases d with
  | zero => decide
  | succ d => rw [dn_s, pk_m1]
theorem dn_0 : dn 0 < 0 := by decide
theorem dn_pos {d : Nat} (h : d < 2 ^ 31) : ¬ dn (d + 1) < 0 := by rw [dn_s]; exact nI_pos h
theorem e_power_l {b e m : Nat} (hb : b < 2 ^ 31) (he : e < 2 ^ 31) (h1 : 1 ≤ m) (hm : m < 2 ^ 31) : ∀ (d F r : Nat), d ≤ 31 → d < F → r < 2 ^ 31 → r % m = b ^ (e / 2 ^ d) % m → (d = 0 → r < m) → f_X7_power_l6 F (nI b) (nI e) (nI m) (nI r) (dn d) = some (nI (b ^ e % m)) := by
  intro d
  induction d with
  | zero =>
    intro F r hd hF hr hrr h0
    obtain ⟨F, rfl⟩ : ∃ g, F = g + 1 := ⟨F - 1, by omega⟩
    rw [f_X7_power_l6, if_pos dn_0]
    rw [show e / 2 ^ 0 = e by simp, Nat.mod_eq_of_lt (h0 rfl)] at hrr
    rw [hrr]
  | succ d ih =>
    intro F r hd hF hr hrr _
    obtain ⟨F, rfl⟩ : ∃ g, F = g + 1 := ⟨F - 1, by omega⟩
    have hlt : ∀ x, x % m < 2 ^ 31 := fun x => Nat.lt_trans (Nat.mod_lt _ h1) hm
    have hdiv : e / 2 ^ d = 2 * (e / 2 ^ (d + 1)) + e / 2 ^ d % 2 := by
      rw [Nat.pow_succ, ← Nat.div_div_eq_div_mul]
      omega
    have hsq : r * r % m = b ^ (2 * (e / 2 ^ (d + 1))) % m := by
      rw [Nat.mul_mod, hrr, ← Nat.mul_mod, ← Nat.pow_add, Nat.two_mul]
    rw [f_X7_power_l6, if_neg (dn_pos (by omega)), e_product hr hr h1 hm, ob1_s, dn_s, e_hasN (by omega) (by omega), ob1_s]
    by_cases hbit : e / 2 ^ d % 2 = 1
    · rw [decide_eq_true hbit, if_neg (show ¬ b2 true = 0 by decide), e_product (hlt _) hb h1 hm, ob1_s, f_X7_power_b34, dn_m]
      refine ih F _ (by omega) (by omega) (hlt _) ?_ (fun _ => Nat.mod_lt _ h1)
      rw [Nat.mod_mod, hdiv, hbit, Nat.pow_succ, Nat.mul_mod, Nat.mod_mod, hsq, ← Nat.mul_mod]
    · rw [decide_eq_false hbit, if_pos (show b2 false = 0 from rfl), f_X7_power_b34, dn_m]
      refine ih F _ (by omega) (by omega) (hlt _) ?_ (fun _ => Nat.mod_lt _ h1)
      rw [Nat.mod_mod, hdiv, show e / 2 ^ d % 2 = 0 by omega, Nat.add_zero, hsq]
theorem e_power {b e m : Nat} (hb : b < 2 ^ 31) (he : e < 2 ^ 31) (h1 : 1 ≤ m) (hm : m < 2 ^ 31) : f_X7_power (nI b) (nI e) (nI m) = some (nI (b ^ e % m)) := by
  rw [f_X7_power, show (1 : Int32) = nI 1 from rfl, show (30 : Int32) = dn 31 from rfl]
  exact e_power_l hb he h1 hm 31 10000 1 (by decide) (by decide) (by decide) (by rw [show e / 2 ^ 31 = 0 from Nat.div_eq_of_lt he]; rfl) (fun h => absurd h (by decide))
/-! 4 has the order 1019 modulo 2039 -/
theorem g_ord : 4 ^ 1019 % 2039 = 1 := by decide +kernel
theorem g_mod (a : Nat) : 4 ^ a % 2039 = 4 ^ (a % 1019) % 2039 := by
  have h : 4 ^ a = (4 ^ 1019) ^ (a / 1019) * 4 ^ (a % 1019) := by
    rw [← Nat.pow_mul, ← Nat.pow_add, Nat.div_add_mod]
  rw [h, Nat.mul_mod, Nat.pow_mod, g_ord, Nat.one_pow]
  simp
theorem g_one : ∀ d, d < 1019 → 4 ^ d % 2039 = 1 → d = 0 := by decide +kernel
theorem g_inj {a b : Nat} (ha : a < 1019) (hb : b < 1019) (h : 4 ^ a % 2039 = 4 ^ b % 2039) : a = b := by
  have key : ∀ a b, a ≤ b → b < 1019 → 4 ^ a % 2039 = 4 ^ b % 2039 → a = b := by
    intro a b hab hb h
    have h1 : 4 ^ (a + (1019 - a)) % 2039 = 4 ^ (b + (1019 - a)) % 2039 := by
      rw [Nat.pow_add, Nat.pow_add, Nat.mul_mod, h, ← Nat.mul_mod]
    rw [show a + (1019 - a) = 1019 by omega, show b + (1019 - a) = 1019 + (b - a) by omega, g_ord, Nat.pow_add, Nat.mul_mod, g_ord, Nat.one_mul, Nat.mod_mod] at h1
    have := g_one (b - a) (by omega) h1.symm
    omega
  rcases Nat.le_total a b with q | q
  · exact key a b q hb h
  · exact (key b a q ha h.symm).symm
theorem hq_lt {c : Nat → Nat} {x : Nat} : ∀ (d s : Nat), s < 1019 → hq c x d s < 1019 := by
  intro d
  induction d with
  | zero => intro s h; exact h
  | succ d ih => intro s _; exact ih _ (Nat.mod_lt _ (by decide))
/-! the model's value of a polynomial -/
theorem e_valueAt_l {M : St} {p x : Nat} (hp : p < 8) (hx : x < 100) : ∀ (d F s : Nat), d ≤ 8 → d < F → s < 1019 → (∀ k, k < d → ∃ c, c < 1019 ∧ M 1 (20 + 40 * p + 14 + k) = nI c) → f_X8_valueAt_l13 F (nI p) (nI x) (nI s) (dn d) M = some (nI (hq (co (M 1) p) x d s)) := by
  intro d
  induction d with
  | zero =>
    intro F s hd hF hs hc
    obtain ⟨F, rfl⟩ : ∃ g, F = g + 1 := ⟨F - 1, by omega⟩
    rw [f_X8_valueAt_l13, if_pos dn_0]
    rfl
  | succ d ih =>
    intro F s hd hF hs hc
    obtain ⟨F, rfl⟩ : ∃ g, F = g + 1 := ⟨F - 1, by omega⟩
    obtain ⟨c, c1, c2⟩ := hc d (by omega)
    have i1 : inb (nI (20 + 40 * p + 14 + d)) 420 = true := inb_nI (by omega) (by decide)
    have hsx : s * x ≤ 1019 * 100 := Nat.mul_le_mul (by omega) (by omega)
    have ec : co (M 1) p d = c := by unfold co; rw [c2, nI_clamp (by omega)]
    rw [f_X8_valueAt_l13, if_neg (dn_pos (by omega)), pk_mul, lb_e, e_person, ob1_s, lit_nI 14, nI_add, lb_e, dn_s, nI_add, lb_e, i1, ck_t, nI_clamp (by omega), c2, nI_add, lb_e, lit_nI 1019, irem_nI (by omega) (by decide) (by decide), lb_e, dn_m]
    rw [ih F _ (by omega) (by omega) (Nat.mod_lt _ (by decide)) (fun k hk => hc k (by omega))]
    show _ = some (nI (hq (co (M 1) p) x d ((s * x + co (M 1) p d) % 1019)))
    rw [ec]
theorem e_valueAt {M : St} {p x t : Nat} (hp : p < 8) (hx : x < 100) (h1 : 1 ≤ t) (ht : t ≤ 8) (h6 : M 1 6 = nI t) (hc : ∀ k, k < t → ∃ c, c < 1019 ∧ M 1 (20 + 40 * p + 14 + k) = nI c) : f_X8_valueAt (nI p) (nI x) M = some (nI (hq (co (M 1) p) x t 0)) := by
  rw [f_X8_valueAt, ib_6, ck_t, cl_6, h6, lb_e, show nI t - 1 = dn t from by
    obtain ⟨g, rfl⟩ : ∃ g, t = g + 1 := ⟨t - 1, by omega⟩
    rw [dn_s, nI_pred], lb_e, lit_nI 0]
  exact e_valueAt_l hp hx t 10000 0 ht (by omega) (by decide) hc
theorem e_shareOf {M : St} {p j : Nat} (hp : p < 8) (hj : j < 8) : f_X8_shareOf (nI p) (nI j) M = some (M 1 (20 + 40 * p + 22 + j)) := by
  have i1 : inb (nI (20 + 40 * p + 22 + j)) 420 = true := inb_nI (by omega) (by decide)
  rw [f_X8_shareOf, e_person, ob1_s, lit_nI 22, nI_add, lb_e, nI_add, lb_e, i1, ck_t, nI_clamp (by omega)]
theorem e_isGood {M : St} {p j t : Nat} (hp : p < 8) (hj : j < 8) (h1 : 1 ≤ t) (ht : t ≤ 8) (h6 : M 1 6 = nI t) (hc : ∀ k, k < t → ∃ c, c < 1019 ∧ M 1 (20 + 40 * p + 14 + k) = nI c) : f_X8_isGood (nI p) (nI j) M = some (b2 (gd t (M 1) p j)) := by
  simp only [f_X8_isGood_b22, f_X8_isGood, e_shareOf hp hj, nI_1, e_valueAt hp (show j + 1 < 100 by omega) h1 ht h6 hc, ob1_s, ob2_s, ck_t, lb_e, gd]
  by_cases h : M 1 (20 + 40 * p + 22 + j) = nI (hq (co (M 1) p) (j + 1) t 0)
  · simp [h, isB_1, ck_t, b2]
  · simp [h, isB_0, ck_t, b2]
theorem DL.co {t p : Nat} {L : St} {v : Nat → Int32} (h : DL t L v p) : ∀ k, k < t → ∃ c, c < 1019 ∧ v (20 + 40 * p + 14 + k) = nI c := fun k hk => by
  obtain ⟨c, c1, c2, -⟩ := h.1 k hk
  exact ⟨c, c1, c2⟩
/-! the class's check of a share -/
theorem e_proven_l {I : St} {p x t : Nat} {c : Nat → Nat} (hp : p < 8) (hx : x < 100) (ht : t ≤ 8) (hc : ∀ k, k < t → I (5 + p + 16) k = nI (4 ^ c k % 2039)) (v1 : Int32) (hv1 : v1 + 1 = nI x) : ∀ (d F s : Nat), d ≤ 8 → d < F → f_X5_provenPower_l6 (5 + p) F v1 (nI t) (nI (4 ^ s % 2039)) (dn d) I = some (nI (4 ^ (hq c x (min d t) s) % 2039)) := by
  intro d
  induction d with
  | zero =>
    intro F s hd hF
    obtain ⟨F, rfl⟩ : ∃ g, F = g + 1 := ⟨F - 1, by omega⟩
    rw [f_X5_provenPower_l6, if_pos dn_0, Nat.zero_min]
    rfl
  | succ d ih =>
    intro F s hd hF
    obtain ⟨F, rfl⟩ : ∃ g, F = g + 1 := ⟨F - 1, by omega⟩
    have hlt : ∀ z, z % 2039 < 2 ^ 31 := fun z => Nat.lt_trans (Nat.mod_lt _ (by decide)) (by decide)
    rw [f_X5_provenPower_l6, if_neg (dn_pos (by omega)), dn_s]
    by_cases h : t ≤ d
    · rw [if_pos (nI_le h (by omega)), f_X5_provenPower_b41, dn_m, ih F s (by omega) (by omega), show min d t = min (d + 1) t by omega]
    · have i1 : inb (nI d) 8 = true := inb_nI (by omega) (by decide)
      rw [if_neg (nI_ge (by omega) (by omega)), hv1, lb_e, lit_nI 2039, e_power (hlt _) (by omega) (by decide) (by decide), ob1_s, i1, ck_t, nI_clamp (by omega), hc d (by omega), lb_e, e_product (hlt _) (hlt _) (by decide) (by decide), ob1_s, f_X5_provenPower_b41, dn_m]
      have e : (4 ^ s % 2039) ^ x % 2039 * (4 ^ c d % 2039) % 2039 = 4 ^ ((s * x + c d) % 1019) % 2039 := by
        rw [← g_mod, ← Nat.pow_mod, mulmod, ← Nat.pow_mul, ← Nat.pow_add]
      rw [e, ih F _ (by omega) (by omega), show min d t = d by omega, show min (d + 1) t = d + 1 by omega]
      rfl
theorem e_proven {I : St} {p j t : Nat} {c : Nat → Nat} (hp : p < 8) (hj : j < 8) (ht : t ≤ 8) (hc : ∀ k, k < t → I (5 + p + 16) k = nI (4 ^ c k % 2039)) : f_X5_provenPower (5 + p) (nI j) (nI t) I = some (nI (4 ^ (hq c (j + 1) t 0) % 2039)) := by
  rw [f_X5_provenPower, isP_of hp, ck_t, show (1 : Int32) = nI (4 ^ 0 % 2039) from rfl, show (7 : Int32) = dn 8 from rfl]
  have := e_proven_l hp (show j + 1 < 100 by omega) ht hc (nI j) (nI_1 j) 8 10000 0 (by decide) (by decide)
  rw [show min 8 t = t by omega] at this
  exact this
/-! slow squarings -/
def sq (n x : Nat) : Nat → Nat
  | 0 => x
  | d + 1 => sq n (x * x % n) d
theorem sq_lt {n : Nat} (hn : 0 < n) : ∀ (d x : Nat), x < n → sq n x d < n
  | 0, _, h => h
  | d + 1, _, _ => sq_lt hn d _ (Nat.mod_lt _ hn)
theorem e_value_l {D : Nat} (hD : D < 2 ^ 31) : ∀ (d i F x : Nat), i + d = D → d < F → x < 62615533 → f_X6_value_l7 F (nI D) (nI x) (nI i) = some (nI (sq 62615533 x d)) := by
  intro d
  induction d with
  | zero =>
    intro i F x hi hF hx
    obtain ⟨F, rfl⟩ : ∃ g, F = g + 1 := ⟨F - 1, by omega⟩
    rw [f_X6_value_l7, if_pos (nI_le (by omega) (by omega))]
    rfl
  | succ d ih =>
    intro i F x hi hF hx
    obtain ⟨F, rfl⟩ : ∃ g, F = g + 1 := ⟨F - 1, by omega⟩
    rw [f_X6_value_l7, if_neg (nI_ge (by omega) hD), lit_nI 62615533, e_product (by omega) (by omega) (by decide) (by decide), ob1_s, nI_1]
    exact ih (i + 1) F _ (by omega) (by omega) (Nat.mod_lt _ (by decide))
theorem e_value {b D : Nat} (hb : b < 2 ^ 31) (hD : D ≤ 5000) : f_X6_value (nI b) (nI D) = some (nI (sq 62615533 (b % 62615533) D)) := by
  rw [f_X6_value, lit_nI 62615533, irem_nI hb (by decide) (by decide), lb_e, lit_nI 0]
  exact e_value_l (by omega) D 0 10000 _ (by omega) (by omega) (Nat.mod_lt _ (by decide))
theorem e_squares_l {D : Nat} (hD : D < 2 ^ 31) : ∀ (d i F x : Nat), i + d = D → d < F → x < 62615533 → f_X8_squares_l10 F (nI D) (lN x) (nI i) = some (lN (sq 62615533 x d)) := by
  intro d
  induction d with
  | zero =>
    intro i F x hi hF hx
    obtain ⟨F, rfl⟩ : ∃ g, F = g + 1 := ⟨F - 1, by omega⟩
    rw [f_X8_squares_l10, if_pos (nI_le (by omega) (by omega))]
    rfl
  | succ d ih =>
    intro i F x hi hF hx
    obtain ⟨F, rfl⟩ : ∃ g, F = g + 1 := ⟨F - 1, by omega⟩
    have hxx : x * x < 2 ^ 63 := by
      have := Nat.mul_lt_mul'' hx hx
      omega
    have hr : lrem (lN (x * x)) 62615533 = lN (x * x % 62615533) := pk_lRem hxx (by decide) (by decide)
    rw [f_X8_squares_l10, if_neg (nI_ge (by omega) hD), lN_mul, lb_e, hr, lb_e, nI_1]
    exact ih (i + 1) F _ (by omega) (by omega) (Nat.mod_lt _ (by decide))
theorem e_squares {b D : Nat} (hb : b < 2 ^ 31) (hD : D ≤ 5000) : f_X8_squares (nI b) (nI D) = some (lN (sq 62615533 (b % 62615533) D)) := by
  have hr : lrem (lN b) 62615533 = lN (b % 62615533) := pk_lRem (by omega) (by decide) (by decide)
  rw [f_X8_squares, nI_l hb, lb_e, hr, lb_e, lit_nI 0]
  exact e_squares_l (by omega) D 0 10000 _ (by omega) (by omega) (Nat.mod_lt _ (by decide))
