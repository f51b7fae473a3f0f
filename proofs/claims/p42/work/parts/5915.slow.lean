/-! slow computations -/
theorem lg_le0 {e : Nat} (he : e < 2 ^ 63) : lg_cmp (lN e) 0 ≤ 0 ↔ e = 0 := by
  by_cases h : e = 0
  · subst h
    exact ⟨fun _ => rfl, fun _ => by decide⟩
  · have h1 : lN e > 0 := by
      show lN 0 < lN e
      exact (pk_lLT (by decide) he).2 (by omega)
    refine ⟨fun q => ?_, fun q => absurd q h⟩
    rw [lg_cmp, if_pos h1] at q
    exact absurd q (by decide)
theorem lg_eq0 (x y : Int64) : lg_cmp x y = 0 ↔ x = y := by
  by_cases h : x = y
  · subst h
    have : ¬ x > x := by
      rw [gt_iff_lt, Int64.lt_iff_toInt_lt]; omega
    rw [lg_cmp, if_neg this, if_pos rfl]
    exact ⟨fun _ => rfl, fun _ => rfl⟩
  · refine ⟨fun q => ?_, fun q => absurd q h⟩
    unfold lg_cmp at q
    by_cases g : x > y
    · rw [if_pos g] at q
      exact absurd q (by decide)
    · rw [if_neg g, if_neg h] at q
      exact absurd q (by decide)
theorem lg_lt0 {a b : Nat} (ha : a < 2 ^ 63) (hb : b < 2 ^ 63) : lg_cmp (lN a) (lN b) < 0 ↔ a < b := by
  unfold lg_cmp
  by_cases h : lN a > lN b
  · have := (pk_lLT hb ha).1 h
    rw [if_pos h]
    exact ⟨fun q => absurd q (by decide), fun q => by omega⟩
  · have h1 : ¬ b < a := fun q => h ((pk_lLT hb ha).2 q)
    rw [if_neg h]
    by_cases e : lN a = lN b
    · have := (pk_lEQ ha hb).1 e
      rw [if_pos e]
      exact ⟨fun q => absurd q (by decide), fun q => by omega⟩
    · have h2 : ¬ a = b := fun q => e (by rw [q])
      rw [if_neg e]
      exact ⟨fun _ => by omega, fun _ => by decide⟩
theorem lrem_lN {a b : Nat} (ha : a < 2 ^ 63) (h0 : 0 < b) (hb : b < 2 ^ 63) : lrem (lN a) (lN b) = lN (a % b) := pk_lRem ha h0 hb
theorem mul63 {a b m : Nat} (ha : a < m) (hb : b < m) (hm : m ≤ 2 ^ 31) : a * b < 2 ^ 63 := by
  have h1 := Nat.mul_lt_mul'' (Nat.lt_of_lt_of_le ha hm) (Nat.lt_of_lt_of_le hb hm)
  omega
theorem e_mpower_l {m : Nat} (h1 : 1 ≤ m) (hm : m < 2 ^ 31) : ∀ (k F e x s : Nat), e < 2 ^ k → k ≤ 62 → k < F → x < m → s < m → f_X8_power_l15 F (lN m) (lN x) (lN s) (lN e) = some (lN (x * s ^ e % m)) := by
  intro k
  induction k with
  | zero =>
    intro F e x s he hk hF hx hs
    obtain ⟨F, rfl⟩ : ∃ g, F = g + 1 := ⟨F - 1, by omega⟩
    have e0 : e = 0 := by omega
    subst e0
    rw [f_X8_power_l15, if_pos ((lg_le0 (by decide)).2 rfl), Nat.pow_zero, Nat.mul_one, Nat.mod_eq_of_lt hx]
  | succ k ih =>
    intro F e x s he hk hF hx hs
    obtain ⟨F, rfl⟩ : ∃ g, F = g + 1 := ⟨F - 1, by omega⟩
    have e63 : e < 2 ^ 63 := Nat.lt_of_lt_of_le he (Nat.pow_le_pow_right (by decide) (by omega))
    by_cases e0 : e = 0
    · subst e0
      rw [f_X8_power_l15, if_pos ((lg_le0 (by decide)).2 rfl), Nat.pow_zero, Nat.mul_one, Nat.mod_eq_of_lt hx]
    · have hd : lN e / 2 = lN (e / 2) := pk_lDiv e63 (by decide) (by decide)
      have hm2 : lrem (lN e) 2 = lN (e % 2) := lrem_lN e63 (by decide) (by decide)
      have hss : s * s % m < m := Nat.mod_lt _ h1
      have hxs : x * s % m < m := Nat.mod_lt _ h1
      have he2 : e / 2 < 2 ^ k := by rw [Nat.pow_succ] at he; omega
      have hsq : ∀ j, (s * s % m) ^ j % m = s ^ (2 * j) % m := fun j => by
        rw [← Nat.pow_mod, Nat.pow_mul, Nat.pow_two]
      rw [f_X8_power_l15, if_neg (fun q => e0 ((lg_le0 e63).1 q)), hm2, lb_e]
      by_cases hb : e % 2 = 1
      · rw [hb, if_pos ((lg_eq0 _ _).2 (show lN 1 = 1 from rfl)), lN_mul, lb_e, nzL_lN h1 hm, ck_t, f_X8_power_b46, lN_mul, lb_e, nzL_lN h1 hm, ck_t, hd, lrem_lN (mul63 hx hs (by omega)) h1 (by omega), lrem_lN (mul63 hs hs (by omega)) h1 (by omega), lb_e, lb_e]
        rw [ih F (e / 2) _ _ he2 (by omega) (by omega) hxs hss, Nat.mul_mod, hsq, Nat.mod_mod, ← Nat.mul_mod, Nat.mul_assoc, ← Nat.pow_succ', show (2 * (e / 2)).succ = e by omega]
      · have hb0 : e % 2 = 0 := by omega
        rw [hb0, if_neg (fun q => absurd ((lg_eq0 _ _).1 q) (by decide)), f_X8_power_b46, lN_mul, lb_e, nzL_lN h1 hm, ck_t, hd, lrem_lN (mul63 hs hs (by omega)) h1 (by omega), lb_e, lb_e]
        rw [ih F (e / 2) _ _ he2 (by omega) (by omega) hx hss, Nat.mul_mod, hsq, ← Nat.mul_mod, show 2 * (e / 2) = e by omega]
theorem e_mpower {b e m : Nat} (hb : b < 2 ^ 31) (he : e < 2 ^ 31) (h1 : 1 ≤ m) (hm : m < 2 ^ 31) : f_X8_power (lN b) (lN e) (lN m) = some (lN (b ^ e % m)) := by
  rw [f_X8_power, nzL_lN h1 hm, ck_t, lb_e, ck_t, show lrem 1 (lN m) = lN (1 % m) from lrem_lN (by decide) h1 (by omega), lrem_lN (by omega) h1 (by omega), lb_e]
  rw [e_mpower_l h1 hm 31 10000 e _ _ he (by decide) (by decide) (Nat.mod_lt _ h1) (Nat.mod_lt _ h1), Nat.mul_mod, ← Nat.pow_mod, Nat.mod_mod, ← Nat.mul_mod, Nat.one_mul]
theorem e_slowT (x y : Int32) : f_X7_isSlowTask x y = some (b2 (wi x 2 100000 && wi y 0 5000)) := by
  simp only [f_X7_isSlowTask_b26, f_X7_isSlowTask_b25, f_X7_isSlowTask, e_isWithin, ob1_s, ob2_s, ck_t, lb_e]
  cases wi x 2 100000 <;> cases wi y 0 5000 <;> simp [b2, isB_0, isB_1, ck_t]
theorem e_mSlowT (x y : Int32) : f_X8_isSlow x y = some (b2 (wi x 2 100000 && wi y 0 5000)) := by
  simp only [f_X8_isSlow_b26, f_X8_isSlow_b25, f_X8_isSlow, e_in, ob1_s, ob2_s, ck_t, lb_e]
  cases wi x 2 100000 <;> cases wi y 0 5000 <;> simp [b2, isB_0, isB_1, ck_t]
theorem s_slow (x y : Int32) : Rd (f_X7_slow x y) (f_X8_slow x y) := by
  simp only [f_X7_slow, f_X8_slow_b18, f_X8_slow, e_slowT, e_mSlowT, ob1_s, ob2_s, ck_t, lb_e]
  by_cases h : (wi x 2 100000 && wi y 0 5000) = true
  · obtain ⟨h1, h2⟩ := Bool.and_eq_true_iff.mp h
    obtain ⟨b, b1, b2', rfl⟩ := wi_ex (a := 2) (b := 100000) (by decide) (by decide) h1
    obtain ⟨d, d1, d2, rfl⟩ := wi_ex (a := 0) (b := 5000) (by decide) (by decide) h2
    rw [h, if_neg (show ¬ b2 true = 0 by decide), if_neg (show ¬ b2 true = 0 by decide), e_value (by omega) d2, e_squares (by omega) d2, ob1_s, ob1_s, lN_i]
    exact ⟨_, rfl, rfl⟩
  · rw [Bool.eq_false_iff.mpr h, if_pos (show b2 false = 0 from rfl), if_pos (show b2 false = 0 from rfl)]
    exact ⟨_, rfl, rfl⟩
theorem s_quick (x y : Int32) : Rd (f_X7_quick x y) (f_X8_quick x y) := by
  simp only [f_X7_quick_b21, f_X7_quick, f_X8_quick_b21, f_X8_quick, e_isWithin, e_in, ob1_s, ob2_s, ck_t, lb_e, f_X6_valueByFactors]
  by_cases h1 : wi x 2 7906 = true
  · rw [h1, if_neg (show ¬ b2 true = 0 by decide), if_neg (show ¬ b2 true = 0 by decide)]
    by_cases h2 : wi y 0 1000000000 = true
    · obtain ⟨b, b1, b2', rfl⟩ := wi_ex (a := 2) (b := 7906) (by decide) (by decide) h1
      obtain ⟨d, d1, d2, rfl⟩ := wi_ex (a := 0) (b := 1000000000) (by decide) (by decide) h2
      have hl : 2 ^ d % 62599708 < 2 ^ 31 := Nat.lt_trans (Nat.mod_lt _ (by decide)) (by decide)
      rw [h2, if_neg (show ¬ b2 true = 0 by decide), if_neg (show ¬ b2 true = 0 by decide), nI_l (by omega), nI_l (by omega), lit_nI 2, lit_nI 62599708, lit_nI 62615533]
      rw [e_power (by decide) (by omega) (by decide) (by decide), ob1_s, e_power (by omega) hl (by decide) (by decide), ob1_s]
      rw [show (2 : Int64) = lN 2 from rfl, show (62599708 : Int64) = lN 62599708 from rfl, show (62615533 : Int64) = lN 62615533 from rfl, e_mpower (b := 2) (e := d) (m := 62599708) (by decide) (by omega) (by decide) (by decide), ob1_s, ob1_s, e_mpower (b := b) (m := 62615533) (by omega) hl (by decide) (by decide), ob1_s, lN_i]
      exact ⟨_, rfl, rfl⟩
    · rw [Bool.eq_false_iff.mpr h2, if_pos (show b2 false = 0 from rfl), if_pos (show b2 false = 0 from rfl)]
      exact ⟨_, rfl, rfl⟩
  · rw [Bool.eq_false_iff.mpr h1, if_pos (show b2 false = 0 from rfl), if_pos (show b2 false = 0 from rfl)]
    exact ⟨_, rfl, rfl⟩
/-! the prime of a challenge -/
def tp (n : Nat) : Nat → Nat → Bool
  | _, 0 => true
  | d, k + 1 => if n < d * d then true else if n % d = 0 then false else tp n (d + 1) k
def pt (n : Nat) : Bool := tp n 2 60
theorem tp_c {n : Nat} (h0 : 2 ≤ n) (hn : n < 1400) : ∀ (k d F : Nat), 2 ≤ d → d + k = 62 → k < F → f_X6_isPrime_l2 F (nI n) (nI d) = some (b2 (tp n d k)) := by
  intro k
  induction k with
  | zero =>
    intro d F hd h hF
    obtain ⟨F, rfl⟩ : ∃ g, F = g + 1 := ⟨F - 1, by omega⟩
    have e : d = 62 := by omega
    subst e
    rw [f_X6_isPrime_l2, pk_mul, lb_e, if_pos ((nI_ltI (by omega) (by decide)).2 (by omega)), if_neg (show ¬ nI n < 2 from nI_nlt (b := 2) h0 (by omega)), f_X6_isPrime_b33, isB_1, ck_t]
    rfl
  | succ k ih =>
    intro d F hd h hF
    obtain ⟨F, rfl⟩ : ∃ g, F = g + 1 := ⟨F - 1, by omega⟩
    have hdd : d * d < 2 ^ 31 := by
      have := Nat.mul_le_mul (show d ≤ 62 by omega) (show d ≤ 62 by omega)
      omega
    rw [f_X6_isPrime_l2, pk_mul, lb_e]
    by_cases c : n < d * d
    · rw [if_pos ((nI_ltI (by omega) hdd).2 c), if_neg (show ¬ nI n < 2 from nI_nlt (b := 2) h0 (by omega)), f_X6_isPrime_b33, isB_1, ck_t, tp, if_pos c]
      rfl
    · rw [if_neg (fun q => c ((nI_ltI (by omega) hdd).1 q)), show nz (nI d) = true by simp [nz, show ¬ nI d = 0 from fun q => by have := (nI_eq (a := d) (b := 0) (by omega) (by decide)).1 q; omega], ck_t, irem_nI (by omega) (by omega) (by omega), tp, if_neg c]
      by_cases c2 : n % d = 0
      · rw [c2, if_pos (show nI 0 = 0 from rfl), if_pos rfl]
        rfl
      · rw [if_neg (show ¬ nI (n % d) = 0 from nI_ne0 (by omega) (by have := Nat.mod_lt n (show d > 0 by omega); omega)), if_neg c2, nI_1]
        exact ih (d + 1) F (by omega) (by omega) (by omega)
theorem tp_m0 {n : Nat} (d : Nat) (F : Nat) (hF : 0 < F) : f_X8_isPrime_l13 F (nI n) 0 (nI d) = some 0 := by
  obtain ⟨F, rfl⟩ : ∃ g, F = g + 1 := ⟨F - 1, by omega⟩
  rw [f_X8_isPrime_l13, lb_e, if_pos (show (0 : Int32) = 0 from rfl), f_X8_isPrime_b42, isB_0, ck_t]
  split <;> rfl
theorem tp_m {n : Nat} (h0 : 2 ≤ n) (hn : n < 1400) : ∀ (k d F : Nat), 2 ≤ d → d + k = 62 → k + 1 < F → f_X8_isPrime_l13 F (nI n) 1 (nI d) = some (b2 (tp n d k)) := by
  intro k
  induction k with
  | zero =>
    intro d F hd h hF
    obtain ⟨F, rfl⟩ : ∃ g, F = g + 1 := ⟨F - 1, by omega⟩
    have e : d = 62 := by omega
    subst e
    rw [f_X8_isPrime_l13, pk_mul, lb_e, if_pos ((nI_ltI (by omega) (by decide)).2 (by omega)), f_X8_isPrime_b42, isB_1, ck_t]
    rfl
  | succ k ih =>
    intro d F hd h hF
    obtain ⟨F, rfl⟩ : ∃ g, F = g + 1 := ⟨F - 1, by omega⟩
    have hdd : d * d < 2 ^ 31 := by
      have := Nat.mul_le_mul (show d ≤ 62 by omega) (show d ≤ 62 by omega)
      omega
    rw [f_X8_isPrime_l13, pk_mul, lb_e]
    by_cases c : n < d * d
    · rw [if_pos ((nI_ltI (by omega) hdd).2 c), f_X8_isPrime_b42, isB_1, ck_t, tp, if_pos c]
      rfl
    · rw [if_neg (fun q => c ((nI_ltI (by omega) hdd).1 q)), if_neg (show ¬ (1 : Int32) = 0 by decide), show nz (nI d) = true by simp [nz, show ¬ nI d = 0 from fun q => by have := (nI_eq (a := d) (b := 0) (by omega) (by decide)).1 q; omega], ck_t, irem_nI (by omega) (by omega) (by omega), tp, if_neg c]
      by_cases c2 : n % d = 0
      · rw [c2, if_pos (show nI 0 = 0 from rfl), if_pos rfl, f_X8_isPrime_b35, nI_1, tp_m0 (d + 1) F (by omega)]
        rfl
      · rw [if_neg (show ¬ nI (n % d) = 0 from nI_ne0 (by omega) (by have := Nat.mod_lt n (show d > 0 by omega); omega)), if_neg c2, f_X8_isPrime_b35, nI_1]
        exact ih (d + 1) F (by omega) (by omega) (by omega)
theorem pt_c (k : Nat) (hk : k < 1100) : f_X6_isPrime (nI (257 + k)) = some (b2 (pt (257 + k))) := by
  rw [f_X6_isPrime, lit_nI 2]
  exact tp_c (by omega) (by omega) 60 2 10000 (by decide) (by decide) (by decide)
theorem pt_m (k : Nat) (hk : k < 1100) : f_X8_isPrime (nI (257 + k)) = some (b2 (pt (257 + k))) := by
  rw [f_X8_isPrime, if_neg (show ¬ nI (257 + k) ≤ 1 from nI_ge (a := 1) (b := 257 + k) (by omega) (by omega)), f_X8_isPrime_b10, lit_nI 2]
  exact tp_m (by omega) (by omega) 60 2 10000 (by decide) (by decide) (by decide)
theorem pt_ex : ∀ s, s < 1024 → ∃ g, g < 60 ∧ pt (257 + s + g) = true := by decide +kernel
theorem e_least {s : Nat} (hs : s < 1024) : ∀ (d F g : Nat), g + d = 60 → d < F → (∃ k, k < d ∧ pt (257 + s + (g + k)) = true) → ∃ l, 257 ≤ l ∧ l < 1400 ∧ f_X6_leastPrime_l2 F (nI (257 + s)) (nI (257 + s + g)) = some (nI l) ∧ ∀ G, d < G → f_X8_primeFor_l18 G (nI (257 + s + g)) = some (nI l) := by
  intro d
  induction d with
  | zero =>
    intro F g h1 h2 ⟨k, k1, _⟩
    omega
  | succ d ih =>
    intro F g h1 h2 ⟨k, k1, k2⟩
    obtain ⟨F, rfl⟩ : ∃ g, F = g + 1 := ⟨F - 1, by omega⟩
    have hlt : ¬ nI (2 * (257 + s)) ≤ nI (257 + s + g) := nI_ge (by omega) (by omega)
    have hc := pt_c (s + g) (by omega)
    have hmm := pt_m (s + g) (by omega)
    rw [← Nat.add_assoc] at hc hmm
    rw [f_X6_leastPrime_l2, lit_nI 2, pk_mul, if_neg hlt, hc, ob1_s]
    by_cases hp : pt (257 + s + g) = true
    · rw [hp, if_neg (show ¬ b2 true = 0 by decide)]
      refine ⟨257 + s + g, by omega, by omega, rfl, fun G hG => ?_⟩
      obtain ⟨G, rfl⟩ : ∃ g, G = g + 1 := ⟨G - 1, by omega⟩
      rw [f_X8_primeFor_l18, hmm, ob1_s, hp, if_neg (show ¬ b2 true = 0 by decide)]
    · have hf := Bool.eq_false_iff.mpr hp
      rw [hf, if_pos (show b2 false = 0 from rfl), nI_1]
      have hk : k ≠ 0 := fun q => by rw [q, Nat.add_zero] at k2; exact hp k2
      obtain ⟨l, l1, l2, l3, l4⟩ := ih F (g + 1) (by omega) (by omega) ⟨k - 1, by omega, by rw [show g + 1 + (k - 1) = g + k by omega]; exact k2⟩
      refine ⟨l, l1, l2, l3, fun G hG => ?_⟩
      obtain ⟨G, rfl⟩ : ∃ g, G = g + 1 := ⟨G - 1, by omega⟩
      rw [f_X8_primeFor_l18, hmm, ob1_s, hf, if_pos (show b2 false = 0 from rfl), nI_1]
      exact l4 G (by omega)
def mx (x y : Int32) : Int32 := (x ^^^ y) * (-1640531535) ^^^ iushr ((x ^^^ y) * (-1640531535)) 15
theorem e_mix (x y : Int32) : f_X7_mix x y = some (mx x y) := rfl
theorem e_mmix (x y : Int32) : f_X8_mix x y = some (mx x y) := rfl
theorem e_chal (x y : Int32) : ∃ l, 257 ≤ l ∧ l < 1400 ∧ f_X6_challenge x y = some (nI l) ∧ f_X8_primeFor x y = some (nI l) := by
  obtain ⟨w, w1, w2⟩ := of32 (mx (mx 19 x) y)
  have hw : w / 2 ^ 22 < 1024 := by omega
  obtain ⟨g, g1, g2⟩ := pt_ex _ hw
  obtain ⟨l, l1, l2, l3, l4⟩ := e_least hw 60 10000 0 rfl (by decide) ⟨g, g1, by rw [Nat.zero_add]; exact g2⟩
  refine ⟨l, l1, l2, ?_, ?_⟩
  · rw [f_X6_challenge, e_mix, ob1_s, e_mix, ob1_s, w2, lit_nI 22, iushr_nI w1 (by decide), lit_nI 257, nI_add, f_X6_leastPrime]
    rw [Nat.add_zero] at l3
    rw [l3]; rfl
  · rw [f_X8_primeFor, e_mmix, ob1_s, e_mmix, ob1_s, w2, lit_nI 22, iushr_nI w1 (by decide), lit_nI 257, nI_add, lb_e]
    exact l4 10000 (by decide)
theorem s_prime (x y : Int32) : Rd (f_X7_prime x y) (f_X8_prime x y) := by
  simp only [f_X7_prime, f_X8_prime_b22, f_X8_prime, e_slowT, e_mSlowT, ob1_s, ob2_s, ck_t, lb_e]
  by_cases h : (wi x 2 100000 && wi y 0 5000) = true
  · obtain ⟨h1, h2⟩ := Bool.and_eq_true_iff.mp h
    obtain ⟨b, b1, b2', rfl⟩ := wi_ex (a := 2) (b := 100000) (by decide) (by decide) h1
    obtain ⟨d, d1, d2, rfl⟩ := wi_ex (a := 0) (b := 5000) (by decide) (by decide) h2
    rw [h, if_neg (show ¬ b2 true = 0 by decide), if_neg (show ¬ b2 true = 0 by decide), e_value (by omega) d2, e_squares (by omega) d2, ob1_s, ob1_s, lN_i]
    obtain ⟨l, l1, l2, l3, l4⟩ := e_chal (nI b) (nI (sq 62615533 (b % 62615533) d))
    rw [l3, l4]
    exact ⟨_, rfl, rfl⟩
  · rw [Bool.eq_false_iff.mpr h, if_pos (show b2 false = 0 from rfl), if_pos (show b2 false = 0 from rfl)]
    exact ⟨_, rfl, rfl⟩
theorem e_proof_l {b D l : Nat} (hb : b < 2 ^ 31) (hD : D ≤ 5000) (hl1 : 257 ≤ l) (hl : l < 1400) : ∀ (d i F G r x : Nat), i + d = D → d < F → d < G → r < l → x < 62615533 → Rd (f_X6_evidence_l8 F (nI b) (nI D) (nI l) (nI x) (nI r) (nI i)) (f_X8_proof_l30 G (nI b) (nI D) (nI l) (lN r) (lN x) (nI i)) := by
  intro d
  induction d with
  | zero =>
    intro i F G r x hi hF hG hr hx
    obtain ⟨F, rfl⟩ : ∃ g, F = g + 1 := ⟨F - 1, by omega⟩
    obtain ⟨G, rfl⟩ : ∃ g, G = g + 1 := ⟨G - 1, by omega⟩
    rw [f_X6_evidence_l8, f_X8_proof_l30, if_pos (nI_le (by omega) (by omega)), if_pos (nI_le (by omega) (by omega)), lN_i]
    exact ⟨_, rfl, rfl⟩
  | succ d ih =>
    intro i F G r x hi hF hG hr hx
    obtain ⟨F, rfl⟩ : ∃ g, F = g + 1 := ⟨F - 1, by omega⟩
    obtain ⟨G, rfl⟩ : ∃ g, G = g + 1 := ⟨G - 1, by omega⟩
    have hxx : x * x % 62615533 < 62615533 := Nat.mod_lt _ (by decide)
    have m1 := mul63 hx hx (by decide)
    have m2 : x * x % 62615533 * b < 2 ^ 63 := mul63 (m := 2 ^ 31) (by omega) hb (by decide)
    rw [f_X6_evidence_l8, f_X8_proof_l30, if_neg (nI_ge (by omega) (by omega)), if_neg (nI_ge (by omega) (by omega))]
    rw [lit_nI 62615533, e_product (by omega) (by omega) (by decide) (by decide), ob1_s, lit_nI 2, pk_mul, lb_e]
    rw [show (2 : Int64) = lN 2 from rfl, show (62615533 : Int64) = lN 62615533 from rfl, lN_mul, lN_mul, lb_e, lb_e, lb_e, lrem_lN (b := 62615533) m1 (by decide) (by decide), lb_e, nI_l (n := l) (by omega), nI_l hb]
    by_cases c : 2 * r < l
    · rw [if_pos ((nI_ltI (by omega) (by omega)).2 c), if_pos ((lg_lt0 (by omega) (by omega)).2 (show r * 2 < l by omega)), f_X6_evidence_b48, f_X8_proof_b81, nI_1, Nat.mul_comm r 2]
      exact ih (i + 1) F G _ _ (by omega) (by omega) (by omega) c hxx
    · rw [if_neg (fun q => c ((nI_ltI (by omega) (by omega)).1 q)), if_neg (fun q => c (by have := (lg_lt0 (by omega) (by omega)).1 q; omega)), pk_sub (by omega), e_product (by omega) hb (by decide) (by decide), ob1_s, f_X6_evidence_b48, nI_1]
      rw [lN_sub (by omega), lb_e, lN_mul, lb_e, lrem_lN m2 (by decide) (by decide), lb_e, f_X8_proof_b81, nI_1, Nat.mul_comm r 2]
      exact ih (i + 1) F G _ _ (by omega) (by omega) (by omega) (by omega) (Nat.mod_lt _ (by decide))
theorem s_proof (x y : Int32) : Rd (f_X7_proof x y) (f_X8_proof x y) := by
  simp only [f_X7_proof, f_X8_proof_b81, f_X8_proof, e_slowT, e_mSlowT, ob1_s, ob2_s, ck_t, lb_e]
  by_cases h : (wi x 2 100000 && wi y 0 5000) = true
  · obtain ⟨h1, h2⟩ := Bool.and_eq_true_iff.mp h
    obtain ⟨b, b1, b2', rfl⟩ := wi_ex (a := 2) (b := 100000) (by decide) (by decide) h1
    obtain ⟨d, d1, d2, rfl⟩ := wi_ex (a := 0) (b := 5000) (by decide) (by decide) h2
    rw [h, if_neg (show ¬ b2 true = 0 by decide), if_neg (show ¬ b2 true = 0 by decide), e_value (by omega) d2, e_squares (by omega) d2, ob1_s, ob1_s, lN_i]
    obtain ⟨l, l1, l2, l3, l4⟩ := e_chal (nI b) (nI (sq 62615533 (b % 62615533) d))
    rw [l3, l4, ob1_s, ob1_s, f_X6_evidence, lit_nI 1, lit_nI 0, show (1 : Int64) = lN 1 from rfl]
    obtain ⟨r, r1, r2⟩ := e_proof_l (b := b) (D := d) (l := l) (by omega) d2 l1 l2 d 0 10000 10000 1 1 (by omega) (by omega) (by omega) (by omega) (by decide)
    exact ⟨r, by rw [r1]; rfl, r2⟩
  · rw [Bool.eq_false_iff.mpr h, if_pos (show b2 false = 0 from rfl), if_pos (show b2 false = 0 from rfl)]
    exact ⟨_, rfl, rfl⟩
theorem acc_fin {A C y : Nat} (hA : A < 62615533) (hC : C < 62615533) (hy : y < 62615533) : Rd (ob1 (if nI (A * C % 62615533) = nI y then f_X6_isProven_b46 1 else f_X6_isProven_b46 0) fun r14 => if r14 = 0 then f_X7_accepts_b59 0 else f_X7_accepts_b59 1) (lb (lN A * lN C) fun y25 => lb (lrem y25 (lN 62615533)) fun y26 => if lg_cmp y26 (lN y) = 0 then f_X8_accepts_b97 1 else f_X8_accepts_b97 0) := by
  rw [lN_mul, lb_e, lrem_lN (mul63 hA hC (by decide)) (by decide) (by decide), lb_e]
  have k3 : A * C % 62615533 < 62615533 := Nat.mod_lt _ (by decide)
  by_cases c : A * C % 62615533 = y
  · rw [if_pos ((lg_eq0 _ _).2 (by rw [c])), if_pos (by rw [c])]
    exact ⟨_, rfl, rfl⟩
  · rw [if_neg (fun q => c ((pk_lEQ (by omega) (by omega)).1 ((lg_eq0 _ _).1 q))), if_neg (fun q => c ((nI_eq (by omega) (by omega)).1 q))]
    exact ⟨_, rfl, rfl⟩
theorem acc_c {b d y p l : Nat} (hb : b < 2 ^ 31) (hd : d < 2 ^ 31) (hp : p < 2 ^ 31) (l1 : 1 ≤ l) (l2 : l < 2 ^ 31) (h : f_X6_challenge (nI b) (nI y) = some (nI l)) : f_X6_isProven (nI b) (nI d) (nI y) (nI p) = if nI ((p ^ l % 62615533) * (b ^ (2 ^ d % l) % 62615533) % 62615533) = nI y then f_X6_isProven_b46 1 else f_X6_isProven_b46 0 := by
  have hl : 2 ^ d % l < 2 ^ 31 := Nat.lt_trans (Nat.mod_lt _ l1) l2
  have ml : ∀ k, k % 62615533 < 2 ^ 31 := fun k => Nat.lt_trans (Nat.mod_lt k (by decide)) (by decide)
  rw [f_X6_isProven, h, ob1_s, lit_nI 2, lit_nI 62615533, e_power (by decide) hd l1 l2, ob1_s, e_power hp l2 (by decide) (by decide), ob1_s, e_power hb hl (by decide) (by decide), ob1_s, e_product (ml _) (ml _) (by decide) (by decide), ob1_s]
theorem acc_m {b d p l : Nat} (hb : b < 2 ^ 31) (hd : d < 2 ^ 31) (hp : p < 2 ^ 31) (l1 : 1 ≤ l) (l2 : l < 2 ^ 31) (k : Int64 → Int64 → Option Int32) : (ob1 (f_X8_power (lN p) (lN l) 62615533) fun r18 => lb (lN b) fun y19 => lb (lN d) fun y20 => ob1 (f_X8_power 2 y20 (lN l)) fun r22 => ob1 (f_X8_power y19 r22 62615533) fun r24 => k r18 r24) = k (lN (p ^ l % 62615533)) (lN (b ^ (2 ^ d % l) % 62615533)) := by
  have hl : 2 ^ d % l < 2 ^ 31 := Nat.lt_trans (Nat.mod_lt _ l1) l2
  rw [show (2 : Int64) = lN 2 from rfl, show (62615533 : Int64) = lN 62615533 from rfl, e_mpower hp l2 (by decide) (by decide), ob1_s, lb_e, lb_e, e_mpower (by decide) hd l1 l2, ob1_s, e_mpower hb hl (by decide) (by decide), ob1_s]
theorem s_accepts (x y z w : Int32) : Rd (f_X7_accepts x y z w) (f_X8_accepts x y z w) := by
  rw [f_X7_accepts, f_X8_accepts, e_isWithin x, ob1_s, e_in x, ob1_s]
  by_cases h1 : wi x 2 100000 = true
  case neg =>
    rw [Bool.eq_false_iff.mpr h1, if_pos (show b2 false = 0 from rfl), if_pos (show b2 false = 0 from rfl)]
    exact ⟨_, rfl, rfl⟩
  rw [h1, if_neg (show ¬ b2 true = 0 by decide), if_neg (show ¬ b2 true = 0 by decide), e_isWithin y, ob1_s, e_in y, ob1_s]
  by_cases h2 : wi y 0 1000000000 = true
  case neg =>
    rw [Bool.eq_false_iff.mpr h2, if_pos (show b2 false = 0 from rfl), if_pos (show b2 false = 0 from rfl)]
    exact ⟨_, rfl, rfl⟩
  rw [h2, if_neg (show ¬ b2 true = 0 by decide), if_neg (show ¬ b2 true = 0 by decide), e_isWithin z, ob1_s, e_in z, ob1_s]
  by_cases h3 : wi z 0 62615532 = true
  case neg =>
    rw [Bool.eq_false_iff.mpr h3, if_pos (show b2 false = 0 from rfl), if_pos (show b2 false = 0 from rfl)]
    exact ⟨_, rfl, rfl⟩
  rw [h3, if_neg (show ¬ b2 true = 0 by decide), if_neg (show ¬ b2 true = 0 by decide), e_isWithin w, ob1_s, e_in w, ob1_s]
  by_cases h4 : wi w 0 62615532 = true
  case neg =>
    rw [Bool.eq_false_iff.mpr h4, if_pos (show b2 false = 0 from rfl), if_pos (show b2 false = 0 from rfl)]
    exact ⟨_, rfl, rfl⟩
  rw [h4, if_neg (show ¬ b2 true = 0 by decide), if_neg (show ¬ b2 true = 0 by decide)]
  obtain ⟨b, b1, b2', rfl⟩ := wi_ex (a := 2) (b := 100000) (by decide) (by decide) h1
  obtain ⟨d, d1, d2, rfl⟩ := wi_ex (a := 0) (b := 1000000000) (by decide) (by decide) h2
  obtain ⟨y, y1, y2, rfl⟩ := wi_ex (a := 0) (b := 62615532) (by decide) (by decide) h3
  obtain ⟨p, p1, p2, rfl⟩ := wi_ex (a := 0) (b := 62615532) (by decide) (by decide) h4
  obtain ⟨l, l1, l2, l3, l4⟩ := e_chal (nI b) (nI y)
  have ml : ∀ k, k % 62615533 < 62615533 := fun k => Nat.mod_lt _ (by decide)
  rw [acc_c (by omega) (by omega) (by omega) (by omega) (by omega) l3, l4, ob1_s, nI_l (n := p) (by omega), nI_l (n := l) (by omega), nI_l (n := b) (by omega), nI_l (n := d) (by omega), nI_l (n := y) (by omega), lb_e, lb_e]
  rw [acc_m (by omega) (by omega) (by omega) (by omega) (by omega) (fun r18 r24 => lb (r18 * r24) fun y25 => lb (lrem y25 62615533) fun y26 => if lg_cmp y26 (lN y) = 0 then f_X8_accepts_b97 1 else f_X8_accepts_b97 0)]
  exact acc_fin (ml _) (ml _) (by omega)
