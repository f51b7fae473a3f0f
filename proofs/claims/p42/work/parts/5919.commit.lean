/-! commitments -/
def stp (y : Int32) : Int32 := 1103515245 * y + 12345
def stn (x : Int32) : Nat → Int32
  | 0 => x
  | k + 1 => stp (stn x k)
def dwn (y : Int32) : Nat := y.toBitVec.toNat / 65536
theorem dwn_lt (y : Int32) : dwn y < 65536 := by
  have := y.toBitVec.isLt
  unfold dwn
  omega
theorem e_stepped (y : Int32) : f_X7_stepped y = some (stp y) := rfl
theorem iushr_dwn (y : Int32) : iushr y 16 = nI (dwn y) := by
  obtain ⟨k, k1, k2⟩ := of32 y
  rw [k2, lit_nI 16, iushr_nI k1 (by decide), dwn, pk_tn k1]
theorem e_drawn (y : Int32) : f_X7_drawn y = some (nI (dwn y)) := by rw [f_X7_drawn, iushr_dwn]
theorem e_draw (M : St) : f_X8_draw M = some (nI (dwn (stp (M 0 5))), u2 M 0 5 (stp (M 0 5))) := by
  have e : u2 M 0 5 (stp (M 0 5)) 0 5 = stp (M 0 5) := by rw [u2_row, upd_ap, if_pos rfl]
  rw [f_X8_draw, lb_e, show (1103515245 : Int32) * M 0 5 + 12345 = stp (M 0 5) from rfl, lb_e, e, lb_e, iushr_dwn]
def cf (s : Nat) (x : Int32) : Nat → Nat
  | 0 => s
  | k + 1 => dwn (stn x (k + 1)) % 1019
theorem cf_lt {s : Nat} (hs : s < 1019) (x : Int32) : ∀ k, cf s x k < 1019
  | 0 => hs
  | _ + 1 => Nat.mod_lt _ (by decide)
def ps (c : Nat → Nat) (q : Nat) : Nat → Nat
  | 0 => 0
  | k + 1 => (ps c q k + c k * ((q + 1) ^ k % 1019)) % 1019
theorem ps_lt (c : Nat → Nat) (q : Nat) : ∀ k, ps c q k < 1019
  | 0 => show 0 < 1019 by decide
  | _ + 1 => Nat.mod_lt _ (by decide)
theorem hq_ps (c : Nat → Nat) (q : Nat) : ∀ (d s : Nat), s < 1019 → hq c (q + 1) d s = (s * (q + 1) ^ d + ps c q d) % 1019 := by
  intro d
  induction d with
  | zero => intro s hs; rw [hq, ps, Nat.pow_zero, Nat.mul_one, Nat.add_zero, Nat.mod_eq_of_lt hs]
  | succ d ih =>
    intro s hs
    rw [hq, ih _ (Nat.mod_lt _ (by decide)), ps]
    generalize q + 1 = x
    generalize ps c q d = y
    generalize c d = z
    rw [Nat.add_mod, Nat.mod_mul_mod, ← Nat.add_mod, Nat.add_mod_mod, ← Nat.add_assoc, Nat.add_mod _ (z * _), Nat.mul_mod_mod, ← Nat.add_mod, Nat.add_mul, Nat.mul_assoc, show x * x ^ d = x ^ (d + 1) from (Nat.pow_succ').symm]
    exact congrArg (· % 1019) (by omega)
theorem hq_cg {c c' : Nat → Nat} {x : Nat} : ∀ (d s : Nat), (∀ k, k < d → c k = c' k) → hq c x d s = hq c' x d s := by
  intro d
  induction d with
  | zero => intro s _; rfl
  | succ d ih =>
    intro s h
    rw [hq, hq, h d (by omega)]
    exact ih _ (fun k hk => h k (by omega))
/-! the class deals -/
theorem e_deal_l64 {o : Nat} (K : Int32 → Int32 → Int32 → Int32 → St → Option St) {t k c : Nat} (ht : t ≤ 8) (hk : k < 8) (hc : c < 1019) (st : Int32) (S : Nat → Nat) (hS : ∀ q, S q < 1019) : ∀ (d j F : Nat) (I : St), j + d = 8 → d < F → (∀ q, j ≤ q → q < 8 → I (o + 8) q = nI (S q)) → ∃ I', f_X5_deal_l64 o K F (nI t) st (nI c) (nI k) (nI j) I = K (nI t) (stp st) (nI (dwn (stp st) % 1019)) (nI (k + 1)) I' ∧ (∀ o', o' ≠ o + 8 → I' o' = I o') ∧ (∀ q, q < j → I' (o + 8) q = I (o + 8) q) ∧ (∀ q, j ≤ q → q < 8 → I' (o + 8) q = nI ((S q + c * ((q + 1) ^ k % 1019)) % 1019)) := by
  intro d
  induction d with
  | zero =>
    intro j F I hj hF _
    obtain ⟨F, rfl⟩ : ∃ g, F = g + 1 := ⟨F - 1, by omega⟩
    have hd := dwn_lt (stp st)
    refine ⟨I, ?_, fun _ _ => rfl, fun _ _ => rfl, fun q a b => absurd a (by omega)⟩
    rw [f_X5_deal_l64, if_pos (show (8 : Int32) ≤ nI j from nI_le (a := 8) (by omega) (by omega)), e_stepped, ob1_s, e_drawn, ob1_s, lit_nI 1019, irem_nI (by omega) (by decide) (by decide), lb_e, nI_1]
  | succ d ih =>
    intro j F I hj hF hI
    obtain ⟨F, rfl⟩ : ∃ g, F = g + 1 := ⟨F - 1, by omega⟩
    have hp : (j + 1) ^ k % 1019 < 1019 := Nat.mod_lt _ (by decide)
    have hm : c * ((j + 1) ^ k % 1019) ≤ 1019 * 1019 := Nat.mul_le_mul (by omega) (by omega)
    have hs := hS j
    obtain ⟨I2, hI2⟩ : ∃ I2, I2 = u2 I (o + 8) j (nI ((S j + c * ((j + 1) ^ k % 1019)) % 1019)) := ⟨_, rfl⟩
    have r1 : ∀ q, I2 (o + 8) q = if q = j then nI ((S j + c * ((j + 1) ^ k % 1019)) % 1019) else I (o + 8) q := fun q => by rw [hI2, u2_row, upd_ap]
    have r2 : ∀ o', o' ≠ o + 8 → I2 o' = I o' := fun o' ho => by rw [hI2, u2_off _ _ _ _ ho]
    obtain ⟨I', k1, k2, k3, k4⟩ := ih (j + 1) F I2 (by omega) (by omega) (fun q a b => by rw [r1, if_neg (by omega)]; exact hI q (by omega) b)
    refine ⟨I', ?_, fun o' ho => by rw [k2 o' ho, r2 o' ho], fun q hq => by rw [k3 q (by omega), r1, if_neg (by omega)], fun q a b => ?_⟩
    · rw [f_X5_deal_l64, if_neg (show ¬ (8 : Int32) ≤ nI j from nI_ge (b := 8) (by omega) (by omega)), inb_nI (by omega) (by decide), ck_t, nI_clamp (by omega), hI j (Nat.le_refl _) (by omega), lb_e, nI_1, lb_e, lit_nI 1019, e_power (by omega) (by omega) (by decide) (by decide), ob1_s, pk_mul, nI_add, lb_e, ck_t, irem_nI (by omega) (by decide) (by decide), lb_e, ← hI2]
      exact k1
    · by_cases e : q = j
      · subst e
        rw [k3 q (by omega), r1, if_pos rfl]
      · exact k4 q (by omega) b
theorem e_deal_l32 {o t s : Nat} {x : Int32} (ht : t ≤ 8) (hs : s < 1019) : ∀ (d k F : Nat) (I : St), k + d = t → d < F → (∀ q, q < 8 → I (o + 8) q = nI (ps (cf s x) q k)) → ∃ I', f_X5_deal_l32 o F (nI t) (stn x k) (nI (cf s x k)) (nI k) I = some I' ∧ (∀ o', o' ≠ o → o' ≠ o + 8 → o' ≠ o + 16 → I' o' = I o') ∧ (∀ z, z ≠ 9 → I' o z = I o z) ∧ I' o 9 = 255 ∧ (∀ q, q < 8 → I' (o + 8) q = nI (ps (cf s x) q t)) ∧ (∀ i, i < k → I' (o + 16) i = I (o + 16) i) ∧ (∀ i, k ≤ i → i < t → I' (o + 16) i = nI (4 ^ cf s x i % 2039)) := by
  intro d
  induction d with
  | zero =>
    intro k F I hk hF hI
    obtain ⟨F, rfl⟩ : ∃ g, F = g + 1 := ⟨F - 1, by omega⟩
    have e : k = t := by omega
    subst e
    refine ⟨u2 I o 9 255, ?_, fun o' a _ _ => u2_off _ _ _ _ a, fun z hz => by rw [u2_row, upd_ap, if_neg hz], by rw [u2_row, upd_ap, if_pos rfl], fun q hq => by rw [u2_off _ _ _ _ (by omega)]; exact hI q hq, fun i _ => by rw [u2_off _ _ _ _ (by omega)], fun i a b => absurd a (by omega)⟩
    rw [f_X5_deal_l32, if_pos (nI_le (Nat.le_refl _) (by omega)), f_X5_deal_b132, lb_e]
  | succ d ih =>
    intro k F I hk hF hI
    obtain ⟨F, rfl⟩ : ∃ g, F = g + 1 := ⟨F - 1, by omega⟩
    have hc := cf_lt hs x k
    obtain ⟨I2, hI2⟩ : ∃ I2, I2 = u2 I (o + 16) k (nI (4 ^ cf s x k % 2039)) := ⟨_, rfl⟩
    have r1 : ∀ q, I2 (o + 16) q = if q = k then nI (4 ^ cf s x k % 2039) else I (o + 16) q := fun q => by rw [hI2, u2_row, upd_ap]
    have r2 : ∀ o', o' ≠ o + 16 → I2 o' = I o' := fun o' ho => by rw [hI2, u2_off _ _ _ _ ho]
    obtain ⟨I3, a1, a2, a3, a4⟩ := e_deal_l64 (o := o) (f_X5_deal_l32 o F) (t := t) (k := k) (c := cf s x k) ht (by omega) hc (stn x k) (fun q => ps (cf s x) q k) (fun q => ps_lt _ _ _) 8 0 10000 I2 (by decide) (by decide) (fun q _ b => by rw [r2 _ (by omega)]; exact hI q b)
    obtain ⟨I', k1, k2, k3, k4, k5, k6, k7⟩ := ih (k + 1) F I3 (by omega) (by omega) (fun q hq => a4 q (Nat.zero_le _) hq)
    refine ⟨I', ?_, fun o' b1 b2 b3 => by rw [k2 o' b1 b2 b3, a2 o' b2, r2 o' b3], fun z hz => by rw [k3 z hz, a2 o (by omega), r2 o (by omega)], k4, k5, fun i hi => by rw [k6 i (by omega), a2 _ (by omega), r1, if_neg (by omega)], fun i b1 b2 => ?_⟩
    · rw [f_X5_deal_l32, if_neg (nI_ge (by omega) (by omega)), if_neg (show ¬ (8 : Int32) ≤ nI k from nI_ge (b := 8) (by omega) (by omega)), lit_nI 4, lit_nI 2039, e_power (by decide) (by omega) (by decide) (by decide), ob1_s, inb_nI (by omega) (by decide), ck_t, nI_clamp (by omega), lb_e, ← hI2, lit_nI 0, a1]
      exact k1
    · by_cases e : i = k
      · subst e
        rw [k6 i (by omega), a2 _ (by omega), r1, if_pos rfl]
      · exact k7 i (by omega) b2
theorem e_deal_l2 {o t s : Nat} {x : Int32} (ht : t ≤ 8) (hs : s < 1019) : ∀ (d j F : Nat) (I : St), j + d = 8 → d < F → I o 5 = x → (∀ q, q < j → I (o + 8) q = 0) → ∃ I', f_X5_deal_l2 o F (nI s) (nI t) (nI j) I = some I' ∧ (∀ o', o' ≠ o → o' ≠ o + 8 → o' ≠ o + 16 → I' o' = I o') ∧ (∀ z, z ≠ 9 → I' o z = I o z) ∧ I' o 9 = 255 ∧ (∀ q, q < 8 → I' (o + 8) q = nI (ps (cf s x) q t)) ∧ (∀ i, i < t → I' (o + 16) i = nI (4 ^ cf s x i % 2039)) := by
  intro d
  induction d with
  | zero =>
    intro j F I hj hF hx hI
    obtain ⟨F, rfl⟩ : ∃ g, F = g + 1 := ⟨F - 1, by omega⟩
    obtain ⟨I', k1, k2, k3, k4, k5, k6, k7⟩ := e_deal_l32 (o := o) (t := t) (s := s) (x := x) ht hs t 0 10000 I (by omega) (by omega) (fun q hq => hI q (by omega))
    refine ⟨I', ?_, k2, k3, k4, k5, fun i hi => k7 i (Nat.zero_le _) hi⟩
    rw [f_X5_deal_l2, if_pos (show (8 : Int32) ≤ nI j from nI_le (a := 8) (by omega) (by omega)), hx, lb_e, lit_nI 0]
    exact k1
  | succ d ih =>
    intro j F I hj hF hx hI
    obtain ⟨F, rfl⟩ : ∃ g, F = g + 1 := ⟨F - 1, by omega⟩
    obtain ⟨I2, hI2⟩ : ∃ I2, I2 = u2 I (o + 8) j 0 := ⟨_, rfl⟩
    have r1 : ∀ q, I2 (o + 8) q = if q = j then 0 else I (o + 8) q := fun q => by rw [hI2, u2_row, upd_ap]
    have r2 : ∀ o', o' ≠ o + 8 → I2 o' = I o' := fun o' ho => by rw [hI2, u2_off _ _ _ _ ho]
    obtain ⟨I', k1, k2, k3, k4, k5, k6⟩ := ih (j + 1) F I2 (by omega) (by omega) (by rw [r2 _ (by omega)]; exact hx) (fun q hq => by
      rw [r1]
      by_cases e : q = j
      · rw [if_pos e]
      · rw [if_neg e]; exact hI q (by omega))
    refine ⟨I', ?_, fun o' a b c => by rw [k2 o' a b c, r2 o' b], fun z hz => by rw [k3 z hz, r2 _ (by omega)], k4, k5, k6⟩
    rw [f_X5_deal_l2, if_neg (show ¬ (8 : Int32) ≤ nI j from nI_ge (b := 8) (by omega) (by omega)), inb_nI (by omega) (by decide), ck_t, nI_clamp (by omega), lb_e, ← hI2, nI_1]
    exact k1
theorem e_deal {o t s : Nat} {x : Int32} (ho : isP o = true) (ht : t ≤ 8) (hs : s < 1019) (I : St) (hx : I o 5 = x) : ∃ I', f_X5_deal o (nI s) (nI t) I = some I' ∧ (∀ o', o' ≠ o → o' ≠ o + 8 → o' ≠ o + 16 → I' o' = I o') ∧ (∀ z, z ≠ 9 → I' o z = I o z) ∧ I' o 9 = 255 ∧ (∀ q, q < 8 → I' (o + 8) q = nI (ps (cf s x) q t)) ∧ (∀ i, i < t → I' (o + 16) i = nI (4 ^ cf s x i % 2039)) := by
  rw [f_X5_deal, ho, ck_t, lit_nI 0]
  exact e_deal_l2 ht hs 8 0 10000 I (by decide) (by decide) hx (fun q hq => absurd hq (by omega))
/-! the model deals -/
theorem e_deals_l76 {p t : Nat} {c : Nat → Nat} (hp : p < 8) (h1 : 1 ≤ t) (ht : t ≤ 8) (hc : ∀ k, c k < 1019) : ∀ (d j F : Nat) (M : St), j + d = 8 → d < F → M 1 6 = nI t → (∀ k, k < t → M 1 (20 + 40 * p + 14 + k) = nI (c k)) → ∃ M', f_X8_deals_l76 F (nI p) (nI (20 + 40 * p)) (nI j) M = some M' ∧ (∀ o, o ≠ 1 → M' o = M o) ∧ (∀ i, ¬ (20 + 40 * p + 22 ≤ i ∧ i < 20 + 40 * p + 30) → M' 1 i = M 1 i) ∧ (∀ q, q < j → M' 1 (20 + 40 * p + 22 + q) = M 1 (20 + 40 * p + 22 + q)) ∧ (∀ q, j ≤ q → q < 8 → M' 1 (20 + 40 * p + 22 + q) = nI (ps c q t)) := by
  intro d
  induction d with
  | zero =>
    intro j F M hj hF h6 hM
    obtain ⟨F, rfl⟩ : ∃ g, F = g + 1 := ⟨F - 1, by omega⟩
    refine ⟨M, ?_, fun _ _ => rfl, fun _ _ => rfl, fun _ _ => rfl, fun q a b => absurd a (by omega)⟩
    rw [f_X8_deals_l76, if_pos (show (8 : Int32) ≤ nI j from nI_le (a := 8) (by omega) (by omega))]
  | succ d ih =>
    intro j F M hj hF h6 hM
    obtain ⟨F, rfl⟩ : ∃ g, F = g + 1 := ⟨F - 1, by omega⟩
    obtain ⟨M2, hM2⟩ : ∃ M2, M2 = u2 M 1 (20 + 40 * p + 22 + j) (nI (ps c j t)) := ⟨_, rfl⟩
    have r1 : ∀ i, M2 1 i = if i = 20 + 40 * p + 22 + j then nI (ps c j t) else M 1 i := fun q => by rw [hM2, u2_row, upd_ap]
    have r2 : ∀ o, o ≠ 1 → M2 o = M o := fun o ho => by rw [hM2, u2_off _ _ _ _ ho]
    obtain ⟨M', k1, k2, k3, k4, k5⟩ := ih (j + 1) F M2 (by omega) (by omega) (by rw [r1, if_neg (by omega)]; exact h6) (fun k hk => by rw [r1, if_neg (by omega)]; exact hM k hk)
    have hv := e_valueAt (M := M) (p := p) (x := j + 1) (t := t) hp (by omega) h1 ht h6 (fun k hk => ⟨c k, hc k, hM k hk⟩)
    rw [hq_cg (c' := c) t 0 (fun k hk => by unfold co; rw [hM k hk, nI_clamp (by have := hc k; omega)]), hq_ps c j t 0 (by decide), Nat.zero_mul, Nat.zero_add, Nat.mod_eq_of_lt (ps_lt c j t)] at hv
    refine ⟨M', ?_, fun o ho => by rw [k2 o ho, r2 o ho], fun i hi => by rw [k3 i hi, r1, if_neg (by omega)], fun q hq => by rw [k4 q (by omega), r1, if_neg (by omega)], fun q a b => ?_⟩
    · rw [f_X8_deals_l76, if_neg (show ¬ (8 : Int32) ≤ nI j from nI_ge (b := 8) (by omega) (by omega)), lit_nI 22, nI_add, lb_e, nI_add, lb_e, nI_1, hv, ob1_s, inb_nI (by omega) (by decide), ck_t, nI_clamp (by omega), lb_e, ← hM2]
      exact k1
    · by_cases e : q = j
      · subst e
        rw [k4 q (by omega), r1, if_pos rfl]
      · exact k5 q (by omega) b
theorem e_deals_l38 {p t s : Nat} {x : Int32} (hp : p < 8) (h1 : 1 ≤ t) (ht : t ≤ 8) (hs : s < 1019) : ∀ (d k F : Nat) (M : St), k + 1 + d = t → d < F → M 1 6 = nI t → M 0 5 = stn x k → (∀ i, i < k + 1 → M 1 (20 + 40 * p + 14 + i) = nI (cf s x i)) → ∃ M', f_X8_deals_l38 F (nI p) (nI (20 + 40 * p)) (nI (k + 1)) M = some M' ∧ (∀ o, o ≠ 0 → o ≠ 1 → M' o = M o) ∧ (∀ z, z ≠ 5 → M' 0 z = M 0 z) ∧ (∀ i, ¬ (20 + 40 * p + 14 ≤ i ∧ i < 20 + 40 * p + 30) → M' 1 i = M 1 i) ∧ (∀ i, i < t → M' 1 (20 + 40 * p + 14 + i) = nI (cf s x i)) ∧ (∀ q, q < 8 → M' 1 (20 + 40 * p + 22 + q) = nI (ps (cf s x) q t)) := by
  intro d
  induction d with
  | zero =>
    intro k F M hk hF h6 h5 hM
    obtain ⟨F, rfl⟩ : ∃ g, F = g + 1 := ⟨F - 1, by omega⟩
    have e : k + 1 = t := by omega
    obtain ⟨M', k1, k2, k3, k4, k5⟩ := e_deals_l76 (p := p) (t := t) (c := cf s x) hp h1 ht (cf_lt hs x) 8 0 10000 M (by decide) (by decide) h6 (fun i hi => hM i (by omega))
    refine ⟨M', ?_, fun o _ ho => k2 o ho, fun z _ => by rw [k2 0 (by decide)], fun i hi => k3 i (by omega), fun i hi => by rw [k3 _ (by omega)]; exact hM i (by omega), fun q hq => k5 q (Nat.zero_le _) hq⟩
    rw [f_X8_deals_l38, ib_6, ck_t, cl_6, h6, if_pos (nI_le (by omega) (by omega)), lit_nI 0]
    exact k1
  | succ d ih =>
    intro k F M hk hF h6 h5 hM
    obtain ⟨F, rfl⟩ : ∃ g, F = g + 1 := ⟨F - 1, by omega⟩
    have hdw := dwn_lt (stp (M 0 5))
    have ec : nI (dwn (stp (M 0 5)) % 1019) = nI (cf s x (k + 1)) := by rw [h5]; rfl
    obtain ⟨M2, hM2⟩ : ∃ M2, M2 = u2 (u2 M 0 5 (stp (M 0 5))) 1 (20 + 40 * p + 14 + (k + 1)) (nI (cf s x (k + 1))) := ⟨_, rfl⟩
    have r1 : ∀ i, M2 1 i = if i = 20 + 40 * p + 14 + (k + 1) then nI (cf s x (k + 1)) else M 1 i := fun q => by rw [hM2, u2_row, upd_ap, u2_off _ _ _ _ (by decide)]
    have r2 : ∀ o, o ≠ 0 → o ≠ 1 → M2 o = M o := fun o a b => by rw [hM2, u2_off _ _ _ _ b, u2_off _ _ _ _ a]
    have r3 : ∀ z, z ≠ 5 → M2 0 z = M 0 z := fun z hz => by rw [hM2, u2_off _ _ _ _ (by decide), u2_row, upd_ap, if_neg hz]
    have r4 : M2 0 5 = stn x (k + 1) := by rw [hM2, u2_off _ _ _ _ (by decide), u2_row, upd_ap, if_pos rfl, h5]; rfl
    obtain ⟨M', k1, k2, k3, k4, k5, k6⟩ := ih (k + 1) F M2 (by omega) (by omega) (by rw [r1, if_neg (by omega)]; exact h6) r4 (fun i hi => by
      rw [r1]
      by_cases e : i = k + 1
      · rw [if_pos (by omega), e]
      · rw [if_neg (by omega)]; exact hM i (by omega))
    refine ⟨M', ?_, fun o a b => by rw [k2 o a b, r2 o a b], fun z hz => by rw [k3 z hz, r3 z hz], fun i hi => by rw [k4 i hi, r1, if_neg (by omega)], k5, k6⟩
    rw [f_X8_deals_l38, ib_6, ck_t, cl_6, h6, if_neg (nI_ge (by omega) (by omega)), lit_nI 14, nI_add, lb_e, nI_add, lb_e, e_draw, ob2_s, inb_nI (by omega) (by decide), ck_t, nI_clamp (by omega), lit_nI 1019, irem_nI (by omega) (by decide) (by decide), ec, lb_e, ← hM2, nI_1]
    exact k1
theorem e_deals {p t s : Nat} {x : Int32} (hp : p < 8) (h1 : 1 ≤ t) (ht : t ≤ 8) (hs : s < 1019) (M : St) (h6 : M 1 6 = nI t) (h9 : M 1 (20 + 40 * p + 9) = nI s) (h10 : M 1 (20 + 40 * p + 10) = x) : ∃ M', f_X8_deals (nI p) M = some M' ∧ (∀ o, o ≠ 0 → o ≠ 1 → M' o = M o) ∧ (∀ z, z ≠ 5 → M' 0 z = M 0 z) ∧ (∀ i, ¬ (20 + 40 * p + 14 ≤ i ∧ i < 20 + 40 * p + 30) → M' 1 i = M 1 i) ∧ (∀ i, i < t → M' 1 (20 + 40 * p + 14 + i) = nI (cf s x i)) ∧ (∀ q, q < 8 → M' 1 (20 + 40 * p + 22 + q) = nI (ps (cf s x) q t)) := by
  obtain ⟨M2, hM2⟩ : ∃ M2, M2 = u2 (u2 M 0 5 x) 1 (20 + 40 * p + 14) (nI s) := ⟨_, rfl⟩
  have r1 : ∀ i, M2 1 i = if i = 20 + 40 * p + 14 then nI s else M 1 i := fun q => by rw [hM2, u2_row, upd_ap, u2_off _ _ _ _ (by decide)]
  have r2 : ∀ o, o ≠ 0 → o ≠ 1 → M2 o = M o := fun o a b => by rw [hM2, u2_off _ _ _ _ b, u2_off _ _ _ _ a]
  have r3 : ∀ z, z ≠ 5 → M2 0 z = M 0 z := fun z hz => by rw [hM2, u2_off _ _ _ _ (by decide), u2_row, upd_ap, if_neg hz]
  have r4 : M2 0 5 = stn x 0 := by rw [hM2, u2_off _ _ _ _ (by decide), u2_row, upd_ap, if_pos rfl]; rfl
  obtain ⟨M', k1, k2, k3, k4, k5, k6⟩ := e_deals_l38 (p := p) (t := t) (s := s) (x := x) hp h1 ht hs (t - 1) 0 10000 M2 (by omega) (by omega) (by rw [r1, if_neg (by omega)]; exact h6) r4 (fun i hi => by
    have : i = 0 := by omega
    subst this
    rw [r1, if_pos rfl]; rfl)
  refine ⟨M', ?_, fun o a b => by rw [k2 o a b, r2 o a b], fun z hz => by rw [k3 z hz, r3 z hz], fun i hi => by rw [k4 i hi, r1, if_neg (by omega)], k5, k6⟩
  have e9 : u2 M 0 5 x 1 (20 + 40 * p + 9) = nI s := by rw [u2_off _ _ _ _ (by decide)]; exact h9
  rw [f_X8_deals, e_person, ob1_s, lit_nI 10, nI_add, lb_e, inb_nI (by omega) (by decide), ck_t, nI_clamp (by omega), h10, lb_e, lit_nI 14, nI_add, lb_e, lit_nI 9, nI_add, lb_e, inb_nI (by omega) (by decide), ck_t, inb_nI (by omega) (by decide), ck_t, nI_clamp (n := 20 + 40 * p + 9) (by omega), nI_clamp (n := 20 + 40 * p + 14) (by omega), e9, lb_e, ← hM2, lit_nI 1]
  exact k1
