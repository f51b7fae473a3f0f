/-! a round ends -/
theorem LE.of {L L' : St} {v v' : Nat → Int32} (h : LE L v) (T : Nat → Prop) (hv : ∀ i, ¬ T i → v' i = v i) (hL : ∀ j k i, pr j k = some i → ¬ T i → L' j k = L j k) (hT : ∀ i, T i → ∀ j k, ip i = some (j, k) → L' j k = v' i) : LE L' v' := by
  intro j k i hp
  by_cases c : T i
  · exact hT i c j k (pr_ip hp).2
  · rw [hL j k i hp c, hv i c]
    exact h j k i hp
theorem e_put {e : Nat} {I : St} (he : e < 2 ^ 30) (h : I 3 0 = nI e) (c mem op un meth out : Int32) : ∃ I', f_X0_put c mem op un meth out I = some I' ∧ (∀ o, o ≠ 3 → o ≠ 4 → I' o = I o) ∧ (∀ k, k ≠ 0 → I' 3 k = I 3 k) ∧ I' 3 0 = nI (e + 1) ∧ (∀ k, ¬ (6 * (e % 16) ≤ k ∧ k < 6 * (e % 16) + 6) → I' 4 k = I 4 k) ∧ I' 4 (6 * (e % 16)) = c ∧ I' 4 (6 * (e % 16) + 1) = mem ∧ I' 4 (6 * (e % 16) + 2) = op ∧ I' 4 (6 * (e % 16) + 3) = un ∧ I' 4 (6 * (e % 16) + 4) = meth ∧ I' 4 (6 * (e % 16) + 5) = out := by
  obtain ⟨a, ha⟩ : ∃ a, a = 6 * (e % 16) := ⟨_, rfl⟩
  obtain ⟨I2, hI2⟩ : ∃ I2, I2 = u2 (u2 (u2 (u2 (u2 (u2 I 4 a c) 4 (a + 1) mem) 4 (a + 2) op) 4 (a + 3) un) 4 (a + 4) meth) 4 (a + 5) out := ⟨_, rfl⟩
  have r : ∀ k, I2 4 k = if k = a + 5 then out else if k = a + 4 then meth else if k = a + 3 then un else if k = a + 2 then op else if k = a + 1 then mem else if k = a then c else I 4 k := fun k => by
    rw [hI2]; simp only [u2_row, upd_ap]
  have ro : ∀ o, o ≠ 4 → I2 o = I o := fun o ho => by rw [hI2, u2_off _ _ _ _ ho, u2_off _ _ _ _ ho, u2_off _ _ _ _ ho, u2_off _ _ _ _ ho, u2_off _ _ _ _ ho, u2_off _ _ _ _ ho]
  have r4 : ∀ k, u2 I2 3 0 (nI (e + 1)) 4 k = I2 4 k := fun k => by rw [u2_off _ _ _ _ (by decide)]
  rw [← ha]
  refine ⟨u2 I2 3 0 (nI (e + 1)), ?_, fun o a b => by rw [u2_off _ _ _ _ a, ro o b], fun k hk => by rw [u2_row, upd_ap, if_neg hk, ro 3 (by decide)], by rw [u2_row, upd_ap, if_pos rfl], fun k hk => ?_, ?_, ?_, ?_, ?_, ?_, ?_⟩
  · have e30 : I2 3 0 = nI e := by rw [ro 3 (by decide)]; exact h
    have in6 : ∀ w, w < 6 → inb (nI (a + w)) 96 = true := fun w hw => inb_nI (by omega) (by decide)
    have cl : ∀ w, w < 6 → (nI (a + w)).toNatClampNeg = a + w := fun w hw => nI_clamp (by omega)
    rw [f_X0_put, h, lb_e, lit_nI 16, irem_nI (by omega) (by decide) (by decide), lb_e, lit_nI 6, pk_mul, show e % 16 * 6 = a by omega, lb_e, inb_nI (by omega) (by decide), ck_t, nI_clamp (n := a) (by omega), lb_e, lit_nI 1, nI_add, lb_e, in6 1 (by decide), ck_t, cl 1 (by decide), lb_e, lit_nI 2, nI_add, lb_e, in6 2 (by decide), ck_t, cl 2 (by decide), lb_e, lit_nI 3, nI_add, lb_e, in6 3 (by decide), ck_t, cl 3 (by decide), lb_e, lit_nI 4, nI_add, lb_e, in6 4 (by decide), ck_t, cl 4 (by decide), lb_e, lit_nI 5, nI_add, lb_e, in6 5 (by decide), ck_t, cl 5 (by decide), lb_e, ← hI2, e30, lb_e, nI_add, lb_e]
  · rw [r4, r, if_neg (by omega), if_neg (by omega), if_neg (by omega), if_neg (by omega), if_neg (by omega), if_neg (by omega)]
  · rw [r4, r, if_neg (by omega), if_neg (by omega), if_neg (by omega), if_neg (by omega), if_neg (by omega), if_pos rfl]
  · rw [r4, r, if_neg (by omega), if_neg (by omega), if_neg (by omega), if_neg (by omega), if_pos rfl]
  · rw [r4, r, if_neg (by omega), if_neg (by omega), if_neg (by omega), if_pos rfl]
  · rw [r4, r, if_neg (by omega), if_neg (by omega), if_pos rfl]
  · rw [r4, r, if_neg (by omega), if_pos rfl]
  · rw [r4, r, if_pos rfl]
/-! the model's end -/
def rn (c : Int32) (v : Nat → Int32) : Int32 := if 0 ≤ c then (if v 11 ≤ 0 then 1 else if v 12 = c then v 11 + 1 else 1) else 0
def lg (c : Int32) (v : Nat → Int32) : Int32 := if rn c v ≤ v 13 then v 13 else rn c v
def lt3 (c out : Int32) (v : Nat → Int32) : Int32 := if 0 ≤ c then out else v 3
theorem e_b225 (c out x z : Int32) (M : St) : f_X8_ends_b225 c out 10 x z M = some (u2 (u2 M 1 10 (x + z)) 1 3 (if 0 ≤ c then out else M 1 3)) := by
  rw [f_X8_ends_b225, ib_10, ck_t, cl_10, lb_e, ib_3, ck_t, cl_3]
  by_cases h : 0 ≤ c
  · rw [if_pos h, if_pos h, f_X8_ends_b246, ib_3, ck_t, cl_3, lb_e]
  · rw [if_neg h, if_neg h, f_X8_ends_b246, ib_3, ck_t, cl_3, lb_e]
    rfl
theorem e_b205 (c out x z : Int32) (M : St) : f_X8_ends_b205 c out 9 x z M = some (u2 (u2 (u2 M 1 9 (x + z)) 1 10 (M 1 10 + if c = 1 then 1 else 0)) 1 3 (if 0 ≤ c then out else M 1 3)) := by
  rw [f_X8_ends_b205, ib_9, ck_t, cl_9, lb_e, ib_10, ck_t, cl_10, lb_e]
  by_cases h : c = 1
  · rw [if_pos h, if_pos h, e_b225]; rfl
  · rw [if_neg h, if_neg h, e_b225]; rfl
theorem e_b187 (c out y : Int32) (M : St) : f_X8_ends_b187 c out 13 y M = some (u2 (u2 (u2 (u2 M 1 13 y) 1 9 (M 1 9 + if c = 0 then 1 else 0)) 1 10 (M 1 10 + if c = 1 then 1 else 0)) 1 3 (if 0 ≤ c then out else M 1 3)) := by
  rw [f_X8_ends_b187, ib_13, ck_t, cl_13, lb_e, ib_9, ck_t, cl_9, lb_e]
  by_cases h : c = 0
  · rw [if_pos h, if_pos h, e_b205]; rfl
  · rw [if_neg h, if_neg h, e_b205]; rfl
theorem e_b138 (c out y : Int32) (M : St) : f_X8_ends_b138 c out 11 y M = some (u2 (u2 (u2 (u2 (u2 (u2 M 1 11 y) 1 12 c) 1 13 (if y ≤ M 1 13 then M 1 13 else y)) 1 9 (M 1 9 + if c = 0 then 1 else 0)) 1 10 (M 1 10 + if c = 1 then 1 else 0)) 1 3 (if 0 ≤ c then out else M 1 3)) := by
  have z1 : u2 (u2 M 1 11 y) 1 12 c 1 11 = y := rfl
  have z2 : u2 (u2 M 1 11 y) 1 12 c 1 13 = M 1 13 := rfl
  rw [f_X8_ends_b138, ib_11, ck_t, cl_11, lb_e, ib_12, ck_t, cl_12, lb_e, ck_t, lb_e, ib_13, ck_t, cl_13, z1, z2, ck_t, ck_t]
  by_cases h : y ≤ M 1 13
  · rw [if_pos h, if_pos h, e_b187]; rfl
  · rw [if_neg h, if_neg h, e_b187]; rfl
theorem e_ends {e : Nat} {M : St} (he : e < 2 ^ 30) (h : M 1 1 = nI e) (c out op mem : Int32) : ∃ M', f_X8_ends c out op mem M = some M' ∧ (∀ o, o ≠ 1 → M' o = M o) ∧ M' 1 0 = 0 ∧ M' 1 1 = nI (e + 1) ∧ M' 1 3 = lt3 c out (M 1) ∧ M' 1 9 = (M 1 9 + if c = 0 then 1 else 0) ∧ M' 1 10 = (M 1 10 + if c = 1 then 1 else 0) ∧ M' 1 11 = rn c (M 1) ∧ M' 1 12 = c ∧ M' 1 13 = lg c (M 1) ∧ M' 1 (340 + 5 * (e % 16)) = c ∧ M' 1 (340 + 5 * (e % 16) + 1) = mem ∧ M' 1 (340 + 5 * (e % 16) + 2) = op ∧ M' 1 (340 + 5 * (e % 16) + 3) = M 1 5 ∧ M' 1 (340 + 5 * (e % 16) + 4) = out ∧ (∀ i, i ≠ 0 → i ≠ 1 → i ≠ 3 → ¬ (9 ≤ i ∧ i ≤ 13) → ¬ (340 + 5 * (e % 16) ≤ i ∧ i < 340 + 5 * (e % 16) + 5) → M' 1 i = M 1 i) := by
  obtain ⟨a, ha⟩ : ∃ a, a = 340 + 5 * (e % 16) := ⟨_, rfl⟩
  obtain ⟨M2, hM2⟩ : ∃ M2, M2 = u2 (u2 (u2 (u2 (u2 (u2 (u2 M 1 (a + 0) c) 1 (a + 1) mem) 1 (a + 2) op) 1 (a + 3) (M 1 5)) 1 (a + 4) out) 1 1 (nI (e + 1))) 1 0 0 := ⟨_, rfl⟩
  have r : ∀ k, M2 1 k = if k = 0 then 0 else if k = 1 then nI (e + 1) else if k = a + 4 then out else if k = a + 3 then M 1 5 else if k = a + 2 then op else if k = a + 1 then mem else if k = a + 0 then c else M 1 k := fun k => by
    rw [hM2]; simp only [u2_row, upd_ap]
  have ro : ∀ o, o ≠ 1 → M2 o = M o := fun o ho => by rw [hM2, u2_off _ _ _ _ ho, u2_off _ _ _ _ ho, u2_off _ _ _ _ ho, u2_off _ _ _ _ ho, u2_off _ _ _ _ ho, u2_off _ _ _ _ ho, u2_off _ _ _ _ ho]
  have rs : ∀ k, k ≠ 0 → k ≠ 1 → ¬ (a ≤ k ∧ k < a + 5) → M2 1 k = M 1 k := fun k b1 b2 b3 => by
    rw [r, if_neg b1, if_neg b2, if_neg (by omega), if_neg (by omega), if_neg (by omega), if_neg (by omega), if_neg (by omega)]
  have ina : ∀ w, w < 5 → inb (nI (a + w)) 420 = true := fun w hw => inb_nI (by omega) (by decide)
  have cl : ∀ w, w < 5 → (nI (a + w)).toNatClampNeg = a + w := fun w hw => nI_clamp (by omega)
  have m11 : M2 1 11 = M 1 11 := rs 11 (by decide) (by decide) (by omega)
  have m12 : M2 1 12 = M 1 12 := rs 12 (by decide) (by decide) (by omega)
  have m13 : M2 1 13 = M 1 13 := rs 13 (by decide) (by decide) (by omega)
  have big : f_X8_ends c out op mem M = f_X8_ends_b138 c out 11 (rn c (M 1)) M2 := by
    have e5 : u2 (u2 (u2 M 1 (a + 0) c) 1 (a + 1) mem) 1 (a + 2) op 1 5 = M 1 5 := by
      simp only [u2_row, upd_ap]
      rw [if_neg (by omega), if_neg (by omega), if_neg (by omega)]
    have e1 : u2 (u2 (u2 (u2 (u2 M 1 (a + 0) c) 1 (a + 1) mem) 1 (a + 2) op) 1 (a + 3) (M 1 5)) 1 (a + 4) out 1 1 = nI e := by
      simp only [u2_row, upd_ap]
      rw [if_neg (by omega), if_neg (by omega), if_neg (by omega), if_neg (by omega), if_neg (by omega)]
      exact h
    rw [f_X8_ends, ib_1, ck_t, cl_1, h, lb_e, lit_nI 16, irem_nI (by omega) (by decide) (by decide), show (5 : Int32) * nI (e % 16) = nI (5 * (e % 16)) from pk_mul 5 _, show (340 : Int32) + nI (5 * (e % 16)) = nI a from by rw [ha]; exact nI_add 340 _, lb_e]
    rw [show nI a + 0 = nI (a + 0) from nI_add a 0, lb_e, ina 0 (by decide), ck_t, cl 0 (by decide), lb_e, show nI a + 1 = nI (a + 1) from nI_add a 1, lb_e, ina 1 (by decide), ck_t, cl 1 (by decide), lb_e, show nI a + 2 = nI (a + 2) from nI_add a 2, lb_e, ina 2 (by decide), ck_t, cl 2 (by decide), lb_e, show nI a + 3 = nI (a + 3) from nI_add a 3, lb_e, ib_5, ck_t, cl_5, e5, ina 3 (by decide), ck_t, cl 3 (by decide), lb_e, show nI a + 4 = nI (a + 4) from nI_add a 4, lb_e, ina 4 (by decide), ck_t, cl 4 (by decide), lb_e, ck_t, e1, lb_e, ck_t, nI_1, lb_e, ib_0, ck_t, cl_0, lb_e, ← hM2]
    rw [ib_11, ck_t, cl_11, m11, ib_12, ck_t, cl_12, m12, lb_e, ck_t, lb_e]
    unfold rn
    by_cases h0 : 0 ≤ c
    · rw [if_pos h0, if_pos h0]
      by_cases h1 : M 1 11 ≤ 0
      · rw [if_pos h1, if_pos h1, f_X8_ends_b137]
      · rw [if_neg h1, if_neg h1]
        by_cases h2 : M 1 12 = c
        · rw [if_pos h2, if_pos h2]
        · rw [if_neg h2, if_neg h2, f_X8_ends_b137]
    · rw [if_neg h0, if_neg h0]
  refine ⟨_, big.trans (e_b138 _ _ _ _), fun o ho => ?_, ?_, ?_, ?_, ?_, ?_, ?_, ?_, ?_, ?_, ?_, ?_, ?_, ?_, fun i b0 b1 b3 b9 ba => ?_⟩
  · rw [u2_off _ _ _ _ ho, u2_off _ _ _ _ ho, u2_off _ _ _ _ ho, u2_off _ _ _ _ ho, u2_off _ _ _ _ ho, u2_off _ _ _ _ ho, ro o ho]
  · simp only [u2_row, upd_ap]
    rw [if_neg (by omega), if_neg (by omega), if_neg (by omega), if_neg (by omega), if_neg (by omega), if_neg (by omega), r, if_pos (by simp)]
  · simp only [u2_row, upd_ap]
    rw [if_neg (by omega), if_neg (by omega), if_neg (by omega), if_neg (by omega), if_neg (by omega), if_neg (by omega), r, if_neg (by omega), if_pos (by simp)]
  · rw [u2_row, upd_ap, if_pos rfl, rs 3 (by decide) (by decide) (by omega)]; rfl
  · simp only [u2_row, upd_ap]
    rw [if_neg (by omega), if_neg (by omega), if_pos (by simp), rs 9 (by decide) (by decide) (by omega)]
  · simp only [u2_row, upd_ap]
    rw [if_neg (by omega), if_pos (by simp), rs 10 (by decide) (by decide) (by omega)]
  · simp only [u2_row, upd_ap]
    rw [if_neg (by omega), if_neg (by omega), if_neg (by omega), if_neg (by omega), if_neg (by omega), if_pos (by simp)]
  · simp only [u2_row, upd_ap]
    rw [if_neg (by omega), if_neg (by omega), if_neg (by omega), if_neg (by omega), if_pos (by simp)]
  · simp only [u2_row, upd_ap, m13]
    rw [if_neg (by omega), if_neg (by omega), if_neg (by omega), if_pos (by simp)]; rfl
  · simp only [u2_row, upd_ap, ← ha]
    rw [if_neg (by omega), if_neg (by omega), if_neg (by omega), if_neg (by omega), if_neg (by omega), if_neg (by omega), r, if_neg (by omega), if_neg (by omega), if_neg (by omega), if_neg (by omega), if_neg (by omega), if_neg (by omega), if_pos (by simp)]
  · simp only [u2_row, upd_ap, ← ha]
    rw [if_neg (by omega), if_neg (by omega), if_neg (by omega), if_neg (by omega), if_neg (by omega), if_neg (by omega), r, if_neg (by omega), if_neg (by omega), if_neg (by omega), if_neg (by omega), if_neg (by omega), if_pos (by simp)]
  · simp only [u2_row, upd_ap, ← ha]
    rw [if_neg (by omega), if_neg (by omega), if_neg (by omega), if_neg (by omega), if_neg (by omega), if_neg (by omega), r, if_neg (by omega), if_neg (by omega), if_neg (by omega), if_neg (by omega), if_pos (by simp)]
  · simp only [u2_row, upd_ap, ← ha]
    rw [if_neg (by omega), if_neg (by omega), if_neg (by omega), if_neg (by omega), if_neg (by omega), if_neg (by omega), r, if_neg (by omega), if_neg (by omega), if_neg (by omega), if_pos (by simp)]
  · simp only [u2_row, upd_ap, ← ha]
    rw [if_neg (by omega), if_neg (by omega), if_neg (by omega), if_neg (by omega), if_neg (by omega), if_neg (by omega), r, if_neg (by omega), if_neg (by omega), if_pos (by simp)]
  · simp only [u2_row, upd_ap]
    rw [if_neg (by omega), if_neg (by omega), if_neg (by omega), if_neg (by omega), if_neg (by omega), if_neg (by omega), rs i b0 b1 (by omega)]
/-- both ended alike -/
theorem LC.ends {m e t n : Nat} {L L' : St} {v v' : Nat → Int32} (h : LC m e t n L v) {c mem op un out : Int32} {f : Nat → Bool}
    (a0 : ∀ o, o ≠ 0 → o ≠ 3 → o ≠ 4 → L' o = L o) (a1 : ∀ k, k ≠ 9 → L' 0 k = L 0 k) (a2 : L' 0 9 = 0) (a4 : ∀ k, ¬ (6 * (e % 16) ≤ k ∧ k < 6 * (e % 16) + 6) → L' 4 k = L 4 k)
    (q0 : L' 4 (6 * (e % 16)) = c) (q1 : L' 4 (6 * (e % 16) + 1) = mem) (q2 : L' 4 (6 * (e % 16) + 2) = op) (q3 : L' 4 (6 * (e % 16) + 3) = un) (q4 : L' 4 (6 * (e % 16) + 4) = v 5) (q5 : L' 4 (6 * (e % 16) + 5) = out)
    (c0 : L' 3 0 = nI (e + 1)) (c1 : L' 3 1 = v' 3) (c2 : L' 3 2 = v' 9) (c3 : L' 3 3 = v' 10) (c4 : L' 3 4 = v' 13) (c5 : L' 3 5 = v' 11) (c6 : v' 11 = 0 ∨ L' 3 6 = v' 12)
    (b0 : v' 0 = 0) (b1 : v' 1 = nI (e + 1)) (p0 : v' (340 + 5 * (e % 16)) = c) (p1 : v' (340 + 5 * (e % 16) + 1) = mem) (p2 : v' (340 + 5 * (e % 16) + 2) = op) (p3 : v' (340 + 5 * (e % 16) + 3) = v 5) (p4 : v' (340 + 5 * (e % 16) + 4) = out)
    (bo : ∀ i, i ≠ 0 → i ≠ 1 → i ≠ 3 → ¬ (9 ≤ i ∧ i ≤ 13) → ¬ (340 + 5 * (e % 16) ≤ i ∧ i < 340 + 5 * (e % 16) + 5) → v' i = v i)
    (hr : ∃ r q, r ≤ e + 1 ∧ v' 11 = nI r ∧ q ≤ e + 1 ∧ v' 13 = nI q) (hm : mem = bs f) (hu : un = if c = -5 then 0 else nI (cnt8 f) - op) : LC m (e + 1) t (n + 1) L' v' := by
  obtain ⟨h1, ⟨w1, w2, w3, w4, w5, w6, w7, w8, w9, w10, w11⟩, h3, h4⟩ := h
  have hs : e % 16 < 16 := Nat.mod_lt _ (by decide)
  refine ⟨h1.of (fun i => i = 0 ∨ i = 1 ∨ i = 3 ∨ (9 ≤ i ∧ i ≤ 13) ∨ (340 + 5 * (e % 16) ≤ i ∧ i < 340 + 5 * (e % 16) + 5)) (fun i hi => bo i (by omega) (by omega) (by omega) (by omega) (by omega)) (fun j k i hp hi => ?_) (fun i hi j k hp => ?_), ⟨w1, by rw [bo 4 (by decide) (by decide) (by decide) (by omega) (by omega)]; exact w2, by omega, b1, w5, w6, by rw [bo 6 (by decide) (by decide) (by decide) (by omega) (by omega)]; exact w7, Or.inl b0, by rw [bo 5 (by decide) (by decide) (by decide) (by omega) (by omega)]; exact w9, by rw [bo 8 (by decide) (by decide) (by decide) (by omega) (by omega)]; exact w10, hr⟩, fun s hs' => ?_, c6⟩
  · have hip := (pr_ip hp).2
    by_cases j0 : j = 0
    · by_cases k9 : k = 9
      · rw [j0, k9] at hp
        cases hp
        exact absurd (Or.inl rfl) hi
      · rw [j0]; exact a1 k k9 ▸ rfl
    · by_cases j3 : j = 3
      · exfalso
        rw [j3] at hp
        have hk : ∀ k, k < 96 → (match pr 3 k with | none => true | some i => decide (i = 1 ∨ i = 3 ∨ (9 ≤ i ∧ i ≤ 13))) = true := by decide +kernel
        have := hk k (pr_dom hp).2
        rw [hp] at this
        have := of_decide_eq_true this
        omega
      · by_cases j4 : j = 4
        · rw [j4] at hp ⊢
          refine a4 k (fun z => hi ?_) ▸ rfl
          obtain ⟨x0, x1, x2, x3, x4, x5⟩ := prS (e % 16) hs
          rcases (show k = 6 * (e % 16) ∨ k = 6 * (e % 16) + 1 ∨ k = 6 * (e % 16) + 2 ∨ k = 6 * (e % 16) + 3 ∨ k = 6 * (e % 16) + 4 ∨ k = 6 * (e % 16) + 5 by omega) with rfl | rfl | rfl | rfl | rfl | rfl
          · rw [x0] at hp; cases hp; omega
          · rw [x1] at hp; cases hp; omega
          · rw [x2] at hp; cases hp; omega
          · rw [x3] at hp; cases hp
          · rw [x4] at hp; cases hp; omega
          · rw [x5] at hp; cases hp; omega
        · rw [a0 j j0 j3 j4]
  · obtain ⟨x0, x1, x2, x3, x4, x5⟩ := prS (e % 16) hs
    have key : ∀ j' k', pr j' k' = some i → j' = j ∧ k' = k := fun j' k' z => by
      rw [(pr_ip z).2] at hp
      cases hp
      exact ⟨rfl, rfl⟩
    rcases (show i = 0 ∨ i = 1 ∨ i = 3 ∨ i = 9 ∨ i = 10 ∨ i = 11 ∨ i = 12 ∨ i = 13 ∨ i = 340 + 5 * (e % 16) ∨ i = 340 + 5 * (e % 16) + 1 ∨ i = 340 + 5 * (e % 16) + 2 ∨ i = 340 + 5 * (e % 16) + 3 ∨ i = 340 + 5 * (e % 16) + 4 by omega) with e0 | e0 | e0 | e0 | e0 | e0 | e0 | e0 | e0 | e0 | e0 | e0 | e0
    · obtain ⟨rfl, rfl⟩ := key 0 9 (by rw [e0]; rfl)
      rw [e0, a2, b0]
    · obtain ⟨rfl, rfl⟩ := key 3 0 (by rw [e0]; rfl)
      rw [e0, c0, b1]
    · obtain ⟨rfl, rfl⟩ := key 3 1 (by rw [e0]; rfl)
      rw [e0, c1]
    · obtain ⟨rfl, rfl⟩ := key 3 2 (by rw [e0]; rfl)
      rw [e0, c2]
    · obtain ⟨rfl, rfl⟩ := key 3 3 (by rw [e0]; rfl)
      rw [e0, c3]
    · obtain ⟨rfl, rfl⟩ := key 3 5 (by rw [e0]; rfl)
      rw [e0, c5]
    · rw [e0, show ip 12 = none from by decide] at hp
      cases hp
    · obtain ⟨rfl, rfl⟩ := key 3 4 (by rw [e0]; rfl)
      rw [e0, c4]
    · obtain ⟨rfl, rfl⟩ := key _ _ (by rw [e0]; exact x0)
      rw [e0, q0, p0]
    · obtain ⟨rfl, rfl⟩ := key _ _ (by rw [e0]; exact x1)
      rw [e0, q1, p1]
    · obtain ⟨rfl, rfl⟩ := key _ _ (by rw [e0]; exact x2)
      rw [e0, q2, p2]
    · obtain ⟨rfl, rfl⟩ := key _ _ (by rw [e0]; exact x4)
      rw [e0, q4, p3]
    · obtain ⟨rfl, rfl⟩ := key _ _ (by rw [e0]; exact x5)
      rw [e0, q5, p4]
  · by_cases es : s = e % 16
    · subst es
      exact ⟨f, by rw [p1, hm], by rw [q3, p0, p2, hu]⟩
    · obtain ⟨g, g1, g2⟩ := h3 s hs'
      refine ⟨g, by rw [bo _ (by omega) (by omega) (by omega) (by omega) (by omega)]; exact g1, ?_⟩
      rw [a4 _ (by omega), bo _ (by omega) (by omega) (by omega) (by omega) (by omega), bo _ (by omega) (by omega) (by omega) (by omega) (by omega)]
      exact g2
