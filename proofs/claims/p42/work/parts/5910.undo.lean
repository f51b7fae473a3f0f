/-- both answer alike and go on related -/
def Sm (n : Nat) (a b : Option (Int32 × St)) : Prop := ∃ r I' M', a = some (r, I') ∧ b = some (r, M') ∧ RR n I' M'
theorem Sm.same {n : Nat} {I M : St} (h : RR n I M) (x : Int32) : Sm n (some (x, I)) (some (x, M)) := ⟨x, I, M, rfl, rfl, h⟩
def bak (M : St) (k i : Nat) : Nat → Int32 := fun q => if q < i then M 2 (420 * k + q) else M 1 q
theorem e_undo22 {M : St} {k : Nat} (hk : k < 4) (h : M 0 2 = nI k) : ∀ (d i F : Nat), i + d = 420 → d < F → f_X8_undo_l22 F (nI i) (ur M 1 (bak M k i)) = some (nI k, ur M 1 (bak M k 420)) := by
  intro d
  induction d with
  | zero =>
    intro i F hi hF
    obtain ⟨F, rfl⟩ : ∃ g, F = g + 1 := ⟨F - 1, by omega⟩
    have hi2 : i = 420 := by omega
    subst hi2
    have hc : (420 : Int32) ≤ nI 420 := nI_le (a := 420) (b := 420) (Nat.le_refl _) (by decide)
    have e : ur M 1 (bak M k 420) 0 2 = nI k := h
    rw [f_X8_undo_l22, if_pos hc, e]
  | succ d ih =>
    intro i F hi hF
    obtain ⟨F, rfl⟩ : ∃ g, F = g + 1 := ⟨F - 1, by omega⟩
    have e : ur M 1 (bak M k i) 0 2 = nI k := h
    have e2 : ur M 1 (bak M k i) 2 = M 2 := rfl
    have i1 : inb (nI i) 420 = true := inb_nI (by omega) (by decide)
    have i2 : inb (nI (420 * k + i)) 1680 = true := inb_nI (by omega) (by decide)
    have hs : u2 (ur M 1 (bak M k i)) 1 i (M 2 (420 * k + i)) = ur M 1 (bak M k (i + 1)) := by
      funext o q
      simp only [u2_ap, ur_ap]
      by_cases ho : o = 1
      · simp only [if_pos ho, if_true]
        by_cases hq : q = i
        · subst hq
          rw [if_pos rfl]
          exact (if_pos (by omega)).symm
        · rw [if_neg hq]
          unfold bak
          by_cases h2 : q < i
          · rw [if_pos h2, if_pos (by omega)]
          · rw [if_neg h2, if_neg (by omega)]
      · simp only [if_neg ho]
    have hc : ¬ (420 : Int32) ≤ nI i := nI_ge (a := i) (b := 420) (by omega) (by decide)
    rw [f_X8_undo_l22, if_neg hc]
    rw [lit_nI 420, e, pk_mul, lb_e, nI_add, lb_e, i2, ck_t, i1, ck_t, nI_clamp (n := i) (by omega), nI_clamp (n := 420 * k + i) (by omega), e2, lb_e, hs, nI_1]
    exact ih (i + 1) F (by omega) (by omega)
theorem s_undo {n : Nat} {I M : St} (h : RR n I M) : Sm n (f_X7_undo I) (f_X8_undo M) := by
  obtain ⟨hL, k, hk, hI, hM, π, p1, p2, p3⟩ := id h
  by_cases hk0 : k = 0
  · subst hk0
    have e1 : I 146 1 = 0 := hI
    have e2 : M 0 2 = 0 := hM
    rw [f_X7_undo, if_pos e1, f_X8_undo, if_pos e2]
    exact Sm.same h _
  · obtain ⟨k, rfl⟩ : ∃ g, k = g + 1 := ⟨k - 1, by omega⟩
    have ne : ¬ nI (k + 1) = 0 := by
      rw [show (0 : Int32) = nI 0 from rfl, nI_eq (by omega) (by decide)]
      omega
    -- the class
    have hp : nI (k + 1) - 1 = nI k := nI_pred k
    obtain ⟨r1, r2, r3⟩ := p1 k (by omega)
    obtain ⟨I', c1, c2, c3⟩ := e_copy (b0 := 0) (b1 := π k) (by decide) (by omega) (by omega) (u2 I 146 1 (nI k))
    have g1 : ¬ nI (k + 1) < (1 : Int32) := nI_nlt (a := k + 1) (b := 1) (by omega) (by omega)
    have g2 : nI (k + 1) ≤ (4 : Int32) := nI_le (a := k + 1) (b := 4) (by omega) (by decide)
    have i1 : inb (nI k) 4 = true := inb_nI (by omega) (by decide)
    have i2 : inb (nI (π k)) 5 = true := inb_nI (by omega) (by decide)
    have e7 : u2 I 146 1 (nI k) 147 = I 147 := rfl
    have e6 : u2 I 146 1 (nI k) 146 1 = nI k := rfl
    have cl : f_X3_restore I = some I' := by
      rw [f_X3_restore, hI, lb_e, if_neg g1, lb_e, if_pos g2, lb_e, hp, lb_e, e6, lb_e, i1, ck_t, e7, nI_clamp (by omega), r3, lb_e, i2, ck_t, nI_clamp (by omega)]
      rw [show f_X4_copy 0 (29 * π k) (u2 I 146 1 (nI k)) = some I' from c1, ob1_s]
    have c6 : I' 146 1 = nI k := by rw [c3 146 (by omega)]; exact e6
    have c7 : I' 147 = I 147 := by rw [c3 147 (by omega)]; exact e7
    -- the model
    have m0 := e_undo22 (M := u2 M 0 2 (nI k)) (k := k) (by omega) rfl 420 0 10000 rfl (by decide)
    have z0 : ur (u2 M 0 2 (nI k)) 1 (bak (u2 M 0 2 (nI k)) k 0) = u2 M 0 2 (nI k) := by
      funext o q
      rw [ur_ap]
      by_cases ho : o = 1
      · subst ho
        rw [if_pos rfl]
        exact if_neg (by omega)
      · rw [if_neg ho]
    rw [z0] at m0
    refine ⟨nI k, I', ur (u2 M 0 2 (nI k)) 1 (bak (u2 M 0 2 (nI k)) k 420), ?_, ?_, ?_, k, by omega, c6, rfl, π, fun i hi => ?_, p2, fun i hi => ?_⟩
    · rw [f_X7_undo, hI, if_neg ne, cl, ob1_s, c6]
    · rw [f_X8_undo, hM, if_neg ne, lb_e, hp, lb_e, lit_nI 0]
      exact m0
    · refine LR_congr (fun j q hq => ?_) (fun a ha => ?_) (p3 k (by omega))
      · have := c2 j q hq
        rw [show 29 * 0 + j = j by omega] at this
        rw [this, u2_off _ _ _ _ (by have := (kv_lt hq).1; omega)]
        rfl
      · show bak _ k 420 a = _
        unfold bak
        rw [if_pos ha]
        rfl
    · rw [c7]
      exact p1 i hi
    · refine LR_congr (fun j q hq => ?_) (fun a ha => ?_) (p3 i (by omega))
      · have hj := (kv_lt hq).1
        obtain ⟨q1, q2, q3⟩ := p1 i (by omega)
        show I' (29 * π i + j) q = I (29 * π i + j) q
        rw [c3 _ (by omega), u2_off _ _ _ _ (by omega)]
      · rfl
