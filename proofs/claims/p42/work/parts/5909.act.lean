/-! the whole relation; an act's record; undoing -/
def sh (I : St) (b : Nat) : St := fun j => I (29 * b + j)
def HS (n : Nat) (I M : St) : Prop := ∃ k, k ≤ 4 ∧ I 146 1 = nI k ∧ M 0 2 = nI k ∧ ∃ π : Nat → Nat, (∀ i, i < 4 → 1 ≤ π i ∧ π i ≤ 4 ∧ I 147 i = nI (π i)) ∧ (∀ i j, i < 4 → j < 4 → π i = π j → i = j) ∧ ∀ i, i < k → LR n (sh I (π i)) (fun q => M 2 (420 * i + q))
def RR (n : Nat) (I M : St) : Prop := LR n I (M 1) ∧ HS n I M
def FI (I I' : St) : Prop := ∀ o, 29 ≤ o → o < 148 → I' o = I o
def FM (M M' : St) : Prop := M' 2 = M 2 ∧ M' 0 2 = M 0 2
theorem FI.rf {I : St} : FI I I := fun _ _ _ => rfl
theorem FM.rf {M : St} : FM M M := ⟨rfl, rfl⟩
theorem FI.tr {I I' I'' : St} (h : FI I I') (h2 : FI I' I'') : FI I I'' := fun o a b => (h2 o a b).trans (h o a b)
theorem FM.tr {M M' M'' : St} (h : FM M M') (h2 : FM M' M'') : FM M M'' := ⟨h2.1.trans h.1, h2.2.trans h.2⟩
theorem FI.u2 {I I' : St} (h : FI I I') {o k : Nat} {x : Int32} (ho : o < 29 ∨ 148 ≤ o) : FI I (u2 I' o k x) := fun q a b => by
  rw [u2_off _ _ _ _ (by omega)]
  exact h q a b
theorem FM.u1 {M M' : St} (h : FM M M') {i : Nat} {x : Int32} : FM M (u2 M' 1 i x) := ⟨by rw [u2_off _ _ _ _ (by decide)]; exact h.1, by rw [u2_off _ _ _ _ (by decide)]; exact h.2⟩
theorem FM.u0 {M M' : St} (h : FM M M') {i : Nat} {x : Int32} (hi : i ≠ 2) : FM M (u2 M' 0 i x) := ⟨by rw [u2_off _ _ _ _ (by decide)]; exact h.1, by rw [u2_ap, if_pos rfl, if_neg (Ne.symm hi)]; exact h.2⟩
theorem FM.u3 {M M' : St} (h : FM M M') {o i : Nat} {x : Int32} (ho : 3 ≤ o) : FM M (u2 M' o i x) := ⟨by rw [u2_off _ _ _ _ (by omega)]; exact h.1, by rw [u2_off _ _ _ _ (by omega)]; exact h.2⟩
theorem HS.of {n n' : Nat} {I M I' M' : St} (h : HS n I M) (hn : n ≤ n') (hI : FI I I') (hM : FM M M') : HS n' I' M' := by
  obtain ⟨k, k1, k2, k3, π, p1, p2, p3⟩ := h
  refine ⟨k, k1, by rw [hI 146 (by decide) (by decide)]; exact k2, by rw [hM.2]; exact k3, π, fun i hi => ?_, p2, fun i hi => ?_⟩
  · rw [hI 147 (by decide) (by decide)]
    exact p1 i hi
  · have e : sh I' (π i) = sh I (π i) ∨ True := Or.inr trivial
    have := p1 i (by omega)
    rw [hM.1]
    refine LR_congr (fun j k hk => ?_) (fun _ _ => rfl) (LR_mono (p3 i hi) hn)
    have hj := (kv_lt hk).1
    show I' (29 * π i + j) k = I (29 * π i + j) k
    rw [hI _ (by omega) (by omega)]
theorem RR.of {n n' : Nat} {I M I' M' : St} (h : RR n I M) (hL : LR n' I' (M' 1)) (hn : n ≤ n') (hI : FI I I') (hM : FM M M') : RR n' I' M' := ⟨hL, h.2.of hn hI hM⟩
theorem RR.mono {n n' : Nat} {I M : St} (h : RR n I M) (hn : n ≤ n') : RR n' I M := h.of (LR_mono h.1 hn) hn FI.rf FM.rf
/-! the model's record: its loops -/
theorem ge_nI {i n : Nat} (h : n ≤ i) (hi : i < 2 ^ 31) : nI n ≤ nI i := nI_le h hi
theorem nge_nI {i n : Nat} (h : i < n) (hn : n < 2 ^ 31) : ¬ nI n ≤ nI i := nI_ge h hn
theorem if_geL {α : Type} {n i : Nat} {X Y : α} (h : n ≤ i) (hi : i < 2 ^ 31) : (if (OfNat.ofNat n : Int32) ≤ nI i then X else Y) = X := if_pos (nI_le h hi)
theorem if_ngeL {α : Type} {n i : Nat} {X Y : α} (h : i < n) (hn : n < 2 ^ 31) : (if (OfNat.ofNat n : Int32) ≤ nI i then X else Y) = Y := if_neg (nI_ge h hn)
def seg (M : St) (k i : Nat) : Nat → Int32 := fun q => if 420 * k ≤ q ∧ q < 420 * k + i then M 1 (q - 420 * k) else M 2 q
theorem e_act51 {M : St} {k : Nat} (hk : k < 4) (h : M 0 2 = nI k) : ∀ (d i F : Nat), i + d = 420 → d < F → f_X8_act_l51 F (nI i) (ur M 2 (seg M k i)) = some (u2 (ur M 2 (seg M k 420)) 0 2 (nI (k + 1))) := by
  intro d
  induction d with
  | zero =>
    intro i F hi hF
    obtain ⟨F, rfl⟩ : ∃ g, F = g + 1 := ⟨F - 1, by omega⟩
    have hi2 : i = 420 := by omega
    subst hi2
    rw [f_X8_act_l51, if_geL (Nat.le_refl _) (by decide)]
    have e : ur M 2 (seg M k 420) 0 2 = nI k := h
    simp only [ob1_s, ob2_s, ck_t, lb_e, e, nI_1]
  | succ d ih =>
    intro i F hi hF
    obtain ⟨F, rfl⟩ : ∃ g, F = g + 1 := ⟨F - 1, by omega⟩
    have e : ur M 2 (seg M k i) 0 2 = nI k := h
    have e1 : ur M 2 (seg M k i) 1 = M 1 := rfl
    have i1 : inb (nI i) 420 = true := inb_nI (by omega) (by decide)
    have i2 : inb (nI (420 * k + i)) 1680 = true := inb_nI (by omega) (by decide)
    have hs : u2 (ur M 2 (seg M k i)) 2 (420 * k + i) (M 1 i) = ur M 2 (seg M k (i + 1)) := by
      funext o q
      simp only [u2_ap, ur_ap]
      by_cases ho : o = 2
      · simp only [if_pos ho, if_true]
        by_cases hq : q = 420 * k + i
        · subst hq
          rw [if_pos rfl]
          unfold seg
          rw [if_pos (by omega), show 420 * k + i - 420 * k = i by omega]
        · rw [if_neg hq]
          unfold seg
          by_cases h2 : 420 * k ≤ q ∧ q < 420 * k + i
          · rw [if_pos h2, if_pos (by omega)]
          · rw [if_neg h2, if_neg (by omega)]
      · simp only [if_neg ho]
    rw [f_X8_act_l51, if_neg (show ¬ (420 : Int32) ≤ nI i from nI_ge (a := i) (b := 420) (by omega) (by decide))]
    rw [lit_nI 420]
    simp only [ob1_s, ob2_s, ck_t, lb_e, e, e1, pk_mul, nI_add, i1, i2, nI_clamp (n := i) (by omega), nI_clamp (n := 420 * k + i) (by omega), hs, nI_1]
    exact ih (i + 1) F (by omega) (by omega)
def shf (M : St) (i : Nat) : Nat → Int32 := fun q => if q < i then M 2 (q + 420) else M 2 q
theorem e_act10 {M : St} (h : M 0 2 = nI 4) : ∀ (d i F : Nat), i + d = 1260 → d < F → f_X8_act_l10 F (nI i) (ur M 2 (shf M i)) = f_X8_act_b49 (u2 (ur M 2 (shf M 1260)) 0 2 (nI 3)) := by
  intro d
  induction d with
  | zero =>
    intro i F hi hF
    obtain ⟨F, rfl⟩ : ∃ g, F = g + 1 := ⟨F - 1, by omega⟩
    have hi2 : i = 1260 := by omega
    subst hi2
    have hc : (1260 : Int32) ≤ nI 1260 := nI_le (a := 1260) (b := 1260) (Nat.le_refl _) (by decide)
    have e : ur M 2 (shf M 1260) 0 2 - 1 = nI 3 := (congrArg (fun z => z - 1) h).trans (by decide)
    rw [f_X8_act_l10, if_pos hc, lb_e, lb_e, e]
  | succ d ih =>
    intro i F hi hF
    obtain ⟨F, rfl⟩ : ∃ g, F = g + 1 := ⟨F - 1, by omega⟩
    have i1 : inb (nI i) 1680 = true := inb_nI (by omega) (by decide)
    have i2 : inb (nI (i + 420)) 1680 = true := inb_nI (by omega) (by decide)
    have hr : ur M 2 (shf M i) 2 (i + 420) = M 2 (i + 420) := by
      rw [ur_ap, if_pos rfl]
      exact if_neg (by omega)
    have hs : u2 (ur M 2 (shf M i)) 2 i (M 2 (i + 420)) = ur M 2 (shf M (i + 1)) := by
      funext o q
      simp only [u2_ap, ur_ap]
      by_cases ho : o = 2
      · simp only [if_pos ho, if_true]
        by_cases hq : q = i
        · subst hq
          rw [if_pos rfl]
          exact (if_pos (by omega)).symm
        · rw [if_neg hq]
          unfold shf
          by_cases h2 : q < i
          · rw [if_pos h2, if_pos (by omega)]
          · rw [if_neg h2, if_neg (by omega)]
      · simp only [if_neg ho]
    rw [f_X8_act_l10, if_neg (show ¬ (1260 : Int32) ≤ nI i from nI_ge (a := i) (b := 1260) (by omega) (by decide))]
    rw [lit_nI 420]
    simp only [ob1_s, ob2_s, ck_t, lb_e, nI_add, i1, i2, nI_clamp (n := i) (by omega), nI_clamp (n := i + 420) (by omega), hr, hs, nI_1]
    exact ih (i + 1) F (by omega) (by omega)
theorem e_act49 (M : St) : f_X8_act_b49 M = f_X8_act_l51 10000 (nI 0) M := by
  rw [f_X8_act_b49, lit_nI 0]
theorem e_act_4 {M : St} (h : M 0 2 = nI 4) : f_X8_act M = f_X8_act_l10 10000 (nI 0) M := by
  have hc : (nI 4 : Int32) = 4 := rfl
  rw [f_X8_act, lb_e, h, if_pos hc, lit_nI 0]
theorem e_act_k {M : St} {k : Nat} (hk : k < 4) (h : M 0 2 = nI k) : f_X8_act M = f_X8_act_l51 10000 (nI 0) M := by
  have hne : ¬ nI k = 4 := by
    rw [show (4 : Int32) = nI 4 from rfl, nI_eq (by omega) (by decide)]
    omega
  rw [f_X8_act, lb_e, h, if_neg hne, e_act49]
theorem e_act {M : St} {k : Nat} (hk : k ≤ 4) (h : M 0 2 = nI k) : ∃ M', f_X8_act M = some M' ∧ M' 1 = M 1 ∧ M' 0 2 = nI (if k = 4 then 4 else k + 1) ∧ (∀ q, q < 420 → M' 2 (420 * (if k = 4 then 3 else k) + q) = M 1 q) ∧ (∀ i q, i < (if k = 4 then 3 else k) → q < 420 → M' 2 (420 * i + q) = M 2 (420 * (if k = 4 then i + 1 else i) + q)) := by
  have z0 : ∀ (M : St) (k : Nat), ur M 2 (seg M k 0) = M := by
    intro M k
    funext o q
    rw [ur_ap]
    by_cases ho : o = 2
    · subst ho
      rw [if_pos rfl]
      exact if_neg (by omega)
    · rw [if_neg ho]
  by_cases hk4 : k = 4
  · subst hk4
    have z1 : ur M 2 (shf M 0) = M := by
      funext o q
      rw [ur_ap]
      by_cases ho : o = 2
      · subst ho
        rw [if_pos rfl]
        exact if_neg (by omega)
      · rw [if_neg ho]
    have h1 := e_act10 h 1260 0 10000 rfl (by decide)
    rw [z1] at h1
    have h2 := e_act51 (M := u2 (ur M 2 (shf M 1260)) 0 2 (nI 3)) (k := 3) (by decide) rfl 420 0 10000 rfl (by decide)
    rw [z0] at h2
    refine ⟨_, (e_act_4 h).trans (h1.trans ((e_act49 _).trans h2)), ?_, ?_, fun q hq => ?_, fun i q hi hq => ?_⟩
    · rfl
    · rfl
    · rw [if_pos rfl]
      show seg _ 3 420 _ = _
      unfold seg
      rw [if_pos (by omega), show 420 * 3 + q - 420 * 3 = q by omega]
      rfl
    · rw [if_pos rfl] at hi
      show seg _ 3 420 _ = _
      unfold seg
      rw [if_neg (by omega), if_pos rfl]
      show shf M 1260 _ = _
      unfold shf
      rw [if_pos (by omega)]
      exact congrArg (M 2) (by omega)
  · have h2 := e_act51 (M := M) (k := k) (by omega) h 420 0 10000 rfl (by decide)
    rw [z0] at h2
    refine ⟨_, (e_act_k (by omega) h).trans h2, ?_, ?_, fun q hq => ?_, fun i q hi hq => ?_⟩
    · rfl
    · rw [if_neg hk4]; rfl
    · rw [if_neg hk4]
      show seg _ k 420 _ = _
      unfold seg
      rw [if_pos (by omega), show 420 * k + q - 420 * k = q by omega]
    · rw [if_neg hk4] at hi
      rw [if_neg hk4]
      show seg _ k 420 _ = _
      unfold seg
      rw [if_neg (by omega)]
/-! the class's record -/
theorem e_drop_l {I : St} (b : ∀ i, i < 4 → inb (I 147 i) 5 = true) : ∀ F, 4 ≤ F → f_X3_dropOldest_l9 F (I 147 0) 1 I = some (u2 (u2 (u2 (u2 (u2 I 147 0 (I 147 1)) 147 1 (I 147 2)) 147 2 (I 147 3)) 147 3 (I 147 0)) 146 1 3) := by
  have c0 : (1 : Int32).toNatClampNeg = 1 := by decide
  have c2 : (2 : Int32).toNatClampNeg = 2 := by decide
  have c3 : (3 : Int32).toNatClampNeg = 3 := by decide
  have k1 : ¬ (4 : Int32) ≤ 1 := by decide
  have k2 : ¬ (4 : Int32) ≤ 2 := by decide
  have k3 : ¬ (4 : Int32) ≤ 3 := by decide
  have k4 : (4 : Int32) ≤ 4 := by decide
  have a1 : (1 : Int32) + 1 = 2 := by decide
  have a2 : (2 : Int32) + 1 = 3 := by decide
  have a3 : (3 : Int32) + 1 = 4 := by decide
  have s1 : (1 : Int32) - 1 = 0 := by decide
  have s2 : (2 : Int32) - 1 = 1 := by decide
  have s3 : (3 : Int32) - 1 = 2 := by decide
  have i0 : inb 0 4 = true := by decide
  have i1 : inb 1 4 = true := by decide
  have i2 : inb 2 4 = true := by decide
  have i3 : inb 3 4 = true := by decide
  have z : (0 : Int32).toNatClampNeg = 0 := by decide
  intro F hF
  obtain ⟨F, rfl⟩ : ∃ g, F = g + 1 + 1 + 1 + 1 := ⟨F - 4, by omega⟩
  have r2 : u2 I 147 0 (I 147 1) 147 2 = I 147 2 := rfl
  have r3 : u2 (u2 I 147 0 (I 147 1)) 147 1 (I 147 2) 147 3 = I 147 3 := rfl
  rw [f_X3_dropOldest_l9, if_neg k1, s1, lb_e, i1, ck_t, c0, lb_e, b 1 (by decide), ck_t, i0, ck_t, ck_t, z, lb_e, a1]
  rw [f_X3_dropOldest_l9, if_neg k2, s2, lb_e, i2, ck_t, c2, r2, lb_e, b 2 (by decide), ck_t, i1, ck_t, ck_t, c0, lb_e, a2]
  rw [f_X3_dropOldest_l9, if_neg k3, s3, lb_e, i3, ck_t, c3, r3, lb_e, b 3 (by decide), ck_t, i2, ck_t, ck_t, c2, lb_e, a3]
  rw [f_X3_dropOldest_l9, if_pos k4, i3, ck_t, b 0 (by decide), ck_t, c3, lb_e, lb_e]
theorem e_drop {I : St} {π : Nat → Nat} (h : ∀ i, i < 4 → 1 ≤ π i ∧ π i ≤ 4 ∧ I 147 i = nI (π i)) : ∃ I', f_X3_dropOldest I = some I' ∧ I' 146 1 = nI 3 ∧ (∀ i, i < 4 → I' 147 i = nI (π ((i + 1) % 4))) ∧ ∀ o, o ≠ 146 → o ≠ 147 → I' o = I o := by
  have b : ∀ i, i < 4 → inb (I 147 i) 5 = true := fun i hi => by
    rw [(h i hi).2.2]
    exact inb_nI (by have := h i hi; omega) (by decide)
  have i0 : inb 0 4 = true := by decide
  have z : (0 : Int32).toNatClampNeg = 0 := by decide
  have hs : f_X3_dropOldest I = f_X3_dropOldest_l9 10000 (I 147 0) 1 I := by
    rw [f_X3_dropOldest, i0, ck_t, z, lb_e, b 0 (by decide), ck_t]
  refine ⟨_, hs.trans (e_drop_l b 10000 (by decide)), ?_, ?_, ?_⟩
  · rfl
  · intro i hi
    match i, hi with
    | 0, _ => exact (h 1 (by decide)).2.2
    | 1, _ => exact (h 2 (by decide)).2.2
    | 2, _ => exact (h 3 (by decide)).2.2
    | 3, _ => exact (h 0 (by decide)).2.2
  · intro o h1 h2
    rw [u2_off _ _ _ _ h1, u2_off _ _ _ _ h2, u2_off _ _ _ _ h2, u2_off _ _ _ _ h2, u2_off _ _ _ _ h2]
theorem e_rem {n : Nat} {I M : St} (h : RR n I M) : ∃ I1 M1, f_X3_remember I = some I1 ∧ f_X8_act M = some M1 ∧ RR n I1 M1 ∧ (∀ o, o < 29 → I1 o = I o) ∧ M1 1 = M 1 := by
  obtain ⟨hL, k, hk, hI, hM, π, p1, p2, p3⟩ := h
  obtain ⟨M1, m1, m2, m3, m4, m5⟩ := e_act hk hM
  -- with room for one more: the state number k of the row ρ is written
  have key : ∀ (J : St) (c : Nat) (ρ : Nat → Nat), c < 4 → J 146 1 = nI c → (∀ i, i < 4 → 1 ≤ ρ i ∧ ρ i ≤ 4 ∧ J 147 i = nI (ρ i)) → (∀ i j, i < 4 → j < 4 → ρ i = ρ j → i = j) → (∀ o, o < 145 → J o = I o) →
      ∃ I1, f_X3_remember_b12 J = some I1 ∧ I1 146 1 = nI (c + 1) ∧ (∀ i, i < 4 → I1 147 i = nI (ρ i)) ∧ (∀ o, o < 29 → I1 o = I o) ∧ (∀ j q, kv j q = true → I1 (29 * ρ c + j) q = I j q) ∧ ∀ i, i < 4 → i ≠ c → ∀ j, j < 29 → I1 (29 * ρ i + j) = I (29 * ρ i + j) := by
    intro J c ρ hc j1 j2 j3 j4
    obtain ⟨r1, r2, r3⟩ := j2 c hc
    obtain ⟨J', c1, c2, c3⟩ := e_copy (b0 := ρ c) (b1 := 0) (by omega) (by decide) (by omega) J
    have i1 : inb (nI c) 4 = true := inb_nI hc (by decide)
    have i2 : inb (nI (ρ c)) 5 = true := inb_nI (by omega) (by decide)
    have e1 : J' 146 = J 146 := c3 146 (by omega)
    have e2 : J' 147 = J 147 := c3 147 (by omega)
    refine ⟨u2 J' 146 1 (nI (c + 1)), ?_, rfl, fun i hi => ?_, fun o ho => ?_, fun j q hq => ?_, fun i hi hne j hj => ?_⟩
    · rw [f_X3_remember_b12, lb_e, j1, i1, ck_t, nI_clamp (by omega), lb_e, r3, i2, ck_t, nI_clamp (by omega)]
      rw [show f_X4_copy (29 * ρ c) 0 J = some J' from c1, ob1_s, lb_e, lb_e, e1, j1, nI_1]
    · rw [u2_off _ _ _ _ (by decide), e2]
      exact (j2 i hi).2.2
    · rw [u2_off _ _ _ _ (by omega), c3 o (by omega), j4 o (by omega)]
    · have hj := (kv_lt hq).1
      rw [u2_off _ _ _ _ (by omega), c2 j q hq, j4 _ (by omega)]
      rw [show 29 * 0 + j = j by omega]
    · obtain ⟨q1, q2, q3⟩ := j2 i hi
      have hr : ρ i ≠ ρ c := fun z => hne (j3 i c hi hc z)
      rw [u2_off _ _ _ _ (by omega), c3 _ (by omega), j4 _ (by omega)]
  by_cases hk4 : k = 4
  · subst hk4
    obtain ⟨J, d1, d2, d3, d4⟩ := e_drop p1
    obtain ⟨I1, q1, q2, q3, q4, q5, q6⟩ := key J 3 (fun i => π ((i + 1) % 4)) (by decide) d2 (fun i hi => by
      obtain ⟨z1, z2, z3⟩ := p1 ((i + 1) % 4) (by omega)
      exact ⟨z1, z2, d3 i hi⟩) (fun i j hi hj e => by
      have := p2 _ _ (by omega) (by omega) e
      omega) (fun o ho => d4 o (by omega) (by omega))
    have hne : ¬ nI 4 < (4 : Int32) := by decide
    refine ⟨I1, M1, ?_, m1, ⟨?_, 4, by decide, q2, m3, fun i => π ((i + 1) % 4), fun i hi => ?_, fun i j hi hj e => ?_, fun i hi => ?_⟩, q4, m2⟩
    · rw [f_X3_remember, lb_e, hI, if_neg hne, d1, ob1_s, q1]
    · rw [m2]
      exact LR_congr (fun j q hq => by rw [q4 j (kv_lt hq).1]) (fun _ _ => rfl) hL
    · obtain ⟨z1, z2, z3⟩ := p1 ((i + 1) % 4) (by omega)
      exact ⟨z1, z2, q3 i hi⟩
    · have := p2 _ _ (by omega) (by omega) e
      omega
    · by_cases hi3 : i = 3
      · subst hi3
        exact LR_congr (fun j q hq => q5 j q hq) (fun a ha => m4 a ha) hL
      · refine LR_congr (fun j q hq => ?_) (fun a ha => ?_) (p3 (i + 1) (by omega))
        · show I1 (29 * π ((i + 1) % 4) + j) q = I (29 * π (i + 1) + j) q
          rw [q6 i hi hi3 j (kv_lt hq).1, show (i + 1) % 4 = i + 1 by omega]
        · exact m5 i a (by rw [if_pos rfl]; omega) ha
  · obtain ⟨I1, q1, q2, q3, q4, q5, q6⟩ := key I k π (by omega) hI p1 p2 (fun _ _ => rfl)
    have hlt : nI k < (4 : Int32) := nI_lt (a := k) (b := 4) (by omega) (by decide)
    rw [if_neg hk4] at m3
    refine ⟨I1, M1, ?_, m1, ⟨?_, k + 1, by omega, q2, m3, π, fun i hi => ?_, p2, fun i hi => ?_⟩, q4, m2⟩
    · rw [f_X3_remember, lb_e, hI, if_pos hlt, q1]
    · rw [m2]
      exact LR_congr (fun j q hq => by rw [q4 j (kv_lt hq).1]) (fun _ _ => rfl) hL
    · obtain ⟨z1, z2, z3⟩ := p1 i hi
      exact ⟨z1, z2, q3 i hi⟩
    · by_cases hik : i = k
      · subst hik
        refine LR_congr (fun j q hq => q5 j q hq) (fun a ha => ?_) hL
        have := m4 a ha
        rwa [if_neg hk4] at this
      · refine LR_congr (fun j q hq => ?_) (fun a ha => ?_) (p3 i (by omega))
        · show I1 (29 * π i + j) q = I (29 * π i + j) q
          rw [q6 i (by omega) hik j (kv_lt hq).1]
        · have := m5 i a (by rw [if_neg hk4]; omega) ha
          rwa [if_neg hk4] at this
