/-! steps of a round that touch no account -/
def acc (o k : Nat) : Bool := (decide (o = 0) && (decide (3 ≤ k) && decide (k ≤ 8))) || (decide (o = 3) || (decide (5 ≤ o) && (decide (o < 13) && decide (k < 4))))
def FR (I I' : St) : Prop := ∀ o k, acc o k = true → I' o k = I o k
theorem FR.rf {I : St} : FR I I := fun _ _ _ => rfl
theorem FR.tr {I J L : St} (h : FR I J) (g : FR J L) : FR I L := fun o k a => (g o k a).trans (h o k a)
theorem FR.u2 {I J : St} (h : FR I J) {o k : Nat} {x : Int32} (ha : acc o k = false) : FR I (u2 J o k x) := fun o' k' a => by
  rw [u2_ap]
  by_cases c : o' = o
  · subst c
    rw [if_pos rfl]
    by_cases d : k' = k
    · rw [d, ha] at a; cases a
    · rw [if_neg d]; exact h o' k' a
  · rw [if_neg c]; exact h o' k' a
theorem acc_hi {o k : Nat} (h : 5 ≤ o) (hk : 4 ≤ k ∨ 13 ≤ o) : acc o k = false := by
  have h1 : ¬ o = 0 := by omega
  have h2 : ¬ o = 3 := by omega
  unfold acc
  rcases hk with hk | hk
  · simp [h1, h2, show ¬ k < 4 by omega]
  · simp [h1, h2, show ¬ o < 13 by omega]
theorem acc_2 (k : Nat) : acc 2 k = false := by simp [acc]
theorem acc_3 (k : Nat) : acc 3 k = true := by simp [acc]
theorem acc_p {p k : Nat} (hp : p < 8) (hk : k < 4) : acc (5 + p) k = true := by
  unfold acc
  simp [show 5 ≤ 5 + p by omega, show 5 + p < 13 by omega, hk]
theorem isP_ge {o : Nat} (h : isP o = true) : 5 ≤ o := by
  simp only [isP, Bool.and_eq_true, decide_eq_true_eq] at h
  omega
theorem fr_start {I I' : St} (h : f_X4_start I = some I') : FR I I' := by
  rw [f_X4_start] at h
  simp only [lb_e] at h
  obtain ⟨r, e, h⟩ := ob1_some h
  cases h
  exact ((((FR.rf.u2 rfl).u2 rfl).u2 rfl).u2 rfl).u2 rfl
theorem fr_putLock {o : Nat} {x y : Int32} {I I' : St} (h : f_X5_putLock o x y I = some I') : FR I I' := by
  rw [f_X5_putLock] at h
  obtain ⟨g, h⟩ := ck_some h
  obtain ⟨a1, e1, h⟩ := ob1_some h
  obtain ⟨a2, e2, h⟩ := ob1_some h
  simp only [lb_e] at h
  obtain ⟨a3, e3, h⟩ := ob1_some h
  cases h
  have := isP_ge g
  exact (FR.rf.u2 (acc_hi this (Or.inl (by decide)))).u2 (acc_hi this (Or.inl (by decide)))
theorem fr_deal_l64 {o : Nat} (ho : 5 ≤ o) (K : Int32 → Int32 → Int32 → Int32 → St → Option St) {J I' : St} (hK : ∀ a b c d I, K a b c d I = some I' → FR J I → FR J I') : ∀ F a b c d e I, f_X5_deal_l64 o K F a b c d e I = some I' → FR J I → FR J I' := by
  intro F
  induction F with
  | zero =>
    intro a b c d e I h
    rw [f_X5_deal_l64] at h
    cases h
  | succ n ih =>
    intro a b c d e I h hJ
    rw [f_X5_deal_l64] at h
    split at h
    · obtain ⟨_, _, h⟩ := ob1_some h
      obtain ⟨_, _, h⟩ := ob1_some h
      rw [lb_e] at h
      exact hK _ _ _ _ _ h hJ
    · obtain ⟨_, h⟩ := ck_some h
      simp only [lb_e] at h
      obtain ⟨_, _, h⟩ := ob1_some h
      obtain ⟨_, h⟩ := ck_some h
      exact ih _ _ _ _ _ _ h (hJ.u2 (acc_hi (by omega) (Or.inr (by omega))))
theorem fr_deal_l32 {o : Nat} (ho : 5 ≤ o) {J I' : St} : ∀ F a b c d I, f_X5_deal_l32 o F a b c d I = some I' → FR J I → FR J I' := by
  intro F
  induction F with
  | zero =>
    intro a b c d I h
    rw [f_X5_deal_l32] at h
    cases h
  | succ n ih =>
    intro a b c d I h hJ
    have b132 : f_X5_deal_b132 o I = some I' → FR J I' := fun q => by
      rw [f_X5_deal_b132, lb_e] at q
      cases q
      exact hJ.u2 (acc_hi ho (Or.inl (by decide)))
    rw [f_X5_deal_l32] at h
    split at h
    · exact b132 h
    · split at h
      · exact b132 h
      · obtain ⟨_, _, h⟩ := ob1_some h
        obtain ⟨_, h⟩ := ck_some h
        rw [lb_e] at h
        exact fr_deal_l64 ho _ (fun _ _ _ _ _ q z => ih _ _ _ _ _ q z) _ _ _ _ _ _ _ h (hJ.u2 (acc_hi (by omega) (Or.inr (by omega))))
theorem fr_deal_l2 {o : Nat} (ho : 5 ≤ o) {J I' : St} : ∀ F a b c I, f_X5_deal_l2 o F a b c I = some I' → FR J I → FR J I' := by
  intro F
  induction F with
  | zero =>
    intro a b c I h
    rw [f_X5_deal_l2] at h
    cases h
  | succ n ih =>
    intro a b c I h hJ
    rw [f_X5_deal_l2] at h
    split at h
    · rw [lb_e] at h
      exact fr_deal_l32 ho _ _ _ _ _ _ h hJ
    · obtain ⟨_, h⟩ := ck_some h
      rw [lb_e] at h
      exact ih _ _ _ _ h (hJ.u2 (acc_hi (by omega) (Or.inr (by omega))))
theorem isP16 {o : Nat} (h : isP o = true) : 5 ≤ o ∧ 13 ≤ o + 8 := by
  have := isP_ge h
  exact ⟨this, by omega⟩
theorem fr_deal {o : Nat} {x y : Int32} {I I' : St} (h : f_X5_deal o x y I = some I') : FR I I' := by
  rw [f_X5_deal] at h
  obtain ⟨g, h⟩ := ck_some h
  exact fr_deal_l2 (isP_ge g) _ _ _ _ _ h FR.rf
theorem fr_accept {p x y : Int32} {I I' : St} (h : f_X4_accept p x y I = some I') : FR I I' := by
  have b62 : ∀ J L, f_X4_accept_b62 x (5 + p.toNatClampNeg) J = some L → FR I J → FR I L := fun J L q z => by
    rw [f_X4_accept_b62, lb_e] at q
    split at q
    · obtain ⟨_, e, q⟩ := ob1_some q
      rw [f_X4_accept_b80] at q
      cases q
      exact z.tr (fr_putLock e)
    · rw [f_X4_accept_b80] at q
      cases q
      exact z
  rw [f_X4_accept] at h
  obtain ⟨_, h⟩ := ck_some h
  obtain ⟨_, h⟩ := ck_some h
  simp only [lb_e] at h
  obtain ⟨d, _, h⟩ := ob1_some h
  have z : ∀ w a b c, FR I (u2 (u2 (u2 (u2 I 2 w a) (5 + p.toNatClampNeg) 5 b) (5 + p.toNatClampNeg) 6 d) 0 11 c) := fun w a b c => (((FR.rf.u2 (acc_2 _)).u2 (acc_hi (by omega) (Or.inl (by decide)))).u2 (acc_hi (by omega) (Or.inl (by decide)))).u2 rfl
  split at h
  · obtain ⟨I2, e, h⟩ := ob1_some h
    exact b62 _ _ h ((z _ _ _ _).tr (fr_deal e))
  · exact b62 _ _ h (z _ _ _ _)
theorem fr_commitAll_l {J I' : St} : ∀ F st p I, f_X2_commitAll_l4 F st p I = some I' → FR J I → FR J I' := by
  intro F
  induction F with
  | zero =>
    intro st p I h
    rw [f_X2_commitAll_l4] at h
    cases h
  | succ n ih =>
    intro st p I h hJ
    rw [f_X2_commitAll_l4] at h
    split at h
    · cases h; exact hJ
    · rw [lb_e] at h
      obtain ⟨_, _, h⟩ := ob1_some h
      split at h
      · rw [f_X2_commitAll_b71] at h
        exact ih _ _ _ h hJ
      · obtain ⟨_, _, h⟩ := ob1_some h
        obtain ⟨_, _, h⟩ := ob1_some h
        rw [lb_e] at h
        obtain ⟨_, _, h⟩ := ob1_some h
        obtain ⟨_, _, h⟩ := ob1_some h
        obtain ⟨_, _, h⟩ := ob1_some h
        obtain ⟨_, _, h⟩ := ob1_some h
        split at h
        · obtain ⟨I2, e, h⟩ := ob1_some h
          rw [f_X2_commitAll_b71] at h
          exact ih _ _ _ h (hJ.tr (fr_accept e))
        · rw [f_X2_commitAll_b71] at h
          exact ih _ _ _ h hJ
theorem fr_commitAll {x : Int32} {I I' : St} (h : f_X2_commitAll x I = some I') : FR I I' := by
  rw [f_X2_commitAll] at h
  exact fr_commitAll_l _ _ _ _ h FR.rf
theorem fr_changeShare {o : Nat} {x y z : Int32} {I I' : St} (h : f_X5_changeShare o x y z I = some I') : FR I I' := by
  rw [f_X5_changeShare] at h
  obtain ⟨g, h⟩ := ck_some h
  obtain ⟨_, h⟩ := ck_some h
  simp only [lb_e] at h
  obtain ⟨_, h⟩ := ck_some h
  obtain ⟨_, h⟩ := ck_some h
  obtain ⟨_, _, h⟩ := ob1_some h
  obtain ⟨_, _, h⟩ := ob1_some h
  have g5 := isP_ge g
  have a1 : ∀ k, acc (o + 8) k = false := fun k => acc_hi (by omega) (Or.inr (by omega))
  have a2 : acc o 9 = false := acc_hi g5 (Or.inl (by decide))
  split at h
  · rw [f_X5_changeShare_b66] at h
    cases h
    exact ((FR.rf.u2 (a1 _)).u2 a2).u2 a2
  · rw [f_X5_changeShare_b66] at h
    cases h
    exact (FR.rf.u2 (a1 _)).u2 a2
theorem fr_cheat_l {J I' : St} : ∀ F p I, f_X2_cheat_l2 F p I = some I' → FR J I → FR J I' := by
  intro F
  induction F with
  | zero =>
    intro p I h
    rw [f_X2_cheat_l2] at h
    cases h
  | succ n ih =>
    intro p I h hJ
    rw [f_X2_cheat_l2] at h
    split at h
    · cases h; exact hJ
    · rw [lb_e] at h
      obtain ⟨_, _, h⟩ := ob1_some h
      split at h
      · rw [f_X2_cheat_b51] at h
        exact ih _ _ h hJ
      · obtain ⟨_, h⟩ := ck_some h
        rw [lb_e] at h
        split at h
        · obtain ⟨_, h⟩ := ck_some h
          obtain ⟨_, _, h⟩ := ob1_some h
          obtain ⟨_, e, h⟩ := ob1_some h
          rw [f_X2_cheat_b51] at h
          exact ih _ _ h (hJ.tr (fr_changeShare e))
        · rw [f_X2_cheat_b51] at h
          exact ih _ _ h hJ
theorem fr_cheat {I I' : St} (h : f_X2_cheat I = some I') : FR I I' := by
  rw [f_X2_cheat] at h
  exact fr_cheat_l _ _ _ h FR.rf
theorem fr_honest_l {J I' : St} : ∀ F p I, f_X2_openHonest_l2 F p I = some I' → FR J I → FR J I' := by
  intro F
  induction F with
  | zero =>
    intro p I h
    rw [f_X2_openHonest_l2] at h
    cases h
  | succ n ih =>
    intro p I h hJ
    have b38 : f_X2_openHonest_b38 (f_X2_openHonest_l2 n) p I = some I' → FR J I' := fun q => by
      rw [f_X2_openHonest_b38, lb_e, lb_e, f_X2_openHonest_b50] at q
      exact ih _ _ q (hJ.u2 rfl)
    have b50 : f_X2_openHonest_b50 (f_X2_openHonest_l2 n) p I = some I' → FR J I' := fun q => by
      rw [f_X2_openHonest_b50] at q
      exact ih _ _ q hJ
    rw [f_X2_openHonest_l2] at h
    split at h
    · cases h; exact hJ
    · obtain ⟨_, h⟩ := ck_some h
      simp only [lb_e] at h
      obtain ⟨_, _, h⟩ := ob1_some h
      split at h
      · exact b50 h
      · split at h
        · exact b38 h
        · split at h
          · exact b38 h
          · exact b50 h
theorem fr_honest {I I' : St} (h : f_X2_openHonest I = some I') : FR I I' := by
  rw [f_X2_openHonest] at h
  exact fr_honest_l _ _ _ h FR.rf
theorem fr_selfish_l {J I' : St} : ∀ F p I, f_X2_openSelfish_l2 F p I = some I' → FR J I → FR J I' := by
  intro F
  induction F with
  | zero =>
    intro p I h
    rw [f_X2_openSelfish_l2] at h
    cases h
  | succ n ih =>
    intro p I h hJ
    have b60 : ∀ x, f_X2_openSelfish_b60 (f_X2_openSelfish_l2 n) p x I = some I' → FR J I' := fun x q => by
      rw [f_X2_openSelfish_b60, lb_e, f_X2_openSelfish_b65] at q
      exact ih _ _ q (hJ.u2 rfl)
    have b65 : f_X2_openSelfish_b65 (f_X2_openSelfish_l2 n) p I = some I' → FR J I' := fun q => by
      rw [f_X2_openSelfish_b65] at q
      exact ih _ _ q hJ
    rw [f_X2_openSelfish_l2] at h
    split at h
    · cases h; exact hJ
    · rw [lb_e] at h
      obtain ⟨_, _, h⟩ := ob1_some h
      split at h
      · exact b65 h
      · obtain ⟨_, h⟩ := ck_some h
        rw [lb_e] at h
        split at h
        · simp only [lb_e] at h
          obtain ⟨_, _, h⟩ := ob1_some h
          split at h
          · exact b60 _ h
          · obtain ⟨_, _, h⟩ := ob1_some h
            split at h
            · exact b65 h
            · exact b60 _ h
        · exact b65 h
theorem fr_selfish {I I' : St} (h : f_X2_openSelfish I = some I') : FR I I' := by
  rw [f_X2_openSelfish] at h
  exact fr_selfish_l _ _ _ h FR.rf
