/-! a whole round, played: what it gives, and that it gives it again behind an undoing -/
/-- what the reference does behind the record -/
noncomputable def XR (x : Int32) (M : St) : Option (Int32 × St) := ob1 (f_X8_begins M) fun M16 => ob1 (f_X8_plays x M16) fun M18 => ck (inb 5 420) <| lb (M18 1 (5 : Int32).toNatClampNeg) fun x19 => if x19 = 1 then ob1 (f_X8_cheats M18) fun M22 => f_X8_play_b37 M22 else f_X8_play_b37 M18
theorem fl_lt {m w p : Nat} {v : Nat → Int32} (h : fl m v w p = true) : p < m := Nat.lt_of_not_le fun z => by rw [fl_ge z] at h; cases h
theorem p_round {m e t n paid : Nat} {I M : St} (lc : LC m e t n I (M 1)) (hn : n < 2 ^ 30) (hA : PV m paid e I) (x : Int32) : ∃ r I' M', f_X2_playRound x I = some (r, I') ∧ XR x M = some (r, M') ∧ FI I I' ∧ LC m (e + 1) t (n + 1) I' (M' 1) ∧ M' 1 0 = 0 ∧ PV m paid (e + 1) I' ∧ PE e r I' := by
  have w := lc.2.1
  have w1 := w.1
  have he : e < 2 ^ 30 := Nat.lt_of_le_of_lt w.2.2.1 hn
  obtain ⟨I2, M2, b1, b2', b3, b4⟩ := e_starts (I0 := I) (M0 := M) lc FI.rf FM.rf
  obtain ⟨I3, M3, c1, c2, c3⟩ := e_plays_l m 0 10000 10000 x I2 M2 (by omega) (by omega) (by omega) b3 (fun q _ => b4 q)
  have half : ∀ I4 M4, K m e t n 1 I M I4 M4 → PV m paid e I4 → ∃ r I' M', f_X2_playRound_b25 I4 = some (r, I') ∧ f_X8_play_b37 M4 = some (r, M') ∧ FI I I' ∧ LC m (e + 1) t (n + 1) I' (M' 1) ∧ M' 1 0 = 0 ∧ PV m paid (e + 1) I' ∧ PE e r I' := fun I4 M4 k a => by
    obtain ⟨r, I5, M5, d1, d2, d3, d4, d5⟩ := k.opens hn
    have a5 := pv_opening he d1 a
    rw [f_X2_playRound_b25, d1, ob2_s, f_X8_play_b37, d2, ob2_s]
    rcases d5 with ⟨rfl, d5, d6⟩ | ⟨dn, d5, d6⟩
    · rw [if_pos rfl, if_pos rfl]
      rcases a5 with ⟨-, z, -⟩ | ⟨-, z1, z2, z3, -⟩
      · have : I5 0 9 = M5 1 0 := d5.1 0 9 0 rfl
        rw [z, d6] at this
        exact absurd this (by decide)
      · exact ⟨-5, I5, M5, rfl, rfl, d3, d5, d6, z1, z3⟩
    · rcases a5 with ⟨z, -⟩ | ⟨z, -⟩
      case inr => exact absurd z dn
      obtain ⟨I6, M6, g1, g2, g3, g4⟩ := e_hon_l m 0 10000 10000 I5 M5 (by omega) (by omega) (by omega) d5 (fun q _ b => d6 q b) (fun q a => absurd a (by omega))
      obtain ⟨I7, M7, k1, k2, k3⟩ := e_self_l m 0 10000 10000 I6 M6 (by omega) (by omega) (by omega) g3 (fun q _ => g4 q)
      obtain ⟨r', I8, M8, l1, l2, l3, l4, l5, l6⟩ := k3.close hn
      have eh : f_X2_openHonest I5 = some I6 := by rw [f_X2_openHonest, lit_nI 0]; exact g1
      have es : f_X2_openSelfish I6 = some I7 := by rw [f_X2_openSelfish, lit_nI 0]; exact k1
      have ed : f_X8_decides M5 = some M7 := by rw [f_X8_decides, lit_nI 0, g2]; exact k2
      rw [if_neg dn, if_neg dn, eh, ob1_s, es, ob1_s, l1, ob2_s, ed, ob1_s, l2, ob2_s]
      have a7 : PV m paid e I7 := (z.fr (fr_honest eh)).fr (fr_selfish es)
      have rp := k3.2.1
      obtain ⟨a8, pe, -⟩ := pv_finish (f := fun p => fl m (M7 1) 5 p && fl m (M7 1) 7 p) (g := fl m (M7 1) 5) he l1 a7 rp.1 rp.2.2.1 (fun p hp => fl_lt (Bool.and_eq_true_iff.mp hp).1)
      exact ⟨r', I8, M8, rfl, rfl, l3, l5, l6, a8, pe⟩
  have ec : f_X2_commitAll x I2 = some I3 := by rw [f_X2_commitAll, lit_nI 0]; exact c1
  have ep : f_X8_plays x M2 = some M3 := by rw [f_X8_plays, lit_nI 0]; exact c2
  have x5 : I3 0 5 = M3 1 5 := c3.1.1 0 5 5 rfl
  have a3 : PV m paid e I3 := (hA.fr (fr_start b1)).fr (fr_commitAll ec)
  rw [f_X2_playRound, b1, ob1_s, ec, ob1_s, x5, lb_e, XR, b2', ob1_s, ep, ob1_s, ib_5, ck_t, cl_5, lb_e]
  by_cases z : M3 1 5 = 1
  · obtain ⟨I4, M4, k1, k2, k3, k4⟩ := e_cheat_l m 0 10000 10000 I3 M3 (by omega) (by omega) (by omega) c3 z
    obtain ⟨I5, M5, l1, l2, l3⟩ := e_comp_out m 0 10000 10000 I4 M4 (by omega) (by omega) (by omega) k3 k4
    have e1 : f_X2_cheat I3 = some I4 := by rw [f_X2_cheat, lit_nI 0]; exact k1
    have e2 : f_X2_complainAll I4 = some I5 := by rw [f_X2_complainAll, lit_nI 0]; exact l1
    have e3 : f_X8_cheats M3 = some M5 := by rw [f_X8_cheats, lit_nI 0, k2]; exact l2
    obtain ⟨r, I', M', o1, o2, o3⟩ := half I5 M5 l3 (pv_complainAll e2 (a3.fr (fr_cheat e1)))
    rw [if_pos z, if_pos z, e1, ob1_s, e2, ob1_s, e3, ob1_s, o1]
    exact ⟨r, I', M', rfl, o2, o3⟩
  · obtain ⟨r, I', M', o1, o2, o3⟩ := half I3 M3 c3 a3
    rw [if_neg z, if_neg z, o1]
    exact ⟨r, I', M', rfl, o2, o3⟩
/-! the record, where it lies; its undoing -/
theorem e_rem2 {n : Nat} {I M : St} (h : RR n I M) : ∃ I1 c r, f_X3_remember I = some I1 ∧ c < 4 ∧ 1 ≤ r ∧ r ≤ 4 ∧ I1 146 1 = nI (c + 1) ∧ I1 147 c = nI r ∧ (∀ o, o < 29 → I1 o = I o) ∧ ∀ j q, kv j q = true → I1 (29 * r + j) q = I j q := by
  obtain ⟨hL, k, hk, hI, hM, π, p1, p2, p3⟩ := h
  have key : ∀ (J : St) (c r : Nat), c < 4 → J 146 1 = nI c → 1 ≤ r → r ≤ 4 → J 147 c = nI r → (∀ o, o < 145 → J o = I o) →
      ∃ I1, f_X3_remember_b12 J = some I1 ∧ I1 146 1 = nI (c + 1) ∧ I1 147 c = nI r ∧ (∀ o, o < 29 → I1 o = I o) ∧ (∀ j q, kv j q = true → I1 (29 * r + j) q = I j q) := by
    intro J c r hc j1 r1 r2 r3 j4
    obtain ⟨J', c1, c2, c3⟩ := e_copy (b0 := r) (b1 := 0) (by omega) (by decide) (by omega) J
    have i1 : inb (nI c) 4 = true := inb_nI hc (by decide)
    have i2 : inb (nI r) 5 = true := inb_nI (by omega) (by decide)
    have e1 : J' 146 = J 146 := c3 146 (by omega)
    have e2 : J' 147 = J 147 := c3 147 (by omega)
    refine ⟨u2 J' 146 1 (nI (c + 1)), ?_, rfl, ?_, fun o ho => ?_, fun j q hq => ?_⟩
    · rw [f_X3_remember_b12, lb_e, j1, i1, ck_t, nI_clamp (by omega), lb_e, r3, i2, ck_t, nI_clamp (by omega)]
      rw [show f_X4_copy (29 * r) 0 J = some J' from c1, ob1_s, lb_e, lb_e, e1, j1, nI_1]
    · rw [u2_off _ _ _ _ (by decide), e2]
      exact r3
    · rw [u2_off _ _ _ _ (by omega), c3 o (by omega), j4 o (by omega)]
    · have hj := (kv_lt hq).1
      rw [u2_off _ _ _ _ (by omega), c2 j q hq, j4 _ (by omega)]
      rw [show 29 * 0 + j = j by omega]
  by_cases hk4 : k = 4
  · subst hk4
    obtain ⟨J, d1, d2, d3, d4⟩ := e_drop p1
    obtain ⟨z1, z2, z3⟩ := p1 0 (by omega)
    obtain ⟨I1, q1, q2, q3, q4, q5⟩ := key J 3 (π 0) (by decide) d2 z1 z2 (d3 3 (by decide)) (fun o ho => d4 o (by omega) (by omega))
    have hne : ¬ nI 4 < (4 : Int32) := by decide
    exact ⟨I1, 3, π 0, by rw [f_X3_remember, lb_e, hI, if_neg hne, d1, ob1_s, q1], by decide, z1, z2, q2, q3, q4, q5⟩
  · obtain ⟨z1, z2, z3⟩ := p1 k (by omega)
    obtain ⟨I1, q1, q2, q3, q4, q5⟩ := key I k (π k) (by omega) hI z1 z2 z3 (fun _ _ => rfl)
    have hlt : nI k < (4 : Int32) := nI_lt (a := k) (b := 4) (by omega) (by decide)
    exact ⟨I1, k, π k, by rw [f_X3_remember, lb_e, hI, if_pos hlt, q1], by omega, z1, z2, q2, q3, q4, q5⟩
theorem un_2 {I : St} {c r : Nat} (hc : c < 4) (r1 : 1 ≤ r) (r2 : r ≤ 4) (h1 : I 146 1 = nI (c + 1)) (h2 : I 147 c = nI r) : ∃ I', f_X7_undo I = some (nI c, I') ∧ ∀ j q, kv j q = true → I' j q = I (29 * r + j) q := by
  have ne : ¬ nI (c + 1) = 0 := nI_ne0 (by omega) (by omega)
  have hp : nI (c + 1) - 1 = nI c := nI_pred c
  obtain ⟨I', c1, c2, c3⟩ := e_copy (b0 := 0) (b1 := r) (by decide) (by omega) (by omega) (u2 I 146 1 (nI c))
  have g1 : ¬ nI (c + 1) < (1 : Int32) := nI_nlt (a := c + 1) (b := 1) (by omega) (by omega)
  have g2 : nI (c + 1) ≤ (4 : Int32) := nI_le (a := c + 1) (b := 4) (by omega) (by decide)
  have i1 : inb (nI c) 4 = true := inb_nI (by omega) (by decide)
  have i2 : inb (nI r) 5 = true := inb_nI (by omega) (by decide)
  have e7 : u2 I 146 1 (nI c) 147 = I 147 := rfl
  have e6 : u2 I 146 1 (nI c) 146 1 = nI c := rfl
  have cl : f_X3_restore I = some I' := by
    rw [f_X3_restore, h1, lb_e, if_neg g1, lb_e, if_pos g2, lb_e, hp, lb_e, e6, lb_e, i1, ck_t, e7, nI_clamp (by omega), h2, lb_e, i2, ck_t, nI_clamp (by omega)]
    rw [show f_X4_copy 0 (29 * r) (u2 I 146 1 (nI c)) = some I' from c1, ob1_s]
  have c6 : I' 146 1 = nI c := by rw [c3 146 (by omega)]; exact e6
  refine ⟨I', by rw [f_X7_undo, h1, if_neg ne, cl, ob1_s, c6], fun j q hq => ?_⟩
  have := c2 j q hq
  rw [show 29 * 0 + j = j by omega] at this
  rw [this, u2_off _ _ _ _ (by have := (kv_lt hq).1; omega)]
/-! readers that see the same -/
def RC (I J : St) : Prop := ∀ j k, pr j k ≠ none → J j k = I j k
theorem RC.ofkv {I J : St} (h : ∀ j k, kv j k = true → J j k = I j k) : RC I J := fun j k hp => by
  cases hi : pr j k with
  | none => exact absurd hi hp
  | some i => exact h j k (pr_kv hi)
theorem RC.le {I J : St} {v : Nat → Int32} (h : LE I v) (g : LE J v) : RC I J := fun j k hp => by
  cases hi : pr j k with
  | none => exact absurd hi hp
  | some i => rw [h _ _ _ hi, g _ _ _ hi]
theorem ob1_cg {α β : Type} {x : Option α} {f g : α → Option β} (h : ∀ a, f a = g a) : ob1 x f = ob1 x g := by
  cases x with
  | none => rfl
  | some a => exact h a
theorem prp {p k : Nat} (hp : p < 8) (hk : k < 5) : pr (5 + p) k ≠ none := by
  have : ∀ p, p < 8 → ∀ k, k < 5 → pr (5 + p) k ≠ none := by decide +kernel
  exact this p hp k hk
theorem acc_rc {I J : St} (h : RC I J) {m : Nat} (hm : m ≤ 8) (h3 : I 0 3 = nI m) (x y : Int32) : f_X7_account x y J = f_X7_account x y I := by
  have j3 : J 0 3 = nI m := (h 0 3 (by decide)).trans h3
  rw [f_X7_account, f_X7_account, e_isPart hm h3, e_isPart hm j3, ob1_s, ob1_s]
  cases hb : inb x 8
  · rfl
  · have hp := inb_lt hb
    have c : ∀ k, k < 5 → J (5 + x.toNatClampNeg) k = I (5 + x.toNatClampNeg) k := fun k hk => h _ _ (prp hp hk)
    rw [c 0 (by decide), c 1 (by decide), c 2 (by decide), c 3 (by decide), c 4 (by decide)]
    rfl
theorem fp_74 {I J : St} (h : RC I J) {m : Nat} (hm : m ≤ 8) (h3 : I 0 3 = nI m) (K K' : Int64 → Int32 → St → Option Int64) (hK : ∀ a p, K' a p J = K a p I) : ∀ F a p i, f_X7_fingerprint_l74 K' F a p i J = f_X7_fingerprint_l74 K F a p i I := by
  intro F
  induction F with
  | zero => intro a p i; rfl
  | succ n ih =>
    intro a p i
    rw [f_X7_fingerprint_l74, f_X7_fingerprint_l74, acc_rc h hm h3]
    split
    · exact hK _ _
    · exact ob1_cg fun r => ih _ _ _
theorem fp_60 {I J : St} (h : RC I J) {m : Nat} (hm : m ≤ 8) (h3 : I 0 3 = nI m) (h9 : I 0 9 = 0) : ∀ F a p, f_X7_fingerprint_l60 F a p J = f_X7_fingerprint_l60 F a p I := by
  have j3 : J 0 3 = I 0 3 := h 0 3 (by decide)
  have j9 : J 0 9 = I 0 9 := h 0 9 (by decide)
  intro F
  induction F with
  | zero => intro a p; rfl
  | succ n ih =>
    intro a p
    rw [f_X7_fingerprint_l60, f_X7_fingerprint_l60, j3, j9, h9, if_pos rfl, if_pos rfl]
    split
    · rfl
    · exact fp_74 h hm h3 _ _ (fun a p => ih a p) _ _ _ _
theorem fp_rc {I J : St} (h : RC I J) {m : Nat} (hm : m ≤ 8) (h3 : I 0 3 = nI m) (h9 : I 0 9 = 0) : f_X7_fingerprint J = f_X7_fingerprint I := by
  rw [f_X7_fingerprint, f_X7_fingerprint, f_X7_phase, f_X7_phase, f_X7_rounds, f_X7_rounds, f_X7_pot, f_X7_pot, h 0 9 (by decide), h 3 0 (by decide), h 0 4 (by decide), h 3 1 (by decide)]
  simp only [lb_e, ob1_s]
  exact fp_60 h hm h3 h9 _ _ _
theorem acc_lt {o k : Nat} (h : acc o k = true) : o < 13 := Nat.lt_of_not_le fun z => by rw [acc_hi (by omega) (Or.inr z)] at h; cases h
theorem acc_pr : ∀ o, o < 13 → ∀ k, k < 9 → acc o k = true → (k < 6 ∨ o = 0) → pr o k ≠ none := by decide +kernel
theorem PV.rc {m paid e : Nat} {I J : St} (h : PV m paid e I) (g : RC I J) : PV m paid e J := h.cg fun o k a z => by
  refine g o k (acc_pr o (acc_lt a) k ?_ a z)
  rcases z with z | z
  · omega
  · subst z
    refine Nat.lt_of_not_le fun q => ?_
    simp [acc, show ¬ k ≤ 8 by omega] at a
theorem LC.ofkv {m e t n : Nat} {L L' : St} {v : Nat → Int32} (h : LC m e t n L v) (g : ∀ j k, kv j k = true → L' j k = L j k) : LC m e t n L' v := by
  obtain ⟨h1, h2, h3, h4⟩ := h
  refine ⟨fun j k i hp => by rw [g j k (pr_kv hp)]; exact h1 j k i hp, h2, fun s hs => ?_, ?_⟩
  · obtain ⟨f, f1, f2⟩ := h3 s hs
    have z : kv 4 (6 * s + 3) = true := by
      have : 6 * s + 3 < 96 := by omega
      simp [kv, this]
    exact ⟨f, f1, by rw [g 4 (6 * s + 3) z]; exact f2⟩
  · rw [g 3 6 (by decide)]
    exact h4
