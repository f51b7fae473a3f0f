/-! coalitions -/
theorem an_last (f : Nat → Bool) (d : Nat) : an f (d + 1) 0 = (an f d 0 || f d) := by
  rw [an_add f d 1 0, an, an, Bool.or_false, Nat.zero_add]
theorem bs_sub0 {w : Nat} (hw : w < 256) (f : Nat → Bool) : (nI w &&& (bs f ^^^ (-1)) = 0) ↔ ∀ p, p < 8 → w.testBit p = true → f p = true := by
  rw [nbs hw, bs_andn, bs_zero, bs_inj]
  refine ⟨fun h p hp a => ?_, fun h p hp => ?_⟩
  · have := h p hp
    rw [a] at this
    simpa using this
  · cases a : w.testBit p
    · rfl
    · rw [h p hp a]; rfl
def free (m : Nat) (v : Nat → Int32) (p : Nat) : Bool := fl m v 5 p && !fl m v 7 p
def mayC (m : Nat) (v : Nat → Int32) (w : Nat) : Bool := decide (v 0 = 2) && decide (nI w &&& (bs (free m v) ^^^ (-1)) = 0)
theorem e_conspire {m t : Nat} {L : St} {v : Nat → Int32} (hph : L 0 9 = v 0) (hr : v 0 ≠ 0 → RP m t L v) (w : Nat) : f_X4_canConspire (nI w) L = some (b2 (mayC m v w)) := by
  rw [f_X4_canConspire, hph, lb_e]
  unfold mayC
  by_cases c : v 0 = 2
  · have rp := hr (by rw [c]; decide)
    have e : bs (fl m v 5) &&& (bs (fun p => fl m v 5 p && fl m v 7 p) ^^^ (-1)) = bs (free m v) := by
      rw [bs_andn]
      refine bs_congr fun p _ => ?_
      unfold free
      cases fl m v 5 p <;> cases fl m v 7 p <;> rfl
    rw [if_pos c, lb_e, lb_e, rp.1, rp.2.2.1, e, lb_e, decide_eq_true c, Bool.true_and]
    by_cases z : nI w &&& (bs (free m v) ^^^ (-1)) = 0
    · rw [if_pos z, f_X4_canConspire_b31, isB_1, ck_t, decide_eq_true z]; rfl
    · rw [if_neg z, f_X4_canConspire_b30, f_X4_canConspire_b31, isB_0, ck_t, decide_eq_false z]; rfl
  · rw [if_neg c, f_X4_canConspire_b30, f_X4_canConspire_b31, isB_0, ck_t, decide_eq_false c]; rfl
theorem e_mayJoin {m : Nat} (hm : m ≤ 8) {M : St} (h4 : M 1 4 = nI m) (w : Nat) : f_X8_mayJoin (nI w) M = some (b2 (mayC m (M 1) w)) := by
  have e5 : f_X8_setOf 5 M = some (bs (fl m (M 1) 5)) := e_setOf hm (by decide) h4
  have e7 : f_X8_setOf 7 M = some (bs (fl m (M 1) 7)) := e_setOf hm (by decide) h4
  rw [f_X8_mayJoin, e5, ob1_s, e7, ob1_s, bs_andn, lb_e, ib_0, ck_t, cl_0, lb_e]
  show (if M 1 0 = 2 then if nI w &&& (bs (free m (M 1)) ^^^ (-1)) = 0 then _ else _ else _) = _
  unfold mayC
  by_cases c : M 1 0 = 2
  · rw [if_pos c, decide_eq_true c, Bool.true_and]
    by_cases z : nI w &&& (bs (free m (M 1)) ^^^ (-1)) = 0
    · rw [if_pos z, f_X8_mayJoin_b38, isB_1, ck_t, decide_eq_true z]; rfl
    · rw [if_neg z, f_X8_mayJoin_b37, f_X8_mayJoin_b38, isB_0, ck_t, decide_eq_false z]; rfl
  · rw [if_neg c, f_X8_mayJoin_b37, f_X8_mayJoin_b38, isB_0, ck_t, decide_eq_false c]; rfl
/-- a choice of the coalition, the openers of a choice, what is mixed in -/
def sb (w c : Nat) : Bool := decide (nI c &&& (nI w ^^^ (-1)) = 0)
def oth (m : Nat) (v : Nat → Int32) (w q : Nat) : Bool := fl m v 5 q && !w.testBit q
def gc (m : Nat) (v : Nat → Int32) (w c q : Nat) : Bool := oth m v w q || c.testBit q
def csN (m : Nat) (v : Nat → Int32) (g : Nat → Bool) : Nat := if v 5 = 0 then bn g else bn (fl m v 5)
def oN (m : Nat) (v R : Nat → Int32) (s : Nat) : Int32 := mixr (fl m v 5) (fun p => s.testBit p) R 8 0 (v 3)
theorem csN_lt {m : Nat} {v : Nat → Int32} {g : Nat → Bool} : csN m v g < 256 := by
  unfold csN
  split
  · exact bn_lt _
  · exact bn_lt _
theorem csF_N {m t : Nat} {v : Nat → Int32} {g : Nat → Bool} (h : lost m t v g = false) : csF m t v g = nI (csN m v g) := by
  unfold csF csN
  rw [h, if_neg (by decide)]
  split <;> rfl
theorem oN_cs {m : Nat} {v R : Nat → Int32} {g : Nat → Bool} : oN m v R (csN m v g) = outF m v R g := by
  unfold oN outF csN
  by_cases c0 : v 5 = 0
  · rw [if_pos c0]
    refine mixr_congr 8 0 _ fun p _ hp => ⟨rfl, fun _ => ?_⟩
    rw [bn_tb g (by omega)]
    simp [cnF, c0]
  · rw [if_neg c0]
    refine mixr_congr 8 0 _ fun p _ hp => ⟨rfl, fun f => ?_⟩
    rw [bn_tb _ (by omega)]
    simp [cnF, c0, f]
theorem gc_lt {m w c : Nat} {v : Nat → Int32} (hw : w < 256) (hc : c < 256) (hm : m ≤ 8) (hf : nI w &&& (bs (free m v) ^^^ (-1)) = 0) (hs : sb w c = true) : ∀ j, gc m v w c j = true → j < m := fun j hj => by
  rcases Bool.or_eq_true_iff.mp hj with q | q
  · refine Nat.lt_of_not_le fun z => ?_
    unfold oth at q
    rw [fl_ge z] at q
    cases q
  · have j8 : j < 8 := Nat.lt_of_not_le fun z => by
      rw [Nat.testBit_lt_two_pow (Nat.lt_of_lt_of_le hc (Nat.pow_le_pow_right (n := 2) (i := 8) (by decide) z))] at q
      cases q
    have h1 := of_decide_eq_true hs
    rw [nbs hw] at h1
    have h2 := (bs_sub0 hc _).mp h1 j j8 q
    have h3 := (bs_sub0 hw _).mp hf j j8 h2
    refine Nat.lt_of_not_le fun z => ?_
    unfold free at h3
    rw [fl_ge z] at h3
    cases h3
theorem gc_set {m w c : Nat} {v : Nat → Int32} (hc : c < 256) : bs (oth m v w) ||| nI c = bs (gc m v w c) := by
  rw [nbs hc, bs_or]; rfl
/-! counting different ones -/
def nd (x : Nat → Int32) : Nat → Nat
  | 0 => 0
  | k + 1 => nd x k + (if an (fun q => decide (x q = x k)) k 0 = true then 0 else 1)
theorem nd_congr {x y : Nat → Int32} : ∀ k, (∀ q, q < k → x q = y q) → nd x k = nd y k
  | 0, _ => rfl
  | k + 1, h => by
    rw [nd, nd, nd_congr k (fun q hq => h q (by omega)), an_congr k 0 (g := fun q => decide (y q = y k)) (fun q _ hq => by rw [h q (by omega), h k (by omega)])]
theorem nd_le (x : Nat → Int32) : ∀ k, nd x k ≤ k
  | 0 => Nat.le_refl _
  | k + 1 => by
    have := nd_le x k
    rw [nd]
    split <;> omega
def mdc (ok : Nat → Bool) (y : Nat → Int32) : Nat → Nat → (Int32 → Bool) → Nat
  | 0, _, _ => 0
  | d + 1, i, seen => if ok i = true then (if seen (y i) = true then mdc ok y d (i + 1) seen else 1 + mdc ok y d (i + 1) (fun z => seen z || decide (y i = z))) else mdc ok y d (i + 1) seen
def okc (m t : Nat) (v : Nat → Int32) (w c : Nat) : Bool := sb w c && !lost m t v (gc m v w c)
def lsc (m t : Nat) (v : Nat → Int32) (w c : Nat) : Bool := sb w c && lost m t v (gc m v w c)
/-- what has been gathered: a row of l sets -/
def GA (I : St) (l : Nat) (a : Nat → Nat) (b : Bool) : Prop := I 148 3 = nI l ∧ l ≤ 256 ∧ (∀ k, k < l → I 149 k = nI (a k) ∧ a k < 256) ∧ I 148 4 = b2 b
theorem e_add {I : St} {l : Nat} {a : Nat → Nat} {b : Bool} (h : GA I l a b) (hl : l < 256) {x : Nat} (hx : x < 256) : ∃ I' l' a', f_X1_add (nI x) I = some I' ∧ GA I' l' a' b ∧ (∀ o, o ≠ 148 → o ≠ 149 → I' o = I o) ∧ ((l' = l ∧ a' = a ∧ 0 < l ∧ a (l - 1) = x) ∨ (l' = l + 1 ∧ (∀ k, k < l → a' k = a k) ∧ a' l = x)) := by
  obtain ⟨g1, g2, g3, g4⟩ := h
  have nx : nI x ≠ -1 := by
    have : ∀ k, k < 256 → nI k ≠ -1 := by decide +kernel
    exact this x hx
  have app : ∃ I' l' a', f_X1_add_b49 (nI x) I = some I' ∧ GA I' l' a' b ∧ (∀ o, o ≠ 148 → o ≠ 149 → I' o = I o) ∧ ((l' = l ∧ a' = a ∧ 0 < l ∧ a (l - 1) = x) ∨ (l' = l + 1 ∧ (∀ k, k < l → a' k = a k) ∧ a' l = x)) := by
    have e3 : u2 I 149 l (nI x) 148 3 = nI l := by rw [u2_off _ _ _ _ (by decide)]; exact g1
    refine ⟨u2 (u2 I 149 l (nI x)) 148 3 (nI (l + 1)), l + 1, fun k => if k = l then x else a k, ?_, ⟨by rw [u2_row, upd_ap, if_pos rfl], by omega, fun k hk => ?_, ?_⟩, fun o h1 h2 => by rw [u2_off _ _ _ _ h1, u2_off _ _ _ _ h2], Or.inr ⟨rfl, fun k hk => if_neg (by omega), if_pos rfl⟩⟩
    · rw [f_X1_add_b49, f_X1_add_b50, if_pos rfl, g1, lb_e, if_neg (show ¬ (256 : Int32) ≤ nI l from nI_ge (b := 256) hl (by decide)), lb_e, inb_nI hl (by decide), ck_t, nI_clamp (by omega), lb_e, e3, lb_e, nI_1, lb_e, f_X1_add_b87]
    · rw [u2_off _ _ _ _ (by decide), u2_row, upd_ap]
      show (if k = l then nI x else I 149 k) = nI (if k = l then x else a k) ∧ (if k = l then x else a k) < 256
      by_cases c : k = l
      · rw [if_pos c, if_pos c]; exact ⟨rfl, hx⟩
      · rw [if_neg c, if_neg c]; exact g3 k (by omega)
    · rw [u2_row, upd_ap, if_neg (by decide), u2_off _ _ _ _ (by decide)]; exact g4
  rw [f_X1_add, if_neg nx, g1]
  by_cases l0 : l = 0
  · rw [if_pos (by rw [l0]; decide)]
    exact app
  · rw [if_neg (nI_nle (by omega) (by omega)), lb_e, if_neg (show ¬ (256 : Int32) < nI l from nI_nlt (a := 256) (by omega) (by decide)), lb_e]
    obtain ⟨k, rfl⟩ : ∃ k, l = k + 1 := ⟨l - 1, by omega⟩
    obtain ⟨q1, q2⟩ := g3 k (by omega)
    rw [nI_pred, lb_e, inb_nI (by omega) (by decide), ck_t, nI_clamp (by omega), q1, lb_e]
    by_cases c : a k = x
    · rw [if_pos (by rw [c]), f_X1_add_b50, if_neg (show ¬ (1 : Int32) = 0 by decide), f_X1_add_b87]
      exact ⟨I, k + 1, a, rfl, ⟨g1, g2, g3, g4⟩, fun _ _ _ => rfl, Or.inl ⟨rfl, rfl, by omega, by rw [show k + 1 - 1 = k by omega]; exact c⟩⟩
    · rw [if_neg (fun z => c ((nI_eq (by omega) (by omega)).1 z))]
      exact app
theorem e_gather_l {m e t n w : Nat} {I0 M0 M : St} (hw : w < 256) : ∀ (d i F : Nat) (I : St) (l : Nat) (a : Nat → Nat) (b : Bool), i + d = 256 → d < F → K m e t n 2 I0 M0 I M → GA I l a b → l ≤ i → ∃ I' l' a', f_X1_gather_l22 F (nI w) (bs (oth m (M 1) w)) (nI i) I = some I' ∧ GA I' l' a' (b || an (lsc m t (M 1) w) d i) ∧ (∀ o, o ≠ 148 → o ≠ 149 → I' o = I o) ∧ (∀ P : Nat → Bool, an (fun k => P (a' k)) l' 0 = (an (fun k => P (a k)) l 0 || an (fun c => okc m t (M 1) w c && P (csN m (M 1) (gc m (M 1) w c))) d i)) ∧ (∀ X : Nat → Int32, nd (fun k => X (a' k)) l' = nd (fun k => X (a k)) l + mdc (okc m t (M 1) w) (fun c => X (csN m (M 1) (gc m (M 1) w c))) d i (fun z => an (fun k => decide (X (a k) = z)) l 0)) := by
  intro d
  induction d with
  | zero =>
    intro i F I l a b hi hF h hG hl
    obtain ⟨F, rfl⟩ : ∃ g, F = g + 1 := ⟨F - 1, by omega⟩
    refine ⟨I, l, a, ?_, by rw [an, Bool.or_false]; exact hG, fun _ _ _ => rfl, fun P => by rw [an, Bool.or_false], fun X => rfl⟩
    rw [f_X1_gather_l22, if_pos (show (256 : Int32) ≤ nI i from nI_le (a := 256) (by omega) (by omega))]
  | succ d ih =>
    intro i F I l a b hi hF h hG hl
    obtain ⟨F, rfl⟩ : ∃ g, F = g + 1 := ⟨F - 1, by omega⟩
    rw [f_X1_gather_l22, if_neg (show ¬ (256 : Int32) ≤ nI i from nI_ge (b := 256) (by omega) (by decide)), an]
    by_cases hs : nI i &&& (nI w ^^^ (-1)) = 0
    · have esb : sb w i = true := decide_eq_true hs
      rw [if_pos hs, gc_set (by omega), e_counted h, ob1_s]
      cases hls : lost m t (M 1) (gc m (M 1) w i)
      · have eok : okc m t (M 1) w i = true := by unfold okc; rw [esb, hls]; rfl
        have elc : lsc m t (M 1) w i = false := by unfold lsc; rw [hls, Bool.and_false]
        obtain ⟨I1, l1, a1, g1, g2, g3, g4⟩ := e_add hG (show l < 256 by omega) (csN_lt (m := m) (v := M 1) (g := gc m (M 1) w i))
        have k1 := h.irow (I' := I1) (fun o ho => g3 o (by omega) (by omega)) (fun o x y => by rw [g3 o (by omega) (by omega)]; exact h.2.2.2.1 o x y)
        have l1l : l1 ≤ i + 1 := by rcases g4 with ⟨z, -⟩ | ⟨z, -⟩ <;> omega
        obtain ⟨I', l', a', q1, q2, q3, q4, q5⟩ := ih (i + 1) F I1 l1 a1 b (by omega) (by omega) k1 g2 l1l
        rw [csF_N hls, g1, ob1_s, f_X1_gather_b51, nI_1, elc, Bool.false_or]
        refine ⟨I', l', a', q1, q2, fun o x y => by rw [q3 o x y, g3 o x y], fun P => ?_, fun X => ?_⟩
        · rw [q4 P, an, eok, Bool.true_and, ← Bool.or_assoc]
          refine congrArg (· || _) ?_
          rcases g4 with ⟨rfl, rfl, z0, z1⟩ | ⟨rfl, z0, z1⟩
          · obtain ⟨k, rfl⟩ : ∃ k, l1 = k + 1 := ⟨l1 - 1, by omega⟩
            rw [show k + 1 - 1 = k by omega] at z1
            rw [an_last, z1, Bool.or_assoc, Bool.or_self]
          · rw [an_last, z1, an_congr l 0 (g := fun k => P (a k)) (fun q _ hq => by rw [z0 q (by omega)])]
        · rw [q5 X, mdc, if_pos eok]
          rcases g4 with ⟨rfl, rfl, z0, z1⟩ | ⟨rfl, z0, z1⟩
          · obtain ⟨k, rfl⟩ : ∃ k, l1 = k + 1 := ⟨l1 - 1, by omega⟩
            rw [show k + 1 - 1 = k by omega] at z1
            rw [if_pos (by rw [an_last, z1]; simp)]
          · have e1 : nd (fun k => X (a1 k)) (l + 1) = nd (fun k => X (a k)) l + (if an (fun q => decide (X (a q) = X (csN m (M 1) (gc m (M 1) w i)))) l 0 = true then 0 else 1) := by
              rw [nd, z1, nd_congr (y := fun k => X (a k)) l (fun q hq => by rw [z0 q hq]), an_congr l 0 (g := fun q => decide (X (a q) = X (csN m (M 1) (gc m (M 1) w i)))) (fun q _ hq => by rw [z0 q (by omega)])]
            have e2 : (fun z => an (fun k => decide (X (a1 k) = z)) (l + 1) 0) = fun z => (an (fun k => decide (X (a k) = z)) l 0 || decide (X (csN m (M 1) (gc m (M 1) w i)) = z)) := by
              funext z
              rw [an_last, z1, an_congr l 0 (g := fun k => decide (X (a k) = z)) (fun q _ hq => by rw [z0 q (by omega)])]
            rw [e1, e2]
            by_cases c : an (fun q => decide (X (a q) = X (csN m (M 1) (gc m (M 1) w i)))) l 0 = true
            · have e3 : (fun z => (an (fun k => decide (X (a k) = z)) l 0 || decide (X (csN m (M 1) (gc m (M 1) w i)) = z))) = fun z => an (fun k => decide (X (a k) = z)) l 0 := by
                funext z
                by_cases y : X (csN m (M 1) (gc m (M 1) w i)) = z
                · rw [← y, c]; rfl
                · rw [decide_eq_false y, Bool.or_false]
              rw [if_pos c, if_pos c, e3, Nat.add_zero]
            · rw [if_neg c, if_neg c, Nat.add_assoc]
      · have eok : okc m t (M 1) w i = false := by unfold okc; rw [hls, esb]; rfl
        have elc : lsc m t (M 1) w i = true := by unfold lsc; rw [hls, esb]; rfl
        obtain ⟨g1, g2, g3, g4⟩ := hG
        have hG' : GA (u2 I 148 4 1) l a true := ⟨g1, g2, fun k hk => g3 k hk, rfl⟩
        have k1 := h.irow (I' := u2 I 148 4 1) (fun o ho => by rw [u2_off _ _ _ _ (by omega)]) (h.2.2.2.1.u2 (Or.inr (by decide)))
        obtain ⟨I', l', a', q1, q2, q3, q4, q5⟩ := ih (i + 1) F _ l a true (by omega) (by omega) k1 hG' (by omega)
        rw [csF_lost hls, f_X1_add, if_pos rfl, lb_e, ob1_s, f_X1_gather_b51, nI_1, elc]
        refine ⟨I', l', a', q1, ?_, fun o x y => by rw [q3 o x y, u2_off _ _ _ _ x], fun P => ?_, fun X => ?_⟩
        · rw [Bool.true_or] at q2
          rw [Bool.true_or, Bool.or_true]; exact q2
        · rw [q4 P, an, eok, Bool.false_and, Bool.false_or]
        · rw [q5 X, mdc, if_neg (by rw [eok]; decide)]
    · have esb : sb w i = false := decide_eq_false hs
      have eok : okc m t (M 1) w i = false := by unfold okc; rw [esb]; rfl
      have elc : lsc m t (M 1) w i = false := by unfold lsc; rw [esb]; rfl
      obtain ⟨I', l', a', q1, q2, q3, q4, q5⟩ := ih (i + 1) F I l a b (by omega) (by omega) h hG (by omega)
      rw [if_neg hs, f_X1_gather_b51, nI_1, elc, Bool.false_or]
      refine ⟨I', l', a', q1, q2, q3, fun P => ?_, fun X => ?_⟩
      · rw [q4 P, an, eok, Bool.false_and, Bool.false_or]
      · rw [q5 X, mdc, if_neg (by rw [eok]; decide)]
theorem e_gather {m e t n w : Nat} {I0 M0 I M : St} (hw : w < 256) (h : K m e t n 2 I0 M0 I M) : ∃ I' l a, f_X1_gather (nI w) I = some I' ∧ K m e t n 2 I0 M0 I' M ∧ GA I' l a (an (lsc m t (M 1) w) 256 0) ∧ (∀ o, o ≠ 148 → o ≠ 149 → I' o = I o) ∧ (∀ P : Nat → Bool, an (fun k => P (a k)) l 0 = an (fun c => okc m t (M 1) w c && P (csN m (M 1) (gc m (M 1) w c))) 256 0) ∧ (∀ X : Nat → Int32, nd (fun k => X (a k)) l = mdc (okc m t (M 1) w) (fun c => X (csN m (M 1) (gc m (M 1) w c))) 256 0 (fun _ => false)) := by
  obtain ⟨I2, hI2⟩ : ∃ I2, I2 = u2 (u2 I 148 3 0) 148 4 0 := ⟨_, rfl⟩
  have r2 : ∀ o, o ≠ 148 → I2 o = I o := fun o ho => by rw [hI2, u2_off _ _ _ _ ho, u2_off _ _ _ _ ho]
  have k2 := h.irow (I' := I2) (fun o ho => r2 o (by omega)) (by rw [hI2]; exact (h.2.2.2.1.u2 (Or.inr (by decide))).u2 (Or.inr (by decide)))
  have hG : GA I2 0 (fun _ => 0) false := ⟨by rw [hI2]; rfl, by decide, fun k hk => absurd hk (by omega), by rw [hI2]; rfl⟩
  obtain ⟨I', l', a', q1, q2, q3, q4, q5⟩ := e_gather_l hw 256 0 10000 I2 0 (fun _ => 0) false (by decide) (by decide) k2 hG (Nat.le_refl _)
  refine ⟨I', l', a', ?_, ?_, q2, fun o x y => by rw [q3 o x y, r2 o x], q4, fun X => (q5 X).trans (Nat.zero_add _)⟩
  · have e10 : I2 0 10 = bs (fl m (M 1) 5) := by rw [r2 0 (by decide)]; exact h.2.1.1
    have eo : bs (fl m (M 1) 5) &&& (nI w ^^^ (-1)) = bs (oth m (M 1) w) := by rw [nbs hw, bs_andn]; rfl
    rw [f_X1_gather, lb_e, ← hI2, lb_e, e10, lb_e, eo, lb_e, lit_nI 0]
    exact q1
  · exact k2.irow (fun o ho => q3 o (by omega) (by omega)) (fun o x y => by rw [q3 o (by omega) (by omega)]; exact k2.2.2.2.1 o x y)
/-! the class's counts -/
theorem e_isNew_l {I : St} {i : Nat} (hi : i < 256) : ∀ (d k F : Nat), k + d = i → d < F → f_X1_isNew_l2 F (nI i) (nI k) I = some (b2 (!an (fun q => decide (I 150 q = I 150 i)) d k)) := by
  intro d
  induction d with
  | zero =>
    intro k F hk hF
    obtain ⟨F, rfl⟩ : ∃ g, F = g + 1 := ⟨F - 1, by omega⟩
    rw [f_X1_isNew_l2, if_pos (nI_le (by omega) (by omega))]; rfl
  | succ d ih =>
    intro k F hk hF
    obtain ⟨F, rfl⟩ : ∃ g, F = g + 1 := ⟨F - 1, by omega⟩
    rw [f_X1_isNew_l2, if_neg (nI_ge (by omega) (by omega)), inb_nI (by omega) (by decide), ck_t, nI_clamp (n := k) (by omega), lb_e, inb_nI hi (by decide), ck_t, nI_clamp (n := i) (by omega), an]
    by_cases c : I 150 k = I 150 i
    · rw [if_pos c, decide_eq_true c, Bool.true_or]; rfl
    · rw [if_neg c, decide_eq_false c, Bool.false_or, nI_1]
      exact ih (k + 1) F (by omega) (by omega)
theorem e_cmixN {m : Nat} {I : St} {v R : Nat → Int32} {o s : Nat} (ho : isA o = true) (hs : s < 256) (h3 : I 3 1 = v 3) (h10 : I 0 10 = bs (fl m v 5)) (hR : ∀ p, p < m → p < 8 → I o p = R p) : f_X4_mixed o (nI s) I = some (oN m v R s) := by
  rw [nbs hs, e_mixed ho h3 h10 (fun p hp f => hR p (Nat.lt_of_not_le fun z => by rw [fl_ge z] at f; cases f) hp)]
  rfl
theorem e_count_l {m e t n : Nat} {I0 M0 M : St} {l : Nat} {a : Nat → Nat} {b : Bool} : ∀ (d i F c : Nat) (I : St), i + d = l → d < F → K m e t n 2 I0 M0 I M → GA I l a b → (∀ k, k < i → I 150 k = oN m (M 1) (sec (M 1)) (a k)) → ∃ I', f_X1_countResults_l15 F (nI (c + nd (fun k => oN m (M 1) (sec (M 1)) (a k)) i)) (nI i) I = some (nI (c + nd (fun k => oN m (M 1) (sec (M 1)) (a k)) l), I') ∧ K m e t n 2 I0 M0 I' M := by
  intro d
  induction d with
  | zero =>
    intro i F c I hi hF h hG _
    obtain ⟨F, rfl⟩ : ∃ g, F = g + 1 := ⟨F - 1, by omega⟩
    have e : i = l := by omega
    subst e
    have hl := hG.2.1
    rw [f_X1_countResults_l15, hG.1, if_pos (nI_le (Nat.le_refl _) (by omega)), f_X1_countResults_b69]
    exact ⟨I, rfl, h⟩
  | succ d ih =>
    intro i F c I hi hF h hG hO
    obtain ⟨F, rfl⟩ : ∃ g, F = g + 1 := ⟨F - 1, by omega⟩
    obtain ⟨g1, g2, g3, g4⟩ := id hG
    obtain ⟨q1, q2⟩ := g3 i (by omega)
    obtain ⟨X, hX⟩ : ∃ X, X = oN m (M 1) (sec (M 1)) (a i) := ⟨_, rfl⟩
    have em : f_X4_mixed 2 (nI (a i)) I = some X := by rw [hX]; exact e_cmixN (by decide) q2 (h.1.1 3 1 3 rfl) h.2.1.1 h.sec
    obtain ⟨I2, hI2⟩ : ∃ I2, I2 = u2 I 150 i X := ⟨_, rfl⟩
    have r2 : ∀ o, o ≠ 150 → I2 o = I o := fun o ho => by rw [hI2, u2_off _ _ _ _ ho]
    have r150 : ∀ k, I2 150 k = if k = i then X else I 150 k := fun k => by rw [hI2, u2_row, upd_ap]
    have k2 := h.irow (I' := I2) (fun o ho => r2 o (by omega)) (by rw [hI2]; exact h.2.2.2.1.u2 (Or.inr (by decide)))
    have hG2 : GA I2 l a b := ⟨by rw [r2 _ (by decide)]; exact g1, g2, fun k hk => by rw [r2 _ (by decide)]; exact g3 k hk, by rw [r2 _ (by decide)]; exact g4⟩
    have hO2 : ∀ k, k < i + 1 → I2 150 k = oN m (M 1) (sec (M 1)) (a k) := fun k hk => by
      rw [r150]
      by_cases e : k = i
      · rw [if_pos e, e, hX]
      · rw [if_neg e]; exact hO k (by omega)
    have en : f_X1_isNew (nI i) I2 = some (b2 (!an (fun q => decide (oN m (M 1) (sec (M 1)) (a q) = oN m (M 1) (sec (M 1)) (a i))) i 0)) := by
      rw [f_X1_isNew, lit_nI 0, e_isNew_l (by omega) i 0 10000 (by omega) (by omega)]
      refine congrArg (fun z => some (b2 (!z))) (an_congr i 0 fun q _ hq => ?_)
      rw [hO2 q (by omega), hO2 i (by omega)]
    rw [f_X1_countResults_l15, g1, if_neg (nI_ge (by omega) (by omega)), if_neg (show ¬ (256 : Int32) ≤ nI i from nI_ge (b := 256) (by omega) (by decide)), inb_nI (by omega) (by decide), ck_t, nI_clamp (n := i) (by omega), q1, em, ob1_s, ck_t, lb_e, ← hI2, en, ob1_s]
    obtain ⟨I', p1, p2⟩ := ih (i + 1) F c I2 (by omega) (by omega) k2 hG2 hO2
    cases hn : an (fun q => decide (oN m (M 1) (sec (M 1)) (a q) = oN m (M 1) (sec (M 1)) (a i))) i 0
    · rw [nd, hn, if_neg (by decide)] at p1
      rw [if_neg (show ¬ b2 (!false) = 0 by decide), f_X1_countResults_b63, nI_1, nI_1, Nat.add_assoc]
      exact ⟨I', p1, p2⟩
    · rw [nd, hn, if_pos rfl, Nat.add_zero] at p1
      rw [if_pos (show b2 (!true) = 0 by decide), f_X1_countResults_b63, nI_1]
      exact ⟨I', p1, p2⟩
theorem e_reach_l {m : Nat} {v R : Nat → Int32} {l : Nat} {a : Nat → Nat} {b : Bool} {I : St} {o : Nat} (ho : isA o = true) (hG : GA I l a b) (h3 : I 3 1 = v 3) (h10 : I 0 10 = bs (fl m v 5)) (hR : ∀ p, p < m → p < 8 → I o p = R p) (coin : Int32) : ∀ (d i F : Nat), i + d = l → d < F → f_X1_reaches_l3 o F coin (nI i) I = some (b2 (an (fun k => decide (oN m v R (a k) &&& 1 = coin)) d i)) := by
  intro d
  induction d with
  | zero =>
    intro i F hi hF
    obtain ⟨F, rfl⟩ : ∃ g, F = g + 1 := ⟨F - 1, by omega⟩
    have hl := hG.2.1
    rw [f_X1_reaches_l3, hG.1, if_pos (nI_le (by omega) (by omega)), f_X1_reaches_b48]; rfl
  | succ d ih =>
    intro i F hi hF
    obtain ⟨F, rfl⟩ : ∃ g, F = g + 1 := ⟨F - 1, by omega⟩
    obtain ⟨g1, g2, g3, g4⟩ := id hG
    obtain ⟨q1, q2⟩ := g3 i (by omega)
    rw [f_X1_reaches_l3, g1, if_neg (nI_ge (by omega) (by omega)), if_neg (show ¬ (256 : Int32) ≤ nI i from nI_ge (b := 256) (by omega) (by decide)), inb_nI (by omega) (by decide), ck_t, nI_clamp (n := i) (by omega), q1, e_cmixN ho q2 h3 h10 hR, ob1_s, lb_e, an]
    by_cases c : oN m v R (a i) &&& 1 = coin
    · rw [if_pos c, decide_eq_true c]; rfl
    · rw [if_neg c, decide_eq_false c, Bool.false_or, nI_1]
      exact ih (i + 1) F (by omega) (by omega)
theorem e_reaches {m : Nat} {v R : Nat → Int32} {l : Nat} {a : Nat → Nat} {b : Bool} {I : St} {o : Nat} (ho : isA o = true) (hG : GA I l a b) (h3 : I 3 1 = v 3) (h10 : I 0 10 = bs (fl m v 5)) (hR : ∀ p, p < m → p < 8 → I o p = R p) (coin : Int32) : f_X1_reaches o coin I = some (b2 (an (fun k => decide (oN m v R (a k) &&& 1 = coin)) l 0)) := by
  have hl := hG.2.1
  rw [f_X1_reaches, ho, ck_t, lit_nI 0]
  exact e_reach_l ho hG h3 h10 hR coin l 0 10000 (by omega) (by omega)
