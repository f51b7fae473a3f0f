/-! what a coalition can force agrees with its results -/
theorem cr_off {r : Int32} {I' : St} : ∀ F c i I, f_X1_countResults_l15 F c i I = some (r, I') → ∀ o, o ≠ 150 → I' o = I o := by
  intro F
  induction F with
  | zero =>
    intro c i I h
    rw [f_X1_countResults_l15] at h
    cases h
  | succ n ih =>
    intro c i I h
    rw [f_X1_countResults_l15] at h
    split at h
    · rw [f_X1_countResults_b69] at h
      cases h
      exact fun _ _ => rfl
    · split at h
      · rw [f_X1_countResults_b69] at h
        cases h
        exact fun _ _ => rfl
      · obtain ⟨_, h⟩ := ck_some h
        obtain ⟨_, _, h⟩ := ob1_some h
        obtain ⟨_, h⟩ := ck_some h
        rw [lb_e] at h
        obtain ⟨_, _, h⟩ := ob1_some h
        split at h
        · rw [f_X1_countResults_b63] at h
          exact fun o ho => by rw [ih _ _ _ h o ho, u2_off _ _ _ _ ho]
        · rw [f_X1_countResults_b63] at h
          exact fun o ho => by rw [ih _ _ _ h o ho, u2_off _ _ _ _ ho]
theorem sp_off {I' : St} : ∀ F a b c i I, f_X1_spread_l6 F a b c i I = some I' → ∀ o, o ≠ 151 → I' o = I o := by
  intro F
  induction F with
  | zero =>
    intro a b c i I h
    rw [f_X1_spread_l6] at h
    cases h
  | succ n ih =>
    intro a b c i I h
    rw [f_X1_spread_l6] at h
    split at h
    · cases h
      exact fun _ _ => rfl
    · obtain ⟨_, _, h⟩ := ob1_some h
      split at h
      · rw [f_X1_spread_b43] at h
        exact ih _ _ _ _ _ h
      · rw [lb_e] at h
        obtain ⟨_, h⟩ := ck_some h
        rw [lb_e, lb_e, f_X1_spread_b43] at h
        exact fun o ho => by rw [ih _ _ _ _ _ h o ho, u2_off _ _ _ _ ho]
theorem cf_off {D : Nat} (hD : D < 2 ^ 30) {r : Int32} {I' : St} : ∀ d F a b c i I, i + d = D → c ≤ i → f_X1_countForced_l31 F a b (nI D) (nI c) (nI i) I = some (r, I') → (∃ q, r = nI q ∧ q ≤ D) ∧ ∀ o, o ≠ 151 → I' o = I o := by
  intro d
  induction d with
  | zero =>
    intro F a b c i I hi hc h
    cases F with
    | zero => rw [f_X1_countForced_l31] at h; cases h
    | succ n =>
      rw [f_X1_countForced_l31, if_pos (nI_le (by omega) (by omega))] at h
      cases h
      exact ⟨⟨c, rfl, by omega⟩, fun _ _ => rfl⟩
  | succ d ih =>
    intro F a b c i I hi hc h
    cases F with
    | zero => rw [f_X1_countForced_l31] at h; cases h
    | succ n =>
      rw [f_X1_countForced_l31, if_neg (nI_ge (by omega) (by omega))] at h
      obtain ⟨I3, e3, h⟩ := ob1_some h
      obtain ⟨_, _, h⟩ := ob1_some h
      rw [f_X1_spread] at e3
      have o3 := sp_off _ _ _ _ _ _ e3
      split at h
      · rw [f_X1_countForced_b62, nI_1] at h
        obtain ⟨p1, p2⟩ := ih n _ _ c (i + 1) I3 (by omega) (by omega) h
        exact ⟨p1, fun o ho => by rw [p2 o ho, o3 o ho]⟩
      · rw [f_X1_countForced_b62, nI_1, nI_1] at h
        obtain ⟨p1, p2⟩ := ih n _ _ (c + 1) (i + 1) I3 (by omega) (by omega) h
        exact ⟨p1, fun o ho => by rw [p2 o ho, o3 o ho]⟩
/-! counts over all choices -/
theorem ct_cg {f g : Nat → Bool} : ∀ d i, (∀ q, i ≤ q → q < i + d → f q = g q) → ct f d i = ct g d i := by
  intro d
  induction d with
  | zero => intro i _; rfl
  | succ d ih =>
    intro i h
    rw [ct, ct, h i (Nat.le_refl _) (by omega), ih (i + 1) (fun q a b => h q (by omega) (by omega))]
theorem mdc_ct (ok : Nat → Bool) (y : Nat → Int32) : ∀ d i seen, mdc ok y d i seen ≤ ct ok d i := by
  intro d
  induction d with
  | zero => intro i seen; exact Nat.le_refl _
  | succ d ih =>
    intro i seen
    rw [mdc, ct]
    cases ok i
    · rw [if_neg (by decide), if_neg (by decide), Nat.zero_add]
      exact ih _ _
    · rw [if_pos rfl, if_pos rfl]
      have h1 := ih (i + 1) seen
      have h2 := ih (i + 1) (fun z => seen z || decide (y i = z))
      split <;> omega
theorem an_ct (f : Nat → Bool) : ∀ d i, (if an f d i = true then 1 else 0) ≤ ct f d i := by
  intro d
  induction d with
  | zero => intro i; exact Nat.le_refl _
  | succ d ih =>
    intro i
    rw [an, ct]
    have := ih (i + 1)
    cases f i
    · rw [Bool.false_or, if_neg (show ¬ false = true by decide), Nat.zero_add]; exact this
    · rw [Bool.true_or, if_pos rfl]; omega
theorem ct_two (f g : Nat → Bool) : ∀ d i, ct (fun c => f c && !g c) d i + ct (fun c => f c && g c) d i = ct f d i := by
  intro d
  induction d with
  | zero => intro i; rfl
  | succ d ih =>
    intro i
    rw [ct, ct, ct]
    have := ih (i + 1)
    cases f i <;> cases g i <;> simp <;> omega
theorem an_no {f : Nat → Bool} : ∀ d i, an f d i = false → ∀ c, i ≤ c → c < i + d → f c = false := by
  intro d
  induction d with
  | zero => intro i _ c a b; omega
  | succ d ih =>
    intro i h c a b
    rw [an, Bool.or_eq_false_iff] at h
    by_cases e : c = i
    · rw [e]; exact h.1
    · exact ih (i + 1) h.2 c (by omega) (by omega)
theorem mdc_no {ok : Nat → Bool} {y : Nat → Int32} : ∀ d i seen, (∀ c, i ≤ c → c < i + d → ok c = false) → mdc ok y d i seen = 0 := by
  intro d
  induction d with
  | zero => intro i seen _; rfl
  | succ d ih =>
    intro i seen h
    rw [mdc, h i (Nat.le_refl _) (by omega), if_neg (by decide)]
    exact ih _ _ (fun c a b => h c (by omega) (by omega))
def ev (ok : Nat → Bool) (y : Nat → Int32) (b : Int32) (d i : Nat) (s : Bool) : Nat := if (an (fun c => ok c && decide (y c &&& 1 = b)) d i && !s) = true then 1 else 0
theorem ev_le (ok : Nat → Bool) (y : Nat → Int32) (b : Int32) (d i : Nat) (s : Bool) : ev ok y b d i s ≤ 1 := by
  unfold ev
  split <;> omega
theorem ev_t (ok : Nat → Bool) (y : Nat → Int32) (b : Int32) (d i : Nat) : ev ok y b d i true = 0 := by
  unfold ev
  rw [Bool.not_true, Bool.and_false]
  rfl
theorem ev_s {ok : Nat → Bool} {y : Nat → Int32} {b : Int32} {d i : Nat} {s : Bool} (h : (ok i && decide (y i &&& 1 = b)) = false) : ev ok y b (d + 1) i s = ev ok y b d (i + 1) s := by
  unfold ev
  rw [an, h, Bool.false_or]
theorem mdc_ev (ok : Nat → Bool) (y : Nat → Int32) : ∀ d i seen s0 s1, (∀ z, seen z = true → (z &&& 1 = 0 → s0 = true) ∧ (z &&& 1 = 1 → s1 = true)) → ev ok y 0 d i s0 + ev ok y 1 d i s1 ≤ mdc ok y d i seen := by
  intro d
  induction d with
  | zero => intro i seen s0 s1 _; simp [ev, an, mdc]
  | succ d ih =>
    intro i seen s0 s1 hs
    rw [mdc]
    cases hok : ok i
    · rw [if_neg (by decide), ev_s (by rw [hok]; rfl), ev_s (by rw [hok]; rfl)]
      exact ih _ _ _ _ hs
    · rw [if_pos rfl]
      have n01 : ¬ (0 : Int32) = 1 := by decide
      have n10 : ¬ (1 : Int32) = 0 := by decide
      by_cases c : seen (y i) = true
      · rw [if_pos c]
        obtain ⟨q0, q1⟩ := hs _ c
        rcases and1 (y i) with z | z
        · have := q0 z
          subst this
          rw [ev_t, Nat.zero_add, ev_s (by rw [z, decide_eq_false n01, Bool.and_false])]
          have := ih (i + 1) seen true s1 hs
          omega
        · have := q1 z
          subst this
          rw [ev_t, Nat.add_zero, ev_s (by rw [z, decide_eq_false n10, Bool.and_false])]
          have := ih (i + 1) seen s0 true hs
          omega
      · rw [if_neg c]
        rcases and1 (y i) with z | z
        · rw [ev_s (b := 1) (by rw [z, decide_eq_false n01, Bool.and_false])]
          have h1 := ih (i + 1) (fun w => seen w || decide (y i = w)) true s1 (fun w hw => by
            rcases Bool.or_eq_true_iff.mp hw with q | q
            · exact ⟨fun _ => rfl, (hs w q).2⟩
            · have q := of_decide_eq_true q
              exact ⟨fun _ => rfl, fun e => by rw [← q, z] at e; exact absurd e n01⟩)
          rw [ev_t] at h1
          have h2 := ev_le ok y 0 (d + 1) i s0
          omega
        · rw [ev_s (b := 0) (by rw [z, decide_eq_false n10, Bool.and_false])]
          have h1 := ih (i + 1) (fun w => seen w || decide (y i = w)) s0 true (fun w hw => by
            rcases Bool.or_eq_true_iff.mp hw with q | q
            · exact ⟨(hs w q).1, fun _ => rfl⟩
            · have q := of_decide_eq_true q
              exact ⟨fun e => by rw [← q, z] at e; exact absurd e n10, fun _ => rfl⟩)
          rw [ev_t] at h1
          have h2 := ev_le ok y 1 (d + 1) i s1
          omega
theorem sb_cnt : ∀ w, w < 64 → ct (fun c => decide (c &&& (255 ^^^ w) = 0)) 256 0 = 2 ^ pc w := by decide +kernel
theorem sb_N {w c : Nat} (hw : w < 256) (hc : c < 256) : sb w c = decide (c &&& (255 ^^^ w) = 0) := by
  unfold sb
  rw [bs_nm c hc w hw]
  have hl : c &&& (255 ^^^ w) < 256 := Nat.lt_of_le_of_lt Nat.and_le_left hc
  have : (nI (c &&& (255 ^^^ w)) = 0) ↔ (c &&& (255 ^^^ w) = 0) := by
    rw [show (0 : Int32) = nI 0 from rfl, nI_eq (by omega) (by decide)]
  exact decide_eq_decide.mpr this
/-! the calls, at one lab -/
def rsN (m t : Nat) (v : Nat → Int32) (w : Nat) : Nat := mdc (okc m t v w) (fun c => outF m v (sec v) (gc m v w c)) 256 0 (fun _ => false)
def rsF (m t : Nat) (v : Nat → Int32) (w : Nat) : Nat := if an (lsc m t v w) 256 0 = true then 1 else 0
theorem c_res {m e t n w : Nat} {I0 M0 I M : St} (hw : w < 256) (h : K m e t n 2 I0 M0 I M) (hm : mayC m (M 1) w = true) : ∃ I', f_X7_results (nI w) I = some (nI (rsF m t (M 1) w + rsN m t (M 1) w), I') ∧ (∀ o, o < 148 → I' o = I o) := by
  obtain ⟨I2, l, a, g1, g2, g3, g4, g5, g6⟩ := e_gather hw h
  have hB : I2 148 4 = b2 (an (lsc m t (M 1) w) 256 0) := g3.2.2.2
  have hl := g3.2.1
  have eX := g6 (oN m (M 1) (sec (M 1)))
  have eN : mdc (okc m t (M 1) w) (fun c => oN m (M 1) (sec (M 1)) (csN m (M 1) (gc m (M 1) w c))) 256 0 (fun _ => false) = rsN m t (M 1) w := by
    unfold rsN
    refine congrArg (fun y => mdc (okc m t (M 1) w) y 256 0 (fun _ => false)) ?_
    funext c
    exact oN_cs
  rw [eN] at eX
  have cnt : ∀ c, ∃ I3, f_X1_countResults_b12 (nI c) I2 = some (nI (c + rsN m t (M 1) w), I3) ∧ ∀ o, o < 148 → I3 o = I o := fun c => by
    obtain ⟨I3, q1, q2⟩ := e_count_l (M := M) (l := l) (a := a) l 0 10000 c I2 (by omega) (by omega) g2 g3 (fun k hk => absurd hk (by omega))
    rw [eX] at q1
    have q1' : f_X1_countResults_l15 10000 (nI c) (nI 0) I2 = some (nI (c + rsN m t (M 1) w), I3) := q1
    exact ⟨I3, by rw [f_X1_countResults_b12, lit_nI 0]; exact q1', fun o ho => by rw [cr_off _ _ _ _ q1' o (by omega), g4 o (by omega) (by omega)]⟩
  have c5 : f_X7_isWithin (nI w) 0 255 = some (b2 true) := by rw [e_isWithin, lit_nI 0, lit_nI 255, wi_s (by omega) (Nat.zero_le _) (by decide)]
  have cc : f_X4_canConspire (nI w) I = some (b2 true) := by rw [e_conspire (h.1.1 0 9 0 rfl) (fun _ => h.2.1), hm]
  rw [f_X7_results, c5, ob1_s, if_neg bt1, cc, ob1_s, if_neg bt1, g1, ob1_s, f_X1_countResults, hB]
  unfold rsF
  cases an (lsc m t (M 1) w) 256 0
  · obtain ⟨I3, q1, q2⟩ := cnt 0
    have q1' : f_X1_countResults_b12 0 I2 = some (nI (0 + rsN m t (M 1) w), I3) := q1
    rw [if_pos bf0, q1', ob2_s]
    exact ⟨I3, rfl, q2⟩
  · obtain ⟨I3, q1, q2⟩ := cnt 1
    have q1' : f_X1_countResults_b12 1 I2 = some (nI (1 + rsN m t (M 1) w), I3) := q1
    rw [if_neg bt1, q1', ob2_s]
    exact ⟨I3, rfl, q2⟩
theorem c_force {m e t n w : Nat} {I0 M0 I M : St} (hw : w < 256) (h : K m e t n 2 I0 M0 I M) (hm : mayC m (M 1) w = true) {y : Int32} (hy : wi y 0 1 = true) : ∃ I', f_X7_canForce (nI w) y I = some (b2 (frc m t (M 1) (sec (M 1)) w y), I') ∧ (∀ o, o < 148 → I' o = I o) := by
  obtain ⟨I2, l, a, g1, g2, g3, g4, g5, g6⟩ := e_gather hw h
  have er := e_reaches (R := sec (M 1)) (I := I2) (o := 2) (by decide) g3 (g2.1.1 3 1 3 rfl) g2.2.1.1 g2.sec y
  rw [e_frc g5] at er
  have c5 : f_X7_isWithin (nI w) 0 255 = some (b2 true) := by rw [e_isWithin, lit_nI 0, lit_nI 255, wi_s (by omega) (Nat.zero_le _) (by decide)]
  have cc : f_X4_canConspire (nI w) I = some (b2 true) := by rw [e_conspire (h.1.1 0 9 0 rfl) (fun _ => h.2.1), hm]
  rw [f_X7_canForce, c5, ob1_s, if_neg bt1, e_isWithin, hy, ob1_s, if_neg bt1, cc, ob1_s, if_neg bt1, g1, ob1_s, er, ob1_s]
  cases frc m t (M 1) (sec (M 1)) w y
  · rw [if_pos bf0, f_X7_canForce_b75]
    exact ⟨I2, rfl, fun o ho => g4 o (by omega) (by omega)⟩
  · rw [if_neg bt1, f_X7_canForce_b75]
    exact ⟨I2, rfl, fun o ho => g4 o (by omega) (by omega)⟩
theorem c_bias {m e t n w : Nat} {I0 M0 I M : St} (hw : w < 256) (h : K m e t n 2 I0 M0 I M) (hm : mayC m (M 1) w = true) : ∃ q I' M', f_X7_bias (nI w) 1 I = some (nI q, I') ∧ q ≤ 2 ^ cnt8 (oth m (M 1) w) ∧ (∀ o, o < 148 → I' o = I o) ∧ K m e t n 2 I0 M0 I' M' := by
  have hf := of_decide_eq_true (Bool.and_eq_true_iff.mp hm).2
  have eo : bs (fl m (M 1) 5) &&& (nI w ^^^ (-1)) = bs (oth m (M 1) w) := by rw [nbs hw, bs_andn]; rfl
  have c8 := cnt8_le (oth m (M 1) w)
  have c5 : f_X7_isWithin (nI w) 0 255 = some (b2 true) := by rw [e_isWithin, lit_nI 0, lit_nI 255, wi_s (by omega) (Nat.zero_le _) (by decide)]
  have c6 : f_X7_isWithin 1 1 4 = some (b2 true) := by rw [e_isWithin]; decide +kernel
  have cc : f_X4_canConspire (nI w) I = some (b2 true) := by rw [e_conspire (h.1.1 0 9 0 rfl) (fun _ => h.2.1), hm]
  obtain ⟨A, hAe⟩ : ∃ A, A = cnt8 (oth m (M 1) w) := ⟨_, rfl⟩
  have e2A : 2 ^ A ≤ 4096 := Nat.pow_le_pow_right (n := 2) (i := A) (j := 12) (by decide) (by omega)
  have eA : ishl 1 (nI A) = nI (2 ^ A) := by rw [lit_nI 1, ishl_nI (by omega) (by omega), Nat.one_mul]
  have e1A : (1 : Int32) * nI A = nI A := by rw [lit_nI 1, pk_mul, Nat.one_mul]
  obtain ⟨I2, l, a, g1, g2, g3, g4, g5, g6⟩ := e_gather hw h
  obtain ⟨I3, hI3⟩ : ∃ I3, I3 = ur I2 151 (va_cpy (I2 2) (I2 151) 0 0 8) := ⟨_, rfl⟩
  have r3 : ∀ o, o ≠ 151 → I3 o = I2 o := fun o ho => by funext k; rw [hI3, ur_ap, if_neg ho]
  have k3 := g2.irow (I' := I3) (fun o ho => r3 o (by omega)) (fun o x y => by rw [r3 o (by omega)]; exact g2.2.2.2.1 o x y)
  have hG3 : GA I3 l a (an (lsc m t (M 1) w) 256 0) := ⟨by rw [r3 _ (by decide)]; exact g3.1, g3.2.1, fun k hk => by rw [r3 _ (by decide)]; exact g3.2.2.1 k hk, by rw [r3 _ (by decide)]; exact g3.2.2.2⟩
  have w1 := h.1.2.1.1
  obtain ⟨r, I', M', p1, p2, p3⟩ := e_bias_l (b := 1) (v := M 1) (l := l) (a := a) hw (by decide) (by decide) hf g5 (A := A) (by omega) (2 ^ A) 0 10000 10000 0 I3 M (by omega) (by omega) (by omega) k3 rfl hG3 (fun p hp => Or.inl (by
    rw [hI3, ur_ap, if_pos rfl, pk_cpy_in (Nat.zero_le _) (by omega), Nat.sub_zero, Nat.zero_add]
    exact g2.sec p hp (by omega)))
  obtain ⟨⟨q, q1, q2⟩, q3⟩ := cf_off (by omega) _ _ _ _ 0 0 I3 (Nat.zero_add _) (Nat.le_refl _) p1
  have q1' : f_X1_countForced (bs (oth m (M 1) w)) 1 I2 = some (r, I') := by
    rw [f_X1_countForced, ← hI3, lb_e, bitCount_bs, ob1_s, ← hAe, e1A, eA, lb_e]
    exact p1
  have hle : nI A ≤ (12 : Int32) := nI_le (b := 12) (by omega) (by decide)
  rw [f_X7_bias, c5, ob1_s, if_neg bt1, c6, ob1_s, if_neg bt1, cc, ob1_s, if_neg bt1, h.2.1.1, lb_e, eo, lb_e, bitCount_bs, ob1_s, ← hAe, e1A, lb_e, if_pos hle, g1, ob1_s, q1', ob2_s, q1]
  exact ⟨q, I', M', rfl, q2, fun o ho => by rw [q3 o (by omega), r3 o (by omega), g4 o (by omega) (by omega)], p3⟩
/-! the law's check -/
theorem co_end {w R z o : Nat} {A B : Nat} {q : Nat} {I I' : St} (hR : 1 ≤ R) (hRA : R ≤ 2 ^ A) (hA : A ≤ 8) (hB : B ≤ 8) (hzo : z + o ≤ R) (h0 : z + o = 0 → R = 1) (hb : f_X7_bias (nI w) 1 I = some (nI q, I')) (hq : q ≤ 2 ^ B) (n : Nat) : f_L_coalitions_l96 (n + 1) (nI w) (nI R) (nI z) (nI o) (nI (2 ^ A)) (nI B) (nI 8) I = some (1, I') := by
  have e2A : 2 ^ A ≤ 256 := Nat.pow_le_pow_right (n := 2) (i := A) (j := 8) (by decide) hA
  have e2B : 2 ^ B ≤ 256 := Nat.pow_le_pow_right (n := 2) (i := B) (j := 8) (by decide) hB
  have eB : ishl 1 (nI B) = nI (2 ^ B) := by rw [lit_nI 1, ishl_nI (by omega) (by omega), Nat.one_mul]
  have fin : f_L_coalitions_b198 (nI w) (nI B) I = some (1, I') := by
    rw [f_L_coalitions_b198, hb, ob2_s, if_pos (show nI B ≤ (12 : Int32) from nI_le (b := 12) (by omega) (by decide)), if_neg (nI_pos (by omega)), eB, if_neg (nI_nlt (by omega) (by omega)), f_L_coalitions_b247, isB_1, ck_t]
  rw [f_L_coalitions_l96, if_geL (Nat.le_refl 8) (by decide), if_neg (show ¬ nI R < (1 : Int32) from nI_nlt (a := R) (b := 1) (by omega) (by omega)), if_neg (nI_nlt (by omega) (by omega)), nI_add, lb_e, if_neg (nI_nlt (by omega) (by omega)), if_neg (nI_pos (by omega)), if_neg (nI_pos (by omega))]
  by_cases c : z + o = 0
  · rw [c, if_pos (show nI 0 = 0 from rfl), h0 c, if_pos (show nI 1 = 1 from rfl)]
    exact fin
  · rw [if_neg (nI_ne0 (by omega) (by omega))]
    exact fin
theorem co_l {w R z o : Nat} {q : Nat} {I I' : St} {g f5 : Nat → Bool} (hw : w < 256) (hwg : ∀ p, p < 8 → w.testBit p = g p) (ph : ¬ I 0 9 = 0) (h10 : I 0 10 = bs f5) (hR : 1 ≤ R) (hRA : R ≤ 2 ^ cnt8 g) (hzo : z + o ≤ R) (h0 : z + o = 0 → R = 1) (hb : f_X7_bias (nI w) 1 I = some (nI q, I')) (hq : q ≤ 2 ^ cnt8 (fun p => f5 p && !g p)) : ∀ d F i, i + d = 8 → d < F → f_L_coalitions_l96 F (nI w) (nI R) (nI z) (nI o) (nI (2 ^ cnt8 (fun p => decide (p < i) && g p))) (nI (cnt8 (fun p => decide (p < i) && (f5 p && !g p)))) (nI i) I = some (1, I') := by
  have ewg : nI w = bs g := by
    rw [nbs hw]
    exact bs_congr hwg
  intro d
  induction d with
  | zero =>
    intro F i hi hF
    obtain ⟨F, rfl⟩ : ∃ g, F = g + 1 := ⟨F - 1, by omega⟩
    have i8 : i = 8 := by omega
    subst i8
    rw [cnt8_congr (f := fun p => decide (p < 8) && g p) (g := g) (fun p hp => by rw [decide_eq_true hp, Bool.true_and]), cnt8_congr (f := fun p => decide (p < 8) && (f5 p && !g p)) (g := fun p => f5 p && !g p) (fun p hp => by rw [decide_eq_true hp, Bool.true_and])]
    exact co_end hR hRA (cnt8_le _) (cnt8_le _) hzo h0 hb hq F
  | succ d ih =>
    intro F i hi hF
    obtain ⟨F, rfl⟩ : ∃ g, F = g + 1 := ⟨F - 1, by omega⟩
    have i8 : i < 8 := by omega
    have nx := ih F (i + 1) (by omega) (by omega)
    rw [cnt_step _ i8, cnt_step (fun p => f5 p && !g p) i8] at nx
    have eh : ishr (nI w) (nI i) &&& 1 = if g i then 1 else 0 := by rw [ewg]; exact bs_hasS g i8
    have ea : bs f5 &&& (nI w ^^^ (-1)) = bs (fun p => f5 p && !g p) := by rw [ewg, bs_andn]
    have eo : ishr (bs (fun p => f5 p && !g p)) (nI i) &&& 1 = if (f5 i && !g i) = true then 1 else 0 := bs_hasS _ i8
    have b122 : ∀ T, f_L_coalitions_b122 (f_L_coalitions_l96 F) (nI w) (nI R) (nI z) (nI o) (nI (cnt8 (fun p => decide (p < i) && (f5 p && !g p)))) (nI i) (nI T) I = f_L_coalitions_l96 F (nI w) (nI R) (nI z) (nI o) (nI T) (nI (cnt8 (fun p => decide (p < i) && (f5 p && !g p)) + if (f5 i && !g i) = true then 1 else 0)) (nI (i + 1)) I := fun T => by
      rw [f_L_coalitions_b122, (e_set ph).1, ob1_s, h10, ea, lb_e, lb_e, eo, lb_e, nI_1]
      cases f5 i && !g i
      · rw [if_neg (by decide), if_neg (by decide), Int32.add_zero]
        rfl
      · rw [if_pos rfl, if_pos rfl, nI_1]
    rw [f_L_coalitions_l96, if_ngeL i8 (by decide), lb_e, eh, lb_e]
    cases hg : g i
    · rw [hg, if_neg (show ¬ false = true by decide), Nat.add_zero] at nx
      rw [if_neg (show ¬ (if (false = true) then (1 : Int32) else 0) = 1 by decide), b122]
      rw [hg]
      exact nx
    · rw [hg, if_pos (show true = true from rfl), Nat.pow_succ, Nat.mul_comm] at nx
      rw [if_pos (show (if (true = true) then (1 : Int32) else 0) = 1 by decide), lit_nI 2, pk_mul, b122]
      rw [hg]
      exact nx
theorem bs_andx (f : Nat → Bool) (x : Int32) : ∃ w, w < 256 ∧ bs f &&& x = nI w ∧ ∀ p, w.testBit p = true → (bn f).testBit p = true := by
  obtain ⟨k, k1, k2⟩ := of32 x
  refine ⟨bn f &&& k, Nat.lt_of_le_of_lt Nat.and_le_left (bn_lt f), by rw [k2, bs, and_nI], fun p hp => ?_⟩
  rw [Nat.testBit_and, Bool.and_eq_true_iff] at hp
  exact hp.1
theorem L_coalitions {n m paid : Nat} {I : St} (h : IV n m paid I) (hn : n < 2 ^ 30) (x : Int32) : ∃ I', f_L_coalitions x I = some (1, I') ∧ IV n m paid I' := by
  obtain ⟨M, e, t, hR, hL, hP, hA, hX⟩ := h.op hn
  have hIV := h
  obtain ⟨m2, m6, h3, -⟩ := h
  have w := hL.2.1
  have h9 : I 0 9 = M 1 0 := hL.1 0 9 0 rfl
  have n10 : ¬ (1 : Int32) = 0 := by decide
  rw [f_L_coalitions, f_X7_phase, ob1_s]
  by_cases ph : I 0 9 = 2
  case neg =>
    have v2 : ¬ M 1 0 = 2 := fun z => ph (h9.trans z)
    have cc : f_X4_canConspire 0 I = some (b2 false) := by
      rw [lit_nI 0, e_conspire h9 hP, mayC, decide_eq_false v2, Bool.false_and]
    have w0 : f_X7_isWithin 0 0 255 = some 1 := by rw [e_isWithin]; decide +kernel
    have w1 : f_X7_isWithin 0 0 1 = some 1 := by rw [e_isWithin]; decide +kernel
    have w4 : f_X7_isWithin 1 1 4 = some 1 := by rw [e_isWithin]; decide +kernel
    have a1 : f_X7_results 0 I = some (-2, I) := by rw [f_X7_results, w0, ob1_s, if_neg n10, cc, ob1_s, if_pos bf0]
    have a2 : f_X7_canForce 0 0 I = some (-2, I) := by rw [f_X7_canForce, w0, ob1_s, if_neg n10, w1, ob1_s, if_neg n10, cc, ob1_s, if_pos bf0]
    have a3 : f_X7_bias 0 1 I = some (-2, I) := by rw [f_X7_bias, w0, ob1_s, if_neg n10, w4, ob1_s, if_neg n10, cc, ob1_s, if_pos bf0]
    rw [if_neg ph, a1, ob2_s, if_pos rfl, a2, ob2_s, if_pos rfl, a3, ob2_s, if_pos rfl, f_L_coalitions_b45, isB_1, ck_t]
    exact ⟨I, rfl, hIV⟩
  have n9 : ¬ I 0 9 = 0 := by rw [ph]; decide
  have v2 : M 1 0 = 2 := h9.symm.trans ph
  have rp := hP (by rw [v2]; decide)
  obtain ⟨s0, -, s2, -⟩ := e_set n9
  have k0 : K m e t n 2 I M I M := ⟨hL, rp, by rw [v2]; rfl, FI.rf, FM.rf⟩
  have e1 : bs (fl m (M 1) 5) &&& (bs (fun p => fl m (M 1) 5 p && fl m (M 1) 7 p) ^^^ (-1)) = bs (free m (M 1)) := by
    rw [bs_andn]
    refine bs_congr fun p hp => ?_
    unfold free
    cases fl m (M 1) 5 p <;> rfl
  obtain ⟨c, c1, c2, c3⟩ := bs_andx (free m (M 1)) x
  have cF : ∀ p, p < 8 → c.testBit p = true → free m (M 1) p = true := fun p hp hc => (bn_tb (free m (M 1)) hp).symm.trans (c3 p hc)
  have mc : mayC m (M 1) c = true := by
    unfold mayC
    rw [decide_eq_true v2, Bool.true_and]
    exact decide_eq_true ((bs_sub0 c1 _).2 cF)
  have c64 : c < 64 := by
    refine Nat.lt_pow_two_of_testBit (n := 6) _ fun i hi => ?_
    cases hc : c.testBit i
    · rfl
    · by_cases i8 : i < 8
      · have := cF i i8 hc
        unfold free at this
        rw [fl_ge (by omega), Bool.false_and] at this
        cases this
      · rw [Nat.testBit_lt_two_pow (Nat.lt_of_lt_of_le c1 (Nat.pow_le_pow_right (n := 2) (i := 8) (by decide) (by omega)))] at hc
        cases hc
  rw [if_pos ph, s0, ob1_s, s2, ob1_s, rp.1, rp.2.2.1, e1, lb_e, c2, lb_e]
  obtain ⟨I1, r1, o1⟩ := c_res c1 k0 mc
  have k1 := k0.irow (I' := I1) (fun o ho => o1 o (by omega)) (fun o a b => o1 o b)
  obtain ⟨I2, r2, o2⟩ := c_force c1 k1 mc (y := 0) (by decide +kernel)
  have k2 := k1.irow (I' := I2) (fun o ho => o2 o (by omega)) (fun o a b => by rw [o2 o b]; exact o1 o b)
  obtain ⟨I3, r3, o3⟩ := c_force c1 k2 mc (y := 1) (by decide +kernel)
  have k3 := k2.irow (I' := I3) (fun o ho => o3 o (by omega)) (fun o a b => by rw [o3 o b, o2 o b]; exact o1 o b)
  obtain ⟨q, I4, M4, r4, q4, o4, k4⟩ := c_bias c1 k3 mc
  rw [r1, ob2_s, r2, ob2_s, r3, ob2_s]
  have z2 : ∀ b, b2 b = nI (if b = true then 1 else 0) := fun b => by cases b <;> rfl
  rw [z2, z2]
  -- the numbers
  have hN := mdc_ev (okc m t (M 1) c) (fun d => outF m (M 1) (sec (M 1)) (gc m (M 1) c d)) 256 0 (fun _ => false) false false (fun z hz => by cases hz)
  have hzo : (if frc m t (M 1) (sec (M 1)) c 0 = true then 1 else 0) + (if frc m t (M 1) (sec (M 1)) c 1 = true then 1 else 0) ≤ rsN m t (M 1) c := by
    have : ∀ b, ev (okc m t (M 1) c) (fun d => outF m (M 1) (sec (M 1)) (gc m (M 1) c d)) b 256 0 false = if frc m t (M 1) (sec (M 1)) c b = true then 1 else 0 := fun b => by
      unfold ev frc
      rw [Bool.not_false, Bool.and_true]
    rw [this, this] at hN
    exact hN
  have s00 : sb c 0 = true := by
    rw [sb_N c1 (by decide), Nat.zero_and]
    rfl
  have hge : 1 ≤ rsF m t (M 1) c + rsN m t (M 1) c := by
    cases hl : lost m t (M 1) (gc m (M 1) c 0)
    · have ok0 : okc m t (M 1) c 0 = true := by
        unfold okc
        rw [s00, hl]
        rfl
      have : 1 ≤ rsN m t (M 1) c := by
        unfold rsN
        rw [mdc, if_pos ok0, if_neg (by decide)]
        omega
      omega
    · have : rsF m t (M 1) c = 1 := by
        unfold rsF
        rw [an, show lsc m t (M 1) c 0 = true by unfold lsc; rw [s00, hl]; rfl, Bool.true_or]
        rfl
      omega
  have hle : rsF m t (M 1) c + rsN m t (M 1) c ≤ 2 ^ pc c := by
    have a1 := mdc_ct (okc m t (M 1) c) (fun d => outF m (M 1) (sec (M 1)) (gc m (M 1) c d)) 256 0 (fun _ => false)
    have a2 := an_ct (lsc m t (M 1) c) 256 0
    have a3 := ct_two (sb c) (fun d => lost m t (M 1) (gc m (M 1) c d)) 256 0
    have a4 := sb_cnt c c64
    rw [ct_cg (f := sb c) (g := fun d => decide (d &&& (255 ^^^ c) = 0)) 256 0 (fun d _ hd => sb_N c1 (by omega)), a4] at a3
    have a5 : ct (okc m t (M 1) c) 256 0 + ct (lsc m t (M 1) c) 256 0 = 2 ^ pc c := a3
    have a6 : rsN m t (M 1) c ≤ ct (okc m t (M 1) c) 256 0 := a1
    have a7 : rsF m t (M 1) c ≤ ct (lsc m t (M 1) c) 256 0 := a2
    omega
  have hz0 : (if frc m t (M 1) (sec (M 1)) c 0 = true then 1 else 0) + (if frc m t (M 1) (sec (M 1)) c 1 = true then 1 else 0) = 0 → rsF m t (M 1) c + rsN m t (M 1) c = 1 := fun hz => by
    have f0 : frc m t (M 1) (sec (M 1)) c 0 = false := by
      cases q : frc m t (M 1) (sec (M 1)) c 0
      · rfl
      · rw [q, if_pos rfl] at hz; omega
    have f1 : frc m t (M 1) (sec (M 1)) c 1 = false := by
      cases q : frc m t (M 1) (sec (M 1)) c 1
      · rfl
      · rw [q, if_pos rfl] at hz; omega
    have g0 := an_no 256 0 f0
    have g1 := an_no 256 0 f1
    have nz : rsN m t (M 1) c = 0 := mdc_no 256 0 _ (fun d a b => by
      have p0 := g0 d a b
      have p1 := g1 d a b
      cases hok : okc m t (M 1) c d
      · rfl
      · rcases and1 (outF m (M 1) (sec (M 1)) (gc m (M 1) c d)) with z | z
        · rw [hok, z] at p0; cases p0
        · rw [hok, z] at p1; cases p1)
    have : rsF m t (M 1) c ≤ 1 := by
      unfold rsF
      split <;> omega
    omega
  have fin := co_l (w := c) (g := fun p => c.testBit p) (f5 := fl m (M 1) 5) c1 (fun _ _ => rfl) (by rw [o3 0 (by decide), o2 0 (by decide), o1 0 (by decide)]; exact n9) (by rw [o3 0 (by decide), o2 0 (by decide), o1 0 (by decide)]; exact rp.1) hge hle (Nat.le_trans hzo (Nat.le_add_left _ _)) hz0 r4 q4 8 10000 0 (by decide) (by decide)
  have zz : ∀ f : Nat → Bool, cnt8 (fun p => decide (p < 0) && f p) = 0 := fun f => by
    rw [cnt8_congr (g := fun _ => false) (fun p _ => by simp)]
    rfl
  rw [zz, zz] at fin
  refine ⟨I4, fin, ?_⟩
  have oo : ∀ o, o < 29 → I4 o = I o := fun o ho => by rw [o4 o (by omega), o3 o (by omega), o2 o (by omega), o1 o (by omega)]
  exact ⟨m2, m6, by rw [oo 0 (by decide)]; exact h3, M4, e, w.2.2.1, k4.RR hR, hA.rem oo, hX.rem oo⟩
