/-! playing: commitments -/
theorem e_play_tail {m : Nat} (hm : m ≤ 8) {f5 : Nat → Bool} (g5 : ∀ p, m ≤ p → f5 p = false) {I : St} (h10 : I 0 10 = bs f5) (st : Int32) : ∀ (d i F : Nat), i + d = 8 → d < F → m ≤ i → f_X2_commitAll_l4 F st (nI i) I = some I := by
  intro d
  induction d with
  | zero =>
    intro i F hi hF _
    obtain ⟨F, rfl⟩ : ∃ g, F = g + 1 := ⟨F - 1, by omega⟩
    rw [f_X2_commitAll_l4, if_pos (show (8 : Int32) ≤ nI i from nI_le (a := 8) (by omega) (by omega))]
  | succ d ih =>
    intro i F hi hF hmi
    obtain ⟨F, rfl⟩ : ∃ g, F = g + 1 := ⟨F - 1, by omega⟩
    rw [f_X2_commitAll_l4, if_neg (show ¬ (8 : Int32) ≤ nI i from nI_ge (b := 8) (by omega) (by omega)), lb_e, h10, e_has _ (by omega), ob1_s, g5 i hmi, if_pos (show b2 false = 0 from rfl), f_X2_commitAll_b71, nI_1]
    exact ih (i + 1) F (by omega) (by omega) (by omega)
theorem e_plays_l {m e t n : Nat} {I0 M0 : St} : ∀ (d i F G : Nat) (st : Int32) (I M : St), i + d = m → d + 9 < F → d < G → K m e t n 1 I0 M0 I M → (∀ q, i ≤ q → fl m (M 1) 6 q = false) → ∃ I' M', f_X2_commitAll_l4 F st (nI i) I = some I' ∧ f_X8_plays_l4 G st (nI i) M = some M' ∧ K m e t n 1 I0 M0 I' M' := by
  intro d
  induction d with
  | zero =>
    intro i F G st I M hi hF hG h h6
    obtain ⟨G, rfl⟩ : ∃ g, G = g + 1 := ⟨G - 1, by omega⟩
    have w1 := h.1.2.1.1
    have w2 := h.1.2.1.2.1
    refine ⟨I, M, e_play_tail w1 (fun p hp => fl_ge hp) h.2.1.1 st (8 - i) i F (by omega) (by omega) (by omega), ?_, h⟩
    rw [f_X8_plays_l4, ib_4, ck_t, cl_4, w2, if_pos (nI_le (by omega) (by omega))]
  | succ d ih =>
    intro i F G st I M hi hF hG h h6
    obtain ⟨F, rfl⟩ : ∃ g, F = g + 1 := ⟨F - 1, by omega⟩
    obtain ⟨G, rfl⟩ : ∃ g, G = g + 1 := ⟨G - 1, by omega⟩
    have w1 := h.1.2.1.1
    have w2 := h.1.2.1.2.1
    have i8 : i < 8 := by omega
    rw [f_X2_commitAll_l4, if_neg (show ¬ (8 : Int32) ≤ nI i from nI_ge (b := 8) (by omega) (by omega)), lb_e, h.2.1.1, e_has _ i8, ob1_s, f_X8_plays_l4, ib_4, ck_t, cl_4, w2, if_neg (nI_ge (by omega) (by omega)), lit_nI 5, e_mhas i8 (by decide), ob1_s, fl_mem (show i < m by omega)]
    cases hf : fl m (M 1) 5 i
    · rw [if_pos (show b2 false = 0 from rfl), if_pos (show b2 false = 0 from rfl), f_X2_commitAll_b71, f_X8_plays_b74, nI_1]
      exact ih (i + 1) F G st I M (by omega) (by omega) (by omega) h (fun q hq => h6 q (by omega))
    · have hd1 := dwn_lt (stp st)
      have r5 : ∀ T : St, ∀ y, u2 T 0 5 y 0 5 = y := fun T y => by rw [u2_row, upd_ap, if_pos rfl]
      obtain ⟨M2, hM2⟩ : ∃ M2, M2 = u2 M 0 5 (stp (stp st)) := ⟨_, rfl⟩
      have row1 : M2 1 = M 1 := by rw [hM2, u2_off _ _ _ _ (by decide)]
      have M25 : M2 0 5 = stp (stp st) := by rw [hM2, r5]
      have k2 : K m e t n 1 I0 M0 I M2 := h.mrow row1 (by rw [hM2]; exact h.2.2.2.2.u0 (by decide))
      obtain ⟨s, hs⟩ : ∃ s, s = dwn (stp st) % 1019 := ⟨_, rfl⟩
      have sl : s < 1019 := by rw [hs]; exact Nat.mod_lt _ (by decide)
      obtain ⟨x, hx⟩ : ∃ x, x = nI (dwn (stp (stp st))) := ⟨_, rfl⟩
      obtain ⟨b, t1, t2⟩ := k2.copies (show i < m by omega) (dg (M 1) (nI s) x) (by rw [row1, h6 i (Nat.le_refl _), Bool.and_false])
      rw [if_neg (show ¬ b2 true = 0 by decide), if_neg (show ¬ b2 true = 0 by decide), e_stepped, ob1_s, e_drawn, ob1_s, lit_nI 1019, irem_nI (by omega) (by decide) (by decide), lb_e, e_stepped, ob1_s, e_drawn, ob1_s, ← hs, ← hx, e_cdig (h.1.1 3 0 1 rfl), ob1_s, t1, ob1_s]
      rw [lb_e, show (u2 M 0 5 st) = u2 M 0 5 st from rfl, e_draw, ob2_s, r5, u2_u2, irem_nI (by omega) (by decide) (by decide), lb_e, e_draw, ob2_s, r5, u2_u2, r5, ← hM2, lb_e, ← hs, ← hx, e_mdig, ob1_s, row1, t2, ob1_s]
      cases b
      · obtain ⟨I', M', g1, g2, g3, -, g5⟩ := k2.acc (show i < m by omega) sl x (by rw [row1]; exact hf)
        obtain ⟨I'', M'', k3, k4, k5⟩ := ih (i + 1) F G (stp (stp st)) I' M' (by omega) (by omega) (by omega) g3 (fun q hq => by
          by_cases hq8 : q < m
          · rw [fl.cg (fun _ => g5 _ (by omega)), row1]
            exact h6 q (by omega)
          · exact fl_ge (by omega))
        refine ⟨I'', M'', ?_, ?_, k5⟩
        · rw [if_pos (show b2 false = 0 from rfl), g1, ob1_s, f_X2_commitAll_b71, nI_1]; exact k3
        · rw [if_pos (show b2 false = 0 from rfl), g2, ob1_s, f_X8_plays_b74, nI_1]; exact k4
      · obtain ⟨I'', M'', k3, k4, k5⟩ := ih (i + 1) F G (stp (stp st)) I M2 (by omega) (by omega) (by omega) k2 (fun q hq => by rw [row1]; exact h6 q (by omega))
        refine ⟨I'', M'', ?_, ?_, k5⟩
        · rw [if_neg (show ¬ b2 true = 0 by decide), f_X2_commitAll_b71, nI_1]; exact k3
        · rw [if_neg (show ¬ b2 true = 0 by decide), f_X8_plays_b74, nI_1]; exact k4
/-! playing: the next member, changed shares -/
def nxc (s p : Nat) : Nat → Nat → Nat
  | 0, _ => p
  | d + 1, k => if s.testBit ((p + k) % 8) = true then (p + k) % 8 else nxc s p d (k + 1)
def nxm (s : Nat) : Nat → Nat → Nat
  | 0, j => j
  | d + 1, j => if s.testBit j = true then j else nxm s d ((j + 1) % 8)
theorem nx_eq : ∀ s, s < 256 → ∀ p, p < 8 → s.testBit p = true → nxc s p 7 1 = nxm s 8 ((p + 1) % 8) := by decide +kernel
theorem nxc_lt {s p : Nat} (hp : p < 8) : ∀ d k, nxc s p d k < 8
  | 0, _ => hp
  | d + 1, k => by
    rw [nxc]
    split
    · exact Nat.mod_lt _ (by decide)
    · exact nxc_lt hp d (k + 1)
theorem e_after_l {s p : Nat} (hs : s < 256) (hp : p < 8) {I : St} (h10 : I 0 10 = nI s) : ∀ (d k F : Nat), k + d = 8 → d < F → f_X2_memberAfter_l2 F (nI p) (nI k) I = some (nI (nxc s p d k)) := by
  intro d
  induction d with
  | zero =>
    intro k F hk hF
    obtain ⟨F, rfl⟩ : ∃ g, F = g + 1 := ⟨F - 1, by omega⟩
    rw [f_X2_memberAfter_l2, if_pos (show (8 : Int32) ≤ nI k from nI_le (a := 8) (by omega) (by omega)), nxc]
  | succ d ih =>
    intro k F hk hF
    obtain ⟨F, rfl⟩ : ∃ g, F = g + 1 := ⟨F - 1, by omega⟩
    have hl : (p + k) % 8 < 8 := Nat.mod_lt _ (by decide)
    have eh : f_X7_has (nI s) (nI ((p + k) % 8)) = some (b2 (s.testBit ((p + k) % 8))) := by rw [nbs hs]; exact e_has _ hl
    rw [f_X2_memberAfter_l2, if_neg (show ¬ (8 : Int32) ≤ nI k from nI_ge (b := 8) (by omega) (by omega)), nI_add, lb_e, show irem (nI (p + k)) 8 = nI ((p + k) % 8) from irem_nI (b := 8) (by omega) (by decide) (by decide), lb_e, h10, lb_e, eh, ob1_s, nxc]
    cases hb : s.testBit ((p + k) % 8)
    · rw [if_pos (show b2 false = 0 from rfl), if_neg (show ¬ false = true by decide), nI_1]
      exact ih (k + 1) F (by omega) (by omega)
    · rw [if_neg (show ¬ b2 true = 0 by decide), if_pos rfl]
theorem e_next_l {s : Nat} (hs : s < 256) {M : St} : ∀ (d k F j : Nat), k + d = 8 → d < F → j < 8 → f_X8_nextMember_l16 F (nI s) (nI j) (nI k) M = some (nI (nxm s d j)) := by
  intro d
  induction d with
  | zero =>
    intro k F j hk hF hj
    obtain ⟨F, rfl⟩ : ∃ g, F = g + 1 := ⟨F - 1, by omega⟩
    rw [f_X8_nextMember_l16, if_pos (show (8 : Int32) ≤ nI k from nI_le (a := 8) (by omega) (by omega)), f_X8_nextMember_b44, nxm]
  | succ d ih =>
    intro k F j hk hF hj
    obtain ⟨F, rfl⟩ : ∃ g, F = g + 1 := ⟨F - 1, by omega⟩
    have eb : ishr (nI s) (nI j) &&& 1 = if s.testBit j then 1 else 0 := by rw [nbs hs]; exact bs_hasS _ hj
    rw [f_X8_nextMember_l16, if_neg (show ¬ (8 : Int32) ≤ nI k from nI_ge (b := 8) (by omega) (by omega)), lb_e, eb, nxm]
    cases hb : s.testBit j
    · rw [if_neg (show ¬ false = true by decide), if_pos (show (0 : Int32) = 0 from rfl), nI_1, lb_e, show irem (nI (j + 1)) 8 = nI ((j + 1) % 8) from irem_nI (b := 8) (by omega) (by decide) (by decide), lb_e, nI_1]
      exact ih (k + 1) F _ (by omega) (by omega) (Nat.mod_lt _ (by decide))
    · rw [if_pos rfl, if_neg (show ¬ (1 : Int32) = 0 by decide), f_X8_nextMember_b44, if_pos rfl]
theorem K.next {m e t n ph : Nat} {I0 M0 I M : St} (h : K m e t n ph I0 M0 I M) {p : Nat} (hp : p < m) (f5 : fl m (M 1) 5 p = true) : ∃ j, j < 8 ∧ f_X2_memberAfter (nI p) I = some (nI j) ∧ f_X8_nextMember (nI p) M = some (nI j) := by
  have w1 := h.1.2.1.1
  have hp8 : p < 8 := by omega
  obtain ⟨s, hs, es⟩ : ∃ s, s < 256 ∧ bs (fl m (M 1) 5) = nI s := ⟨_, bn_lt _, rfl⟩
  have hb : s.testBit p = true := by
    have h1 : bs (fl m (M 1) 5) = bs (fun q => s.testBit q) := by rw [es, nbs hs]
    rw [← (bs_inj.mp h1) p hp8]; exact f5
  refine ⟨nxc s p 7 1, nxc_lt hp8 _ _, ?_, ?_⟩
  · rw [f_X2_memberAfter, lit_nI 1]
    exact e_after_l hs hp8 (by rw [h.2.1.1, es]) 7 1 10000 (by decide) (by decide)
  · rw [f_X8_nextMember, lit_nI 5, e_setOf w1 (by decide) h.1.2.1.2.1, ob1_s, es, nI_1, lb_e, show irem (nI (p + 1)) 8 = nI ((p + 1) % 8) from irem_nI (b := 8) (by omega) (by decide) (by decide), lb_e, lit_nI 0, e_next_l hs 8 0 10000 _ (by decide) (by decide) (Nat.mod_lt _ (by decide)), nx_eq s hs p hp8 hb]
theorem shB_1 {m : Nat} {v : Nat → Int32} {p : Nat} (c5 : v 5 = 1) (c0 : v 0 = 1) : shB m v p = (fl m v 5 p && fl m v 6 p) := by
  unfold shB
  rw [decide_eq_true c5, decide_eq_true (show ¬ v 0 = 0 by rw [c0]; decide)]; rfl
theorem e_cheat_tail {m : Nat} (hm : m ≤ 8) {g : Nat → Bool} (g5 : ∀ p, m ≤ p → g p = false) {I : St} (h11 : I 0 11 = bs g) : ∀ (d i F : Nat), i + d = 8 → d < F → m ≤ i → f_X2_cheat_l2 F (nI i) I = some I := by
  intro d
  induction d with
  | zero =>
    intro i F hi hF _
    obtain ⟨F, rfl⟩ : ∃ g, F = g + 1 := ⟨F - 1, by omega⟩
    rw [f_X2_cheat_l2, if_pos (show (8 : Int32) ≤ nI i from nI_le (a := 8) (by omega) (by omega))]
  | succ d ih =>
    intro i F hi hF hmi
    obtain ⟨F, rfl⟩ : ∃ g, F = g + 1 := ⟨F - 1, by omega⟩
    rw [f_X2_cheat_l2, if_neg (show ¬ (8 : Int32) ≤ nI i from nI_ge (b := 8) (by omega) (by omega)), lb_e, h11, e_has _ (by omega), ob1_s, g5 i hmi, if_pos (show b2 false = 0 from rfl), f_X2_cheat_b51, nI_1]
    exact ih (i + 1) F (by omega) (by omega) (by omega)
theorem e_cheat_l {m e t n : Nat} {I0 M0 : St} : ∀ (d i F G : Nat) (I M : St), i + d = m → d + 9 < F → d < G → K m e t n 1 I0 M0 I M → M 1 5 = 1 → ∃ I' M', f_X2_cheat_l2 F (nI i) I = some I' ∧ f_X8_cheats_l2 G (nI i) M = f_X8_cheats_l54 10000 (nI 0) M' ∧ K m e t n 1 I0 M0 I' M' ∧ M' 1 5 = 1 := by
  intro d
  induction d with
  | zero =>
    intro i F G I M hi hF hG h h5
    obtain ⟨G, rfl⟩ : ∃ g, G = g + 1 := ⟨G - 1, by omega⟩
    have w1 := h.1.2.1.1
    have w2 := h.1.2.1.2.1
    refine ⟨I, M, e_cheat_tail w1 (fun p hp => by rw [fl_ge hp]; rfl) h.2.1.2.1 (8 - i) i F (by omega) (by omega) (by omega), ?_, h, h5⟩
    rw [f_X8_cheats_l2, ib_4, ck_t, cl_4, w2, if_pos (nI_le (by omega) (by omega)), lit_nI 0]
  | succ d ih =>
    intro i F G I M hi hF hG h h5
    obtain ⟨F, rfl⟩ : ∃ g, F = g + 1 := ⟨F - 1, by omega⟩
    obtain ⟨G, rfl⟩ : ∃ g, G = g + 1 := ⟨G - 1, by omega⟩
    have w1 := h.1.2.1.1
    have w2 := h.1.2.1.2.1
    have i8 : i < 8 := by omega
    have im : i < m := by omega
    have x4 : I (5 + i) 1 = M 1 (20 + 40 * i + 4) := h.1.1 _ _ _ (prP i i8).2.1
    rw [f_X2_cheat_l2, if_neg (show ¬ (8 : Int32) ≤ nI i from nI_ge (b := 8) (by omega) (by omega)), lb_e, h.2.1.2.1, e_has _ i8, ob1_s, f_X8_cheats_l2, ib_4, ck_t, cl_4, w2, if_neg (nI_ge (by omega) (by omega)), e_hasShares w1 w2 im, ob1_s, shB_1 h5 (by rw [h.2.2.1]; rfl)]
    have skip : ∃ I' M', f_X2_cheat_b51 (f_X2_cheat_l2 F) (nI i) I = some I' ∧ f_X8_cheats_b46 (f_X8_cheats_l2 G) (nI i) M = f_X8_cheats_l54 10000 (nI 0) M' ∧ K m e t n 1 I0 M0 I' M' ∧ M' 1 5 = 1 := by
      rw [f_X2_cheat_b51, f_X8_cheats_b46, nI_1]
      exact ih (i + 1) F G I M (by omega) (by omega) (by omega) h h5
    cases hf : (fl m (M 1) 5 i && fl m (M 1) 6 i)
    · rw [if_pos (show b2 false = 0 from rfl), if_pos (show b2 false = 0 from rfl)]
      exact skip
    · obtain ⟨f5, f6⟩ := Bool.and_eq_true_iff.mp hf
      rw [if_neg (show ¬ b2 true = 0 by decide), if_neg (show ¬ b2 true = 0 by decide), inb_nI i8 (by decide), ck_t, nI_clamp (n := i) (by omega), x4, lb_e, ck_t, e_person, ob1_s, lit_nI 4, nI_add, lb_e, inb_nI (by omega) (by decide), ck_t, nI_clamp (n := 20 + 40 * i + 4) (by omega), lb_e]
      by_cases c : M 1 (20 + 40 * i + 4) = 3
      · obtain ⟨j, j1, j2, j3⟩ := h.next im f5
        obtain ⟨I', M', g1, g2, g3, g4⟩ := h.cheat (b := 1) im j1 (by decide) h5 f5 f6
        have e6 : I 0 6 = nI t := by rw [h.1.1 0 6 6 rfl]; exact h.1.2.1.2.2.2.2.2.2.1
        obtain ⟨I'', M'', k1, k2, k3, k4⟩ := ih (i + 1) F G I' M' (by omega) (by omega) (by omega) g3 (by rw [g4 5 (by omega)]; exact h5)
        refine ⟨I'', M'', ?_, ?_, k3, k4⟩
        · rw [if_pos c, j2, ob1_s, e6, lit_nI 1, g1, ob1_s, f_X2_cheat_b51, nI_1]; exact k1
        · rw [if_pos c, j3, ob1_s, lit_nI 1, g2, ob1_s, f_X8_cheats_b46, nI_1]; exact k2
      · rw [if_neg c, if_neg c]
        exact skip
