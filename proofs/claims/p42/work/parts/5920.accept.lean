/-! a commitment is taken -/
theorem prSh8 {p k : Nat} (hp : p < 8) (hk : 8 ≤ k) : pr (5 + p + 8) k = none := by
  by_cases h : k < 96
  · have : ∀ p, p < 8 → ∀ k, k < 96 → 8 ≤ k → pr (5 + p + 8) k = none := by decide +kernel
    exact this p hp k h hk
  · exact pr_out (Or.inr (by omega))
theorem LC.sh {m e t n p : Nat} {L L' : St} {v v' : Nat → Int32} (h : LC m e t n L v) (hp : p < 8) (hL : ∀ j k, (pr j k ≠ none ∨ j = 3 ∨ j = 4) → j ≠ 5 + p + 8 → L' j k = L j k) (hv : ∀ i, (ip i ≠ none ∨ i = 12) → ¬ (20 + 40 * p + 22 ≤ i ∧ i < 20 + 40 * p + 30) → v' i = v i) (hs : ∀ j, j < 8 → L' (5 + p + 8) j = v' (20 + 40 * p + 22 + j)) : LC m e t n L' v' := by
  obtain ⟨h1, h2, h3, h4⟩ := h
  refine ⟨fun j k i hpr => ?_, ?_, fun s hs' => ?_, ?_⟩
  · by_cases hj : j = 5 + p + 8
    · subst hj
      have hk : k < 8 := Nat.lt_of_not_le fun q => by rw [prSh8 hp q] at hpr; cases hpr
      rw [prSh p k hp hk] at hpr
      cases hpr
      exact hs k hk
    · have hi : ¬ (20 + 40 * p + 22 ≤ i ∧ i < 20 + 40 * p + 30) := fun q => by
        have e1 := (pr_ip (prSh p (i - (20 + 40 * p + 22)) hp (by omega))).2
        rw [show 20 + 40 * p + 22 + (i - (20 + 40 * p + 22)) = i by omega, (pr_ip hpr).2] at e1
        cases e1
        exact hj rfl
      rw [hL j k (Or.inl (by rw [hpr]; exact nofun)) hj, hv i (Or.inl (by rw [(pr_ip hpr).2]; exact nofun)) hi]
      exact h1 j k i hpr
  · unfold WV
    rw [hv 4 (Or.inl (by decide)) (by omega), hv 1 (Or.inl (by decide)) (by omega), hv 6 (Or.inl (by decide)) (by omega), hv 0 (Or.inl (by decide)) (by omega), hv 5 (Or.inl (by decide)) (by omega), hv 8 (Or.inl (by decide)) (by omega), hv 11 (Or.inl (by decide)) (by omega), hv 13 (Or.inl (by decide)) (by omega)]
    exact h2
  · obtain ⟨f, f1, f2⟩ := h3 s hs'
    obtain ⟨a, b, c, -⟩ := prS s hs'
    refine ⟨f, by rw [hv _ (Or.inl (by rw [(pr_ip b).2]; exact nofun)) (by omega)]; exact f1, ?_⟩
    rw [hL _ _ (Or.inr (Or.inr rfl)) (by omega), hv _ (Or.inl (by rw [(pr_ip a).2]; exact nofun)) (by omega), hv _ (Or.inl (by rw [(pr_ip c).2]; exact nofun)) (by omega)]
    exact f2
  · rw [hv 11 (Or.inl (by decide)) (by omega), hv 12 (Or.inr rfl) (by omega), hL 3 6 (Or.inr (Or.inl rfl)) (by omega)]
    exact h4
theorem RP.acc {m t p : Nat} {L L' : St} {v v' : Nat → Int32} (h : RP m t L v) (hm : m ≤ 8) (ht : t ≤ 8) (hp : p < m) (ph : v 0 = 1) (h5 : fl m v 5 p = true) (h10 : L' 0 10 = L 0 10) (h11 : L' 0 11 = L 0 11 ||| ishl 1 (nI p)) (h12 : L' 0 12 = L 0 12) (h13 : L' 0 13 = L 0 13) (v0 : v' 0 = v 0) (v5 : v' 5 = v 5) (hv : ∀ q w, q < 8 → 5 ≤ w → w ≤ 8 → ¬ (q = p ∧ w = 6) → v' (20 + 40 * q + w) = v (20 + 40 * q + w)) (h6 : v' (20 + 40 * p + 6) = 1) (hD : ∀ q, q < 8 → q ≠ p → L' (5 + q) 9 = L (5 + q) 9 ∧ (∀ k, k < 8 → L' (5 + q + 16) k = L (5 + q + 16) k) ∧ (∀ w, 14 ≤ w → w < 30 → v' (20 + 40 * q + w) = v (20 + 40 * q + w))) (hDL : v 5 = 1 → DL t L' v' p) : RP m t L' v' := by
  obtain ⟨r1, r2, r3, r4, r5, r6, r7⟩ := h
  have f5 : ∀ q, fl m v' 5 q = fl m v 5 q := fun q => fl.cg fun z => hv q 5 (by omega) (by omega) (by omega) (by omega)
  have f7 : ∀ q, fl m v' 7 q = fl m v 7 q := fun q => fl.cg fun z => hv q 7 (by omega) (by omega) (by omega) (by omega)
  have f8 : ∀ q, fl m v' 8 q = fl m v 8 q := fun q => fl.cg fun z => hv q 8 (by omega) (by omega) (by omega) (by omega)
  have f6 : ∀ q, fl m v' 6 q = (fl m v 6 q || decide (q = p)) := fun q => by
    by_cases e : q = p
    · subst e
      unfold fl
      rw [h6]; simp [hp]
    · rw [fl.cg fun z => hv q 6 (by omega) (by omega) (by omega) (by omega)]
      simp [e]
  refine ⟨?_, ?_, ?_, ?_, ?_, ?_, ?_⟩
  · rw [h10, r1]; exact bs_congr fun q _ => (f5 q).symm
  · rw [h11, r2, bs_add _ (by omega)]
    refine bs_congr fun q _ => ?_
    rw [f5, f6]
    by_cases e : q = p
    · subst e; rw [h5]; simp
    · simp [e]
  · rw [h12, r3]; exact bs_congr fun q _ => by rw [f5, f7]
  · rw [h13, r4]; exact bs_congr fun q _ => (f8 q).symm
  · rw [v0]; intro z q hq; rw [f7]; exact r5 z q hq
  · rw [v0, ph]; intro z
    exact absurd z (by decide)
  · rw [v5]
    intro z q hq a b
    by_cases e : q = p
    · subst e; exact hDL z
    · obtain ⟨d1, d2, d3⟩ := hD q hq e
      rw [f5] at a
      rw [f6] at b
      exact (r7 z q hq a (by simpa [e] using b)).cg ht d1 d2 d3
def dg (v : Nat → Int32) (s x : Int32) : Int32 := mx (mx (mx 17 (v 1)) s) x
theorem e_cdig {I : St} {v : Nat → Int32} (h : I 3 0 = v 1) (s x : Int32) : f_X4_digestOf s x I = some (dg v s x) := by
  rw [f_X4_digestOf, h]; rfl
theorem e_mdig (M : St) (s x : Int32) : f_X8_digestOf s x M = some (dg (M 1) s x) := by
  rw [f_X8_digestOf, ib_1, ck_t, cl_1]; rfl
theorem e_putLock {o b s d : Nat} {x : Int32} {I : St} (ho : isP o = true) (hx : I o 5 = x) (hd : d ≤ 5000) (hs : s < 1019) : f_X5_putLock o (nI s) (nI d) I = some (u2 (u2 I o 7 (nI (2 + dwn (stp x) % 1000))) o 8 (nI ((s + sq 62615533 ((2 + dwn (stp x) % 1000) % 62615533) d) % 1019))) := by
  have hw := dwn_lt (stp x)
  have hq := sq_lt (n := 62615533) (by decide) d ((2 + dwn (stp x) % 1000) % 62615533) (Nat.mod_lt _ (by decide))
  have e : ∀ y, u2 I o 7 y o 7 = y := fun y => by rw [u2_row, upd_ap, if_pos rfl]
  rw [f_X5_putLock, ho, ck_t, hx, e_stepped, ob1_s, e_drawn, ob1_s, lit_nI 1000, irem_nI (by omega) (by decide) (by decide), lit_nI 2, nI_add, lb_e, e, lb_e, e_value (by omega) hd, ob1_s, nI_add, lb_e, lit_nI 1019, irem_nI (by omega) (by decide) (by decide), lb_e]
theorem K.acc {m e t n : Nat} {I0 M0 I M : St} (h : K m e t n 1 I0 M0 I M) {p s : Nat} (hp : p < m) (hs : s < 1019) (x : Int32) (h5 : fl m (M 1) 5 p = true) : ∃ I' M', f_X4_accept (nI p) (nI s) x I = some I' ∧ f_X8_commits (nI p) (nI s) x M = some M' ∧ K m e t n 1 I0 M0 I' M' ∧ M' 1 (20 + 40 * p + 11) = dg (M 1) (nI s) x ∧ (∀ i, ¬ (20 + 40 * p ≤ i ∧ i < 60 + 40 * p) → M' 1 i = M 1 i) := by
  obtain ⟨lc, rp, hph, hI, hM⟩ := h
  have w := lc.2.1
  obtain ⟨w1, w2, w3, w4, w5, w6, w7, w8, w9, ⟨d, d1, d2⟩, -⟩ := w
  have hp8 : p < 8 := by omega
  obtain ⟨-, -, -, -, -, q5, q6, q7, q8, -, qs⟩ := prP p hp8
  obtain ⟨D, hD⟩ : ∃ D, D = dg (M 1) (nI s) x := ⟨_, rfl⟩
  obtain ⟨I1, hI1⟩ : ∃ I1, I1 = u2 (u2 (u2 (u2 I 2 p (nI s)) (5 + p) 5 x) (5 + p) 6 D) 0 11 (I 0 11 ||| ishl 1 (nI p)) := ⟨_, rfl⟩
  obtain ⟨M1, hM1⟩ : ∃ M1, M1 = u2 (u2 (u2 (u2 M 1 (20 + 40 * p + 6) 1) 1 (20 + 40 * p + 9) (nI s)) 1 (20 + 40 * p + 10) x) 1 (20 + 40 * p + 11) D := ⟨_, rfl⟩
  have lc1 : LC m e t n I1 (M1 1) := by
    rw [hI1, hM1]
    simp only [u2_row]
    exact ((((lc.mod (i := 20 + 40 * p + 6) (ip_mk _ (by omega) (by omega) (by omega) (by omega)) (by omega) 1).st qs (by omega) (nI s)).st q5 (by omega) x).st q6 (by omega) D).cls (by decide) (by decide) _
  have m1 : ∀ i, M1 1 i = if i = 20 + 40 * p + 11 then D else if i = 20 + 40 * p + 10 then x else if i = 20 + 40 * p + 9 then nI s else if i = 20 + 40 * p + 6 then 1 else M 1 i := fun i => by
    rw [hM1]; simp only [u2_row, upd_ap]
  have m1o : ∀ i, i ≠ 20 + 40 * p + 11 → i ≠ 20 + 40 * p + 10 → i ≠ 20 + 40 * p + 9 → i ≠ 20 + 40 * p + 6 → M1 1 i = M 1 i := fun i a b c d => by rw [m1, if_neg a, if_neg b, if_neg c, if_neg d]
  have m0 : ∀ o, o ≠ 1 → M1 o = M o := fun o ho => by rw [hM1, u2_off _ _ _ _ ho, u2_off _ _ _ _ ho, u2_off _ _ _ _ ho, u2_off _ _ _ _ ho]
  have i1 : ∀ o, o ≠ 0 → o ≠ 2 → o ≠ 5 + p → I1 o = I o := fun o a b c => by rw [hI1, u2_off _ _ _ _ a, u2_off _ _ _ _ c, u2_off _ _ _ _ c, u2_off _ _ _ _ b]
  have i0 : ∀ k, k ≠ 11 → I1 0 k = I 0 k := fun k hk => by rw [hI1, u2_row, upd_ap, if_neg hk, u2_off _ _ _ _ (by omega), u2_off _ _ _ _ (by omega), u2_off _ _ _ _ (by omega)]
  have i11 : I1 0 11 = I 0 11 ||| ishl 1 (nI p) := by rw [hI1, u2_row, upd_ap, if_pos rfl]
  have ip9 : I1 (5 + p) 9 = I (5 + p) 9 := by rw [hI1, u2_off _ _ _ _ (by omega), u2_row, upd_ap, if_neg (by decide), u2_row, upd_ap, if_neg (by decide), u2_off _ _ _ _ (by omega)]
  have ip5 : I1 (5 + p) 5 = x := by rw [hI1, u2_off _ _ _ _ (by omega), u2_row, upd_ap, if_neg (by decide), u2_row, upd_ap, if_pos rfl]
  have I5 : I1 0 5 = M 1 5 := by rw [i0 5 (by decide)]; exact lc.1 0 5 5 rfl
  have I8 : I1 0 8 = nI d := by rw [i0 8 (by decide), lc.1 0 8 8 rfl, d2]
  have I6 : I1 0 6 = nI t := by rw [i0 6 (by decide), lc.1 0 6 6 rfl, w7]
  have M5 : M1 1 5 = M 1 5 := m1o 5 (by omega) (by omega) (by omega) (by omega)
  have M8 : M1 1 8 = nI d := by rw [m1o 8 (by omega) (by omega) (by omega) (by omega), d2]
  have M6 : M1 1 6 = nI t := by rw [m1o 6 (by omega) (by omega) (by omega) (by omega), w7]
  have fI1 : FI I0 I1 := by rw [hI1]; exact (((hI.u2 (Or.inl (by omega))).u2 (Or.inl (by omega))).u2 (Or.inl (by omega))).u2 (Or.inl (by omega))
  have fM1 : FM M0 M1 := by rw [hM1]; exact hM.u1.u1.u1.u1
  have ec : f_X4_accept (nI p) (nI s) x I = (if M 1 5 = 1 then ob1 (f_X5_deal (5 + p) (nI s) (nI t) I1) fun I16 => f_X4_accept_b62 (nI s) (5 + p) I16 else f_X4_accept_b62 (nI s) (5 + p) I1) := by
    have e3 : u2 (u2 I 2 p (nI s)) (5 + p) 5 x 3 0 = M 1 1 := by rw [u2_off _ _ _ _ (by omega), u2_off _ _ _ _ (by omega)]; exact lc.1 3 0 1 rfl
    have e11 : u2 (u2 (u2 I 2 p (nI s)) (5 + p) 5 x) (5 + p) 6 D 0 11 = I 0 11 := by rw [u2_off _ _ _ _ (by omega), u2_off _ _ _ _ (by omega), u2_off _ _ _ _ (by omega)]
    rw [f_X4_accept, inb_nI hp8 (by decide), ck_t, ck_t, nI_clamp (by omega), lb_e, lb_e, e_cdig e3, ob1_s, ← hD, lb_e, e11, lb_e, lb_e, ← hI1, I5, lb_e, I6]
  have em : f_X8_commits (nI p) (nI s) x M = (if M 1 5 = 1 then ob1 (f_X8_deals (nI p) M1) fun M32 => f_X8_commits_b146 M32 else if M 1 5 = 2 then lb (u2 M1 0 5 x) fun M17 => lb (nI (20 + 40 * p + 12)) fun x18 => ob2 (f_X8_draw M17) fun r21 M20 => ck (inb x18 420) <| lb (u2 M20 1 x18.toNatClampNeg (2 + (irem r21 1000))) fun M22 => lb (nI (20 + 40 * p + 13)) fun x23 => lb ((nI s).toInt64) fun y24 => lb (nI (20 + 40 * p + 12)) fun x25 => ck (inb x25 420) <| lb (M22 1 x25.toNatClampNeg) fun x26 => ck (inb 8 420) <| ob1 (f_X8_squares x26 (M22 1 (8 : Int32).toNatClampNeg)) fun r28 => lb (y24 + r28) fun y29 => ck (inb x23 420) <| lb (u2 M22 1 x23.toNatClampNeg ((lrem y29 1019).toInt32)) fun M30 => f_X8_commits_b146 M30 else f_X8_commits_b146 M1) := by
    have e1 : (u2 (u2 (u2 M 1 (20 + 40 * p + 6) 1) 1 (20 + 40 * p + 9) (nI s)) 1 (20 + 40 * p + 10) x) 1 1 = M 1 1 := by
      simp only [u2_row, upd_ap]
      rw [if_neg (by omega), if_neg (by omega), if_neg (by omega)]
    have eD : dg ((u2 (u2 (u2 M 1 (20 + 40 * p + 6) 1) 1 (20 + 40 * p + 9) (nI s)) 1 (20 + 40 * p + 10) x) 1) (nI s) x = D := by rw [hD, dg, dg, e1]
    rw [f_X8_commits, e_person, ob1_s, lit_nI 6, nI_add, lb_e, inb_nI (by omega) (by decide), ck_t, nI_clamp (n := 20 + 40 * p + 6) (by omega), lb_e, lit_nI 9, nI_add, lb_e, inb_nI (by omega) (by decide), ck_t, nI_clamp (n := 20 + 40 * p + 9) (by omega), lb_e, lit_nI 10, nI_add, lb_e, inb_nI (by omega) (by decide), ck_t, nI_clamp (n := 20 + 40 * p + 10) (by omega), lb_e, lit_nI 11, nI_add, lb_e, e_mdig, ob1_s, eD, inb_nI (by omega) (by decide), ck_t, nI_clamp (n := 20 + 40 * p + 11) (by omega), lb_e, ← hM1, ib_5, ck_t, cl_5, lb_e, M5, ck_t, lb_e, lit_nI 12, nI_add, lit_nI 13, nI_add]
  have rpo : ∀ (L' : St) (v' : Nat → Int32), (∀ k, k ≠ 11 → 10 ≤ k → k ≤ 13 → L' 0 k = I 0 k) → L' 0 11 = I 0 11 ||| ishl 1 (nI p) → (∀ q, q < 8 → q ≠ p → L' (5 + q) = I (5 + q) ∧ L' (5 + q + 16) = I (5 + q + 16)) → (∀ i, ¬ (20 + 40 * p + 9 ≤ i ∧ i < 20 + 40 * p + 30) → i ≠ 20 + 40 * p + 6 → v' i = M 1 i) → v' (20 + 40 * p + 6) = 1 → (M 1 5 = 1 → DL t L' v' p) → RP m t L' v' := fun L' v' a1 a2 a3 a4 a5 a6 =>
    rp.acc w1 w6 hp (by rw [hph]; rfl) h5 (a1 10 (by decide) (by decide) (by decide)) a2 (a1 12 (by decide) (by decide) (by decide)) (a1 13 (by decide) (by decide) (by decide)) (a4 0 (by omega) (by omega)) (a4 5 (by omega) (by omega)) (fun q w' _ b c z => a4 _ (by omega) (by omega)) a5 (fun q hq hne => ⟨by rw [(a3 q hq hne).1], fun k _ => by rw [(a3 q hq hne).2], fun w' _ _ => a4 _ (by omega) (by omega)⟩) a6
  by_cases c1 : M 1 5 = 1
  · obtain ⟨I', k1, k2, k3, k4, k5, k6⟩ := e_deal (o := 5 + p) (t := t) (s := s) (x := x) (isP_of hp8) w6 hs I1 ip5
    obtain ⟨M', g1, g2, g3, g4, g5, g6⟩ := e_deals (p := p) (t := t) (s := s) (x := x) hp8 w5 w6 hs M1 M6 (by rw [m1, if_neg (by omega), if_neg (by omega), if_pos rfl]) (by rw [m1, if_neg (by omega), if_pos rfl])
    have z0 : ∀ k, I' 0 k = I1 0 k := fun k => by rw [k2 0 (by omega) (by omega) (by omega)]
    refine ⟨I', M', ?_, ?_, ⟨?_, ?_, ?_, ?_, ?_⟩, ?_, fun i hi => by rw [g4 i (by omega), m1o i (by omega) (by omega) (by omega) (by omega)]⟩
    · rw [ec, if_pos c1, k1, ob1_s, f_X4_accept_b62, z0, I5, c1, lb_e, if_neg (by decide), f_X4_accept_b80]
    · rw [em, if_pos c1, g1, ob1_s, f_X8_commits_b146]
    · refine lc1.sh hp8 (fun j k q hj => ?_) (fun i q hi => g4 i (fun z => ?_)) (fun j hj => by rw [k5 j hj, g6 j hj])
      · by_cases e1 : j = 5 + p
        · rw [e1]
          by_cases e2 : k = 9
          · rw [e1, e2, pr9 p hp8] at q
            rcases q with q | q | q
            · exact absurd rfl q
            · omega
            · omega
          · exact k3 k e2
        · by_cases e2 : j = 5 + p + 16
          · rw [e2] at q ⊢
            by_cases e3 : k < 8
            · rw [prC p k hp8 e3] at q
              rcases q with q | q | q
              · exact absurd rfl q
              · omega
              · omega
            · have : pr (5 + p + 16) k = none := by
                by_cases hk : k < 96
                · have : ∀ p, p < 8 → ∀ k, k < 96 → 8 ≤ k → pr (5 + p + 16) k = none := by decide +kernel
                  exact this p hp8 k hk (by omega)
                · exact pr_out (Or.inr (by omega))
              rw [this] at q
              rcases q with q | q | q
              · exact absurd rfl q
              · omega
              · omega
          · rw [k2 j e1 hj e2]
      · have hin : ∀ q, q < 8 → ip (20 + 40 * p + 14 + q) = none := by
          have : ∀ p, p < 8 → ∀ q, q < 8 → ip (20 + 40 * p + 14 + q) = none := by decide +kernel
          exact this p hp8
        have := hin (i - (20 + 40 * p + 14)) (by omega)
        rw [show 20 + 40 * p + 14 + (i - (20 + 40 * p + 14)) = i by omega] at this
        rcases q with q | q
        · exact q this
        · omega
    · refine rpo I' (M' 1) (fun k a _ _ => by rw [z0, i0 k a]) (by rw [z0, i11]) (fun q hq hne => ⟨by rw [k2 _ (by omega) (by omega) (by omega), i1 _ (by omega) (by omega) (by omega)], by rw [k2 _ (by omega) (by omega) (by omega), i1 _ (by omega) (by omega) (by omega)]⟩) (fun i a b => by rw [g4 i (by omega), m1o i (by omega) (by omega) (by omega) b]) (by rw [g4 _ (by omega), m1, if_neg (by omega), if_neg (by omega), if_neg (by omega), if_pos rfl]) (fun _ => ?_)
      refine ⟨fun k hk => ⟨cf s x k, cf_lt hs x k, g5 k hk, k6 k hk⟩, fun j hj => ⟨_, ps_lt _ _ _, g6 j hj⟩, ?_⟩
      rw [k4, show (255 : Int32) = bs (fun _ => true) by decide]
      refine bs_congr fun j hj => ?_
      unfold gd
      rw [g6 j hj, hq_cg (c' := cf s x) t 0 (fun k hk => by unfold co; rw [g5 k hk, nI_clamp (by have := cf_lt hs x k; omega)]), hq_ps _ j t 0 (by decide), Nat.zero_mul, Nat.zero_add, Nat.mod_eq_of_lt (ps_lt _ j t)]
      simp
    · rw [g4 0 (by omega), m1o 0 (by omega) (by omega) (by omega) (by omega)]; exact hph
    · intro o a b
      rw [k2 o (by omega) (by omega) (by omega)]
      exact fI1 o a b
    · exact ⟨by rw [g2 2 (by decide) (by decide)]; exact fM1.1, by rw [g3 2 (by decide)]; exact fM1.2⟩
    · rw [g4 _ (by omega), m1, if_pos rfl, hD]
  · by_cases c2 : M 1 5 = 2
    · have hw := dwn_lt (stp x)
      have hqs := sq_lt (n := 62615533) (by decide) d ((2 + dwn (stp x) % 1000) % 62615533) (Nat.mod_lt _ (by decide))
      obtain ⟨B, hB⟩ : ∃ B, B = 2 + dwn (stp x) % 1000 := ⟨_, rfl⟩
      obtain ⟨C, hC⟩ : ∃ C, C = (s + sq 62615533 (B % 62615533) d) % 1019 := ⟨_, rfl⟩
      have Bl : B < 2 ^ 31 := by omega
      rw [← hB] at hqs
      have ed : (u2 M1 0 5 x) 0 5 = x := by rw [u2_row, upd_ap, if_pos rfl]
      obtain ⟨M2, hM2⟩ : ∃ M2, M2 = u2 (u2 M1 0 5 x) 0 5 (stp x) := ⟨_, rfl⟩
      have M21 : M2 1 = M1 1 := by rw [hM2, u2_off _ _ _ _ (by decide), u2_off _ _ _ _ (by decide)]
      refine ⟨u2 (u2 I1 (5 + p) 7 (nI B)) (5 + p) 8 (nI C), u2 (u2 M2 1 (20 + 40 * p + 12) (nI B)) 1 (20 + 40 * p + 13) (nI C), ?_, ?_, ⟨?_, ?_, ?_, ?_, ?_⟩, ?_, fun i hi => by rw [u2_row, upd_ap, if_neg (by omega), u2_row, upd_ap, if_neg (by omega), M21, m1o i (by omega) (by omega) (by omega) (by omega)]⟩
      · rw [ec, if_neg c1, f_X4_accept_b62, I5, lb_e, if_pos c2, I8, e_putLock (b := 0) (isP_of hp8) ip5 d1 hs, ob1_s, f_X4_accept_b80, ← hB, ← hC]
      · have e12 : ∀ y, u2 M2 1 (20 + 40 * p + 12) y 1 (20 + 40 * p + 12) = y := fun y => by rw [u2_row, upd_ap, if_pos rfl]
        have e8 : ∀ y, u2 M2 1 (20 + 40 * p + 12) y 1 8 = nI d := fun y => by rw [u2_row, upd_ap, if_neg (by omega), M21, M8]
        have hr : lrem (lN (s + sq 62615533 (B % 62615533) d)) 1019 = lN C := by rw [hC]; exact lrem_lN (by omega) (by decide) (by decide)
        rw [em, if_neg c1, if_pos c2, lb_e, lb_e, e_draw, ob2_s, ed, ← hM2, inb_nI (by omega) (by decide), ck_t, nI_clamp (n := 20 + 40 * p + 12) (by omega), lit_nI 1000, irem_nI (by omega) (by decide) (by decide), lit_nI 2, nI_add, ← hB, lb_e, lb_e, nI_l (by omega), lb_e, lb_e, inb_nI (by omega) (by decide), ck_t, nI_clamp (n := 20 + 40 * p + 12) (by omega), e12, lb_e, ib_8, ck_t, cl_8, e8, e_squares Bl d1, ob1_s, lN_add, lb_e, hr, lN_i, inb_nI (by omega) (by decide), ck_t, nI_clamp (n := 20 + 40 * p + 13) (by omega), lb_e, f_X8_commits_b146]
      · simp only [u2_row, M21]
        exact (lc1.st q7 (by omega) (nI B)).st q8 (by omega) (nI C)
      · refine rpo _ _ (fun k a _ _ => by rw [u2_off _ _ _ _ (by omega), u2_off _ _ _ _ (by omega), i0 k a]) (by rw [u2_off _ _ _ _ (by omega), u2_off _ _ _ _ (by omega), i11]) (fun q hq hne => ⟨by rw [u2_off _ _ _ _ (by omega), u2_off _ _ _ _ (by omega), i1 _ (by omega) (by omega) (by omega)], by rw [u2_off _ _ _ _ (by omega), u2_off _ _ _ _ (by omega), i1 _ (by omega) (by omega) (by omega)]⟩) (fun i a b => by rw [u2_row, upd_ap, if_neg (by omega), u2_row, upd_ap, if_neg (by omega), M21, m1o i (by omega) (by omega) (by omega) b]) (by rw [u2_row, upd_ap, if_neg (by omega), u2_row, upd_ap, if_neg (by omega), M21, m1, if_neg (by omega), if_neg (by omega), if_neg (by omega), if_pos rfl]) (fun z => absurd z c1)
      · rw [u2_row, upd_ap, if_neg (by omega), u2_row, upd_ap, if_neg (by omega), M21, m1o 0 (by omega) (by omega) (by omega) (by omega)]; exact hph
      · exact (fI1.u2 (Or.inl (by omega))).u2 (Or.inl (by omega))
      · rw [hM2]; exact ((fM1.u0 (by decide)).u0 (by decide)).u1.u1
      · rw [u2_row, upd_ap, if_neg (by omega), u2_row, upd_ap, if_neg (by omega), M21, m1, if_pos rfl, hD]
    · refine ⟨I1, M1, ?_, ?_, ⟨lc1, ?_, ?_, fI1, fM1⟩, ?_, fun i hi => m1o i (by omega) (by omega) (by omega) (by omega)⟩
      · rw [ec, if_neg c1, f_X4_accept_b62, I5, lb_e, if_neg c2, f_X4_accept_b80]
      · rw [em, if_neg c1, if_neg c2, f_X8_commits_b146]
      · exact rpo I1 (M1 1) (fun k a _ _ => i0 k a) i11 (fun q hq hne => ⟨i1 _ (by omega) (by omega) (by omega), i1 _ (by omega) (by omega) (by omega)⟩) (fun i a b => m1o i (by omega) (by omega) (by omega) b) (by rw [m1, if_neg (by omega), if_neg (by omega), if_neg (by omega), if_pos rfl]) (fun z => absurd z c1)
      · rw [m1o 0 (by omega) (by omega) (by omega) (by omega)]; exact hph
      · rw [m1, if_pos rfl, hD]
