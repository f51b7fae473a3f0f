/-! the relation in its parts; changes that keep it -/
def LC (m e t n : Nat) (L : St) (v : Nat → Int32) : Prop := LE L v ∧ WV m e t n v ∧ UN L v ∧ (v 11 = 0 ∨ L 3 6 = v 12)
theorem LC.cg {m e t n : Nat} {L L' : St} {v v' : Nat → Int32} (h : LC m e t n L v) (hL : ∀ j k, (pr j k ≠ none ∨ j = 3 ∨ j = 4) → L' j k = L j k) (hv : ∀ i, (ip i ≠ none ∨ i = 12) → v' i = v i) : LC m e t n L' v' := by
  obtain ⟨h1, h2, h3, h4⟩ := h
  refine ⟨fun j k i hp => ?_, ?_, fun s hs => ?_, ?_⟩
  · rw [hL j k (Or.inl (by rw [hp]; exact nofun)), hv i (Or.inl (by rw [(pr_ip hp).2]; exact nofun))]
    exact h1 j k i hp
  · unfold WV
    rw [hv 4 (Or.inl (by decide)), hv 1 (Or.inl (by decide)), hv 6 (Or.inl (by decide)), hv 0 (Or.inl (by decide)), hv 5 (Or.inl (by decide)), hv 8 (Or.inl (by decide)), hv 11 (Or.inl (by decide)), hv 13 (Or.inl (by decide))]
    exact h2
  · obtain ⟨f, f1, f2⟩ := h3 s hs
    obtain ⟨a, b, c, -⟩ := prS s hs
    refine ⟨f, by rw [hv _ (Or.inl (by rw [(pr_ip b).2]; exact nofun))]; exact f1, ?_⟩
    rw [hL _ _ (Or.inr (Or.inr rfl)), hv _ (Or.inl (by rw [(pr_ip a).2]; exact nofun)), hv _ (Or.inl (by rw [(pr_ip c).2]; exact nofun))]
    exact f2
  · rw [hv 11 (Or.inl (by decide)), hv 12 (Or.inr rfl), hL 3 6 (Or.inr (Or.inl rfl))]
    exact h4
theorem u2_pn {L : St} {j k i j' k' : Nat} {x : Int32} (hp : pr j k = some i) (hn : pr j' k' = none) : u2 L j k x j' k' = L j' k' := by
  rw [u2_ap]
  by_cases a : j' = j
  · by_cases b : k' = k
    · rw [a, b, hp] at hn; cases hn
    · rw [if_pos a, if_neg b, a]
  · rw [if_neg a]
theorem ip_4 : ∀ i, i < 340 → (ip i).map Prod.fst ≠ some 4 := by decide +kernel
theorem LC.st {m e t n : Nat} {L : St} {v : Nat → Int32} (h : LC m e t n L v) {j k i : Nat} (hp : pr j k = some i) (hi : i = 2 ∨ i = 3 ∨ i = 7 ∨ i = 9 ∨ i = 10 ∨ (20 ≤ i ∧ i < 340)) (x : Int32) : LC m e t n (u2 L j k x) (upd v i x) := by
  obtain ⟨h1, ⟨w1, w2, w3, w4, w5, w6, w7, w8, w9, w10, w11⟩, h3, h4⟩ := h
  have off : ∀ q, q ≠ i → upd v i x q = v q := fun q hq => by rw [upd_ap, if_neg hq]
  have j4 : 4 ≠ j := fun q => by
    have e1 := (pr_ip hp).2
    have := ip_4 i (by omega)
    rw [e1] at this
    exact this (by rw [← q]; rfl)
  refine ⟨LE_set h1 hp x, ⟨w1, by rw [off 4 (by omega)]; exact w2, w3, by rw [off 1 (by omega)]; exact w4, w5, w6, by rw [off 6 (by omega)]; exact w7, by rw [off 0 (by omega)]; exact w8, by rw [off 5 (by omega)]; exact w9, by rw [off 8 (by omega)]; exact w10, by rw [off 11 (by omega), off 13 (by omega)]; exact w11⟩, fun s hs => ?_, ?_⟩
  · obtain ⟨f, f1, f2⟩ := h3 s hs
    exact ⟨f, by rw [off _ (by omega)]; exact f1, by rw [u2_off _ _ _ _ j4, off _ (by omega), off _ (by omega)]; exact f2⟩
  · rw [off 11 (by omega), off 12 (by omega), u2_pn hp (by decide)]
    exact h4
theorem LC.cls {m e t n : Nat} {L : St} {v : Nat → Int32} (h : LC m e t n L v) {j k : Nat} (hp : pr j k = none) (hj : j ≠ 3 ∧ j ≠ 4) (x : Int32) : LC m e t n (u2 L j k x) v := by
  refine h.cg (fun j' k' q => ?_) (fun _ _ => rfl)
  rw [u2_ap]
  by_cases a : j' = j
  · by_cases b : k' = k
    · rw [a, b, hp] at q
      rcases q with q | q | q
      · exact absurd rfl q
      · exact absurd q hj.1
      · exact absurd q hj.2
    · rw [if_pos a, if_neg b, a]
  · rw [if_neg a]
theorem LC.mod {m e t n : Nat} {L : St} {v : Nat → Int32} (h : LC m e t n L v) {i : Nat} (hp : ip i = none) (hi : i ≠ 12) (x : Int32) : LC m e t n L (upd v i x) := by
  refine h.cg (fun _ _ _ => rfl) (fun q hq => ?_)
  rw [upd_ap, if_neg]
  intro e
  rw [e, hp] at hq
  rcases hq with hq | hq
  · exact hq rfl
  · exact hi hq
theorem LC.ph {m e t n : Nat} {L : St} {v : Nat → Int32} (h : LC m e t n L v) {x : Int32} (hx : x = 0 ∨ x = 1 ∨ x = 2) : LC m e t n (u2 L 0 9 x) (upd v 0 x) := by
  obtain ⟨h1, ⟨w1, w2, w3, w4, w5, w6, w7, w8, w9, w10, w11⟩, h3, h4⟩ := h
  have off : ∀ q, q ≠ 0 → upd v 0 x q = v q := fun q hq => by rw [upd_ap, if_neg hq]
  exact ⟨LE_set h1 (show pr 0 9 = some 0 from rfl) x, ⟨w1, w2, w3, w4, w5, w6, w7, hx, w9, w10, w11⟩, fun s hs => by
    obtain ⟨f, f1, f2⟩ := h3 s hs
    exact ⟨f, by rw [off _ (by omega)]; exact f1, by rw [u2_off _ _ _ _ (by decide), off _ (by omega), off _ (by omega)]; exact f2⟩, h4⟩
theorem fl.cg {m w p : Nat} {v v' : Nat → Int32} (h : p < m → v' (20 + 40 * p + w) = v (20 + 40 * p + w)) : fl m v' w p = fl m v w p := by
  unfold fl
  by_cases hp : p < m
  · rw [h hp]
  · simp [hp]
theorem DL.cg {t p : Nat} {L L' : St} {v v' : Nat → Int32} (h : DL t L v p) (ht : t ≤ 8) (h9 : L' (5 + p) 9 = L (5 + p) 9) (hC : ∀ k, k < 8 → L' (5 + p + 16) k = L (5 + p + 16) k) (hv : ∀ w, 14 ≤ w → w < 30 → v' (20 + 40 * p + w) = v (20 + 40 * p + w)) : DL t L' v' p := by
  obtain ⟨d1, d2, d3⟩ := h
  refine ⟨fun k hk => ?_, fun j hj => ?_, ?_⟩
  · obtain ⟨c, c1, c2, c3⟩ := d1 k hk
    exact ⟨c, c1, by rw [Nat.add_assoc, hv _ (by omega) (by omega), ← Nat.add_assoc]; exact c2, by rw [hC k (by omega)]; exact c3⟩
  · obtain ⟨c, c1, c2⟩ := d2 j hj
    exact ⟨c, c1, by rw [Nat.add_assoc, hv _ (by omega) (by omega), ← Nat.add_assoc]; exact c2⟩
  · rw [h9, d3]
    exact bs_congr fun j hj => (gd_congr ht hj fun k a b => hv k a b).symm
theorem RP.cg {m t : Nat} {L L' : St} {v v' : Nat → Int32} (h : RP m t L v) (hm : m ≤ 8) (ht : t ≤ 8) (h10 : L' 0 10 = L 0 10) (h11 : L' 0 11 = L 0 11) (h12 : L' 0 12 = L 0 12) (h13 : L' 0 13 = L 0 13) (h9 : ∀ p, p < 8 → L' (5 + p) 9 = L (5 + p) 9) (hC : ∀ p k, p < 8 → k < 8 → L' (5 + p + 16) k = L (5 + p + 16) k) (v0 : v' 0 = v 0) (v5 : v' 5 = v 5) (hv : ∀ p w, p < 8 → (5 ≤ w ∧ w ≤ 8 ∨ 14 ≤ w ∧ w < 30) → v' (20 + 40 * p + w) = v (20 + 40 * p + w)) : RP m t L' v' := by
  obtain ⟨r1, r2, r3, r4, r5, r6, r7⟩ := h
  have f5 : ∀ p, fl m v' 5 p = fl m v 5 p := fun p => fl.cg fun q => hv p 5 (by omega) (by omega)
  have f6 : ∀ p, fl m v' 6 p = fl m v 6 p := fun p => fl.cg fun q => hv p 6 (by omega) (by omega)
  have f7 : ∀ p, fl m v' 7 p = fl m v 7 p := fun p => fl.cg fun q => hv p 7 (by omega) (by omega)
  have f8 : ∀ p, fl m v' 8 p = fl m v 8 p := fun p => fl.cg fun q => hv p 8 (by omega) (by omega)
  refine ⟨?_, ?_, ?_, ?_, ?_, ?_, ?_⟩
  · rw [h10, r1]; exact bs_congr fun p _ => (f5 p).symm
  · rw [h11, r2]; exact bs_congr fun p _ => by rw [f5, f6]
  · rw [h12, r3]; exact bs_congr fun p _ => by rw [f5, f7]
  · rw [h13, r4]; exact bs_congr fun p _ => (f8 p).symm
  · rw [v0]; intro q p hp; rw [f7]; exact r5 q p hp
  · rw [v0]; intro q p hp; rw [f5, f6]; exact r6 q p hp
  · rw [v5]; intro q p hp; rw [f5, f6]; exact fun a b => (r7 q p hp a b).cg ht (h9 p hp) (fun k hk => hC p k hp hk) (fun w a b => hv p w hp (Or.inr ⟨a, b⟩))
theorem pr9 (p : Nat) (hp : p < 8) : pr (5 + p) 9 = none := (prP p hp).2.2.2.2.2.2.2.2.2.1
theorem prC (p k : Nat) (hp : p < 8) (hk : k < 8) : pr (5 + p + 16) k = none := by
  have : ∀ p, p < 8 → ∀ k, k < 8 → pr (5 + p + 16) k = none := by decide +kernel
  exact this p hp k hk
/-- a paired change that the round's part doesn't see -/
theorem RP.st {m t : Nat} {L : St} {v : Nat → Int32} (h : RP m t L v) (hm : m ≤ 8) (ht : t ≤ 8) {j k i : Nat} (hp : pr j k = some i) (hi : i ≠ 0 ∧ i ≠ 5 ∧ (i < 20 ∨ 340 ≤ i ∨ (i - 20) % 40 < 5 ∨ (9 ≤ (i - 20) % 40 ∧ (i - 20) % 40 < 14))) (x : Int32) : RP m t (u2 L j k x) (upd v i x) := by
  refine h.cg hm ht (u2_pn hp (by decide)) (u2_pn hp (by decide)) (u2_pn hp (by decide)) (u2_pn hp (by decide)) (fun p q => u2_pn hp (pr9 p q)) (fun p k a b => u2_pn hp (prC p k a b)) ?_ ?_ (fun p w a b => ?_)
  · rw [upd_ap, if_neg (by omega)]
  · rw [upd_ap, if_neg (by omega)]
  · rw [upd_ap, if_neg (by omega)]
def K (m e t n ph : Nat) (I0 M0 I M : St) : Prop := LC m e t n I (M 1) ∧ RP m t I (M 1) ∧ M 1 0 = nI ph ∧ FI I0 I ∧ FM M0 M
theorem K.st {m e t n ph : Nat} {I0 M0 I M : St} (h : K m e t n ph I0 M0 I M) {j k i : Nat} (hp : pr j k = some i) (hi : i = 2 ∨ (20 ≤ i ∧ i < 340 ∧ ((i - 20) % 40 < 5 ∨ 9 ≤ (i - 20) % 40 ∧ (i - 20) % 40 < 14))) (x : Int32) : K m e t n ph I0 M0 (u2 I j k x) (u2 M 1 i x) := by
  obtain ⟨h1, h2, h3, h4, h5⟩ := h
  have hm := h1.2.1.1
  have ht := h1.2.1.2.2.2.2.2.1
  refine ⟨?_, ?_, ?_, h4.u2 (Or.inl (pr_dom hp).1), h5.u1⟩
  · rw [u2_row]; exact h1.st hp (by omega) x
  · rw [u2_row]; exact h2.st hm ht hp (by omega) x
  · rw [u2_row, upd_ap, if_neg (by omega)]; exact h3
theorem K.LR {m e t n ph : Nat} {I0 M0 I M : St} (h : K m e t n ph I0 M0 I M) : LR n I (M 1) := ⟨m, e, t, h.1.1, h.1.2.1, h.1.2.2.1, h.1.2.2.2, fun _ => h.2.1⟩
theorem K.of {n ph : Nat} {I0 M0 I M : St} (h : RR n I M) (hph : M 1 0 = nI ph) (h0 : nI ph ≠ 0) (hI : FI I0 I) (hM : FM M0 M) : ∃ m e t, K m e t n ph I0 M0 I M := by
  obtain ⟨m, e, t, h1, h2, h3, h4, h5⟩ := h.1
  exact ⟨m, e, t, ⟨h1, h2, h3, h4⟩, h5 (by rw [hph]; exact h0), hph, hI, hM⟩
theorem K.RR {m e t n ph : Nat} {I0 M0 I M : St} (h : K m e t n ph I0 M0 I M) (h0 : RR n I0 M0) : RR n I M := h0.of h.LR (Nat.le_refl _) h.2.2.2.1 h.2.2.2.2
/-! a fine -/
def fine (b f : Int32) : Int32 := if f ≤ b then f else b
theorem imin_fine (b f : Int32) : imin f b = fine b f := by
  unfold imin fine
  by_cases h : b < f
  · rw [if_pos h, if_neg (fun q => by rw [Int32.lt_iff_toInt_lt] at h; rw [Int32.le_iff_toInt_le] at q; omega)]
  · rw [if_neg h, if_pos (by rw [Int32.lt_iff_toInt_lt] at h; rw [Int32.le_iff_toInt_le]; omega)]
theorem e_cpay (I : St) {p : Nat} (hp : p < 8) : f_X4_payFine (nI p) I = some (u2 (u2 I (5 + p) 0 (I (5 + p) 0 - fine (I (5 + p) 0) (I 0 7))) 0 4 (I 0 4 + fine (I (5 + p) 0) (I 0 7))) := by
  have e : u2 I (5 + p) 0 (I (5 + p) 0 - fine (I (5 + p) 0) (I 0 7)) 0 = I 0 := u2_off _ _ _ _ (by omega)
  rw [f_X4_payFine, lb_e, inb_nI hp (by decide), ck_t, nI_clamp (by omega), imin_fine, lb_e, ck_t, lb_e, lb_e, e, lb_e, lb_e]
theorem e_mpay (M : St) {p : Nat} (hp : p < 8) : f_X8_pays (nI p) M = some (u2 (u2 M 1 (20 + 40 * p + 0) (M 1 (20 + 40 * p + 0) - fine (M 1 (20 + 40 * p + 0)) (M 1 7))) 1 2 (M 1 2 + fine (M 1 (20 + 40 * p + 0)) (M 1 7))) := by
  have i1 : inb (nI (20 + 40 * p + 0)) 420 = true := inb_nI (by omega) (by decide)
  have e : ∀ x, u2 M 1 (20 + 40 * p + 0) x 1 2 = M 1 2 := fun x => by rw [u2_row, upd_ap, if_neg (by omega)]
  have key : ∀ x, f_X8_pays_b42 (nI p) x M = some (u2 (u2 M 1 (20 + 40 * p + 0) (M 1 (20 + 40 * p + 0) - x)) 1 2 (M 1 2 + x)) := fun x => by
    rw [f_X8_pays_b42, e_person, ob1_s, lit_nI 0, nI_add, lb_e, i1, ck_t, nI_clamp (by omega), lb_e, ck_t, lb_e, ib_2, ck_t, cl_2, e, lb_e, ck_t, lb_e]
  rw [f_X8_pays, e_person, ob1_s, lit_nI 0, nI_add, lb_e, i1, ck_t, nI_clamp (n := 20 + 40 * p + 0) (by omega), lb_e, ib_7, ck_t, cl_7]
  unfold fine
  by_cases h : M 1 7 ≤ M 1 (20 + 40 * p + 0)
  · rw [if_pos h, ck_t, key, if_pos h]
  · rw [if_neg h, ob1_s, lb_e, nI_add, i1, ck_t, nI_clamp (by omega), key, if_neg h]
theorem K.pay {m e t n ph : Nat} {I0 M0 I M : St} (h : K m e t n ph I0 M0 I M) {p : Nat} (hp : p < 8) : ∃ I' M', f_X4_payFine (nI p) I = some I' ∧ f_X8_pays (nI p) M = some M' ∧ K m e t n ph I0 M0 I' M' ∧ (∀ i, i ≠ 2 → i ≠ 20 + 40 * p + 0 → M' 1 i = M 1 i) ∧ (∀ o, o ≠ 1 → M' o = M o) := by
  refine ⟨_, _, e_cpay I hp, e_mpay M hp, ?_, fun i a b => ?_, fun o ho => ?_⟩
  · have e0 := h.1.1 _ _ _ (prP p hp).1
    have e1 := h.1.1 0 7 7 rfl
    have e2 := h.1.1 0 4 2 rfl
    rw [e0, e1, e2]
    exact (h.st (prP p hp).1 (Or.inr ⟨by omega, by omega, by omega⟩) _).st (show pr 0 4 = some 2 from rfl) (Or.inl rfl) _
  · rw [u2_row, upd_ap, if_neg a, u2_row, upd_ap, if_neg b]
  · rw [u2_off _ _ _ _ ho, u2_off _ _ _ _ ho]
/-! sets with one more, one less -/
theorem bs_add (f : Nat → Bool) {p : Nat} (hp : p < 8) : bs f ||| ishl 1 (nI p) = bs (fun q => f q || decide (q = p)) := by rw [bs_one hp, bs_or]
theorem bs_sub (f : Nat → Bool) {p : Nat} (hp : p < 8) : bs f &&& (ishl 1 (nI p) ^^^ (-1)) = bs (fun q => f q && !decide (q = p)) := by rw [bs_one hp, bs_andn]
theorem fl_u {m w w' p q : Nat} {v : Nat → Int32} {x : Int32} (hw : w < 40) (hw' : w' < 40) : fl m (upd v (20 + 40 * p + w') x) w q = if q = p ∧ w = w' then (decide (q < m) && decide (x = 1)) else fl m v w q := by
  unfold fl
  rw [upd_ap]
  by_cases h : q = p ∧ w = w'
  · rw [if_pos h, if_pos (by omega)]
  · rw [if_neg h, if_neg (by omega)]
