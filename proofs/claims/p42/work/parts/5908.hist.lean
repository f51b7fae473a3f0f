/-! copying a lab, slot by slot -/
def cpS (o0 o1 : Nat) (I0 : St) (S : Nat → Nat → Bool) : St := fun o k => if o0 ≤ o ∧ o < o0 + 29 ∧ S (o - o0) k = true then I0 (o1 + (o - o0)) k else I0 o k
def ad1 (S : Nat → Nat → Bool) (j k : Nat) : Nat → Nat → Bool := fun j' k' => S j' k' || (decide (j' = j) && decide (k' = k))
def adn (S : Nat → Nat → Bool) (j n : Nat) : Nat → Nat → Bool := fun j' k' => S j' k' || (decide (j' = j) && decide (k' < n))
theorem cp_src {o0 o1 : Nat} (hd : o1 + 29 ≤ o0 ∨ o0 + 29 ≤ o1) (I0 : St) (S : Nat → Nat → Bool) {j : Nat} (hj : j < 29) : cpS o0 o1 I0 S (o1 + j) = I0 (o1 + j) := by
  funext k
  exact if_neg (by omega)
theorem cp_1 {o0 o1 : Nat} (hd : o1 + 29 ≤ o0 ∨ o0 + 29 ≤ o1) (I0 : St) (S : Nat → Nat → Bool) {j : Nat} (hj : j < 29) (k : Nat) : u2 (cpS o0 o1 I0 S) (o0 + j) k (cpS o0 o1 I0 S (o1 + j) k) = cpS o0 o1 I0 (ad1 S j k) := by
  rw [cp_src hd I0 S hj]
  funext o' k'
  rw [u2_ap]
  by_cases h1 : o' = o0 + j
  · subst h1
    rw [if_pos rfl]
    have e : o0 + j - o0 = j := by omega
    by_cases h2 : k' = k
    · subst h2
      rw [if_pos rfl]
      unfold cpS ad1
      rw [if_pos (by rw [e]; exact ⟨by omega, by omega, by simp⟩), e]
    · rw [if_neg h2]
      unfold cpS ad1
      simp [h2]
  · rw [if_neg h1]
    unfold cpS ad1
    by_cases h3 : o0 ≤ o'
    · have : ¬ o' - o0 = j := by omega
      simp [this]
    · simp [h3]
theorem cp_n {o0 o1 : Nat} (hd : o1 + 29 ≤ o0 ∨ o0 + 29 ≤ o1) (I0 : St) (S : Nat → Nat → Bool) {j : Nat} (hj : j < 29) (n : Nat) : ur (cpS o0 o1 I0 S) (o0 + j) (va_cpy (cpS o0 o1 I0 S (o1 + j)) (cpS o0 o1 I0 S (o0 + j)) 0 0 n) = cpS o0 o1 I0 (adn S j n) := by
  rw [cp_src hd I0 S hj]
  funext o' k'
  rw [ur_ap]
  by_cases h1 : o' = o0 + j
  · subst h1
    rw [if_pos rfl]
    have e : o0 + j - o0 = j := by omega
    by_cases h2 : k' < n
    · rw [pk_cpy_in (Nat.zero_le _) (by omega)]
      unfold cpS adn
      rw [if_pos (by rw [e]; exact ⟨by omega, by omega, by simp [h2]⟩), e]
      simp
    · rw [pk_cpy_out (Or.inr (by omega))]
      unfold cpS adn
      simp [h2]
  · rw [if_neg h1]
    unfold cpS adn
    by_cases h3 : o0 ≤ o'
    · have : ¬ o' - o0 = j := by omega
      simp [this]
    · simp [h3]
def padd (p : Nat) (S : Nat → Nat → Bool) : Nat → Nat → Bool :=
  adn (adn (ad1 (ad1 (ad1 (ad1 (ad1 (ad1 (ad1 (ad1 (ad1 (ad1 S (5 + p) 0) (5 + p) 1) (5 + p) 2) (5 + p) 3) (5 + p) 4) (5 + p) 5) (5 + p) 6) (5 + p) 7) (5 + p) 8) (5 + p) 9) (5 + p + 8) 8) (5 + p + 16) 8
theorem e_pcopy {b0 b1 : Nat} (h0 : b0 < 5) (h1 : b1 < 5) (hne : b0 ≠ b1) (I0 : St) (S : Nat → Nat → Bool) {p : Nat} (hp : p < 8) : f_X5_copy (29 * b0 + 5 + p) (29 * b1 + 5 + p) (cpS (29 * b0) (29 * b1) I0 S) = some (cpS (29 * b0) (29 * b1) I0 (padd p S)) := by
  have hd : 29 * b1 + 29 ≤ 29 * b0 ∨ 29 * b0 + 29 ≤ 29 * b1 := by omega
  have l0 : isL (29 * b0) = true := by have : ∀ n, n < 5 → isL (29 * n) = true := by decide
                                       exact this b0 h0
  have l1 : isL (29 * b1) = true := by have : ∀ n, n < 5 → isL (29 * n) = true := by decide
                                       exact this b1 h1
  have p0 := isL_P l0 hp
  have p1 := isL_P l1 hp
  have r0 : ∀ S k, u2 (cpS (29 * b0) (29 * b1) I0 S) (29 * b0 + 5 + p) k (cpS (29 * b0) (29 * b1) I0 S (29 * b1 + 5 + p) k) = cpS (29 * b0) (29 * b1) I0 (ad1 S (5 + p) k) := fun S k => by
    rw [Nat.add_assoc, Nat.add_assoc]
    exact cp_1 hd I0 S (by omega) k
  have r8 : ∀ S, ur (cpS (29 * b0) (29 * b1) I0 S) (29 * b0 + 5 + p + 8) (va_cpy (cpS (29 * b0) (29 * b1) I0 S (29 * b1 + 5 + p + 8)) (cpS (29 * b0) (29 * b1) I0 S (29 * b0 + 5 + p + 8)) 0 0 8) = cpS (29 * b0) (29 * b1) I0 (adn S (5 + p + 8) 8) := fun S => by
    have := cp_n hd I0 S (j := 5 + p + 8) (by omega) 8
    rwa [show 29 * b0 + (5 + p + 8) = 29 * b0 + 5 + p + 8 by omega, show 29 * b1 + (5 + p + 8) = 29 * b1 + 5 + p + 8 by omega] at this
  have r16 : ∀ S, ur (cpS (29 * b0) (29 * b1) I0 S) (29 * b0 + 5 + p + 16) (va_cpy (cpS (29 * b0) (29 * b1) I0 S (29 * b1 + 5 + p + 16)) (cpS (29 * b0) (29 * b1) I0 S (29 * b0 + 5 + p + 16)) 0 0 8) = cpS (29 * b0) (29 * b1) I0 (adn S (5 + p + 16) 8) := fun S => by
    have := cp_n hd I0 S (j := 5 + p + 16) (by omega) 8
    rwa [show 29 * b0 + (5 + p + 16) = 29 * b0 + 5 + p + 16 by omega, show 29 * b1 + (5 + p + 16) = 29 * b1 + 5 + p + 16 by omega] at this
  simp only [f_X5_copy, p0, p1, ob1_s, ob2_s, ck_t, lb_e, r0, r8, r16]
  rfl
def cadd (S : Nat → Nat → Bool) : Nat → Nat → Bool :=
  adn (ad1 (ad1 (ad1 (ad1 (ad1 (ad1 (ad1 S 3 0) 3 1) 3 2) 3 3) 3 4) 3 5) 3 6) 4 96
theorem e_ccopy {b0 b1 : Nat} (h0 : b0 < 5) (h1 : b1 < 5) (hne : b0 ≠ b1) (I0 : St) (S : Nat → Nat → Bool) : f_X0_copy (29 * b0 + 3) (29 * b1 + 3) (cpS (29 * b0) (29 * b1) I0 S) = some (cpS (29 * b0) (29 * b1) I0 (cadd S)) := by
  have hd : 29 * b1 + 29 ≤ 29 * b0 ∨ 29 * b0 + 29 ≤ 29 * b1 := by omega
  have l0 : isL (29 * b0) = true := by have : ∀ n, n < 5 → isL (29 * n) = true := by decide
                                       exact this b0 h0
  have l1 : isL (29 * b1) = true := by have : ∀ n, n < 5 → isL (29 * n) = true := by decide
                                       exact this b1 h1
  have p0 := isL_C l0
  have p1 := isL_C l1
  have r0 : ∀ S k, u2 (cpS (29 * b0) (29 * b1) I0 S) (29 * b0 + 3) k (cpS (29 * b0) (29 * b1) I0 S (29 * b1 + 3) k) = cpS (29 * b0) (29 * b1) I0 (ad1 S 3 k) := fun S k => cp_1 hd I0 S (by omega) k
  have r8 : ∀ S, ur (cpS (29 * b0) (29 * b1) I0 S) (29 * b0 + 3 + 1) (va_cpy (cpS (29 * b0) (29 * b1) I0 S (29 * b1 + 3 + 1)) (cpS (29 * b0) (29 * b1) I0 S (29 * b0 + 3 + 1)) 0 0 96) = cpS (29 * b0) (29 * b1) I0 (adn S 4 96) := fun S => by
    exact cp_n hd I0 S (j := 4) (by omega) 96
  simp only [f_X0_copy, p0, p1, ob1_s, ob2_s, ck_t, lb_e, r0, r8]
  rfl
def ladd (S : Nat → Nat → Bool) : Nat → Nat → Bool :=
  ad1 (ad1 (ad1 (ad1 (ad1 (ad1 (ad1 (ad1 (ad1 (ad1 (ad1 (cadd (adn S 2 8)) 0 3) 0 4) 0 5) 0 6) 0 7) 0 8) 0 9) 0 10) 0 11) 0 12) 0 13
theorem e_lcopy {b0 b1 : Nat} (h0 : b0 < 5) (h1 : b1 < 5) (hne : b0 ≠ b1) (I0 : St) : ∀ (d i F : Nat) (S : Nat → Nat → Bool), i + d = 8 → d < F → f_X4_copy_l2 (29 * b0) (29 * b1) F (nI i) (cpS (29 * b0) (29 * b1) I0 S) = some (cpS (29 * b0) (29 * b1) I0 (ladd (fo padd d i S))) := by
  have hd : 29 * b1 + 29 ≤ 29 * b0 ∨ 29 * b0 + 29 ≤ 29 * b1 := by omega
  intro d
  induction d with
  | zero =>
    intro i F S hi hF
    obtain ⟨F, rfl⟩ : ∃ g, F = g + 1 := ⟨F - 1, by omega⟩
    have e8 : (8 : Int32) ≤ nI i := by
      rw [show (8 : Int32) = nI 8 from rfl]
      exact nI_le (by omega) (by omega)
    have r0 : ∀ S k, u2 (cpS (29 * b0) (29 * b1) I0 S) (29 * b0) k (cpS (29 * b0) (29 * b1) I0 S (29 * b1) k) = cpS (29 * b0) (29 * b1) I0 (ad1 S 0 k) := fun S k => cp_1 hd I0 S (j := 0) (by omega) k
    have r2 : ∀ S, ur (cpS (29 * b0) (29 * b1) I0 S) (29 * b0 + 2) (va_cpy (cpS (29 * b0) (29 * b1) I0 S (29 * b1 + 2)) (cpS (29 * b0) (29 * b1) I0 S (29 * b0 + 2)) 0 0 8) = cpS (29 * b0) (29 * b1) I0 (adn S 2 8) := fun S => cp_n hd I0 S (j := 2) (by omega) 8
    rw [f_X4_copy_l2, if_pos e8]
    simp only [ob1_s, ob2_s, ck_t, lb_e, r2, e_ccopy h0 h1 hne, r0]
    rfl
  | succ d ih =>
    intro i F S hi hF
    obtain ⟨F, rfl⟩ : ∃ g, F = g + 1 := ⟨F - 1, by omega⟩
    have e8 : ¬ (8 : Int32) ≤ nI i := by
      rw [show (8 : Int32) = nI 8 from rfl]
      exact nI_ge (by omega) (by omega)
    have i8 : inb (nI i) 8 = true := inb_nI (by omega) (by decide)
    rw [f_X4_copy_l2, if_neg e8]
    simp only [i8, ob1_s, ob2_s, ck_t, lb_e, nI_clamp (n := i) (by omega), e_pcopy h0 h1 hne I0 S (p := i) (by omega), nI_1]
    rw [ih (i + 1) F _ (by omega) (by omega)]
    rfl
/-- the slots that count -/
def kv (j k : Nat) : Bool := if j = 0 then decide (3 ≤ k) && decide (k < 14) else if j = 1 then false else if j = 2 then decide (k < 8) else if j = 3 then decide (k < 7) else if j = 4 then decide (k < 96) else if j < 13 then decide (k < 10) else decide (j < 29) && decide (k < 8)
theorem kv_all : ∀ j, j < 29 → ∀ k, k < 96 → kv j k = true → ladd (fo padd 8 0 (fun _ _ => false)) j k = true := by decide +kernel
theorem kv_lt {j k : Nat} (h : kv j k = true) : j < 29 ∧ k < 96 := by
  unfold kv at h
  repeat' split at h
  all_goals simp at h
  all_goals omega
theorem e_copy {b0 b1 : Nat} (h0 : b0 < 5) (h1 : b1 < 5) (hne : b0 ≠ b1) (I : St) : ∃ I', f_X4_copy (29 * b0) (29 * b1) I = some I' ∧ (∀ j k, kv j k = true → I' (29 * b0 + j) k = I (29 * b1 + j) k) ∧ (∀ o, (o < 29 * b0 ∨ 29 * b0 + 29 ≤ o) → I' o = I o) := by
  have l0 : isL (29 * b0) = true := by have : ∀ n, n < 5 → isL (29 * n) = true := by decide
                                       exact this b0 h0
  have l1 : isL (29 * b1) = true := by have : ∀ n, n < 5 → isL (29 * n) = true := by decide
                                       exact this b1 h1
  have e0 : cpS (29 * b0) (29 * b1) I (fun _ _ => false) = I := by
    funext o k
    simp [cpS]
  have h := e_lcopy h0 h1 hne I 8 0 10000 (fun _ _ => false) rfl (by decide)
  rw [e0] at h
  refine ⟨_, by simp only [f_X4_copy, l0, l1, ck_t]; exact h, fun j k hk => ?_, fun o ho => ?_⟩
  · obtain ⟨hj, hk2⟩ := kv_lt hk
    have e : 29 * b0 + j - 29 * b0 = j := by omega
    unfold cpS
    rw [if_pos (by rw [e]; exact ⟨by omega, by omega, kv_all j hj k hk2 hk⟩), e]
  · funext k
    unfold cpS
    exact if_neg (by omega)
/-! the relation looks at no other slots -/
theorem pr_kv {j k i : Nat} (h : pr j k = some i) : kv j k = true := by
  have : ∀ j, j < 29 → ∀ k, k < 96 → (match pr j k with | none => true | some _ => kv j k) = true := by decide +kernel
  obtain ⟨h1, h2⟩ := pr_dom h
  have := this j h1 k h2
  rw [h] at this
  exact this
theorem hq_congr {c c' : Nat → Nat} (x : Nat) : ∀ (d s : Nat), (∀ k, k < d → c' k = c k) → hq c' x d s = hq c x d s := by
  intro d
  induction d with
  | zero => intro s _; rfl
  | succ d ih =>
    intro s h
    unfold hq
    rw [h d (by omega)]
    exact ih _ (fun k hk => h k (by omega))
theorem gd_congr {t : Nat} (ht : t ≤ 8) {v v' : Nat → Int32} {p j : Nat} (hj : j < 8) (h : ∀ k, 14 ≤ k → k < 30 → v' (20 + 40 * p + k) = v (20 + 40 * p + k)) : gd t v' p j = gd t v p j := by
  have e1 : v' (20 + 40 * p + 22 + j) = v (20 + 40 * p + 22 + j) := by
    have := h (22 + j) (by omega) (by omega)
    rwa [← Nat.add_assoc] at this
  have e2 : hq (co v' p) (j + 1) t 0 = hq (co v p) (j + 1) t 0 := hq_congr _ _ _ (fun k hk => by
    have := h (14 + k) (by omega) (by omega)
    rw [← Nat.add_assoc] at this
    exact congrArg Int32.toNatClampNeg this)
  unfold gd
  rw [e1, e2]
theorem DL_congr {t : Nat} {L L' : St} {v v' : Nat → Int32} {p : Nat} (hp : p < 8) (ht : t ≤ 8) (hL : ∀ j k, kv j k = true → L' j k = L j k) (hv : ∀ i, i < 420 → v' i = v i) (h : DL t L v p) : DL t L' v' p := by
  obtain ⟨h1, h2, h3⟩ := h
  have k1 : ∀ k, k < t → L' (5 + p + 16) k = L (5 + p + 16) k := fun k hk => hL _ _ (by
    have : ∀ p, p < 8 → ∀ k, k < 8 → kv (5 + p + 16) k = true := by decide
    exact this p hp k (by omega))
  have k2 : L' (5 + p) 9 = L (5 + p) 9 := hL _ _ (by
    have : ∀ p, p < 8 → kv (5 + p) 9 = true := by decide
    exact this p hp)
  have ec : ∀ k, k < 8 → v' (20 + 40 * p + 14 + k) = v (20 + 40 * p + 14 + k) := fun k hk => hv _ (by omega)
  have es : ∀ k, k < 8 → v' (20 + 40 * p + 22 + k) = v (20 + 40 * p + 22 + k) := fun k hk => hv _ (by omega)
  refine ⟨fun k hk => ?_, fun j hj => ?_, ?_⟩
  · obtain ⟨c, c1, c2, c3⟩ := h1 k hk
    exact ⟨c, c1, by rw [ec k (by omega)]; exact c2, by rw [k1 k hk]; exact c3⟩
  · obtain ⟨s, s1, s2⟩ := h2 j hj
    exact ⟨s, s1, by rw [es j hj]; exact s2⟩
  · rw [k2, h3]
    exact bs_congr fun j hj => (gd_congr ht hj (fun k _ _ => hv _ (by omega))).symm
theorem fl_congr {m : Nat} (hm : m ≤ 8) {v v' : Nat → Int32} (hv : ∀ i, i < 420 → v' i = v i) {w : Nat} (hw : w < 40) (p : Nat) : fl m v' w p = fl m v w p := by
  unfold fl
  by_cases h : p < m
  · rw [hv _ (by omega)]
  · simp [h]
theorem LR_congr {n : Nat} {L L' : St} {v v' : Nat → Int32} (hL : ∀ j k, kv j k = true → L' j k = L j k) (hv : ∀ i, i < 420 → v' i = v i) (h : LR n L v) : LR n L' v' := by
  obtain ⟨m, e, t, h1, h2, h3, h4, h5⟩ := h
  obtain ⟨w1, w2, w3, w4, w5, w6, w7, w8, w9, w10, w11⟩ := id h2
  refine ⟨m, e, t, fun j k i hp => ?_, ?_, fun s hs => ?_, ?_, fun hph => ?_⟩
  · rw [hL j k (pr_kv hp), hv i (pr_ip hp).1]
    exact h1 j k i hp
  · unfold WV
    rw [hv 4 (by decide), hv 1 (by decide), hv 6 (by decide), hv 0 (by decide), hv 5 (by decide), hv 8 (by decide), hv 11 (by decide), hv 13 (by decide)]
    exact h2
  · obtain ⟨f, f1, f2⟩ := h3 s hs
    refine ⟨f, by rw [hv _ (by omega)]; exact f1, ?_⟩
    rw [hL 4 (6 * s + 3) (by
      have : ∀ s, s < 16 → kv 4 (6 * s + 3) = true := by decide
      exact this s hs), hv _ (by omega), hv _ (by omega)]
    exact f2
  · rw [hv 11 (by decide), hv 12 (by decide), hL 3 6 (by decide)]
    exact h4
  · rw [hv 0 (by decide)] at hph
    obtain ⟨r1, r2, r3, r4, r5, r6, r7⟩ := h5 hph
    have e5 := fl_congr w1 hv (w := 5) (by decide)
    have e6 := fl_congr w1 hv (w := 6) (by decide)
    have e7 := fl_congr w1 hv (w := 7) (by decide)
    have e8 := fl_congr w1 hv (w := 8) (by decide)
    refine ⟨?_, ?_, ?_, ?_, ?_, ?_, ?_⟩
    · rw [hL 0 10 (by decide), r1]; exact bs_congr fun p _ => (e5 p).symm
    · rw [hL 0 11 (by decide), r2]; exact bs_congr fun p _ => by rw [e5, e6]
    · rw [hL 0 12 (by decide), r3]; exact bs_congr fun p _ => by rw [e5, e7]
    · rw [hL 0 13 (by decide), r4]; exact bs_congr fun p _ => (e8 p).symm
    · rw [hv 0 (by decide)]; intro q p hp; rw [e7]; exact r5 q p hp
    · rw [hv 0 (by decide)]; intro q p hp; rw [e5, e6]; exact r6 q p hp
    · rw [hv 5 (by decide)]; intro q p hp; rw [e5, e6]; exact fun a b => DL_congr hp w6 hL hv (r7 q p hp a b)
theorem LR_mono {n n' : Nat} {L : St} {v : Nat → Int32} (h : LR n L v) (hn : n ≤ n') : LR n' L v := by
  obtain ⟨m, e, t, h1, ⟨w1, w2, w3, w4⟩, h3⟩ := h
  exact ⟨m, e, t, h1, ⟨w1, w2, Nat.le_trans w3 hn, w4⟩, h3⟩
