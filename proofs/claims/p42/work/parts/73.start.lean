/-! the world at the start, by numbers -/
def I0 : St := fun o k => if o < 145 then LI (o % 29) k else if o = 147 then nI (k + 1) else 0
def M0 : St := fun o k => if o = 1 then upd (upd (upd (upd (fun _ => (0 : Int32)) 6 2) 7 10) 8 100) 12 (-1) k else 0
def ado (x0 : Nat) (a : Nat → Nat) (qh qs : Nat) (aa : Nat → Nat → Nat) (qc c1 c2 c3 : Nat) (o : Nat) : Nat :=
  if o < 29 then a o else if o < 145 then aa (o / 29 - 1) (o % 29) else if o = 145 then x0 else if o = 146 then qh else if o = 147 then qs else if o = 148 then qc else if o = 149 then c1 else if o = 150 then c2 else c3
def psn (o : Nat) : Nat := if o < 29 then o + 1 else if o < 145 then o + 3 else if o = 145 then 0 else if o = 146 then 30 else if o = 147 then 31 else o
theorem psn_inj : ∀ i, i < 152 → ∀ j, j < 152 → psn i = psn j → i = j := by decide +kernel
theorem kd_sh : ∀ n, n < 5 → ∀ j, j < 29 → kd (29 * n + j) = kl j ∧ ln (29 * n + j) = (if j = 4 then 96 else 8) := by decide +kernel
theorem kl_c : ∀ j, j < 29 → (j = 0 ∧ kl j = 3) ∨ (j = 1 ∧ kl j = 9) ∨ (j = 3 ∧ kl j = 0) ∨ ((5 ≤ j ∧ j < 13) ∧ kl j = 4) ∨ kl j = 7 := by decide +kernel
theorem va_at_inl {D : va_G} {cl : List vw_C} {q : Nat} {cA : ClassId} {n : Nat} {f g : Nat → Option Nat} {H : Heap} (h : va_at D cl (q, .inl (cA, n, .inr (.inr (.inr (.inr f))))) H) (e : ∀ k, k < n → f k = g k) : va_at D cl (q, .inl (cA, n, .inr (.inr (.inr (.inr g))))) H := by
  have h1 : H[q]? = some (vp_cell cA (n, .inr (.inr (.inr (.inr f))))) := h
  show H[q]? = some (vp_cell cA (n, .inr (.inr (.inr (.inr g)))))
  rw [h1, vp_cell_q, vp_cell_q, arrV_ext (fun k hk => by rw [e k hk])]
set_option maxHeartbeats 4000000 in
theorem cel_at {D : va_G} {cl : List vw_C} {tc : Tc} {ad a : Nat → Nat} {f : Nat → Int32} {n j q : Nat} {H : Heap} (hn : n < 5) (hj : j < 29) (ha : ∀ x, x < 29 → ad (29 * n + x) = a x) (h : va_at D cl (q, cel tc a f j) H) : va_at D cl (q, cel tc ad f (29 * n + j)) H := by
  obtain ⟨k1, k2⟩ := kd_sh n hn j hj
  obtain ⟨k3, k4⟩ := kd_sh 0 (by decide) j hj
  rw [Nat.mul_zero, Nat.zero_add] at k3 k4
  rcases kl_c j hj with ⟨rfl, e⟩ | ⟨rfl, e⟩ | ⟨rfl, e⟩ | ⟨hj2, e⟩ | e
  · rw [e] at k1 k3
    rw [cel_obj k3 (by decide)] at h
    rw [cel_obj k1 (by decide)]
    have el : (List.range (nf 3)).map (fv ad f 3 (29 * n + 0)) = (List.range (nf 3)).map (fv a f 3 0) := by
      refine List.map_congr_left fun k hk => ?_
      have hk14 : k < 14 := List.mem_range.mp hk
      rcases (show k = 0 ∨ k = 1 ∨ k = 2 ∨ k = 3 ∨ k = 4 ∨ k = 5 ∨ k = 6 ∨ k = 7 ∨ k = 8 ∨ k = 9 ∨ k = 10 ∨ k = 11 ∨ k = 12 ∨ k = 13 by omega) with rfl | rfl | rfl | rfl | rfl | rfl | rfl | rfl | rfl | rfl | rfl | rfl | rfl | rfl
      · exact congrArg Value.ref (ha 1 (by decide))
      · exact congrArg Value.ref (ha 2 (by decide))
      · exact congrArg Value.ref (ha 3 (by decide))
      all_goals rfl
    rw [el]; exact h
  · rw [e] at k1 k3
    rw [cel_per k3, k4] at h
    rw [cel_per k1, k2]
    exact va_at_inl h (fun k hk => by
      have : k < 8 := hk
      rw [show 29 * n + 1 + 4 + k = 29 * n + (1 + 4 + k) by omega, ha _ (by omega)])
  · rw [e] at k1 k3
    rw [cel_obj k3 (by decide)] at h
    rw [cel_obj k1 (by decide)]
    have el : (List.range (nf 0)).map (fv ad f 0 (29 * n + 3)) = (List.range (nf 0)).map (fv a f 0 3) := by
      refine List.map_congr_left fun k hk => ?_
      have hk14 : k < 8 := List.mem_range.mp hk
      rcases (show k = 7 ∨ k = 1 ∨ k = 2 ∨ k = 3 ∨ k = 4 ∨ k = 5 ∨ k = 6 ∨ k = 0 by omega) with rfl | rfl | rfl | rfl | rfl | rfl | rfl | rfl
      · exact congrArg Value.ref (ha 4 (by decide))
      all_goals rfl
    rw [el]; exact h
  · rw [e] at k1 k3
    rw [cel_obj k3 (by decide)] at h
    rw [cel_obj k1 (by decide)]
    have el : (List.range (nf 4)).map (fv ad f 4 (29 * n + j)) = (List.range (nf 4)).map (fv a f 4 j) := by
      refine List.map_congr_left fun k hk => ?_
      have hk14 : k < 12 := List.mem_range.mp hk
      rcases (show k = 10 ∨ k = 11 ∨ k = 2 ∨ k = 3 ∨ k = 4 ∨ k = 5 ∨ k = 6 ∨ k = 0 ∨ k = 1 ∨ k = 7 ∨ k = 8 ∨ k = 9 by omega) with rfl | rfl | rfl | rfl | rfl | rfl | rfl | rfl | rfl | rfl | rfl | rfl
      · exact congrArg Value.ref ((congrArg ad (Nat.add_assoc _ _ _)).trans (ha (j + 8) (by omega)))
      · exact congrArg Value.ref ((congrArg ad (Nat.add_assoc _ _ _)).trans (ha (j + 16) (by omega)))
      all_goals rfl
    rw [el]; exact h
  · rw [e] at k1 k3
    rw [cel_int k3, k4] at h
    rw [cel_int k1, k2]
    exact h
section
variable {D : va_G} {tc : Tc} {A : Nat → Prop} {H : Heap} {x0 : Nat} {a : Nat → Nat} {qh qs : Nat} {aa : Nat → Nat → Nat} {qc c1 c2 c3 : Nat}
def TW (tc : Tc) (x0 : Nat) (a : Nat → Nat) (qh qs : Nat) (aa : Nat → Nat → Nat) (qc c1 c2 c3 : Nat) : va_W := OWl tc x0 a qh qs aa qc c1 c2 c3
theorem OW_len {v0 v1 v2 : Value} : (OW tc x0 v0 v1 v2 a).length = 30 := by rw [OW, List.length_cons, LW_len]
theorem HWl_len : (HWl tc qh qs aa).length = 118 := by rw [HWl, List.length_append, LL_len]; rfl
theorem OWl_len : (OWl tc x0 a qh qs aa qc c1 c2 c3).length = 152 := by rw [OWl, List.length_append, List.length_append, OW_len, HWl_len]; rfl
theorem TW_a {k : Nat} (h : k < 30) : (TW tc x0 a qh qs aa qc c1 c2 c3)[k]? = (OW tc x0 (.ref (a 0)) (.ref qh) (.ref qc) a)[k]? := by
  rw [TW, OWl, List.getElem?_append_left (by rw [List.length_append, OW_len]; omega), List.getElem?_append_left (by rw [OW_len]; omega)]
theorem TW_b {k : Nat} (h1 : 30 ≤ k) (h : k < 148) : (TW tc x0 a qh qs aa qc c1 c2 c3)[k]? = (HWl tc qh qs aa)[k - 30]? := by
  rw [TW, OWl, List.getElem?_append_left (by rw [List.length_append, OW_len, HWl_len]; omega), List.getElem?_append_right (by rw [OW_len]; omega), OW_len]
theorem TW_c {k : Nat} (h1 : 148 ≤ k) (h : k < 152) : (TW tc x0 a qh qs aa qc c1 c2 c3)[k]? = (wX_X1 tc qc c1 c2 c3)[k - 148]? := by
  rw [TW, OWl, List.getElem?_append_right (by rw [List.length_append, OW_len, HWl_len]; omega), List.length_append, OW_len, HWl_len]
theorem LIe {n j : Nat} (hn : n < 5) (hj : j < 29) : cmb I0 M0 (29 * n + j) = LI j := by
  rw [cmb_lt (show 29 * n + j < 152 by omega)]
  funext k
  show (if 29 * n + j < 145 then LI ((29 * n + j) % 29) k else _) = _
  rw [if_pos (by omega), show (29 * n + j) % 29 = j by omega]
set_option maxHeartbeats 4000000 in
set_option maxRecDepth 100000 in
theorem TW_at (hP : va_P D vwCl (TW tc x0 a qh qs aa qc c1 c2 c3) H) {o : Nat} (ho : o < 152) : (∃ e, (TW tc x0 a qh qs aa qc c1 c2 c3)[psn o]? = some (ado x0 a qh qs aa qc c1 c2 c3 o, e)) ∧ va_at D vwCl (ado x0 a qh qs aa qc c1 c2 c3 o, cel tc (ado x0 a qh qs aa qc c1 c2 c3) (cmb I0 M0 o) o) H := by
  generalize hb : ado x0 a qh qs aa qc c1 c2 c3 = b
  have b29 : ∀ x, x < 29 → b x = a x := fun x hx => by rw [← hb]; exact if_pos hx
  have bL : ∀ n x, 1 ≤ n → n < 5 → x < 29 → b (29 * n + x) = aa (n - 1) x := fun n x h1 h2 hx => by
    rw [← hb]
    unfold ado
    rw [if_neg (by omega), if_pos (by omega), show (29 * n + x) / 29 - 1 = n - 1 by omega, show (29 * n + x) % 29 = x by omega]
  by_cases c1' : o < 29
  · have g : (TW tc x0 a qh qs aa qc c1 c2 c3)[o + 1]? = some (a o, cel tc a (LI o) o) := by
      rw [TW_a (by omega), OW, List.getElem?_cons_succ]
      exact LW_get c1'
    have e1 : psn o = o + 1 := if_pos c1'
    rw [e1, b29 o c1']
    refine ⟨⟨_, g⟩, ?_⟩
    have h0 := hP _ _ g
    have h1 := cel_at (n := 0) (ad := b) (by decide) c1' (fun x hx => by rw [Nat.mul_zero, Nat.zero_add]; exact b29 x hx) h0
    have e2 := LIe (n := 0) (by decide) c1'
    rw [Nat.mul_zero, Nat.zero_add] at h1 e2
    rw [e2]; exact h1
  · by_cases c2' : o < 145
    · obtain ⟨n, j, rfl, hn1, hn5, hj⟩ : ∃ n j, o = 29 * n + j ∧ 1 ≤ n ∧ n < 5 ∧ j < 29 := ⟨o / 29, o % 29, by omega, by omega, by omega, by omega⟩
      have g : (TW tc x0 a qh qs aa qc c1 c2 c3)[29 * n + j + 3]? = some (aa (n - 1) j, cel tc (aa (n - 1)) (LI j) j) := by
        rw [TW_b (by omega) (by omega), HWl, List.getElem?_append_right (by show 2 ≤ _; omega), show 29 * n + j + 3 - 30 - (B2 tc qh qs (hf aa 4)).length = 29 * (n - 1) + j by show 29 * n + j + 3 - 30 - 2 = _; omega]
        exact LL_get hj 4 (n - 1) (by omega)
      have e1 : psn (29 * n + j) = 29 * n + j + 3 := by unfold psn; rw [if_neg (by omega), if_pos (by omega)]
      rw [e1, bL n j hn1 hn5 hj]
      refine ⟨⟨_, g⟩, ?_⟩
      have h0 := hP _ _ g
      rw [LIe hn5 hj]
      exact cel_at (n := n) (ad := b) hn5 hj (fun x hx => bL n x hn1 hn5 hx) h0
    · rcases (show o = 145 ∨ o = 146 ∨ o = 147 ∨ o = 148 ∨ o = 149 ∨ o = 150 ∨ o = 151 by omega) with rfl | rfl | rfl | rfl | rfl | rfl | rfl
      · have g : (TW tc x0 a qh qs aa qc c1 c2 c3)[0]? = some (x0, .inr (5, [.ref (a 0), .ref qh, .ref qc])) := (TW_a (by omega)).trans rfl
        subst hb
        exact ⟨⟨_, g⟩, hP _ _ g⟩
      · have g : (TW tc x0 a qh qs aa qc c1 c2 c3)[30]? = some (qh, .inr (2, [.ref qs, .int 0])) := (TW_b (by omega) (by omega)).trans rfl
        subst hb
        exact ⟨⟨_, g⟩, hP _ _ g⟩
      · have g : (TW tc x0 a qh qs aa qc c1 c2 c3)[31]? = some (qs, .inl (tc.2.1, 4, .inr (.inr (.inr (.inr (hf aa 4)))))) := (TW_b (by omega) (by omega)).trans rfl
        have e1 : b 147 = qs := by rw [← hb]; rfl
        refine ⟨⟨_, by rw [e1]; exact g⟩, ?_⟩
        have e2 : cel tc b (cmb I0 M0 147) 147 = .inl (tc.2.1, 4, .inr (.inr (.inr (.inr (fun k => some (b (29 * (nI (k + 1)).toNatClampNeg))))))) := rfl
        rw [e1, e2]
        refine va_at_inl (hP _ _ g) (fun k hk => ?_)
        rw [nI_clamp (by omega)]
        have := bL (k + 1) 0 (by omega) (by omega) (by decide)
        rw [Nat.add_zero] at this
        rw [this]
        unfold hf pf
        rw [if_pos hk, Nat.add_sub_cancel]
      · have g : (TW tc x0 a qh qs aa qc c1 c2 c3)[148]? = some (qc, .inr (1, [.ref c1, .ref c2, .ref c3, .int 0, .int 0])) := (TW_c (by omega) (by omega)).trans rfl
        subst hb
        exact ⟨⟨_, g⟩, hP _ _ g⟩
      · have g : (TW tc x0 a qh qs aa qc c1 c2 c3)[149]? = some (c1, aZ tc 256) := (TW_c (by omega) (by omega)).trans rfl
        subst hb
        exact ⟨⟨_, g⟩, hP _ _ g⟩
      · have g : (TW tc x0 a qh qs aa qc c1 c2 c3)[150]? = some (c2, aZ tc 256) := (TW_c (by omega) (by omega)).trans rfl
        subst hb
        exact ⟨⟨_, g⟩, hP _ _ g⟩
      · have g : (TW tc x0 a qh qs aa qc c1 c2 c3)[151]? = some (c3, aZ tc 8) := (TW_c (by omega) (by omega)).trans rfl
        subst hb
        exact ⟨⟨_, g⟩, hP _ _ g⟩
theorem TW_wl (hP : va_P D vwCl (TW tc x0 a qh qs aa qc c1 c2 c3) H) (hD : va_D A (TW tc x0 a qh qs aa qc c1 c2 c3)) : va_P D vwCl (wl tc (ado x0 a qh qs aa qc c1 c2 c3) (cmb I0 M0)) H ∧ adok (ado x0 a qh qs aa qc c1 c2 c3) A := by
  refine ⟨fun k q hk => ?_, fun i j hi hj h => ?_, fun o ho => ?_⟩
  · obtain ⟨k1, rfl⟩ := wl_inv hk
    exact (TW_at hP k1).2
  · obtain ⟨e1, g1⟩ := (TW_at hP hi).1
    obtain ⟨e2, g2⟩ := (TW_at hP hj).1
    exact psn_inj i hi j hj (hD.1 _ _ _ _ g1 g2 h)
  · obtain ⟨e1, g1⟩ := (TW_at hP ho).1
    exact hD.2 _ _ g1
end
/-! related at the start -/
theorem LE0 : ∀ j, j < 29 → ∀ k, k < 96 → (match pr j k with | none => true | some i => decide (I0 j k = M0 1 i)) = true := by decide +kernel
theorem UN0 : ∀ s, s < 16 → M0 1 (340 + 5 * s + 1) = bs (fun _ => false) ∧ I0 4 (6 * s + 3) = (if M0 1 (340 + 5 * s) = -5 then 0 else nI (cnt8 (fun _ => false)) - M0 1 (340 + 5 * s + 2)) := by decide +kernel
theorem RR0 : RR 0 I0 M0 := by
  refine ⟨⟨0, 0, 2, fun j k i hp => ?_, ⟨by decide, by decide, by decide, by decide, by decide, by decide, by decide, Or.inl (by decide), Or.inl (by decide), ⟨100, by decide, by decide⟩, 0, 0, by decide, by decide, by decide, by decide⟩, fun s hs => ⟨fun _ => false, UN0 s hs⟩, Or.inl (by decide), fun h => absurd (show M0 1 0 = 0 by decide) h⟩, 0, by decide, by decide, by decide, fun i => i + 1, fun i hi => ⟨by show 1 ≤ i + 1; omega, by show i + 1 ≤ 4; omega, rfl⟩, fun i j _ _ h => by have h : i + 1 = j + 1 := h; omega, fun i hi => absurd hi (by omega)⟩
  obtain ⟨h1, h2⟩ := pr_dom hp
  have := LE0 j h1 k h2
  rw [hp] at this
  exact of_decide_eq_true this
