/-! the law sets a laboratory up -/
def SU (k paid : Nat) (I : St) : Prop := I 0 3 = nI k ∧ I 0 9 = 0 ∧ I 0 7 = 10 ∧ ∃ M, RR 0 I M ∧ PV k paid 0 I
theorem z0a : ∀ p, p < 8 → I0 (5 + p) 0 = 0 ∧ I0 (5 + p) 1 = 0 ∧ I0 (5 + p) 2 = 0 ∧ I0 (5 + p) 3 = 0 := by decide +kernel
theorem SU_0 : SU 0 0 I0 := by
  refine ⟨by decide, by decide, by decide, M0, RR0, ⟨fun _ => 0, 0, Nat.le_refl _, fun p hp => (z0a p hp).1, fun _ _ => rfl, by decide, by decide, by decide⟩, ⟨10, by decide, by decide⟩, fun p hp => ⟨0, 0, Nat.zero_le _, (z0a p hp).2.2.1, (z0a p hp).2.2.2⟩, fun p hp => ⟨0, by decide, (z0a p hp).2.1⟩, 0, 0, 0, 0, by decide, by decide, by decide, by decide, by decide, by decide, by decide, by decide, by decide⟩
theorem SU_add {k paid b : Nat} {I : St} (h : SU k paid I) (hk : k < 6) (hb : b < 200) (hp : paid ≤ 200 * k) : ∃ I', f_X7_addParticipant (nI b) I = some (nI k, I') ∧ SU (k + 1) (paid + b) I' := by
  obtain ⟨h3, h9, h7, M, hR, hA⟩ := h
  obtain ⟨r, I', M', e1, -, e3⟩ := s_addParticipant hR (nI b)
  have w : f_X7_isWithin (nI b) 0 1000000 = some (b2 true) := by rw [e_isWithin, lit_nI 0, lit_nI 1000000, wi_s (by omega) (Nat.zero_le _) (by decide)]
  have e0 := e1
  rw [f_X7_addParticipant, w, ob1_s, if_neg bt1, if_pos h9, h3, lb_e, if_pos (show nI k < (8 : Int32) from nI_lt (b := 8) (by omega) (by decide))] at e1
  obtain ⟨I1, a1, e1⟩ := ob1_some e1
  have rs := rem_same hR a1
  have r0 : ∀ q, I1 0 q = I 0 q := fun q => by rw [rs 0 (by decide)]
  have o5 : ∀ y, u2 I1 (5 + k) 0 y 0 3 = nI k := fun y => by rw [u2_off _ _ _ _ (by omega), r0]; exact h3
  rw [f_X4_admit, r0, h3, lb_e, if_pos (show nI k < (8 : Int32) from nI_lt (b := 8) (by omega) (by decide)), lb_e, inb_nI (by omega) (by decide), ck_t, nI_clamp (by omega), lb_e, o5, lb_e, nI_1, lb_e, lb_e, ob2_s] at e1
  cases e1
  have ek : u2 (u2 I1 (5 + k) 0 (nI b)) 0 3 (nI (k + 1)) 0 3 - 1 = nI k := by rw [u2_row, upd_ap, if_pos rfl]; exact nI_pred k
  rw [ek] at e0
  have o0 : ∀ o q, ¬ (o = 0 ∧ q = 3) → ¬ (o = 5 + k ∧ q = 0) → u2 (u2 I1 (5 + k) 0 (nI b)) 0 3 (nI (k + 1)) o q = I1 o q := fun o q z1 z2 => by
    rw [u2_ap]
    by_cases d : o = 0
    · subst d
      rw [if_pos rfl, if_neg (fun w => z1 ⟨rfl, w⟩), u2_off _ _ _ _ (by omega)]
    · rw [if_neg d, u2_ap]
      by_cases d : o = 5 + k
      · rw [if_pos d, if_neg (fun w => z2 ⟨d, w⟩), ← d]
      · rw [if_neg d]
  obtain ⟨⟨B, P, b0, b1, b2', b3, b4, b5⟩, A2, A3, A4, A5⟩ := hA.rem rs
  have us := su_upd (B := B) (c := b) (show k < 8 by omega)
  have bk : B k = 0 := b2' k (Nat.le_refl _)
  refine ⟨_, e0, by rw [u2_row, upd_ap, if_pos rfl], by rw [o0 _ _ (by omega) (by omega), r0]; exact h9, by rw [o0 _ _ (by omega) (by omega), r0]; exact h7, M', e3, ⟨fun q => if q = k then b else B q, P, Nat.zero_le _, fun q hq => ?_, fun q hq => ?_, by rw [o0 _ _ (by omega) (by omega)]; exact b3, by omega, by omega⟩, A2.cg (o0 _ _ (by omega) (by omega)), A3.cg (fun p hp => ⟨o0 _ _ (by omega) (by omega), o0 _ _ (by omega) (by omega)⟩), A4.cg (fun p hp => o0 _ _ (by omega) (by omega)), A5.cg (fun k hk => o0 _ _ (by omega) (by omega))⟩
  · show _ = nI (if q = k then b else B q)
    by_cases c : q = k
    · subst c
      rw [if_pos rfl, u2_off _ _ _ _ (by omega), u2_row, upd_ap, if_pos rfl]
    · rw [if_neg c, o0 _ _ (by omega) (by omega)]
      exact b1 q hq
  · show (if q = k then b else B q) = 0
    rw [if_neg (by omega)]
    exact b2' q (by omega)
theorem SU_fine {m paid f : Nat} {I : St} (h : SU m paid I) (m2 : 2 ≤ m) (m6 : m ≤ 6) (hf : f < 40) : ∃ I', f_X7_setFine (nI f) I = some (10, I') ∧ IV 0 m paid I' := by
  obtain ⟨h3, h9, h7, M, hR, hA⟩ := h
  obtain ⟨r, I', M', e1, -, e3⟩ := s_setFine hR (nI f)
  have w : wi (nI f) 0 1000 = true := wi_s (s := f) (lo := 0) (hi := 1000) (by omega) (Nat.zero_le _) (by decide)
  have e0 := e1
  rw [f_X7_setFine, e_setErr, if_pos w, ob1_s, if_pos h9, if_pos (by decide)] at e1
  obtain ⟨I1, a1, e1⟩ := ob1_some e1
  have rs := rem_same hR a1
  have r0 : ∀ q, I1 0 q = I 0 q := fun q => by rw [rs 0 (by decide)]
  rw [lb_e, lb_e, r0, h7] at e1
  cases e1
  have o : ∀ q, q ≠ 0 → u2 I1 0 7 (nI f) q = I1 q := fun q hq => u2_off _ _ _ _ hq
  have o0 : ∀ k, k ≠ 7 → u2 I1 0 7 (nI f) 0 k = I1 0 k := fun k hk => by rw [u2_row, upd_ap, if_neg hk]
  obtain ⟨A1, A2, A3, A4, A5⟩ := hA.rem rs
  exact ⟨_, e0, m2, m6, by rw [o0 3 (by decide), r0]; exact h3, M', 0, Nat.le_refl _, e3, ⟨A1.cg (fun p hp => by rw [o _ (by omega)]) (o0 4 (by decide)), ⟨f, by omega, by rw [u2_row, upd_ap, if_pos rfl]⟩, A3.cg (fun p hp => by rw [o _ (by omega)]; exact ⟨rfl, rfl⟩), A4.cg (fun p hp => by rw [o _ (by omega)]), A5.cg (fun k hk => by rw [o _ (by omega)])⟩, RX.rest (by rw [o0 9 (by decide), r0]; exact h9)⟩
