/-! what is known of the classes -/
theorem nl0 : (Cond.methodLinkNest RX4 23 yX0_init "OwnerlessCoin") ∈ lw_tbl := List.mem_of_getElem? (i := 41) (by decide +kernel)
theorem nl1 : (Cond.methodLinkNest RX4 44 yX5_init "OwnerlessCoin") ∈ lw_tbl := List.mem_of_getElem? (i := 79) (by decide +kernel)
theorem nl2 : (Cond.methodLinkNest RX7 25 yX1_init "OwnerlessCoin") ∈ lw_tbl := List.mem_of_getElem? (i := 223) (by decide +kernel)
theorem nl3 : (Cond.methodLinkNest RX4 76 yX7_has "OwnerlessCoin") ∈ lw_tbl := List.mem_of_getElem? (i := 347) (by decide +kernel)
theorem nl4 : (Cond.methodLinkNest RX4 103 yX7_mix "OwnerlessCoin") ∈ lw_tbl := List.mem_of_getElem? (i := 376) (by decide +kernel)
theorem nl5 : (Cond.methodLinkNest RX5 55 yX7_power "OwnerlessCoin") ∈ lw_tbl := List.mem_of_getElem? (i := 393) (by decide +kernel)
theorem nl6 : (Cond.methodLinkNest RX5 59 yX7_stepped "OwnerlessCoin") ∈ lw_tbl := List.mem_of_getElem? (i := 399) (by decide +kernel)
theorem nl7 : (Cond.methodLinkNest RX5 63 yX7_drawn "OwnerlessCoin") ∈ lw_tbl := List.mem_of_getElem? (i := 403) (by decide +kernel)
theorem nl8 : (Cond.methodLinkNest RX6 10 yX7_product "OwnerlessCoin") ∈ lw_tbl := List.mem_of_getElem? (i := 414) (by decide +kernel)
theorem nl9 : (Cond.methodLinkNest RX5 75 yX7_product "OwnerlessCoin") ∈ lw_tbl := List.mem_of_getElem? (i := 436) (by decide +kernel)
theorem nl10 : (Cond.methodLinkNest RX1 70 yX7_has "OwnerlessCoin") ∈ lw_tbl := List.mem_of_getElem? (i := 515) (by decide +kernel)
theorem nl11 : (Cond.methodLinkNest RX2 47 yX7_has "OwnerlessCoin") ∈ lw_tbl := List.mem_of_getElem? (i := 596) (by decide +kernel)
theorem nl12 : (Cond.methodLinkNest RX2 51 yX7_stepped "OwnerlessCoin") ∈ lw_tbl := List.mem_of_getElem? (i := 597) (by decide +kernel)
theorem nl13 : (Cond.methodLinkNest RX2 55 yX7_drawn "OwnerlessCoin") ∈ lw_tbl := List.mem_of_getElem? (i := 598) (by decide +kernel)
theorem nl14 : (Cond.methodLinkNest RX5 78 yX7_has "OwnerlessCoin") ∈ lw_tbl := List.mem_of_getElem? (i := 702) (by decide +kernel)
theorem k_kk {s : State} {b : Nat} (hts0 : ∀ w ∈ lw_tbl, w.before #[Value.ref b] s = true) : ∃ (D : va_G) (tc : Tc), kk D tc s := by
  have hts : ∀ w ∈ tw, w.before #[Value.ref b] s = true := fun w hw => hts0 w (List.mem_filter.mp hw).1
  obtain ⟨c0, f0, g0⟩ := u_known (C := RX0) (T := TX0) (N := 8) (n := 8) hts tw_f0 (hts _ q40)
  obtain ⟨c1, f1, g1⟩ := u_known (C := RX1) (T := TX1) (N := 5) (n := 5) hts tw_f1 (hts _ q222)
  obtain ⟨c2, f2, g2⟩ := u_known (C := RX3) (T := TX3) (N := 2) (n := 2) hts tw_f2 (hts _ q205)
  obtain ⟨c3, f3, g3⟩ := u_known (C := RX4) (T := TX4) (N := 14) (n := 14) hts tw_f3 (hts _ q32)
  obtain ⟨c4, f4, g4⟩ := u_known (C := RX5) (T := TX5) (N := 12) (n := 12) hts tw_f4 (hts _ q78)
  obtain ⟨c5, f5, g5⟩ := u_known (C := RX7) (T := TX7) (N := 3) (n := 3) hts tw_f5 (hts _ q24)
  obtain ⟨D, hKc⟩ : ∃ D : va_G, ∀ (k : Nat) (q : vw_C), vwCl[k]? = some q → u_Kn s q.1 q.2.1 q.2.2 (D.1 k) (D.2 k) := by
    refine ⟨(fun k => if k = 0 then c0 else if k = 1 then c1 else if k = 2 then c2 else if k = 3 then c3 else if k = 4 then c4 else c5, fun k => if k = 0 then f0 else if k = 1 then f1 else if k = 2 then f2 else if k = 3 then f3 else if k = 4 then f4 else f5), ?_⟩
    intro k q hq
    match k, hq with
    | 0, hq => cases hq; exact g0
    | 1, hq => cases hq; exact g1
    | 2, hq => cases hq; exact g2
    | 3, hq => cases hq; exact g3
    | 4, hq => cases hq; exact g4
    | 5, hq => cases hq; exact g5
    | k + 6, hq => simp [vwCl] at hq
  obtain ⟨cA, kA, comp, a1, a2, a3⟩ := Cond.arrayClass_spec (hts _ q77)
  have wL := hts0 (Cond.arrayOver (.object RX4)) (List.mem_of_getElem? (i := 211) (by decide +kernel))
  have wP := hts0 (Cond.arrayOver (.object RX5)) (List.mem_of_getElem? (i := 38) (by decide +kernel))
  obtain ⟨compL, cL, kL, b1, -, b3, b4, b5⟩ := Cond.arrayOver_spec (n := RX4) wL
  obtain ⟨compP, cP, kP, d1, -, d3, d4, d5⟩ := Cond.arrayOver_spec (n := RX5) wP
  refine ⟨D, (cA, cL, cP), ⟨hKc, fun k q hk => ?_⟩, ?_, va_AO.of wL, va_AO.of wP⟩
  · match k, hk with
    | 0, hk => cases hk; exact ⟨fun N z => ⟨(fun k h => by cases h), kA, a2, comp, a3⟩, a1⟩
    | 1, hk => cases hk; exact ⟨fun N z => ⟨(fun k h => by cases h), kL, b3, compL, b4⟩, kL, compL, b3, b4, b1, b5⟩
    | 2, hk => cases hk; exact ⟨fun N z => ⟨(fun k h => by cases h), kP, d3, compP, d4⟩, kP, compP, d3, d4, d1, d5⟩
    | k + 3, hk => simp at hk
  · exact List.forall_mem_cons.mpr ⟨va_Nw.of rfl (hts0 _ nl0), List.forall_mem_cons.mpr ⟨va_Nw.of rfl (hts0 _ nl1), List.forall_mem_cons.mpr ⟨va_Nw.of rfl (hts0 _ nl2), List.forall_mem_cons.mpr ⟨va_Nw.of rfl (hts0 _ nl3), List.forall_mem_cons.mpr ⟨va_Nw.of rfl (hts0 _ nl4), List.forall_mem_cons.mpr ⟨va_Nw.of rfl (hts0 _ nl5), List.forall_mem_cons.mpr ⟨va_Nw.of rfl (hts0 _ nl6), List.forall_mem_cons.mpr ⟨va_Nw.of rfl (hts0 _ nl7), List.forall_mem_cons.mpr ⟨va_Nw.of rfl (hts0 _ nl8), List.forall_mem_cons.mpr ⟨va_Nw.of rfl (hts0 _ nl9), List.forall_mem_cons.mpr ⟨va_Nw.of rfl (hts0 _ nl10), List.forall_mem_cons.mpr ⟨va_Nw.of rfl (hts0 _ nl11), List.forall_mem_cons.mpr ⟨va_Nw.of rfl (hts0 _ nl12), List.forall_mem_cons.mpr ⟨va_Nw.of rfl (hts0 _ nl13), List.forall_mem_cons.mpr ⟨va_Nw.of rfl (hts0 _ nl14), fun _ h => absurd h List.not_mem_nil⟩⟩⟩⟩⟩⟩⟩⟩⟩⟩⟩⟩⟩⟩⟩
