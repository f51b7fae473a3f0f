/-! the loop of the law -/
section
variable {p : Program} {l : Launch} {e : Env} {s : State} {m : MethodId} {below : List Frame} {meth : Method} {c : Code} {b L : Nat} {xs : Nat → Int32} {D : va_G} {tc : Tc} {ad : Nat → Nat} {K S : Nat}
set_option maxHeartbeats 4000000 in
set_option maxRecDepth 100000 in
theorem k_sw (X : LX p s m c b L xs D tc ad K S) {Q : State → Prop} {n i : Nat} {I M : St} {H : Heap} {locs : List Loc} {ls : Array Slot} (hl : lv_has ls 4 [(0, .ref b), (1, .ref (ad 145)), (2, .ref (ad 152)), (3, .int (nI i))]) (hi : i + 5 ≤ L) (hn : n < 2 ^ 30) (h : RR n I M) (hP : va_P D vwCl (wl tc ad (cmb I M)) H) (hS : va_S (fun q : Nat => s.heap.size ≤ q) s.heap H locs) (kd : ∀ (n' : Nat) (I M : St) (H : Heap) (locs : List Loc), n' ≤ n + 1 → RR n' I M → va_P D vwCl (wl tc ad (cmb I M)) H → va_S (fun q : Nat => s.heap.size ≤ q) s.heap H locs → W p l e room_1 s m #[Value.ref b] below meth c H locs K S Q (F0 m 1252 ls [])) (x : Int32) : W p l e room_1 s m #[Value.ref b] below meth c H locs K S Q (F0 m 32 ls [.int x]) := by
  have hx := X.1.1
  have hb := X.1.2.1
  by_cases h1 : x.toInt < 0
  · exact lv_tableOut (tgt := 1252) hx hb dL_law_32 (Or.inl h1) (by decide) (kd n I M H locs (by omega) h hP hS)
  · by_cases h2 : 38 < x.toInt
    · exact lv_tableOut (tgt := 1252) hx hb dL_law_32 (Or.inr h2) (by decide) (kd n I M H locs (by omega) h hP hS)
    · rcases (show x.toInt = 0 ∨ x.toInt = 1 ∨ x.toInt = 2 ∨ x.toInt = 3 ∨ x.toInt = 4 ∨ x.toInt = 5 ∨ x.toInt = 6 ∨ x.toInt = 7 ∨ x.toInt = 8 ∨ x.toInt = 9 ∨ x.toInt = 10 ∨ x.toInt = 11 ∨ x.toInt = 12 ∨ x.toInt = 13 ∨ x.toInt = 14 ∨ x.toInt = 15 ∨ x.toInt = 16 ∨ x.toInt = 17 ∨ x.toInt = 18 ∨ x.toInt = 19 ∨ x.toInt = 20 ∨ x.toInt = 21 ∨ x.toInt = 22 ∨ x.toInt = 23 ∨ x.toInt = 24 ∨ x.toInt = 25 ∨ x.toInt = 26 ∨ x.toInt = 27 ∨ x.toInt = 28 ∨ x.toInt = 29 ∨ x.toInt = 30 ∨ x.toInt = 31 ∨ x.toInt = 32 ∨ x.toInt = 33 ∨ x.toInt = 34 ∨ x.toInt = 35 ∨ x.toInt = 36 ∨ x.toInt = 37 ∨ x.toInt = 38 by omega) with eq | eq | eq | eq | eq | eq | eq | eq | eq | eq | eq | eq | eq | eq | eq | eq | eq | eq | eq | eq | eq | eq | eq | eq | eq | eq | eq | eq | eq | eq | eq | eq | eq | eq | eq | eq | eq | eq | eq
      · exact lv_tableIn (off := 172) (tgt := 204) hx hb dL_law_32 h1 h2 (by rw [eq]; rfl) (by decide) (k_0 X n i I M H locs ls hl hi hn h hP hS kd)
      · exact lv_tableIn (off := 195) (tgt := 227) hx hb dL_law_32 h1 h2 (by rw [eq]; rfl) (by decide) (k_1 X n i I M H locs ls hl hi hn h hP hS kd)
      · exact lv_tableIn (off := 228) (tgt := 260) hx hb dL_law_32 h1 h2 (by rw [eq]; rfl) (by decide) (k_2 X n i I M H locs ls hl hi hn h hP hS kd)
      · exact lv_tableIn (off := 251) (tgt := 283) hx hb dL_law_32 h1 h2 (by rw [eq]; rfl) (by decide) (k_3 X n i I M H locs ls hl hi hn h hP hS kd)
      · exact lv_tableIn (off := 274) (tgt := 306) hx hb dL_law_32 h1 h2 (by rw [eq]; rfl) (by decide) (k_4 X n i I M H locs ls hl hi hn h hP hS kd)
      · exact lv_tableIn (off := 297) (tgt := 329) hx hb dL_law_32 h1 h2 (by rw [eq]; rfl) (by decide) (k_5 X n i I M H locs ls hl hi hn h hP hS kd)
      · exact lv_tableIn (off := 320) (tgt := 352) hx hb dL_law_32 h1 h2 (by rw [eq]; rfl) (by decide) (k_6 X n i I M H locs ls hl hi hn h hP hS kd)
      · exact lv_tableIn (off := 333) (tgt := 365) hx hb dL_law_32 h1 h2 (by rw [eq]; rfl) (by decide) (k_7 X n i I M H locs ls hl hi hn h hP hS kd)
      · exact lv_tableIn (off := 376) (tgt := 408) hx hb dL_law_32 h1 h2 (by rw [eq]; rfl) (by decide) (k_8 X n i I M H locs ls hl hi hn h hP hS kd)
      · exact lv_tableIn (off := 419) (tgt := 451) hx hb dL_law_32 h1 h2 (by rw [eq]; rfl) (by decide) (k_9 X n i I M H locs ls hl hi hn h hP hS kd)
      · exact lv_tableIn (off := 452) (tgt := 484) hx hb dL_law_32 h1 h2 (by rw [eq]; rfl) (by decide) (k_10 X n i I M H locs ls hl hi hn h hP hS kd)
      · exact lv_tableIn (off := 465) (tgt := 497) hx hb dL_law_32 h1 h2 (by rw [eq]; rfl) (by decide) (k_11 X n i I M H locs ls hl hi hn h hP hS kd)
      · exact lv_tableIn (off := 508) (tgt := 540) hx hb dL_law_32 h1 h2 (by rw [eq]; rfl) (by decide) (k_12 X n i I M H locs ls hl hi hn h hP hS kd)
      · exact lv_tableIn (off := 521) (tgt := 553) hx hb dL_law_32 h1 h2 (by rw [eq]; rfl) (by decide) (k_13 X n i I M H locs ls hl hi hn h hP hS kd)
      · exact lv_tableIn (off := 544) (tgt := 576) hx hb dL_law_32 h1 h2 (by rw [eq]; rfl) (by decide) (k_14 X n i I M H locs ls hl hi hn h hP hS kd)
      · exact lv_tableIn (off := 557) (tgt := 589) hx hb dL_law_32 h1 h2 (by rw [eq]; rfl) (by decide) (k_15 X n i I M H locs ls hl hi hn h hP hS kd)
      · exact lv_tableIn (off := 580) (tgt := 612) hx hb dL_law_32 h1 h2 (by rw [eq]; rfl) (by decide) (k_16 X n i I M H locs ls hl hi hn h hP hS kd)
      · exact lv_tableIn (off := 603) (tgt := 635) hx hb dL_law_32 h1 h2 (by rw [eq]; rfl) (by decide) (k_17 X n i I M H locs ls hl hi hn h hP hS kd)
      · exact lv_tableIn (off := 636) (tgt := 668) hx hb dL_law_32 h1 h2 (by rw [eq]; rfl) (by decide) (k_18 X n i I M H locs ls hl hi hn h hP hS kd)
      · exact lv_tableIn (off := 669) (tgt := 701) hx hb dL_law_32 h1 h2 (by rw [eq]; rfl) (by decide) (k_19 X n i I M H locs ls hl hi hn h hP hS kd)
      · exact lv_tableIn (off := 702) (tgt := 734) hx hb dL_law_32 h1 h2 (by rw [eq]; rfl) (by decide) (k_20 X n i I M H locs ls hl hi hn h hP hS kd)
      · exact lv_tableIn (off := 735) (tgt := 767) hx hb dL_law_32 h1 h2 (by rw [eq]; rfl) (by decide) (k_21 X n i I M H locs ls hl hi hn h hP hS kd)
      · exact lv_tableIn (off := 768) (tgt := 800) hx hb dL_law_32 h1 h2 (by rw [eq]; rfl) (by decide) (k_22 X n i I M H locs ls hl hi hn h hP hS kd)
      · exact lv_tableIn (off := 791) (tgt := 823) hx hb dL_law_32 h1 h2 (by rw [eq]; rfl) (by decide) (k_23 X n i I M H locs ls hl hi hn h hP hS kd)
      · exact lv_tableIn (off := 824) (tgt := 856) hx hb dL_law_32 h1 h2 (by rw [eq]; rfl) (by decide) (k_24 X n i I M H locs ls hl hi hn h hP hS kd)
      · exact lv_tableIn (off := 857) (tgt := 889) hx hb dL_law_32 h1 h2 (by rw [eq]; rfl) (by decide) (k_25 X n i I M H locs ls hl hi hn h hP hS kd)
      · exact lv_tableIn (off := 890) (tgt := 922) hx hb dL_law_32 h1 h2 (by rw [eq]; rfl) (by decide) (k_26 X n i I M H locs ls hl hi hn h hP hS kd)
      · exact lv_tableIn (off := 923) (tgt := 955) hx hb dL_law_32 h1 h2 (by rw [eq]; rfl) (by decide) (k_27 X n i I M H locs ls hl hi hn h hP hS kd)
      · exact lv_tableIn (off := 956) (tgt := 988) hx hb dL_law_32 h1 h2 (by rw [eq]; rfl) (by decide) (k_28 X n i I M H locs ls hl hi hn h hP hS kd)
      · exact lv_tableIn (off := 989) (tgt := 1021) hx hb dL_law_32 h1 h2 (by rw [eq]; rfl) (by decide) (k_29 X n i I M H locs ls hl hi hn h hP hS kd)
      · exact lv_tableIn (off := 1042) (tgt := 1074) hx hb dL_law_32 h1 h2 (by rw [eq]; rfl) (by decide) (k_30 X n i I M H locs ls hl hi hn h hP hS kd)
      · exact lv_tableIn (off := 1075) (tgt := 1107) hx hb dL_law_32 h1 h2 (by rw [eq]; rfl) (by decide) (k_31 X n i I M H locs ls hl hi hn h hP hS kd)
      · exact lv_tableIn (off := 1088) (tgt := 1120) hx hb dL_law_32 h1 h2 (by rw [eq]; rfl) (by decide) (k_32 X n i I M H locs ls hl hi hn h hP hS kd)
      · exact lv_tableIn (off := 1101) (tgt := 1133) hx hb dL_law_32 h1 h2 (by rw [eq]; rfl) (by decide) (k_33 X n i I M H locs ls hl hi hn h hP hS kd)
      · exact lv_tableIn (off := 1134) (tgt := 1166) hx hb dL_law_32 h1 h2 (by rw [eq]; rfl) (by decide) (k_34 X n i I M H locs ls hl hi hn h hP hS kd)
      · exact lv_tableIn (off := 1157) (tgt := 1189) hx hb dL_law_32 h1 h2 (by rw [eq]; rfl) (by decide) (k_35 X n i I M H locs ls hl hi hn h hP hS kd)
      · exact lv_tableIn (off := 1180) (tgt := 1212) hx hb dL_law_32 h1 h2 (by rw [eq]; rfl) (by decide) (k_36 X n i I M H locs ls hl hi hn h hP hS kd)
      · exact lv_tableIn (off := 1193) (tgt := 1225) hx hb dL_law_32 h1 h2 (by rw [eq]; rfl) (by decide) (k_37 X n i I M H locs ls hl hi hn h hP hS kd)
      · exact lv_tableIn (off := 1206) (tgt := 1238) hx hb dL_law_32 h1 h2 (by rw [eq]; rfl) (by decide) (k_38 X n i I M H locs ls hl hi hn h hP hS kd)
set_option maxHeartbeats 4000000 in
set_option maxRecDepth 100000 in
theorem k_loop (X : LX p s m c b L xs D tc ad K S) {Q : State → Prop} (hL : L < 2 ^ 20)
    (kx : ∀ (H : Heap) (locs : List Loc) (ls : Array Slot), va_S (fun q : Nat => s.heap.size ≤ q) s.heap H locs → W p l e room_1 s m #[Value.ref b] below meth c H locs K S Q (F0 m 1258 ls [])) :
    ∀ (d n i : Nat), L + 1 ≤ i + d → i ≤ L → n + d ≤ 2 ^ 29 → ∀ (I M : St) (H : Heap) (locs : List Loc) (ls : Array Slot), lv_has ls 4 [(0, .ref b), (1, .ref (ad 145)), (2, .ref (ad 152)), (3, .int (nI i))] → RR n I M → va_P D vwCl (wl tc ad (cmb I M)) H → va_S (fun q : Nat => s.heap.size ≤ q) s.heap H locs → W p l e room_1 s m #[Value.ref b] below meth c H locs K S Q (F0 m 18 ls []) := by
  obtain ⟨hX, hsc, hbl, hL2, -⟩ := id X
  have hx := hX.1
  have hb := hX.2.1
  intro d
  induction d with
  | zero =>
    intro n i h1 h2
    exact absurd h1 (by omega)
  | succ d ih =>
    intro n i h1 h2 h3 I M H locs ls hl h hP hS
    refine lv_iload_n hx hb dL_law_18 rfl (lv_at hl 3 rfl) ?_
    refine lv_aload_n hx hb dL_law_19 rfl (lv_at hl 0 rfl) ?_
    refine va_slen (A := fun q : Nat => s.heap.size ≤ q) hx hb hsc hbl (Nat.not_le.mpr hbl) hS dL_law_20 ?_
    refine lv_iconst (v := 5) hx hb dL_law_21 kc_i5 ?_
    refine lv_isub hx hb dL_law_22 ?_
    have e5 : (nI L - nI 5).toInt = (L : Int) - (5 : Nat) := pk_sub_toInt (by omega) (by omega)
    have ei : (nI i).toInt = i := nI_toInt (by omega)
    refine lv_icmp_gt (tgt := 1258) hx hb dL_law_23 (by decide) (fun _ => kx H locs ls hS) (fun q => ?_)
    have hi : i + 5 ≤ L := by
      refine Nat.le_of_not_lt fun z => q (Int32.lt_iff_toInt_lt.mpr ?_)
      show (nI L - nI 5).toInt < (nI i).toInt
      rw [e5, ei]
      omega
    refine lv_aload_n hx hb dL_law_26 rfl (lv_at hl 0 rfl) ?_
    refine lv_iload_n hx hb dL_law_27 rfl (lv_at hl 3 rfl) ?_
    refine va_sld (A := fun q : Nat => s.heap.size ≤ q) hx hb hsc hbl (Nat.not_le.mpr hbl) hS (vp_in_nI (show i < L by omega) hL2) dL_law_28 ?_
    refine lv_bipush (v := 63) hx hb dL_law_29 (by decide) ?_
    refine lv_iand hx hb dL_law_31 ?_
    refine k_sw X hl hi (by omega) h hP hS (fun n' I M H locs hn' h hP hS => ?_) _
    refine lv_iinc (v := nI (i + 5)) (lv' := [(3, .int (nI (i + 5))), (0, .ref b), (1, .ref (ad 145)), (2, .ref (ad 152))]) hx hb dL_law_1252 hl (k := 3) rfl (nI_add i 5) (by decide) rfl (fun ls hl => ?_)
    refine lv_goto (tgt := 18) hx hb dL_law_1255 (by decide) ?_
    exact ih n' (i + 5) (by omega) hi (by omega) I M H locs ls (lv_sub hl [1, 2, 3, 0] rfl) h hP hS
end
