theorem kc_bm9 : (Int8.ofInt (-9)).toInt32 = (-9) := by decide
theorem kc_bm5 : (Int8.ofInt (-5)).toInt32 = (-5) := by decide
theorem kc_bm4 : (Int8.ofInt (-4)).toInt32 = (-4) := by decide
theorem kc_bm3 : (Int8.ofInt (-3)).toInt32 = (-3) := by decide
theorem kc_bm2 : (Int8.ofInt (-2)).toInt32 = (-2) := by decide
theorem kc_b6 : (Int8.ofInt (6)).toInt32 = (6) := by decide
theorem kc_b7 : (Int8.ofInt (7)).toInt32 = (7) := by decide
theorem kc_b8 : (Int8.ofInt (8)).toInt32 = (8) := by decide
theorem kc_b9 : (Int8.ofInt (9)).toInt32 = (9) := by decide
theorem kc_b12 : (Int8.ofInt (12)).toInt32 = (12) := by decide
theorem kc_b15 : (Int8.ofInt (15)).toInt32 = (15) := by decide
theorem kc_b16 : (Int8.ofInt (16)).toInt32 = (16) := by decide
theorem kc_b17 : (Int8.ofInt (17)).toInt32 = (17) := by decide
theorem kc_b30 : (Int8.ofInt (30)).toInt32 = (30) := by decide
theorem kc_b60 : (Int8.ofInt (60)).toInt32 = (60) := by decide
theorem kc_b63 : (Int8.ofInt (63)).toInt32 = (63) := by decide
theorem kc_b96 : (Int8.ofInt (96)).toInt32 = (96) := by decide
theorem kc_im1 : Int32.ofInt (-1) = (-1) := by decide
theorem kc_i0 : Int32.ofInt (0) = (0) := by decide
theorem kc_i1 : Int32.ofInt (1) = (1) := by decide
theorem kc_i2 : Int32.ofInt (2) = (2) := by decide
theorem kc_i3 : Int32.ofInt (3) = (3) := by decide
theorem kc_i4 : Int32.ofInt (4) = (4) := by decide
theorem kc_i5 : Int32.ofInt (5) = (5) := by decide
theorem kc_s255 : (Int16.ofInt (255)).toInt32 = (255) := by decide
theorem kc_s256 : (Int16.ofInt (256)).toInt32 = (256) := by decide
theorem kc_s1000 : (Int16.ofInt (1000)).toInt32 = (1000) := by decide
theorem kc_s1001 : (Int16.ofInt (1001)).toInt32 = (1001) := by decide
theorem kc_s1017 : (Int16.ofInt (1017)).toInt32 = (1017) := by decide
theorem kc_s1018 : (Int16.ofInt (1018)).toInt32 = (1018) := by decide
theorem kc_s1019 : (Int16.ofInt (1019)).toInt32 = (1019) := by decide
theorem kc_s2039 : (Int16.ofInt (2039)).toInt32 = (2039) := by decide
theorem kc_s5000 : (Int16.ofInt (5000)).toInt32 = (5000) := by decide
theorem kc_s12345 : (Int16.ofInt (12345)).toInt32 = (12345) := by decide
theorem sl_0 : 0 < 152 := by decide
theorem sl_1 : 1 < 152 := by decide
theorem sl_2 : 2 < 152 := by decide
theorem sl_3 : 3 < 152 := by decide
theorem sl_4 : 4 < 152 := by decide
theorem sl_145 : 145 < 152 := by decide
theorem sl_146 : 146 < 152 := by decide
theorem sl_147 : 147 < 152 := by decide
theorem sl_148 : 148 < 152 := by decide
theorem sl_149 : 149 < 152 := by decide
theorem sl_150 : 150 < 152 := by decide
theorem sl_151 : 151 < 152 := by decide
theorem sk_0 : kd 0 = 3 := by decide
theorem sk_1 : kd 1 = 9 := by decide
theorem sk_2 : kd 2 = 7 := by decide
theorem sk_3 : kd 3 = 0 := by decide
theorem sk_4 : kd 4 = 7 := by decide
theorem sk_145 : kd 145 = 5 := by decide
theorem sk_146 : kd 146 = 2 := by decide
theorem sk_147 : kd 147 = 8 := by decide
theorem sk_148 : kd 148 = 1 := by decide
theorem sk_149 : kd 149 = 7 := by decide
theorem sk_150 : kd 150 = 7 := by decide
theorem sk_151 : kd 151 = 7 := by decide
theorem sn_1 : ln 1 = 8 := by decide
theorem sn_2 : ln 2 = 8 := by decide
theorem sn_4 : ln 4 = 96 := by decide
theorem sn_147 : ln 147 = 4 := by decide
theorem sn_149 : ln 149 = 256 := by decide
theorem sn_150 : ln 150 = 256 := by decide
theorem sn_151 : ln 151 = 8 := by decide
def nz (y : Int32) : Bool := !(decide (y = 0))
def nzL (y : Int64) : Bool := !(decide (y = 0))
def isB (x : Int32) : Bool := decide (x = 0) || decide (x = 1)
theorem nz_ne {y : Int32} (h : nz y = true) : ¬ y = 0 := by simpa [nz] using h
theorem nzL_ne {y : Int64} (h : nzL y = true) : ¬ y = 0 := by simpa [nzL] using h
theorem isB_or {x : Int32} (h : isB x = true) : x = 0 ∨ x = 1 := by simpa [isB] using h
theorem lt157 {o : Nat} (h : o < 152) : o < 152 := h
def isP (o : Nat) : Bool := decide (o < 145) && decide (5 ≤ o % 29) && decide (o % 29 < 13)
def isL (o : Nat) : Bool := decide (o < 145) && decide (o % 29 = 0)
def isC (o : Nat) : Bool := decide (o < 145) && decide (o % 29 = 3)
def isA (o : Nat) : Bool := decide (o = 2) || decide (o = 151)
theorem co_lt {P Q : Nat → Bool} (h : ∀ o, o < 145 → P o = true → Q o = true) {o : Nat} (h1 : P o = true) (h2 : P o = true → o < 145) : Q o = true := h o (h2 h1) h1
theorem isP_145 {o : Nat} (h : isP o = true) : o < 145 := by
  simp only [isP, Bool.and_eq_true, decide_eq_true_eq] at h
  exact h.1.1
theorem isL_145 {o : Nat} (h : isL o = true) : o < 145 := by
  simp only [isL, Bool.and_eq_true, decide_eq_true_eq] at h
  exact h.1
theorem isC_145 {o : Nat} (h : isC o = true) : o < 145 := by
  simp only [isC, Bool.and_eq_true, decide_eq_true_eq] at h
  exact h.1
theorem isP_all : ∀ o, o < 145 → isP o = true → kd o = 4 ∧ kd (o + 8) = 7 ∧ ln (o + 8) = 8 ∧ kd (o + 16) = 7 ∧ ln (o + 16) = 8 ∧ o + 8 < 152 ∧ o + 16 < 152 := by decide +kernel
theorem isL_all : ∀ o, o < 145 → isL o = true → kd o = 3 ∧ kd (o + 1) = 9 ∧ ln (o + 1) = 8 ∧ kd (o + 2) = 7 ∧ ln (o + 2) = 8 ∧ kd (o + 3) = 0 ∧ kd (o + 3 + 1) = 7 ∧ ln (o + 3 + 1) = 96 ∧ isC (o + 3) = true ∧ o + 1 < 152 ∧ o + 2 < 152 ∧ o + 3 < 152 ∧ o + 3 + 1 < 152 := by decide +kernel
theorem isC_all : ∀ o, o < 145 → isC o = true → kd o = 0 ∧ kd (o + 1) = 7 ∧ ln (o + 1) = 96 ∧ o + 1 < 152 := by decide +kernel
theorem isL_per : ∀ o, o < 145 → ∀ n, n < 8 → isL o = true → isP (o + 5 + n) = true := by decide +kernel
theorem isP_lt {o : Nat} (h : isP o = true) : o < 152 := Nat.lt_trans (isP_145 h) (by decide)
theorem isP_kd {o : Nat} (h : isP o = true) : kd o = 4 := (isP_all o (isP_145 h) h).1
theorem isP8_lt {o : Nat} (h : isP o = true) : o + 8 < 152 := (isP_all o (isP_145 h) h).2.2.2.2.2.1
theorem isP8_kd {o : Nat} (h : isP o = true) : kd (o + 8) = 7 := (isP_all o (isP_145 h) h).2.1
theorem isP8_ln {o : Nat} (h : isP o = true) : ln (o + 8) = 8 := (isP_all o (isP_145 h) h).2.2.1
theorem isP16_lt {o : Nat} (h : isP o = true) : o + 16 < 152 := (isP_all o (isP_145 h) h).2.2.2.2.2.2
theorem isP16_kd {o : Nat} (h : isP o = true) : kd (o + 16) = 7 := (isP_all o (isP_145 h) h).2.2.2.1
theorem isP16_ln {o : Nat} (h : isP o = true) : ln (o + 16) = 8 := (isP_all o (isP_145 h) h).2.2.2.2.1
theorem isL_lt {o : Nat} (h : isL o = true) : o < 152 := Nat.lt_trans (isL_145 h) (by decide)
theorem isL_kd {o : Nat} (h : isL o = true) : kd o = 3 := (isL_all o (isL_145 h) h).1
theorem isL1_kd {o : Nat} (h : isL o = true) : kd (o + 1) = 9 := (isL_all o (isL_145 h) h).2.1
theorem isL1_ln {o : Nat} (h : isL o = true) : ln (o + 1) = 8 := (isL_all o (isL_145 h) h).2.2.1
theorem isL2_kd {o : Nat} (h : isL o = true) : kd (o + 2) = 7 := (isL_all o (isL_145 h) h).2.2.2.1
theorem isL2_ln {o : Nat} (h : isL o = true) : ln (o + 2) = 8 := (isL_all o (isL_145 h) h).2.2.2.2.1
theorem isL3_kd {o : Nat} (h : isL o = true) : kd (o + 3) = 0 := (isL_all o (isL_145 h) h).2.2.2.2.2.1
theorem isL4_kd {o : Nat} (h : isL o = true) : kd (o + 3 + 1) = 7 := (isL_all o (isL_145 h) h).2.2.2.2.2.2.1
theorem isL4_ln {o : Nat} (h : isL o = true) : ln (o + 3 + 1) = 96 := (isL_all o (isL_145 h) h).2.2.2.2.2.2.2.1
theorem isL_C {o : Nat} (h : isL o = true) : isC (o + 3) = true := (isL_all o (isL_145 h) h).2.2.2.2.2.2.2.2.1
theorem isL1_lt {o : Nat} (h : isL o = true) : o + 1 < 152 := (isL_all o (isL_145 h) h).2.2.2.2.2.2.2.2.2.1
theorem isL2_lt {o : Nat} (h : isL o = true) : o + 2 < 152 := (isL_all o (isL_145 h) h).2.2.2.2.2.2.2.2.2.2.1
theorem isL3_lt {o : Nat} (h : isL o = true) : o + 3 < 152 := (isL_all o (isL_145 h) h).2.2.2.2.2.2.2.2.2.2.2.1
theorem isL4_lt {o : Nat} (h : isL o = true) : o + 3 + 1 < 152 := (isL_all o (isL_145 h) h).2.2.2.2.2.2.2.2.2.2.2.2
theorem isC_lt {o : Nat} (h : isC o = true) : o < 152 := Nat.lt_trans (isC_145 h) (by decide)
theorem isC_kd {o : Nat} (h : isC o = true) : kd o = 0 := (isC_all o (isC_145 h) h).1
theorem isC1_kd {o : Nat} (h : isC o = true) : kd (o + 1) = 7 := (isC_all o (isC_145 h) h).2.1
theorem isC1_ln {o : Nat} (h : isC o = true) : ln (o + 1) = 96 := (isC_all o (isC_145 h) h).2.2.1
theorem isC1_lt {o : Nat} (h : isC o = true) : o + 1 < 152 := (isC_all o (isC_145 h) h).2.2.2
theorem isA_or {o : Nat} (h : isA o = true) : o = 2 ∨ o = 151 := by simpa [isA] using h
theorem isA_lt {o : Nat} (h : isA o = true) : o < 152 := by rcases isA_or h with rfl | rfl <;> decide
theorem isA_kd {o : Nat} (h : isA o = true) : kd o = 7 := by rcases isA_or h with rfl | rfl <;> decide
theorem isA_ln {o : Nat} (h : isA o = true) : ln o = 8 := by rcases isA_or h with rfl | rfl <;> decide
theorem isP_of {n : Nat} (h : n < 8) : isP (5 + n) = true := by
  have : ∀ n, n < 8 → isP (5 + n) = true := by decide
  exact this n h
theorem isL_P {o n : Nat} (h : isL o = true) (h2 : n < 8) : isP (o + 5 + n) = true := isL_per o (isL_145 h) n h2 h
theorem isL_of {x : Int32} (h : inb x 5 = true) : isL (29 * x.toNatClampNeg) = true := by
  have : ∀ n, n < 5 → isL (29 * n) = true := by decide
  exact this _ (inb_lt h)
theorem sw_out3 {x : Int32} (h0 : ¬ x = 0) (h1 : ¬ x = 1) (h2 : ¬ x = 2) : x.toInt < 0 ∨ 2 < x.toInt := by
  have a0 := lv_neT (a := 0) h0 (by decide)
  have a1 := lv_neT (a := 1) h1 (by decide)
  have a2 := lv_neT (a := 2) h2 (by decide)
  omega
theorem sw_out4 {x : Int32} (h0 : ¬ x = 0) (h1 : ¬ x = 1) (h2 : ¬ x = 2) (h3 : ¬ x = 3) : x.toInt < 0 ∨ 3 < x.toInt := by
  have a0 := lv_neT (a := 0) h0 (by decide)
  have a1 := lv_neT (a := 1) h1 (by decide)
  have a2 := lv_neT (a := 2) h2 (by decide)
  have a3 := lv_neT (a := 3) h3 (by decide)
  omega

noncomputable def f_X7_isWithin_b15 (t0 : Int32) : Option (Int32) :=
  ck (isB t0) <|
  some t0
noncomputable def f_X7_isWithin_b14 : Option (Int32) :=
  f_X7_isWithin_b15 0
noncomputable def f_X7_isWithin (v0 : Int32) (v1 : Int32) (v2 : Int32) : Option (Int32) :=
  if v0 < v1 then
    f_X7_isWithin_b14
  else
    if v2 < v0 then
      f_X7_isWithin_b14
    else
      f_X7_isWithin_b15 1
noncomputable def f_X3_dropOldest_l9 : Nat → Int32 → Int32 → St → Option (St)
  | 0, _, _, _ => none
  | n + 1, w1, v2, I =>
    if 4 ≤ v2 then
      ck (inb 3 4) <| ck (inb w1 5) <| lb (u2 I 147 (3 : Int32).toNatClampNeg w1) fun I2 =>
      lb (u2 I2 146 1 3) fun I3 =>
      some I3
    else
      lb (v2 - 1) fun x4 =>
      ck (inb v2 4) <| lb (I 147 v2.toNatClampNeg) fun x5 => ck (inb x5 5) <|
      ck (inb x4 4) <| ck (inb x5 5) <| lb (u2 I 147 x4.toNatClampNeg x5) fun I7 =>
      f_X3_dropOldest_l9 n w1 (v2 + 1) I7
noncomputable def f_X3_dropOldest (I : St) : Option (St) :=
  ck (inb 0 4) <| lb (I 147 (0 : Int32).toNatClampNeg) fun x8 => ck (inb x8 5) <|
  f_X3_dropOldest_l9 10000 x8 1 I
noncomputable def f_X5_copy (o0 : Nat) (o1 : Nat) (I : St) : Option (St) :=
  ck (isP o0) <|
  ck (isP o1) <|
  lb (u2 I o0 0 (I o1 0)) fun I1 =>
  lb (u2 I1 o0 1 (I1 o1 1)) fun I2 =>
  lb (u2 I2 o0 2 (I2 o1 2)) fun I3 =>
  lb (u2 I3 o0 3 (I3 o1 3)) fun I4 =>
  lb (u2 I4 o0 4 (I4 o1 4)) fun I5 =>
  lb (u2 I5 o0 5 (I5 o1 5)) fun I6 =>
  lb (u2 I6 o0 6 (I6 o1 6)) fun I7 =>
  lb (u2 I7 o0 7 (I7 o1 7)) fun I8 =>
  lb (u2 I8 o0 8 (I8 o1 8)) fun I9 =>
  lb (u2 I9 o0 9 (I9 o1 9)) fun I10 =>
  lb (ur I10 (o0 + 8) (va_cpy (I10 (o1 + 8)) (I10 (o0 + 8)) 0 0 8)) fun I11 =>
  lb (ur I11 (o0 + 16) (va_cpy (I11 (o1 + 16)) (I11 (o0 + 16)) 0 0 8)) fun I12 =>
  some I12
noncomputable def f_X0_copy (o0 : Nat) (o1 : Nat) (I : St) : Option (St) :=
  ck (isC o0) <|
  ck (isC o1) <|
  lb (u2 I o0 0 (I o1 0)) fun I1 =>
  lb (u2 I1 o0 1 (I1 o1 1)) fun I2 =>
  lb (u2 I2 o0 2 (I2 o1 2)) fun I3 =>
  lb (u2 I3 o0 3 (I3 o1 3)) fun I4 =>
  lb (u2 I4 o0 4 (I4 o1 4)) fun I5 =>
  lb (u2 I5 o0 5 (I5 o1 5)) fun I6 =>
  lb (u2 I6 o0 6 (I6 o1 6)) fun I7 =>
  lb (ur I7 (o0 + 1) (va_cpy (I7 (o1 + 1)) (I7 (o0 + 1)) 0 0 96)) fun I8 =>
  some I8
noncomputable def f_X4_copy_l2 (o0 : Nat) (o1 : Nat) : Nat → Int32 → St → Option (St)
  | 0, _, _ => none
  | n + 1, v2, I =>
    if 8 ≤ v2 then
      lb (ur I (o0 + 2) (va_cpy (I (o1 + 2)) (I (o0 + 2)) 0 0 8)) fun I2 =>
      ob1 (f_X0_copy (o0 + 3) (o1 + 3) I2) fun I4 =>
      lb (u2 I4 o0 3 (I4 o1 3)) fun I5 =>
      lb (u2 I5 o0 4 (I5 o1 4)) fun I6 =>
      lb (u2 I6 o0 5 (I6 o1 5)) fun I7 =>
      lb (u2 I7 o0 6 (I7 o1 6)) fun I8 =>
      lb (u2 I8 o0 7 (I8 o1 7)) fun I9 =>
      lb (u2 I9 o0 8 (I9 o1 8)) fun I10 =>
      lb (u2 I10 o0 9 (I10 o1 9)) fun I11 =>
      lb (u2 I11 o0 10 (I11 o1 10)) fun I12 =>
      lb (u2 I12 o0 11 (I12 o1 11)) fun I13 =>
      lb (u2 I13 o0 12 (I13 o1 12)) fun I14 =>
      lb (u2 I14 o0 13 (I14 o1 13)) fun I15 =>
      some I15
    else
      ck (inb v2 8) <|
      ck (inb v2 8) <|
      ob1 (f_X5_copy (o0 + 5 + v2.toNatClampNeg) (o1 + 5 + v2.toNatClampNeg) I) fun I19 =>
      f_X4_copy_l2 o0 o1 n (v2 + 1) I19
noncomputable def f_X4_copy (o0 : Nat) (o1 : Nat) (I : St) : Option (St) :=
  ck (isL o0) <|
  ck (isL o1) <|
  f_X4_copy_l2 o0 o1 10000 0 I
noncomputable def f_X3_remember_b12 (I : St) : Option (St) :=
  lb (I 146 1) fun x1 =>
  ck (inb x1 4) <| lb (I 147 x1.toNatClampNeg) fun x2 => ck (inb x2 5) <|
  ob1 (f_X4_copy (29 * x2.toNatClampNeg) 0 I) fun I5 =>
  lb (I5 146 1) fun x6 =>
  lb (u2 I5 146 1 (x6 + 1)) fun I7 =>
  some I7
noncomputable def f_X3_remember (I : St) : Option (St) :=
  lb (I 146 1) fun x8 =>
  if x8 < 4 then
    f_X3_remember_b12 I
  else
    ob1 (f_X3_dropOldest I) fun I11 =>
    f_X3_remember_b12 I11
noncomputable def f_X4_admit (v1 : Int32) (I : St) : Option (Int32 × St) :=
  lb (I 0 3) fun x1 =>
  if x1 < 8 then
    lb (I 0 3) fun x3 =>
    ck (inb x3 8) <|
    lb (u2 I (5 + x3.toNatClampNeg) 0 v1) fun I5 =>
    lb (I5 0 3) fun x6 =>
    lb (u2 I5 0 3 (x6 + 1)) fun I7 =>
    lb (I7 0 3) fun x8 =>
    some (x8 - 1, I7)
  else
    some ((-3), I)
noncomputable def f_X7_addParticipant (v1 : Int32) (I : St) : Option (Int32 × St) :=
  ob1 (f_X7_isWithin v1 0 1000000) fun r2 =>
  if r2 = 0 then
    some ((-1), I)
  else
    if (I 0 9) = 0 then
      lb (I 0 3) fun x5 =>
      if x5 < 8 then
        ob1 (f_X3_remember I) fun I8 =>
        ob2 (f_X4_admit v1 I8) fun r11 I10 =>
        some (r11, I10)
      else
        some ((-3), I)
    else
      some ((-2), I)
noncomputable def f_X4_isParticipant_b23 (t0 : Int32) (I : St) : Option (Int32) :=
  ck (isB t0) <|
  some t0
noncomputable def f_X4_isParticipant_b22 (I : St) : Option (Int32) :=
  f_X4_isParticipant_b23 0 I
noncomputable def f_X4_isParticipant (v1 : Int32) (I : St) : Option (Int32) :=
  if v1 < 0 then
    f_X4_isParticipant_b22 I
  else
    if (I 0 3) ≤ v1 then
      f_X4_isParticipant_b22 I
    else
      if 8 ≤ v1 then
        f_X4_isParticipant_b22 I
      else
        f_X4_isParticipant_b23 1 I
noncomputable def f_X7_behave_b20 (I : St) : Option (Int32 × St) :=
  some ((-1), I)
noncomputable def f_X7_behave (v1 : Int32) (v2 : Int32) (I : St) : Option (Int32 × St) :=
  ob1 (f_X4_isParticipant v1 I) fun r2 =>
  if r2 = 0 then
    f_X7_behave_b20 I
  else
    ob1 (f_X7_isWithin v2 0 3) fun r5 =>
    if r5 = 0 then
      f_X7_behave_b20 I
    else
      ob1 (f_X3_remember I) fun I8 =>
      ck (inb v1 8) <|
      lb (I8 (5 + v1.toNatClampNeg) 1) fun x10 =>
      ck (inb v1 8) <|
      lb (u2 I8 (5 + v1.toNatClampNeg) 1 v2) fun I12 =>
      some (x10, I12)
noncomputable def f_X7_settingError_b27 (t0 : Int32) (I : St) : Option (Int32) :=
  some t0
noncomputable def f_X7_settingError (v1 : Int32) (v2 : Int32) (v3 : Int32) (I : St) : Option (Int32) :=
  ob1 (f_X7_isWithin v1 v2 v3) fun r2 =>
  if r2 = 0 then
    some ((-1))
  else
    if (I 0 9) = 0 then
      f_X7_settingError_b27 0 I
    else
      f_X7_settingError_b27 ((-2)) I
noncomputable def f_X7_setMethod (v1 : Int32) (I : St) : Option (Int32 × St) :=
  ob1 (f_X7_settingError v1 0 2 I) fun r2 =>
  if 0 ≤ r2 then
    ob1 (f_X3_remember I) fun I5 =>
    lb (I5 0 5) fun x6 =>
    lb (u2 I5 0 5 v1) fun I7 =>
    some (x6, I7)
  else
    some (r2, I)
noncomputable def f_X7_setThreshold (v1 : Int32) (I : St) : Option (Int32 × St) :=
  ob1 (f_X7_settingError v1 1 8 I) fun r2 =>
  if 0 ≤ r2 then
    ob1 (f_X3_remember I) fun I5 =>
    lb (I5 0 6) fun x6 =>
    lb (u2 I5 0 6 v1) fun I7 =>
    some (x6, I7)
  else
    some (r2, I)
noncomputable def f_X7_setFine (v1 : Int32) (I : St) : Option (Int32 × St) :=
  ob1 (f_X7_settingError v1 0 1000 I) fun r2 =>
  if 0 ≤ r2 then
    ob1 (f_X3_remember I) fun I5 =>
    lb (I5 0 7) fun x6 =>
    lb (u2 I5 0 7 v1) fun I7 =>
    some (x6, I7)
  else
    some (r2, I)
noncomputable def f_X7_setDelay (v1 : Int32) (I : St) : Option (Int32 × St) :=
  ob1 (f_X7_settingError v1 1 5000 I) fun r2 =>
  if 0 ≤ r2 then
    ob1 (f_X3_remember I) fun I5 =>
    lb (I5 0 8) fun x6 =>
    lb (u2 I5 0 8 v1) fun I7 =>
    some (x6, I7)
  else
    some (r2, I)
noncomputable def f_X4_ableToPay_b40 (K4 : Int32 → Int32 → St → Option (Int32)) (v1 : Int32) (v2 : Int32) (I : St) : Option (Int32) :=
  K4 v1 (v2 + 1) I
noncomputable def f_X4_ableToPay_l4 : Nat → Int32 → Int32 → St → Option (Int32)
  | 0, _, _, _ => none
  | n + 1, v1, v2, I =>
    if 8 ≤ v2 then
      some v1
    else
      if (I 0 3) ≤ v2 then
        f_X4_ableToPay_b40 (f_X4_ableToPay_l4 n) v1 v2 I
      else
        ck (inb v2 8) <|
        lb (I (5 + v2.toNatClampNeg) 0) fun x4 =>
        if x4 < (I 0 7) then
          f_X4_ableToPay_b40 (f_X4_ableToPay_l4 n) v1 v2 I
        else
          lb (v1 ||| (ishl 1 v2)) fun x6 =>
          f_X4_ableToPay_b40 (f_X4_ableToPay_l4 n) x6 v2 I
noncomputable def f_X4_ableToPay (I : St) : Option (Int32) :=
  f_X4_ableToPay_l4 10000 0 0 I
noncomputable def f_J6_bitCount_0f7a4 (v0 : Int32) : Option (Int32) :=
  lb (iushr v0 1) fun x1 =>
  lb (v0 - (x1 &&& 1431655765)) fun x2 =>
  lb (x2 &&& 858993459) fun x3 =>
  lb (iushr x2 2) fun x4 =>
  lb (x3 + (x4 &&& 858993459)) fun x5 =>
  lb (x5 + (iushr x5 4)) fun x6 =>
  lb (x6 &&& 252645135) fun x7 =>
  lb (x7 + (iushr x7 8)) fun x8 =>
  lb (x8 + (iushr x8 16)) fun x9 =>
  some (x9 &&& 63)
noncomputable def f_X4_canStart_b41 (t0 : Int32) (I : St) : Option (Int32) :=
  ck (isB t0) <|
  some t0
noncomputable def f_X4_canStart_b36 (I : St) : Option (Int32) :=
  f_X4_canStart_b41 1 I
noncomputable def f_X4_canStart_b40 (I : St) : Option (Int32) :=
  f_X4_canStart_b41 0 I
noncomputable def f_X4_canStart (I : St) : Option (Int32) :=
  ob1 (f_X4_ableToPay I) fun r2 =>
  ob1 (f_J6_bitCount_0f7a4 r2) fun r4 =>
  if (I 0 9) = 0 then
    if r4 < 2 then
      f_X4_canStart_b40 I
    else
      lb (I 0 5) fun x7 =>
      if x7 = 1 then
        if r4 < (I 0 6) then
          f_X4_canStart_b40 I
        else
          f_X4_canStart_b36 I
      else
        f_X4_canStart_b36 I
  else
    f_X4_canStart_b40 I
noncomputable def f_X4_start (I : St) : Option (St) :=
  lb (u2 I 0 9 1) fun I1 =>
  ob1 (f_X4_ableToPay I1) fun r3 =>
  lb (u2 I1 0 10 r3) fun I4 =>
  lb (u2 I4 0 11 0) fun I5 =>
  lb (u2 I5 0 12 0) fun I6 =>
  lb (u2 I6 0 13 0) fun I7 =>
  some I7
noncomputable def f_X7_begin (I : St) : Option (Int32 × St) :=
  ob1 (f_X4_canStart I) fun r2 =>
  if r2 = 0 then
    some ((-2), I)
  else
    ob1 (f_X3_remember I) fun I5 =>
    ob1 (f_X4_start I5) fun I7 =>
    some (I7 3 0, I7)
noncomputable def f_X7_has_b14 (t0 : Int32) : Option (Int32) :=
  ck (isB t0) <|
  some t0
noncomputable def f_X7_has (v0 : Int32) (v1 : Int32) : Option (Int32) :=
  lb (iushr v0 v1) fun x1 =>
  lb (x1 &&& 1) fun x2 =>
  if x2 = 1 then
    f_X7_has_b14 1
  else
    f_X7_has_b14 0
noncomputable def f_X7_mix (v0 : Int32) (v1 : Int32) : Option (Int32) :=
  lb (v0 ^^^ v1) fun x1 =>
  lb (x1 * ((-1640531535))) fun x2 =>
  some (x2 ^^^ (iushr x2 15))
noncomputable def f_X4_digestOf (v1 : Int32) (v2 : Int32) (I : St) : Option (Int32) :=
  ob1 (f_X7_mix 17 (I 3 0)) fun r2 =>
  ob1 (f_X7_mix r2 v1) fun r4 =>
  ob1 (f_X7_mix r4 v2) fun r6 =>
  some r6
noncomputable def f_X4_isTaken_b34 (K2 : Int32 → Int32 → St → Option (Int32)) (v1 : Int32) (v2 : Int32) (I : St) : Option (Int32) :=
  K2 v1 (v2 + 1) I
noncomputable def f_X4_isTaken_l2 : Nat → Int32 → Int32 → St → Option (Int32)
  | 0, _, _, _ => none
  | n + 1, v1, v2, I =>
    if 8 ≤ v2 then
      some 0
    else
      lb (I 0 11) fun x2 =>
      ob1 (f_X7_has x2 v2) fun r4 =>
      if r4 = 0 then
        f_X4_isTaken_b34 (f_X4_isTaken_l2 n) v1 v2 I
      else
        ck (inb v2 8) <|
        lb (I (5 + v2.toNatClampNeg) 6) fun x7 =>
        if x7 = v1 then
          some 1
        else
          f_X4_isTaken_b34 (f_X4_isTaken_l2 n) v1 v2 I
noncomputable def f_X4_isTaken (v1 : Int32) (I : St) : Option (Int32) :=
  f_X4_isTaken_l2 10000 v1 0 I
noncomputable def f_X7_product (v0 : Int32) (v1 : Int32) (v2 : Int32) : Option (Int32) :=
  if 1 ≤ v2 then
    lb (v0.toInt64) fun y2 =>
    lb (y2 * (v1.toInt64)) fun y3 =>
    ck (nzL (v2.toInt64)) <|
    some ((lrem y3 (v2.toInt64)).toInt32)
  else
    some 0
noncomputable def f_X7_power_b34 (K6 : Int32 → Int32 → Int32 → Int32 → Int32 → Option (Int32)) (v0 : Int32) (v1 : Int32) (v2 : Int32) (v3 : Int32) (v4 : Int32) : Option (Int32) :=
  K6 v0 v1 v2 v3 (v4 + (-1))
noncomputable def f_X7_power_l6 : Nat → Int32 → Int32 → Int32 → Int32 → Int32 → Option (Int32)
  | 0, _, _, _, _, _ => none
  | n + 1, v0, v1, v2, v3, v4 =>
    if v4 < 0 then
      some v3
    else
      ob1 (f_X7_product v3 v3 v2) fun r3 =>
      ob1 (f_X7_has v1 v4) fun r5 =>
      if r5 = 0 then
        f_X7_power_b34 (f_X7_power_l6 n) v0 v1 v2 r3 v4
      else
        ob1 (f_X7_product r3 v0 v2) fun r8 =>
        f_X7_power_b34 (f_X7_power_l6 n) v0 v1 v2 r8 v4
noncomputable def f_X7_power (v0 : Int32) (v1 : Int32) (v2 : Int32) : Option (Int32) :=
  f_X7_power_l6 10000 v0 v1 v2 1 30
noncomputable def f_X7_stepped (v0 : Int32) : Option (Int32) :=
  lb (1103515245 * v0) fun x1 =>
  some (x1 + 12345)
noncomputable def f_X7_drawn (v0 : Int32) : Option (Int32) :=
  some (iushr v0 16)
noncomputable def f_X5_deal_l64 (o0 : Nat) (K32 : Int32 → Int32 → Int32 → Int32 → St → Option (St)) : Nat → Int32 → Int32 → Int32 → Int32 → Int32 → St → Option (St)
  | 0, _, _, _, _, _, _ => none
  | n + 1, v2, v3, v4, v5, v6, I =>
    if 8 ≤ v6 then
      ob1 (f_X7_stepped v3) fun r3 =>
      ob1 (f_X7_drawn r3) fun r5 =>
      lb (irem r5 1019) fun x6 =>
      K32 v2 r3 x6 (v5 + 1) I
    else
      ck (inb v6 8) <|
      lb (I (o0 + 8) v6.toNatClampNeg) fun x7 =>
      lb (v6 + 1) fun x8 =>
      ob1 (f_X7_power x8 v5 1019) fun r10 =>
      lb (x7 + (v4 * r10)) fun x11 =>
      ck (inb v6 8) <| lb (u2 I (o0 + 8) v6.toNatClampNeg (irem x11 1019)) fun I12 =>
      f_X5_deal_l64 o0 K32 n v2 v3 v4 v5 (v6 + 1) I12
noncomputable def f_X5_deal_b132 (o0 : Nat) (I : St) : Option (St) :=
  lb (u2 I o0 9 255) fun I13 =>
  some I13
noncomputable def f_X5_deal_l32 (o0 : Nat) : Nat → Int32 → Int32 → Int32 → Int32 → St → Option (St)
  | 0, _, _, _, _, _ => none
  | n + 1, v2, v3, v4, v5, I =>
    if v2 ≤ v5 then
      f_X5_deal_b132 o0 I
    else
      if 8 ≤ v5 then
        f_X5_deal_b132 o0 I
      else
        ob1 (f_X7_power 4 v4 2039) fun r17 =>
        ck (inb v5 8) <| lb (u2 I (o0 + 16) v5.toNatClampNeg r17) fun I18 =>
        f_X5_deal_l64 o0 (f_X5_deal_l32 o0 n) 10000 v2 v3 v4 v5 0 I18
noncomputable def f_X5_deal_l2 (o0 : Nat) : Nat → Int32 → Int32 → Int32 → St → Option (St)
  | 0, _, _, _, _ => none
  | n + 1, v1, v2, v3, I =>
    if 8 ≤ v3 then
      lb (I o0 5) fun x20 =>
      f_X5_deal_l32 o0 10000 v2 x20 v1 0 I
    else
      ck (inb v3 8) <| lb (u2 I (o0 + 8) v3.toNatClampNeg 0) fun I21 =>
      f_X5_deal_l2 o0 n v1 v2 (v3 + 1) I21
noncomputable def f_X5_deal (o0 : Nat) (v1 : Int32) (v2 : Int32) (I : St) : Option (St) :=
  ck (isP o0) <|
  f_X5_deal_l2 o0 10000 v1 v2 0 I
noncomputable def f_X6_value_l7 : Nat → Int32 → Int32 → Int32 → Option (Int32)
  | 0, _, _, _ => none
  | n + 1, v1, v2, v3 =>
    if v1 ≤ v3 then
      some v2
    else
      ob1 (f_X7_product v2 v2 62615533) fun r3 =>
      f_X6_value_l7 n v1 r3 (v3 + 1)
noncomputable def f_X6_value (v0 : Int32) (v1 : Int32) : Option (Int32) :=
  lb (irem v0 62615533) fun x4 =>
  f_X6_value_l7 10000 v1 x4 0
noncomputable def f_X5_putLock (o0 : Nat) (v1 : Int32) (v2 : Int32) (I : St) : Option (St) :=
  ck (isP o0) <|
  ob1 (f_X7_stepped (I o0 5)) fun r2 =>
  ob1 (f_X7_drawn r2) fun r4 =>
  lb (u2 I o0 7 (2 + (irem r4 1000))) fun I5 =>
  lb (I5 o0 7) fun x6 =>
  ob1 (f_X6_value x6 v2) fun r8 =>
  lb (v1 + r8) fun x9 =>
  lb (u2 I5 o0 8 (irem x9 1019)) fun I10 =>
  some I10
noncomputable def f_X4_accept_b80 (I : St) : Option (St) :=
  some I
noncomputable def f_X4_accept_b62 (v2 : Int32) (w4 : Nat) (I : St) : Option (St) :=
  lb (I 0 5) fun x1 =>
  if x1 = 2 then
    ob1 (f_X5_putLock w4 v2 (I 0 8) I) fun I4 =>
    f_X4_accept_b80 I4
  else
    f_X4_accept_b80 I
noncomputable def f_X4_accept (v1 : Int32) (v2 : Int32) (v3 : Int32) (I : St) : Option (St) :=
  ck (inb v1 8) <|
  ck (inb v1 8) <| lb (u2 I 2 v1.toNatClampNeg v2) fun I6 =>
  lb (u2 I6 (5 + v1.toNatClampNeg) 5 v3) fun I7 =>
  ob1 (f_X4_digestOf v2 v3 I7) fun r9 =>
  lb (u2 I7 (5 + v1.toNatClampNeg) 6 r9) fun I10 =>
  lb (I10 0 11) fun x11 =>
  lb (u2 I10 0 11 (x11 ||| (ishl 1 v1))) fun I12 =>
  lb (I12 0 5) fun x13 =>
  if x13 = 1 then
    ob1 (f_X5_deal (5 + v1.toNatClampNeg) v2 (I12 0 6) I12) fun I16 =>
    f_X4_accept_b62 v2 (5 + v1.toNatClampNeg) I16
  else
    f_X4_accept_b62 v2 (5 + v1.toNatClampNeg) I12
noncomputable def f_X7_commit_b22 (I : St) : Option (Int32 × St) :=
  some ((-1), I)
noncomputable def f_X7_commit_b63 (I : St) : Option (Int32 × St) :=
  some ((-2), I)
noncomputable def f_X7_commit (v1 : Int32) (v2 : Int32) (v3 : Int32) (I : St) : Option (Int32 × St) :=
  ob1 (f_X4_isParticipant v1 I) fun r2 =>
  if r2 = 0 then
    f_X7_commit_b22 I
  else
    ob1 (f_X7_isWithin v2 0 1018) fun r5 =>
    if r5 = 0 then
      f_X7_commit_b22 I
    else
      lb (I 0 9) fun x7 =>
      if x7 = 1 then
        lb (I 0 10) fun x9 =>
        ob1 (f_X7_has x9 v1) fun r11 =>
        if r11 = 0 then
          f_X7_commit_b63 I
        else
          lb (I 0 11) fun x13 =>
          ob1 (f_X7_has x13 v1) fun r15 =>
          if r15 = 0 then
            ob1 (f_X4_digestOf v2 v3 I) fun r18 =>
            ob1 (f_X4_isTaken r18 I) fun r20 =>
            if r20 = 0 then
              ob1 (f_X3_remember I) fun I23 =>
              ob1 (f_X4_accept v1 v2 v3 I23) fun I25 =>
              some (r18 &&& 1073741823, I25)
            else
              some ((-4), I)
          else
            f_X7_commit_b63 I
      else
        f_X7_commit_b63 I
noncomputable def f_X4_isCommitted_b23 (t0 : Int32) (I : St) : Option (Int32) :=
  ck (isB t0) <|
  some t0
noncomputable def f_X4_isCommitted_b22 (I : St) : Option (Int32) :=
  f_X4_isCommitted_b23 0 I
noncomputable def f_X4_isCommitted (v1 : Int32) (I : St) : Option (Int32) :=
  if (I 0 9) = 0 then
    f_X4_isCommitted_b22 I
  else
    lb (I 0 11) fun x2 =>
    ob1 (f_X7_has x2 v1) fun r4 =>
    if r4 = 0 then
      f_X4_isCommitted_b22 I
    else
      f_X4_isCommitted_b23 1 I
noncomputable def f_X4_hasDealt_b21 (t0 : Int32) (I : St) : Option (Int32) :=
  ck (isB t0) <|
  some t0
noncomputable def f_X4_hasDealt_b20 (I : St) : Option (Int32) :=
  f_X4_hasDealt_b21 0 I
noncomputable def f_X4_hasDealt (v1 : Int32) (I : St) : Option (Int32) :=
  lb (I 0 5) fun x1 =>
  if x1 = 1 then
    ob1 (f_X4_isCommitted v1 I) fun r4 =>
    if r4 = 0 then
      f_X4_hasDealt_b20 I
    else
      f_X4_hasDealt_b21 1 I
  else
    f_X4_hasDealt_b20 I
noncomputable def f_X4_hasShare_b24 (t0 : Int32) (I : St) : Option (Int32) :=
  ck (isB t0) <|
  some t0
noncomputable def f_X4_hasShare_b23 (I : St) : Option (Int32) :=
  f_X4_hasShare_b24 0 I
noncomputable def f_X4_hasShare (v1 : Int32) (v2 : Int32) (I : St) : Option (Int32) :=
  ob1 (f_X4_hasDealt v1 I) fun r2 =>
  if r2 = 0 then
    f_X4_hasShare_b23 I
  else
    lb (I 0 10) fun x4 =>
    ob1 (f_X7_has x4 v2) fun r6 =>
    if r6 = 0 then
      f_X4_hasShare_b23 I
    else
      f_X4_hasShare_b24 1 I
noncomputable def f_X5_provenPower_b41 (o0 : Nat) (K6 : Int32 → Int32 → Int32 → Int32 → St → Option (Int32)) (v1 : Int32) (v2 : Int32) (v3 : Int32) (v4 : Int32) (I : St) : Option (Int32) :=
  K6 v1 v2 v3 (v4 + (-1)) I
noncomputable def f_X5_provenPower_l6 (o0 : Nat) : Nat → Int32 → Int32 → Int32 → Int32 → St → Option (Int32)
  | 0, _, _, _, _, _ => none
  | n + 1, v1, v2, v3, v4, I =>
    if v4 < 0 then
      some v3
    else
      if v2 ≤ v4 then
        f_X5_provenPower_b41 o0 (f_X5_provenPower_l6 o0 n) v1 v2 v3 v4 I
      else
        lb (v1 + 1) fun x3 =>
        ob1 (f_X7_power v3 x3 2039) fun r5 =>
        ck (inb v4 8) <|
        lb (I (o0 + 16) v4.toNatClampNeg) fun x6 =>
        ob1 (f_X7_product r5 x6 2039) fun r8 =>
        f_X5_provenPower_b41 o0 (f_X5_provenPower_l6 o0 n) v1 v2 r8 v4 I
noncomputable def f_X5_provenPower (o0 : Nat) (v1 : Int32) (v2 : Int32) (I : St) : Option (Int32) :=
  ck (isP o0) <|
  f_X5_provenPower_l6 o0 10000 v1 v2 1 7 I
noncomputable def f_X5_changeShare_b66 (o0 : Nat) (I : St) : Option (St) :=
  some I
noncomputable def f_X5_changeShare (o0 : Nat) (v1 : Int32) (v2 : Int32) (v3 : Int32) (I : St) : Option (St) :=
  ck (isP o0) <|
  ck (inb v1 8) <|
  lb (I (o0 + 8) v1.toNatClampNeg) fun x1 =>
  lb (x1 + v2) fun x2 =>
  ck (inb v1 8) <| lb (u2 I (o0 + 8) v1.toNatClampNeg (irem x2 1019)) fun I3 =>
  lb (I3 o0 9) fun x4 =>
  lb (ishl 1 v1) fun x5 =>
  lb (u2 I3 o0 9 (x4 &&& (x5 ^^^ ((-1))))) fun I6 =>
  ck (inb v1 8) <|
  lb (I6 (o0 + 8) v1.toNatClampNeg) fun x7 =>
  ob1 (f_X7_power 4 x7 2039) fun r9 =>
  ob1 (f_X5_provenPower o0 v1 v3 I6) fun r11 =>
  if r9 = r11 then
    lb (I6 o0 9) fun x13 =>
    lb (u2 I6 o0 9 (x13 ||| (ishl 1 v1))) fun I14 =>
    f_X5_changeShare_b66 o0 I14
  else
    f_X5_changeShare_b66 o0 I6
noncomputable def f_X7_spoil_b33 (I : St) : Option (Int32 × St) :=
  some ((-1), I)
noncomputable def f_X7_spoil (v1 : Int32) (v2 : Int32) (v3 : Int32) (I : St) : Option (Int32 × St) :=
  ob1 (f_X4_isParticipant v1 I) fun r2 =>
  if r2 = 0 then
    f_X7_spoil_b33 I
  else
    ob1 (f_X4_isParticipant v2 I) fun r5 =>
    if r5 = 0 then
      f_X7_spoil_b33 I
    else
      ob1 (f_X7_isWithin v3 1 1018) fun r8 =>
      if r8 = 0 then
        f_X7_spoil_b33 I
      else
        ob1 (f_X4_hasShare v1 v2 I) fun r11 =>
        if r11 = 0 then
          some ((-9), I)
        else
          ob1 (f_X3_remember I) fun I14 =>
          ck (inb v1 8) <|
          ob1 (f_X5_changeShare (5 + v1.toNatClampNeg) v2 v3 (I14 0 6) I14) fun I17 =>
          ck (inb v1 8) <|
          ck (inb v2 8) <|
          some (I17 (5 + v1.toNatClampNeg + 8) v2.toNatClampNeg, I17)
noncomputable def f_X4_payFine (v1 : Int32) (I : St) : Option (St) :=
  lb (I 0 7) fun x1 =>
  ck (inb v1 8) <|
  lb (imin x1 (I (5 + v1.toNatClampNeg) 0)) fun x3 =>
  ck (inb v1 8) <|
  lb (I (5 + v1.toNatClampNeg) 0) fun x5 =>
  lb (u2 I (5 + v1.toNatClampNeg) 0 (x5 - x3)) fun I6 =>
  lb (I6 0 4) fun x7 =>
  lb (u2 I6 0 4 (x7 + x3)) fun I8 =>
  some I8
noncomputable def f_X4_expel (v1 : Int32) (I : St) : Option (St) :=
  ob1 (f_X4_payFine v1 I) fun I2 =>
  ck (inb v1 8) <|
  lb (I2 (5 + v1.toNatClampNeg) 4) fun x4 =>
  lb (u2 I2 (5 + v1.toNatClampNeg) 4 (x4 + 1)) fun I5 =>
  lb (I5 0 13) fun x6 =>
  lb (u2 I5 0 13 (x6 ||| (ishl 1 v1))) fun I7 =>
  lb (I7 0 10) fun x8 =>
  lb (ishl 1 v1) fun x9 =>
  lb (u2 I7 0 10 (x8 &&& (x9 ^^^ ((-1))))) fun I10 =>
  lb (I10 0 11) fun x11 =>
  lb (ishl 1 v1) fun x12 =>
  lb (u2 I10 0 11 (x11 &&& (x12 ^^^ ((-1))))) fun I13 =>
  some I13
noncomputable def f_X7_complain_b27 (I : St) : Option (Int32 × St) :=
  some ((-1), I)
noncomputable def f_X7_complain (v1 : Int32) (v2 : Int32) (I : St) : Option (Int32 × St) :=
  ob1 (f_X4_isParticipant v1 I) fun r2 =>
  if r2 = 0 then
    f_X7_complain_b27 I
  else
    ob1 (f_X4_isParticipant v2 I) fun r5 =>
    if r5 = 0 then
      f_X7_complain_b27 I
    else
      if v1 = v2 then
        f_X7_complain_b27 I
      else
        lb (I 0 9) fun x8 =>
        if x8 = 1 then
          ob1 (f_X4_hasShare v2 v1 I) fun r11 =>
          if r11 = 0 then
            some ((-9), I)
          else
            ob1 (f_X3_remember I) fun I14 =>
            ck (inb v2 8) <|
            lb (I14 (5 + v2.toNatClampNeg) 9) fun x16 =>
            ob1 (f_X7_has x16 v1) fun r18 =>
            if r18 = 0 then
              ob1 (f_X4_expel v2 I14) fun I21 =>
              some (1, I21)
            else
              ob1 (f_X4_payFine v1 I14) fun I23 =>
              some (0, I23)
        else
          some ((-2), I)
noncomputable def f_X0_put (v1 : Int32) (v2 : Int32) (v3 : Int32) (v4 : Int32) (v5 : Int32) (v6 : Int32) (I : St) : Option (St) :=
  lb (I 3 0) fun x1 =>
  lb (irem x1 16) fun x2 =>
  lb (x2 * 6) fun x3 =>
  ck (inb x3 96) <| lb (u2 I 4 x3.toNatClampNeg v1) fun I4 =>
  lb (x3 + 1) fun x5 =>
  ck (inb x5 96) <| lb (u2 I4 4 x5.toNatClampNeg v2) fun I6 =>
  lb (x3 + 2) fun x7 =>
  ck (inb x7 96) <| lb (u2 I6 4 x7.toNatClampNeg v3) fun I8 =>
  lb (x3 + 3) fun x9 =>
  ck (inb x9 96) <| lb (u2 I8 4 x9.toNatClampNeg v4) fun I10 =>
  lb (x3 + 4) fun x11 =>
  ck (inb x11 96) <| lb (u2 I10 4 x11.toNatClampNeg v5) fun I12 =>
  lb (x3 + 5) fun x13 =>
  ck (inb x13 96) <| lb (u2 I12 4 x13.toNatClampNeg v6) fun I14 =>
  lb (I14 3 0) fun x15 =>
  lb (u2 I14 3 0 (x15 + 1)) fun I16 =>
  some I16
noncomputable def f_X0_addFailure (v1 : Int32) (v2 : Int32) (v3 : Int32) (I : St) : Option (St) :=
  ob1 (f_X0_put ((-5)) v1 v2 0 v3 0 I) fun I2 =>
  lb (u2 I2 3 5 0) fun I3 =>
  some I3
noncomputable def f_X4_startOpening (I : St) : Option (Int32 × St) :=
  lb (u2 I 0 10 (I 0 11)) fun I1 =>
  ob1 (f_J6_bitCount_0f7a4 (I1 0 10)) fun r3 =>
  if 2 ≤ r3 then
    lb (u2 I1 0 9 2) fun I5 =>
    some (r3, I5)
  else
    lb (I1 0 10) fun x6 =>
    ob1 (f_X0_addFailure x6 0 (I1 0 5) I1) fun I8 =>
    lb (u2 I8 0 9 0) fun I9 =>
    some ((-5), I9)
noncomputable def f_X7_beginOpening (I : St) : Option (Int32 × St) :=
  lb (I 0 9) fun x1 =>
  if x1 = 1 then
    ob1 (f_X3_remember I) fun I4 =>
    ob2 (f_X4_startOpening I4) fun r7 I6 =>
    some (r7, I6)
  else
    some ((-2), I)
noncomputable def f_X7_open_b52 (I : St) : Option (Int32 × St) :=
  some ((-2), I)
noncomputable def f_X7_open_b95 (I : St) : Option (Int32 × St) :=
  some (0, I)
noncomputable def f_X7_open (v1 : Int32) (v2 : Int32) (v3 : Int32) (I : St) : Option (Int32 × St) :=
  ob1 (f_X4_isParticipant v1 I) fun r2 =>
  if r2 = 0 then
    some ((-1), I)
  else
    lb (I 0 9) fun x4 =>
    if x4 = 2 then
      lb (I 0 10) fun x6 =>
      ob1 (f_X7_has x6 v1) fun r8 =>
      if r8 = 0 then
        f_X7_open_b52 I
      else
        lb (I 0 12) fun x10 =>
        ob1 (f_X7_has x10 v1) fun r12 =>
        if r12 = 0 then
          ob1 (f_X3_remember I) fun I15 =>
          ck (inb v1 8) <|
          lb (I15 2 v1.toNatClampNeg) fun x16 =>
          if x16 = v2 then
            ck (inb v1 8) <|
            lb (I15 (5 + v1.toNatClampNeg) 5) fun x19 =>
            if x19 = v3 then
              lb (I15 0 12) fun x21 =>
              lb (u2 I15 0 12 (x21 ||| (ishl 1 v1))) fun I22 =>
              some (1, I22)
            else
              f_X7_open_b95 I15
          else
            f_X7_open_b95 I15
        else
          f_X7_open_b52 I
    else
      f_X7_open_b52 I
noncomputable def f_X4_canRecoverAll_b46 (K2 : Int32 → Int32 → St → Option (Int32)) (v1 : Int32) (v2 : Int32) (I : St) : Option (Int32) :=
  K2 v1 (v2 + 1) I
noncomputable def f_X4_canRecoverAll_l2 : Nat → Int32 → Int32 → St → Option (Int32)
  | 0, _, _, _ => none
  | n + 1, v1, v2, I =>
    if 8 ≤ v2 then
      some 1
    else
      lb (I 0 10) fun x2 =>
      lb (x2 &&& (v1 ^^^ ((-1)))) fun x3 =>
      ob1 (f_X7_has x3 v2) fun r5 =>
      if r5 = 0 then
        f_X4_canRecoverAll_b46 (f_X4_canRecoverAll_l2 n) v1 v2 I
      else
        ck (inb v2 8) <|
        ob1 (f_J6_bitCount_0f7a4 (v1 &&& (I (5 + v2.toNatClampNeg) 9))) fun r9 =>
        if (I 0 6) ≤ r9 then
          f_X4_canRecoverAll_b46 (f_X4_canRecoverAll_l2 n) v1 v2 I
        else
          some 0
noncomputable def f_X4_canRecoverAll (v1 : Int32) (I : St) : Option (Int32) :=
  f_X4_canRecoverAll_l2 10000 v1 0 I
noncomputable def f_X4_countedIf_b27 (I : St) : Option (Int32) :=
  some (I 0 10)
noncomputable def f_X4_countedIf (v1 : Int32) (I : St) : Option (Int32) :=
  if (I 0 5) = 0 then
    some v1
  else
    lb (I 0 5) fun x2 =>
    if x2 = 1 then
      ob1 (f_X4_canRecoverAll v1 I) fun r5 =>
      if r5 = 0 then
        some ((-1))
      else
        f_X4_countedIf_b27 I
    else
      f_X4_countedIf_b27 I
noncomputable def f_X4_chargeOrCredit_b68 (K2 : Int32 → St → Option (St)) (v1 : Int32) (I : St) : Option (St) :=
  K2 (v1 + 1) I
noncomputable def f_X4_chargeOrCredit_l2 : Nat → Int32 → St → Option (St)
  | 0, _, _ => none
  | n + 1, v1, I =>
    if 8 ≤ v1 then
      some I
    else
      lb (I 0 12) fun x2 =>
      ob1 (f_X7_has x2 v1) fun r4 =>
      if r4 = 0 then
        lb (I 0 10) fun x6 =>
        ob1 (f_X7_has x6 v1) fun r8 =>
        if r8 = 0 then
          f_X4_chargeOrCredit_b68 (f_X4_chargeOrCredit_l2 n) v1 I
        else
          ck (inb v1 8) <|
          lb (I (5 + v1.toNatClampNeg) 3) fun x11 =>
          lb (u2 I (5 + v1.toNatClampNeg) 3 (x11 + 1)) fun I12 =>
          ob1 (f_X4_payFine v1 I12) fun I14 =>
          f_X4_chargeOrCredit_b68 (f_X4_chargeOrCredit_l2 n) v1 I14
      else
        ck (inb v1 8) <|
        lb (I (5 + v1.toNatClampNeg) 2) fun x16 =>
        lb (u2 I (5 + v1.toNatClampNeg) 2 (x16 + 1)) fun I17 =>
        f_X4_chargeOrCredit_b68 (f_X4_chargeOrCredit_l2 n) v1 I17
noncomputable def f_X4_chargeOrCredit (I : St) : Option (St) :=
  f_X4_chargeOrCredit_l2 10000 0 I
noncomputable def f_X4_mixed_b59 (o1 : Nat) (K11 : Int32 → Int32 → Int32 → St → Option (Int32)) (v2 : Int32) (v3 : Int32) (v4 : Int32) (I : St) : Option (Int32) :=
  K11 v2 v3 (v4 + 1) I
noncomputable def f_X4_mixed_b55 (o1 : Nat) (K11 : Int32 → Int32 → Int32 → St → Option (Int32)) (v2 : Int32) (v4 : Int32) (t0 : Int32) (t1 : Int32) (I : St) : Option (Int32) :=
  ob1 (f_X7_mix t0 t1) fun r2 =>
  f_X4_mixed_b59 o1 K11 v2 r2 v4 I
noncomputable def f_X4_mixed_b65 (o1 : Nat) (v3 : Int32) (I : St) : Option (Int32) :=
  some v3
noncomputable def f_X4_mixed_l11 (o1 : Nat) : Nat → Int32 → Int32 → Int32 → St → Option (Int32)
  | 0, _, _, _, _ => none
  | n + 1, v2, v3, v4, I =>
    if 8 ≤ v4 then
      f_X4_mixed_b65 o1 v3 I
    else
      if 8 ≤ v4 then
        f_X4_mixed_b65 o1 v3 I
      else
        lb (I 0 10) fun x5 =>
        ob1 (f_X7_has x5 v4) fun r7 =>
        if r7 = 0 then
          f_X4_mixed_b59 o1 (f_X4_mixed_l11 o1 n) v2 v3 v4 I
        else
          ob1 (f_X7_has v2 v4) fun r10 =>
          if r10 = 0 then
            f_X4_mixed_b55 o1 (f_X4_mixed_l11 o1 n) v2 v4 v3 0 I
          else
            ck (inb v4 8) <|
            f_X4_mixed_b55 o1 (f_X4_mixed_l11 o1 n) v2 v4 v3 (I o1 v4.toNatClampNeg) I
noncomputable def f_X4_mixed (o1 : Nat) (v2 : Int32) (I : St) : Option (Int32) :=
  ck (isA o1) <|
  lb (I 3 1) fun x12 =>
  f_X4_mixed_l11 o1 10000 v2 x12 0 I
noncomputable def f_X0_addOutput_b80 (v5 : Int32) (t1 : Int32) (I : St) : Option (St) :=
  lb (u2 I 3 5 t1) fun I1 =>
  lb (u2 I1 3 6 v5) fun I2 =>
  lb (I2 3 4) fun x3 =>
  lb (u2 I2 3 4 (imax x3 (I2 3 5))) fun I4 =>
  some I4
noncomputable def f_X0_addOutput_b60 (v5 : Int32) (I : St) : Option (St) :=
  lb (I 3 6) fun x5 =>
  if x5 = v5 then
    lb (I 3 5) fun x7 =>
    f_X0_addOutput_b80 v5 (x7 + 1) I
  else
    f_X0_addOutput_b80 v5 1 I
noncomputable def f_X0_addOutput (v1 : Int32) (v2 : Int32) (v3 : Int32) (v4 : Int32) (I : St) : Option (St) :=
  lb (v1 &&& 1) fun x8 =>
  ob1 (f_J6_bitCount_0f7a4 v2) fun r10 =>
  lb (r10 - v3) fun x11 =>
  ob1 (f_X0_put x8 v2 v3 x11 v4 v1 I) fun I13 =>
  lb (u2 I13 3 1 v1) fun I14 =>
  if x8 = 1 then
    lb (I14 3 3) fun x18 =>
    lb (u2 I14 3 3 (x18 + 1)) fun I19 =>
    f_X0_addOutput_b60 x8 I19
  else
    lb (I14 3 2) fun x16 =>
    lb (u2 I14 3 2 (x16 + 1)) fun I17 =>
    f_X0_addOutput_b60 x8 I17
noncomputable def f_X4_sharePot_b56 (K14 : Int32 → Int32 → St → Option (St)) (v2 : Int32) (v3 : Int32) (I : St) : Option (St) :=
  K14 v2 (v3 + 1) I
noncomputable def f_X4_sharePot_l14 : Nat → Int32 → Int32 → St → Option (St)
  | 0, _, _, _ => none
  | n + 1, v2, v3, I =>
    if 8 ≤ v3 then
      some I
    else
      lb (I 0 12) fun x2 =>
      ob1 (f_X7_has x2 v3) fun r4 =>
      if r4 = 0 then
        f_X4_sharePot_b56 (f_X4_sharePot_l14 n) v2 v3 I
      else
        ck (inb v3 8) <|
        lb (I (5 + v3.toNatClampNeg) 0) fun x7 =>
        lb (u2 I (5 + v3.toNatClampNeg) 0 (x7 + v2)) fun I8 =>
        lb (I8 0 4) fun x9 =>
        lb (u2 I8 0 4 (x9 - v2)) fun I10 =>
        f_X4_sharePot_b56 (f_X4_sharePot_l14 n) v2 v3 I10
noncomputable def f_X4_sharePot (v1 : Int32) (I : St) : Option (St) :=
  if v1 = 0 then
    some I
  else
    lb (I 0 4) fun x12 =>
    ck (nz v1) <|
    lb (x12 / v1) fun x14 =>
    f_X4_sharePot_l14 10000 x14 0 I
noncomputable def f_X4_finish (I : St) : Option (Int32 × St) :=
  ob1 (f_X4_countedIf (I 0 12) I) fun r2 =>
  ob1 (f_X4_chargeOrCredit I) fun I4 =>
  lb (u2 I4 0 9 0) fun I5 =>
  ob1 (f_J6_bitCount_0f7a4 (I5 0 12)) fun r7 =>
  if r2 = ((-1)) then
    lb (I5 0 10) fun x16 =>
    ob1 (f_X0_addFailure x16 r7 (I5 0 5) I5) fun I18 =>
    some ((-5), I18)
  else
    ob1 (f_X4_mixed 2 r2 I5) fun r10 =>
    lb (I5 0 10) fun x11 =>
    ob1 (f_X0_addOutput r10 x11 r7 (I5 0 5) I5) fun I13 =>
    ob1 (f_X4_sharePot r7 I13) fun I15 =>
    some (r10 &&& 1, I15)
noncomputable def f_X7_close (I : St) : Option (Int32 × St) :=
  lb (I 0 9) fun x1 =>
  if x1 = 2 then
    ob1 (f_X3_remember I) fun I4 =>
    ob2 (f_X4_finish I4) fun r7 I6 =>
    some (r7, I6)
  else
    some ((-2), I)
noncomputable def f_X2_commitAll_b71 (K4 : Int32 → Int32 → St → Option (St)) (v2 : Int32) (v3 : Int32) (I : St) : Option (St) :=
  K4 v2 (v3 + 1) I
noncomputable def f_X2_commitAll_l4 : Nat → Int32 → Int32 → St → Option (St)
  | 0, _, _, _ => none
  | n + 1, v2, v3, I =>
    if 8 ≤ v3 then
      some I
    else
      lb (I 0 10) fun x2 =>
      ob1 (f_X7_has x2 v3) fun r4 =>
      if r4 = 0 then
        f_X2_commitAll_b71 (f_X2_commitAll_l4 n) v2 v3 I
      else
        ob1 (f_X7_stepped v2) fun r7 =>
        ob1 (f_X7_drawn r7) fun r9 =>
        lb (irem r9 1019) fun x10 =>
        ob1 (f_X7_stepped r7) fun r12 =>
        ob1 (f_X7_drawn r12) fun r14 =>
        ob1 (f_X4_digestOf x10 r14 I) fun r16 =>
        ob1 (f_X4_isTaken r16 I) fun r18 =>
        if r18 = 0 then
          ob1 (f_X4_accept v3 x10 r14 I) fun I21 =>
          f_X2_commitAll_b71 (f_X2_commitAll_l4 n) r12 v3 I21
        else
          f_X2_commitAll_b71 (f_X2_commitAll_l4 n) r12 v3 I
noncomputable def f_X2_commitAll (v1 : Int32) (I : St) : Option (St) :=
  f_X2_commitAll_l4 10000 v1 0 I
noncomputable def f_X2_memberAfter_l2 : Nat → Int32 → Int32 → St → Option (Int32)
  | 0, _, _, _ => none
  | n + 1, v1, v2, I =>
    if 8 ≤ v2 then
      some v1
    else
      lb (v1 + v2) fun x2 =>
      lb (irem x2 8) fun x3 =>
      lb (I 0 10) fun x4 =>
      ob1 (f_X7_has x4 x3) fun r6 =>
      if r6 = 0 then
        f_X2_memberAfter_l2 n v1 (v2 + 1) I
      else
        some x3
noncomputable def f_X2_memberAfter (v1 : Int32) (I : St) : Option (Int32) :=
  f_X2_memberAfter_l2 10000 v1 1 I
noncomputable def f_X2_cheat_b51 (K2 : Int32 → St → Option (St)) (v1 : Int32) (I : St) : Option (St) :=
  K2 (v1 + 1) I
noncomputable def f_X2_cheat_l2 : Nat → Int32 → St → Option (St)
  | 0, _, _ => none
  | n + 1, v1, I =>
    if 8 ≤ v1 then
      some I
    else
      lb (I 0 11) fun x2 =>
      ob1 (f_X7_has x2 v1) fun r4 =>
      if r4 = 0 then
        f_X2_cheat_b51 (f_X2_cheat_l2 n) v1 I
      else
        ck (inb v1 8) <|
        lb (I (5 + v1.toNatClampNeg) 1) fun x7 =>
        if x7 = 3 then
          ck (inb v1 8) <|
          ob1 (f_X2_memberAfter v1 I) fun r11 =>
          ob1 (f_X5_changeShare (5 + v1.toNatClampNeg) r11 1 (I 0 6) I) fun I13 =>
          f_X2_cheat_b51 (f_X2_cheat_l2 n) v1 I13
        else
          f_X2_cheat_b51 (f_X2_cheat_l2 n) v1 I
noncomputable def f_X2_cheat (I : St) : Option (St) :=
  f_X2_cheat_l2 10000 0 I
noncomputable def f_X2_complainAll_b64 (K2 : Int32 → St → Option (St)) (K10 : Int32 → Int32 → St → Option (St)) (v1 : Int32) (v2 : Int32) (I : St) : Option (St) :=
  K10 v1 (v2 + 1) I
noncomputable def f_X2_complainAll_l10 (K2 : Int32 → St → Option (St)) : Nat → Int32 → Int32 → St → Option (St)
  | 0, _, _, _ => none
  | n + 1, v1, v2, I =>
    if 8 ≤ v2 then
      K2 (v1 + 1) I
    else
      if v1 = v2 then
        f_X2_complainAll_b64 K2 (f_X2_complainAll_l10 K2 n) v1 v2 I
      else
        lb (I 0 10) fun x3 =>
        ob1 (f_X7_has x3 v1) fun r5 =>
        if r5 = 0 then
          f_X2_complainAll_b64 K2 (f_X2_complainAll_l10 K2 n) v1 v2 I
        else
          lb (I 0 11) fun x7 =>
          ob1 (f_X7_has x7 v2) fun r9 =>
          if r9 = 0 then
            f_X2_complainAll_b64 K2 (f_X2_complainAll_l10 K2 n) v1 v2 I
          else
            ck (inb v2 8) <|
            lb (I (5 + v2.toNatClampNeg) 9) fun x12 =>
            ob1 (f_X7_has x12 v1) fun r14 =>
            if r14 = 0 then
              ob1 (f_X4_expel v2 I) fun I17 =>
              f_X2_complainAll_b64 K2 (f_X2_complainAll_l10 K2 n) v1 v2 I17
            else
              f_X2_complainAll_b64 K2 (f_X2_complainAll_l10 K2 n) v1 v2 I
noncomputable def f_X2_complainAll_l2 : Nat → Int32 → St → Option (St)
  | 0, _, _ => none
  | n + 1, v1, I =>
    if 8 ≤ v1 then
      some I
    else
      f_X2_complainAll_l10 (f_X2_complainAll_l2 n) 10000 v1 0 I
noncomputable def f_X2_complainAll (I : St) : Option (St) :=
  f_X2_complainAll_l2 10000 0 I
noncomputable def f_X2_openHonest_b50 (K2 : Int32 → St → Option (St)) (v1 : Int32) (I : St) : Option (St) :=
  K2 (v1 + 1) I
noncomputable def f_X2_openHonest_b38 (K2 : Int32 → St → Option (St)) (v1 : Int32) (I : St) : Option (St) :=
  lb (I 0 12) fun x1 =>
  lb (u2 I 0 12 (x1 ||| (ishl 1 v1))) fun I2 =>
  f_X2_openHonest_b50 K2 v1 I2
noncomputable def f_X2_openHonest_l2 : Nat → Int32 → St → Option (St)
  | 0, _, _ => none
  | n + 1, v1, I =>
    if 8 ≤ v1 then
      some I
    else
      ck (inb v1 8) <|
      lb (I (5 + v1.toNatClampNeg) 1) fun x5 =>
      lb (I 0 10) fun x6 =>
      ob1 (f_X7_has x6 v1) fun r8 =>
      if r8 = 0 then
        f_X2_openHonest_b50 (f_X2_openHonest_l2 n) v1 I
      else
        if x5 = 0 then
          f_X2_openHonest_b38 (f_X2_openHonest_l2 n) v1 I
        else
          if x5 = 3 then
            f_X2_openHonest_b38 (f_X2_openHonest_l2 n) v1 I
          else
            f_X2_openHonest_b50 (f_X2_openHonest_l2 n) v1 I
noncomputable def f_X2_openHonest (I : St) : Option (St) :=
  f_X2_openHonest_l2 10000 0 I
noncomputable def f_X2_givesOne_b31 (t0 : Int32) (I : St) : Option (Int32) :=
  ck (isB t0) <|
  some t0
noncomputable def f_X2_givesOne_b30 (I : St) : Option (Int32) :=
  f_X2_givesOne_b31 0 I
noncomputable def f_X2_givesOne (v1 : Int32) (I : St) : Option (Int32) :=
  ob1 (f_X4_countedIf v1 I) fun r2 =>
  if r2 = ((-1)) then
    f_X2_givesOne_b30 I
  else
    ob1 (f_X4_mixed 2 r2 I) fun r5 =>
    lb (r5 &&& 1) fun x6 =>
    if x6 = 1 then
      f_X2_givesOne_b31 1 I
    else
      f_X2_givesOne_b30 I
noncomputable def f_X2_openSelfish_b65 (K2 : Int32 → St → Option (St)) (v1 : Int32) (I : St) : Option (St) :=
  K2 (v1 + 1) I
noncomputable def f_X2_openSelfish_b60 (K2 : Int32 → St → Option (St)) (v1 : Int32) (v2 : Int32) (I : St) : Option (St) :=
  lb (u2 I 0 12 v2) fun I1 =>
  f_X2_openSelfish_b65 K2 v1 I1
noncomputable def f_X2_openSelfish_l2 : Nat → Int32 → St → Option (St)
  | 0, _, _ => none
  | n + 1, v1, I =>
    if 8 ≤ v1 then
      some I
    else
      lb (I 0 10) fun x3 =>
      ob1 (f_X7_has x3 v1) fun r5 =>
      if r5 = 0 then
        f_X2_openSelfish_b65 (f_X2_openSelfish_l2 n) v1 I
      else
        ck (inb v1 8) <|
        lb (I (5 + v1.toNatClampNeg) 1) fun x8 =>
        if x8 = 2 then
          lb (I 0 12) fun x10 =>
          lb (x10 ||| (ishl 1 v1)) fun x11 =>
          ob1 (f_X2_givesOne (I 0 12) I) fun r13 =>
          if r13 = 0 then
            f_X2_openSelfish_b60 (f_X2_openSelfish_l2 n) v1 x11 I
          else
            ob1 (f_X2_givesOne x11 I) fun r16 =>
            if r16 = 0 then
              f_X2_openSelfish_b65 (f_X2_openSelfish_l2 n) v1 I
            else
              f_X2_openSelfish_b60 (f_X2_openSelfish_l2 n) v1 x11 I
        else
          f_X2_openSelfish_b65 (f_X2_openSelfish_l2 n) v1 I
noncomputable def f_X2_openSelfish (I : St) : Option (St) :=
  f_X2_openSelfish_l2 10000 0 I
noncomputable def f_X2_playRound_b25 (I : St) : Option (Int32 × St) :=
  ob2 (f_X4_startOpening I) fun r3 I2 =>
  if r3 = ((-5)) then
    some ((-5), I2)
  else
    ob1 (f_X2_openHonest I2) fun I6 =>
    ob1 (f_X2_openSelfish I6) fun I8 =>
    ob2 (f_X4_finish I8) fun r11 I10 =>
    some (r11, I10)
noncomputable def f_X2_playRound (v1 : Int32) (I : St) : Option (Int32 × St) :=
  ob1 (f_X4_start I) fun I13 =>
  ob1 (f_X2_commitAll v1 I13) fun I15 =>
  lb (I15 0 5) fun x16 =>
  if x16 = 1 then
    ob1 (f_X2_cheat I15) fun I19 =>
    ob1 (f_X2_complainAll I19) fun I21 =>
    f_X2_playRound_b25 I21
  else
    f_X2_playRound_b25 I15
noncomputable def f_X7_play (v1 : Int32) (I : St) : Option (Int32 × St) :=
  ob1 (f_X4_canStart I) fun r2 =>
  if r2 = 0 then
    some ((-2), I)
  else
    ob1 (f_X3_remember I) fun I5 =>
    ob2 (f_X2_playRound v1 I5) fun r8 I7 =>
    some (r8, I7)
noncomputable def f_X7_phase (I : St) : Option (Int32) :=
  some (I 0 9)
noncomputable def f_X7_set (v1 : Int32) (I : St) : Option (Int32) :=
  ob1 (f_X7_isWithin v1 0 3) fun r2 =>
  if r2 = 0 then
    some ((-1))
  else
    if (I 0 9) = 0 then
      some ((-2))
    else
      if v1 = 0 then
        some (I 0 10)
      else
        if v1 = 1 then
          some (I 0 11)
        else
          if v1 = 2 then
            some (I 0 12)
          else
            some (I 0 13)
noncomputable def f_X7_digest (v1 : Int32) (I : St) : Option (Int32) :=
  ob1 (f_X4_isParticipant v1 I) fun r2 =>
  if r2 = 0 then
    some ((-1))
  else
    ob1 (f_X4_isCommitted v1 I) fun r5 =>
    if r5 = 0 then
      some ((-9))
    else
      ck (inb v1 8) <|
      lb (I (5 + v1.toNatClampNeg) 6) fun x8 =>
      some (x8 &&& 1073741823)
noncomputable def f_X7_share_b22 (I : St) : Option (Int32) :=
  some ((-1))
noncomputable def f_X7_share (v1 : Int32) (v2 : Int32) (I : St) : Option (Int32) :=
  ob1 (f_X4_isParticipant v1 I) fun r2 =>
  if r2 = 0 then
    f_X7_share_b22 I
  else
    ob1 (f_X4_isParticipant v2 I) fun r5 =>
    if r5 = 0 then
      f_X7_share_b22 I
    else
      ob1 (f_X4_hasShare v1 v2 I) fun r8 =>
      if r8 = 0 then
        some ((-9))
      else
        ck (inb v1 8) <|
        ck (inb v2 8) <|
        some (I (5 + v1.toNatClampNeg + 8) v2.toNatClampNeg)
noncomputable def f_X7_isRight_b22 (I : St) : Option (Int32) :=
  some ((-1))
noncomputable def f_X7_isRight_b63 (t0 : Int32) (I : St) : Option (Int32) :=
  some t0
noncomputable def f_X7_isRight (v1 : Int32) (v2 : Int32) (I : St) : Option (Int32) :=
  ob1 (f_X4_isParticipant v1 I) fun r2 =>
  if r2 = 0 then
    f_X7_isRight_b22 I
  else
    ob1 (f_X4_isParticipant v2 I) fun r5 =>
    if r5 = 0 then
      f_X7_isRight_b22 I
    else
      ob1 (f_X4_hasShare v1 v2 I) fun r8 =>
      if r8 = 0 then
        some ((-9))
      else
        ck (inb v1 8) <|
        lb (I (5 + v1.toNatClampNeg) 9) fun x11 =>
        ob1 (f_X7_has x11 v2) fun r13 =>
        if r13 = 0 then
          f_X7_isRight_b63 0 I
        else
          f_X7_isRight_b63 1 I
noncomputable def f_X7_smallest_b32 (K4 : Int32 → Int32 → Int32 → Int32 → Option (Int32)) (v0 : Int32) (v1 : Int32) (v2 : Int32) (v3 : Int32) : Option (Int32) :=
  K4 v0 v1 v2 (v3 + 1)
noncomputable def f_X7_smallest_l4 : Nat → Int32 → Int32 → Int32 → Int32 → Option (Int32)
  | 0, _, _, _, _ => none
  | n + 1, v0, v1, v2, v3 =>
    if 8 ≤ v3 then
      some v2
    else
      ob1 (f_X7_has v0 v3) fun r3 =>
      if r3 = 0 then
        f_X7_smallest_b32 (f_X7_smallest_l4 n) v0 v1 v2 v3
      else
        ob1 (f_J6_bitCount_0f7a4 v2) fun r6 =>
        if v1 ≤ r6 then
          f_X7_smallest_b32 (f_X7_smallest_l4 n) v0 v1 v2 v3
        else
          lb (v2 ||| (ishl 1 v3)) fun x8 =>
          f_X7_smallest_b32 (f_X7_smallest_l4 n) v0 v1 x8 v3
noncomputable def f_X7_smallest (v0 : Int32) (v1 : Int32) : Option (Int32) :=
  f_X7_smallest_l4 10000 v0 v1 0 0
noncomputable def f_X5_weight_b61 (K7 : Int32 → Int32 → Int32 → Int32 → Int32 → Option (Int32)) (v0 : Int32) (v1 : Int32) (v2 : Int32) (v3 : Int32) (v4 : Int32) : Option (Int32) :=
  K7 v0 v1 v2 v3 (v4 + 1)
noncomputable def f_X5_weight_l7 : Nat → Int32 → Int32 → Int32 → Int32 → Int32 → Option (Int32)
  | 0, _, _, _, _, _ => none
  | n + 1, v0, v1, v2, v3, v4 =>
    if 8 ≤ v4 then
      ob1 (f_X7_power v3 1017 1019) fun r3 =>
      ob1 (f_X7_product v2 r3 1019) fun r5 =>
      some r5
    else
      if v4 = v0 then
        f_X5_weight_b61 (f_X5_weight_l7 n) v0 v1 v2 v3 v4
      else
        ob1 (f_X7_has v1 v4) fun r8 =>
        if r8 = 0 then
          f_X5_weight_b61 (f_X5_weight_l7 n) v0 v1 v2 v3 v4
        else
          lb (v4 + 1) fun x10 =>
          ob1 (f_X7_product v2 x10 1019) fun r12 =>
          lb (v4 - v0) fun x13 =>
          lb (x13 + 1019) fun x14 =>
          lb (irem x14 1019) fun x15 =>
          ob1 (f_X7_product v3 x15 1019) fun r17 =>
          f_X5_weight_b61 (f_X5_weight_l7 n) v0 v1 r12 r17 v4
noncomputable def f_X5_weight (v0 : Int32) (v1 : Int32) : Option (Int32) :=
  f_X5_weight_l7 10000 v0 v1 1 1 0
noncomputable def f_X5_valueAtZero_b42 (o0 : Nat) (K4 : Int32 → Int32 → Int32 → St → Option (Int32)) (v1 : Int32) (v2 : Int32) (v3 : Int32) (I : St) : Option (Int32) :=
  K4 v1 v2 (v3 + 1) I
noncomputable def f_X5_valueAtZero_l4 (o0 : Nat) : Nat → Int32 → Int32 → Int32 → St → Option (Int32)
  | 0, _, _, _, _ => none
  | n + 1, v1, v2, v3, I =>
    if 8 ≤ v3 then
      some v2
    else
      ob1 (f_X7_has v1 v3) fun r3 =>
      if r3 = 0 then
        f_X5_valueAtZero_b42 o0 (f_X5_valueAtZero_l4 o0 n) v1 v2 v3 I
      else
        ck (inb v3 8) <|
        lb (I (o0 + 8) v3.toNatClampNeg) fun x5 =>
        ob1 (f_X5_weight v3 v1) fun r7 =>
        ob1 (f_X7_product x5 r7 1019) fun r9 =>
        lb (v2 + r9) fun x10 =>
        lb (irem x10 1019) fun x11 =>
        f_X5_valueAtZero_b42 o0 (f_X5_valueAtZero_l4 o0 n) v1 x11 v3 I
noncomputable def f_X5_valueAtZero (o0 : Nat) (v1 : Int32) (I : St) : Option (Int32) :=
  ck (isP o0) <|
  f_X5_valueAtZero_l4 o0 10000 v1 0 0 I
noncomputable def f_X7_recover_b22 (I : St) : Option (Int32) :=
  some ((-1))
noncomputable def f_X7_recover_b59 (I : St) : Option (Int32) :=
  some ((-9))
noncomputable def f_X7_recover (v1 : Int32) (v2 : Int32) (I : St) : Option (Int32) :=
  ob1 (f_X4_isParticipant v1 I) fun r2 =>
  if r2 = 0 then
    f_X7_recover_b22 I
  else
    ob1 (f_X7_isWithin v2 0 255) fun r5 =>
    if r5 = 0 then
      f_X7_recover_b22 I
    else
      lb (v2 &&& (I 0 10)) fun x7 =>
      ob1 (f_X4_hasDealt v1 I) fun r9 =>
      if r9 = 0 then
        f_X7_recover_b59 I
      else
        ob1 (f_J6_bitCount_0f7a4 x7) fun r12 =>
        if (I 0 6) ≤ r12 then
          ck (inb v1 8) <|
          ob1 (f_X7_smallest x7 (I 0 6)) fun r16 =>
          ob1 (f_X5_valueAtZero (5 + v1.toNatClampNeg) r16 I) fun r18 =>
          some r18
        else
          f_X7_recover_b59 I
noncomputable def f_X4_canConspire_b31 (t0 : Int32) (I : St) : Option (Int32) :=
  ck (isB t0) <|
  some t0
noncomputable def f_X4_canConspire_b30 (I : St) : Option (Int32) :=
  f_X4_canConspire_b31 0 I
noncomputable def f_X4_canConspire (v1 : Int32) (I : St) : Option (Int32) :=
  lb (I 0 9) fun x1 =>
  if x1 = 2 then
    lb (I 0 10) fun x3 =>
    lb (I 0 12) fun x4 =>
    lb (x3 &&& (x4 ^^^ ((-1)))) fun x5 =>
    if (v1 &&& (x5 ^^^ ((-1)))) = 0 then
      f_X4_canConspire_b31 1 I
    else
      f_X4_canConspire_b30 I
  else
    f_X4_canConspire_b30 I
noncomputable def f_X1_add_b87 (I : St) : Option (St) :=
  some I
noncomputable def f_X1_add_b50 (v1 : Int32) (t0 : Int32) (I : St) : Option (St) :=
  if t0 = 0 then
    lb (I 148 3) fun x2 =>
    if 256 ≤ x2 then
      f_X1_add_b87 I
    else
      lb (I 148 3) fun x4 =>
      ck (inb x4 256) <| lb (u2 I 149 x4.toNatClampNeg v1) fun I5 =>
      lb (I5 148 3) fun x6 =>
      lb (u2 I5 148 3 (x6 + 1)) fun I7 =>
      f_X1_add_b87 I7
  else
    f_X1_add_b87 I
noncomputable def f_X1_add_b49 (v1 : Int32) (I : St) : Option (St) :=
  f_X1_add_b50 v1 0 I
noncomputable def f_X1_add (v1 : Int32) (I : St) : Option (St) :=
  if v1 = ((-1)) then
    lb (u2 I 148 4 1) fun I16 =>
    some I16
  else
    if (I 148 3) ≤ 0 then
      f_X1_add_b49 v1 I
    else
      lb (I 148 3) fun x10 =>
      if 256 < x10 then
        f_X1_add_b49 v1 I
      else
        lb (I 148 3) fun x12 =>
        lb (x12 - 1) fun x13 =>
        ck (inb x13 256) <|
        lb (I 149 x13.toNatClampNeg) fun x14 =>
        if x14 = v1 then
          f_X1_add_b50 v1 1 I
        else
          f_X1_add_b49 v1 I
noncomputable def f_X1_gather_b51 (K22 : Int32 → Int32 → Int32 → St → Option (St)) (v2 : Int32) (v3 : Int32) (v4 : Int32) (I : St) : Option (St) :=
  K22 v2 v3 (v4 + 1) I
noncomputable def f_X1_gather_l22 : Nat → Int32 → Int32 → Int32 → St → Option (St)
  | 0, _, _, _, _ => none
  | n + 1, v2, v3, v4, I =>
    if 256 ≤ v4 then
      some I
    else
      if (v4 &&& (v2 ^^^ ((-1)))) = 0 then
        ob1 (f_X4_countedIf (v3 ||| v4) I) fun r4 =>
        ob1 (f_X1_add r4 I) fun I6 =>
        f_X1_gather_b51 (f_X1_gather_l22 n) v2 v3 v4 I6
      else
        f_X1_gather_b51 (f_X1_gather_l22 n) v2 v3 v4 I
noncomputable def f_X1_gather (v2 : Int32) (I : St) : Option (St) :=
  lb (u2 I 148 3 0) fun I7 =>
  lb (u2 I7 148 4 0) fun I8 =>
  lb (I8 0 10) fun x9 =>
  lb (x9 &&& (v2 ^^^ ((-1)))) fun x10 =>
  f_X1_gather_l22 10000 v2 x10 0 I8
noncomputable def f_X1_isNew_l2 : Nat → Int32 → Int32 → St → Option (Int32)
  | 0, _, _, _ => none
  | n + 1, v1, v2, I =>
    if v1 ≤ v2 then
      some 1
    else
      ck (inb v2 256) <|
      lb (I 150 v2.toNatClampNeg) fun x2 =>
      ck (inb v1 256) <|
      if x2 = (I 150 v1.toNatClampNeg) then
        some 0
      else
        f_X1_isNew_l2 n v1 (v2 + 1) I
noncomputable def f_X1_isNew (v1 : Int32) (I : St) : Option (Int32) :=
  f_X1_isNew_l2 10000 v1 0 I
noncomputable def f_X1_countResults_b63 (K15 : Int32 → Int32 → St → Option (Int32 × St)) (v2 : Int32) (v3 : Int32) (I : St) : Option (Int32 × St) :=
  K15 v2 (v3 + 1) I
noncomputable def f_X1_countResults_b69 (v2 : Int32) (I : St) : Option (Int32 × St) :=
  some (v2, I)
noncomputable def f_X1_countResults_l15 : Nat → Int32 → Int32 → St → Option (Int32 × St)
  | 0, _, _, _ => none
  | n + 1, v2, v3, I =>
    if (I 148 3) ≤ v3 then
      f_X1_countResults_b69 v2 I
    else
      if 256 ≤ v3 then
        f_X1_countResults_b69 v2 I
      else
        ck (inb v3 256) <|
        ob1 (f_X4_mixed 2 (I 149 v3.toNatClampNeg) I) fun r4 =>
        ck (inb v3 256) <| lb (u2 I 150 v3.toNatClampNeg r4) fun I5 =>
        ob1 (f_X1_isNew v3 I5) fun r7 =>
        if r7 = 0 then
          f_X1_countResults_b63 (f_X1_countResults_l15 n) v2 v3 I5
        else
          f_X1_countResults_b63 (f_X1_countResults_l15 n) (v2 + 1) v3 I5
noncomputable def f_X1_countResults_b12 (t0 : Int32) (I : St) : Option (Int32 × St) :=
  f_X1_countResults_l15 10000 t0 0 I
noncomputable def f_X1_countResults (I : St) : Option (Int32 × St) :=
  if (I 148 4) = 0 then
    f_X1_countResults_b12 0 I
  else
    f_X1_countResults_b12 1 I
noncomputable def f_X7_results (v1 : Int32) (I : St) : Option (Int32 × St) :=
  ob1 (f_X7_isWithin v1 0 255) fun r2 =>
  if r2 = 0 then
    some ((-1), I)
  else
    ob1 (f_X4_canConspire v1 I) fun r5 =>
    if r5 = 0 then
      some ((-2), I)
    else
      ob1 (f_X1_gather v1 I) fun I8 =>
      ob2 (f_X1_countResults I8) fun r11 I10 =>
      some (r11, I10)
noncomputable def f_X1_reaches_b48 (o2 : Nat) (I : St) : Option (Int32) :=
  some 0
noncomputable def f_X1_reaches_l3 (o2 : Nat) : Nat → Int32 → Int32 → St → Option (Int32)
  | 0, _, _, _ => none
  | n + 1, v3, v4, I =>
    if (I 148 3) ≤ v4 then
      f_X1_reaches_b48 o2 I
    else
      if 256 ≤ v4 then
        f_X1_reaches_b48 o2 I
      else
        ck (inb v4 256) <|
        ob1 (f_X4_mixed o2 (I 149 v4.toNatClampNeg) I) fun r4 =>
        lb (r4 &&& 1) fun x5 =>
        if x5 = v3 then
          some 1
        else
          f_X1_reaches_l3 o2 n v3 (v4 + 1) I
noncomputable def f_X1_reaches (o2 : Nat) (v3 : Int32) (I : St) : Option (Int32) :=
  ck (isA o2) <|
  f_X1_reaches_l3 o2 10000 v3 0 I
noncomputable def f_X7_canForce_b20 (I : St) : Option (Int32 × St) :=
  some ((-1), I)
noncomputable def f_X7_canForce_b75 (t0 : Int32) (I : St) : Option (Int32 × St) :=
  some (t0, I)
noncomputable def f_X7_canForce (v1 : Int32) (v2 : Int32) (I : St) : Option (Int32 × St) :=
  ob1 (f_X7_isWithin v1 0 255) fun r2 =>
  if r2 = 0 then
    f_X7_canForce_b20 I
  else
    ob1 (f_X7_isWithin v2 0 1) fun r5 =>
    if r5 = 0 then
      f_X7_canForce_b20 I
    else
      ob1 (f_X4_canConspire v1 I) fun r8 =>
      if r8 = 0 then
        some ((-2), I)
      else
        ob1 (f_X1_gather v1 I) fun I11 =>
        ob1 (f_X1_reaches 2 v2 I11) fun r13 =>
        if r13 = 0 then
          f_X7_canForce_b75 0 I11
        else
          f_X7_canForce_b75 1 I11
noncomputable def f_X1_spread_b43 (K6 : Int32 → Int32 → Int32 → Int32 → St → Option (St)) (v2 : Int32) (v3 : Int32) (v4 : Int32) (v5 : Int32) (I : St) : Option (St) :=
  K6 v2 v3 v4 (v5 + 1) I
noncomputable def f_X1_spread_l6 : Nat → Int32 → Int32 → Int32 → Int32 → St → Option (St)
  | 0, _, _, _, _, _ => none
  | n + 1, v2, v3, v4, v5, I =>
    if 8 ≤ v5 then
      some I
    else
      ob1 (f_X7_has v2 v5) fun r3 =>
      if r3 = 0 then
        f_X1_spread_b43 (f_X1_spread_l6 n) v2 v3 v4 v5 I
      else
        lb (ishl 1 v3) fun x5 =>
        ck (inb v5 8) <| lb (u2 I 151 v5.toNatClampNeg (v4 &&& (x5 - 1))) fun I6 =>
        lb (iushr v4 v3) fun x7 =>
        f_X1_spread_b43 (f_X1_spread_l6 n) v2 v3 x7 v5 I6
noncomputable def f_X1_spread (v1 : Int32) (v2 : Int32) (v3 : Int32) (I : St) : Option (St) :=
  f_X1_spread_l6 10000 v2 v3 v1 0 I
noncomputable def f_X1_countForced_b62 (K31 : Int32 → Int32 → Int32 → Int32 → Int32 → St → Option (Int32 × St)) (v2 : Int32) (v3 : Int32) (v4 : Int32) (v5 : Int32) (v6 : Int32) (I : St) : Option (Int32 × St) :=
  K31 v2 v3 v4 v5 (v6 + 1) I
noncomputable def f_X1_countForced_l31 : Nat → Int32 → Int32 → Int32 → Int32 → Int32 → St → Option (Int32 × St)
  | 0, _, _, _, _, _, _ => none
  | n + 1, v2, v3, v4, v5, v6, I =>
    if v4 ≤ v6 then
      some (v5, I)
    else
      ob1 (f_X1_spread v6 v2 v3 I) fun I3 =>
      ob1 (f_X1_reaches 151 1 I3) fun r5 =>
      if r5 = 0 then
        f_X1_countForced_b62 (f_X1_countForced_l31 n) v2 v3 v4 v5 v6 I3
      else
        f_X1_countForced_b62 (f_X1_countForced_l31 n) v2 v3 v4 (v5 + 1) v6 I3
noncomputable def f_X1_countForced (v2 : Int32) (v3 : Int32) (I : St) : Option (Int32 × St) :=
  lb (ur I 151 (va_cpy (I 2) (I 151) 0 0 8)) fun I7 =>
  ob1 (f_J6_bitCount_0f7a4 v2) fun r9 =>
  lb (ishl 1 (v3 * r9)) fun x10 =>
  f_X1_countForced_l31 10000 v2 v3 x10 0 0 I7
noncomputable def f_X7_bias_b20 (I : St) : Option (Int32 × St) :=
  some ((-1), I)
noncomputable def f_X7_bias (v1 : Int32) (v2 : Int32) (I : St) : Option (Int32 × St) :=
  ob1 (f_X7_isWithin v1 0 255) fun r2 =>
  if r2 = 0 then
    f_X7_bias_b20 I
  else
    ob1 (f_X7_isWithin v2 1 4) fun r5 =>
    if r5 = 0 then
      f_X7_bias_b20 I
    else
      ob1 (f_X4_canConspire v1 I) fun r8 =>
      if r8 = 0 then
        some ((-2), I)
      else
        lb (I 0 10) fun x10 =>
        lb (x10 &&& (v1 ^^^ ((-1)))) fun x11 =>
        ob1 (f_J6_bitCount_0f7a4 x11) fun r13 =>
        lb (v2 * r13) fun x14 =>
        if x14 ≤ 12 then
          ob1 (f_X1_gather v1 I) fun I17 =>
          ob2 (f_X1_countForced x11 v2 I17) fun r20 I19 =>
          some (r20, I19)
        else
          some ((-3), I)
noncomputable def f_X7_account_b20 (I : St) : Option (Int32) :=
  some ((-1))
noncomputable def f_X7_account (v1 : Int32) (v2 : Int32) (I : St) : Option (Int32) :=
  ob1 (f_X4_isParticipant v1 I) fun r2 =>
  if r2 = 0 then
    f_X7_account_b20 I
  else
    ob1 (f_X7_isWithin v2 0 4) fun r5 =>
    if r5 = 0 then
      f_X7_account_b20 I
    else
      ck (inb v1 8) <|
      if v2 = 0 then
        some (I (5 + v1.toNatClampNeg) 0)
      else
        if v2 = 1 then
          some (I (5 + v1.toNatClampNeg) 2)
        else
          if v2 = 2 then
            some (I (5 + v1.toNatClampNeg) 3)
          else
            if v2 = 3 then
              some (I (5 + v1.toNatClampNeg) 4)
            else
              some (I (5 + v1.toNatClampNeg) 1)
noncomputable def f_X7_pot (I : St) : Option (Int32) :=
  some (I 0 4)
noncomputable def f_X7_rounds (I : St) : Option (Int32) :=
  some (I 3 0)
noncomputable def f_X0_keeps_b28 (t0 : Int32) (I : St) : Option (Int32) :=
  ck (isB t0) <|
  some t0
noncomputable def f_X0_keeps_b27 (I : St) : Option (Int32) :=
  f_X0_keeps_b28 0 I
noncomputable def f_X0_keeps (v1 : Int32) (I : St) : Option (Int32) :=
  if v1 < 0 then
    f_X0_keeps_b27 I
  else
    if (I 3 0) ≤ v1 then
      f_X0_keeps_b27 I
    else
      lb (I 3 0) fun x3 =>
      if v1 < (x3 - 16) then
        f_X0_keeps_b27 I
      else
        f_X0_keeps_b28 1 I
noncomputable def f_X0_entry (v1 : Int32) (v2 : Int32) (I : St) : Option (Int32) :=
  lb (irem v1 16) fun x1 =>
  lb (x1 * 6) fun x2 =>
  lb (x2 + v2) fun x3 =>
  ck (inb x3 96) <|
  some (I 4 x3.toNatClampNeg)
noncomputable def f_X7_past_b13 (I : St) : Option (Int32) :=
  some ((-1))
noncomputable def f_X7_past (v1 : Int32) (v2 : Int32) (I : St) : Option (Int32) :=
  if v1 < 0 then
    f_X7_past_b13 I
  else
    ob1 (f_X7_isWithin v2 0 4) fun r3 =>
    if r3 = 0 then
      f_X7_past_b13 I
    else
      ob1 (f_X0_keeps v1 I) fun r6 =>
      if r6 = 0 then
        some ((-9))
      else
        ob1 (f_X0_entry v1 v2 I) fun r9 =>
        some r9
noncomputable def f_X7_output (v1 : Int32) (I : St) : Option (Int32) :=
  ob1 (f_X0_keeps v1 I) fun r2 =>
  if r2 = 0 then
    some 0
  else
    ob1 (f_X0_entry v1 5 I) fun r5 =>
    some r5
noncomputable def f_X7_coins_b39 (t0 : Int32) (I : St) : Option (Int32) :=
  some t0
noncomputable def f_X7_coins (v1 : Int32) (I : St) : Option (Int32) :=
  ob1 (f_X7_isWithin v1 0 1) fun r2 =>
  if r2 = 0 then
    some ((-1))
  else
    if v1 = 1 then
      f_X7_coins_b39 (I 3 3) I
    else
      f_X7_coins_b39 (I 3 2) I
noncomputable def f_X7_longestRun (I : St) : Option (Int32) :=
  some (I 3 4)
noncomputable def f_X3_restore_b16 (I : St) : Option (St) :=
  some I
noncomputable def f_X3_restore (I : St) : Option (St) :=
  lb (I 146 1) fun x1 =>
  if x1 < 1 then
    f_X3_restore_b16 I
  else
    lb (I 146 1) fun x3 =>
    if x3 ≤ 4 then
      lb (I 146 1) fun x5 =>
      lb (u2 I 146 1 (x5 - 1)) fun I6 =>
      lb (I6 146 1) fun x7 =>
      ck (inb x7 4) <| lb (I6 147 x7.toNatClampNeg) fun x8 => ck (inb x8 5) <|
      ob1 (f_X4_copy 0 (29 * x8.toNatClampNeg) I6) fun I11 =>
      some I11
    else
      f_X3_restore_b16 I
noncomputable def f_X7_undo (I : St) : Option (Int32 × St) :=
  if (I 146 1) = 0 then
    some ((-2), I)
  else
    ob1 (f_X3_restore I) fun I3 =>
    some (I3 146 1, I3)
noncomputable def f_X7_fingerprint_l74 (K60 : Int64 → Int32 → St → Option (Int64)) : Nat → Int64 → Int32 → Int32 → St → Option (Int64)
  | 0, _, _, _, _ => none
  | n + 1, v1, v3, v4, I =>
    if 4 < v4 then
      K60 v1 (v3 + 1) I
    else
      lb (31 * v1) fun y2 =>
      ob1 (f_X7_account v3 v4 I) fun r4 =>
      lb (y2 + (r4.toInt64)) fun y5 =>
      f_X7_fingerprint_l74 K60 n y5 v3 (v4 + 1) I
noncomputable def f_X7_fingerprint_l147 : Nat → Int64 → Int32 → St → Option (Int64)
  | 0, _, _, _ => none
  | n + 1, v1, v3, I =>
    if (I 0 3) ≤ v3 then
      some v1
    else
      lb (31 * v1) fun y7 =>
      ob1 (f_X7_digest v3 I) fun r9 =>
      lb (y7 + (r9.toInt64)) fun y10 =>
      f_X7_fingerprint_l147 n y10 (v3 + 1) I
noncomputable def f_X7_fingerprint_l121 : Nat → Int64 → Int32 → St → Option (Int64)
  | 0, _, _, _ => none
  | n + 1, v1, v3, I =>
    if 3 < v3 then
      f_X7_fingerprint_l147 10000 v1 0 I
    else
      lb (31 * v1) fun y12 =>
      ob1 (f_X7_set v3 I) fun r14 =>
      lb (y12 + (r14.toInt64)) fun y15 =>
      f_X7_fingerprint_l121 n y15 (v3 + 1) I
noncomputable def f_X7_fingerprint_l60 : Nat → Int64 → Int32 → St → Option (Int64)
  | 0, _, _, _ => none
  | n + 1, v1, v3, I =>
    if (I 0 3) ≤ v3 then
      if (I 0 9) = 0 then
        some v1
      else
        f_X7_fingerprint_l121 10000 v1 0 I
    else
      f_X7_fingerprint_l74 (f_X7_fingerprint_l60 n) 10000 v1 v3 0 I
noncomputable def f_X7_fingerprint (I : St) : Option (Int64) :=
  lb (31 * 23) fun y18 =>
  ob1 (f_X7_phase I) fun r20 =>
  lb (y18 + (r20.toInt64)) fun y21 =>
  lb (31 * y21) fun y22 =>
  ob1 (f_X7_rounds I) fun r24 =>
  lb (y22 + (r24.toInt64)) fun y25 =>
  lb (31 * y25) fun y26 =>
  ob1 (f_X7_pot I) fun r28 =>
  lb (y26 + (r28.toInt64)) fun y29 =>
  lb (31 * y29) fun y30 =>
  lb (y30 + ((I 3 1).toInt64)) fun y31 =>
  f_X7_fingerprint_l60 10000 y31 0 I
noncomputable def f_L_up (v0 : Int32) (v1 : Int32) : Option (Int32) :=
  lb (v0 &&& 2147483647) fun x1 =>
  ck (nz v1) <|
  some (irem x1 v1)
noncomputable def f_L_sum_l9 : Nat → Int32 → Int64 → Int32 → St → Option (Int64)
  | 0, _, _, _, _ => none
  | n + 1, v1, v2, v4, I =>
    if v1 ≤ v4 then
      some v2
    else
      ob1 (f_X7_account v4 0 I) fun r3 =>
      lb (v2 + (r3.toInt64)) fun y4 =>
      f_L_sum_l9 n v1 y4 (v4 + 1) I
noncomputable def f_L_sum (v1 : Int32) (I : St) : Option (Int64) :=
  ob1 (f_X7_pot I) fun r6 =>
  lb (r6.toInt64) fun y7 =>
  f_L_sum_l9 10000 v1 y7 0 I
noncomputable def f_L_fails_b305 (t0 : Int32) (I : St) : Option (Int32 × St) :=
  ck (isB t0) <|
  some (t0, I)
noncomputable def f_L_fails_b304 (I : St) : Option (Int32 × St) :=
  f_L_fails_b305 0 I
noncomputable def f_L_fails_b284 (v2 : Int64) (t0 : Int32) (I : St) : Option (Int32 × St) :=
  if t0 = 0 then
    f_L_fails_b304 I
  else
    ob1 (f_X7_fingerprint I) fun r3 =>
    if (lg_cmp r3 v2) = 0 then
      f_L_fails_b305 1 I
    else
      f_L_fails_b304 I
noncomputable def f_L_fails_b279 (v2 : Int64) (I : St) : Option (Int32 × St) :=
  f_L_fails_b284 v2 1 I
noncomputable def f_L_fails_b283 (v2 : Int64) (I : St) : Option (Int32 × St) :=
  f_L_fails_b284 v2 0 I
noncomputable def f_L_fails_b185 (v2 : Int64) (t0 : Int32) (I : St) : Option (Int32 × St) :=
  if t0 = 0 then
    f_L_fails_b283 v2 I
  else
    ob1 (f_X7_phase I) fun r7 =>
    if r7 = 0 then
      ob2 (f_X7_close I) fun r27 I26 =>
      if r27 = ((-2)) then
        ob2 (f_X7_beginOpening I26) fun r31 I30 =>
        if r31 = ((-2)) then
          ob1 (f_X7_set 0 I30) fun r34 =>
          if r34 = ((-2)) then
            ob1 (f_X7_digest 0 I30) fun r37 =>
            if r37 = ((-9)) then
              f_L_fails_b279 v2 I30
            else
              f_L_fails_b283 v2 I30
          else
            f_L_fails_b283 v2 I30
        else
          f_L_fails_b283 v2 I30
      else
        f_L_fails_b283 v2 I26
    else
      ob2 (f_X7_begin I) fun r11 I10 =>
      if r11 = ((-2)) then
        ob2 (f_X7_play 1 I10) fun r15 I14 =>
        if r15 = ((-2)) then
          ob2 (f_X7_setMethod 0 I14) fun r19 I18 =>
          if r19 = ((-2)) then
            ob2 (f_X7_addParticipant 5 I18) fun r23 I22 =>
            if r23 = ((-2)) then
              f_L_fails_b279 v2 I22
            else
              f_L_fails_b283 v2 I22
          else
            f_L_fails_b283 v2 I18
        else
          f_L_fails_b283 v2 I14
      else
        f_L_fails_b283 v2 I10
noncomputable def f_L_fails_b184 (v2 : Int64) (I : St) : Option (Int32 × St) :=
  f_L_fails_b185 v2 0 I
noncomputable def f_L_fails_b77 (v1 : Int32) (v2 : Int64) (t0 : Int32) (I : St) : Option (Int32 × St) :=
  if t0 = 0 then
    f_L_fails_b184 v2 I
  else
    ob2 (f_X7_commit v1 0 0 I) fun r42 I41 =>
    if r42 = ((-1)) then
      ob2 (f_X7_commit 0 1019 0 I41) fun r46 I45 =>
      if r46 = ((-1)) then
        ob2 (f_X7_spoil 0 1 0 I45) fun r50 I49 =>
        if r50 = ((-1)) then
          ob2 (f_X7_complain 1 1 I49) fun r54 I53 =>
          if r54 = ((-1)) then
            ob2 (f_X7_open ((-1)) 0 0 I53) fun r58 I57 =>
            if r58 = ((-1)) then
              ob1 (f_X7_set 4 I57) fun r61 =>
              if r61 = ((-1)) then
                ob2 (f_X7_results 256 I57) fun r65 I64 =>
                if r65 = ((-1)) then
                  ob2 (f_X7_bias 0 5 I64) fun r69 I68 =>
                  if r69 = ((-1)) then
                    ob2 (f_X7_canForce 0 2 I68) fun r73 I72 =>
                    if r73 = ((-1)) then
                      f_L_fails_b185 v2 1 I72
                    else
                      f_L_fails_b184 v2 I72
                  else
                    f_L_fails_b184 v2 I68
                else
                  f_L_fails_b184 v2 I64
              else
                f_L_fails_b184 v2 I57
            else
              f_L_fails_b184 v2 I57
          else
            f_L_fails_b184 v2 I53
        else
          f_L_fails_b184 v2 I49
      else
        f_L_fails_b184 v2 I45
    else
      f_L_fails_b184 v2 I41
noncomputable def f_L_fails_b76 (v1 : Int32) (v2 : Int64) (I : St) : Option (Int32 × St) :=
  f_L_fails_b77 v1 v2 0 I
noncomputable def f_L_fails (v1 : Int32) (I : St) : Option (Int32 × St) :=
  ob1 (f_X7_fingerprint I) fun r76 =>
  ob2 (f_X7_addParticipant ((-1)) I) fun r79 I78 =>
  if r79 = ((-1)) then
    ob2 (f_X7_behave v1 0 I78) fun r83 I82 =>
    if r83 = ((-1)) then
      ob2 (f_X7_behave 0 4 I82) fun r87 I86 =>
      if r87 = ((-1)) then
        ob2 (f_X7_setMethod 3 I86) fun r91 I90 =>
        if r91 = ((-1)) then
          ob2 (f_X7_setThreshold 0 I90) fun r95 I94 =>
          if r95 = ((-1)) then
            ob2 (f_X7_setFine 1001 I94) fun r99 I98 =>
            if r99 = ((-1)) then
              ob2 (f_X7_setDelay 0 I98) fun r103 I102 =>
              if r103 = ((-1)) then
                f_L_fails_b77 v1 r76 1 I102
              else
                f_L_fails_b76 v1 r76 I102
            else
              f_L_fails_b76 v1 r76 I98
          else
            f_L_fails_b76 v1 r76 I94
        else
          f_L_fails_b76 v1 r76 I90
      else
        f_L_fails_b76 v1 r76 I86
    else
      f_L_fails_b76 v1 r76 I82
  else
    f_L_fails_b76 v1 r76 I78
noncomputable def f_L_sets_b123 (K75 : Int32 → Int32 → Int32 → Int32 → Int32 → Int32 → St → Option (Int32)) (v1 : Int32) (v2 : Int32) (v3 : Int32) (v4 : Int32) (v7 : Int32) (t0 : Int32) (I : St) : Option (Int32) :=
  K75 v1 v2 v3 v4 t0 (v7 + 1) I
noncomputable def f_L_sets_b122 (K75 : Int32 → Int32 → Int32 → Int32 → Int32 → Int32 → St → Option (Int32)) (v1 : Int32) (v2 : Int32) (v3 : Int32) (v4 : Int32) (v7 : Int32) (I : St) : Option (Int32) :=
  f_L_sets_b123 K75 v1 v2 v3 v4 v7 0 I
noncomputable def f_L_sets_b115 (K75 : Int32 → Int32 → Int32 → Int32 → Int32 → Int32 → St → Option (Int32)) (v1 : Int32) (v2 : Int32) (v3 : Int32) (v4 : Int32) (v7 : Int32) (t0 : Int32) (t1 : Int32) (I : St) : Option (Int32) :=
  if t0 = t1 then
    f_L_sets_b123 K75 v1 v2 v3 v4 v7 1 I
  else
    f_L_sets_b122 K75 v1 v2 v3 v4 v7 I
noncomputable def f_L_sets_b100 (K75 : Int32 → Int32 → Int32 → Int32 → Int32 → Int32 → St → Option (Int32)) (v1 : Int32) (v2 : Int32) (v3 : Int32) (v4 : Int32) (v7 : Int32) (t0 : Int32) (I : St) : Option (Int32) :=
  lb (ishr v3 v7) fun x2 =>
  lb (x2 &&& 1) fun x3 =>
  if x3 = 1 then
    f_L_sets_b115 K75 v1 v2 v3 v4 v7 t0 1 I
  else
    f_L_sets_b115 K75 v1 v2 v3 v4 v7 t0 0 I
noncomputable def f_L_sets_b162 (t0 : Int32) (I : St) : Option (Int32) :=
  ck (isB t0) <|
  some t0
noncomputable def f_L_sets_b157 (I : St) : Option (Int32) :=
  f_L_sets_b162 1 I
noncomputable def f_L_sets_b161 (I : St) : Option (Int32) :=
  f_L_sets_b162 0 I
noncomputable def f_L_sets_l75 : Nat → Int32 → Int32 → Int32 → Int32 → Int32 → Int32 → St → Option (Int32)
  | 0, _, _, _, _, _, _, _ => none
  | n + 1, v1, v2, v3, v4, v6, v7, I =>
    if v1 ≤ v7 then
      if v6 = 0 then
        f_L_sets_b161 I
      else
        ob1 (f_X7_phase I) fun r8 =>
        if r8 = 1 then
          if v4 = 0 then
            f_L_sets_b157 I
          else
            f_L_sets_b161 I
        else
          if v3 = v2 then
            f_L_sets_b157 I
          else
            f_L_sets_b161 I
    else
      if v6 = 0 then
        f_L_sets_b122 (f_L_sets_l75 n) v1 v2 v3 v4 v7 I
      else
        ob1 (f_X7_digest v7 I) fun r14 =>
        if r14 < 0 then
          f_L_sets_b100 (f_L_sets_l75 n) v1 v2 v3 v4 v7 0 I
        else
          f_L_sets_b100 (f_L_sets_l75 n) v1 v2 v3 v4 v7 1 I
noncomputable def f_L_sets_b70 (v1 : Int32) (v2 : Int32) (v3 : Int32) (v4 : Int32) (t0 : Int32) (I : St) : Option (Int32) :=
  f_L_sets_l75 10000 v1 v2 v3 v4 t0 0 I
noncomputable def f_L_sets_b69 (v1 : Int32) (v2 : Int32) (v3 : Int32) (v4 : Int32) (I : St) : Option (Int32) :=
  f_L_sets_b70 v1 v2 v3 v4 0 I
noncomputable def f_L_sets (v1 : Int32) (I : St) : Option (Int32) :=
  ob1 (f_X7_phase I) fun r17 =>
  if r17 = 0 then
    some 1
  else
    ob1 (f_X7_set 0 I) fun r20 =>
    ob1 (f_X7_set 1 I) fun r22 =>
    ob1 (f_X7_set 2 I) fun r24 =>
    ob1 (f_X7_set 3 I) fun r26 =>
    if (ishr r20 v1) = 0 then
      if (r22 &&& (r20 ^^^ ((-1)))) = 0 then
        if (r24 &&& (r22 ^^^ ((-1)))) = 0 then
          if (r26 &&& r20) = 0 then
            f_L_sets_b70 v1 r20 r22 r24 1 I
          else
            f_L_sets_b69 v1 r20 r22 r24 I
        else
          f_L_sets_b69 v1 r20 r22 r24 I
      else
        f_L_sets_b69 v1 r20 r22 r24 I
    else
      f_L_sets_b69 v1 r20 r22 r24 I
noncomputable def f_L_accounts_b65 (I : St) : Option (Int32) :=
  some 0
noncomputable def f_L_accounts_b154 (t0 : Int32) (I : St) : Option (Int32) :=
  ck (isB t0) <|
  some t0
noncomputable def f_L_accounts_b153 (I : St) : Option (Int32) :=
  f_L_accounts_b154 0 I
noncomputable def f_L_accounts_b146 (t0 : Int32) (t1 : Int32) (I : St) : Option (Int32) :=
  if t0 = t1 then
    f_L_accounts_b154 1 I
  else
    f_L_accounts_b153 I
noncomputable def f_L_accounts_b127 (t0 : Int32) (I : St) : Option (Int32) :=
  ob1 (f_X7_coins 0 I) fun r3 =>
  ob1 (f_X7_coins 1 I) fun r5 =>
  if (r3 + r5) ≤ 0 then
    f_L_accounts_b146 t0 0 I
  else
    f_L_accounts_b146 t0 1 I
noncomputable def f_L_accounts_l9 : Nat → Int32 → Int64 → Int32 → Int32 → St → Option (Int32)
  | 0, _, _, _, _, _ => none
  | n + 1, v1, v2, v4, v5, I =>
    if v1 ≤ v5 then
      ob1 (f_L_sum v1 I) fun r9 =>
      if (lg_cmp r9 v2) = 0 then
        ob1 (f_X7_pot I) fun r12 =>
        if r12 < 0 then
          f_L_accounts_b153 I
        else
          ob1 (f_X7_coins 0 I) fun r15 =>
          ob1 (f_X7_coins 1 I) fun r17 =>
          lb (r15 + r17) fun x18 =>
          if v4 < x18 then
            f_L_accounts_b153 I
          else
            ob1 (f_X7_longestRun I) fun r21 =>
            if v4 < r21 then
              f_L_accounts_b153 I
            else
              ob1 (f_X7_longestRun I) fun r24 =>
              if r24 ≤ 0 then
                f_L_accounts_b127 0 I
              else
                f_L_accounts_b127 1 I
      else
        f_L_accounts_b153 I
    else
      ob1 (f_X7_account v5 4 I) fun r27 =>
      ob1 (f_X7_account v5 0 I) fun r29 =>
      if r29 < 0 then
        f_L_accounts_b65 I
      else
        ob1 (f_X7_account v5 1 I) fun r32 =>
        ob1 (f_X7_account v5 2 I) fun r34 =>
        lb (r32 + r34) fun x35 =>
        if v4 < x35 then
          f_L_accounts_b65 I
        else
          if r27 < 0 then
            f_L_accounts_b65 I
          else
            if r27 ≤ 3 then
              f_L_accounts_l9 n v1 v2 v4 (v5 + 1) I
            else
              f_L_accounts_b65 I
noncomputable def f_L_accounts (v1 : Int32) (v2 : Int64) (I : St) : Option (Int32) :=
  ob1 (f_X7_rounds I) fun r40 =>
  f_L_accounts_l9 10000 v1 v2 r40 0 I
noncomputable def f_L_coalitions_b45 (t0 : Int32) (I : St) : Option (Int32 × St) :=
  ck (isB t0) <|
  some (t0, I)
noncomputable def f_L_coalitions_b44 (I : St) : Option (Int32 × St) :=
  f_L_coalitions_b45 0 I
noncomputable def f_L_coalitions_b122 (K96 : Int32 → Int32 → Int32 → Int32 → Int32 → Int32 → Int32 → St → Option (Int32 × St)) (v3 : Int32) (v4 : Int32) (v5 : Int32) (v6 : Int32) (v8 : Int32) (v9 : Int32) (t0 : Int32) (I : St) : Option (Int32 × St) :=
  ob1 (f_X7_set 0 I) fun r2 =>
  lb (r2 &&& (v3 ^^^ ((-1)))) fun x3 =>
  lb (ishr x3 v9) fun x4 =>
  lb (v8 + (x4 &&& 1)) fun x5 =>
  K96 v3 v4 v5 v6 t0 x5 (v9 + 1) I
noncomputable def f_L_coalitions_b196 (I : St) : Option (Int32 × St) :=
  some (0, I)
noncomputable def f_L_coalitions_b247 (t0 : Int32) (I : St) : Option (Int32 × St) :=
  ck (isB t0) <|
  some (t0, I)
noncomputable def f_L_coalitions_b246 (I : St) : Option (Int32 × St) :=
  f_L_coalitions_b247 0 I
noncomputable def f_L_coalitions_b198 (v3 : Int32) (v8 : Int32) (I : St) : Option (Int32 × St) :=
  ob2 (f_X7_bias v3 1 I) fun r8 I7 =>
  if v8 ≤ 12 then
    if r8 < 0 then
      f_L_coalitions_b246 I7
    else
      if (ishl 1 v8) < r8 then
        f_L_coalitions_b246 I7
      else
        f_L_coalitions_b247 1 I7
  else
    if r8 = ((-3)) then
      f_L_coalitions_b247 1 I7
    else
      f_L_coalitions_b247 0 I7
noncomputable def f_L_coalitions_l96 : Nat → Int32 → Int32 → Int32 → Int32 → Int32 → Int32 → Int32 → St → Option (Int32 × St)
  | 0, _, _, _, _, _, _, _, _ => none
  | n + 1, v3, v4, v5, v6, v7, v8, v9, I =>
    if 8 ≤ v9 then
      if v4 < 1 then
        f_L_coalitions_b196 I
      else
        if v7 < v4 then
          f_L_coalitions_b196 I
        else
          lb (v5 + v6) fun x16 =>
          if v4 < x16 then
            f_L_coalitions_b196 I
          else
            if v5 < 0 then
              f_L_coalitions_b196 I
            else
              if v6 < 0 then
                f_L_coalitions_b196 I
              else
                if (v5 + v6) = 0 then
                  if v4 = 1 then
                    f_L_coalitions_b198 v3 v8 I
                  else
                    f_L_coalitions_b196 I
                else
                  f_L_coalitions_b198 v3 v8 I
    else
      lb (ishr v3 v9) fun x22 =>
      lb (x22 &&& 1) fun x23 =>
      if x23 = 1 then
        f_L_coalitions_b122 (f_L_coalitions_l96 n) v3 v4 v5 v6 v8 v9 (2 * v7) I
      else
        f_L_coalitions_b122 (f_L_coalitions_l96 n) v3 v4 v5 v6 v8 v9 v7 I
noncomputable def f_L_coalitions (v1 : Int32) (I : St) : Option (Int32 × St) :=
  ob1 (f_X7_phase I) fun r26 =>
  if r26 = 2 then
    ob1 (f_X7_set 0 I) fun r29 =>
    ob1 (f_X7_set 2 I) fun r31 =>
    lb (r29 &&& (r31 ^^^ ((-1)))) fun x32 =>
    lb (x32 &&& v1) fun x33 =>
    ob2 (f_X7_results x33 I) fun r36 I35 =>
    ob2 (f_X7_canForce x33 0 I35) fun r39 I38 =>
    ob2 (f_X7_canForce x33 1 I38) fun r42 I41 =>
    f_L_coalitions_l96 10000 x33 r36 r39 r42 1 0 0 I41
  else
    ob2 (f_X7_results 0 I) fun r45 I44 =>
    if r45 = ((-2)) then
      ob2 (f_X7_canForce 0 0 I44) fun r49 I48 =>
      if r49 = ((-2)) then
        ob2 (f_X7_bias 0 1 I48) fun r53 I52 =>
        if r53 = ((-2)) then
          f_L_coalitions_b45 1 I52
        else
          f_L_coalitions_b44 I52
      else
        f_L_coalitions_b44 I48
    else
      f_L_coalitions_b44 I44
noncomputable def f_L_plays_b39 (t0 : Int32) (I : St) : Option (Int32 × St) :=
  ck (isB t0) <|
  some (t0, I)
noncomputable def f_L_plays_b94 (I : St) : Option (Int32 × St) :=
  some (0, I)
noncomputable def f_L_plays_b137 (t0 : Int32) (I : St) : Option (Int32 × St) :=
  ck (isB t0) <|
  some (t0, I)
noncomputable def f_L_plays_b136 (I : St) : Option (Int32 × St) :=
  f_L_plays_b137 0 I
noncomputable def f_L_plays_b96 (v1 : Int32) (v2 : Int64) (v5 : Int32) (v6 : Int64) (I : St) : Option (Int32 × St) :=
  ob2 (f_X7_undo I) fun r3 I2 =>
  if r3 < 0 then
    f_L_plays_b136 I2
  else
    ob1 (f_X7_fingerprint I2) fun r6 =>
    if (lg_cmp r6 v2) = 0 then
      ob2 (f_X7_play v1 I2) fun r10 I9 =>
      if r10 = v5 then
        ob1 (f_X7_fingerprint I9) fun r13 =>
        if (lg_cmp r13 v6) = 0 then
          f_L_plays_b137 1 I9
        else
          f_L_plays_b136 I9
      else
        f_L_plays_b136 I9
    else
      f_L_plays_b136 I2
noncomputable def f_L_plays (v1 : Int32) (I : St) : Option (Int32 × St) :=
  ob1 (f_X7_fingerprint I) fun r16 =>
  ob1 (f_X7_rounds I) fun r18 =>
  ob2 (f_X7_play v1 I) fun r21 I20 =>
  if r21 = ((-2)) then
    ob1 (f_X7_fingerprint I20) fun r40 =>
    if (lg_cmp r40 r16) = 0 then
      f_L_plays_b39 1 I20
    else
      f_L_plays_b39 0 I20
  else
    ob1 (f_X7_fingerprint I20) fun r24 =>
    ob1 (f_X7_phase I20) fun r26 =>
    if r26 = 0 then
      ob1 (f_X7_rounds I20) fun r29 =>
      if r29 = (r18 + 1) then
        ob1 (f_X7_past r18 0 I20) fun r32 =>
        if r32 = r21 then
          if r21 < 0 then
            f_L_plays_b96 v1 r16 r21 r24 I20
          else
            ob1 (f_X7_output r18 I20) fun r36 =>
            lb (r36 &&& 1) fun x37 =>
            if x37 = r21 then
              f_L_plays_b96 v1 r16 r21 r24 I20
            else
              f_L_plays_b94 I20
        else
          f_L_plays_b94 I20
      else
        f_L_plays_b94 I20
    else
      f_L_plays_b94 I20
noncomputable def f_L_commits_b33 (I : St) : Option (Int32 × St) :=
  some (1, I)
noncomputable def f_L_commits_b112 (t0 : Int32) (I : St) : Option (Int32 × St) :=
  ck (isB t0) <|
  some (t0, I)
noncomputable def f_L_commits_b107 (I : St) : Option (Int32 × St) :=
  f_L_commits_b112 1 I
noncomputable def f_L_commits_b111 (I : St) : Option (Int32 × St) :=
  f_L_commits_b112 0 I
noncomputable def f_L_commits_b67 (v1 : Int32) (v3 : Int32) (t0 : Int32) (I : St) : Option (Int32 × St) :=
  if t0 = 0 then
    f_L_commits_b111 I
  else
    ob1 (f_X7_share v1 v1 I) fun r3 =>
    if r3 < 0 then
      f_L_commits_b107 I
    else
      ob1 (f_X7_isRight v1 v1 I) fun r6 =>
      if r6 = 1 then
        ob1 (f_X7_set 0 I) fun r9 =>
        ob1 (f_X7_recover v1 r9 I) fun r11 =>
        if r11 = v3 then
          f_L_commits_b107 I
        else
          f_L_commits_b111 I
      else
        f_L_commits_b111 I
noncomputable def f_L_commits_b66 (v1 : Int32) (v3 : Int32) (I : St) : Option (Int32 × St) :=
  f_L_commits_b67 v1 v3 0 I
noncomputable def f_L_commits (v1 : Int32) (v2 : Int32) (I : St) : Option (Int32 × St) :=
  lb (ishr v2 4) fun x13 =>
  ob1 (f_L_up x13 1019) fun r15 =>
  ob2 (f_X7_commit v1 r15 v2 I) fun r18 I17 =>
  if r18 = ((-2)) then
    f_L_commits_b33 I17
  else
    if r18 = ((-4)) then
      f_L_commits_b33 I17
    else
      if r18 < 0 then
        f_L_commits_b66 v1 r15 I17
      else
        ob1 (f_X7_digest v1 I17) fun r23 =>
        if r23 = r18 then
          ob2 (f_X7_commit v1 r15 v2 I17) fun r27 I26 =>
          if r27 = ((-2)) then
            f_L_commits_b67 v1 r15 1 I26
          else
            f_L_commits_b66 v1 r15 I26
        else
          f_L_commits_b66 v1 r15 I17
noncomputable def f_L_steps_b256 (t0 : Int32) (I : St) : Option (Int32 × St) :=
  ck (isB t0) <|
  some (t0, I)
noncomputable def f_L_steps_b255 (I : St) : Option (Int32 × St) :=
  f_L_steps_b256 0 I
noncomputable def f_L_steps_b179 (t0 : Int32) (I : St) : Option (Int32 × St) :=
  ck (isB t0) <|
  some (t0, I)
noncomputable def f_L_steps_b158 (t0 : Int32) (I : St) : Option (Int32 × St) :=
  ck (isB t0) <|
  some (t0, I)
noncomputable def f_L_steps_b132 (t0 : Int32) (I : St) : Option (Int32 × St) :=
  ck (isB t0) <|
  some (t0, I)
noncomputable def f_L_steps_b127 (I : St) : Option (Int32 × St) :=
  f_L_steps_b132 1 I
noncomputable def f_L_steps_b104 (t0 : Int32) (I : St) : Option (Int32 × St) :=
  ck (isB t0) <|
  some (t0, I)
noncomputable def f_L_steps_b89 (t0 : Int32) (I : St) : Option (Int32 × St) :=
  ck (isB t0) <|
  some (t0, I)
noncomputable def f_L_steps_b74 (t0 : Int32) (I : St) : Option (Int32 × St) :=
  ck (isB t0) <|
  some (t0, I)
noncomputable def f_L_steps (v1 : Int32) (v2 : Int32) (v3 : Int32) (v4 : Int32) (I : St) : Option (Int32 × St) :=
  ob1 (f_L_up v3 12) fun r2 =>
  if r2 = 0 then
    ob2 (f_X7_begin I) fun r8 I7 =>
    if r8 < ((-2)) then
      f_L_steps_b74 0 I7
    else
      f_L_steps_b74 1 I7
  else
    if r2 = 1 then
      ob2 (f_X7_beginOpening I) fun r13 I12 =>
      if r13 < ((-5)) then
        f_L_steps_b89 0 I12
      else
        f_L_steps_b89 1 I12
    else
      if r2 = 2 then
        ob2 (f_X7_close I) fun r18 I17 =>
        if r18 < ((-5)) then
          f_L_steps_b104 0 I17
        else
          f_L_steps_b104 1 I17
      else
        if r2 = 3 then
          ob2 (f_L_plays v3 I) fun r23 I22 =>
          ck (isB r23) <|
          some (r23, I22)
        else
          if r2 = 4 then
            if v1 = v2 then
              f_L_steps_b127 I
            else
              ob2 (f_X7_complain v2 v1 I) fun r28 I27 =>
              if r28 < ((-9)) then
                f_L_steps_b132 0 I27
              else
                f_L_steps_b127 I27
          else
            if r2 = 5 then
              lb (ishr v3 4) fun x31 =>
              ob1 (f_L_up x31 1019) fun r33 =>
              ob2 (f_X7_open v1 r33 v3 I) fun r36 I35 =>
              if r36 < ((-2)) then
                f_L_steps_b158 0 I35
              else
                f_L_steps_b158 1 I35
            else
              if r2 = 6 then
                lb (ishr v3 4) fun x39 =>
                ob1 (f_L_up x39 4) fun r41 =>
                ob2 (f_X7_behave v1 r41 I) fun r44 I43 =>
                if r44 < 0 then
                  f_L_steps_b179 0 I43
                else
                  f_L_steps_b179 1 I43
              else
                if r2 = 7 then
                  ob2 (f_L_coalitions (ishr v3 5) I) fun r49 I48 =>
                  ck (isB r49) <|
                  some (r49, I48)
                else
                  if r2 = 8 then
                    ob2 (f_L_fails v4 I) fun r53 I52 =>
                    ck (isB r53) <|
                    some (r53, I52)
                  else
                    if r2 = 9 then
                      lb (ishr v3 4) fun x55 =>
                      ob1 (f_L_up x55 3) fun r57 =>
                      ob2 (f_X7_setMethod r57 I) fun r60 I59 =>
                      if r60 < ((-2)) then
                        f_L_steps_b255 I59
                      else
                        lb (ishr v3 6) fun x62 =>
                        ob1 (f_L_up x62 8) fun r64 =>
                        ob2 (f_X7_setThreshold (1 + r64) I59) fun r67 I66 =>
                        if r67 < ((-2)) then
                          f_L_steps_b255 I66
                        else
                          lb (ishr v3 9) fun x69 =>
                          ob1 (f_L_up x69 60) fun r71 =>
                          ob2 (f_X7_setDelay (1 + r71) I66) fun r74 I73 =>
                          if r74 < ((-2)) then
                            f_L_steps_b255 I73
                          else
                            f_L_steps_b256 1 I73
                    else
                      ob2 (f_L_commits v1 v3 I) fun r5 I4 =>
                      ck (isB r5) <|
                      some (r5, I4)
