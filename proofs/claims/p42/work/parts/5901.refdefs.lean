/-! value functions of the reference, plain definitions: the class is held against them -/
noncomputable def f_X7_check_b15 (I : St) : Option (Int32) :=
  some ((-1))
noncomputable def f_X7_check_b45 (I : St) : Option (Int32) :=
  some ((-9))
noncomputable def f_X7_check (v1 : Int32) (v2 : Int32) (I : St) : Option (Int32) :=
  ob1 (f_X4_isParticipant v1 I) fun r2 =>
  if r2 = 0 then
    f_X7_check_b15 I
  else
    if 0 ≤ v2 then
      ob1 (f_X4_hasDealt v1 I) fun r6 =>
      if r6 = 0 then
        f_X7_check_b45 I
      else
        if (I 0 6) ≤ v2 then
          f_X7_check_b45 I
        else
          if v2 < 8 then
            ck (inb v1 8) <|
            ck (inb v2 8) <|
            some (I (5 + v1.toNatClampNeg + 16) v2.toNatClampNeg)
          else
            f_X7_check_b45 I
    else
      f_X7_check_b15 I
noncomputable def f_X7_lock_b20 (I : St) : Option (Int32) :=
  some ((-1))
noncomputable def f_X7_lock_b44 (I : St) : Option (Int32) :=
  some ((-9))
noncomputable def f_X7_lock_b78 (t0 : Int32) (I : St) : Option (Int32) :=
  some t0
noncomputable def f_X7_lock (v1 : Int32) (v2 : Int32) (I : St) : Option (Int32) :=
  ob1 (f_X4_isParticipant v1 I) fun r2 =>
  if r2 = 0 then
    f_X7_lock_b20 I
  else
    ob1 (f_X7_isWithin v2 0 1) fun r5 =>
    if r5 = 0 then
      f_X7_lock_b20 I
    else
      lb (I 0 5) fun x7 =>
      if x7 = 2 then
        ob1 (f_X4_isCommitted v1 I) fun r10 =>
        if r10 = 0 then
          f_X7_lock_b44 I
        else
          if v2 = 0 then
            ck (inb v1 8) <|
            f_X7_lock_b78 (I (5 + v1.toNatClampNeg) 7) I
          else
            ck (inb v1 8) <|
            f_X7_lock_b78 (I (5 + v1.toNatClampNeg) 8) I
      else
        f_X7_lock_b44 I
noncomputable def f_X7_isSlowTask_b26 (t0 : Int32) : Option (Int32) :=
  ck (isB t0) <|
  some t0
noncomputable def f_X7_isSlowTask_b25 : Option (Int32) :=
  f_X7_isSlowTask_b26 0
noncomputable def f_X7_isSlowTask (v0 : Int32) (v1 : Int32) : Option (Int32) :=
  ob1 (f_X7_isWithin v0 2 100000) fun r2 =>
  if r2 = 0 then
    f_X7_isSlowTask_b25
  else
    ob1 (f_X7_isWithin v1 0 5000) fun r5 =>
    if r5 = 0 then
      f_X7_isSlowTask_b25
    else
      f_X7_isSlowTask_b26 1
noncomputable def f_X7_slow (v1 : Int32) (v2 : Int32) : Option (Int32) :=
  ob1 (f_X7_isSlowTask v1 v2) fun r2 =>
  if r2 = 0 then
    some ((-1))
  else
    ob1 (f_X6_value v1 v2) fun r5 =>
    some r5
noncomputable def f_X6_valueByFactors (v0 : Int32) (v1 : Int32) : Option (Int32) :=
  ob1 (f_X7_power 2 v1 62599708) fun r2 =>
  ob1 (f_X7_power v0 r2 62615533) fun r4 =>
  some r4
noncomputable def f_X7_quick_b21 : Option (Int32) :=
  some ((-1))
noncomputable def f_X7_quick (v1 : Int32) (v2 : Int32) : Option (Int32) :=
  ob1 (f_X7_isWithin v1 2 7906) fun r2 =>
  if r2 = 0 then
    f_X7_quick_b21
  else
    ob1 (f_X7_isWithin v2 0 1000000000) fun r5 =>
    if r5 = 0 then
      f_X7_quick_b21
    else
      ob1 (f_X6_valueByFactors v1 v2) fun r8 =>
      some r8
noncomputable def f_X6_isPrime_b33 (t0 : Int32) : Option (Int32) :=
  ck (isB t0) <|
  some t0
noncomputable def f_X6_isPrime_l2 : Nat → Int32 → Int32 → Option (Int32)
  | 0, _, _ => none
  | n + 1, v0, v1 =>
    lb (v1 * v1) fun x1 =>
    if v0 < x1 then
      if v0 < 2 then
        f_X6_isPrime_b33 0
      else
        f_X6_isPrime_b33 1
    else
      ck (nz v1) <|
      if (irem v0 v1) = 0 then
        some 0
      else
        f_X6_isPrime_l2 n v0 (v1 + 1)
noncomputable def f_X6_isPrime (v0 : Int32) : Option (Int32) :=
  f_X6_isPrime_l2 10000 v0 2
noncomputable def f_X6_leastPrime_l2 : Nat → Int32 → Int32 → Option (Int32)
  | 0, _, _ => none
  | n + 1, v0, v1 =>
    if (2 * v0) ≤ v1 then
      some v0
    else
      ob1 (f_X6_isPrime v1) fun r3 =>
      if r3 = 0 then
        f_X6_leastPrime_l2 n v0 (v1 + 1)
      else
        some v1
noncomputable def f_X6_leastPrime (v0 : Int32) : Option (Int32) :=
  f_X6_leastPrime_l2 10000 v0 v0
noncomputable def f_X6_challenge (v0 : Int32) (v1 : Int32) : Option (Int32) :=
  ob1 (f_X7_mix 19 v0) fun r2 =>
  ob1 (f_X7_mix r2 v1) fun r4 =>
  ob1 (f_X6_leastPrime (257 + (iushr r4 22))) fun r6 =>
  some r6
noncomputable def f_X7_prime (v1 : Int32) (v2 : Int32) : Option (Int32) :=
  ob1 (f_X7_isSlowTask v1 v2) fun r2 =>
  if r2 = 0 then
    some ((-1))
  else
    ob1 (f_X6_value v1 v2) fun r5 =>
    ob1 (f_X6_challenge v1 r5) fun r7 =>
    some r7
noncomputable def f_X6_evidence_b48 (K8 : Int32 → Int32 → Int32 → Int32 → Int32 → Int32 → Option (Int32)) (v0 : Int32) (v1 : Int32) (v2 : Int32) (v3 : Int32) (v4 : Int32) (v5 : Int32) : Option (Int32) :=
  K8 v0 v1 v2 v3 v4 (v5 + 1)
noncomputable def f_X6_evidence_l8 : Nat → Int32 → Int32 → Int32 → Int32 → Int32 → Int32 → Option (Int32)
  | 0, _, _, _, _, _, _ => none
  | n + 1, v0, v1, v2, v3, v4, v5 =>
    if v1 ≤ v5 then
      some v3
    else
      ob1 (f_X7_product v3 v3 62615533) fun r3 =>
      lb (2 * v4) fun x4 =>
      if x4 < v2 then
        f_X6_evidence_b48 (f_X6_evidence_l8 n) v0 v1 v2 r3 x4 v5
      else
        lb (x4 - v2) fun x6 =>
        ob1 (f_X7_product r3 v0 62615533) fun r8 =>
        f_X6_evidence_b48 (f_X6_evidence_l8 n) v0 v1 v2 r8 x6 v5
noncomputable def f_X6_evidence (v0 : Int32) (v1 : Int32) (v2 : Int32) : Option (Int32) :=
  f_X6_evidence_l8 10000 v0 v1 v2 1 1 0
noncomputable def f_X7_proof (v1 : Int32) (v2 : Int32) : Option (Int32) :=
  ob1 (f_X7_isSlowTask v1 v2) fun r2 =>
  if r2 = 0 then
    some ((-1))
  else
    ob1 (f_X6_value v1 v2) fun r5 =>
    ob1 (f_X6_challenge v1 r5) fun r7 =>
    ob1 (f_X6_evidence v1 v2 r7) fun r9 =>
    some r9
noncomputable def f_X6_isProven_b46 (t0 : Int32) : Option (Int32) :=
  ck (isB t0) <|
  some t0
noncomputable def f_X6_isProven (v0 : Int32) (v1 : Int32) (v2 : Int32) (v3 : Int32) : Option (Int32) :=
  ob1 (f_X6_challenge v0 v2) fun r2 =>
  ob1 (f_X7_power 2 v1 r2) fun r4 =>
  ob1 (f_X7_power v3 r2 62615533) fun r6 =>
  ob1 (f_X7_power v0 r4 62615533) fun r8 =>
  ob1 (f_X7_product r6 r8 62615533) fun r10 =>
  if r10 = v2 then
    f_X6_isProven_b46 1
  else
    f_X6_isProven_b46 0
noncomputable def f_X7_accepts_b41 : Option (Int32) :=
  some ((-1))
noncomputable def f_X7_accepts_b59 (t0 : Int32) : Option (Int32) :=
  some t0
noncomputable def f_X7_accepts (v1 : Int32) (v2 : Int32) (v3 : Int32) (v4 : Int32) : Option (Int32) :=
  ob1 (f_X7_isWithin v1 2 100000) fun r2 =>
  if r2 = 0 then
    f_X7_accepts_b41
  else
    ob1 (f_X7_isWithin v2 0 1000000000) fun r5 =>
    if r5 = 0 then
      f_X7_accepts_b41
    else
      ob1 (f_X7_isWithin v3 0 62615532) fun r8 =>
      if r8 = 0 then
        f_X7_accepts_b41
      else
        ob1 (f_X7_isWithin v4 0 62615532) fun r11 =>
        if r11 = 0 then
          f_X7_accepts_b41
        else
          ob1 (f_X6_isProven v1 v2 v3 v4) fun r14 =>
          if r14 = 0 then
            f_X7_accepts_b59 0
          else
            f_X7_accepts_b59 1
noncomputable def f_X8_in_b15 (t0 : Int32) : Option (Int32) :=
  ck (isB t0) <|
  some t0
noncomputable def f_X8_in_b14 : Option (Int32) :=
  f_X8_in_b15 0
noncomputable def f_X8_in (v0 : Int32) (v1 : Int32) (v2 : Int32) : Option (Int32) :=
  if v0 < v1 then
    f_X8_in_b14
  else
    if v2 < v0 then
      f_X8_in_b14
    else
      f_X8_in_b15 1
noncomputable def f_X8_act_l51 : Nat → Int32 → St → Option (St)
  | 0, _, _ => none
  | n + 1, v1, M =>
    if 420 ≤ v1 then
      lb (M 0 2) fun x2 =>
      lb (u2 M 0 2 (x2 + 1)) fun M3 =>
      some M3
    else
      lb (420 * (M 0 2)) fun x4 =>
      lb (x4 + v1) fun x5 =>
      ck (inb v1 420) <|
      ck (inb x5 1680) <| lb (u2 M 2 x5.toNatClampNeg (M 1 v1.toNatClampNeg)) fun M6 =>
      f_X8_act_l51 n (v1 + 1) M6
noncomputable def f_X8_act_b49 (M : St) : Option (St) :=
  f_X8_act_l51 10000 0 M
noncomputable def f_X8_act_l10 : Nat → Int32 → St → Option (St)
  | 0, _, _ => none
  | n + 1, v1, M =>
    if 1260 ≤ v1 then
      lb (M 0 2) fun x8 =>
      lb (u2 M 0 2 (x8 - 1)) fun M9 =>
      f_X8_act_b49 M9
    else
      lb (v1 + 420) fun x10 =>
      ck (inb x10 1680) <|
      ck (inb v1 1680) <| lb (u2 M 2 v1.toNatClampNeg (M 2 x10.toNatClampNeg)) fun M11 =>
      f_X8_act_l10 n (v1 + 1) M11
noncomputable def f_X8_act (M : St) : Option (St) :=
  lb (M 0 2) fun x12 =>
  if x12 = 4 then
    f_X8_act_l10 10000 0 M
  else
    f_X8_act_b49 M
noncomputable def f_X8_mix (v0 : Int32) (v1 : Int32) : Option (Int32) :=
  lb (v0 ^^^ v1) fun x1 =>
  lb (x1 * ((-1640531535))) fun x2 =>
  some (x2 ^^^ (iushr x2 15))
noncomputable def f_X8_draw (M : St) : Option (Int32 × St) :=
  lb (1103515245 * (M 0 5)) fun x1 =>
  lb (u2 M 0 5 (x1 + 12345)) fun M2 =>
  lb (M2 0 5) fun x3 =>
  some (iushr x3 16, M2)
noncomputable def f_X8_person (v0 : Int32) : Option (Int32) :=
  some (20 + (40 * v0))
noncomputable def f_X8_isPerson (v1 : Int32) (M : St) : Option (Int32) :=
  ck (inb 4 420) <|
  lb (M 1 (4 : Int32).toNatClampNeg) fun x1 =>
  ob1 (f_X8_in v1 0 (x1 - 1)) fun r3 =>
  ck (isB r3) <|
  some r3
noncomputable def f_X8_has_b20 (t0 : Int32) (M : St) : Option (Int32) :=
  ck (isB t0) <|
  some t0
noncomputable def f_X8_has (v1 : Int32) (v2 : Int32) (M : St) : Option (Int32) :=
  ob1 (f_X8_person v1) fun r2 =>
  lb (r2 + v2) fun x3 =>
  ck (inb x3 420) <|
  lb (M 1 x3.toNatClampNeg) fun x4 =>
  if x4 = 1 then
    f_X8_has_b20 1 M
  else
    f_X8_has_b20 0 M
noncomputable def f_X8_isMember_b22 (t0 : Int32) (M : St) : Option (Int32) :=
  ck (isB t0) <|
  some t0
noncomputable def f_X8_isMember_b21 (M : St) : Option (Int32) :=
  f_X8_isMember_b22 0 M
noncomputable def f_X8_isMember (v1 : Int32) (M : St) : Option (Int32) :=
  ob1 (f_X8_isPerson v1 M) fun r2 =>
  if r2 = 0 then
    f_X8_isMember_b21 M
  else
    ob1 (f_X8_has v1 5 M) fun r5 =>
    if r5 = 0 then
      f_X8_isMember_b21 M
    else
      f_X8_isMember_b22 1 M
noncomputable def f_X8_setOf_b31 (K4 : Int32 → Int32 → Int32 → St → Option (Int32)) (v1 : Int32) (v3 : Int32) (t0 : Int32) (t1 : Int32) (M : St) : Option (Int32) :=
  lb (t0 ||| t1) fun x1 =>
  K4 v1 x1 (v3 + 1) M
noncomputable def f_X8_setOf_l4 : Nat → Int32 → Int32 → Int32 → St → Option (Int32)
  | 0, _, _, _, _ => none
  | n + 1, v1, v2, v3, M =>
    ck (inb 4 420) <|
    if (M 1 (4 : Int32).toNatClampNeg) ≤ v3 then
      some v2
    else
      ob1 (f_X8_has v3 v1 M) fun r4 =>
      if r4 = 0 then
        f_X8_setOf_b31 (f_X8_setOf_l4 n) v1 v3 v2 0 M
      else
        f_X8_setOf_b31 (f_X8_setOf_l4 n) v1 v3 v2 (ishl 1 v3) M
noncomputable def f_X8_setOf (v1 : Int32) (M : St) : Option (Int32) :=
  f_X8_setOf_l4 10000 v1 0 0 M
noncomputable def f_X8_countOf_l4 : Nat → Int32 → Int32 → Int32 → Option (Int32)
  | 0, _, _, _ => none
  | n + 1, v0, v1, v2 =>
    if 8 ≤ v2 then
      some v1
    else
      lb (ishr v0 v2) fun x2 =>
      lb (v1 + (x2 &&& 1)) fun x3 =>
      f_X8_countOf_l4 n v0 x3 (v2 + 1)
noncomputable def f_X8_countOf (v0 : Int32) : Option (Int32) :=
  f_X8_countOf_l4 10000 v0 0 0
noncomputable def f_X8_pays_b42 (v1 : Int32) (t0 : Int32) (M : St) : Option (St) :=
  ob1 (f_X8_person v1) fun r2 =>
  lb (r2 + 0) fun x3 =>
  ck (inb x3 420) <|
  lb (M 1 x3.toNatClampNeg) fun x4 =>
  ck (inb x3 420) <| lb (u2 M 1 x3.toNatClampNeg (x4 - t0)) fun M5 =>
  ck (inb 2 420) <|
  lb (M5 1 (2 : Int32).toNatClampNeg) fun x6 =>
  ck (inb 2 420) <| lb (u2 M5 1 (2 : Int32).toNatClampNeg (x6 + t0)) fun M7 =>
  some M7
noncomputable def f_X8_pays (v1 : Int32) (M : St) : Option (St) :=
  ob1 (f_X8_person v1) fun r9 =>
  lb (r9 + 0) fun x10 =>
  ck (inb x10 420) <|
  lb (M 1 x10.toNatClampNeg) fun x11 =>
  ck (inb 7 420) <|
  if (M 1 (7 : Int32).toNatClampNeg) ≤ x11 then
    ck (inb 7 420) <|
    f_X8_pays_b42 v1 (M 1 (7 : Int32).toNatClampNeg) M
  else
    ob1 (f_X8_person v1) fun r14 =>
    lb (r14 + 0) fun x15 =>
    ck (inb x15 420) <|
    f_X8_pays_b42 v1 (M 1 x15.toNatClampNeg) M
noncomputable def f_X8_addParticipant (v1 : Int32) (M : St) : Option (Int32 × St) :=
  ob1 (f_X8_in v1 0 1000000) fun r2 =>
  if r2 = 0 then
    some ((-1), M)
  else
    ck (inb 0 420) <|
    if (M 1 (0 : Int32).toNatClampNeg) = 0 then
      ck (inb 4 420) <|
      lb (M 1 (4 : Int32).toNatClampNeg) fun x5 =>
      if x5 = 8 then
        some ((-3), M)
      else
        ob1 (f_X8_act M) fun M8 =>
        ck (inb 4 420) <|
        ob1 (f_X8_person (M8 1 (4 : Int32).toNatClampNeg)) fun r10 =>
        lb (r10 + 0) fun x11 =>
        ck (inb x11 420) <| lb (u2 M8 1 x11.toNatClampNeg v1) fun M12 =>
        ck (inb 4 420) <|
        lb (M12 1 (4 : Int32).toNatClampNeg) fun x13 =>
        ck (inb 4 420) <| lb (u2 M12 1 (4 : Int32).toNatClampNeg (x13 + 1)) fun M14 =>
        ck (inb 4 420) <|
        lb (M14 1 (4 : Int32).toNatClampNeg) fun x15 =>
        some (x15 - 1, M14)
    else
      some ((-2), M)
noncomputable def f_X8_sets (v1 : Int32) (v2 : Int32) (M : St) : Option (Int32 × St) :=
  ob1 (f_X8_act M) fun M2 =>
  ck (inb v1 420) <|
  lb (M2 1 v1.toNatClampNeg) fun x3 =>
  ck (inb v1 420) <| lb (u2 M2 1 v1.toNatClampNeg v2) fun M4 =>
  some (x3, M4)
noncomputable def f_X8_behave_b32 (t0 : Int32) (M : St) : Option (Int32 × St) :=
  some (t0, M)
noncomputable def f_X8_behave_b31 (M : St) : Option (Int32 × St) :=
  f_X8_behave_b32 ((-1)) M
noncomputable def f_X8_behave (v1 : Int32) (v2 : Int32) (M : St) : Option (Int32 × St) :=
  ob1 (f_X8_isPerson v1 M) fun r2 =>
  if r2 = 0 then
    f_X8_behave_b31 M
  else
    ob1 (f_X8_in v2 0 3) fun r5 =>
    if r5 = 0 then
      f_X8_behave_b31 M
    else
      ob1 (f_X8_person v1) fun r8 =>
      lb (r8 + 4) fun x9 =>
      ob2 (f_X8_sets x9 v2 M) fun r12 M11 =>
      f_X8_behave_b32 r12 M11
noncomputable def f_X8_settles_b34 (t0 : Int32) (M : St) : Option (Int32 × St) :=
  some (t0, M)
noncomputable def f_X8_settles (v1 : Int32) (v2 : Int32) (v3 : Int32) (v4 : Int32) (M : St) : Option (Int32 × St) :=
  ob1 (f_X8_in v2 v3 v4) fun r2 =>
  if r2 = 0 then
    f_X8_settles_b34 ((-1)) M
  else
    ck (inb 0 420) <|
    if (M 1 (0 : Int32).toNatClampNeg) = 0 then
      ob2 (f_X8_sets v1 v2 M) fun r7 M6 =>
      f_X8_settles_b34 r7 M6
    else
      f_X8_settles_b34 ((-2)) M
noncomputable def f_X8_setMethod (v1 : Int32) (M : St) : Option (Int32 × St) :=
  ob2 (f_X8_settles 5 v1 0 2 M) fun r3 M2 =>
  some (r3, M2)
noncomputable def f_X8_setThreshold (v1 : Int32) (M : St) : Option (Int32 × St) :=
  ob2 (f_X8_settles 6 v1 1 8 M) fun r3 M2 =>
  some (r3, M2)
noncomputable def f_X8_setFine (v1 : Int32) (M : St) : Option (Int32 × St) :=
  ob2 (f_X8_settles 7 v1 0 1000 M) fun r3 M2 =>
  some (r3, M2)
noncomputable def f_X8_setDelay (v1 : Int32) (M : St) : Option (Int32 × St) :=
  ob2 (f_X8_settles 8 v1 1 5000 M) fun r3 M2 =>
  some (r3, M2)
noncomputable def f_X8_mayBegin_b41 (K4 : Int32 → Int32 → St → Option (Int32)) (v2 : Int32) (t0 : Int32) (t1 : Int32) (M : St) : Option (Int32) :=
  lb (t0 + t1) fun x1 =>
  K4 x1 (v2 + 1) M
noncomputable def f_X8_mayBegin_b89 (t0 : Int32) (M : St) : Option (Int32) :=
  ck (isB t0) <|
  some t0
noncomputable def f_X8_mayBegin_b84 (M : St) : Option (Int32) :=
  f_X8_mayBegin_b89 1 M
noncomputable def f_X8_mayBegin_b88 (M : St) : Option (Int32) :=
  f_X8_mayBegin_b89 0 M
noncomputable def f_X8_mayBegin_l4 : Nat → Int32 → Int32 → St → Option (Int32)
  | 0, _, _, _ => none
  | n + 1, v1, v2, M =>
    ck (inb 4 420) <|
    if (M 1 (4 : Int32).toNatClampNeg) ≤ v2 then
      ck (inb 0 420) <|
      if (M 1 (0 : Int32).toNatClampNeg) = 0 then
        if v1 < 2 then
          f_X8_mayBegin_b88 M
        else
          ck (inb 5 420) <|
          lb (M 1 (5 : Int32).toNatClampNeg) fun x5 =>
          if x5 = 1 then
            ck (inb 6 420) <|
            if v1 < (M 1 (6 : Int32).toNatClampNeg) then
              f_X8_mayBegin_b88 M
            else
              f_X8_mayBegin_b84 M
          else
            f_X8_mayBegin_b84 M
      else
        f_X8_mayBegin_b88 M
    else
      ob1 (f_X8_person v2) fun r9 =>
      lb (r9 + 0) fun x10 =>
      ck (inb x10 420) <|
      lb (M 1 x10.toNatClampNeg) fun x11 =>
      ck (inb 7 420) <|
      if x11 < (M 1 (7 : Int32).toNatClampNeg) then
        f_X8_mayBegin_b41 (f_X8_mayBegin_l4 n) v2 v1 0 M
      else
        f_X8_mayBegin_b41 (f_X8_mayBegin_l4 n) v2 v1 1 M
noncomputable def f_X8_mayBegin (M : St) : Option (Int32) :=
  f_X8_mayBegin_l4 10000 0 0 M
noncomputable def f_X8_begins_b54 (K9 : Int32 → St → Option (St)) (v1 : Int32) (v2 : Int32) (t1 : Int32) (t2 : Int32) (M : St) : Option (St) :=
  ck (inb t1 420) <| lb (u2 M 1 t1.toNatClampNeg t2) fun M1 =>
  lb (v2 + 6) fun x2 =>
  ck (inb x2 420) <| lb (u2 M1 1 x2.toNatClampNeg 0) fun M3 =>
  lb (v2 + 7) fun x4 =>
  ck (inb x4 420) <| lb (u2 M3 1 x4.toNatClampNeg 0) fun M5 =>
  lb (v2 + 8) fun x6 =>
  ck (inb x6 420) <| lb (u2 M5 1 x6.toNatClampNeg 0) fun M7 =>
  K9 (v1 + 1) M7
noncomputable def f_X8_begins_l9 : Nat → Int32 → St → Option (St)
  | 0, _, _ => none
  | n + 1, v1, M =>
    ck (inb 4 420) <|
    if (M 1 (4 : Int32).toNatClampNeg) ≤ v1 then
      some M
    else
      ob1 (f_X8_person v1) fun r10 =>
      lb (r10 + 5) fun x11 =>
      lb (r10 + 0) fun x12 =>
      ck (inb x12 420) <|
      lb (M 1 x12.toNatClampNeg) fun x13 =>
      ck (inb 7 420) <|
      if x13 < (M 1 (7 : Int32).toNatClampNeg) then
        f_X8_begins_b54 (f_X8_begins_l9 n) v1 r10 x11 0 M
      else
        f_X8_begins_b54 (f_X8_begins_l9 n) v1 r10 x11 1 M
noncomputable def f_X8_begins (M : St) : Option (St) :=
  ck (inb 0 420) <| lb (u2 M 1 (0 : Int32).toNatClampNeg 1) fun M15 =>
  f_X8_begins_l9 10000 0 M15
noncomputable def f_X8_begin (M : St) : Option (Int32 × St) :=
  ob1 (f_X8_mayBegin M) fun r2 =>
  if r2 = 0 then
    some ((-2), M)
  else
    ob1 (f_X8_act M) fun M5 =>
    ob1 (f_X8_begins M5) fun M7 =>
    ck (inb 1 420) <|
    some (M7 1 (1 : Int32).toNatClampNeg, M7)
noncomputable def f_X8_digestOf (v1 : Int32) (v2 : Int32) (M : St) : Option (Int32) :=
  ck (inb 1 420) <|
  ob1 (f_X8_mix 17 (M 1 (1 : Int32).toNatClampNeg)) fun r2 =>
  ob1 (f_X8_mix r2 v1) fun r4 =>
  ob1 (f_X8_mix r4 v2) fun r6 =>
  some r6
noncomputable def f_X8_isCopy_b69 (K5 : Int32 → Int32 → Int32 → Int32 → St → Option (Int32)) (v1 : Int32) (v2 : Int32) (v4 : Int32) (t0 : Int32) (M : St) : Option (Int32) :=
  K5 v1 v2 t0 (v4 + 1) M
noncomputable def f_X8_isCopy_b64 (K5 : Int32 → Int32 → Int32 → Int32 → St → Option (Int32)) (v1 : Int32) (v2 : Int32) (v4 : Int32) (M : St) : Option (Int32) :=
  f_X8_isCopy_b69 K5 v1 v2 v4 1 M
noncomputable def f_X8_isCopy_b68 (K5 : Int32 → Int32 → Int32 → Int32 → St → Option (Int32)) (v1 : Int32) (v2 : Int32) (v4 : Int32) (M : St) : Option (Int32) :=
  f_X8_isCopy_b69 K5 v1 v2 v4 0 M
noncomputable def f_X8_isCopy_l5 : Nat → Int32 → Int32 → Int32 → Int32 → St → Option (Int32)
  | 0, _, _, _, _, _ => none
  | n + 1, v1, v2, v3, v4, M =>
    ck (inb 4 420) <|
    if (M 1 (4 : Int32).toNatClampNeg) ≤ v4 then
      ck (isB v3) <|
      some v3
    else
      if v3 = 0 then
        if v4 = v1 then
          f_X8_isCopy_b68 (f_X8_isCopy_l5 n) v1 v2 v4 M
        else
          ob1 (f_X8_has v4 5 M) fun r5 =>
          if r5 = 0 then
            f_X8_isCopy_b68 (f_X8_isCopy_l5 n) v1 v2 v4 M
          else
            ob1 (f_X8_has v4 6 M) fun r8 =>
            if r8 = 0 then
              f_X8_isCopy_b68 (f_X8_isCopy_l5 n) v1 v2 v4 M
            else
              ob1 (f_X8_person v4) fun r11 =>
              lb (r11 + 11) fun x12 =>
              ck (inb x12 420) <|
              lb (M 1 x12.toNatClampNeg) fun x13 =>
              if x13 = v2 then
                f_X8_isCopy_b64 (f_X8_isCopy_l5 n) v1 v2 v4 M
              else
                f_X8_isCopy_b68 (f_X8_isCopy_l5 n) v1 v2 v4 M
      else
        f_X8_isCopy_b64 (f_X8_isCopy_l5 n) v1 v2 v4 M
noncomputable def f_X8_isCopy (v1 : Int32) (v2 : Int32) (M : St) : Option (Int32) :=
  f_X8_isCopy_l5 10000 v1 v2 0 0 M
noncomputable def f_X8_valueAt_l13 : Nat → Int32 → Int32 → Int32 → Int32 → St → Option (Int32)
  | 0, _, _, _, _, _ => none
  | n + 1, v1, v2, v3, v4, M =>
    if v4 < 0 then
      some v3
    else
      lb (v3 * v2) fun x2 =>
      ob1 (f_X8_person v1) fun r4 =>
      lb (r4 + 14) fun x5 =>
      lb (x5 + v4) fun x6 =>
      ck (inb x6 420) <|
      lb (x2 + (M 1 x6.toNatClampNeg)) fun x7 =>
      lb (irem x7 1019) fun x8 =>
      f_X8_valueAt_l13 n v1 v2 x8 (v4 + (-1)) M
noncomputable def f_X8_valueAt (v1 : Int32) (v2 : Int32) (M : St) : Option (Int32) :=
  ck (inb 6 420) <|
  lb (M 1 (6 : Int32).toNatClampNeg) fun x9 =>
  lb (x9 - 1) fun x10 =>
  f_X8_valueAt_l13 10000 v1 v2 0 x10 M
noncomputable def f_X8_deals_l76 : Nat → Int32 → Int32 → Int32 → St → Option (St)
  | 0, _, _, _, _ => none
  | n + 1, v1, v2, v3, M =>
    if 8 ≤ v3 then
      some M
    else
      lb (v2 + 22) fun x2 =>
      lb (x2 + v3) fun x3 =>
      ob1 (f_X8_valueAt v1 (v3 + 1) M) fun r5 =>
      ck (inb x3 420) <| lb (u2 M 1 x3.toNatClampNeg r5) fun M6 =>
      f_X8_deals_l76 n v1 v2 (v3 + 1) M6
noncomputable def f_X8_deals_l38 : Nat → Int32 → Int32 → Int32 → St → Option (St)
  | 0, _, _, _, _ => none
  | n + 1, v1, v2, v3, M =>
    ck (inb 6 420) <|
    if (M 1 (6 : Int32).toNatClampNeg) ≤ v3 then
      f_X8_deals_l76 10000 v1 v2 0 M
    else
      lb (v2 + 14) fun x8 =>
      lb (x8 + v3) fun x9 =>
      ob2 (f_X8_draw M) fun r12 M11 =>
      ck (inb x9 420) <| lb (u2 M11 1 x9.toNatClampNeg (irem r12 1019)) fun M13 =>
      f_X8_deals_l38 n v1 v2 (v3 + 1) M13
noncomputable def f_X8_deals (v1 : Int32) (M : St) : Option (St) :=
  ob1 (f_X8_person v1) fun r15 =>
  lb (r15 + 10) fun x16 =>
  ck (inb x16 420) <|
  lb (u2 M 0 5 (M 1 x16.toNatClampNeg)) fun M17 =>
  lb (r15 + 14) fun x18 =>
  lb (r15 + 9) fun x19 =>
  ck (inb x19 420) <|
  ck (inb x18 420) <| lb (u2 M17 1 x18.toNatClampNeg (M17 1 x19.toNatClampNeg)) fun M20 =>
  f_X8_deals_l38 10000 v1 r15 1 M20
noncomputable def f_X8_squares_l10 : Nat → Int32 → Int64 → Int32 → Option (Int64)
  | 0, _, _, _ => none
  | n + 1, v1, v2, v4 =>
    if v1 ≤ v4 then
      some v2
    else
      lb (v2 * v2) fun y2 =>
      lb (lrem y2 62615533) fun y3 =>
      f_X8_squares_l10 n v1 y3 (v4 + 1)
noncomputable def f_X8_squares (v0 : Int32) (v1 : Int32) : Option (Int64) :=
  lb (v0.toInt64) fun y4 =>
  lb (lrem y4 62615533) fun y5 =>
  f_X8_squares_l10 10000 v1 y5 0
noncomputable def f_X8_commits_b146 (M : St) : Option (St) :=
  some M
noncomputable def f_X8_commits (v1 : Int32) (v2 : Int32) (v3 : Int32) (M : St) : Option (St) :=
  ob1 (f_X8_person v1) fun r2 =>
  lb (r2 + 6) fun x3 =>
  ck (inb x3 420) <| lb (u2 M 1 x3.toNatClampNeg 1) fun M4 =>
  lb (r2 + 9) fun x5 =>
  ck (inb x5 420) <| lb (u2 M4 1 x5.toNatClampNeg v2) fun M6 =>
  lb (r2 + 10) fun x7 =>
  ck (inb x7 420) <| lb (u2 M6 1 x7.toNatClampNeg v3) fun M8 =>
  lb (r2 + 11) fun x9 =>
  ob1 (f_X8_digestOf v2 v3 M8) fun r11 =>
  ck (inb x9 420) <| lb (u2 M8 1 x9.toNatClampNeg r11) fun M12 =>
  ck (inb 5 420) <|
  lb (M12 1 (5 : Int32).toNatClampNeg) fun x13 =>
  if x13 = 1 then
    ob1 (f_X8_deals v1 M12) fun M32 =>
    f_X8_commits_b146 M32
  else
    ck (inb 5 420) <|
    lb (M12 1 (5 : Int32).toNatClampNeg) fun x15 =>
    if x15 = 2 then
      lb (u2 M12 0 5 v3) fun M17 =>
      lb (r2 + 12) fun x18 =>
      ob2 (f_X8_draw M17) fun r21 M20 =>
      ck (inb x18 420) <| lb (u2 M20 1 x18.toNatClampNeg (2 + (irem r21 1000))) fun M22 =>
      lb (r2 + 13) fun x23 =>
      lb (v2.toInt64) fun y24 =>
      lb (r2 + 12) fun x25 =>
      ck (inb x25 420) <|
      lb (M22 1 x25.toNatClampNeg) fun x26 =>
      ck (inb 8 420) <|
      ob1 (f_X8_squares x26 (M22 1 (8 : Int32).toNatClampNeg)) fun r28 =>
      lb (y24 + r28) fun y29 =>
      ck (inb x23 420) <| lb (u2 M22 1 x23.toNatClampNeg ((lrem y29 1019).toInt32)) fun M30 =>
      f_X8_commits_b146 M30
    else
      f_X8_commits_b146 M12
noncomputable def f_X8_commit_b19 (M : St) : Option (Int32 × St) :=
  some ((-1), M)
noncomputable def f_X8_commit_b50 (M : St) : Option (Int32 × St) :=
  some ((-2), M)
noncomputable def f_X8_commit (v1 : Int32) (v2 : Int32) (v3 : Int32) (M : St) : Option (Int32 × St) :=
  ob1 (f_X8_isPerson v1 M) fun r2 =>
  if r2 = 0 then
    f_X8_commit_b19 M
  else
    ob1 (f_X8_in v2 0 1018) fun r5 =>
    if r5 = 0 then
      f_X8_commit_b19 M
    else
      ck (inb 0 420) <|
      lb (M 1 (0 : Int32).toNatClampNeg) fun x7 =>
      if x7 = 1 then
        ob1 (f_X8_has v1 5 M) fun r10 =>
        if r10 = 0 then
          f_X8_commit_b50 M
        else
          ob1 (f_X8_has v1 6 M) fun r13 =>
          if r13 = 0 then
            ob1 (f_X8_digestOf v2 v3 M) fun r16 =>
            ob1 (f_X8_isCopy v1 r16 M) fun r18 =>
            if r18 = 0 then
              ob1 (f_X8_act M) fun M21 =>
              ob1 (f_X8_commits v1 v2 v3 M21) fun M23 =>
              ob1 (f_X8_person v1) fun r25 =>
              lb (r25 + 11) fun x26 =>
              ck (inb x26 420) <|
              lb (M23 1 x26.toNatClampNeg) fun x27 =>
              some (x27 &&& 1073741823, M23)
            else
              some ((-4), M)
          else
            f_X8_commit_b50 M
      else
        f_X8_commit_b50 M
noncomputable def f_X8_hasShares_b42 (t0 : Int32) (M : St) : Option (Int32) :=
  ck (isB t0) <|
  some t0
noncomputable def f_X8_hasShares_b41 (M : St) : Option (Int32) :=
  f_X8_hasShares_b42 0 M
noncomputable def f_X8_hasShares (v1 : Int32) (M : St) : Option (Int32) :=
  ck (inb 0 420) <|
  if (M 1 (0 : Int32).toNatClampNeg) = 0 then
    f_X8_hasShares_b41 M
  else
    ck (inb 5 420) <|
    lb (M 1 (5 : Int32).toNatClampNeg) fun x2 =>
    if x2 = 1 then
      ob1 (f_X8_isMember v1 M) fun r5 =>
      if r5 = 0 then
        f_X8_hasShares_b41 M
      else
        ob1 (f_X8_has v1 6 M) fun r8 =>
        if r8 = 0 then
          f_X8_hasShares_b41 M
        else
          f_X8_hasShares_b42 1 M
    else
      f_X8_hasShares_b41 M
noncomputable def f_X8_hasShare_b21 (t0 : Int32) (M : St) : Option (Int32) :=
  ck (isB t0) <|
  some t0
noncomputable def f_X8_hasShare_b20 (M : St) : Option (Int32) :=
  f_X8_hasShare_b21 0 M
noncomputable def f_X8_hasShare (v1 : Int32) (v2 : Int32) (M : St) : Option (Int32) :=
  ob1 (f_X8_hasShares v1 M) fun r2 =>
  if r2 = 0 then
    f_X8_hasShare_b20 M
  else
    ob1 (f_X8_isMember v2 M) fun r5 =>
    if r5 = 0 then
      f_X8_hasShare_b20 M
    else
      f_X8_hasShare_b21 1 M
noncomputable def f_X8_shareOf (v1 : Int32) (v2 : Int32) (M : St) : Option (Int32) :=
  ob1 (f_X8_person v1) fun r2 =>
  lb (r2 + 22) fun x3 =>
  lb (x3 + v2) fun x4 =>
  ck (inb x4 420) <|
  some (M 1 x4.toNatClampNeg)
noncomputable def f_X8_isGood_b22 (t0 : Int32) (M : St) : Option (Int32) :=
  ck (isB t0) <|
  some t0
noncomputable def f_X8_isGood (v1 : Int32) (v2 : Int32) (M : St) : Option (Int32) :=
  ob1 (f_X8_shareOf v1 v2 M) fun r2 =>
  ob1 (f_X8_valueAt v1 (v2 + 1) M) fun r4 =>
  if r2 = r4 then
    f_X8_isGood_b22 1 M
  else
    f_X8_isGood_b22 0 M
noncomputable def f_X8_spoils (v1 : Int32) (v2 : Int32) (v3 : Int32) (M : St) : Option (St) :=
  ob1 (f_X8_person v1) fun r2 =>
  lb (r2 + 22) fun x3 =>
  lb (x3 + v2) fun x4 =>
  ob1 (f_X8_shareOf v1 v2 M) fun r6 =>
  lb (r6 + v3) fun x7 =>
  ck (inb x4 420) <| lb (u2 M 1 x4.toNatClampNeg (irem x7 1019)) fun M8 =>
  some M8
noncomputable def f_X8_spoil_b27 (M : St) : Option (Int32 × St) :=
  some ((-1), M)
noncomputable def f_X8_spoil (v1 : Int32) (v2 : Int32) (v3 : Int32) (M : St) : Option (Int32 × St) :=
  ob1 (f_X8_isPerson v1 M) fun r2 =>
  if r2 = 0 then
    f_X8_spoil_b27 M
  else
    ob1 (f_X8_isPerson v2 M) fun r5 =>
    if r5 = 0 then
      f_X8_spoil_b27 M
    else
      ob1 (f_X8_in v3 1 1018) fun r8 =>
      if r8 = 0 then
        f_X8_spoil_b27 M
      else
        ob1 (f_X8_hasShare v1 v2 M) fun r11 =>
        if r11 = 0 then
          some ((-9), M)
        else
          ob1 (f_X8_act M) fun M14 =>
          ob1 (f_X8_spoils v1 v2 v3 M14) fun M16 =>
          ob1 (f_X8_shareOf v1 v2 M16) fun r18 =>
          some (r18, M16)
noncomputable def f_X8_complains (v1 : Int32) (v2 : Int32) (M : St) : Option (Int32 × St) :=
  ob1 (f_X8_isGood v2 v1 M) fun r2 =>
  if r2 = 0 then
    ob1 (f_X8_pays v2 M) fun M5 =>
    ob1 (f_X8_person v2) fun r7 =>
    lb (r7 + 5) fun x8 =>
    ck (inb x8 420) <| lb (u2 M5 1 x8.toNatClampNeg 0) fun M9 =>
    ob1 (f_X8_person v2) fun r11 =>
    lb (r11 + 8) fun x12 =>
    ck (inb x12 420) <| lb (u2 M9 1 x12.toNatClampNeg 1) fun M13 =>
    ob1 (f_X8_person v2) fun r15 =>
    lb (r15 + 3) fun x16 =>
    ck (inb x16 420) <|
    lb (M13 1 x16.toNatClampNeg) fun x17 =>
    ck (inb x16 420) <| lb (u2 M13 1 x16.toNatClampNeg (x17 + 1)) fun M18 =>
    some (1, M18)
  else
    ob1 (f_X8_pays v1 M) fun M20 =>
    some (0, M20)
noncomputable def f_X8_complain_b21 (M : St) : Option (Int32 × St) :=
  some ((-1), M)
noncomputable def f_X8_complain (v1 : Int32) (v2 : Int32) (M : St) : Option (Int32 × St) :=
  ob1 (f_X8_isPerson v1 M) fun r2 =>
  if r2 = 0 then
    f_X8_complain_b21 M
  else
    ob1 (f_X8_isPerson v2 M) fun r5 =>
    if r5 = 0 then
      f_X8_complain_b21 M
    else
      if v1 = v2 then
        f_X8_complain_b21 M
      else
        ck (inb 0 420) <|
        lb (M 1 (0 : Int32).toNatClampNeg) fun x8 =>
        if x8 = 1 then
          ob1 (f_X8_hasShare v2 v1 M) fun r11 =>
          if r11 = 0 then
            some ((-9), M)
          else
            ob1 (f_X8_act M) fun M14 =>
            ob2 (f_X8_complains v1 v2 M14) fun r17 M16 =>
            some (r17, M16)
        else
          some ((-2), M)
noncomputable def f_X8_ends_b246 (t1 : Int32) (t2 : Int32) (M : St) : Option (St) :=
  ck (inb t1 420) <| lb (u2 M 1 t1.toNatClampNeg t2) fun M1 =>
  some M1
noncomputable def f_X8_ends_b225 (v1 : Int32) (v2 : Int32) (t1 : Int32) (t2 : Int32) (t3 : Int32) (M : St) : Option (St) :=
  ck (inb t1 420) <| lb (u2 M 1 t1.toNatClampNeg (t2 + t3)) fun M2 =>
  if 0 ≤ v1 then
    f_X8_ends_b246 3 v2 M2
  else
    ck (inb 3 420) <|
    f_X8_ends_b246 3 (M2 1 (3 : Int32).toNatClampNeg) M2
noncomputable def f_X8_ends_b205 (v1 : Int32) (v2 : Int32) (t1 : Int32) (t2 : Int32) (t3 : Int32) (M : St) : Option (St) :=
  ck (inb t1 420) <| lb (u2 M 1 t1.toNatClampNeg (t2 + t3)) fun M4 =>
  ck (inb 10 420) <|
  lb (M4 1 (10 : Int32).toNatClampNeg) fun x5 =>
  if v1 = 1 then
    f_X8_ends_b225 v1 v2 10 x5 1 M4
  else
    f_X8_ends_b225 v1 v2 10 x5 0 M4
noncomputable def f_X8_ends_b187 (v1 : Int32) (v2 : Int32) (t1 : Int32) (t2 : Int32) (M : St) : Option (St) :=
  ck (inb t1 420) <| lb (u2 M 1 t1.toNatClampNeg t2) fun M7 =>
  ck (inb 9 420) <|
  lb (M7 1 (9 : Int32).toNatClampNeg) fun x8 =>
  if v1 = 0 then
    f_X8_ends_b205 v1 v2 9 x8 1 M7
  else
    f_X8_ends_b205 v1 v2 9 x8 0 M7
noncomputable def f_X8_ends_b138 (v1 : Int32) (v2 : Int32) (t1 : Int32) (t2 : Int32) (M : St) : Option (St) :=
  ck (inb t1 420) <| lb (u2 M 1 t1.toNatClampNeg t2) fun M10 =>
  ck (inb 12 420) <| lb (u2 M10 1 (12 : Int32).toNatClampNeg v1) fun M11 =>
  ck (inb 11 420) <|
  lb (M11 1 (11 : Int32).toNatClampNeg) fun x12 =>
  ck (inb 13 420) <|
  if x12 ≤ (M11 1 (13 : Int32).toNatClampNeg) then
    ck (inb 13 420) <|
    f_X8_ends_b187 v1 v2 13 (M11 1 (13 : Int32).toNatClampNeg) M11
  else
    ck (inb 11 420) <|
    f_X8_ends_b187 v1 v2 13 (M11 1 (11 : Int32).toNatClampNeg) M11
noncomputable def f_X8_ends_b137 (v1 : Int32) (v2 : Int32) (t1 : Int32) (M : St) : Option (St) :=
  f_X8_ends_b138 v1 v2 t1 1 M
noncomputable def f_X8_ends (v1 : Int32) (v2 : Int32) (v3 : Int32) (v4 : Int32) (M : St) : Option (St) :=
  ck (inb 1 420) <|
  lb (M 1 (1 : Int32).toNatClampNeg) fun x14 =>
  lb (340 + (5 * (irem x14 16))) fun x15 =>
  lb (x15 + 0) fun x16 =>
  ck (inb x16 420) <| lb (u2 M 1 x16.toNatClampNeg v1) fun M17 =>
  lb (x15 + 1) fun x18 =>
  ck (inb x18 420) <| lb (u2 M17 1 x18.toNatClampNeg v4) fun M19 =>
  lb (x15 + 2) fun x20 =>
  ck (inb x20 420) <| lb (u2 M19 1 x20.toNatClampNeg v3) fun M21 =>
  lb (x15 + 3) fun x22 =>
  ck (inb 5 420) <|
  ck (inb x22 420) <| lb (u2 M21 1 x22.toNatClampNeg (M21 1 (5 : Int32).toNatClampNeg)) fun M23 =>
  lb (x15 + 4) fun x24 =>
  ck (inb x24 420) <| lb (u2 M23 1 x24.toNatClampNeg v2) fun M25 =>
  ck (inb 1 420) <|
  lb (M25 1 (1 : Int32).toNatClampNeg) fun x26 =>
  ck (inb 1 420) <| lb (u2 M25 1 (1 : Int32).toNatClampNeg (x26 + 1)) fun M27 =>
  ck (inb 0 420) <| lb (u2 M27 1 (0 : Int32).toNatClampNeg 0) fun M28 =>
  if 0 ≤ v1 then
    ck (inb 11 420) <|
    if (M28 1 (11 : Int32).toNatClampNeg) ≤ 0 then
      f_X8_ends_b137 v1 v2 11 M28
    else
      ck (inb 12 420) <|
      lb (M28 1 (12 : Int32).toNatClampNeg) fun x31 =>
      if x31 = v1 then
        ck (inb 11 420) <|
        lb (M28 1 (11 : Int32).toNatClampNeg) fun x33 =>
        f_X8_ends_b138 v1 v2 11 (x33 + 1) M28
      else
        f_X8_ends_b137 v1 v2 11 M28
  else
    f_X8_ends_b138 v1 v2 11 0 M28
noncomputable def f_X8_opensUp_b47 (K2 : Int32 → St → Option (Int32 × St)) (v1 : Int32) (t1 : Int32) (t2 : Int32) (M : St) : Option (Int32 × St) :=
  ck (inb t1 420) <| lb (u2 M 1 t1.toNatClampNeg t2) fun M1 =>
  K2 (v1 + 1) M1
noncomputable def f_X8_opensUp_l2 : Nat → Int32 → St → Option (Int32 × St)
  | 0, _, _ => none
  | n + 1, v1, M =>
    ck (inb 4 420) <|
    if (M 1 (4 : Int32).toNatClampNeg) ≤ v1 then
      ob1 (f_X8_setOf 5 M) fun r4 =>
      ob1 (f_X8_countOf r4) fun r6 =>
      if 2 ≤ r6 then
        ck (inb 0 420) <| lb (u2 M 1 (0 : Int32).toNatClampNeg 2) fun M8 =>
        ob1 (f_X8_countOf r4) fun r10 =>
        some (r10, M8)
      else
        ob1 (f_X8_ends ((-5)) 0 0 r4 M) fun M12 =>
        some ((-5), M12)
    else
      ob1 (f_X8_person v1) fun r14 =>
      lb (r14 + 5) fun x15 =>
      ob1 (f_X8_has v1 6 M) fun r17 =>
      if r17 = 0 then
        f_X8_opensUp_b47 (f_X8_opensUp_l2 n) v1 x15 0 M
      else
        ob1 (f_X8_person v1) fun r20 =>
        lb (r20 + 5) fun x21 =>
        ck (inb x21 420) <|
        f_X8_opensUp_b47 (f_X8_opensUp_l2 n) v1 x15 (M 1 x21.toNatClampNeg) M
noncomputable def f_X8_opensUp (M : St) : Option (Int32 × St) :=
  f_X8_opensUp_l2 10000 0 M
noncomputable def f_X8_beginOpening (M : St) : Option (Int32 × St) :=
  ck (inb 0 420) <|
  lb (M 1 (0 : Int32).toNatClampNeg) fun x1 =>
  if x1 = 1 then
    ob1 (f_X8_act M) fun M4 =>
    ob2 (f_X8_opensUp M4) fun r7 M6 =>
    some (r7, M6)
  else
    some ((-2), M)
noncomputable def f_X8_open_b39 (M : St) : Option (Int32 × St) :=
  some ((-2), M)
noncomputable def f_X8_open_b117 (t0 : Int32) (M : St) : Option (Int32 × St) :=
  some (t0, M)
noncomputable def f_X8_open_b106 (v4 : Int32) (t1 : Int32) (t2 : Int32) (M : St) : Option (Int32 × St) :=
  ck (inb t1 420) <| lb (u2 M 1 t1.toNatClampNeg t2) fun M1 =>
  if v4 = 0 then
    f_X8_open_b117 0 M1
  else
    f_X8_open_b117 1 M1
noncomputable def f_X8_open_b83 (v1 : Int32) (t0 : Int32) (M : St) : Option (Int32 × St) :=
  ob1 (f_X8_person v1) fun r4 =>
  lb (r4 + 7) fun x5 =>
  if t0 = 0 then
    f_X8_open_b106 t0 x5 0 M
  else
    f_X8_open_b106 t0 x5 1 M
noncomputable def f_X8_open_b82 (v1 : Int32) (M : St) : Option (Int32 × St) :=
  f_X8_open_b83 v1 0 M
noncomputable def f_X8_open (v1 : Int32) (v2 : Int32) (v3 : Int32) (M : St) : Option (Int32 × St) :=
  ob1 (f_X8_isPerson v1 M) fun r8 =>
  if r8 = 0 then
    some ((-1), M)
  else
    ck (inb 0 420) <|
    lb (M 1 (0 : Int32).toNatClampNeg) fun x10 =>
    if x10 = 2 then
      ob1 (f_X8_has v1 5 M) fun r13 =>
      if r13 = 0 then
        f_X8_open_b39 M
      else
        ob1 (f_X8_has v1 7 M) fun r16 =>
        if r16 = 0 then
          ob1 (f_X8_act M) fun M19 =>
          ob1 (f_X8_person v1) fun r21 =>
          lb (r21 + 9) fun x22 =>
          ck (inb x22 420) <|
          lb (M19 1 x22.toNatClampNeg) fun x23 =>
          if x23 = v2 then
            ob1 (f_X8_person v1) fun r26 =>
            lb (r26 + 10) fun x27 =>
            ck (inb x27 420) <|
            lb (M19 1 x27.toNatClampNeg) fun x28 =>
            if x28 = v3 then
              f_X8_open_b83 v1 1 M19
            else
              f_X8_open_b82 v1 M19
          else
            f_X8_open_b82 v1 M19
        else
          f_X8_open_b39 M
    else
      f_X8_open_b39 M
noncomputable def f_X8_takesSecrets_l2 : Nat → Int32 → St → Option (St)
  | 0, _, _ => none
  | n + 1, v1, M =>
    ck (inb 4 420) <|
    if (M 1 (4 : Int32).toNatClampNeg) ≤ v1 then
      some M
    else
      ob1 (f_X8_person v1) fun r3 =>
      lb (r3 + 9) fun x4 =>
      ck (inb x4 420) <|
      ck (inb v1 8) <| lb (u2 M 3 v1.toNatClampNeg (M 1 x4.toNatClampNeg)) fun M5 =>
      f_X8_takesSecrets_l2 n (v1 + 1) M5
noncomputable def f_X8_takesSecrets (M : St) : Option (St) :=
  f_X8_takesSecrets_l2 10000 0 M
noncomputable def f_X8_rightOnes_b42 (K5 : Int32 → Int32 → Int32 → Int32 → St → Option (Int32)) (v1 : Int32) (v2 : Int32) (v4 : Int32) (t0 : Int32) (t1 : Int32) (M : St) : Option (Int32) :=
  lb (t0 + t1) fun x1 =>
  K5 v1 v2 x1 (v4 + 1) M
noncomputable def f_X8_rightOnes_b41 (K5 : Int32 → Int32 → Int32 → Int32 → St → Option (Int32)) (v1 : Int32) (v2 : Int32) (v4 : Int32) (t0 : Int32) (M : St) : Option (Int32) :=
  f_X8_rightOnes_b42 K5 v1 v2 v4 t0 0 M
noncomputable def f_X8_rightOnes_l5 : Nat → Int32 → Int32 → Int32 → Int32 → St → Option (Int32)
  | 0, _, _, _, _, _ => none
  | n + 1, v1, v2, v3, v4, M =>
    ck (inb 4 420) <|
    if (M 1 (4 : Int32).toNatClampNeg) ≤ v4 then
      some v3
    else
      lb (ishr v2 v4) fun x3 =>
      lb (x3 &&& 1) fun x4 =>
      if x4 = 1 then
        ob1 (f_X8_isGood v1 v4 M) fun r7 =>
        if r7 = 0 then
          f_X8_rightOnes_b41 (f_X8_rightOnes_l5 n) v1 v2 v4 v3 M
        else
          f_X8_rightOnes_b42 (f_X8_rightOnes_l5 n) v1 v2 v4 v3 1 M
      else
        f_X8_rightOnes_b41 (f_X8_rightOnes_l5 n) v1 v2 v4 v3 M
noncomputable def f_X8_rightOnes (v1 : Int32) (v2 : Int32) (M : St) : Option (Int32) :=
  f_X8_rightOnes_l5 10000 v1 v2 0 0 M
noncomputable def f_X8_outputOf_b125 (K14 : Int32 → Int32 → Int32 → St → Option (Int32 × St)) (v1 : Int32) (v2 : Int32) (v3 : Int32) (M : St) : Option (Int32 × St) :=
  K14 v1 v2 (v3 + 1) M
noncomputable def f_X8_outputOf_b121 (K14 : Int32 → Int32 → Int32 → St → Option (Int32 × St)) (v1 : Int32) (v3 : Int32) (t0 : Int32) (t1 : Int32) (M : St) : Option (Int32 × St) :=
  ob1 (f_X8_mix t0 t1) fun r2 =>
  f_X8_outputOf_b125 K14 v1 r2 v3 M
noncomputable def f_X8_outputOf_b111 (K14 : Int32 → Int32 → Int32 → St → Option (Int32 × St)) (v1 : Int32) (v3 : Int32) (t0 : Int32) (M : St) : Option (Int32 × St) :=
  ck (inb v3 8) <|
  f_X8_outputOf_b121 K14 v1 v3 t0 (M 3 v3.toNatClampNeg) M
noncomputable def f_X8_outputOf_b93 (K14 : Int32 → Int32 → Int32 → St → Option (Int32 × St)) (v1 : Int32) (v2 : Int32) (v3 : Int32) (v4 : Int32) (t1 : Int32) (M : St) : Option (Int32 × St) :=
  ck (isB t1) <|
  lb (u2 M 0 4 t1) fun M3 =>
  if v4 = 0 then
    ck (inb 5 420) <|
    if (M3 1 (5 : Int32).toNatClampNeg) = 0 then
      f_X8_outputOf_b121 K14 v1 v3 v2 0 M3
    else
      f_X8_outputOf_b111 K14 v1 v3 v2 M3
  else
    f_X8_outputOf_b111 K14 v1 v3 v2 M3
noncomputable def f_X8_outputOf_b88 (K14 : Int32 → Int32 → Int32 → St → Option (Int32 × St)) (v1 : Int32) (v2 : Int32) (v3 : Int32) (v4 : Int32) (M : St) : Option (Int32 × St) :=
  f_X8_outputOf_b93 K14 v1 v2 v3 v4 1 M
noncomputable def f_X8_outputOf_b92 (K14 : Int32 → Int32 → Int32 → St → Option (Int32 × St)) (v1 : Int32) (v2 : Int32) (v3 : Int32) (v4 : Int32) (M : St) : Option (Int32 × St) :=
  f_X8_outputOf_b93 K14 v1 v2 v3 v4 0 M
noncomputable def f_X8_outputOf_b47 (K14 : Int32 → Int32 → Int32 → St → Option (Int32 × St)) (v1 : Int32) (v2 : Int32) (v3 : Int32) (t0 : Int32) (M : St) : Option (Int32 × St) :=
  if (M 0 4) = 0 then
    if t0 = 0 then
      ck (inb 5 420) <|
      lb (M 1 (5 : Int32).toNatClampNeg) fun x9 =>
      if x9 = 1 then
        ob1 (f_X8_rightOnes v3 v1 M) fun r12 =>
        ck (inb 6 420) <|
        if (M 1 (6 : Int32).toNatClampNeg) ≤ r12 then
          f_X8_outputOf_b92 K14 v1 v2 v3 t0 M
        else
          f_X8_outputOf_b88 K14 v1 v2 v3 t0 M
      else
        f_X8_outputOf_b92 K14 v1 v2 v3 t0 M
    else
      f_X8_outputOf_b92 K14 v1 v2 v3 t0 M
  else
    f_X8_outputOf_b88 K14 v1 v2 v3 t0 M
noncomputable def f_X8_outputOf_l14 : Nat → Int32 → Int32 → Int32 → St → Option (Int32 × St)
  | 0, _, _, _, _ => none
  | n + 1, v1, v2, v3, M =>
    ck (inb 4 420) <|
    if (M 1 (4 : Int32).toNatClampNeg) ≤ v3 then
      some (v2, M)
    else
      ob1 (f_X8_has v3 5 M) fun r16 =>
      if r16 = 0 then
        f_X8_outputOf_b125 (f_X8_outputOf_l14 n) v1 v2 v3 M
      else
        lb (ishr v1 v3) fun x18 =>
        lb (x18 &&& 1) fun x19 =>
        if x19 = 1 then
          f_X8_outputOf_b47 (f_X8_outputOf_l14 n) v1 v2 v3 1 M
        else
          f_X8_outputOf_b47 (f_X8_outputOf_l14 n) v1 v2 v3 0 M
noncomputable def f_X8_outputOf (v1 : Int32) (M : St) : Option (Int32 × St) :=
  ck (inb 3 420) <|
  lb (M 1 (3 : Int32).toNatClampNeg) fun x21 =>
  lb (u2 M 0 4 0) fun M22 =>
  f_X8_outputOf_l14 10000 v1 x21 0 M22
noncomputable def f_X8_coinOf_b25 (t0 : Int32) (M : St) : Option (Int32 × St) :=
  some (t0, M)
noncomputable def f_X8_coinOf (v1 : Int32) (M : St) : Option (Int32 × St) :=
  ob1 (f_X8_takesSecrets M) fun M2 =>
  ob2 (f_X8_outputOf v1 M2) fun r5 M4 =>
  if (M4 0 4) = 0 then
    f_X8_coinOf_b25 (r5 &&& 1) M4
  else
    f_X8_coinOf_b25 ((-5)) M4
noncomputable def f_X8_closes_b133 (K34 : Int32 → Int32 → Int32 → Int32 → Int32 → St → Option (Int32 × St)) (v1 : Int32) (v2 : Int32) (v3 : Int32) (v4 : Int32) (v5 : Int32) (M : St) : Option (Int32 × St) :=
  K34 v1 v2 v3 v4 (v5 + 1) M
noncomputable def f_X8_closes_b120 (K34 : Int32 → Int32 → Int32 → Int32 → Int32 → St → Option (Int32 × St)) (v1 : Int32) (v2 : Int32) (v3 : Int32) (v4 : Int32) (v5 : Int32) (v6 : Int32) (t1 : Int32) (t2 : Int32) (t3 : Int32) (M : St) : Option (Int32 × St) :=
  ck (inb t1 420) <| lb (u2 M 1 t1.toNatClampNeg (t2 + t3)) fun M1 =>
  if v6 = 0 then
    ob1 (f_X8_pays v5 M1) fun M4 =>
    f_X8_closes_b133 K34 v1 v2 v3 v4 v5 M4
  else
    f_X8_closes_b133 K34 v1 v2 v3 v4 v5 M1
noncomputable def f_X8_closes_b95 (K34 : Int32 → Int32 → Int32 → Int32 → Int32 → St → Option (Int32 × St)) (v1 : Int32) (v2 : Int32) (v3 : Int32) (v4 : Int32) (v5 : Int32) (v6 : Int32) (t1 : Int32) (t2 : Int32) (t3 : Int32) (M : St) : Option (Int32 × St) :=
  ck (inb t1 420) <| lb (u2 M 1 t1.toNatClampNeg (t2 + t3)) fun M5 =>
  ob1 (f_X8_person v5) fun r7 =>
  lb (r7 + 2) fun x8 =>
  ck (inb x8 420) <|
  lb (M5 1 x8.toNatClampNeg) fun x9 =>
  if v6 = 0 then
    f_X8_closes_b120 K34 v1 v2 v3 v4 v5 v6 x8 x9 1 M5
  else
    f_X8_closes_b120 K34 v1 v2 v3 v4 v5 v6 x8 x9 0 M5
noncomputable def f_X8_closes_b70 (K34 : Int32 → Int32 → Int32 → Int32 → Int32 → St → Option (Int32 × St)) (v1 : Int32) (v2 : Int32) (v3 : Int32) (v4 : Int32) (v5 : Int32) (t0 : Int32) (M : St) : Option (Int32 × St) :=
  ob1 (f_X8_person v5) fun r12 =>
  lb (r12 + 1) fun x13 =>
  ck (inb x13 420) <|
  lb (M 1 x13.toNatClampNeg) fun x14 =>
  if t0 = 0 then
    f_X8_closes_b95 K34 v1 v2 v3 v4 v5 t0 x13 x14 0 M
  else
    f_X8_closes_b95 K34 v1 v2 v3 v4 v5 t0 x13 x14 1 M
noncomputable def f_X8_closes_b209 (K169 : Int32 → Int32 → Int32 → Int32 → Int32 → Int32 → Int32 → St → Option (Int32 × St)) (v1 : Int32) (v2 : Int32) (v3 : Int32) (v4 : Int32) (v5 : Int32) (v6 : Int32) (v7 : Int32) (t1 : Int32) (t2 : Int32) (t3 : Int32) (M : St) : Option (Int32 × St) :=
  ck (inb t1 420) <| lb (u2 M 1 t1.toNatClampNeg (t2 + t3)) fun M16 =>
  K169 v1 v2 v3 v4 v5 v6 (v7 + 1) M16
noncomputable def f_X8_closes_b274 (t0 : Int32) (M : St) : Option (Int32 × St) :=
  some (t0, M)
noncomputable def f_X8_closes_b255 (v1 : Int32) (v3 : Int32) (v4 : Int32) (v5 : Int32) (t1 : Int32) (t2 : Int32) (M : St) : Option (Int32 × St) :=
  ob1 (f_X8_ends t1 t2 v5 v1 M) fun M18 =>
  if v4 = 0 then
    f_X8_closes_b274 (v3 &&& 1) M18
  else
    f_X8_closes_b274 ((-5)) M18
noncomputable def f_X8_closes_b245 (v1 : Int32) (v3 : Int32) (v4 : Int32) (v5 : Int32) (t1 : Int32) (M : St) : Option (Int32 × St) :=
  if v4 = 0 then
    f_X8_closes_b255 v1 v3 v4 v5 t1 v3 M
  else
    f_X8_closes_b255 v1 v3 v4 v5 t1 0 M
noncomputable def f_X8_closes_b231 (v1 : Int32) (v3 : Int32) (v4 : Int32) (v5 : Int32) (M : St) : Option (Int32 × St) :=
  if v4 = 0 then
    f_X8_closes_b245 v1 v3 v4 v5 (v3 &&& 1) M
  else
    f_X8_closes_b245 v1 v3 v4 v5 ((-5)) M
noncomputable def f_X8_closes_l169 : Nat → Int32 → Int32 → Int32 → Int32 → Int32 → Int32 → Int32 → St → Option (Int32 × St)
  | 0, _, _, _, _, _, _, _, _ => none
  | n + 1, v1, v2, v3, v4, v5, v6, v7, M =>
    ck (inb 4 420) <|
    if (M 1 (4 : Int32).toNatClampNeg) ≤ v7 then
      ck (inb 2 420) <|
      lb (M 1 (2 : Int32).toNatClampNeg) fun x23 =>
      ck (inb 2 420) <| lb (u2 M 1 (2 : Int32).toNatClampNeg (x23 - (v6 * v5))) fun M24 =>
      f_X8_closes_b231 v1 v3 v4 v5 M24
    else
      ob1 (f_X8_person v7) fun r26 =>
      lb (r26 + 0) fun x27 =>
      ck (inb x27 420) <|
      lb (M 1 x27.toNatClampNeg) fun x28 =>
      lb (ishr v2 v7) fun x29 =>
      lb (x29 &&& 1) fun x30 =>
      if x30 = 1 then
        f_X8_closes_b209 (f_X8_closes_l169 n) v1 v2 v3 v4 v5 v6 v7 x27 x28 v6 M
      else
        f_X8_closes_b209 (f_X8_closes_l169 n) v1 v2 v3 v4 v5 v6 v7 x27 x28 0 M
noncomputable def f_X8_closes_l34 : Nat → Int32 → Int32 → Int32 → Int32 → Int32 → St → Option (Int32 × St)
  | 0, _, _, _, _, _, _ => none
  | n + 1, v1, v2, v3, v4, v5, M =>
    ck (inb 4 420) <|
    if (M 1 (4 : Int32).toNatClampNeg) ≤ v5 then
      ob1 (f_X8_countOf v2) fun r34 =>
      if v4 = 0 then
        if r34 ≤ 0 then
          f_X8_closes_b231 v1 v3 v4 r34 M
        else
          ck (inb 2 420) <|
          lb (M 1 (2 : Int32).toNatClampNeg) fun x37 =>
          ck (nz r34) <|
          lb (x37 / r34) fun x39 =>
          f_X8_closes_l169 10000 v1 v2 v3 v4 r34 x39 0 M
      else
        f_X8_closes_b231 v1 v3 v4 r34 M
    else
      lb (ishr v1 v5) fun x40 =>
      lb (x40 &&& 1) fun x41 =>
      if x41 = 1 then
        lb (ishr v2 v5) fun x43 =>
        lb (x43 &&& 1) fun x44 =>
        if x44 = 1 then
          f_X8_closes_b70 (f_X8_closes_l34 n) v1 v2 v3 v4 v5 1 M
        else
          f_X8_closes_b70 (f_X8_closes_l34 n) v1 v2 v3 v4 v5 0 M
      else
        f_X8_closes_b133 (f_X8_closes_l34 n) v1 v2 v3 v4 v5 M
noncomputable def f_X8_closes (M : St) : Option (Int32 × St) :=
  ob1 (f_X8_takesSecrets M) fun M47 =>
  ob1 (f_X8_setOf 5 M47) fun r49 =>
  ob1 (f_X8_setOf 7 M47) fun r51 =>
  lb (r51 &&& r49) fun x52 =>
  ob2 (f_X8_outputOf x52 M47) fun r55 M54 =>
  lb (M54 0 4) fun x56 =>
  f_X8_closes_l34 10000 r49 x52 r55 x56 0 M54
noncomputable def f_X8_close (M : St) : Option (Int32 × St) :=
  ck (inb 0 420) <|
  lb (M 1 (0 : Int32).toNatClampNeg) fun x1 =>
  if x1 = 2 then
    ob1 (f_X8_act M) fun M4 =>
    ob2 (f_X8_closes M4) fun r7 M6 =>
    some (r7, M6)
  else
    some ((-2), M)
noncomputable def f_X8_nextMember_b44 (v3 : Int32) (M : St) : Option (Int32) :=
  some v3
noncomputable def f_X8_nextMember_l16 : Nat → Int32 → Int32 → Int32 → St → Option (Int32)
  | 0, _, _, _, _ => none
  | n + 1, v2, v3, v4, M =>
    if 8 ≤ v4 then
      f_X8_nextMember_b44 v3 M
    else
      lb (ishr v2 v3) fun x2 =>
      if (x2 &&& 1) = 0 then
        lb (v3 + 1) fun x4 =>
        lb (irem x4 8) fun x5 =>
        f_X8_nextMember_l16 n v2 x5 (v4 + 1) M
      else
        f_X8_nextMember_b44 v3 M
noncomputable def f_X8_nextMember (v1 : Int32) (M : St) : Option (Int32) :=
  ob1 (f_X8_setOf 5 M) fun r7 =>
  lb (v1 + 1) fun x8 =>
  lb (irem x8 8) fun x9 =>
  f_X8_nextMember_l16 10000 r7 x9 0 M
noncomputable def f_X8_plays_b74 (K4 : Int32 → Int32 → St → Option (St)) (v2 : Int32) (v3 : Int32) (M : St) : Option (St) :=
  K4 v2 (v3 + 1) M
noncomputable def f_X8_plays_l4 : Nat → Int32 → Int32 → St → Option (St)
  | 0, _, _, _ => none
  | n + 1, v2, v3, M =>
    ck (inb 4 420) <|
    if (M 1 (4 : Int32).toNatClampNeg) ≤ v3 then
      some M
    else
      ob1 (f_X8_has v3 5 M) fun r3 =>
      if r3 = 0 then
        f_X8_plays_b74 (f_X8_plays_l4 n) v2 v3 M
      else
        lb (u2 M 0 5 v2) fun M5 =>
        ob2 (f_X8_draw M5) fun r8 M7 =>
        lb (irem r8 1019) fun x9 =>
        ob2 (f_X8_draw M7) fun r12 M11 =>
        lb (M11 0 5) fun x13 =>
        ob1 (f_X8_digestOf x9 r12 M11) fun r15 =>
        ob1 (f_X8_isCopy v3 r15 M11) fun r17 =>
        if r17 = 0 then
          ob1 (f_X8_commits v3 x9 r12 M11) fun M20 =>
          f_X8_plays_b74 (f_X8_plays_l4 n) x13 v3 M20
        else
          f_X8_plays_b74 (f_X8_plays_l4 n) x13 v3 M11
noncomputable def f_X8_plays (v1 : Int32) (M : St) : Option (St) :=
  f_X8_plays_l4 10000 v1 0 M
noncomputable def f_X8_cheats_b46 (K2 : Int32 → St → Option (St)) (v1 : Int32) (M : St) : Option (St) :=
  K2 (v1 + 1) M
noncomputable def f_X8_cheats_b106 (K54 : Int32 → St → Option (St)) (K66 : Int32 → Int32 → St → Option (St)) (v1 : Int32) (v2 : Int32) (M : St) : Option (St) :=
  K66 v1 (v2 + 1) M
noncomputable def f_X8_cheats_l66 (K54 : Int32 → St → Option (St)) : Nat → Int32 → Int32 → St → Option (St)
  | 0, _, _, _ => none
  | n + 1, v1, v2, M =>
    ck (inb 4 420) <|
    if (M 1 (4 : Int32).toNatClampNeg) ≤ v2 then
      K54 (v1 + 1) M
    else
      if v2 = v1 then
        f_X8_cheats_b106 K54 (f_X8_cheats_l66 K54 n) v1 v2 M
      else
        ob1 (f_X8_hasShare v2 v1 M) fun r4 =>
        if r4 = 0 then
          f_X8_cheats_b106 K54 (f_X8_cheats_l66 K54 n) v1 v2 M
        else
          ob1 (f_X8_isGood v2 v1 M) fun r7 =>
          if r7 = 0 then
            ob2 (f_X8_complains v1 v2 M) fun r11 M10 =>
            f_X8_cheats_b106 K54 (f_X8_cheats_l66 K54 n) v1 v2 M10
          else
            f_X8_cheats_b106 K54 (f_X8_cheats_l66 K54 n) v1 v2 M
noncomputable def f_X8_cheats_l54 : Nat → Int32 → St → Option (St)
  | 0, _, _ => none
  | n + 1, v1, M =>
    ck (inb 4 420) <|
    if (M 1 (4 : Int32).toNatClampNeg) ≤ v1 then
      some M
    else
      f_X8_cheats_l66 (f_X8_cheats_l54 n) 10000 v1 0 M
noncomputable def f_X8_cheats_l2 : Nat → Int32 → St → Option (St)
  | 0, _, _ => none
  | n + 1, v1, M =>
    ck (inb 4 420) <|
    if (M 1 (4 : Int32).toNatClampNeg) ≤ v1 then
      f_X8_cheats_l54 10000 0 M
    else
      ob1 (f_X8_hasShares v1 M) fun r15 =>
      if r15 = 0 then
        f_X8_cheats_b46 (f_X8_cheats_l2 n) v1 M
      else
        ob1 (f_X8_person v1) fun r18 =>
        lb (r18 + 4) fun x19 =>
        ck (inb x19 420) <|
        lb (M 1 x19.toNatClampNeg) fun x20 =>
        if x20 = 3 then
          ob1 (f_X8_nextMember v1 M) fun r23 =>
          ob1 (f_X8_spoils v1 r23 1 M) fun M25 =>
          f_X8_cheats_b46 (f_X8_cheats_l2 n) v1 M25
        else
          f_X8_cheats_b46 (f_X8_cheats_l2 n) v1 M
noncomputable def f_X8_cheats (M : St) : Option (St) :=
  f_X8_cheats_l2 10000 0 M
noncomputable def f_X8_decides_b58 (K2 : Int32 → St → Option (St)) (v1 : Int32) (t1 : Int32) (t2 : Int32) (M : St) : Option (St) :=
  ck (inb t1 420) <| lb (u2 M 1 t1.toNatClampNeg t2) fun M1 =>
  K2 (v1 + 1) M1
noncomputable def f_X8_decides_b53 (K2 : Int32 → St → Option (St)) (v1 : Int32) (t1 : Int32) (M : St) : Option (St) :=
  f_X8_decides_b58 K2 v1 t1 1 M
noncomputable def f_X8_decides_b57 (K2 : Int32 → St → Option (St)) (v1 : Int32) (t1 : Int32) (M : St) : Option (St) :=
  f_X8_decides_b58 K2 v1 t1 0 M
noncomputable def f_X8_decides_b163 (K67 : Int32 → St → Option (St)) (v1 : Int32) (M : St) : Option (St) :=
  K67 (v1 + 1) M
noncomputable def f_X8_decides_b162 (K67 : Int32 → St → Option (St)) (v1 : Int32) (t1 : Int32) (t2 : Int32) (M : St) : Option (St) :=
  ck (inb t1 420) <| lb (u2 M 1 t1.toNatClampNeg t2) fun M2 =>
  f_X8_decides_b163 K67 v1 M2
noncomputable def f_X8_decides_b141 (K67 : Int32 → St → Option (St)) (v1 : Int32) (t0 : Int32) (M : St) : Option (St) :=
  ob1 (f_X8_person v1) fun r4 =>
  lb (r4 + 7) fun x5 =>
  if t0 = 0 then
    f_X8_decides_b162 K67 v1 x5 1 M
  else
    f_X8_decides_b162 K67 v1 x5 0 M
noncomputable def f_X8_decides_b140 (K67 : Int32 → St → Option (St)) (v1 : Int32) (M : St) : Option (St) :=
  f_X8_decides_b141 K67 v1 0 M
noncomputable def f_X8_decides_l67 : Nat → Int32 → St → Option (St)
  | 0, _, _ => none
  | n + 1, v1, M =>
    ck (inb 4 420) <|
    if (M 1 (4 : Int32).toNatClampNeg) ≤ v1 then
      some M
    else
      ob1 (f_X8_has v1 5 M) fun r9 =>
      if r9 = 0 then
        f_X8_decides_b163 (f_X8_decides_l67 n) v1 M
      else
        ob1 (f_X8_person v1) fun r12 =>
        lb (r12 + 4) fun x13 =>
        ck (inb x13 420) <|
        lb (M 1 x13.toNatClampNeg) fun x14 =>
        if x14 = 2 then
          ob1 (f_X8_setOf 7 M) fun r17 =>
          ob1 (f_X8_setOf 5 M) fun r19 =>
          lb (r17 &&& r19) fun x20 =>
          ob2 (f_X8_coinOf x20 M) fun r23 M22 =>
          if r23 = 1 then
            ob2 (f_X8_coinOf (x20 ||| (ishl 1 v1)) M22) fun r27 M26 =>
            if r27 = 1 then
              f_X8_decides_b140 (f_X8_decides_l67 n) v1 M26
            else
              f_X8_decides_b141 (f_X8_decides_l67 n) v1 1 M26
          else
            f_X8_decides_b140 (f_X8_decides_l67 n) v1 M22
        else
          f_X8_decides_b163 (f_X8_decides_l67 n) v1 M
noncomputable def f_X8_decides_l2 : Nat → Int32 → St → Option (St)
  | 0, _, _ => none
  | n + 1, v1, M =>
    ck (inb 4 420) <|
    if (M 1 (4 : Int32).toNatClampNeg) ≤ v1 then
      f_X8_decides_l67 10000 0 M
    else
      ob1 (f_X8_person v1) fun r31 =>
      lb (r31 + 4) fun x32 =>
      ck (inb x32 420) <|
      lb (M 1 x32.toNatClampNeg) fun x33 =>
      ob1 (f_X8_person v1) fun r35 =>
      lb (r35 + 7) fun x36 =>
      ob1 (f_X8_has v1 5 M) fun r38 =>
      if r38 = 0 then
        f_X8_decides_b57 (f_X8_decides_l2 n) v1 x36 M
      else
        if x33 = 0 then
          f_X8_decides_b53 (f_X8_decides_l2 n) v1 x36 M
        else
          if x33 = 3 then
            f_X8_decides_b53 (f_X8_decides_l2 n) v1 x36 M
          else
            f_X8_decides_b57 (f_X8_decides_l2 n) v1 x36 M
noncomputable def f_X8_decides (M : St) : Option (St) :=
  f_X8_decides_l2 10000 0 M
noncomputable def f_X8_play_b37 (M : St) : Option (Int32 × St) :=
  ob2 (f_X8_opensUp M) fun r3 M2 =>
  if r3 = ((-5)) then
    some ((-5), M2)
  else
    ob1 (f_X8_decides M2) fun M6 =>
    ob2 (f_X8_closes M6) fun r9 M8 =>
    some (r9, M8)
noncomputable def f_X8_play (v1 : Int32) (M : St) : Option (Int32 × St) :=
  ob1 (f_X8_mayBegin M) fun r11 =>
  if r11 = 0 then
    some ((-2), M)
  else
    ob1 (f_X8_act M) fun M14 =>
    ob1 (f_X8_begins M14) fun M16 =>
    ob1 (f_X8_plays v1 M16) fun M18 =>
    ck (inb 5 420) <|
    lb (M18 1 (5 : Int32).toNatClampNeg) fun x19 =>
    if x19 = 1 then
      ob1 (f_X8_cheats M18) fun M22 =>
      f_X8_play_b37 M22
    else
      f_X8_play_b37 M18
noncomputable def f_X8_phase (M : St) : Option (Int32) :=
  ck (inb 0 420) <|
  some (M 1 (0 : Int32).toNatClampNeg)
noncomputable def f_X8_setNumber_b52 (t0 : Int32) (M : St) : Option (Int32) :=
  some t0
noncomputable def f_X8_setNumber (v1 : Int32) (M : St) : Option (Int32) :=
  ob1 (f_X8_setOf 5 M) fun r2 =>
  if v1 = 0 then
    f_X8_setNumber_b52 r2 M
  else
    if v1 = 1 then
      ob1 (f_X8_setOf 6 M) fun r11 =>
      f_X8_setNumber_b52 (r2 &&& r11) M
    else
      if v1 = 2 then
        ob1 (f_X8_setOf 7 M) fun r9 =>
        f_X8_setNumber_b52 (r2 &&& r9) M
      else
        ob1 (f_X8_setOf 8 M) fun r7 =>
        f_X8_setNumber_b52 r7 M
noncomputable def f_X8_set_b32 (t0 : Int32) (M : St) : Option (Int32) :=
  some t0
noncomputable def f_X8_set (v1 : Int32) (M : St) : Option (Int32) :=
  ob1 (f_X8_in v1 0 3) fun r2 =>
  if r2 = 0 then
    f_X8_set_b32 ((-1)) M
  else
    ck (inb 0 420) <|
    if (M 1 (0 : Int32).toNatClampNeg) = 0 then
      f_X8_set_b32 ((-2)) M
    else
      ob1 (f_X8_setNumber v1 M) fun r6 =>
      f_X8_set_b32 r6 M
noncomputable def f_X8_isIn_b33 (t0 : Int32) (M : St) : Option (Int32) :=
  ck (isB t0) <|
  some t0
noncomputable def f_X8_isIn_b32 (M : St) : Option (Int32) :=
  f_X8_isIn_b33 0 M
noncomputable def f_X8_isIn (v1 : Int32) (M : St) : Option (Int32) :=
  ck (inb 0 420) <|
  if (M 1 (0 : Int32).toNatClampNeg) = 0 then
    f_X8_isIn_b32 M
  else
    ob1 (f_X8_has v1 5 M) fun r3 =>
    if r3 = 0 then
      f_X8_isIn_b32 M
    else
      ob1 (f_X8_has v1 6 M) fun r6 =>
      if r6 = 0 then
        f_X8_isIn_b32 M
      else
        f_X8_isIn_b33 1 M
noncomputable def f_X8_digest_b40 (t0 : Int32) (M : St) : Option (Int32) :=
  some t0
noncomputable def f_X8_digest (v1 : Int32) (M : St) : Option (Int32) :=
  ob1 (f_X8_isPerson v1 M) fun r2 =>
  if r2 = 0 then
    f_X8_digest_b40 ((-1)) M
  else
    ob1 (f_X8_isIn v1 M) fun r5 =>
    if r5 = 0 then
      f_X8_digest_b40 ((-9)) M
    else
      ob1 (f_X8_person v1) fun r8 =>
      lb (r8 + 11) fun x9 =>
      ck (inb x9 420) <|
      lb (M 1 x9.toNatClampNeg) fun x10 =>
      f_X8_digest_b40 (x10 &&& 1073741823) M
noncomputable def f_X8_share_b40 (t0 : Int32) (M : St) : Option (Int32) :=
  some t0
noncomputable def f_X8_share_b16 (M : St) : Option (Int32) :=
  f_X8_share_b40 ((-1)) M
noncomputable def f_X8_share (v1 : Int32) (v2 : Int32) (M : St) : Option (Int32) :=
  ob1 (f_X8_isPerson v1 M) fun r2 =>
  if r2 = 0 then
    f_X8_share_b16 M
  else
    ob1 (f_X8_isPerson v2 M) fun r5 =>
    if r5 = 0 then
      f_X8_share_b16 M
    else
      ob1 (f_X8_hasShare v1 v2 M) fun r8 =>
      if r8 = 0 then
        f_X8_share_b40 ((-9)) M
      else
        ob1 (f_X8_shareOf v1 v2 M) fun r11 =>
        f_X8_share_b40 r11 M
noncomputable def f_X8_isRight_b48 (t0 : Int32) (M : St) : Option (Int32) :=
  some t0
noncomputable def f_X8_isRight_b16 (M : St) : Option (Int32) :=
  f_X8_isRight_b48 ((-1)) M
noncomputable def f_X8_isRight (v1 : Int32) (v2 : Int32) (M : St) : Option (Int32) :=
  ob1 (f_X8_isPerson v1 M) fun r2 =>
  if r2 = 0 then
    f_X8_isRight_b16 M
  else
    ob1 (f_X8_isPerson v2 M) fun r5 =>
    if r5 = 0 then
      f_X8_isRight_b16 M
    else
      ob1 (f_X8_hasShare v1 v2 M) fun r8 =>
      if r8 = 0 then
        f_X8_isRight_b48 ((-9)) M
      else
        ob1 (f_X8_isGood v1 v2 M) fun r11 =>
        if r11 = 0 then
          f_X8_isRight_b48 0 M
        else
          f_X8_isRight_b48 1 M
noncomputable def f_X8_check_b12 (M : St) : Option (Int32) :=
  some ((-1))
noncomputable def f_X8_check_b33 (M : St) : Option (Int32) :=
  some ((-9))
noncomputable def f_X8_check_l41 : Nat → Int32 → Int32 → Int32 → Int32 → St → Option (Int32)
  | 0, _, _, _, _, _ => none
  | n + 1, v1, v2, v3, v4, M =>
    ob1 (f_X8_person v1) fun r2 =>
    lb (r2 + 14) fun x3 =>
    lb (x3 + v2) fun x4 =>
    ck (inb x4 420) <|
    if (M 1 x4.toNatClampNeg) ≤ v4 then
      some v3
    else
      lb (v3 * 4) fun x6 =>
      lb (irem x6 2039) fun x7 =>
      f_X8_check_l41 n v1 v2 x7 (v4 + 1) M
noncomputable def f_X8_check (v1 : Int32) (v2 : Int32) (M : St) : Option (Int32) :=
  ob1 (f_X8_isPerson v1 M) fun r9 =>
  if r9 = 0 then
    f_X8_check_b12 M
  else
    if 0 ≤ v2 then
      ob1 (f_X8_hasShares v1 M) fun r13 =>
      if r13 = 0 then
        f_X8_check_b33 M
      else
        ck (inb 6 420) <|
        if v2 < (M 1 (6 : Int32).toNatClampNeg) then
          f_X8_check_l41 10000 v1 v2 1 0 M
        else
          f_X8_check_b33 M
    else
      f_X8_check_b12 M
noncomputable def f_X8_inverse_b38 (v1 : Int32) : Option (Int32) :=
  some v1
noncomputable def f_X8_inverse_l2 : Nat → Int32 → Int32 → Option (Int32)
  | 0, _, _ => none
  | n + 1, v0, v1 =>
    if 1019 ≤ v1 then
      f_X8_inverse_b38 v1
    else
      lb (irem v0 1019) fun x2 =>
      lb (x2 + 1019) fun x3 =>
      lb (irem x3 1019) fun x4 =>
      lb (x4 * v1) fun x5 =>
      lb (irem x5 1019) fun x6 =>
      if x6 = 1 then
        f_X8_inverse_b38 v1
      else
        f_X8_inverse_l2 n v0 (v1 + 1)
noncomputable def f_X8_inverse (v0 : Int32) : Option (Int32) :=
  f_X8_inverse_l2 10000 v0 1
noncomputable def f_X8_recover_b19 (M : St) : Option (Int32) :=
  some ((-1))
noncomputable def f_X8_recover_b51 (M : St) : Option (Int32) :=
  some ((-9))
noncomputable def f_X8_recover_l72 (K54 : Int32 → Int32 → St → Option (Int32)) : Nat → Int32 → Int32 → Int32 → St → Option (Int32)
  | 0, _, _, _, _ => none
  | n + 1, v1, v3, v4, M =>
    lb (ishr v3 v4) fun x1 =>
    if (x1 &&& 1) = 0 then
      f_X8_recover_l72 K54 n v1 v3 (v4 + (-1)) M
    else
      lb (ishl 1 v4) fun x3 =>
      lb (v3 &&& (x3 ^^^ ((-1)))) fun x4 =>
      K54 v1 x4 M
noncomputable def f_X8_recover_b188 (K105 : Int32 → Int32 → Int32 → Int32 → St → Option (Int32)) (K138 : Int32 → Int32 → Int32 → Int32 → Int32 → Int32 → St → Option (Int32)) (v1 : Int32) (v3 : Int32) (v4 : Int32) (v5 : Int32) (v6 : Int32) (v7 : Int32) (M : St) : Option (Int32) :=
  K138 v1 v3 v4 v5 v6 (v7 + 1) M
noncomputable def f_X8_recover_l138 (K105 : Int32 → Int32 → Int32 → Int32 → St → Option (Int32)) : Nat → Int32 → Int32 → Int32 → Int32 → Int32 → Int32 → St → Option (Int32)
  | 0, _, _, _, _, _, _, _ => none
  | n + 1, v1, v3, v4, v5, v6, v7, M =>
    if 8 ≤ v7 then
      lb (v4 + v6) fun x6 =>
      lb (irem x6 1019) fun x7 =>
      K105 v1 v3 x7 (v5 + 1) M
    else
      if v7 = v5 then
        f_X8_recover_b188 K105 (f_X8_recover_l138 K105 n) v1 v3 v4 v5 v6 v7 M
      else
        lb (ishr v3 v7) fun x9 =>
        lb (x9 &&& 1) fun x10 =>
        if x10 = 1 then
          lb (v6 * (v7 + 1)) fun x12 =>
          lb (irem x12 1019) fun x13 =>
          ob1 (f_X8_inverse (v7 - v5)) fun r15 =>
          lb (x13 * r15) fun x16 =>
          lb (irem x16 1019) fun x17 =>
          f_X8_recover_b188 K105 (f_X8_recover_l138 K105 n) v1 v3 v4 v5 x17 v7 M
        else
          f_X8_recover_b188 K105 (f_X8_recover_l138 K105 n) v1 v3 v4 v5 v6 v7 M
noncomputable def f_X8_recover_b133 (K105 : Int32 → Int32 → Int32 → Int32 → St → Option (Int32)) (v1 : Int32) (v3 : Int32) (v4 : Int32) (v5 : Int32) (t0 : Int32) (M : St) : Option (Int32) :=
  f_X8_recover_l138 K105 10000 v1 v3 v4 v5 t0 0 M
noncomputable def f_X8_recover_l105 : Nat → Int32 → Int32 → Int32 → Int32 → St → Option (Int32)
  | 0, _, _, _, _, _ => none
  | n + 1, v1, v3, v4, v5, M =>
    if 8 ≤ v5 then
      some v4
    else
      lb (ishr v3 v5) fun x19 =>
      lb (x19 &&& 1) fun x20 =>
      if x20 = 1 then
        ob1 (f_X8_shareOf v1 v5 M) fun r23 =>
        f_X8_recover_b133 (f_X8_recover_l105 n) v1 v3 v4 v5 r23 M
      else
        f_X8_recover_b133 (f_X8_recover_l105 n) v1 v3 v4 v5 0 M
noncomputable def f_X8_recover_l54 : Nat → Int32 → Int32 → St → Option (Int32)
  | 0, _, _, _ => none
  | n + 1, v1, v3, M =>
    ob1 (f_X8_countOf v3) fun r25 =>
    ck (inb 6 420) <|
    if r25 ≤ (M 1 (6 : Int32).toNatClampNeg) then
      f_X8_recover_l105 10000 v1 v3 0 0 M
    else
      f_X8_recover_l72 (f_X8_recover_l54 n) 10000 v1 v3 7 M
noncomputable def f_X8_recover (v1 : Int32) (v2 : Int32) (M : St) : Option (Int32) :=
  ob1 (f_X8_isPerson v1 M) fun r28 =>
  if r28 = 0 then
    f_X8_recover_b19 M
  else
    ob1 (f_X8_in v2 0 255) fun r31 =>
    if r31 = 0 then
      f_X8_recover_b19 M
    else
      ob1 (f_X8_setOf 5 M) fun r34 =>
      lb (v2 &&& r34) fun x35 =>
      ob1 (f_X8_hasShares v1 M) fun r37 =>
      if r37 = 0 then
        f_X8_recover_b51 M
      else
        ob1 (f_X8_countOf x35) fun r40 =>
        ck (inb 6 420) <|
        if (M 1 (6 : Int32).toNatClampNeg) ≤ r40 then
          f_X8_recover_l54 10000 v1 x35 M
        else
          f_X8_recover_b51 M
noncomputable def f_X8_lock_b17 (M : St) : Option (Int32) :=
  some ((-1))
noncomputable def f_X8_lock_b63 (t0 : Int32) (M : St) : Option (Int32) :=
  some t0
noncomputable def f_X8_lock_b56 (t1 : Int32) (t2 : Int32) (M : St) : Option (Int32) :=
  lb (t1 + t2) fun x1 =>
  ck (inb x1 420) <|
  f_X8_lock_b63 (M 1 x1.toNatClampNeg) M
noncomputable def f_X8_lock_b61 (M : St) : Option (Int32) :=
  f_X8_lock_b63 ((-9)) M
noncomputable def f_X8_lock (v1 : Int32) (v2 : Int32) (M : St) : Option (Int32) :=
  ob1 (f_X8_isPerson v1 M) fun r3 =>
  if r3 = 0 then
    f_X8_lock_b17 M
  else
    ob1 (f_X8_in v2 0 1) fun r6 =>
    if r6 = 0 then
      f_X8_lock_b17 M
    else
      ck (inb 5 420) <|
      lb (M 1 (5 : Int32).toNatClampNeg) fun x8 =>
      if x8 = 2 then
        ob1 (f_X8_isIn v1 M) fun r11 =>
        if r11 = 0 then
          f_X8_lock_b61 M
        else
          ob1 (f_X8_person v1) fun r14 =>
          if v2 = 0 then
            f_X8_lock_b56 r14 12 M
          else
            f_X8_lock_b56 r14 13 M
      else
        f_X8_lock_b61 M
noncomputable def f_X8_mayJoin_b38 (t0 : Int32) (M : St) : Option (Int32) :=
  ck (isB t0) <|
  some t0
noncomputable def f_X8_mayJoin_b37 (M : St) : Option (Int32) :=
  f_X8_mayJoin_b38 0 M
noncomputable def f_X8_mayJoin (v1 : Int32) (M : St) : Option (Int32) :=
  ob1 (f_X8_setOf 5 M) fun r2 =>
  ob1 (f_X8_setOf 7 M) fun r4 =>
  lb (r2 &&& (r4 ^^^ ((-1)))) fun x5 =>
  ck (inb 0 420) <|
  lb (M 1 (0 : Int32).toNatClampNeg) fun x6 =>
  if x6 = 2 then
    if (v1 &&& (x5 ^^^ ((-1)))) = 0 then
      f_X8_mayJoin_b38 1 M
    else
      f_X8_mayJoin_b37 M
  else
    f_X8_mayJoin_b37 M
noncomputable def f_X8_results_b133 (K42 : Int32 → Int32 → Int32 → Int32 → Int32 → St → Option (Int32 × St)) (K105 : Int32 → Int32 → Int32 → Int32 → Int32 → Int32 → Int32 → Int32 → St → Option (Int32 × St)) (v1 : Int32) (v2 : Int32) (v3 : Int32) (v4 : Int32) (v5 : Int32) (v6 : Int32) (v8 : Int32) (t0 : Int32) (M : St) : Option (Int32 × St) :=
  K105 v1 v2 v3 v4 v5 v6 t0 (v8 + 1) M
noncomputable def f_X8_results_b157 (K42 : Int32 → Int32 → Int32 → Int32 → Int32 → St → Option (Int32 × St)) (v1 : Int32) (v2 : Int32) (v3 : Int32) (v4 : Int32) (v5 : Int32) (M : St) : Option (Int32 × St) :=
  K42 v1 v2 v3 v4 (v5 + 1) M
noncomputable def f_X8_results_b141 (K42 : Int32 → Int32 → Int32 → Int32 → Int32 → St → Option (Int32 × St)) (v1 : Int32) (v2 : Int32) (v3 : Int32) (v4 : Int32) (v5 : Int32) (v6 : Int32) (v7 : Int32) (M : St) : Option (Int32 × St) :=
  if v7 = 0 then
    f_X8_results_b157 K42 v1 v2 v3 v4 v5 M
  else
    ck (inb v3 256) <| lb (u2 M 4 v3.toNatClampNeg v6) fun M2 =>
    f_X8_results_b157 K42 v1 v2 (v3 + 1) v4 v5 M2
noncomputable def f_X8_results_l105 (K42 : Int32 → Int32 → Int32 → Int32 → Int32 → St → Option (Int32 × St)) : Nat → Int32 → Int32 → Int32 → Int32 → Int32 → Int32 → Int32 → Int32 → St → Option (Int32 × St)
  | 0, _, _, _, _, _, _, _, _, _ => none
  | n + 1, v1, v2, v3, v4, v5, v6, v7, v8, M =>
    if v3 ≤ v8 then
      f_X8_results_b141 K42 v1 v2 v3 v4 v5 v6 v7 M
    else
      if v7 = 0 then
        f_X8_results_b141 K42 v1 v2 v3 v4 v5 v6 v7 M
      else
        ck (inb v8 256) <|
        lb (M 4 v8.toNatClampNeg) fun x5 =>
        if x5 = v6 then
          f_X8_results_b133 K42 (f_X8_results_l105 K42 n) v1 v2 v3 v4 v5 v6 v8 0 M
        else
          f_X8_results_b133 K42 (f_X8_results_l105 K42 n) v1 v2 v3 v4 v5 v6 v8 1 M
noncomputable def f_X8_results_b100 (K42 : Int32 → Int32 → Int32 → Int32 → Int32 → St → Option (Int32 × St)) (v1 : Int32) (v2 : Int32) (v3 : Int32) (v5 : Int32) (v6 : Int32) (v7 : Int32) (t0 : Int32) (M : St) : Option (Int32 × St) :=
  f_X8_results_l105 K42 10000 v1 v2 v3 t0 v5 v6 v7 0 M
noncomputable def f_X8_results_b85 (K42 : Int32 → Int32 → Int32 → Int32 → Int32 → St → Option (Int32 × St)) (v1 : Int32) (v2 : Int32) (v3 : Int32) (v4 : Int32) (v5 : Int32) (v6 : Int32) (t0 : Int32) (M : St) : Option (Int32 × St) :=
  if (M 0 4) = 0 then
    f_X8_results_b100 K42 v1 v2 v3 v5 v6 t0 v4 M
  else
    f_X8_results_b100 K42 v1 v2 v3 v5 v6 t0 1 M
noncomputable def f_X8_results_l42 : Nat → Int32 → Int32 → Int32 → Int32 → Int32 → St → Option (Int32 × St)
  | 0, _, _, _, _, _, _ => none
  | n + 1, v1, v2, v3, v4, v5, M =>
    if 256 ≤ v5 then
      some (v3 + v4, M)
    else
      if (v5 &&& (v1 ^^^ ((-1)))) = 0 then
        lb (v2 &&& (v1 ^^^ ((-1)))) fun x10 =>
        ob2 (f_X8_outputOf (x10 ||| v5) M) fun r13 M12 =>
        if (M12 0 4) = 0 then
          f_X8_results_b85 (f_X8_results_l42 n) v1 v2 v3 v4 v5 r13 1 M12
        else
          f_X8_results_b85 (f_X8_results_l42 n) v1 v2 v3 v4 v5 r13 0 M12
      else
        f_X8_results_b157 (f_X8_results_l42 n) v1 v2 v3 v4 v5 M
noncomputable def f_X8_results (v1 : Int32) (M : St) : Option (Int32 × St) :=
  ob1 (f_X8_in v1 0 255) fun r16 =>
  if r16 = 0 then
    some ((-1), M)
  else
    ob1 (f_X8_mayJoin v1 M) fun r19 =>
    if r19 = 0 then
      some ((-2), M)
    else
      ob1 (f_X8_takesSecrets M) fun M22 =>
      ob1 (f_X8_setOf 5 M22) fun r24 =>
      f_X8_results_l42 10000 v1 r24 0 0 0 M22
noncomputable def f_X8_forces_b57 (K13 : Int32 → Int32 → Int32 → Int32 → St → Option (Int32 × St)) (v1 : Int32) (v2 : Int32) (v3 : Int32) (v4 : Int32) (M : St) : Option (Int32 × St) :=
  K13 v1 v2 v3 (v4 + 1) M
noncomputable def f_X8_forces_l13 : Nat → Int32 → Int32 → Int32 → Int32 → St → Option (Int32 × St)
  | 0, _, _, _, _, _ => none
  | n + 1, v1, v2, v3, v4, M =>
    if 256 ≤ v4 then
      some (0, M)
    else
      if (v4 &&& (v1 ^^^ ((-1)))) = 0 then
        ob2 (f_X8_outputOf (v3 ||| v4) M) fun r5 M4 =>
        if (M4 0 4) = 0 then
          lb (r5 &&& 1) fun x7 =>
          if x7 = v2 then
            some (1, M4)
          else
            f_X8_forces_b57 (f_X8_forces_l13 n) v1 v2 v3 v4 M4
        else
          f_X8_forces_b57 (f_X8_forces_l13 n) v1 v2 v3 v4 M4
      else
        f_X8_forces_b57 (f_X8_forces_l13 n) v1 v2 v3 v4 M
noncomputable def f_X8_forces (v1 : Int32) (v2 : Int32) (M : St) : Option (Int32 × St) :=
  ob1 (f_X8_setOf 5 M) fun r10 =>
  lb (r10 &&& (v1 ^^^ ((-1)))) fun x11 =>
  f_X8_forces_l13 10000 v1 v2 x11 0 M
noncomputable def f_X8_canForce_b20 (M : St) : Option (Int32 × St) :=
  some ((-1), M)
noncomputable def f_X8_canForce_b51 (t0 : Int32) (M : St) : Option (Int32 × St) :=
  some (t0, M)
noncomputable def f_X8_canForce (v1 : Int32) (v2 : Int32) (M : St) : Option (Int32 × St) :=
  ob1 (f_X8_in v1 0 255) fun r2 =>
  if r2 = 0 then
    f_X8_canForce_b20 M
  else
    ob1 (f_X8_in v2 0 1) fun r5 =>
    if r5 = 0 then
      f_X8_canForce_b20 M
    else
      ob1 (f_X8_mayJoin v1 M) fun r8 =>
      if r8 = 0 then
        some ((-2), M)
      else
        ob1 (f_X8_takesSecrets M) fun M11 =>
        ob2 (f_X8_forces v1 v2 M11) fun r14 M13 =>
        if r14 = 0 then
          f_X8_canForce_b51 0 M13
        else
          f_X8_canForce_b51 1 M13
noncomputable def f_X8_bias_b20 (M : St) : Option (Int32 × St) :=
  some ((-1), M)
noncomputable def f_X8_bias_b125 (K67 : Int32 → Int32 → Int32 → Int32 → Int32 → Int32 → St → Option (Int32 × St)) (K87 : Int32 → Int32 → Int32 → Int32 → Int32 → Int32 → Int32 → Int32 → St → Option (Int32 × St)) (v1 : Int32) (v2 : Int32) (v3 : Int32) (v4 : Int32) (v5 : Int32) (v6 : Int32) (v7 : Int32) (v8 : Int32) (M : St) : Option (Int32 × St) :=
  K87 v1 v2 v3 v4 v5 v6 v7 (v8 + 1) M
noncomputable def f_X8_bias_b147 (K67 : Int32 → Int32 → Int32 → Int32 → Int32 → Int32 → St → Option (Int32 × St)) (v1 : Int32) (v2 : Int32) (v3 : Int32) (v4 : Int32) (v6 : Int32) (t0 : Int32) (t1 : Int32) (M : St) : Option (Int32 × St) :=
  lb (t0 + t1) fun x1 =>
  K67 v1 v2 v3 v4 x1 (v6 + 1) M
noncomputable def f_X8_bias_l87 (K67 : Int32 → Int32 → Int32 → Int32 → Int32 → Int32 → St → Option (Int32 × St)) : Nat → Int32 → Int32 → Int32 → Int32 → Int32 → Int32 → Int32 → Int32 → St → Option (Int32 × St)
  | 0, _, _, _, _, _, _, _, _, _ => none
  | n + 1, v1, v2, v3, v4, v5, v6, v7, v8, M =>
    if 8 ≤ v8 then
      ob2 (f_X8_forces v1 1 M) fun r5 M4 =>
      if r5 = 0 then
        f_X8_bias_b147 K67 v1 v2 v3 v4 v6 v5 0 M4
      else
        f_X8_bias_b147 K67 v1 v2 v3 v4 v6 v5 1 M4
    else
      lb (ishr v3 v8) fun x7 =>
      lb (x7 &&& 1) fun x8 =>
      if x8 = 1 then
        lb (ishl 1 v2) fun x10 =>
        ck (inb v8 8) <| lb (u2 M 3 v8.toNatClampNeg (v7 &&& (x10 - 1))) fun M11 =>
        lb (ishr v7 v2) fun x12 =>
        f_X8_bias_b125 K67 (f_X8_bias_l87 K67 n) v1 v2 v3 v4 v5 v6 x12 v8 M11
      else
        f_X8_bias_b125 K67 (f_X8_bias_l87 K67 n) v1 v2 v3 v4 v5 v6 v7 v8 M
noncomputable def f_X8_bias_l67 : Nat → Int32 → Int32 → Int32 → Int32 → Int32 → Int32 → St → Option (Int32 × St)
  | 0, _, _, _, _, _, _, _ => none
  | n + 1, v1, v2, v3, v4, v5, v6, M =>
    if (ishl 1 v4) ≤ v6 then
      some (v5, M)
    else
      ob1 (f_X8_takesSecrets M) fun M15 =>
      f_X8_bias_l87 (f_X8_bias_l67 n) 10000 v1 v2 v3 v4 v5 v6 v6 0 M15
noncomputable def f_X8_bias (v1 : Int32) (v2 : Int32) (M : St) : Option (Int32 × St) :=
  ob1 (f_X8_in v1 0 255) fun r17 =>
  if r17 = 0 then
    f_X8_bias_b20 M
  else
    ob1 (f_X8_in v2 1 4) fun r20 =>
    if r20 = 0 then
      f_X8_bias_b20 M
    else
      ob1 (f_X8_mayJoin v1 M) fun r23 =>
      if r23 = 0 then
        some ((-2), M)
      else
        ob1 (f_X8_setOf 5 M) fun r26 =>
        lb (r26 &&& (v1 ^^^ ((-1)))) fun x27 =>
        ob1 (f_X8_countOf x27) fun r29 =>
        lb (v2 * r29) fun x30 =>
        if x30 ≤ 12 then
          f_X8_bias_l67 10000 v1 v2 x27 x30 0 0 M
        else
          some ((-3), M)
noncomputable def f_X8_power_b46 (K15 : Int64 → Int64 → Int64 → Int64 → Option (Int64)) (v4 : Int64) (v8 : Int64) (v10 : Int64) (t0 : Int64) : Option (Int64) :=
  lb (v8 * v8) fun y1 =>
  ck (nzL v4) <|
  lb (lrem y1 v4) fun y3 =>
  lb (v10 / 2) fun y4 =>
  K15 v4 t0 y3 y4
noncomputable def f_X8_power_l15 : Nat → Int64 → Int64 → Int64 → Int64 → Option (Int64)
  | 0, _, _, _, _ => none
  | n + 1, v4, v6, v8, v10 =>
    if (lg_cmp v10 0) ≤ 0 then
      some v6
    else
      lb (lrem v10 2) fun y6 =>
      if (lg_cmp y6 1) = 0 then
        lb (v6 * v8) fun y8 =>
        ck (nzL v4) <|
        f_X8_power_b46 (f_X8_power_l15 n) v4 v8 v10 (lrem y8 v4)
      else
        f_X8_power_b46 (f_X8_power_l15 n) v4 v8 v10 v6
noncomputable def f_X8_power (v0 : Int64) (v2 : Int64) (v4 : Int64) : Option (Int64) :=
  ck (nzL v4) <|
  lb (lrem 1 v4) fun y11 =>
  ck (nzL v4) <|
  lb (lrem v0 v4) fun y13 =>
  f_X8_power_l15 10000 v4 y11 y13 v2
noncomputable def f_X8_isPrime_b35 (K13 : Int32 → Int32 → Int32 → Option (Int32)) (v0 : Int32) (v2 : Int32) (t0 : Int32) : Option (Int32) :=
  K13 v0 t0 (v2 + 1)
noncomputable def f_X8_isPrime_b42 (v1 : Int32) : Option (Int32) :=
  ck (isB v1) <|
  some v1
noncomputable def f_X8_isPrime_l13 : Nat → Int32 → Int32 → Int32 → Option (Int32)
  | 0, _, _, _ => none
  | n + 1, v0, v1, v2 =>
    lb (v2 * v2) fun x1 =>
    if v0 < x1 then
      f_X8_isPrime_b42 v1
    else
      if v1 = 0 then
        f_X8_isPrime_b42 v1
      else
        ck (nz v2) <|
        if (irem v0 v2) = 0 then
          f_X8_isPrime_b35 (f_X8_isPrime_l13 n) v0 v2 0
        else
          f_X8_isPrime_b35 (f_X8_isPrime_l13 n) v0 v2 1
noncomputable def f_X8_isPrime_b10 (v0 : Int32) (t0 : Int32) : Option (Int32) :=
  f_X8_isPrime_l13 10000 v0 t0 2
noncomputable def f_X8_isPrime (v0 : Int32) : Option (Int32) :=
  if v0 ≤ 1 then
    f_X8_isPrime_b10 v0 0
  else
    f_X8_isPrime_b10 v0 1
noncomputable def f_X8_primeFor_l18 : Nat → Int32 → Option (Int32)
  | 0, _ => none
  | n + 1, v2 =>
    ob1 (f_X8_isPrime v2) fun r2 =>
    if r2 = 0 then
      f_X8_primeFor_l18 n (v2 + 1)
    else
      some v2
noncomputable def f_X8_primeFor (v0 : Int32) (v1 : Int32) : Option (Int32) :=
  ob1 (f_X8_mix 19 v0) fun r5 =>
  ob1 (f_X8_mix r5 v1) fun r7 =>
  lb (257 + (iushr r7 22)) fun x8 =>
  f_X8_primeFor_l18 10000 x8
noncomputable def f_X8_isSlow_b26 (t0 : Int32) : Option (Int32) :=
  ck (isB t0) <|
  some t0
noncomputable def f_X8_isSlow_b25 : Option (Int32) :=
  f_X8_isSlow_b26 0
noncomputable def f_X8_isSlow (v0 : Int32) (v1 : Int32) : Option (Int32) :=
  ob1 (f_X8_in v0 2 100000) fun r2 =>
  if r2 = 0 then
    f_X8_isSlow_b25
  else
    ob1 (f_X8_in v1 0 5000) fun r5 =>
    if r5 = 0 then
      f_X8_isSlow_b25
    else
      f_X8_isSlow_b26 1
noncomputable def f_X8_slow_b18 (t0 : Int32) : Option (Int32) :=
  some t0
noncomputable def f_X8_slow (v1 : Int32) (v2 : Int32) : Option (Int32) :=
  ob1 (f_X8_isSlow v1 v2) fun r2 =>
  if r2 = 0 then
    f_X8_slow_b18 ((-1))
  else
    ob1 (f_X8_squares v1 v2) fun r5 =>
    f_X8_slow_b18 (r5.toInt32)
noncomputable def f_X8_quick_b21 : Option (Int32) :=
  some ((-1))
noncomputable def f_X8_quick (v1 : Int32) (v2 : Int32) : Option (Int32) :=
  ob1 (f_X8_in v1 2 7906) fun r2 =>
  if r2 = 0 then
    f_X8_quick_b21
  else
    ob1 (f_X8_in v2 0 1000000000) fun r5 =>
    if r5 = 0 then
      f_X8_quick_b21
    else
      lb (v1.toInt64) fun y7 =>
      lb (v2.toInt64) fun y8 =>
      ob1 (f_X8_power 2 y8 62599708) fun r10 =>
      ob1 (f_X8_power y7 r10 62615533) fun r12 =>
      some (r12.toInt32)
noncomputable def f_X8_prime_b22 (t0 : Int32) : Option (Int32) :=
  some t0
noncomputable def f_X8_prime (v1 : Int32) (v2 : Int32) : Option (Int32) :=
  ob1 (f_X8_isSlow v1 v2) fun r2 =>
  if r2 = 0 then
    f_X8_prime_b22 ((-1))
  else
    ob1 (f_X8_squares v1 v2) fun r5 =>
    ob1 (f_X8_primeFor v1 (r5.toInt32)) fun r7 =>
    f_X8_prime_b22 r7
noncomputable def f_X8_proof_b81 (K30 : Int32 → Int32 → Int32 → Int64 → Int64 → Int32 → Option (Int32)) (v1 : Int32) (v2 : Int32) (v3 : Int32) (v4 : Int64) (v6 : Int64) (v8 : Int32) : Option (Int32) :=
  K30 v1 v2 v3 v4 v6 (v8 + 1)
noncomputable def f_X8_proof_l30 : Nat → Int32 → Int32 → Int32 → Int64 → Int64 → Int32 → Option (Int32)
  | 0, _, _, _, _, _, _ => none
  | n + 1, v1, v2, v3, v4, v6, v8 =>
    if v2 ≤ v8 then
      some (v6.toInt32)
    else
      lb (v4 * 2) fun y2 =>
      lb (v6 * v6) fun y3 =>
      lb (lrem y3 62615533) fun y4 =>
      if (lg_cmp y2 (v3.toInt64)) < 0 then
        f_X8_proof_b81 (f_X8_proof_l30 n) v1 v2 v3 y2 y4 v8
      else
        lb (y2 - (v3.toInt64)) fun y6 =>
        lb (y4 * (v1.toInt64)) fun y7 =>
        lb (lrem y7 62615533) fun y8 =>
        f_X8_proof_b81 (f_X8_proof_l30 n) v1 v2 v3 y6 y8 v8
noncomputable def f_X8_proof (v1 : Int32) (v2 : Int32) : Option (Int32) :=
  ob1 (f_X8_isSlow v1 v2) fun r10 =>
  if r10 = 0 then
    some ((-1))
  else
    ob1 (f_X8_squares v1 v2) fun r13 =>
    ob1 (f_X8_primeFor v1 (r13.toInt32)) fun r15 =>
    f_X8_proof_l30 10000 v1 v2 r15 1 1 0
noncomputable def f_X8_accepts_b41 : Option (Int32) :=
  some ((-1))
noncomputable def f_X8_accepts_b97 (t0 : Int32) : Option (Int32) :=
  some t0
noncomputable def f_X8_accepts (v1 : Int32) (v2 : Int32) (v3 : Int32) (v4 : Int32) : Option (Int32) :=
  ob1 (f_X8_in v1 2 100000) fun r2 =>
  if r2 = 0 then
    f_X8_accepts_b41
  else
    ob1 (f_X8_in v2 0 1000000000) fun r5 =>
    if r5 = 0 then
      f_X8_accepts_b41
    else
      ob1 (f_X8_in v3 0 62615532) fun r8 =>
      if r8 = 0 then
        f_X8_accepts_b41
      else
        ob1 (f_X8_in v4 0 62615532) fun r11 =>
        if r11 = 0 then
          f_X8_accepts_b41
        else
          ob1 (f_X8_primeFor v1 v3) fun r14 =>
          lb (v4.toInt64) fun y15 =>
          lb (r14.toInt64) fun y16 =>
          ob1 (f_X8_power y15 y16 62615533) fun r18 =>
          lb (v1.toInt64) fun y19 =>
          lb (v2.toInt64) fun y20 =>
          ob1 (f_X8_power 2 y20 (r14.toInt64)) fun r22 =>
          ob1 (f_X8_power y19 r22 62615533) fun r24 =>
          lb (r18 * r24) fun y25 =>
          lb (lrem y25 62615533) fun y26 =>
          if (lg_cmp y26 (v3.toInt64)) = 0 then
            f_X8_accepts_b97 1
          else
            f_X8_accepts_b97 0
noncomputable def f_X8_account_b32 (t0 : Int32) (M : St) : Option (Int32) :=
  some t0
noncomputable def f_X8_account_b31 (M : St) : Option (Int32) :=
  f_X8_account_b32 ((-1)) M
noncomputable def f_X8_account (v1 : Int32) (v2 : Int32) (M : St) : Option (Int32) :=
  ob1 (f_X8_isPerson v1 M) fun r2 =>
  if r2 = 0 then
    f_X8_account_b31 M
  else
    ob1 (f_X8_in v2 0 4) fun r5 =>
    if r5 = 0 then
      f_X8_account_b31 M
    else
      ob1 (f_X8_person v1) fun r8 =>
      lb (r8 + v2) fun x9 =>
      ck (inb x9 420) <|
      f_X8_account_b32 (M 1 x9.toNatClampNeg) M
noncomputable def f_X8_pot (M : St) : Option (Int32) :=
  ck (inb 2 420) <|
  some (M 1 (2 : Int32).toNatClampNeg)
noncomputable def f_X8_rounds (M : St) : Option (Int32) :=
  ck (inb 1 420) <|
  some (M 1 (1 : Int32).toNatClampNeg)
noncomputable def f_X8_isKept_b32 (t0 : Int32) (M : St) : Option (Int32) :=
  ck (isB t0) <|
  some t0
noncomputable def f_X8_isKept_b31 (M : St) : Option (Int32) :=
  f_X8_isKept_b32 0 M
noncomputable def f_X8_isKept (v1 : Int32) (M : St) : Option (Int32) :=
  if v1 < 0 then
    f_X8_isKept_b31 M
  else
    ck (inb 1 420) <|
    if (M 1 (1 : Int32).toNatClampNeg) ≤ v1 then
      f_X8_isKept_b31 M
    else
      ck (inb 1 420) <|
      lb (M 1 (1 : Int32).toNatClampNeg) fun x3 =>
      if v1 < (x3 - 16) then
        f_X8_isKept_b31 M
      else
        f_X8_isKept_b32 1 M
noncomputable def f_X8_ofRound (v1 : Int32) (v2 : Int32) (M : St) : Option (Int32) :=
  lb (340 + (5 * (irem v1 16))) fun x1 =>
  lb (x1 + v2) fun x2 =>
  ck (inb x2 420) <|
  some (M 1 x2.toNatClampNeg)
noncomputable def f_X8_past_b13 (M : St) : Option (Int32) :=
  some ((-1))
noncomputable def f_X8_past_b99 (t0 : Int32) (M : St) : Option (Int32) :=
  some t0
noncomputable def f_X8_past_b42 (v1 : Int32) (v2 : Int32) (t0 : Int32) (M : St) : Option (Int32) :=
  ob1 (f_X8_ofRound v1 1 M) fun r2 =>
  ob1 (f_X8_countOf r2) fun r4 =>
  ob1 (f_X8_ofRound v1 2 M) fun r6 =>
  lb (r4 - r6) fun x7 =>
  if v2 = 4 then
    ob1 (f_X8_ofRound v1 3 M) fun r14 =>
    f_X8_past_b99 r14 M
  else
    if v2 = 3 then
      if t0 = 0 then
        f_X8_past_b99 x7 M
      else
        f_X8_past_b99 0 M
    else
      ob1 (f_X8_ofRound v1 v2 M) fun r11 =>
      f_X8_past_b99 r11 M
noncomputable def f_X8_past (v1 : Int32) (v2 : Int32) (M : St) : Option (Int32) :=
  if v1 < 0 then
    f_X8_past_b13 M
  else
    ob1 (f_X8_in v2 0 4) fun r17 =>
    if r17 = 0 then
      f_X8_past_b13 M
    else
      ob1 (f_X8_isKept v1 M) fun r20 =>
      if r20 = 0 then
        some ((-9))
      else
        ob1 (f_X8_ofRound v1 0 M) fun r23 =>
        if r23 = ((-5)) then
          f_X8_past_b42 v1 v2 1 M
        else
          f_X8_past_b42 v1 v2 0 M
noncomputable def f_X8_output_b18 (t0 : Int32) (M : St) : Option (Int32) :=
  some t0
noncomputable def f_X8_output (v1 : Int32) (M : St) : Option (Int32) :=
  ob1 (f_X8_isKept v1 M) fun r2 =>
  if r2 = 0 then
    f_X8_output_b18 0 M
  else
    ob1 (f_X8_ofRound v1 4 M) fun r5 =>
    f_X8_output_b18 r5 M
noncomputable def f_X8_coins_b29 (t0 : Int32) (M : St) : Option (Int32) :=
  some t0
noncomputable def f_X8_coins_b28 (t1 : Int32) (M : St) : Option (Int32) :=
  ck (inb t1 420) <|
  f_X8_coins_b29 (M 1 t1.toNatClampNeg) M
noncomputable def f_X8_coins (v1 : Int32) (M : St) : Option (Int32) :=
  ob1 (f_X8_in v1 0 1) fun r2 =>
  if r2 = 0 then
    f_X8_coins_b29 ((-1)) M
  else
    if v1 = 0 then
      f_X8_coins_b28 9 M
    else
      f_X8_coins_b28 10 M
noncomputable def f_X8_longestRun (M : St) : Option (Int32) :=
  ck (inb 13 420) <|
  some (M 1 (13 : Int32).toNatClampNeg)
noncomputable def f_X8_undo_l22 : Nat → Int32 → St → Option (Int32 × St)
  | 0, _, _ => none
  | n + 1, v1, M =>
    if 420 ≤ v1 then
      some (M 0 2, M)
    else
      lb (420 * (M 0 2)) fun x2 =>
      lb (x2 + v1) fun x3 =>
      ck (inb x3 1680) <|
      ck (inb v1 420) <| lb (u2 M 1 v1.toNatClampNeg (M 2 x3.toNatClampNeg)) fun M4 =>
      f_X8_undo_l22 n (v1 + 1) M4
noncomputable def f_X8_undo (M : St) : Option (Int32 × St) :=
  if (M 0 2) = 0 then
    some ((-2), M)
  else
    lb (M 0 2) fun x6 =>
    lb (u2 M 0 2 (x6 - 1)) fun M7 =>
    f_X8_undo_l22 10000 0 M7
noncomputable def f_X8_fingerprint_l63 (K50 : Int64 → Int32 → St → Option (Int64)) : Nat → Int64 → Int32 → Int32 → St → Option (Int64)
  | 0, _, _, _, _ => none
  | n + 1, v1, v3, v4, M =>
    if 5 ≤ v4 then
      K50 v1 (v3 + 1) M
    else
      lb (31 * v1) fun y2 =>
      ob1 (f_X8_person v3) fun r4 =>
      lb (r4 + v4) fun x5 =>
      ck (inb x5 420) <|
      lb (y2 + ((M 1 x5.toNatClampNeg).toInt64)) fun y6 =>
      f_X8_fingerprint_l63 K50 n y6 v3 (v4 + 1) M
noncomputable def f_X8_fingerprint_b176 (v1 : Int64) (M : St) : Option (Int64) :=
  some v1
noncomputable def f_X8_fingerprint_l138 : Nat → Int64 → Int32 → St → Option (Int64)
  | 0, _, _, _ => none
  | n + 1, v1, v3, M =>
    ck (inb 4 420) <|
    if (M 1 (4 : Int32).toNatClampNeg) ≤ v3 then
      f_X8_fingerprint_b176 v1 M
    else
      ck (inb 0 420) <|
      if (M 1 (0 : Int32).toNatClampNeg) = 0 then
        f_X8_fingerprint_b176 v1 M
      else
        lb (31 * v1) fun y9 =>
        ob1 (f_X8_digest v3 M) fun r11 =>
        lb (y9 + (r11.toInt64)) fun y12 =>
        f_X8_fingerprint_l138 n y12 (v3 + 1) M
noncomputable def f_X8_fingerprint_b136 (v1 : Int64) (M : St) : Option (Int64) :=
  f_X8_fingerprint_l138 10000 v1 0 M
noncomputable def f_X8_fingerprint_l103 : Nat → Int64 → Int32 → St → Option (Int64)
  | 0, _, _, _ => none
  | n + 1, v1, v3, M =>
    if 4 ≤ v3 then
      f_X8_fingerprint_b136 v1 M
    else
      ck (inb 0 420) <|
      if (M 1 (0 : Int32).toNatClampNeg) = 0 then
        f_X8_fingerprint_b136 v1 M
      else
        lb (31 * v1) fun y15 =>
        ob1 (f_X8_setNumber v3 M) fun r17 =>
        lb (y15 + (r17.toInt64)) fun y18 =>
        f_X8_fingerprint_l103 n y18 (v3 + 1) M
noncomputable def f_X8_fingerprint_l50 : Nat → Int64 → Int32 → St → Option (Int64)
  | 0, _, _, _ => none
  | n + 1, v1, v3, M =>
    ck (inb 4 420) <|
    if (M 1 (4 : Int32).toNatClampNeg) ≤ v3 then
      f_X8_fingerprint_l103 10000 v1 0 M
    else
      f_X8_fingerprint_l63 (f_X8_fingerprint_l50 n) 10000 v1 v3 0 M
noncomputable def f_X8_fingerprint (M : St) : Option (Int64) :=
  ck (inb 0 420) <|
  lb (31 * (713 + ((M 1 (0 : Int32).toNatClampNeg).toInt64))) fun y20 =>
  ck (inb 1 420) <|
  lb (31 * (y20 + ((M 1 (1 : Int32).toNatClampNeg).toInt64))) fun y21 =>
  ck (inb 2 420) <|
  lb (31 * (y21 + ((M 1 (2 : Int32).toNatClampNeg).toInt64))) fun y22 =>
  ck (inb 3 420) <|
  lb (y22 + ((M 1 (3 : Int32).toNatClampNeg).toInt64)) fun y23 =>
  f_X8_fingerprint_l50 10000 y23 0 M
