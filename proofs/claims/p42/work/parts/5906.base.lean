/-! plain facts about value functions, ints by their numbers, sets of eight -/
theorem ob1_s {α β : Type} (a : α) (f : α → Option β) : ob1 (some a) f = f a := rfl
theorem ob2_s {α γ β : Type} (a : α) (b : γ) (f : α → γ → Option β) : ob2 (some (a, b)) f = f a b := rfl
theorem ck_t {β : Type} (k : Option β) : ck true k = k := rfl
theorem lb_e {α β : Type} (a : α) (f : α → β) : lb a f = f a := rfl
theorem u2_ap (I : St) (o k : Nat) (x : Int32) (o' k' : Nat) : u2 I o k x o' k' = if o' = o then (if k' = k then x else I o k') else I o' k' := by
  unfold u2 ur
  by_cases h : o' = o
  · rw [if_pos h, if_pos h]; rfl
  · rw [if_neg h, if_neg h]
theorem u2_row (I : St) (o k : Nat) (x : Int32) : u2 I o k x o = upd (I o) k x := if_pos rfl
theorem u2_off (I : St) (o k : Nat) (x : Int32) {q : Nat} (h : q ≠ o) : u2 I o k x q = I q := if_neg h
theorem ur_ap (I : St) (o : Nat) (f : Nat → Int32) (o' : Nat) : ur I o f o' = if o' = o then f else I o' := rfl
theorem upd_ap (f : Nat → Int32) (k : Nat) (x : Int32) (j : Nat) : upd f k x j = if j = k then x else f j := rfl
theorem lit_nI (n : Nat) : (OfNat.ofNat n : Int32) = nI n := rfl
theorem inb_nI {n N : Nat} (h : n < N) (hN : N < 2 ^ 31) : inb (nI n) N = true := by
  have h1 := nI_pos (n := n) (by omega)
  have h2 := nI_clamp (n := n) (by omega)
  simp [inb, h1, h2, h]
theorem inb_no {n N : Nat} (h : N ≤ n) (hN : n < 2 ^ 31) : inb (nI n) N = false := by
  have h2 := nI_clamp (n := n) hN
  simp [inb, h2, h]
theorem irem_nI {a b : Nat} (ha : a < 2 ^ 31) (h0 : 0 < b) (hb : b < 2 ^ 31) : irem (nI a) (nI b) = nI (a % b) := pk_rem ha h0 hb
theorem and_nI (a b : Nat) : nI a &&& nI b = nI (a &&& b) := by
  apply Int32.toBitVec_inj.1
  show BitVec.ofNat 32 a &&& BitVec.ofNat 32 b = BitVec.ofNat 32 (a &&& b)
  apply BitVec.eq_of_getLsbD_eq
  intro i hi
  simp [hi]
theorem or_nI (a b : Nat) : nI a ||| nI b = nI (a ||| b) := by
  apply Int32.toBitVec_inj.1
  show BitVec.ofNat 32 a ||| BitVec.ofNat 32 b = BitVec.ofNat 32 (a ||| b)
  apply BitVec.eq_of_getLsbD_eq
  intro i hi
  simp [hi]
theorem xor_nI (a b : Nat) : nI a ^^^ nI b = nI (a ^^^ b) := by
  apply Int32.toBitVec_inj.1
  show BitVec.ofNat 32 a ^^^ BitVec.ofNat 32 b = BitVec.ofNat 32 (a ^^^ b)
  apply BitVec.eq_of_getLsbD_eq
  intro i hi
  simp [hi]
theorem cnt_u : ∀ k, k < 32 → (((nI k).toUInt32 &&& Int32.toUInt32 31).toBitVec % 32).toNat = k := by decide +kernel
theorem cnt_s : ∀ k, k < 32 → ((nI k &&& 31).toBitVec.smod 32).toNat = k := by decide +kernel
theorem iushr_nI {a k : Nat} (ha : a < 2 ^ 32) (hk : k < 32) : iushr (nI a) (nI k) = nI (a / 2 ^ k) := pk_ushrN ha _ k (cnt_u k hk)
theorem ishr_nI {a k : Nat} (ha : a < 2 ^ 31) (hk : k < 32) : ishr (nI a) (nI k) = nI (a / 2 ^ k) := pk_shrN ha _ k (cnt_s k hk)
theorem ishl_nI {a k : Nat} (hk : k < 32) (ha : a * 2 ^ k < 2 ^ 32) : ishl (nI a) (nI k) = nI (a * 2 ^ k) := pk_shlN _ k (cnt_s k hk) ha
theorem of32 (x : Int32) : ∃ n, n < 2 ^ 32 ∧ x = nI n := ⟨x.toBitVec.toNat, x.toBitVec.isLt, Int32.toBitVec_inj.mp (by show _ = BitVec.ofNat 32 _; simp)⟩
/-- a number within, or not -/
theorem rng (x : Int32) {n : Nat} (hn : n < 2 ^ 31) : (∃ k, k < n ∧ x = nI k) ∨ x < 0 ∨ nI n ≤ x := by
  rcases pk_ix x hn with h | h | ⟨j, h1, h2⟩
  · exact Or.inr (Or.inl h)
  · exact Or.inr (Or.inr h)
  · exact Or.inl ⟨j, h1, h2⟩
/-! sets of eight -/
def bn (f : Nat → Bool) : Nat := (if f 0 then 1 else 0) + ((if f 1 then 2 else 0) + ((if f 2 then 4 else 0) + ((if f 3 then 8 else 0) + ((if f 4 then 16 else 0) + ((if f 5 then 32 else 0) + ((if f 6 then 64 else 0) + (if f 7 then 128 else 0)))))))
def bs (f : Nat → Bool) : Int32 := nI (bn f)
theorem bn_lt (f : Nat → Bool) : bn f < 256 := by
  unfold bn
  repeat' split
  all_goals omega
theorem bn_of : ∀ s, s < 256 → bn (fun p => s.testBit p) = s := by decide +kernel
theorem bn_congr {f g : Nat → Bool} (h : ∀ p, p < 8 → f p = g p) : bn f = bn g := by
  unfold bn
  rw [h 0 (by decide), h 1 (by decide), h 2 (by decide), h 3 (by decide), h 4 (by decide), h 5 (by decide), h 6 (by decide), h 7 (by decide)]
theorem bn_b : ∀ (b0 b1 b2 b3 b4 b5 b6 b7 : Bool), ∀ p, p < 8 → (bn (fun p => match p with | 0 => b0 | 1 => b1 | 2 => b2 | 3 => b3 | 4 => b4 | 5 => b5 | 6 => b6 | _ => b7)).testBit p = (match p with | 0 => b0 | 1 => b1 | 2 => b2 | 3 => b3 | 4 => b4 | 5 => b5 | 6 => b6 | _ => b7) := by decide +kernel
theorem bn_tb (f : Nat → Bool) {p : Nat} (hp : p < 8) : (bn f).testBit p = f p := by
  have e : ∀ q, q < 8 → f q = (fun p => match p with | 0 => f 0 | 1 => f 1 | 2 => f 2 | 3 => f 3 | 4 => f 4 | 5 => f 5 | 6 => f 6 | _ => f 7) q := by
    intro q hq
    match q, hq with
    | 0, _ => rfl
    | 1, _ => rfl
    | 2, _ => rfl
    | 3, _ => rfl
    | 4, _ => rfl
    | 5, _ => rfl
    | 6, _ => rfl
    | 7, _ => rfl
  rw [bn_congr e, e p hp]
  exact bn_b _ _ _ _ _ _ _ _ p hp
theorem bn_inj {f g : Nat → Bool} (h : bn f = bn g) : ∀ p, p < 8 → f p = g p := fun p hp => by rw [← bn_tb f hp, h, bn_tb g hp]
theorem bn_eq {f : Nat → Bool} {s : Nat} (hs : s < 256) (h : ∀ p, p < 8 → s.testBit p = f p) : s = bn f := by
  rw [← bn_of s hs]
  exact bn_congr h
theorem bs_congr {f g : Nat → Bool} (h : ∀ p, p < 8 → f p = g p) : bs f = bs g := congrArg nI (bn_congr h)
theorem bs_has (f : Nat → Bool) {k : Nat} (hk : k < 8) : iushr (bs f) (nI k) &&& 1 = if f k then 1 else 0 := by
  have : ∀ s, s < 256 → ∀ k, k < 8 → iushr (nI s) (nI k) &&& 1 = if s.testBit k then 1 else 0 := by decide +kernel
  rw [bs, this _ (bn_lt f) k hk, bn_tb f hk]
theorem bs_hasS (f : Nat → Bool) {k : Nat} (hk : k < 8) : ishr (bs f) (nI k) &&& 1 = if f k then 1 else 0 := by
  have : ∀ s, s < 256 → ∀ k, k < 8 → ishr (nI s) (nI k) &&& 1 = if s.testBit k then 1 else 0 := by decide +kernel
  rw [bs, this _ (bn_lt f) k hk, bn_tb f hk]
theorem bs_or (f g : Nat → Bool) : bs f ||| bs g = bs (fun p => f p || g p) := by
  rw [bs, bs, or_nI]
  refine congrArg nI (bn_eq (Nat.or_lt_two_pow (n := 8) (bn_lt f) (bn_lt g)) fun p hp => ?_)
  rw [Nat.testBit_or, bn_tb f hp, bn_tb g hp]
theorem bs_and (f g : Nat → Bool) : bs f &&& bs g = bs (fun p => f p && g p) := by
  rw [bs, bs, and_nI]
  refine congrArg nI (bn_eq (Nat.and_lt_two_pow (n := 8) _ (bn_lt g)) fun p hp => ?_)
  rw [Nat.testBit_and, bn_tb f hp, bn_tb g hp]
theorem bs_one {k : Nat} (hk : k < 8) : ishl 1 (nI k) = bs (fun p => decide (p = k)) := by
  have : ∀ k, k < 8 → ishl 1 (nI k) = bs (fun p => decide (p = k)) := by decide +kernel
  exact this k hk
theorem bs_nm : ∀ s, s < 256 → ∀ t, t < 256 → nI s &&& (nI t ^^^ (-1)) = nI (s &&& (255 ^^^ t)) := by
  intro s hs t ht
  have e : (-1 : Int32) = nI 4294967295 := by decide
  rw [e, xor_nI, and_nI]
  refine congrArg nI (Nat.eq_of_testBit_eq fun i => ?_)
  rw [Nat.testBit_and, Nat.testBit_and, Nat.testBit_xor, Nat.testBit_xor]
  by_cases hi : i < 8
  · have h1 : Nat.testBit 4294967295 i = true := by
      have : ∀ i, i < 8 → Nat.testBit 4294967295 i = true := by decide
      exact this i hi
    have h2 : Nat.testBit 255 i = true := by
      have : ∀ i, i < 8 → Nat.testBit 255 i = true := by decide
      exact this i hi
    rw [h1, h2]
    cases Nat.testBit t i <;> rfl
  · have h3 : s.testBit i = false := Nat.testBit_lt_two_pow (Nat.lt_of_lt_of_le hs (by
      have := Nat.pow_le_pow_right (n := 2) (by decide) (Nat.not_lt.mp hi)
      omega))
    rw [h3]; rfl
theorem bs_andn (f g : Nat → Bool) : bs f &&& (bs g ^^^ (-1)) = bs (fun p => f p && !g p) := by
  rw [bs, bs, bs_nm _ (bn_lt f) _ (bn_lt g)]
  refine congrArg nI (bn_eq (Nat.lt_of_le_of_lt Nat.and_le_left (bn_lt f)) fun p hp => ?_)
  have h2 : Nat.testBit 255 p = true := by
    have : ∀ i, i < 8 → Nat.testBit 255 i = true := by decide
    exact this p hp
  rw [Nat.testBit_and, Nat.testBit_xor, h2, bn_tb f hp, bn_tb g hp]
  cases g p <;> simp
def cnt8 (f : Nat → Bool) : Nat := (if f 0 then 1 else 0) + ((if f 1 then 1 else 0) + ((if f 2 then 1 else 0) + ((if f 3 then 1 else 0) + ((if f 4 then 1 else 0) + ((if f 5 then 1 else 0) + ((if f 6 then 1 else 0) + (if f 7 then 1 else 0)))))))
theorem cnt8_congr {f g : Nat → Bool} (h : ∀ p, p < 8 → f p = g p) : cnt8 f = cnt8 g := by
  unfold cnt8
  rw [h 0 (by decide), h 1 (by decide), h 2 (by decide), h 3 (by decide), h 4 (by decide), h 5 (by decide), h 6 (by decide), h 7 (by decide)]
theorem cnt8_le (f : Nat → Bool) : cnt8 f ≤ 8 := by
  unfold cnt8
  repeat' split
  all_goals omega
theorem bitCount_bs (f : Nat → Bool) : f_J6_bitCount_0f7a4 (bs f) = some (nI (cnt8 f)) := by
  have : ∀ s, s < 256 → f_J6_bitCount_0f7a4 (nI s) = some (nI (cnt8 (fun p => s.testBit p))) := by
    simp only [f_J6_bitCount_0f7a4, lb_e, Option.some.injEq]
    decide +kernel
  rw [bs, this _ (bn_lt f)]
  exact congrArg (fun z => some (nI z)) (cnt8_congr fun p hp => bn_tb f hp)
theorem bs_zero : (0 : Int32) = bs (fun _ => false) := by decide
theorem bs_inj {f g : Nat → Bool} : bs f = bs g ↔ ∀ p, p < 8 → f p = g p := by
  refine ⟨fun h => bn_inj ?_, bs_congr⟩
  exact (nI_eq (Nat.lt_trans (bn_lt f) (by decide)) (Nat.lt_trans (bn_lt g) (by decide))).mp h
theorem bs_in (c : Int32) : (∃ f : Nat → Bool, c = bs f) ∨ c < 0 ∨ nI 256 ≤ c := by
  rcases rng c (n := 256) (by decide) with ⟨k, h1, h2⟩ | h
  · exact Or.inl ⟨fun p => k.testBit p, by rw [h2, bs, bn_of k h1]⟩
  · exact Or.inr h
/-! a fold over the numbers from i on, d of them -/
def fo {σ : Type} (step : Nat → σ → σ) : Nat → Nat → σ → σ
  | 0, _, s => s
  | d + 1, i, s => fo step d (i + 1) (step i s)
theorem fo_congr {σ : Type} {f g : Nat → σ → σ} : ∀ (d i : Nat) (s : σ), (∀ j, i ≤ j → j < i + d → ∀ s, f j s = g j s) → fo f d i s = fo g d i s
  | 0, _, _, _ => rfl
  | d + 1, i, s, h => by
    show fo f d (i + 1) (f i s) = fo g d (i + 1) (g i s)
    rw [h i (Nat.le_refl _) (by omega), fo_congr d (i + 1) _ (fun j h1 h2 => h j (by omega) (by omega))]
theorem fo_add {σ : Type} (f : Nat → σ → σ) : ∀ (a b i : Nat) (s : σ), fo f (a + b) i s = fo f b (i + a) (fo f a i s)
  | 0, b, i, s => by rw [Nat.zero_add]; rfl
  | a + 1, b, i, s => by
    rw [show a + 1 + b = (a + b) + 1 by omega]
    show fo f (a + b) (i + 1) (f i s) = fo f b (i + (a + 1)) (fo f a (i + 1) (f i s))
    rw [fo_add f a b (i + 1), show i + 1 + a = i + (a + 1) by omega]
theorem fo_id {σ : Type} (f : Nat → σ → σ) : ∀ (d i : Nat) (s : σ), (∀ j, i ≤ j → j < i + d → ∀ s, f j s = s) → fo f d i s = s
  | 0, _, _, _ => rfl
  | d + 1, i, s, h => by
    show fo f d (i + 1) (f i s) = s
    rw [h i (Nat.le_refl _) (by omega), fo_id f d (i + 1) _ (fun j h1 h2 => h j (by omega) (by omega))]
/-- the set of the numbers below n with a property, put together bit by bit -/
theorem fo_set (f : Nat → Bool) : fo (fun p s => if f p then s ||| ishl 1 (nI p) else s) 8 0 0 = bs f := by
  have key : ∀ d i, i + d = 8 → fo (fun p s => if f p then s ||| ishl 1 (nI p) else s) d i (bs (fun p => decide (p < i) && f p)) = bs f := by
    intro d
    induction d with
    | zero =>
      intro i h
      exact bs_congr fun p hp => by simp [show p < i by omega]
    | succ d ih =>
      intro i h
      have e : (fun p s => if f p then s ||| ishl 1 (nI p) else s) i (bs (fun p => decide (p < i) && f p)) = bs (fun p => decide (p < i + 1) && f p) := by
        by_cases hf : f i = true
        · show (if f i then _ else _) = _
          rw [if_pos hf, bs_one (by omega), bs_or]
          refine bs_congr fun p _ => ?_
          by_cases h1 : p = i
          · subst h1; simp [hf]
          · have : (p < i + 1) ↔ p < i := by omega
            simp [h1, this]
        · show (if f i then _ else _) = _
          rw [if_neg hf]
          refine bs_congr fun p _ => ?_
          by_cases h1 : p = i
          · subst h1; simp at hf; simp [hf]
          · have : (p < i + 1) ↔ p < i := by omega
            simp [this]
      show fo _ d (i + 1) _ = _
      rw [e]
      exact ih (i + 1) (by omega)
  have h0 := key 8 0 rfl
  rwa [show bs (fun p => decide (p < 0) && f p) = 0 from by rw [bs_zero]; exact bs_congr fun p _ => by simp] at h0
