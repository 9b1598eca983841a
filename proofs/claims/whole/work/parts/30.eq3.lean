/-! Operations come out alike on both sides. -/
theorem i64_add {x y : Int64} (h1 : -9223372036854775808 ≤ x.toInt + y.toInt) (h2 : x.toInt + y.toInt < 9223372036854775808) : (x + y).toInt = x.toInt + y.toInt := by
  rw [Int64.toInt_add]
  exact Int.bmod_eq_of_le h1 h2
theorem i64_sub {x y : Int64} (h1 : -9223372036854775808 ≤ x.toInt - y.toInt) (h2 : x.toInt - y.toInt < 9223372036854775808) : (x - y).toInt = x.toInt - y.toInt := by
  rw [Int64.toInt_sub]
  exact Int.bmod_eq_of_le h1 h2
theorem sh31 : ∀ k, k < 32 → (((Int32.ofNat k &&& 31).toBitVec).smod 32).toNat = k := by decide
theorem bt_1 : ∀ i, i < 32 → bt 1 i = decide (i = 0) := by decide
theorem bt_sar {x : Int32} {k : Nat} (hk : k < 32) : bt (x >>> (Int32.ofNat k &&& 31)) 0 = bt x k := by
  unfold bt
  rw [Int32.toBitVec_shiftRight, BitVec.getLsbD_sshiftRight']
  have e : ((Int32.ofNat k &&& 31).toBitVec.smod ((32 : BitVec 32))).toNat = k := sh31 k hk
  rw [e]
  rw [if_pos (by omega)]
  rfl
theorem bit_k {x : Int32} {k : Nat} (hk : k < 32) : (((x >>> (Int32.ofNat k &&& 31)) &&& (1 : Int32)) = 1) ↔ bt x k = true := by
  constructor
  · intro h
    have q := congrArg (fun z => bt z 0) h
    simp only [bt_and, bt_1 0 (by decide), bt_sar hk, decide_true, Bool.and_true] at q
    exact q
  · intro h
    apply bt_ext
    intro i hi
    rw [bt_and, bt_1 i hi]
    by_cases e : i = 0
    · rw [e, bt_sar hk, h]; rfl
    · rw [decide_eq_false e, Bool.and_false]
theorem mask_or : ∀ k, k < 32 → Int32.ofNat (2 ^ k - 1) ||| ((1 : Int32) <<< (Int32.ofNat k &&& 31)) = Int32.ofNat (2 ^ (k + 1) - 1) := by decide
theorem rlw_t {x : Int32} {t : Nat} (ht : t ≤ 32) (h1 : ∀ i, i < t → bt x i = true) (h2 : t < 32 → bt x t = false) : ∀ n k, k + n = 32 → k ≤ t → rlw x n (Int32.ofNat k) (Int32.ofNat (2 ^ k - 1)) = Int32.ofNat (2 ^ t - 1) := by
  intro n
  induction n with
  | zero =>
    intro k hk hkt
    rw [show k = t by omega]
    rfl
  | succ n ih =>
    intro k hk hkt
    show (if ¬ ((x >>> (Int32.ofNat k &&& 31)) &&& (1 : Int32)) = (1 : Int32) then Int32.ofNat (2 ^ k - 1) else rlw x n (Int32.ofNat k + 1) (Int32.ofNat (2 ^ k - 1) ||| ((1 : Int32) <<< (Int32.ofNat k &&& 31)))) = _
    by_cases e : k = t
    · rw [if_pos (fun q => by have := (bit_k (by omega)).mp q; rw [e, h2 (by omega)] at this; cases this), e]
    · rw [if_neg (not_not_intro ((bit_k (by omega)).mpr (h1 k (by omega)))), i32_succ40 k (by omega), mask_or k (by omega)]
      exact ih (k + 1) (by omega) (by omega)
theorem trail (f : Nat → Bool) : ∀ n, ∃ t, t ≤ n ∧ (∀ i, i < t → f i = true) ∧ (t < n → f t = false) := by
  intro n
  induction n with
  | zero => exact ⟨0, by omega, fun i hi => absurd hi (by omega), fun h => absurd h (by omega)⟩
  | succ n ih =>
    obtain ⟨t, a, b, c⟩ := ih
    by_cases h : t < n
    · exact ⟨t, by omega, b, fun _ => c h⟩
    · have e : t = n := by omega
      cases hf : f n
      · exact ⟨n, by omega, by rw [← e]; exact b, fun _ => hf⟩
      · refine ⟨n + 1, by omega, fun i hi => ?_, fun q => absurd q (by omega)⟩
        by_cases q : i = n
        · rw [q]; exact hf
        · exact b i (by omega)
theorem low_bit {Y t : Nat} (ht : t < 32) (hY : Y < 2 ^ 32) (h0 : ∀ i, i < t → Y.testBit i = false) (h1 : Y.testBit t = true) : Y &&& (2 ^ 32 - Y) = 2 ^ t := by
  have hp : 0 < (2 : Nat) ^ t := Nat.two_pow_pos t
  have m0 : Y % 2 ^ t = 0 := by
    apply Nat.eq_of_testBit_eq
    intro i
    rw [Nat.testBit_mod_two_pow, Nat.zero_testBit]
    by_cases q : i < t
    · rw [h0 i q, Bool.and_false]
    · rw [decide_eq_false q, Bool.false_and]
  have m1 : Y / 2 ^ t % 2 = 1 := by
    rw [Nat.testBit_eq_decide_div_mod_eq] at h1
    exact of_decide_eq_true h1
  generalize ha : Y / 2 ^ t / 2 = a
  have hq : Y / 2 ^ t = 2 * a + 1 := by omega
  have eY : Y = 2 ^ t * (2 * a + 1) := by
    have := Nat.div_add_mod Y (2 ^ t)
    rw [m0, hq] at this
    omega
  have e32 : (2 : Nat) ^ 32 = 2 ^ t * (2 * 2 ^ (31 - t)) := by
    rw [← Nat.mul_assoc, ← Nat.pow_succ, ← Nat.pow_add, show t + 1 + (31 - t) = 32 by omega]
  have hb : a < 2 ^ (31 - t) := by
    have q : 2 ^ t * (2 * a + 1) < 2 ^ t * (2 * 2 ^ (31 - t)) := by rw [← eY, ← e32]; exact hY
    have := Nat.lt_of_mul_lt_mul_left q
    omega
  have eZ : 2 ^ 32 - Y = 2 ^ t * (2 * (2 ^ (31 - t) - (a + 1)) + 1) := by
    have : 2 ^ t * (2 * a + 1) + 2 ^ t * (2 * (2 ^ (31 - t) - (a + 1)) + 1) = 2 ^ 32 := by
      rw [← Nat.mul_add, e32]
      congr 1
      omega
    rw [← eY] at this
    omega
  apply Nat.eq_of_testBit_eq
  intro i
  rw [eZ, eY, Nat.testBit_and, Nat.testBit_two_pow_mul, Nat.testBit_two_pow_mul, Nat.testBit_two_pow]
  by_cases q : i < t
  · rw [decide_eq_false (show ¬ i ≥ t by omega), Bool.false_and, Bool.false_and, decide_eq_false (show ¬ t = i by omega)]
  · rw [decide_eq_true (show i ≥ t by omega), Bool.true_and, Bool.true_and]
    by_cases e : t = i
    · rw [decide_eq_true e, show i - t = 0 by omega, Nat.testBit_zero, Nat.testBit_zero, decide_eq_true (show (2 * a + 1) % 2 = 1 by omega), decide_eq_true (show (2 * (2 ^ (31 - t) - (a + 1)) + 1) % 2 = 1 by omega)]
      rfl
    · rw [decide_eq_false e, show i - t = (i - t - 1) + 1 by omega, Nat.testBit_add_one, Nat.testBit_add_one, show (2 * a + 1) / 2 = a by omega, show (2 * (2 ^ (31 - t) - (a + 1)) + 1) / 2 = 2 ^ (31 - t) - (a + 1) by omega, Nat.testBit_two_pow_sub_succ hb]
      cases a.testBit (i - t - 1)
      · rfl
      · rw [Bool.not_true, Bool.and_false, Bool.and_false]
theorem i32_toN (x : Int32) : x = Int32.ofNat x.toBitVec.toNat := by
  apply Int32.toBitVec_inj.mp
  show x.toBitVec = BitVec.ofNat 32 x.toBitVec.toNat
  rw [BitVec.ofNat_toNat, BitVec.setWidth_eq]
theorem i32_neg_nat {Y : Nat} (hY : Y ≤ 2 ^ 32) : -(Int32.ofNat Y) = Int32.ofNat (2 ^ 32 - Y) := by
  apply Int32.toBitVec_inj.mp
  rw [Int32.toBitVec_neg]
  show -(BitVec.ofNat 32 Y) = BitVec.ofNat 32 (2 ^ 32 - Y)
  apply BitVec.eq_of_toNat_eq
  rw [BitVec.toNat_neg, BitVec.toNat_ofNat, BitVec.toNat_ofNat]
  by_cases h : Y = 2 ^ 32
  · rw [h]
  · rw [Nat.mod_eq_of_lt (show Y < 2 ^ 32 by omega)]
theorem low_eq (u : Int32) : ((u ^^^ (-1 : Int32)) &&& (-(u ^^^ (-1 : Int32)))) - (1 : Int32) = rlw u 32 0 0 := by
  obtain ⟨t, ht, h1, h2⟩ := trail (bt u) 32
  have er : rlw u 32 0 0 = Int32.ofNat (2 ^ t - 1) := rlw_t ht h1 h2 32 0 (by omega) (by omega)
  rw [er]
  by_cases e : t = 32
  · have eu : u = -1 := bt_ext (fun i hi => by rw [h1 i (by omega), bt_m1 hi])
    rw [eu, e]
    decide
  · have hbit : ∀ i, i < 32 → (u ^^^ (-1 : Int32)).toBitVec.toNat.testBit i = !bt u i := fun i hi => by
      rw [BitVec.testBit_toNat]
      have : bt (u ^^^ (-1 : Int32)) i = !bt u i := by rw [bt_xor, bt_m1 hi]; cases bt u i <;> rfl
      exact this
    have hY : (u ^^^ (-1 : Int32)).toBitVec.toNat < 2 ^ 32 := BitVec.isLt _
    have hl := low_bit (show t < 32 by omega) hY (fun i hi => by rw [hbit i (by omega), h1 i hi]; rfl) (by rw [hbit t (by omega), h2 (by omega)]; rfl)
    have ey := i32_toN (u ^^^ (-1 : Int32))
    generalize (u ^^^ (-1 : Int32)).toBitVec.toNat = Y at *
    rw [ey, i32_neg_nat (by omega), i32_ofNat_and, hl]
    exact i32_subn (c := 1) (Nat.two_pow_pos t)
theorem kLb_eq (k j : KV) : kLb k j = rLow k j := low_eq _
theorem sub_and (v m : Int32) : sub (v &&& m) m := fun i _ h => by rw [bt_and, Bool.and_eq_true] at h; exact h.2
theorem and_sub {v m : Int32} (h : sub v m) : v &&& m = v := bt_ext (fun i hi => by
  have := h i hi
  rw [bt_and]
  revert this
  cases bt v i <;> cases bt m i <;> decide)
theorem R1_B {s : KV} {m v : Int32} (h : R1 s) (hs : sub v m) : R1 (kB s m v) := ⟨h.1, h.2.1, h.2.2.1, h.2.2.2.1, hs⟩
theorem R1_Kn {s : KV} {m v : Int32} (h : R1 s) : R1 (rKn s m v) := R1_B h (sub_and v m)
theorem R1_U {s : KV} {x y : Int64} (h : R1 s) (hx : (0 : Int) ≤ x.toInt) (hy : y.toInt < 4294967296) : R1 (kU s x y) := ⟨hx, hy, h.2.2.1, h.2.2.2.1, h.2.2.2.2⟩
theorem R1_S {s : KV} {x y : Int64} (h : R1 s) (hx : (-2147483648 : Int) ≤ x.toInt) (hy : y.toInt < 2147483648) : R1 (kS s x y) := ⟨h.1, h.2.1, hx, hy, h.2.2.2.2⟩
theorem isI_iff (x : Int64) : isI x = true ↔ ((-2147483648 : Int) ≤ x.toInt ∧ x.toInt < 2147483648) := by
  unfold isI
  rw [Bool.and_eq_true, decide_eq_true_eq, decide_eq_true_eq, Int64.lt_iff_toInt_lt, Int64.lt_iff_toInt_lt]
  have e1 : (-2147483648 : Int64).toInt = -2147483648 := by decide
  have e2 : (2147483647 : Int64).toInt = 2147483647 := by decide
  rw [e1, e2]
  omega
theorem sgn_eq {s : KV} {x y : Int64} (hxy : x.toInt ≤ y.toInt) : (if isI x = true then (if isI y = true then kS s x y else s) else s) = rbs s x y := by
  have e1 : (-2147483648 : Int64).toInt = -2147483648 := by decide
  have e2 : (2147483648 : Int64).toInt = 2147483648 := by decide
  unfold rbs
  by_cases h1 : x < (-2147483648 : Int64)
  · have q1 := h1
    rw [Int64.lt_iff_toInt_lt, e1] at q1
    rw [if_pos h1, if_neg (fun z => by have := (isI_iff x).mp z; omega)]
  · have q1 := h1
    rw [Int64.lt_iff_toInt_lt, e1] at q1
    rw [if_neg h1]
    by_cases h2 : (2147483648 : Int64) ≤ y
    · have q2 := h2
      rw [Int64.le_iff_toInt_le, e2] at q2
      rw [if_pos h2]
      by_cases z : isI x = true
      · rw [if_pos z, if_neg (fun z => by have := (isI_iff y).mp z; omega)]
      · rw [if_neg z]
    · have q2 := h2
      rw [Int64.le_iff_toInt_le, e2] at q2
      rw [if_neg h2, if_pos ((isI_iff x).mpr (by omega)), if_pos ((isI_iff y).mpr (by omega))]
theorem R1_bs {s : KV} {x y : Int64} (h : R1 s) : R1 (rbs s x y) := by
  have e1 : (-2147483648 : Int64).toInt = -2147483648 := by decide
  have e2 : (2147483648 : Int64).toInt = 2147483648 := by decide
  unfold rbs
  by_cases h1 : x < (-2147483648 : Int64)
  · rw [if_pos h1]; exact h
  · rw [if_neg h1]
    by_cases h2 : (2147483648 : Int64) ≤ y
    · rw [if_pos h2]; exact h
    · rw [if_neg h2]
      rw [Int64.lt_iff_toInt_lt, e1] at h1
      rw [Int64.le_iff_toInt_le, e2] at h2
      exact R1_S h (by omega) (by omega)

section OP
variable {k j : KV}
theorem kOp_e1 : kOp 1 k j = oSum k j kNothing := by
  unfold kOp oAll
  rw [if_pos rfl]
theorem kOp_e2 : kOp 2 k j = oDif k j kNothing := by
  unfold kOp oAll
  rw [if_neg (by decide), if_pos rfl]
theorem kOp_e3 : kOp 3 k j = oPro k j kNothing := by
  unfold kOp oAll
  rw [if_neg (by decide), if_neg (by decide), if_pos rfl]
theorem kOp_e4 : kOp 4 k j = oAnd k j kNothing := by
  unfold kOp oAll
  rw [if_neg (by decide), if_neg (by decide), if_neg (by decide), if_pos rfl]
theorem kOp_e5 : kOp 5 k j = oOr k j kNothing := by
  unfold kOp oAll
  rw [if_neg (by decide), if_neg (by decide), if_neg (by decide), if_neg (by decide), if_pos rfl]
theorem kOp_e6 : kOp 6 k j = oXor k j kNothing := by
  unfold kOp oAll
  rw [if_neg (by decide), if_neg (by decide), if_neg (by decide), if_neg (by decide), if_neg (by decide), if_pos rfl]
theorem kOp_e7 : kOp 7 k j = oShi 7 k j kNothing := by
  unfold kOp oAll
  rw [if_neg (by decide), if_neg (by decide), if_neg (by decide), if_neg (by decide), if_neg (by decide), if_neg (by decide), if_pos rfl]
theorem kOp_e8 : kOp 8 k j = oShi 8 k j kNothing := by
  unfold kOp oAll
  rw [if_neg (by decide), if_neg (by decide), if_neg (by decide), if_neg (by decide), if_neg (by decide), if_neg (by decide), if_neg (by decide), if_pos rfl]
theorem kOp_e9 : kOp 9 k j = oShi 9 k j kNothing := by
  unfold kOp oAll
  rw [if_neg (by decide), if_neg (by decide), if_neg (by decide), if_neg (by decide), if_neg (by decide), if_neg (by decide), if_neg (by decide), if_neg (by decide), if_pos rfl]
theorem kOp_e10 : kOp 10 k j = oQuo k j kNothing := by
  unfold kOp oAll
  rw [if_neg (by decide), if_neg (by decide), if_neg (by decide), if_neg (by decide), if_neg (by decide), if_neg (by decide), if_neg (by decide), if_neg (by decide), if_neg (by decide), if_pos rfl]
theorem kOp_e11 : kOp 11 k j = oRes k j kNothing := by
  unfold kOp oAll
  rw [if_neg (by decide), if_neg (by decide), if_neg (by decide), if_neg (by decide), if_neg (by decide), if_neg (by decide), if_neg (by decide), if_neg (by decide), if_neg (by decide), if_neg (by decide), if_pos rfl]
theorem rBit_e1 (s : KV) : rBit 1 k j s = rKn s (rLow k j) (k.2.2.1 + j.2.2.1) := by
  unfold rBit
  rw [if_pos rfl]
theorem rBit_e2 (s : KV) : rBit 2 k j s = rKn s (rLow k j) (k.2.2.1 - j.2.2.1) := by
  unfold rBit
  rw [if_neg (by decide), if_pos rfl]
theorem rBit_e3 (s : KV) : rBit 3 k j s = rKn s (rLow k j) (k.2.2.1 * j.2.2.1) := by
  unfold rBit
  rw [if_neg (by decide), if_neg (by decide), if_pos rfl]
theorem rBit_e4 (s : KV) : rBit 4 k j s = rKn s (((k.2.1 &&& j.2.1) ||| (k.2.1 &&& (k.2.2.1 ^^^ (-1 : Int32)))) ||| (j.2.1 &&& (j.2.2.1 ^^^ (-1 : Int32)))) (k.2.2.1 &&& j.2.2.1) := by
  unfold rBit
  rw [if_neg (by decide), if_neg (by decide), if_neg (by decide), if_pos rfl]
theorem rBit_e5 (s : KV) : rBit 5 k j s = rKn s (((k.2.1 &&& j.2.1) ||| k.2.2.1) ||| j.2.2.1) (k.2.2.1 ||| j.2.2.1) := by
  unfold rBit
  rw [if_neg (by decide), if_neg (by decide), if_neg (by decide), if_neg (by decide), if_pos rfl]
theorem rBit_e6 (s : KV) : rBit 6 k j s = rKn s (k.2.1 &&& j.2.1) (k.2.2.1 ^^^ j.2.2.1) := by
  unfold rBit
  rw [if_neg (by decide), if_neg (by decide), if_neg (by decide), if_neg (by decide), if_neg (by decide), if_pos rfl]
theorem rBit_e7 (s : KV) : rBit 7 k j s = if kExact j = true then rSh 7 k j s else s := by
  unfold rBit
  rw [if_neg (by decide), if_neg (by decide), if_neg (by decide), if_neg (by decide), if_neg (by decide), if_neg (by decide), if_neg (by decide)]
theorem rBit_e8 (s : KV) : rBit 8 k j s = if kExact j = true then rSh 8 k j s else s := by
  unfold rBit
  rw [if_neg (by decide), if_neg (by decide), if_neg (by decide), if_neg (by decide), if_neg (by decide), if_neg (by decide), if_neg (by decide)]
theorem rBit_e9 (s : KV) : rBit 9 k j s = if kExact j = true then rSh 9 k j s else s := by
  unfold rBit
  rw [if_neg (by decide), if_neg (by decide), if_neg (by decide), if_neg (by decide), if_neg (by decide), if_neg (by decide), if_neg (by decide)]
theorem rBit_e10 (s : KV) : rBit 10 k j s = s := by
  unfold rBit
  rw [if_neg (by decide), if_neg (by decide), if_neg (by decide), if_neg (by decide), if_neg (by decide), if_neg (by decide), if_pos (by decide)]
theorem rBit_e11 (s : KV) : rBit 11 k j s = s := by
  unfold rBit
  rw [if_neg (by decide), if_neg (by decide), if_neg (by decide), if_neg (by decide), if_neg (by decide), if_neg (by decide), if_pos (by decide)]
theorem rBo_e1 (s : KV) : rBo 1 k j s = rbs (if (4294967295 : Int64) < k.2.2.2.2.1 + j.2.2.2.2.1 then s else kU s (k.2.2.2.1 + j.2.2.2.1) (k.2.2.2.2.1 + j.2.2.2.2.1)) (k.2.2.2.2.2.1 + j.2.2.2.2.2.1) (k.2.2.2.2.2.2.1 + j.2.2.2.2.2.2.1) := by
  unfold rBo
  rw [if_pos rfl]
theorem rBo_e2 (s : KV) : rBo 2 k j s = rbs (if k.2.2.2.1 < j.2.2.2.2.1 then s else kU s (k.2.2.2.1 - j.2.2.2.2.1) (k.2.2.2.2.1 - j.2.2.2.1)) (k.2.2.2.2.2.1 - j.2.2.2.2.2.2.1) (k.2.2.2.2.2.2.1 - j.2.2.2.2.2.1) := by
  unfold rBo
  rw [if_neg (by decide), if_pos rfl]
theorem rBo_e3 (s : KV) : rBo 3 k j s = (if k.2.2.2.2.1 = 0 then kU s (k.2.2.2.1 * j.2.2.2.1) (k.2.2.2.2.1 * j.2.2.2.2.1) else if (4294967295 : Int64) / k.2.2.2.2.1 < j.2.2.2.2.1 then s else kU s (k.2.2.2.1 * j.2.2.2.1) (k.2.2.2.2.1 * j.2.2.2.2.1)) := by
  unfold rBo
  rw [if_neg (by decide), if_neg (by decide), if_pos rfl]
theorem rBo_e4 (s : KV) : rBo 4 k j s = kU s s.2.2.2.1 (if j.2.2.2.2.1 < k.2.2.2.2.1 then j.2.2.2.2.1 else k.2.2.2.2.1) := by
  unfold rBo
  rw [if_neg (by decide), if_neg (by decide), if_neg (by decide), if_pos rfl]
theorem rBo_e5 (s : KV) : rBo 5 k j s = kU s (if j.2.2.2.1 < k.2.2.2.1 then k.2.2.2.1 else j.2.2.2.1) s.2.2.2.2.1 := by
  unfold rBo
  rw [if_neg (by decide), if_neg (by decide), if_neg (by decide), if_neg (by decide), if_pos rfl]
theorem rBo_e6 (s : KV) : rBo 6 k j s = s := by
  unfold rBo
  rw [if_neg (by decide), if_neg (by decide), if_neg (by decide), if_neg (by decide), if_neg (by decide), if_neg (fun h => absurd h.1 (by decide)), if_neg (fun h => absurd h.1 (by decide)), if_neg (by decide), if_neg (by decide)]
theorem rBo_e7 (s : KV) : rBo 7 k j s = s := by
  unfold rBo
  rw [if_neg (by decide), if_neg (by decide), if_neg (by decide), if_neg (by decide), if_neg (by decide), if_neg (fun h => absurd h.1 (by decide)), if_neg (fun h => absurd h.1 (by decide)), if_neg (by decide), if_neg (by decide)]
theorem rBo_e8 (s : KV) : rBo 8 k j s = if kExact j = true then kU s (k.2.2.2.1 >>> ((j.2.2.2.1.toInt32 &&& 31).toInt64 &&& 63)) (k.2.2.2.2.1 >>> ((j.2.2.2.1.toInt32 &&& 31).toInt64 &&& 63)) else s := by
  unfold rBo
  rw [if_neg (by decide), if_neg (by decide), if_neg (by decide), if_neg (by decide), if_neg (by decide)]
  by_cases h : kExact j = true
  · rw [if_pos ⟨rfl, h⟩, if_pos h]
  · rw [if_neg (fun z => h z.2), if_neg (fun z => h z.2), if_neg (by decide), if_neg (by decide), if_neg h]
theorem rBo_e9 (s : KV) : rBo 9 k j s = if kExact j = true then rbs s (k.2.2.2.2.2.1 >>> ((j.2.2.2.1.toInt32 &&& 31).toInt64 &&& 63)) (k.2.2.2.2.2.2.1 >>> ((j.2.2.2.1.toInt32 &&& 31).toInt64 &&& 63)) else s := by
  unfold rBo
  rw [if_neg (by decide), if_neg (by decide), if_neg (by decide), if_neg (by decide), if_neg (by decide), if_neg (fun h => absurd h.1 (by decide))]
  by_cases h : kExact j = true
  · rw [if_pos ⟨rfl, h⟩, if_pos h]
  · rw [if_neg (fun z => h z.2), if_neg (by decide), if_neg (by decide), if_neg h]
theorem rBo_e10 (s : KV) : rBo 10 k j s = kU s (k.2.2.2.1 / j.2.2.2.2.1) (k.2.2.2.2.1 / j.2.2.2.1) := by
  unfold rBo
  rw [if_neg (by decide), if_neg (by decide), if_neg (by decide), if_neg (by decide), if_neg (by decide), if_neg (fun h => absurd h.1 (by decide)), if_neg (fun h => absurd h.1 (by decide)), if_pos rfl]
theorem rBo_e11 (s : KV) : rBo 11 k j s = kU s 0 (if j.2.2.2.2.1 - 1 < k.2.2.2.2.1 then j.2.2.2.2.1 - 1 else k.2.2.2.2.1) := by
  unfold rBo
  rw [if_neg (by decide), if_neg (by decide), if_neg (by decide), if_neg (by decide), if_neg (by decide), if_neg (fun h => absurd h.1 (by decide)), if_neg (fun h => absurd h.1 (by decide)), if_neg (by decide), if_pos rfl]
theorem c32 : (4294967295 : Int64).toInt = 4294967295 := by decide
theorem op_1 (hk : GG k) (hj : GG j) : kOp 1 k j = os4 k j (rOp 1 k j) ∧ R1 (rOp 1 k j) := by
  obtain ⟨k1, ⟨k2, k3, k4, k5, k6⟩, k7, k8⟩ := hk
  obtain ⟨j1, ⟨j2, j3, j4, j5, j6⟩, j7, j8⟩ := hj
  have a1 := i64_add (x := k.2.2.2.2.1) (y := j.2.2.2.2.1) (by omega) (by omega)
  have a2 := i64_add (x := k.2.2.2.1) (y := j.2.2.2.1) (by omega) (by omega)
  have a3 := i64_add (x := k.2.2.2.2.2.1) (y := j.2.2.2.2.2.1) (by omega) (by omega)
  have a4 := i64_add (x := k.2.2.2.2.2.2.1) (y := j.2.2.2.2.2.2.1) (by omega) (by omega)
  unfold rOp
  rw [kOp_e1, rBit_e1, rBo_e1]
  unfold oSum os3
  rw [kLb_eq, sgn_eq (by omega)]
  refine ⟨rfl, R1_bs ?_⟩
  by_cases h : (4294967295 : Int64) < k.2.2.2.2.1 + j.2.2.2.2.1
  · rw [if_pos h]; exact R1_Kn R1_nothing
  · rw [if_neg h]
    rw [Int64.lt_iff_toInt_lt, c32] at h
    exact R1_U (R1_Kn R1_nothing) (by omega) (by omega)
theorem op_2 (hk : GG k) (hj : GG j) : kOp 2 k j = rOp 2 k j ∧ R1 (rOp 2 k j) := by
  obtain ⟨k1, ⟨k2, k3, k4, k5, k6⟩, k7, k8⟩ := hk
  obtain ⟨j1, ⟨j2, j3, j4, j5, j6⟩, j7, j8⟩ := hj
  have a1 := i64_sub (x := k.2.2.2.1) (y := j.2.2.2.2.1) (by omega) (by omega)
  have a2 := i64_sub (x := k.2.2.2.2.1) (y := j.2.2.2.1) (by omega) (by omega)
  have a3 := i64_sub (x := k.2.2.2.2.2.1) (y := j.2.2.2.2.2.2.1) (by omega) (by omega)
  have a4 := i64_sub (x := k.2.2.2.2.2.2.1) (y := j.2.2.2.2.2.1) (by omega) (by omega)
  unfold rOp
  rw [kOp_e2, rBit_e2, rBo_e2]
  unfold oDif od3
  rw [kLb_eq, sgn_eq (by omega)]
  have e : od2 k j (kB kNothing (rLow k j) ((k.2.2.1 - j.2.2.1) &&& rLow k j)) = if k.2.2.2.1 < j.2.2.2.2.1 then rKn kNothing (rLow k j) (k.2.2.1 - j.2.2.1) else kU (rKn kNothing (rLow k j) (k.2.2.1 - j.2.2.1)) (k.2.2.2.1 - j.2.2.2.2.1) (k.2.2.2.2.1 - j.2.2.2.1) := by
    unfold od2
    by_cases h : k.2.2.2.1 < j.2.2.2.2.1
    · rw [if_pos h, if_pos (by rw [Int64.lt_iff_toInt_lt] at h ⊢; rw [a1]; have : (0 : Int64).toInt = 0 := rfl; omega)]; rfl
    · rw [if_neg h, if_neg (by rw [Int64.lt_iff_toInt_lt] at h ⊢; rw [a1]; have : (0 : Int64).toInt = 0 := rfl; omega)]; rfl
  rw [e]
  refine ⟨rfl, R1_bs ?_⟩
  by_cases h : k.2.2.2.1 < j.2.2.2.2.1
  · rw [if_pos h]; exact R1_Kn R1_nothing
  · rw [if_neg h]
    rw [Int64.lt_iff_toInt_lt] at h
    exact R1_U (R1_Kn R1_nothing) (by omega) (by omega)
theorem mul_hi {a c : Nat} (ha : a < 2 ^ 32) (hc : c < 2 ^ 32) : (((Int64.ofNat a * Int64.ofNat c).toUInt64 >>> ((32 : Int32).toInt64.toUInt64 &&& Int64.toUInt64 63)).toInt64 = (0 : Int64)) ↔ a * c < 2 ^ 32 := by
  have hac : a * c < 2 ^ 64 := by
    have := Nat.mul_lt_mul'' ha hc
    rw [← Nat.pow_add] at this
    exact this
  rw [← Int64.ofNat_mul, show ((32 : Int32).toInt64.toUInt64 &&& Int64.toUInt64 63) = UInt64.ofNat 32 by decide]
  have e : ((Int64.ofNat (a * c)).toUInt64 >>> (UInt64.ofNat 32)) = UInt64.ofNat (a * c / 2 ^ 32) := by
    apply UInt64.toNat_inj.mp
    show ((UInt64.ofNat (a * c)) >>> (UInt64.ofNat 32)).toNat = _
    rw [UInt64.toNat_shiftRight, UInt64.toNat_ofNat', Nat.mod_eq_of_lt hac, show (UInt64.ofNat 32).toNat % 64 = 32 by decide, Nat.shiftRight_eq_div_pow, UInt64.toNat_ofNat', Nat.mod_eq_of_lt (show a * c / 2 ^ 32 < 2 ^ 64 by omega)]
  rw [e]
  constructor
  · intro h
    have h2 : UInt64.ofNat (a * c / 2 ^ 32) = 0 := congrArg Int64.toUInt64 h
    have h3 := congrArg UInt64.toNat h2
    rw [UInt64.toNat_ofNat', Nat.mod_eq_of_lt (show a * c / 2 ^ 32 < 2 ^ 64 by omega)] at h3
    have h4 : (0 : UInt64).toNat = 0 := rfl
    rw [h4] at h3
    omega
  · intro h
    rw [show a * c / 2 ^ 32 = 0 by omega]
    rfl
theorem op_3 (hk : GG k) (hj : GG j) : kOp 3 k j = rOp 3 k j ∧ R1 (rOp 3 k j) := by
  obtain ⟨k1, ⟨k2, k3, k4, k5, k6⟩, k7, k8⟩ := hk
  obtain ⟨j1, ⟨j2, j3, j4, j5, j6⟩, j7, j8⟩ := hj
  have ea := i64_nat (show (0 : Int) ≤ k.2.2.2.2.1.toInt by omega)
  have ec := i64_nat (show (0 : Int) ≤ j.2.2.2.2.1.toInt by omega)
  have el := i64_nat k2
  have em := i64_nat j2
  generalize hA : k.2.2.2.2.1.toInt.toNat = a at ea
  generalize hC : j.2.2.2.2.1.toInt.toNat = c at ec
  generalize hL : k.2.2.2.1.toInt.toNat = l at el
  generalize hM : j.2.2.2.1.toInt.toNat = m at em
  have la : a < 2 ^ 32 := by omega
  have lc : c < 2 ^ 32 := by omega
  have lla : l ≤ a := by omega
  have lmc : m ≤ c := by omega
  unfold rOp
  rw [kOp_e3, rBit_e3, rBo_e3]
  unfold oPro op2
  rw [kLb_eq]
  have good : a * c < 2 ^ 32 → R1 (kU (rKn kNothing (rLow k j) (k.2.2.1 * j.2.2.1)) (k.2.2.2.1 * j.2.2.2.1) (k.2.2.2.2.1 * j.2.2.2.2.1)) := fun h => by
    have h2 : l * m ≤ a * c := Nat.mul_le_mul lla lmc
    refine R1_U (R1_Kn R1_nothing) ?_ ?_
    · rw [el, em, ← Int64.ofNat_mul, Int64.toInt_ofNat_of_lt (by omega)]; omega
    · rw [ea, ec, ← Int64.ofNat_mul, Int64.toInt_ofNat_of_lt (by omega)]; omega
  have e : (k.2.2.2.2.1 * j.2.2.2.2.1).toUInt64 >>> ((32 : Int32).toInt64.toUInt64 &&& Int64.toUInt64 63) = (Int64.ofNat a * Int64.ofNat c).toUInt64 >>> ((32 : Int32).toInt64.toUInt64 &&& Int64.toUInt64 63) := by rw [ea, ec]
  rw [e]
  by_cases h0 : k.2.2.2.2.1 = 0
  · have ha0 : a = 0 := by
      have : k.2.2.2.2.1.toInt = 0 := by rw [h0]; rfl
      omega
    have hs : a * c < 2 ^ 32 := by rw [ha0, Nat.zero_mul]; decide
    rw [if_pos h0, if_pos ((mul_hi la lc).mpr hs)]
    exact ⟨rfl, good hs⟩
  · have ha0 : 0 < a := by
      have : k.2.2.2.2.1.toInt ≠ 0 := fun q => h0 (Int64.toInt_inj.mp (by rw [q]; rfl))
      omega
    rw [if_neg h0]
    have ed : (4294967295 : Int64) / k.2.2.2.2.1 = Int64.ofNat (4294967295 / a) := by
      rw [ea, Int64.ofNat_div (by omega) (by omega)]; rfl
    have hd : ((4294967295 : Int64) / k.2.2.2.2.1 < j.2.2.2.2.1) ↔ ¬ a * c < 2 ^ 32 := by
      have hle : 4294967295 / a ≤ 4294967295 := Nat.div_le_self _ _
      rw [ed, ec, Int64.lt_iff_toInt_lt, Int64.toInt_ofNat_of_lt (by omega), Int64.toInt_ofNat_of_lt (by omega)]
      have h5 : 4294967295 / a < c ↔ 4294967295 < c * a := Nat.div_lt_iff_lt_mul ha0
      rw [Nat.mul_comm c a] at h5
      omega
    by_cases hs : a * c < 2 ^ 32
    · rw [if_pos ((mul_hi la lc).mpr hs), if_neg (fun q => hd.mp q hs)]
      exact ⟨rfl, good hs⟩
    · rw [if_neg (fun q => hs ((mul_hi la lc).mp q)), if_pos (hd.mpr hs)]
      exact ⟨rfl, R1_Kn R1_nothing⟩
theorem and_bits {b o c p : Int32} (h1 : sub o b) (h2 : sub p c) : ((o &&& p) ||| (b &&& (o ^^^ (-1 : Int32)))) ||| (c &&& (p ^^^ (-1 : Int32))) = ((b &&& c) ||| (b &&& (o ^^^ (-1 : Int32)))) ||| (c &&& (p ^^^ (-1 : Int32))) := by
  apply bt_ext
  intro i hi
  have q1 := h1 i hi
  have q2 := h2 i hi
  simp only [bt_or, bt_and, bt_xor, bt_m1 hi]
  revert q1 q2
  cases bt o i <;> cases bt b i <;> cases bt p i <;> cases bt c i <;> decide
theorem or_bits {b o c p : Int32} (h1 : sub o b) (h2 : sub p c) : (o ||| p) ||| ((b &&& (o ^^^ (-1 : Int32))) &&& (c &&& (p ^^^ (-1 : Int32)))) = ((b &&& c) ||| o) ||| p := by
  apply bt_ext
  intro i hi
  have q1 := h1 i hi
  have q2 := h2 i hi
  simp only [bt_or, bt_and, bt_xor, bt_m1 hi]
  revert q1 q2
  cases bt o i <;> cases bt b i <;> cases bt p i <;> cases bt c i <;> decide
theorem op_4 (hk : GG k) (hj : GG j) : kOp 4 k j = rOp 4 k j ∧ R1 (rOp 4 k j) := by
  obtain ⟨k1, ⟨k2, k3, k4, k5, k6⟩, k7, k8⟩ := hk
  obtain ⟨j1, ⟨j2, j3, j4, j5, j6⟩, j7, j8⟩ := hj
  unfold rOp
  rw [kOp_e4, rBit_e4, rBo_e4]
  have hs : sub (k.2.2.1 &&& j.2.2.1) (((k.2.1 &&& j.2.1) ||| (k.2.1 &&& (k.2.2.1 ^^^ (-1 : Int32)))) ||| (j.2.1 &&& (j.2.2.1 ^^^ (-1 : Int32)))) := by
    intro i hi q
    rw [bt_and, Bool.and_eq_true] at q
    rw [bt_or, bt_or, bt_and, k6 i hi q.1, j6 i hi q.2]
    rfl
  refine ⟨?_, R1_U (R1_Kn R1_nothing) (show (0 : Int) ≤ (0 : Int64).toInt by decide) (Int.lt_of_le_of_lt (mnr _ _) k3)⟩
  unfold oAnd kZe rKn
  rw [and_bits k6 j6, and_sub hs]
  rfl
theorem op_5 (hk : GG k) (hj : GG j) : kOp 5 k j = rOp 5 k j ∧ R1 (rOp 5 k j) := by
  obtain ⟨k1, ⟨k2, k3, k4, k5, k6⟩, k7, k8⟩ := hk
  obtain ⟨j1, ⟨j2, j3, j4, j5, j6⟩, j7, j8⟩ := hj
  unfold rOp
  rw [kOp_e5, rBit_e5, rBo_e5]
  have hs : sub (k.2.2.1 ||| j.2.2.1) (((k.2.1 &&& j.2.1) ||| k.2.2.1) ||| j.2.2.1) := by
    intro i hi q
    rw [bt_or] at q
    rw [bt_or, bt_or, Bool.or_assoc, q, Bool.or_true]
  refine ⟨?_, R1_U (R1_Kn R1_nothing) (Int.le_trans k2 (by rcases Classical.em (j.2.2.2.1 < k.2.2.2.1) with h | h; · { rw [if_pos h]; exact Int.le_refl _ }; · { rw [if_neg h]; rw [Int64.lt_iff_toInt_lt] at h; omega })) (show (4294967295 : Int64).toInt < 4294967296 by decide)⟩
  unfold oOr kZe rKn
  rw [or_bits k6 j6, and_sub hs]
  rfl
theorem op_6 : kOp 6 k j = rOp 6 k j ∧ R1 (rOp 6 k j) := by
  unfold rOp
  rw [kOp_e6, rBit_e6, rBo_e6]
  exact ⟨rfl, R1_Kn R1_nothing⟩
theorem bt_shl (x n : Int32) (i : Nat) : bt (x <<< n) i = (decide (i < 32) && !decide (i < (n.toBitVec.smod 32).toNat) && bt x (i - (n.toBitVec.smod 32).toNat)) := by
  unfold bt
  rw [Int32.toBitVec_shiftLeft, BitVec.getLsbD_shiftLeft']
theorem bt_asr (x n : Int32) (i : Nat) : bt (x >>> n) i = (!decide (32 ≤ i) && if (n.toBitVec.smod 32).toNat + i < 32 then bt x ((n.toBitVec.smod 32).toNat + i) else bt x 31) := by
  unfold bt
  rw [Int32.toBitVec_shiftRight, BitVec.getLsbD_sshiftRight', BitVec.msb_eq_getLsbD_last]
theorem sub_shl {o b : Int32} (h : sub o b) (n m : Int32) : sub (o <<< n) ((b <<< n) ||| m) := by
  intro i hi q
  rw [bt_shl, Bool.and_eq_true] at q
  rw [bt_or, bt_shl, q.1, h _ (by omega) q.2]
  rfl
theorem sub_asr {o b : Int32} (h : sub o b) (n : Int32) : sub (o >>> n) (b >>> n) := by
  intro i hi q
  rw [bt_asr] at q ⊢
  rw [Bool.and_eq_true] at q
  rw [q.1, Bool.true_and]
  have q2 := q.2
  split at q2
  · rename_i h2
    rw [if_pos h2]; exact h _ h2 q2
  · rename_i h2
    rw [if_neg h2]; exact h 31 (by decide) q2
theorem bt_ush (x n : Int32) (i : Nat) : bt (ush x n) i = bt x (((n.toUInt32 &&& Int32.toUInt32 31).toNat % 32) + i) := by
  unfold bt ush
  show (x.toUInt32 >>> (n.toUInt32 &&& Int32.toUInt32 31)).toBitVec.getLsbD i = _
  rw [UInt32.toBitVec_shiftRight, BitVec.ushiftRight_eq', BitVec.getLsbD_ushiftRight, BitVec.toNat_umod]
  rfl
theorem sub_ush {o b : Int32} (h : sub o b) (n m : Int32) : sub (ush o n) (ush b n ||| m) := by
  intro i hi q
  rw [bt_ush] at q
  have hb : ((n.toUInt32 &&& Int32.toUInt32 31).toNat % 32) + i < 32 := by
    by_cases z : ((n.toUInt32 &&& Int32.toUInt32 31).toNat % 32) + i < 32
    · exact z
    · unfold bt at q
      rw [BitVec.getLsbD_of_ge _ _ (by omega)] at q
      cases q
  rw [bt_or, bt_ush, h _ hb q]
  rfl
theorem n31 (x : Int32) : ∃ n, n < 32 ∧ x &&& 31 = Int32.ofNat n := by
  refine ⟨(x &&& 31).toBitVec.toNat, ?_, i32_toN _⟩
  rw [Int32.toBitVec_and, BitVec.toNat_and]
  exact Nat.lt_of_le_of_lt Nat.and_le_right (by decide)
theorem sh63 : ∀ n, n < 32 → ((((Int32.ofNat n).toInt64 &&& 63).toBitVec).smod 64).toNat = n := by decide
theorem sh63u : ∀ n, n < 32 → ((Int32.ofNat n).toInt64.toUInt64 &&& Int64.toUInt64 63) = UInt64.ofNat n := by decide
theorem asr64 (x : Int64) {n : Nat} (hn : n < 32) : (x >>> ((Int32.ofNat n).toInt64 &&& 63)).toInt = x.toInt / 2 ^ n := by
  show (x >>> ((Int32.ofNat n).toInt64 &&& 63)).toBitVec.toInt = _
  rw [Int64.toBitVec_shiftRight, BitVec.sshiftRight_eq', BitVec.toInt_sshiftRight]
  rw [sh63 n hn]
  rw [Int.shiftRight_eq_div_pow]
  rfl
theorem lsr64 {x : Int64} (h0 : (0 : Int) ≤ x.toInt) {n : Nat} (hn : n < 32) : (ushL x (Int32.ofNat n)).toInt = x.toInt / 2 ^ n := by
  have ex := i64_nat h0
  have b := x.toInt_lt
  generalize hA : x.toInt.toNat = a at ex
  unfold ushL
  have e : (x.toUInt64 >>> ((Int32.ofNat n).toInt64.toUInt64 &&& Int64.toUInt64 63)) = UInt64.ofNat (a / 2 ^ n) := by
    rw [sh63u n hn, ex]
    apply UInt64.toNat_inj.mp
    show ((UInt64.ofNat a) >>> (UInt64.ofNat n)).toNat = _
    rw [UInt64.toNat_shiftRight, UInt64.toNat_ofNat', UInt64.toNat_ofNat', UInt64.toNat_ofNat', Nat.mod_eq_of_lt (show a < 2 ^ 64 by omega), Nat.mod_eq_of_lt (show n < 2 ^ 64 by omega), Nat.mod_eq_of_lt (show n < 64 by omega), Nat.shiftRight_eq_div_pow, Nat.mod_eq_of_lt (Nat.lt_of_le_of_lt (Nat.div_le_self _ _) (show a < 2 ^ 64 by omega))]
  rw [e]
  show (Int64.ofNat (a / 2 ^ n)).toInt = _
  have hle : a / 2 ^ n ≤ a := Nat.div_le_self _ _
  rw [Int64.toInt_ofNat_of_lt (by omega)]
  have : x.toInt = (a : Int) := by omega
  rw [this, Int.natCast_ediv]
  simp
theorem div_range {x lo hi : Int} {n : Nat} (h0 : lo ≤ 0) (h1 : 0 ≤ hi) (hl : lo ≤ x) (hh : x ≤ hi) : lo ≤ x / 2 ^ n ∧ x / 2 ^ n ≤ hi := by
  have hp : (0 : Int) < 2 ^ n := Int.pow_pos (by decide)
  have hp1 : (1 : Int) ≤ 2 ^ n := hp
  constructor
  · apply (Int.le_ediv_iff_mul_le hp).mpr
    have : lo * 2 ^ n ≤ lo * 1 := Int.mul_le_mul_of_nonpos_left h0 hp1
    omega
  · by_cases hx : 0 ≤ x
    · exact Int.le_trans (Int.ediv_le_self _ hx) hh
    · have : x / 2 ^ n < 0 := Int.ediv_neg_of_neg_of_pos (by omega) hp
      omega
theorem op_7 (hk : GG k) : kOp 7 k j = rOp 7 k j ∧ R1 (rOp 7 k j) := by
  obtain ⟨k1, ⟨k2, k3, k4, k5, k6⟩, k7, k8⟩ := hk
  unfold rOp
  rw [kOp_e7, rBit_e7, rBo_e7]
  unfold oShi kExact
  by_cases h : j.2.2.2.1 = j.2.2.2.2.1
  · rw [if_pos h, if_pos rfl, decide_eq_true h, if_pos rfl]
    unfold rSh oLef
    rw [if_pos rfl]
    unfold rKn
    rw [and_sub (sub_shl k6 _ _)]
    exact ⟨rfl, R1_B R1_nothing (sub_shl k6 _ _)⟩
  · rw [if_neg h, decide_eq_false h, if_neg (by decide)]
    exact ⟨rfl, R1_nothing⟩
theorem op_8 (hk : GG k) : kOp 8 k j = rOp 8 k j ∧ R1 (rOp 8 k j) := by
  obtain ⟨k1, ⟨k2, k3, k4, k5, k6⟩, k7, k8⟩ := hk
  obtain ⟨n, hn, en⟩ := n31 j.2.2.2.1.toInt32
  unfold rOp
  rw [kOp_e8, rBit_e8, rBo_e8]
  unfold oShi kExact
  by_cases h : j.2.2.2.1 = j.2.2.2.2.1
  · rw [if_pos h, if_neg (by decide), if_pos rfl, decide_eq_true h, if_pos rfl, if_pos rfl]
    unfold rSh oRig
    rw [if_neg (by decide), if_pos rfl]
    unfold rKn
    rw [and_sub (sub_ush k6 _ _), en]
    have e1 : ushL k.2.2.2.1 (Int32.ofNat n) = k.2.2.2.1 >>> ((Int32.ofNat n).toInt64 &&& 63) := Int64.toInt_inj.mp (by rw [lsr64 k2 hn, asr64 _ hn])
    have e2 : ushL k.2.2.2.2.1 (Int32.ofNat n) = k.2.2.2.2.1 >>> ((Int32.ofNat n).toInt64 &&& 63) := Int64.toInt_inj.mp (by rw [lsr64 (by omega) hn, asr64 _ hn])
    rw [e1, e2]
    refine ⟨rfl, R1_U (R1_B R1_nothing (sub_ush k6 _ _)) ?_ ?_⟩
    · rw [asr64 _ hn]
      exact (div_range (lo := 0) (hi := 4294967295) (by omega) (by omega) k2 (by omega)).1
    · rw [asr64 _ hn]
      have := (div_range (lo := 0) (hi := 4294967295) (n := n) (x := k.2.2.2.2.1.toInt) (by omega) (by omega) (by omega) (by omega)).2
      omega
  · rw [if_neg h, decide_eq_false h, if_neg (by decide), if_neg (by decide)]
    exact ⟨rfl, R1_nothing⟩
theorem op_9 (hk : GG k) : kOp 9 k j = rOp 9 k j ∧ R1 (rOp 9 k j) := by
  obtain ⟨k1, ⟨k2, k3, k4, k5, k6⟩, k7, k8⟩ := hk
  obtain ⟨n, hn, en⟩ := n31 j.2.2.2.1.toInt32
  unfold rOp
  rw [kOp_e9, rBit_e9, rBo_e9]
  unfold oShi kExact
  by_cases h : j.2.2.2.1 = j.2.2.2.2.1
  · rw [if_pos h, if_neg (by decide), if_neg (by decide), decide_eq_true h, if_pos rfl, if_pos rfl]
    unfold rSh oSig
    rw [if_neg (by decide), if_neg (by decide)]
    unfold rKn
    rw [Int32.or_zero, and_sub (sub_asr k6 _), en]
    have r1 := div_range (lo := -2147483648) (hi := 2147483647) (n := n) (x := k.2.2.2.2.2.1.toInt) (by omega) (by omega) (by omega) (by omega)
    have r2 := div_range (lo := -2147483648) (hi := 2147483647) (n := n) (x := k.2.2.2.2.2.2.1.toInt) (by omega) (by omega) (by omega) (by omega)
    rw [← asr64 _ hn] at r1 r2
    have e1 : (-2147483648 : Int64).toInt = -2147483648 := by decide
    have e2 : (2147483648 : Int64).toInt = 2147483648 := by decide
    unfold rbs
    rw [if_neg (by rw [Int64.lt_iff_toInt_lt, e1]; omega), if_neg (by rw [Int64.le_iff_toInt_le, e2]; omega)]
    exact ⟨rfl, R1_S (R1_B R1_nothing (sub_asr k6 _)) (by omega) (by omega)⟩
  · rw [if_neg h, decide_eq_false h, if_neg (by decide), if_neg (by decide)]
    exact ⟨rfl, R1_nothing⟩
theorem op_10 (hk : GG k) (hj : GG j) (h : ¬ j.2.2.2.1 = 0) : kOp 10 k j = rOp 10 k j ∧ R1 (rOp 10 k j) := by
  obtain ⟨k1, ⟨k2, k3, k4, k5, k6⟩, k7, k8⟩ := hk
  obtain ⟨j1, ⟨j2, j3, j4, j5, j6⟩, j7, j8⟩ := hj
  have z0 : (0 : Int64).toInt = 0 := rfl
  have hp : 0 < j.2.2.2.1.toInt := by
    have : j.2.2.2.1.toInt ≠ 0 := fun q => h (Int64.toInt_inj.mp (by rw [q]; rfl))
    omega
  unfold rOp
  rw [kOp_e10, rBit_e10, rBo_e10]
  unfold oQuo
  rw [if_neg (by rw [Int64.le_iff_toInt_le, z0]; omega), if_neg (by rw [Int64.le_iff_toInt_le, z0]; omega)]
  have n1 : ∀ x : Int64, 0 ≤ x.toInt → x ≠ Int64.minValue := fun x hx q => by
    rw [q] at hx
    exact absurd hx (by decide)
  refine ⟨rfl, R1_U R1_nothing ?_ ?_⟩
  · rw [Int64.toInt_div_of_ne_left _ _ (n1 _ k2), Int.tdiv_eq_ediv_of_nonneg k2]
    exact Int.ediv_nonneg k2 (by omega)
  · rw [Int64.toInt_div_of_ne_left _ _ (n1 _ (by omega)), Int.tdiv_eq_ediv_of_nonneg (by omega)]
    have := Int.ediv_le_self (b := j.2.2.2.1.toInt) (show 0 ≤ k.2.2.2.2.1.toInt by omega)
    omega
theorem op_11 (hk : GG k) (hj : GG j) (h : ¬ j.2.2.2.1 = 0) : kOp 11 k j = rOp 11 k j ∧ R1 (rOp 11 k j) := by
  obtain ⟨k1, ⟨k2, k3, k4, k5, k6⟩, k7, k8⟩ := hk
  obtain ⟨j1, ⟨j2, j3, j4, j5, j6⟩, j7, j8⟩ := hj
  have z0 : (0 : Int64).toInt = 0 := rfl
  have hp : 0 < j.2.2.2.1.toInt := by
    have : j.2.2.2.1.toInt ≠ 0 := fun q => h (Int64.toInt_inj.mp (by rw [q]; rfl))
    omega
  unfold rOp
  rw [kOp_e11, rBit_e11, rBo_e11]
  unfold oRes
  rw [if_neg (by rw [Int64.le_iff_toInt_le, z0]; omega)]
  refine ⟨rfl, R1_U R1_nothing (by decide) ?_⟩
  exact Int.lt_of_le_of_lt (mnr _ _) k3
end OP
theorem op_eq {k j : KV} {op : Int32} (hk : GG k) (hj : GG j) (h : op = 1 ∨ op = 2 ∨ op = 3 ∨ op = 4 ∨ op = 5 ∨ op = 6 ∨ op = 7 ∨ op = 8 ∨ op = 9 ∨ op = 10 ∨ op = 11) (h0 : op = 10 ∨ op = 11 → ¬ j.2.2.2.1 = 0) : tgo (kOp op k j) = rtgo (rOp op k j) ∧ (tgo (kOp op k j) = true → tg (kOp op k j) = rSa op k j (rtg (rOp op k j)) ∧ GG (tg (kOp op k j))) := by
  have gen : ¬ op = 1 → kOp op k j = rOp op k j → R1 (rOp op k j) → tgo (kOp op k j) = rtgo (rOp op k j) ∧ (tgo (kOp op k j) = true → tg (kOp op k j) = rSa op k j (rtg (rOp op k j)) ∧ GG (tg (kOp op k j))) := fun n1 e r => by
    have q := tg_eq r (rOp_1 op k j)
    rw [e]
    unfold rSa
    rw [if_neg n1]
    exact q
  rcases h with rfl | rfl | rfl | rfl | rfl | rfl | rfl | rfl | rfl | rfl | rfl
  · obtain ⟨e, r⟩ := op_1 hk hj
    have q := tg_eq r (rOp_1 1 k j)
    rw [e]
    unfold rSa os4 kExact
    rw [if_pos rfl]
    by_cases h1 : j.2.2.2.1 = j.2.2.2.2.1
    · rw [if_pos h1, decide_eq_true h1, if_pos rfl]
      by_cases h2 : (20 : Int64) < j.2.2.2.1
      · rw [if_pos h2, if_pos h2]; exact q
      · rw [if_neg h2, if_neg h2]
        by_cases h3 : (4294967295 : Int64) < k.2.2.2.2.1 + j.2.2.2.1
        · rw [if_pos h3, if_pos h3]; exact q
        · rw [if_neg h3, if_neg h3]
          have en : (if k.2.2.2.2.2.2.2 - j.2.2.2.1.toInt32 < 0 then (0 : Int32) else k.2.2.2.2.2.2.2 - j.2.2.2.1.toInt32) = if k.2.2.2.2.2.2.2 - j.2.2.2.1.toInt32 ≤ 0 then 0 else k.2.2.2.2.2.2.2 - j.2.2.2.1.toInt32 := by
            generalize k.2.2.2.2.2.2.2 - j.2.2.2.1.toInt32 = z
            by_cases z0 : z ≤ 0
            · rw [if_pos z0]
              by_cases z1 : z < 0
              · rw [if_pos z1]
              · rw [if_neg z1]; exact i32_eq_of z0 z1
            · rw [if_neg z0, if_neg (fun z1 => z0 (Int32.le_of_lt z1))]
          rw [en]
          have t := tg_kF (rOp 1 k j) (if k.2.2.2.2.2.2.2 - j.2.2.2.1.toInt32 ≤ 0 then 0 else k.2.2.2.2.2.2.2 - j.2.2.2.1.toInt32)
          rw [t.1, t.2]
          exact ⟨q.1, fun z => ⟨by rw [(q.2 z).1], GG_F (q.2 z).2 _⟩⟩
    · rw [if_neg h1, decide_eq_false h1, if_neg (by decide)]; exact q
  · exact gen (by decide) (op_2 hk hj).1 (op_2 hk hj).2
  · exact gen (by decide) (op_3 hk hj).1 (op_3 hk hj).2
  · exact gen (by decide) (op_4 hk hj).1 (op_4 hk hj).2
  · exact gen (by decide) (op_5 hk hj).1 (op_5 hk hj).2
  · exact gen (by decide) op_6.1 op_6.2
  · exact gen (by decide) (op_7 hk).1 (op_7 hk).2
  · exact gen (by decide) (op_8 hk).1 (op_8 hk).2
  · exact gen (by decide) (op_9 hk).1 (op_9 hk).2
  · exact gen (by decide) (op_10 hk hj (h0 (Or.inl rfl))).1 (op_10 hk hj (h0 (Or.inl rfl))).2
  · exact gen (by decide) (op_11 hk hj (h0 (Or.inr rfl))).1 (op_11 hk hj (h0 (Or.inr rfl))).2
