/-! Bits of an int; the mask of the common leading bits is one by both ways of reckoning. -/
def bt (x : Int32) (i : Nat) : Bool := x.toBitVec.getLsbD i
theorem bt_ext {x y : Int32} (h : ∀ i, i < 32 → bt x i = bt y i) : x = y := Int32.toBitVec_inj.mp (BitVec.eq_of_getLsbD_eq (fun i hi => h i hi))
theorem bt_and (x y : Int32) (i : Nat) : bt (x &&& y) i = (bt x i && bt y i) := by unfold bt; rw [Int32.toBitVec_and, BitVec.getLsbD_and]
theorem bt_or (x y : Int32) (i : Nat) : bt (x ||| y) i = (bt x i || bt y i) := by unfold bt; rw [Int32.toBitVec_or, BitVec.getLsbD_or]
theorem bt_xor (x y : Int32) (i : Nat) : bt (x ^^^ y) i = (bt x i ^^ bt y i) := by unfold bt; rw [Int32.toBitVec_xor, BitVec.getLsbD_xor]
theorem bt_m1 {i : Nat} (h : i < 32) : bt (-1) i = true := by
  have : ∀ i, i < 32 → bt (-1) i = true := by decide
  exact this i h
theorem bt_0 (i : Nat) : bt 0 i = false := by
  unfold bt
  rw [Int32.toBitVec_zero, BitVec.getLsbD_zero]
/-- every one of o is known in b -/
def sub (o b : Int32) : Prop := ∀ i, i < 32 → bt o i = true → bt b i = true
theorem i32_ofNat_and (u v : Nat) : Int32.ofNat u &&& Int32.ofNat v = Int32.ofNat (u &&& v) := by
  apply Int32.toBitVec_inj.mp
  rw [Int32.toBitVec_and]
  show BitVec.ofNat 32 u &&& BitVec.ofNat 32 v = BitVec.ofNat 32 (u &&& v)
  apply BitVec.eq_of_toNat_eq
  rw [BitVec.toNat_and, BitVec.toNat_ofNat, BitVec.toNat_ofNat, BitVec.toNat_ofNat, Nat.and_mod_two_pow]
theorem i32_ofNat_0 {u : Nat} (h : u < 2 ^ 32) : (Int32.ofNat u = 0) ↔ u = 0 := by
  constructor
  · intro q
    have q2 := congrArg (fun z : Int32 => z.toBitVec.toNat) q
    have q3 : u % 2 ^ 32 = 0 := q2
    rw [Nat.mod_eq_of_lt h] at q3
    exact q3
  · intro q
    rw [q]; rfl
theorem and_hi {u k : Nat} (hu : u < 2 ^ 32) (hk : k ≤ 32) : (u &&& (2 ^ 32 - 2 ^ k) = 0) ↔ u < 2 ^ k := by
  have e : (2 : Nat) ^ 32 - 2 ^ k = 2 ^ 32 - ((2 ^ k - 1) + 1) := by
    have : 0 < (2 : Nat) ^ k := Nat.two_pow_pos k
    omega
  have hb : ∀ i, (2 ^ 32 - 2 ^ k).testBit i = (decide (i < 32) && !decide (i < k)) := fun i => by
    have hl : 2 ^ k - 1 < 2 ^ 32 := by
      have h1 : (2 : Nat) ^ k ≤ 2 ^ 32 := Nat.pow_le_pow_right (by decide) hk
      have h2 : 0 < (2 : Nat) ^ k := Nat.two_pow_pos k
      omega
    rw [e, Nat.testBit_two_pow_sub_succ hl, Nat.testBit_two_pow_sub_one]
  constructor
  · intro q
    apply Nat.lt_pow_two_of_testBit
    intro i hi
    by_cases h : i < 32
    · have q2 := congrArg (fun z => Nat.testBit z i) q
      simp only [Nat.testBit_and, hb, Nat.zero_testBit, decide_eq_true h, decide_eq_false (show ¬ i < k by omega), Bool.not_false, Bool.and_true] at q2
      exact q2
    · exact Nat.testBit_lt_two_pow (Nat.lt_of_lt_of_le hu (Nat.pow_le_pow_right (by decide) (by omega)))
  · intro q
    apply Nat.eq_of_testBit_eq
    intro i
    rw [Nat.testBit_and, hb, Nat.zero_testBit]
    by_cases h : i < k
    · rw [decide_eq_true h, Bool.not_true, Bool.and_false, Bool.and_false]
    · rw [Nat.testBit_lt_two_pow (Nat.lt_of_lt_of_le q (Nat.pow_le_pow_right (by decide) (by omega))), Bool.false_and]
theorem shS_eq : ∀ k, k < 33 → shS k = Int32.ofNat (2 ^ 32 - 2 ^ k) := by decide
theorem and_shS {u k : Nat} (hu : u < 2 ^ 32) (hk : k ≤ 32) : (Int32.ofNat u &&& shS k = 0) ↔ u < 2 ^ k := by
  rw [shS_eq k (by omega), i32_ofNat_and, i32_ofNat_0 (Nat.lt_of_le_of_lt Nat.and_le_left hu), and_hi hu hk]
theorem rsl_L {u L : Nat} (hu : u < 2 ^ L) (hL : L ≤ 32) (hl : ∀ k, k < L → 2 ^ k ≤ u) : ∀ n k, k + n = 32 → k ≤ L → rsl (Int32.ofNat u) n (shS k) = shS L := by
  have hu32 : u < 2 ^ 32 := Nat.lt_of_lt_of_le hu (Nat.pow_le_pow_right (by decide) hL)
  intro n
  induction n with
  | zero =>
    intro k hk hkL
    rw [show k = L by omega]
    rfl
  | succ n ih =>
    intro k hk hkL
    show (if (Int32.ofNat u &&& shS k) = 0 then shS k else rsl (Int32.ofNat u) n (shS k <<< ((1 : Int32) &&& 31))) = shS L
    by_cases e : k = L
    · rw [if_pos ((and_shS hu32 (by omega)).mpr (by rw [e]; exact hu)), e]
    · rw [if_neg (fun q => absurd ((and_shS hu32 (by omega)).mp q) (by have := hl k (by omega); omega))]
      exact ih (k + 1) (by omega) (by omega)
theorem u_shr {u : Nat} (hu : u < 2 ^ 32) (k : Nat) (hk : k < 32) : (((Int32.ofNat u).toUInt32) >>> (UInt32.ofNat k)).toInt32 = Int32.ofNat (u / 2 ^ k) := by
  have e : (UInt32.ofNat u) >>> (UInt32.ofNat k) = UInt32.ofNat (u / 2 ^ k) := by
    apply UInt32.toNat_inj.mp
    rw [UInt32.toNat_shiftRight, UInt32.toNat_ofNat', UInt32.toNat_ofNat', UInt32.toNat_ofNat', Nat.mod_eq_of_lt hu, Nat.mod_eq_of_lt (show k < 2 ^ 32 by omega), Nat.mod_eq_of_lt hk, Nat.shiftRight_eq_div_pow]
    rw [Nat.mod_eq_of_lt (Nat.lt_of_le_of_lt (Nat.div_le_self _ _) hu)]
  show ((UInt32.ofNat u) >>> (UInt32.ofNat k)).toInt32 = _
  rw [e]
  rfl
theorem i32_ltn {u c : Nat} (hu : u < 2 ^ 31) (hc : c < 2 ^ 31) : (Int32.ofNat u < Int32.ofNat c) ↔ u < c := by
  rw [Int32.lt_iff_toInt_lt, Int32.toInt_ofNat_of_lt hu, Int32.toInt_ofNat_of_lt hc]
  omega
theorem i32_subn {a c : Nat} (h : c ≤ a) : Int32.ofNat a - Int32.ofNat c = Int32.ofNat (a - c) := (Int32.ofNat_sub a c h).symm
theorem nz73 {u n : Nat} (hu : u < 4) (h1 : 1 ≤ u) (hn : 1 ≤ n) : ∃ L, (2 ^ L ≤ u ∧ u < 2 ^ (L + 1)) ∧ L ≤ 1 ∧ f_jI_numberOfLeadingZeros_b73 (Int32.ofNat u) (Int32.ofNat n) = some (Int32.ofNat (n - L)) := by
  unfold f_jI_numberOfLeadingZeros_b73
  rw [show ((1 : Int32).toUInt32 &&& Int32.toUInt32 31) = UInt32.ofNat 1 by decide, u_shr (by omega) 1 (by decide)]
  by_cases h : u < 2
  · refine ⟨0, ⟨by omega, by omega⟩, by omega, ?_⟩
    rw [show u / 2 ^ 1 = 0 by omega, i32_subn (by omega)]
  · refine ⟨1, ⟨by omega, by omega⟩, by omega, ?_⟩
    rw [show u / 2 ^ 1 = 1 by omega, i32_subn (by omega)]
theorem nzstep {u L k : Nat} (h : 2 ^ L ≤ u / 2 ^ k ∧ u / 2 ^ k < 2 ^ (L + 1)) : 2 ^ (L + k) ≤ u ∧ u < 2 ^ (L + k + 1) := by
  have hp : 0 < (2 : Nat) ^ k := Nat.two_pow_pos k
  constructor
  · rw [Nat.pow_add]; exact (Nat.le_div_iff_mul_le hp).mp h.1
  · rw [show L + k + 1 = (L + 1) + k by omega, Nat.pow_add]; exact (Nat.div_lt_iff_lt_mul hp).mp h.2
theorem nz61 {u n : Nat} (hu : u < 16) (h1 : 1 ≤ u) (hn : 3 ≤ n) : ∃ L, (2 ^ L ≤ u ∧ u < 2 ^ (L + 1)) ∧ L ≤ 3 ∧ f_jI_numberOfLeadingZeros_b61 (Int32.ofNat u) (Int32.ofNat n) = some (Int32.ofNat (n - L)) := by
  unfold f_jI_numberOfLeadingZeros_b61
  by_cases h : u < 4
  · obtain ⟨L, a, b, c⟩ := nz73 (n := n) h h1 (by omega)
    exact ⟨L, a, by omega, by rw [if_pos (show Int32.ofNat u < (4 : Int32) from (i32_ltn (by omega) (show 4 < 2 ^ 31 by decide)).mpr h)]; exact c⟩
  · obtain ⟨L, a, b, c⟩ := nz73 (u := u / 2 ^ 2) (n := n - 2) (by omega) (by omega) (by omega)
    refine ⟨L + 2, nzstep a, by omega, ?_⟩
    rw [if_neg (show ¬ Int32.ofNat u < (4 : Int32) from fun q => h ((i32_ltn (by omega) (show 4 < 2 ^ 31 by decide)).mp q)), show ((2 : Int32).toUInt32 &&& Int32.toUInt32 31) = UInt32.ofNat 2 by decide, u_shr (by omega) 2 (by decide), show Int32.ofNat n + (-2 : Int32) = Int32.ofNat (n - 2) from (by rw [← i32_subn (show 2 ≤ n by omega), Int32.sub_eq_add_neg]; rfl), show n - (L + 2) = n - 2 - L by omega]
    exact c
theorem nz48 {u n : Nat} (hu : u < 256) (h1 : 1 ≤ u) (hn : 7 ≤ n) : ∃ L, (2 ^ L ≤ u ∧ u < 2 ^ (L + 1)) ∧ L ≤ 7 ∧ f_jI_numberOfLeadingZeros_b48 (Int32.ofNat u) (Int32.ofNat n) = some (Int32.ofNat (n - L)) := by
  unfold f_jI_numberOfLeadingZeros_b48
  by_cases h : u < 16
  · obtain ⟨L, a, b, c⟩ := nz61 (n := n) h h1 (by omega)
    exact ⟨L, a, by omega, by rw [if_pos (show Int32.ofNat u < (16 : Int32) from (i32_ltn (by omega) (show 16 < 2 ^ 31 by decide)).mpr h)]; exact c⟩
  · obtain ⟨L, a, b, c⟩ := nz61 (u := u / 2 ^ 4) (n := n - 4) (by omega) (by omega) (by omega)
    refine ⟨L + 4, nzstep a, by omega, ?_⟩
    rw [if_neg (show ¬ Int32.ofNat u < (16 : Int32) from fun q => h ((i32_ltn (by omega) (show 16 < 2 ^ 31 by decide)).mp q)), show ((4 : Int32).toUInt32 &&& Int32.toUInt32 31) = UInt32.ofNat 4 by decide, u_shr (by omega) 4 (by decide), show Int32.ofNat n + (-4 : Int32) = Int32.ofNat (n - 4) from (by rw [← i32_subn (show 4 ≤ n by omega), Int32.sub_eq_add_neg]; rfl), show n - (L + 4) = n - 4 - L by omega]
    exact c
theorem nz33 {u n : Nat} (hu : u < 65536) (h1 : 1 ≤ u) (hn : 15 ≤ n) : ∃ L, (2 ^ L ≤ u ∧ u < 2 ^ (L + 1)) ∧ L ≤ 15 ∧ f_jI_numberOfLeadingZeros_b33 (Int32.ofNat u) (Int32.ofNat n) = some (Int32.ofNat (n - L)) := by
  unfold f_jI_numberOfLeadingZeros_b33
  by_cases h : u < 256
  · obtain ⟨L, a, b, c⟩ := nz48 (n := n) h h1 (by omega)
    exact ⟨L, a, by omega, by rw [if_pos (show Int32.ofNat u < (256 : Int32) from (i32_ltn (by omega) (show 256 < 2 ^ 31 by decide)).mpr h)]; exact c⟩
  · obtain ⟨L, a, b, c⟩ := nz48 (u := u / 2 ^ 8) (n := n - 8) (by omega) (by omega) (by omega)
    refine ⟨L + 8, nzstep a, by omega, ?_⟩
    rw [if_neg (show ¬ Int32.ofNat u < (256 : Int32) from fun q => h ((i32_ltn (by omega) (show 256 < 2 ^ 31 by decide)).mp q)), show ((8 : Int32).toUInt32 &&& Int32.toUInt32 31) = UInt32.ofNat 8 by decide, u_shr (by omega) 8 (by decide), show Int32.ofNat n + (-8 : Int32) = Int32.ofNat (n - 8) from (by rw [← i32_subn (show 8 ≤ n by omega), Int32.sub_eq_add_neg]; rfl), show n - (L + 8) = n - 8 - L by omega]
    exact c
theorem nzI {u : Nat} (hu : u < 2 ^ 32) : ∃ L, u < 2 ^ L ∧ (∀ k, k < L → 2 ^ k ≤ u) ∧ L ≤ 32 ∧ f_jI_numberOfLeadingZeros (Int32.ofNat u) = some (Int32.ofNat (32 - L)) := by
  have mono : ∀ {L : Nat}, 2 ^ L ≤ u → ∀ k, k < L + 1 → 2 ^ k ≤ u := fun {L} h k hk => Nat.le_trans (Nat.pow_le_pow_right (by decide) (by omega)) h
  unfold f_jI_numberOfLeadingZeros
  by_cases h31 : u < 2 ^ 31
  · by_cases h0 : u = 0
    · refine ⟨0, by rw [h0]; decide, fun k hk => absurd hk (by omega), by omega, ?_⟩
      rw [h0, if_neg (by decide), if_neg (by decide)]
      rfl
    · rw [if_pos (show (0 : Int32) < Int32.ofNat u from (i32_ltn (u := 0) (by decide) h31).mpr (by omega))]
      simp only [Option.bind_some]
      by_cases h : u < 65536
      · obtain ⟨L, a, b, c⟩ := nz33 (n := 31) h (by omega) (by omega)
        refine ⟨L + 1, a.2, mono a.1, by omega, ?_⟩
        rw [if_pos (show Int32.ofNat u < (65536 : Int32) from (i32_ltn h31 (show 65536 < 2 ^ 31 by decide)).mpr h), show 32 - (L + 1) = 31 - L by omega]
        exact c
      · obtain ⟨L, a, b, c⟩ := nz33 (u := u / 2 ^ 16) (n := 15) (by omega) (by omega) (by omega)
        obtain ⟨a1, a2⟩ := nzstep a
        refine ⟨L + 16 + 1, a2, mono a1, by omega, ?_⟩
        rw [if_neg (show ¬ Int32.ofNat u < (65536 : Int32) from fun q => h ((i32_ltn h31 (show 65536 < 2 ^ 31 by decide)).mp q)), show ((16 : Int32).toUInt32 &&& Int32.toUInt32 31) = UInt32.ofNat 16 by decide, u_shr (by omega) 16 (by decide), show 32 - (L + 16 + 1) = 15 - L by omega]
        exact c
  · refine ⟨32, hu, mono (by omega), by omega, ?_⟩
    have hneg : (Int32.ofNat u).toInt < 0 := by
      rw [Int32.toInt_ofNat']
      show (u : Int).bmod 4294967296 < 0
      rw [Int.bmod_def]
      omega
    rw [if_neg (fun q => by rw [Int32.lt_iff_toInt_lt] at q; have : (0 : Int32).toInt = 0 := rfl; omega), if_pos (fun q => by rw [q] at hneg; exact absurd hneg (by decide))]
    rfl
theorem nzL {u : Nat} (hu : u < 2 ^ 32) : ∃ L, u < 2 ^ L ∧ (∀ k, k < L → 2 ^ k ≤ u) ∧ L ≤ 32 ∧ nlz (Int64.ofNat u) = Int32.ofNat (64 - L) := by
  obtain ⟨L, a, b, c, d⟩ := nzI hu
  refine ⟨L, a, b, c, ?_⟩
  have e0 : ((((Int64.ofNat u).toUInt64 >>> ((32 : Int32).toInt64.toUInt64 &&& Int64.toUInt64 63)).toInt64).toInt32) = 0 := by
    have e1 : (Int64.ofNat u).toUInt64 >>> ((32 : Int32).toInt64.toUInt64 &&& Int64.toUInt64 63) = 0 := by
      rw [show ((32 : Int32).toInt64.toUInt64 &&& Int64.toUInt64 63) = UInt64.ofNat 32 by decide]
      apply UInt64.toNat_inj.mp
      show ((UInt64.ofNat u) >>> (UInt64.ofNat 32)).toNat = 0
      rw [UInt64.toNat_shiftRight, UInt64.toNat_ofNat', Nat.mod_eq_of_lt (show u < 2 ^ 64 by omega), show (UInt64.ofNat 32).toNat % 64 = 32 by decide, Nat.shiftRight_eq_div_pow]
      omega
    rw [e1]
    rfl
  unfold nlz f_jL_numberOfLeadingZeros f_jL_numberOfLeadingZeros_b25
  simp only [Option.bind_some]
  rw [e0, if_neg (by decide), Int64.toInt32_ofNat', d]
  show (32 : Int32) + Int32.ofNat (32 - L) = _
  rw [show (32 : Int32) = Int32.ofNat 32 from rfl, ← Int32.ofNat_add, show 32 + (32 - L) = 64 - L by omega]
theorem i64_nat {x : Int64} (h0 : (0 : Int) ≤ x.toInt) : x = Int64.ofNat x.toInt.toNat := by
  apply Int64.toInt_inj.mp
  have b := x.toInt_lt
  rw [Int64.toInt_ofNat_of_lt (by omega)]
  omega
theorem i64_ofNat_xor (u v : Nat) : Int64.ofNat u ^^^ Int64.ofNat v = Int64.ofNat (u ^^^ v) := by
  apply Int64.toBitVec_inj.mp
  rw [Int64.toBitVec_xor]
  show BitVec.ofNat 64 u ^^^ BitVec.ofNat 64 v = BitVec.ofNat 64 (u ^^^ v)
  apply BitVec.eq_of_toNat_eq
  rw [BitVec.toNat_xor, BitVec.toNat_ofNat, BitVec.toNat_ofNat, BitVec.toNat_ofNat, Nat.xor_mod_two_pow]
theorem kco_L : ∀ L, L < 33 → (((-1 : Int64) <<< (((64 : Int32) - Int32.ofNat (64 - L)).toInt64 &&& 63)).toInt32) = shS L := by decide
theorem kco_rsa {lo hi : Int64} (l0 : (0 : Int) ≤ lo.toInt) (l1 : lo.toInt < 4294967296) (h0 : (0 : Int) ≤ hi.toInt) (h1 : hi.toInt < 4294967296) : kco lo hi = rsl ((lo ^^^ hi).toInt32) 32 (-1) := by
  have el := i64_nat l0
  have eh := i64_nat h0
  have hx : lo.toInt.toNat ^^^ hi.toInt.toNat < 2 ^ 32 := Nat.xor_lt_two_pow (by omega) (by omega)
  obtain ⟨L, a, b, c, d⟩ := nzL hx
  have e : lo ^^^ hi = Int64.ofNat (lo.toInt.toNat ^^^ hi.toInt.toNat) := by
    rw [← i64_ofNat_xor, ← el, ← eh]
  unfold kco
  rw [e, d, Int64.toInt32_ofNat', kco_L L (by omega)]
  exact (rsl_L a c b 32 0 (by omega) (by omega)).symm
