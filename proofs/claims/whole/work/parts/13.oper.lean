/-! Operation: what is known after ADD .. REST, as values. -/
def kExact (k : KV) : Bool := decide (k.2.2.2.1 = k.2.2.2.2.1)
def isI (x : Int64) : Bool := decide (¬ x < (-2147483648 : Int64)) && decide (¬ (2147483647 : Int64) < x)
theorem isI_eq (x : Int64) : f_G_isInt x = some (if isI x = true then 1 else 0) := by
  unfold f_G_isInt f_G_isInt_b20 f_G_isInt_b21 isI
  by_cases h1 : x < (-2147483648 : Int64)
  · rw [if_pos h1]; simp [h1]; rfl
  · rw [if_neg h1]
    by_cases h2 : (2147483647 : Int64) < x
    · rw [if_pos h2]; simp [h2]; rfl
    · rw [if_neg h2]; simp [h1, h2]; rfl
def kLb (k j : KV) : Int32 := (((k.2.1 &&& j.2.1) ^^^ (-1 : Int32)) &&& (-((k.2.1 &&& j.2.1) ^^^ (-1 : Int32)))) - (1 : Int32)
def kB (s : KV) (b o : Int32) : KV := (s.1, b, o, s.2.2.2)
def kU (s : KV) (x y : Int64) : KV := (s.1, s.2.1, s.2.2.1, x, y, s.2.2.2.2.2)
def kS (s : KV) (x y : Int64) : KV := (s.1, s.2.1, s.2.2.1, s.2.2.2.1, s.2.2.2.2.1, x, y, s.2.2.2.2.2.2.2)
def kF (s : KV) (n : Int32) : KV := (s.1, s.2.1, s.2.2.1, s.2.2.2.1, s.2.2.2.2.1, s.2.2.2.2.2.1, s.2.2.2.2.2.2.1, n)
def os2 (k j s : KV) : KV := if (4294967295 : Int64) < k.2.2.2.2.1 + j.2.2.2.2.1 then s else kU s (k.2.2.2.1 + j.2.2.2.1) (k.2.2.2.2.1 + j.2.2.2.2.1)
def os3 (k j s : KV) : KV := if isI (k.2.2.2.2.2.1 + j.2.2.2.2.2.1) = true then (if isI (k.2.2.2.2.2.2.1 + j.2.2.2.2.2.2.1) = true then kS s (k.2.2.2.2.2.1 + j.2.2.2.2.2.1) (k.2.2.2.2.2.2.1 + j.2.2.2.2.2.2.1) else s) else s
def os4 (k j s : KV) : KV := if j.2.2.2.1 = j.2.2.2.2.1 then (if (20 : Int64) < j.2.2.2.1 then s else if (4294967295 : Int64) < k.2.2.2.2.1 + j.2.2.2.1 then s else kF s (if k.2.2.2.2.2.2.2 - j.2.2.2.1.toInt32 < 0 then 0 else k.2.2.2.2.2.2.2 - j.2.2.2.1.toInt32)) else s
def od2 (k j s : KV) : KV := if k.2.2.2.1 - j.2.2.2.2.1 < 0 then s else kU s (k.2.2.2.1 - j.2.2.2.2.1) (k.2.2.2.2.1 - j.2.2.2.1)
def od3 (k j s : KV) : KV := if isI (k.2.2.2.2.2.1 - j.2.2.2.2.2.2.1) = true then (if isI (k.2.2.2.2.2.2.1 - j.2.2.2.2.2.1) = true then kS s (k.2.2.2.2.2.1 - j.2.2.2.2.2.2.1) (k.2.2.2.2.2.2.1 - j.2.2.2.2.2.1) else s) else s
def op2 (k j s : KV) : KV := if ((k.2.2.2.2.1 * j.2.2.2.2.1).toUInt64 >>> ((32 : Int32).toInt64.toUInt64 &&& Int64.toUInt64 63)).toInt64 = (0 : Int64) then kU s (k.2.2.2.1 * j.2.2.2.1) (k.2.2.2.2.1 * j.2.2.2.2.1) else s
def oSum (k j s : KV) : KV := os4 k j (os3 k j (os2 k j (kB s (kLb k j) ((k.2.2.1 + j.2.2.1) &&& kLb k j))))
def oDif (k j s : KV) : KV := od3 k j (od2 k j (kB s (kLb k j) ((k.2.2.1 - j.2.2.1) &&& kLb k j)))
def oPro (k j s : KV) : KV := op2 k j (kB s (kLb k j) ((k.2.2.1 * j.2.2.1) &&& kLb k j))
def kZe (k : KV) : Int32 := k.2.1 &&& (k.2.2.1 ^^^ (-1 : Int32))
def oAnd (k j s : KV) : KV := kU (kB s (((k.2.2.1 &&& j.2.2.1) ||| kZe k) ||| kZe j) (k.2.2.1 &&& j.2.2.1)) s.2.2.2.1 (if j.2.2.2.2.1 < k.2.2.2.2.1 then j.2.2.2.2.1 else k.2.2.2.2.1)
def oOr (k j s : KV) : KV := kU (kB s ((k.2.2.1 ||| j.2.2.1) ||| (kZe k &&& kZe j)) (k.2.2.1 ||| j.2.2.1)) (if j.2.2.2.1 < k.2.2.2.1 then k.2.2.2.1 else j.2.2.2.1) s.2.2.2.2.1
def oXor (k j s : KV) : KV := kB s (k.2.1 &&& j.2.1) ((k.2.2.1 ^^^ j.2.2.1) &&& (k.2.1 &&& j.2.1))
def oQuo (k j s : KV) : KV := if j.2.2.2.1 ≤ 0 then s else if j.2.2.2.2.1 ≤ 0 then s else kU s (k.2.2.2.1 / j.2.2.2.2.1) (k.2.2.2.2.1 / j.2.2.2.1)
def oRes (k j s : KV) : KV := if j.2.2.2.1 ≤ 0 then s else kU s 0 (if j.2.2.2.2.1 - 1 < k.2.2.2.2.1 then j.2.2.2.2.1 - 1 else k.2.2.2.2.1)
def ush (x : Int32) (n : Int32) : Int32 := (x.toUInt32 >>> (n.toUInt32 &&& Int32.toUInt32 31)).toInt32
def ushL (x : Int64) (n : Int32) : Int64 := (x.toUInt64 >>> (n.toInt64.toUInt64 &&& Int64.toUInt64 63)).toInt64
def oLef (k : KV) (n : Int32) (s : KV) : KV := kB s ((k.2.1 <<< (n &&& 31)) ||| (((-1 : Int32) <<< (n &&& 31)) ^^^ (-1 : Int32))) (k.2.2.1 <<< (n &&& 31))
def oRig (k : KV) (n : Int32) (s : KV) : KV := kU (kB s (ush k.2.1 n ||| (ush (-1 : Int32) n ^^^ (-1 : Int32))) (ush k.2.2.1 n)) (ushL k.2.2.2.1 n) (ushL k.2.2.2.2.1 n)
def oSig (k : KV) (n : Int32) (s : KV) : KV := kS (kB s (k.2.1 >>> (n &&& 31)) (k.2.2.1 >>> (n &&& 31))) (k.2.2.2.2.2.1 >>> (n.toInt64 &&& 63)) (k.2.2.2.2.2.2.1 >>> (n.toInt64 &&& 63))
def oShi (op : Int32) (k j s : KV) : KV := if j.2.2.2.1 = j.2.2.2.2.1 then (if op = 7 then oLef k (j.2.2.2.1.toInt32 &&& 31) s else if op = 8 then oRig k (j.2.2.2.1.toInt32 &&& 31) s else oSig k (j.2.2.2.1.toInt32 &&& 31) s) else s
def oAll (op : Int32) (k j s : KV) : KV := if op = 1 then oSum k j s else if op = 2 then oDif k j s else if op = 3 then oPro k j s else if op = 4 then oAnd k j s else if op = 5 then oOr k j s else if op = 6 then oXor k j s else if op = 7 then oShi op k j s else if op = 8 then oShi op k j s else if op = 9 then oShi op k j s else if op = 10 then oQuo k j s else if op = 11 then oRes k j s else oShi op k j s
section EO
variable {w : xw} {P : Nat → Bool} {kc : Nat → KV} {a y r : Nat}
theorem eo_lb (ha : P a = true) (hy : P y = true) : f_O_lowestBits (ew w P kc) a y = some (kLb (kc a) (kc y), ew w P kc) := by
  unfold f_O_lowestBits
  simp only [ek_r1 ha, ek_r1 hy, Option.bind_some]
  rfl
theorem eo_sum4 (ha : P a = true) (hy : P y = true) (hr : P r = true) : f_O_sum_b117 (ew w P kc) a y r = some ((), ew w P (va_up kc r (os4 (kc a) (kc y) (kc r)))) := by
  unfold f_O_sum_b117 f_O_sum_b169 os4
  simp only [ek_ck hy, ek_exact hy, ek_r3 hy, ek_r4 ha, ek_r7 ha, ek_w7 hr, Option.bind_some]
  by_cases h1 : (kc y).2.2.2.1 = (kc y).2.2.2.2.1
  · rw [if_pos h1, if_neg (by decide), if_pos h1]
    by_cases h2 : (20 : Int64) < (kc y).2.2.2.1
    · rw [if_pos h2, if_pos h2, va_up_id]
    · rw [if_neg h2, if_neg h2]
      by_cases h3 : (4294967295 : Int64) < (kc a).2.2.2.2.1 + (kc y).2.2.2.1
      · rw [if_pos h3, if_pos h3, va_up_id]
      · rw [if_neg h3, if_neg h3]
        rfl
  · rw [if_neg h1, if_pos rfl, if_neg h1, va_up_id]
theorem eo_sum3 (ha : P a = true) (hy : P y = true) (hr : P r = true) (e1 : a ≠ r) (e2 : y ≠ r) : f_O_sum_b65 (ew w P kc) a y r = some ((), ew w P (va_up kc r (os4 (kc a) (kc y) (os3 (kc a) (kc y) (kc r))))) := by
  unfold f_O_sum_b65 os3
  simp only [ek_r5 ha, ek_r5 hy, ek_r6 ha, ek_r6 hy, isI_eq, ek_ck hr, ek_bs hr, eo_sum4 ha hy hr, Option.bind_some, va_up_self, va_up_up, va_up_ne _ _ e1, va_up_ne _ _ e2]
  by_cases h1 : isI ((kc a).2.2.2.2.2.1 + (kc y).2.2.2.2.2.1) = true
  · rw [if_pos h1, if_neg (by decide), if_pos h1]
    by_cases h2 : isI ((kc a).2.2.2.2.2.2.1 + (kc y).2.2.2.2.2.2.1) = true
    · rw [if_pos h2, if_neg (by decide), if_pos h2]
      rfl
    · rw [if_neg h2, if_pos rfl, if_neg h2]
  · rw [if_neg h1, if_pos rfl, if_neg h1]
theorem eo_sum (ha : P a = true) (hy : P y = true) (hr : P r = true) (e1 : a ≠ r) (e2 : y ≠ r) : f_O_sum (ew w P kc) a y r = some ((), ew w P (va_up kc r (oSum (kc a) (kc y) (kc r)))) := by
  unfold f_O_sum oSum os2
  simp only [eo_lb ha hy, ek_w1 hr, ek_w2 hr, ek_r1 hr, ek_r2 ha, ek_r2 hy, ek_r3 ha, ek_r3 hy, ek_r4 ha, ek_r4 hy, ek_ck hr, ek_bu hr, eo_sum3 ha hy hr e1 e2, Option.bind_some, va_up_self, va_up_up, va_up_ne _ _ e1, va_up_ne _ _ e2]
  by_cases h1 : (4294967295 : Int64) < (kc a).2.2.2.2.1 + (kc y).2.2.2.2.1
  · rw [if_pos h1, if_pos h1]; rfl
  · rw [if_neg h1, if_neg h1]; rfl
theorem eo_dif3 (ha : P a = true) (hy : P y = true) (hr : P r = true) : f_O_difference_b63 (ew w P kc) a y r = some ((), ew w P (va_up kc r (od3 (kc a) (kc y) (kc r)))) := by
  unfold f_O_difference_b63 f_O_difference_b115 od3
  simp only [ek_r5 ha, ek_r5 hy, ek_r6 ha, ek_r6 hy, isI_eq, ek_ck hr, ek_bs hr, Option.bind_some]
  by_cases h1 : isI ((kc a).2.2.2.2.2.1 - (kc y).2.2.2.2.2.2.1) = true
  · rw [if_pos h1, if_neg (by decide), if_pos h1]
    by_cases h2 : isI ((kc a).2.2.2.2.2.2.1 - (kc y).2.2.2.2.2.1) = true
    · rw [if_pos h2, if_neg (by decide), if_pos h2]
      rfl
    · rw [if_neg h2, if_pos rfl, if_neg h2, va_up_id]
  · rw [if_neg h1, if_pos rfl, if_neg h1, va_up_id]
theorem eo_dif (ha : P a = true) (hy : P y = true) (hr : P r = true) (e1 : a ≠ r) (e2 : y ≠ r) : f_O_difference (ew w P kc) a y r = some ((), ew w P (va_up kc r (oDif (kc a) (kc y) (kc r)))) := by
  unfold f_O_difference oDif od2
  simp only [eo_lb ha hy, ek_w1 hr, ek_w2 hr, ek_r1 hr, ek_r2 ha, ek_r2 hy, ek_r3 ha, ek_r3 hy, ek_r4 ha, ek_r4 hy, ek_ck hr, ek_bu hr, eo_dif3 ha hy hr, Option.bind_some, va_up_self, va_up_up, va_up_ne _ _ e1, va_up_ne _ _ e2]
  by_cases h1 : (kc a).2.2.2.1 - (kc y).2.2.2.2.1 < (0 : Int64)
  · rw [if_pos h1, if_pos h1]; rfl
  · rw [if_neg h1, if_neg h1]; rfl
theorem eo_pro (ha : P a = true) (hy : P y = true) (hr : P r = true) (e1 : a ≠ r) (e2 : y ≠ r) : f_O_product (ew w P kc) a y r = some ((), ew w P (va_up kc r (oPro (kc a) (kc y) (kc r)))) := by
  unfold f_O_product f_O_product_b66 oPro op2
  simp only [eo_lb ha hy, ek_w1 hr, ek_w2 hr, ek_r1 hr, ek_r2 ha, ek_r2 hy, ek_r3 ha, ek_r3 hy, ek_r4 ha, ek_r4 hy, ek_ck hr, ek_bu hr, Option.bind_some, va_up_self, va_up_up, va_up_ne _ _ e1, va_up_ne _ _ e2]
  by_cases h1 : (((kc a).2.2.2.2.1 * (kc y).2.2.2.2.1).toUInt64 >>> ((32 : Int32).toInt64.toUInt64 &&& Int64.toUInt64 63)).toInt64 = (0 : Int64)
  · rw [if_neg (fun q => q h1), if_pos h1]; rfl
  · rw [if_pos h1, if_neg h1]; rfl
theorem eo_and (ha : P a = true) (hy : P y = true) (hr : P r = true) (e1 : a ≠ r) (e2 : y ≠ r) : f_O_bothOnes (ew w P kc) a y r = some ((), ew w P (va_up kc r (oAnd (kc a) (kc y) (kc r)))) := by
  unfold f_O_bothOnes
  simp only [ek_r2 ha, ek_r2 hy, ek_r2 hr, ek_w2 hr, ek_w1 hr, ek_w4 hr, ek_ck ha, ek_ck hy, ek_zeros ha, ek_zeros hy, ek_r4 ha, ek_r4 hy, Option.bind_some, va_up_self, va_up_up, va_up_ne _ _ e1, va_up_ne _ _ e2]
  rfl
theorem eo_or (ha : P a = true) (hy : P y = true) (hr : P r = true) (e1 : a ≠ r) (e2 : y ≠ r) : f_O_eitherOne (ew w P kc) a y r = some ((), ew w P (va_up kc r (oOr (kc a) (kc y) (kc r)))) := by
  unfold f_O_eitherOne
  simp only [ek_r2 ha, ek_r2 hy, ek_r2 hr, ek_w2 hr, ek_w1 hr, ek_w3 hr, ek_ck ha, ek_ck hy, ek_zeros ha, ek_zeros hy, ek_r3 ha, ek_r3 hy, Option.bind_some, va_up_self, va_up_up, va_up_ne _ _ e1, va_up_ne _ _ e2]
  rfl
theorem eo_xor (ha : P a = true) (hy : P y = true) (hr : P r = true) (e1 : a ≠ r) (e2 : y ≠ r) : f_O_unlikeBits (ew w P kc) a y r = some ((), ew w P (va_up kc r (oXor (kc a) (kc y) (kc r)))) := by
  unfold f_O_unlikeBits
  simp only [ek_r1 ha, ek_r1 hy, ek_r1 hr, ek_r2 ha, ek_r2 hy, ek_w2 hr, ek_w1 hr, Option.bind_some, va_up_self, va_up_up, va_up_ne _ _ e1, va_up_ne _ _ e2]
  rfl
theorem eo_quo (ha : P a = true) (hy : P y = true) (hr : P r = true) : f_O_quotient (ew w P kc) a y r = some ((), ew w P (va_up kc r (oQuo (kc a) (kc y) (kc r)))) := by
  unfold f_O_quotient f_O_quotient_b40 oQuo
  simp only [ek_r3 ha, ek_r3 hy, ek_r4 ha, ek_r4 hy, ek_ck hr, ek_bu hr, Option.bind_some]
  by_cases h1 : (kc y).2.2.2.1 ≤ (0 : Int64)
  · rw [if_pos h1, if_pos h1, va_up_id]
  · rw [if_neg h1, if_neg h1]
    by_cases h2 : (kc y).2.2.2.2.1 ≤ (0 : Int64)
    · rw [if_pos h2, if_pos h2, va_up_id]
    · rw [if_neg h2, if_neg h2]
      have n1 : ¬ (kc y).2.2.2.1 = 0 := fun q => h1 (by rw [q]; decide)
      have n2 : ¬ (kc y).2.2.2.2.1 = 0 := fun q => h2 (by rw [q]; decide)
      rw [if_neg n2, if_neg n1]
      rfl
theorem eo_res (ha : P a = true) (hy : P y = true) (hr : P r = true) : f_O_rest (ew w P kc) a y r = some ((), ew w P (va_up kc r (oRes (kc a) (kc y) (kc r)))) := by
  unfold f_O_rest f_O_rest_b27 oRes
  simp only [ek_r3 hy, ek_r4 ha, ek_r4 hy, ek_ck hr, ek_bu hr, Option.bind_some]
  by_cases h1 : (kc y).2.2.2.1 ≤ (0 : Int64)
  · rw [if_pos h1, if_pos h1, va_up_id]
  · rw [if_neg h1, if_neg h1]; rfl
theorem eo_shi {op : Int32} (ha : P a = true) (hy : P y = true) (hr : P r = true) (e1 : a ≠ r) (e2 : y ≠ r) : f_O_shifted (ew w P kc) op a y r = some ((), ew w P (va_up kc r (oShi op (kc a) (kc y) (kc r)))) := by
  unfold f_O_shifted f_O_shifted_b152 oShi
  simp only [ek_ck hy, ek_exact hy, ek_r3 hy, ek_r1 ha, ek_r2 ha, ek_r3 ha, ek_r4 ha, ek_r5 ha, ek_r6 ha, ek_w1 hr, ek_w2 hr, ek_ck hr, ek_bu hr, ek_bs hr, Option.bind_some, va_up_self, va_up_up, va_up_ne _ _ e1, va_up_ne _ _ e2]
  by_cases h1 : (kc y).2.2.2.1 = (kc y).2.2.2.2.1
  · rw [if_pos h1, if_pos (by decide), if_pos h1]
    by_cases h7 : op = 7
    · rw [if_neg (fun q => q h7), if_pos h7]; rfl
    · rw [if_pos h7, if_neg h7]
      by_cases h8 : op = 8
      · rw [if_neg (fun q => q h8), if_pos h8]; rfl
      · rw [if_pos h8, if_neg h8]; rfl
  · rw [if_neg h1, if_neg (by decide), if_neg h1, va_up_id]
theorem eo_end {kc : Nat → KV} (hr : P r = true) : f_O_outcome_b143 (ew w P kc) r = some (if tgo (kc r) = true then 1 else 0, ew w P (va_up kc r (tg (kc r)))) := by
  unfold f_O_outcome_b143
  simp only [ek_ck hr, ek_tighten hr, Option.bind_some]
  by_cases h : tgo (kc r) = true
  · rw [if_pos h]; rfl
  · rw [if_neg h]; rfl
/-- an operation on what is known, its end told -/
def kOp (op : Int32) (k j : KV) : KV := oAll op k j kNothing
theorem eo_out {op : Int32} (ha : P a = true) (hy : P y = true) (hr : P r = true) (e1 : a ≠ r) (e2 : y ≠ r) : f_O_outcome (ew w P kc) op a y r = some (if tgo (kOp op (kc a) (kc y)) = true then 1 else 0, ew w P (va_up kc r (tg (kOp op (kc a) (kc y))))) := by
  unfold f_O_outcome f_O_outcome_b136 kOp oAll
  simp only [ek_ck hr, ek_nothing hr, Option.bind_some]
  simp only [eo_sum ha hy hr e1 e2, eo_dif ha hy hr e1 e2, eo_pro ha hy hr e1 e2, eo_and ha hy hr e1 e2, eo_or ha hy hr e1 e2, eo_xor ha hy hr e1 e2, eo_quo ha hy hr, eo_res ha hy hr, eo_shi ha hy hr e1 e2, eo_end hr, Option.bind_some, va_up_self, va_up_up, va_up_ne _ _ e1, va_up_ne _ _ e2]
  by_cases h1 : op = 1
  · simp only [if_pos h1]
  simp only [if_neg h1]
  by_cases h2 : op = 2
  · simp only [if_pos h2]
  simp only [if_neg h2]
  by_cases h3 : op = 3
  · simp only [if_pos h3]
  simp only [if_neg h3]
  by_cases h4 : op = 4
  · simp only [if_pos h4]
  simp only [if_neg h4]
  by_cases h5 : op = 5
  · simp only [if_pos h5]
  simp only [if_neg h5]
  by_cases h6 : op = 6
  · simp only [if_pos h6]
  simp only [if_neg h6]
  by_cases h7 : op = 7
  · simp only [if_pos h7]
  simp only [if_neg h7]
  by_cases h8 : op = 8
  · simp only [if_pos h8]
  simp only [if_neg h8]
  by_cases h9 : op = 9
  · simp only [if_pos h9]
  simp only [if_neg h9]
  by_cases h10 : op = 10
  · simp only [if_pos h10]
  simp only [if_neg h10]
  by_cases h11 : op = 11
  · simp only [if_pos h11]
  simp only [if_neg h11]
end EO
