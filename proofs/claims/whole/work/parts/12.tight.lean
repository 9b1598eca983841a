theorem xrZ_0 (w : xw) : xrZ 0 w = some (0, w) := rfl
theorem xrZ_1 (w : xw) : xrZ 1 w = some (1, w) := rfl
def nlz (x : Int64) : Int32 := (f_jL_numberOfLeadingZeros x).getD 0
theorem nlzI_some (x : Int32) : ∃ y, f_jI_numberOfLeadingZeros x = some y := by
  have h61 : ∀ a b : Int32, ∃ y, f_jI_numberOfLeadingZeros_b61 a b = some y := fun a b => by
    unfold f_jI_numberOfLeadingZeros_b61 f_jI_numberOfLeadingZeros_b73
    split
    · exact ⟨_, rfl⟩
    · exact ⟨_, rfl⟩
  have h48 : ∀ a b : Int32, ∃ y, f_jI_numberOfLeadingZeros_b48 a b = some y := fun a b => by
    unfold f_jI_numberOfLeadingZeros_b48
    split
    · exact h61 _ _
    · exact h61 _ _
  have h33 : ∀ a b : Int32, ∃ y, f_jI_numberOfLeadingZeros_b33 a b = some y := fun a b => by
    unfold f_jI_numberOfLeadingZeros_b33
    split
    · exact h48 _ _
    · exact h48 _ _
  unfold f_jI_numberOfLeadingZeros
  split
  · show ∃ y, (if x < (65536 : Int32) then _ else _) = some y
    split
    · exact h33 _ _
    · exact h33 _ _
  · split
    · exact ⟨_, rfl⟩
    · exact ⟨_, rfl⟩
theorem nlz_eq (x : Int64) : f_jL_numberOfLeadingZeros x = some (nlz x) := by
  have h : ∃ y, f_jL_numberOfLeadingZeros x = some y := by
    unfold f_jL_numberOfLeadingZeros
    simp only [Option.bind_some]
    split
    · obtain ⟨y, hy⟩ := nlzI_some (((x.toUInt64 >>> ((32 : Int32).toInt64.toUInt64 &&& Int64.toUInt64 63)).toInt64).toInt32)
      rw [hy]; exact ⟨_, rfl⟩
    · obtain ⟨y, hy⟩ := nlzI_some x.toInt32
      rw [hy]; exact ⟨_, rfl⟩
  obtain ⟨y, hy⟩ := h
  unfold nlz
  rw [hy]; rfl
/-- the bits above the highest in which two numbers differ, as the class reckons them -/
def kco (lo hi : Int64) : Int32 := (((-1 : Int64) <<< (((64 : Int32) - nlz (lo ^^^ hi)).toInt64 &&& 63)).toInt32)
-- tightening, in its four steps
def tg1 (k : KV) : KV := (k.1, k.2.1, k.2.2.1, (if un k.2.2.1 < k.2.2.2.1 then k.2.2.2.1 else un k.2.2.1), (if un (k.2.2.1 ||| (k.2.1 ^^^ (-1 : Int32))) < k.2.2.2.2.1 then un (k.2.2.1 ||| (k.2.1 ^^^ (-1 : Int32))) else k.2.2.2.2.1), k.2.2.2.2.2)
def tg2 (k : KV) : KV := if ((2147483648 : Int64) ≤ k.2.2.2.1) = ((2147483648 : Int64) ≤ k.2.2.2.2.1) then (k.1, k.2.1, k.2.2.1, k.2.2.2.1, k.2.2.2.2.1, (if k.2.2.2.1.toInt32.toInt64 < k.2.2.2.2.2.1 then k.2.2.2.2.2.1 else k.2.2.2.1.toInt32.toInt64), (if k.2.2.2.2.1.toInt32.toInt64 < k.2.2.2.2.2.2.1 then k.2.2.2.2.1.toInt32.toInt64 else k.2.2.2.2.2.2.1), k.2.2.2.2.2.2.2) else k
def tg3 (k : KV) : KV := if ((0 : Int64) ≤ k.2.2.2.2.2.1) = ((0 : Int64) ≤ k.2.2.2.2.2.2.1) then (k.1, k.2.1, k.2.2.1, (if un k.2.2.2.2.2.1.toInt32 < k.2.2.2.1 then k.2.2.2.1 else un k.2.2.2.2.2.1.toInt32), (if un k.2.2.2.2.2.2.1.toInt32 < k.2.2.2.2.1 then un k.2.2.2.2.2.2.1.toInt32 else k.2.2.2.2.1), k.2.2.2.2.2) else k
def tg4o (k : KV) : Bool := decide (¬ (k.2.2.2.2.1 < k.2.2.2.1)) && decide (¬ (k.2.2.2.2.2.2.1 < k.2.2.2.2.2.1)) && decide (((k.2.1 &&& kco k.2.2.2.1 k.2.2.2.2.1) &&& (k.2.2.1 ^^^ k.2.2.2.1.toInt32)) = 0)
def tg4 (k : KV) : KV := if tg4o k = true then (k.1, k.2.1 ||| kco k.2.2.2.1 k.2.2.2.2.1, k.2.2.1 ||| (k.2.2.2.1.toInt32 &&& kco k.2.2.2.1 k.2.2.2.2.1), k.2.2.2) else k
def tgo (k : KV) : Bool := tg4o (tg3 (tg2 (tg1 k)))
def tg (k : KV) : KV := tg4 (tg3 (tg2 (tg1 k)))
section TG
variable {w : xw} {P : Nat → Bool} {kc : Nat → KV} {a b : Nat}
theorem ek_t4 (h : P a = true) : f_K_tighten_b181 (ew w P kc) a = some (if tg4o (kc a) = true then 1 else 0, ew w P (va_up kc a (tg4 (kc a)))) := by
  unfold f_K_tighten_b181 f_K_tighten_b239
  simp only [ek_r3 h, ek_r4 h, ek_r5 h, ek_r6 h, nlz_eq, Option.bind_some]
  by_cases h1 : (kc a).2.2.2.2.1 < (kc a).2.2.2.1
  · have e : tg4o (kc a) = false := by unfold tg4o; simp [h1]
    have e4 : tg4 (kc a) = kc a := by unfold tg4; rw [e]; rfl
    rw [if_pos h1, e4, va_up_id, e]
    rfl
  · rw [if_neg h1]
    by_cases h2 : (kc a).2.2.2.2.2.2.1 < (kc a).2.2.2.2.2.1
    · have e : tg4o (kc a) = false := by unfold tg4o; simp [h2]
      have e4 : tg4 (kc a) = kc a := by unfold tg4; rw [e]; rfl
      rw [if_pos h2, e4, va_up_id, e]
      rfl
    · rw [if_neg h2]
      simp only [ek_ck h, ek_contra h, Option.bind_some]
      by_cases h3 : (((kc a).2.1 &&& kco (kc a).2.2.2.1 (kc a).2.2.2.2.1) &&& ((kc a).2.2.1 ^^^ (kc a).2.2.2.1.toInt32)) = 0
      · have e : tg4o (kc a) = true := by unfold tg4o; simp [h1, h2, h3]
        unfold tg4
        unfold kco at h3
        simp only [e, if_pos h3, if_true, ek_r1 h, ek_w1 h, ek_r2 h, ek_r3 h, ek_w2 h, Option.bind_some, va_up_self, va_up_up]
        rfl
      · have e : tg4o (kc a) = false := by unfold tg4o; simp [h3]
        have e4 : tg4 (kc a) = kc a := by unfold tg4; rw [e]; rfl
        unfold kco at h3
        rw [e4, va_up_id, e]
        simp only [if_neg h3]
        rw [if_neg (by decide)]
        rfl
theorem ek_t3 (h : P a = true) : f_K_tighten_b112 (ew w P kc) a = some (if tg4o (tg3 (kc a)) = true then 1 else 0, ew w P (va_up kc a (tg4 (tg3 (kc a))))) := by
  have key : ∀ s0 s1 : Int32, ((s0 = s1) = (((0 : Int64) ≤ (kc a).2.2.2.2.2.1) = ((0 : Int64) ≤ (kc a).2.2.2.2.2.2.1))) → f_K_tighten_b140 (ew w P kc) a s0 s1 = some (if tg4o (tg3 (kc a)) = true then 1 else 0, ew w P (va_up kc a (tg4 (tg3 (kc a))))) := fun s0 s1 hs => by
    unfold f_K_tighten_b140
    by_cases e : s0 = s1
    · have e2 := hs.mp e
      rw [if_neg (fun q => q e)]
      simp only [ek_r3 h, ek_r4 h, ek_r5 h, ek_r6 h, un_eq, ek_w3 h, ek_w4 h, ek_t4 h, Option.bind_some, va_up_self, va_up_up]
      unfold tg3
      rw [if_pos e2]
    · have e2 : ¬ (((0 : Int64) ≤ (kc a).2.2.2.2.2.1) = ((0 : Int64) ≤ (kc a).2.2.2.2.2.2.1)) := fun q => e (hs.mpr q)
      rw [if_pos e, ek_t4 h]
      unfold tg3
      rw [if_neg e2]
  unfold f_K_tighten_b112 f_K_tighten_b126
  simp only [ek_r5 h, ek_r6 h, Option.bind_some]
  by_cases h1 : (0 : Int64) ≤ (kc a).2.2.2.2.2.1 <;> by_cases h2 : (0 : Int64) ≤ (kc a).2.2.2.2.2.2.1
  · rw [if_pos h1, if_pos h2]; exact key _ _ (by simp [h1, h2])
  · rw [if_pos h1, if_neg h2]; exact key _ _ (by simp [h1, h2])
  · rw [if_neg h1, if_pos h2]; exact key _ _ (by simp [h1, h2])
  · rw [if_neg h1, if_neg h2]; exact key _ _ (by simp [h1, h2])
theorem ek_tighten (h : P a = true) : f_K_tighten (ew w P kc) a = some (if tgo (kc a) = true then 1 else 0, ew w P (va_up kc a (tg (kc a)))) := by
  have key : ∀ (kc : Nat → KV) (s0 s1 : Int32), ((s0 = s1) = (((2147483648 : Int64) ≤ (kc a).2.2.2.1) = ((2147483648 : Int64) ≤ (kc a).2.2.2.2.1))) → f_K_tighten_b75 (ew w P kc) a s0 s1 = some (if tg4o (tg3 (tg2 (kc a))) = true then 1 else 0, ew w P (va_up kc a (tg4 (tg3 (tg2 (kc a)))))) := fun kc s0 s1 hs => by
    unfold f_K_tighten_b75
    by_cases e : s0 = s1
    · have e2 := hs.mp e
      rw [if_neg (fun q => q e)]
      simp only [ek_r3 h, ek_r4 h, ek_r5 h, ek_r6 h, ek_w5 h, ek_w6 h, ek_t3 h, Option.bind_some, va_up_self, va_up_up]
      unfold tg2
      rw [if_pos e2]
    · have e2 : ¬ (((2147483648 : Int64) ≤ (kc a).2.2.2.1) = ((2147483648 : Int64) ≤ (kc a).2.2.2.2.1)) := fun q => e (hs.mpr q)
      rw [if_pos e, ek_t3 h]
      unfold tg2
      rw [if_neg e2]
  have key2 : ∀ kc : Nat → KV, (if (2147483648 : Int64) ≤ (kc a).2.2.2.1 then f_K_tighten_b59 (ew w P kc) a (0 : Int32) else f_K_tighten_b59 (ew w P kc) a (1 : Int32)) = some (if tg4o (tg3 (tg2 (kc a))) = true then 1 else 0, ew w P (va_up kc a (tg4 (tg3 (tg2 (kc a)))))) := fun kc => by
    unfold f_K_tighten_b59
    simp only [ek_r4 h, Option.bind_some]
    by_cases h1 : (2147483648 : Int64) ≤ (kc a).2.2.2.1 <;> by_cases h2 : (2147483648 : Int64) ≤ (kc a).2.2.2.2.1
    · rw [if_pos h1, if_pos h2]; exact key _ _ _ (by simp [h1, h2])
    · rw [if_pos h1, if_neg h2]; exact key _ _ _ (by simp [h1, h2])
    · rw [if_neg h1, if_pos h2]; exact key _ _ _ (by simp [h1, h2])
    · rw [if_neg h1, if_neg h2]; exact key _ _ _ (by simp [h1, h2])
  have k3 := key2 (va_up kc a (tg1 (kc a)))
  simp only [va_up_self, va_up_up] at k3
  unfold f_K_tighten
  simp only [ek_r1 h, ek_r2 h, ek_r3 h, ek_r4 h, un_eq, ek_w3 h, ek_w4 h, Option.bind_some, va_up_self, va_up_up]
  unfold tgo tg
  rw [← k3]
  rfl
def kUpTo (n : Int32) : KV := tg (1, 0, 0, 0, n.toInt64, 0, n.toInt64, 0)
theorem ek_upto {n : Int32} (h : P a = true) : f_K_becomeUpTo (ew w P kc) a n = some ((), ew w P (va_up kc a (kUpTo n))) := by
  unfold f_K_becomeUpTo
  simp only [ek_ck h, ek_nothing h, ek_bu h, ek_bs h, ek_tighten h, Option.bind_some, va_up_self, va_up_up]
  rfl
def kTold (k : KV) (n : Int32) : Int64 := if k.1 = 0 then 4611686018427387904 else if n = 0 then un k.2.1 else if n = 1 then un k.2.2.1 else if n = 2 then k.2.2.2.1 else if n = 3 then k.2.2.2.2.1 else if n = 4 then k.2.2.2.2.2.1 else if n = 5 then k.2.2.2.2.2.2.1 else if n = 6 then k.2.2.2.2.2.2.2.toInt64 else 4611686018427387904
theorem ek_told {n : Int32} (h : P a = true) : f_K_told (ew w P kc) a n = some (kTold (kc a) n, ew w P kc) := by
  unfold f_K_told kTold
  simp only [ek_r0 h, ek_r1 h, ek_r2 h, ek_r3 h, ek_r4 h, ek_r5 h, ek_r6 h, ek_r7 h, un_eq, Option.bind_some]
  by_cases h0 : (kc a).1 = 0
  · rw [if_neg (fun q => q h0), if_pos h0]
  · rw [if_pos h0, if_neg h0]
    split
    · rfl
    split
    · rfl
    split
    · rfl
    split
    · rfl
    split
    · rfl
    split
    · rfl
    split
    · rfl
    · rfl
end TG
