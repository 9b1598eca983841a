theorem n256 : (256 : Int32).toNatClampNeg = 256 := by decide
theorem n257 : (257 : Int32).toNatClampNeg = 257 := by decide
theorem n258 : (258 : Int32).toNatClampNeg = 258 := by decide
theorem n259 : (259 : Int32).toNatClampNeg = 259 := by decide
theorem ok256 : okR 256 := ⟨by decide, by decide⟩
theorem ok257 : okR 257 := ⟨by decide, by decide⟩
theorem ok258 : okR 258 := ⟨by decide, by decide⟩
theorem ok259 : okR 259 := ⟨by decide, by decide⟩
def rlw (x : Int32) : Nat → Int32 → Int32 → Int32
  | 0, _, m => m
  | n + 1, k, m => if ¬ ((x >>> (k &&& 31)) &&& (1 : Int32)) = (1 : Int32) then m else rlw x n (k + 1) (m ||| ((1 : Int32) <<< (k &&& 31)))
def rLow (k j : KV) : Int32 := rlw (k.2.1 &&& j.2.1) 32 0 0
theorem i32_succ40 : ∀ r, r < 40 → Int32.ofNat r + 1 = Int32.ofNat (r + 1) := by decide
theorem i32_le32 : ∀ r, r < 40 → (((32 : Int32) ≤ Int32.ofNat r) ↔ 32 ≤ r) := by decide
def rbs (s : KV) (x y : Int64) : KV := if x < (-2147483648 : Int64) then s else if (2147483648 : Int64) ≤ y then s else kS s x y
def rKn (s : KV) (m v : Int32) : KV := kB s m (v &&& m)
def rSh (op : Int32) (k j s : KV) : KV := if op = 7 then rKn s ((k.2.1 <<< ((j.2.2.2.1.toInt32 &&& 31) &&& 31)) ||| (((-1 : Int32) <<< ((j.2.2.2.1.toInt32 &&& 31) &&& 31)) ^^^ (-1 : Int32))) (k.2.2.1 <<< ((j.2.2.2.1.toInt32 &&& 31) &&& 31)) else if op = 8 then rKn s (ush k.2.1 (j.2.2.2.1.toInt32 &&& 31) ||| (ush (-1 : Int32) (j.2.2.2.1.toInt32 &&& 31) ^^^ (-1 : Int32))) (ush k.2.2.1 (j.2.2.2.1.toInt32 &&& 31)) else rKn s ((k.2.1 >>> ((j.2.2.2.1.toInt32 &&& 31) &&& 31)) ||| 0) (k.2.2.1 >>> ((j.2.2.2.1.toInt32 &&& 31) &&& 31))
def rBit (op : Int32) (k j s : KV) : KV :=
  if op = 1 then rKn s (rLow k j) (k.2.2.1 + j.2.2.1) else if op = 2 then rKn s (rLow k j) (k.2.2.1 - j.2.2.1) else if op = 3 then rKn s (rLow k j) (k.2.2.1 * j.2.2.1)
  else if op = 4 then rKn s (((k.2.1 &&& j.2.1) ||| (k.2.1 &&& (k.2.2.1 ^^^ (-1 : Int32)))) ||| (j.2.1 &&& (j.2.2.1 ^^^ (-1 : Int32)))) (k.2.2.1 &&& j.2.2.1)
  else if op = 5 then rKn s (((k.2.1 &&& j.2.1) ||| k.2.2.1) ||| j.2.2.1) (k.2.2.1 ||| j.2.2.1)
  else if op = 6 then rKn s (k.2.1 &&& j.2.1) (k.2.2.1 ^^^ j.2.2.1)
  else if (9 : Int32) < op then s else if kExact j = true then rSh op k j s else s
def rBo (op : Int32) (k j s : KV) : KV :=
  if op = 1 then rbs (if (4294967295 : Int64) < k.2.2.2.2.1 + j.2.2.2.2.1 then s else kU s (k.2.2.2.1 + j.2.2.2.1) (k.2.2.2.2.1 + j.2.2.2.2.1)) (k.2.2.2.2.2.1 + j.2.2.2.2.2.1) (k.2.2.2.2.2.2.1 + j.2.2.2.2.2.2.1)
  else if op = 2 then rbs (if k.2.2.2.1 < j.2.2.2.2.1 then s else kU s (k.2.2.2.1 - j.2.2.2.2.1) (k.2.2.2.2.1 - j.2.2.2.1)) (k.2.2.2.2.2.1 - j.2.2.2.2.2.2.1) (k.2.2.2.2.2.2.1 - j.2.2.2.2.2.1)
  else if op = 3 then (if k.2.2.2.2.1 = 0 then kU s (k.2.2.2.1 * j.2.2.2.1) (k.2.2.2.2.1 * j.2.2.2.2.1) else if (4294967295 : Int64) / k.2.2.2.2.1 < j.2.2.2.2.1 then s else kU s (k.2.2.2.1 * j.2.2.2.1) (k.2.2.2.2.1 * j.2.2.2.2.1))
  else if op = 4 then kU s s.2.2.2.1 (if j.2.2.2.2.1 < k.2.2.2.2.1 then j.2.2.2.2.1 else k.2.2.2.2.1)
  else if op = 5 then kU s (if j.2.2.2.1 < k.2.2.2.1 then k.2.2.2.1 else j.2.2.2.1) s.2.2.2.2.1
  else if op = 8 ∧ kExact j = true then kU s (k.2.2.2.1 >>> ((j.2.2.2.1.toInt32 &&& 31).toInt64 &&& 63)) (k.2.2.2.2.1 >>> ((j.2.2.2.1.toInt32 &&& 31).toInt64 &&& 63))
  else if op = 9 ∧ kExact j = true then rbs s (k.2.2.2.2.2.1 >>> ((j.2.2.2.1.toInt32 &&& 31).toInt64 &&& 63)) (k.2.2.2.2.2.2.1 >>> ((j.2.2.2.1.toInt32 &&& 31).toInt64 &&& 63))
  else if op = 10 then kU s (k.2.2.2.1 / j.2.2.2.2.1) (k.2.2.2.2.1 / j.2.2.2.1)
  else if op = 11 then kU s 0 (if j.2.2.2.2.1 - 1 < k.2.2.2.2.1 then j.2.2.2.2.1 - 1 else k.2.2.2.2.1)
  else s
def rOp (op : Int32) (k j : KV) : KV := rBo op k j (rBit op k j kNothing)
def rSa (op : Int32) (k j s : KV) : KV := if op = 1 then (if kExact j = true then (if (20 : Int64) < j.2.2.2.1 then s else if (4294967295 : Int64) < k.2.2.2.2.1 + j.2.2.2.1 then s else kF s (if k.2.2.2.2.2.2.2 - j.2.2.2.1.toInt32 ≤ 0 then 0 else k.2.2.2.2.2.2.2 - j.2.2.2.1.toInt32)) else s) else s
section R3
variable {w : xw} {b : Nat} {th ct : Int32} {po pa pb pn pf : Nat → Int32} {ln : Int32} {bt : Nat → Int32} {kk : Nat → KV} {pl st en wg : Int32} {ws : Nat → Int32} {rc : Int32} {rg sk : Nat → Int32}
theorem er_lw {x : Int32} : ∀ (n i fu : Nat) (m : Int32), i + n = 32 → n < fu → f_R_lowest_b22 fu (rb w b th ct po pa pb pn pf ln bt kk pl st en wg ws rc rg sk) x m (Int32.ofNat i) = some (rlw x n (Int32.ofNat i) m, rb w b th ct po pa pb pn pf ln bt kk pl st en wg ws rc rg sk) := by
  intro n
  induction n with
  | zero =>
    intro i fu m hi hf
    obtain ⟨fu, rfl⟩ : ∃ q, fu = q + 1 := ⟨fu - 1, by omega⟩
    unfold f_R_lowest_b22
    rw [xfix_s]
    unfold f_R_lowest_s22 f_R_lowest_b49
    rw [if_pos ((i32_le32 i (by omega)).mpr (by omega))]
    rfl
  | succ n ih =>
    intro i fu m hi hf
    obtain ⟨fu, rfl⟩ : ∃ q, fu = q + 1 := ⟨fu - 1, by omega⟩
    unfold f_R_lowest_b22
    rw [xfix_s]
    unfold f_R_lowest_s22 f_R_lowest_b49
    rw [if_neg (fun q => absurd ((i32_le32 i (by omega)).mp q) (by omega))]
    have e : rlw x (n + 1) (Int32.ofNat i) m = if ¬ ((x >>> (Int32.ofNat i &&& 31)) &&& (1 : Int32)) = (1 : Int32) then m else rlw x n (Int32.ofNat (i + 1)) (m ||| ((1 : Int32) <<< (Int32.ofNat i &&& 31))) := by
      rw [← i32_succ40 i (by omega)]
      rfl
    rw [e]
    by_cases h : ((x >>> (Int32.ofNat i &&& 31)) &&& (1 : Int32)) = (1 : Int32)
    · rw [if_neg (fun q => q h), if_neg (fun q => q h)]
      simp only [Option.bind_some]
      rw [i32_succ40 i (by omega)]
      have := ih (i + 1) fu (m ||| ((1 : Int32) <<< (Int32.ofNat i &&& 31))) (by omega) (by omega)
      unfold f_R_lowest_b22 at this
      exact this
    · rw [if_pos h, if_pos h]
theorem er_lowest : f_R_lowest (rb w b th ct po pa pb pn pf ln bt kk pl st en wg ws rc rg sk) b = some (rLow (kk 256) (kk 257), rb w b th ct po pa pb pn pf ln bt kk pl st en wg ws rc rg sk) := by
  unfold f_R_lowest
  simp only [rr_9, rr_10, rr_11, rr_12, rr_13, rr_14, rr_15, rr_16, rk_0 ok256.1 ok256.2, rk_1 ok256.1 ok256.2, rk_2 ok256.1 ok256.2, rk_3 ok256.1 ok256.2, rk_4 ok256.1 ok256.2, rk_5 ok256.1 ok256.2, rk_6 ok256.1 ok256.2, rk_7 ok256.1 ok256.2, rk_0 ok257.1 ok257.2, rk_1 ok257.1 ok257.2, rk_2 ok257.1 ok257.2, rk_3 ok257.1 ok257.2, rk_4 ok257.1 ok257.2, rk_5 ok257.1 ok257.2, rk_6 ok257.1 ok257.2, rk_7 ok257.1 ok257.2, n256, n257, n258, n259, Option.bind_some]
  exact er_lw 32 0 4000 0 rfl (by decide)
theorem er_knows {m v : Int32} : f_R_knows (rb w b th ct po pa pb pn pf ln bt kk pl st en wg ws rc rg sk) b m v = some ((), rb w b th ct po pa pb pn pf ln bt (va_up kk 258 (rKn (kk 258) m v)) pl st en wg ws rc rg sk) := by
  unfold f_R_knows
  simp only [rr_9, rr_10, rr_11, rr_12, rr_13, rr_14, rr_15, rr_16, rw_1 ok258.1 ok258.2, rw_2 ok258.1 ok258.2, n256, n257, n258, n259, Option.bind_some, va_up_self, va_up_up, va_up_ne _ _ (show (256 : Nat) ≠ 258 by decide), va_up_ne _ _ (show (256 : Nat) ≠ 259 by decide), va_up_ne _ _ (show (257 : Nat) ≠ 258 by decide), va_up_ne _ _ (show (257 : Nat) ≠ 259 by decide), va_up_ne _ _ (show (258 : Nat) ≠ 259 by decide), va_up_ne _ _ (show (259 : Nat) ≠ 258 by decide)]
  rfl
theorem er_bit {op : Int32} : f_R_bitsOf (rb w b th ct po pa pb pn pf ln bt kk pl st en wg ws rc rg sk) b op = some ((), rb w b th ct po pa pb pn pf ln bt (va_up kk 258 (rBit op (kk 256) (kk 257) (kk 258))) pl st en wg ws rc rg sk) := by
  unfold f_R_bitsOf f_R_bitsOf_b33 f_R_bitsOf_b63 f_R_bitsOf_b257 f_R_bitsOf_b310 f_R_bitsOf_b348 f_R_bitsOf_b351 rBit rSh
  simp only [rr_9, rr_10, rr_11, rr_12, rr_13, rr_14, rr_15, rr_16, rck, rk_0 ok256.1 ok256.2, rk_1 ok256.1 ok256.2, rk_2 ok256.1 ok256.2, rk_3 ok256.1 ok256.2, rk_4 ok256.1 ok256.2, rk_5 ok256.1 ok256.2, rk_6 ok256.1 ok256.2, rk_7 ok256.1 ok256.2, rk_0 ok257.1 ok257.2, rk_1 ok257.1 ok257.2, rk_2 ok257.1 ok257.2, rk_3 ok257.1 ok257.2, rk_4 ok257.1 ok257.2, rk_5 ok257.1 ok257.2, rk_6 ok257.1 ok257.2, rk_7 ok257.1 ok257.2, n256, n257, n258, n259, er_lowest, er_knows, er_exact ok257, Option.bind_some]
  by_cases h1 : op = 1
  · simp only [if_pos h1, if_neg (not_not_intro h1)]
  simp only [if_neg h1, if_pos h1]
  by_cases h2 : op = 2
  · simp only [if_pos h2, if_neg (not_not_intro h2)]
  simp only [if_neg h2, if_pos h2]
  by_cases h3 : op = 3
  · simp only [if_pos h3, if_neg (not_not_intro h3)]
  simp only [if_neg h3, if_pos h3]
  by_cases h4 : op = 4
  · simp only [if_pos h4, if_neg (not_not_intro h4)]
  simp only [if_neg h4, if_pos h4]
  by_cases h5 : op = 5
  · simp only [if_pos h5, if_neg (not_not_intro h5)]
  simp only [if_neg h5, if_pos h5]
  by_cases h6 : op = 6
  · simp only [if_pos h6, if_neg (not_not_intro h6)]
  simp only [if_neg h6, if_pos h6]
  by_cases h9 : (9 : Int32) < op
  · simp only [if_pos h9, va_up_id]
  simp only [if_neg h9]
  cases hx : kExact (kk 257)
  · rw [if_pos (by rfl), if_neg (by decide), va_up_id]
  · rw [if_neg (by decide), if_pos rfl]
    by_cases h7 : op = 7
    · simp only [if_pos h7, if_neg (not_not_intro h7)]
    simp only [if_neg h7, if_pos h7]
    by_cases h8 : op = 8
    · simp only [if_pos h8, if_neg (not_not_intro h8)]; rfl
    simp only [if_neg h8, if_pos h8]
theorem er_bound {x y : Int64} : f_R_bound (rb w b th ct po pa pb pn pf ln bt kk pl st en wg ws rc rg sk) b x y = some ((), rb w b th ct po pa pb pn pf ln bt (va_up kk 258 (kU (kk 258) x y)) pl st en wg ws rc rg sk) := by
  unfold f_R_bound
  simp only [rr_9, rr_10, rr_11, rr_12, rr_13, rr_14, rr_15, rr_16, rw_3 ok258.1 ok258.2, rw_4 ok258.1 ok258.2, n256, n257, n258, n259, Option.bind_some, va_up_self, va_up_up, va_up_ne _ _ (show (256 : Nat) ≠ 258 by decide), va_up_ne _ _ (show (256 : Nat) ≠ 259 by decide), va_up_ne _ _ (show (257 : Nat) ≠ 258 by decide), va_up_ne _ _ (show (257 : Nat) ≠ 259 by decide), va_up_ne _ _ (show (258 : Nat) ≠ 259 by decide), va_up_ne _ _ (show (259 : Nat) ≠ 258 by decide)]
  rfl
theorem er_bsg {x y : Int64} : f_R_boundSigned (rb w b th ct po pa pb pn pf ln bt kk pl st en wg ws rc rg sk) b x y = some ((), rb w b th ct po pa pb pn pf ln bt (va_up kk 258 (rbs (kk 258) x y)) pl st en wg ws rc rg sk) := by
  unfold f_R_boundSigned f_R_boundSigned_b34 rbs
  simp only [rr_9, rr_10, rr_11, rr_12, rr_13, rr_14, rr_15, rr_16, rw_5 ok258.1 ok258.2, rw_6 ok258.1 ok258.2, n256, n257, n258, n259, Option.bind_some, va_up_self, va_up_up, va_up_ne _ _ (show (256 : Nat) ≠ 258 by decide), va_up_ne _ _ (show (256 : Nat) ≠ 259 by decide), va_up_ne _ _ (show (257 : Nat) ≠ 258 by decide), va_up_ne _ _ (show (257 : Nat) ≠ 259 by decide), va_up_ne _ _ (show (258 : Nat) ≠ 259 by decide), va_up_ne _ _ (show (259 : Nat) ≠ 258 by decide)]
  by_cases h1 : x < (-2147483648 : Int64)
  · rw [if_pos h1, if_pos h1, va_up_id]
  · rw [if_neg h1, if_neg h1]
    by_cases h2 : (2147483648 : Int64) ≤ y
    · rw [if_pos h2, if_pos h2, va_up_id]
    · rw [if_neg h2, if_neg h2]; rfl
theorem er_bo {op : Int32} (h10 : op = 10 → ¬ (kk 257).2.2.2.2.1 = 0 ∧ ¬ (kk 257).2.2.2.1 = 0) : f_R_boundsOf (rb w b th ct po pa pb pn pf ln bt kk pl st en wg ws rc rg sk) b op = some ((), rb w b th ct po pa pb pn pf ln bt (va_up kk 258 (rBo op (kk 256) (kk 257) (kk 258))) pl st en wg ws rc rg sk) := by
  unfold f_R_boundsOf f_R_boundsOf_b80 f_R_boundsOf_b184 f_R_boundsOf_b267 f_R_boundsOf_b421 f_R_boundsOf_b464 f_R_boundsOf_b543 rBo
  simp only [rr_9, rr_10, rr_11, rr_12, rr_13, rr_14, rr_15, rr_16, rck, rk_0 ok256.1 ok256.2, rk_1 ok256.1 ok256.2, rk_2 ok256.1 ok256.2, rk_3 ok256.1 ok256.2, rk_4 ok256.1 ok256.2, rk_5 ok256.1 ok256.2, rk_6 ok256.1 ok256.2, rk_7 ok256.1 ok256.2, rk_0 ok257.1 ok257.2, rk_1 ok257.1 ok257.2, rk_2 ok257.1 ok257.2, rk_3 ok257.1 ok257.2, rk_4 ok257.1 ok257.2, rk_5 ok257.1 ok257.2, rk_6 ok257.1 ok257.2, rk_7 ok257.1 ok257.2, n256, n257, n258, n259, er_bound, er_bsg, er_exact ok257, rls, rgr, Option.bind_some, va_up_self, va_up_up, va_up_ne _ _ (show (256 : Nat) ≠ 258 by decide), va_up_ne _ _ (show (256 : Nat) ≠ 259 by decide), va_up_ne _ _ (show (257 : Nat) ≠ 258 by decide), va_up_ne _ _ (show (257 : Nat) ≠ 259 by decide), va_up_ne _ _ (show (258 : Nat) ≠ 259 by decide), va_up_ne _ _ (show (259 : Nat) ≠ 258 by decide)]
  by_cases h1 : op = 1
  · simp only [if_pos h1, if_neg (not_not_intro h1)]
    by_cases q : (4294967295 : Int64) < (kk 256).2.2.2.2.1 + (kk 257).2.2.2.2.1
    · simp only [if_pos q]
    · simp only [if_neg q]
  simp only [if_neg h1, if_pos h1]
  by_cases h2 : op = 2
  · simp only [if_pos h2, if_neg (not_not_intro h2)]
    by_cases q : (kk 256).2.2.2.1 < (kk 257).2.2.2.2.1
    · simp only [if_pos q]
    · simp only [if_neg q]
  simp only [if_neg h2, if_pos h2]
  by_cases h3 : op = 3
  · simp only [if_pos h3, if_neg (not_not_intro h3)]
    by_cases q : (kk 256).2.2.2.2.1 = 0
    · simp only [if_pos q]
    · simp only [if_neg q]
      by_cases q2 : (4294967295 : Int64) / (kk 256).2.2.2.2.1 < (kk 257).2.2.2.2.1
      · simp only [if_pos q2, va_up_id]
      · simp only [if_neg q2]
  simp only [if_neg h3, if_pos h3]
  by_cases h4 : op = 4
  · simp only [if_pos h4, if_neg (not_not_intro h4), rw_4 ok258.1 ok258.2, n256, n257, n258, n259, Option.bind_some, va_up_self, va_up_up, va_up_ne _ _ (show (256 : Nat) ≠ 258 by decide), va_up_ne _ _ (show (256 : Nat) ≠ 259 by decide), va_up_ne _ _ (show (257 : Nat) ≠ 258 by decide), va_up_ne _ _ (show (257 : Nat) ≠ 259 by decide), va_up_ne _ _ (show (258 : Nat) ≠ 259 by decide), va_up_ne _ _ (show (259 : Nat) ≠ 258 by decide)]
    rfl
  simp only [if_neg h4, if_pos h4]
  by_cases h5 : op = 5
  · simp only [if_pos h5, if_neg (not_not_intro h5), rw_3 ok258.1 ok258.2, n256, n257, n258, n259, Option.bind_some, va_up_self, va_up_up, va_up_ne _ _ (show (256 : Nat) ≠ 258 by decide), va_up_ne _ _ (show (256 : Nat) ≠ 259 by decide), va_up_ne _ _ (show (257 : Nat) ≠ 258 by decide), va_up_ne _ _ (show (257 : Nat) ≠ 259 by decide), va_up_ne _ _ (show (258 : Nat) ≠ 259 by decide), va_up_ne _ _ (show (259 : Nat) ≠ 258 by decide)]
    rfl
  simp only [if_neg h5, if_pos h5]
  cases hx : kExact (kk 257)
  · simp only [show ¬ (op = 8 ∧ false = true) from fun q => absurd q.2 (by decide), show ¬ (op = 9 ∧ false = true) from fun q => absurd q.2 (by decide), if_false, b01_f, if_true]
    have e8 : ∀ {α : Type} (x : α), (if ¬ op = 8 then x else x) = x := fun x => by split <;> rfl
    have e9 : ∀ {α : Type} (x : α), (if ¬ op = 9 then x else x) = x := fun x => by split <;> rfl
    simp only [e8, e9]
    by_cases ha : op = 10
    · obtain ⟨z1, z2⟩ := h10 ha
      simp only [if_pos ha, if_neg (not_not_intro ha), if_neg z1, if_neg z2]
    simp only [if_neg ha, if_pos ha]
    by_cases hb : op = 11
    · simp only [if_pos hb, if_neg (not_not_intro hb)]
    simp only [if_neg hb, if_pos hb, va_up_id]
  · have b1 : ¬ (b01 true = 0) := by decide
    simp only [and_true]
    by_cases h8 : op = 8
    · simp only [if_neg (not_not_intro h8), if_pos h8, if_neg b1]
    · simp only [if_pos h8, if_neg h8]
      by_cases h9 : op = 9
      · simp only [if_neg (not_not_intro h9), if_pos h9, if_neg b1]
      · simp only [if_pos h9, if_neg h9]
        by_cases ha : op = 10
        · obtain ⟨z1, z2⟩ := h10 ha
          simp only [if_pos ha, if_neg (not_not_intro ha), if_neg z1, if_neg z2]
        simp only [if_neg ha, if_pos ha]
        by_cases hb : op = 11
        · simp only [if_pos hb, if_neg (not_not_intro hb)]
        simp only [if_neg hb, if_pos hb, va_up_id]
end R3
