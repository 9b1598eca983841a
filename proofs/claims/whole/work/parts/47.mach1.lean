/-! The machine: what one instruction does, what a run does; the reference's run is it. -/
def u32 (y : Int32) : Int64 := y.toInt64 &&& (4294967295 : Int64)
def yM (v : IV) (rg : Nat → Int32) : Int32 := if 0 ≤ v.2.2.1 then rg v.2.2.1.toNatClampNeg else v.2.2.2.1
def hoB (op x y : Int32) : Bool := if op = 16 then decide (x = y) else if op = 17 then decide (¬ x = y) else if op = 18 then decide (u32 x < u32 y) else if op = 19 then decide (¬ u32 x < u32 y) else if op = 20 then decide (x < y) else decide (¬ x < y)
def rkB (op x y : Int32) : Int32 := if op = 0 then y else if op = 1 then x + y else if op = 2 then x - y else if op = 3 then x * y else if op = 4 then x &&& y else if op = 5 then x ||| y else if op = 6 then x ^^^ y else if op = 7 then x <<< ((y &&& 31) &&& 31) else if op = 8 then (x.toUInt32 >>> ((y &&& (31 : Int32)).toUInt32 &&& Int32.toUInt32 31)).toInt32 else if op = 9 then x >>> ((y &&& 31) &&& 31) else if op = 10 then (u32 x / u32 y).toInt32 else (u32 x - u32 x / u32 y * u32 y).toInt32
/-- bytes p+n-1 .. p, the last one lowest, behind what acc holds -/
def rbA (bt : Nat → Int32) (p : Nat) : Nat → Int32 → Int32
  | 0, acc => acc
  | n + 1, acc => rbA bt p n ((acc <<< ((8 : Int32) &&& 31)) ||| bt (p + n))
def frM (n y : Int32) : Int64 := u32 y + n.toInt64
/-- one instruction: a fault's kind, or whether it goes by its offset, registers, stack -/
def mstY (ln : Int32) (bt : Nat → Int32) (op a n f y : Int32) (rg sk : Nat → Int32) : Int32 ⊕ (Bool × (Nat → Int32) × (Nat → Int32)) :=
  if op = 22 then .inr (true, rg, sk)
  else if (16 : Int32) ≤ op then .inr (hoB op (rg a.toNatClampNeg) y, rg, sk)
  else if op = 15 then .inr (decide (¬ frM n y ≤ ln.toInt64), rg, sk)
  else if op = 13 then (if y < 0 ∨ (3 : Int32) < y then .inl 3 else .inr (false, rg, upd sk y.toNatClampNeg (rg a.toNatClampNeg)))
  else if op = 12 then (if y < 0 ∨ (3 : Int32) < y then .inl 3 else .inr (false, upd rg a.toNatClampNeg (sk y.toNatClampNeg), sk))
  else if op = 14 then (if frM n y + f.toInt64 ≤ ln.toInt64 then .inr (false, upd rg a.toNatClampNeg (rbA bt (frM n y).toInt32.toNatClampNeg f.toNatClampNeg 0), sk) else .inl 3)
  else if (op = 10 ∨ op = 11) ∧ y = 0 then .inl 2
  else .inr (false, upd rg a.toNatClampNeg (rkB op (rg a.toNatClampNeg) y), sk)
def mstep (ln : Int32) (bt : Nat → Int32) (v : IV) (rg sk : Nat → Int32) : Int32 ⊕ (Bool × (Nat → Int32) × (Nat → Int32)) := mstY ln bt v.1 v.2.1 v.2.2.2.1 v.2.2.2.2 (yM v rg) rg sk
/-- kind, answer, registers, stack, instructions made -/
abbrev MV : Type := Int32 × Int32 × (Nat → Int32) × (Nat → Int32) × Int32
def mrun (c : Nat) (ii : Nat → IV) (ln : Int32) (bt : Nat → Int32) : Nat → Nat → (Nat → Int32) → (Nat → Int32) → Int32 → MV
  | 0, _, rg, sk, rc => (1, 0, rg, sk, rc)
  | n + 1, p, rg, sk, rc =>
    if c ≤ p then (1, 0, rg, sk, rc)
    else if (ii p).1 = 23 then (0, rg 0, rg, sk, rc + 1)
    else match mstep ln bt (ii p) rg sk with
      | .inl k => (k, 0, rg, sk, rc + 1)
      | .inr (j, rg', sk') => mrun c ii ln bt n (if j = true then p + 1 + (ii p).2.2.2.2.toNatClampNeg else p + 1) rg' sk' (rc + 1)
def rI (ln x : Int32) (i : Nat) : Int32 := if i = 1 then ln else if i = 2 then x else 0
theorem u32_bv (y : Int32) : (u32 y).toBitVec = y.toBitVec.setWidth 64 := by
  apply BitVec.eq_of_getLsbD_eq
  intro i hi
  unfold u32
  rw [Int64.toBitVec_and, BitVec.getLsbD_and, Int32.toBitVec_toInt64, BitVec.getLsbD_signExtend, BitVec.getLsbD_setWidth]
  by_cases h : i < 32
  · have hc : ∀ i, i < 32 → (4294967295 : Int64).toBitVec.getLsbD i = true := by decide
    rw [hc i h, if_pos h]
    simp
  · have hc : ∀ i, i < 64 → ¬ i < 32 → (4294967295 : Int64).toBitVec.getLsbD i = false := by decide
    rw [hc i hi h, BitVec.getLsbD_of_ge _ _ (by omega)]
    simp
theorem u32_toInt (y : Int32) : (u32 y).toInt = (y.toBitVec.toNat : Int) := by
  have e : (u32 y).toInt = (u32 y).toBitVec.toInt := rfl
  have hl := y.toBitVec.isLt
  rw [e, u32_bv, BitVec.toInt_eq_toNat_of_lt (by rw [BitVec.toNat_setWidth]; omega), BitVec.toNat_setWidth, Nat.mod_eq_of_lt (by omega)]
theorem u32_0 (y : Int32) : (u32 y = 0) ↔ y = 0 := by
  constructor
  · intro h
    have h2 := u32_toInt y
    rw [h, show (0 : Int64).toInt = 0 by decide] at h2
    apply Int32.toBitVec_inj.mp
    apply BitVec.eq_of_toNat_eq
    show y.toBitVec.toNat = 0
    omega
  · intro h
    rw [h]; decide
theorem rhold {op x y : Int32} (h1 : (16 : Int32) ≤ op) (h2 : op ≤ 21) : f_R_holds op x y = some (b01 (hoB op x y)) := by
  have key : op = 16 ∨ op = 17 ∨ op = 18 ∨ op = 19 ∨ op = 20 ∨ op = 21 := by
    rw [Int32.le_iff_toInt_le] at h1 h2
    have e1 : (16 : Int32).toInt = 16 := by decide
    have e2 : (21 : Int32).toInt = 21 := by decide
    rw [e1] at h1
    rw [e2] at h2
    have q : op.toInt = 16 ∨ op.toInt = 17 ∨ op.toInt = 18 ∨ op.toInt = 19 ∨ op.toInt = 20 ∨ op.toInt = 21 := by omega
    rcases q with q | q | q | q | q | q
    · exact Or.inl (Int32.toInt_inj.mp (q.trans (by decide)))
    · exact Or.inr (Or.inl (Int32.toInt_inj.mp (q.trans (by decide))))
    · exact Or.inr (Or.inr (Or.inl (Int32.toInt_inj.mp (q.trans (by decide)))))
    · exact Or.inr (Or.inr (Or.inr (Or.inl (Int32.toInt_inj.mp (q.trans (by decide))))))
    · exact Or.inr (Or.inr (Or.inr (Or.inr (Or.inl (Int32.toInt_inj.mp (q.trans (by decide)))))))
    · exact Or.inr (Or.inr (Or.inr (Or.inr (Or.inr (Int32.toInt_inj.mp (q.trans (by decide)))))))
  have lt64 : ∀ a b : Int64, (¬ b ≤ a) ↔ a < b := fun a b => Int64.not_le
  have lt32 : ∀ a b : Int32, (¬ b ≤ a) ↔ a < b := fun a b => Int32.not_le
  unfold f_R_holds f_R_holds_b40 f_R_holds_b61 f_R_holds_b76 f_R_holds_b84 hoB
  have d2 : ¬ (2 : Int32) = 0 := by decide
  rw [show (x.toInt64 &&& (4294967295 : Int64)) = u32 x from rfl, show (y.toInt64 &&& (4294967295 : Int64)) = u32 y from rfl]
  rcases key with rfl | rfl | rfl | rfl | rfl | rfl
  · rw [if_neg (show ¬ (20 : Int32) ≤ 16 by decide)]
    by_cases e2 : u32 y ≤ u32 x
    · rw [if_pos e2, if_neg (show ¬ (18 : Int32) ≤ 16 by decide)]
      by_cases e : x = y
      · rw [if_neg (not_not_intro e)]
        subst e
        simp (decide := true)
      · rw [if_pos e]
        simp (decide := true) [e]
    · rw [if_neg e2, if_neg (show ¬ (18 : Int32) ≤ 16 by decide)]
      by_cases e : x = y
      · rw [if_neg (not_not_intro e)]
        subst e
        simp (decide := true)
      · rw [if_pos e]
        simp (decide := true) [e]
  · rw [if_neg (show ¬ (20 : Int32) ≤ 17 by decide)]
    by_cases e2 : u32 y ≤ u32 x
    · rw [if_pos e2, if_neg (show ¬ (18 : Int32) ≤ 17 by decide)]
      by_cases e : x = y
      · rw [if_neg (not_not_intro e)]
        subst e
        simp (decide := true)
      · rw [if_pos e]
        simp (decide := true) [e]
    · rw [if_neg e2, if_neg (show ¬ (18 : Int32) ≤ 17 by decide)]
      by_cases e : x = y
      · rw [if_neg (not_not_intro e)]
        subst e
        simp (decide := true)
      · rw [if_pos e]
        simp (decide := true) [e]
  · rw [if_neg (show ¬ (20 : Int32) ≤ 18 by decide)]
    by_cases e : u32 y ≤ u32 x
    · rw [if_pos e, if_pos (show (18 : Int32) ≤ 18 by decide)]
      have e' := (not_congr (lt64 _ _)).mp (not_not_intro e)
      simp (decide := true) [e']
    · rw [if_neg e, if_pos (show (18 : Int32) ≤ 18 by decide)]
      have e' := (lt64 _ _).mp e
      simp (decide := true) [e']
  · rw [if_neg (show ¬ (20 : Int32) ≤ 19 by decide)]
    by_cases e : u32 y ≤ u32 x
    · rw [if_pos e, if_pos (show (18 : Int32) ≤ 19 by decide)]
      have e' := (not_congr (lt64 _ _)).mp (not_not_intro e)
      simp (decide := true) [e']
    · rw [if_neg e, if_pos (show (18 : Int32) ≤ 19 by decide)]
      have e' := (lt64 _ _).mp e
      simp (decide := true) [e']
  · rw [if_pos (show (20 : Int32) ≤ 20 by decide)]
    by_cases e : y ≤ x
    · rw [if_pos e, if_pos (show (18 : Int32) ≤ 20 by decide)]
      have e' := (not_congr (lt32 _ _)).mp (not_not_intro e)
      simp (decide := true) [e']
    · rw [if_neg e, if_pos (show (18 : Int32) ≤ 20 by decide)]
      have e' := (lt32 _ _).mp e
      simp (decide := true) [e']
  · rw [if_pos (show (20 : Int32) ≤ 21 by decide)]
    by_cases e : y ≤ x
    · rw [if_pos e, if_pos (show (18 : Int32) ≤ 21 by decide)]
      have e' := (not_congr (lt32 _ _)).mp (not_not_intro e)
      simp (decide := true) [e']
    · rw [if_neg e, if_pos (show (18 : Int32) ≤ 21 by decide)]
      have e' := (lt32 _ _).mp e
      simp (decide := true) [e']
theorem rreck {op x y : Int32} (h : ¬ ((op = 10 ∨ op = 11) ∧ y = 0)) (h1 : op ≤ 11) (h0 : ¬ op < 0) : f_R_reckon op x y = some (rkB op x y) := by
  unfold f_R_reckon rkB
  by_cases e0 : op = 0
  · rw [if_pos e0, if_pos e0]
  rw [if_neg e0, if_neg e0]
  by_cases e1 : op = 1
  · rw [if_pos e1, if_pos e1]
  rw [if_neg e1, if_neg e1]
  by_cases e2 : op = 2
  · rw [if_pos e2, if_pos e2]
  rw [if_neg e2, if_neg e2]
  by_cases e3 : op = 3
  · rw [if_pos e3, if_pos e3]
  rw [if_neg e3, if_neg e3]
  by_cases e4 : op = 4
  · rw [if_pos e4, if_pos e4]
  rw [if_neg e4, if_neg e4]
  by_cases e5 : op = 5
  · rw [if_pos e5, if_pos e5]
  rw [if_neg e5, if_neg e5]
  by_cases e6 : op = 6
  · rw [if_pos e6, if_pos e6]
  rw [if_neg e6, if_neg e6]
  by_cases e7 : op = 7
  · rw [if_pos e7, if_pos e7]
  rw [if_neg e7, if_neg e7]
  by_cases e8 : op = 8
  · rw [if_pos e8, if_pos e8]
  rw [if_neg e8, if_neg e8]
  by_cases e9 : op = 9
  · rw [if_pos e9, if_pos e9]
  rw [if_neg e9, if_neg e9]
  by_cases e10 : op = 10
  · rw [if_pos e10, if_pos e10]
    have hy : ¬ (y.toInt64 &&& (4294967295 : Int64)) = 0 := fun q => h ⟨Or.inl e10, (u32_0 y).mp q⟩
    rw [if_neg hy]
    rfl
  rw [if_neg e10, if_neg e10]
  have e11 : op = 11 := by
    rw [Int32.le_iff_toInt_le, show (11 : Int32).toInt = 11 by decide] at h1
    rw [Int32.lt_iff_toInt_lt, show (0 : Int32).toInt = 0 by decide] at h0
    have n0 : ¬ op.toInt = 0 := fun q => e0 (Int32.toInt_inj.mp (q.trans (by decide)))
    have n1 : ¬ op.toInt = 1 := fun q => e1 (Int32.toInt_inj.mp (q.trans (by decide)))
    have n2 : ¬ op.toInt = 2 := fun q => e2 (Int32.toInt_inj.mp (q.trans (by decide)))
    have n3 : ¬ op.toInt = 3 := fun q => e3 (Int32.toInt_inj.mp (q.trans (by decide)))
    have n4 : ¬ op.toInt = 4 := fun q => e4 (Int32.toInt_inj.mp (q.trans (by decide)))
    have n5 : ¬ op.toInt = 5 := fun q => e5 (Int32.toInt_inj.mp (q.trans (by decide)))
    have n6 : ¬ op.toInt = 6 := fun q => e6 (Int32.toInt_inj.mp (q.trans (by decide)))
    have n7 : ¬ op.toInt = 7 := fun q => e7 (Int32.toInt_inj.mp (q.trans (by decide)))
    have n8 : ¬ op.toInt = 8 := fun q => e8 (Int32.toInt_inj.mp (q.trans (by decide)))
    have n9 : ¬ op.toInt = 9 := fun q => e9 (Int32.toInt_inj.mp (q.trans (by decide)))
    have n10 : ¬ op.toInt = 10 := fun q => e10 (Int32.toInt_inj.mp (q.trans (by decide)))
    exact Int32.toInt_inj.mp ((show op.toInt = 11 by omega).trans (by decide))
  unfold f_R_unsignedRest
  have hy : ¬ (y.toInt64 &&& (4294967295 : Int64)) = 0 := fun q => h ⟨Or.inr e11, (u32_0 y).mp q⟩
  rw [if_neg hy]
  rfl
