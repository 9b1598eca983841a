section S6
variable {g : Nat} {v : IV} {kc kk : Nat → KV}
theorem okI_neg (ho : okI v) : v.2.2.1 < 0 ↔ v.2.2.1 = -1 := okI_b ho
theorem rwt_in {j r : Nat} (ho : okI v) (hj : 1 ≤ j) (hj2 : j ≤ 24) (hr : r < 10) : rwt j v.2.1 v.2.2.1 kk (10 * j + r) = gpv v kk (kk 258) (kk 259) r := by
  have hA := ho.1.2
  have c0 : rcp 0 (10 * j) 10 kk (10 * j + r) = kk r := by
    unfold rcp
    rw [if_pos (by omega), show 0 + (10 * j + r - 10 * j) = r by omega]
  have c8 : rcp 0 (10 * j) 10 kk 258 = kk 258 := by unfold rcp; rw [if_neg (by omega)]
  have c9 : rcp 0 (10 * j) 10 kk 259 = kk 259 := by unfold rcp; rw [if_neg (by omega)]
  unfold rwt gpv
  simp only [if_neg ho.1.1]
  by_cases e : v.2.2.1 = -1
  · simp only [if_pos ((okI_neg ho).mpr e), if_pos e]
    by_cases q : r = v.2.1.toNatClampNeg
    · rw [if_pos q, q, va_up_self, c8]
    · rw [if_neg q, va_up_ne _ _ (by omega), c0]
  · have hB : v.2.2.1.toNatClampNeg < 6 := by
      rcases ho.2 with z | ⟨-, z⟩
      · exact absurd z e
      · exact z
    simp only [if_neg (fun z => e ((okI_neg ho).mp z)), if_neg e]
    by_cases q2 : r = v.2.2.1.toNatClampNeg
    · rw [if_pos q2, q2, va_up_self, va_up_ne _ _ (by omega), c9]
    · rw [if_neg q2, va_up_ne _ _ (by omega)]
      by_cases q : r = v.2.1.toNatClampNeg
      · rw [if_pos q, q, va_up_self, c8]
      · rw [if_neg q, va_up_ne _ _ (by omega), c0]
theorem a_or (ho : okI v) : (v.2.1 < 0 ∨ v.2.1.toNatClampNeg < 6) ∧ (v.2.2.1 < 0 ∨ v.2.2.1.toNatClampNeg < 6) := ⟨Or.inr ho.1.2, by
  rcases ho.2 with z | ⟨-, z⟩
  · exact Or.inl ((okI_neg ho).mpr z)
  · exact Or.inr z⟩
/-- parting, as the reference does it, cell by cell -/
theorem rp_e {j : Nat} (ho : okI v) (hj : j < 24) (hk : k01 kk) {c1 c2 : Bool × KV × KV} (h1 : rCm v.1 (rH v.1) (kk 256) (kk 257) = c1) (h2 : rCm v.1 (nH (rH v.1)) (kk 256) (kk 257) = c2) {kk' : Nat → KV} (hkk : rpE v.1 v.2.1 v.2.2.1 (kk 256) (kk 257) (rpW j v.1 v.2.1 v.2.2.1 kk) = kk') : k01 kk' ∧ (c2.1 = true → ∀ r, r < 10 → kk' r = gpv v kk c2.2.1 c2.2.2 r) ∧ (c1.1 = true → ∀ r, r < 10 → kk' (10 * (j + 1) + r) = gpv v kk c1.2.1 c1.2.2 r) ∧ (∀ a, 10 ≤ a → a < 256 → (a < 10 * (j + 1) ∨ 10 * (j + 1) + 10 ≤ a) → kk' a = kk a) ∧ (c1.1 = false → ∀ a, 10 ≤ a → a < 256 → kk' a = kk a) := by
  have hA := ho.1.2
  have hab := a_or ho
  have kc1 := hk.rcm v.1 (rH v.1) 256 257
  have t1 := rCm_1 v.1 (rH v.1) (kk 256) (kk 257)
  have t2 := rCm_1 v.1 (nH (rH v.1)) (kk 256) (kk 257)
  have v2 : (c2.2.1.1 = 0 ∨ c2.2.1.1 = 1) ∧ (c2.2.2.1 = 0 ∨ c2.2.2.1 = 1) := by
    rw [← h2]
    refine ⟨?_, ?_⟩
    · rcases t2.1 with q | q <;> rw [q]
      · exact hk _
      · exact Or.inr rfl
    · rcases t2.2 with q | q <;> rw [q]
      · exact hk _
      · exact Or.inr rfl
  have eW : rpW j v.1 v.2.1 v.2.2.1 kk = if c1.1 = true then rwt (j + 1) v.2.1 v.2.2.1 (up2 kk c1) else up2 kk c1 := by
    unfold rpW
    rw [h1]
  rw [h1] at kc1
  have W1 : k01 (rpW j v.1 v.2.1 v.2.2.1 kk) := by
    rw [eW]
    split
    · exact k01_rwt kc1 _ _ _
    · exact kc1
  have Wn : ∀ r, r < 10 → rpW j v.1 v.2.1 v.2.2.1 kk r = kk r := fun r hr => by
    rw [eW]
    split
    · rw [rwt_o hab.1 hab.2 (by omega), up2_o (by omega)]
    · rw [up2_o (by omega)]
  have Ww : c1.1 = true → ∀ r, r < 10 → rpW j v.1 v.2.1 v.2.2.1 kk (10 * (j + 1) + r) = gpv v kk c1.2.1 c1.2.2 r := fun q r hr => by
    rw [eW, if_pos q, rwt_in ho (by omega) (by omega) hr, up2_8, up2_9]
    exact gpv_congr (up2_o (by omega))
  have Wo : ∀ a, 10 ≤ a → a < 256 → (a < 10 * (j + 1) ∨ 10 * (j + 1) + 10 ≤ a) → rpW j v.1 v.2.1 v.2.2.1 kk a = kk a := fun a a1 a2 a3 => by
    rw [eW]
    split
    · rw [rwt_o hab.1 hab.2 (by omega), up2_o (by omega)]
    · rw [up2_o (by omega)]
  have Wf : c1.1 = false → ∀ a, 10 ≤ a → a < 256 → rpW j v.1 v.2.1 v.2.2.1 kk a = kk a := fun q a a1 a2 => by
    rw [eW, if_neg (by rw [q]; decide), up2_o (by omega)]
  generalize rpW j v.1 v.2.1 v.2.2.1 kk = kw at *
  have kU2 : k01 (up2 kw c2) := (W1.up v2.1).up v2.2
  have eE : kk' = if c2.1 = true then (if v.2.2.1 < 0 then va_up (up2 kw c2) v.2.1.toNatClampNeg c2.2.1 else va_up (va_up (up2 kw c2) v.2.1.toNatClampNeg c2.2.1) v.2.2.1.toNatClampNeg c2.2.2) else up2 kw c2 := by
    rw [← hkk]
    unfold rpE
    rw [h2]
  have E1 : k01 kk' := by
    rw [eE]
    split
    · split
      · exact kU2.up v2.1
      · exact (kU2.up v2.1).up v2.2
    · exact kU2
  have Eo : ∀ a, 10 ≤ a → a < 256 → kk' a = kw a := fun a a1 a2 => by
    rw [eE]
    split
    · split
      · rw [va_up_ne _ _ (by omega), up2_o (by omega)]
      · rename_i q
        have hB := hab.2.resolve_left q
        rw [va_up_ne _ _ (by omega), va_up_ne _ _ (by omega), up2_o (by omega)]
    · rw [up2_o (by omega)]
  refine ⟨E1, fun q r hr => ?_, fun q r hr => ?_, fun a a1 a2 a3 => ?_, fun q a a1 a2 => ?_⟩
  · rw [eE, if_pos q]
    unfold gpv
    by_cases e : v.2.2.1 = -1
    · rw [if_pos ((okI_neg ho).mpr e), if_pos e]
      by_cases z : r = v.2.1.toNatClampNeg
      · rw [if_pos z, z, va_up_self]
      · rw [if_neg z, va_up_ne _ _ z, up2_o (by omega), Wn r hr]
    · rw [if_neg (fun z => e ((okI_neg ho).mp z)), if_neg e]
      by_cases z2 : r = v.2.2.1.toNatClampNeg
      · rw [if_pos z2, z2, va_up_self]
      · rw [if_neg z2, va_up_ne _ _ z2]
        by_cases z : r = v.2.1.toNatClampNeg
        · rw [if_pos z, z, va_up_self]
        · rw [if_neg z, va_up_ne _ _ z, up2_o (by omega), Wn r hr]
  · rw [Eo _ (by omega) (by omega), Ww q r hr]
  · rw [Eo _ a1 a2, Wo a a1 a2 a3]
  · rw [Eo _ a1 a2, Wf q a a1 a2]
/-- what comes of a step on both sides -/
def OUT (g : Nat) (ii : Nat → IV) (P : Int32 × (Nat → Int32) × Int32 × (Nat → KV)) (Q : Bool × (Nat → KV) × Int32 × Int32 × Nat × (Nat → Int32)) : Prop :=
  P.2.2.1 = Q.2.2.2.1 ∧
  ((Q.1 = true ∧ ∃ p' q', P.1 = Int32.ofNat p' ∧ Q.2.2.1 = Int32.ofNat p' ∧ p' < 60 ∧ AL g P.2.2.2 Q.2.1 ∧ WT g ii P.2.1 P.2.2.1 P.2.2.2 Q.2.1 Q.2.2.2.2.1 Q.2.2.2.2.2 q' p')
  ∨ (Q.1 = false ∧ Q.2.2.2.2.1 = 0 ∧ P.1 = -1 ∧ ∃ q' B, WT g ii P.2.1 P.2.2.1 P.2.2.2 Q.2.1 0 Q.2.2.2.2.2 q' B)
  ∨ (Q.1 = false ∧ (1 ≤ Q.2.2.2.2.1 ∧ Q.2.2.2.2.1 ≤ 24) ∧ k01 Q.2.1 ∧ ∃ p' q', P.1 = Int32.ofNat p' ∧ Q.2.2.2.2.2 Q.2.2.2.2.1 = Int32.ofNat p' ∧ p' < 60 ∧ AL g P.2.2.2 (rcp (10 * Q.2.2.2.2.1) 0 10 Q.2.1) ∧ WT g ii P.2.1 P.2.2.1 P.2.2.2 (rcp (10 * Q.2.2.2.2.1) 0 10 Q.2.1) (Q.2.2.2.2.1 - 1) Q.2.2.2.2.2 q' p'))
theorem OUT_go {ii : Nat → IV} {p' j' : Nat} {wt' ws' : Nat → Int32} {en : Int32} {kc' kk' : Nat → KV} {q' : Nat → Nat} (hp : p' < 60) (h1 : AL g kc' kk') (h2 : WT g ii wt' en kc' kk' j' ws' q' p') : OUT g ii (Int32.ofNat p', wt', en, kc') (true, kk', Int32.ofNat p', en, j', ws') := ⟨rfl, Or.inl ⟨rfl, p', q', rfl, rfl, hp, h1, h2⟩⟩
theorem jump_pl {i : Nat} {f : Int32} (hi : i < 24) (h1 : (1 : Int32) ≤ f) (h2 : f ≤ 23) : ∃ p', i < p' ∧ p' < 60 ∧ Int32.ofNat i + 1 + f = Int32.ofNat p' := by
  have n0 : ¬ f < 0 := i32_not_lt (Int32.le_trans (by decide) h1)
  have e := i32_of6 n0
  have hf : f.toNatClampNeg ≤ 23 := by
    have a : f.toNatClampNeg = f.toInt.toNat := rfl
    rw [Int32.le_iff_toInt_le, show (23 : Int32).toInt = 23 by decide] at h2
    omega
  refine ⟨i + 1 + f.toNatClampNeg, by omega, by omega, ?_⟩
  rw [Int32.ofNat_add, Int32.ofNat_add, ← e]
  rfl
theorem OUT_stop {ii : Nat → IV} {j : Nat} {wt ws : Nat → Int32} {en pl : Int32} {q : Nat → Nat} {B : Nat} (hw : WT g ii wt en kc kk j ws q B) (hv : ∀ i, i < 24 → okV (ii i)) : OUT g ii ((rsm g ii wt kc).1, (rsm g ii wt kc).2.1, en, (rsm g ii wt kc).2.2) (false, kk, pl, en, j, ws) := by
  refine ⟨rfl, Or.inr ?_⟩
  by_cases hj : j = 0
  · subst hj
    have e : rsm g ii wt kc = (-1, wt, kc) := by unfold rsm; rw [hw.none]
    rw [e]
    exact Or.inl ⟨rfl, rfl, rfl, q, B, hw⟩
  · obtain ⟨e1, a1, w1⟩ := hw.res (by omega)
    have ij := hw.inc j (by omega) (by omega)
    have ws1 := hw.wsq j (by omega) (by omega)
    have vj := (hv (q j) ij.2.1).2.2.2.2 ws1.2
    obtain ⟨p', l1, l2, e2⟩ := jump_pl ij.2.1 vj.1 vj.2
    have e : rsm g ii wt kc = (Int32.ofNat (q j) + 1 + (ii (q j)).2.2.2.2, upd wt (q j) 0, kcp (g + 30) (g + 61 + 13 * q j) 10 kc) := by unfold rsm; rw [e1]
    rw [e]
    exact Or.inr ⟨rfl, ⟨by show 1 ≤ j; omega, hw.j_le.2⟩, hw.kk1, p', q, e2, by show ws j = _; rw [ws1.1, e2], l2, a1, w1.mono (by omega)⟩
end S6
