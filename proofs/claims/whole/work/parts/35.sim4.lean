/-! One step of the two walks. -/
section S5
variable {g : Nat} {v : IV} {kc kk : Nat → KV}
/-- what is told of a and of b, over the rest -/
def gpv (v : IV) (f : Nat → KV) (k1 k2 : KV) (r : Nat) : KV := if v.2.2.1 = -1 then (if r = v.2.1.toNatClampNeg then k1 else f r) else (if r = v.2.2.1.toNatClampNeg then k2 else if r = v.2.1.toNatClampNeg then k1 else f r)
theorem gpv_al {f h : Nat → KV} {k1 k2 j1 j2 : KV} {r : Nat} (hf : al (f r) (h r)) (e1 : k1 = j1) (e2 : k2 = j2) (g1 : GG k1) (g2 : GG k2) : al (gpv v f k1 k2 r) (gpv v h j1 j2 r) := by
  subst e1
  subst e2
  unfold gpv
  split
  · split
    · exact al_refl g1
    · exact hf
  · split
    · exact al_refl g2
    · split
      · exact al_refl g1
      · exact hf
theorem gpv_congr {f h : Nat → KV} {k1 k2 : KV} {r : Nat} (e : f r = h r) : gpv v f k1 k2 r = gpv v h k1 k2 r := by unfold gpv; rw [e]
theorem gpK_in {d r : Nat} (ho : okI v) (hd : g + 47 < d + 3 ∨ d + 13 ≤ g + 46) (hr : r < 10) : gpK g v d kc (d + 3 + r) = gpv v (fun r => kc (d + 3 + r)) (kc (g + 46)) (kc (g + 47)) r := by
  have hA := ho.1.2
  unfold gpK gpv
  by_cases e : v.2.2.1 = -1
  · rw [if_pos e, if_pos e]
    by_cases q : r = v.2.1.toNatClampNeg
    · rw [if_pos q, q, va_up_self]
    · rw [if_neg q, va_up_ne _ _ (by omega)]
  · have hB : v.2.2.1.toNatClampNeg < 6 := by
      rcases ho.2 with z | ⟨-, z⟩
      · exact absurd z e
      · exact z
    rw [if_neg e, if_neg e]
    by_cases q2 : r = v.2.2.1.toNatClampNeg
    · rw [if_pos q2, q2, va_up_self]
    · rw [if_neg q2, va_up_ne _ _ (by omega)]
      by_cases q : r = v.2.1.toNatClampNeg
      · rw [if_pos q, q, va_up_self]
      · rw [if_neg q, va_up_ne _ _ (by omega)]
theorem gpK_out {d a : Nat} (ho : okI v) (ha : a < d + 3 ∨ d + 13 ≤ a) : gpK g v d kc a = kc a := by
  have hA := ho.1.2
  unfold gpK
  by_cases e : v.2.2.1 = -1
  · rw [if_pos e, va_up_ne _ _ (by omega)]
  · have hB : v.2.2.1.toNatClampNeg < 6 := by
      rcases ho.2 with z | ⟨-, z⟩
      · exact absurd z e
      · exact z
    rw [if_neg e, va_up_ne _ _ (by omega), va_up_ne _ _ (by omega)]
theorem tpK_46 : tpK g v kc (g + 46) = kc (g + 30 + 3 + v.2.1.toNatClampNeg) := by
  unfold tpK
  rw [va_up_ne _ _ (by omega), yK_o (by omega), va_up_self]
theorem yK_up (ho : okI v) {k : KV} : yK g v (va_up kc (g + 46) k) (yA g v) = yK g v kc (yA g v) := by
  unfold yK yA
  by_cases e : v.2.2.1 = -1
  · rw [if_pos e, if_pos e, if_pos e, va_up_self, va_up_self]
  · have hB : v.2.2.1.toNatClampNeg < 6 := by
      rcases ho.2 with z | ⟨-, z⟩
      · exact absurd z e
      · exact z
    rw [if_neg e, if_neg e, if_neg e, va_up_ne _ _ (by omega)]
theorem tpK_47 (ho : okI v) : tpK g v kc (g + 47) = yK g v kc (yA g v) := by
  unfold tpK
  rw [va_up_self, yK_up ho]
theorem tpK_o {a : Nat} (h : a < g + 45 ∨ g + 48 ≤ a) : tpK g v kc a = kc a := by
  unfold tpK
  rw [va_up_ne _ _ (by omega), yK_o (by omega), va_up_ne _ _ (by omega)]
theorem yK_congr (ho : okI v) {kc' : Nat → KV} (h : ∀ r, r < 6 → kc' (g + 30 + 3 + r) = kc (g + 30 + 3 + r)) : yK g v kc' (yA g v) = yK g v kc (yA g v) := by
  unfold yK yA
  by_cases e : v.2.2.1 = -1
  · rw [if_pos e, if_pos e, if_pos e, va_up_self, va_up_self]
  · have hB : v.2.2.1.toNatClampNeg < 6 := by
      rcases ho.2 with z | ⟨-, z⟩
      · exact absurd z e
      · exact z
    rw [if_neg e, if_neg e, if_neg e, h _ hB]
theorem rlK_o {q : Bool × KV × KV} {a : Nat} (h : a ≠ g + 46) (h2 : a ≠ g + 47) : rlK g q kc a = kc a := by unfold rlK; rw [va_up_ne _ _ h2, va_up_ne _ _ h]
theorem rlK_6 {q : Bool × KV × KV} : rlK g q kc (g + 46) = q.2.1 := by unfold rlK; rw [va_up_ne _ _ (by omega), va_up_self]
theorem rlK_7 {q : Bool × KV × KV} : rlK g q kc (g + 47) = q.2.2 := by unfold rlK; rw [va_up_self]
/-- parting, as the class does it, cell by cell -/
theorem prt_e {p : Nat} (ho : okI v) (hp : p < 24) (h15 : ¬ v.1 = 15) : (prt g v p kc).1 = (rl v.1 (kc (g + 30 + 3 + v.2.1.toNatClampNeg)) (yK g v kc (yA g v))).1 ∧ (prt g v p kc).2.1 = (rl (v.1 ^^^ 1) (kc (g + 30 + 3 + v.2.1.toNatClampNeg)) (yK g v kc (yA g v))).1 ∧ (∀ r, r < 10 → (prt g v p kc).2.2 (g + 30 + 3 + r) = gpv v (fun r => kc (g + 30 + 3 + r)) (rl (v.1 ^^^ 1) (kc (g + 30 + 3 + v.2.1.toNatClampNeg)) (yK g v kc (yA g v))).2.1 (rl (v.1 ^^^ 1) (kc (g + 30 + 3 + v.2.1.toNatClampNeg)) (yK g v kc (yA g v))).2.2 r) ∧ (∀ r, r < 10 → (prt g v p kc).2.2 (g + 61 + 13 * p + 3 + r) = gpv v (fun r => kc (g + 30 + 3 + r)) (rl v.1 (kc (g + 30 + 3 + v.2.1.toNatClampNeg)) (yK g v kc (yA g v))).2.1 (rl v.1 (kc (g + 30 + 3 + v.2.1.toNatClampNeg)) (yK g v kc (yA g v))).2.2 r) ∧ (∀ a, g + 48 ≤ a → (a < g + 61 + 13 * p ∨ g + 61 + 13 * p + 13 ≤ a) → (prt g v p kc).2.2 a = kc a) := by
  have hA := ho.1.2
  have cpn : ∀ r, r < 10 → kcp (g + 61 + 13 * p) (g + 30) 10 kc (g + 30 + 3 + r) = kc (g + 30 + 3 + r) := fun r hr => by unfold kcp; rw [if_neg (by omega)]
  have cpw : ∀ r, r < 10 → kcp (g + 61 + 13 * p) (g + 30) 10 kc (g + 61 + 13 * p + 3 + r) = kc (g + 30 + 3 + r) := fun r hr => by
    unfold kcp
    rw [if_pos (by omega), show g + 30 + (g + 61 + 13 * p + 3 + r - (g + 61 + 13 * p)) = g + 30 + 3 + r by omega]
  have cpo : ∀ a, g + 48 ≤ a → (a < g + 61 + 13 * p ∨ g + 61 + 13 * p + 13 ≤ a) → kcp (g + 61 + 13 * p) (g + 30) 10 kc a = kc a := fun a h1 h2 => by unfold kcp; rw [if_neg (by omega)]
  generalize hk1 : kcp (g + 61 + 13 * p) (g + 30) 10 kc = kc1 at cpn cpw cpo
  have e46 : tpK g v kc1 (g + 46) = kc (g + 30 + 3 + v.2.1.toNatClampNeg) := by rw [tpK_46, cpn _ (by omega)]
  have e47 : tpK g v kc1 (g + 47) = yK g v kc (yA g v) := by rw [tpK_47 ho, yK_congr ho (fun r hr => cpn r (by omega))]
  generalize hq1 : rl v.1 (kc (g + 30 + 3 + v.2.1.toNatClampNeg)) (yK g v kc (yA g v)) = q1
  generalize hq2 : rl (v.1 ^^^ 1) (kc (g + 30 + 3 + v.2.1.toNatClampNeg)) (yK g v kc (yA g v)) = q2
  have n4 : ∀ r, r < 10 → gpK g v (g + 61 + 13 * p) (rlK g q1 (tpK g v kc1)) (g + 30 + 3 + r) = kc (g + 30 + 3 + r) := fun r hr => by rw [gpK_out ho (by omega), rlK_o (by omega) (by omega), tpK_o (by omega), cpn r hr]
  have w4 : ∀ r, r < 10 → gpK g v (g + 61 + 13 * p) (rlK g q1 (tpK g v kc1)) (g + 61 + 13 * p + 3 + r) = gpv v (fun r => kc (g + 30 + 3 + r)) q1.2.1 q1.2.2 r := fun r hr => by
    rw [gpK_in ho (by omega) hr, rlK_6, rlK_7]
    refine gpv_congr ?_
    show rlK g q1 (tpK g v kc1) (g + 61 + 13 * p + 3 + r) = kc (g + 30 + 3 + r)
    rw [rlK_o (by omega) (by omega), tpK_o (by omega), cpw r hr]
  have o4 : ∀ a, g + 48 ≤ a → (a < g + 61 + 13 * p ∨ g + 61 + 13 * p + 13 ≤ a) → gpK g v (g + 61 + 13 * p) (rlK g q1 (tpK g v kc1)) a = kc a := fun a h1 h2 => by rw [gpK_out ho (by omega), rlK_o (by omega) (by omega), tpK_o (by omega), cpo a h1 h2]
  generalize hk4 : gpK g v (g + 61 + 13 * p) (rlK g q1 (tpK g v kc1)) = kc4 at n4 w4 o4
  have f46 : tpK g v kc4 (g + 46) = kc (g + 30 + 3 + v.2.1.toNatClampNeg) := by rw [tpK_46, n4 _ (by omega)]
  have f47 : tpK g v kc4 (g + 47) = yK g v kc (yA g v) := by rw [tpK_47 ho, yK_congr ho (fun r hr => n4 r (by omega))]
  have ep : prt g v p kc = (q1.1, q2.1, gpK g v (g + 30) (rlK g q2 (tpK g v kc4))) := by
    unfold prt
    rw [if_neg h15]
    dsimp only
    rw [hk1, e46, e47, hq1, hk4, f46, f47, hq2]
  rw [ep]
  refine ⟨rfl, rfl, fun r hr => ?_, fun r hr => ?_, fun a h1 h2 => ?_⟩
  · show gpK g v (g + 30) (rlK g q2 (tpK g v kc4)) (g + 30 + 3 + r) = _
    rw [gpK_in ho (by omega) hr, rlK_6, rlK_7]
    refine gpv_congr ?_
    show rlK g q2 (tpK g v kc4) (g + 30 + 3 + r) = kc (g + 30 + 3 + r)
    rw [rlK_o (by omega) (by omega), tpK_o (by omega), n4 r hr]
  · show gpK g v (g + 30) (rlK g q2 (tpK g v kc4)) (g + 61 + 13 * p + 3 + r) = _
    rw [gpK_out ho (by omega), rlK_o (by omega) (by omega), tpK_o (by omega), w4 r hr]
  · show gpK g v (g + 30) (rlK g q2 (tpK g v kc4)) a = _
    rw [gpK_out ho (by omega), rlK_o (by omega) (by omega), tpK_o (by omega), o4 a h1 h2]
end S5
