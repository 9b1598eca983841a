/-! Relations come out alike on both sides, and so do the alarms' searches. -/
def EQ (p q : Bool × KV × KV) : Prop := p.1 = q.1 ∧ (p.1 = true → p.2.1 = q.2.1 ∧ p.2.2 = q.2.2 ∧ GG p.2.1 ∧ GG p.2.2)
theorem EQ_mk {a d : Bool} {b c e f : KV} (h : a = d) (h2 : a = true → b = e ∧ c = f ∧ GG b ∧ GG c) : EQ (a, b, c) (d, e, f) := ⟨h, h2⟩
theorem lt_eq {x y : KV} (hx : R1 x) (hy : R1 y) (x1 : x.1 = 1) (y1 : y.1 = 1) : EQ (rl3 x y) (rlt x y) := by
  have ex := tg_eq hx x1
  have ey := tg_eq hy y1
  unfold rl3 rlt
  cases hq : tgo x
  · rw [if_neg (by decide), ← ex.1, hq, Bool.and_false]
    exact EQ_mk rfl (fun z => by cases z)
  · rw [if_pos rfl, ← ex.1, hq, Bool.and_true, ← ey.1]
    exact EQ_mk rfl (fun z => ⟨(ex.2 hq).1, (ey.2 z).1, (ex.2 hq).2, (ey.2 z).2⟩)
theorem max_nn {x y : Int64} {c : Int} (hx : c ≤ x.toInt) : c ≤ (if y < x then x else y).toInt := Int.le_trans hx (mxr _ _)
theorem min_lt {x y : Int64} {c : Int} (hx : x.toInt < c) : (if y < x then y else x).toInt < c := Int.lt_of_le_of_lt (mnr _ _) hx
section RL
variable {f s : KV}
theorem join_eq (hf : f.1 = 1) : kJoin f s = rJ f s := by
  have e : (if f.2.2.2.2.2.2.2 < s.2.2.2.2.2.2.2 then s.2.2.2.2.2.2.2 else f.2.2.2.2.2.2.2) = if f.2.2.2.2.2.2.2 ≤ s.2.2.2.2.2.2.2 then s.2.2.2.2.2.2.2 else f.2.2.2.2.2.2.2 := by
    generalize f.2.2.2.2.2.2.2 = a
    generalize s.2.2.2.2.2.2.2 = c
    by_cases h : a < c
    · rw [if_pos h, if_pos (Int32.le_of_lt h)]
    · rw [if_neg h]
      by_cases q : a ≤ c
      · rw [if_pos q]; exact i32_eq_of q h
      · rw [if_neg q]
  unfold kJoin rJ
  rw [e, hf]
theorem R1_join (hf : GG f) (hs : GG s) : R1 (kJoin f s) := by
  obtain ⟨k1, ⟨k2, k3, k4, k5, k6⟩, k7, k8⟩ := hf
  obtain ⟨j1, ⟨j2, j3, j4, j5, j6⟩, j7, j8⟩ := hs
  refine ⟨max_nn k2, min_lt k3, max_nn k4, min_lt k5, ?_⟩
  intro i hi q
  have q : bt (f.2.2.1 ||| s.2.2.1) i = true := q
  show bt (f.2.1 ||| s.2.1) i = true
  rw [bt_or, Bool.or_eq_true] at q ⊢
  exact q.imp (k6 i hi) (j6 i hi)
theorem rl_16 (hf : GG f) (hs : GG s) : EQ (rl 16 f s) (rAl f s) := by
  have er : rl 16 f s = if ((f.2.1 &&& s.2.1) &&& (f.2.2.1 ^^^ s.2.2.1)) = 0 then rl3 (kJoin f s) (kJoin f s) else (false, f, s) := by
    unfold rl
    rw [if_pos rfl]
  rw [er]
  unfold rAl
  by_cases h : ((f.2.1 &&& s.2.1) &&& (f.2.2.1 ^^^ s.2.2.1)) = 0
  · rw [if_pos h, if_pos h, ← join_eq hf.1]
    have r := R1_join hf hs
    have e := tg_eq r (show (kJoin f s).1 = 1 from hf.1)
    generalize kJoin f s = m at r e
    unfold rl3
    cases hq : tgo m
    · rw [if_neg (by decide), ← e.1, hq]
      exact EQ_mk rfl (fun z => by cases z)
    · rw [if_pos rfl, ← e.1, hq]
      exact EQ_mk rfl (fun _ => ⟨(e.2 hq).1, (e.2 hq).1, (e.2 hq).2, (e.2 hq).2⟩)
  · rw [if_neg h, if_neg h]
    exact EQ_mk rfl (fun z => by cases z)
theorem rl_17 (hf : GG f) (hs : GG s) : EQ (rl 17 f s) (!(kExact f && kExact s && decide (f.2.2.2.1 = s.2.2.2.1)), f, s) := by
  unfold rl
  rw [if_neg (by decide), if_pos rfl]
  exact EQ_mk rfl (fun _ => ⟨rfl, rfl, hf, hs⟩)
theorem rl_18 (hf : GG f) (hs : GG s) : EQ (rl 18 f s) (rLe 1 f s) := by
  obtain ⟨k1, ⟨k2, k3, k4, k5, k6⟩, k7, k8⟩ := hf
  obtain ⟨j1, ⟨j2, j3, j4, j5, j6⟩, j7, j8⟩ := hs
  unfold rl rLe
  rw [if_neg (by decide), if_neg (by decide), if_pos rfl, if_neg (show ¬ (1 : Int32) = 0 by decide)]
  exact lt_eq ⟨k2, min_lt k3, k4, k5, k6⟩ ⟨max_nn j2, j3, j4, j5, j6⟩ k1 j1
theorem rl_19 (hf : GG f) (hs : GG s) : EQ (rl 19 f s) (rLe 0 f s) := by
  obtain ⟨k1, ⟨k2, k3, k4, k5, k6⟩, k7, k8⟩ := hf
  obtain ⟨j1, ⟨j2, j3, j4, j5, j6⟩, j7, j8⟩ := hs
  unfold rl rLe
  rw [if_neg (by decide), if_neg (by decide), if_neg (by decide), if_pos rfl, if_pos rfl]
  exact lt_eq ⟨max_nn k2, k3, k4, k5, k6⟩ ⟨j2, min_lt j3, j4, j5, j6⟩ k1 j1
theorem rl_20 (hf : GG f) (hs : GG s) : EQ (rl 20 f s) (rLs 1 f s) := by
  obtain ⟨k1, ⟨k2, k3, k4, k5, k6⟩, k7, k8⟩ := hf
  obtain ⟨j1, ⟨j2, j3, j4, j5, j6⟩, j7, j8⟩ := hs
  unfold rl rLs
  rw [if_neg (by decide), if_neg (by decide), if_neg (by decide), if_neg (by decide), if_pos rfl, if_neg (show ¬ (1 : Int32) = 0 by decide)]
  exact lt_eq ⟨k2, k3, k4, min_lt k5, k6⟩ ⟨j2, j3, max_nn j4, j5, j6⟩ k1 j1
theorem rl_21 (hf : GG f) (hs : GG s) : EQ (rl 21 f s) (rLs 0 f s) := by
  obtain ⟨k1, ⟨k2, k3, k4, k5, k6⟩, k7, k8⟩ := hf
  obtain ⟨j1, ⟨j2, j3, j4, j5, j6⟩, j7, j8⟩ := hs
  unfold rl rLs
  rw [if_neg (by decide), if_neg (by decide), if_neg (by decide), if_neg (by decide), if_neg (by decide), if_pos rfl]
  exact lt_eq ⟨k2, k3, max_nn k4, k5, k6⟩ ⟨j2, j3, j4, min_lt j5, j6⟩ k1 j1
theorem cm_al : rCm 16 1 f s = rAl f s ∧ rCm 17 1 f s = rAl f s := by
  unfold rCm
  exact ⟨by rw [if_neg (by decide), if_neg (by decide)], by rw [if_neg (by decide), if_neg (by decide)]⟩
theorem cm_un : rCm 16 0 f s = (!(kExact f && kExact s && decide (f.2.2.2.1 = s.2.2.2.1)), f, s) ∧ rCm 17 0 f s = (!(kExact f && kExact s && decide (f.2.2.2.1 = s.2.2.2.1)), f, s) := by
  unfold rCm
  exact ⟨by rw [if_neg (by decide), if_pos rfl], by rw [if_neg (by decide), if_pos rfl]⟩
theorem cm_le (h : Int32) : rCm 18 h f s = rLe h f s ∧ rCm 19 h f s = rLe h f s := by
  unfold rCm
  exact ⟨by rw [if_pos (by decide), if_neg (by decide)], by rw [if_pos (by decide), if_neg (by decide)]⟩
theorem cm_ls (h : Int32) : rCm 20 h f s = rLs h f s ∧ rCm 21 h f s = rLs h f s := by
  unfold rCm
  exact ⟨by rw [if_pos (by decide), if_pos (by decide)], by rw [if_pos (by decide), if_pos (by decide)]⟩
theorem i32_21 {op : Int32} (h1 : (16 : Int32) ≤ op) (h2 : op ≤ 21) : op = 16 ∨ op = 17 ∨ op = 18 ∨ op = 19 ∨ op = 20 ∨ op = 21 := by
  rw [Int32.le_iff_toInt_le] at h1 h2
  have e1 : (16 : Int32).toInt = 16 := by decide
  have e2 : (21 : Int32).toInt = 21 := by decide
  rw [e1] at h1
  rw [e2] at h2
  have : ∀ c : Int32, op.toInt = c.toInt → op = c := fun c h => Int32.toInt_inj.mp h
  have hc : op.toInt = 16 ∨ op.toInt = 17 ∨ op.toInt = 18 ∨ op.toInt = 19 ∨ op.toInt = 20 ∨ op.toInt = 21 := by omega
  rcases hc with h | h | h | h | h | h
  · exact Or.inl (this 16 h)
  · exact Or.inr (Or.inl (this 17 h))
  · exact Or.inr (Or.inr (Or.inl (this 18 h)))
  · exact Or.inr (Or.inr (Or.inr (Or.inl (this 19 h))))
  · exact Or.inr (Or.inr (Or.inr (Or.inr (Or.inl (this 20 h)))))
  · exact Or.inr (Or.inr (Or.inr (Or.inr (Or.inr (this 21 h)))))
/-- the relation and its contrary -/
theorem rel_eq {op : Int32} (hf : GG f) (hs : GG s) (h1 : (16 : Int32) ≤ op) (h2 : op ≤ 21) : EQ (rl op f s) (rCm op (rH op) f s) ∧ EQ (rl (op ^^^ 1) f s) (rCm op (nH (rH op)) f s) := by
  rcases i32_21 h1 h2 with rfl | rfl | rfl | rfl | rfl | rfl
  · rw [show rH 16 = 1 by decide, show nH 1 = 0 by decide, show ((16 : Int32) ^^^ 1) = 17 by decide, cm_al.1, cm_un.1]
    exact ⟨rl_16 hf hs, rl_17 hf hs⟩
  · rw [show rH 17 = 0 by decide, show nH 0 = 1 by decide, show ((17 : Int32) ^^^ 1) = 16 by decide, cm_al.2, cm_un.2]
    exact ⟨rl_17 hf hs, rl_16 hf hs⟩
  · rw [show rH 18 = 1 by decide, show nH 1 = 0 by decide, show ((18 : Int32) ^^^ 1) = 19 by decide, (cm_le 1).1, (cm_le 0).1]
    exact ⟨rl_18 hf hs, rl_19 hf hs⟩
  · rw [show rH 19 = 0 by decide, show nH 0 = 1 by decide, show ((19 : Int32) ^^^ 1) = 18 by decide, (cm_le 1).2, (cm_le 0).2]
    exact ⟨rl_19 hf hs, rl_18 hf hs⟩
  · rw [show rH 20 = 1 by decide, show nH 1 = 0 by decide, show ((20 : Int32) ^^^ 1) = 21 by decide, (cm_ls 1).1, (cm_ls 0).1]
    exact ⟨rl_20 hf hs, rl_21 hf hs⟩
  · rw [show rH 21 = 0 by decide, show nH 0 = 1 by decide, show ((21 : Int32) ^^^ 1) = 20 by decide, (cm_ls 1).2, (cm_ls 0).2]
    exact ⟨rl_21 hf hs, rl_20 hf hs⟩
end RL
theorem any_eq {f : Nat → KV} {a c : Nat} (h : a ≤ c) (hc : c < 4) : anyU f (c + 1 - a) a = anyB (Int64.ofNat a) (Int64.ofNat c) f 4 0 := by
  have ha : a = 0 ∨ a = 1 ∨ a = 2 ∨ a = 3 := by omega
  have hc' : c = 0 ∨ c = 1 ∨ c = 2 ∨ c = 3 := by omega
  have e0 : anyB (Int64.ofNat a) (Int64.ofNat c) f 4 0 = ((decide (¬ (Int32.ofNat 0).toInt64 < Int64.ofNat a) && (decide (¬ Int64.ofNat c < (Int32.ofNat 0).toInt64) && decide ((f 0).1 = 0))) || ((decide (¬ (Int32.ofNat 1).toInt64 < Int64.ofNat a) && (decide (¬ Int64.ofNat c < (Int32.ofNat 1).toInt64) && decide ((f 1).1 = 0))) || ((decide (¬ (Int32.ofNat 2).toInt64 < Int64.ofNat a) && (decide (¬ Int64.ofNat c < (Int32.ofNat 2).toInt64) && decide ((f 2).1 = 0))) || ((decide (¬ (Int32.ofNat 3).toInt64 < Int64.ofNat a) && (decide (¬ Int64.ofNat c < (Int32.ofNat 3).toInt64) && decide ((f 3).1 = 0))) || false)))) := rfl
  rw [e0]
  rcases ha with rfl | rfl | rfl | rfl <;> rcases hc' with rfl | rfl | rfl | rfl
  · rw [show anyU f (0 + 1 - 0) 0 = (decide ((f 0).1 = 0) || false) from rfl]
    generalize decide ((f 0).1 = 0) = x0
    generalize decide ((f 1).1 = 0) = x1
    generalize decide ((f 2).1 = 0) = x2
    generalize decide ((f 3).1 = 0) = x3
    clear e0 h hc
    revert x0 x1 x2 x3
    decide
  · rw [show anyU f (1 + 1 - 0) 0 = (decide ((f 0).1 = 0) || (decide ((f 1).1 = 0) || false)) from rfl]
    generalize decide ((f 0).1 = 0) = x0
    generalize decide ((f 1).1 = 0) = x1
    generalize decide ((f 2).1 = 0) = x2
    generalize decide ((f 3).1 = 0) = x3
    clear e0 h hc
    revert x0 x1 x2 x3
    decide
  · rw [show anyU f (2 + 1 - 0) 0 = (decide ((f 0).1 = 0) || (decide ((f 1).1 = 0) || (decide ((f 2).1 = 0) || false))) from rfl]
    generalize decide ((f 0).1 = 0) = x0
    generalize decide ((f 1).1 = 0) = x1
    generalize decide ((f 2).1 = 0) = x2
    generalize decide ((f 3).1 = 0) = x3
    clear e0 h hc
    revert x0 x1 x2 x3
    decide
  · rw [show anyU f (3 + 1 - 0) 0 = (decide ((f 0).1 = 0) || (decide ((f 1).1 = 0) || (decide ((f 2).1 = 0) || (decide ((f 3).1 = 0) || false)))) from rfl]
    generalize decide ((f 0).1 = 0) = x0
    generalize decide ((f 1).1 = 0) = x1
    generalize decide ((f 2).1 = 0) = x2
    generalize decide ((f 3).1 = 0) = x3
    clear e0 h hc
    revert x0 x1 x2 x3
    decide
  · omega
  · rw [show anyU f (1 + 1 - 1) 1 = (decide ((f 1).1 = 0) || false) from rfl]
    generalize decide ((f 0).1 = 0) = x0
    generalize decide ((f 1).1 = 0) = x1
    generalize decide ((f 2).1 = 0) = x2
    generalize decide ((f 3).1 = 0) = x3
    clear e0 h hc
    revert x0 x1 x2 x3
    decide
  · rw [show anyU f (2 + 1 - 1) 1 = (decide ((f 1).1 = 0) || (decide ((f 2).1 = 0) || false)) from rfl]
    generalize decide ((f 0).1 = 0) = x0
    generalize decide ((f 1).1 = 0) = x1
    generalize decide ((f 2).1 = 0) = x2
    generalize decide ((f 3).1 = 0) = x3
    clear e0 h hc
    revert x0 x1 x2 x3
    decide
  · rw [show anyU f (3 + 1 - 1) 1 = (decide ((f 1).1 = 0) || (decide ((f 2).1 = 0) || (decide ((f 3).1 = 0) || false))) from rfl]
    generalize decide ((f 0).1 = 0) = x0
    generalize decide ((f 1).1 = 0) = x1
    generalize decide ((f 2).1 = 0) = x2
    generalize decide ((f 3).1 = 0) = x3
    clear e0 h hc
    revert x0 x1 x2 x3
    decide
  · omega
  · omega
  · rw [show anyU f (2 + 1 - 2) 2 = (decide ((f 2).1 = 0) || false) from rfl]
    generalize decide ((f 0).1 = 0) = x0
    generalize decide ((f 1).1 = 0) = x1
    generalize decide ((f 2).1 = 0) = x2
    generalize decide ((f 3).1 = 0) = x3
    clear e0 h hc
    revert x0 x1 x2 x3
    decide
  · rw [show anyU f (3 + 1 - 2) 2 = (decide ((f 2).1 = 0) || (decide ((f 3).1 = 0) || false)) from rfl]
    generalize decide ((f 0).1 = 0) = x0
    generalize decide ((f 1).1 = 0) = x1
    generalize decide ((f 2).1 = 0) = x2
    generalize decide ((f 3).1 = 0) = x3
    clear e0 h hc
    revert x0 x1 x2 x3
    decide
  · omega
  · omega
  · omega
  · rw [show anyU f (3 + 1 - 3) 3 = (decide ((f 3).1 = 0) || false) from rfl]
    generalize decide ((f 0).1 = 0) = x0
    generalize decide ((f 1).1 = 0) = x1
    generalize decide ((f 2).1 = 0) = x2
    generalize decide ((f 3).1 = 0) = x3
    clear e0 h hc
    revert x0 x1 x2 x3
    decide
