/-! Tightening comes out alike on both sides wherever it is possible. -/
def R1 (k : KV) : Prop := (0 : Int) ≤ k.2.2.2.1.toInt ∧ k.2.2.2.2.1.toInt < 4294967296 ∧ (-2147483648 : Int) ≤ k.2.2.2.2.2.1.toInt ∧ k.2.2.2.2.2.2.1.toInt < 2147483648 ∧ sub k.2.2.1 k.2.1
def GG (k : KV) : Prop := k.1 = 1 ∧ R1 k ∧ k.2.2.2.1.toInt ≤ k.2.2.2.2.1.toInt ∧ k.2.2.2.2.2.1.toInt ≤ k.2.2.2.2.2.2.1.toInt
theorem mxr (x y : Int64) : y.toInt ≤ (if x < y then y else x).toInt := by
  by_cases h : x < y
  · rw [if_pos h]; exact Int.le_refl _
  · rw [if_neg h]
    rw [Int64.lt_iff_toInt_lt] at h
    omega
theorem mnr (x y : Int64) : (if x < y then x else y).toInt ≤ y.toInt := by
  by_cases h : x < y
  · rw [if_pos h]
    rw [Int64.lt_iff_toInt_lt] at h
    omega
  · rw [if_neg h]; exact Int.le_refl _
theorem mxl (x y : Int64) : x.toInt ≤ (if x < y then y else x).toInt := by
  by_cases h : x < y
  · rw [if_pos h]
    rw [Int64.lt_iff_toInt_lt] at h
    omega
  · rw [if_neg h]; exact Int.le_refl _
theorem mnl (x y : Int64) : (if x < y then x else y).toInt ≤ x.toInt := by
  by_cases h : x < y
  · rw [if_pos h]; exact Int.le_refl _
  · rw [if_neg h]
    rw [Int64.lt_iff_toInt_lt] at h
    omega
theorem R1_t1 {k : KV} (h : R1 k) : R1 (tg1 k) := ⟨Int.le_trans h.1 (mxr _ _), Int.lt_of_le_of_lt (mnr _ _) h.2.1, h.2.2.1, h.2.2.2.1, h.2.2.2.2⟩
theorem R1_t2 {k : KV} (h : R1 k) : R1 (tg2 k) := by
  unfold tg2
  split
  · exact ⟨h.1, h.2.1, Int.le_trans h.2.2.1 (mxr _ _), Int.lt_of_le_of_lt (mnr _ _) h.2.2.2.1, h.2.2.2.2⟩
  · exact h
theorem R1_t3 {k : KV} (h : R1 k) : R1 (tg3 k) := by
  unfold tg3
  split
  · exact ⟨Int.le_trans h.1 (mxr _ _), Int.lt_of_le_of_lt (mnr _ _) h.2.1, h.2.2.1, h.2.2.2.1, h.2.2.2.2⟩
  · exact h
theorem ones_eq {o b s l : Int32} (hs : sub o b) (hc : ((b &&& s) &&& (o ^^^ l)) = 0) : o ||| (l &&& s) = (o &&& (s ^^^ (-1 : Int32))) ||| (l &&& s) := by
  apply bt_ext
  intro i hi
  have h1 := congrArg (fun z => bt z i) hc
  simp only [bt_and, bt_xor, bt_0] at h1
  have h2 := hs i hi
  simp only [bt_or, bt_and, bt_xor, bt_m1 hi]
  generalize bt o i = x1 at *
  generalize bt b i = x2 at *
  generalize bt s i = x3 at *
  generalize bt l i = x4 at *
  revert h1 h2
  cases x1 <;> cases x2 <;> cases x3 <;> cases x4 <;> decide
theorem ones_sub {o b s l : Int32} (hs : sub o b) : sub (o ||| (l &&& s)) (b ||| s) := by
  intro i hi
  have h2 := hs i hi
  simp only [bt_or, bt_and]
  generalize bt o i = x1 at *
  generalize bt b i = x2 at *
  generalize bt s i = x3 at *
  generalize bt l i = x4 at *
  revert h2
  cases x1 <;> cases x2 <;> cases x3 <;> cases x4 <;> decide
theorem t4_eq {k : KV} (h : R1 k) : tg4o k = rt4o k (rsa k) ∧ (tg4o k = true → tg4 k = rt4 k (rsa k) ∧ (k.1 = 1 → GG (tg4 k))) := by
  by_cases h1 : k.2.2.2.2.1 < k.2.2.2.1
  · have e1 : tg4o k = false := by unfold tg4o; rw [decide_eq_false (not_not_intro h1)]; rfl
    have e2 : rt4o k (rsa k) = false := by unfold rt4o; rw [decide_eq_false (not_not_intro h1), Bool.false_and, Bool.and_false]
    exact ⟨by rw [e1, e2], fun q => by rw [e1] at q; cases q⟩
  · by_cases h2 : k.2.2.2.2.2.2.1 < k.2.2.2.2.2.1
    · have e1 : tg4o k = false := by unfold tg4o; rw [decide_eq_false (not_not_intro h2), Bool.and_false, Bool.false_and]
      have e2 : rt4o k (rsa k) = false := by unfold rt4o; rw [decide_eq_false (not_not_intro h2), Bool.and_false, Bool.and_false]
      exact ⟨by rw [e1, e2], fun q => by rw [e1] at q; cases q⟩
    · have l1 := h1
      have l2 := h2
      rw [Int64.lt_iff_toInt_lt] at l1 l2
      obtain ⟨r1, r2, r3, r4, r5⟩ := h
      have ek : kco k.2.2.2.1 k.2.2.2.2.1 = rsa k := kco_rsa r1 (by omega) (by omega) r2
      have eo : tg4o k = decide (((k.2.1 &&& rsa k) &&& (k.2.2.1 ^^^ k.2.2.2.1.toInt32)) = 0) := by unfold tg4o; rw [decide_eq_true h1, decide_eq_true h2, ek]; rfl
      have er : rt4o k (rsa k) = decide (((k.2.1 &&& rsa k) &&& (k.2.2.1 ^^^ k.2.2.2.1.toInt32)) = 0) := by unfold rt4o; rw [decide_eq_true h1, decide_eq_true h2, Bool.and_true, Bool.and_true]
      refine ⟨by rw [eo, er], fun q => ?_⟩
      have hc : ((k.2.1 &&& rsa k) &&& (k.2.2.1 ^^^ k.2.2.2.1.toInt32)) = 0 := by
        rw [eo] at q
        exact of_decide_eq_true q
      have e4 : tg4 k = (k.1, k.2.1 ||| rsa k, k.2.2.1 ||| (k.2.2.2.1.toInt32 &&& rsa k), k.2.2.2) := by unfold tg4; rw [if_pos q, ek]
      refine ⟨?_, fun hk => ?_⟩
      · rw [e4]
        unfold rt4
        rw [ones_eq r5 hc]
      · rw [e4]
        exact ⟨hk, ⟨r1, r2, r3, r4, ones_sub r5⟩, Int.not_lt.mp l1, Int.not_lt.mp l2⟩
theorem tg_eq {k : KV} (h : R1 k) (hk : k.1 = 1) : tgo k = rtgo k ∧ (tgo k = true → tg k = rtg k ∧ GG (tg k)) := by
  have h3 := t4_eq (R1_t3 (R1_t2 (R1_t1 h)))
  have e3 : (tg3 (tg2 (tg1 k))).1 = 1 := by
    have h2 : ∀ k : KV, (tg2 k).1 = k.1 := fun k => by unfold tg2; split <;> rfl
    have h3 : ∀ k : KV, (tg3 k).1 = k.1 := fun k => by unfold tg3; split <;> rfl
    rw [h3, h2]; exact hk
  unfold tgo rtgo tg rtg
  exact ⟨h3.1, fun q => ⟨(h3.2 q).1, (h3.2 q).2 e3⟩⟩
theorem tg_kF (k : KV) (n : Int32) : tgo (kF k n) = tgo k ∧ tg (kF k n) = kF (tg k) n := by
  have h1 : tg1 (kF k n) = kF (tg1 k) n := rfl
  have h2 : ∀ k : KV, tg2 (kF k n) = kF (tg2 k) n := fun k => by
    by_cases h : ((2147483648 : Int64) ≤ k.2.2.2.1) = ((2147483648 : Int64) ≤ k.2.2.2.2.1)
    · have e1 : tg2 (kF k n) = _ := if_pos h
      have e2 : tg2 k = _ := if_pos h
      rw [e1, e2]; rfl
    · have e1 : tg2 (kF k n) = _ := if_neg h
      have e2 : tg2 k = _ := if_neg h
      rw [e1, e2]
  have h3 : ∀ k : KV, tg3 (kF k n) = kF (tg3 k) n := fun k => by
    by_cases h : ((0 : Int64) ≤ k.2.2.2.2.2.1) = ((0 : Int64) ≤ k.2.2.2.2.2.2.1)
    · have e1 : tg3 (kF k n) = _ := if_pos h
      have e2 : tg3 k = _ := if_pos h
      rw [e1, e2]; rfl
    · have e1 : tg3 (kF k n) = _ := if_neg h
      have e2 : tg3 k = _ := if_neg h
      rw [e1, e2]
  have h4o : ∀ k : KV, tg4o (kF k n) = tg4o k := fun k => rfl
  have h4 : ∀ k : KV, tg4 (kF k n) = kF (tg4 k) n := fun k => by
    by_cases h : tg4o k = true
    · have e1 : tg4 (kF k n) = _ := if_pos h
      have e2 : tg4 k = _ := if_pos h
      rw [e1, e2]; rfl
    · have e1 : tg4 (kF k n) = _ := if_neg h
      have e2 : tg4 k = _ := if_neg h
      rw [e1, e2]
  unfold tgo tg
  rw [h1, h2, h3, h4o, h4]
  exact ⟨rfl, rfl⟩
theorem GG_number (n : Int32) : GG (kNumber n) := by
  have hu := un_toInt n
  have l := n.toInt_lt
  have m := n.le_toInt
  refine ⟨rfl, ⟨?_, ?_, ?_, ?_, fun i hi _ => bt_m1 hi⟩, Int.le_refl _, Int.le_refl _⟩
  · show (0 : Int) ≤ (un n).toInt
    rw [hu]; omega
  · show (un n).toInt < 4294967296
    rw [hu]; omega
  · show (-2147483648 : Int) ≤ n.toInt64.toInt
    rw [Int32.toInt_toInt64]; omega
  · show n.toInt64.toInt < 2147483648
    rw [Int32.toInt_toInt64]; omega
theorem R1_nothing : R1 kNothing := ⟨by decide, by decide, by decide, by decide, fun i hi h => by
  have : bt (0 : Int32) i = true := h
  rw [bt_0] at this
  cases this⟩
theorem GG_nothing : GG kNothing := ⟨rfl, R1_nothing, by decide, by decide⟩
theorem GG_meet {k j : KV} (hk : GG k) (hj : GG j) : GG (kMeet k j) := by
  obtain ⟨k1, ⟨k2, k3, k4, k5, k6⟩, k7, k8⟩ := hk
  obtain ⟨j1, ⟨j2, j3, j4, j5, j6⟩, j7, j8⟩ := hj
  have mn : ∀ x y : Int64, (if y < x then y else x).toInt = x.toInt ∨ (if y < x then y else x).toInt = y.toInt := fun x y => by split <;> simp
  have mx : ∀ x y : Int64, (if y < x then x else y).toInt = x.toInt ∨ (if y < x then x else y).toInt = y.toInt := fun x y => by split <;> simp
  refine ⟨k1, ⟨?_, ?_, ?_, ?_, ?_⟩, ?_, ?_⟩
  · rcases mn k.2.2.2.1 j.2.2.2.1 with q | q <;> (show (0 : Int) ≤ (if j.2.2.2.1 < k.2.2.2.1 then j.2.2.2.1 else k.2.2.2.1).toInt; rw [q]; assumption)
  · rcases mx k.2.2.2.2.1 j.2.2.2.2.1 with q | q <;> (show (if j.2.2.2.2.1 < k.2.2.2.2.1 then k.2.2.2.2.1 else j.2.2.2.2.1).toInt < 4294967296; rw [q]; assumption)
  · rcases mn k.2.2.2.2.2.1 j.2.2.2.2.2.1 with q | q <;> (show (-2147483648 : Int) ≤ (if j.2.2.2.2.2.1 < k.2.2.2.2.2.1 then j.2.2.2.2.2.1 else k.2.2.2.2.2.1).toInt; rw [q]; assumption)
  · rcases mx k.2.2.2.2.2.2.1 j.2.2.2.2.2.2.1 with q | q <;> (show (if j.2.2.2.2.2.2.1 < k.2.2.2.2.2.2.1 then k.2.2.2.2.2.2.1 else j.2.2.2.2.2.2.1).toInt < 2147483648; rw [q]; assumption)
  · intro i hi q
    have q : bt (k.2.2.1 &&& ((k.2.1 &&& j.2.1) &&& ((k.2.2.1 ^^^ j.2.2.1) ^^^ (-1 : Int32)))) i = true := q
    show bt ((k.2.1 &&& j.2.1) &&& ((k.2.2.1 ^^^ j.2.2.1) ^^^ (-1 : Int32))) i = true
    rw [bt_and, Bool.and_eq_true] at q
    exact q.2
  · show (if j.2.2.2.1 < k.2.2.2.1 then j.2.2.2.1 else k.2.2.2.1).toInt ≤ (if j.2.2.2.2.1 < k.2.2.2.2.1 then k.2.2.2.2.1 else j.2.2.2.2.1).toInt
    exact Int.le_trans (mnr _ _) (Int.le_trans k7 (mxr _ _))
  · show (if j.2.2.2.2.2.1 < k.2.2.2.2.2.1 then j.2.2.2.2.2.1 else k.2.2.2.2.2.1).toInt ≤ (if j.2.2.2.2.2.2.1 < k.2.2.2.2.2.2.1 then k.2.2.2.2.2.2.1 else j.2.2.2.2.2.2.1).toInt
    exact Int.le_trans (mnr _ _) (Int.le_trans k8 (mxr _ _))
theorem GG_F {k : KV} (h : GG k) (n : Int32) : GG (kF k n) := h
