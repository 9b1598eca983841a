def loN (k : KV) : Nat := k.2.2.2.1.toInt.toNat
def hiN (k : KV) : Nat := k.2.2.2.2.1.toInt.toNat
theorem i64_small {x : Int64} (h0 : (0 : Int64) ≤ x) (h4 : x < 4) : x = Int64.ofNat x.toInt.toNat ∧ x.toInt.toNat < 4 := by
  have a0 : (0 : Int) ≤ x.toInt := by have := Int64.le_iff_toInt_le.mp h0; simpa using this
  have a4 : x.toInt < 4 := by have := Int64.lt_iff_toInt_lt.mp h4; simpa using this
  have hc : x.toInt = 0 ∨ x.toInt = 1 ∨ x.toInt = 2 ∨ x.toInt = 3 := by omega
  refine ⟨Int64.toInt_inj.mp ?_, by omega⟩
  rcases hc with h | h | h | h <;> rw [h] <;> rfl
theorem b4 {k : KV} (h0 : (0 : Int64) ≤ k.2.2.2.1) (h1 : k.2.2.2.1 ≤ k.2.2.2.2.1) (h4 : k.2.2.2.2.1 < 4) : k.2.2.2.1 = Int64.ofNat (loN k) ∧ k.2.2.2.2.1 = Int64.ofNat (hiN k) ∧ loN k ≤ hiN k ∧ hiN k < 4 := by
  have q0 := Int64.le_iff_toInt_le.mp h0
  have q1 := Int64.le_iff_toInt_le.mp h1
  have q4 := Int64.lt_iff_toInt_lt.mp h4
  have l4 : k.2.2.2.1 < 4 := Int64.lt_iff_toInt_lt.mpr (by omega)
  have g0 : (0 : Int64) ≤ k.2.2.2.2.1 := Int64.le_iff_toInt_le.mpr (by omega)
  obtain ⟨a1, a2⟩ := i64_small h0 l4
  obtain ⟨b1, b2⟩ := i64_small g0 h4
  refine ⟨a1, b1, ?_, b2⟩
  unfold loN hiN
  omega
def alPl (op : Int32) (y : KV) (f : Nat → KV) : Int32 := if y.2.2.2.2.1 < 4 then (if op = 12 then (if anyU f (hiN y + 1 - loN y) (loN y) = true then 6 else 0) else 0) else 5
/-- alarm, and what is known then, at an instruction within the program, within the steps -/
def alm (g : Nat) (v : IV) (kc : Nat → KV) : Int32 × (Nat → KV) :=
  if uns g v kc = true then (3, kc)
  else if v.1 = 10 ∨ v.1 = 11 then (if (yK g v kc (yA g v)).2.2.2.1 = 0 then 4 else 0, yK g v kc)
  else if v.1 = 12 ∨ v.1 = 13 then (alPl v.1 (yK g v kc (yA g v)) (npl g (yK g v kc)), yK g v kc)
  else if v.1 = 14 then (if v.2.2.2.1 + v.2.2.2.2 ≤ (kc (g + 30 + 3 + v.2.2.1.toNatClampNeg)).2.2.2.2.2.2.2 then 0 else 7, kc)
  else (0, kc)
def chg (g : Nat) (v : IV) (kc : Nat → KV) : Bool × (Nat → KV) :=
  if v.1 = 0 then (true, va_up (yK g v kc) (g + 30 + 3 + v.2.1.toNatClampNeg) (yK g v kc (yA g v)))
  else if v.1 = 12 then (true, va_up (yK g v kc) (g + 30 + 3 + v.2.1.toNatClampNeg) (mts (npl g (yK g v kc)) (hiN (yK g v kc (yA g v)) - loN (yK g v kc (yA g v))) (loN (yK g v kc (yA g v)) + 1) (npl g (yK g v kc) (loN (yK g v kc (yA g v))))))
  else if v.1 = 13 then (true, if loN (yK g v kc (yA g v)) = hiN (yK g v kc (yA g v)) then va_up (yK g v kc) (g + 30 + 9 + loN (yK g v kc (yA g v))) (yK g v kc (g + 30 + 3 + v.2.1.toNatClampNeg)) else stp g (yK g v kc (g + 30 + 3 + v.2.1.toNatClampNeg)) (loN (yK g v kc (yA g v))) (hiN (yK g v kc (yA g v)) + 1 - loN (yK g v kc (yA g v))) (yK g v kc))
  else if v.1 = 14 then (true, va_up (yK g v kc) (g + 30 + 3 + v.2.1.toNatClampNeg) (if v.2.2.2.2 = 4 then kNothing else if v.2.2.2.2 = 1 then kUpTo 255 else kUpTo 65535))
  else (tgo (kOp v.1 (yK g v kc (g + 30 + 3 + v.2.1.toNatClampNeg)) (yK g v kc (yA g v))), va_up (va_up (yK g v kc) (g + 46) (tg (kOp v.1 (yK g v kc (g + 30 + 3 + v.2.1.toNatClampNeg)) (yK g v kc (yA g v))))) (g + 30 + 3 + v.2.1.toNatClampNeg) (tg (kOp v.1 (yK g v kc (g + 30 + 3 + v.2.1.toNatClampNeg)) (yK g v kc (yA g v)))))
theorem tg_1 (k : KV) : (tg k).1 = k.1 := by
  have h1 : (tg1 k).1 = k.1 := rfl
  have h2 : ∀ k : KV, (tg2 k).1 = k.1 := fun k => by unfold tg2; split <;> rfl
  have h3 : ∀ k : KV, (tg3 k).1 = k.1 := fun k => by unfold tg3; split <;> rfl
  have h4 : ∀ k : KV, (tg4 k).1 = k.1 := fun k => by unfold tg4; split <;> rfl
  unfold tg
  rw [h4, h3, h2, h1]
theorem kOp_1 (op : Int32) (k j : KV) : (kOp op k j).1 = 1 := by
  have hB : ∀ (s : KV) b o, (kB s b o).1 = s.1 := fun _ _ _ => rfl
  have hU : ∀ (s : KV) b o, (kU s b o).1 = s.1 := fun _ _ _ => rfl
  have hS : ∀ (s : KV) b o, (kS s b o).1 = s.1 := fun _ _ _ => rfl
  have hF : ∀ (s : KV) b, (kF s b).1 = s.1 := fun _ _ => rfl
  have hs2 : ∀ s : KV, (os2 k j s).1 = s.1 := fun s => by unfold os2; split <;> rfl
  have hs3 : ∀ s : KV, (os3 k j s).1 = s.1 := fun s => by unfold os3; split <;> (try split) <;> rfl
  have hs4 : ∀ s : KV, (os4 k j s).1 = s.1 := fun s => by unfold os4; split <;> (try split) <;> (try split) <;> rfl
  have hd2 : ∀ s : KV, (od2 k j s).1 = s.1 := fun s => by unfold od2; split <;> rfl
  have hd3 : ∀ s : KV, (od3 k j s).1 = s.1 := fun s => by unfold od3; split <;> (try split) <;> rfl
  have hp2 : ∀ s : KV, (op2 k j s).1 = s.1 := fun s => by unfold op2; split <;> rfl
  have hq : ∀ s : KV, (oQuo k j s).1 = s.1 := fun s => by unfold oQuo; split <;> (try split) <;> rfl
  have hr : ∀ s : KV, (oRes k j s).1 = s.1 := fun s => by unfold oRes; split <;> rfl
  have hh : ∀ s : KV, (oShi op k j s).1 = s.1 := fun s => by unfold oShi oLef oRig oSig; split <;> (try split) <;> (try split) <;> rfl
  unfold kOp oAll
  split
  · unfold oSum; rw [hs4, hs3, hs2, hB]; rfl
  split
  · unfold oDif; rw [hd3, hd2, hB]; rfl
  split
  · unfold oPro; rw [hp2, hB]; rfl
  split
  · rfl
  split
  · rfl
  split
  · rfl
  split
  · rw [hh]; rfl
  split
  · rw [hh]; rfl
  split
  · rw [hh]; rfl
  split
  · rw [hq]; rfl
  split
  · rw [hr]; rfl
  · rw [hh]; rfl
theorem un_toInt (x : Int32) : (un x).toInt = x.toInt % 4294967296 := by
  have h := Jvm.Kit.i64_mask x.toInt64 4294967295 (k := 32) (by decide) (by decide)
  rw [Int32.toInt_toInt64] at h
  exact h
theorem un_nn (x : Int32) : (0 : Int64) ≤ un x := by
  apply Int64.le_iff_toInt_le.mpr
  rw [un_toInt]
  show (0 : Int) ≤ _
  omega
theorem nR_pl {g r t : Nat} (hr : r < 6) (ht : t < 4) : g + 30 + 9 + t ≠ g + 30 + 3 + r := by omega
theorem yA_pl {g t : Nat} {v : IV} (h : okI v) (ht : t < 4) : g + 30 + 9 + t ≠ yA g v := by
  unfold yA
  rcases h.2 with q | ⟨-, q⟩
  · rw [if_pos q]; omega
  · by_cases e : v.2.2.1 = -1
    · rw [if_pos e]; omega
    · rw [if_neg e]; omega
theorem yA_46 {g : Nat} {v : IV} (h : okI v) : yA g v ≠ g + 46 := by
  unfold yA
  rcases h.2 with q | ⟨-, q⟩
  · rw [if_pos q]; omega
  · by_cases e : v.2.2.1 = -1
    · rw [if_pos e]; omega
    · rw [if_neg e]; omega
def max4 (x n : Int32) : Int32 := if x < n then n else x
def prt (g : Nat) (v : IV) (p : Nat) (kc : Nat → KV) : Bool × Bool × (Nat → KV) :=
  if v.1 = 15 then (true, true, va_up (kcp (g + 61 + 13 * p) (g + 30) 10 kc) (g + 30 + 3 + v.2.2.1.toNatClampNeg) (kF (kc (g + 30 + 3 + v.2.2.1.toNatClampNeg)) (max4 (kc (g + 30 + 3 + v.2.2.1.toNatClampNeg)).2.2.2.2.2.2.2 v.2.2.2.1)))
  else
    let kc2 := tpK g v (kcp (g + 61 + 13 * p) (g + 30) 10 kc)
    let q1 := rl v.1 (kc2 (g + 46)) (kc2 (g + 47))
    let kc5 := tpK g v (gpK g v (g + 61 + 13 * p) (rlK g q1 kc2))
    let q2 := rl (v.1 ^^^ 1) (kc5 (g + 46)) (kc5 (g + 47))
    (q1.1, q2.1, gpK g v (g + 30) (rlK g q2 kc5))
def hiW (wt : Nat → Int32) : Nat → Option Nat
  | 0 => none
  | n + 1 => if wt n = 0 then hiW wt n else some n
theorem hiW_lt {wt : Nat → Int32} : ∀ {n i : Nat}, hiW wt n = some i → i < n
  | 0, _, h => by cases h
  | n + 1, i, h => by
    unfold hiW at h
    split at h
    · exact Nat.lt_succ_of_lt (hiW_lt h)
    · cases h; exact Nat.lt_succ_self _
section W5
variable {w : xw} {g : Nat} {ct : Int32} {ii : Nat → IV} {ln : Int32} {bt wt : Nat → Int32} {en st : Int32} {mr ms : Nat → Int32} {mi : Int32} {kc : Nat → KV}
theorem ew_aop {op : Int32} {y : Nat} (hy : cP g y = true) (h0 : (0 : Int64) ≤ (kc y).2.2.2.1) (h1 : (kc y).2.2.2.1 ≤ (kc y).2.2.2.2.1) : f_W_alarmOfPlaces (ew (cb w g ct ii ln bt wt en st mr ms mi) (cP g) kc) (g + 29) op y = some (alPl op (kc y) (npl g kc), ew (cb w g ct ii ln bt wt en st mr ms mi) (cP g) kc) := by
  unfold f_W_alarmOfPlaces alPl
  simp only [ek_r3 hy, ek_r4 hy, Option.bind_some]
  by_cases h4 : (kc y).2.2.2.2.1 < 4
  · rw [if_pos h4, if_pos h4]
    obtain ⟨e1, e2, e3, e4⟩ := b4 h0 h1 h4
    by_cases ho : op = 12
    · subst ho
      rw [if_pos rfl, show (kc y).2.2.2.1.toInt32 = Int32.ofNat (loN (kc y)) from by rw [e1]; exact i64_32 _ (by omega)]
      exact ew_ap hy e4 e2 _ _ 4000 (by omega) (by omega)
    · rw [if_neg ho]
      exact ew_ap13 3999 ho
  · rw [if_neg h4, if_neg h4]
theorem ew_alarm {p : Nat} (hp : p < 24) (hc : Int32.ofNat p < ct) (hs : st ≤ 300) (ho : okI (ii p)) (hb : (ii p).1 = 14 → ¬ (ii p).2.2.1 = -1) (hg : ∀ r, r < 6 → (kc (g + 30 + 3 + r)).1 = 1 → (0 : Int64) ≤ (kc (g + 30 + 3 + r)).2.2.2.1 ∧ (kc (g + 30 + 3 + r)).2.2.2.1 ≤ (kc (g + 30 + 3 + r)).2.2.2.2.1) (hk : k01 kc) : f_W_alarmAt (ew (cb w g ct ii ln bt wt en st mr ms mi) (cP g) kc) (g + 29) (Int32.ofNat p) = some ((alm g (ii p) kc).1, ew (cb w g ct ii ln bt wt en st mr ms mi) (cP g) ((alm g (ii p) kc).2)) := by
  have e1 : (Int32.ofNat p).toNatClampNeg = p := i32_nat p (by omega)
  unfold f_W_alarmAt f_W_alarmAt_b84 f_W_alarmAt_b102 f_W_alarmAt_b103 f_W_alarmAt_b150
  simp only [cr_29_0, cr_1_1, cr_29_9, cr_1_0, Option.bind_some]
  rw [if_pos hc, if_pos hs, cs_I (i32_nneg p (by omega)) (show (Int32.ofNat p).toNatClampNeg < 24 by omega), e1]
  simp only [Option.bind_some, cc_29, ew_uns hp ho]
  unfold alm
  cases hu : uns g (ii p) kc
  · rw [if_pos (by rfl), if_neg (by decide)]
    simp only [ci_0 hp, ew_y hp ho, Option.bind_some, ek_r3 (yA_P ho)]
    -- y is set where it is read
    have hgy : rdB (ii p) = true ∨ (ii p).2.2.1 = -1 → (0 : Int64) ≤ (yK g (ii p) kc (yA g (ii p))).2.2.2.1 ∧ (yK g (ii p) kc (yA g (ii p))).2.2.2.1 ≤ (yK g (ii p) kc (yA g (ii p))).2.2.2.2.1 := fun hq => by
      unfold yK yA
      by_cases hm : (ii p).2.2.1 = -1
      · simp only [if_pos hm, va_up_self]
        exact ⟨un_nn _, Int64.le_refl _⟩
      · simp only [if_neg hm]
        rcases hq with hq | hq
        · rcases ho.2 with q | ⟨q1, q2⟩
          · exact absurd q hm
          · refine hg _ q2 ?_
            unfold uns at hu
            have h23 : ¬ (ii p).1 = 23 := fun z => by
              unfold rdB at hq
              rw [z] at hq
              simp at hq
            rw [if_neg h23, hq, Bool.true_and, Bool.or_eq_false_iff, decide_eq_false_iff_not] at hu
            rcases hk (g + 30 + 3 + (ii p).2.2.1.toNatClampNeg) with z | z
            · exact absurd z hu.2
            · exact z
        · exact absurd hq hm
    have hrd : (ii p).1 = 12 ∨ (ii p).1 = 13 → rdB (ii p) = true ∨ (ii p).2.2.1 = -1 := fun z => by
      by_cases hm : (ii p).2.2.1 = -1
      · exact Or.inr hm
      · refine Or.inl ?_
        unfold rdB
        rw [Bool.and_eq_true, decide_eq_true_eq, decide_eq_true_eq]
        refine ⟨hm, ?_⟩
        rcases z with z | z <;> rw [z] <;> decide
    by_cases h10 : (ii p).1 = 10
    · rw [if_pos h10, if_pos (Or.inl h10)]
      by_cases hz : (yK g (ii p) kc (yA g (ii p))).2.2.2.1 = 0
      · rw [if_neg (fun q => q hz)]; simp only [if_pos hz]
      · rw [if_pos hz]; simp only [if_neg hz]
    rw [if_neg h10]
    by_cases h11 : (ii p).1 = 11
    · rw [if_pos h11, if_pos (Or.inr h11)]
      by_cases hz : (yK g (ii p) kc (yA g (ii p))).2.2.2.1 = 0
      · rw [if_neg (fun q => q hz)]; simp only [if_pos hz]
      · rw [if_pos hz]; simp only [if_neg hz]
    rw [if_neg h11, if_neg (show ¬ ((ii p).1 = 10 ∨ (ii p).1 = 11) from fun q => q.elim h10 h11)]
    by_cases h12 : (ii p).1 = 12
    · obtain ⟨y0, y1⟩ := hgy (hrd (Or.inl h12))
      rw [if_pos h12, if_pos (Or.inl h12)]
      simp only [cc_29, ew_aop (yA_P ho) y0 y1, Option.bind_some]
    rw [if_neg h12]
    by_cases h13 : (ii p).1 = 13
    · obtain ⟨y0, y1⟩ := hgy (hrd (Or.inr h13))
      rw [if_pos h13, if_pos (Or.inr h13)]
      simp only [cc_29, ew_aop (yA_P ho) y0 y1, Option.bind_some]
    rw [if_neg h13, if_neg (show ¬ ((ii p).1 = 12 ∨ (ii p).1 = 13) from fun q => q.elim h12 h13)]
    by_cases h14 : (ii p).1 = 14
    · rw [if_pos h14, if_pos h14]
      rcases ho.2 with q | ⟨q1, q2⟩
      · exact absurd q (hb h14)
      · simp only [ci_3 hp, ci_4 hp, ci_2 hp, cr_29_1, cs_n0, cs_nR q1 q2, ek_r7 (cP_nR q2), Option.bind_some]
        by_cases hz : (ii p).2.2.2.1 + (ii p).2.2.2.2 ≤ (kc (g + 30 + 3 + (ii p).2.2.1.toNatClampNeg)).2.2.2.2.2.2.2
        · rw [if_pos hz]; simp only [if_pos hz]
        · rw [if_neg hz]; simp only [if_neg hz]
    rw [if_neg h14, if_neg h14]
  · rw [if_neg (by decide), if_pos rfl]
end W5
