def k01 (kc : Nat → KV) : Prop := ∀ a, (kc a).1 = 0 ∨ (kc a).1 = 1
theorem k01.up {kc : Nat → KV} (h : k01 kc) {a : Nat} {k : KV} (hk : k.1 = 0 ∨ k.1 = 1) : k01 (va_up kc a k) := fun b => by
  by_cases e : b = a
  · rw [e, va_up_self]; exact hk
  · rw [va_up_ne _ _ e]; exact h b
/-- an instruction that was let in -/
def okI (v : IV) : Prop := (¬ v.2.1 < 0 ∧ v.2.1.toNatClampNeg < 6) ∧ (v.2.2.1 = -1 ∨ (¬ v.2.2.1 < 0 ∧ v.2.2.1.toNatClampNeg < 6))
theorem cP_nR {g r : Nat} (h : r < 6) : cP g (g + 30 + 3 + r) = true := by unfold cP; exact decide_eq_true (by omega)
theorem cP_nP {g r : Nat} (h : r < 4) : cP g (g + 30 + 9 + r) = true := by unfold cP; exact decide_eq_true (by omega)
theorem cP_eR {g r : Nat} (h : r < 6) : cP g (g + 48 + 3 + r) = true := by unfold cP; exact decide_eq_true (by omega)
theorem cP_eP {g r : Nat} (h : r < 4) : cP g (g + 48 + 9 + r) = true := by unfold cP; exact decide_eq_true (by omega)
theorem cP_wR {g i r : Nat} (hi : i < 24) (h : r < 6) : cP g (g + 61 + 13 * i + 3 + r) = true := by unfold cP; exact decide_eq_true (by omega)
theorem cP_wP {g i r : Nat} (hi : i < 24) (h : r < 4) : cP g (g + 61 + 13 * i + 9 + r) = true := by unfold cP; exact decide_eq_true (by omega)
def rdA (x : Int32) : Bool := (decide (¬ x < 1) && decide (x ≤ 11)) || (decide (x = 13) || (decide (¬ x < 16) && decide (¬ (21 : Int32) < x)))
def rdB (v : IV) : Bool := decide (¬ v.2.2.1 = -1) && decide (¬ (21 : Int32) < v.1)
def yA (g : Nat) (v : IV) : Nat := if v.2.2.1 = -1 then g + 45 else g + 30 + 3 + v.2.2.1.toNatClampNeg
def yK (g : Nat) (v : IV) (kc : Nat → KV) : Nat → KV := if v.2.2.1 = -1 then va_up kc (g + 45) (kNumber v.2.2.2.1) else kc
theorem yA_P {g : Nat} {v : IV} (h : okI v) : cP g (yA g v) = true := by
  unfold yA
  rcases h.2 with q | ⟨-, q⟩
  · rw [if_pos q]; exact cP_45
  · by_cases e : v.2.2.1 = -1
    · rw [if_pos e]; exact cP_45
    · rw [if_neg e]; exact cP_nR q
def uns (g : Nat) (v : IV) (kc : Nat → KV) : Bool := if v.1 = 23 then decide ((kc (g + 30 + 3 + 0)).1 = 0) else (rdA v.1 && decide ((kc (g + 30 + 3 + v.2.1.toNatClampNeg)).1 = 0)) || (rdB v && decide ((kc (g + 30 + 3 + v.2.2.1.toNatClampNeg)).1 = 0))
-- a relation between two numbers: possible?, and what is known of them then
def rl3 (f s : KV) : Bool × KV × KV := if tgo f = true then (tgo s, tg f, tg s) else (false, tg f, s)
def rl (op : Int32) (f s : KV) : Bool × KV × KV :=
  if op = 16 then (if ((f.2.1 &&& s.2.1) &&& (f.2.2.1 ^^^ s.2.2.1)) = 0 then rl3 (kJoin f s) (kJoin f s) else (false, f, s))
  else if op = 17 then (!(kExact f && kExact s && decide (f.2.2.2.1 = s.2.2.2.1)), f, s)
  else if op = 18 then rl3 (kU f f.2.2.2.1 (if s.2.2.2.2.1 - 1 < f.2.2.2.2.1 then s.2.2.2.2.1 - 1 else f.2.2.2.2.1)) (kU s (if f.2.2.2.1 + 1 < s.2.2.2.1 then s.2.2.2.1 else f.2.2.2.1 + 1) s.2.2.2.2.1)
  else if op = 19 then rl3 (kU f (if s.2.2.2.1 < f.2.2.2.1 then f.2.2.2.1 else s.2.2.2.1) f.2.2.2.2.1) (kU s s.2.2.2.1 (if f.2.2.2.2.1 < s.2.2.2.2.1 then f.2.2.2.2.1 else s.2.2.2.2.1))
  else if op = 20 then rl3 (kS f f.2.2.2.2.2.1 (if s.2.2.2.2.2.2.1 - 1 < f.2.2.2.2.2.2.1 then s.2.2.2.2.2.2.1 - 1 else f.2.2.2.2.2.2.1)) (kS s (if f.2.2.2.2.2.1 + 1 < s.2.2.2.2.2.1 then s.2.2.2.2.2.1 else f.2.2.2.2.2.1 + 1) s.2.2.2.2.2.2.1)
  else rl3 (kS f (if s.2.2.2.2.2.1 < f.2.2.2.2.2.1 then f.2.2.2.2.2.1 else s.2.2.2.2.2.1) f.2.2.2.2.2.2.1) (kS s s.2.2.2.2.2.1 (if f.2.2.2.2.2.2.1 < s.2.2.2.2.2.2.1 then f.2.2.2.2.2.2.1 else s.2.2.2.2.2.2.1))
def rlK (g : Nat) (q : Bool × KV × KV) (kc : Nat → KV) : Nat → KV := va_up (va_up kc (g + 46) q.2.1) (g + 47) q.2.2
def b01 (b : Bool) : Int32 := if b = true then 1 else 0
theorem b01_t : b01 true = 1 := rfl
theorem b01_f : b01 false = 0 := rfl
theorem xrZ_b (b : Bool) (w : xw) : xrZ (b01 b) w = some (b01 b, w) := by cases b <;> rfl
section W1
variable {w : xw} {g : Nat} {ct : Int32} {ii : Nat → IV} {ln : Int32} {bt wt : Nat → Int32} {en st : Int32} {mr ms : Nat → Int32} {mi : Int32} {kc : Nat → KV}
theorem ei_rdA {i : Nat} (hi : i < 24) : f_I_readsA (ew (cb w g ct ii ln bt wt en st mr ms mi) (cP g) kc) (g + 3 + i) = some (b01 (rdA (ii i).1), ew (cb w g ct ii ln bt wt en st mr ms mi) (cP g) kc) := by
  unfold f_I_readsA f_I_readsA_b17 f_I_readsA_b44 f_I_readsA_b48 f_I_readsA_b49 rdA
  simp only [ci_0 hi, Option.bind_some]
  by_cases h1 : (ii i).1 < 1 <;> by_cases h2 : (ii i).1 ≤ 11 <;> by_cases h3 : (ii i).1 = 13 <;> by_cases h4 : (ii i).1 < 16 <;> by_cases h5 : (21 : Int32) < (ii i).1 <;> simp only [h1, h2, h3, h4, h5, if_true, if_false, decide_true, decide_false, not_true, not_false_iff, Bool.true_and, Bool.false_and, Bool.and_true, Bool.and_false, Bool.true_or, Bool.false_or, Bool.or_true, Bool.or_false] <;> rfl
theorem ei_rdB {i : Nat} (hi : i < 24) : f_I_readsB (ew (cb w g ct ii ln bt wt en st mr ms mi) (cP g) kc) (g + 3 + i) = some (b01 (rdB (ii i)), ew (cb w g ct ii ln bt wt en st mr ms mi) (cP g) kc) := by
  unfold f_I_readsB f_I_readsB_b21 f_I_readsB_b22 rdB
  simp only [ci_0 hi, ci_2 hi, Option.bind_some]
  by_cases h1 : (ii i).2.2.1 = -1 <;> by_cases h2 : (21 : Int32) < (ii i).1 <;> simp only [h1, h2, if_true, if_false, decide_true, decide_false, not_true, not_false_iff, Bool.true_and, Bool.false_and, Bool.and_true, Bool.and_false] <;> rfl
theorem ew_y {i : Nat} (hi : i < 24) (ho : okI (ii i)) : f_W_knownOfY (ew (cb w g ct ii ln bt wt en st mr ms mi) (cP g) kc) (g + 29) (g + 3 + i) = some (yA g (ii i), ew (cb w g ct ii ln bt wt en st mr ms mi) (cP g) (yK g (ii i) kc)) := by
  unfold f_W_knownOfY yA yK
  simp only [ci_2 hi, ci_3 hi, cr_29_4, cr_29_1, ek_ck cP_45, ek_number cP_45, Option.bind_some]
  by_cases h : (ii i).2.2.1 = -1
  · simp only [if_pos h]
  · simp only [if_neg h, cs_n0, Option.bind_some]
    rcases ho.2 with q | ⟨q1, q2⟩
    · exact absurd q h
    · rw [cs_nR q1 q2]; rfl
theorem ew_uns {i : Nat} (hi : i < 24) (ho : okI (ii i)) : f_W_readsUnset (ew (cb w g ct ii ln bt wt en st mr ms mi) (cP g) kc) (g + 29) (g + 3 + i) = some (b01 (uns g (ii i) kc), ew (cb w g ct ii ln bt wt en st mr ms mi) (cP g) kc) := by
  have hB : f_W_readsUnset_b55 (ew (cb w g ct ii ln bt wt en st mr ms mi) (cP g) kc) (g + 29) (g + 3 + i) = some (b01 (rdB (ii i) && decide ((kc (g + 30 + 3 + (ii i).2.2.1.toNatClampNeg)).1 = 0)), ew (cb w g ct ii ln bt wt en st mr ms mi) (cP g) kc) := by
    unfold f_W_readsUnset_b55 f_W_readsUnset_b84 f_W_readsUnset_b80 f_W_readsUnset_b85
    simp only [ci_ck hi, ei_rdB hi, Option.bind_some, cr_29_1, cs_n0, ci_2 hi]
    cases hb : rdB (ii i)
    · rfl
    · rw [if_neg (by decide)]
      have hne : ¬ (ii i).2.2.1 = -1 := by
        unfold rdB at hb
        rw [Bool.and_eq_true, decide_eq_true_eq] at hb
        exact hb.1
      rcases ho.2 with q | ⟨q1, q2⟩
      · exact absurd q hne
      · simp only [cs_nR q1 q2, Option.bind_some, ek_r0 (cP_nR q2)]
        by_cases h : (kc (g + 30 + 3 + (ii i).2.2.1.toNatClampNeg)).1 = 0
        · rw [if_neg (fun q => q h), decide_eq_true h]; rfl
        · rw [if_pos h, decide_eq_false h]; rfl
  unfold f_W_readsUnset f_W_readsUnset_b80 f_W_readsUnset_b85 f_W_readsUnset_b29 uns
  simp only [ci_0 hi, ci_ck hi, ei_rdA hi, Option.bind_some, cr_29_1, cs_n0, ci_1 hi, cs_nR ho.1.1 ho.1.2, ek_r0 (cP_nR ho.1.2), hB]
  by_cases h : (ii i).1 = 23
  · rw [if_neg (fun q => q h), if_pos h, cs_nR (r := 0) (by decide) (by decide)]
    simp only [Option.bind_some]
    rw [show (0 : Int32).toNatClampNeg = 0 from rfl, ek_r0 (cP_nR (by decide))]
    simp only [Option.bind_some]
    by_cases q : (kc (g + 30 + 3 + 0)).1 = 0
    · rw [if_neg (fun z => z q), decide_eq_true q]; rfl
    · rw [if_pos q, decide_eq_false q]; rfl
  · rw [if_pos h, if_neg h]
    cases hb : rdA (ii i).1
    · rw [if_pos (by rfl), Bool.false_and, Bool.false_or]
    · rw [if_neg (by decide), Bool.true_and]
      by_cases q : (kc (g + 30 + 3 + (ii i).2.1.toNatClampNeg)).1 = 0
      · rw [if_pos q, decide_eq_true q, Bool.true_or]; rfl
      · rw [if_neg q, decide_eq_false q, Bool.false_or]
theorem ne4647 : g + 47 ≠ g + 46 := by omega
theorem ne4746 : g + 46 ≠ g + 47 := by omega
theorem ew_rl3 : f_W_relate_b319 (ew (cb w g ct ii ln bt wt en st mr ms mi) (cP g) kc) (g + 29) = some (b01 (rl3 (kc (g + 46)) (kc (g + 47))).1, ew (cb w g ct ii ln bt wt en st mr ms mi) (cP g) (rlK g (rl3 (kc (g + 46)) (kc (g + 47))) kc)) := by
  unfold f_W_relate_b319 f_W_relate_b343 f_W_relate_b344 rl3 rlK
  simp only [cr_29_5, cr_29_6, ek_ck cP_46, ek_ck cP_47, ek_tighten cP_46, ek_tighten cP_47, Option.bind_some, va_up_ne _ _ (ne4647 (g := g))]
  by_cases h1 : tgo (kc (g + 46)) = true
  · simp only [if_pos h1]
    rw [if_neg (by decide)]
    by_cases h2 : tgo (kc (g + 47)) = true
    · simp only [if_pos h2]
      rw [if_neg (by decide), h2]
      rfl
    · simp only [if_neg h2]
      rw [if_pos trivial, Bool.eq_false_iff.mpr h2]
      rfl
  · simp only [if_neg h1]
    rw [if_pos trivial, show va_up (va_up kc (g + 46) (tg (kc (g + 46)))) (g + 47) (kc (g + 47)) = va_up kc (g + 46) (tg (kc (g + 46))) from by
      have e := va_up_id (va_up kc (g + 46) (tg (kc (g + 46)))) (g + 47)
      rw [va_up_ne _ _ ne4647] at e
      exact e]
    rfl
theorem ew_rl {op : Int32} (hs : k01 kc) : f_W_relate (ew (cb w g ct ii ln bt wt en st mr ms mi) (cP g) kc) (g + 29) op = some (b01 (rl op (kc (g + 46)) (kc (g + 47))).1, ew (cb w g ct ii ln bt wt en st mr ms mi) (cP g) (rlK g (rl op (kc (g + 46)) (kc (g + 47))) kc)) := by
  have idK : va_up (va_up kc (g + 46) (kc (g + 46))) (g + 47) (kc (g + 47)) = kc := by rw [va_up_id, va_up_id]
  have up2 : ∀ (k j k' j' : KV), va_up (va_up (va_up (va_up kc (g + 46) k) (g + 47) j) (g + 46) k') (g + 47) j' = va_up (va_up kc (g + 46) k') (g + 47) j' := fun k j k' j' => by
    funext a
    by_cases e1 : a = g + 47
    · rw [e1, va_up_self, va_up_self]
    · rw [va_up_ne _ _ e1, va_up_ne _ _ e1]
      by_cases e2 : a = g + 46
      · rw [e2, va_up_self, va_up_self]
      · rw [va_up_ne _ _ e2, va_up_ne _ _ e1, va_up_ne _ _ e2, va_up_ne _ _ e2]
  unfold f_W_relate f_W_relate_b104 f_W_relate_b109 rl
  by_cases h16 : op = 16
  · simp only [if_pos h16, cr_29_5, cr_29_6, ek_ck cP_46, ek_join cP_46 cP_47 ne4647, Option.bind_some]
    by_cases hc : (((kc (g + 46)).2.1 &&& (kc (g + 47)).2.1) &&& ((kc (g + 46)).2.2.1 ^^^ (kc (g + 47)).2.2.1)) = 0
    · simp only [if_pos hc]
      rw [if_pos (by decide)]
      simp only [cr_29_5, cr_29_6, ek_ck cP_47, Option.bind_some]
      rw [ek_take cP_47 cP_46 (by rw [va_up_self]; exact hs (g + 46))]
      simp only [Option.bind_some, ew_rl3, va_up_self, va_up_ne _ _ (ne4746 (g := g)), rlK, up2]
    · simp only [if_neg hc]
      rw [if_neg (by decide)]
      unfold rlK
      rw [idK]
      rfl
  simp only [if_neg h16]
  by_cases h17 : op = 17
  · simp only [if_pos h17, cr_29_5, cr_29_6, ek_ck cP_46, ek_ck cP_47, ek_exact cP_46, ek_exact cP_47, ek_r3 cP_46, ek_r3 cP_47, Option.bind_some]
    unfold rlK kExact
    rw [idK]
    by_cases q1 : (kc (g + 46)).2.2.2.1 = (kc (g + 46)).2.2.2.2.1
    · simp only [if_pos q1]
      rw [if_neg (by decide), decide_eq_true q1, Bool.true_and]
      by_cases q2 : (kc (g + 47)).2.2.2.1 = (kc (g + 47)).2.2.2.2.1
      · simp only [if_pos q2]
        rw [if_neg (by decide), decide_eq_true q2, Bool.true_and]
        by_cases q3 : (kc (g + 46)).2.2.2.1 = (kc (g + 47)).2.2.2.1
        · rw [if_pos q3, decide_eq_true q3]; rfl
        · rw [if_neg q3, decide_eq_false q3]; rfl
      · simp only [if_neg q2]
        rw [if_pos trivial, decide_eq_false q2]; rfl
    · simp only [if_neg q1]
      rw [if_pos trivial, decide_eq_false q1]; rfl
  simp only [if_neg h17]
  by_cases h18 : op = 18
  · simp only [if_pos h18, cr_29_5, cr_29_6, ek_r3 cP_46, ek_r3 cP_47, ek_r4 cP_46, ek_r4 cP_47, ek_w4 cP_46, ek_w3 cP_47, Option.bind_some, va_up_self, va_up_ne _ _ (ne4647 (g := g)), ew_rl3, va_up_ne _ _ (ne4746 (g := g)), rlK, up2, kU, kS]
  simp only [if_neg h18]
  by_cases h19 : op = 19
  · simp only [if_pos h19, cr_29_5, cr_29_6, ek_r3 cP_46, ek_r3 cP_47, ek_r4 cP_46, ek_r4 cP_47, ek_w3 cP_46, ek_w4 cP_47, Option.bind_some, va_up_self, va_up_ne _ _ (ne4647 (g := g)), ew_rl3, va_up_ne _ _ (ne4746 (g := g)), rlK, up2, kU, kS]
  simp only [if_neg h19]
  by_cases h20 : op = 20
  · simp only [if_pos h20, cr_29_5, cr_29_6, ek_r5 cP_46, ek_r5 cP_47, ek_r6 cP_46, ek_r6 cP_47, ek_w6 cP_46, ek_w5 cP_47, Option.bind_some, va_up_self, va_up_ne _ _ (ne4647 (g := g)), ew_rl3, va_up_ne _ _ (ne4746 (g := g)), rlK, up2, kU, kS]
  simp only [if_neg h20, cr_29_5, cr_29_6, ek_r5 cP_46, ek_r5 cP_47, ek_r6 cP_46, ek_r6 cP_47, ek_w5 cP_46, ek_w6 cP_47, Option.bind_some, va_up_self, va_up_ne _ _ (ne4647 (g := g)), ew_rl3, va_up_ne _ _ (ne4746 (g := g)), rlK, up2, kU, kS]
end W1
