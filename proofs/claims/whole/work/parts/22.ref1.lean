def okR (r : Int32) : Prop := ¬ r < 0 ∧ r.toNatClampNeg < 260
theorem i64_le_of {x y : Int64} (h : ¬ x ≤ y) : y < x := by
  rw [Int64.le_iff_toInt_le] at h
  rw [Int64.lt_iff_toInt_lt]
  omega
theorem i64_not_lt {x y : Int64} (h : x ≤ y) : ¬ y < x := by
  rw [Int64.le_iff_toInt_le] at h
  rw [Int64.lt_iff_toInt_lt]
  omega
theorem i64_eq_of {x y : Int64} (h1 : x ≤ y) (h2 : ¬ x < y) : x = y := by
  rw [Int64.le_iff_toInt_le] at h1
  rw [Int64.lt_iff_toInt_lt] at h2
  exact Int64.toInt_inj.mp (by omega)
theorem i32_le_of {x y : Int32} (h : ¬ x ≤ y) : y < x := by
  rw [Int32.le_iff_toInt_le] at h
  rw [Int32.lt_iff_toInt_lt]
  omega
theorem i32_not_lt {x y : Int32} (h : x ≤ y) : ¬ y < x := by
  rw [Int32.le_iff_toInt_le] at h
  rw [Int32.lt_iff_toInt_lt]
  omega
theorem i32_eq_of {x y : Int32} (h1 : x ≤ y) (h2 : ¬ x < y) : x = y := by
  rw [Int32.le_iff_toInt_le] at h1
  rw [Int32.lt_iff_toInt_lt] at h2
  exact Int32.toInt_inj.mp (by omega)
theorem rgr (x y : Int64) : f_R_greater x y = some (if y < x then x else y) := by
  unfold f_R_greater f_R_greater_b11
  by_cases h : x ≤ y
  · rw [if_pos h, if_neg (i64_not_lt h)]
  · rw [if_neg h, if_pos (i64_le_of h)]
theorem rls (x y : Int64) : f_R_lesser x y = some (if y < x then y else x) := by
  unfold f_R_lesser f_R_lesser_b11
  by_cases h : y ≤ x
  · rw [if_pos h]
    by_cases q : y < x
    · rw [if_pos q]
    · rw [if_neg q, i64_eq_of h q]
  · rw [if_neg h, if_neg (fun q => h (by rw [Int64.le_iff_toInt_le]; rw [Int64.lt_iff_toInt_lt] at q; omega))]
theorem un_32 (x : Int64) : x &&& (4294967295 : Int64) = un x.toInt32 := by
  apply Int64.toInt_inj.mp
  rw [un_toInt]
  have h := Jvm.Kit.i64_mask x 4294967295 (k := 32) (by decide) (by decide)
  rw [h, Int64.toInt_toInt32]
  rw [show (4294967296 : Int) = ((2 ^ 32 : Nat) : Int) from rfl, Int.bmod_emod]
  rfl
section R1
variable {w : xw} {b : Nat} {th ct : Int32} {po pa pb pn pf : Nat → Int32} {ln : Int32} {bt : Nat → Int32} {kk : Nat → KV} {pl st en wg : Int32} {ws : Nat → Int32} {rc : Int32} {rg sk : Nat → Int32}
theorem er_copy {f t : Int32} (hf : okR f) (ht : okR t) (hs : (kk f.toNatClampNeg).1 = 0 ∨ (kk f.toNatClampNeg).1 = 1) : f_R_copy (rb w b th ct po pa pb pn pf ln bt kk pl st en wg ws rc rg sk) b f t = some ((), rb w b th ct po pa pb pn pf ln bt (va_up kk t.toNatClampNeg (kk f.toNatClampNeg)) pl st en wg ws rc rg sk) := by
  unfold f_R_copy
  by_cases e : f.toNatClampNeg = t.toNatClampNeg
  · rw [e] at hs
    simp only [rr_9, rr_10, rr_11, rr_12, rr_13, rr_14, rr_15, rr_16, rk_0 hf.1 hf.2, rk_1 hf.1 hf.2, rk_2 hf.1 hf.2, rk_3 hf.1 hf.2, rk_4 hf.1 hf.2, rk_5 hf.1 hf.2, rk_6 hf.1 hf.2, rk_7 hf.1 hf.2, rw_0 ht.1 ht.2 hs, rw_1 ht.1 ht.2, rw_2 ht.1 ht.2, rw_3 ht.1 ht.2, rw_4 ht.1 ht.2, rw_5 ht.1 ht.2, rw_6 ht.1 ht.2, rw_7 ht.1 ht.2, Option.bind_some, e, va_up_self, va_up_up]
  · simp only [rr_9, rr_10, rr_11, rr_12, rr_13, rr_14, rr_15, rr_16, rk_0 hf.1 hf.2, rk_1 hf.1 hf.2, rk_2 hf.1 hf.2, rk_3 hf.1 hf.2, rk_4 hf.1 hf.2, rk_5 hf.1 hf.2, rk_6 hf.1 hf.2, rk_7 hf.1 hf.2, rw_0 ht.1 ht.2 hs, rw_1 ht.1 ht.2, rw_2 ht.1 ht.2, rw_3 ht.1 ht.2, rw_4 ht.1 ht.2, rw_5 ht.1 ht.2, rw_6 ht.1 ht.2, rw_7 ht.1 ht.2, Option.bind_some, va_up_self, va_up_up, va_up_ne _ _ e]
theorem er_nothing {t : Int32} (ht : okR t) : f_R_nothing (rb w b th ct po pa pb pn pf ln bt kk pl st en wg ws rc rg sk) b t = some ((), rb w b th ct po pa pb pn pf ln bt (va_up kk t.toNatClampNeg kNothing) pl st en wg ws rc rg sk) := by
  unfold f_R_nothing
  simp only [rr_9, rr_10, rr_11, rr_12, rr_13, rr_14, rr_15, rr_16, rw_0 ht.1 ht.2 (Or.inr rfl), rw_1 ht.1 ht.2, rw_2 ht.1 ht.2, rw_3 ht.1 ht.2, rw_4 ht.1 ht.2, rw_5 ht.1 ht.2, rw_6 ht.1 ht.2, rw_7 ht.1 ht.2, Option.bind_some, va_up_self, va_up_up]
  rfl
theorem er_number {t n : Int32} (ht : okR t) : f_R_number (rb w b th ct po pa pb pn pf ln bt kk pl st en wg ws rc rg sk) b t n = some ((), rb w b th ct po pa pb pn pf ln bt (va_up kk t.toNatClampNeg (kNumber n)) pl st en wg ws rc rg sk) := by
  unfold f_R_number
  simp only [rr_9, rr_10, rr_11, rr_12, rr_13, rr_14, rr_15, rr_16, rck, er_nothing ht, rw_1 ht.1 ht.2, rw_2 ht.1 ht.2, rw_3 ht.1 ht.2, rw_4 ht.1 ht.2, rw_5 ht.1 ht.2, rw_6 ht.1 ht.2, rw_7 ht.1 ht.2, Option.bind_some, va_up_self, va_up_up]
  rfl
theorem er_exact {t : Int32} (ht : okR t) : f_R_isExact (rb w b th ct po pa pb pn pf ln bt kk pl st en wg ws rc rg sk) b t = some (b01 (kExact (kk t.toNatClampNeg)), rb w b th ct po pa pb pn pf ln bt kk pl st en wg ws rc rg sk) := by
  unfold f_R_isExact f_R_isExact_b21 kExact
  simp only [rr_9, rr_10, rr_11, rr_12, rr_13, rr_14, rr_15, rr_16, rk_0 ht.1 ht.2, rk_1 ht.1 ht.2, rk_2 ht.1 ht.2, rk_3 ht.1 ht.2, rk_4 ht.1 ht.2, rk_5 ht.1 ht.2, rk_6 ht.1 ht.2, rk_7 ht.1 ht.2, Option.bind_some]
  by_cases e : (kk t.toNatClampNeg).2.2.2.1 = (kk t.toNatClampNeg).2.2.2.2.1
  · rw [if_neg (fun q => q e), decide_eq_true e]; rfl
  · rw [if_pos e, decide_eq_false e]; rfl
theorem er_meet {t s : Int32} (ht : okR t) (hs : okR s) (e : s.toNatClampNeg ≠ t.toNatClampNeg) : f_R_meet (rb w b th ct po pa pb pn pf ln bt kk pl st en wg ws rc rg sk) b t s = some ((), rb w b th ct po pa pb pn pf ln bt (va_up kk t.toNatClampNeg (kMeet (kk t.toNatClampNeg) (kk s.toNatClampNeg))) pl st en wg ws rc rg sk) := by
  unfold f_R_meet f_R_meet_b173
  simp only [rr_9, rr_10, rr_11, rr_12, rr_13, rr_14, rr_15, rr_16, rk_0 ht.1 ht.2, rk_1 ht.1 ht.2, rk_2 ht.1 ht.2, rk_3 ht.1 ht.2, rk_4 ht.1 ht.2, rk_5 ht.1 ht.2, rk_6 ht.1 ht.2, rk_7 ht.1 ht.2, rk_0 hs.1 hs.2, rk_1 hs.1 hs.2, rk_2 hs.1 hs.2, rk_3 hs.1 hs.2, rk_4 hs.1 hs.2, rk_5 hs.1 hs.2, rk_6 hs.1 hs.2, rk_7 hs.1 hs.2, rw_1 ht.1 ht.2, rw_2 ht.1 ht.2, rw_3 ht.1 ht.2, rw_4 ht.1 ht.2, rw_5 ht.1 ht.2, rw_6 ht.1 ht.2, rw_7 ht.1 ht.2, rls, rgr, Option.bind_some, va_up_self, va_up_up, va_up_ne _ _ e]
  by_cases h : (kk s.toNatClampNeg).2.2.2.2.2.2.2 ≤ (kk t.toNatClampNeg).2.2.2.2.2.2.2
  · rw [if_pos h]
    unfold kMeet
    by_cases q : (kk s.toNatClampNeg).2.2.2.2.2.2.2 < (kk t.toNatClampNeg).2.2.2.2.2.2.2
    · simp only [if_pos q]
    · simp only [if_neg q]
      simp only [i32_eq_of h q]
  · rw [if_neg h]
    unfold kMeet
    have q7 : ¬ (kk s.toNatClampNeg).2.2.2.2.2.2.2 < (kk t.toNatClampNeg).2.2.2.2.2.2.2 := fun q => h (by rw [Int32.le_iff_toInt_le]; rw [Int32.lt_iff_toInt_lt] at q; omega)
    simp only [if_neg q7]
end R1
def shS : Nat → Int32
  | 0 => -1
  | k + 1 => shS k <<< ((1 : Int32) &&& 31)
theorem shS_32 : shS 32 = 0 := by decide
def rsl (d : Int32) : Nat → Int32 → Int32
  | 0, s => s
  | n + 1, s => if (d &&& s) = 0 then s else rsl d n (s <<< ((1 : Int32) &&& 31))
def rsa (k : KV) : Int32 := rsl ((k.2.2.2.1 ^^^ k.2.2.2.2.1).toInt32) 32 (-1)
def rt4o (k : KV) (s : Int32) : Bool := decide (((k.2.1 &&& s) &&& (k.2.2.1 ^^^ k.2.2.2.1.toInt32)) = 0) && (decide (¬ (k.2.2.2.2.1 < k.2.2.2.1)) && decide (¬ (k.2.2.2.2.2.2.1 < k.2.2.2.2.2.1)))
def rt4 (k : KV) (s : Int32) : KV := (k.1, k.2.1 ||| s, (k.2.2.1 &&& (s ^^^ (-1 : Int32))) ||| (k.2.2.2.1.toInt32 &&& s), k.2.2.2)
def rtgo (k : KV) : Bool := rt4o (tg3 (tg2 (tg1 k))) (rsa (tg3 (tg2 (tg1 k))))
def rtg (k : KV) : KV := rt4 (tg3 (tg2 (tg1 k))) (rsa (tg3 (tg2 (tg1 k))))
section R2
variable {w : xw} {b : Nat} {th ct : Int32} {po pa pb pn pf : Nat → Int32} {ln : Int32} {bt : Nat → Int32} {kk : Nat → KV} {pl st en wg : Int32} {ws : Nat → Int32} {rc : Int32} {rg sk : Nat → Int32}
theorem er_t5 {t s : Int32} (ht : okR t) {c : Int32} (hc : (c = 0) ↔ ¬ (((kk t.toNatClampNeg).2.1 &&& s) &&& ((kk t.toNatClampNeg).2.2.1 ^^^ (kk t.toNatClampNeg).2.2.2.1.toInt32)) = 0) : f_R_tighten_b296 (rb w b th ct po pa pb pn pf ln bt kk pl st en wg ws rc rg sk) b t s (kk t.toNatClampNeg).2.2.2.1.toInt32 c = some (b01 (rt4o (kk t.toNatClampNeg) s), rb w b th ct po pa pb pn pf ln bt (va_up kk t.toNatClampNeg (rt4 (kk t.toNatClampNeg) s)) pl st en wg ws rc rg sk) := by
  unfold f_R_tighten_b296 f_R_tighten_b374 f_R_tighten_b375 rt4o
  simp only [rr_9, rr_10, rr_11, rr_12, rr_13, rr_14, rr_15, rr_16, rk_0 ht.1 ht.2, rk_1 ht.1 ht.2, rk_2 ht.1 ht.2, rk_3 ht.1 ht.2, rk_4 ht.1 ht.2, rk_5 ht.1 ht.2, rk_6 ht.1 ht.2, rk_7 ht.1 ht.2, rw_1 ht.1 ht.2, rw_2 ht.1 ht.2, rw_3 ht.1 ht.2, rw_4 ht.1 ht.2, rw_5 ht.1 ht.2, rw_6 ht.1 ht.2, rw_7 ht.1 ht.2, Option.bind_some, va_up_self, va_up_up]
  by_cases h : c = 0
  · rw [if_pos h, decide_eq_false (hc.mp h)]; rfl
  · have h3 : (((kk t.toNatClampNeg).2.1 &&& s) &&& ((kk t.toNatClampNeg).2.2.1 ^^^ (kk t.toNatClampNeg).2.2.2.1.toInt32)) = 0 := Decidable.not_not.mp (fun q => h (hc.mpr q))
    rw [if_neg h, decide_eq_true h3, Bool.true_and]
    by_cases h1 : (kk t.toNatClampNeg).2.2.2.2.1 < (kk t.toNatClampNeg).2.2.2.1
    · rw [if_pos h1, decide_eq_false (fun q => q h1)]; rfl
    · rw [if_neg h1, decide_eq_true h1, Bool.true_and]
      by_cases h2 : (kk t.toNatClampNeg).2.2.2.2.2.2.1 < (kk t.toNatClampNeg).2.2.2.2.2.1
      · rw [if_pos h2, decide_eq_false (fun q => q h2)]; rfl
      · rw [if_neg h2, decide_eq_true h2]; rfl
theorem er_t4 {t d : Int32} (ht : okR t) : ∀ (m k n : Nat), k + m = 32 → m < n → f_R_tighten_b248 n (rb w b th ct po pa pb pn pf ln bt kk pl st en wg ws rc rg sk) b t d (shS k) = some (b01 (rt4o (kk t.toNatClampNeg) (rsl d m (shS k))), rb w b th ct po pa pb pn pf ln bt (va_up kk t.toNatClampNeg (rt4 (kk t.toNatClampNeg) (rsl d m (shS k)))) pl st en wg ws rc rg sk) := by
  have fin : ∀ s : Int32, (d &&& s) = 0 → ∀ r, f_R_tighten_s248 r (rb w b th ct po pa pb pn pf ln bt kk pl st en wg ws rc rg sk) b t d s = some (b01 (rt4o (kk t.toNatClampNeg) s), rb w b th ct po pa pb pn pf ln bt (va_up kk t.toNatClampNeg (rt4 (kk t.toNatClampNeg) s)) pl st en wg ws rc rg sk) := fun s hs r => by
    unfold f_R_tighten_s248
    rw [if_pos hs]
    simp only [rr_9, rr_10, rr_11, rr_12, rr_13, rr_14, rr_15, rr_16, rk_0 ht.1 ht.2, rk_1 ht.1 ht.2, rk_2 ht.1 ht.2, rk_3 ht.1 ht.2, rk_4 ht.1 ht.2, rk_5 ht.1 ht.2, rk_6 ht.1 ht.2, rk_7 ht.1 ht.2, Option.bind_some]
    by_cases h : (((kk t.toNatClampNeg).2.1 &&& s) &&& ((kk t.toNatClampNeg).2.2.1 ^^^ (kk t.toNatClampNeg).2.2.2.1.toInt32)) = 0
    · rw [if_neg (fun q => q h)]
      exact er_t5 ht ⟨fun q => absurd q (by decide), fun q => absurd h q⟩
    · rw [if_pos h]
      exact er_t5 ht ⟨fun _ => h, fun _ => rfl⟩
  intro m
  induction m with
  | zero =>
    intro k n hk hn
    obtain ⟨n, rfl⟩ : ∃ q, n = q + 1 := ⟨n - 1, by omega⟩
    obtain rfl : k = 32 := by omega
    unfold f_R_tighten_b248
    rw [xfix_s]
    exact fin (shS 32) (by rw [shS_32]; exact Int32.and_zero) _
  | succ m ih =>
    intro k n hk hn
    obtain ⟨n, rfl⟩ : ∃ q, n = q + 1 := ⟨n - 1, by omega⟩
    unfold f_R_tighten_b248
    rw [xfix_s]
    by_cases h : (d &&& shS k) = 0
    · rw [fin (shS k) h]
      show _ = some (b01 (rt4o _ (if (d &&& shS k) = 0 then shS k else _)), _)
      unfold rsl
      simp only [if_pos h]
    · have := ih (k + 1) n (by omega) (by omega)
      unfold f_R_tighten_b248 at this
      have e : rsl d (m + 1) (shS k) = rsl d m (shS (k + 1)) := by
        show (if (d &&& shS k) = 0 then shS k else rsl d m (shS k <<< ((1 : Int32) &&& 31))) = _
        rw [if_neg h]
        rfl
      rw [e]
      unfold f_R_tighten_s248
      rw [if_neg h]
      exact this
theorem er_t3 {t : Int32} (ht : okR t) : f_R_tighten_b231 (rb w b th ct po pa pb pn pf ln bt kk pl st en wg ws rc rg sk) b t = some (b01 (rt4o (kk t.toNatClampNeg) (rsa (kk t.toNatClampNeg))), rb w b th ct po pa pb pn pf ln bt (va_up kk t.toNatClampNeg (rt4 (kk t.toNatClampNeg) (rsa (kk t.toNatClampNeg)))) pl st en wg ws rc rg sk) := by
  unfold f_R_tighten_b231
  simp only [rr_9, rr_10, rr_11, rr_12, rr_13, rr_14, rr_15, rr_16, rk_0 ht.1 ht.2, rk_1 ht.1 ht.2, rk_2 ht.1 ht.2, rk_3 ht.1 ht.2, rk_4 ht.1 ht.2, rk_5 ht.1 ht.2, rk_6 ht.1 ht.2, rk_7 ht.1 ht.2, Option.bind_some]
  exact er_t4 ht 32 0 4000 rfl (by decide)
theorem er_t2 {t : Int32} (ht : okR t) : f_R_tighten_b146 (rb w b th ct po pa pb pn pf ln bt kk pl st en wg ws rc rg sk) b t = some (b01 (rt4o (tg3 (kk t.toNatClampNeg)) (rsa (tg3 (kk t.toNatClampNeg)))), rb w b th ct po pa pb pn pf ln bt (va_up kk t.toNatClampNeg (rt4 (tg3 (kk t.toNatClampNeg)) (rsa (tg3 (kk t.toNatClampNeg))))) pl st en wg ws rc rg sk) := by
  have key : ∀ s0 s1 : Int32, ((s0 = s1) = (((0 : Int64) ≤ (kk t.toNatClampNeg).2.2.2.2.2.1) = ((0 : Int64) ≤ (kk t.toNatClampNeg).2.2.2.2.2.2.1))) → f_R_tighten_b178 (rb w b th ct po pa pb pn pf ln bt kk pl st en wg ws rc rg sk) b t s0 s1 = some (b01 (rt4o (tg3 (kk t.toNatClampNeg)) (rsa (tg3 (kk t.toNatClampNeg)))), rb w b th ct po pa pb pn pf ln bt (va_up kk t.toNatClampNeg (rt4 (tg3 (kk t.toNatClampNeg)) (rsa (tg3 (kk t.toNatClampNeg))))) pl st en wg ws rc rg sk) := fun s0 s1 hs => by
    unfold f_R_tighten_b178
    by_cases e : s0 = s1
    · have e2 := hs.mp e
      rw [if_neg (fun q => q e)]
      simp only [rr_9, rr_10, rr_11, rr_12, rr_13, rr_14, rr_15, rr_16, rk_0 ht.1 ht.2, rk_1 ht.1 ht.2, rk_2 ht.1 ht.2, rk_3 ht.1 ht.2, rk_4 ht.1 ht.2, rk_5 ht.1 ht.2, rk_6 ht.1 ht.2, rk_7 ht.1 ht.2, rw_1 ht.1 ht.2, rw_2 ht.1 ht.2, rw_3 ht.1 ht.2, rw_4 ht.1 ht.2, rw_5 ht.1 ht.2, rw_6 ht.1 ht.2, rw_7 ht.1 ht.2, rls, rgr, un_32 (kk t.toNatClampNeg).2.2.2.2.2.1, un_32 (kk t.toNatClampNeg).2.2.2.2.2.2.1, er_t3 ht, Option.bind_some, va_up_self, va_up_up]
      unfold tg3
      rw [if_pos e2]
    · have e2 : ¬ (((0 : Int64) ≤ (kk t.toNatClampNeg).2.2.2.2.2.1) = ((0 : Int64) ≤ (kk t.toNatClampNeg).2.2.2.2.2.2.1)) := fun q => e (hs.mpr q)
      rw [if_pos e, er_t3 ht]
      unfold tg3
      rw [if_neg e2]
  unfold f_R_tighten_b146 f_R_tighten_b162
  simp only [rr_9, rr_10, rr_11, rr_12, rr_13, rr_14, rr_15, rr_16, rk_0 ht.1 ht.2, rk_1 ht.1 ht.2, rk_2 ht.1 ht.2, rk_3 ht.1 ht.2, rk_4 ht.1 ht.2, rk_5 ht.1 ht.2, rk_6 ht.1 ht.2, rk_7 ht.1 ht.2, Option.bind_some]
  by_cases h1 : (0 : Int64) ≤ (kk t.toNatClampNeg).2.2.2.2.2.1 <;> by_cases h2 : (0 : Int64) ≤ (kk t.toNatClampNeg).2.2.2.2.2.2.1
  · rw [if_pos h1, if_pos h2]; exact key _ _ (by simp [h1, h2])
  · rw [if_pos h1, if_neg h2]; exact key _ _ (by simp [h1, h2])
  · rw [if_neg h1, if_pos h2]; exact key _ _ (by simp [h1, h2])
  · rw [if_neg h1, if_neg h2]; exact key _ _ (by simp [h1, h2])
theorem er_tighten {t : Int32} (ht : okR t) : f_R_tighten (rb w b th ct po pa pb pn pf ln bt kk pl st en wg ws rc rg sk) b t = some (b01 (rtgo (kk t.toNatClampNeg)), rb w b th ct po pa pb pn pf ln bt (va_up kk t.toNatClampNeg (rtg (kk t.toNatClampNeg))) pl st en wg ws rc rg sk) := by
  have key : ∀ (kk : Nat → KV) (s0 s1 : Int32), ((s0 = s1) = (((2147483648 : Int64) ≤ (kk t.toNatClampNeg).2.2.2.1) = ((2147483648 : Int64) ≤ (kk t.toNatClampNeg).2.2.2.2.1))) → f_R_tighten_b97 (rb w b th ct po pa pb pn pf ln bt kk pl st en wg ws rc rg sk) b t s0 s1 = some (b01 (rt4o (tg3 (tg2 (kk t.toNatClampNeg))) (rsa (tg3 (tg2 (kk t.toNatClampNeg))))), rb w b th ct po pa pb pn pf ln bt (va_up kk t.toNatClampNeg (rt4 (tg3 (tg2 (kk t.toNatClampNeg))) (rsa (tg3 (tg2 (kk t.toNatClampNeg)))))) pl st en wg ws rc rg sk) := fun kk s0 s1 hs => by
    unfold f_R_tighten_b97
    by_cases e : s0 = s1
    · have e2 := hs.mp e
      rw [if_neg (fun q => q e)]
      simp only [rr_9, rr_10, rr_11, rr_12, rr_13, rr_14, rr_15, rr_16, rk_0 ht.1 ht.2, rk_1 ht.1 ht.2, rk_2 ht.1 ht.2, rk_3 ht.1 ht.2, rk_4 ht.1 ht.2, rk_5 ht.1 ht.2, rk_6 ht.1 ht.2, rk_7 ht.1 ht.2, rw_1 ht.1 ht.2, rw_2 ht.1 ht.2, rw_3 ht.1 ht.2, rw_4 ht.1 ht.2, rw_5 ht.1 ht.2, rw_6 ht.1 ht.2, rw_7 ht.1 ht.2, rls, rgr, er_t2 ht, Option.bind_some, va_up_self, va_up_up]
      unfold tg2
      rw [if_pos e2]
    · have e2 : ¬ (((2147483648 : Int64) ≤ (kk t.toNatClampNeg).2.2.2.1) = ((2147483648 : Int64) ≤ (kk t.toNatClampNeg).2.2.2.2.1)) := fun q => e (hs.mpr q)
      rw [if_pos e, er_t2 ht]
      unfold tg2
      rw [if_neg e2]
  have key2 : ∀ kk : Nat → KV, (if (2147483648 : Int64) ≤ (kk t.toNatClampNeg).2.2.2.1 then f_R_tighten_b79 (rb w b th ct po pa pb pn pf ln bt kk pl st en wg ws rc rg sk) b t (0 : Int32) else f_R_tighten_b79 (rb w b th ct po pa pb pn pf ln bt kk pl st en wg ws rc rg sk) b t (1 : Int32)) = some (b01 (rt4o (tg3 (tg2 (kk t.toNatClampNeg))) (rsa (tg3 (tg2 (kk t.toNatClampNeg))))), rb w b th ct po pa pb pn pf ln bt (va_up kk t.toNatClampNeg (rt4 (tg3 (tg2 (kk t.toNatClampNeg))) (rsa (tg3 (tg2 (kk t.toNatClampNeg)))))) pl st en wg ws rc rg sk) := fun kk => by
    unfold f_R_tighten_b79
    simp only [rr_9, rr_10, rr_11, rr_12, rr_13, rr_14, rr_15, rr_16, rk_0 ht.1 ht.2, rk_1 ht.1 ht.2, rk_2 ht.1 ht.2, rk_3 ht.1 ht.2, rk_4 ht.1 ht.2, rk_5 ht.1 ht.2, rk_6 ht.1 ht.2, rk_7 ht.1 ht.2, Option.bind_some]
    by_cases h1 : (2147483648 : Int64) ≤ (kk t.toNatClampNeg).2.2.2.1 <;> by_cases h2 : (2147483648 : Int64) ≤ (kk t.toNatClampNeg).2.2.2.2.1
    · rw [if_pos h1, if_pos h2]; exact key _ _ _ (by simp [h1, h2])
    · rw [if_pos h1, if_neg h2]; exact key _ _ _ (by simp [h1, h2])
    · rw [if_neg h1, if_pos h2]; exact key _ _ _ (by simp [h1, h2])
    · rw [if_neg h1, if_neg h2]; exact key _ _ _ (by simp [h1, h2])
  have k3 := key2 (va_up kk t.toNatClampNeg (tg1 (kk t.toNatClampNeg)))
  simp only [va_up_self, va_up_up] at k3
  unfold f_R_tighten
  simp only [rr_9, rr_10, rr_11, rr_12, rr_13, rr_14, rr_15, rr_16, rk_0 ht.1 ht.2, rk_1 ht.1 ht.2, rk_2 ht.1 ht.2, rk_3 ht.1 ht.2, rk_4 ht.1 ht.2, rk_5 ht.1 ht.2, rk_6 ht.1 ht.2, rk_7 ht.1 ht.2, rw_1 ht.1 ht.2, rw_2 ht.1 ht.2, rw_3 ht.1 ht.2, rw_4 ht.1 ht.2, rw_5 ht.1 ht.2, rw_6 ht.1 ht.2, rw_7 ht.1 ht.2, rls, rgr, Option.bind_some, va_up_self, va_up_up]
  unfold rtgo rtg
  rw [← k3]
  rfl
end R2
