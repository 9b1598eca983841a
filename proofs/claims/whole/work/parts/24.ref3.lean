def rJ (k j : KV) : KV :=
  (1, k.2.1 ||| j.2.1, k.2.2.1 ||| j.2.2.1,
   if j.2.2.2.1 < k.2.2.2.1 then k.2.2.2.1 else j.2.2.2.1, if j.2.2.2.2.1 < k.2.2.2.2.1 then j.2.2.2.2.1 else k.2.2.2.2.1,
   if j.2.2.2.2.2.1 < k.2.2.2.2.2.1 then k.2.2.2.2.2.1 else j.2.2.2.2.2.1, if j.2.2.2.2.2.2.1 < k.2.2.2.2.2.2.1 then j.2.2.2.2.2.2.1 else k.2.2.2.2.2.2.1,
   if k.2.2.2.2.2.2.2 ≤ j.2.2.2.2.2.2.2 then j.2.2.2.2.2.2.2 else k.2.2.2.2.2.2.2)
def rAl (k j : KV) : Bool × KV × KV := if ((k.2.1 &&& j.2.1) &&& (k.2.2.1 ^^^ j.2.2.1)) = 0 then (rtgo (rJ k j), rtg (rJ k j), rtg (rJ k j)) else (false, rJ k j, rJ k j)
def rlt (x y : KV) : Bool × KV × KV := (rtgo y && rtgo x, rtg x, rtg y)
def rLe (h : Int32) (k j : KV) : Bool × KV × KV := if h = 0 then rlt (kU k (if j.2.2.2.1 < k.2.2.2.1 then k.2.2.2.1 else j.2.2.2.1) k.2.2.2.2.1) (kU j j.2.2.2.1 (if k.2.2.2.2.1 < j.2.2.2.2.1 then k.2.2.2.2.1 else j.2.2.2.2.1)) else rlt (kU k k.2.2.2.1 (if j.2.2.2.2.1 - 1 < k.2.2.2.2.1 then j.2.2.2.2.1 - 1 else k.2.2.2.2.1)) (kU j (if k.2.2.2.1 + 1 < j.2.2.2.1 then j.2.2.2.1 else k.2.2.2.1 + 1) j.2.2.2.2.1)
def rLs (h : Int32) (k j : KV) : Bool × KV × KV := if h = 0 then rlt (kS k (if j.2.2.2.2.2.1 < k.2.2.2.2.2.1 then k.2.2.2.2.2.1 else j.2.2.2.2.2.1) k.2.2.2.2.2.2.1) (kS j j.2.2.2.2.2.1 (if k.2.2.2.2.2.2.1 < j.2.2.2.2.2.2.1 then k.2.2.2.2.2.2.1 else j.2.2.2.2.2.2.1)) else rlt (kS k k.2.2.2.2.2.1 (if j.2.2.2.2.2.2.1 - 1 < k.2.2.2.2.2.2.1 then j.2.2.2.2.2.2.1 - 1 else k.2.2.2.2.2.2.1)) (kS j (if k.2.2.2.2.2.1 + 1 < j.2.2.2.2.2.1 then j.2.2.2.2.2.1 else k.2.2.2.2.2.1 + 1) j.2.2.2.2.2.2.1)
def rCm (op h : Int32) (k j : KV) : Bool × KV × KV := if (18 : Int32) ≤ op then (if (20 : Int32) ≤ op then rLs h k j else rLe h k j) else if h = 0 then (!(kExact k && kExact j && decide (k.2.2.2.1 = j.2.2.2.1)), k, j) else rAl k j
theorem up89 (kk : Nat → KV) (k j k' j' : KV) : va_up (va_up (va_up (va_up kk 258 k) 259 j) 258 k') 259 j' = va_up (va_up kk 258 k') 259 j' := by
  funext a
  by_cases e1 : a = 259
  · rw [e1, va_up_self, va_up_self]
  · rw [va_up_ne _ _ e1, va_up_ne _ _ e1]
    by_cases e2 : a = 258
    · rw [e2, va_up_self, va_up_self]
    · rw [va_up_ne _ _ e2, va_up_ne _ _ e1, va_up_ne _ _ e2, va_up_ne _ _ e2]
theorem rtg_1 (k : KV) : (rtg k).1 = k.1 := by
  have h1 : (tg1 k).1 = k.1 := rfl
  have h2 : ∀ k : KV, (tg2 k).1 = k.1 := fun k => by unfold tg2; split <;> rfl
  have h3 : ∀ k : KV, (tg3 k).1 = k.1 := fun k => by unfold tg3; split <;> rfl
  unfold rtg
  show (tg3 (tg2 (tg1 k))).1 = _
  rw [h3, h2, h1]
section R4
variable {w : xw} {b : Nat} {th ct : Int32} {po pa pb pn pf : Nat → Int32} {ln : Int32} {bt : Nat → Int32} {kk : Nat → KV} {pl st en wg : Int32} {ws : Nat → Int32} {rc : Int32} {rg sk : Nat → Int32}
theorem er_op {op : Int32} (h10 : op = 10 → ¬ (kk 257).2.2.2.2.1 = 0 ∧ ¬ (kk 257).2.2.2.1 = 0) : f_R_operate (rb w b th ct po pa pb pn pf ln bt kk pl st en wg ws rc rg sk) b op = some (b01 (rtgo (rOp op (kk 256) (kk 257))), rb w b th ct po pa pb pn pf ln bt (va_up kk 258 (rSa op (kk 256) (kk 257) (rtg (rOp op (kk 256) (kk 257))))) pl st en wg ws rc rg sk) := by
  unfold f_R_operate f_R_operate_b114 f_R_operate_b115
  simp only [rck, er_nothing ok258, er_bit, n256, n257, n258, n259, Option.bind_some, va_up_self, va_up_up, va_up_ne _ _ (show (256 : Nat) ≠ 258 by decide), va_up_ne _ _ (show (256 : Nat) ≠ 259 by decide), va_up_ne _ _ (show (257 : Nat) ≠ 258 by decide), va_up_ne _ _ (show (257 : Nat) ≠ 259 by decide), va_up_ne _ _ (show (258 : Nat) ≠ 259 by decide), va_up_ne _ _ (show (259 : Nat) ≠ 258 by decide)]
  rw [er_bo (by simpa only [Option.bind_some, va_up_self, va_up_up, va_up_ne _ _ (show (256 : Nat) ≠ 258 by decide), va_up_ne _ _ (show (256 : Nat) ≠ 259 by decide), va_up_ne _ _ (show (257 : Nat) ≠ 258 by decide), va_up_ne _ _ (show (257 : Nat) ≠ 259 by decide), va_up_ne _ _ (show (258 : Nat) ≠ 259 by decide), va_up_ne _ _ (show (259 : Nat) ≠ 258 by decide)] using h10)]
  simp only [rck, er_tighten ok258, n256, n257, n258, n259, Option.bind_some, va_up_self, va_up_up, va_up_ne _ _ (show (256 : Nat) ≠ 258 by decide), va_up_ne _ _ (show (256 : Nat) ≠ 259 by decide), va_up_ne _ _ (show (257 : Nat) ≠ 258 by decide), va_up_ne _ _ (show (257 : Nat) ≠ 259 by decide), va_up_ne _ _ (show (258 : Nat) ≠ 259 by decide), va_up_ne _ _ (show (259 : Nat) ≠ 258 by decide)]
  unfold rSa rOp
  generalize hX : rBo op (kk 256) (kk 257) (rBit op (kk 256) (kk 257) kNothing) = X
  by_cases h1 : op = 1
  · simp only [if_neg (not_not_intro h1), if_pos h1, rck, er_exact ok257, rr_9, rr_10, rr_11, rr_12, rr_13, rr_14, rr_15, rr_16, rk_0 ok256.1 ok256.2, rk_1 ok256.1 ok256.2, rk_2 ok256.1 ok256.2, rk_3 ok256.1 ok256.2, rk_4 ok256.1 ok256.2, rk_5 ok256.1 ok256.2, rk_6 ok256.1 ok256.2, rk_7 ok256.1 ok256.2, rk_0 ok257.1 ok257.2, rk_1 ok257.1 ok257.2, rk_2 ok257.1 ok257.2, rk_3 ok257.1 ok257.2, rk_4 ok257.1 ok257.2, rk_5 ok257.1 ok257.2, rk_6 ok257.1 ok257.2, rk_7 ok257.1 ok257.2, n256, n257, n258, n259, Option.bind_some, va_up_self, va_up_up, va_up_ne _ _ (show (256 : Nat) ≠ 258 by decide), va_up_ne _ _ (show (256 : Nat) ≠ 259 by decide), va_up_ne _ _ (show (257 : Nat) ≠ 258 by decide), va_up_ne _ _ (show (257 : Nat) ≠ 259 by decide), va_up_ne _ _ (show (258 : Nat) ≠ 259 by decide), va_up_ne _ _ (show (259 : Nat) ≠ 258 by decide)]
    cases hx : kExact (kk 257)
    · rw [if_pos (by rfl), if_neg (by decide)]
      exact xrZ_b _ _
    · rw [if_neg (by decide), if_pos rfl]
      by_cases h2 : (20 : Int64) < (kk 257).2.2.2.1
      · rw [if_pos h2, if_pos h2]
        exact xrZ_b _ _
      · rw [if_neg h2, if_neg h2]
        by_cases h3 : (4294967295 : Int64) < (kk 256).2.2.2.2.1 + (kk 257).2.2.2.1
        · rw [if_pos h3, if_pos h3]
          exact xrZ_b _ _
        · rw [if_neg h3, if_neg h3]
          by_cases h4 : (kk 256).2.2.2.2.2.2.2 - (kk 257).2.2.2.1.toInt32 ≤ 0
          · rw [if_pos h4, if_pos h4, rw_7 ok258.1 ok258.2]
            simp only [n256, n257, n258, n259, Option.bind_some, va_up_self, va_up_up, va_up_ne _ _ (show (256 : Nat) ≠ 258 by decide), va_up_ne _ _ (show (256 : Nat) ≠ 259 by decide), va_up_ne _ _ (show (257 : Nat) ≠ 258 by decide), va_up_ne _ _ (show (257 : Nat) ≠ 259 by decide), va_up_ne _ _ (show (258 : Nat) ≠ 259 by decide), va_up_ne _ _ (show (259 : Nat) ≠ 258 by decide)]
            exact xrZ_b _ _
          · rw [if_neg h4, if_neg h4, rw_7 ok258.1 ok258.2]
            simp only [n256, n257, n258, n259, Option.bind_some, va_up_self, va_up_up, va_up_ne _ _ (show (256 : Nat) ≠ 258 by decide), va_up_ne _ _ (show (256 : Nat) ≠ 259 by decide), va_up_ne _ _ (show (257 : Nat) ≠ 258 by decide), va_up_ne _ _ (show (257 : Nat) ≠ 259 by decide), va_up_ne _ _ (show (258 : Nat) ≠ 259 by decide), va_up_ne _ _ (show (259 : Nat) ≠ 258 by decide)]
            exact xrZ_b _ _
  · rw [if_pos h1, if_neg h1]
    exact xrZ_b _ _
theorem er_al : f_R_alike (rb w b th ct po pa pb pn pf ln bt kk pl st en wg ws rc rg sk) b = some (b01 (rAl (kk 256) (kk 257)).1, rb w b th ct po pa pb pn pf ln bt (va_up (va_up kk 258 ((rAl (kk 256) (kk 257)).2.1)) 259 ((rAl (kk 256) (kk 257)).2.2)) pl st en wg ws rc rg sk) := by
  have key : ∀ s0 : Int32, f_R_alike_b43 (rb w b th ct po pa pb pn pf ln bt kk pl st en wg ws rc rg sk) b s0 = some (if s0 = 0 then (0, rb w b th ct po pa pb pn pf ln bt (va_up (va_up kk 258 (rJ (kk 256) (kk 257))) 259 (rJ (kk 256) (kk 257))) pl st en wg ws rc rg sk) else (b01 (rtgo (rJ (kk 256) (kk 257))), rb w b th ct po pa pb pn pf ln bt (va_up (va_up kk 258 (rtg (rJ (kk 256) (kk 257)))) 259 (rtg (rJ (kk 256) (kk 257)))) pl st en wg ws rc rg sk)) := fun s0 => by
    have fin : ∀ x : Int32, x = (if (kk 256).2.2.2.2.2.2.2 ≤ (kk 257).2.2.2.2.2.2.2 then (kk 257).2.2.2.2.2.2.2 else (kk 256).2.2.2.2.2.2.2) → f_R_alike_b254 (rb w b th ct po pa pb pn pf ln bt (va_up kk 258 ((1, (kk 256).2.1 ||| (kk 257).2.1, (kk 256).2.2.1 ||| (kk 257).2.2.1, if (kk 257).2.2.2.1 < (kk 256).2.2.2.1 then (kk 256).2.2.2.1 else (kk 257).2.2.2.1, if (kk 257).2.2.2.2.1 < (kk 256).2.2.2.2.1 then (kk 257).2.2.2.2.1 else (kk 256).2.2.2.2.1, if (kk 257).2.2.2.2.2.1 < (kk 256).2.2.2.2.2.1 then (kk 256).2.2.2.2.2.1 else (kk 257).2.2.2.2.2.1, if (kk 257).2.2.2.2.2.2.1 < (kk 256).2.2.2.2.2.2.1 then (kk 257).2.2.2.2.2.2.1 else (kk 256).2.2.2.2.2.2.1, 0))) pl st en wg ws rc rg sk) b s0 (b + 14) (258 : Int32) x = some (if s0 = 0 then (0, rb w b th ct po pa pb pn pf ln bt (va_up (va_up kk 258 (rJ (kk 256) (kk 257))) 259 (rJ (kk 256) (kk 257))) pl st en wg ws rc rg sk) else (b01 (rtgo (rJ (kk 256) (kk 257))), rb w b th ct po pa pb pn pf ln bt (va_up (va_up kk 258 (rtg (rJ (kk 256) (kk 257)))) 259 (rtg (rJ (kk 256) (kk 257)))) pl st en wg ws rc rg sk)) := fun x hx => by
      unfold f_R_alike_b254 f_R_alike_b273 f_R_alike_b274
      rw [rw_7 ok258.1 ok258.2]
      simp only [n256, n257, n258, n259, Option.bind_some, va_up_self, va_up_up, va_up_ne _ _ (show (256 : Nat) ≠ 258 by decide), va_up_ne _ _ (show (256 : Nat) ≠ 259 by decide), va_up_ne _ _ (show (257 : Nat) ≠ 258 by decide), va_up_ne _ _ (show (257 : Nat) ≠ 259 by decide), va_up_ne _ _ (show (258 : Nat) ≠ 259 by decide), va_up_ne _ _ (show (259 : Nat) ≠ 258 by decide)]
      rw [show ((1 : Int32), (kk 256).2.1 ||| (kk 257).2.1, (kk 256).2.2.1 ||| (kk 257).2.2.1, (if (kk 257).2.2.2.1 < (kk 256).2.2.2.1 then (kk 256).2.2.2.1 else (kk 257).2.2.2.1), (if (kk 257).2.2.2.2.1 < (kk 256).2.2.2.2.1 then (kk 257).2.2.2.2.1 else (kk 256).2.2.2.2.1), (if (kk 257).2.2.2.2.2.1 < (kk 256).2.2.2.2.2.1 then (kk 256).2.2.2.2.2.1 else (kk 257).2.2.2.2.2.1), (if (kk 257).2.2.2.2.2.2.1 < (kk 256).2.2.2.2.2.2.1 then (kk 257).2.2.2.2.2.2.1 else (kk 256).2.2.2.2.2.2.1), x) = rJ (kk 256) (kk 257) from by rw [hx]; rfl]
      by_cases h0 : s0 = 0
      · rw [if_pos h0, if_pos h0, rck]
        simp only [Option.bind_some]
        rw [er_copy ok258 ok259 (by simp only [n256, n257, n258, n259, va_up_self]; exact Or.inr rfl)]
        simp only [n256, n257, n258, n259, Option.bind_some, va_up_self, va_up_up, va_up_ne _ _ (show (256 : Nat) ≠ 258 by decide), va_up_ne _ _ (show (256 : Nat) ≠ 259 by decide), va_up_ne _ _ (show (257 : Nat) ≠ 258 by decide), va_up_ne _ _ (show (257 : Nat) ≠ 259 by decide), va_up_ne _ _ (show (258 : Nat) ≠ 259 by decide), va_up_ne _ _ (show (259 : Nat) ≠ 258 by decide)]
        rfl
      · rw [if_neg h0, if_neg h0]
        simp only [rck, er_tighten ok258, n256, n257, n258, n259, Option.bind_some, va_up_self, va_up_up, va_up_ne _ _ (show (256 : Nat) ≠ 258 by decide), va_up_ne _ _ (show (256 : Nat) ≠ 259 by decide), va_up_ne _ _ (show (257 : Nat) ≠ 258 by decide), va_up_ne _ _ (show (257 : Nat) ≠ 259 by decide), va_up_ne _ _ (show (258 : Nat) ≠ 259 by decide), va_up_ne _ _ (show (259 : Nat) ≠ 258 by decide)]
        cases hg : rtgo (rJ (kk 256) (kk 257))
        · rw [if_pos (by rfl)]
          rw [er_copy ok258 ok259 (by simp only [n256, n257, n258, n259, va_up_self]; rw [rtg_1]; exact Or.inr rfl)]
          simp only [n256, n257, n258, n259, Option.bind_some, va_up_self, va_up_up, va_up_ne _ _ (show (256 : Nat) ≠ 258 by decide), va_up_ne _ _ (show (256 : Nat) ≠ 259 by decide), va_up_ne _ _ (show (257 : Nat) ≠ 258 by decide), va_up_ne _ _ (show (257 : Nat) ≠ 259 by decide), va_up_ne _ _ (show (258 : Nat) ≠ 259 by decide), va_up_ne _ _ (show (259 : Nat) ≠ 258 by decide)]
          rfl
        · rw [if_neg (by decide)]
          rw [er_copy ok258 ok259 (by simp only [n256, n257, n258, n259, va_up_self]; rw [rtg_1]; exact Or.inr rfl)]
          simp only [n256, n257, n258, n259, Option.bind_some, va_up_self, va_up_up, va_up_ne _ _ (show (256 : Nat) ≠ 258 by decide), va_up_ne _ _ (show (256 : Nat) ≠ 259 by decide), va_up_ne _ _ (show (257 : Nat) ≠ 258 by decide), va_up_ne _ _ (show (257 : Nat) ≠ 259 by decide), va_up_ne _ _ (show (258 : Nat) ≠ 259 by decide), va_up_ne _ _ (show (259 : Nat) ≠ 258 by decide)]
          rfl
    unfold f_R_alike_b43
    simp only [rck, er_nothing ok258, rr_9, rr_10, rr_11, rr_12, rr_13, rr_14, rr_15, rr_16, rk_0 ok256.1 ok256.2, rk_1 ok256.1 ok256.2, rk_2 ok256.1 ok256.2, rk_3 ok256.1 ok256.2, rk_4 ok256.1 ok256.2, rk_5 ok256.1 ok256.2, rk_6 ok256.1 ok256.2, rk_7 ok256.1 ok256.2, rk_0 ok257.1 ok257.2, rk_1 ok257.1 ok257.2, rk_2 ok257.1 ok257.2, rk_3 ok257.1 ok257.2, rk_4 ok257.1 ok257.2, rk_5 ok257.1 ok257.2, rk_6 ok257.1 ok257.2, rk_7 ok257.1 ok257.2, rw_1 ok258.1 ok258.2, rw_2 ok258.1 ok258.2, rw_3 ok258.1 ok258.2, rw_4 ok258.1 ok258.2, rw_5 ok258.1 ok258.2, rw_6 ok258.1 ok258.2, rls, rgr, n256, n257, n258, n259, Option.bind_some, va_up_self, va_up_up, va_up_ne _ _ (show (256 : Nat) ≠ 258 by decide), va_up_ne _ _ (show (256 : Nat) ≠ 259 by decide), va_up_ne _ _ (show (257 : Nat) ≠ 258 by decide), va_up_ne _ _ (show (257 : Nat) ≠ 259 by decide), va_up_ne _ _ (show (258 : Nat) ≠ 259 by decide), va_up_ne _ _ (show (259 : Nat) ≠ 258 by decide)]
    by_cases h : (kk 256).2.2.2.2.2.2.2 ≤ (kk 257).2.2.2.2.2.2.2
    · rw [if_pos h]
      exact fin _ (by rw [if_pos h])
    · rw [if_neg h]
      exact fin _ (by rw [if_neg h])
  unfold f_R_alike rAl
  simp only [rr_9, rr_10, rr_11, rr_12, rr_13, rr_14, rr_15, rr_16, rk_0 ok256.1 ok256.2, rk_1 ok256.1 ok256.2, rk_2 ok256.1 ok256.2, rk_3 ok256.1 ok256.2, rk_4 ok256.1 ok256.2, rk_5 ok256.1 ok256.2, rk_6 ok256.1 ok256.2, rk_7 ok256.1 ok256.2, rk_0 ok257.1 ok257.2, rk_1 ok257.1 ok257.2, rk_2 ok257.1 ok257.2, rk_3 ok257.1 ok257.2, rk_4 ok257.1 ok257.2, rk_5 ok257.1 ok257.2, rk_6 ok257.1 ok257.2, rk_7 ok257.1 ok257.2, n256, n257, n258, n259, key, Option.bind_some]
  by_cases h : (((kk 256).2.1 &&& (kk 257).2.1) &&& ((kk 256).2.2.1 ^^^ (kk 257).2.2.1)) = 0
  · rw [if_neg (not_not_intro h), if_neg (by decide)]
    simp only [if_pos h]
  · rw [if_pos h, if_pos trivial]
    simp only [if_neg h]
    rfl
theorem er_lt : f_R_less_b119 (rb w b th ct po pa pb pn pf ln bt kk pl st en wg ws rc rg sk) b = some (b01 (rlt (kk 258) (kk 259)).1, rb w b th ct po pa pb pn pf ln bt (va_up (va_up kk 258 ((rlt (kk 258) (kk 259)).2.1)) 259 ((rlt (kk 258) (kk 259)).2.2)) pl st en wg ws rc rg sk) := by
  unfold f_R_less_b119 f_R_less_b145 f_R_less_b146 rlt
  simp only [rck, er_tighten ok258, er_tighten ok259, n256, n257, n258, n259, Option.bind_some, va_up_self, va_up_up, va_up_ne _ _ (show (256 : Nat) ≠ 258 by decide), va_up_ne _ _ (show (256 : Nat) ≠ 259 by decide), va_up_ne _ _ (show (257 : Nat) ≠ 258 by decide), va_up_ne _ _ (show (257 : Nat) ≠ 259 by decide), va_up_ne _ _ (show (258 : Nat) ≠ 259 by decide), va_up_ne _ _ (show (259 : Nat) ≠ 258 by decide)]
  cases h1 : rtgo (kk 258) <;> cases h2 : rtgo (kk 259) <;> rfl
theorem er_lts : f_R_lessSigned_b119 (rb w b th ct po pa pb pn pf ln bt kk pl st en wg ws rc rg sk) b = some (b01 (rlt (kk 258) (kk 259)).1, rb w b th ct po pa pb pn pf ln bt (va_up (va_up kk 258 ((rlt (kk 258) (kk 259)).2.1)) 259 ((rlt (kk 258) (kk 259)).2.2)) pl st en wg ws rc rg sk) := by
  unfold f_R_lessSigned_b119 f_R_lessSigned_b145 f_R_lessSigned_b146 rlt
  simp only [rck, er_tighten ok258, er_tighten ok259, n256, n257, n258, n259, Option.bind_some, va_up_self, va_up_up, va_up_ne _ _ (show (256 : Nat) ≠ 258 by decide), va_up_ne _ _ (show (256 : Nat) ≠ 259 by decide), va_up_ne _ _ (show (257 : Nat) ≠ 258 by decide), va_up_ne _ _ (show (257 : Nat) ≠ 259 by decide), va_up_ne _ _ (show (258 : Nat) ≠ 259 by decide), va_up_ne _ _ (show (259 : Nat) ≠ 258 by decide)]
  cases h1 : rtgo (kk 258) <;> cases h2 : rtgo (kk 259) <;> rfl
theorem er_less {h : Int32} (hx : kk 258 = kk 256) (hy : kk 259 = kk 257) : f_R_less (rb w b th ct po pa pb pn pf ln bt kk pl st en wg ws rc rg sk) b h = some (b01 (rLe h (kk 256) (kk 257)).1, rb w b th ct po pa pb pn pf ln bt (va_up (va_up kk 258 ((rLe h (kk 256) (kk 257)).2.1)) 259 ((rLe h (kk 256) (kk 257)).2.2)) pl st en wg ws rc rg sk) := by
  unfold f_R_less rLe
  by_cases h0 : h = 0
  · simp only [if_pos h0, rr_9, rr_10, rr_11, rr_12, rr_13, rr_14, rr_15, rr_16, rk_0 ok256.1 ok256.2, rk_1 ok256.1 ok256.2, rk_2 ok256.1 ok256.2, rk_3 ok256.1 ok256.2, rk_4 ok256.1 ok256.2, rk_5 ok256.1 ok256.2, rk_6 ok256.1 ok256.2, rk_7 ok256.1 ok256.2, rk_0 ok257.1 ok257.2, rk_1 ok257.1 ok257.2, rk_2 ok257.1 ok257.2, rk_3 ok257.1 ok257.2, rk_4 ok257.1 ok257.2, rk_5 ok257.1 ok257.2, rk_6 ok257.1 ok257.2, rk_7 ok257.1 ok257.2, rw_3 ok258.1 ok258.2, rw_4 ok259.1 ok259.2, rls, rgr, n256, n257, n258, n259, Option.bind_some, va_up_self, va_up_up, va_up_ne _ _ (show (256 : Nat) ≠ 258 by decide), va_up_ne _ _ (show (256 : Nat) ≠ 259 by decide), va_up_ne _ _ (show (257 : Nat) ≠ 258 by decide), va_up_ne _ _ (show (257 : Nat) ≠ 259 by decide), va_up_ne _ _ (show (258 : Nat) ≠ 259 by decide), va_up_ne _ _ (show (259 : Nat) ≠ 258 by decide), er_lt, hx, hy, up89, kU]
  · simp only [if_neg h0, rr_9, rr_10, rr_11, rr_12, rr_13, rr_14, rr_15, rr_16, rk_0 ok256.1 ok256.2, rk_1 ok256.1 ok256.2, rk_2 ok256.1 ok256.2, rk_3 ok256.1 ok256.2, rk_4 ok256.1 ok256.2, rk_5 ok256.1 ok256.2, rk_6 ok256.1 ok256.2, rk_7 ok256.1 ok256.2, rk_0 ok257.1 ok257.2, rk_1 ok257.1 ok257.2, rk_2 ok257.1 ok257.2, rk_3 ok257.1 ok257.2, rk_4 ok257.1 ok257.2, rk_5 ok257.1 ok257.2, rk_6 ok257.1 ok257.2, rk_7 ok257.1 ok257.2, rw_4 ok258.1 ok258.2, rw_3 ok259.1 ok259.2, rls, rgr, n256, n257, n258, n259, Option.bind_some, va_up_self, va_up_up, va_up_ne _ _ (show (256 : Nat) ≠ 258 by decide), va_up_ne _ _ (show (256 : Nat) ≠ 259 by decide), va_up_ne _ _ (show (257 : Nat) ≠ 258 by decide), va_up_ne _ _ (show (257 : Nat) ≠ 259 by decide), va_up_ne _ _ (show (258 : Nat) ≠ 259 by decide), va_up_ne _ _ (show (259 : Nat) ≠ 258 by decide), er_lt, hx, hy, up89, kU]
theorem er_lessS {h : Int32} (hx : kk 258 = kk 256) (hy : kk 259 = kk 257) : f_R_lessSigned (rb w b th ct po pa pb pn pf ln bt kk pl st en wg ws rc rg sk) b h = some (b01 (rLs h (kk 256) (kk 257)).1, rb w b th ct po pa pb pn pf ln bt (va_up (va_up kk 258 ((rLs h (kk 256) (kk 257)).2.1)) 259 ((rLs h (kk 256) (kk 257)).2.2)) pl st en wg ws rc rg sk) := by
  unfold f_R_lessSigned rLs
  by_cases h0 : h = 0
  · simp only [if_pos h0, rr_9, rr_10, rr_11, rr_12, rr_13, rr_14, rr_15, rr_16, rk_0 ok256.1 ok256.2, rk_1 ok256.1 ok256.2, rk_2 ok256.1 ok256.2, rk_3 ok256.1 ok256.2, rk_4 ok256.1 ok256.2, rk_5 ok256.1 ok256.2, rk_6 ok256.1 ok256.2, rk_7 ok256.1 ok256.2, rk_0 ok257.1 ok257.2, rk_1 ok257.1 ok257.2, rk_2 ok257.1 ok257.2, rk_3 ok257.1 ok257.2, rk_4 ok257.1 ok257.2, rk_5 ok257.1 ok257.2, rk_6 ok257.1 ok257.2, rk_7 ok257.1 ok257.2, rw_5 ok258.1 ok258.2, rw_6 ok259.1 ok259.2, rls, rgr, n256, n257, n258, n259, Option.bind_some, va_up_self, va_up_up, va_up_ne _ _ (show (256 : Nat) ≠ 258 by decide), va_up_ne _ _ (show (256 : Nat) ≠ 259 by decide), va_up_ne _ _ (show (257 : Nat) ≠ 258 by decide), va_up_ne _ _ (show (257 : Nat) ≠ 259 by decide), va_up_ne _ _ (show (258 : Nat) ≠ 259 by decide), va_up_ne _ _ (show (259 : Nat) ≠ 258 by decide), er_lts, hx, hy, up89, kS]
  · simp only [if_neg h0, rr_9, rr_10, rr_11, rr_12, rr_13, rr_14, rr_15, rr_16, rk_0 ok256.1 ok256.2, rk_1 ok256.1 ok256.2, rk_2 ok256.1 ok256.2, rk_3 ok256.1 ok256.2, rk_4 ok256.1 ok256.2, rk_5 ok256.1 ok256.2, rk_6 ok256.1 ok256.2, rk_7 ok256.1 ok256.2, rk_0 ok257.1 ok257.2, rk_1 ok257.1 ok257.2, rk_2 ok257.1 ok257.2, rk_3 ok257.1 ok257.2, rk_4 ok257.1 ok257.2, rk_5 ok257.1 ok257.2, rk_6 ok257.1 ok257.2, rk_7 ok257.1 ok257.2, rw_6 ok258.1 ok258.2, rw_5 ok259.1 ok259.2, rls, rgr, n256, n257, n258, n259, Option.bind_some, va_up_self, va_up_up, va_up_ne _ _ (show (256 : Nat) ≠ 258 by decide), va_up_ne _ _ (show (256 : Nat) ≠ 259 by decide), va_up_ne _ _ (show (257 : Nat) ≠ 258 by decide), va_up_ne _ _ (show (257 : Nat) ≠ 259 by decide), va_up_ne _ _ (show (258 : Nat) ≠ 259 by decide), va_up_ne _ _ (show (259 : Nat) ≠ 258 by decide), er_lts, hx, hy, up89, kS]
theorem er_cm {op h : Int32} (hk : k01 kk) : f_R_compare (rb w b th ct po pa pb pn pf ln bt kk pl st en wg ws rc rg sk) b op h = some (b01 (rCm op h (kk 256) (kk 257)).1, rb w b th ct po pa pb pn pf ln bt (va_up (va_up kk 258 ((rCm op h (kk 256) (kk 257)).2.1)) 259 ((rCm op h (kk 256) (kk 257)).2.2)) pl st en wg ws rc rg sk) := by
  unfold f_R_compare f_R_compare_b77 f_R_compare_b82 f_R_compare_b102 rCm
  simp only [rck, er_copy ok256 ok258 (hk _), n256, n257, n258, n259, Option.bind_some, va_up_self, va_up_up, va_up_ne _ _ (show (256 : Nat) ≠ 258 by decide), va_up_ne _ _ (show (256 : Nat) ≠ 259 by decide), va_up_ne _ _ (show (257 : Nat) ≠ 258 by decide), va_up_ne _ _ (show (257 : Nat) ≠ 259 by decide), va_up_ne _ _ (show (258 : Nat) ≠ 259 by decide), va_up_ne _ _ (show (259 : Nat) ≠ 258 by decide)]
  rw [er_copy ok257 ok259 (by simp only [n256, n257, n258, n259, Option.bind_some, va_up_self, va_up_up, va_up_ne _ _ (show (256 : Nat) ≠ 258 by decide), va_up_ne _ _ (show (256 : Nat) ≠ 259 by decide), va_up_ne _ _ (show (257 : Nat) ≠ 258 by decide), va_up_ne _ _ (show (257 : Nat) ≠ 259 by decide), va_up_ne _ _ (show (258 : Nat) ≠ 259 by decide), va_up_ne _ _ (show (259 : Nat) ≠ 258 by decide)]; exact hk _)]
  simp only [n256, n257, n258, n259, Option.bind_some, va_up_self, va_up_up, va_up_ne _ _ (show (256 : Nat) ≠ 258 by decide), va_up_ne _ _ (show (256 : Nat) ≠ 259 by decide), va_up_ne _ _ (show (257 : Nat) ≠ 258 by decide), va_up_ne _ _ (show (257 : Nat) ≠ 259 by decide), va_up_ne _ _ (show (258 : Nat) ≠ 259 by decide), va_up_ne _ _ (show (259 : Nat) ≠ 258 by decide)]
  by_cases h18 : (18 : Int32) ≤ op
  · rw [if_pos h18]
    simp only [if_pos h18]
    by_cases h20 : (20 : Int32) ≤ op
    · rw [if_pos h20]
      simp only [if_pos h20, rck, Option.bind_some]
      rw [er_lessS (by simp only [Option.bind_some, va_up_self, va_up_up, va_up_ne _ _ (show (256 : Nat) ≠ 258 by decide), va_up_ne _ _ (show (256 : Nat) ≠ 259 by decide), va_up_ne _ _ (show (257 : Nat) ≠ 258 by decide), va_up_ne _ _ (show (257 : Nat) ≠ 259 by decide), va_up_ne _ _ (show (258 : Nat) ≠ 259 by decide), va_up_ne _ _ (show (259 : Nat) ≠ 258 by decide)]) (by simp only [Option.bind_some, va_up_self, va_up_up, va_up_ne _ _ (show (256 : Nat) ≠ 258 by decide), va_up_ne _ _ (show (256 : Nat) ≠ 259 by decide), va_up_ne _ _ (show (257 : Nat) ≠ 258 by decide), va_up_ne _ _ (show (257 : Nat) ≠ 259 by decide), va_up_ne _ _ (show (258 : Nat) ≠ 259 by decide), va_up_ne _ _ (show (259 : Nat) ≠ 258 by decide)])]
      simp only [Option.bind_some, va_up_self, va_up_up, va_up_ne _ _ (show (256 : Nat) ≠ 258 by decide), va_up_ne _ _ (show (256 : Nat) ≠ 259 by decide), va_up_ne _ _ (show (257 : Nat) ≠ 258 by decide), va_up_ne _ _ (show (257 : Nat) ≠ 259 by decide), va_up_ne _ _ (show (258 : Nat) ≠ 259 by decide), va_up_ne _ _ (show (259 : Nat) ≠ 258 by decide), up89]
      exact xrZ_b _ _
    · rw [if_neg h20]
      simp only [if_neg h20, rck, Option.bind_some]
      rw [er_less (by simp only [Option.bind_some, va_up_self, va_up_up, va_up_ne _ _ (show (256 : Nat) ≠ 258 by decide), va_up_ne _ _ (show (256 : Nat) ≠ 259 by decide), va_up_ne _ _ (show (257 : Nat) ≠ 258 by decide), va_up_ne _ _ (show (257 : Nat) ≠ 259 by decide), va_up_ne _ _ (show (258 : Nat) ≠ 259 by decide), va_up_ne _ _ (show (259 : Nat) ≠ 258 by decide)]) (by simp only [Option.bind_some, va_up_self, va_up_up, va_up_ne _ _ (show (256 : Nat) ≠ 258 by decide), va_up_ne _ _ (show (256 : Nat) ≠ 259 by decide), va_up_ne _ _ (show (257 : Nat) ≠ 258 by decide), va_up_ne _ _ (show (257 : Nat) ≠ 259 by decide), va_up_ne _ _ (show (258 : Nat) ≠ 259 by decide), va_up_ne _ _ (show (259 : Nat) ≠ 258 by decide)])]
      simp only [Option.bind_some, va_up_self, va_up_up, va_up_ne _ _ (show (256 : Nat) ≠ 258 by decide), va_up_ne _ _ (show (256 : Nat) ≠ 259 by decide), va_up_ne _ _ (show (257 : Nat) ≠ 258 by decide), va_up_ne _ _ (show (257 : Nat) ≠ 259 by decide), va_up_ne _ _ (show (258 : Nat) ≠ 259 by decide), va_up_ne _ _ (show (259 : Nat) ≠ 258 by decide), up89]
      exact xrZ_b _ _
  · rw [if_neg h18]
    simp only [if_neg h18]
    by_cases h0 : h = 0
    · rw [if_pos h0]
      simp only [if_pos h0, rck, er_exact ok256, er_exact ok257, rr_9, rr_10, rr_11, rr_12, rr_13, rr_14, rr_15, rr_16, rk_0 ok256.1 ok256.2, rk_1 ok256.1 ok256.2, rk_2 ok256.1 ok256.2, rk_3 ok256.1 ok256.2, rk_4 ok256.1 ok256.2, rk_5 ok256.1 ok256.2, rk_6 ok256.1 ok256.2, rk_7 ok256.1 ok256.2, rk_0 ok257.1 ok257.2, rk_1 ok257.1 ok257.2, rk_2 ok257.1 ok257.2, rk_3 ok257.1 ok257.2, rk_4 ok257.1 ok257.2, rk_5 ok257.1 ok257.2, rk_6 ok257.1 ok257.2, rk_7 ok257.1 ok257.2, n256, n257, n258, n259, Option.bind_some, va_up_self, va_up_up, va_up_ne _ _ (show (256 : Nat) ≠ 258 by decide), va_up_ne _ _ (show (256 : Nat) ≠ 259 by decide), va_up_ne _ _ (show (257 : Nat) ≠ 258 by decide), va_up_ne _ _ (show (257 : Nat) ≠ 259 by decide), va_up_ne _ _ (show (258 : Nat) ≠ 259 by decide), va_up_ne _ _ (show (259 : Nat) ≠ 258 by decide)]
      cases h1 : kExact (kk 256)
      · rfl
      · rw [if_neg (by decide)]
        cases h2 : kExact (kk 257)
        · rfl
        · rw [if_neg (by decide)]
          by_cases h3 : (kk 256).2.2.2.1 = (kk 257).2.2.2.1
          · rw [if_pos h3, decide_eq_true h3]; rfl
          · rw [if_neg h3, decide_eq_false h3]; rfl
    · rw [if_neg h0]
      simp only [if_neg h0, rck, er_al, Option.bind_some]
      simp only [Option.bind_some, va_up_self, va_up_up, va_up_ne _ _ (show (256 : Nat) ≠ 258 by decide), va_up_ne _ _ (show (256 : Nat) ≠ 259 by decide), va_up_ne _ _ (show (257 : Nat) ≠ 258 by decide), va_up_ne _ _ (show (257 : Nat) ≠ 259 by decide), va_up_ne _ _ (show (258 : Nat) ≠ 259 by decide), va_up_ne _ _ (show (259 : Nat) ≠ 258 by decide), up89]
      exact xrZ_b _ _
end R4
