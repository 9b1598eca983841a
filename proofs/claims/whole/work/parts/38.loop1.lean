section L1
variable {w : xw} {g : Nat} {ct : Int32} {ii : Nat → IV} {ln : Int32} {bt wt : Nat → Int32} {en st : Int32} {mr ms : Nat → Int32} {mi : Int32} {kc : Nat → KV}
theorem ew_alarm1 {pl : Int32} (h : ¬ pl < ct) : f_W_alarmAt (ew (cb w g ct ii ln bt wt en st mr ms mi) (cP g) kc) (g + 29) pl = some (1, ew (cb w g ct ii ln bt wt en st mr ms mi) (cP g) kc) := by
  unfold f_W_alarmAt
  simp only [cr_29_0, cr_1_1, Option.bind_some]
  rw [if_neg h]
theorem ew_alarm2 {pl : Int32} (h : pl < ct) (h2 : ¬ st ≤ 300) : f_W_alarmAt (ew (cb w g ct ii ln bt wt en st mr ms mi) (cP g) kc) (g + 29) pl = some (2, ew (cb w g ct ii ln bt wt en st mr ms mi) (cP g) kc) := by
  unfold f_W_alarmAt
  simp only [cr_29_0, cr_1_1, cr_29_9, Option.bind_some]
  rw [if_pos h, if_neg h2]
theorem ew_end {n : Nat} {pl a : Int32} (ha : ¬ a = 0) (hp : ¬ pl = -1) : f_W_judge_b8 (n + 1) (ew (cb w g ct ii ln bt wt en st mr ms mi) (cP g) kc) (g + 29) pl a = some (100 * a + pl, ew (cb w g ct ii ln bt wt en st mr ms mi) (cP g) kc) := by
  unfold f_W_judge_b8
  rw [xfix_s]
  unfold f_W_judge_s8 f_W_judge_b56 f_W_judge_b70
  rw [if_neg hp, if_pos ha, if_pos ha]
theorem ew_end0 {n : Nat} : f_W_judge_b8 (n + 1) (ew (cb w g ct ii ln bt wt en st mr ms mi) (cP g) kc) (g + 29) (-1) 0 = some (0, ew (cb w g ct ii ln bt wt en st mr ms mi) (cP g) kc) := by
  unfold f_W_judge_b8
  rw [xfix_s]
  unfold f_W_judge_s8 f_W_judge_b56 f_W_judge_b70
  rw [if_pos rfl, if_neg (by decide)]
/-- one turn of the class's loop -/
theorem ew_turn {n : Nat} {pl a : Int32} {w2 : xw} (hp : ¬ pl = -1) (hs : ¬ (300 : Int32) < st) (ha : f_W_alarmAt (ew (cb w g ct ii ln bt wt en (st + 1) mr ms mi) (cP g) kc) (g + 29) pl = some (a, w2)) : f_W_judge_b8 (n + 1) (ew (cb w g ct ii ln bt wt en st mr ms mi) (cP g) kc) (g + 29) pl 0 = if ¬ a = 0 then f_W_judge_b8 n w2 (g + 29) pl a else (xck w2 (g + 29) 7).bind fun _ => (f_W_placeAfter w2 (g + 29) pl).bind fun q5 => f_W_judge_b8 n q5.2 (g + 29) q5.1 a := by
  have e : f_W_judge_b8 (n + 1) (ew (cb w g ct ii ln bt wt en st mr ms mi) (cP g) kc) (g + 29) pl 0 = f_W_judge_s8 (f_W_judge_b8 n) (ew (cb w g ct ii ln bt wt en st mr ms mi) (cP g) kc) (g + 29) pl 0 := by
    unfold f_W_judge_b8
    rw [xfix_s]
  rw [e]
  unfold f_W_judge_s8
  rw [if_neg hp, if_neg (by decide)]
  simp only [cr_29_9, Option.bind_some]
  rw [if_neg hs, cp_st]
  simp only [cc_29, Option.bind_some]
  rw [ha]
  rfl
end L1
section L2
variable {w : xw} {b : Nat} {th ct : Int32} {po pa pb pn pf : Nat → Int32} {ln : Int32} {bt : Nat → Int32} {kk : Nat → KV} {pl st en wg : Int32} {ws : Nat → Int32} {rc : Int32} {rg sk : Nat → Int32}
theorem er_alarm1 (h : ¬ pl < ct) : f_R_alarm (rb w b th ct po pa pb pn pf ln bt kk pl st en wg ws rc rg sk) b = some (1, rb w b th ct po pa pb pn pf ln bt kk pl st en wg ws rc rg sk) := by
  unfold f_R_alarm
  simp only [ri_pl, ri_ct, Option.bind_some]
  rw [if_neg h]
theorem er_alarm2 (h : pl < ct) (h2 : ¬ st ≤ 300) : f_R_alarm (rb w b th ct po pa pb pn pf ln bt kk pl st en wg ws rc rg sk) b = some (2, rb w b th ct po pa pb pn pf ln bt kk pl st en wg ws rc rg sk) := by
  unfold f_R_alarm
  simp only [ri_pl, ri_ct, ri_st, Option.bind_some]
  rw [if_pos h, if_neg h2]
/-- one turn of the reference's loop -/
theorem er_turn {n : Nat} {a : Int32} {w2 : xw} (ha : f_R_alarm (rb w b th ct po pa pb pn pf ln bt kk pl (st + 1) en wg ws rc rg sk) b = some (a, w2)) : f_R_walk_b31 (n + 1) (rb w b th ct po pa pb pn pf ln bt kk pl st en wg ws rc rg sk) b 1 = if a ≤ 0 then (xck w2 b 8).bind fun _ => (f_R_pass w2 b).bind fun q4 => if ¬ q4.1 = 0 then f_R_walk_b31 n q4.2 b 1 else (xfI q4.2 b 8 20).bind fun x5 => if x5 ≤ 0 then f_R_walk_b83 (f_R_walk_b31 n) q4.2 b 0 else f_R_walk_b83 (f_R_walk_b31 n) q4.2 b 1 else (xfI w2 b 8 17).bind fun x6 => some (100 * a + x6, w2) := by
  have e : f_R_walk_b31 (n + 1) (rb w b th ct po pa pb pn pf ln bt kk pl st en wg ws rc rg sk) b 1 = f_R_walk_s31 (f_R_walk_b31 n) (rb w b th ct po pa pb pn pf ln bt kk pl st en wg ws rc rg sk) b 1 := by
    unfold f_R_walk_b31
    rw [xfix_s]
  rw [e]
  unfold f_R_walk_s31 f_R_walk_b143
  rw [if_neg (by decide)]
  simp only [ri_st, rp_st, rck, Option.bind_some]
  rw [ha]
  rfl
theorem er_over {n : Nat} : f_R_walk_b31 (n + 1) (rb w b th ct po pa pb pn pf ln bt kk pl st en wg ws rc rg sk) b 0 = some (0, rb w b th ct po pa pb pn pf ln bt kk pl st en wg ws rc rg sk) := by
  unfold f_R_walk_b31
  rw [xfix_s]
  unfold f_R_walk_s31
  rw [if_pos rfl]
theorem er_rl {r31 : xw → Nat → Int32 → Option (Int32 × xw)} {j : Nat} {s : Int32} (hj : j < 25) (hs : s = 0 ∨ 1 ≤ j) (hk : k01 kk) : ∀ (m r n : Nat), r + m = 10 → m < n → f_R_walk_b86 r31 n (rb w b th ct po pa pb pn pf ln bt (rcp (10 * j) 0 r kk) pl st en (Int32.ofNat j) ws rc rg sk) b s (Int32.ofNat r) = r31 (rb w b th ct po pa pb pn pf ln bt (rcp (10 * j) 0 10 kk) (ws j) st en (if s = 0 then 0 else Int32.ofNat j - 1) ws rc rg sk) b s := by
  have ej : (Int32.ofNat j).toNatClampNeg = j := i32_nat j (by omega)
  intro m
  induction m with
  | zero =>
    intro r n hr hn
    obtain ⟨n, rfl⟩ : ∃ q, n = q + 1 := ⟨n - 1, by omega⟩
    obtain rfl : r = 10 := by omega
    unfold f_R_walk_b86
    rw [xfix_s]
    unfold f_R_walk_s86 f_R_walk_b140 f_R_walk_b143
    rw [if_pos ((i32_le10 (by omega)).mpr (by omega))]
    simp only [rr_21, ri_wg, ra_ws (i32_nneg j (by omega)) (show (Int32.ofNat j).toNatClampNeg < 25 by omega), ej, rp_pl, Option.bind_some]
    by_cases h : s = 0
    · rw [if_pos h, if_pos h, rp_wg]
      rfl
    · rw [if_neg h, if_neg h, rp_wg]
      rfl
  | succ m ih =>
    intro r n hr hn
    obtain ⟨n, rfl⟩ : ∃ q, n = q + 1 := ⟨n - 1, by omega⟩
    unfold f_R_walk_b86
    rw [xfix_s]
    unfold f_R_walk_s86
    rw [if_neg (fun q => absurd ((i32_le10 (by omega)).mp q) (by omega))]
    obtain ⟨o, e⟩ := i32_10 j hj r (by omega)
    have e1 : (Int32.ofNat r).toNatClampNeg = r := i32_nat r (by omega)
    have or' : okR (Int32.ofNat r) := ⟨i32_nneg r (by omega), by omega⟩
    simp only [ri_wg, rck, Option.bind_some]
    rw [er_copy o or' (hk.rcp _ _ _ _), e, e1]
    simp only [Option.bind_some]
    have u : va_up (rcp (10 * j) 0 r kk) r (rcp (10 * j) 0 r kk (10 * j + r)) = rcp (10 * j) 0 (r + 1) kk := by
      by_cases h0 : j = 0
      · subst h0
        have z : ∀ n, rcp (10 * 0) 0 n kk = kk := fun n => by
          funext a
          unfold rcp
          split
          · rw [show 10 * 0 + (a - 0) = a by omega]
          · rfl
        rw [z, z, show 10 * 0 + r = r by omega, va_up_id]
      · have u := rcp_up (f := 10 * j) (t := 0) (n := r) (kk := kk) (by omega)
        rw [Nat.zero_add] at u
        exact u
    rw [u, i32_succ r (by omega)]
    have := ih (r + 1) n (by omega) (by omega)
    unfold f_R_walk_b86 at this
    exact this
theorem er_res {r31 : xw → Nat → Int32 → Option (Int32 × xw)} {j : Nat} {s : Int32} (hj : j < 25) (hs : s = 0 ∨ 1 ≤ j) (hk : k01 kk) : f_R_walk_b83 r31 (rb w b th ct po pa pb pn pf ln bt kk pl st en (Int32.ofNat j) ws rc rg sk) b s = r31 (rb w b th ct po pa pb pn pf ln bt (rcp (10 * j) 0 10 kk) (ws j) st en (if s = 0 then 0 else Int32.ofNat j - 1) ws rc rg sk) b s := by
  unfold f_R_walk_b83
  simp only [Option.bind_some]
  have := er_rl (w := w) (b := b) (th := th) (ct := ct) (po := po) (pa := pa) (pb := pb) (pn := pn) (pf := pf) (ln := ln) (bt := bt) (pl := pl) (st := st) (en := en) (ws := ws) (rc := rc) (rg := rg) (sk := sk) (r31 := r31) hj hs hk 10 0 4000 (by omega) (by omega)
  rw [rcp_0] at this
  exact this
/-- the reference begins -/
def run0 (n : Nat) (kk : Nat → KV) : Nat → KV := fun a => if a < n then (0, (kk a).2) else kk a
theorem run0_0 (kk : Nat → KV) : run0 0 kk = kk := by
  funext a
  unfold run0
  rw [if_neg (by omega)]
theorem run0_up {n : Nat} {kk : Nat → KV} : va_up (run0 n kk) n (0, (run0 n kk n).2) = run0 (n + 1) kk := by
  funext a
  by_cases e : a = n
  · rw [e, va_up_self]
    unfold run0
    rw [if_neg (by omega), if_pos (by omega)]
  · rw [va_up_ne _ _ e]
    unfold run0
    by_cases q : a < n
    · rw [if_pos q, if_pos (by omega)]
    · rw [if_neg q, if_neg (by omega)]
def rsu (kk : Nat → KV) : Nat → KV := va_up (va_up (run0 256 kk) 1 (rtg (kS (kU kNothing 0 16) 0 16))) 2 kNothing
theorem i32_256 : ∀ r, r < 257 → (Int32.ofNat r + 1 = Int32.ofNat (r + 1) ∧ (((256 : Int32) ≤ Int32.ofNat r) ↔ 256 ≤ r) ∧ (¬ Int32.ofNat r < 0) ∧ (Int32.ofNat r).toNatClampNeg = r) := fun r hr => by
  have e : (Int32.ofNat r).toInt = r := Int32.toInt_ofNat_of_lt (by omega)
  refine ⟨(Int32.ofNat_add r 1).symm, ?_, ?_, ?_⟩
  · rw [Int32.le_iff_toInt_le, e, show (256 : Int32).toInt = 256 by decide]; omega
  · rw [Int32.lt_iff_toInt_lt, e, show (0 : Int32).toInt = 0 from rfl]; omega
  · show (Int32.ofNat r).toInt.toNat = r
    rw [e]; omega
theorem ok1 : okR 1 := ⟨by decide, by decide⟩
theorem ok2 : okR 2 := ⟨by decide, by decide⟩
theorem er_set : ∀ (m r n : Nat), r + m = 256 → m < n → f_R_setUp_b2 n (rb w b th ct po pa pb pn pf ln bt (run0 r kk) pl st en wg ws rc rg sk) b (Int32.ofNat r) = some ((), rb w b th ct po pa pb pn pf ln bt (rsu kk) pl st en wg ws rc rg sk) := by
  intro m
  induction m with
  | zero =>
    intro r n hr hn
    obtain ⟨n, rfl⟩ : ∃ q, n = q + 1 := ⟨n - 1, by omega⟩
    obtain rfl : r = 256 := by omega
    unfold f_R_setUp_b2
    rw [xfix_s]
    unfold f_R_setUp_s2
    rw [if_pos (((i32_256 256 (by omega)).2.1).mpr (by omega))]
    have c1 : (1 : Int32).toNatClampNeg = 1 := rfl
    have c2 : (2 : Int32).toNatClampNeg = 2 := rfl
    simp only [rck, er_nothing ok1, rr_9, rr_13, rr_14, rr_15, rw_4 ok1.1 ok1.2, rw_5 ok1.1 ok1.2, rw_6 ok1.1 ok1.2, er_tighten ok1, c1, Option.bind_some, va_up_self, va_up_up]
    have e : (kNothing.1, kNothing.2.1, kNothing.2.2.1, kNothing.2.2.2.1, (16 : Int64), (0 : Int64), (16 : Int64), kNothing.2.2.2.2.2.2.2) = kS (kU kNothing 0 16) 0 16 := rfl
    rw [e, upto_16.2.2, b01_t, rw_0 ok2.1 ok2.2 (Or.inr rfl)]
    simp only [rck, er_nothing ok2, c2, Option.bind_some, va_up_up]
    rfl
  | succ m ih =>
    intro r n hr hn
    obtain ⟨n, rfl⟩ : ∃ q, n = q + 1 := ⟨n - 1, by omega⟩
    unfold f_R_setUp_b2
    rw [xfix_s]
    unfold f_R_setUp_s2
    obtain ⟨i1, i2, i3, i4⟩ := i32_256 r (by omega)
    rw [if_neg (fun q => absurd (i2.mp q) (by omega))]
    simp only [rr_9, Option.bind_some]
    rw [rw_0 i3 (by omega) (Or.inl rfl), i4, run0_up]
    simp only [Option.bind_some]
    rw [i1]
    have := ih (r + 1) n (by omega) (by omega)
    unfold f_R_setUp_b2 at this
    exact this
theorem er_setUp : f_R_setUp (rb w b th ct po pa pb pn pf ln bt kk pl st en wg ws rc rg sk) b = some ((), rb w b th ct po pa pb pn pf ln bt (rsu kk) pl st en wg ws rc rg sk) := by
  unfold f_R_setUp
  simp only [Option.bind_some]
  have := er_set (w := w) (b := b) (th := th) (ct := ct) (po := po) (pa := pa) (pb := pb) (pn := pn) (pf := pf) (ln := ln) (bt := bt) (pl := pl) (st := st) (en := en) (wg := wg) (ws := ws) (rc := rc) (rg := rg) (sk := sk) (kk := kk) 256 0 4000 (by omega) (by omega)
  rw [run0_0] at this
  exact this
end L2
