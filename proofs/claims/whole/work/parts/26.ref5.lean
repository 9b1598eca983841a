theorem rpl_up {kk : Nat → KV} {a : Nat} {k : KV} (h : 10 ≤ a) {r : Nat} (hr : r < 4) : rpl (va_up kk a k) r = rpl kk r := va_up_ne _ _ (by omega)
/-- the places r .. r+m-1 that are set meet k -/
def rst (k : KV) (r m : Nat) (kk : Nat → KV) : Nat → KV := fun a => if (6 + r ≤ a ∧ a < 6 + r + m) ∧ ¬ (kk a).1 = 0 then kMeet (kk a) k else kk a
theorem rst_0 (k : KV) (r : Nat) (kk : Nat → KV) : rst k r 0 kk = kk := by
  funext a
  unfold rst
  rw [if_neg (by omega)]
theorem rst_out {k : KV} {r m a : Nat} {kk : Nat → KV} (h : a < 6 + r ∨ 6 + r + m ≤ a) : rst k r m kk a = kk a := by
  unfold rst
  rw [if_neg (by omega)]
theorem rst_y {k : KV} {r m : Nat} {kk : Nat → KV} (h : ¬ (kk (6 + (r + m))).1 = 0) : va_up (rst k r m kk) (6 + (r + m)) (kMeet (kk (6 + (r + m))) k) = rst k r (m + 1) kk := by
  funext a
  by_cases e : a = 6 + (r + m)
  · rw [e, va_up_self]
    unfold rst
    rw [if_pos ⟨by omega, h⟩]
  · rw [va_up_ne _ _ e]
    unfold rst
    by_cases q : (6 + r ≤ a ∧ a < 6 + r + m) ∧ ¬ (kk a).1 = 0
    · rw [if_pos q, if_pos ⟨by omega, q.2⟩]
    · rw [if_neg q, if_neg (fun z => q ⟨by omega, z.2⟩)]
theorem rst_n {k : KV} {r m : Nat} {kk : Nat → KV} (h : (kk (6 + (r + m))).1 = 0) : rst k r m kk = rst k r (m + 1) kk := by
  funext a
  unfold rst
  by_cases e : a = 6 + (r + m)
  · rw [if_neg (by omega), if_neg (fun z => z.2 (by rw [e]; exact h))]
  · by_cases q : (6 + r ≤ a ∧ a < 6 + r + m) ∧ ¬ (kk a).1 = 0
    · rw [if_pos q, if_pos ⟨by omega, q.2⟩]
    · rw [if_neg q, if_neg (fun z => q ⟨by omega, z.2⟩)]
theorem rst_k (k : KV) (r m : Nat) (kk : Nat → KV) (a : Nat) : (rst k r m kk a).1 = (kk a).1 := by
  unfold rst
  split
  · rfl
  · rfl
def rLd (f : Int32) : KV := if (4 : Int32) ≤ f then kNothing else rtg (kS (kU kNothing 0 (if f = 1 then 255 else 65535)) 0 (if f = 1 then 255 else 65535))
/-- n numbers are copied from f on to t on -/
def rcp (f t n : Nat) (kk : Nat → KV) : Nat → KV := fun a => if t ≤ a ∧ a < t + n then kk (f + (a - t)) else kk a
theorem rcp_0 (f t : Nat) (kk : Nat → KV) : rcp f t 0 kk = kk := by
  funext a
  unfold rcp
  rw [if_neg (by omega)]
theorem rcp_up {f t n : Nat} {kk : Nat → KV} (h : f + n < t ∨ t + n ≤ f) : va_up (rcp f t n kk) (t + n) (rcp f t n kk (f + n)) = rcp f t (n + 1) kk := by
  funext a
  by_cases e : a = t + n
  · rw [e, va_up_self]
    unfold rcp
    rw [if_neg (by omega), if_pos (by omega), show f + (t + n - t) = f + n by omega]
  · rw [va_up_ne _ _ e]
    unfold rcp
    by_cases q : t ≤ a ∧ a < t + n
    · rw [if_pos q, if_pos (by omega)]
    · rw [if_neg q, if_neg (by omega)]
theorem k01.rcp {kk : Nat → KV} (h : k01 kk) (f t n : Nat) : k01 (rcp f t n kk) := fun a => by
  show (if t ≤ a ∧ a < t + n then kk (f + (a - t)) else kk a).1 = 0 ∨ (if t ≤ a ∧ a < t + n then kk (f + (a - t)) else kk a).1 = 1
  split
  · exact h _
  · exact h _
theorem i32_10 : ∀ j, j < 25 → ∀ k, k < 10 → okR ((10 : Int32) * Int32.ofNat j + Int32.ofNat k) ∧ ((10 : Int32) * Int32.ofNat j + Int32.ofNat k).toNatClampNeg = 10 * j + k := by
  have h : ∀ j, j < 25 → ∀ k, k < 10 → (¬ ((10 : Int32) * Int32.ofNat j + Int32.ofNat k) < 0 ∧ ((10 : Int32) * Int32.ofNat j + Int32.ofNat k).toNatClampNeg < 260) ∧ ((10 : Int32) * Int32.ofNat j + Int32.ofNat k).toNatClampNeg = 10 * j + k := by decide
  exact h
theorem i32_le10 {r : Nat} (h : r < 31) : ((10 : Int32) ≤ Int32.ofNat r) ↔ 10 ≤ r := i32_le 10 (by decide) r h
theorem i32_of6 {r : Int32} (h0 : ¬ r < 0) : r = Int32.ofNat r.toNatClampNeg := by
  apply Int32.toInt_inj.mp
  have h : (0 : Int) ≤ r.toInt := by
    rw [Int32.lt_iff_toInt_lt] at h0
    have : (0 : Int32).toInt = 0 := rfl
    omega
  have e : r.toNatClampNeg = r.toInt.toNat := rfl
  have b := r.toInt_lt
  rw [Int32.toInt_ofNat_of_lt (by omega), e]
  omega
section R6
variable {w : xw} {b : Nat} {th ct : Int32} {po pa pb pn pf : Nat → Int32} {ln : Int32} {bt : Nat → Int32} {kk : Nat → KV} {pl st en wg : Int32} {ws : Nat → Int32} {rc : Int32} {rg sk : Nat → Int32}
theorem er_ge {l : Int32} {q : Nat} (ol : okR l) (hq : q < 4) (hh : (kk 257).2.2.2.2.1 = Int64.ofNat q) : ∀ (m r n : Nat) (k : KV), (k.1 = 0 ∨ k.1 = 1) → r + m = q + 1 → m < n → f_R_get_b31 n (rb w b th ct po pa pb pn pf ln bt (va_up kk 258 k) pl st en wg ws rc rg sk) b l (Int32.ofNat r) = some ((), rb w b th ct po pa pb pn pf ln bt (va_up (va_up kk 258 (mts (rpl kk) m r k)) l.toNatClampNeg (mts (rpl kk) m r k)) pl st en wg ws rc rg sk) := by
  intro m
  induction m with
  | zero =>
    intro r n k hk hr hn
    obtain ⟨n, rfl⟩ : ∃ q, n = q + 1 := ⟨n - 1, by omega⟩
    unfold f_R_get_b31
    rw [xfix_s]
    unfold f_R_get_s31
    simp only [rr_13, rk_4 ok257.1 ok257.2, n257, hh, Option.bind_some, va_up_ne _ _ (show (257 : Nat) ≠ 258 by decide)]
    rw [if_pos ((i64_ltc q (by omega) r (by omega)).mpr (by omega))]
    simp only [rck, Option.bind_some]
    rw [er_copy ok258 ol (by rw [n258, va_up_self]; exact hk), n258, va_up_self]
    rfl
  | succ m ih =>
    intro r n k hk hr hn
    obtain ⟨n, rfl⟩ : ∃ q, n = q + 1 := ⟨n - 1, by omega⟩
    unfold f_R_get_b31
    rw [xfix_s]
    unfold f_R_get_s31
    obtain ⟨o6, e6⟩ := ok6 r (by omega)
    simp only [rr_13, rk_4 ok257.1 ok257.2, n257, hh, Option.bind_some, va_up_ne _ _ (show (257 : Nat) ≠ 258 by decide)]
    rw [if_neg (fun z => absurd ((i64_ltc q (by omega) r (by omega)).mp z) (by omega))]
    simp only [rck, Option.bind_some]
    rw [er_meet ok258 o6 (by rw [e6, n258]; omega), n258, e6, va_up_self, va_up_up, va_up_ne _ _ (show 6 + r ≠ 258 by omega)]
    simp only [Option.bind_some]
    rw [i32_succ r (by omega)]
    have := ih (r + 1) n (kMeet k (rpl kk r)) hk (by omega) (by omega)
    unfold f_R_get_b31 at this
    exact this
theorem er_get {l : Int32} {p q : Nat} (ol : okR l) (hpq : p ≤ q) (hq : q < 4) (hl : (kk 257).2.2.2.1 = Int64.ofNat p) (hh : (kk 257).2.2.2.2.1 = Int64.ofNat q) (hk : k01 kk) : f_R_get (rb w b th ct po pa pb pn pf ln bt kk pl st en wg ws rc rg sk) b l = some ((), rb w b th ct po pa pb pn pf ln bt (va_up (va_up kk 258 (mts (rpl kk) (q - p) (p + 1) (rpl kk p))) l.toNatClampNeg (mts (rpl kk) (q - p) (p + 1) (rpl kk p))) pl st en wg ws rc rg sk) := by
  unfold f_R_get
  obtain ⟨o6, e6⟩ := ok6 p (by omega)
  simp only [rr_12, rk_3 ok257.1 ok257.2, n257, hl, i64_32 p (by omega), rck, Option.bind_some]
  rw [er_copy o6 ok258 (hk _), n258, e6]
  simp only [rr_12, rk_3 ok257.1 ok257.2, n257, hl, i64_32 p (by omega), Option.bind_some, va_up_ne _ _ (show (257 : Nat) ≠ 258 by decide)]
  rw [i32_succ p (by omega)]
  exact er_ge ol hq hh (q - p) (p + 1) 4000 _ (hk _) (by omega) (by omega)
theorem er_pu {p q : Nat} (hpq : p ≤ q) (hq : q < 4) (hh : (kk 257).2.2.2.2.1 = Int64.ofNat q) : ∀ (m r n : Nat), r + m = q + 1 - p → m < n → f_R_put_b40 n (rb w b th ct po pa pb pn pf ln bt (rst (kk 256) p r kk) pl st en wg ws rc rg sk) b (Int32.ofNat (p + r)) = some ((), rb w b th ct po pa pb pn pf ln bt (rst (kk 256) p (q + 1 - p) kk) pl st en wg ws rc rg sk) := by
  have oy : ∀ r, r ≤ q + 1 - p → rst (kk 256) p r kk 257 = kk 257 := fun r hr => rst_out (by omega)
  have oa : ∀ r, r ≤ q + 1 - p → rst (kk 256) p r kk 256 = kk 256 := fun r hr => rst_out (by omega)
  intro m
  induction m with
  | zero =>
    intro r n hr hn
    obtain ⟨n, rfl⟩ : ∃ q, n = q + 1 := ⟨n - 1, by omega⟩
    unfold f_R_put_b40
    rw [xfix_s]
    unfold f_R_put_s40
    simp only [rr_13, rk_4 ok257.1 ok257.2, n257, oy r (by omega), hh, Option.bind_some]
    rw [if_pos ((i64_ltc q (by omega) (p + r) (by omega)).mpr (by omega)), show r = q + 1 - p by omega]
  | succ m ih =>
    intro r n hr hn
    obtain ⟨n, rfl⟩ : ∃ q, n = q + 1 := ⟨n - 1, by omega⟩
    unfold f_R_put_b40
    rw [xfix_s]
    unfold f_R_put_s40 f_R_put_b77
    obtain ⟨o6, e6⟩ := ok6 (p + r) (by omega)
    simp only [rr_13, rk_4 ok257.1 ok257.2, n257, oy r (by omega), hh, Option.bind_some]
    rw [if_neg (fun z => absurd ((i64_ltc q (by omega) (p + r) (by omega)).mp z) (by omega))]
    have os : rst (kk 256) p r kk (6 + (p + r)) = kk (6 + (p + r)) := rst_out (by omega)
    simp only [rr_9, rk_0 o6.1 o6.2, e6, os, Option.bind_some]
    have := ih (r + 1) n (by omega) (by omega)
    unfold f_R_put_b40 at this
    rw [i32_succ (p + r) (by omega)]
    by_cases h : (kk (6 + (p + r))).1 = 0
    · rw [if_pos h, rst_n h]
      exact this
    · rw [if_neg h]
      simp only [rck, Option.bind_some]
      rw [er_meet o6 ok256 (by rw [e6, n256]; omega), e6, n256, os, oa r (by omega), rst_y h]
      simp only [Option.bind_some]
      exact this
theorem er_put {p q : Nat} (hpq : p ≤ q) (hq : q < 4) (hl : (kk 257).2.2.2.1 = Int64.ofNat p) (hh : (kk 257).2.2.2.2.1 = Int64.ofNat q) (hk : k01 kk) : f_R_put (rb w b th ct po pa pb pn pf ln bt kk pl st en wg ws rc rg sk) b = some ((), rb w b th ct po pa pb pn pf ln bt (if p = q then va_up kk (6 + p) (kk 256) else rst (kk 256) p (q + 1 - p) kk) pl st en wg ws rc rg sk) := by
  unfold f_R_put
  have hpq2 : (Int64.ofNat p = Int64.ofNat q) ↔ p = q := by
    have : ∀ a, a < 4 → ∀ b, b < 4 → ((Int64.ofNat a = Int64.ofNat b) ↔ a = b) := by decide
    exact this p (by omega) q hq
  obtain ⟨o6, e6⟩ := ok6 p (by omega)
  have ex : kExact (kk 257) = decide (p = q) := by
    unfold kExact
    rw [hl, hh]
    by_cases h : p = q
    · rw [decide_eq_true h, decide_eq_true (hpq2.mpr h)]
    · rw [decide_eq_false h, decide_eq_false (fun z => h (hpq2.mp z))]
  simp only [rck, er_exact ok257, n257, ex, Option.bind_some]
  by_cases h : p = q
  · rw [decide_eq_true h, if_neg (by decide), if_pos h]
    simp only [rr_12, rk_3 ok257.1 ok257.2, n257, hl, i64_32 p (by omega), rck, Option.bind_some]
    rw [er_copy ok256 o6 (hk _), e6, n256]
    rfl
  · rw [decide_eq_false h, if_pos (by rfl), if_neg h]
    simp only [rr_12, rk_3 ok257.1 ok257.2, n257, hl, i64_32 p (by omega), rck, Option.bind_some]
    have := er_pu (w := w) (b := b) (th := th) (ct := ct) (po := po) (pa := pa) (pb := pb) (pn := pn) (pf := pf) (ln := ln) (bt := bt) (pl := pl) (st := st) (en := en) (wg := wg) (ws := ws) (rc := rc) (rg := rg) (sk := sk) hpq hq hh (q + 1 - p) 0 4000 (by omega) (by omega)
    rw [rst_0, Nat.add_zero] at this
    exact this
theorem er_load {l f : Int32} (ol : okR l) (hg1 : rtgo (kS (kU kNothing 0 255) 0 255) = true) (hg2 : rtgo (kS (kU kNothing 0 65535) 0 65535) = true) : f_R_load (rb w b th ct po pa pb pn pf ln bt kk pl st en wg ws rc rg sk) b l f = some ((), rb w b th ct po pa pb pn pf ln bt (va_up (va_up kk 258 (rLd f)) l.toNatClampNeg (rLd f)) pl st en wg ws rc rg sk) := by
  have tail : ∀ k : KV, (k.1 = 0 ∨ k.1 = 1) → f_R_load_b76 (rb w b th ct po pa pb pn pf ln bt (va_up kk 258 k) pl st en wg ws rc rg sk) b l = some ((), rb w b th ct po pa pb pn pf ln bt (va_up (va_up kk 258 k) l.toNatClampNeg k) pl st en wg ws rc rg sk) := fun k hk => by
    unfold f_R_load_b76
    simp only [rck, Option.bind_some]
    rw [er_copy ok258 ol (by rw [n258, va_up_self]; exact hk), n258, va_up_self]
    rfl
  have mid : ∀ x : Int64, rtgo (kS (kU kNothing 0 x) 0 x) = true → f_R_load_b33 (rb w b th ct po pa pb pn pf ln bt (va_up kk 258 kNothing) pl st en wg ws rc rg sk) b l (b + 11) 258 x = some ((), rb w b th ct po pa pb pn pf ln bt (va_up (va_up kk 258 (rtg (kS (kU kNothing 0 x) 0 x))) l.toNatClampNeg (rtg (kS (kU kNothing 0 x) 0 x))) pl st en wg ws rc rg sk) := fun x hx => by
    unfold f_R_load_b33
    simp only [rr_9, rr_10, rr_11, rr_12, rr_13, rr_14, rr_15, rr_16, rck, rk_0 ok258.1 ok258.2, rk_1 ok258.1 ok258.2, rk_2 ok258.1 ok258.2, rk_3 ok258.1 ok258.2, rk_4 ok258.1 ok258.2, rk_5 ok258.1 ok258.2, rk_6 ok258.1 ok258.2, rk_7 ok258.1 ok258.2, rw_3 ok258.1 ok258.2, rw_4 ok258.1 ok258.2, rw_5 ok258.1 ok258.2, rw_6 ok258.1 ok258.2, er_tighten ok258, n256, n257, n258, n259, Option.bind_some, va_up_self, va_up_up, va_up_ne _ _ (show (256 : Nat) ≠ 258 by decide), va_up_ne _ _ (show (256 : Nat) ≠ 259 by decide), va_up_ne _ _ (show (257 : Nat) ≠ 258 by decide), va_up_ne _ _ (show (257 : Nat) ≠ 259 by decide), va_up_ne _ _ (show (258 : Nat) ≠ 259 by decide), va_up_ne _ _ (show (259 : Nat) ≠ 258 by decide)]
    have e : (kNothing.1, kNothing.2.1, kNothing.2.2.1, kNothing.2.2.2.1, x, (0 : Int64), x, kNothing.2.2.2.2.2.2.2) = kS (kU kNothing 0 x) 0 x := rfl
    rw [e, hx, b01_t, rw_0 ok258.1 ok258.2 (Or.inr rfl), n258, va_up_self, va_up_up]
    simp only [Option.bind_some]
    have e1 : (rtg (kS (kU kNothing 0 x) 0 x)).1 = 1 := rtg_1 _
    rw [show ((1 : Int32), (rtg (kS (kU kNothing 0 x) 0 x)).2) = rtg (kS (kU kNothing 0 x) 0 x) from by rw [← e1]]
    exact tail _ (Or.inr e1)
  unfold f_R_load rLd
  simp only [rck, er_nothing ok258, n258, Option.bind_some]
  by_cases h4 : (4 : Int32) ≤ f
  · rw [if_pos h4]
    simp only [if_pos h4]
    exact tail _ (Or.inr rfl)
  · rw [if_neg h4]
    simp only [if_neg h4, rr_13, Option.bind_some]
    by_cases h1 : f = 1
    · rw [if_neg (not_not_intro h1)]
      simp only [if_pos h1]
      exact mid 255 hg1
    · rw [if_pos h1]
      simp only [if_neg h1]
      exact mid 65535 hg2
/-- a way waits: the place, and all that is known, but of a and of b what 258 and 259 tell -/
def rwt (j : Nat) (a c : Int32) (kk : Nat → KV) : Nat → KV := (fun f : Nat → KV => if c < 0 then f else va_up f (10 * j + c.toNatClampNeg) (f 259)) ((fun f : Nat → KV => if a < 0 then f else va_up f (10 * j + a.toNatClampNeg) (f 258)) (rcp 0 (10 * j) 10 kk))
theorem er_wl {j : Nat} {a c : Int32} (hj : 1 ≤ j) (hj' : j < 25) (ha : a < 0 ∨ a.toNatClampNeg < 6) (hc : c < 0 ∨ c.toNatClampNeg < 6) (hk : k01 kk) : ∀ (m r n : Nat), r + m = 10 → m < n → f_R_wait_b23 n (rb w b th ct po pa pb pn pf ln bt (rcp 0 (10 * j) r kk) pl st en (Int32.ofNat j) ws rc rg sk) b a c (Int32.ofNat r) = some ((), rb w b th ct po pa pb pn pf ln bt (rwt j a c kk) pl st en (Int32.ofNat j) ws rc rg sk) := by
  have tail : ∀ f : Nat → KV, k01 f → f_R_wait_b72 (rb w b th ct po pa pb pn pf ln bt f pl st en (Int32.ofNat j) ws rc rg sk) b c = some ((), rb w b th ct po pa pb pn pf ln bt (if c < 0 then f else va_up f (10 * j + c.toNatClampNeg) (f 259)) pl st en (Int32.ofNat j) ws rc rg sk) := fun f hf => by
    unfold f_R_wait_b72 f_R_wait_b92
    by_cases h : c < 0
    · rw [if_pos h, if_pos h]
    · rw [if_neg h, if_neg h]
      have h6 := hc.resolve_left h
      obtain ⟨o, e⟩ := i32_10 j hj' c.toNatClampNeg (by omega)
      rw [← i32_of6 h] at o e
      simp only [ri_wg, rck, Option.bind_some]
      rw [er_copy ok259 o (hf _), e, n259]
      rfl
  intro m
  induction m with
  | zero =>
    intro r n hr hn
    obtain ⟨n, rfl⟩ : ∃ q, n = q + 1 := ⟨n - 1, by omega⟩
    obtain rfl : r = 10 := by omega
    unfold f_R_wait_b23
    rw [xfix_s]
    unfold f_R_wait_s23 rwt
    rw [if_pos ((i32_le10 (by omega)).mpr (by omega))]
    by_cases h : a < 0
    · rw [if_pos h]
      simp only [if_pos h]
      exact tail _ (hk.rcp _ _ _)
    · rw [if_neg h]
      simp only [if_neg h]
      have h6 := ha.resolve_left h
      obtain ⟨o, e⟩ := i32_10 j hj' a.toNatClampNeg (by omega)
      rw [← i32_of6 h] at o e
      simp only [ri_wg, rck, Option.bind_some]
      rw [er_copy ok258 o (hk.rcp _ _ _ _), e, n258]
      simp only [Option.bind_some]
      exact tail _ ((hk.rcp _ _ _).up (hk.rcp _ _ _ _))
  | succ m ih =>
    intro r n hr hn
    obtain ⟨n, rfl⟩ : ∃ q, n = q + 1 := ⟨n - 1, by omega⟩
    unfold f_R_wait_b23
    rw [xfix_s]
    unfold f_R_wait_s23
    rw [if_neg (fun q => absurd ((i32_le10 (by omega)).mp q) (by omega))]
    obtain ⟨o, e⟩ := i32_10 j hj' r (by omega)
    have e1 : (Int32.ofNat r).toNatClampNeg = r := i32_nat r (by omega)
    have or' : okR (Int32.ofNat r) := ⟨i32_nneg r (by omega), by omega⟩
    simp only [ri_wg, rck, Option.bind_some]
    rw [er_copy or' o (hk.rcp _ _ _ _), e, e1]
    simp only [Option.bind_some]
    have u := rcp_up (f := 0) (t := 10 * j) (n := r) (kk := kk) (by omega)
    rw [Nat.zero_add] at u
    rw [u, i32_succ r (by omega)]
    have := ih (r + 1) n (by omega) (by omega)
    unfold f_R_wait_b23 at this
    exact this
theorem i32_add1 : ∀ j, j < 24 → Int32.ofNat j + 1 = Int32.ofNat (j + 1) := fun j h => i32_succ j (by omega)
theorem er_wait {j : Nat} {t a c : Int32} (hj : j < 24) (hw : wg = Int32.ofNat j) (ha : a < 0 ∨ a.toNatClampNeg < 6) (hc : c < 0 ∨ c.toNatClampNeg < 6) (hk : k01 kk) : f_R_wait (rb w b th ct po pa pb pn pf ln bt kk pl st en wg ws rc rg sk) b t a c = some ((), rb w b th ct po pa pb pn pf ln bt (rwt (j + 1) a c kk) pl st en (Int32.ofNat (j + 1)) (upd ws (j + 1) t) rc rg sk) := by
  have e1 : (Int32.ofNat (j + 1)).toNatClampNeg = j + 1 := i32_nat (j + 1) (by omega)
  unfold f_R_wait
  simp only [ri_wg, hw, i32_add1 j hj, rp_wg, rr_21, Option.bind_some]
  rw [ru_ws (i32_nneg (j + 1) (by omega)) (by omega), e1]
  simp only [Option.bind_some]
  have := er_wl (w := w) (b := b) (th := th) (ct := ct) (po := po) (pa := pa) (pb := pb) (pn := pn) (pf := pf) (ln := ln) (bt := bt) (pl := pl) (st := st) (en := en) (ws := upd ws (j + 1) t) (rc := rc) (rg := rg) (sk := sk) (show 1 ≤ j + 1 by omega) (show j + 1 < 25 by omega) ha hc hk 10 0 4000 (by omega) (by omega)
  rw [rcp_0] at this
  exact this
end R6
