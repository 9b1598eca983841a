theorem i64_32 : ∀ p, p < 8 → (Int64.ofNat p).toInt32 = Int32.ofNat p := by decide
theorem i32_lt : ∀ k, k < 31 → ∀ r, r < 31 → ((Int32.ofNat k < Int32.ofNat r) ↔ k < r) := by decide
theorem i64_ltc : ∀ k, k < 8 → ∀ r, r < 8 → ((Int64.ofNat k < (Int32.ofNat r).toInt64) ↔ k < r) := by decide
theorem i64_lt4 : ∀ k, k < 8 → ((Int64.ofNat k < 4) ↔ k < 4) := by decide
def anyU (f : Nat → KV) : Nat → Nat → Bool
  | 0, _ => false
  | m + 1, r => decide ((f r).1 = 0) || anyU f m (r + 1)
def mts (f : Nat → KV) : Nat → Nat → KV → KV
  | 0, _, k => k
  | m + 1, r, k => mts f m (r + 1) (kMeet k (f r))
/-- the places' numbers -/
def npl (g : Nat) (kc : Nat → KV) : Nat → KV := fun r => kc (g + 30 + 9 + r)
theorem mts_k (f : Nat → KV) : ∀ (m r : Nat) (k : KV), (mts f m r k).1 = k.1
  | 0, _, _ => rfl
  | m + 1, r, k => (mts_k f m (r + 1) (kMeet k (f r))).trans rfl
theorem mts_congr {f h : Nat → KV} : ∀ (m r : Nat) (k : KV), (∀ t, r ≤ t → t < r + m → f t = h t) → mts f m r k = mts h m r k
  | 0, _, _, _ => rfl
  | m + 1, r, k, e => by
    unfold mts
    rw [e r (by omega) (by omega)]
    exact mts_congr m (r + 1) _ (fun t h1 h2 => e t (by omega) (by omega))
section W4
variable {w : xw} {g : Nat} {ct : Int32} {ii : Nat → IV} {ln : Int32} {bt wt : Nat → Int32} {en st : Int32} {mr ms : Nat → Int32} {mi : Int32} {kc : Nat → KV}
theorem ew_ap {y q : Nat} (hy : cP g y = true) (hq : q < 4) (hh : (kc y).2.2.2.2.1 = Int64.ofNat q) : ∀ (m r n : Nat), r + m = q + 1 → m < n → f_W_alarmOfPlaces_b19 n (ew (cb w g ct ii ln bt wt en st mr ms mi) (cP g) kc) (g + 29) 12 y (Int32.ofNat r) = some (if anyU (npl g kc) m r = true then 6 else 0, ew (cb w g ct ii ln bt wt en st mr ms mi) (cP g) kc) := by
  intro m
  induction m with
  | zero =>
    intro r n hr hn
    obtain ⟨n, rfl⟩ : ∃ q, n = q + 1 := ⟨n - 1, by omega⟩
    unfold f_W_alarmOfPlaces_b19
    rw [xfix_s]
    unfold f_W_alarmOfPlaces_s19 f_W_alarmOfPlaces_b59
    rw [if_neg (fun q => q rfl), ek_r4 hy]
    simp only [Option.bind_some]
    rw [hh, if_pos ((i64_ltc q (by omega) r (by omega)).mpr (by omega))]
    rfl
  | succ m ih =>
    intro r n hr hn
    obtain ⟨n, rfl⟩ : ∃ q, n = q + 1 := ⟨n - 1, by omega⟩
    unfold f_W_alarmOfPlaces_b19
    rw [xfix_s]
    unfold f_W_alarmOfPlaces_s19
    rw [if_neg (fun q => q rfl), ek_r4 hy]
    simp only [Option.bind_some]
    have e1 : (Int32.ofNat r).toNatClampNeg = r := i32_nat r (by omega)
    rw [hh, if_neg (fun z => absurd ((i64_ltc q (by omega) r (by omega)).mp z) (by omega))]
    simp only [cr_29_1, cs_n1, cs_nP (i32_nneg r (by omega)) (show (Int32.ofNat r).toNatClampNeg < 4 by omega), Option.bind_some, e1, ek_r0 (cP_nP (show r < 4 by omega))]
    by_cases h : (kc (g + 30 + 9 + r)).1 = 0
    · rw [if_neg (fun z => z h)]
      unfold anyU npl
      rw [decide_eq_true h, Bool.true_or, if_pos rfl]
    · rw [if_pos h, i32_succ r (by omega)]
      have := ih (r + 1) n (by omega) (by omega)
      unfold f_W_alarmOfPlaces_b19 at this
      refine this.trans ?_
      have e : anyU (npl g kc) (m + 1) r = anyU (npl g kc) m (r + 1) := by
        show (decide ((npl g kc r).1 = 0) || anyU (npl g kc) m (r + 1)) = _
        rw [show decide ((npl g kc r).1 = 0) = false from decide_eq_false h, Bool.false_or]
      rw [e]
theorem ew_ap13 {y : Nat} {op r : Int32} (n : Nat) (hop : ¬ op = 12) : f_W_alarmOfPlaces_b19 (n + 1) (ew (cb w g ct ii ln bt wt en st mr ms mi) (cP g) kc) (g + 29) op y r = some (0, ew (cb w g ct ii ln bt wt en st mr ms mi) (cP g) kc) := by
  unfold f_W_alarmOfPlaces_b19
  rw [xfix_s]
  unfold f_W_alarmOfPlaces_s19 f_W_alarmOfPlaces_b59
  rw [if_pos hop]
theorem ew_fe {a q : Nat} (ha : cP g a = true) (hap : ∀ t, t < 4 → g + 30 + 9 + t ≠ a) (hq : q < 4) : ∀ (m r n : Nat) (k : KV), r + m = q + 1 → m < n → f_W_fetch_b31 n (ew (cb w g ct ii ln bt wt en st mr ms mi) (cP g) (va_up kc a k)) (g + 29) a (Int32.ofNat q) (Int32.ofNat r) = some ((), ew (cb w g ct ii ln bt wt en st mr ms mi) (cP g) (va_up kc a (mts (npl g kc) m r k))) := by
  intro m
  induction m with
  | zero =>
    intro r n k hr hn
    obtain ⟨n, rfl⟩ : ∃ q, n = q + 1 := ⟨n - 1, by omega⟩
    unfold f_W_fetch_b31
    rw [xfix_s]
    unfold f_W_fetch_s31
    rw [if_pos ((i32_lt q (by omega) r (by omega)).mpr (by omega))]
    rfl
  | succ m ih =>
    intro r n k hr hn
    obtain ⟨n, rfl⟩ : ∃ q, n = q + 1 := ⟨n - 1, by omega⟩
    unfold f_W_fetch_b31
    rw [xfix_s]
    unfold f_W_fetch_s31
    rw [if_neg (fun z => absurd ((i32_lt q (by omega) r (by omega)).mp z) (by omega))]
    have e1 : (Int32.ofNat r).toNatClampNeg = r := i32_nat r (by omega)
    simp only [cr_29_1, cs_n1, cs_nP (i32_nneg r (by omega)) (show (Int32.ofNat r).toNatClampNeg < 4 by omega), Option.bind_some, e1, ek_ck ha]
    rw [ek_meet ha (cP_nP (show r < 4 by omega)) (hap r (by omega)), va_up_self, va_up_up, va_up_ne _ _ (hap r (by omega))]
    simp only [Option.bind_some]
    rw [i32_succ r (by omega)]
    have := ih (r + 1) n (kMeet k (npl g kc r)) (by omega) (by omega)
    unfold f_W_fetch_b31 at this
    exact this
theorem ew_fetch {a y p q : Nat} (ha : cP g a = true) (hy : cP g y = true) (hap : ∀ t, t < 4 → g + 30 + 9 + t ≠ a) (hpq : p ≤ q) (hq : q < 4) (hl : (kc y).2.2.2.1 = Int64.ofNat p) (hh : (kc y).2.2.2.2.1 = Int64.ofNat q) (hk : k01 kc) : f_W_fetch (ew (cb w g ct ii ln bt wt en st mr ms mi) (cP g) kc) (g + 29) a y = some ((), ew (cb w g ct ii ln bt wt en st mr ms mi) (cP g) (va_up kc a (mts (npl g kc) (q - p) (p + 1) (npl g kc p)))) := by
  unfold f_W_fetch
  have e1 : (Int32.ofNat p).toNatClampNeg = p := i32_nat p (by omega)
  simp only [ek_r3 hy, ek_r4 hy, hl, hh, i64_32 p (by omega), i64_32 q (by omega), cr_29_1, cs_n1, cs_nP (i32_nneg p (by omega)) (show (Int32.ofNat p).toNatClampNeg < 4 by omega), Option.bind_some, e1, ek_ck ha]
  rw [ek_take ha (cP_nP (show p < 4 by omega)) (hk _)]
  simp only [Option.bind_some]
  rw [i32_succ p (by omega)]
  exact ew_fe ha hap hq (q - p) (p + 1) 4000 _ (by omega) (by omega)
/-- the places r .. r+m-1 that are set meet k -/
def stp (g : Nat) (k : KV) (r m : Nat) (kc : Nat → KV) : Nat → KV := fun a => if (g + 30 + 9 + r ≤ a ∧ a < g + 30 + 9 + r + m) ∧ ¬ (kc a).1 = 0 then kMeet (kc a) k else kc a
theorem stp_0 (g : Nat) (k : KV) (r : Nat) (kc : Nat → KV) : stp g k r 0 kc = kc := by
  funext a
  unfold stp
  rw [if_neg (by omega)]
theorem stp_out {g : Nat} {k : KV} {r m a : Nat} {kc : Nat → KV} (h : a < g + 30 + 9 + r ∨ g + 30 + 9 + r + m ≤ a) : stp g k r m kc a = kc a := by
  unfold stp
  rw [if_neg (by omega)]
theorem stp_y {g : Nat} {k : KV} {r m : Nat} {kc : Nat → KV} (h : ¬ (kc (g + 30 + 9 + r + m)).1 = 0) : va_up (stp g k r m kc) (g + 30 + 9 + r + m) (kMeet (kc (g + 30 + 9 + r + m)) k) = stp g k r (m + 1) kc := by
  funext a
  by_cases e : a = g + 30 + 9 + r + m
  · rw [e, va_up_self]
    unfold stp
    rw [if_pos ⟨by omega, h⟩]
  · rw [va_up_ne _ _ e]
    unfold stp
    by_cases q : (g + 30 + 9 + r ≤ a ∧ a < g + 30 + 9 + r + m) ∧ ¬ (kc a).1 = 0
    · rw [if_pos q, if_pos ⟨by omega, q.2⟩]
    · rw [if_neg q, if_neg (fun z => q ⟨by omega, z.2⟩)]
theorem stp_n {g : Nat} {k : KV} {r m : Nat} {kc : Nat → KV} (h : (kc (g + 30 + 9 + r + m)).1 = 0) : stp g k r m kc = stp g k r (m + 1) kc := by
  funext a
  unfold stp
  by_cases e : a = g + 30 + 9 + r + m
  · rw [if_neg (by omega), if_neg (fun z => z.2 (by rw [e]; exact h))]
  · by_cases q : (g + 30 + 9 + r ≤ a ∧ a < g + 30 + 9 + r + m) ∧ ¬ (kc a).1 = 0
    · rw [if_pos q, if_pos ⟨by omega, q.2⟩]
    · rw [if_neg q, if_neg (fun z => q ⟨by omega, z.2⟩)]
theorem ew_st {a y p q : Nat} (ha : cP g a = true) (hy : cP g y = true) (hap : ∀ t, t < 4 → g + 30 + 9 + t ≠ a) (hyp : ∀ t, t < 4 → g + 30 + 9 + t ≠ y) (hpq : p ≤ q) (hq : q < 4) (hh : (kc y).2.2.2.2.1 = Int64.ofNat q) : ∀ (m r n : Nat), r + m = q + 1 - p → m < n → f_W_store_b31 n (ew (cb w g ct ii ln bt wt en st mr ms mi) (cP g) (stp g (kc a) p r kc)) (g + 29) a y (Int32.ofNat (p + r)) = some ((), ew (cb w g ct ii ln bt wt en st mr ms mi) (cP g) (stp g (kc a) p (q + 1 - p) kc)) := by
  have oy : ∀ r, r ≤ q + 1 - p → stp g (kc a) p r kc y = kc y := fun r hr => stp_out (by
    have h0 := hyp 0 (by decide); have h1 := hyp 1 (by decide); have h2 := hyp 2 (by decide); have h3 := hyp 3 (by decide); omega)
  have oa : ∀ r, r ≤ q + 1 - p → stp g (kc a) p r kc a = kc a := fun r hr => stp_out (by
    have h0 := hap 0 (by decide); have h1 := hap 1 (by decide); have h2 := hap 2 (by decide); have h3 := hap 3 (by decide); omega)
  intro m
  induction m with
  | zero =>
    intro r n hr hn
    obtain ⟨n, rfl⟩ : ∃ q, n = q + 1 := ⟨n - 1, by omega⟩
    unfold f_W_store_b31
    rw [xfix_s]
    unfold f_W_store_s31
    rw [ek_r4 hy, oy r (by omega), hh]
    simp only [Option.bind_some]
    rw [if_pos ((i64_ltc q (by omega) (p + r) (by omega)).mpr (by omega)), show r = q + 1 - p by omega]
  | succ m ih =>
    intro r n hr hn
    obtain ⟨n, rfl⟩ : ∃ q, n = q + 1 := ⟨n - 1, by omega⟩
    unfold f_W_store_b31
    rw [xfix_s]
    unfold f_W_store_s31 f_W_store_b69
    rw [ek_r4 hy, oy r (by omega), hh]
    simp only [Option.bind_some]
    rw [if_neg (fun z => absurd ((i64_ltc q (by omega) (p + r) (by omega)).mp z) (by omega))]
    have e1 : (Int32.ofNat (p + r)).toNatClampNeg = p + r := i32_nat (p + r) (by omega)
    have hp := cP_nP (g := g) (show p + r < 4 by omega)
    simp only [cr_29_1, cs_n1, cs_nP (i32_nneg (p + r) (by omega)) (show (Int32.ofNat (p + r)).toNatClampNeg < 4 by omega), Option.bind_some, e1, ek_r0 hp, ek_ck hp]
    have os : stp g (kc a) p r kc (g + 30 + 9 + (p + r)) = kc (g + 30 + 9 + (p + r)) := stp_out (by omega)
    have ea : g + 30 + 9 + p + r = g + 30 + 9 + (p + r) := by omega
    have := ih (r + 1) n (by omega) (by omega)
    unfold f_W_store_b31 at this
    rw [os, i32_succ (p + r) (by omega)]
    by_cases h : (kc (g + 30 + 9 + (p + r))).1 = 0
    · rw [if_pos h, stp_n (by rw [ea]; exact h)]
      exact this
    · rw [if_neg h, ek_meet hp ha (Ne.symm (hap (p + r) (by omega))), os, oa r (by omega)]
      simp only [Option.bind_some]
      rw [← ea, stp_y (by rw [ea]; exact h)]
      exact this
theorem ew_store {a y p q : Nat} (ha : cP g a = true) (hy : cP g y = true) (hap : ∀ t, t < 4 → g + 30 + 9 + t ≠ a) (hyp : ∀ t, t < 4 → g + 30 + 9 + t ≠ y) (hpq : p ≤ q) (hq : q < 4) (hl : (kc y).2.2.2.1 = Int64.ofNat p) (hh : (kc y).2.2.2.2.1 = Int64.ofNat q) (hk : k01 kc) : f_W_store (ew (cb w g ct ii ln bt wt en st mr ms mi) (cP g) kc) (g + 29) a y = some ((), ew (cb w g ct ii ln bt wt en st mr ms mi) (cP g) ((if p = q then va_up kc (g + 30 + 9 + p) (kc a) else stp g (kc a) p (q + 1 - p) kc))) := by
  unfold f_W_store
  have e1 : (Int32.ofNat p).toNatClampNeg = p := i32_nat p (by omega)
  have hpq2 : (Int64.ofNat p = Int64.ofNat q) ↔ p = q := by
    have : ∀ a, a < 4 → ∀ b, b < 4 → ((Int64.ofNat a = Int64.ofNat b) ↔ a = b) := by decide
    exact this p (by omega) q hq
  simp only [ek_ck hy, ek_exact hy, ek_r3 hy, hl, hh, i64_32 p (by omega), Option.bind_some]
  by_cases h : p = q
  · rw [if_pos (hpq2.mpr h), if_neg (by decide), if_pos h]
    have hp := cP_nP (g := g) (show p < 4 by omega)
    simp only [cr_29_1, cs_n1, cs_nP (i32_nneg p (by omega)) (show (Int32.ofNat p).toNatClampNeg < 4 by omega), Option.bind_some, e1, ek_ck hp]
    rw [ek_take hp ha (hk _)]
    rfl
  · rw [if_neg (fun z => h (hpq2.mp z)), if_pos rfl, if_neg h]
    have := ew_st (w := w) (ct := ct) (ii := ii) (ln := ln) (bt := bt) (wt := wt) (en := en) (st := st) (mr := mr) (ms := ms) (mi := mi) ha hy hap hyp hpq hq hh (q + 1 - p) 0 4000 (by omega) (by omega)
    rw [stp_0, Nat.add_zero] at this
    exact this
end W4
