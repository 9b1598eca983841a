theorem xfix_s {α : Type} {b : α} {s : α → α} {n : Nat} : xfix b s (n + 1) = s (xfix b s n) := rfl
theorem i32_succ : ∀ r, r < 30 → Int32.ofNat r + 1 = Int32.ofNat (r + 1) := by decide
theorem i32_nat : ∀ r, r < 31 → (Int32.ofNat r).toNatClampNeg = r := by decide
theorem i32_nneg : ∀ r, r < 31 → ¬ Int32.ofNat r < 0 := by decide
theorem i32_le : ∀ k, k < 31 → ∀ r, r < 31 → ((Int32.ofNat k ≤ Int32.ofNat r) ↔ k ≤ r) := by decide
theorem i32_le4 {r : Nat} (h : r < 31) : ((4 : Int32) ≤ Int32.ofNat r) ↔ 4 ≤ r := i32_le 4 (by decide) r h
theorem i32_le6 {r : Nat} (h : r < 31) : ((6 : Int32) ≤ Int32.ofNat r) ↔ 6 ≤ r := i32_le 6 (by decide) r h
theorem i32_le24 {r : Nat} (h : r < 31) : ((24 : Int32) ≤ Int32.ofNat r) ↔ 24 ≤ r := i32_le 24 (by decide) r h
def isS (g d : Nat) : Prop := d = g + 30 ∨ d = g + 48 ∨ ∃ i, i < 24 ∧ d = g + 61 + 13 * i
theorem isS_n {g : Nat} : isS g (g + 30) := Or.inl rfl
theorem isS_e {g : Nat} : isS g (g + 48) := Or.inr (Or.inl rfl)
theorem isS_w {g i : Nat} (h : i < 24) : isS g (g + 61 + 13 * i) := Or.inr (Or.inr ⟨i, h, rfl⟩)
theorem isS.apart {g d s : Nat} (hd : isS g d) (hs : isS g s) (h : d ≠ s) : d + 13 ≤ s ∨ s + 13 ≤ d := by
  rcases hd with rfl | rfl | ⟨i, hi, rfl⟩ <;> rcases hs with rfl | rfl | ⟨j, hj, rfl⟩ <;> omega
theorem isS.P {g d r : Nat} (hd : isS g d) (h3 : 3 ≤ r) (h : r < 13) : cP g (d + r) = true := by
  unfold cP
  rcases hd with rfl | rfl | ⟨i, hi, rfl⟩ <;> exact decide_eq_true (by omega)
section W2
variable {w : xw} {g : Nat} {ct : Int32} {ii : Nat → IV} {ln : Int32} {bt wt : Nat → Int32} {en st : Int32} {mr ms : Nat → Int32} {mi : Int32} {kc : Nat → KV}
theorem cs_0 {d : Nat} (h : isS g d) : xfR (ew (cb w g ct ii ln bt wt en st mr ms mi) (cP g) kc) d 6 0 = some (d + 1) := by
  rcases h with rfl | rfl | ⟨i, hi, rfl⟩
  · exact cs_n0
  · exact cs_e0
  · exact cs_w0 hi
theorem cs_1 {d : Nat} (h : isS g d) : xfR (ew (cb w g ct ii ln bt wt en st mr ms mi) (cP g) kc) d 6 1 = some (d + 2) := by
  rcases h with rfl | rfl | ⟨i, hi, rfl⟩
  · exact cs_n1
  · exact cs_e1
  · exact cs_w1 hi
theorem cs_ck {d : Nat} (h : isS g d) : xck (ew (cb w g ct ii ln bt wt en st mr ms mi) (cP g) kc) d 6 = some () := by
  rcases h with rfl | rfl | ⟨i, hi, rfl⟩
  · exact cs_nck
  · exact cs_eck
  · exact cs_wck hi
theorem cs_R {d : Nat} {r : Int32} (h : isS g d) (h0 : ¬ r < 0) (h1 : r.toNatClampNeg < 6) : xaR (ew (cb w g ct ii ln bt wt en st mr ms mi) (cP g) kc) (d + 1) r = some (d + 3 + r.toNatClampNeg) := by
  rcases h with rfl | rfl | ⟨i, hi, rfl⟩
  · exact cs_nR h0 h1
  · exact cs_eR h0 h1
  · exact cs_wR hi h0 h1
theorem cs_P {d : Nat} {r : Int32} (h : isS g d) (h0 : ¬ r < 0) (h1 : r.toNatClampNeg < 4) : xaR (ew (cb w g ct ii ln bt wt en st mr ms mi) (cP g) kc) (d + 2) r = some (d + 9 + r.toNatClampNeg) := by
  rcases h with rfl | rfl | ⟨i, hi, rfl⟩
  · exact cs_nP h0 h1
  · exact cs_eP h0 h1
  · exact cs_wP hi h0 h1
end W2
/-- the numbers d+3 .. d+3+n-1 are those of s -/
def kcp (d s n : Nat) (kc : Nat → KV) : Nat → KV := fun a => if d + 3 ≤ a ∧ a < d + 3 + n then kc (s + (a - d)) else kc a
theorem kcp_0 (d s : Nat) (kc : Nat → KV) : kcp d s 0 kc = kc := by
  funext a
  unfold kcp
  rw [if_neg (by omega)]
theorem kcp_up {d s n : Nat} {kc : Nat → KV} (hn : n < 10) (h : d + 13 ≤ s ∨ s + 13 ≤ d) : va_up (kcp d s n kc) (d + 3 + n) (kcp d s n kc (s + 3 + n)) = kcp d s (n + 1) kc := by
  funext a
  by_cases e : a = d + 3 + n
  · rw [e, va_up_self]
    unfold kcp
    rw [if_neg (by omega), if_pos (by omega)]
    congr 1
    omega
  · rw [va_up_ne _ _ e]
    unfold kcp
    by_cases q : d + 3 ≤ a ∧ a < d + 3 + n
    · rw [if_pos q, if_pos (by omega)]
    · rw [if_neg q, if_neg (by omega)]
theorem k01.cp {kc : Nat → KV} (h : k01 kc) (d s n : Nat) : k01 (kcp d s n kc) := fun a => by
  unfold kcp
  split
  · exact h _
  · exact h _
section W3
variable {w : xw} {g : Nat} {ct : Int32} {ii : Nat → IV} {ln : Int32} {bt wt : Nat → Int32} {en st : Int32} {mr ms : Nat → Int32} {mi : Int32} {kc : Nat → KV}
theorem es_takeP {d s : Nat} (hd : isS g d) (hs : isS g s) (hne : d ≠ s) (hk : k01 kc) : ∀ (m r n : Nat), r + m = 4 → m < n → f_S_take_b31 n (ew (cb w g ct ii ln bt wt en st mr ms mi) (cP g) (kcp d s (6 + r) kc)) d s (Int32.ofNat r) = some ((), ew (cb w g ct ii ln bt wt en st mr ms mi) (cP g) (kcp d s 10 kc)) := by
  intro m
  induction m with
  | zero =>
    intro r n hr hn
    obtain ⟨n, rfl⟩ : ∃ q, n = q + 1 := ⟨n - 1, by omega⟩
    unfold f_S_take_b31
    rw [xfix_s]
    unfold f_S_take_s31
    rw [if_pos ((i32_le4 (by omega)).mpr (by omega)), show 6 + r = 10 by omega]
  | succ m ih =>
    intro r n hr hn
    obtain ⟨n, rfl⟩ : ∃ q, n = q + 1 := ⟨n - 1, by omega⟩
    unfold f_S_take_b31
    rw [xfix_s]
    unfold f_S_take_s31
    rw [if_neg (fun q => absurd ((i32_le4 (by omega)).mp q) (by omega))]
    have e1 : (Int32.ofNat r).toNatClampNeg = r := i32_nat r (by omega)
    simp only [cs_1 hd, cs_1 hs, cs_P hd (i32_nneg r (by omega)) (show (Int32.ofNat r).toNatClampNeg < 4 by omega), cs_P hs (i32_nneg r (by omega)) (show (Int32.ofNat r).toNatClampNeg < 4 by omega), Option.bind_some, e1]
    rw [show d + 9 + r = d + 3 + (6 + r) by omega, show s + 9 + r = s + 3 + (6 + r) by omega]
    have pd : cP g (d + 3 + (6 + r)) = true := by rw [Nat.add_assoc]; exact hd.P (by omega) (by omega)
    have ps : cP g (s + 3 + (6 + r)) = true := by rw [Nat.add_assoc]; exact hs.P (by omega) (by omega)
    rw [ek_ck pd]
    simp only [Option.bind_some]
    rw [ek_take pd ps ((hk.cp d s (6 + r)) _), kcp_up (by omega) (hd.apart hs hne)]
    simp only [Option.bind_some]
    rw [i32_succ r (by omega)]
    have := ih (r + 1) n (by omega) (by omega)
    unfold f_S_take_b31 at this
    rw [show 6 + r + 1 = 6 + (r + 1) by omega]
    exact this
theorem es_takeR {d s : Nat} (hd : isS g d) (hs : isS g s) (hne : d ≠ s) (hk : k01 kc) : ∀ (m r n : Nat), r + m = 6 → m < n → f_S_take_b2 n (ew (cb w g ct ii ln bt wt en st mr ms mi) (cP g) (kcp d s r kc)) d s (Int32.ofNat r) = some ((), ew (cb w g ct ii ln bt wt en st mr ms mi) (cP g) (kcp d s 10 kc)) := by
  intro m
  induction m with
  | zero =>
    intro r n hr hn
    obtain ⟨n, rfl⟩ : ∃ q, n = q + 1 := ⟨n - 1, by omega⟩
    unfold f_S_take_b2
    rw [xfix_s]
    unfold f_S_take_s2
    rw [if_pos ((i32_le6 (by omega)).mpr (by omega)), show r = 6 + 0 by omega]
    simp only [Option.bind_some]
    exact es_takeP hd hs hne hk 4 0 4000 rfl (by decide)
  | succ m ih =>
    intro r n hr hn
    obtain ⟨n, rfl⟩ : ∃ q, n = q + 1 := ⟨n - 1, by omega⟩
    unfold f_S_take_b2
    rw [xfix_s]
    unfold f_S_take_s2
    rw [if_neg (fun q => absurd ((i32_le6 (by omega)).mp q) (by omega))]
    have e1 : (Int32.ofNat r).toNatClampNeg = r := i32_nat r (by omega)
    simp only [cs_0 hd, cs_0 hs, cs_R hd (i32_nneg r (by omega)) (show (Int32.ofNat r).toNatClampNeg < 6 by omega), cs_R hs (i32_nneg r (by omega)) (show (Int32.ofNat r).toNatClampNeg < 6 by omega), Option.bind_some, e1]
    have pd : cP g (d + 3 + r) = true := by rw [Nat.add_assoc]; exact hd.P (by omega) (by omega)
    have ps : cP g (s + 3 + r) = true := by rw [Nat.add_assoc]; exact hs.P (by omega) (by omega)
    rw [ek_ck pd]
    simp only [Option.bind_some]
    rw [ek_take pd ps ((hk.cp d s r) _), kcp_up (by omega) (hd.apart hs hne)]
    simp only [Option.bind_some]
    rw [i32_succ r (by omega)]
    have := ih (r + 1) n (by omega) (by omega)
    unfold f_S_take_b2 at this
    exact this
theorem es_take {d s : Nat} (hd : isS g d) (hs : isS g s) (hne : d ≠ s) (hk : k01 kc) : f_S_take (ew (cb w g ct ii ln bt wt en st mr ms mi) (cP g) kc) d s = some ((), ew (cb w g ct ii ln bt wt en st mr ms mi) (cP g) (kcp d s 10 kc)) := by
  unfold f_S_take
  simp only [Option.bind_some]
  have := es_takeR (w := w) (ct := ct) (ii := ii) (ln := ln) (bt := bt) (wt := wt) (en := en) (st := st) (mr := mr) (ms := ms) (mi := mi) hd hs hne hk 6 0 4000 rfl (by decide)
  rw [kcp_0] at this
  exact this
/-- the pair is taken over -/
def tpK (g : Nat) (v : IV) (kc : Nat → KV) : Nat → KV := va_up (yK g v (va_up kc (g + 46) (kc (g + 30 + 3 + v.2.1.toNatClampNeg)))) (g + 47) (yK g v (va_up kc (g + 46) (kc (g + 30 + 3 + v.2.1.toNatClampNeg))) (yA g v))
theorem k01.y {kc : Nat → KV} (h : k01 kc) (g : Nat) (v : IV) : k01 (yK g v kc) := by
  unfold yK
  split
  · exact h.up (Or.inr rfl)
  · exact h
theorem ew_tp {i : Nat} (hi : i < 24) (ho : okI (ii i)) (hk : k01 kc) : f_W_takePair (ew (cb w g ct ii ln bt wt en st mr ms mi) (cP g) kc) (g + 29) (g + 3 + i) = some ((), ew (cb w g ct ii ln bt wt en st mr ms mi) (cP g) (tpK g (ii i) kc)) := by
  unfold f_W_takePair
  simp only [cr_29_5, cr_29_1, cs_n0, ci_1 hi, cs_nR ho.1.1 ho.1.2, ek_ck cP_46, Option.bind_some]
  rw [ek_take cP_46 (cP_nR ho.1.2) (hk _)]
  simp only [cr_29_6, cc_29, ew_y hi ho, ek_ck cP_47, Option.bind_some]
  rw [ek_take cP_47 (yA_P ho) (((hk.up (hk _)).y g (ii i)) _)]
  rfl
/-- the pair is given to a way: A before Y -/
def gpK (g : Nat) (v : IV) (d : Nat) (kc : Nat → KV) : Nat → KV := if v.2.2.1 = -1 then va_up kc (d + 3 + v.2.1.toNatClampNeg) (kc (g + 46)) else va_up (va_up kc (d + 3 + v.2.1.toNatClampNeg) (kc (g + 46))) (d + 3 + v.2.2.1.toNatClampNeg) (kc (g + 47))
theorem isS.ne47 {g d r : Nat} (h : isS g d) (h3 : 3 ≤ r) (hr : r < 13) : g + 47 ≠ d + r ∧ g + 46 ≠ d + r ∧ g + 45 ≠ d + r := by
  rcases h with rfl | rfl | ⟨i, hi, rfl⟩ <;> omega
theorem ew_gp {i d : Nat} (hi : i < 24) (hd : isS g d) (ho : okI (ii i)) (hk : k01 kc) : f_W_givePair (ew (cb w g ct ii ln bt wt en st mr ms mi) (cP g) kc) (g + 29) (g + 3 + i) d = some ((), ew (cb w g ct ii ln bt wt en st mr ms mi) (cP g) (gpK g (ii i) d kc)) := by
  have pa : cP g (d + 3 + (ii i).2.1.toNatClampNeg) = true := by rw [Nat.add_assoc]; exact hd.P (by omega) (by have := ho.1.2; omega)
  unfold f_W_givePair f_W_givePair_b40 gpK
  simp only [cs_0 hd, ci_1 hi, cs_R hd ho.1.1 ho.1.2, cr_29_5, ek_ck pa, Option.bind_some]
  rw [ek_take pa cP_46 (hk _)]
  simp only [ci_2 hi, Option.bind_some]
  by_cases h : (ii i).2.2.1 = -1
  · simp only [if_pos h]
  · simp only [if_neg h, cs_0 hd, Option.bind_some]
    rcases ho.2 with q | ⟨q1, q2⟩
    · exact absurd q h
    · have pb : cP g (d + 3 + (ii i).2.2.1.toNatClampNeg) = true := by rw [Nat.add_assoc]; exact hd.P (by omega) (by omega)
      simp only [cs_R hd q1 q2, cr_29_6, ek_ck pb, Option.bind_some]
      rw [ek_take pb cP_47 ((hk.up (hk _)) _), va_up_ne _ _ (by rw [Nat.add_assoc]; exact (hd.ne47 (by omega) (by have := ho.1.2; omega)).1)]
      rfl
end W3
