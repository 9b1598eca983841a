/-! The worlds that the class's constructors leave. -/
def fA (p r : Nat) : Nat → Option Nat := fun i => if i < r then some (p + i) else none
theorem fA_up {p r : Nat} : va_up (fA p r) r (some (p + r)) = fA p (r + 1) := by
  funext i
  by_cases e : i = r
  · rw [e, va_up_self]
    unfold fA
    rw [if_pos (by omega)]
  · rw [va_up_ne _ _ e]
    unfold fA
    by_cases q : i < r
    · rw [if_pos q, if_pos (by omega)]
    · rw [if_neg q, if_neg (by omega)]
theorem fA_0 {p : Nat} : (fun _ => none) = fA p 0 := by
  funext i
  unfold fA
  rw [if_neg (by omega)]
abbrev k0 : KV := (0, 0, 0, 0, 0, 0, 0, 0)
abbrev i0 : IV := (0, 0, 0, 0, 0)
abbrev rA (t n : Nat) (f : Nat → Option Nat) : xe := .inl (t, n, .inr (.inr (.inr (.inr f))))
/-- a state that is being made at d -/
def sL (W : xw) (d r m : Nat) : xw := fun a =>
  if a = d then some (.inr (6, [.ref (d + 1), .ref (d + 2)]))
  else if a = d + 1 then some (rA 3 6 (fA (d + 3) r))
  else if a = d + 2 then some (rA 3 4 (fA (d + 9) m))
  else if d + 3 ≤ a ∧ a < d + 3 + r + m then some (.inr (2, kf k0))
  else W a
section SL
variable {W : xw} {d r m a : Nat}
theorem sL_d : sL W d r m d = some (.inr (6, [.ref (d + 1), .ref (d + 2)])) := by unfold sL; rw [if_pos rfl]
theorem sL_1 : sL W d r m (d + 1) = some (rA 3 6 (fA (d + 3) r)) := by unfold sL; rw [if_neg (by omega), if_pos rfl]
theorem sL_2 : sL W d r m (d + 2) = some (rA 3 4 (fA (d + 9) m)) := by unfold sL; rw [if_neg (by omega), if_neg (by omega), if_pos rfl]
theorem sL_k (h : d + 3 ≤ a ∧ a < d + 3 + r + m) : sL W d r m a = some (.inr (2, kf k0)) := by unfold sL; rw [if_neg (by omega), if_neg (by omega), if_neg (by omega), if_pos h]
theorem sL_out (h : a < d ∨ d + 3 + r + m ≤ a) : sL W d r m a = W a := by unfold sL; rw [if_neg (by omega), if_neg (by omega), if_neg (by omega), if_neg (by omega)]
theorem sL_u1 : va_up (va_up (sL W d r 0) (d + 3 + r) (some (.inr (2, xdf 2)))) (d + 1) (some (rA 3 6 (fA (d + 3) (r + 1)))) = sL W d (r + 1) 0 := by
  funext a
  by_cases e1 : a = d + 1
  · rw [e1, va_up_self, sL_1]
  rw [va_up_ne _ _ e1]
  by_cases e2 : a = d + 3 + r
  · rw [e2, va_up_self, sL_k (by omega)]; rfl
  rw [va_up_ne _ _ e2]
  by_cases e3 : a = d
  · rw [e3, sL_d, sL_d]
  by_cases e4 : a = d + 2
  · rw [e4, sL_2, sL_2]
  by_cases e5 : d + 3 ≤ a ∧ a < d + 3 + r
  · rw [sL_k (by omega), sL_k (by omega)]
  · rw [sL_out (by omega), sL_out (by omega)]
theorem sL_u2 : va_up (va_up (sL W d 6 m) (d + 9 + m) (some (.inr (2, xdf 2)))) (d + 2) (some (rA 3 4 (fA (d + 9) (m + 1)))) = sL W d 6 (m + 1) := by
  funext a
  by_cases e1 : a = d + 2
  · rw [e1, va_up_self, sL_2]
  rw [va_up_ne _ _ e1]
  by_cases e2 : a = d + 9 + m
  · rw [e2, va_up_self, sL_k (by omega)]; rfl
  rw [va_up_ne _ _ e2]
  by_cases e3 : a = d
  · rw [e3, sL_d, sL_d]
  by_cases e4 : a = d + 1
  · rw [e4, sL_1, sL_1]
  by_cases e5 : d + 3 ≤ a ∧ a < d + 9 + m
  · rw [sL_k (by omega), sL_k (by omega)]
  · rw [sL_out (by omega), sL_out (by omega)]
theorem s_l2 : ∀ (k m n : Nat), m + k = 4 → k < n → f_S_init_b50 n (sL W d 6 m) (d + 9 + m) (4 - m) (32 - 8 * m) d (Int32.ofNat m) = some ((), sL W d 6 4, d + 13) := by
  intro k
  induction k with
  | zero =>
    intro m n hm hn
    obtain ⟨n, rfl⟩ : ∃ q, n = q + 1 := ⟨n - 1, by omega⟩
    obtain rfl : m = 4 := by omega
    unfold f_S_init_b50
    rw [xfix_s]
    unfold f_S_init_s50
    rw [if_pos (by decide)]
  | succ k ih =>
    intro m n hm hn
    obtain ⟨n, rfl⟩ : ∃ q, n = q + 1 := ⟨n - 1, by omega⟩
    have e1 : (Int32.ofNat m).toNatClampNeg = m := i32_nat m (by omega)
    have := ih (m + 1) n (by omega) (by omega)
    unfold f_S_init_b50 at this ⊢
    rw [← sL_u2, ← st_add] at this
    rw [xfix_s]
    unfold f_S_init_s50 f_K_init
    rw [if_neg (show ¬ (4 : Int32) ≤ Int32.ofNat m from fun z => absurd ((i32_le 4 (by omega) m (by omega)).mp z) (by omega))]
    have h1 : xfR (sL W d 6 m) d 6 1 = some (d + 2) := xfR_of sL_d rfl
    have h2 : xn (sL W d 6 m) (d + 9 + m) (4 - m) (32 - 8 * m) 2 = some (va_up (sL W d 6 m) (d + 9 + m) (some (.inr (2, xdf 2))), d + 9 + (m + 1), 4 - (m + 1), 32 - 8 * (m + 1)) := xn_of (n := 8) rfl (by omega) (by omega) (by omega) (by omega)
    have h3 : xsR (va_up (sL W d 6 m) (d + 9 + m) (some (.inr (2, xdf 2)))) (d + 2) (Int32.ofNat m) (d + 9 + m) = some (va_up (va_up (sL W d 6 m) (d + 9 + m) (some (.inr (2, xdf 2)))) (d + 2) (some (rA 3 4 (fA (d + 9) (m + 1))))) :=
      (xsR_of (f := fA (d + 9) m) (n := 4) (t := 3) (ci := 2) (fs := xdf 2) (by rw [va_up_ne _ _ (by omega), sL_2]) (va_up_self _ _ _) rfl (by rw [e1]; exact fun z => z.elim (i32_nneg m (by omega)) (fun z => by omega))).trans (by rw [e1, fA_up])
    simp only [h1, h2, h3, Option.bind_some]
    exact this
theorem s_l1 : ∀ (k r n : Nat), r + k = 6 → k < n → f_S_init_b23 n (sL W d r 0) (d + 3 + r) (10 - r) (80 - 8 * r) d (Int32.ofNat r) = some ((), sL W d 6 4, d + 13) := by
  intro k
  induction k with
  | zero =>
    intro r n hr hn
    obtain ⟨n, rfl⟩ : ∃ q, n = q + 1 := ⟨n - 1, by omega⟩
    obtain rfl : r = 6 := by omega
    unfold f_S_init_b23
    rw [xfix_s]
    unfold f_S_init_s23
    rw [if_pos (by decide)]
    exact s_l2 4 0 4000 rfl (by decide)
  | succ k ih =>
    intro r n hr hn
    obtain ⟨n, rfl⟩ : ∃ q, n = q + 1 := ⟨n - 1, by omega⟩
    have e1 : (Int32.ofNat r).toNatClampNeg = r := i32_nat r (by omega)
    have := ih (r + 1) n (by omega) (by omega)
    unfold f_S_init_b23 at this ⊢
    rw [← sL_u1, ← st_add] at this
    rw [xfix_s]
    unfold f_S_init_s23 f_K_init
    rw [if_neg (show ¬ (6 : Int32) ≤ Int32.ofNat r from fun z => absurd ((i32_le 6 (by omega) r (by omega)).mp z) (by omega))]
    have h1 : xfR (sL W d r 0) d 6 0 = some (d + 1) := xfR_of sL_d rfl
    have h2 : xn (sL W d r 0) (d + 3 + r) (10 - r) (80 - 8 * r) 2 = some (va_up (sL W d r 0) (d + 3 + r) (some (.inr (2, xdf 2))), d + 3 + (r + 1), 10 - (r + 1), 80 - 8 * (r + 1)) := xn_of (n := 8) rfl (by omega) (by omega) (by omega) (by omega)
    have h3 : xsR (va_up (sL W d r 0) (d + 3 + r) (some (.inr (2, xdf 2)))) (d + 1) (Int32.ofNat r) (d + 3 + r) = some (va_up (va_up (sL W d r 0) (d + 3 + r) (some (.inr (2, xdf 2)))) (d + 1) (some (rA 3 6 (fA (d + 3) (r + 1))))) :=
      (xsR_of (f := fA (d + 3) r) (n := 6) (t := 3) (ci := 2) (fs := xdf 2) (by rw [va_up_ne _ _ (by omega), sL_1]) (va_up_self _ _ _) rfl (by rw [e1]; exact fun z => z.elim (i32_nneg r (by omega)) (fun z => by omega))).trans (by rw [e1, fA_up])
    simp only [h1, h2, h3, Option.bind_some]
    exact this
theorem s_init : f_S_init (va_up W d (some (.inr (6, xdf 6)))) (d + 1) 12 90 d = some ((), sL W d 6 4, d + 13) := by
  unfold f_S_init
  have h1 := xnaR_of (w := va_up W d (some (.inr (6, xdf 6)))) (sz := d + 1) (sz' := d + 2) (bc := 12) (bc' := 11) (bs := 90) (bs' := 84) (n := 6) (t := 3) (k := 6) (by decide) (by decide) rfl rfl rfl
  have h2 := xpR_of (w := va_up (va_up W d (some (.inr (6, xdf 6)))) (d + 1) (some (rA 3 6 (fun _ => none)))) (a := d) (ci := 6) (k := 0) (x := d + 1) (fs := [.null, .null]) (fs' := [.ref (d + 1), .null]) (by rw [va_up_ne _ _ (by omega), va_up_self]; rfl) (Nat.le_of_ble_eq_true rfl) rfl
  have h3 := xnaR_of (w := va_up (va_up (va_up W d (some (.inr (6, xdf 6)))) (d + 1) (some (rA 3 6 (fun _ => none)))) d (some (.inr (6, [.ref (d + 1), .null])))) (sz := d + 2) (sz' := d + 3) (bc := 11) (bc' := 10) (bs := 84) (bs' := 80) (n := 4) (t := 3) (k := 4) (by decide) (by decide) rfl rfl rfl
  have h4 := xpR_of (w := va_up (va_up (va_up (va_up W d (some (.inr (6, xdf 6)))) (d + 1) (some (rA 3 6 (fun _ => none)))) d (some (.inr (6, [.ref (d + 1), .null])))) (d + 2) (some (rA 3 4 (fun _ => none)))) (a := d) (ci := 6) (k := 1) (x := d + 2) (fs := [.ref (d + 1), .null]) (fs' := [.ref (d + 1), .ref (d + 2)]) (by rw [va_up_ne _ _ (by omega), va_up_self]) (Nat.le_of_ble_eq_true rfl) rfl
  simp only [h1, h2, h3, h4, Option.bind_some]
  have e : va_up (va_up (va_up (va_up (va_up W d (some (.inr (6, xdf 6)))) (d + 1) (some (rA 3 6 (fun _ => none)))) d (some (.inr (6, [.ref (d + 1), .null])))) (d + 2) (some (rA 3 4 (fun _ => none)))) d (some (.inr (6, [.ref (d + 1), .ref (d + 2)]))) = sL W d 0 0 := by
    funext a
    by_cases e1 : a = d
    · rw [e1, va_up_self, sL_d]
    rw [va_up_ne _ _ e1]
    by_cases e2 : a = d + 2
    · rw [e2, va_up_self, sL_2, fA_0]
    rw [va_up_ne _ _ e2, va_up_ne _ _ e1]
    by_cases e3 : a = d + 1
    · rw [e3, va_up_self, sL_1, fA_0]
    rw [va_up_ne _ _ e3, va_up_ne _ _ e1, sL_out (by omega)]
  rw [e]
  exact s_l1 6 0 4000 rfl (by decide)
theorem sL_comm {x : Option xe} {c : Nat} (h : c < d ∨ d + 3 + r + m ≤ c) : sL (va_up W c x) d r m = va_up (sL W d r m) c x := by
  funext a
  by_cases e0 : a = c
  · rw [e0, va_up_self, sL_out h, va_up_self]
  rw [va_up_ne _ _ e0]
  by_cases e1 : a = d
  · rw [e1, sL_d, sL_d]
  by_cases e2 : a = d + 1
  · rw [e2, sL_1, sL_1]
  by_cases e3 : a = d + 2
  · rw [e3, sL_2, sL_2]
  by_cases e4 : d + 3 ≤ a ∧ a < d + 3 + r + m
  · rw [sL_k e4, sL_k e4]
  · rw [sL_out (by omega), sL_out (by omega), va_up_ne _ _ e0]
end SL
/-- a program that is being made at q -/
def qL (W : xw) (q r : Nat) : xw := fun a =>
  if a = q then some (.inr (5, [.ref (q + 1), .int 0]))
  else if a = q + 1 then some (rA 5 24 (fA (q + 2) r))
  else if q + 2 ≤ a ∧ a < q + 2 + r then some (.inr (1, iv i0))
  else W a
section QL
variable {W : xw} {q r a : Nat}
theorem qL_q : qL W q r q = some (.inr (5, [.ref (q + 1), .int 0])) := by unfold qL; rw [if_pos rfl]
theorem qL_1 : qL W q r (q + 1) = some (rA 5 24 (fA (q + 2) r)) := by unfold qL; rw [if_neg (by omega), if_pos rfl]
theorem qL_i (h : q + 2 ≤ a ∧ a < q + 2 + r) : qL W q r a = some (.inr (1, iv i0)) := by unfold qL; rw [if_neg (by omega), if_neg (by omega), if_pos h]
theorem qL_out (h : a < q ∨ q + 2 + r ≤ a) : qL W q r a = W a := by unfold qL; rw [if_neg (by omega), if_neg (by omega), if_neg (by omega)]
theorem qL_u : va_up (va_up (qL W q r) (q + 2 + r) (some (.inr (1, xdf 1)))) (q + 1) (some (rA 5 24 (fA (q + 2) (r + 1)))) = qL W q (r + 1) := by
  funext a
  by_cases e1 : a = q + 1
  · rw [e1, va_up_self, qL_1]
  rw [va_up_ne _ _ e1]
  by_cases e2 : a = q + 2 + r
  · rw [e2, va_up_self, qL_i (by omega)]; rfl
  rw [va_up_ne _ _ e2]
  by_cases e3 : a = q
  · rw [e3, qL_q, qL_q]
  by_cases e5 : q + 2 ≤ a ∧ a < q + 2 + r
  · rw [qL_i (by omega), qL_i (by omega)]
  · rw [qL_out (by omega), qL_out (by omega)]
theorem q_l : ∀ (k r n : Nat), r + k = 24 → k < n → f_Q_init_b15 n (qL W q r) (q + 2 + r) (24 - r) (120 - 5 * r) q (Int32.ofNat r) = some ((), qL W q 24, q + 26) := by
  intro k
  induction k with
  | zero =>
    intro r n hr hn
    obtain ⟨n, rfl⟩ : ∃ z, n = z + 1 := ⟨n - 1, by omega⟩
    obtain rfl : r = 24 := by omega
    unfold f_Q_init_b15
    rw [xfix_s]
    unfold f_Q_init_s15
    rw [if_pos (by decide)]
  | succ k ih =>
    intro r n hr hn
    obtain ⟨n, rfl⟩ : ∃ z, n = z + 1 := ⟨n - 1, by omega⟩
    have e1 : (Int32.ofNat r).toNatClampNeg = r := i32_nat r (by omega)
    have := ih (r + 1) n (by omega) (by omega)
    unfold f_Q_init_b15 at this ⊢
    rw [← qL_u, ← st_add] at this
    rw [xfix_s]
    unfold f_Q_init_s15 f_I_init
    rw [if_neg (show ¬ (24 : Int32) ≤ Int32.ofNat r from fun z => absurd ((i32_le 24 (by omega) r (by omega)).mp z) (by omega))]
    have h1 : xfR (qL W q r) q 5 0 = some (q + 1) := xfR_of qL_q rfl
    have h2 : xn (qL W q r) (q + 2 + r) (24 - r) (120 - 5 * r) 1 = some (va_up (qL W q r) (q + 2 + r) (some (.inr (1, xdf 1))), q + 2 + (r + 1), 24 - (r + 1), 120 - 5 * (r + 1)) := xn_of (n := 5) rfl (by omega) (by omega) (by omega) (by omega)
    have h3 : xsR (va_up (qL W q r) (q + 2 + r) (some (.inr (1, xdf 1)))) (q + 1) (Int32.ofNat r) (q + 2 + r) = some (va_up (va_up (qL W q r) (q + 2 + r) (some (.inr (1, xdf 1)))) (q + 1) (some (rA 5 24 (fA (q + 2) (r + 1))))) :=
      (xsR_of (f := fA (q + 2) r) (n := 24) (t := 5) (ci := 1) (fs := xdf 1) (by rw [va_up_ne _ _ (by omega), qL_1]) (va_up_self _ _ _) rfl (by rw [e1]; exact fun z => z.elim (i32_nneg r (by omega)) (fun z => by omega))).trans (by rw [e1, fA_up])
    simp only [h1, h2, h3, Option.bind_some]
    exact this
theorem q_init : f_Q_init (va_up W q (some (.inr (5, xdf 5)))) (q + 1) 25 144 q = some ((), qL W q 24, q + 26) := by
  unfold f_Q_init
  have h1 := xnaR_of (w := va_up W q (some (.inr (5, xdf 5)))) (sz := q + 1) (sz' := q + 2) (bc := 25) (bc' := 24) (bs := 144) (bs' := 120) (n := 24) (t := 5) (k := 24) (by decide) (by decide) rfl rfl rfl
  have h2 := xpR_of (w := va_up (va_up W q (some (.inr (5, xdf 5)))) (q + 1) (some (rA 5 24 (fun _ => none)))) (a := q) (ci := 5) (k := 0) (x := q + 1) (fs := [.null, .int 0]) (fs' := [.ref (q + 1), .int 0]) (by rw [va_up_ne _ _ (by omega), va_up_self]; rfl) (Nat.le_of_ble_eq_true rfl) rfl
  simp only [h1, h2, Option.bind_some]
  have e : va_up (va_up (va_up W q (some (.inr (5, xdf 5)))) (q + 1) (some (rA 5 24 (fun _ => none)))) q (some (.inr (5, [.ref (q + 1), .int 0]))) = qL W q 0 := by
    funext a
    by_cases e1 : a = q
    · rw [e1, va_up_self, qL_q]
    rw [va_up_ne _ _ e1]
    by_cases e2 : a = q + 1
    · rw [e2, va_up_self, qL_1, fA_0]
    rw [va_up_ne _ _ e2, va_up_ne _ _ e1, qL_out (by omega)]
  rw [e]
  exact q_l 24 0 4000 rfl (by decide)
end QL
