/-! The walker's constructor, the gate's constructor. -/
def fW (p r : Nat) : Nat → Option Nat := fun i => if i < r then some (p + 13 * i) else none
theorem fW_up {p r : Nat} : va_up (fW p r) r (some (p + 13 * r)) = fW p (r + 1) := by
  funext i
  by_cases e : i = r
  · rw [e, va_up_self]
    unfold fW
    rw [if_pos (by omega)]
  · rw [va_up_ne _ _ e]
    unfold fW
    by_cases q : i < r
    · rw [if_pos q, if_pos (by omega)]
    · rw [if_neg q, if_neg (by omega)]
theorem fW_0 {p : Nat} : (fun _ => none) = fW p 0 := by
  funext i
  unfold fW
  rw [if_neg (by omega)]
theorem sL_in {W W' : xw} {d a : Nat} (h : d ≤ a ∧ a < d + 13) : sL W d 6 4 a = sL W' d 6 4 a := by
  by_cases e1 : a = d
  · rw [e1, sL_d, sL_d]
  by_cases e2 : a = d + 1
  · rw [e2, sL_1, sL_1]
  by_cases e3 : a = d + 2
  · rw [e3, sL_2, sL_2]
  · rw [sL_k (by omega), sL_k (by omega)]
def wL (W : xw) (e p r : Nat) : xw := fun a =>
  if a = e then some (rA 4 24 (fW p r))
  else if p ≤ a ∧ a < p + 13 * r then sL W (p + 13 * ((a - p) / 13)) 6 4 a
  else W a
section WL
variable {W : xw} {d e p r a : Nat}
theorem wL_e : wL W e p r e = some (rA 4 24 (fW p r)) := by unfold wL; rw [if_pos rfl]
theorem wL_in (h : p ≤ a ∧ a < p + 13 * r) (he : e < p) : wL W e p r a = sL W (p + 13 * ((a - p) / 13)) 6 4 a := by unfold wL; rw [if_neg (by omega), if_pos h]
theorem wL_out (h : a < p ∨ p + 13 * r ≤ a) (he : a ≠ e) : wL W e p r a = W a := by unfold wL; rw [if_neg he, if_neg (by omega)]
theorem wL_u (he : e < p) : va_up (sL (wL W e p r) (p + 13 * r) 6 4) e (some (rA 4 24 (fW p (r + 1)))) = wL W e p (r + 1) := by
  funext a
  by_cases e1 : a = e
  · rw [e1, va_up_self, wL_e]
  rw [va_up_ne _ _ e1]
  by_cases e2 : p + 13 * r ≤ a ∧ a < p + 13 * r + 13
  · rw [wL_in (by omega) he, show p + 13 * ((a - p) / 13) = p + 13 * r by omega]
    exact sL_in e2
  · rw [sL_out (by omega)]
    by_cases e3 : p ≤ a ∧ a < p + 13 * r
    · rw [wL_in e3 he, wL_in (by omega) he]
    · rw [wL_out (by omega) e1, wL_out (by omega) e1]
theorem w_l (hde : d < e) (he : e < p) {fs : List Value} (hW : W d = some (.inr (7, fs))) (hf : fs[2]? = some (.ref e)) : ∀ (k r n : Nat), r + k = 24 → k < n → f_W_init_b83 n (wL W e p r) (p + 13 * r) (312 - 13 * r) (2208 - 92 * r) d (Int32.ofNat r) = some ((), wL W e p 24, p + 312) := by
  intro k
  induction k with
  | zero =>
    intro r n hr hn
    obtain ⟨n, rfl⟩ : ∃ z, n = z + 1 := ⟨n - 1, by omega⟩
    obtain rfl : r = 24 := by omega
    unfold f_W_init_b83
    rw [xfix_s]
    unfold f_W_init_s83
    rw [if_pos (by decide)]
  | succ k ih =>
    intro r n hr hn
    obtain ⟨n, rfl⟩ : ∃ z, n = z + 1 := ⟨n - 1, by omega⟩
    have e1 : (Int32.ofNat r).toNatClampNeg = r := i32_nat r (by omega)
    have := ih (r + 1) n (by omega) (by omega)
    unfold f_W_init_b83 at this ⊢
    rw [← wL_u he, ← st_add] at this
    rw [xfix_s]
    unfold f_W_init_s83
    rw [if_neg (show ¬ (24 : Int32) ≤ Int32.ofNat r from fun z => absurd ((i32_le 24 (by omega) r (by omega)).mp z) (by omega))]
    have h1 : xfR (wL W e p r) d 7 2 = some e := xfR_of ((wL_out (by omega) (by omega)).trans hW) hf
    have h2 : xn (wL W e p r) (p + 13 * r) (312 - 13 * r) (2208 - 92 * r) 6 = some (va_up (wL W e p r) (p + 13 * r) (some (.inr (6, xdf 6))), p + 13 * r + 1, 312 - 13 * r - 1, 2208 - 92 * r - 2) := xn_of (n := 2) rfl (by omega) (by omega) (by omega) (by omega)
    have h3 : xbud (312 - 13 * r - 1) (2208 - 92 * r - 2) 12 90 = some (312 - 13 * (r + 1), 2208 - 92 * (r + 1)) := xbud_of (by omega) (by omega) (by omega)
    have h4 : f_S_init (va_up (wL W e p r) (p + 13 * r) (some (.inr (6, xdf 6)))) (p + 13 * r + 1) 12 90 (p + 13 * r) = some ((), sL (wL W e p r) (p + 13 * r) 6 4, p + 13 * (r + 1)) := by
      rw [s_init, show p + 13 * r + 13 = p + 13 * (r + 1) by omega]
    have h5 : xsR (sL (wL W e p r) (p + 13 * r) 6 4) e (Int32.ofNat r) (p + 13 * r) = some (va_up (sL (wL W e p r) (p + 13 * r) 6 4) e (some (rA 4 24 (fW p (r + 1))))) :=
      (xsR_of (f := fW p r) (n := 24) (t := 4) (ci := 6) (fs := [.ref (p + 13 * r + 1), .ref (p + 13 * r + 2)]) (by rw [sL_out (by omega), wL_e]) sL_d rfl (by rw [e1]; exact fun z => z.elim (i32_nneg r (by omega)) (fun z => by omega))).trans (by rw [e1, fW_up])
    simp only [h1, h2, h3, h4, h5, Option.bind_some]
    exact this
end WL
theorem xpR_n {A : xw} {d ci k x : Nat} {fs fs' : List Value} (hk : k < fs.length) (hf : fs' = fs.set k (.ref x)) : xpR (va_up A d (some (.inr (ci, fs)))) d ci k x = some (va_up A d (some (.inr (ci, fs')))) := by
  rw [xpR_of (va_up_self _ _ _) hk hf, va_up_up]
theorem rc_R {A : xw} {b sz sz' bc bc' bs bs' n j ci t : Nat} {fs fs' : List Value} {k : Int32} (hk : k.toNatClampNeg = n ∧ ¬ k < 0 ∧ n ≤ 1000) (h1 : 1 ≤ bc ∧ n ≤ bs) (e1 : sz' = sz + 1) (e2 : bc' = bc - 1) (e3 : bs' = bs - n) (hj : j < fs.length) (hf : fs' = fs.set j (.ref sz)) (hs : sz ≠ b) : xnaR (va_up A b (some (.inr (ci, fs)))) sz bc bs t k = some (va_up (va_up A b (some (.inr (ci, fs)))) sz (some (rA t n (fun _ => none))), sz', bc', bs') ∧ xpR (va_up (va_up A b (some (.inr (ci, fs)))) sz (some (rA t n (fun _ => none)))) b ci j sz = some (va_up (va_up A sz (some (rA t n (fun _ => none)))) b (some (.inr (ci, fs')))) := by
  refine ⟨xnaR_of hk h1 e1 e2 e3, ?_⟩
  rw [xpR_of (fs := fs) (by rw [va_up_ne _ _ (Ne.symm hs), va_up_self]) hj hf, va_swap hs]
theorem rc_N {A : xw} {b sz sz' bc bc' bs bs' n j ci cn : Nat} {fs fs' : List Value} (hl : (xdf cn).length = n) (h1 : 1 ≤ bc ∧ n ≤ bs) (e1 : sz' = sz + 1) (e2 : bc' = bc - 1) (e3 : bs' = bs - n) (hj : j < fs.length) (hf : fs' = fs.set j (.ref sz)) (hs : sz ≠ b) : xn (va_up A b (some (.inr (ci, fs)))) sz bc bs cn = some (va_up (va_up A b (some (.inr (ci, fs)))) sz (some (.inr (cn, xdf cn))), sz', bc', bs') ∧ xpR (va_up (va_up A b (some (.inr (ci, fs)))) sz (some (.inr (cn, xdf cn)))) b ci j sz = some (va_up (va_up A sz (some (.inr (cn, xdf cn)))) b (some (.inr (ci, fs')))) := by
  refine ⟨xn_of hl h1 e1 e2 e3, ?_⟩
  rw [xpR_of (fs := fs) (by rw [va_up_ne _ _ (Ne.symm hs), va_up_self]) hj hf, va_swap hs]
/-- what lies behind the walker at d, ahead of the waiting states -/
def wA (W : xw) (d : Nat) : xw := sL (va_up (va_up (va_up (va_up (va_up (sL W (d + 1) 6 4) (d + 14) (some (rA 4 24 (fun _ => none)))) (d + 15) (some (.inl (2, 24, .inl (fun _ => 0))))) (d + 16) (some (.inr (2, xdf 2)))) (d + 17) (some (.inr (2, xdf 2)))) (d + 18) (some (.inr (2, xdf 2)))) (d + 19) 6 4
def wI (W : xw) (d l1 : Nat) : xw := wL (va_up (wA W d) d (some (.inr (7, [.ref l1, .ref (d + 1), .ref (d + 14), .ref (d + 15), .ref (d + 16), .ref (d + 17), .ref (d + 18), .ref (d + 19), .int 0, .int 0])))) (d + 14) (d + 32) 24
theorem w_init {W : xw} {d l1 : Nat} : f_W_init (va_up W d (some (.inr (7, xdf 7)))) (d + 1) 343 2464 d l1 = some ((), wI W d l1, d + 344) := by
  have e0 : xdf 7 = [.null, .null, .null, .null, .null, .null, .null, .null, .int 0, .int 0] := rfl
  rw [e0]
  have h1 := xn_of (w := va_up W d (some (.inr (7, [.null, .null, .null, .null, .null, .null, .null, .null, .int 0, .int 0])))) (sz := d + 1) (sz' := d + 2) (bc := 343) (bc' := 342) (bs := 2464) (bs' := 2462) (ci := 6) (n := 2) rfl (by decide) rfl rfl rfl
  have h2 : xbud 342 2462 12 90 = some (330, 2372) := xbud_of (by decide) rfl rfl
  have h3 : f_S_init (va_up (va_up W d (some (.inr (7, [.null, .null, .null, .null, .null, .null, .null, .null, .int 0, .int 0])))) (d + 1) (some (.inr (6, xdf 6)))) (d + 2) 12 90 (d + 1) = some ((), va_up (sL W (d + 1) 6 4) d (some (.inr (7, [.null, .null, .null, .null, .null, .null, .null, .null, .int 0, .int 0]))), d + 14) := by
    rw [← sL_comm (by omega)]
    exact s_init
  have h4 := xpR_n (A := sL W (d + 1) 6 4) (d := d) (ci := 7) (k := 1) (x := d + 1) (fs := [.null, .null, .null, .null, .null, .null, .null, .null, .int 0, .int 0]) (fs' := [.null, .ref (d + 1), .null, .null, .null, .null, .null, .null, .int 0, .int 0]) (Nat.le_of_ble_eq_true rfl) rfl
  generalize hA1 : sL W (d + 1) 6 4 = A1 at h3 h4
  obtain ⟨h5, h6⟩ := rc_R (A := A1) (b := d) (sz := d + 14) (sz' := d + 15) (bc := 330) (bc' := 329) (bs := 2372) (bs' := 2348) (n := 24) (j := 2) (ci := 7) (t := 4) (fs := [.null, .ref (d + 1), .null, .null, .null, .null, .null, .null, .int 0, .int 0]) (fs' := [.null, .ref (d + 1), .ref (d + 14), .null, .null, .null, .null, .null, .int 0, .int 0]) (k := 24) (by decide) (by decide) rfl rfl rfl (Nat.le_of_ble_eq_true rfl) rfl (by omega)
  generalize hA2 : va_up A1 (d + 14) (some (rA 4 24 (fun _ => none))) = A2 at h5 h6
  obtain ⟨h7, h8⟩ := rc_Z (A := A2) (b := d) (sz := d + 15) (sz' := d + 16) (bc := 329) (bc' := 328) (bs := 2348) (bs' := 2324) (n := 24) (j := 3) (ci := 7) (fs := [.null, .ref (d + 1), .ref (d + 14), .null, .null, .null, .null, .null, .int 0, .int 0]) (fs' := [.null, .ref (d + 1), .ref (d + 14), .ref (d + 15), .null, .null, .null, .null, .int 0, .int 0]) (k := 24) (by decide) (by decide) rfl rfl rfl (Nat.le_of_ble_eq_true rfl) rfl (by omega)
  generalize hA3 : va_up A2 (d + 15) (some (.inl (2, 24, .inl (fun _ => 0)))) = A3 at h7 h8
  obtain ⟨h9, h10⟩ := rc_N (A := A3) (b := d) (sz := d + 16) (sz' := d + 17) (bc := 328) (bc' := 327) (bs := 2324) (bs' := 2316) (n := 8) (j := 4) (ci := 7) (cn := 2) (fs := [.null, .ref (d + 1), .ref (d + 14), .ref (d + 15), .null, .null, .null, .null, .int 0, .int 0]) (fs' := [.null, .ref (d + 1), .ref (d + 14), .ref (d + 15), .ref (d + 16), .null, .null, .null, .int 0, .int 0]) rfl (by decide) rfl rfl rfl (Nat.le_of_ble_eq_true rfl) rfl (by omega)
  generalize hA4 : va_up A3 (d + 16) (some (.inr (2, xdf 2))) = A4 at h9 h10
  obtain ⟨h11, h12⟩ := rc_N (A := A4) (b := d) (sz := d + 17) (sz' := d + 18) (bc := 327) (bc' := 326) (bs := 2316) (bs' := 2308) (n := 8) (j := 5) (ci := 7) (cn := 2) (fs := [.null, .ref (d + 1), .ref (d + 14), .ref (d + 15), .ref (d + 16), .null, .null, .null, .int 0, .int 0]) (fs' := [.null, .ref (d + 1), .ref (d + 14), .ref (d + 15), .ref (d + 16), .ref (d + 17), .null, .null, .int 0, .int 0]) rfl (by decide) rfl rfl rfl (Nat.le_of_ble_eq_true rfl) rfl (by omega)
  generalize hA5 : va_up A4 (d + 17) (some (.inr (2, xdf 2))) = A5 at h11 h12
  obtain ⟨h13, h14⟩ := rc_N (A := A5) (b := d) (sz := d + 18) (sz' := d + 19) (bc := 326) (bc' := 325) (bs := 2308) (bs' := 2300) (n := 8) (j := 6) (ci := 7) (cn := 2) (fs := [.null, .ref (d + 1), .ref (d + 14), .ref (d + 15), .ref (d + 16), .ref (d + 17), .null, .null, .int 0, .int 0]) (fs' := [.null, .ref (d + 1), .ref (d + 14), .ref (d + 15), .ref (d + 16), .ref (d + 17), .ref (d + 18), .null, .int 0, .int 0]) rfl (by decide) rfl rfl rfl (Nat.le_of_ble_eq_true rfl) rfl (by omega)
  generalize hA6 : va_up A5 (d + 18) (some (.inr (2, xdf 2))) = A6 at h13 h14
  have h15 := xn_of (w := va_up A6 d (some (.inr (7, [.null, .ref (d + 1), .ref (d + 14), .ref (d + 15), .ref (d + 16), .ref (d + 17), .ref (d + 18), .null, .int 0, .int 0])))) (sz := d + 19) (sz' := d + 20) (bc := 325) (bc' := 324) (bs := 2300) (bs' := 2298) (ci := 6) (n := 2) rfl (by decide) rfl rfl rfl
  have h16 : xbud 324 2298 12 90 = some (312, 2208) := xbud_of (by decide) rfl rfl
  have h17 : f_S_init (va_up (va_up A6 d (some (.inr (7, [.null, .ref (d + 1), .ref (d + 14), .ref (d + 15), .ref (d + 16), .ref (d + 17), .ref (d + 18), .null, .int 0, .int 0])))) (d + 19) (some (.inr (6, xdf 6)))) (d + 20) 12 90 (d + 19) = some ((), va_up (sL A6 (d + 19) 6 4) d (some (.inr (7, [.null, .ref (d + 1), .ref (d + 14), .ref (d + 15), .ref (d + 16), .ref (d + 17), .ref (d + 18), .null, .int 0, .int 0]))), d + 32) := by
    rw [← sL_comm (by omega)]
    exact s_init
  have h18 := xpR_n (A := sL A6 (d + 19) 6 4) (d := d) (ci := 7) (k := 7) (x := d + 19) (fs := [.null, .ref (d + 1), .ref (d + 14), .ref (d + 15), .ref (d + 16), .ref (d + 17), .ref (d + 18), .null, .int 0, .int 0]) (fs' := [.null, .ref (d + 1), .ref (d + 14), .ref (d + 15), .ref (d + 16), .ref (d + 17), .ref (d + 18), .ref (d + 19), .int 0, .int 0]) (Nat.le_of_ble_eq_true rfl) rfl
  have h19 := xpR_n (A := sL A6 (d + 19) 6 4) (d := d) (ci := 7) (k := 0) (x := l1) (fs := [.null, .ref (d + 1), .ref (d + 14), .ref (d + 15), .ref (d + 16), .ref (d + 17), .ref (d + 18), .ref (d + 19), .int 0, .int 0]) (fs' := [.ref l1, .ref (d + 1), .ref (d + 14), .ref (d + 15), .ref (d + 16), .ref (d + 17), .ref (d + 18), .ref (d + 19), .int 0, .int 0]) (Nat.le_of_ble_eq_true rfl) rfl
  have hA : sL A6 (d + 19) 6 4 = wA W d := by
    unfold wA
    rw [hA1, hA2, hA3, hA4, hA5, hA6]
  rw [hA] at h17 h18 h19
  unfold f_W_init f_K_init
  simp only [h1, h2, h3, h4, h5, h6, h7, h8, h9, h10, h11, h12, h13, h14, h15, h16, h17, h18, h19, Option.bind_some]
  have hb : va_up (wA W d) d (some (.inr (7, [.ref l1, .ref (d + 1), .ref (d + 14), .ref (d + 15), .ref (d + 16), .ref (d + 17), .ref (d + 18), .ref (d + 19), .int 0, .int 0]))) = wL (va_up (wA W d) d (some (.inr (7, [.ref l1, .ref (d + 1), .ref (d + 14), .ref (d + 15), .ref (d + 16), .ref (d + 17), .ref (d + 18), .ref (d + 19), .int 0, .int 0])))) (d + 14) (d + 32) 0 := by
    funext a
    by_cases q : a = d + 14
    · rw [q, wL_e, va_up_ne _ _ (by omega)]
      unfold wA
      rw [sL_out (by omega), va_up_ne _ _ (by omega), va_up_ne _ _ (by omega), va_up_ne _ _ (by omega), va_up_ne _ _ (by omega), va_up_self, fW_0]
    · rw [wL_out (by omega) q]
  rw [hb]
  exact w_l (by omega) (by omega) (va_up_self _ _ _) rfl 24 0 4000 rfl (by decide)
theorem wI_out {W : xw} {d l1 a : Nat} (h : a < d ∨ d + 344 ≤ a) : wI W d l1 a = W a := by
  unfold wI
  rw [wL_out (by omega) (by omega), va_up_ne _ _ (by omega)]
  unfold wA
  rw [sL_out (by omega), va_up_ne _ _ (by omega), va_up_ne _ _ (by omega), va_up_ne _ _ (by omega), va_up_ne _ _ (by omega), va_up_ne _ _ (by omega), sL_out (by omega)]
abbrev z0 : Nat → Int32 := fun _ => 0
theorem g_init {w : xw} {g : Nat} : f_G_init (va_up w g (some (.inr (0, xdf 0)))) (g + 1) 375 2653 g = some ((), ew (cb w g 0 (fun _ => i0) 0 z0 z0 0 0 z0 z0 0) (cP g) (fun _ => k0), g + 376) := by
  have e0 : xdf 0 = [.null, .null, .null, .null] := rfl
  rw [e0]
  -- the program
  have h1 := xn_of (w := va_up w g (some (.inr (0, [.null, .null, .null, .null])))) (sz := g + 1) (sz' := g + 2) (bc := 375) (bc' := 374) (bs := 2653) (bs' := 2651) (ci := 5) (n := 2) rfl (by decide) rfl rfl rfl
  have h2 : xbud 374 2651 25 144 = some (349, 2507) := xbud_of (by decide) rfl rfl
  have h3 : f_Q_init (va_up (va_up w g (some (.inr (0, [.null, .null, .null, .null])))) (g + 1) (some (.inr (5, xdf 5)))) (g + 2) 25 144 (g + 1) = some ((), qL (va_up w g (some (.inr (0, [.null, .null, .null, .null])))) (g + 1) 24, g + 27) := q_init
  have h4 := xpR_of (w := qL (va_up w g (some (.inr (0, [.null, .null, .null, .null])))) (g + 1) 24) (a := g) (ci := 0) (k := 0) (x := g + 1) (fs := [.null, .null, .null, .null]) (fs' := [.ref (g + 1), .null, .null, .null]) (by rw [qL_out (by omega), va_up_self]) (Nat.le_of_ble_eq_true rfl) rfl
  generalize hB1 : va_up (qL (va_up w g (some (.inr (0, [.null, .null, .null, .null])))) (g + 1) 24) g (some (.inr (0, [.ref (g + 1), .null, .null, .null]))) = B1 at h4
  have g1 : B1 g = some (.inr (0, [.ref (g + 1), .null, .null, .null])) := by rw [← hB1, va_up_self]
  -- the packet
  have h5 := xn_of (w := B1) (sz := g + 27) (sz' := g + 28) (bc := 349) (bc' := 348) (bs := 2507) (bs' := 2505) (ci := 4) (n := 2) rfl (by decide) rfl rfl rfl
  have h6 : xbud 348 2505 1 16 = some (347, 2489) := xbud_of (by decide) rfl rfl
  have h7 : f_P_init (va_up B1 (g + 27) (some (.inr (4, xdf 4)))) (g + 28) 1 16 (g + 27) = some ((), va_up (va_up B1 (g + 28) (some (.inl (0, 16, .inl (fun _ => 0))))) (g + 27) (some (.inr (4, [.ref (g + 28), .int 0]))), g + 29) := by
    obtain ⟨q1, q2⟩ := rc_I (A := B1) (b := g + 27) (sz := g + 28) (sz' := g + 29) (bc := 1) (bc' := 0) (bs := 16) (bs' := 0) (n := 16) (j := 0) (ci := 4) (fs := [.null, .int 0]) (fs' := [.ref (g + 28), .int 0]) (k := 16) (by decide) (by decide) rfl rfl rfl (Nat.le_of_ble_eq_true rfl) rfl (by omega)
    unfold f_P_init
    rw [show xdf 4 = [.null, .int 0] from rfl]
    simp only [q1, q2, Option.bind_some]
  have h8 := xpR_of (w := va_up (va_up B1 (g + 28) (some (.inl (0, 16, .inl (fun _ => 0))))) (g + 27) (some (.inr (4, [.ref (g + 28), .int 0])))) (a := g) (ci := 0) (k := 1) (x := g + 27) (fs := [.ref (g + 1), .null, .null, .null]) (fs' := [.ref (g + 1), .ref (g + 27), .null, .null]) (by rw [va_up_ne _ _ (by omega), va_up_ne _ _ (by omega), g1]) (Nat.le_of_ble_eq_true rfl) rfl
  generalize hB2 : va_up (va_up (va_up B1 (g + 28) (some (.inl (0, 16, .inl (fun _ => 0))))) (g + 27) (some (.inr (4, [.ref (g + 28), .int 0])))) g (some (.inr (0, [.ref (g + 1), .ref (g + 27), .null, .null]))) = B2 at h8
  have g2 : B2 g = some (.inr (0, [.ref (g + 1), .ref (g + 27), .null, .null])) := by rw [← hB2, va_up_self]
  -- the walker
  have h9 := xn_of (w := B2) (sz := g + 29) (sz' := g + 30) (bc := 347) (bc' := 346) (bs := 2489) (bs' := 2479) (ci := 7) (n := 10) rfl (by decide) rfl rfl rfl
  have h10 : xfR (va_up B2 (g + 29) (some (.inr (7, xdf 7)))) g 0 0 = some (g + 1) := xfR_of (by rw [va_up_ne _ _ (by omega), g2]) rfl
  have h11 : xbud 346 2479 343 2464 = some (3, 15) := xbud_of (by decide) rfl rfl
  have h12 : f_W_init (va_up B2 (g + 29) (some (.inr (7, xdf 7)))) (g + 30) 343 2464 (g + 29) (g + 1) = some ((), wI B2 (g + 29) (g + 1), g + 373) := w_init
  have h13 := xpR_of (w := wI B2 (g + 29) (g + 1)) (a := g) (ci := 0) (k := 2) (x := g + 29) (fs := [.ref (g + 1), .ref (g + 27), .null, .null]) (fs' := [.ref (g + 1), .ref (g + 27), .ref (g + 29), .null]) (by rw [wI_out (by omega), g2]) (Nat.le_of_ble_eq_true rfl) rfl
  generalize hB3 : va_up (wI B2 (g + 29) (g + 1)) g (some (.inr (0, [.ref (g + 1), .ref (g + 27), .ref (g + 29), .null]))) = B3 at h13
  have g3 : B3 g = some (.inr (0, [.ref (g + 1), .ref (g + 27), .ref (g + 29), .null])) := by rw [← hB3, va_up_self]
  -- the machine
  have h14 := xn_of (w := B3) (sz := g + 373) (sz' := g + 374) (bc := 3) (bc' := 2) (bs := 15) (bs' := 10) (ci := 3) (n := 5) rfl (by decide) rfl rfl rfl
  have h15 : xfR (va_up B3 (g + 373) (some (.inr (3, xdf 3)))) g 0 0 = some (g + 1) := xfR_of (by rw [va_up_ne _ _ (by omega), g3]) rfl
  have h16 : xfR (va_up B3 (g + 373) (some (.inr (3, xdf 3)))) g 0 1 = some (g + 27) := xfR_of (by rw [va_up_ne _ _ (by omega), g3]) rfl
  have h17 : xbud 2 10 2 10 = some (0, 0) := xbud_of (by decide) rfl rfl
  have h18 : f_M_init (va_up B3 (g + 373) (some (.inr (3, xdf 3)))) (g + 374) 2 10 (g + 373) (g + 1) (g + 27) = some ((), va_up (va_up (va_up B3 (g + 374) (some (.inl (0, 6, .inl (fun _ => 0))))) (g + 375) (some (.inl (0, 4, .inl (fun _ => 0))))) (g + 373) (some (.inr (3, [.ref (g + 1), .ref (g + 27), .ref (g + 374), .ref (g + 375), .int 0]))), g + 376) := by
    rw [show xdf 3 = [.null, .null, .null, .null, .int 0] from rfl]
    obtain ⟨q1, q2⟩ := rc_I (A := B3) (b := g + 373) (sz := g + 374) (sz' := g + 375) (bc := 2) (bc' := 1) (bs := 10) (bs' := 4) (n := 6) (j := 2) (ci := 3) (fs := [.null, .null, .null, .null, .int 0]) (fs' := [.null, .null, .ref (g + 374), .null, .int 0]) (k := 6) (by decide) (by decide) rfl rfl rfl (Nat.le_of_ble_eq_true rfl) rfl (by omega)
    obtain ⟨q3, q4⟩ := rc_I (A := va_up B3 (g + 374) (some (.inl (0, 6, .inl (fun _ => 0))))) (b := g + 373) (sz := g + 375) (sz' := g + 376) (bc := 1) (bc' := 0) (bs := 4) (bs' := 0) (n := 4) (j := 3) (ci := 3) (fs := [.null, .null, .ref (g + 374), .null, .int 0]) (fs' := [.null, .null, .ref (g + 374), .ref (g + 375), .int 0]) (k := 4) (by decide) (by decide) rfl rfl rfl (Nat.le_of_ble_eq_true rfl) rfl (by omega)
    have q5 := xpR_n (A := va_up (va_up B3 (g + 374) (some (.inl (0, 6, .inl (fun _ => 0))))) (g + 375) (some (.inl (0, 4, .inl (fun _ => 0))))) (d := g + 373) (ci := 3) (k := 0) (x := g + 1) (fs := [.null, .null, .ref (g + 374), .ref (g + 375), .int 0]) (fs' := [.ref (g + 1), .null, .ref (g + 374), .ref (g + 375), .int 0]) (Nat.le_of_ble_eq_true rfl) rfl
    have q6 := xpR_n (A := va_up (va_up B3 (g + 374) (some (.inl (0, 6, .inl (fun _ => 0))))) (g + 375) (some (.inl (0, 4, .inl (fun _ => 0))))) (d := g + 373) (ci := 3) (k := 1) (x := g + 27) (fs := [.ref (g + 1), .null, .ref (g + 374), .ref (g + 375), .int 0]) (fs' := [.ref (g + 1), .ref (g + 27), .ref (g + 374), .ref (g + 375), .int 0]) (Nat.le_of_ble_eq_true rfl) rfl
    unfold f_M_init
    simp only [q1, q2, q3, q4, q5, q6, Option.bind_some]
  have h19 := xpR_of (w := va_up (va_up (va_up B3 (g + 374) (some (.inl (0, 6, .inl (fun _ => 0))))) (g + 375) (some (.inl (0, 4, .inl (fun _ => 0))))) (g + 373) (some (.inr (3, [.ref (g + 1), .ref (g + 27), .ref (g + 374), .ref (g + 375), .int 0])))) (a := g) (ci := 0) (k := 3) (x := g + 373) (fs := [.ref (g + 1), .ref (g + 27), .ref (g + 29), .null]) (fs' := [.ref (g + 1), .ref (g + 27), .ref (g + 29), .ref (g + 373)]) (by rw [va_up_ne _ _ (by omega), va_up_ne _ _ (by omega), va_up_ne _ _ (by omega), g3]) (Nat.le_of_ble_eq_true rfl) rfl
  unfold f_G_init
  simp only [h1, h2, h3, h4, h5, h6, h7, h8, h9, h10, h11, h12, h13, h14, h15, h16, h17, h18, h19, Option.bind_some]
  congr 3
  funext a
  by_cases a0 : a = g
  · rw [a0, va_up_self, cw_0]
  rw [va_up_ne _ _ a0]
  by_cases a373 : a = g + 373
  · rw [a373, va_up_self, cw_373]
  rw [va_up_ne _ _ a373]
  by_cases a375 : a = g + 375
  · rw [a375, va_up_self, cw_375]
  rw [va_up_ne _ _ a375]
  by_cases a374 : a = g + 374
  · rw [a374, va_up_self, cw_374]
  rw [va_up_ne _ _ a374, ← hB3, va_up_ne _ _ a0]
  by_cases aW : g + 29 ≤ a ∧ a < g + 373
  · unfold wI
    by_cases a43 : a = g + 43
    · rw [a43, wL_e, cw_43]; rfl
    by_cases aw : g + 61 ≤ a
    · rw [wL_in (by omega) (by omega)]
      obtain ⟨i, k, hi, hk, rfl⟩ : ∃ i k, i < 24 ∧ k < 13 ∧ a = g + 61 + 13 * i + k := ⟨(a - (g + 61)) / 13, (a - (g + 61)) % 13, by omega, by omega, by omega⟩
      rw [show g + 29 + 32 + 13 * ((g + 61 + 13 * i + k - (g + 29 + 32)) / 13) = g + 61 + 13 * i by omega]
      by_cases k0' : k = 0
      · rw [k0', show g + 61 + 13 * i + 0 = g + 61 + 13 * i from rfl, sL_d, cw_S0 hi]; rfl
      by_cases k1 : k = 1
      · rw [k1, sL_1, cw_S1 hi]; rfl
      by_cases k2 : k = 2
      · rw [k2, sL_2, cw_S2 hi]; rfl
      · rw [sL_k (by omega), ew_in (by unfold cP; exact decide_eq_true (by omega))]
    rw [wL_out (by omega) (by omega)]
    by_cases a29 : a = g + 29
    · rw [a29, va_up_self, cw_29]
    rw [va_up_ne _ _ a29]
    unfold wA
    by_cases a48 : g + 48 ≤ a
    · by_cases b0 : a = g + 48
      · rw [b0, sL_d, cw_48]; rfl
      by_cases b1 : a = g + 49
      · rw [b1, sL_1, cw_49]; rfl
      by_cases b2 : a = g + 50
      · rw [b2, sL_2, cw_50]; rfl
      · rw [sL_k (by omega), ew_in (by unfold cP; exact decide_eq_true (by omega))]
    rw [sL_out (by omega)]
    by_cases a47 : a = g + 47
    · rw [a47, va_up_self, ew_in (by unfold cP; exact decide_eq_true (by omega))]; rfl
    rw [va_up_ne _ _ a47]
    by_cases a46 : a = g + 46
    · rw [a46, va_up_self, ew_in (by unfold cP; exact decide_eq_true (by omega))]; rfl
    rw [va_up_ne _ _ a46]
    by_cases a45 : a = g + 45
    · rw [a45, va_up_self, ew_in (by unfold cP; exact decide_eq_true (by omega))]; rfl
    rw [va_up_ne _ _ a45]
    by_cases a44 : a = g + 44
    · rw [a44, va_up_self, cw_44]
    rw [va_up_ne _ _ a44, va_up_ne _ _ a43]
    by_cases b0 : a = g + 30
    · rw [b0, sL_d, cw_30]; rfl
    by_cases b1 : a = g + 31
    · rw [b1, sL_1, cw_31]; rfl
    by_cases b2 : a = g + 32
    · rw [b2, sL_2, cw_32]; rfl
    · rw [sL_k (by omega), ew_in (by unfold cP; exact decide_eq_true (by omega))]
  rw [wI_out (by omega), ← hB2, va_up_ne _ _ a0]
  by_cases a27 : a = g + 27
  · rw [a27, va_up_self, cw_27]
  rw [va_up_ne _ _ a27]
  by_cases a28 : a = g + 28
  · rw [a28, va_up_self, cw_28]
  rw [va_up_ne _ _ a28, ← hB1, va_up_ne _ _ a0]
  by_cases a1 : a = g + 1
  · rw [a1, qL_q, cw_1]
  by_cases a2 : a = g + 2
  · rw [a2, qL_1, cw_2]; rfl
  by_cases aI : g + 3 ≤ a ∧ a < g + 27
  · obtain ⟨i, hi, rfl⟩ : ∃ i, i < 24 ∧ a = g + 3 + i := ⟨a - (g + 3), by omega, by omega⟩
    rw [qL_i (by omega), cw_I hi]
  rw [qL_out (by omega), va_up_ne _ _ a0]
  by_cases aH : g + 376 ≤ a
  · rw [ecb_out aH]
  · rw [ew_out (by unfold cP; exact decide_eq_false (by omega))]
    unfold cb
    repeat rw [if_neg (by omega)]
