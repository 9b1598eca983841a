/-! The worlds that the constructors leave. -/
theorem xn_of {w : xw} {sz sz' bc bc' bs bs' ci n : Nat} (hl : (xdf ci).length = n) (h : 1 ≤ bc ∧ n ≤ bs) (e1 : sz' = sz + 1) (e2 : bc' = bc - 1) (e3 : bs' = bs - n) : xn w sz bc bs ci = some (va_up w sz (some (.inr (ci, xdf ci))), sz', bc', bs') := by
  unfold xn
  rw [hl, if_pos h, e1, e2, e3]
theorem xbud_of {bc bs c s bc' bs' : Nat} (h : c ≤ bc ∧ s ≤ bs) (e2 : bc' = bc - c) (e3 : bs' = bs - s) : xbud bc bs c s = some (bc', bs') := by
  unfold xbud
  rw [if_pos h, e2, e3]
theorem xsR_of {w : xw} {a v t n ci : Nat} {i : Int32} {f : Nat → Option Nat} {fs : List Value} (h1 : w a = some (.inl (t, n, .inr (.inr (.inr (.inr f)))))) (h2 : w v = some (.inr (ci, fs))) (h3 : xtc t = some ci) (h4 : ¬ (i < 0 ∨ n ≤ i.toNatClampNeg)) : xsR w a i v = some (va_up w a (some (.inl (t, n, .inr (.inr (.inr (.inr (va_up f i.toNatClampNeg (some v))))))))) := by
  unfold xsR
  rw [h1]
  dsimp only
  rw [h2]
  exact if_pos ⟨h3, h4⟩
theorem xfR_of {w : xw} {a ci k x : Nat} {fs : List Value} (h : w a = some (.inr (ci, fs))) (hk : fs[k]? = some (.ref x)) : xfR w a ci k = some x := by
  unfold xfR
  rw [h]
  dsimp only
  rw [if_pos rfl, hk]
theorem xpR_of {w : xw} {a ci k x : Nat} {fs fs' : List Value} (h : w a = some (.inr (ci, fs))) (hk : k < fs.length) (hf : fs' = fs.set k (.ref x)) : xpR w a ci k x = some (va_up w a (some (.inr (ci, fs')))) := by
  unfold xpR
  rw [xpV_of h hk, hf]
theorem va_swap {α : Type} {f : Nat → α} {a b : Nat} {x y z : α} (h : b ≠ a) : va_up (va_up (va_up f a x) b y) a z = va_up (va_up f b y) a z := by
  funext q
  by_cases e : q = a
  · rw [e, va_up_self, va_up_self]
  · rw [va_up_ne _ _ e, va_up_ne _ _ e]
    by_cases e2 : q = b
    · rw [e2, va_up_self, va_up_self]
    · rw [va_up_ne _ _ e2, va_up_ne _ _ e2, va_up_ne _ _ e]
theorem xnaI_of {w : xw} {sz sz' bc bc' bs bs' n : Nat} {k : Int32} (hk : k.toNatClampNeg = n ∧ ¬ k < 0 ∧ n ≤ 1000) (h1 : 1 ≤ bc ∧ n ≤ bs) (e1 : sz' = sz + 1) (e2 : bc' = bc - 1) (e3 : bs' = bs - n) : xnaI w sz bc bs k = some (va_up w sz (some (.inl (0, n, .inl (fun _ => 0)))), sz', bc', bs') := by
  unfold xnaI
  rw [hk.1, if_pos ⟨h1, hk.2⟩, e1, e2, e3]
theorem rc_I {A : xw} {b sz sz' bc bc' bs bs' n j ci : Nat} {fs fs' : List Value} {k : Int32} (hk : k.toNatClampNeg = n ∧ ¬ k < 0 ∧ n ≤ 1000) (h1 : 1 ≤ bc ∧ n ≤ bs) (e1 : sz' = sz + 1) (e2 : bc' = bc - 1) (e3 : bs' = bs - n) (hj : j < fs.length) (hf : fs' = fs.set j (.ref sz)) (hs : sz ≠ b) : xnaI (va_up A b (some (.inr (ci, fs)))) sz bc bs k = some (va_up (va_up A b (some (.inr (ci, fs)))) sz (some (.inl (0, n, .inl (fun _ => 0)))), sz', bc', bs') ∧ xpR (va_up (va_up A b (some (.inr (ci, fs)))) sz (some (.inl (0, n, .inl (fun _ => 0))))) b ci j sz = some (va_up (va_up A sz (some (.inl (0, n, .inl (fun _ => 0))))) b (some (.inr (ci, fs')))) := by
  refine ⟨xnaI_of hk h1 e1 e2 e3, ?_⟩
  rw [xpR_of (fs := fs) (by rw [va_up_ne _ _ (Ne.symm hs), va_up_self]) hj hf, va_swap hs]
theorem xnaZ_of {w : xw} {sz sz' bc bc' bs bs' n : Nat} {k : Int32} (hk : k.toNatClampNeg = n ∧ ¬ k < 0 ∧ n ≤ 1000) (h1 : 1 ≤ bc ∧ n ≤ bs) (e1 : sz' = sz + 1) (e2 : bc' = bc - 1) (e3 : bs' = bs - n) : xnaZ w sz bc bs k = some (va_up w sz (some (.inl (2, n, .inl (fun _ => 0)))), sz', bc', bs') := by
  unfold xnaZ
  rw [hk.1, if_pos ⟨h1, hk.2⟩, e1, e2, e3]
theorem rc_Z {A : xw} {b sz sz' bc bc' bs bs' n j ci : Nat} {fs fs' : List Value} {k : Int32} (hk : k.toNatClampNeg = n ∧ ¬ k < 0 ∧ n ≤ 1000) (h1 : 1 ≤ bc ∧ n ≤ bs) (e1 : sz' = sz + 1) (e2 : bc' = bc - 1) (e3 : bs' = bs - n) (hj : j < fs.length) (hf : fs' = fs.set j (.ref sz)) (hs : sz ≠ b) : xnaZ (va_up A b (some (.inr (ci, fs)))) sz bc bs k = some (va_up (va_up A b (some (.inr (ci, fs)))) sz (some (.inl (2, n, .inl (fun _ => 0)))), sz', bc', bs') ∧ xpR (va_up (va_up A b (some (.inr (ci, fs)))) sz (some (.inl (2, n, .inl (fun _ => 0))))) b ci j sz = some (va_up (va_up A sz (some (.inl (2, n, .inl (fun _ => 0))))) b (some (.inr (ci, fs')))) := by
  refine ⟨xnaZ_of hk h1 e1 e2 e3, ?_⟩
  rw [xpR_of (fs := fs) (by rw [va_up_ne _ _ (Ne.symm hs), va_up_self]) hj hf, va_swap hs]
theorem xnaL_of {w : xw} {sz sz' bc bc' bs bs' n : Nat} {k : Int32} (hk : k.toNatClampNeg = n ∧ ¬ k < 0 ∧ n ≤ 1000) (h1 : 1 ≤ bc ∧ n ≤ bs) (e1 : sz' = sz + 1) (e2 : bc' = bc - 1) (e3 : bs' = bs - n) : xnaL w sz bc bs k = some (va_up w sz (some (.inl (1, n, .inr (.inl (fun _ => 0))))), sz', bc', bs') := by
  unfold xnaL
  rw [hk.1, if_pos ⟨h1, hk.2⟩, e1, e2, e3]
theorem rc_L {A : xw} {b sz sz' bc bc' bs bs' n j ci : Nat} {fs fs' : List Value} {k : Int32} (hk : k.toNatClampNeg = n ∧ ¬ k < 0 ∧ n ≤ 1000) (h1 : 1 ≤ bc ∧ n ≤ bs) (e1 : sz' = sz + 1) (e2 : bc' = bc - 1) (e3 : bs' = bs - n) (hj : j < fs.length) (hf : fs' = fs.set j (.ref sz)) (hs : sz ≠ b) : xnaL (va_up A b (some (.inr (ci, fs)))) sz bc bs k = some (va_up (va_up A b (some (.inr (ci, fs)))) sz (some (.inl (1, n, .inr (.inl (fun _ => 0))))), sz', bc', bs') ∧ xpR (va_up (va_up A b (some (.inr (ci, fs)))) sz (some (.inl (1, n, .inr (.inl (fun _ => 0)))))) b ci j sz = some (va_up (va_up A sz (some (.inl (1, n, .inr (.inl (fun _ => 0)))))) b (some (.inr (ci, fs')))) := by
  refine ⟨xnaL_of hk h1 e1 e2 e3, ?_⟩
  rw [xpR_of (fs := fs) (by rw [va_up_ne _ _ (Ne.symm hs), va_up_self]) hj hf, va_swap hs]
theorem xnaR_of {w : xw} {sz sz' bc bc' bs bs' n t : Nat} {k : Int32} (hk : k.toNatClampNeg = n ∧ ¬ k < 0 ∧ n ≤ 1000) (h1 : 1 ≤ bc ∧ n ≤ bs) (e1 : sz' = sz + 1) (e2 : bc' = bc - 1) (e3 : bs' = bs - n) : xnaR w sz bc bs t k = some (va_up w sz (some (.inl (t, n, .inr (.inr (.inr (.inr (fun _ => none))))))), sz', bc', bs') := by
  unfold xnaR
  rw [hk.1, if_pos ⟨h1, hk.2⟩, e1, e2, e3]
theorem r_init {w : xw} {b : Nat} : f_R_init (va_up w b (some (.inr (8, xdf 8)))) (b + 1) 17 2251 b = some ((), rb w b 0 0 (fun _ => 0) (fun _ => 0) (fun _ => 0) (fun _ => 0) (fun _ => 0) 0 (fun _ => 0) (fun _ => (0, 0, 0, 0, 0, 0, 0, 0)) 0 0 0 0 (fun _ => 0) 0 (fun _ => 0) (fun _ => 0), b + 18) := by
  have e0 : xdf 8 = [.int 0, .int 0, .null, .null, .null, .null, .null, .int 0, .null, .null, .null, .null, .null, .null, .null, .null, .null, .int 0, .int 0, .int 0, .int 0, .null, .int 0, .null, .null] := rfl
  rw [e0]
  obtain ⟨h0, g0⟩ := rc_I (A := w) (b := b) (sz := b + 1) (sz' := b + 2) (bc := 17) (bc' := 16) (bs := 2251) (bs' := 2227) (n := 24) (j := 2) (ci := 8) (fs := [.int 0, .int 0, .null, .null, .null, .null, .null, .int 0, .null, .null, .null, .null, .null, .null, .null, .null, .null, .int 0, .int 0, .int 0, .int 0, .null, .int 0, .null, .null]) (fs' := [.int 0, .int 0, .ref (b + 1), .null, .null, .null, .null, .int 0, .null, .null, .null, .null, .null, .null, .null, .null, .null, .int 0, .int 0, .int 0, .int 0, .null, .int 0, .null, .null]) (k := 24) (by decide) (by decide) rfl rfl rfl (Nat.le_of_ble_eq_true rfl) rfl (by omega)
  generalize hA1 : va_up w (b + 1) (some (.inl (0, 24, .inl (fun _ => 0)))) = A1 at h0 g0
  obtain ⟨h1, g1⟩ := rc_I (A := A1) (b := b) (sz := b + 2) (sz' := b + 3) (bc := 16) (bc' := 15) (bs := 2227) (bs' := 2203) (n := 24) (j := 3) (ci := 8) (fs := [.int 0, .int 0, .ref (b + 1), .null, .null, .null, .null, .int 0, .null, .null, .null, .null, .null, .null, .null, .null, .null, .int 0, .int 0, .int 0, .int 0, .null, .int 0, .null, .null]) (fs' := [.int 0, .int 0, .ref (b + 1), .ref (b + 2), .null, .null, .null, .int 0, .null, .null, .null, .null, .null, .null, .null, .null, .null, .int 0, .int 0, .int 0, .int 0, .null, .int 0, .null, .null]) (k := 24) (by decide) (by decide) rfl rfl rfl (Nat.le_of_ble_eq_true rfl) rfl (by omega)
  generalize hA2 : va_up A1 (b + 2) (some (.inl (0, 24, .inl (fun _ => 0)))) = A2 at h1 g1
  obtain ⟨h2, g2⟩ := rc_I (A := A2) (b := b) (sz := b + 3) (sz' := b + 4) (bc := 15) (bc' := 14) (bs := 2203) (bs' := 2179) (n := 24) (j := 4) (ci := 8) (fs := [.int 0, .int 0, .ref (b + 1), .ref (b + 2), .null, .null, .null, .int 0, .null, .null, .null, .null, .null, .null, .null, .null, .null, .int 0, .int 0, .int 0, .int 0, .null, .int 0, .null, .null]) (fs' := [.int 0, .int 0, .ref (b + 1), .ref (b + 2), .ref (b + 3), .null, .null, .int 0, .null, .null, .null, .null, .null, .null, .null, .null, .null, .int 0, .int 0, .int 0, .int 0, .null, .int 0, .null, .null]) (k := 24) (by decide) (by decide) rfl rfl rfl (Nat.le_of_ble_eq_true rfl) rfl (by omega)
  generalize hA3 : va_up A2 (b + 3) (some (.inl (0, 24, .inl (fun _ => 0)))) = A3 at h2 g2
  obtain ⟨h3, g3⟩ := rc_I (A := A3) (b := b) (sz := b + 4) (sz' := b + 5) (bc := 14) (bc' := 13) (bs := 2179) (bs' := 2155) (n := 24) (j := 5) (ci := 8) (fs := [.int 0, .int 0, .ref (b + 1), .ref (b + 2), .ref (b + 3), .null, .null, .int 0, .null, .null, .null, .null, .null, .null, .null, .null, .null, .int 0, .int 0, .int 0, .int 0, .null, .int 0, .null, .null]) (fs' := [.int 0, .int 0, .ref (b + 1), .ref (b + 2), .ref (b + 3), .ref (b + 4), .null, .int 0, .null, .null, .null, .null, .null, .null, .null, .null, .null, .int 0, .int 0, .int 0, .int 0, .null, .int 0, .null, .null]) (k := 24) (by decide) (by decide) rfl rfl rfl (Nat.le_of_ble_eq_true rfl) rfl (by omega)
  generalize hA4 : va_up A3 (b + 4) (some (.inl (0, 24, .inl (fun _ => 0)))) = A4 at h3 g3
  obtain ⟨h4, g4⟩ := rc_I (A := A4) (b := b) (sz := b + 5) (sz' := b + 6) (bc := 13) (bc' := 12) (bs := 2155) (bs' := 2131) (n := 24) (j := 6) (ci := 8) (fs := [.int 0, .int 0, .ref (b + 1), .ref (b + 2), .ref (b + 3), .ref (b + 4), .null, .int 0, .null, .null, .null, .null, .null, .null, .null, .null, .null, .int 0, .int 0, .int 0, .int 0, .null, .int 0, .null, .null]) (fs' := [.int 0, .int 0, .ref (b + 1), .ref (b + 2), .ref (b + 3), .ref (b + 4), .ref (b + 5), .int 0, .null, .null, .null, .null, .null, .null, .null, .null, .null, .int 0, .int 0, .int 0, .int 0, .null, .int 0, .null, .null]) (k := 24) (by decide) (by decide) rfl rfl rfl (Nat.le_of_ble_eq_true rfl) rfl (by omega)
  generalize hA5 : va_up A4 (b + 5) (some (.inl (0, 24, .inl (fun _ => 0)))) = A5 at h4 g4
  obtain ⟨h5, g5⟩ := rc_I (A := A5) (b := b) (sz := b + 6) (sz' := b + 7) (bc := 12) (bc' := 11) (bs := 2131) (bs' := 2115) (n := 16) (j := 8) (ci := 8) (fs := [.int 0, .int 0, .ref (b + 1), .ref (b + 2), .ref (b + 3), .ref (b + 4), .ref (b + 5), .int 0, .null, .null, .null, .null, .null, .null, .null, .null, .null, .int 0, .int 0, .int 0, .int 0, .null, .int 0, .null, .null]) (fs' := [.int 0, .int 0, .ref (b + 1), .ref (b + 2), .ref (b + 3), .ref (b + 4), .ref (b + 5), .int 0, .ref (b + 6), .null, .null, .null, .null, .null, .null, .null, .null, .int 0, .int 0, .int 0, .int 0, .null, .int 0, .null, .null]) (k := 16) (by decide) (by decide) rfl rfl rfl (Nat.le_of_ble_eq_true rfl) rfl (by omega)
  generalize hA6 : va_up A5 (b + 6) (some (.inl (0, 16, .inl (fun _ => 0)))) = A6 at h5 g5
  obtain ⟨h6, g6⟩ := rc_Z (A := A6) (b := b) (sz := b + 7) (sz' := b + 8) (bc := 11) (bc' := 10) (bs := 2115) (bs' := 1855) (n := 260) (j := 9) (ci := 8) (fs := [.int 0, .int 0, .ref (b + 1), .ref (b + 2), .ref (b + 3), .ref (b + 4), .ref (b + 5), .int 0, .ref (b + 6), .null, .null, .null, .null, .null, .null, .null, .null, .int 0, .int 0, .int 0, .int 0, .null, .int 0, .null, .null]) (fs' := [.int 0, .int 0, .ref (b + 1), .ref (b + 2), .ref (b + 3), .ref (b + 4), .ref (b + 5), .int 0, .ref (b + 6), .ref (b + 7), .null, .null, .null, .null, .null, .null, .null, .int 0, .int 0, .int 0, .int 0, .null, .int 0, .null, .null]) (k := 260) (by decide) (by decide) rfl rfl rfl (Nat.le_of_ble_eq_true rfl) rfl (by omega)
  generalize hA7 : va_up A6 (b + 7) (some (.inl (2, 260, .inl (fun _ => 0)))) = A7 at h6 g6
  obtain ⟨h7, g7⟩ := rc_I (A := A7) (b := b) (sz := b + 8) (sz' := b + 9) (bc := 10) (bc' := 9) (bs := 1855) (bs' := 1595) (n := 260) (j := 10) (ci := 8) (fs := [.int 0, .int 0, .ref (b + 1), .ref (b + 2), .ref (b + 3), .ref (b + 4), .ref (b + 5), .int 0, .ref (b + 6), .ref (b + 7), .null, .null, .null, .null, .null, .null, .null, .int 0, .int 0, .int 0, .int 0, .null, .int 0, .null, .null]) (fs' := [.int 0, .int 0, .ref (b + 1), .ref (b + 2), .ref (b + 3), .ref (b + 4), .ref (b + 5), .int 0, .ref (b + 6), .ref (b + 7), .ref (b + 8), .null, .null, .null, .null, .null, .null, .int 0, .int 0, .int 0, .int 0, .null, .int 0, .null, .null]) (k := 260) (by decide) (by decide) rfl rfl rfl (Nat.le_of_ble_eq_true rfl) rfl (by omega)
  generalize hA8 : va_up A7 (b + 8) (some (.inl (0, 260, .inl (fun _ => 0)))) = A8 at h7 g7
  obtain ⟨h8, g8⟩ := rc_I (A := A8) (b := b) (sz := b + 9) (sz' := b + 10) (bc := 9) (bc' := 8) (bs := 1595) (bs' := 1335) (n := 260) (j := 11) (ci := 8) (fs := [.int 0, .int 0, .ref (b + 1), .ref (b + 2), .ref (b + 3), .ref (b + 4), .ref (b + 5), .int 0, .ref (b + 6), .ref (b + 7), .ref (b + 8), .null, .null, .null, .null, .null, .null, .int 0, .int 0, .int 0, .int 0, .null, .int 0, .null, .null]) (fs' := [.int 0, .int 0, .ref (b + 1), .ref (b + 2), .ref (b + 3), .ref (b + 4), .ref (b + 5), .int 0, .ref (b + 6), .ref (b + 7), .ref (b + 8), .ref (b + 9), .null, .null, .null, .null, .null, .int 0, .int 0, .int 0, .int 0, .null, .int 0, .null, .null]) (k := 260) (by decide) (by decide) rfl rfl rfl (Nat.le_of_ble_eq_true rfl) rfl (by omega)
  generalize hA9 : va_up A8 (b + 9) (some (.inl (0, 260, .inl (fun _ => 0)))) = A9 at h8 g8
  obtain ⟨h9, g9⟩ := rc_L (A := A9) (b := b) (sz := b + 10) (sz' := b + 11) (bc := 8) (bc' := 7) (bs := 1335) (bs' := 1075) (n := 260) (j := 12) (ci := 8) (fs := [.int 0, .int 0, .ref (b + 1), .ref (b + 2), .ref (b + 3), .ref (b + 4), .ref (b + 5), .int 0, .ref (b + 6), .ref (b + 7), .ref (b + 8), .ref (b + 9), .null, .null, .null, .null, .null, .int 0, .int 0, .int 0, .int 0, .null, .int 0, .null, .null]) (fs' := [.int 0, .int 0, .ref (b + 1), .ref (b + 2), .ref (b + 3), .ref (b + 4), .ref (b + 5), .int 0, .ref (b + 6), .ref (b + 7), .ref (b + 8), .ref (b + 9), .ref (b + 10), .null, .null, .null, .null, .int 0, .int 0, .int 0, .int 0, .null, .int 0, .null, .null]) (k := 260) (by decide) (by decide) rfl rfl rfl (Nat.le_of_ble_eq_true rfl) rfl (by omega)
  generalize hA10 : va_up A9 (b + 10) (some (.inl (1, 260, .inr (.inl (fun _ => 0))))) = A10 at h9 g9
  obtain ⟨h10, g10⟩ := rc_L (A := A10) (b := b) (sz := b + 11) (sz' := b + 12) (bc := 7) (bc' := 6) (bs := 1075) (bs' := 815) (n := 260) (j := 13) (ci := 8) (fs := [.int 0, .int 0, .ref (b + 1), .ref (b + 2), .ref (b + 3), .ref (b + 4), .ref (b + 5), .int 0, .ref (b + 6), .ref (b + 7), .ref (b + 8), .ref (b + 9), .ref (b + 10), .null, .null, .null, .null, .int 0, .int 0, .int 0, .int 0, .null, .int 0, .null, .null]) (fs' := [.int 0, .int 0, .ref (b + 1), .ref (b + 2), .ref (b + 3), .ref (b + 4), .ref (b + 5), .int 0, .ref (b + 6), .ref (b + 7), .ref (b + 8), .ref (b + 9), .ref (b + 10), .ref (b + 11), .null, .null, .null, .int 0, .int 0, .int 0, .int 0, .null, .int 0, .null, .null]) (k := 260) (by decide) (by decide) rfl rfl rfl (Nat.le_of_ble_eq_true rfl) rfl (by omega)
  generalize hA11 : va_up A10 (b + 11) (some (.inl (1, 260, .inr (.inl (fun _ => 0))))) = A11 at h10 g10
  obtain ⟨h11, g11⟩ := rc_L (A := A11) (b := b) (sz := b + 12) (sz' := b + 13) (bc := 6) (bc' := 5) (bs := 815) (bs' := 555) (n := 260) (j := 14) (ci := 8) (fs := [.int 0, .int 0, .ref (b + 1), .ref (b + 2), .ref (b + 3), .ref (b + 4), .ref (b + 5), .int 0, .ref (b + 6), .ref (b + 7), .ref (b + 8), .ref (b + 9), .ref (b + 10), .ref (b + 11), .null, .null, .null, .int 0, .int 0, .int 0, .int 0, .null, .int 0, .null, .null]) (fs' := [.int 0, .int 0, .ref (b + 1), .ref (b + 2), .ref (b + 3), .ref (b + 4), .ref (b + 5), .int 0, .ref (b + 6), .ref (b + 7), .ref (b + 8), .ref (b + 9), .ref (b + 10), .ref (b + 11), .ref (b + 12), .null, .null, .int 0, .int 0, .int 0, .int 0, .null, .int 0, .null, .null]) (k := 260) (by decide) (by decide) rfl rfl rfl (Nat.le_of_ble_eq_true rfl) rfl (by omega)
  generalize hA12 : va_up A11 (b + 12) (some (.inl (1, 260, .inr (.inl (fun _ => 0))))) = A12 at h11 g11
  obtain ⟨h12, g12⟩ := rc_L (A := A12) (b := b) (sz := b + 13) (sz' := b + 14) (bc := 5) (bc' := 4) (bs := 555) (bs' := 295) (n := 260) (j := 15) (ci := 8) (fs := [.int 0, .int 0, .ref (b + 1), .ref (b + 2), .ref (b + 3), .ref (b + 4), .ref (b + 5), .int 0, .ref (b + 6), .ref (b + 7), .ref (b + 8), .ref (b + 9), .ref (b + 10), .ref (b + 11), .ref (b + 12), .null, .null, .int 0, .int 0, .int 0, .int 0, .null, .int 0, .null, .null]) (fs' := [.int 0, .int 0, .ref (b + 1), .ref (b + 2), .ref (b + 3), .ref (b + 4), .ref (b + 5), .int 0, .ref (b + 6), .ref (b + 7), .ref (b + 8), .ref (b + 9), .ref (b + 10), .ref (b + 11), .ref (b + 12), .ref (b + 13), .null, .int 0, .int 0, .int 0, .int 0, .null, .int 0, .null, .null]) (k := 260) (by decide) (by decide) rfl rfl rfl (Nat.le_of_ble_eq_true rfl) rfl (by omega)
  generalize hA13 : va_up A12 (b + 13) (some (.inl (1, 260, .inr (.inl (fun _ => 0))))) = A13 at h12 g12
  obtain ⟨h13, g13⟩ := rc_I (A := A13) (b := b) (sz := b + 14) (sz' := b + 15) (bc := 4) (bc' := 3) (bs := 295) (bs' := 35) (n := 260) (j := 16) (ci := 8) (fs := [.int 0, .int 0, .ref (b + 1), .ref (b + 2), .ref (b + 3), .ref (b + 4), .ref (b + 5), .int 0, .ref (b + 6), .ref (b + 7), .ref (b + 8), .ref (b + 9), .ref (b + 10), .ref (b + 11), .ref (b + 12), .ref (b + 13), .null, .int 0, .int 0, .int 0, .int 0, .null, .int 0, .null, .null]) (fs' := [.int 0, .int 0, .ref (b + 1), .ref (b + 2), .ref (b + 3), .ref (b + 4), .ref (b + 5), .int 0, .ref (b + 6), .ref (b + 7), .ref (b + 8), .ref (b + 9), .ref (b + 10), .ref (b + 11), .ref (b + 12), .ref (b + 13), .ref (b + 14), .int 0, .int 0, .int 0, .int 0, .null, .int 0, .null, .null]) (k := 260) (by decide) (by decide) rfl rfl rfl (Nat.le_of_ble_eq_true rfl) rfl (by omega)
  generalize hA14 : va_up A13 (b + 14) (some (.inl (0, 260, .inl (fun _ => 0)))) = A14 at h13 g13
  obtain ⟨h14, g14⟩ := rc_I (A := A14) (b := b) (sz := b + 15) (sz' := b + 16) (bc := 3) (bc' := 2) (bs := 35) (bs' := 10) (n := 25) (j := 21) (ci := 8) (fs := [.int 0, .int 0, .ref (b + 1), .ref (b + 2), .ref (b + 3), .ref (b + 4), .ref (b + 5), .int 0, .ref (b + 6), .ref (b + 7), .ref (b + 8), .ref (b + 9), .ref (b + 10), .ref (b + 11), .ref (b + 12), .ref (b + 13), .ref (b + 14), .int 0, .int 0, .int 0, .int 0, .null, .int 0, .null, .null]) (fs' := [.int 0, .int 0, .ref (b + 1), .ref (b + 2), .ref (b + 3), .ref (b + 4), .ref (b + 5), .int 0, .ref (b + 6), .ref (b + 7), .ref (b + 8), .ref (b + 9), .ref (b + 10), .ref (b + 11), .ref (b + 12), .ref (b + 13), .ref (b + 14), .int 0, .int 0, .int 0, .int 0, .ref (b + 15), .int 0, .null, .null]) (k := 25) (by decide) (by decide) rfl rfl rfl (Nat.le_of_ble_eq_true rfl) rfl (by omega)
  generalize hA15 : va_up A14 (b + 15) (some (.inl (0, 25, .inl (fun _ => 0)))) = A15 at h14 g14
  obtain ⟨h15, g15⟩ := rc_I (A := A15) (b := b) (sz := b + 16) (sz' := b + 17) (bc := 2) (bc' := 1) (bs := 10) (bs' := 4) (n := 6) (j := 23) (ci := 8) (fs := [.int 0, .int 0, .ref (b + 1), .ref (b + 2), .ref (b + 3), .ref (b + 4), .ref (b + 5), .int 0, .ref (b + 6), .ref (b + 7), .ref (b + 8), .ref (b + 9), .ref (b + 10), .ref (b + 11), .ref (b + 12), .ref (b + 13), .ref (b + 14), .int 0, .int 0, .int 0, .int 0, .ref (b + 15), .int 0, .null, .null]) (fs' := [.int 0, .int 0, .ref (b + 1), .ref (b + 2), .ref (b + 3), .ref (b + 4), .ref (b + 5), .int 0, .ref (b + 6), .ref (b + 7), .ref (b + 8), .ref (b + 9), .ref (b + 10), .ref (b + 11), .ref (b + 12), .ref (b + 13), .ref (b + 14), .int 0, .int 0, .int 0, .int 0, .ref (b + 15), .int 0, .ref (b + 16), .null]) (k := 6) (by decide) (by decide) rfl rfl rfl (Nat.le_of_ble_eq_true rfl) rfl (by omega)
  generalize hA16 : va_up A15 (b + 16) (some (.inl (0, 6, .inl (fun _ => 0)))) = A16 at h15 g15
  obtain ⟨h16, g16⟩ := rc_I (A := A16) (b := b) (sz := b + 17) (sz' := b + 18) (bc := 1) (bc' := 0) (bs := 4) (bs' := 0) (n := 4) (j := 24) (ci := 8) (fs := [.int 0, .int 0, .ref (b + 1), .ref (b + 2), .ref (b + 3), .ref (b + 4), .ref (b + 5), .int 0, .ref (b + 6), .ref (b + 7), .ref (b + 8), .ref (b + 9), .ref (b + 10), .ref (b + 11), .ref (b + 12), .ref (b + 13), .ref (b + 14), .int 0, .int 0, .int 0, .int 0, .ref (b + 15), .int 0, .ref (b + 16), .null]) (fs' := [.int 0, .int 0, .ref (b + 1), .ref (b + 2), .ref (b + 3), .ref (b + 4), .ref (b + 5), .int 0, .ref (b + 6), .ref (b + 7), .ref (b + 8), .ref (b + 9), .ref (b + 10), .ref (b + 11), .ref (b + 12), .ref (b + 13), .ref (b + 14), .int 0, .int 0, .int 0, .int 0, .ref (b + 15), .int 0, .ref (b + 16), .ref (b + 17)]) (k := 4) (by decide) (by decide) rfl rfl rfl (Nat.le_of_ble_eq_true rfl) rfl (by omega)
  generalize hA17 : va_up A16 (b + 17) (some (.inl (0, 4, .inl (fun _ => 0)))) = A17 at h16 g16
  unfold f_R_init
  simp only [h0, g0, h1, g1, h2, g2, h3, g3, h4, g4, h5, g5, h6, g6, h7, g7, h8, g8, h9, g9, h10, g10, h11, g11, h12, g12, h13, g13, h14, g14, h15, g15, h16, g16, Option.bind_some]
  congr 3
  funext a
  by_cases q0 : a = b
  · rw [q0, va_up_self, rb_0]
  rw [va_up_ne _ _ q0]
  by_cases q17 : a = b + 17
  · rw [q17, ← hA17, va_up_self, rb_17]
  rw [← hA17, va_up_ne _ _ q17]
  by_cases q16 : a = b + 16
  · rw [q16, ← hA16, va_up_self, rb_16]
  rw [← hA16, va_up_ne _ _ q16]
  by_cases q15 : a = b + 15
  · rw [q15, ← hA15, va_up_self, rb_15]
  rw [← hA15, va_up_ne _ _ q15]
  by_cases q14 : a = b + 14
  · rw [q14, ← hA14, va_up_self, rb_14]
  rw [← hA14, va_up_ne _ _ q14]
  by_cases q13 : a = b + 13
  · rw [q13, ← hA13, va_up_self, rb_13]
  rw [← hA13, va_up_ne _ _ q13]
  by_cases q12 : a = b + 12
  · rw [q12, ← hA12, va_up_self, rb_12]
  rw [← hA12, va_up_ne _ _ q12]
  by_cases q11 : a = b + 11
  · rw [q11, ← hA11, va_up_self, rb_11]
  rw [← hA11, va_up_ne _ _ q11]
  by_cases q10 : a = b + 10
  · rw [q10, ← hA10, va_up_self, rb_10]
  rw [← hA10, va_up_ne _ _ q10]
  by_cases q9 : a = b + 9
  · rw [q9, ← hA9, va_up_self, rb_9]
  rw [← hA9, va_up_ne _ _ q9]
  by_cases q8 : a = b + 8
  · rw [q8, ← hA8, va_up_self, rb_8]
  rw [← hA8, va_up_ne _ _ q8]
  by_cases q7 : a = b + 7
  · rw [q7, ← hA7, va_up_self, rb_7]
  rw [← hA7, va_up_ne _ _ q7]
  by_cases q6 : a = b + 6
  · rw [q6, ← hA6, va_up_self, rb_6]
  rw [← hA6, va_up_ne _ _ q6]
  by_cases q5 : a = b + 5
  · rw [q5, ← hA5, va_up_self, rb_5]
  rw [← hA5, va_up_ne _ _ q5]
  by_cases q4 : a = b + 4
  · rw [q4, ← hA4, va_up_self, rb_4]
  rw [← hA4, va_up_ne _ _ q4]
  by_cases q3 : a = b + 3
  · rw [q3, ← hA3, va_up_self, rb_3]
  rw [← hA3, va_up_ne _ _ q3]
  by_cases q2 : a = b + 2
  · rw [q2, ← hA2, va_up_self, rb_2]
  rw [← hA2, va_up_ne _ _ q2]
  by_cases q1 : a = b + 1
  · rw [q1, ← hA1, va_up_self, rb_1]
  rw [← hA1, va_up_ne _ _ q1]
  exact (rb_out (by omega)).symm
