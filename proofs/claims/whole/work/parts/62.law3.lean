/-! The law's loop answers true. -/
theorem big_ltn {u c : Nat} (hu : u < 2 ^ 31) (hc : c < 2 ^ 31) : (Int32.ofNat u < Int32.ofNat c) ↔ u < c := i32_ltn hu hc
theorem big_nat {i : Nat} (h : i < 2 ^ 31) : (Int32.ofNat i).toNatClampNeg = i ∧ ¬ Int32.ofNat i < 0 := by
  have e : (Int32.ofNat i).toInt = (i : Int) := toInt_of rfl h
  refine ⟨?_, fun q => ?_⟩
  · have e2 : (Int32.ofNat i).toNatClampNeg = (Int32.ofNat i).toInt.toNat := rfl
    omega
  · rw [Int32.lt_iff_toInt_lt, show (0 : Int32).toInt = 0 by decide, e] at q
    omega
theorem xsl_ok {L : Nat} {xs : Nat → Int32} {i : Nat} (hL : L ≤ 3072) (h : i < L) : xsl L xs (Int32.ofNat i) = some (xs i) := by
  obtain ⟨e1, e2⟩ := big_nat (i := i) (by omega)
  unfold xsl
  rw [e1, if_pos (fun q => q.elim e2 (fun q => by omega))]
theorem l_end {L i : Nat} (hL : L ≤ 3072) (hi : i ≤ 4000) : (Int32.ofNat L - (6 : Int32) < Int32.ofNat i) ↔ L < i + 6 := by
  have e1 : (Int32.ofNat L).toInt = (L : Int) := toInt_of rfl (by omega)
  have e2 : (Int32.ofNat i).toInt = (i : Int) := toInt_of rfl (by omega)
  rw [Int32.lt_iff_toInt_lt, e2, Int32.toInt_sub, e1, show (6 : Int32).toInt = 6 by decide, bmodI (by omega) (by omega)]
  omega
theorem law_loop {L : Nat} {xs : Nat → Int32} {g : Nat} (hL : L ≤ 3072) : ∀ (m n i : Nat) (W : xw) (sz bc bs : Nat), L < i + 6 * m + 6 → i ≤ L + 6 → m < n → m ≤ bc → 6 * m ≤ bs → INV g W → f_L_law_b23 L xs n W sz bc bs g (g + 376) (g + 394) (Int32.ofNat i) = some 1 := by
  intro m
  induction m with
  | zero =>
    intro n i W sz bc bs h1 h2 hn hbc hbs hI
    obtain ⟨n, rfl⟩ : ∃ q, n = q + 1 := ⟨n - 1, by omega⟩
    unfold f_L_law_b23
    rw [xfix_s]
    unfold f_L_law_s23
    simp only [Option.bind_some]
    rw [if_pos ((l_end hL (by omega)).mpr (by omega))]
  | succ m ih =>
    intro n i W sz bc bs h1 h2 hn hbc hbs hI
    obtain ⟨n, rfl⟩ : ∃ q, n = q + 1 := ⟨n - 1, by omega⟩
    by_cases hend : L < i + 6
    · unfold f_L_law_b23
      rw [xfix_s]
      unfold f_L_law_s23
      simp only [Option.bind_some]
      rw [if_pos ((l_end hL (by omega)).mpr hend)]
    have e23 : f_L_law_b23 L xs (n + 1) W sz bc bs g (g + 376) (g + 394) (Int32.ofNat i) = f_L_law_s23 L xs (f_L_law_b23 L xs n) W sz bc bs g (g + 376) (g + 394) (Int32.ofNat i) := by
      unfold f_L_law_b23
      rw [xfix_s]
    have go : ∀ (W' : xw) (sz' bc' bs' : Nat), m ≤ bc' → 6 * m ≤ bs' → INV g W' → f_L_law_b437 L xs (f_L_law_b23 L xs n) W' sz' bc' bs' g (g + 376) (g + 394) (Int32.ofNat i) = some 1 := fun W' sz' bc' bs' hb1 hb2 hI' => by
      unfold f_L_law_b437
      simp only [Option.bind_some]
      rw [show Int32.ofNat i + (6 : Int32) = Int32.ofNat (i + 6) from (Int32.ofNat_add i 6).symm]
      exact ih n (i + 6) W' sz' bc' bs' (by omega) (by omega) (by omega) hb1 hb2 hI'
    have s0 : xsl L xs (Int32.ofNat i) = some (xs i) := xsl_ok hL (by omega)
    have s1 : xsl L xs (Int32.ofNat i + 1) = some (xs (i + 1)) := by rw [show Int32.ofNat i + (1 : Int32) = Int32.ofNat (i + 1) from (Int32.ofNat_add i 1).symm]; exact xsl_ok hL (by omega)
    have s2 : xsl L xs (Int32.ofNat i + 2) = some (xs (i + 2)) := by rw [show Int32.ofNat i + (2 : Int32) = Int32.ofNat (i + 2) from (Int32.ofNat_add i 2).symm]; exact xsl_ok hL (by omega)
    have s3 : xsl L xs (Int32.ofNat i + 3) = some (xs (i + 3)) := by rw [show Int32.ofNat i + (3 : Int32) = Int32.ofNat (i + 3) from (Int32.ofNat_add i 3).symm]; exact xsl_ok hL (by omega)
    have s4 : xsl L xs (Int32.ofNat i + 4) = some (xs (i + 4)) := by rw [show Int32.ofNat i + (4 : Int32) = Int32.ofNat (i + 4) from (Int32.ofNat_add i 4).symm]; exact xsl_ok hL (by omega)
    have s5 : xsl L xs (Int32.ofNat i + 5) = some (xs (i + 5)) := by rw [show Int32.ofNat i + (5 : Int32) = Int32.ofNat (i + 5) from (Int32.ofNat_add i 5).symm]; exact xsl_ok hL (by omega)
    have ck := hI.ck
    rw [e23]
    unfold f_L_law_s23 f_L_law_b383
    simp only [s0, Option.bind_some]
    rw [if_neg (fun q => hend ((l_end hL (by omega)).mp q))]
    by_cases d0 : (xs i &&& (15 : Int32)) = 0
    · rw [if_pos d0]
      obtain ⟨v, W1, W2, x1, x2, x3, x4⟩ := b_add hI (xs (i + 1)) (xs (i + 2)) (xs (i + 3)) (xs (i + 4)) (xs (i + 5))
      dsimp only at x3
      simp only [s1, s2, s3, s4, s5, ck, x1, x2, x3, Option.bind_some]
      rw [if_pos trivial]
      exact go W2 sz bc bs (by omega) (by omega) x4
    rw [if_neg d0]
    by_cases d1 : (xs i &&& (15 : Int32)) = 1
    · rw [if_pos d1]
      obtain ⟨v, W1, W2, x1, x2, x3, x4⟩ := b_clear hI
      dsimp only at x3
      simp only [ck, x1, x2, x3, Option.bind_some]
      rw [if_pos trivial]
      exact go W2 sz bc bs (by omega) (by omega) x4
    rw [if_neg d1]
    by_cases d2 : (xs i &&& (15 : Int32)) = 2
    · rw [if_pos d2]
      obtain ⟨v, W1, W2, x1, x2, x3, x4⟩ := b_size hI
      dsimp only at x3
      simp only [ck, x1, x2, x3, Option.bind_some]
      rw [if_pos trivial]
      exact go W2 sz bc bs (by omega) (by omega) x4
    rw [if_neg d2]
    by_cases d3 : (xs i &&& (15 : Int32)) = 3
    · rw [if_pos d3]
      obtain ⟨v, W1, W2, x1, x2, x3, x4⟩ := b_packet hI (((xs (i + 1)).toInt64 <<< ((32 : Int32).toInt64 &&& 63)) ||| ((xs (i + 2)).toInt64 &&& (4294967295 : Int64))) (((xs (i + 3)).toInt64 <<< ((32 : Int32).toInt64 &&& 63)) ||| ((xs (i + 4)).toInt64 &&& (4294967295 : Int64))) (xs (i + 5))
      dsimp only at x3
      simp only [s1, s2, s3, s4, s5, ck, x1, x2, x3, Option.bind_some]
      rw [if_pos trivial]
      exact go W2 sz bc bs (by omega) (by omega) x4
    rw [if_neg d3]
    by_cases d4 : (xs i &&& (15 : Int32)) = 4
    · rw [if_pos d4]
      obtain ⟨v, W1, W2, x1, x2, x3, x4⟩ := b_walk hI
      dsimp only at x3
      simp only [ck, x1, x2, x3, Option.bind_some]
      rw [if_pos trivial]
      exact go W2 sz bc bs (by omega) (by omega) x4
    rw [if_neg d4]
    by_cases d5 : (xs i &&& (15 : Int32)) = 5
    · rw [if_pos d5]
      obtain ⟨v, W1, W2, x1, x2, x3, x4⟩ := b_steps hI
      dsimp only at x3
      simp only [ck, x1, x2, x3, Option.bind_some]
      rw [if_pos trivial]
      exact go W2 sz bc bs (by omega) (by omega) x4
    rw [if_neg d5]
    by_cases d6 : (xs i &&& (15 : Int32)) = 6
    · rw [if_pos d6]
      obtain ⟨k, W1, sz1, v, W2, x1, x2, x3, x4, x5, x6, x7⟩ := b_run hI (xs (i + 1)) sz
      have hbu : xbud bc bs 1 6 = some (bc - 1, bs - 6) := xbud_of (by omega) rfl rfl
      simp only [s1, hbu, x1, x2, x3, x4, x5, Option.bind_some]
      rw [if_pos trivial]
      by_cases k0 : k = 0
      · rw [if_neg (not_not_intro k0), x6 k0]
        simp only [Option.bind_some]
        rw [if_pos trivial]
        exact go W2 sz1 (bc - 1) (bs - 6) (by omega) (by omega) x7
      · rw [if_pos k0]
        exact go W2 sz1 (bc - 1) (bs - 6) (by omega) (by omega) x7
    rw [if_neg d6]
    by_cases d7 : (xs i &&& (15 : Int32)) = 7
    · rw [if_pos d7]
      obtain ⟨v, W1, W2, x1, x2, x3, x4⟩ := b_ran hI
      dsimp only at x3
      simp only [ck, x1, x2, x3, Option.bind_some]
      rw [if_pos trivial]
      exact go W2 sz bc bs (by omega) (by omega) x4
    rw [if_neg d7]
    by_cases d8 : (xs i &&& (15 : Int32)) = 8
    · rw [if_pos d8]
      obtain ⟨v, W1, W2, x1, x2, x3, x4⟩ := b_known hI (xs (i + 1)) (xs (i + 2))
      simp only [s1, s2, ck, x1, x2, x3, Option.bind_some]
      rw [if_pos trivial]
      exact go W2 sz bc bs (by omega) (by omega) x4
    rw [if_neg d8]
    exact go W sz bc bs (by omega) (by omega) hI
theorem z_ok : okV i0 := by
  unfold okV okI
  decide
theorem law_inv {g : Nat} : INV g (va_up (rb (ew (cb (fun _ => none) g 0 (fun _ => i0) 0 z0 z0 0 0 z0 z0 0) (cP g) (fun _ => k0)) (g + 376) 0 0 z0 z0 z0 z0 z0 0 z0 (fun _ => k0) 0 0 0 0 z0 0 z0 z0) (g + 376 + 18) (some (.inl (1, 1, .inr (.inl (fun _ => 0)))))) := by
  rw [rb_up (by omega), ecb_up (by omega), ← jcomm (Nat.le_refl _)]
  exact ⟨va_up (fun _ => none) (g + 376 + 18) (ar1 (fun _ => 0)), fun _ => 0, 0, 0, fun _ => i0, z0, z0, 0, 0, z0, z0, 0, fun _ => k0, 0, z0, z0, z0, z0, z0, z0, fun _ => k0, 0, 0, z0, 0, z0, z0, rfl, va_up_self _ _ _, by omega, by omega, fun i _ => rfl, fun i _ => z_ok, fun i _ => rfl, fun a => Or.inl rfl, fun a => Or.inl rfl, fun q => absurd rfl q, rfl⟩
theorem law_make {g : Nat} : ∃ E0 R0, f_G_init (va_up (fun _ => none) g (some (.inr (0, xdf 0)))) (g + 1) 375 2653 g = some ((), E0, g + 376) ∧ f_R_init (va_up E0 (g + 376) (some (.inr (8, xdf 8)))) (g + 376 + 1) 17 2251 (g + 376) = some ((), R0, g + 376 + 18) ∧ INV g (va_up R0 (g + 376 + 18) (some (.inl (1, 1, .inr (.inl (fun _ => 0)))))) :=
  ⟨ew (cb (fun _ => none) g 0 (fun _ => i0) 0 z0 z0 0 0 z0 z0 0) (cP g) (fun _ => k0), rb (ew (cb (fun _ => none) g 0 (fun _ => i0) 0 z0 z0 0 0 z0 z0 0) (cP g) (fun _ => k0)) (g + 376) 0 0 z0 z0 z0 z0 z0 0 z0 (fun _ => k0) 0 0 0 0 z0 0 z0 z0, g_init, r_init, law_inv⟩
theorem law_lp {L : Nat} {xs : Nat → Int32} {g b o : Nat} (hL : L ≤ 3072) (e9 : g + 376 = b) (e8 : b + 18 = o) (W : xw) (sz bc bs : Nat) (q1 : 600 ≤ bc) (q2 : 4000 ≤ bs) (q3 : INV g W) : f_L_law_b23 L xs 4000 W sz bc bs g b o 0 = some 1 := by
  have h := law_loop (xs := xs) hL 512 4000 0 W sz bc bs (by omega) (by omega) (by omega) (by omega) (by omega) q3
  rw [ofNat_zero', e9, show g + 394 = o from by omega] at h
  exact h
theorem bind_of {α β : Type} {o : Option α} {a : α} {k : α → Option β} {r : Option β} (h : o = some a) (hk : k a = r) : o.bind k = r := by
  rw [h]
  exact hk
theorem law_st {L B S B1 S1 B2 S2 B3 S3 B4 S4 B5 S5 g b b1 o o1 g1 : Nat} {xs : Nat → Int32} {w0 A0 E0 A1 R0 A2 : xw} (h1 : xn w0 g B S 0 = some (A0, g1, B1, S1)) (h2 : xbud B1 S1 375 2653 = some (B2, S2)) (h3 : f_G_init A0 g1 375 2653 g = some ((), E0, b)) (h4 : xn E0 b B2 S2 8 = some (A1, b1, B3, S3)) (h5 : xbud B3 S3 17 2251 = some (B4, S4)) (h6 : f_R_init A1 b1 17 2251 b = some ((), R0, o)) (h7 : xnaL R0 o B4 S4 1 = some (A2, o1, B5, S5)) : f_L_law L xs w0 g B S = f_L_law_b23 L xs 4000 A2 o1 B5 S5 g b o 0 := by
  unfold f_L_law
  exact bind_of h1 (bind_of h2 (bind_of h3 (bind_of h4 (bind_of h5 (bind_of h6 (bind_of h7 (bind_of rfl rfl)))))))
theorem law_gen {L B S : Nat} {xs : Nat → Int32} {g : Nat} (hL : L ≤ 3072) (hB : 1000 ≤ B) (hS : 10000 ≤ S) : f_L_law L xs (fun _ => none) g B S = some 1 := by
  obtain ⟨E0, R0, h3, h6, hI⟩ := law_make (g := g)
  rw [law_st (xn_of (n := 4) rfl (by omega) rfl rfl rfl) (xbud_of (by omega) rfl rfl) h3 (xn_of (n := 25) rfl (by omega) rfl rfl rfl) (xbud_of (by omega) rfl rfl) h6 (xnaL_of (n := 1) (by decide) (by omega) rfl rfl rfl)]
  exact law_lp hL rfl rfl _ _ _ _ (by omega) (by omega) hI
theorem law_true {L : Nat} {xs : Nat → Int32} {g : Nat} (hL : L ≤ 3072) : f_L_law L xs (fun _ => none) g 601024 7293034 = some 1 := law_gen hL (by omega) (by omega)
