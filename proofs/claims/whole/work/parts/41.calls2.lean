theorem lt6_iff (x : Int32) : x < 6 ↔ ¬ (5 : Int32) < x := by
  have e1 : (5 : Int32).toInt = 5 := by decide
  have e2 : (6 : Int32).toInt = 6 := by decide
  rw [Int32.lt_iff_toInt_lt, Int32.lt_iff_toInt_lt]
  omega
theorem dec6 (x : Int32) : decide (x < 6) = decide (¬ (5 : Int32) < x) := decide_eq_decide.mpr (lt6_iff x)
theorem dec6n (x : Int32) : decide (¬ (6 : Int32) ≤ x) = decide (¬ (5 : Int32) < x) := decide_eq_decide.mpr (by
  have e1 : (5 : Int32).toInt = 5 := by decide
  have e2 : (6 : Int32).toInt = 6 := by decide
  rw [Int32.lt_iff_toInt_lt, Int32.le_iff_toInt_le]
  omega)
section K2
variable {w : xw} {g : Nat} {ct : Int32} {ii : Nat → IV} {ln : Int32} {bt wt : Nat → Int32} {en st : Int32} {mr ms : Nat → Int32} {mi : Int32} {kc : Nat → KV}
theorem ew_add {op a b n f : Int32} {c : Nat} (hc : c ≤ 24) : f_G_add (ew (cb w g (Int32.ofNat c) ii ln bt wt en st mr ms mi) (cP g) kc) g op a b n f = some (if c < 24 ∧ okB op a b n f = true then (Int32.ofNat (c + 1), ew (cb w g (Int32.ofNat (c + 1)) (va_up ii c (op, a, b, n, f)) ln bt wt en st mr ms mi) (cP g) kc) else (-1, ew (cb w g (Int32.ofNat c) ii ln bt wt en st mr ms mi) (cP g) kc)) := by
  have e1 : (Int32.ofNat c).toNatClampNeg = c := i32_nat c (by omega)
  unfold f_G_add f_G_add_b25
  simp only [cr_0_0, cr_1_1, Option.bind_some]
  by_cases h : c < 24
  · rw [if_neg (fun z => absurd ((i32_le24 (by omega)).mp z) (by omega)), allowed_eq]
    simp only [Option.bind_some]
    cases hb : okB op a b n f
    · rw [if_neg (by decide), if_neg (fun z => by have := z.2; cases this)]
    · rw [if_pos (by decide), if_pos ⟨h, rfl⟩]
      unfold f_I_become
      simp only [cr_0_0, cr_1_0, cr_1_1, cs_I (i32_nneg c (by omega)) (show (Int32.ofNat c).toNatClampNeg < 24 by omega), e1, ci_ck h, cp_I0 h, cp_I1 h, cp_I2 h, cp_I3 h, cp_I4 h, cp_ct, Option.bind_some, va_up_self, va_up_up, st_add]
  · rw [if_pos ((i32_le24 (by omega)).mpr (by omega)), if_neg (fun z => h z.1)]
theorem ew_clear : f_G_clear (ew (cb w g ct ii ln bt wt en st mr ms mi) (cP g) kc) g = some (ct, ew (cb w g 0 ii ln bt wt en st mr ms mi) (cP g) kc) := by
  unfold f_G_clear
  simp only [cr_0_0, cr_1_1, cp_ct, Option.bind_some]
theorem ew_size : f_G_size (ew (cb w g ct ii ln bt wt en st mr ms mi) (cP g) kc) g = some (ct, ew (cb w g ct ii ln bt wt en st mr ms mi) (cP g) kc) := by
  unfold f_G_size
  simp only [cr_0_0, cr_1_1, Option.bind_some]
theorem ew_steps : f_G_steps (ew (cb w g ct ii ln bt wt en st mr ms mi) (cP g) kc) g = some (st, ew (cb w g ct ii ln bt wt en st mr ms mi) (cP g) kc) := by
  unfold f_G_steps
  simp only [cr_0_2, cr_29_9, Option.bind_some]
theorem ew_ran : f_G_ran (ew (cb w g ct ii ln bt wt en st mr ms mi) (cP g) kc) g = some (mi, ew (cb w g ct ii ln bt wt en st mr ms mi) (cP g) kc) := by
  unfold f_G_ran
  simp only [cr_0_3, cr_373_4, Option.bind_some]
theorem ew_known {r n : Int32} : f_G_known (ew (cb w g ct ii ln bt wt en st mr ms mi) (cP g) kc) g r n = some (if (¬ r < 0 ∧ r < 6) ∧ ¬ en = 0 then kTold (kc (g + 48 + 3 + r.toNatClampNeg)) n else 4611686018427387904, ew (cb w g ct ii ln bt wt en st mr ms mi) (cP g) kc) := by
  unfold f_G_known f_G_known_b20
  by_cases r0 : r < 0
  · rw [if_pos r0, if_neg (fun z => z.1.1 r0)]
  rw [if_neg r0]
  by_cases r6 : (6 : Int32) ≤ r
  · rw [if_pos r6, if_neg (fun z => i32_not_lt r6 z.1.2)]
  rw [if_neg r6]
  have l6 : r < 6 := i32_le_of r6
  have n6 := nat6 r0 l6
  simp only [cr_0_2, cr_29_8, Option.bind_some]
  by_cases e : en = 0
  · rw [if_neg (not_not_intro e), if_neg (fun z => z.2 e)]
  · rw [if_pos e, if_pos ⟨⟨r0, l6⟩, e⟩]
    simp only [cr_29_7, cs_e0, cs_eR r0 n6, ek_ck (cP_eR n6), ek_told (cP_eR n6), Option.bind_some]
/-- a byte of the packet, as the class takes it -/
def byC (lo hi : Int64) (i : Nat) : Int32 := ((((if (8 : Int32) ≤ Int32.ofNat i then hi else lo).toUInt64 >>> (((8 : Int32) * (Int32.ofNat i - Int32.ofNat i / (8 : Int32) * (8 : Int32))).toInt64.toUInt64 &&& Int64.toUInt64 63)).toInt64).toInt32) &&& (255 : Int32)
def byt (f bt : Nat → Int32) (n : Nat) : Nat → Int32 := fun i => if i < n then f i else bt i
theorem byt_0 (f bt : Nat → Int32) : byt f bt 0 = bt := by
  funext i
  unfold byt
  rw [if_neg (by omega)]
theorem byt_up {f bt : Nat → Int32} {n : Nat} : upd (byt f bt n) n (f n) = byt f bt (n + 1) := by
  funext i
  unfold upd byt
  by_cases e : i = n
  · rw [if_pos e, if_pos (by omega), e]
  · rw [if_neg e]
    by_cases q : i < n
    · rw [if_pos q, if_pos (by omega)]
    · rw [if_neg q, if_neg (by omega)]
theorem ew_by {lo hi : Int64} {l : Nat} (hl : l ≤ 16) : ∀ (m r n : Nat), r + m = l → m < n → f_P_become_b9 n (ew (cb w g ct ii ln (byt (byC lo hi) bt r) wt en st mr ms mi) (cP g) kc) (g + 27) lo hi (Int32.ofNat l) (Int32.ofNat r) = some ((), ew (cb w g ct ii ln (byt (byC lo hi) bt l) wt en st mr ms mi) (cP g) kc) := by
  intro m
  induction m with
  | zero =>
    intro r n hr hn
    obtain ⟨n, rfl⟩ : ∃ q, n = q + 1 := ⟨n - 1, by omega⟩
    obtain rfl : r = l := by omega
    unfold f_P_become_b9
    rw [xfix_s]
    unfold f_P_become_s9
    rw [if_pos (Int32.le_refl _)]
  | succ m ih =>
    intro r n hr hn
    obtain ⟨n, rfl⟩ : ∃ q, n = q + 1 := ⟨n - 1, by omega⟩
    unfold f_P_become_b9
    rw [xfix_s]
    unfold f_P_become_s9
    rw [if_neg (fun z => absurd ((i32_le l (by omega) r (by omega)).mp z) (by omega))]
    have e1 : (Int32.ofNat r).toNatClampNeg = r := i32_nat r (by omega)
    have := ih (r + 1) n (by omega) (by omega)
    unfold f_P_become_b9 at this
    rw [← byt_up, ← st_add] at this
    have key : ∀ s0 : Int64, s0 = (if (8 : Int32) ≤ Int32.ofNat r then hi else lo) → f_P_become_b28 (xfix (fun _ _ _ _ _ _ => none) f_P_become_s9 n) (ew (cb w g ct ii ln (byt (byC lo hi) bt r) wt en st mr ms mi) (cP g) kc) (g + 27) lo hi (Int32.ofNat l) (Int32.ofNat r) s0 = some ((), ew (cb w g ct ii ln (byt (byC lo hi) bt l) wt en st mr ms mi) (cP g) kc) := fun s0 hs => by
      unfold f_P_become_b28
      simp only [cr_27_0, Option.bind_some]
      rw [if_neg (by decide), cu_bt (i32_nneg r (by omega)) (show (Int32.ofNat r).toNatClampNeg < 16 by omega), e1, hs]
      exact this
    by_cases h8 : (8 : Int32) ≤ Int32.ofNat r
    · rw [if_pos h8]
      exact key hi (by rw [if_pos h8])
    · rw [if_neg h8]
      exact key lo (by rw [if_neg h8])
theorem ew_packet {lo hi : Int64} {k : Int32} : f_G_packet (ew (cb w g ct ii ln bt wt en st mr ms mi) (cP g) kc) g lo hi k = some (if ¬ k < 0 ∧ k ≤ 16 then (1, ew (cb w g ct ii k (byt (byC lo hi) bt k.toNatClampNeg) wt en st mr ms mi) (cP g) kc) else (0, ew (cb w g ct ii ln bt wt en st mr ms mi) (cP g) kc)) := by
  unfold f_G_packet f_G_packet_b12
  by_cases k0 : k < 0
  · rw [if_pos k0, if_neg (fun z => z.1 k0)]; rfl
  rw [if_neg k0]
  by_cases k16 : k ≤ 16
  · rw [if_pos k16, if_pos ⟨k0, k16⟩]
    have ek := i32_of6 k0
    have kl : k.toNatClampNeg ≤ 16 := by
      have e : k.toNatClampNeg = k.toInt.toNat := rfl
      rw [Int32.le_iff_toInt_le, show (16 : Int32).toInt = 16 by decide] at k16
      omega
    unfold f_P_become
    simp only [cr_0_1, cc_27, cp_ln, Option.bind_some]
    have := ew_by (w := w) (g := g) (ct := ct) (ii := ii) (ln := k) (bt := bt) (wt := wt) (en := en) (st := st) (mr := mr) (ms := ms) (mi := mi) (kc := kc) (lo := lo) (hi := hi) kl k.toNatClampNeg 0 4000 (by omega) (by omega)
    rw [byt_0, ← ek] at this
    refine Eq.trans (congrArg (fun o => Option.bind o _) this) ?_
    rfl
  · rw [if_neg k16, if_neg (fun z => k16 z.2)]; rfl
end K2
section K3
variable {w : xw} {b : Nat} {th ct : Int32} {po pa pb pn pf : Nat → Int32} {ln : Int32} {bt : Nat → Int32} {kk : Nat → KV} {pl st en wg : Int32} {ws : Nat → Int32} {rc : Int32} {rg sk : Nat → Int32}
theorem er_add {op a c n f : Int32} {k : Nat} (hk : k ≤ 24) : f_R_add (rb w b th (Int32.ofNat k) po pa pb pn pf ln bt kk pl st en wg ws rc rg sk) b op a c n f = some (if k < 24 ∧ okB op a c n f = true then (Int32.ofNat (k + 1), rb w b 0 (Int32.ofNat (k + 1)) (upd po k op) (upd pa k a) (upd pb k c) (upd pn k n) (upd pf k f) ln bt kk pl st en wg ws rc rg sk) else (-1, rb w b 0 (Int32.ofNat k) po pa pb pn pf ln bt kk pl st en wg ws rc rg sk)) := by
  have e1 : (Int32.ofNat k).toNatClampNeg = k := i32_nat k (by omega)
  have b162 : ∀ z : Bool, (z = true → k < 24) → f_R_add_b162 (rb w b 0 (Int32.ofNat k) po pa pb pn pf ln bt kk pl st en wg ws rc rg sk) b op a c n f (b01 z) = some (if z = true then (Int32.ofNat (k + 1), rb w b 0 (Int32.ofNat (k + 1)) (upd po k op) (upd pa k a) (upd pb k c) (upd pn k n) (upd pf k f) ln bt kk pl st en wg ws rc rg sk) else (-1, rb w b 0 (Int32.ofNat k) po pa pb pn pf ln bt kk pl st en wg ws rc rg sk)) := fun z hz => by
    unfold f_R_add_b162
    cases z
    · rw [if_neg (by decide), if_neg (by decide)]
    · rw [if_pos (by decide), if_pos rfl]
      have h24 : (Int32.ofNat k).toNatClampNeg < 24 := by have := hz rfl; omega
      simp only [rr_2, rr_3, rr_4, rr_5, rr_6, ri_ct, ru_po (i32_nneg k (by omega)) h24, ru_pa (i32_nneg k (by omega)) h24, ru_pb (i32_nneg k (by omega)) h24, ru_pn (i32_nneg k (by omega)) h24, ru_pf (i32_nneg k (by omega)) h24, rp_ct, e1, Option.bind_some, st_add]
  generalize hF : (fun z : Bool => some (if z = true then (Int32.ofNat (k + 1), rb w b 0 (Int32.ofNat (k + 1)) (upd po k op) (upd pa k a) (upd pb k c) (upd pn k n) (upd pf k f) ln bt kk pl st en wg ws rc rg sk) else (-1, rb w b 0 (Int32.ofNat k) po pa pb pn pf ln bt kk pl st en wg ws rc rg sk))) = F at b162
  have b162 : ∀ z : Bool, (z = true → k < 24) → f_R_add_b162 (rb w b 0 (Int32.ofNat k) po pa pb pn pf ln bt kk pl st en wg ws rc rg sk) b op a c n f (b01 z) = F z := fun z hz => by rw [b162 z hz, ← hF]
  have b88 : ∀ z : Bool, (z = true → k < 24) → f_R_add_b88 (rb w b 0 (Int32.ofNat k) po pa pb pn pf ln bt kk pl st en wg ws rc rg sk) b op a c n f (b01 z) = F (z && (if op = 14 then decide (f = 1 ∨ f = 2 ∨ f = 4) else (decide (op < 15) || (decide ((22 : Int32) < op) || (decide (¬ f < 1) && decide (¬ (23 : Int32) < f)))))) := fun z hz => by
    unfold f_R_add_b88 f_R_add_b159 f_R_add_b160 f_R_add_b121 f_R_add_b117 f_R_add_b122
    have f0 := b162 false (fun q => by cases q)
    rw [b01_f] at f0
    by_cases h14 : op = 14
    · rw [if_neg (not_not_intro h14), if_pos h14]
      cases z
      · rw [if_pos (by rfl), Bool.false_and]; exact f0
      · have t1 := b162 true hz
        rw [b01_t] at t1
        rw [if_neg (by decide), Bool.true_and]
        by_cases f1 : f = 1
        · rw [if_pos f1, decide_eq_true (Or.inl f1)]; exact t1
        rw [if_neg f1]
        by_cases f2 : f = 2
        · rw [if_pos f2, decide_eq_true (Or.inr (Or.inl f2))]; exact t1
        rw [if_neg f2]
        by_cases f4 : f = 4
        · rw [if_neg (not_not_intro f4), decide_eq_true (Or.inr (Or.inr f4))]; exact t1
        · rw [if_pos f4, decide_eq_false (fun z => z.elim f1 (fun z => z.elim f2 f4))]; exact f0
    · rw [if_pos h14, if_neg h14]
      by_cases h15 : op < 15
      · rw [if_pos h15, decide_eq_true h15, Bool.true_or, Bool.and_true]; exact b162 z hz
      rw [if_neg h15, decide_eq_false h15, Bool.false_or]
      by_cases h22 : (22 : Int32) < op
      · rw [if_pos h22, decide_eq_true h22, Bool.true_or, Bool.and_true]; exact b162 z hz
      rw [if_neg h22, decide_eq_false h22, Bool.false_or, within_eq]
      cases z
      · rw [if_pos (by rfl), Bool.false_and]; exact f0
      · have t1 := b162 true hz
        rw [b01_t] at t1
        rw [if_neg (by decide), Bool.true_and]
        simp only [Option.bind_some]
        cases (decide (¬ f < 1) && decide (¬ (23 : Int32) < f))
        · rw [if_pos (by rfl)]; exact f0
        · rw [if_neg (by decide)]; exact t1
  have b61 : ∀ z : Bool, (z = true → k < 24) → (z = true → ¬ c < -1) → f_R_add_b61 (rb w b 0 (Int32.ofNat k) po pa pb pn pf ln bt kk pl st en wg ws rc rg sk) b op a c n f (b01 z) = F ((z && (decide (¬ c = -1) && (decide (¬ n < 0) && decide (n ≤ 16)))) && (if op = 14 then decide (f = 1 ∨ f = 2 ∨ f = 4) else (decide (op < 15) || (decide ((22 : Int32) < op) || (decide (¬ f < 1) && decide (¬ (23 : Int32) < f)))))) := fun z hz hc => by
    unfold f_R_add_b61 f_R_add_b85 f_R_add_b86
    have f0 := b88 false (fun q => by cases q)
    rw [b01_f] at f0
    cases z
    · rw [if_pos (by rfl), Bool.false_and]; exact f0
    · have t1 := b88 true hz
      rw [b01_t] at t1
      rw [if_neg (by decide), Bool.true_and, within_eq]
      by_cases c0 : c < 0
      · have e : c = -1 := by
          have q := hc rfl
          rw [Int32.lt_iff_toInt_lt] at q c0
          have e1 : (-1 : Int32).toInt = -1 := by decide
          have e0 : (0 : Int32).toInt = 0 := rfl
          exact Int32.toInt_inj.mp (by omega)
        rw [if_pos c0, decide_eq_false (not_not_intro e), Bool.false_and]; exact f0
      · have e : ¬ c = -1 := fun q => by rw [q] at c0; exact c0 neg1
        rw [if_neg c0, decide_eq_true e, Bool.true_and]
        simp only [Option.bind_some]
        have en : decide (n ≤ 16) = decide (¬ (16 : Int32) < n) := by
          by_cases q : n ≤ 16
          · rw [decide_eq_true q, decide_eq_true (i32_not_lt q)]
          · rw [decide_eq_false q, decide_eq_false (not_not_intro (i32_le_of q))]
        rw [en]
        cases (decide (¬ n < 0) && decide (¬ (16 : Int32) < n))
        · rw [if_pos (by rfl)]; exact f0
        · rw [if_neg (by decide)]; exact t1
  have b47 : ∀ z : Bool, (z = true → k < 24) → (z = true → ¬ c < -1) → f_R_add_b47 (rb w b 0 (Int32.ofNat k) po pa pb pn pf ln bt kk pl st en wg ws rc rg sk) b op a c n f (b01 z) = F (z && ((decide (¬ (op = 14 ∨ op = 15)) || (decide (¬ c = -1) && (decide (¬ n < 0) && decide (n ≤ 16)))) && (if op = 14 then decide (f = 1 ∨ f = 2 ∨ f = 4) else (decide (op < 15) || (decide ((22 : Int32) < op) || (decide (¬ f < 1) && decide (¬ (23 : Int32) < f))))))) := fun z hz hc => by
    unfold f_R_add_b47
    by_cases h14 : op = 14
    · rw [if_pos h14, b61 z hz hc, decide_eq_false (show ¬ ¬ (op = 14 ∨ op = 15) from not_not_intro (Or.inl h14)), Bool.false_or, Bool.and_assoc]
    rw [if_neg h14]
    by_cases h15 : op = 15
    · rw [if_neg (not_not_intro h15), b61 z hz hc, decide_eq_false (show ¬ ¬ (op = 14 ∨ op = 15) from not_not_intro (Or.inr h15)), Bool.false_or, Bool.and_assoc]
    · rw [if_pos h15, b88 z hz, decide_eq_true (show ¬ (op = 14 ∨ op = 15) from fun q => q.elim h14 h15), Bool.true_or, Bool.true_and]
  have fin : ∀ z : Bool, F z = some (if z = true then (Int32.ofNat (k + 1), rb w b 0 (Int32.ofNat (k + 1)) (upd po k op) (upd pa k a) (upd pb k c) (upd pn k n) (upd pf k f) ln bt kk pl st en wg ws rc rg sk) else (-1, rb w b 0 (Int32.ofNat k) po pa pb pn pf ln bt kk pl st en wg ws rc rg sk)) := fun z => by rw [← hF]
  have f47 := b47 false (fun q => by cases q) (fun q => by cases q)
  rw [b01_f, Bool.false_and] at f47
  have goal : f_R_add (rb w b th (Int32.ofNat k) po pa pb pn pf ln bt kk pl st en wg ws rc rg sk) b op a c n f = F (decide (k < 24) && okB op a c n f) := by
    unfold f_R_add f_R_add_b46 okB
    simp only [rp_th, ri_ct, within_eq, Option.bind_some]
    by_cases h : k < 24
    · rw [if_neg (fun z => absurd ((i32_le24 (by omega)).mp z) (by omega)), decide_eq_true h, Bool.true_and]
      cases (decide (¬ op < 0) && decide (¬ (23 : Int32) < op))
      · rw [if_pos (by rfl), Bool.false_and]; exact f47
      · rw [if_neg (by decide), Bool.true_and]
        rw [dec6n a]
        cases (decide (¬ a < 0) && decide (¬ (5 : Int32) < a))
        · rw [if_pos (by rfl), Bool.false_and]; exact f47
        · rw [if_neg (by decide), Bool.true_and]
          rw [dec6 c]
          by_cases c1 : c < -1
          · rw [decide_eq_false (not_not_intro c1), Bool.false_and, Bool.false_and, if_pos (by rfl)]; exact f47
          · have t47 := b47 true (fun _ => h) (fun _ => c1)
            rw [b01_t] at t47
            rw [decide_eq_true c1, Bool.true_and]
            cases decide (¬ (5 : Int32) < c)
            · rw [if_pos (by rfl), Bool.false_and]; exact f47
            · rw [if_neg (by decide), Bool.true_and]
              rw [Bool.true_and] at t47
              exact t47
    · rw [if_pos ((i32_le24 (by omega)).mpr (by omega)), decide_eq_false h, Bool.false_and]; exact f47
  rw [goal, fin]
  by_cases h : k < 24
  · cases hb : okB op a c n f
    · rw [Bool.and_false, if_neg (by decide), if_neg (fun z => by have := z.2; cases this)]
    · rw [decide_eq_true h, Bool.true_and, if_pos rfl, if_pos ⟨h, rfl⟩]
  · rw [decide_eq_false h, Bool.false_and, if_neg (by decide), if_neg (fun z => h z.1)]
theorem er_clear : f_R_clear (rb w b th ct po pa pb pn pf ln bt kk pl st en wg ws rc rg sk) b = some (ct, rb w b 0 0 po pa pb pn pf ln bt kk pl st en wg ws rc rg sk) := by
  unfold f_R_clear
  simp only [rp_th, ri_ct, rp_ct, Option.bind_some]
theorem er_size : f_R_size (rb w b th ct po pa pb pn pf ln bt kk pl st en wg ws rc rg sk) b = some (ct, rb w b 0 ct po pa pb pn pf ln bt kk pl st en wg ws rc rg sk) := by
  unfold f_R_size
  simp only [rp_th, ri_ct, Option.bind_some]
theorem er_steps : f_R_steps (rb w b th ct po pa pb pn pf ln bt kk pl st en wg ws rc rg sk) b = some (st, rb w b 0 ct po pa pb pn pf ln bt kk pl st en wg ws rc rg sk) := by
  unfold f_R_steps
  simp only [rp_th, ri_st, Option.bind_some]
theorem er_ran : f_R_ran (rb w b th ct po pa pb pn pf ln bt kk pl st en wg ws rc rg sk) b = some (rc, rb w b 0 ct po pa pb pn pf ln bt kk pl st en wg ws rc rg sk) := by
  unfold f_R_ran
  simp only [rp_th, ri_rc, Option.bind_some]
theorem er_thrown : f_R_thrown (rb w b th ct po pa pb pn pf ln bt kk pl st en wg ws rc rg sk) b = some (th, rb w b th ct po pa pb pn pf ln bt kk pl st en wg ws rc rg sk) := by
  unfold f_R_thrown
  simp only [ri_th, Option.bind_some]
def byR (lo hi : Int64) (i : Nat) : Int32 := ((if (8 : Int32) ≤ Int32.ofNat i then hi >>> (((8 : Int32) * (Int32.ofNat i - (8 : Int32))).toInt64 &&& 63) else lo >>> (((8 : Int32) * Int32.ofNat i).toInt64 &&& 63)) &&& (255 : Int64)).toInt32
theorem er_by {lo hi : Int64} {l : Nat} (hl : l ≤ 16) : ∀ (m r n : Nat), r + m = l → m < n → f_R_packet_b27 n (rb w b th ct po pa pb pn pf ln (byt (byR lo hi) bt r) kk pl st en wg ws rc rg sk) b lo hi (Int32.ofNat l) (Int32.ofNat r) = some (1, rb w b th ct po pa pb pn pf ln (byt (byR lo hi) bt l) kk pl st en wg ws rc rg sk) := by
  intro m
  induction m with
  | zero =>
    intro r n hr hn
    obtain ⟨n, rfl⟩ : ∃ q, n = q + 1 := ⟨n - 1, by omega⟩
    obtain rfl : r = l := by omega
    unfold f_R_packet_b27
    rw [xfix_s]
    unfold f_R_packet_s27
    rw [if_pos (Int32.le_refl _)]
    rfl
  | succ m ih =>
    intro r n hr hn
    obtain ⟨n, rfl⟩ : ∃ q, n = q + 1 := ⟨n - 1, by omega⟩
    unfold f_R_packet_b27
    rw [xfix_s]
    unfold f_R_packet_s27
    rw [if_neg (fun z => absurd ((i32_le l (by omega) r (by omega)).mp z) (by omega))]
    have e1 : (Int32.ofNat r).toNatClampNeg = r := i32_nat r (by omega)
    have := ih (r + 1) n (by omega) (by omega)
    unfold f_R_packet_b27 at this
    rw [← byt_up, ← st_add] at this
    simp only [rr_8, Option.bind_some]
    have key : ∀ s0 : Int64, (s0 &&& (255 : Int64)).toInt32 = byR lo hi r → f_R_packet_b67 (xfix (fun _ _ _ _ _ _ => none) f_R_packet_s27 n) (rb w b th ct po pa pb pn pf ln (byt (byR lo hi) bt r) kk pl st en wg ws rc rg sk) b lo hi (Int32.ofNat l) (Int32.ofNat r) (b + 6) (Int32.ofNat r) s0 = some (1, rb w b th ct po pa pb pn pf ln (byt (byR lo hi) bt l) kk pl st en wg ws rc rg sk) := fun s0 hs => by
      unfold f_R_packet_b67
      rw [ru_bt (i32_nneg r (by omega)) (show (Int32.ofNat r).toNatClampNeg < 16 by omega), e1, hs]
      exact this
    by_cases h8 : (8 : Int32) ≤ Int32.ofNat r
    · rw [if_pos h8]
      exact key _ (by unfold byR; rw [if_pos h8])
    · rw [if_neg h8]
      exact key _ (by unfold byR; rw [if_neg h8])
theorem er_packet {lo hi : Int64} {k : Int32} : f_R_packet (rb w b th ct po pa pb pn pf ln bt kk pl st en wg ws rc rg sk) b lo hi k = some (if ¬ k < 0 ∧ k ≤ 16 then (1, rb w b 0 ct po pa pb pn pf k (byt (byR lo hi) bt k.toNatClampNeg) kk pl st en wg ws rc rg sk) else (0, rb w b 0 ct po pa pb pn pf ln bt kk pl st en wg ws rc rg sk)) := by
  unfold f_R_packet
  simp only [rp_th, within_eq, Option.bind_some]
  have e16 : decide (k ≤ 16) = decide (¬ (16 : Int32) < k) := by
    by_cases q : k ≤ 16
    · rw [decide_eq_true q, decide_eq_true (i32_not_lt q)]
    · rw [decide_eq_false q, decide_eq_false (not_not_intro (i32_le_of q))]
  rw [← e16]
  by_cases k0 : k < 0
  · rw [decide_eq_false (not_not_intro k0), Bool.false_and, if_neg (by decide), if_neg (fun z => z.1 k0)]; rfl
  rw [decide_eq_true k0, Bool.true_and]
  by_cases k16 : k ≤ 16
  · rw [decide_eq_true k16, if_pos (by decide), if_pos ⟨k0, k16⟩]
    have ek := i32_of6 k0
    have kl : k.toNatClampNeg ≤ 16 := by
      have e : k.toNatClampNeg = k.toInt.toNat := rfl
      rw [Int32.le_iff_toInt_le, show (16 : Int32).toInt = 16 by decide] at k16
      omega
    simp only [rp_ln, Option.bind_some]
    have := er_by (w := w) (b := b) (th := 0) (ct := ct) (po := po) (pa := pa) (pb := pb) (pn := pn) (pf := pf) (ln := k) (bt := bt) (kk := kk) (pl := pl) (st := st) (en := en) (wg := wg) (ws := ws) (rc := rc) (rg := rg) (sk := sk) (lo := lo) (hi := hi) kl k.toNatClampNeg 0 4000 (by omega) (by omega)
    rw [byt_0, ← ek] at this
    exact this
  · rw [decide_eq_false k16, if_neg (by decide), if_neg (fun z => k16 z.2)]; rfl
theorem er_known {r n : Int32} : f_R_known (rb w b th ct po pa pb pn pf ln bt kk pl st en wg ws rc rg sk) b r n = some (if (¬ r < 0 ∧ r < 6) ∧ ¬ en = 0 then kTold (kk (250 + r.toNatClampNeg)) n else 4611686018427387904, rb w b 0 ct po pa pb pn pf ln bt kk pl st en wg ws rc rg sk) := by
  have o250 : ∀ r, r < 6 → okR ((250 : Int32) + Int32.ofNat r) ∧ ((250 : Int32) + Int32.ofNat r).toNatClampNeg = 250 + r := by
    have h : ∀ r, r < 6 → (¬ ((250 : Int32) + Int32.ofNat r) < 0 ∧ ((250 : Int32) + Int32.ofNat r).toNatClampNeg < 260) ∧ ((250 : Int32) + Int32.ofNat r).toNatClampNeg = 250 + r := by decide
    exact h
  unfold f_R_known f_R_known_b44 f_R_known_b154
  simp only [rp_th, within_eq, Option.bind_some]
  rw [← dec6 r]
  by_cases r0 : r < 0
  · rw [decide_eq_false (not_not_intro r0), Bool.false_and, if_pos (by rfl), if_neg (fun z => z.1.1 r0)]
  rw [decide_eq_true r0, Bool.true_and]
  by_cases r6 : r < 6
  · rw [decide_eq_true r6, if_neg (by decide)]
    have n6 := nat6 r0 r6
    have e := i32_of6 r0
    obtain ⟨o2, e2⟩ := o250 r.toNatClampNeg n6
    rw [← e] at o2 e2
    simp only [ri_en, rr_9, rr_10, rr_11, rr_12, rr_13, rr_14, rr_15, rr_16, rk_0 o2.1 o2.2, rk_1 o2.1 o2.2, rk_2 o2.1 o2.2, rk_3 o2.1 o2.2, rk_4 o2.1 o2.2, rk_5 o2.1 o2.2, rk_6 o2.1 o2.2, rk_7 o2.1 o2.2, e2, Option.bind_some]
    by_cases z : en = 0
    · rw [if_pos z, if_neg (show ¬ ((¬ r < 0 ∧ r < 6) ∧ ¬ en = 0) from fun y => y.2 z)]
      split <;> rfl
    · rw [if_neg z, if_pos (show (¬ r < 0 ∧ r < 6) ∧ ¬ en = 0 from ⟨⟨r0, r6⟩, z⟩)]
      unfold kTold
      by_cases s : (kk (250 + r.toNatClampNeg)).1 = 0
      · rw [if_neg (not_not_intro s)]
        simp only [if_pos s]
        split <;> rfl
      · rw [if_pos s]
        simp only [if_neg s]
        have nf : ¬ n = 0 → ¬ n = 1 → ¬ n = 2 → ¬ n = 3 → ¬ n = 4 → ¬ n = 5 → ¬ n = 6 → (decide (¬ n < 0) && decide (¬ (6 : Int32) < n)) = false := fun a0 a1 a2 a3 a4 a5 a6 => by
          refine Bool.eq_false_iff.mpr (fun y => ?_)
          rw [Bool.and_eq_true, decide_eq_true_eq, decide_eq_true_eq, Int32.lt_iff_toInt_lt, Int32.lt_iff_toInt_lt, show (0 : Int32).toInt = 0 from rfl, show (6 : Int32).toInt = 6 by decide] at y
          have c : ∀ m : Int32, ¬ n = m → n.toInt ≠ m.toInt := fun m hm q => hm (Int32.toInt_inj.mp q)
          have c0 := c 0 a0
          have c1 := c 1 a1
          have c2 := c 2 a2
          have c3 := c 3 a3
          have c4 := c 4 a4
          have c5 := c 5 a5
          have c6 := c 6 a6
          rw [show (0 : Int32).toInt = 0 by decide] at c0
          rw [show (1 : Int32).toInt = 1 by decide] at c1
          rw [show (2 : Int32).toInt = 2 by decide] at c2
          rw [show (3 : Int32).toInt = 3 by decide] at c3
          rw [show (4 : Int32).toInt = 4 by decide] at c4
          rw [show (5 : Int32).toInt = 5 by decide] at c5
          rw [show (6 : Int32).toInt = 6 by decide] at c6
          omega
        by_cases h0 : n = 0
        · subst h0
          rfl
        by_cases h1 : n = 1
        · subst h1
          rfl
        by_cases h2 : n = 2
        · subst h2
          rfl
        by_cases h3 : n = 3
        · subst h3
          rfl
        by_cases h4 : n = 4
        · subst h4
          rfl
        by_cases h5 : n = 5
        · subst h5
          rfl
        by_cases h6 : n = 6
        · subst h6
          rfl
        rw [nf h0 h1 h2 h3 h4 h5 h6, if_pos (by rfl)]
        simp only [if_neg h0, if_neg h1, if_neg h2, if_neg h3, if_neg h4, if_neg h5, if_neg h6]
  · rw [decide_eq_false r6, if_pos (by rfl), if_neg (fun z => r6 z.1.2)]
end K3
