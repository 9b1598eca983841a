/-! The reference's run. -/
theorem bmodI {n : Int} (h1 : -2 ^ 31 ≤ n) (h2 : n < 2 ^ 31) : n.bmod (2 ^ 32) = n := by
  rw [Int.bmod_def]
  omega
theorem fr_ok {n y f : Int32} {l : Nat} (hl : l ≤ 16) (n0 : ¬ n < 0) (n16 : n ≤ 16) (hf : f = 1 ∨ f = 2 ∨ f = 4) (h : frM n y + f.toInt64 ≤ (Int32.ofNat l).toInt64) : ∃ k : Nat, k + f.toNatClampNeg ≤ l ∧ (frM n y).toInt32 = Int32.ofNat k := by
  have hu := u32_toInt y
  have hb := y.toBitVec.isLt
  rw [Int32.lt_iff_toInt_lt, show (0 : Int32).toInt = 0 by decide] at n0
  rw [Int32.le_iff_toInt_le, show (16 : Int32).toInt = 16 by decide] at n16
  have en : n.toInt64.toInt = n.toInt := Int32.toInt_toInt64 n
  have e1 : (frM n y).toInt = (y.toBitVec.toNat : Int) + n.toInt := by
    unfold frM
    rw [i64_add (by omega) (by omega), hu, en]
  have ef : f.toInt64.toInt = (f.toNatClampNeg : Int) ∧ f.toNatClampNeg ≤ 4 := by
    rcases hf with rfl | rfl | rfl <;> decide
  have el : (Int32.ofNat l).toInt64.toInt = (l : Int) := by
    rw [Int32.toInt_toInt64]
    exact toInt_of rfl (by omega)
  rw [Int64.le_iff_toInt_le, i64_add (by omega) (by omega), el, e1, ef.1] at h
  refine ⟨(frM n y).toInt.toNat, by omega, ?_⟩
  apply Int32.toInt_inj.mp
  rw [toInt_of (n := Int32.ofNat (frM n y).toInt.toNat) rfl (by omega), Int64.toInt_toInt32, bmodI (by omega) (by omega)]
  omega
section MR
variable {w : xw} {b : Nat} {th ct : Int32} {po pa pb pn pf : Nat → Int32} {ln : Int32} {bt : Nat → Int32} {kk : Nat → KV} {pl st en wg : Int32} {ws : Nat → Int32} {rc : Int32} {rg sk : Nat → Int32}
theorem er_byA {k : Nat} : ∀ (m n : Nat) (acc l4 : Int32), k + m ≤ 16 → m < n → l4 = Int32.ofNat m - 1 → f_R_bytesAt_b7 n (rb w b th ct po pa pb pn pf ln bt kk pl st en wg ws rc rg sk) b (Int32.ofNat k) acc l4 = some (rbA bt k m acc, rb w b th ct po pa pb pn pf ln bt kk pl st en wg ws rc rg sk) := by
  intro m
  induction m with
  | zero =>
    intro n acc l4 hk hn h4
    obtain ⟨n, rfl⟩ : ∃ q, n = q + 1 := ⟨n - 1, by omega⟩
    unfold f_R_bytesAt_b7
    rw [xfix_s]
    unfold f_R_bytesAt_s7
    rw [if_pos (by rw [h4]; decide)]
    rfl
  | succ m ih =>
    intro n acc l4 hk hn h4
    obtain ⟨n, rfl⟩ : ∃ q, n = q + 1 := ⟨n - 1, by omega⟩
    have e4 : l4 = Int32.ofNat m := by rw [h4]; exact dec_ofNat m
    subst e4
    unfold f_R_bytesAt_b7
    rw [xfix_s]
    unfold f_R_bytesAt_s7
    have ea : Int32.ofNat k + Int32.ofNat m = Int32.ofNat (k + m) := (Int32.ofNat_add k m).symm
    have e1 : (Int32.ofNat (k + m)).toNatClampNeg = k + m := i32_nat _ (by omega)
    rw [if_neg (i32_nneg m (by omega)), ea]
    simp only [rr_8, ra_bt (i32_nneg (k + m) (by omega)) (show (Int32.ofNat (k + m)).toNatClampNeg < 16 by omega), e1, Option.bind_some]
    exact ih n _ _ (by omega) (by omega) (Int32.sub_eq_add_neg _ _).symm
theorem er_r12 {x : Int32} : ∀ (m r n : Nat), r + m = 6 → m < n → f_R_run_b12 n (rb w b th ct po pa pb pn pf ln bt kk pl st en wg ws rc (byt (rI ln x) rg r) sk) b x (Int32.ofNat r) = f_R_run_b54 4000 (rb w b th ct po pa pb pn pf ln bt kk pl st en wg ws rc (byt (rI ln x) rg 6) sk) b 0 := by
  intro m
  induction m with
  | zero =>
    intro r n hr hn
    obtain ⟨n, rfl⟩ : ∃ q, n = q + 1 := ⟨n - 1, by omega⟩
    obtain rfl : r = 6 := by omega
    unfold f_R_run_b12
    rw [xfix_s]
    unfold f_R_run_s12
    rw [if_pos (by decide)]
    rfl
  | succ m ih =>
    intro r n hr hn
    obtain ⟨n, rfl⟩ : ∃ q, n = q + 1 := ⟨n - 1, by omega⟩
    have e1 : (Int32.ofNat r).toNatClampNeg = r := i32_nat r (by omega)
    have := ih (r + 1) n (by omega) (by omega)
    unfold f_R_run_b12 at this ⊢
    rw [← byt_up, ← st_add] at this
    rw [xfix_s]
    unfold f_R_run_s12
    rw [if_neg (show ¬ (6 : Int32) ≤ Int32.ofNat r from fun z => absurd ((i32_le 6 (by omega) r (by omega)).mp z) (by omega))]
    have key : ∀ s2 : Int32, s2 = rI ln x r → f_R_run_b45 (xfix (fun _ _ _ _ => none) f_R_run_s12 n) (rb w b th ct po pa pb pn pf ln bt kk pl st en wg ws rc (byt (rI ln x) rg r) sk) b x (Int32.ofNat r) (b + 16) (Int32.ofNat r) s2 = f_R_run_b54 4000 (rb w b th ct po pa pb pn pf ln bt kk pl st en wg ws rc (byt (rI ln x) rg 6) sk) b 0 := fun s2 h => by
      unfold f_R_run_b45
      rw [ru_rg (i32_nneg r (by omega)) (show (Int32.ofNat r).toNatClampNeg < 6 by omega), e1, h]
      exact this
    simp only [rr_23, ri_ln, Option.bind_some]
    have q1 : (Int32.ofNat r = 1) ↔ r = 1 := by
      constructor
      · intro z; rw [z] at e1; rw [← e1]; decide
      · intro z; rw [z]; decide
    have q2 : (Int32.ofNat r = 2) ↔ r = 2 := by
      constructor
      · intro z; rw [z] at e1; rw [← e1]; decide
      · intro z; rw [z]; decide
    by_cases r1 : r = 1
    · rw [if_neg (not_not_intro (q1.mpr r1))]
      exact key _ (by unfold rI; rw [if_pos r1])
    rw [if_pos (fun z => r1 (q1.mp z))]
    by_cases r2 : r = 2
    · rw [if_neg (not_not_intro (q2.mpr r2))]
      exact key _ (by unfold rI; rw [if_neg r1, if_pos r2])
    · rw [if_pos (fun z => r2 (q2.mp z))]
      exact key _ (by unfold rI; rw [if_neg r1, if_neg r2])
theorem er_r54 : ∀ (m r n : Nat), r + m = 4 → m < n → f_R_run_b54 n (rb w b th ct po pa pb pn pf ln bt kk pl st en wg ws rc rg (byt (fun _ => 0) sk r)) b (Int32.ofNat r) = f_R_run_b74 4000 (rb w b th ct po pa pb pn pf ln bt kk pl st en wg ws rc rg (byt (fun _ => 0) sk 4)) b 0 := by
  intro m
  induction m with
  | zero =>
    intro r n hr hn
    obtain ⟨n, rfl⟩ : ∃ q, n = q + 1 := ⟨n - 1, by omega⟩
    obtain rfl : r = 4 := by omega
    unfold f_R_run_b54
    rw [xfix_s]
    unfold f_R_run_s54
    rw [if_pos (by decide)]
    rfl
  | succ m ih =>
    intro r n hr hn
    obtain ⟨n, rfl⟩ : ∃ q, n = q + 1 := ⟨n - 1, by omega⟩
    have e1 : (Int32.ofNat r).toNatClampNeg = r := i32_nat r (by omega)
    have := ih (r + 1) n (by omega) (by omega)
    unfold f_R_run_b54 at this ⊢
    rw [← byt_up, ← st_add] at this
    rw [xfix_s]
    unfold f_R_run_s54
    rw [if_neg (show ¬ (4 : Int32) ≤ Int32.ofNat r from fun z => absurd ((i32_le 4 (by omega) r (by omega)).mp z) (by omega))]
    simp only [rr_24, ru_sk (i32_nneg r (by omega)) (show (Int32.ofNat r).toNatClampNeg < 4 by omega), e1, Option.bind_some]
    exact this
/-- what stands behind one instruction of the reference -/
def rNx (r : xw → Nat → Int32 → Option (Int32 × xw)) (F : Int32 → (Nat → Int32) → (Nat → Int32) → xw) (b : Nat) (p f : Int32) (rg sk : Nat → Int32) (z : Int32 ⊕ (Bool × (Nat → Int32) × (Nat → Int32))) : Option (Int32 × xw) := match z with
  | .inl k => some (0, F k rg sk)
  | .inr (j, rg', sk') => r (F 0 rg' sk') b (if j = true then p + 1 + f else p + 1)
theorem er_420 {r : xw → Nat → Int32 → Option (Int32 × xw)} {p : Nat} (hp : p < 24) (j : Bool) : f_R_run_b420 r (rb w b 0 ct po pa pb pn pf ln bt kk pl st en wg ws rc rg sk) b (Int32.ofNat p) (b01 j) = r (rb w b 0 ct po pa pb pn pf ln bt kk pl st en wg ws rc rg sk) b (if j = true then Int32.ofNat p + 1 + pf p else Int32.ofNat p + 1) := by
  have e1 : (Int32.ofNat p).toNatClampNeg = p := i32_nat p (by omega)
  unfold f_R_run_b420 f_R_run_b441
  cases j
  · rw [if_pos (by decide), if_neg (by decide)]
  · rw [if_neg (by decide), if_pos rfl]
    simp only [rr_6, ra_pf (i32_nneg p (by omega)) (show (Int32.ofNat p).toNatClampNeg < 24 by omega), e1, Option.bind_some]
theorem er_147 {r : xw → Nat → Int32 → Option (Int32 × xw)} {p l : Nat} {op a y bb : Int32} (hp : p < 24) (hl : l ≤ 16) (hv : okV (op, a, bb, pn p, pf p)) (h23 : ¬ op = 23) : f_R_run_b147 r (rb w b 0 ct po pa pb pn pf (Int32.ofNat l) bt kk pl st en wg ws rc rg sk) b (Int32.ofNat p) op a y = rNx r (fun k rg sk => rb w b k ct po pa pb pn pf (Int32.ofNat l) bt kk pl st en wg ws rc rg sk) b (Int32.ofNat p) (pf p) rg sk (mstY (Int32.ofNat l) bt op a (pn p) (pf p) y rg sk) := by
  have e1 : (Int32.ofNat p).toNatClampNeg = p := i32_nat p (by omega)
  have p0 := i32_nneg p (by omega)
  have p24 : (Int32.ofNat p).toNatClampNeg < 24 := by omega
  obtain ⟨⟨⟨a0, a6⟩, -⟩, ⟨op0, op23⟩, h145, h14f, -⟩ := hv
  dsimp only at a0 a6 op0 op23 h145 h14f
  have j0 := fun rg sk => er_420 (w := w) (b := b) (ct := ct) (po := po) (pa := pa) (pb := pb) (pn := pn) (pf := pf) (ln := Int32.ofNat l) (bt := bt) (kk := kk) (pl := pl) (st := st) (en := en) (wg := wg) (ws := ws) (rc := rc) (rg := rg) (sk := sk) (r := r) hp false
  have j1 := fun j => er_420 (w := w) (b := b) (ct := ct) (po := po) (pa := pa) (pb := pb) (pn := pn) (pf := pf) (ln := Int32.ofNat l) (bt := bt) (kk := kk) (pl := pl) (st := st) (en := en) (wg := wg) (ws := ws) (rc := rc) (rg := rg) (sk := sk) (r := r) hp j
  rw [b01_f] at j0
  unfold f_R_run_b147 f_R_run_b160 f_R_run_b174 f_R_run_b185 f_R_run_b197 f_R_run_b213 f_R_run_b394 mstY
  by_cases h22 : op = 22
  · have d : ∀ k : Int32, ¬ (22 : Int32) = k → ¬ op = k := fun k h q => h (h22.symm.trans q)
    rw [if_neg (not_not_intro h22), if_neg (d 10 (by decide)), if_pos (d 11 (by decide)), if_neg (d 12 (by decide)), if_pos (d 13 (by decide)), if_pos (show (11 : Int32) < op by rw [h22]; decide), if_pos (d 12 (by decide)), if_pos (d 13 (by decide)), if_pos (d 14 (by decide)), if_pos (d 15 (by decide)), if_pos (show (21 : Int32) < op by rw [h22]; decide), if_pos h22]
    exact j1 true
  rw [if_pos h22, if_neg h22]
  by_cases h16 : (16 : Int32) ≤ op
  · have d : ∀ k : Int32, ¬ (16 : Int32) ≤ k → ¬ op = k := fun k h q => h (q ▸ h16)
    have u21 : ¬ (21 : Int32) < op := fun q => by
      rw [Int32.lt_iff_toInt_lt, show (21 : Int32).toInt = 21 by decide] at q
      rw [Int32.le_iff_toInt_le, show (23 : Int32).toInt = 23 by decide] at op23
      rcases (show op.toInt = 22 ∨ op.toInt = 23 by omega) with q | q
      · exact h22 (Int32.toInt_inj.mp (q.trans (by decide)))
      · exact h23 (Int32.toInt_inj.mp (q.trans (by decide)))
    have g11 : (11 : Int32) < op := by
      rw [Int32.lt_iff_toInt_lt, show (11 : Int32).toInt = 11 by decide]
      rw [Int32.le_iff_toInt_le, show (16 : Int32).toInt = 16 by decide] at h16
      omega
    rw [if_neg (d 10 (by decide)), if_pos (d 11 (by decide)), if_neg (d 12 (by decide)), if_pos (d 13 (by decide)), if_pos g11, if_pos (d 12 (by decide)), if_pos (d 13 (by decide)), if_pos (d 14 (by decide)), if_pos (d 15 (by decide)), if_neg u21, if_pos h16]
    simp only [rr_23, ra_rg a0 a6, rhold h16 (Int32.not_lt.mp u21), Option.bind_some]
    exact j1 _
  rw [if_neg h16]
  by_cases h15 : op = 15
  · have d : ∀ k : Int32, ¬ (15 : Int32) = k → ¬ op = k := fun k h q => h (h15.symm.trans q)
    rw [if_neg (d 10 (by decide)), if_pos (d 11 (by decide)), if_neg (d 12 (by decide)), if_pos (d 13 (by decide)), if_pos (show (11 : Int32) < op by rw [h15]; decide), if_pos (d 12 (by decide)), if_pos (d 13 (by decide)), if_pos (d 14 (by decide)), if_neg (not_not_intro h15), if_pos h15]
    simp only [rr_5, ra_pn p0 p24, e1, ri_ln, Option.bind_some]
    rw [show (y.toInt64 &&& (4294967295 : Int64)) + (pn p).toInt64 = frM (pn p) y from rfl]
    by_cases q : frM (pn p) y ≤ (Int32.ofNat l).toInt64
    · rw [if_pos q, decide_eq_false (not_not_intro q)]; exact j1 false
    · rw [if_neg q, decide_eq_true q]; exact j1 true
  rw [if_neg h15]
  have wi : ∀ y : Int32, f_R_within y 0 3 = some (b01 (decide (¬ (y < 0 ∨ (3 : Int32) < y)))) := fun y => by
    rw [within_eq]
    by_cases q0 : y < 0
    · rw [decide_eq_false (not_not_intro q0), decide_eq_false (not_not_intro (Or.inl q0))]; rfl
    · by_cases q3 : (3 : Int32) < y
      · rw [decide_eq_false (not_not_intro q3), decide_eq_false (not_not_intro (Or.inr q3)), Bool.and_false]
      · rw [decide_eq_true q0, decide_eq_true q3, decide_eq_true (show ¬ (y < 0 ∨ (3 : Int32) < y) from fun z => z.elim q0 q3)]; rfl
  have y4 : ¬ (y < 0 ∨ (3 : Int32) < y) → ¬ y < 0 ∧ y.toNatClampNeg < 4 := fun q => by
    refine ⟨fun z => q (Or.inl z), ?_⟩
    have q3 : ¬ (3 : Int32) < y := fun z => q (Or.inr z)
    have e : y.toNatClampNeg = y.toInt.toNat := rfl
    rw [Int32.lt_iff_toInt_lt, show (3 : Int32).toInt = 3 by decide] at q3
    omega
  by_cases h13 : op = 13
  · have d : ∀ k : Int32, ¬ (13 : Int32) = k → ¬ op = k := fun k h q => h (h13.symm.trans q)
    rw [if_neg (d 10 (by decide)), if_pos (d 11 (by decide)), if_neg (d 12 (by decide)), if_neg (not_not_intro h13), if_pos (show (11 : Int32) < op by rw [h13]; decide), if_pos (d 12 (by decide)), if_neg (not_not_intro h13), if_pos h13]
    simp only [wi, Option.bind_some]
    by_cases q : y < 0 ∨ (3 : Int32) < y
    · rw [decide_eq_false (not_not_intro q), if_neg (by decide), if_pos q]
      unfold f_R_refuse
      simp only [rck, rp_th, Option.bind_some]
      rfl
    · rw [decide_eq_true q, if_pos (by decide), if_neg q]
      simp only [rr_23, rr_24, ra_rg a0 a6, ru_sk (y4 q).1 (y4 q).2, Option.bind_some]
      exact er_420 hp false
  rw [if_neg h13]
  by_cases h12 : op = 12
  · have d : ∀ k : Int32, ¬ (12 : Int32) = k → ¬ op = k := fun k h q => h (h12.symm.trans q)
    rw [if_neg (d 10 (by decide)), if_pos (d 11 (by decide)), if_pos h12, if_pos (show (11 : Int32) < op by rw [h12]; decide), if_neg (not_not_intro h12), if_pos h12]
    simp only [wi, Option.bind_some]
    by_cases q : y < 0 ∨ (3 : Int32) < y
    · rw [decide_eq_false (not_not_intro q), if_neg (by decide), if_pos q]
      unfold f_R_refuse
      simp only [rck, rp_th, Option.bind_some]
      rfl
    · rw [decide_eq_true q, if_pos (by decide), if_neg q]
      simp only [rr_23, rr_24, ra_sk (y4 q).1 (y4 q).2, ru_rg a0 a6, Option.bind_some]
      exact er_420 hp false
  rw [if_neg h12]
  by_cases h14 : op = 14
  · have d : ∀ k : Int32, ¬ (14 : Int32) = k → ¬ op = k := fun k h q => h (h14.symm.trans q)
    rw [if_neg (d 10 (by decide)), if_pos (d 11 (by decide)), if_neg h12, if_pos h13, if_pos (show (11 : Int32) < op by rw [h14]; decide), if_pos h12, if_pos h13, if_neg (not_not_intro h14), if_pos h14]
    simp only [rr_5, rr_6, ra_pn p0 p24, ra_pf p0 p24, e1, ri_ln, Option.bind_some]
    rw [show (y.toInt64 &&& (4294967295 : Int64)) + (pn p).toInt64 = frM (pn p) y from rfl]
    by_cases q : frM (pn p) y + (pf p).toInt64 ≤ (Int32.ofNat l).toInt64
    · rw [if_pos q, if_pos q]
      obtain ⟨-, n0, n16⟩ := h145 (Or.inl h14)
      have hf := h14f h14
      obtain ⟨k, hk, ek⟩ := fr_ok hl n0 n16 hf q
      have ef : pf p = Int32.ofNat (pf p).toNatClampNeg := by
        rcases hf with q | q | q <;> rw [q] <;> decide
      have ek2 : (Int32.ofNat k).toNatClampNeg = k := i32_nat k (by omega)
      have hby := er_byA (w := w) (b := b) (th := 0) (ct := ct) (po := po) (pa := pa) (pb := pb) (pn := pn) (pf := pf) (ln := Int32.ofNat l) (bt := bt) (kk := kk) (pl := pl) (st := st) (en := en) (wg := wg) (ws := ws) (rc := rc) (rg := rg) (sk := sk) (k := k) (pf p).toNatClampNeg 4000 0 (pf p - 1) (by omega) (by omega) (by rw [← ef])
      have hby2 : f_R_bytesAt (rb w b 0 ct po pa pb pn pf (Int32.ofNat l) bt kk pl st en wg ws rc rg sk) b (Int32.ofNat k) (pf p) = some (rbA bt k (pf p).toNatClampNeg 0, rb w b 0 ct po pa pb pn pf (Int32.ofNat l) bt kk pl st en wg ws rc rg sk) := hby
      rw [ek, ek2]
      simp only [rr_23, rck, hby2, ru_rg a0 a6, Option.bind_some]
      exact er_420 hp false
    · rw [if_neg q, if_neg q]
      unfold f_R_refuse
      simp only [rck, rp_th, Option.bind_some]
      rfl
  rw [if_neg h14]
  have l11 : op ≤ 11 := by
    rw [Int32.le_iff_toInt_le, show (16 : Int32).toInt = 16 by decide] at h16
    rw [Int32.le_iff_toInt_le, show (11 : Int32).toInt = 11 by decide]
    have n1 : ¬ op.toInt = 12 := fun q => h12 (Int32.toInt_inj.mp (q.trans (by decide)))
    have n2 : ¬ op.toInt = 13 := fun q => h13 (Int32.toInt_inj.mp (q.trans (by decide)))
    have n3 : ¬ op.toInt = 14 := fun q => h14 (Int32.toInt_inj.mp (q.trans (by decide)))
    have n4 : ¬ op.toInt = 15 := fun q => h15 (Int32.toInt_inj.mp (q.trans (by decide)))
    omega
  have fin : ¬ ((op = 10 ∨ op = 11) ∧ y = 0) → ((xfR (rb w b 0 ct po pa pb pn pf (Int32.ofNat l) bt kk pl st en wg ws rc rg sk) b 8 23).bind fun a27 => (xfR (rb w b 0 ct po pa pb pn pf (Int32.ofNat l) bt kk pl st en wg ws rc rg sk) b 8 23).bind fun a28 => (xaI (rb w b 0 ct po pa pb pn pf (Int32.ofNat l) bt kk pl st en wg ws rc rg sk) a28 a).bind fun x29 => (f_R_reckon op x29 y).bind fun q30 => (xsI (rb w b 0 ct po pa pb pn pf (Int32.ofNat l) bt kk pl st en wg ws rc rg sk) a27 a q30).bind fun w31 => f_R_run_b420 r w31 b (Int32.ofNat p) 0) = rNx r (fun k rg sk => rb w b k ct po pa pb pn pf (Int32.ofNat l) bt kk pl st en wg ws rc rg sk) b (Int32.ofNat p) (pf p) rg sk (.inr (false, upd rg a.toNatClampNeg (rkB op (rg a.toNatClampNeg) y), sk)) := fun hz => by
    simp only [rr_23, ra_rg a0 a6, rreck hz l11 op0, ru_rg a0 a6, Option.bind_some]
    exact er_420 hp false
  have l11' : ¬ (11 : Int32) < op := i32_not_lt l11
  by_cases h10 : op = 10
  · rw [if_pos h10]
    by_cases y0 : y = 0
    · rw [if_neg (not_not_intro y0), if_pos (show (op = 10 ∨ op = 11) ∧ y = 0 from ⟨Or.inl h10, y0⟩), if_neg h12]
      unfold f_R_refuse
      simp only [rck, rp_th, Option.bind_some]
      rfl
    · rw [if_pos y0, if_neg h12, if_pos h13, if_neg l11', if_neg (show ¬ ((op = 10 ∨ op = 11) ∧ y = 0) from fun z => y0 z.2)]
      exact fin (fun z => y0 z.2)
  rw [if_neg h10]
  by_cases h11 : op = 11
  · rw [if_neg (not_not_intro h11)]
    by_cases y0 : y = 0
    · rw [if_neg (not_not_intro y0), if_pos (show (op = 10 ∨ op = 11) ∧ y = 0 from ⟨Or.inr h11, y0⟩), if_neg h12]
      unfold f_R_refuse
      simp only [rck, rp_th, Option.bind_some]
      rfl
    · rw [if_pos y0, if_neg h12, if_pos h13, if_neg l11', if_neg (show ¬ ((op = 10 ∨ op = 11) ∧ y = 0) from fun z => y0 z.2)]
      exact fin (fun z => y0 z.2)
  · rw [if_pos h11, if_neg h12, if_pos h13, if_neg l11', if_neg (show ¬ ((op = 10 ∨ op = 11) ∧ y = 0) from fun z => z.1.elim h10 h11)]
    exact fin (fun z => z.1.elim h10 h11)
end MR
