/-! The class's machine does what the machine is said to do. -/
def kN (k : Int32) : String := if k = 1 then "java/lang/IllegalStateException" else if k = 2 then "java/lang/ArithmeticException" else "java/lang/IndexOutOfBoundsException"
def mOK (x : Option (Int32 × xw)) (t : Option (String × xw)) (F : (Nat → Int32) → (Nat → Int32) → xw) (mr ms : Nat → Int32) (z : Int32 ⊕ (Bool × (Nat → Int32) × (Nat → Int32))) : Prop := match z with
  | .inl k => x = none ∧ t = some (kN k, F mr ms)
  | .inr (j, r, s) => x = some (b01 j, F r s)
def aOK (x : Option (Int32 × xw)) (t : Option (String × xw)) (F : (Nat → Int32) → (Nat → Int32) → Int32 → xw) (z : MV) : Prop := (z.1 = 0 ∧ x = some (z.2.1, F z.2.2.1 z.2.2.2.1 z.2.2.2.2)) ∨ (¬ z.1 = 0 ∧ x = none ∧ t = some (kN z.1, F z.2.2.1 z.2.2.2.1 z.2.2.2.2))
theorem mst_k {ln op a n f y : Int32} {bt rg sk : Nat → Int32} {k : Int32} (h : mstY ln bt op a n f y rg sk = .inl k) : ¬ k = 0 := by
  unfold mstY at h
  split at h
  · cases h
  split at h
  · cases h
  split at h
  · cases h
  split at h
  · split at h
    · cases h; decide
    · cases h
  split at h
  · split at h
    · cases h; decide
    · cases h
  split at h
  · split at h
    · cases h
    · cases h; decide
  split at h
  · cases h; decide
  · cases h
theorem uns_e (y : Int32) : f_G_unsigned y = some (u32 y) := rfl
theorem mhold {op x y : Int32} (h1 : (16 : Int32) ≤ op) (h2 : op ≤ 21) : f_M_holds op x y = some (b01 (hoB op x y)) := by
  have lt64 : ∀ a b : Int64, (¬ b ≤ a) ↔ a < b := fun a b => Int64.not_le
  unfold f_M_holds f_M_holds_b46 f_M_holds_b57 f_M_holds_b75 f_M_holds_b93 f_M_holds_b104 f_M_holds_b115 hoB
  simp only [uns_e, Option.bind_some]
  by_cases e16 : op = 16
  · rw [if_pos e16, if_pos e16]
    by_cases e : x = y
    · rw [if_neg (not_not_intro e), decide_eq_true e]; rfl
    · rw [if_pos e, decide_eq_false e]; rfl
  rw [if_neg e16, if_neg e16]
  by_cases e17 : op = 17
  · rw [if_pos e17, if_pos e17]
    by_cases e : x = y
    · rw [if_pos e, decide_eq_false (not_not_intro e)]; rfl
    · rw [if_neg e, decide_eq_true e]; rfl
  rw [if_neg e17, if_neg e17]
  by_cases e18 : op = 18
  · rw [if_pos e18, if_pos e18]
    by_cases e : u32 y ≤ u32 x
    · rw [if_pos e, decide_eq_false (fun z => absurd e ((lt64 _ _).mpr z))]; rfl
    · rw [if_neg e, decide_eq_true ((lt64 _ _).mp e)]; rfl
  rw [if_neg e18, if_neg e18]
  by_cases e19 : op = 19
  · rw [if_pos e19, if_pos e19]
    by_cases e : u32 x < u32 y
    · rw [if_pos e, decide_eq_false (not_not_intro e)]; rfl
    · rw [if_neg e, decide_eq_true e]; rfl
  rw [if_neg e19, if_neg e19]
  by_cases e20 : op = 20
  · rw [if_pos e20, if_pos e20]
    by_cases e : y ≤ x
    · rw [if_pos e, decide_eq_false (i32_not_lt e)]; rfl
    · rw [if_neg e, decide_eq_true (i32_le_of e)]; rfl
  rw [if_neg e20, if_neg e20]
  by_cases e : x < y
  · rw [if_pos e, decide_eq_false (not_not_intro e)]; rfl
  · rw [if_neg e, decide_eq_true e]; rfl
theorem op_0n {op : Int32} (h0 : ¬ op < 0) (h1 : op ≤ 11) (n : ∀ k : Nat, 1 ≤ k → k ≤ 11 → ¬ op = Int32.ofNat k) : op = 0 := by
  rw [Int32.le_iff_toInt_le, show (11 : Int32).toInt = 11 by decide] at h1
  have h0' := h0
  rw [Int32.lt_iff_toInt_lt, show (0 : Int32).toInt = 0 by decide] at h0'
  have e := i32_of6 h0
  have e2 : op.toNatClampNeg = op.toInt.toNat := rfl
  by_cases q : op.toNatClampNeg = 0
  · rw [q] at e; rw [e]; rfl
  · exact absurd e (n _ (by omega) (by omega))
theorem mcomp {W : xw} {op x y : Int32} (h0 : ¬ op < 0) (h1 : op ≤ 11) : (((op = 10 ∨ op = 11) ∧ y = 0) → f_M_compute W op x y = none ∧ th_M_compute W op x y = some ("java/lang/ArithmeticException", W)) ∧ (¬ ((op = 10 ∨ op = 11) ∧ y = 0) → f_M_compute W op x y = some (rkB op x y, W)) := by
  constructor
  · rintro ⟨h, y0⟩
    have d : ∀ k : Int32, ¬ k = 10 → ¬ k = 11 → ¬ op = k := fun k q1 q2 e => h.elim (fun z => q1 (e.symm.trans z)) (fun z => q2 (e.symm.trans z))
    have c1 : f_M_checkedDivisor W y = none := by
      unfold f_M_checkedDivisor
      rw [if_neg (not_not_intro y0)]
    have c2 : th_M_checkedDivisor W y = some ("java/lang/ArithmeticException", W) := by
      unfold th_M_checkedDivisor
      rw [if_neg (not_not_intro y0)]
    unfold f_M_compute th_M_compute
    simp only [if_neg (d 1 (by decide) (by decide)), if_neg (d 2 (by decide) (by decide)), if_neg (d 3 (by decide) (by decide)), if_neg (d 4 (by decide) (by decide)), if_neg (d 5 (by decide) (by decide)), if_neg (d 6 (by decide) (by decide)), if_neg (d 7 (by decide) (by decide)), if_neg (d 8 (by decide) (by decide)), if_neg (d 9 (by decide) (by decide)), uns_e, c1, c2, xor2, Option.bind_some, Option.bind_none]
    rcases h with h | h
    · rw [if_pos h, if_pos h]; exact ⟨rfl, rfl⟩
    · have n10 : ¬ op = 10 := fun z => by rw [h] at z; exact absurd z (by decide)
      rw [if_neg n10, if_neg n10, if_pos h, if_pos h]; exact ⟨rfl, rfl⟩
  · intro h
    unfold f_M_compute rkB
    by_cases e1 : op = 1
    · rw [if_pos e1, if_neg (show ¬ op = 0 by rw [e1]; decide), if_pos e1]
    rw [if_neg e1]
    by_cases e2 : op = 2
    · rw [if_pos e2, if_neg (show ¬ op = 0 by rw [e2]; decide), if_neg e1, if_pos e2]
    rw [if_neg e2]
    by_cases e3 : op = 3
    · rw [if_pos e3, if_neg (show ¬ op = 0 by rw [e3]; decide), if_neg e1, if_neg e2, if_pos e3]
    rw [if_neg e3]
    by_cases e4 : op = 4
    · rw [if_pos e4, if_neg (show ¬ op = 0 by rw [e4]; decide), if_neg e1, if_neg e2, if_neg e3, if_pos e4]
    rw [if_neg e4]
    by_cases e5 : op = 5
    · rw [if_pos e5, if_neg (show ¬ op = 0 by rw [e5]; decide), if_neg e1, if_neg e2, if_neg e3, if_neg e4, if_pos e5]
    rw [if_neg e5]
    by_cases e6 : op = 6
    · rw [if_pos e6, if_neg (show ¬ op = 0 by rw [e6]; decide), if_neg e1, if_neg e2, if_neg e3, if_neg e4, if_neg e5, if_pos e6]
    rw [if_neg e6]
    by_cases e7 : op = 7
    · rw [if_pos e7, if_neg (show ¬ op = 0 by rw [e7]; decide), if_neg e1, if_neg e2, if_neg e3, if_neg e4, if_neg e5, if_neg e6, if_pos e7]
    rw [if_neg e7]
    by_cases e8 : op = 8
    · rw [if_pos e8, if_neg (show ¬ op = 0 by rw [e8]; decide), if_neg e1, if_neg e2, if_neg e3, if_neg e4, if_neg e5, if_neg e6, if_neg e7, if_pos e8]
    rw [if_neg e8]
    by_cases e9 : op = 9
    · rw [if_pos e9, if_neg (show ¬ op = 0 by rw [e9]; decide), if_neg e1, if_neg e2, if_neg e3, if_neg e4, if_neg e5, if_neg e6, if_neg e7, if_neg e8, if_pos e9]
    rw [if_neg e9]
    by_cases e10 : op = 10
    · have hy : ¬ y = 0 := fun q => h ⟨Or.inl e10, q⟩
      rw [if_pos e10, if_neg (show ¬ op = 0 by rw [e10]; decide), if_neg e1, if_neg e2, if_neg e3, if_neg e4, if_neg e5, if_neg e6, if_neg e7, if_neg e8, if_neg e9, if_pos e10]
      unfold f_M_checkedDivisor
      rw [if_pos hy]
      simp only [uns_e, Option.bind_some]
      rw [if_neg (fun q => hy ((u32_0 y).mp q))]
    rw [if_neg e10]
    by_cases e11 : op = 11
    · have hy : ¬ y = 0 := fun q => h ⟨Or.inr e11, q⟩
      rw [if_pos e11, if_neg (show ¬ op = 0 by rw [e11]; decide), if_neg e1, if_neg e2, if_neg e3, if_neg e4, if_neg e5, if_neg e6, if_neg e7, if_neg e8, if_neg e9, if_neg e10]
      unfold f_M_checkedDivisor
      rw [if_pos hy]
      simp only [uns_e, Option.bind_some]
      rw [if_neg (fun q => hy ((u32_0 y).mp q))]
    rw [if_neg e11]
    have e0 : op = 0 := op_0n h0 h1 (fun k k1 k2 => by
      have : k = 1 ∨ k = 2 ∨ k = 3 ∨ k = 4 ∨ k = 5 ∨ k = 6 ∨ k = 7 ∨ k = 8 ∨ k = 9 ∨ k = 10 ∨ k = 11 := by omega
      rcases this with rfl | rfl | rfl | rfl | rfl | rfl | rfl | rfl | rfl | rfl | rfl
      · exact e1
      · exact e2
      · exact e3
      · exact e4
      · exact e5
      · exact e6
      · exact e7
      · exact e8
      · exact e9
      · exact e10
      · exact e11)
    rw [if_pos e0]
/-- bytes k .. k+r-1, the first one lowest -/
def ldC (bt : Nat → Int32) (k : Nat) : Nat → Int32
  | 0 => 0
  | r + 1 => ldC bt k r ||| (bt (k + r) <<< (((8 : Int32) * Int32.ofNat r) &&& 31))
theorem shl_bv {x n : Int32} {k : Nat} (h : (n.toBitVec.smod 32).toNat = k) : (x <<< n).toBitVec = x.toBitVec <<< k := by
  rw [Int32.toBitVec_shiftLeft, BitVec.shiftLeft_eq', h]
theorem or4 (a b c d : BitVec 32) : a ||| b ||| c ||| d = d ||| c ||| b ||| a := by
  apply BitVec.eq_of_getLsbD_eq
  intro i hi
  simp only [BitVec.getLsbD_or]
  cases a.getLsbD i <;> cases b.getLsbD i <;> cases c.getLsbD i <;> cases d.getLsbD i <;> rfl
theorem ldC_eq {bt : Nat → Int32} {k : Nat} {f : Int32} (hf : f = 1 ∨ f = 2 ∨ f = 4) : ldC bt k f.toNatClampNeg = rbA bt k f.toNatClampNeg 0 := by
  have s0 : ∀ x : Int32, (x <<< (((8 : Int32) * Int32.ofNat 0) &&& 31)).toBitVec = x.toBitVec <<< 0 := fun x => shl_bv (by decide)
  have s1 : ∀ x : Int32, (x <<< (((8 : Int32) * Int32.ofNat 1) &&& 31)).toBitVec = x.toBitVec <<< 8 := fun x => shl_bv (by decide)
  have s2 : ∀ x : Int32, (x <<< (((8 : Int32) * Int32.ofNat 2) &&& 31)).toBitVec = x.toBitVec <<< 16 := fun x => shl_bv (by decide)
  have s3 : ∀ x : Int32, (x <<< (((8 : Int32) * Int32.ofNat 3) &&& 31)).toBitVec = x.toBitVec <<< 24 := fun x => shl_bv (by decide)
  have s8 : ∀ x : Int32, (x <<< ((8 : Int32) &&& 31)).toBitVec = x.toBitVec <<< 8 := fun x => shl_bv (by decide)
  have z : (0 : Int32).toBitVec = 0#32 := rfl
  apply Int32.toBitVec_inj.mp
  rcases hf with rfl | rfl | rfl
  · show (ldC bt k 1).toBitVec = (rbA bt k 1 0).toBitVec
    simp only [ldC, rbA, Int32.toBitVec_or, s0, s8, z, BitVec.shiftLeft_zero, BitVec.zero_or, BitVec.zero_shiftLeft]
  · show (ldC bt k 2).toBitVec = (rbA bt k 2 0).toBitVec
    simp only [ldC, rbA, Int32.toBitVec_or, s0, s1, s8, z, BitVec.shiftLeft_zero, BitVec.zero_or, BitVec.zero_shiftLeft, BitVec.shiftLeft_or_distrib]
    exact BitVec.or_comm _ _
  · show (ldC bt k 4).toBitVec = (rbA bt k 4 0).toBitVec
    simp only [ldC, rbA, Int32.toBitVec_or, s0, s1, s2, s3, s8, z, BitVec.shiftLeft_zero, BitVec.zero_or, BitVec.zero_shiftLeft, BitVec.shiftLeft_or_distrib, ← BitVec.shiftLeft_add]
    exact or4 _ _ _ _
section MC
variable {w : xw} {g : Nat} {ii : Nat → IV} {bt wt : Nat → Int32} {en st : Int32} {mr ms : Nat → Int32} {mi : Int32} {kc : Nat → KV} {c l : Nat}
abbrev CW (w : xw) (g c : Nat) (ii : Nat → IV) (l : Nat) (bt wt : Nat → Int32) (en st : Int32) (kc : Nat → KV) (mr ms : Nat → Int32) (mi : Int32) : xw := ew (cb w g (Int32.ofNat c) ii (Int32.ofNat l) bt wt en st mr ms mi) (cP g) kc
theorem cm_ld {k : Nat} {from' : Int64} {f : Int32} (hk : k + f.toNatClampNeg ≤ 16) (hf : ¬ f < 0) (ek : from'.toInt32 = Int32.ofNat k) : ∀ (m r n : Nat), r + m = f.toNatClampNeg → m < n → f_M_load_b32 n (CW w g c ii l bt wt en st kc mr ms mi) (g + 373) from' f (ldC bt k r) (Int32.ofNat r) = some (ldC bt k f.toNatClampNeg, CW w g c ii l bt wt en st kc mr ms mi) := by
  have ef := i32_of6 hf
  intro m
  induction m with
  | zero =>
    intro r n hr hn
    obtain ⟨n, rfl⟩ : ∃ q, n = q + 1 := ⟨n - 1, by omega⟩
    obtain rfl : r = f.toNatClampNeg := by omega
    unfold f_M_load_b32
    rw [xfix_s]
    unfold f_M_load_s32
    rw [if_pos (by rw [← ef]; exact Int32.le_refl _)]
  | succ m ih =>
    intro r n hr hn
    obtain ⟨n, rfl⟩ : ∃ q, n = q + 1 := ⟨n - 1, by omega⟩
    have := ih (r + 1) n (by omega) (by omega)
    unfold f_M_load_b32 at this ⊢
    rw [← st_add] at this
    rw [xfix_s]
    unfold f_M_load_s32
    have ea : Int32.ofNat k + Int32.ofNat r = Int32.ofNat (k + r) := (Int32.ofNat_add k r).symm
    have e1 : (Int32.ofNat (k + r)).toNatClampNeg = k + r := i32_nat _ (by omega)
    rw [if_neg (fun z => by rw [ef] at z; exact absurd ((le_iff60 (by omega) (by omega)).mp z) (by omega)), ek, ea]
    simp only [cr_373_1, cr_27_0, ca_bt (i32_nneg (k + r) (by omega)) (show (Int32.ofNat (k + r)).toNatClampNeg < 16 by omega), e1, Option.bind_some]
    exact this
theorem cm_24 {p : Nat} {y : Int32} (hp : p < 24) (hl : l ≤ 16) (hv : okV (ii p)) (h23 : ¬ (ii p).1 = 23) : mOK (f_M_make_b24 (CW w g c ii l bt wt en st kc mr ms mi) (g + 373) (g + 3 + p) y) (th_M_make_b24 (CW w g c ii l bt wt en st kc mr ms mi) (g + 373) (g + 3 + p) y) (fun r s => CW w g c ii l bt wt en st kc r s mi) mr ms (mstY (Int32.ofNat l) bt (ii p).1 (ii p).2.1 (ii p).2.2.2.1 (ii p).2.2.2.2 y mr ms) := by
  obtain ⟨⟨⟨a0, a6⟩, -⟩, ⟨op0, op23⟩, h145, h14f, -⟩ := hv
  unfold f_M_make_b24 th_M_make_b24 f_M_make_b227 f_M_make_b99 th_M_make_b227 th_M_make_b99 mstY
  have x1 := ci_0 (w := w) (g := g) (ct := Int32.ofNat c) (ii := ii) (ln := Int32.ofNat l) (bt := bt) (wt := wt) (en := en) (st := st) (mr := mr) (ms := ms) (mi := mi) (kc := kc) hp
  simp only [x1, Option.bind_some]
  by_cases h22 : (ii p).1 = 22
  · rw [if_neg (not_not_intro h22), if_pos h22]
    exact rfl
  rw [if_pos h22, if_pos h22, if_neg h22]
  by_cases h16 : (16 : Int32) ≤ (ii p).1
  · have u21 : (ii p).1 ≤ 21 := by
      rw [Int32.le_iff_toInt_le, show (23 : Int32).toInt = 23 by decide] at op23
      rw [Int32.le_iff_toInt_le, show (21 : Int32).toInt = 21 by decide]
      have n2 : ¬ (ii p).1.toInt = 22 := fun q => h22 (Int32.toInt_inj.mp (q.trans (by decide)))
      have n3 : ¬ (ii p).1.toInt = 23 := fun q => h23 (Int32.toInt_inj.mp (q.trans (by decide)))
      omega
    rw [if_neg (i32_not_lt h16), if_pos h16]
    simp only [cr_373_2, ci_1 hp, ca_mr a0 a6, mhold h16 u21, Option.bind_some]
    cases hoB (ii p).1 (mr (ii p).2.1.toNatClampNeg) y <;> exact rfl
  rw [if_pos (i32_le_of h16), if_pos (i32_le_of h16), if_neg h16]
  by_cases h15 : (ii p).1 = 15
  · rw [if_neg (not_not_intro h15), if_pos h15]
    simp only [cr_373_1, cr_27_1, ci_3 hp, uns_e, Option.bind_some]
    rw [show u32 y + (ii p).2.2.2.1.toInt64 = frM (ii p).2.2.2.1 y from rfl]
    by_cases q : frM (ii p).2.2.2.1 y ≤ (Int32.ofNat l).toInt64
    · rw [if_pos q, decide_eq_false (not_not_intro q)]; exact rfl
    · rw [if_neg q, decide_eq_true q]; exact rfl
  rw [if_pos h15, if_pos h15, if_neg h15]
  have cpB : (y < 0 ∨ (3 : Int32) < y) → ∀ W d, f_M_checkedPlace W d y = none ∧ th_M_checkedPlace W d y = some ("java/lang/IndexOutOfBoundsException", W) := fun q W d => by
    unfold f_M_checkedPlace th_M_checkedPlace f_M_checkedPlace_b9 th_M_checkedPlace_b9
    by_cases q0 : y < 0
    · rw [if_pos q0, if_pos q0]; exact ⟨rfl, rfl⟩
    · have q4 : ¬ y < 4 := fun z => by
        have q3 := q.resolve_left q0
        rw [Int32.lt_iff_toInt_lt, show (3 : Int32).toInt = 3 by decide] at q3
        rw [Int32.lt_iff_toInt_lt, show (4 : Int32).toInt = 4 by decide] at z
        omega
      rw [if_neg q0, if_neg q0, if_neg q4, if_neg q4]; exact ⟨rfl, rfl⟩
  have cpG : ¬ (y < 0 ∨ (3 : Int32) < y) → (¬ y < 0 ∧ y.toNatClampNeg < 4) ∧ ∀ W d, f_M_checkedPlace W d y = some (y, W) := fun q => by
    have q0 : ¬ y < 0 := fun z => q (Or.inl z)
    have q3 : ¬ (3 : Int32) < y := fun z => q (Or.inr z)
    have e : y.toNatClampNeg = y.toInt.toNat := rfl
    rw [Int32.lt_iff_toInt_lt, show (3 : Int32).toInt = 3 by decide] at q3
    refine ⟨⟨q0, by omega⟩, fun W d => ?_⟩
    unfold f_M_checkedPlace
    rw [if_neg q0, if_pos (by rw [Int32.lt_iff_toInt_lt, show (4 : Int32).toInt = 4 by decide]; omega)]
  by_cases h13 : (ii p).1 = 13
  · rw [if_neg (not_not_intro h13), if_neg (not_not_intro h13), if_pos h13]
    by_cases q : y < 0 ∨ (3 : Int32) < y
    · rw [if_pos q]
      simp only [cr_373_3, cc_373, (cpB q _ _).1, (cpB q _ _).2, xor2, Option.bind_some, Option.bind_none]
      exact ⟨rfl, rfl⟩
    · rw [if_neg q]
      simp only [cr_373_2, cr_373_3, cc_373, (cpG q).2, ci_1 hp, ca_mr a0 a6, cu_ms (cpG q).1.1 (cpG q).1.2, Option.bind_some]
      exact rfl
  rw [if_pos h13, if_pos h13, if_neg h13]
  by_cases h12 : (ii p).1 = 12
  · rw [if_neg (not_not_intro h12), if_neg (not_not_intro h12), if_pos h12]
    by_cases q : y < 0 ∨ (3 : Int32) < y
    · rw [if_pos q]
      simp only [cr_373_2, cr_373_3, ci_1 hp, cc_373, (cpB q _ _).1, (cpB q _ _).2, xor2, Option.bind_some, Option.bind_none]
      exact ⟨rfl, rfl⟩
    · rw [if_neg q]
      simp only [cr_373_2, cr_373_3, cc_373, (cpG q).2, ci_1 hp, ca_ms (cpG q).1.1 (cpG q).1.2, cu_mr a0 a6, Option.bind_some]
      exact rfl
  rw [if_pos h12, if_pos h12, if_neg h12]
  by_cases h14 : (ii p).1 = 14
  · rw [if_neg (not_not_intro h14), if_neg (not_not_intro h14), if_pos h14]
    simp only [cr_373_2, ci_1 hp, ci_3 hp, ci_4 hp, cc_373, uns_e, Option.bind_some]
    rw [show u32 y + (ii p).2.2.2.1.toInt64 = frM (ii p).2.2.2.1 y from rfl]
    by_cases q : frM (ii p).2.2.2.1 y + (ii p).2.2.2.2.toInt64 ≤ (Int32.ofNat l).toInt64
    · rw [if_pos q]
      obtain ⟨-, n0, n16⟩ := h145 (Or.inl h14)
      have hf := h14f h14
      obtain ⟨k, hk, ek⟩ := fr_ok hl n0 n16 hf q
      have hf0 : ¬ (ii p).2.2.2.2 < 0 := by rcases hf with z | z | z <;> rw [z] <;> decide
      have ek2 : (Int32.ofNat k).toNatClampNeg = k := i32_nat k (by omega)
      have hld : f_M_load (CW w g c ii l bt wt en st kc mr ms mi) (g + 373) (frM (ii p).2.2.2.1 y) (ii p).2.2.2.2 = some (rbA bt k (ii p).2.2.2.2.toNatClampNeg 0, CW w g c ii l bt wt en st kc mr ms mi) := by
        unfold f_M_load
        simp only [cr_373_1, cr_27_1, Option.bind_some]
        rw [if_pos q, ← ldC_eq hf]
        exact cm_ld (by omega) hf0 ek _ 0 4000 (Nat.zero_add _) (by rcases hf with z | z | z <;> rw [z] <;> decide)
      rw [ek, ek2]
      simp only [hld, cu_mr a0 a6, Option.bind_some]
      exact rfl
    · rw [if_neg q]
      have hl1 : f_M_load (CW w g c ii l bt wt en st kc mr ms mi) (g + 373) (frM (ii p).2.2.2.1 y) (ii p).2.2.2.2 = none := by
        unfold f_M_load
        simp only [cr_373_1, cr_27_1, Option.bind_some]
        rw [if_neg q]
      have hl2 : th_M_load (CW w g c ii l bt wt en st kc mr ms mi) (g + 373) (frM (ii p).2.2.2.1 y) (ii p).2.2.2.2 = some ("java/lang/IndexOutOfBoundsException", CW w g c ii l bt wt en st kc mr ms mi) := by
        unfold th_M_load
        simp only [cr_373_1, cr_27_1, Option.bind_some]
        rw [if_neg q]
      simp only [hl1, hl2, xor2, Option.bind_none]
      exact ⟨rfl, rfl⟩
  rw [if_pos h14, if_pos h14, if_neg h14]
  have l11 : (ii p).1 ≤ 11 := by
    rw [Int32.le_iff_toInt_le, show (16 : Int32).toInt = 16 by decide] at h16
    rw [Int32.le_iff_toInt_le, show (11 : Int32).toInt = 11 by decide]
    have n1 : ¬ (ii p).1.toInt = 12 := fun q => h12 (Int32.toInt_inj.mp (q.trans (by decide)))
    have n2 : ¬ (ii p).1.toInt = 13 := fun q => h13 (Int32.toInt_inj.mp (q.trans (by decide)))
    have n3 : ¬ (ii p).1.toInt = 14 := fun q => h14 (Int32.toInt_inj.mp (q.trans (by decide)))
    have n4 : ¬ (ii p).1.toInt = 15 := fun q => h15 (Int32.toInt_inj.mp (q.trans (by decide)))
    omega
  simp only [cr_373_2, ci_1 hp, ca_mr a0 a6, Option.bind_some]
  have mc := mcomp (W := CW w g c ii l bt wt en st kc mr ms mi) (x := mr (ii p).2.1.toNatClampNeg) (y := y) op0 l11
  by_cases q : ((ii p).1 = 10 ∨ (ii p).1 = 11) ∧ y = 0
  · rw [if_pos q]
    simp only [(mc.1 q).1, (mc.1 q).2, xor2, Option.bind_none]
    exact ⟨rfl, rfl⟩
  · rw [if_neg q]
    simp only [mc.2 q, cu_mr a0 a6, Option.bind_some]
    exact rfl
theorem cm_make {p : Nat} (hp : p < 24) (hl : l ≤ 16) (hv : okV (ii p)) (h23 : ¬ (ii p).1 = 23) : mOK (f_M_make (CW w g c ii l bt wt en st kc mr ms mi) (g + 373) (g + 3 + p)) (th_M_make (CW w g c ii l bt wt en st kc mr ms mi) (g + 373) (g + 3 + p)) (fun r s => CW w g c ii l bt wt en st kc r s mi) mr ms (mstep (Int32.ofNat l) bt (ii p) mr ms) := by
  unfold f_M_make th_M_make mstep
  simp only [ci_2 hp, ci_3 hp, cr_373_2, Option.bind_some]
  have ey : yM (ii p) mr = if 0 ≤ (ii p).2.2.1 then mr (ii p).2.2.1.toNatClampNeg else (ii p).2.2.2.1 := rfl
  rw [ey]
  by_cases q : (ii p).2.2.1 = -1
  · rw [if_neg (not_not_intro q), if_neg (not_not_intro q), if_neg (by rw [q]; decide)]
    exact cm_24 hp hl hv h23
  · have hb := hv.1.2.resolve_left q
    have q0 : 0 ≤ (ii p).2.2.1 := Int32.not_lt.mp hb.1
    rw [if_pos q, if_pos q, if_pos q0]
    simp only [ca_mr hb.1 hb.2, Option.bind_some]
    exact cm_24 hp hl hv h23
end MC
