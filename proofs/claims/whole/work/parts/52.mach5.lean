/-! The class's run to its end. -/
section MC2
variable {w : xw} {g : Nat} {ii : Nat → IV} {bt wt : Nat → Int32} {en st : Int32} {mr ms : Nat → Int32} {mi : Int32} {kc : Nat → KV} {c l : Nat}
theorem cm_b28 {x : Int32} : ∀ (m r n : Nat), r + m = 4 → m < n → f_M_begin_b28 n (CW w g c ii l bt wt en st kc mr (byt (fun _ => 0) ms r) mi) (g + 373) x (Int32.ofNat r) = some ((), CW w g c ii l bt wt en st kc (upd (upd mr 1 (Int32.ofNat l)) 2 x) (byt (fun _ => 0) ms 4) mi) := by
  intro m
  induction m with
  | zero =>
    intro r n hr hn
    obtain ⟨n, rfl⟩ : ∃ q, n = q + 1 := ⟨n - 1, by omega⟩
    obtain rfl : r = 4 := by omega
    unfold f_M_begin_b28
    rw [xfix_s]
    unfold f_M_begin_s28
    rw [if_pos (by decide)]
    simp only [cr_373_2, cr_373_1, cr_27_1, cu_mr (show ¬ (1 : Int32) < 0 by decide) (show (1 : Int32).toNatClampNeg < 6 by decide), cu_mr (show ¬ (2 : Int32) < 0 by decide) (show (2 : Int32).toNatClampNeg < 6 by decide), Option.bind_some]
    rfl
  | succ m ih =>
    intro r n hr hn
    obtain ⟨n, rfl⟩ : ∃ q, n = q + 1 := ⟨n - 1, by omega⟩
    have e1 : (Int32.ofNat r).toNatClampNeg = r := i32_nat r (by omega)
    have := ih (r + 1) n (by omega) (by omega)
    unfold f_M_begin_b28 at this ⊢
    rw [← byt_up, ← st_add] at this
    rw [xfix_s]
    unfold f_M_begin_s28
    rw [if_neg (show ¬ (4 : Int32) ≤ Int32.ofNat r from fun z => absurd ((i32_le 4 (by omega) r (by omega)).mp z) (by omega))]
    simp only [cr_373_3, cu_ms (i32_nneg r (by omega)) (show (Int32.ofNat r).toNatClampNeg < 4 by omega), e1, Option.bind_some]
    exact this
theorem cm_b7 {x : Int32} : ∀ (m r n : Nat), r + m = 6 → m < n → f_M_begin_b7 n (CW w g c ii l bt wt en st kc (byt (fun _ => 0) mr r) ms mi) (g + 373) x (Int32.ofNat r) = some ((), CW w g c ii l bt wt en st kc (upd (upd (byt (fun _ => 0) mr 6) 1 (Int32.ofNat l)) 2 x) (byt (fun _ => 0) ms 4) mi) := by
  intro m
  induction m with
  | zero =>
    intro r n hr hn
    obtain ⟨n, rfl⟩ : ∃ q, n = q + 1 := ⟨n - 1, by omega⟩
    obtain rfl : r = 6 := by omega
    unfold f_M_begin_b7
    rw [xfix_s]
    unfold f_M_begin_s7
    rw [if_pos (by decide)]
    have := cm_b28 (w := w) (g := g) (ii := ii) (bt := bt) (wt := wt) (en := en) (st := st) (mr := byt (fun _ => 0) mr 6) (ms := ms) (mi := mi) (kc := kc) (c := c) (l := l) (x := x) 4 0 4000 rfl (by decide)
    rw [byt_0] at this
    exact this
  | succ m ih =>
    intro r n hr hn
    obtain ⟨n, rfl⟩ : ∃ q, n = q + 1 := ⟨n - 1, by omega⟩
    have e1 : (Int32.ofNat r).toNatClampNeg = r := i32_nat r (by omega)
    have := ih (r + 1) n (by omega) (by omega)
    unfold f_M_begin_b7 at this ⊢
    rw [← byt_up, ← st_add] at this
    rw [xfix_s]
    unfold f_M_begin_s7
    rw [if_neg (show ¬ (6 : Int32) ≤ Int32.ofNat r from fun z => absurd ((i32_le 6 (by omega) r (by omega)).mp z) (by omega))]
    simp only [cr_373_2, cu_mr (i32_nneg r (by omega)) (show (Int32.ofNat r).toNatClampNeg < 6 by omega), e1, Option.bind_some]
    exact this
theorem cm_begin {x : Int32} : f_M_begin (CW w g c ii l bt wt en st kc mr ms mi) (g + 373) x = some ((), CW w g c ii l bt wt en st kc (upd (upd (byt (fun _ => 0) mr 6) 1 (Int32.ofNat l)) 2 x) (byt (fun _ => 0) ms 4) 0) := by
  unfold f_M_begin
  simp only [cp_mi, Option.bind_some]
  have := cm_b7 (w := w) (g := g) (ii := ii) (bt := bt) (wt := wt) (en := en) (st := st) (mr := mr) (ms := ms) (mi := 0) (kc := kc) (c := c) (l := l) (x := x) 6 0 4000 rfl (by decide)
  rw [byt_0] at this
  exact this
theorem cm_loop (hc : c ≤ 24) (hl : l ≤ 16) (hv : ∀ i, i < 24 → okV (ii i)) : ∀ (k n p : Nat) (mi : Int32) (mr ms : Nat → Int32), c ≤ p + k → k ≤ 24 → k < n → p < 60 → aOK (f_M_answer_b10 n (CW w g c ii l bt wt en st kc mr ms mi) (g + 373) (Int32.ofNat p) (Int32.ofNat k)) (th_M_answer_b10 n (CW w g c ii l bt wt en st kc mr ms mi) (g + 373) (Int32.ofNat p) (Int32.ofNat k)) (fun mr ms mi => CW w g c ii l bt wt en st kc mr ms mi) (mrun c ii (Int32.ofNat l) bt k p mr ms mi) := by
  intro k
  induction k with
  | zero =>
    intro n p mi mr ms h hk hn hp
    obtain ⟨n, rfl⟩ : ∃ q, n = q + 1 := ⟨n - 1, by omega⟩
    unfold f_M_answer_b10 th_M_answer_b10
    rw [xfix_s, xfix_s]
    unfold f_M_answer_s10 th_M_answer_s10
    rw [if_pos (show Int32.ofNat 0 ≤ 0 by decide), if_pos (show Int32.ofNat 0 ≤ 0 by decide)]
    exact Or.inr ⟨by show ¬ (1 : Int32) = 0; decide, rfl, rfl⟩
  | succ k ih =>
    intro n p mi mr ms h hk hn hp
    obtain ⟨n, rfl⟩ : ∃ q, n = q + 1 := ⟨n - 1, by omega⟩
    have ih' := ih n
    unfold f_M_answer_b10 th_M_answer_b10 at ih' ⊢
    rw [xfix_s, xfix_s]
    generalize hr1 : xfix (fun _ _ _ _ => none) f_M_answer_s10 n = r1 at ih' ⊢
    generalize hr2 : xfix (fun _ _ _ _ => none) th_M_answer_s10 n = r2 at ih' ⊢
    unfold f_M_answer_s10 th_M_answer_s10
    have k0 : ¬ Int32.ofNat (k + 1) ≤ 0 := fun z => absurd ((le_iff60 (c := k + 1) (p := 0) (by omega) (by omega)).mp z) (by omega)
    rw [if_neg k0, if_neg k0]
    simp only [cr_373_0, cr_1_1, Option.bind_some]
    by_cases hcp : c ≤ p
    · have e : mrun c ii (Int32.ofNat l) bt (k + 1) p mr ms mi = (1, 0, mr, ms, mi) := by
        rw [mrun, if_pos hcp]
      rw [if_pos ((le_iff60 (by omega) (by omega)).mpr hcp), if_pos ((le_iff60 (by omega) (by omega)).mpr hcp), e]
      exact Or.inr ⟨by show ¬ (1 : Int32) = 0; decide, rfl, rfl⟩
    rw [if_neg (fun z => hcp ((le_iff60 (by omega) (by omega)).mp z)), if_neg (fun z => hcp ((le_iff60 (by omega) (by omega)).mp z))]
    have p24 : p < 24 := by omega
    have e1 : (Int32.ofNat p).toNatClampNeg = p := i32_nat p (by omega)
    simp only [cr_1_0, cs_I (i32_nneg p (by omega)) (show (Int32.ofNat p).toNatClampNeg < 24 by omega), e1, cr_373_4, cp_mi, ci_0 p24, cc_373, Option.bind_some]
    have ok := hv p p24
    by_cases h23 : (ii p).1 = 23
    · have e : mrun c ii (Int32.ofNat l) bt (k + 1) p mr ms mi = (0, mr 0, mr, ms, mi + 1) := by
        rw [mrun, if_neg hcp, if_pos h23]
      rw [if_neg (not_not_intro h23), if_neg (not_not_intro h23), e]
      simp only [cr_373_2, ca_mr (show ¬ (0 : Int32) < 0 by decide) (show (0 : Int32).toNatClampNeg < 6 by decide), Option.bind_some]
      exact Or.inl ⟨rfl, rfl⟩
    rw [if_pos h23, if_pos h23]
    have hm := cm_make (w := w) (g := g) (bt := bt) (wt := wt) (en := en) (st := st) (mr := mr) (ms := ms) (mi := mi + 1) (kc := kc) (c := c) p24 hl ok h23
    have e : mrun c ii (Int32.ofNat l) bt (k + 1) p mr ms mi = match mstep (Int32.ofNat l) bt (ii p) mr ms with
        | .inl q => (q, 0, mr, ms, mi + 1)
        | .inr (j, rg', sk') => mrun c ii (Int32.ofNat l) bt k (if j = true then p + 1 + (ii p).2.2.2.2.toNatClampNeg else p + 1) rg' sk' (mi + 1) := by
      rw [mrun, if_neg hcp, if_neg h23]
      rfl
    rw [e]
    have e4 : Int32.ofNat (k + 1) + (-1) = Int32.ofNat k := by
      rw [← Int32.sub_eq_add_neg]; exact dec_ofNat k
    cases hz : mstep (Int32.ofNat l) bt (ii p) mr ms with
    | inl q =>
      rw [hz] at hm
      obtain ⟨m1, m2⟩ := hm
      simp only [m1, m2, xor2, Option.bind_none]
      exact Or.inr ⟨mst_k hz, rfl, rfl⟩
    | inr z =>
      obtain ⟨j, rg', sk'⟩ := z
      rw [hz] at hm
      have hm : f_M_make (CW w g c ii l bt wt en st kc mr ms (mi + 1)) (g + 373) (g + 3 + p) = some (b01 j, CW w g c ii l bt wt en st kc rg' sk' (mi + 1)) := hm
      simp only [hm, xor2, Option.bind_some]
      cases j with
      | false =>
        rw [if_pos (show b01 false = 0 from rfl), if_pos (show b01 false = 0 from rfl)]
        unfold f_M_answer_b84 th_M_answer_b84
        simp only [Option.bind_some]
        rw [st_add, e4]
        exact ih' (p + 1) (mi + 1) rg' sk' (by omega) (by omega) (by omega) (by omega)
      | true =>
        rw [if_neg (show ¬ b01 true = 0 by decide), if_neg (show ¬ b01 true = 0 by decide)]
        unfold f_M_answer_b84 th_M_answer_b84
        simp only [ci_4 p24, Option.bind_some]
        have h15 : (15 : Int32) ≤ (ii p).1 := mst_j hz
        have hf : (1 : Int32) ≤ (ii p).2.2.2.2 ∧ (ii p).2.2.2.2 ≤ 23 := ok.2.2.2.2 ⟨h15, by
          have h2 : (ii p).1 ≤ 23 := ok.2.1.2
          rw [Int32.le_iff_toInt_le, show (23 : Int32).toInt = 23 by decide] at h2
          rw [Int32.le_iff_toInt_le, show (22 : Int32).toInt = 22 by decide]
          have : ¬ (ii p).1.toInt = 23 := fun q => h23 (Int32.toInt_inj.mp (q.trans (by decide)))
          omega⟩
        have f0 : ¬ (ii p).2.2.2.2 < 0 := fun q => by
          have h1 := hf.1
          rw [Int32.le_iff_toInt_le, show (1 : Int32).toInt = 1 by decide] at h1
          rw [Int32.lt_iff_toInt_lt, show (0 : Int32).toInt = 0 by decide] at q
          omega
        have f23 : (ii p).2.2.2.2.toNatClampNeg ≤ 23 := by
          have h1 := hf.2
          have e : (ii p).2.2.2.2.toNatClampNeg = (ii p).2.2.2.2.toInt.toNat := rfl
          rw [Int32.le_iff_toInt_le, show (23 : Int32).toInt = 23 by decide] at h1
          omega
        have ea : Int32.ofNat p + ((1 : Int32) + (ii p).2.2.2.2) = Int32.ofNat (p + 1 + (ii p).2.2.2.2.toNatClampNeg) := by
          rw [Int32.ofNat_add, ← st_add, ← i32_of6 f0, Int32.add_assoc]
        rw [ea, e4]
        exact ih' (p + 1 + (ii p).2.2.2.2.toNatClampNeg) (mi + 1) rg' sk' (by omega) (by omega) (by omega) (by omega)
theorem cm_run {x : Int32} (hc : c ≤ 24) (hl : l ≤ 16) (hv : ∀ i, i < 24 → okV (ii i)) : aOK (f_G_run (CW w g c ii l bt wt en st kc mr ms mi) g x) (th_G_run (CW w g c ii l bt wt en st kc mr ms mi) g x) (fun mr ms mi => CW w g c ii l bt wt en st kc mr ms mi) (mrun c ii (Int32.ofNat l) bt 24 0 (upd (upd (byt (fun _ => 0) mr 6) 1 (Int32.ofNat l)) 2 x) (byt (fun _ => 0) ms 4) 0) := by
  have h := cm_loop (w := w) (g := g) (bt := bt) (wt := wt) (en := en) (st := st) (kc := kc) hc hl hv 24 4000 0 0 (upd (upd (byt (fun _ => 0) mr 6) 1 (Int32.ofNat l)) 2 x) (byt (fun _ => 0) ms 4) (by omega) (by omega) (by omega) (by omega)
  have h1 : f_M_answer (CW w g c ii l bt wt en st kc mr ms mi) (g + 373) x = f_M_answer_b10 4000 (CW w g c ii l bt wt en st kc (upd (upd (byt (fun _ => 0) mr 6) 1 (Int32.ofNat l)) 2 x) (byt (fun _ => 0) ms 4) 0) (g + 373) (Int32.ofNat 0) (Int32.ofNat 24) := by
    unfold f_M_answer
    simp only [cc_373, cm_begin, Option.bind_some]
    rfl
  have h2 : th_M_answer (CW w g c ii l bt wt en st kc mr ms mi) (g + 373) x = th_M_answer_b10 4000 (CW w g c ii l bt wt en st kc (upd (upd (byt (fun _ => 0) mr 6) 1 (Int32.ofNat l)) 2 x) (byt (fun _ => 0) ms 4) 0) (g + 373) (Int32.ofNat 0) (Int32.ofNat 24) := by
    unfold th_M_answer
    simp only [cc_373, cm_begin, Option.bind_some]
    rfl
  unfold f_G_run th_G_run
  simp only [cr_0_3, cc_373, Option.bind_some]
  rw [h1, h2]
  rcases h with ⟨z0, hx⟩ | ⟨z0, hx, ht⟩
  · rw [hx]
    exact Or.inl ⟨z0, rfl⟩
  · rw [hx, ht]
    exact Or.inr ⟨z0, rfl, rfl⟩
theorem reg_eq {l : Nat} {x : Int32} {mr rg : Nat → Int32} : eqn 6 (upd (upd (byt (fun _ => 0) mr 6) 1 (Int32.ofNat l)) 2 x) (byt (rI (Int32.ofNat l) x) rg 6) := fun i hi => by
  unfold upd byt rI
  simp only [if_pos hi]
  by_cases e2 : i = 2
  · rw [if_pos e2, if_neg (show ¬ i = 1 by omega), if_pos e2]
  · rw [if_neg e2, if_neg e2]
end MC2
