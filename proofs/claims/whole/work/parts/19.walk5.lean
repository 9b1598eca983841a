section W6
variable {w : xw} {g : Nat} {ct : Int32} {ii : Nat → IV} {ln : Int32} {bt wt : Nat → Int32} {en st : Int32} {mr ms : Nat → Int32} {mi : Int32} {kc : Nat → KV}
theorem ew_change {i : Nat} (hi : i < 24) (ho : okI (ii i)) (hk : k01 kc) (hy : (ii i).1 = 12 ∨ (ii i).1 = 13 → (0 : Int64) ≤ (yK g (ii i) kc (yA g (ii i))).2.2.2.1 ∧ (yK g (ii i) kc (yA g (ii i))).2.2.2.1 ≤ (yK g (ii i) kc (yA g (ii i))).2.2.2.2.1 ∧ (yK g (ii i) kc (yA g (ii i))).2.2.2.2.1 < 4) : f_W_change (ew (cb w g ct ii ln bt wt en st mr ms mi) (cP g) kc) (g + 29) (g + 3 + i) = some (b01 (chg g (ii i) kc).1, ew (cb w g ct ii ln bt wt en st mr ms mi) (cP g) ((chg g (ii i) kc).2)) := by
  have ha : cP g (g + 30 + 3 + (ii i).2.1.toNatClampNeg) = true := cP_nR ho.1.2
  have hk1 := hk.y g (ii i)
  unfold f_W_change f_W_change_b119 f_W_change_b122
  simp only [cr_29_1, cs_n0, ci_1 hi, cs_nR ho.1.1 ho.1.2, cc_29, ew_y hi ho, ci_0 hi, Option.bind_some]
  unfold chg
  by_cases h0 : (ii i).1 = 0
  · rw [if_pos h0, if_pos h0, ek_ck ha]
    simp only [Option.bind_some]
    rw [ek_take ha (yA_P ho) (hk1 _)]
    rfl
  rw [if_neg h0, if_neg h0]
  by_cases h12 : (ii i).1 = 12
  · rw [if_pos h12, if_pos h12]
    obtain ⟨y0, y1, y4⟩ := hy (Or.inl h12)
    obtain ⟨e1, e2, e3, e4⟩ := b4 y0 y1 y4
    simp only [Option.bind_some]
    rw [ew_fetch ha (yA_P ho) (fun t ht => nR_pl ho.1.2 ht) e3 e4 e1 e2 hk1]
    rfl
  rw [if_neg h12, if_neg h12]
  by_cases h13 : (ii i).1 = 13
  · rw [if_pos h13, if_pos h13]
    obtain ⟨y0, y1, y4⟩ := hy (Or.inr h13)
    obtain ⟨e1, e2, e3, e4⟩ := b4 y0 y1 y4
    simp only [Option.bind_some]
    rw [ew_store ha (yA_P ho) (fun t ht => nR_pl ho.1.2 ht) (fun t ht => yA_pl ho ht) e3 e4 e1 e2 hk1]
    rfl
  rw [if_neg h13, if_neg h13]
  by_cases h14 : (ii i).1 = 14
  · rw [if_pos h14, if_pos h14]
    simp only [ci_4 hi, Option.bind_some]
    by_cases h4 : (ii i).2.2.2.2 = 4
    · rw [if_neg (fun q => q h4), if_pos h4, ek_ck ha]
      simp only [Option.bind_some]
      rw [ek_nothing ha]
      rfl
    · rw [if_pos h4, if_neg h4]
      by_cases h1 : (ii i).2.2.2.2 = 1
      · rw [if_neg (fun q => q h1), if_pos h1, ek_ck ha]
        simp only [Option.bind_some]
        rw [ek_upto ha]
        rfl
      · rw [if_pos h1, if_neg h1, ek_ck ha]
        simp only [Option.bind_some]
        rw [ek_upto ha]
        rfl
  rw [if_neg h14, if_neg h14]
  have n46 : g + 30 + 3 + (ii i).2.1.toNatClampNeg ≠ g + 46 := by have := ho.1.2; omega
  simp only [cr_29_5, Option.bind_some]
  rw [eo_out ha (yA_P ho) cP_46 n46 (yA_46 ho)]
  simp only [cr_29_5, Option.bind_some]
  rw [ek_ck ha]
  simp only [Option.bind_some]
  rw [ek_take ha cP_46 (by rw [va_up_self, tg_1, kOp_1]; exact Or.inr rfl), va_up_self]
  simp only [Option.bind_some]
  exact xrZ_b _ _
theorem k01.two {kc : Nat → KV} (h : k01 kc) {q : Bool × KV × KV} (h1 : q.2.1.1 = 0 ∨ q.2.1.1 = 1) (h2 : q.2.2.1 = 0 ∨ q.2.2.1 = 1) : k01 (rlK g q kc) := (h.up h1).up h2
theorem rl_1 (op : Int32) (f s : KV) : (rl op f s).2.1.1 = f.1 ∧ ((rl op f s).2.2.1 = s.1 ∨ (rl op f s).2.2.1 = f.1) := by
  have h3 : ∀ f s : KV, (rl3 f s).2.1.1 = f.1 ∧ (rl3 f s).2.2.1 = s.1 := fun f s => by
    unfold rl3
    split
    · exact ⟨tg_1 f, tg_1 s⟩
    · exact ⟨tg_1 f, rfl⟩
  unfold rl
  split
  · split
    · exact ⟨(h3 _ _).1, Or.inr (h3 _ _).2⟩
    · exact ⟨rfl, Or.inl rfl⟩
  split
  · exact ⟨rfl, Or.inl rfl⟩
  split
  · exact ⟨(h3 _ _).1, Or.inl (h3 _ _).2⟩
  split
  · exact ⟨(h3 _ _).1, Or.inl (h3 _ _).2⟩
  split
  · exact ⟨(h3 _ _).1, Or.inl (h3 _ _).2⟩
  · exact ⟨(h3 _ _).1, Or.inl (h3 _ _).2⟩
theorem k01.rlq {kc : Nat → KV} (h : k01 kc) (op : Int32) (a b : Nat) : k01 (rlK g (rl op (kc a) (kc b)) kc) := by
  obtain ⟨h1, h2⟩ := rl_1 op (kc a) (kc b)
  refine h.two (by rw [h1]; exact h a) ?_
  rcases h2 with e | e
  · rw [e]; exact h b
  · rw [e]; exact h a
theorem k01.tp {kc : Nat → KV} (h : k01 kc) (v : IV) : k01 (tpK g v kc) := ((h.up (h _)).y g v).up (((h.up (h _)).y g v) _)
theorem k01.gp {kc : Nat → KV} (h : k01 kc) (v : IV) (d : Nat) : k01 (gpK g v d kc) := by
  unfold gpK
  split
  · exact h.up (h _)
  · exact (h.up (h _)).up (h _)
theorem ew_part {p : Nat} (hp : p < 24) (ho : okI (ii p)) (hb : (ii p).1 = 15 → ¬ (ii p).2.2.1 = -1) (hk : k01 kc) : f_W_part (ew (cb w g ct ii ln bt wt en st mr ms mi) (cP g) kc) (g + 29) (g + 3 + p) (Int32.ofNat p) = some (b01 (prt g (ii p) p kc).2.1, ew (cb w g ct ii ln bt (upd wt p (b01 (prt g (ii p) p kc).1)) en st mr ms mi) (cP g) ((prt g (ii p) p kc).2.2)) := by
  have e1 : (Int32.ofNat p).toNatClampNeg = p := i32_nat p (by omega)
  have hlt : (Int32.ofNat p).toNatClampNeg < 24 := by omega
  have hnn := i32_nneg p (by omega)
  have hW : isS g (g + 61 + 13 * p) := isS_w hp
  have hne : g + 61 + 13 * p ≠ g + 30 := by omega
  have hk1 := hk.cp (g + 61 + 13 * p) (g + 30) 10
  unfold f_W_part
  simp only [cr_29_2, cs_W hnn hlt, e1, cr_29_1, cs_ck hW, es_take hW isS_n hne hk, ci_0 hp, Option.bind_some]
  by_cases h15 : (ii p).1 = 15
  · have hx : prt g (ii p) p kc = (true, true, va_up (kcp (g + 61 + 13 * p) (g + 30) 10 kc) (g + 30 + 3 + (ii p).2.2.1.toNatClampNeg) (kF (kc (g + 30 + 3 + (ii p).2.2.1.toNatClampNeg)) (max4 (kc (g + 30 + 3 + (ii p).2.2.1.toNatClampNeg)).2.2.2.2.2.2.2 (ii p).2.2.2.1))) := by unfold prt; rw [if_pos h15]
    rw [hx, if_neg (fun q => q h15)]
    rcases ho.2 with q | ⟨q1, q2⟩
    · exact absurd q (hb h15)
    · have ho2 : kcp (g + 61 + 13 * p) (g + 30) 10 kc (g + 30 + 3 + (ii p).2.2.1.toNatClampNeg) = kc (g + 30 + 3 + (ii p).2.2.1.toNatClampNeg) := by
        unfold kcp
        rw [if_neg (by omega)]
      simp only [cr_29_3, Option.bind_some]
      rw [cu_wt hnn hlt (Or.inr rfl)]
      simp only [cr_29_1, cs_n0, ci_2 hp, cs_nR q1 q2, ek_r7 (cP_nR q2), ci_3 hp, ek_w7 (cP_nR q2), Option.bind_some, ho2, e1]
      rfl
  · rw [if_pos h15]
    have hx : prt g (ii p) p kc = ((rl (ii p).1 (tpK g (ii p) (kcp (g + 61 + 13 * p) (g + 30) 10 kc) (g + 46)) (tpK g (ii p) (kcp (g + 61 + 13 * p) (g + 30) 10 kc) (g + 47))).1, (rl ((ii p).1 ^^^ 1) (tpK g (ii p) (gpK g (ii p) (g + 61 + 13 * p) (rlK g (rl (ii p).1 (tpK g (ii p) (kcp (g + 61 + 13 * p) (g + 30) 10 kc) (g + 46)) (tpK g (ii p) (kcp (g + 61 + 13 * p) (g + 30) 10 kc) (g + 47))) (tpK g (ii p) (kcp (g + 61 + 13 * p) (g + 30) 10 kc)))) (g + 46)) (tpK g (ii p) (gpK g (ii p) (g + 61 + 13 * p) (rlK g (rl (ii p).1 (tpK g (ii p) (kcp (g + 61 + 13 * p) (g + 30) 10 kc) (g + 46)) (tpK g (ii p) (kcp (g + 61 + 13 * p) (g + 30) 10 kc) (g + 47))) (tpK g (ii p) (kcp (g + 61 + 13 * p) (g + 30) 10 kc)))) (g + 47))).1, gpK g (ii p) (g + 30) (rlK g (rl ((ii p).1 ^^^ 1) (tpK g (ii p) (gpK g (ii p) (g + 61 + 13 * p) (rlK g (rl (ii p).1 (tpK g (ii p) (kcp (g + 61 + 13 * p) (g + 30) 10 kc) (g + 46)) (tpK g (ii p) (kcp (g + 61 + 13 * p) (g + 30) 10 kc) (g + 47))) (tpK g (ii p) (kcp (g + 61 + 13 * p) (g + 30) 10 kc)))) (g + 46)) (tpK g (ii p) (gpK g (ii p) (g + 61 + 13 * p) (rlK g (rl (ii p).1 (tpK g (ii p) (kcp (g + 61 + 13 * p) (g + 30) 10 kc) (g + 46)) (tpK g (ii p) (kcp (g + 61 + 13 * p) (g + 30) 10 kc) (g + 47))) (tpK g (ii p) (kcp (g + 61 + 13 * p) (g + 30) 10 kc)))) (g + 47))) (tpK g (ii p) (gpK g (ii p) (g + 61 + 13 * p) (rlK g (rl (ii p).1 (tpK g (ii p) (kcp (g + 61 + 13 * p) (g + 30) 10 kc) (g + 46)) (tpK g (ii p) (kcp (g + 61 + 13 * p) (g + 30) 10 kc) (g + 47))) (tpK g (ii p) (kcp (g + 61 + 13 * p) (g + 30) 10 kc))))))) := by unfold prt; rw [if_neg h15]
    rw [hx]
    generalize hK1 : kcp (g + 61 + 13 * p) (g + 30) 10 kc = kc1
    rw [hK1] at hk1
    simp only [cc_29, ew_tp hp ho hk1, Option.bind_some, cr_29_3, ci_0 hp]
    have hk2 := hk1.tp (g := g) (ii p)
    generalize hK2 : tpK g (ii p) kc1 = kc2
    rw [hK2] at hk2
    rw [ew_rl hk2]
    simp only [Option.bind_some]
    have hk3 := hk2.rlq (g := g) (ii p).1 (g + 46) (g + 47)
    generalize hQ1 : rl (ii p).1 (kc2 (g + 46)) (kc2 (g + 47)) = q1
    rw [hQ1] at hk3
    have hz : b01 q1.1 = 0 ∨ b01 q1.1 = 1 := by cases q1.1 <;> simp [b01]
    rw [cu_wt hnn hlt hz]
    simp only [cr_29_2, cs_W hnn hlt, e1, cc_29, Option.bind_some]
    rw [ew_gp hp hW ho hk3]
    simp only [cc_29, Option.bind_some]
    have hk4 := hk3.gp (g := g) (ii p) (g + 61 + 13 * p)
    generalize hK4 : gpK g (ii p) (g + 61 + 13 * p) (rlK g q1 kc2) = kc4
    rw [hK4] at hk4
    rw [ew_tp hp ho hk4]
    simp only [cc_29, ci_0 hp, Option.bind_some]
    have hk5 := hk4.tp (g := g) (ii p)
    generalize hK5 : tpK g (ii p) kc4 = kc5
    rw [hK5] at hk5
    rw [ew_rl hk5]
    have hk6 := hk5.rlq (g := g) ((ii p).1 ^^^ 1) (g + 46) (g + 47)
    generalize hQ2 : rl ((ii p).1 ^^^ 1) (kc5 (g + 46)) (kc5 (g + 47)) = q2
    rw [hQ2] at hk6
    simp only [cr_29_1, cc_29, Option.bind_some]
    rw [ew_gp hp isS_n ho hk6]
    simp only [Option.bind_some]
    exact xrZ_b _ _
/-- the way that waits furthest on is taken up -/
def rsm (g : Nat) (ii : Nat → IV) (wt : Nat → Int32) (kc : Nat → KV) : Int32 × (Nat → Int32) × (Nat → KV) := match hiW wt 24 with
  | none => (-1, wt, kc)
  | some i => (Int32.ofNat i + 1 + (ii i).2.2.2.2, upd wt i 0, kcp (g + 30) (g + 61 + 13 * i) 10 kc)
theorem i32_pred : ∀ r, r < 30 → Int32.ofNat (r + 1) + (-1) = Int32.ofNat r := by decide
theorem i32_0 : Int32.ofNat 0 + (-1) = -1 := by decide
theorem ew_rs (hk : k01 kc) : ∀ (m n : Nat), m < 24 → m + 1 < n → f_W_resume_b3 n (ew (cb w g ct ii ln bt wt en st mr ms mi) (cP g) kc) (g + 29) (Int32.ofNat m) = some (match hiW wt (m + 1) with | none => (-1, ew (cb w g ct ii ln bt wt en st mr ms mi) (cP g) kc) | some i => (Int32.ofNat i + 1 + (ii i).2.2.2.2, ew (cb w g ct ii ln bt (upd wt i 0) en st mr ms mi) (cP g) (kcp (g + 30) (g + 61 + 13 * i) 10 kc))) := by
  intro m
  induction m with
  | zero =>
    intro n hm hn
    obtain ⟨n, rfl⟩ : ∃ q, n = q + 1 + 1 := ⟨n - 2, by omega⟩
    unfold f_W_resume_b3
    rw [xfix_s]
    unfold f_W_resume_s3
    have e1 : (Int32.ofNat 0).toNatClampNeg = 0 := rfl
    rw [if_neg (i32_nneg 0 (by omega))]
    simp only [cr_29_3, ca_wt (i32_nneg 0 (by omega)) (show (Int32.ofNat 0).toNatClampNeg < 24 by decide), Option.bind_some, e1]
    by_cases h : wt 0 = 0
    · rw [if_pos h, i32_0, xfix_s, if_pos (by decide)]
      show _ = some (match (if wt 0 = 0 then none else some 0) with | none => _ | some i => _)
      rw [if_pos h]
    · rw [if_neg h, cu_wt (i32_nneg 0 (by omega)) (show (Int32.ofNat 0).toNatClampNeg < 24 by decide) (Or.inl rfl)]
      simp only [cr_29_1, cr_29_2, cs_W (i32_nneg 0 (by omega)) (show (Int32.ofNat 0).toNatClampNeg < 24 by decide), e1, cs_nck, Option.bind_some]
      rw [es_take isS_n (isS_w (by omega)) (by omega) hk]
      simp only [cr_29_0, cr_1_0, cs_I (i32_nneg 0 (by omega)) (show (Int32.ofNat 0).toNatClampNeg < 24 by decide), e1, ci_4 (show 0 < 24 by omega), Option.bind_some]
      show _ = some (match (if wt 0 = 0 then none else some 0) with | none => _ | some i => _)
      rw [if_neg h]
  | succ m ih =>
    intro n hm hn
    obtain ⟨n, rfl⟩ : ∃ q, n = q + 1 := ⟨n - 1, by omega⟩
    unfold f_W_resume_b3
    rw [xfix_s]
    unfold f_W_resume_s3
    have e1 : (Int32.ofNat (m + 1)).toNatClampNeg = m + 1 := i32_nat (m + 1) (by omega)
    have hlt : (Int32.ofNat (m + 1)).toNatClampNeg < 24 := by omega
    rw [if_neg (i32_nneg (m + 1) (by omega))]
    simp only [cr_29_3, ca_wt (i32_nneg (m + 1) (by omega)) hlt, Option.bind_some, e1]
    by_cases h : wt (m + 1) = 0
    · rw [if_pos h, i32_pred m (by omega)]
      have := ih n (by omega) (by omega)
      unfold f_W_resume_b3 at this
      refine this.trans ?_
      show _ = some (match (if wt (m + 1) = 0 then hiW wt (m + 1) else some (m + 1)) with | none => _ | some i => _)
      rw [if_pos h]
    · rw [if_neg h, cu_wt (i32_nneg (m + 1) (by omega)) hlt (Or.inl rfl)]
      simp only [cr_29_1, cr_29_2, cs_W (i32_nneg (m + 1) (by omega)) hlt, e1, cs_nck, Option.bind_some]
      rw [es_take isS_n (isS_w (by omega)) (by omega) hk]
      simp only [cr_29_0, cr_1_0, cs_I (i32_nneg (m + 1) (by omega)) hlt, e1, ci_4 (show m + 1 < 24 by omega), Option.bind_some]
      show _ = some (match (if wt (m + 1) = 0 then hiW wt (m + 1) else some (m + 1)) with | none => _ | some i => _)
      rw [if_neg h]
theorem ew_resume (hk : k01 kc) : f_W_resume (ew (cb w g ct ii ln bt wt en st mr ms mi) (cP g) kc) (g + 29) = some ((rsm g ii wt kc).1, ew (cb w g ct ii ln bt ((rsm g ii wt kc).2.1) en st mr ms mi) (cP g) ((rsm g ii wt kc).2.2)) := by
  unfold f_W_resume
  simp only [Option.bind_some]
  refine (ew_rs hk 23 4000 (by decide) (by decide)).trans ?_
  unfold rsm
  cases h : hiW wt 24 <;> rfl
end W6
