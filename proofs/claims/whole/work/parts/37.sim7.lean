section S7
variable {g : Nat} {kc kk : Nat → KV}
theorem p_succ {p : Nat} (h : p < 24) : Int32.ofNat p + 1 = Int32.ofNat (p + 1) := i32_succ p (by omega)
theorem step_out {ii : Nat → IV} {p j : Nat} {wt ws : Nat → Int32} {en : Int32} {q : Nat → Nat} (hp : p < 24) (hv : ∀ i, i < 24 → okV (ii i)) (h : AL g kc kk) (hw : WT g ii wt en kc kk j ws q p) (h6 : kk 256 = kk (ii p).2.1.toNatClampNeg) (h7 : kk 257 = rB (ii p) kk) (sA : rdA (ii p).1 = true → (kc (g + 30 + 3 + (ii p).2.1.toNatClampNeg)).1 = 1) (sY : ¬ (21 : Int32) < (ii p).1 → (yK g (ii p) kc (yA g (ii p))).1 = 1) (h10 : (ii p).1 = 10 ∨ (ii p).1 = 11 → ¬ (kk 257).2.2.2.1 = 0) (h12 : (ii p).1 = 12 ∨ (ii p).1 = 13 → (kk 257).2.2.2.2.1 < 4) (hset : (ii p).1 = 12 → ∀ r, loN (kk 257) ≤ r → r ≤ hiN (kk 257) → ¬ (kk (6 + r)).1 = 0) : OUT g ii (plA g ii p wt en kc) (rPs (ii p) p j kk en ws) := by
  have hvp := hv p hp
  have ho := hvp.1
  have hjl := hw.j_le
  have hj : j < 24 := by omega
  unfold plA
  by_cases h23 : (ii p).1 = 23
  · rw [if_pos h23]
    have er : rPs (ii p) p j kk en ws = (false, rcp 0 250 6 kk, Int32.ofNat p, 1, j, ws) := by
      unfold rPs
      rw [if_pos h23]
    rw [er]
    have w2 : WT g ii wt 1 (kcp (g + 48) (g + 30) 10 kc) (rcp 0 250 6 kk) j ws q p := by
      refine ⟨hw.kc1.cp _ _ _, hw.kk1.rcp _ _ _, hw.inc, hw.on, hw.wsq, fun t a b r hr => ?_, fun _ r hr => ?_⟩
      · have e1 : kcp (g + 48) (g + 30) 10 kc (g + 61 + 13 * q t + 3 + r) = kc (g + 61 + 13 * q t + 3 + r) := by unfold kcp; rw [if_neg (by omega)]
        have e2 : rcp 0 250 6 kk (10 * t + r) = kk (10 * t + r) := by unfold rcp; rw [if_neg (by omega)]
        rw [e1, e2]
        exact hw.wk t a b r hr
      · have e1 : kcp (g + 48) (g + 30) 10 kc (g + 48 + 3 + r) = kc (g + 30 + 3 + r) := by
          unfold kcp
          rw [if_pos (by omega), show g + 30 + (g + 48 + 3 + r - (g + 48)) = g + 30 + 3 + r by omega]
        have e2 : rcp 0 250 6 kk (250 + r) = kk r := by
          unfold rcp
          rw [if_pos (by omega), show 0 + (250 + r - 250) = r by omega]
        rw [e1, e2]
        exact h r (by omega)
    exact OUT_stop w2 hv
  rw [if_neg h23]
  by_cases h22 : (ii p).1 = 22
  · rw [if_pos h22]
    have er : rPs (ii p) p j kk en ws = (true, kk, Int32.ofNat p + 1 + (ii p).2.2.2.2, en, j, ws) := by
      unfold rPs
      rw [if_neg h23, if_neg (fun z => absurd z.2 (by rw [h22]; decide)), if_neg (by rw [h22]; decide), if_neg (by rw [h22]; decide), if_neg (by rw [h22]; decide), if_neg (by rw [h22]; decide), if_neg (by rw [h22]; decide), if_neg (by rw [h22]; decide), if_pos h22]
    rw [er]
    have vj := hvp.2.2.2.2 ⟨by rw [h22]; decide, by rw [h22]; decide⟩
    obtain ⟨p', l1, l2, e2⟩ := jump_pl hp vj.1 vj.2
    rw [e2]
    exact OUT_go l2 h (hw.mono (by omega))
  rw [if_neg h22]
  by_cases h15 : (ii p).1 < 15
  · rw [if_pos h15, rPs_ch h15]
    have n21 : ¬ (21 : Int32) < (ii p).1 := fun z => by
      rw [Int32.lt_iff_toInt_lt] at z h15
      have e1 : (21 : Int32).toInt = 21 := by decide
      have e2 : (15 : Int32).toInt = 15 := by decide
      omega
    obtain ⟨c1, c2, c3, c4, c5⟩ := chg_eq hvp h15 h hw.kc1 hw.kk1 h6 h7 sA (sY n21) h10 h12 hset
    have w2 : WT g ii wt en (chg g (ii p) kc).2 (rCh (ii p) kk).2 j ws q p := hw.congr (chg_k hw.kc1) c4 c2 c3
    rw [← c1]
    cases hb : (chg g (ii p) kc).1
    · rw [if_neg (by decide)]
      exact OUT_stop w2 hv
    · rw [if_pos rfl, p_succ hp]
      exact OUT_go (by omega) (c5 hb) (w2.mono (by omega))
  rw [if_neg h15]
  have ge15 : (15 : Int32) ≤ (ii p).1 := by
    rw [Int32.le_iff_toInt_le]
    rw [Int32.lt_iff_toInt_lt] at h15
    omega
  have le21 : (ii p).1 ≤ 21 := by
    have a := hvp.2.1.2
    rw [Int32.le_iff_toInt_le] at a ⊢
    have e1 : (23 : Int32).toInt = 23 := by decide
    have e2 : (21 : Int32).toInt = 21 := by decide
    have n23 : (ii p).1.toInt ≠ 23 := fun q => h23 (Int32.toInt_inj.mp (by rw [q]; decide))
    have n22 : (ii p).1.toInt ≠ 22 := fun q => h22 (Int32.toInt_inj.mp (by rw [q]; decide))
    omega
  have hop : (15 : Int32) ≤ (ii p).1 ∧ (ii p).1 ≤ 22 := ⟨ge15, Int32.le_trans le21 (by decide)⟩
  have n21 : ¬ (21 : Int32) < (ii p).1 := i32_not_lt le21
  obtain ⟨ey, gy⟩ := (y_al ho h).2 (sY n21)
  rw [← h7] at ey
  by_cases e15 : (ii p).1 = 15
  · have nb := (hvp.2.2.1 (Or.inr e15)).1
    have hB : (ii p).2.2.1.toNatClampNeg < 6 := by
      rcases ho.2 with z | ⟨-, z⟩
      · exact absurd z nb
      · exact z
    have eB : kc (g + 30 + 3 + (ii p).2.2.1.toNatClampNeg) = kk (ii p).2.2.1.toNatClampNeg ∧ GG (kk (ii p).2.2.1.toNatClampNeg) := by
      have s := sY n21
      unfold yK yA at s
      rw [if_neg nb, if_neg nb] at s
      obtain ⟨a, b⟩ := (h (ii p).2.2.1.toNatClampNeg (by omega)).2 s
      exact ⟨a, by rw [← a]; exact b⟩
    have er : rPs (ii p) p j kk en ws = (true, va_up (rcp 0 (10 * (j + 1)) 10 kk) (ii p).2.2.1.toNatClampNeg (kF (kk (ii p).2.2.1.toNatClampNeg) (if (kk (ii p).2.2.1.toNatClampNeg).2.2.2.2.2.2.2 ≤ (ii p).2.2.2.1 then (ii p).2.2.2.1 else (kk (ii p).2.2.1.toNatClampNeg).2.2.2.2.2.2.2)), Int32.ofNat p + 1, en, j + 1, upd ws (j + 1) (Int32.ofNat p + 1 + (ii p).2.2.2.2)) := by
      unfold rPs
      rw [if_neg h23, if_neg (fun z => absurd z.1 (by rw [e15]; decide)), if_neg (by rw [e15]; decide), if_neg (by rw [e15]; decide), if_neg (by rw [e15]; decide), if_neg (by rw [e15]; decide), if_neg (by rw [e15]; decide), if_pos e15]
    have ep : prt g (ii p) p kc = (true, true, va_up (kcp (g + 61 + 13 * p) (g + 30) 10 kc) (g + 30 + 3 + (ii p).2.2.1.toNatClampNeg) (kF (kc (g + 30 + 3 + (ii p).2.2.1.toNatClampNeg)) (max4 (kc (g + 30 + 3 + (ii p).2.2.1.toNatClampNeg)).2.2.2.2.2.2.2 (ii p).2.2.2.1))) := by
      unfold prt
      rw [if_pos e15]
    have em : max4 (kk (ii p).2.2.1.toNatClampNeg).2.2.2.2.2.2.2 (ii p).2.2.2.1 = if (kk (ii p).2.2.1.toNatClampNeg).2.2.2.2.2.2.2 ≤ (ii p).2.2.2.1 then (ii p).2.2.2.1 else (kk (ii p).2.2.1.toNatClampNeg).2.2.2.2.2.2.2 := by
      unfold max4
      generalize (kk (ii p).2.2.1.toNatClampNeg).2.2.2.2.2.2.2 = x
      generalize (ii p).2.2.2.1 = n
      by_cases z : x < n
      · rw [if_pos z, if_pos (Int32.le_of_lt z)]
      · rw [if_neg z]
        by_cases z2 : x ≤ n
        · rw [if_pos z2]; exact i32_eq_of z2 z
        · rw [if_neg z2]
    rw [er, ep, eB.1, em]
    have gF := GG_F eB.2 (if (kk (ii p).2.2.1.toNatClampNeg).2.2.2.2.2.2.2 ≤ (ii p).2.2.2.1 then (ii p).2.2.2.1 else (kk (ii p).2.2.1.toNatClampNeg).2.2.2.2.2.2.2)
    generalize kF (kk (ii p).2.2.1.toNatClampNeg) (if (kk (ii p).2.2.1.toNatClampNeg).2.2.2.2.2.2.2 ≤ (ii p).2.2.2.1 then (ii p).2.2.2.1 else (kk (ii p).2.2.1.toNatClampNeg).2.2.2.2.2.2.2) = m at gF ⊢
    show OUT g ii (if true = true then (Int32.ofNat p + 1, upd wt p 1, en, va_up (kcp (g + 61 + 13 * p) (g + 30) 10 kc) (g + 30 + 3 + (ii p).2.2.1.toNatClampNeg) m) else _) _
    rw [if_pos rfl, p_succ hp]
    have w2 := hw.push (kc' := va_up (kcp (g + 61 + 13 * p) (g + 30) 10 kc) (g + 30 + 3 + (ii p).2.2.1.toNatClampNeg) m) (kk' := va_up (rcp 0 (10 * (j + 1)) 10 kk) (ii p).2.2.1.toNatClampNeg m) hp hop ((hw.kc1.cp _ _ _).up (Or.inr gF.1)) ((hw.kk1.rcp _ _ _).up (Or.inr gF.1)) (fun a a1 a2 => by
        rw [va_up_ne _ _ (by omega)]
        unfold kcp
        rw [if_neg (by omega)]) (fun a a1 a2 a3 => by
        rw [va_up_ne _ _ (by omega)]
        unfold rcp
        rw [if_neg (by omega)]) (fun r hr => by
        rw [va_up_ne _ _ (by omega), va_up_ne _ _ (by omega)]
        have e1 : kcp (g + 61 + 13 * p) (g + 30) 10 kc (g + 61 + 13 * p + 3 + r) = kc (g + 30 + 3 + r) := by
          unfold kcp
          rw [if_pos (by omega), show g + 30 + (g + 61 + 13 * p + 3 + r - (g + 61 + 13 * p)) = g + 30 + 3 + r by omega]
        have e2 : rcp 0 (10 * (j + 1)) 10 kk (10 * (j + 1) + r) = kk r := by
          unfold rcp
          rw [if_pos (by omega), show 0 + (10 * (j + 1) + r - 10 * (j + 1)) = r by omega]
        rw [e1, e2]
        exact h r hr)
    rw [p_succ hp] at w2
    refine OUT_go (by omega) ?_ w2
    exact AL.up (h.congr (fun r hr => by unfold kcp; rw [if_neg (by omega)]) (fun r hr => by unfold rcp; rw [if_neg (by omega)])) (al_refl gF)
  have ge16 : (16 : Int32) ≤ (ii p).1 := by
    rw [Int32.le_iff_toInt_le] at ge15 ⊢
    have e1 : (15 : Int32).toInt = 15 := by decide
    have e2 : (16 : Int32).toInt = 16 := by decide
    have n15 : (ii p).1.toInt ≠ 15 := fun q => e15 (Int32.toInt_inj.mp (by rw [q]; decide))
    omega
  have rA : rdA (ii p).1 = true := by
    rcases i32_21 ge16 le21 with z | z | z | z | z | z <;> (rw [z]; decide)
  obtain ⟨eA, gA⟩ := (h (ii p).2.1.toNatClampNeg (by have := ho.1.2; omega)).2 (sA rA)
  rw [← h6] at eA
  rw [eA] at gA
  rw [ey] at gy
  obtain ⟨r1, r2⟩ := rel_eq gA gy ge16 le21
  obtain ⟨p1, p2, p3, p4, p5⟩ := prt_e (g := g) (kc := kc) ho hp e15
  rw [eA, ey] at p1 p2 p3 p4
  have er : rPs (ii p) p j kk en ws = ((rCm (ii p).1 (nH (rH (ii p).1)) (kk 256) (kk 257)).1, rpE (ii p).1 (ii p).2.1 (ii p).2.2.1 (kk 256) (kk 257) (rpW j (ii p).1 (ii p).2.1 (ii p).2.2.1 kk), if (rCm (ii p).1 (nH (rH (ii p).1)) (kk 256) (kk 257)).1 = true then Int32.ofNat p + 1 else Int32.ofNat p, en, if (rCm (ii p).1 (rH (ii p).1) (kk 256) (kk 257)).1 = true then j + 1 else j, if (rCm (ii p).1 (rH (ii p).1) (kk 256) (kk 257)).1 = true then upd ws (j + 1) (Int32.ofNat p + 1 + (ii p).2.2.2.2) else ws) := by
    unfold rPs
    rw [if_neg h23, if_pos ⟨ge16, le21⟩]
  rw [er]
  obtain ⟨k1, k2, k3, k4, k5⟩ := rp_e ho hj hw.kk1 (rfl : rCm (ii p).1 (rH (ii p).1) (kk 256) (kk 257) = _) (rfl : rCm (ii p).1 (nH (rH (ii p).1)) (kk 256) (kk 257) = _) (rfl : rpE (ii p).1 (ii p).2.1 (ii p).2.2.1 (kk 256) (kk 257) (rpW j (ii p).1 (ii p).2.1 (ii p).2.2.1 kk) = _)
  have kp := prt_k (g := g) (v := ii p) (p := p) hw.kc1
  generalize rpE (ii p).1 (ii p).2.1 (ii p).2.2.1 (kk 256) (kk 257) (rpW j (ii p).1 (ii p).2.1 (ii p).2.2.1 kk) = kk' at *
  generalize rCm (ii p).1 (rH (ii p).1) (kk 256) (kk 257) = c1 at *
  generalize rCm (ii p).1 (nH (rH (ii p).1)) (kk 256) (kk 257) = c2 at *
  generalize rl (ii p).1 (kk 256) (kk 257) = d1 at *
  generalize rl ((ii p).1 ^^^ 1) (kk 256) (kk 257) = d2 at *
  generalize prt g (ii p) p kc = T at *
  obtain ⟨T1, T2, kc'⟩ := T
  have p1 : T1 = d1.1 := p1
  have p2 : T2 = d2.1 := p2
  subst p1
  subst p2
  dsimp only at p3 p4 p5 kp
  -- the ways that wait
  have w2 : ∃ q', WT g ii (upd wt p (b01 d1.1)) en kc' kk' (if c1.1 = true then j + 1 else j) (if c1.1 = true then upd ws (j + 1) (Int32.ofNat p + 1 + (ii p).2.2.2.2) else ws) q' (p + 1) := by
    cases hc : c1.1
    · rw [if_neg (by decide), if_neg (by decide), r1.1, hc]
      have w3 : WT g ii (upd wt p 0) en kc' kk' j ws q p := by
        have w4 := hw.nopush
        refine ⟨kp, k1, w4.inc, w4.on, w4.wsq, fun t a b r hr => ?_, fun he r hr => ?_⟩
        · have i := hw.inc t a b
          rw [p5 _ (by omega) (by omega), k5 hc _ (by omega) (by omega)]
          exact hw.wk t a b r hr
        · rw [p5 _ (by omega) (by omega), k5 hc _ (by omega) (by omega)]
          exact hw.en1 he r hr
      exact ⟨q, w3.mono (by omega)⟩
    · rw [if_pos rfl, if_pos rfl, r1.1, hc]
      obtain ⟨x1, x2, x3, x4⟩ := r1.2 (by rw [r1.1]; exact hc)
      exact ⟨_, hw.push hp hop kp k1 p5 k4 (fun r hr => by
        rw [p4 r hr, k3 hc r hr]
        exact gpv_al (h r hr) x1 x2 x3 x4)⟩
  obtain ⟨q', w2⟩ := w2
  show OUT g ii (if d2.1 = true then (Int32.ofNat p + 1, upd wt p (b01 d1.1), en, kc') else ((rsm g ii (upd wt p (b01 d1.1)) kc').1, (rsm g ii (upd wt p (b01 d1.1)) kc').2.1, en, (rsm g ii (upd wt p (b01 d1.1)) kc').2.2)) _
  rw [r2.1]
  cases hc : c2.1
  · rw [if_neg (by decide)]
    exact OUT_stop w2 hv
  · rw [if_pos rfl, if_pos rfl]
    obtain ⟨x1, x2, x3, x4⟩ := r2.2 (by rw [r2.1]; exact hc)
    rw [p_succ hp] at w2 ⊢
    exact OUT_go (by omega) (fun r hr => by
      rw [k2 hc r hr, show kc' (g + 30 + 3 + r) = _ from p3 r hr]
      exact gpv_al (h r hr) x1 x2 x3 x4) w2
end S7
