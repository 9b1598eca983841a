/-! The reference's run to its end; runs over alike programs, packets, registers, stacks are alike. -/
theorem mst_j {ln op a n f y : Int32} {bt rg sk rg' sk' : Nat → Int32} (h : mstY ln bt op a n f y rg sk = .inr (true, rg', sk')) : (15 : Int32) ≤ op := by
  by_cases q : (15 : Int32) ≤ op
  · exact q
  · exfalso
    have n22 : ¬ op = 22 := fun e => q (by rw [e]; decide)
    have n15 : ¬ op = 15 := fun e => q (by rw [e]; decide)
    have n16 : ¬ (16 : Int32) ≤ op := fun e => q (by
      rw [Int32.le_iff_toInt_le, show (16 : Int32).toInt = 16 by decide] at e
      rw [Int32.le_iff_toInt_le, show (15 : Int32).toInt = 15 by decide]
      omega)
    unfold mstY at h
    rw [if_neg n22, if_neg n16, if_neg n15] at h
    split at h
    · split at h
      · cases h
      · cases h
    · split at h
      · split at h
        · cases h
        · cases h
      · split at h
        · split at h
          · cases h
          · cases h
        · split at h
          · cases h
          · cases h
theorem le_iff60 {c p : Nat} (hc : c < 2 ^ 31) (hp : p < 2 ^ 31) : (Int32.ofNat c ≤ Int32.ofNat p) ↔ c ≤ p := by
  rw [← Int32.not_lt, i32_ltn hp hc]
  omega
section MR2
variable {w : xw} {b : Nat} {th : Int32} {po pa pb pn pf : Nat → Int32} {bt : Nat → Int32} {kk : Nat → KV} {pl st en wg : Int32} {ws : Nat → Int32} {rc : Int32} {rg sk : Nat → Int32} {c l : Nat}
theorem er_445 {p : Nat} (hc : c ≤ 24) (hp : p < 60) : f_R_run_b445 (rb w b 0 (Int32.ofNat c) po pa pb pn pf (Int32.ofNat l) bt kk pl st en wg ws rc rg sk) b (Int32.ofNat p) = if p < c then some (rg 0, rb w b 0 (Int32.ofNat c) po pa pb pn pf (Int32.ofNat l) bt kk pl st en wg ws (rc + 1) rg sk) else some (0, rb w b 1 (Int32.ofNat c) po pa pb pn pf (Int32.ofNat l) bt kk pl st en wg ws rc rg sk) := by
  unfold f_R_run_b445
  simp only [ri_ct, Option.bind_some]
  by_cases h : p < c
  · rw [if_pos ((i32_ltn (by omega) (by omega)).mpr h), if_pos h]
    have r0 : ¬ (0 : Int32) < 0 := by decide
    have r6 : (0 : Int32).toNatClampNeg < 6 := by decide
    simp only [ri_rc, rp_rc, rr_23, ra_rg r0 r6, Option.bind_some]
    rfl
  · rw [if_neg (fun z => h ((i32_ltn (by omega) (by omega)).mp z)), if_neg h]
    unfold f_R_refuse
    simp only [rck, rp_th, Option.bind_some]
theorem er_s74 {r : xw → Nat → Int32 → Option (Int32 × xw)} {p : Nat} (hp : p < c) (hc : c ≤ 24) (hl : l ≤ 16) (hv : okV (rv5 po pa pb pn pf p)) (h23 : ¬ po p = 23) : f_R_run_s74 r (rb w b 0 (Int32.ofNat c) po pa pb pn pf (Int32.ofNat l) bt kk pl st en wg ws rc rg sk) b (Int32.ofNat p) = rNx r (fun k rg sk => rb w b k (Int32.ofNat c) po pa pb pn pf (Int32.ofNat l) bt kk pl st en wg ws (rc + 1) rg sk) b (Int32.ofNat p) (pf p) rg sk (mstep (Int32.ofNat l) bt (rv5 po pa pb pn pf p) rg sk) := by
  have e1 : (Int32.ofNat p).toNatClampNeg = p := i32_nat p (by omega)
  have p0 := i32_nneg p (by omega)
  have p24 : (Int32.ofNat p).toNatClampNeg < 24 := by omega
  have hb := hv.1.2
  have hb : pb p = -1 ∨ (¬ pb p < 0 ∧ (pb p).toNatClampNeg < 6) := hb
  have k147 : ∀ y, f_R_run_b147 r (rb w b 0 (Int32.ofNat c) po pa pb pn pf (Int32.ofNat l) bt kk pl st en wg ws (rc + 1) rg sk) b (Int32.ofNat p) (po p) (pa p) y = rNx r (fun k rg sk => rb w b k (Int32.ofNat c) po pa pb pn pf (Int32.ofNat l) bt kk pl st en wg ws (rc + 1) rg sk) b (Int32.ofNat p) (pf p) rg sk (mstY (Int32.ofNat l) bt (po p) (pa p) (pn p) (pf p) y rg sk) := fun y => er_147 (bb := pb p) (by omega) hl hv h23
  unfold f_R_run_s74
  simp only [ri_ct, Option.bind_some]
  rw [if_neg (fun z => absurd ((le_iff60 (by omega) (by omega)).mp z) (by omega))]
  simp only [rr_2, rr_3, rr_4, rr_5, rr_23, ri_rc, rp_rc, ra_po p0 p24, ra_pa p0 p24, ra_pb p0 p24, ra_pn p0 p24, e1, Option.bind_some]
  rw [if_neg h23]
  show _ = rNx r _ b (Int32.ofNat p) (pf p) rg sk (mstY (Int32.ofNat l) bt (po p) (pa p) (pn p) (pf p) (yM (rv5 po pa pb pn pf p) rg) rg sk)
  have ey : yM (rv5 po pa pb pn pf p) rg = if 0 ≤ pb p then rg (pb p).toNatClampNeg else pn p := rfl
  rw [ey]
  by_cases q : 0 ≤ pb p
  · rw [if_pos q, if_pos q]
    have hb2 : ¬ pb p < 0 ∧ (pb p).toNatClampNeg < 6 := hb.resolve_left (fun e => by rw [e] at q; exact absurd q (by decide))
    simp only [ra_rg hb2.1 hb2.2, Option.bind_some]
    exact k147 _
  · rw [if_neg q, if_neg q]
    exact k147 _
theorem er_loop (hc : c ≤ 24) (hl : l ≤ 16) (hv : ∀ i, i < 24 → okV (rv5 po pa pb pn pf i)) : ∀ (k n p : Nat) (rc : Int32) (rg sk : Nat → Int32), c ≤ p + k → k < n → p < 60 → f_R_run_b74 n (rb w b 0 (Int32.ofNat c) po pa pb pn pf (Int32.ofNat l) bt kk pl st en wg ws rc rg sk) b (Int32.ofNat p) = some ((mrun c (rv5 po pa pb pn pf) (Int32.ofNat l) bt k p rg sk rc).2.1, rb w b (mrun c (rv5 po pa pb pn pf) (Int32.ofNat l) bt k p rg sk rc).1 (Int32.ofNat c) po pa pb pn pf (Int32.ofNat l) bt kk pl st en wg ws (mrun c (rv5 po pa pb pn pf) (Int32.ofNat l) bt k p rg sk rc).2.2.2.2 (mrun c (rv5 po pa pb pn pf) (Int32.ofNat l) bt k p rg sk rc).2.2.1 (mrun c (rv5 po pa pb pn pf) (Int32.ofNat l) bt k p rg sk rc).2.2.2.1) := by
  have stop : ∀ (n p : Nat) (rc : Int32) (rg sk : Nat → Int32), c ≤ p → p < 60 → f_R_run_b74 (n + 1) (rb w b 0 (Int32.ofNat c) po pa pb pn pf (Int32.ofNat l) bt kk pl st en wg ws rc rg sk) b (Int32.ofNat p) = some (0, rb w b 1 (Int32.ofNat c) po pa pb pn pf (Int32.ofNat l) bt kk pl st en wg ws rc rg sk) := fun n p rc rg sk h hp => by
    unfold f_R_run_b74
    rw [xfix_s]
    unfold f_R_run_s74
    simp only [ri_ct, Option.bind_some]
    rw [if_pos ((le_iff60 (by omega) (by omega)).mpr h), er_445 hc hp, if_neg (by omega)]
  intro k
  induction k with
  | zero =>
    intro n p rc rg sk h hn hp
    obtain ⟨n, rfl⟩ : ∃ q, n = q + 1 := ⟨n - 1, by omega⟩
    exact stop n p rc rg sk (by omega) hp
  | succ k ih =>
    intro n p rc rg sk h hn hp
    obtain ⟨n, rfl⟩ : ∃ q, n = q + 1 := ⟨n - 1, by omega⟩
    by_cases hcp : c ≤ p
    · have e : mrun c (rv5 po pa pb pn pf) (Int32.ofNat l) bt (k + 1) p rg sk rc = (1, 0, rg, sk, rc) := by
        unfold mrun
        rw [if_pos hcp]
      rw [e]
      exact stop n p rc rg sk hcp hp
    have e1 : (Int32.ofNat p).toNatClampNeg = p := i32_nat p (by omega)
    have p0 := i32_nneg p (by omega)
    have p24 : (Int32.ofNat p).toNatClampNeg < 24 := by omega
    have e74 : f_R_run_b74 (n + 1) (rb w b 0 (Int32.ofNat c) po pa pb pn pf (Int32.ofNat l) bt kk pl st en wg ws rc rg sk) b (Int32.ofNat p) = f_R_run_s74 (f_R_run_b74 n) (rb w b 0 (Int32.ofNat c) po pa pb pn pf (Int32.ofNat l) bt kk pl st en wg ws rc rg sk) b (Int32.ofNat p) := by
      unfold f_R_run_b74
      rw [xfix_s]
    by_cases h23 : po p = 23
    · have e : mrun c (rv5 po pa pb pn pf) (Int32.ofNat l) bt (k + 1) p rg sk rc = (0, rg 0, rg, sk, rc + 1) := by
        unfold mrun
        rw [if_neg hcp, if_pos (show (rv5 po pa pb pn pf p).1 = 23 from h23)]
      rw [e, e74]
      unfold f_R_run_s74
      simp only [ri_ct, Option.bind_some]
      rw [if_neg (fun z => hcp ((le_iff60 (by omega) (by omega)).mp z))]
      simp only [rr_2, ra_po p0 p24, e1, Option.bind_some]
      rw [if_pos h23, er_445 hc hp, if_pos (by omega)]
    · rw [e74, er_s74 (by omega) hc hl (hv p (by omega)) h23]
      have ok := hv p (by omega)
      have e : mrun c (rv5 po pa pb pn pf) (Int32.ofNat l) bt (k + 1) p rg sk rc = match mstep (Int32.ofNat l) bt (rv5 po pa pb pn pf p) rg sk with
          | .inl k => (k, 0, rg, sk, rc + 1)
          | .inr (j, rg', sk') => mrun c (rv5 po pa pb pn pf) (Int32.ofNat l) bt k (if j = true then p + 1 + (pf p).toNatClampNeg else p + 1) rg' sk' (rc + 1) := by
        rw [mrun, if_neg hcp, if_neg (show ¬ (rv5 po pa pb pn pf p).1 = 23 from h23)]
        rfl
      rw [e]
      cases hm : mstep (Int32.ofNat l) bt (rv5 po pa pb pn pf p) rg sk with
      | inl k => rfl
      | inr z =>
        obtain ⟨j, rg', sk'⟩ := z
        cases j with
        | false =>
          have := ih n (p + 1) (rc + 1) rg' sk' (by omega) (by omega) (by omega)
          rw [← st_add] at this
          exact this
        | true =>
          have h15 : (15 : Int32) ≤ po p := mst_j hm
          have hf := ok.2.2.2.2 ⟨h15, by
            have h2 : po p ≤ 23 := ok.2.1.2
            show po p ≤ 22
            rw [Int32.le_iff_toInt_le, show (23 : Int32).toInt = 23 by decide] at h2
            rw [Int32.le_iff_toInt_le, show (22 : Int32).toInt = 22 by decide]
            have : ¬ (po p).toInt = 23 := fun q => h23 (Int32.toInt_inj.mp (q.trans (by decide)))
            omega⟩
          have hf : (1 : Int32) ≤ pf p ∧ pf p ≤ 23 := hf
          have f0 : ¬ pf p < 0 := fun q => by
            have h1 := hf.1
            rw [Int32.le_iff_toInt_le, show (1 : Int32).toInt = 1 by decide] at h1
            rw [Int32.lt_iff_toInt_lt, show (0 : Int32).toInt = 0 by decide] at q
            omega
          have f23 : (pf p).toNatClampNeg ≤ 23 := by
            have h1 := hf.2
            have e : (pf p).toNatClampNeg = (pf p).toInt.toNat := rfl
            rw [Int32.le_iff_toInt_le, show (23 : Int32).toInt = 23 by decide] at h1
            omega
          have := ih n (p + 1 + (pf p).toNatClampNeg) (rc + 1) rg' sk' (by omega) (by omega) (by omega)
          have ea : Int32.ofNat (p + 1 + (pf p).toNatClampNeg) = Int32.ofNat p + 1 + pf p := by
            rw [Int32.ofNat_add, ← st_add, ← i32_of6 f0]
          rw [ea] at this
          exact this
theorem er_run {x : Int32} (hc : c ≤ 24) (hl : l ≤ 16) (hv : ∀ i, i < 24 → okV (rv5 po pa pb pn pf i)) {z : MV} (hz : mrun c (rv5 po pa pb pn pf) (Int32.ofNat l) bt 24 0 (byt (rI (Int32.ofNat l) x) rg 6) (byt (fun _ => 0) sk 4) 0 = z) : f_R_run (rb w b th (Int32.ofNat c) po pa pb pn pf (Int32.ofNat l) bt kk pl st en wg ws rc rg sk) b x = some (z.2.1, rb w b z.1 (Int32.ofNat c) po pa pb pn pf (Int32.ofNat l) bt kk pl st en wg ws z.2.2.2.2 z.2.2.1 z.2.2.2.1) := by
  unfold f_R_run
  simp only [rp_th, rp_rc, Option.bind_some]
  have h1 := er_r12 (w := w) (b := b) (th := 0) (ct := Int32.ofNat c) (po := po) (pa := pa) (pb := pb) (pn := pn) (pf := pf) (ln := Int32.ofNat l) (bt := bt) (kk := kk) (pl := pl) (st := st) (en := en) (wg := wg) (ws := ws) (rc := 0) (rg := rg) (sk := sk) (x := x) 6 0 4000 rfl (by decide)
  rw [byt_0] at h1
  refine h1.trans ?_
  have h2 := er_r54 (w := w) (b := b) (th := 0) (ct := Int32.ofNat c) (po := po) (pa := pa) (pb := pb) (pn := pn) (pf := pf) (ln := Int32.ofNat l) (bt := bt) (kk := kk) (pl := pl) (st := st) (en := en) (wg := wg) (ws := ws) (rc := 0) (rg := byt (rI (Int32.ofNat l) x) rg 6) (sk := sk) 4 0 4000 rfl (by decide)
  rw [byt_0] at h2
  refine h2.trans ?_
  have h3 := er_loop (w := w) (b := b) (bt := bt) (kk := kk) (pl := pl) (st := st) (en := en) (wg := wg) (ws := ws) hc hl hv 24 4000 0 0 (byt (rI (Int32.ofNat l) x) rg 6) (byt (fun _ => 0) sk 4) (by omega) (by decide) (by decide)
  rw [hz] at h3
  exact h3
end MR2
/-- alike where they are looked at -/
def eqn (n : Nat) (f g : Nat → Int32) : Prop := ∀ i, i < n → f i = g i
theorem eqn.up {n a : Nat} {f g : Nat → Int32} {x : Int32} (h : eqn n f g) : eqn n (upd f a x) (upd g a x) := fun i hi => by
  unfold upd
  split
  · rfl
  · exact h i hi
theorem rbA_eq {p : Nat} {f g : Nat → Int32} {l : Nat} (h : eqn l f g) : ∀ (n : Nat) (acc : Int32), p + n ≤ l → rbA f p n acc = rbA g p n acc
  | 0, _, _ => rfl
  | n + 1, acc, hn => by
    unfold rbA
    rw [h (p + n) (by omega)]
    exact rbA_eq h n _ (by omega)
theorem mst_eq {l : Nat} (hl : l ≤ 16) {op a bb n f y : Int32} {bt bt' rg rg' sk sk' : Nat → Int32} (hv : okV (op, a, bb, n, f)) (hr : eqn 6 rg rg') (hs : eqn 4 sk sk') (hb : eqn l bt bt') : (∃ k, mstY (Int32.ofNat l) bt op a n f y rg sk = .inl k ∧ mstY (Int32.ofNat l) bt' op a n f y rg' sk' = .inl k) ∨ ∃ j r s r' s', mstY (Int32.ofNat l) bt op a n f y rg sk = .inr (j, r, s) ∧ mstY (Int32.ofNat l) bt' op a n f y rg' sk' = .inr (j, r', s') ∧ eqn 6 r r' ∧ eqn 4 s s' := by
  obtain ⟨⟨⟨a0, a6⟩, -⟩, ⟨op0, op23⟩, h145, h14f, -⟩ := hv
  dsimp only at a0 a6 op0 op23 h145 h14f
  have ea : rg a.toNatClampNeg = rg' a.toNatClampNeg := hr _ a6
  have y4 : ¬ (y < 0 ∨ (3 : Int32) < y) → y.toNatClampNeg < 4 := fun q => by
    have q0 : ¬ y < 0 := fun z => q (Or.inl z)
    have q3 : ¬ (3 : Int32) < y := fun z => q (Or.inr z)
    have e : y.toNatClampNeg = y.toInt.toNat := rfl
    rw [Int32.lt_iff_toInt_lt, show (3 : Int32).toInt = 3 by decide] at q3
    omega
  unfold mstY
  rw [ea]
  by_cases h22 : op = 22
  · rw [if_pos h22, if_pos h22]
    exact Or.inr ⟨_, _, _, _, _, rfl, rfl, hr, hs⟩
  rw [if_neg h22, if_neg h22]
  by_cases h16 : (16 : Int32) ≤ op
  · rw [if_pos h16, if_pos h16]
    exact Or.inr ⟨_, _, _, _, _, rfl, rfl, hr, hs⟩
  rw [if_neg h16, if_neg h16]
  by_cases h15 : op = 15
  · rw [if_pos h15, if_pos h15]
    exact Or.inr ⟨_, _, _, _, _, rfl, rfl, hr, hs⟩
  rw [if_neg h15, if_neg h15]
  by_cases h13 : op = 13
  · rw [if_pos h13, if_pos h13]
    by_cases q : y < 0 ∨ (3 : Int32) < y
    · rw [if_pos q, if_pos q]
      exact Or.inl ⟨_, rfl, rfl⟩
    · rw [if_neg q, if_neg q]
      exact Or.inr ⟨_, _, _, _, _, rfl, rfl, hr, hs.up⟩
  rw [if_neg h13, if_neg h13]
  by_cases h12 : op = 12
  · rw [if_pos h12, if_pos h12]
    by_cases q : y < 0 ∨ (3 : Int32) < y
    · rw [if_pos q, if_pos q]
      exact Or.inl ⟨_, rfl, rfl⟩
    · rw [if_neg q, if_neg q, hs _ (y4 q)]
      exact Or.inr ⟨_, _, _, _, _, rfl, rfl, hr.up, hs⟩
  rw [if_neg h12, if_neg h12]
  by_cases h14 : op = 14
  · rw [if_pos h14, if_pos h14]
    by_cases q : frM n y + f.toInt64 ≤ (Int32.ofNat l).toInt64
    · rw [if_pos q, if_pos q]
      obtain ⟨-, n0, n16⟩ := h145 (Or.inl h14)
      obtain ⟨k, hk, ek⟩ := fr_ok hl n0 n16 (h14f h14) q
      have ek2 : (Int32.ofNat k).toNatClampNeg = k := i32_nat k (by omega)
      rw [ek, ek2, rbA_eq hb _ _ hk]
      exact Or.inr ⟨_, _, _, _, _, rfl, rfl, hr.up, hs⟩
    · rw [if_neg q, if_neg q]
      exact Or.inl ⟨_, rfl, rfl⟩
  rw [if_neg h14, if_neg h14]
  by_cases q : (op = 10 ∨ op = 11) ∧ y = 0
  · rw [if_pos q, if_pos q]
    exact Or.inl ⟨_, rfl, rfl⟩
  · rw [if_neg q, if_neg q]
    exact Or.inr ⟨_, _, _, _, _, rfl, rfl, hr.up, hs⟩
theorem yM_eq {v : IV} {rg rg' : Nat → Int32} (hv : okV v) (hr : eqn 6 rg rg') : yM v rg = yM v rg' := by
  unfold yM
  by_cases q : 0 ≤ v.2.2.1
  · rw [if_pos q, if_pos q]
    exact hr _ ((hv.1.2.resolve_left (fun e => by rw [e] at q; exact absurd q (by decide))).2)
  · rw [if_neg q, if_neg q]
theorem mrun_eq {c l : Nat} (hc : c ≤ 24) (hl : l ≤ 16) {ii ii' : Nat → IV} {bt bt' : Nat → Int32} (hii : ∀ i, i < 24 → ii' i = ii i) (hv : ∀ i, i < 24 → okV (ii i)) (hb : eqn l bt bt') : ∀ (k p : Nat) (rg rg' sk sk' : Nat → Int32) (rc : Int32), eqn 6 rg rg' → eqn 4 sk sk' → (mrun c ii (Int32.ofNat l) bt k p rg sk rc).1 = (mrun c ii' (Int32.ofNat l) bt' k p rg' sk' rc).1 ∧ (mrun c ii (Int32.ofNat l) bt k p rg sk rc).2.1 = (mrun c ii' (Int32.ofNat l) bt' k p rg' sk' rc).2.1 ∧ (mrun c ii (Int32.ofNat l) bt k p rg sk rc).2.2.2.2 = (mrun c ii' (Int32.ofNat l) bt' k p rg' sk' rc).2.2.2.2 := by
  intro k
  induction k with
  | zero => intro p rg rg' sk sk' rc hr hs; exact ⟨rfl, rfl, rfl⟩
  | succ k ih =>
    intro p rg rg' sk sk' rc hr hs
    rw [mrun, mrun]
    by_cases hcp : c ≤ p
    · rw [if_pos hcp, if_pos hcp]; exact ⟨rfl, rfl, rfl⟩
    rw [if_neg hcp, if_neg hcp, hii p (by omega)]
    by_cases h23 : (ii p).1 = 23
    · rw [if_pos h23, if_pos h23]; exact ⟨rfl, hr 0 (by decide), rfl⟩
    rw [if_neg h23, if_neg h23]
    have ok := hv p (by omega)
    have ey := yM_eq ok hr
    have ok2 : okV ((ii p).1, (ii p).2.1, (ii p).2.2.1, (ii p).2.2.2.1, (ii p).2.2.2.2) := ok
    have hm := mst_eq (y := yM (ii p) rg') hl ok2 hr hs hb
    have e1 : mstep (Int32.ofNat l) bt (ii p) rg sk = mstY (Int32.ofNat l) bt (ii p).1 (ii p).2.1 (ii p).2.2.2.1 (ii p).2.2.2.2 (yM (ii p) rg') rg sk := by
      unfold mstep
      rw [ey]
    have e2 : mstep (Int32.ofNat l) bt' (ii p) rg' sk' = mstY (Int32.ofNat l) bt' (ii p).1 (ii p).2.1 (ii p).2.2.2.1 (ii p).2.2.2.2 (yM (ii p) rg') rg' sk' := rfl
    rcases hm with ⟨q, h1, h2⟩ | ⟨j, r, s, r', s', h1, h2, h3, h4⟩
    · rw [e1, e2, h1, h2]; exact ⟨rfl, rfl, rfl⟩
    · rw [e1, e2, h1, h2]
      exact ih _ r r' s s' _ h3 h4
theorem byt_eq {n : Nat} {f a b : Nat → Int32} : eqn n (byt f a n) (byt f b n) := fun i hi => by
  unfold byt
  rw [if_pos hi, if_pos hi]
