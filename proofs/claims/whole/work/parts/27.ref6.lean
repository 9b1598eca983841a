def rH (op : Int32) : Int32 := if ¬ (op - op / (2 : Int32) * (2 : Int32)) = 0 then 0 else 1
def nH (h : Int32) : Int32 := if ¬ h = 0 then 0 else 1
def up2 (kk : Nat → KV) (q : Bool × KV × KV) : Nat → KV := va_up (va_up kk 258 q.2.1) 259 q.2.2
theorem up2_o {kk : Nat → KV} {q : Bool × KV × KV} {a : Nat} (h : a < 258) : up2 kk q a = kk a := by unfold up2; rw [va_up_ne _ _ (by omega), va_up_ne _ _ (by omega)]
theorem up2_8 {kk : Nat → KV} {q : Bool × KV × KV} : up2 kk q 258 = q.2.1 := by unfold up2; rw [va_up_ne _ _ (by omega), va_up_self]
theorem up2_9 {kk : Nat → KV} {q : Bool × KV × KV} : up2 kk q 259 = q.2.2 := by unfold up2; rw [va_up_self]
def rpW (j : Nat) (op a c : Int32) (kk : Nat → KV) : Nat → KV := if (rCm op (rH op) (kk 256) (kk 257)).1 = true then rwt (j + 1) a c (up2 kk (rCm op (rH op) (kk 256) (kk 257))) else up2 kk (rCm op (rH op) (kk 256) (kk 257))
def rpE (op a c : Int32) (k y : KV) (kk : Nat → KV) : Nat → KV := if (rCm op (nH (rH op)) k y).1 = true then (if c < 0 then va_up (up2 kk (rCm op (nH (rH op)) k y)) a.toNatClampNeg (rCm op (nH (rH op)) k y).2.1 else va_up (va_up (up2 kk (rCm op (nH (rH op)) k y)) a.toNatClampNeg (rCm op (nH (rH op)) k y).2.1) c.toNatClampNeg (rCm op (nH (rH op)) k y).2.2) else up2 kk (rCm op (nH (rH op)) k y)
theorem rwt_o {j : Nat} {a c : Int32} {kk : Nat → KV} (ha : a < 0 ∨ a.toNatClampNeg < 6) (hc : c < 0 ∨ c.toNatClampNeg < 6) {x : Nat} (hx : x < 10 * j ∨ 10 * j + 10 ≤ x) : rwt j a c kk x = kk x := by
  have h1 : rcp 0 (10 * j) 10 kk x = kk x := by unfold rcp; rw [if_neg (by omega)]
  unfold rwt
  by_cases qa : a < 0 <;> by_cases qc : c < 0
  · simp only [if_pos qa, if_pos qc]; exact h1
  · simp only [if_pos qa, if_neg qc]
    have := hc.resolve_left qc
    rw [va_up_ne _ _ (by omega)]; exact h1
  · simp only [if_neg qa, if_pos qc]
    have := ha.resolve_left qa
    rw [va_up_ne _ _ (by omega)]; exact h1
  · simp only [if_neg qa, if_neg qc]
    have := hc.resolve_left qc
    have := ha.resolve_left qa
    rw [va_up_ne _ _ (by omega), va_up_ne _ _ (by omega)]; exact h1
theorem k01_rwt {kk : Nat → KV} (h : k01 kk) (j : Nat) (a c : Int32) : k01 (rwt j a c kk) := by
  have h1 := h.rcp 0 (10 * j) 10
  show k01 (if c < 0 then (if a < 0 then rcp 0 (10 * j) 10 kk else va_up (rcp 0 (10 * j) 10 kk) (10 * j + a.toNatClampNeg) (rcp 0 (10 * j) 10 kk 258)) else va_up (if a < 0 then rcp 0 (10 * j) 10 kk else va_up (rcp 0 (10 * j) 10 kk) (10 * j + a.toNatClampNeg) (rcp 0 (10 * j) 10 kk 258)) (10 * j + c.toNatClampNeg) ((if a < 0 then rcp 0 (10 * j) 10 kk else va_up (rcp 0 (10 * j) 10 kk) (10 * j + a.toNatClampNeg) (rcp 0 (10 * j) 10 kk 258)) 259))
  have h2 : k01 (if a < 0 then rcp 0 (10 * j) 10 kk else va_up (rcp 0 (10 * j) 10 kk) (10 * j + a.toNatClampNeg) (rcp 0 (10 * j) 10 kk 258)) := by
    split
    · exact h1
    · exact h1.up (h1 _)
  split
  · exact h2
  · exact h2.up (h2 _)
theorem rCm_1 (op h : Int32) (k j : KV) : ((rCm op h k j).2.1.1 = k.1 ∨ (rCm op h k j).2.1.1 = 1) ∧ ((rCm op h k j).2.2.1 = j.1 ∨ (rCm op h k j).2.2.1 = 1) := by
  unfold rCm rLs rLe rlt rAl
  split
  · split <;> split <;> (simp only [rtg_1]; exact ⟨Or.inl rfl, Or.inl rfl⟩)
  · split
    · exact ⟨Or.inl rfl, Or.inl rfl⟩
    · split
      · simp only [rtg_1]; exact ⟨Or.inr rfl, Or.inr rfl⟩
      · exact ⟨Or.inr rfl, Or.inr rfl⟩
theorem rKn_1 (s : KV) (m v : Int32) : (rKn s m v).1 = s.1 := rfl
theorem kU_1 (s : KV) (x y : Int64) : (kU s x y).1 = s.1 := rfl
theorem kS_1 (s : KV) (x y : Int64) : (kS s x y).1 = s.1 := rfl
theorem kF_1 (s : KV) (n : Int32) : (kF s n).1 = s.1 := rfl
theorem rbs_1 (s : KV) (x y : Int64) : (rbs s x y).1 = s.1 := by
  unfold rbs
  split
  · rfl
  · split
    · rfl
    · rfl
theorem rSh_1 (op : Int32) (k j s : KV) : (rSh op k j s).1 = s.1 := by
  unfold rSh
  split
  · rfl
  · split
    · rfl
    · rfl
theorem rBit_1 (op : Int32) (k j s : KV) : (rBit op k j s).1 = s.1 := by
  unfold rBit
  repeat' split
  all_goals first | rfl | exact rSh_1 _ _ _ _
theorem rBo_1 (op : Int32) (k j s : KV) : (rBo op k j s).1 = s.1 := by
  unfold rBo
  repeat' split
  all_goals first | rfl | (rw [rbs_1, kU_1]) | (rw [rbs_1])
theorem rOp_1 (op : Int32) (k j : KV) : (rOp op k j).1 = 1 := by unfold rOp; rw [rBo_1, rBit_1]; rfl
theorem rSa_1 (op : Int32) (k j s : KV) : (rSa op k j s).1 = s.1 := by
  unfold rSa
  repeat' split
  all_goals rfl
theorem k01.rcm {kk : Nat → KV} (h : k01 kk) (op t : Int32) (x y : Nat) : k01 (up2 kk (rCm op t (kk x) (kk y))) := by
  have hq := rCm_1 op t (kk x) (kk y)
  refine (h.up ?_).up ?_
  · rcases hq.1 with q | q <;> rw [q]
    · exact h _
    · exact Or.inr rfl
  · rcases hq.2 with q | q <;> rw [q]
    · exact h _
    · exact Or.inr rfl
section R7
variable {w : xw} {b : Nat} {th ct : Int32} {po pa pb pn pf : Nat → Int32} {ln : Int32} {bt : Nat → Int32} {kk : Nat → KV} {pl st en wg : Int32} {ws : Nat → Int32} {rc : Int32} {rg sk : Nat → Int32}
theorem er_part {j : Nat} {op a c t : Int32} (hj : j < 24) (oa : okR a ∧ a.toNatClampNeg < 6) (oc : c < 0 ∨ (okR c ∧ c.toNatClampNeg < 6)) (hk : k01 kk) : f_R_part (rb w b th ct po pa pb pn pf ln bt kk pl st en (Int32.ofNat j) ws rc rg sk) b op a c t = some (b01 (rCm op (nH (rH op)) (kk 256) (kk 257)).1, rb w b th ct po pa pb pn pf ln bt (rpE op a c (kk 256) (kk 257) (rpW j op a c kk)) (if (rCm op (nH (rH op)) (kk 256) (kk 257)).1 = true then pl + 1 else pl) st en (if (rCm op (rH op) (kk 256) (kk 257)).1 = true then Int32.ofNat (j + 1) else Int32.ofNat j) (if (rCm op (rH op) (kk 256) (kk 257)).1 = true then upd ws (j + 1) t else ws) rc rg sk) := by
  have oc' : c < 0 ∨ c.toNatClampNeg < 6 := oc.elim Or.inl (fun z => Or.inr z.2)
  have b43 : ∀ (wg : Int32) (ws : Nat → Int32) (f : Nat → KV), k01 f → f 256 = kk 256 → f 257 = kk 257 → f_R_part_b43 (rb w b th ct po pa pb pn pf ln bt f pl st en wg ws rc rg sk) b a c b op (nH (rH op)) = some (b01 (rCm op (nH (rH op)) (kk 256) (kk 257)).1, rb w b th ct po pa pb pn pf ln bt (rpE op a c (kk 256) (kk 257) f) (if (rCm op (nH (rH op)) (kk 256) (kk 257)).1 = true then pl + 1 else pl) st en wg ws rc rg sk) := fun wg ws f hf e6 e7 => by
    unfold f_R_part_b43 f_R_part_b71
    simp only [rck, er_cm hf, e6, e7, Option.bind_some]
    have hq := hf.rcm op (nH (rH op)) 256 257
    rw [e6, e7] at hq
    unfold rpE
    generalize hQ : rCm op (nH (rH op)) (kk 256) (kk 257) = q at hq
    have eu : va_up (va_up f 258 q.2.1) 259 q.2.2 = up2 f q := rfl
    rw [eu]
    cases q1 : q.1
    · rw [if_neg (by decide), if_neg (by decide), if_neg (by decide)]
      rfl
    · rw [if_pos (by decide), if_pos rfl, if_pos rfl, er_copy ok258 oa.1 (hq _), n258, up2_8]
      simp only [Option.bind_some]
      by_cases hc : c < 0
      · rw [if_pos hc, if_pos hc]
        simp only [ri_pl, rp_pl, Option.bind_some]
        rfl
      · rw [if_neg hc, if_neg hc]
        have oc2 := oc.resolve_left hc
        have e9 : va_up (up2 f q) a.toNatClampNeg q.2.1 259 = q.2.2 := by
          have := oa.2
          rw [va_up_ne _ _ (by omega), up2_9]
        simp only [rck, Option.bind_some]
        rw [er_copy ok259 oc2.1 (by rw [n259, e9]; have := hq 259; rw [up2_9] at this; exact this), n259, e9]
        simp only [ri_pl, rp_pl, Option.bind_some]
        rfl
  have b31 : ∀ (wg : Int32) (ws : Nat → Int32) (f : Nat → KV), k01 f → f 256 = kk 256 → f 257 = kk 257 → f_R_part_b31 (rb w b th ct po pa pb pn pf ln bt f pl st en wg ws rc rg sk) b op a c (rH op) = some (b01 (rCm op (nH (rH op)) (kk 256) (kk 257)).1, rb w b th ct po pa pb pn pf ln bt (rpE op a c (kk 256) (kk 257) f) (if (rCm op (nH (rH op)) (kk 256) (kk 257)).1 = true then pl + 1 else pl) st en wg ws rc rg sk) := fun wg ws f hf e6 e7 => by
    have := b43 wg ws f hf e6 e7
    unfold f_R_part_b31
    by_cases h : ¬ rH op = 0
    · rw [if_pos h]
      have e : nH (rH op) = 0 := by unfold nH; rw [if_pos h]
      rw [e] at this ⊢
      exact this
    · rw [if_neg h]
      have e : nH (rH op) = 1 := by unfold nH; rw [if_neg h]
      rw [e] at this ⊢
      exact this
  have b11 : f_R_part_b11 (rb w b th ct po pa pb pn pf ln bt kk pl st en (Int32.ofNat j) ws rc rg sk) b op a c t (rH op) = some (b01 (rCm op (nH (rH op)) (kk 256) (kk 257)).1, rb w b th ct po pa pb pn pf ln bt (rpE op a c (kk 256) (kk 257) (rpW j op a c kk)) (if (rCm op (nH (rH op)) (kk 256) (kk 257)).1 = true then pl + 1 else pl) st en (if (rCm op (rH op) (kk 256) (kk 257)).1 = true then Int32.ofNat (j + 1) else Int32.ofNat j) (if (rCm op (rH op) (kk 256) (kk 257)).1 = true then upd ws (j + 1) t else ws) rc rg sk) := by
    unfold f_R_part_b11 rpW
    simp only [rck, er_cm hk, Option.bind_some]
    have hq := hk.rcm op (rH op) 256 257
    have eu : va_up (va_up kk 258 (rCm op (rH op) (kk 256) (kk 257)).2.1) 259 (rCm op (rH op) (kk 256) (kk 257)).2.2 = up2 kk (rCm op (rH op) (kk 256) (kk 257)) := rfl
    rw [eu]
    cases q1 : (rCm op (rH op) (kk 256) (kk 257)).1
    · rw [if_pos (by rfl)]
      simp only [Bool.false_eq_true, if_false]
      exact b31 _ _ _ hq (up2_o (by omega)) (up2_o (by omega))
    · rw [if_neg (by decide), er_wait hj rfl (Or.inr oa.2) oc' hq]
      simp only [Option.bind_some, if_true]
      exact b31 _ _ _ (k01_rwt hq _ _ _) (by rw [rwt_o (Or.inr oa.2) oc' (by omega), up2_o (by omega)]) (by rw [rwt_o (Or.inr oa.2) oc' (by omega), up2_o (by omega)])
  unfold f_R_part
  rw [if_neg (by decide)]
  by_cases h : ¬ (op - op / (2 : Int32) * (2 : Int32)) = 0
  · rw [if_pos h]
    have e : rH op = 0 := by unfold rH; rw [if_pos h]
    rw [e] at b11 ⊢
    exact b11
  · rw [if_neg h]
    have e : rH op = 1 := by unfold rH; rw [if_neg h]
    rw [e] at b11 ⊢
    exact b11
/-- the way's end: what is known of the six numbers is kept -/
theorem er_keep (hk : k01 kk) : ∀ (m r n : Nat), r + m = 6 → m < n → f_R_pass_b62 n (rb w b th ct po pa pb pn pf ln bt (rcp 0 250 r kk) pl st en wg ws rc rg sk) b (Int32.ofNat r) = some (0, rb w b th ct po pa pb pn pf ln bt (rcp 0 250 6 kk) pl st en wg ws rc rg sk) := by
  have o250 : ∀ r, r < 6 → okR ((250 : Int32) + Int32.ofNat r) ∧ ((250 : Int32) + Int32.ofNat r).toNatClampNeg = 250 + r := by
    have h : ∀ r, r < 6 → (¬ ((250 : Int32) + Int32.ofNat r) < 0 ∧ ((250 : Int32) + Int32.ofNat r).toNatClampNeg < 260) ∧ ((250 : Int32) + Int32.ofNat r).toNatClampNeg = 250 + r := by decide
    exact h
  intro m
  induction m with
  | zero =>
    intro r n hr hn
    obtain ⟨n, rfl⟩ : ∃ q, n = q + 1 := ⟨n - 1, by omega⟩
    obtain rfl : r = 6 := by omega
    unfold f_R_pass_b62
    rw [xfix_s]
    unfold f_R_pass_s62
    rw [if_pos ((i32_le6 (by omega)).mpr (by omega))]
    rfl
  | succ m ih =>
    intro r n hr hn
    obtain ⟨n, rfl⟩ : ∃ q, n = q + 1 := ⟨n - 1, by omega⟩
    unfold f_R_pass_b62
    rw [xfix_s]
    unfold f_R_pass_s62
    rw [if_neg (fun q => absurd ((i32_le6 (by omega)).mp q) (by omega))]
    obtain ⟨o2, e2⟩ := o250 r (by omega)
    have e1 : (Int32.ofNat r).toNatClampNeg = r := i32_nat r (by omega)
    have or' : okR (Int32.ofNat r) := ⟨i32_nneg r (by omega), by omega⟩
    simp only [rck, Option.bind_some]
    rw [er_copy or' o2 (hk.rcp _ _ _ _), e2, e1]
    simp only [Option.bind_some]
    have u := rcp_up (f := 0) (t := 250) (n := r) (kk := kk) (by omega)
    rw [Nat.zero_add] at u
    rw [u, i32_succ r (by omega)]
    have := ih (r + 1) n (by omega) (by omega)
    unfold f_R_pass_b62 at this
    exact this
/-- what passes through one instruction: goes the way on?, what is known, place, ended, ways that wait -/
def rPs (v : IV) (p j : Nat) (kk : Nat → KV) (en : Int32) (ws : Nat → Int32) : Bool × (Nat → KV) × Int32 × Int32 × Nat × (Nat → Int32) :=
  if v.1 = 23 then (false, rcp 0 250 6 kk, Int32.ofNat p, 1, j, ws)
  else if (16 : Int32) ≤ v.1 ∧ v.1 ≤ 21 then ((rCm v.1 (nH (rH v.1)) (kk 256) (kk 257)).1, rpE v.1 v.2.1 v.2.2.1 (kk 256) (kk 257) (rpW j v.1 v.2.1 v.2.2.1 kk), if (rCm v.1 (nH (rH v.1)) (kk 256) (kk 257)).1 = true then Int32.ofNat p + 1 else Int32.ofNat p, en, if (rCm v.1 (rH v.1) (kk 256) (kk 257)).1 = true then j + 1 else j, if (rCm v.1 (rH v.1) (kk 256) (kk 257)).1 = true then upd ws (j + 1) (Int32.ofNat p + 1 + v.2.2.2.2) else ws)
  else if v.1 = 0 then (true, va_up kk v.2.1.toNatClampNeg (kk 257), Int32.ofNat p + 1, en, j, ws)
  else if v.1 ≤ 11 then (rtgo (rOp v.1 (kk 256) (kk 257)), va_up (va_up kk 258 (rSa v.1 (kk 256) (kk 257) (rtg (rOp v.1 (kk 256) (kk 257))))) v.2.1.toNatClampNeg (rSa v.1 (kk 256) (kk 257) (rtg (rOp v.1 (kk 256) (kk 257)))), Int32.ofNat p + 1, en, j, ws)
  else if v.1 = 12 then (true, va_up (va_up kk 258 (mts (rpl kk) (hiN (kk 257) - loN (kk 257)) (loN (kk 257) + 1) (rpl kk (loN (kk 257))))) v.2.1.toNatClampNeg (mts (rpl kk) (hiN (kk 257) - loN (kk 257)) (loN (kk 257) + 1) (rpl kk (loN (kk 257)))), Int32.ofNat p + 1, en, j, ws)
  else if v.1 = 13 then (true, if loN (kk 257) = hiN (kk 257) then va_up kk (6 + loN (kk 257)) (kk 256) else rst (kk 256) (loN (kk 257)) (hiN (kk 257) + 1 - loN (kk 257)) kk, Int32.ofNat p + 1, en, j, ws)
  else if v.1 = 14 then (true, va_up (va_up kk 258 (rLd v.2.2.2.2)) v.2.1.toNatClampNeg (rLd v.2.2.2.2), Int32.ofNat p + 1, en, j, ws)
  else if v.1 = 15 then (true, va_up (rcp 0 (10 * (j + 1)) 10 kk) v.2.2.1.toNatClampNeg (kF (kk v.2.2.1.toNatClampNeg) (if (kk v.2.2.1.toNatClampNeg).2.2.2.2.2.2.2 ≤ v.2.2.2.1 then v.2.2.2.1 else (kk v.2.2.1.toNatClampNeg).2.2.2.2.2.2.2)), Int32.ofNat p + 1, en, j + 1, upd ws (j + 1) (Int32.ofNat p + 1 + v.2.2.2.2))
  else (true, kk, if v.1 = 22 then Int32.ofNat p + 1 + v.2.2.2.2 else Int32.ofNat p + 1, en, j, ws)
def RS (w : xw) (b : Nat) (th ct : Int32) (po pa pb pn pf : Nat → Int32) (ln : Int32) (bt : Nat → Int32) (st rc : Int32) (rg sk : Nat → Int32) (q : Bool × (Nat → KV) × Int32 × Int32 × Nat × (Nat → Int32)) : xw := rb w b th ct po pa pb pn pf ln bt q.2.1 q.2.2.1 st q.2.2.2.1 (Int32.ofNat q.2.2.2.2.1) q.2.2.2.2.2 rc rg sk
theorem er_pass {p j : Nat} (hp : p < 24) (hpl : pl = Int32.ofNat p) (hj : j < 24) (ho : okI (rv5 po pa pb pn pf p)) (hr : ¬ po p < 0 ∧ po p ≤ 23) (h15 : po p = 15 → ¬ pb p = -1) (hk : k01 kk) (h10 : po p = 10 → ¬ (kk 257).2.2.2.2.1 = 0 ∧ ¬ (kk 257).2.2.2.1 = 0) (hy : po p = 12 ∨ po p = 13 → (0 : Int64) ≤ (kk 257).2.2.2.1 ∧ (kk 257).2.2.2.1 ≤ (kk 257).2.2.2.2.1 ∧ (kk 257).2.2.2.2.1 < 4) (hg1 : rtgo (kS (kU kNothing 0 255) 0 255) = true) (hg2 : rtgo (kS (kU kNothing 0 65535) 0 65535) = true) : f_R_pass (rb w b th ct po pa pb pn pf ln bt kk pl st en (Int32.ofNat j) ws rc rg sk) b = some (b01 (rPs (rv5 po pa pb pn pf p) p j kk en ws).1, RS w b th ct po pa pb pn pf ln bt st rc rg sk (rPs (rv5 po pa pb pn pf p) p j kk en ws)) := by
  have e1 : pl.toNatClampNeg = p := by rw [hpl]; exact i32_nat p (by omega)
  have hlt : pl.toNatClampNeg < 24 := by omega
  have hnn : ¬ pl < 0 := by rw [hpl]; exact i32_nneg p (by omega)
  have oa : okR (pa p) := okR_6 ho.1.1 ho.1.2
  have oa6 : (pa p).toNatClampNeg < 6 := ho.1.2
  have oc : pb p < 0 ∨ (okR (pb p) ∧ (pb p).toNatClampNeg < 6) := by
    rcases ho.2 with q | ⟨q0, q6⟩
    · have q : pb p = -1 := q
      exact Or.inl (by rw [q]; decide)
    · exact Or.inr ⟨okR_6 q0 q6, q6⟩
  have b277 : ∀ (f : Nat → KV) (wg : Int32) (ws : Nat → Int32) (l5 s : Int32), (l5 = 0 ∨ l5 = 1) → f_R_pass_b277 (rb w b th ct po pa pb pn pf ln bt f pl st en wg ws rc rg sk) l5 b s = some (l5, rb w b th ct po pa pb pn pf ln bt f s st en wg ws rc rg sk) := fun f wg ws l5 s h5 => by
    unfold f_R_pass_b277
    simp only [rp_pl, Option.bind_some]
    rcases h5 with rfl | rfl <;> rfl
  have b259 : ∀ (f : Nat → KV) (wg : Int32) (ws : Nat → Int32) (l5 : Int32), (l5 = 0 ∨ l5 = 1) → f_R_pass_b259 (rb w b th ct po pa pb pn pf ln bt f pl st en wg ws rc rg sk) b (po p) (pl + 1 + pf p) l5 = some (l5, rb w b th ct po pa pb pn pf ln bt f (if po p = 22 then pl + 1 + pf p else pl + 1) st en wg ws rc rg sk) := fun f wg ws l5 h5 => by
    unfold f_R_pass_b259
    by_cases h : po p = 22
    · rw [if_neg (not_not_intro h), if_pos h]
      exact b277 f wg ws l5 _ h5
    · rw [if_pos h, if_neg h]
      simp only [ri_pl, Option.bind_some]
      exact b277 f wg ws l5 _ h5
  have n22 : ∀ {x : Int32}, po p = x → ¬ x = 22 → (if po p = 22 then pl + 1 + pf p else pl + 1) = pl + 1 := fun e hx => by rw [if_neg (by rw [e]; exact hx)]
  unfold f_R_pass
  simp only [rr_2, rr_3, rr_4, rr_6, ri_pl, ra_po hnn hlt, ra_pa hnn hlt, ra_pb hnn hlt, ra_pf hnn hlt, e1, Option.bind_some]
  by_cases h23 : po p = 23
  · rw [if_neg (not_not_intro h23)]
    rw [rp_en (Or.inr rfl)]
    simp only [Option.bind_some]
    have ks := er_keep (w := w) (b := b) (th := th) (ct := ct) (po := po) (pa := pa) (pb := pb) (pn := pn) (pf := pf) (ln := ln) (bt := bt) (pl := pl) (st := st) (en := 1) (wg := Int32.ofNat j) (ws := ws) (rc := rc) (rg := rg) (sk := sk) hk 6 0 4000 rfl (by decide)
    rw [rcp_0] at ks
    refine ks.trans ?_
    unfold rPs
    rw [if_pos (show (rv5 po pa pb pn pf p).1 = 23 from h23), hpl]
    rfl
  rw [if_pos h23]
  have c23 : ¬ (rv5 po pa pb pn pf p).1 = 23 := h23
  by_cases h16 : (16 : Int32) ≤ po p ∧ po p ≤ 21
  · rw [if_neg (i32_not_lt h16.1), if_neg (i32_not_lt h16.2)]
    simp only [rck, Option.bind_some]
    rw [er_part hj ⟨oa, oa6⟩ oc hk]
    simp only [Option.bind_some]
    refine (xrZ_b _ _).trans ?_
    have ev : rPs (rv5 po pa pb pn pf p) p j kk en ws = ((rCm (po p) (nH (rH (po p))) (kk 256) (kk 257)).1, rpE (po p) (pa p) (pb p) (kk 256) (kk 257) (rpW j (po p) (pa p) (pb p) kk), if (rCm (po p) (nH (rH (po p))) (kk 256) (kk 257)).1 = true then Int32.ofNat p + 1 else Int32.ofNat p, en, if (rCm (po p) (rH (po p)) (kk 256) (kk 257)).1 = true then j + 1 else j, if (rCm (po p) (rH (po p)) (kk 256) (kk 257)).1 = true then upd ws (j + 1) (Int32.ofNat p + 1 + pf p) else ws) := by
      unfold rPs
      rw [if_neg c23, if_pos (show (16 : Int32) ≤ (rv5 po pa pb pn pf p).1 ∧ (rv5 po pa pb pn pf p).1 ≤ 21 from h16)]
      rfl
    rw [ev, hpl]
    unfold RS
    dsimp only
    cases (rCm (po p) (rH (po p)) (kk 256) (kk 257)).1
    · simp only [Bool.false_eq_true, if_false]
    · simp only [if_true]
  have hb : f_R_pass_b111 (rb w b th ct po pa pb pn pf ln bt kk pl st en (Int32.ofNat j) ws rc rg sk) b (po p) (pa p) (pb p) (pl + 1 + pf p) = some (b01 (rPs (rv5 po pa pb pn pf p) p j kk en ws).1, RS w b th ct po pa pb pn pf ln bt st rc rg sk (rPs (rv5 po pa pb pn pf p) p j kk en ws)) := by
    unfold f_R_pass_b111 rPs
    rw [if_neg c23, if_neg (show ¬ ((16 : Int32) ≤ (rv5 po pa pb pn pf p).1 ∧ (rv5 po pa pb pn pf p).1 ≤ 21) from h16)]
    simp only [Option.bind_some]
    by_cases h0 : po p = 0
    · rw [if_neg (not_not_intro h0), if_pos (show (rv5 po pa pb pn pf p).1 = 0 from h0)]
      simp only [rck, Option.bind_some]
      rw [er_copy ok257 oa (hk _), n257]
      simp only [Option.bind_some]
      rw [b259 _ _ _ 1 (Or.inr rfl), n22 h0 (by decide), hpl]
      rfl
    rw [if_pos h0, if_neg (show ¬ (rv5 po pa pb pn pf p).1 = 0 from h0)]
    by_cases h11 : po p ≤ 11
    · rw [if_neg (i32_not_lt h11), if_pos (show (rv5 po pa pb pn pf p).1 ≤ 11 from h11)]
      simp only [rck, Option.bind_some]
      rw [er_op h10]
      simp only [rck, Option.bind_some]
      have e1' : (rSa (po p) (kk 256) (kk 257) (rtg (rOp (po p) (kk 256) (kk 257)))).1 = 1 := by
        rw [rSa_1, rtg_1, rOp_1]
      rw [er_copy ok258 oa (by rw [n258, va_up_self]; exact Or.inr e1'), n258, va_up_self]
      simp only [Option.bind_some]
      have hne : ¬ po p = 22 := fun z => absurd h11 (by rw [z]; decide)
      rw [b259 _ _ _ _ (by cases rtgo (rOp (po p) (kk 256) (kk 257)) <;> decide), if_neg hne, hpl]
      unfold RS rv5
      dsimp only
    rw [if_pos (i32_le_of h11), if_neg (show ¬ (rv5 po pa pb pn pf p).1 ≤ 11 from h11)]
    by_cases h12 : po p = 12
    · obtain ⟨y0, y1, y4⟩ := hy (Or.inl h12)
      obtain ⟨q1, q2, q3, q4⟩ := b4 y0 y1 y4
      rw [if_neg (not_not_intro h12), if_pos (show (rv5 po pa pb pn pf p).1 = 12 from h12)]
      simp only [rck, Option.bind_some]
      rw [er_get oa q3 q4 q1 q2 hk]
      simp only [Option.bind_some]
      rw [b259 _ _ _ 1 (Or.inr rfl), n22 h12 (by decide), hpl]
      rfl
    rw [if_pos h12, if_neg (show ¬ (rv5 po pa pb pn pf p).1 = 12 from h12)]
    by_cases h13 : po p = 13
    · obtain ⟨y0, y1, y4⟩ := hy (Or.inr h13)
      obtain ⟨q1, q2, q3, q4⟩ := b4 y0 y1 y4
      rw [if_neg (not_not_intro h13), if_pos (show (rv5 po pa pb pn pf p).1 = 13 from h13)]
      simp only [rck, Option.bind_some]
      rw [er_put q3 q4 q1 q2 hk]
      simp only [Option.bind_some]
      rw [b259 _ _ _ 1 (Or.inr rfl), n22 h13 (by decide), hpl]
      rfl
    rw [if_pos h13, if_neg (show ¬ (rv5 po pa pb pn pf p).1 = 13 from h13)]
    by_cases h14 : po p = 14
    · rw [if_neg (not_not_intro h14), if_pos (show (rv5 po pa pb pn pf p).1 = 14 from h14)]
      simp only [rr_6, ri_pl, ra_pf hnn hlt, e1, rck, Option.bind_some]
      rw [er_load oa hg1 hg2]
      simp only [Option.bind_some]
      rw [b259 _ _ _ 1 (Or.inr rfl), n22 h14 (by decide), hpl]
      rfl
    rw [if_pos h14, if_neg (show ¬ (rv5 po pa pb pn pf p).1 = 14 from h14)]
    by_cases h15' : po p = 15
    · rw [if_neg (not_not_intro h15'), if_pos (show (rv5 po pa pb pn pf p).1 = 15 from h15')]
      have ocb : okR (pb p) ∧ (pb p).toNatClampNeg < 6 := by
        rcases ho.2 with q | ⟨q0, q6⟩
        · exact absurd q (h15 h15')
        · exact ⟨okR_6 q0 q6, q6⟩
      simp only [rck, Option.bind_some]
      rw [er_wait hj rfl (Or.inl (by decide)) (Or.inl (by decide)) hk]
      have ew' : rwt (j + 1) (-1) (-1) kk = rcp 0 (10 * (j + 1)) 10 kk := by
        unfold rwt
        simp only [if_pos (show (-1 : Int32) < 0 by decide)]
      have ec : rcp 0 (10 * (j + 1)) 10 kk (pb p).toNatClampNeg = kk (pb p).toNatClampNeg := by
        have := ocb.2
        unfold rcp
        rw [if_neg (by omega)]
      rw [ew']
      unfold f_R_pass_b258
      simp only [rr_16, rr_5, ri_pl, rk_7 ocb.1.1 ocb.1.2, ra_pn hnn hlt, e1, ec, rw_7 ocb.1.1 ocb.1.2, Option.bind_some]
      by_cases hm : (kk (pb p).toNatClampNeg).2.2.2.2.2.2.2 ≤ pn p
      · rw [if_pos hm, b259 _ _ _ 1 (Or.inr rfl), n22 h15' (by decide), hpl]
        show _ = some (1, rb w b th ct po pa pb pn pf ln bt (va_up (rcp 0 (10 * (j + 1)) 10 kk) (pb p).toNatClampNeg (kF (kk (pb p).toNatClampNeg) (if (kk (pb p).toNatClampNeg).2.2.2.2.2.2.2 ≤ pn p then pn p else (kk (pb p).toNatClampNeg).2.2.2.2.2.2.2))) _ _ _ _ _ _ _ _)
        rw [if_pos hm]
        rfl
      · rw [if_neg hm, b259 _ _ _ 1 (Or.inr rfl), n22 h15' (by decide), hpl]
        show _ = some (1, rb w b th ct po pa pb pn pf ln bt (va_up (rcp 0 (10 * (j + 1)) 10 kk) (pb p).toNatClampNeg (kF (kk (pb p).toNatClampNeg) (if (kk (pb p).toNatClampNeg).2.2.2.2.2.2.2 ≤ pn p then pn p else (kk (pb p).toNatClampNeg).2.2.2.2.2.2.2))) _ _ _ _ _ _ _ _)
        rw [if_neg hm]
        rfl
    rw [if_pos h15', if_neg (show ¬ (rv5 po pa pb pn pf p).1 = 15 from h15')]
    rw [b259 _ _ _ 1 (Or.inr rfl), hpl]
    rfl
  by_cases h16a : po p < 16
  · rw [if_pos h16a]; exact hb
  · rw [if_neg h16a]
    have h21 : (21 : Int32) < po p := by
      by_cases z : po p ≤ 21
      · exact absurd ⟨by rw [Int32.le_iff_toInt_le]; rw [Int32.lt_iff_toInt_lt] at h16a; omega, z⟩ h16
      · exact i32_le_of z
    rw [if_pos h21]; exact hb
end R7
