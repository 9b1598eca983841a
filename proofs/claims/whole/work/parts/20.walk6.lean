theorem b01_0 (b : Bool) : (b01 b = 0) ↔ b = false := by cases b <;> decide
/-- where a way goes on: place, the ways that wait, ended, what is known -/
def plA (g : Nat) (ii : Nat → IV) (p : Nat) (wt : Nat → Int32) (en : Int32) (kc : Nat → KV) : Int32 × (Nat → Int32) × Int32 × (Nat → KV) :=
  if (ii p).1 = 23 then ((rsm g ii wt (kcp (g + 48) (g + 30) 10 kc)).1, (rsm g ii wt (kcp (g + 48) (g + 30) 10 kc)).2.1, 1, (rsm g ii wt (kcp (g + 48) (g + 30) 10 kc)).2.2)
  else if (ii p).1 = 22 then (Int32.ofNat p + 1 + (ii p).2.2.2.2, wt, en, kc)
  else if (ii p).1 < 15 then (if (chg g (ii p) kc).1 = true then (Int32.ofNat p + 1, wt, en, (chg g (ii p) kc).2) else ((rsm g ii wt (chg g (ii p) kc).2).1, (rsm g ii wt (chg g (ii p) kc).2).2.1, en, (rsm g ii wt (chg g (ii p) kc).2).2.2))
  else (if (prt g (ii p) p kc).2.1 = true then (Int32.ofNat p + 1, upd wt p (b01 (prt g (ii p) p kc).1), en, (prt g (ii p) p kc).2.2) else ((rsm g ii (upd wt p (b01 (prt g (ii p) p kc).1)) (prt g (ii p) p kc).2.2).1, (rsm g ii (upd wt p (b01 (prt g (ii p) p kc).1)) (prt g (ii p) p kc).2.2).2.1, en, (rsm g ii (upd wt p (b01 (prt g (ii p) p kc).1)) (prt g (ii p) p kc).2.2).2.2))
theorem stp_k (g : Nat) (k : KV) (r m : Nat) (kc : Nat → KV) (a : Nat) : (stp g k r m kc a).1 = (kc a).1 := by
  unfold stp
  split
  · rfl
  · rfl
section W7
variable {w : xw} {g : Nat} {ct : Int32} {ii : Nat → IV} {ln : Int32} {bt wt : Nat → Int32} {en st : Int32} {mr ms : Nat → Int32} {mi : Int32} {kc : Nat → KV}
theorem chg_k {v : IV} (hk : k01 kc) : k01 (chg g v kc).2 := by
  have hy := hk.y g v
  have hu : ∀ n, (kUpTo n).1 = 1 := fun n => tg_1 _
  unfold chg
  split
  · exact hy.up (hy _)
  split
  · exact hy.up (by rw [mts_k]; exact hy _)
  split
  · split
    · exact hy.up (hy _)
    · intro a
      have e := stp_k g (yK g v kc (g + 30 + 3 + v.2.1.toNatClampNeg)) (loN (yK g v kc (yA g v))) (hiN (yK g v kc (yA g v)) + 1 - loN (yK g v kc (yA g v))) (yK g v kc) a
      show (stp _ _ _ _ _ a).1 = 0 ∨ (stp _ _ _ _ _ a).1 = 1
      rw [e]
      exact hy a
  split
  · refine hy.up ?_
    split
    · exact Or.inr rfl
    · split
      · exact Or.inr (hu _)
      · exact Or.inr (hu _)
  · exact (hy.up (Or.inr (by rw [tg_1, kOp_1]))).up (Or.inr (by rw [tg_1, kOp_1]))
theorem prt_k {v : IV} {p : Nat} (hk : k01 kc) : k01 (prt g v p kc).2.2 := by
  unfold prt
  split
  · exact (hk.cp _ _ _).up (hk (g + 30 + 3 + v.2.2.1.toNatClampNeg))
  · exact (((((hk.cp _ _ _).tp v).rlq _ _ _).gp v _).tp v |>.rlq _ _ _).gp v _
theorem ew_place {p : Nat} (hp : p < 24) (ho : okI (ii p)) (hb : (ii p).1 = 15 → ¬ (ii p).2.2.1 = -1) (hk : k01 kc) (hy : (ii p).1 = 12 ∨ (ii p).1 = 13 → (0 : Int64) ≤ (yK g (ii p) kc (yA g (ii p))).2.2.2.1 ∧ (yK g (ii p) kc (yA g (ii p))).2.2.2.1 ≤ (yK g (ii p) kc (yA g (ii p))).2.2.2.2.1 ∧ (yK g (ii p) kc (yA g (ii p))).2.2.2.2.1 < 4) : f_W_placeAfter (ew (cb w g ct ii ln bt wt en st mr ms mi) (cP g) kc) (g + 29) (Int32.ofNat p) = some ((plA g ii p wt en kc).1, ew (cb w g ct ii ln bt ((plA g ii p wt en kc).2.1) ((plA g ii p wt en kc).2.2.1) st mr ms mi) (cP g) ((plA g ii p wt en kc).2.2.2)) := by
  have e1 : (Int32.ofNat p).toNatClampNeg = p := i32_nat p (by omega)
  have hlt : (Int32.ofNat p).toNatClampNeg < 24 := by omega
  unfold f_W_placeAfter f_W_placeAfter_b81 f_W_placeAfter_b96
  simp only [cr_29_0, cr_1_0, cs_I (i32_nneg p (by omega)) hlt, e1, ci_0 hp, Option.bind_some]
  unfold plA
  by_cases h23 : (ii p).1 = 23
  · rw [if_neg (fun q => q h23), if_pos h23]
    simp only [cr_29_7, cr_29_1, cs_eck, Option.bind_some]
    rw [es_take isS_e isS_n (by omega) hk]
    simp only [Option.bind_some]
    rw [cp_en (Or.inr rfl)]
    simp only [cc_29, Option.bind_some]
    rw [ew_resume (hk.cp _ _ _)]
    rfl
  rw [if_pos h23, if_neg h23]
  by_cases h22 : (ii p).1 = 22
  · rw [if_neg (fun q => q h22), if_pos h22]
    simp only [ci_4 hp, Option.bind_some]
  rw [if_pos h22, if_neg h22]
  by_cases h15 : (ii p).1 < 15
  · rw [if_pos h15, if_pos h15]
    simp only [cc_29, Option.bind_some]
    rw [ew_change hp ho hk hy]
    simp only [Option.bind_some]
    cases hc : (chg g (ii p) kc).1
    · rw [if_pos (by rfl), if_neg (by decide)]
      simp only [cc_29, Option.bind_some]
      rw [ew_resume (chg_k hk)]
      rfl
    · rw [if_neg (by decide), if_pos rfl]
  · rw [if_neg h15, if_neg h15]
    simp only [cc_29, Option.bind_some]
    rw [ew_part hp ho hb hk]
    simp only [Option.bind_some]
    cases hc : (prt g (ii p) p kc).2.1
    · rw [if_pos (by rfl), if_neg (by decide)]
      simp only [cc_29, Option.bind_some]
      rw [ew_resume (prt_k hk)]
      rfl
    · rw [if_neg (by decide), if_pos rfl]
end W7
/-- n numbers from d+3 on are not set -/
def kun (d n : Nat) (kc : Nat → KV) : Nat → KV := fun a => if d + 3 ≤ a ∧ a < d + 3 + n then (0, (kc a).2) else kc a
theorem kun_0 (d : Nat) (kc : Nat → KV) : kun d 0 kc = kc := by
  funext a
  unfold kun
  rw [if_neg (by omega)]
theorem kun_up {d n : Nat} {kc : Nat → KV} : va_up (kun d n kc) (d + 3 + n) (0, (kun d n kc (d + 3 + n)).2) = kun d (n + 1) kc := by
  funext a
  by_cases e : a = d + 3 + n
  · rw [e, va_up_self]
    unfold kun
    rw [if_neg (by omega), if_pos (by omega)]
  · rw [va_up_ne _ _ e]
    unfold kun
    by_cases q : d + 3 ≤ a ∧ a < d + 3 + n
    · rw [if_pos q, if_pos (by omega)]
    · rw [if_neg q, if_neg (by omega)]
def sbg (g : Nat) (kc : Nat → KV) : Nat → KV := va_up (va_up (kun (g + 30) 10 kc) (g + 30 + 3 + 1) (kUpTo 16)) (g + 30 + 3 + 2) kNothing
def wt0 (wt : Nat → Int32) (n : Nat) : Nat → Int32 := fun i => if i < n then 0 else wt i
theorem wt0_0 (wt : Nat → Int32) : wt0 wt 0 = wt := by
  funext i
  unfold wt0
  rw [if_neg (by omega)]
theorem wt0_up {wt : Nat → Int32} {n : Nat} : upd (wt0 wt n) n 0 = wt0 wt (n + 1) := by
  funext i
  unfold upd wt0
  by_cases e : i = n
  · rw [if_pos e, if_pos (by omega)]
  · rw [if_neg e]
    by_cases q : i < n
    · rw [if_pos q, if_pos (by omega)]
    · rw [if_neg q, if_neg (by omega)]
section W8
variable {w : xw} {g : Nat} {ct : Int32} {ii : Nat → IV} {ln : Int32} {bt wt : Nat → Int32} {en st : Int32} {mr ms : Nat → Int32} {mi : Int32} {kc : Nat → KV}
theorem es_beginP : ∀ (m r n : Nat), r + m = 4 → m < n → f_S_begin_b26 n (ew (cb w g ct ii ln bt wt en st mr ms mi) (cP g) (kun (g + 30) (6 + r) kc)) (g + 30) (Int32.ofNat r) = some ((), ew (cb w g ct ii ln bt wt en st mr ms mi) (cP g) (sbg g kc)) := by
  intro m
  induction m with
  | zero =>
    intro r n hr hn
    obtain ⟨n, rfl⟩ : ∃ q, n = q + 1 := ⟨n - 1, by omega⟩
    unfold f_S_begin_b26
    rw [xfix_s]
    unfold f_S_begin_s26
    rw [if_pos ((i32_le4 (by omega)).mpr (by omega)), show 6 + r = 10 by omega]
    simp only [cs_n0, cs_nR (r := 1) (by decide) (by decide), cs_nR (r := 2) (by decide) (by decide), show (1 : Int32).toNatClampNeg = 1 from rfl, show (2 : Int32).toNatClampNeg = 2 from rfl, ek_ck (cP_nR (g := g) (show 1 < 6 by decide)), ek_ck (cP_nR (g := g) (show 2 < 6 by decide)), ek_upto (cP_nR (g := g) (show 1 < 6 by decide)), ek_nothing (cP_nR (g := g) (show 2 < 6 by decide)), Option.bind_some]
    rfl
  | succ m ih =>
    intro r n hr hn
    obtain ⟨n, rfl⟩ : ∃ q, n = q + 1 := ⟨n - 1, by omega⟩
    unfold f_S_begin_b26
    rw [xfix_s]
    unfold f_S_begin_s26
    rw [if_neg (fun q => absurd ((i32_le4 (by omega)).mp q) (by omega))]
    have e1 : (Int32.ofNat r).toNatClampNeg = r := i32_nat r (by omega)
    simp only [cs_n1, cs_nP (i32_nneg r (by omega)) (show (Int32.ofNat r).toNatClampNeg < 4 by omega), e1, Option.bind_some]
    rw [ek_w0 (cP_nP (show r < 4 by omega)) (Or.inl rfl), show g + 30 + 9 + r = g + 30 + 3 + (6 + r) by omega, kun_up]
    simp only [Option.bind_some]
    rw [i32_succ r (by omega)]
    have := ih (r + 1) n (by omega) (by omega)
    unfold f_S_begin_b26 at this
    exact this
theorem es_beginR : ∀ (m r n : Nat), r + m = 6 → m < n → f_S_begin_b2 n (ew (cb w g ct ii ln bt wt en st mr ms mi) (cP g) (kun (g + 30) r kc)) (g + 30) (Int32.ofNat r) = some ((), ew (cb w g ct ii ln bt wt en st mr ms mi) (cP g) (sbg g kc)) := by
  intro m
  induction m with
  | zero =>
    intro r n hr hn
    obtain ⟨n, rfl⟩ : ∃ q, n = q + 1 := ⟨n - 1, by omega⟩
    unfold f_S_begin_b2
    rw [xfix_s]
    unfold f_S_begin_s2
    rw [if_pos ((i32_le6 (by omega)).mpr (by omega)), show r = 6 + 0 by omega]
    simp only [Option.bind_some]
    exact es_beginP 4 0 4000 rfl (by decide)
  | succ m ih =>
    intro r n hr hn
    obtain ⟨n, rfl⟩ : ∃ q, n = q + 1 := ⟨n - 1, by omega⟩
    unfold f_S_begin_b2
    rw [xfix_s]
    unfold f_S_begin_s2
    rw [if_neg (fun q => absurd ((i32_le6 (by omega)).mp q) (by omega))]
    have e1 : (Int32.ofNat r).toNatClampNeg = r := i32_nat r (by omega)
    simp only [cs_n0, cs_nR (i32_nneg r (by omega)) (show (Int32.ofNat r).toNatClampNeg < 6 by omega), e1, Option.bind_some]
    rw [ek_w0 (cP_nR (show r < 6 by omega)) (Or.inl rfl), kun_up]
    simp only [Option.bind_some]
    rw [i32_succ r (by omega)]
    have := ih (r + 1) n (by omega) (by omega)
    unfold f_S_begin_b2 at this
    exact this
theorem ew_wt0 : ∀ (m r n : Nat), r + m = 24 → m < n → f_W_begin_b19 n (ew (cb w g ct ii ln bt (wt0 wt r) en st mr ms mi) (cP g) kc) (g + 29) (Int32.ofNat r) = some ((), ew (cb w g ct ii ln bt (wt0 wt 24) en st mr ms mi) (cP g) kc) := by
  intro m
  induction m with
  | zero =>
    intro r n hr hn
    obtain ⟨n, rfl⟩ : ∃ q, n = q + 1 := ⟨n - 1, by omega⟩
    unfold f_W_begin_b19
    rw [xfix_s]
    unfold f_W_begin_s19
    rw [if_pos ((i32_le24 (by omega)).mpr (by omega)), show r = 24 by omega]
  | succ m ih =>
    intro r n hr hn
    obtain ⟨n, rfl⟩ : ∃ q, n = q + 1 := ⟨n - 1, by omega⟩
    unfold f_W_begin_b19
    rw [xfix_s]
    unfold f_W_begin_s19
    rw [if_neg (fun q => absurd ((i32_le24 (by omega)).mp q) (by omega))]
    have e1 : (Int32.ofNat r).toNatClampNeg = r := i32_nat r (by omega)
    simp only [cr_29_3, Option.bind_some]
    rw [cu_wt (i32_nneg r (by omega)) (show (Int32.ofNat r).toNatClampNeg < 24 by omega) (Or.inl rfl), e1, wt0_up]
    simp only [Option.bind_some]
    rw [i32_succ r (by omega)]
    have := ih (r + 1) n (by omega) (by omega)
    unfold f_W_begin_b19 at this
    exact this
theorem ew_begin : f_W_begin (ew (cb w g ct ii ln bt wt en st mr ms mi) (cP g) kc) (g + 29) = some ((), ew (cb w g ct ii ln bt (wt0 wt 24) 0 0 mr ms mi) (cP g) (sbg g kc)) := by
  unfold f_W_begin f_S_begin
  rw [cp_st]
  simp only [Option.bind_some]
  rw [cp_en (Or.inl rfl)]
  simp only [cr_29_1, cs_nck, Option.bind_some]
  have h1 := es_beginR (w := w) (g := g) (ct := ct) (ii := ii) (ln := ln) (bt := bt) (wt := wt) (en := 0) (st := 0) (mr := mr) (ms := ms) (mi := mi) (kc := kc) 6 0 4000 rfl (by decide)
  rw [kun_0] at h1
  refine Eq.trans (congrArg (fun o => Option.bind o _) h1) ?_
  simp only [Option.bind_some]
  have h2 := ew_wt0 (w := w) (g := g) (ct := ct) (ii := ii) (ln := ln) (bt := bt) (wt := wt) (en := 0) (st := 0) (mr := mr) (ms := ms) (mi := mi) (kc := sbg g kc) 24 0 4000 rfl (by decide)
  rw [wt0_0] at h2
  exact h2
end W8
