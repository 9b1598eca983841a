theorem pl_m1 : ∀ p, p < 60 → ¬ Int32.ofNat p = -1 := by decide
theorem st_add (n : Nat) : Int32.ofNat n + 1 = Int32.ofNat (n + 1) := (Int32.ofNat_add n 1).symm
theorem st_300 {n : Nat} (h : n ≤ 301) : ((300 : Int32) < Int32.ofNat n ↔ 300 < n) ∧ (Int32.ofNat n ≤ (300 : Int32) ↔ n ≤ 300) := by
  have e : (Int32.ofNat n).toInt = n := Int32.toInt_ofNat_of_lt (by omega)
  rw [Int32.lt_iff_toInt_lt, Int32.le_iff_toInt_le, e, show (300 : Int32).toInt = 300 by decide]
  omega
section L3
variable {g : Nat} {v : IV} {kc kk : Nat → KV}
theorem rAlm_v (v : IV) (kk : Nat → KV) : (rAlm v kk).1 = 0 ∨ ((rAlm v kk).1 ≠ 0 ∧ ¬ (rAlm v kk).1 ≤ 0) := by
  unfold rAlm
  split
  · exact Or.inr ⟨show (3 : Int32) ≠ 0 by decide, show ¬ (3 : Int32) ≤ 0 by decide⟩
  · show rAl2 v kk = 0 ∨ (rAl2 v kk ≠ 0 ∧ ¬ rAl2 v kk ≤ 0)
    unfold rAl2
    split
    · exact Or.inr ⟨by decide, by decide⟩
    · split
      · exact Or.inr ⟨by decide, by decide⟩
      · split
        · exact Or.inr ⟨by decide, by decide⟩
        · split
          · exact Or.inr ⟨by decide, by decide⟩
          · exact Or.inl rfl
theorem rAlm_0 (h : (rAlm v kk).1 = 0) : rUn v kk = false ∧ (rAlm v kk).2 = rAB v kk ∧ (v.1 = 10 ∨ v.1 = 11 → ¬ (rB v kk).2.2.2.1 = 0) ∧ (v.1 = 12 ∨ v.1 = 13 → (rB v kk).2.2.2.2.1 < 4) ∧ (v.1 = 12 → anyB (rB v kk).2.2.2.1 (rB v kk).2.2.2.2.1 (rpl kk) 4 0 = false) := by
  unfold rAlm at h ⊢
  cases hu : rUn v kk
  · rw [hu, if_neg (by decide)] at h
    have h : rAl2 v kk = 0 := h
    rw [if_neg (by decide)]
    unfold rAl2 at h
    by_cases a4 : (v.1 = 10 ∨ v.1 = 11) ∧ (rB v kk).2.2.2.1 = 0
    · rw [if_pos a4] at h; exact absurd h (by decide)
    rw [if_neg a4] at h
    by_cases a5 : (v.1 = 12 ∨ v.1 = 13) ∧ ¬ (rB v kk).2.2.2.2.1 ≤ 3
    · rw [if_pos a5] at h; exact absurd h (by decide)
    rw [if_neg a5] at h
    by_cases a6 : v.1 = 12 ∧ anyB (rB v kk).2.2.2.1 (rB v kk).2.2.2.2.1 (rpl kk) 4 0 = true
    · rw [if_pos a6] at h; exact absurd h (by decide)
    refine ⟨rfl, rfl, fun z e => a4 ⟨z, e⟩, fun z => ?_, fun z => ?_⟩
    · refine (lt4_le3 _).mpr ?_
      exact Classical.byContradiction (fun e => a5 ⟨z, e⟩)
    · exact Bool.eq_false_iff.mpr (fun e => a6 ⟨z, e⟩)
  · rw [hu, if_pos rfl] at h
    exact absurd h (show ¬ (3 : Int32) = 0 by decide)
theorem alm_o {a : Nat} (h : a ≠ g + 45) : (alm g v kc).2 a = kc a := by
  unfold alm
  split
  · rfl
  · split
    · exact yK_o h
    · split
      · exact yK_o h
      · split
        · rfl
        · rfl
theorem alm_k (hk : k01 kc) : k01 (alm g v kc).2 := by
  unfold alm
  split
  · exact hk
  · split
    · exact hk.y g v
    · split
      · exact hk.y g v
      · split
        · exact hk
        · exact hk
theorem uns_congr (ho : okI v) {kc' : Nat → KV} (h : ∀ r, r < 6 → kc' (g + 30 + 3 + r) = kc (g + 30 + 3 + r)) : uns g v kc' = uns g v kc := by
  unfold uns
  rw [h 0 (by decide), h _ ho.1.2]
  by_cases e : v.2.2.1 = -1
  · unfold rdB
    rw [decide_eq_false (not_not_intro e), Bool.false_and, Bool.false_and, Bool.false_and]
  · have hB : v.2.2.1.toNatClampNeg < 6 := by
      rcases ho.2 with z | ⟨-, z⟩
      · exact absurd z e
      · exact z
    rw [h _ hB]
theorem anyU_f {f : Nat → KV} : ∀ (m r : Nat), anyU f m r = false → ∀ t, r ≤ t → t < r + m → ¬ (f t).1 = 0
  | 0, _, _, t, a, b => absurd b (by omega)
  | m + 1, r, h, t, a, b => by
    have h : (decide ((f r).1 = 0) || anyU f m (r + 1)) = false := h
    rw [Bool.or_eq_false_iff, decide_eq_false_iff_not] at h
    by_cases e : t = r
    · rw [e]; exact h.1
    · exact anyU_f m (r + 1) h.2 t (by omega) (by omega)
end L3
section L4
variable {w w2 : xw} {g b : Nat} {ct : Int32} {ii : Nat → IV} {ln ln2 : Int32} {bt bt2 : Nat → Int32} {mr ms : Nat → Int32} {mi : Int32} {th : Int32} {po pa pb pn pf : Nat → Int32} {rc : Int32} {rg sk : Nat → Int32}
/-- the two walks end alike -/
def SAME (w w2 : xw) (g b : Nat) (ct : Int32) (ii : Nat → IV) (ln ln2 : Int32) (bt bt2 mr ms : Nat → Int32) (mi th : Int32) (po pa pb pn pf : Nat → Int32) (rc : Int32) (rg sk : Nat → Int32) (x y : Option (Int32 × xw)) : Prop := ∃ ans st en wt kc kk pl wg ws, x = some (ans, ew (cb w g ct ii ln bt wt en st mr ms mi) (cP g) kc) ∧ y = some (ans, rb w2 b th ct po pa pb pn pf ln2 bt2 kk pl st en wg ws rc rg sk) ∧ k01 kc ∧ k01 kk ∧ (¬ en = 0 → ∀ r, r < 6 → al (kc (g + 48 + 3 + r)) (kk (250 + r)))
theorem walk_sim (hv : ∀ i, i < 24 → okV (ii i)) (hii : ∀ i, i < 24 → rv5 po pa pb pn pf i = ii i) (hct : ∀ p, p < 60 → Int32.ofNat p < ct → p < 24) : ∀ (m n n' : Nat), m ≤ 300 → m + 1 < n → m + 1 < n' → ∀ (p : Nat) (kc kk : Nat → KV) (wt : Nat → Int32) (en : Int32) (j : Nat) (ws : Nat → Int32) (q : Nat → Nat), p < 60 → AL g kc kk → WT g ii wt en kc kk j ws q p → SAME w w2 g b ct ii ln ln2 bt bt2 mr ms mi th po pa pb pn pf rc rg sk (f_W_judge_b8 n (ew (cb w g ct ii ln bt wt en (Int32.ofNat (300 - m)) mr ms mi) (cP g) kc) (g + 29) (Int32.ofNat p) 0) (f_R_walk_b31 n' (rb w2 b th ct po pa pb pn pf ln2 bt2 kk (Int32.ofNat p) (Int32.ofNat (300 - m)) en (Int32.ofNat j) ws rc rg sk) b 1) := by
  have al1 : ∀ (m n n' : Nat), m ≤ 300 → 2 ≤ n → 2 ≤ n' → ∀ (p : Nat) (kc kk : Nat → KV) (wt : Nat → Int32) (en : Int32) (j : Nat) (ws : Nat → Int32) (q : Nat → Nat) (a : Int32), p < 60 → WT g ii wt en kc kk j ws q p → ¬ a = 0 → ¬ a ≤ 0 → ∀ kc' kk', k01 kc' → k01 kk' → (∀ x, g + 48 ≤ x → kc' x = kc x) → (∀ x, 10 ≤ x → x < 256 → kk' x = kk x) → f_W_alarmAt (ew (cb w g ct ii ln bt wt en (Int32.ofNat (300 - m) + 1) mr ms mi) (cP g) kc) (g + 29) (Int32.ofNat p) = some (a, ew (cb w g ct ii ln bt wt en (Int32.ofNat (300 - m) + 1) mr ms mi) (cP g) kc') → f_R_alarm (rb w2 b th ct po pa pb pn pf ln2 bt2 kk (Int32.ofNat p) (Int32.ofNat (300 - m) + 1) en (Int32.ofNat j) ws rc rg sk) b = some (a, rb w2 b th ct po pa pb pn pf ln2 bt2 kk' (Int32.ofNat p) (Int32.ofNat (300 - m) + 1) en (Int32.ofNat j) ws rc rg sk) → SAME w w2 g b ct ii ln ln2 bt bt2 mr ms mi th po pa pb pn pf rc rg sk (f_W_judge_b8 n (ew (cb w g ct ii ln bt wt en (Int32.ofNat (300 - m)) mr ms mi) (cP g) kc) (g + 29) (Int32.ofNat p) 0) (f_R_walk_b31 n' (rb w2 b th ct po pa pb pn pf ln2 bt2 kk (Int32.ofNat p) (Int32.ofNat (300 - m)) en (Int32.ofNat j) ws rc rg sk) b 1) := by
    intro m n n' hm hn hn' p kc kk wt en j ws q a hp hw a0 a1 kc' kk' k1 k2 e1 e2 ha hb
    obtain ⟨n, rfl⟩ : ∃ q, n = q + 1 + 1 := ⟨n - 2, by omega⟩
    obtain ⟨n', rfl⟩ : ∃ q, n' = q + 1 := ⟨n' - 1, by omega⟩
    refine ⟨100 * a + Int32.ofNat p, Int32.ofNat (300 - m) + 1, en, wt, kc', kk', Int32.ofNat p, Int32.ofNat j, ws, ?_, ?_, k1, k2, ?_⟩
    · rw [ew_turn (pl_m1 p hp) (fun z => absurd ((st_300 (by omega)).1.mp z) (by omega)) ha, if_pos a0, ew_end a0 (pl_m1 p hp)]
    · rw [er_turn hb, if_neg a1]
      simp only [ri_pl, Option.bind_some]
    · intro he r hr
      rw [e1 _ (by omega), e2 _ (by omega) (by omega)]
      exact hw.en1 he r hr
  intro m
  induction m with
  | zero =>
    intro n n' hm hn hn' p kc kk wt en j ws q hp h hw
    by_cases hc : Int32.ofNat p < ct
    · exact al1 0 n n' hm (by omega) (by omega) p kc kk wt en j ws q 2 hp hw (by decide) (by decide) kc kk hw.kc1 hw.kk1 (fun _ _ => rfl) (fun _ _ _ => rfl) (ew_alarm2 hc (by decide)) (er_alarm2 hc (by decide))
    · exact al1 0 n n' hm (by omega) (by omega) p kc kk wt en j ws q 1 hp hw (by decide) (by decide) kc kk hw.kc1 hw.kk1 (fun _ _ => rfl) (fun _ _ _ => rfl) (ew_alarm1 hc) (er_alarm1 hc)
  | succ m ih =>
    intro n n' hm hn hn' p kc kk wt en j ws q hp h hw
    by_cases hc : ¬ Int32.ofNat p < ct
    · exact al1 (m + 1) n n' hm (by omega) (by omega) p kc kk wt en j ws q 1 hp hw (by decide) (by decide) kc kk hw.kc1 hw.kk1 (fun _ _ => rfl) (fun _ _ _ => rfl) (ew_alarm1 hc) (er_alarm1 hc)
    have hc : Int32.ofNat p < ct := Classical.not_not.mp hc
    have hp24 := hct p hp hc
    have hvp := hv p hp24
    have ho := hvp.1
    have hj : j < 24 := by have := hw.j_le; omega
    have es : Int32.ofNat (300 - (m + 1)) + 1 = Int32.ofNat (300 - m) := by rw [st_add]; congr 1; omega
    have s300 : Int32.ofNat (300 - m) ≤ (300 : Int32) := ((st_300 (by omega)).2).mpr (by omega)
    have hac := ew_alarm (w := w) (g := g) (ct := ct) (ii := ii) (ln := ln) (bt := bt) (wt := wt) (en := en) (st := Int32.ofNat (300 - m)) (mr := mr) (ms := ms) (mi := mi) (kc := kc) hp24 hc s300 ho (fun z => (hvp.2.2.1 (Or.inl z)).1) (fun r hr hs => by
      obtain ⟨-, gg⟩ := (h r (by omega)).2 hs
      exact ⟨Int64.le_iff_toInt_le.mpr gg.2.1.1, Int64.le_iff_toInt_le.mpr gg.2.2.1⟩) hw.kc1
    have har := er_alarm (w := w2) (b := b) (th := th) (ct := ct) (po := po) (pa := pa) (pb := pb) (pn := pn) (pf := pf) (ln := ln2) (bt := bt2) (kk := kk) (pl := Int32.ofNat p) (st := Int32.ofNat (300 - m)) (en := en) (wg := Int32.ofNat j) (ws := ws) (rc := rc) (rg := rg) (sk := sk) hp24 rfl hc s300 (by rw [hii p hp24]; exact ho) hw.kk1
    rw [hii p hp24] at har
    have ea := alarm_eq (g := g) hvp h hw.kc1
    rw [ea] at hac
    have kkA : k01 (rAlm (ii p) kk).2 := by
      unfold rAlm
      split
      · exact hw.kk1
      · have yb : (rB (ii p) kk).1 = 0 ∨ (rB (ii p) kk).1 = 1 := by
          unfold rB
          split
          · exact Or.inr rfl
          · exact hw.kk1 _
        exact (hw.kk1.up (hw.kk1 _)).up yb
    have oA : ∀ x, x < 256 → (rAlm (ii p) kk).2 x = kk x := fun x hx => by
      unfold rAlm
      split
      · rfl
      · exact rAB_o _ _ hx
    rcases rAlm_v (ii p) kk with a0 | ⟨a0, a1⟩
    · rw [a0] at hac har
      obtain ⟨u0, eAB, f10, f12, fset⟩ := rAlm_0 a0
      have aC : AL g (alm g (ii p) kc).2 (rAlm (ii p) kk).2 := h.congr (fun r hr => alm_o (by omega)) (fun r hr => oA r (by omega))
      have wC : WT g ii wt en (alm g (ii p) kc).2 (rAlm (ii p) kk).2 j ws q p := hw.congr (alm_k hw.kc1) kkA (fun x hx => alm_o (by omega)) (fun x x1 x2 => oA x x2)
      have uC : uns g (ii p) (alm g (ii p) kc).2 = false := by
        rw [uns_congr ho (fun r hr => alm_o (by omega)), uns_eq ho h]
        exact u0
      have e6 : (rAlm (ii p) kk).2 256 = (rAlm (ii p) kk).2 (ii p).2.1.toNatClampNeg := by
        rw [oA (ii p).2.1.toNatClampNeg (by have := ho.1.2; omega), eAB, rAB_A]
      have eB : rB (ii p) (rAlm (ii p) kk).2 = rB (ii p) kk := by
        unfold rB
        by_cases z : (ii p).2.2.1 < 0
        · rw [if_pos z, if_pos z]
        · rw [if_neg z, if_neg z]
          exact oA _ (by
            rcases ho.2 with y | ⟨-, y⟩
            · rw [y] at z; exact absurd neg1 z
            · omega)
      have e7' : (rAlm (ii p) kk).2 257 = rB (ii p) kk := by rw [eAB, rAB_B]
      have e7 : (rAlm (ii p) kk).2 257 = rB (ii p) (rAlm (ii p) kk).2 := by rw [eB, e7']
      rw [← e7'] at f10 f12 fset
      have ef : ∀ r, r < 4 → (rAlm (ii p) kk).2 (6 + r) = kk (6 + r) := fun r hr => oA _ (by omega)
      generalize hkc : (alm g (ii p) kc).2 = kcA at *
      generalize hkk : (rAlm (ii p) kk).2 = kkB at *
      have sA : rdA (ii p).1 = true → (kcA (g + 30 + 3 + (ii p).2.1.toNatClampNeg)).1 = 1 := fun z => set_A ho wC.kc1 uC z
      have sY : ¬ (21 : Int32) < (ii p).1 → (yK g (ii p) kcA (yA g (ii p))).1 = 1 := fun z => set_Y ho wC.kc1 uC z
      have y12 : (ii p).1 = 12 ∨ (ii p).1 = 13 → yK g (ii p) kcA (yA g (ii p)) = kkB 257 ∧ GG (kkB 257) := fun z => by
        obtain ⟨x, y⟩ := (y_al ho aC).2 (sY (by rcases z with z | z <;> (rw [z]; decide)))
        rw [← e7] at x
        exact ⟨x, by rw [← x]; exact y⟩
      have b12 : (ii p).1 = 12 ∨ (ii p).1 = 13 → (0 : Int64) ≤ (kkB 257).2.2.2.1 ∧ (kkB 257).2.2.2.1 ≤ (kkB 257).2.2.2.2.1 ∧ (kkB 257).2.2.2.2.1 < 4 := fun z => ⟨Int64.le_iff_toInt_le.mpr (y12 z).2.2.1.1, Int64.le_iff_toInt_le.mpr (y12 z).2.2.2.1, f12 z⟩
      have hset : (ii p).1 = 12 → ∀ r, loN (kkB 257) ≤ r → r ≤ hiN (kkB 257) → ¬ (kkB (6 + r)).1 = 0 := fun z r r1 r2 => by
        obtain ⟨q1, q2, q3, q4⟩ := GG_b4 (y12 (Or.inl z)).2 (f12 (Or.inl z))
        have x := fset z
        rw [q1, q2, ← any_eq q3 q4] at x
        rw [ef r (by omega)]
        exact anyU_f _ _ x r (by omega) (by omega)
      have out := step_out (g := g) hp24 hv aC wC e6 e7 sA sY f10 f12 hset
      have h10 : (ii p).1 = 10 → ¬ (kkB 257).2.2.2.2.1 = 0 ∧ ¬ (kkB 257).2.2.2.1 = 0 := fun z => by
        have nz := f10 (Or.inl z)
        refine ⟨fun e => nz ?_, nz⟩
        obtain ⟨x, y⟩ := (y_al ho aC).2 (sY (by rw [z]; decide))
        rw [← e7] at x
        rw [x] at y
        have l := y.2.2.1
        have l0 := y.2.1.1
        rw [e] at l
        exact Int64.toInt_inj.mp (by have : (0 : Int64).toInt = 0 := rfl; omega)
      have hpc := ew_place (w := w) (g := g) (ct := ct) (ii := ii) (ln := ln) (bt := bt) (wt := wt) (en := en) (st := Int32.ofNat (300 - m)) (mr := mr) (ms := ms) (mi := mi) (kc := kcA) hp24 ho (fun z => (hvp.2.2.1 (Or.inr z)).1) wC.kc1 (fun z => by rw [(y12 z).1]; exact b12 z)
      have hpr := er_pass (w := w2) (b := b) (th := th) (ct := ct) (po := po) (pa := pa) (pb := pb) (pn := pn) (pf := pf) (ln := ln2) (bt := bt2) (kk := kkB) (pl := Int32.ofNat p) (st := Int32.ofNat (300 - m)) (en := en) (ws := ws) (rc := rc) (rg := rg) (sk := sk) (j := j) hp24 rfl hj (by rw [hii p hp24]; exact ho) (by have := congrArg (fun z : IV => z.1) (hii p hp24); have e : po p = (ii p).1 := this; rw [e]; exact hvp.2.1) (by have := congrArg (fun z : IV => z.1) (hii p hp24); have e : po p = (ii p).1 := this; have := congrArg (fun z : IV => z.2.2.1) (hii p hp24); have e2 : pb p = (ii p).2.2.1 := this; rw [e, e2]; exact fun z => (hvp.2.2.1 (Or.inr z)).1) wC.kk1 (by have := congrArg (fun z : IV => z.1) (hii p hp24); have e : po p = (ii p).1 := this; rw [e]; exact h10) (by have := congrArg (fun z : IV => z.1) (hii p hp24); have e : po p = (ii p).1 := this; rw [e]; exact b12) upto_255.2.2 upto_65535.2.2
      rw [hii p hp24] at hpr
      obtain ⟨n, rfl⟩ : ∃ q, n = q + 1 := ⟨n - 1, by omega⟩
      obtain ⟨n', rfl⟩ : ∃ q, n' = q + 1 := ⟨n' - 1, by omega⟩
      rw [← es] at hac har
      rw [ew_turn (pl_m1 p hp) (fun z => absurd ((st_300 (by omega)).1.mp z) (by omega)) hac, er_turn har, if_neg (by decide), if_pos (by decide), es]
      simp only [cc_29, rck, Option.bind_some]
      rw [hpc, hpr]
      simp only [Option.bind_some]
      generalize plA g ii p wt en kcA = PP at out
      generalize rPs (ii p) p j kkB en ws = QQ at out
      obtain ⟨P1, P2, P3, P4⟩ := PP
      obtain ⟨Q1, Q2, Q3, Q4, Q5, Q6⟩ := QQ
      unfold OUT at out
      unfold RS
      dsimp only at out ⊢
      obtain ⟨eq4, out⟩ := out
      subst eq4
      rcases out with ⟨r1, p', q', x1, x2, x3, x4, x5⟩ | ⟨r1, x1, x2, q', B, x5⟩ | ⟨r1, x0, x6, p', q', x1, x2, x3, x4, x5⟩
      · subst r1
        rw [x1, x2, b01_t, if_pos (by decide)]
        exact ih n n' (by omega) (by omega) (by omega) p' P4 Q2 P2 P3 Q5 Q6 q' x3 x4 x5
      · subst r1
        subst x1
        obtain ⟨n, rfl⟩ : ∃ q, n = q + 1 := ⟨n - 1, by omega⟩
        obtain ⟨n', rfl⟩ : ∃ q, n' = q + 1 := ⟨n' - 1, by omega⟩
        rw [x2, b01_f, if_neg (by decide), ew_end0]
        simp only [ri_wg, Option.bind_some]
        rw [if_pos (by decide), er_res (j := 0) (by omega) (Or.inl rfl) x5.kk1, er_over]
        refine ⟨0, _, _, _, _, _, _, _, _, rfl, rfl, x5.kc1, x5.kk1.rcp _ _ _, fun he r hr => ?_⟩
        rw [show rcp (10 * 0) 0 10 Q2 (250 + r) = Q2 (250 + r) by unfold rcp; rw [if_neg (by omega)]]
        exact x5.en1 he r hr
      · subst r1
        have e5 : ¬ Int32.ofNat Q5 ≤ 0 := fun z => absurd ((i32_le Q5 (by omega) 0 (by omega)).mp z) (by omega)
        have kq : k01 Q2 := x6
        rw [x1, b01_f, if_neg (by decide)]
        simp only [ri_wg, Option.bind_some]
        rw [if_neg e5, er_res (j := Q5) (by omega) (Or.inr x0.1) kq, x2, if_neg (by decide), show Int32.ofNat Q5 - 1 = Int32.ofNat (Q5 - 1) from i32_subn (c := 1) x0.1]
        exact ih n n' (by omega) (by omega) (by omega) p' P4 (rcp (10 * Q5) 0 10 Q2) P2 P3 (Q5 - 1) Q6 q' x3 x4 x5
    · have ed := es
      exact al1 (m + 1) n n' hm (by omega) (by omega) p kc kk wt en j ws q (rAlm (ii p) kk).1 hp hw a0 a1 (alm g (ii p) kc).2 (rAlm (ii p) kk).2 (alm_k hw.kc1) kkA (fun x hx => alm_o (by omega)) (fun x x1 x2 => oA x x2) (by rw [es]; exact hac) (by rw [es]; exact har)
end L4
