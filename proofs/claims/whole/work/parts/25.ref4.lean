theorem ok6 : ∀ r, r < 4 → okR ((6 : Int32) + Int32.ofNat r) ∧ ((6 : Int32) + Int32.ofNat r).toNatClampNeg = 6 + r := by
  have h : ∀ r, r < 4 → (¬ ((6 : Int32) + Int32.ofNat r) < 0 ∧ ((6 : Int32) + Int32.ofNat r).toNatClampNeg < 260) ∧ ((6 : Int32) + Int32.ofNat r).toNatClampNeg = 6 + r := by decide
  exact h
theorem okR_6 {r : Int32} (h0 : ¬ r < 0) (h : r.toNatClampNeg < 6) : okR r := ⟨h0, by omega⟩
theorem ok0 : okR 0 := ⟨by decide, by decide⟩
theorem okI_b {v : IV} (h : okI v) : (v.2.2.1 < 0) ↔ v.2.2.1 = -1 := by
  rcases h.2 with q | ⟨q, -⟩
  · rw [q]; decide
  · exact ⟨fun z => absurd z q, fun z => by rw [z]; decide⟩
def rv5 (po pa pb pn pf : Nat → Int32) (p : Nat) : IV := (po p, pa p, pb p, pn p, pf p)
def rpl (kk : Nat → KV) : Nat → KV := fun r => kk (6 + r)
def anyB (lo hi : Int64) (f : Nat → KV) : Nat → Nat → Bool
  | 0, _ => false
  | m + 1, r => (decide (¬ (Int32.ofNat r).toInt64 < lo) && (decide (¬ hi < (Int32.ofNat r).toInt64) && decide ((f r).1 = 0))) || anyB lo hi f m (r + 1)
def rUn (v : IV) (kk : Nat → KV) : Bool := (rdA v.1 && decide ((kk v.2.1.toNatClampNeg).1 = 0)) || ((decide (¬ (21 : Int32) < v.1) && (decide (¬ v.2.2.1 < 0) && decide ((kk v.2.2.1.toNatClampNeg).1 = 0))) || (decide (v.1 = 23) && decide ((kk 0).1 = 0)))
def rAB (v : IV) (kk : Nat → KV) : Nat → KV := va_up (va_up kk 256 (kk v.2.1.toNatClampNeg)) 257 (if v.2.2.1 < 0 then kNumber v.2.2.2.1 else kk v.2.2.1.toNatClampNeg)
def rB (v : IV) (kk : Nat → KV) : KV := if v.2.2.1 < 0 then kNumber v.2.2.2.1 else kk v.2.2.1.toNatClampNeg
theorem rAB_B (v : IV) (kk : Nat → KV) : rAB v kk 257 = rB v kk := by unfold rAB rB; rw [va_up_self]
theorem rAB_A (v : IV) (kk : Nat → KV) : rAB v kk 256 = kk v.2.1.toNatClampNeg := by unfold rAB; rw [va_up_ne _ _ (by decide), va_up_self]
theorem rAB_o (v : IV) (kk : Nat → KV) {a : Nat} (h : a < 256) : rAB v kk a = kk a := by unfold rAB; rw [va_up_ne _ _ (by omega), va_up_ne _ _ (by omega)]
def rAl2 (v : IV) (kk : Nat → KV) : Int32 :=
  if (v.1 = 10 ∨ v.1 = 11) ∧ (rB v kk).2.2.2.1 = 0 then 4
  else if (v.1 = 12 ∨ v.1 = 13) ∧ ¬ (rB v kk).2.2.2.2.1 ≤ 3 then 5
  else if v.1 = 12 ∧ anyB (rB v kk).2.2.2.1 (rB v kk).2.2.2.2.1 (rpl kk) 4 0 = true then 6
  else if v.1 = 14 ∧ ¬ v.2.2.2.1 + v.2.2.2.2 ≤ (rB v kk).2.2.2.2.2.2.2 then 7 else 0
def rAlm (v : IV) (kk : Nat → KV) : Int32 × (Nat → KV) := if rUn v kk = true then (3, kk) else (rAl2 v kk, rAB v kk)
theorem rdA_r (x : Int32) : f_R_readsA x = some (b01 (rdA x)) := by
  unfold f_R_readsA f_R_readsA_b11 f_R_readsA_b29 f_R_readsA_b33 f_R_readsA_b34 rdA
  by_cases h1 : x < 1 <;> by_cases h2 : x ≤ 11 <;> by_cases h3 : x = 13 <;> by_cases h4 : x < 16 <;> by_cases h5 : (21 : Int32) < x <;> simp only [h1, h2, h3, h4, h5, if_true, if_false, decide_true, decide_false, not_true, not_false_iff, Bool.true_and, Bool.false_and, Bool.and_true, Bool.and_false, Bool.true_or, Bool.false_or, Bool.or_true, Bool.or_false] <;> rfl
theorem rdB_r (x : Int32) : f_R_readsB x = some (b01 (decide (¬ (21 : Int32) < x))) := by
  unfold f_R_readsB f_R_readsB_b11
  by_cases h : (21 : Int32) < x
  · rw [if_pos h, decide_eq_false (fun q => q h)]; rfl
  · rw [if_neg h, decide_eq_true h]; rfl
section R5
variable {w : xw} {b : Nat} {th ct : Int32} {po pa pb pn pf : Nat → Int32} {ln : Int32} {bt : Nat → Int32} {kk : Nat → KV} {pl st en wg : Int32} {ws : Nat → Int32} {rc : Int32} {rg sk : Nat → Int32}
theorem er_al270 {p : Nat} (hp : p < 24) (hpl : pl = Int32.ofNat p) : f_R_alarm_b270 (rb w b th ct po pa pb pn pf ln bt kk pl st en wg ws rc rg sk) b (po p) = some (if po p = 14 ∧ ¬ pn p + pf p ≤ (kk 257).2.2.2.2.2.2.2 then 7 else 0, rb w b th ct po pa pb pn pf ln bt kk pl st en wg ws rc rg sk) := by
  subst hpl
  have e1 : (Int32.ofNat p).toNatClampNeg = p := i32_nat p (by omega)
  have hlt : (Int32.ofNat p).toNatClampNeg < 24 := by omega
  unfold f_R_alarm_b270 f_R_alarm_b311 f_R_alarm_b312
  by_cases h : po p = 14
  · rw [if_neg (not_not_intro h)]
    simp only [rr_5, rr_6, rr_16, ri_pl, ra_pn (i32_nneg p (by omega)) hlt, ra_pf (i32_nneg p (by omega)) hlt, rk_7 ok257.1 ok257.2, e1, n257, Option.bind_some]
    by_cases q : pn p + pf p ≤ (kk 257).2.2.2.2.2.2.2
    · rw [if_pos q, if_neg (fun z => z.2 q)]
    · rw [if_neg q, if_pos ⟨h, q⟩]
  · rw [if_pos h, if_neg (fun z => h z.1)]
theorem er_al206 {p : Nat} (hp : p < 24) (hpl : pl = Int32.ofNat p) : ∀ (m r n : Nat), r + m = 4 → m < n → f_R_alarm_b206 n (rb w b th ct po pa pb pn pf ln bt kk pl st en wg ws rc rg sk) b (po p) (Int32.ofNat r) = some (if po p = 12 ∧ anyB (kk 257).2.2.2.1 (kk 257).2.2.2.2.1 (rpl kk) m r = true then 6 else if po p = 14 ∧ ¬ pn p + pf p ≤ (kk 257).2.2.2.2.2.2.2 then 7 else 0, rb w b th ct po pa pb pn pf ln bt kk pl st en wg ws rc rg sk) := by
  intro m
  induction m with
  | zero =>
    intro r n hr hn
    obtain ⟨n, rfl⟩ : ∃ q, n = q + 1 := ⟨n - 1, by omega⟩
    unfold f_R_alarm_b206
    rw [xfix_s]
    unfold f_R_alarm_s206
    rw [if_pos ((i32_le4 (by omega)).mpr (by omega)), er_al270 hp hpl, if_neg (show ¬ (po p = 12 ∧ anyB (kk 257).2.2.2.1 (kk 257).2.2.2.2.1 (rpl kk) 0 r = true) from fun z => by have := z.2; simp [anyB] at this)]
  | succ m ih =>
    intro r n hr hn
    obtain ⟨n, rfl⟩ : ∃ q, n = q + 1 := ⟨n - 1, by omega⟩
    unfold f_R_alarm_b206
    rw [xfix_s]
    unfold f_R_alarm_s206 f_R_alarm_b264
    rw [if_neg (fun q => absurd ((i32_le4 (by omega)).mp q) (by omega))]
    by_cases h : po p = 12
    · rw [if_neg (not_not_intro h)]
      obtain ⟨o6, e6⟩ := ok6 r (by omega)
      simp only [rr_9, rr_12, rr_13, rk_3 ok257.1 ok257.2, rk_4 ok257.1 ok257.2, rk_0 o6.1 o6.2, e6, n257, Option.bind_some]
      have hs := ih (r + 1) n (by omega) (by omega)
      unfold f_R_alarm_b206 at hs
      rw [i32_succ r (by omega)]
      have ea : anyB (kk 257).2.2.2.1 (kk 257).2.2.2.2.1 (rpl kk) (m + 1) r = ((decide (¬ (Int32.ofNat r).toInt64 < (kk 257).2.2.2.1) && (decide (¬ (kk 257).2.2.2.2.1 < (Int32.ofNat r).toInt64) && decide ((rpl kk r).1 = 0))) || anyB (kk 257).2.2.2.1 (kk 257).2.2.2.2.1 (rpl kk) m (r + 1)) := rfl
      rw [ea]
      by_cases h1 : (Int32.ofNat r).toInt64 < (kk 257).2.2.2.1
      · rw [if_pos h1, decide_eq_false (not_not_intro h1), Bool.false_and, Bool.false_or]
        exact hs
      · rw [if_neg h1, decide_eq_true h1, Bool.true_and]
        by_cases h2 : (kk 257).2.2.2.2.1 < (Int32.ofNat r).toInt64
        · rw [if_pos h2, decide_eq_false (not_not_intro h2), Bool.false_and, Bool.false_or]
          exact hs
        · rw [if_neg h2, decide_eq_true h2, Bool.true_and]
          by_cases h3 : (kk (6 + r)).1 = 0
          · rw [if_neg (not_not_intro h3), show decide ((rpl kk r).1 = 0) = true from decide_eq_true h3, Bool.true_or, if_pos ⟨h, rfl⟩]
          · rw [if_pos h3, show decide ((rpl kk r).1 = 0) = false from decide_eq_false h3, Bool.false_or]
            exact hs
    · rw [if_pos h, er_al270 hp hpl, if_neg (show ¬ (po p = 12 ∧ anyB (kk 257).2.2.2.1 (kk 257).2.2.2.2.1 (rpl kk) (m + 1) r = true) from fun z => h z.1)]
theorem er_alarm {p : Nat} (hp : p < 24) (hpl : pl = Int32.ofNat p) (hc : pl < ct) (hs : st ≤ 300) (ho : okI (rv5 po pa pb pn pf p)) (hk : k01 kk) : f_R_alarm (rb w b th ct po pa pb pn pf ln bt kk pl st en wg ws rc rg sk) b = some ((rAlm (rv5 po pa pb pn pf p) kk).1, rb w b th ct po pa pb pn pf ln bt ((rAlm (rv5 po pa pb pn pf p) kk).2) pl st en wg ws rc rg sk) := by
  have e1 : pl.toNatClampNeg = p := by rw [hpl]; exact i32_nat p (by omega)
  have hlt : pl.toNatClampNeg < 24 := by omega
  have hnn : ¬ pl < 0 := by rw [hpl]; exact i32_nneg p (by omega)
  have oa : okR (pa p) := okR_6 ho.1.1 ho.1.2
  have tail : ∀ kk : Nat → KV, f_R_alarm_b147 (rb w b th ct po pa pb pn pf ln bt kk pl st en wg ws rc rg sk) b (po p) = some (if (po p = 10 ∨ po p = 11) ∧ (kk 257).2.2.2.1 = 0 then 4 else if (po p = 12 ∨ po p = 13) ∧ ¬ (kk 257).2.2.2.2.1 ≤ 3 then 5 else if po p = 12 ∧ anyB (kk 257).2.2.2.1 (kk 257).2.2.2.2.1 (rpl kk) 4 0 = true then 6 else if po p = 14 ∧ ¬ pn p + pf p ≤ (kk 257).2.2.2.2.2.2.2 then 7 else 0, rb w b th ct po pa pb pn pf ln bt kk pl st en wg ws rc rg sk) := fun kk => by
    have t3 : f_R_alarm_b203 (rb w b th ct po pa pb pn pf ln bt kk pl st en wg ws rc rg sk) b (po p) = some (if po p = 12 ∧ anyB (kk 257).2.2.2.1 (kk 257).2.2.2.2.1 (rpl kk) 4 0 = true then 6 else if po p = 14 ∧ ¬ pn p + pf p ≤ (kk 257).2.2.2.2.2.2.2 then 7 else 0, rb w b th ct po pa pb pn pf ln bt kk pl st en wg ws rc rg sk) := by
      unfold f_R_alarm_b203
      simp only [Option.bind_some]
      exact er_al206 hp hpl 4 0 4000 rfl (by decide)
    have t2 : f_R_alarm_b174 (rb w b th ct po pa pb pn pf ln bt kk pl st en wg ws rc rg sk) b (po p) = some (if (po p = 12 ∨ po p = 13) ∧ ¬ (kk 257).2.2.2.2.1 ≤ 3 then 5 else if po p = 12 ∧ anyB (kk 257).2.2.2.1 (kk 257).2.2.2.2.1 (rpl kk) 4 0 = true then 6 else if po p = 14 ∧ ¬ pn p + pf p ≤ (kk 257).2.2.2.2.2.2.2 then 7 else 0, rb w b th ct po pa pb pn pf ln bt kk pl st en wg ws rc rg sk) := by
      unfold f_R_alarm_b174 f_R_alarm_b186
      simp only [rr_13, rk_4 ok257.1 ok257.2, n257, Option.bind_some]
      by_cases h12 : po p = 12
      · rw [if_pos h12]
        by_cases q : (kk 257).2.2.2.2.1 ≤ 3
        · rw [if_pos q, t3, if_neg (show ¬ ((po p = 12 ∨ po p = 13) ∧ ¬ (kk 257).2.2.2.2.1 ≤ 3) from fun z => z.2 q)]
        · rw [if_neg q, if_pos ⟨Or.inl h12, q⟩]
      · rw [if_neg h12]
        by_cases h13 : po p = 13
        · rw [if_neg (not_not_intro h13)]
          by_cases q : (kk 257).2.2.2.2.1 ≤ 3
          · rw [if_pos q, t3, if_neg (show ¬ ((po p = 12 ∨ po p = 13) ∧ ¬ (kk 257).2.2.2.2.1 ≤ 3) from fun z => z.2 q)]
          · rw [if_neg q, if_pos ⟨Or.inr h13, q⟩]
        · rw [if_pos h13, t3, if_neg (show ¬ ((po p = 12 ∨ po p = 13) ∧ ¬ (kk 257).2.2.2.2.1 ≤ 3) from fun z => z.1.elim h12 h13)]
    unfold f_R_alarm_b147 f_R_alarm_b159
    simp only [rr_12, rk_3 ok257.1 ok257.2, n257, Option.bind_some]
    by_cases h10 : po p = 10
    · rw [if_pos h10]
      by_cases q : (kk 257).2.2.2.1 = 0
      · rw [if_neg (not_not_intro q), if_pos ⟨Or.inl h10, q⟩]
      · rw [if_pos q, t2, if_neg (show ¬ ((po p = 10 ∨ po p = 11) ∧ (kk 257).2.2.2.1 = 0) from fun z => q z.2)]
    · rw [if_neg h10]
      by_cases h11 : po p = 11
      · rw [if_neg (not_not_intro h11)]
        by_cases q : (kk 257).2.2.2.1 = 0
        · rw [if_neg (not_not_intro q), if_pos ⟨Or.inr h11, q⟩]
        · rw [if_pos q, t2, if_neg (show ¬ ((po p = 10 ∨ po p = 11) ∧ (kk 257).2.2.2.1 = 0) from fun z => q z.2)]
      · rw [if_pos h11, t2, if_neg (show ¬ ((po p = 10 ∨ po p = 11) ∧ (kk 257).2.2.2.1 = 0) from fun z => z.1.elim h10 h11)]
  have mid : f_R_alarm_b108 (rb w b th ct po pa pb pn pf ln bt kk pl st en wg ws rc rg sk) b (po p) (pa p) (pb p) = some (rAl2 (rv5 po pa pb pn pf p) kk, rb w b th ct po pa pb pn pf ln bt (rAB (rv5 po pa pb pn pf p) kk) pl st en wg ws rc rg sk) := by
    unfold f_R_alarm_b108
    simp only [rck, Option.bind_some]
    rw [er_copy oa ok256 (hk _)]
    simp only [n256, Option.bind_some]
    have fin := tail (rAB (rv5 po pa pb pn pf p) kk)
    rw [rAB_B] at fin
    have epl : ∀ r, r < 4 → rpl (rAB (rv5 po pa pb pn pf p) kk) r = rpl kk r := fun r hr => rAB_o _ _ (by omega)
    have ean : ∀ lo hi : Int64, anyB lo hi (rpl (rAB (rv5 po pa pb pn pf p) kk)) 4 0 = anyB lo hi (rpl kk) 4 0 := fun lo hi => by
      unfold anyB anyB anyB anyB anyB
      rw [epl 0 (by decide), epl 1 (by decide), epl 2 (by decide), epl 3 (by decide)]
    rw [ean] at fin
    by_cases hb : pb p < 0
    · rw [if_pos hb]
      simp only [rr_5, ri_pl, ra_pn hnn hlt, e1, rck, er_number ok257, n257, Option.bind_some]
      have e : rAB (rv5 po pa pb pn pf p) kk = va_up (va_up kk 256 (kk (pa p).toNatClampNeg)) 257 (kNumber (pn p)) := by
        unfold rAB rv5
        simp only [if_pos hb]
      rw [← e]
      exact fin
    · rw [if_neg hb]
      have q6 : (pb p).toNatClampNeg < 6 := by
        rcases ho.2 with q | ⟨-, q⟩
        · have q : pb p = -1 := q
          exact absurd (by rw [q]; decide) hb
        · exact q
      have ob : okR (pb p) := okR_6 hb q6
      have eb : va_up kk 256 (kk (pa p).toNatClampNeg) (pb p).toNatClampNeg = kk (pb p).toNatClampNeg := va_up_ne _ _ (by omega)
      simp only [rck, Option.bind_some]
      rw [er_copy ob ok257 (by rw [eb]; exact hk _), eb]
      simp only [n257, Option.bind_some]
      have e : rAB (rv5 po pa pb pn pf p) kk = va_up (va_up kk 256 (kk (pa p).toNatClampNeg)) 257 (kk (pb p).toNatClampNeg) := by
        unfold rAB rv5
        simp only [if_neg hb]
      rw [← e]
      exact fin
  have b91 : (rdA (po p) && decide ((kk (pa p).toNatClampNeg).1 = 0)) = false → (decide (¬ (21 : Int32) < po p) && (decide (¬ pb p < 0) && decide ((kk (pb p).toNatClampNeg).1 = 0))) = false → f_R_alarm_b91 (rb w b th ct po pa pb pn pf ln bt kk pl st en wg ws rc rg sk) b (po p) (pa p) (pb p) = some ((rAlm (rv5 po pa pb pn pf p) kk).1, rb w b th ct po pa pb pn pf ln bt ((rAlm (rv5 po pa pb pn pf p) kk).2) pl st en wg ws rc rg sk) := fun g1 g2 => by
    unfold f_R_alarm_b91 f_R_alarm_b106 rAlm
    have eu : rUn (rv5 po pa pb pn pf p) kk = (decide (po p = 23) && decide ((kk 0).1 = 0)) := by
      show ((rdA (po p) && decide ((kk (pa p).toNatClampNeg).1 = 0)) || ((decide (¬ (21 : Int32) < po p) && (decide (¬ pb p < 0) && decide ((kk (pb p).toNatClampNeg).1 = 0))) || (decide (po p = 23) && decide ((kk 0).1 = 0)))) = _
      rw [g1, g2, Bool.false_or, Bool.false_or]
    rw [eu]
    by_cases h : po p = 23
    · rw [if_neg (not_not_intro h), decide_eq_true h, Bool.true_and]
      simp only [rr_9, rk_0 ok0.1 ok0.2, show (0 : Int32).toNatClampNeg = 0 from rfl, Option.bind_some]
      by_cases q : (kk 0).1 = 0
      · rw [if_neg (not_not_intro q), decide_eq_true q]; rfl
      · rw [if_pos q, decide_eq_false q, mid]; rfl
    · rw [if_pos h, decide_eq_false h, Bool.false_and, mid]; rfl
  have three : rUn (rv5 po pa pb pn pf p) kk = true → some ((3 : Int32), rb w b th ct po pa pb pn pf ln bt kk pl st en wg ws rc rg sk) = some ((rAlm (rv5 po pa pb pn pf p) kk).1, rb w b th ct po pa pb pn pf ln bt ((rAlm (rv5 po pa pb pn pf p) kk).2) pl st en wg ws rc rg sk) := fun h => by
    unfold rAlm
    rw [if_pos h]
  have b71 : (rdA (po p) && decide ((kk (pa p).toNatClampNeg).1 = 0)) = false → f_R_alarm_b71 (rb w b th ct po pa pb pn pf ln bt kk pl st en wg ws rc rg sk) b (po p) (pa p) (pb p) = some ((rAlm (rv5 po pa pb pn pf p) kk).1, rb w b th ct po pa pb pn pf ln bt ((rAlm (rv5 po pa pb pn pf p) kk).2) pl st en wg ws rc rg sk) := fun g1 => by
    unfold f_R_alarm_b71 f_R_alarm_b106
    simp only [rdB_r, Option.bind_some]
    by_cases h : (21 : Int32) < po p
    · rw [decide_eq_false (not_not_intro h), if_pos (by rfl)]
      exact b91 g1 (by rw [decide_eq_false (not_not_intro h), Bool.false_and])
    · rw [decide_eq_true h, if_neg (by decide)]
      by_cases hb : pb p < 0
      · rw [if_pos hb]
        exact b91 g1 (by rw [decide_eq_false (not_not_intro hb), Bool.false_and, Bool.and_false])
      · rw [if_neg hb]
        have q6 : (pb p).toNatClampNeg < 6 := by
          rcases ho.2 with q | ⟨-, q⟩
          · have q : pb p = -1 := q
            exact absurd (by rw [q]; decide) hb
          · exact q
        have ob : okR (pb p) := okR_6 hb q6
        simp only [rr_9, rk_0 ob.1 ob.2, Option.bind_some]
        by_cases q : (kk (pb p).toNatClampNeg).1 = 0
        · rw [if_pos q]
          refine three ?_
          show ((rdA (po p) && decide ((kk (pa p).toNatClampNeg).1 = 0)) || ((decide (¬ (21 : Int32) < po p) && (decide (¬ pb p < 0) && decide ((kk (pb p).toNatClampNeg).1 = 0))) || (decide (po p = 23) && decide ((kk 0).1 = 0)))) = true
          rw [g1, decide_eq_true h, decide_eq_true hb, decide_eq_true q]
          rfl
        · rw [if_neg q]
          exact b91 g1 (by rw [decide_eq_false q, Bool.and_false, Bool.and_false])
  unfold f_R_alarm f_R_alarm_b106
  simp only [ri_pl, ri_ct, ri_st, Option.bind_some]
  rw [if_pos hc, if_pos hs]
  simp only [rr_2, rr_3, rr_4, ra_po hnn hlt, ra_pa hnn hlt, ra_pb hnn hlt, e1, rdA_r, Option.bind_some]
  cases hA : rdA (po p)
  · rw [if_pos (by rfl)]
    exact b71 (by rw [hA, Bool.false_and])
  · rw [if_neg (by decide)]
    simp only [rr_9, rk_0 oa.1 oa.2, Option.bind_some]
    by_cases q : (kk (pa p).toNatClampNeg).1 = 0
    · rw [if_pos q]
      refine three ?_
      show ((rdA (po p) && decide ((kk (pa p).toNatClampNeg).1 = 0)) || ((decide (¬ (21 : Int32) < po p) && (decide (¬ pb p < 0) && decide ((kk (pb p).toNatClampNeg).1 = 0))) || (decide (po p = 23) && decide ((kk 0).1 = 0)))) = true
      rw [hA, decide_eq_true q]
      rfl
    · rw [if_neg q]
      exact b71 (by rw [decide_eq_false q, Bool.and_false])
end R5
