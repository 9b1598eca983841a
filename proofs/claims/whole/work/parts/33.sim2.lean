/-! The alarms come out alike; a change comes out alike. -/
theorem yK_o {g : Nat} {v : IV} {kc : Nat → KV} {a : Nat} (h : a ≠ g + 45) : yK g v kc a = kc a := by
  unfold yK
  split
  · exact va_up_ne _ _ h
  · rfl
theorem neg1 : (-1 : Int32) < 0 := by decide
section S2
variable {g : Nat} {v : IV} {kc kk : Nat → KV}
theorem y_al (ho : okI v) (h : AL g kc kk) : al (yK g v kc (yA g v)) (rB v kk) := by
  unfold yK yA rB
  rcases ho.2 with q | ⟨q, q6⟩
  · rw [if_pos q, if_pos q, q, if_pos neg1, va_up_self]
    exact al_refl (GG_number _)
  · by_cases e : v.2.2.1 = -1
    · rw [e] at q; exact absurd neg1 q
    · rw [if_neg e, if_neg e, if_neg q]
      exact h _ (by omega)
theorem uns_eq (ho : okI v) (h : AL g kc kk) : uns g v kc = rUn v kk := by
  have eA := (h v.2.1.toNatClampNeg (by have := ho.1.2; omega)).1
  have e0 := (h 0 (by omega)).1
  unfold uns rUn
  by_cases h23 : v.1 = 23
  · rw [if_pos h23, h23, e0, show rdA 23 = false from by decide, decide_eq_false (show ¬ ¬ (21 : Int32) < 23 by decide), decide_eq_true (show (23 : Int32) = 23 from rfl)]
    simp only [Bool.false_and, Bool.false_or, Bool.true_and]
  · rw [if_neg h23, decide_eq_false h23, Bool.false_and, Bool.or_false, eA]
    unfold rdB
    rcases ho.2 with q | ⟨q, q6⟩
    · rw [decide_eq_false (not_not_intro q), q, decide_eq_false (not_not_intro neg1)]
      simp only [Bool.false_and, Bool.and_false, Bool.or_false]
    · have e : ¬ v.2.2.1 = -1 := fun e => by rw [e] at q; exact absurd neg1 q
      have eB := (h v.2.2.1.toNatClampNeg (by omega)).1
      rw [decide_eq_true e, decide_eq_true q, Bool.true_and, Bool.true_and, eB]
theorem anyU_congr {f h : Nat → KV} : ∀ (m r : Nat), (∀ t, r ≤ t → t < r + m → (f t).1 = (h t).1) → anyU f m r = anyU h m r
  | 0, _, _ => rfl
  | m + 1, r, e => by
    show (decide ((f r).1 = 0) || anyU f m (r + 1)) = (decide ((h r).1 = 0) || anyU h m (r + 1))
    rw [e r (by omega) (by omega), anyU_congr m (r + 1) (fun t a b => e t (by omega) (by omega))]
theorem GG_b4 {k : KV} (h : GG k) (h4 : k.2.2.2.2.1 < 4) : k.2.2.2.1 = Int64.ofNat (loN k) ∧ k.2.2.2.2.1 = Int64.ofNat (hiN k) ∧ loN k ≤ hiN k ∧ hiN k < 4 := b4 (Int64.le_iff_toInt_le.mpr h.2.1.1) (Int64.le_iff_toInt_le.mpr h.2.2.1) h4
theorem lt4_le3 (x : Int64) : x < 4 ↔ x ≤ 3 := by
  rw [Int64.lt_iff_toInt_lt, Int64.le_iff_toInt_le]
  have e1 : (4 : Int64).toInt = 4 := by decide
  have e2 : (3 : Int64).toInt = 3 := by decide
  rw [e1, e2]
  omega
/-- what is read is set -/
theorem set_A (ho : okI v) (hk : k01 kc) (hu : uns g v kc = false) (hr : rdA v.1 = true) : (kc (g + 30 + 3 + v.2.1.toNatClampNeg)).1 = 1 := by
  unfold uns at hu
  have h23 : ¬ v.1 = 23 := fun q => by rw [q] at hr; exact absurd hr (by decide)
  rw [if_neg h23, hr, Bool.true_and, Bool.or_eq_false_iff, decide_eq_false_iff_not] at hu
  exact (hk _).resolve_left hu.1
theorem set_Y (ho : okI v) (hk : k01 kc) (hu : uns g v kc = false) (hr : ¬ (21 : Int32) < v.1) : (yK g v kc (yA g v)).1 = 1 := by
  unfold yK yA
  by_cases e : v.2.2.1 = -1
  · rw [if_pos e, if_pos e, va_up_self]; rfl
  · rw [if_neg e, if_neg e]
    unfold uns at hu
    have h23 : ¬ v.1 = 23 := fun q => by rw [q] at hr; exact hr (by decide)
    unfold rdB at hu
    rw [if_neg h23, decide_eq_true e, decide_eq_true hr, Bool.true_and, Bool.true_and, Bool.or_eq_false_iff, decide_eq_false_iff_not (p := (kc (g + 30 + 3 + v.2.2.1.toNatClampNeg)).1 = 0)] at hu
    exact (hk _).resolve_left hu.2
theorem alarm_eq (hv : okV v) (h : AL g kc kk) (hk : k01 kc) : (alm g v kc).1 = (rAlm v kk).1 := by
  have ho := hv.1
  unfold alm rAlm
  rw [← uns_eq ho h]
  cases hu : uns g v kc
  · rw [if_neg (show ¬ false = true by decide), if_neg (show ¬ false = true by decide)]
    unfold rAl2
    have hy := y_al ho h
    by_cases h21 : (21 : Int32) < v.1
    · have n : ∀ c : Int32, c ≤ 21 → ¬ v.1 = c := fun c hc e => by
        rw [e] at h21
        exact i32_not_lt hc h21
      rw [if_neg (fun q => q.elim (n 10 (by decide)) (n 11 (by decide))), if_neg (fun q => q.elim (n 12 (by decide)) (n 13 (by decide))), if_neg (n 14 (by decide))]
      rw [if_neg (fun q => q.1.elim (n 10 (by decide)) (n 11 (by decide))), if_neg (fun q => q.1.elim (n 12 (by decide)) (n 13 (by decide))), if_neg (fun q => n 12 (by decide) q.1), if_neg (fun q => n 14 (by decide) q.1)]
    · have hs := set_Y ho hk hu h21
      obtain ⟨ey, gy⟩ := hy.2 hs
      rw [ey] at gy ⊢
      generalize rB v kk = y at *
      by_cases h10 : v.1 = 10 ∨ v.1 = 11
      · have n1 : ¬ (v.1 = 12 ∨ v.1 = 13) := fun q => by rcases h10 with a | a <;> rcases q with b | b <;> (rw [a] at b; exact absurd b (by decide))
        have n2 : ¬ v.1 = 14 := fun q => by rcases h10 with a | a <;> (rw [a] at q; exact absurd q (by decide))
        rw [if_pos h10]
        by_cases z : y.2.2.2.1 = 0
        · rw [if_pos z, if_pos (show (v.1 = 10 ∨ v.1 = 11) ∧ y.2.2.2.1 = 0 from ⟨h10, z⟩)]
        · rw [if_neg z, if_neg (show ¬ ((v.1 = 10 ∨ v.1 = 11) ∧ y.2.2.2.1 = 0) from fun q => z q.2), if_neg (show ¬ ((v.1 = 12 ∨ v.1 = 13) ∧ ¬ y.2.2.2.2.1 ≤ 3) from fun q => n1 q.1), if_neg (show ¬ (v.1 = 12 ∧ anyB y.2.2.2.1 y.2.2.2.2.1 (rpl kk) 4 0 = true) from fun q => n1 (Or.inl q.1)), if_neg (show ¬ (v.1 = 14 ∧ ¬ v.2.2.2.1 + v.2.2.2.2 ≤ y.2.2.2.2.2.2.2) from fun q => n2 q.1)]
      · rw [if_neg h10, if_neg (show ¬ ((v.1 = 10 ∨ v.1 = 11) ∧ y.2.2.2.1 = 0) from fun q => h10 q.1)]
        by_cases h12 : v.1 = 12 ∨ v.1 = 13
        · have n2 : ¬ v.1 = 14 := fun q => by rcases h12 with a | a <;> (rw [a] at q; exact absurd q (by decide))
          rw [if_pos h12]
          show alPl v.1 y (npl g (yK g v kc)) = _
          unfold alPl
          by_cases z : y.2.2.2.2.1 < 4
          · rw [if_pos z, if_neg (show ¬ ((v.1 = 12 ∨ v.1 = 13) ∧ ¬ y.2.2.2.2.1 ≤ 3) from fun q => q.2 ((lt4_le3 _).mp z))]
            obtain ⟨q1, q2, q3, q4⟩ := GG_b4 gy z
            by_cases o12 : v.1 = 12
            · rw [if_pos o12]
              have ea : anyU (npl g (yK g v kc)) (hiN y + 1 - loN y) (loN y) = anyB y.2.2.2.1 y.2.2.2.2.1 (rpl kk) 4 0 := by
                rw [q1, q2, ← any_eq q3 q4]
                apply anyU_congr
                intro t t1 t2
                show (yK g v kc (g + 30 + 9 + t)).1 = (kk (6 + t)).1
                rw [yK_o (by omega), show g + 30 + 9 + t = g + 30 + 3 + (6 + t) by omega]
                exact (h (6 + t) (by omega)).1
              rw [ea]
              by_cases za : anyB y.2.2.2.1 y.2.2.2.2.1 (rpl kk) 4 0 = true
              · rw [if_pos za, if_pos (show v.1 = 12 ∧ anyB y.2.2.2.1 y.2.2.2.2.1 (rpl kk) 4 0 = true from ⟨o12, za⟩)]
              · rw [if_neg za, if_neg (show ¬ (v.1 = 12 ∧ anyB y.2.2.2.1 y.2.2.2.2.1 (rpl kk) 4 0 = true) from fun q => za q.2), if_neg (show ¬ (v.1 = 14 ∧ ¬ v.2.2.2.1 + v.2.2.2.2 ≤ y.2.2.2.2.2.2.2) from fun q => n2 q.1)]
            · rw [if_neg o12, if_neg (show ¬ (v.1 = 12 ∧ anyB y.2.2.2.1 y.2.2.2.2.1 (rpl kk) 4 0 = true) from fun q => o12 q.1), if_neg (show ¬ (v.1 = 14 ∧ ¬ v.2.2.2.1 + v.2.2.2.2 ≤ y.2.2.2.2.2.2.2) from fun q => n2 q.1)]
          · rw [if_neg z, if_pos (show (v.1 = 12 ∨ v.1 = 13) ∧ ¬ y.2.2.2.2.1 ≤ 3 from ⟨h12, fun q => z ((lt4_le3 _).mpr q)⟩)]
        · rw [if_neg h12, if_neg (show ¬ ((v.1 = 12 ∨ v.1 = 13) ∧ ¬ y.2.2.2.2.1 ≤ 3) from fun q => h12 q.1), if_neg (show ¬ (v.1 = 12 ∧ anyB y.2.2.2.1 y.2.2.2.2.1 (rpl kk) 4 0 = true) from fun q => h12 (Or.inl q.1))]
          by_cases h14 : v.1 = 14
          · rw [if_pos h14]
            have nb := (hv.2.2.1 (Or.inl h14)).1
            have e7 : (kc (g + 30 + 3 + v.2.2.1.toNatClampNeg)) = y := by
              rw [← ey]
              unfold yK yA
              rw [if_neg nb, if_neg nb]
            show (if v.2.2.2.1 + v.2.2.2.2 ≤ (kc (g + 30 + 3 + v.2.2.1.toNatClampNeg)).2.2.2.2.2.2.2 then (0 : Int32) else 7) = _
            rw [e7]
            by_cases z : v.2.2.2.1 + v.2.2.2.2 ≤ y.2.2.2.2.2.2.2
            · rw [if_pos z, if_neg (show ¬ (v.1 = 14 ∧ ¬ v.2.2.2.1 + v.2.2.2.2 ≤ y.2.2.2.2.2.2.2) from fun q => q.2 z)]
            · rw [if_neg z, if_pos (show v.1 = 14 ∧ ¬ v.2.2.2.1 + v.2.2.2.2 ≤ y.2.2.2.2.2.2.2 from ⟨h14, z⟩)]
          · rw [if_neg h14, if_neg (show ¬ (v.1 = 14 ∧ ¬ v.2.2.2.1 + v.2.2.2.2 ≤ y.2.2.2.2.2.2.2) from fun q => h14 q.1)]
  · rw [if_pos rfl, if_pos rfl]
end S2
/-- one change on both sides -/
def CH (g : Nat) (kc kk : Nat → KV) (P Q : Bool × (Nat → KV)) : Prop := P.1 = Q.1 ∧ (∀ a, g + 48 ≤ a → P.2 a = kc a) ∧ (∀ a, 10 ≤ a → a < 256 → Q.2 a = kk a) ∧ k01 Q.2 ∧ (P.1 = true → AL g P.2 Q.2)
theorem CH_mk {g : Nat} {kc kk kc' kk' : Nat → KV} {b d : Bool} (h : b = d) (h1 : ∀ a, g + 48 ≤ a → kc' a = kc a) (h2 : ∀ a, 10 ≤ a → a < 256 → kk' a = kk a) (h3 : k01 kk') (h4 : b = true → AL g kc' kk') : CH g kc kk (b, kc') (d, kk') := ⟨h, h1, h2, h3, h4⟩
section S3
variable {g : Nat} {v : IV} {kc kk : Nat → KV}
theorem AL.y (h : AL g kc kk) : AL g (yK g v kc) kk := h.congr (fun r hr => yK_o (by omega)) (fun _ _ => rfl)
theorem AL.r {a : Nat} {k : KV} (h : AL g kc kk) (ha : 10 ≤ a) : AL g kc (va_up kk a k) := h.congr (fun _ _ => rfl) (fun r hr => va_up_ne _ _ (by omega))
theorem AL.c {a : Nat} {k : KV} (h : AL g kc kk) (ha : g + 43 ≤ a) : AL g (va_up kc a k) kk := h.congr (fun r hr => va_up_ne _ _ (by omega)) (fun _ _ => rfl)
/-- the reference's change, its first two parts -/
def rCh (v : IV) (kk : Nat → KV) : Bool × (Nat → KV) :=
  if v.1 = 0 then (true, va_up kk v.2.1.toNatClampNeg (kk 257))
  else if v.1 ≤ 11 then (rtgo (rOp v.1 (kk 256) (kk 257)), va_up (va_up kk 258 (rSa v.1 (kk 256) (kk 257) (rtg (rOp v.1 (kk 256) (kk 257))))) v.2.1.toNatClampNeg (rSa v.1 (kk 256) (kk 257) (rtg (rOp v.1 (kk 256) (kk 257)))))
  else if v.1 = 12 then (true, va_up (va_up kk 258 (mts (rpl kk) (hiN (kk 257) - loN (kk 257)) (loN (kk 257) + 1) (rpl kk (loN (kk 257))))) v.2.1.toNatClampNeg (mts (rpl kk) (hiN (kk 257) - loN (kk 257)) (loN (kk 257) + 1) (rpl kk (loN (kk 257)))))
  else if v.1 = 13 then (true, if loN (kk 257) = hiN (kk 257) then va_up kk (6 + loN (kk 257)) (kk 256) else rst (kk 256) (loN (kk 257)) (hiN (kk 257) + 1 - loN (kk 257)) kk)
  else (true, va_up (va_up kk 258 (rLd v.2.2.2.2)) v.2.1.toNatClampNeg (rLd v.2.2.2.2))
theorem rPs_ch {p j : Nat} {en : Int32} {ws : Nat → Int32} (h : v.1 < 15) : rPs v p j kk en ws = ((rCh v kk).1, (rCh v kk).2, Int32.ofNat p + 1, en, j, ws) := by
  have n : ∀ c : Int32, (15 : Int32) ≤ c → ¬ v.1 = c := fun c hc e => by
    rw [e] at h
    exact i32_not_lt hc h
  have h16 : ¬ ((16 : Int32) ≤ v.1 ∧ v.1 ≤ 21) := fun q => i32_not_lt (Int32.le_trans (by decide) q.1) h
  unfold rPs rCh
  rw [if_neg (n 23 (by decide)), if_neg h16]
  by_cases h0 : v.1 = 0
  · rw [if_pos h0, if_pos h0]
  rw [if_neg h0, if_neg h0]
  by_cases h11 : v.1 ≤ 11
  · rw [if_pos h11, if_pos h11]
  rw [if_neg h11, if_neg h11]
  by_cases h12 : v.1 = 12
  · rw [if_pos h12, if_pos h12]
  rw [if_neg h12, if_neg h12]
  by_cases h13 : v.1 = 13
  · rw [if_pos h13, if_pos h13]
  rw [if_neg h13, if_neg h13]
  have h14 : v.1 = 14 := by
    have a := i32_le_of h11
    rw [Int32.lt_iff_toInt_lt] at a h
    have e1 : (11 : Int32).toInt = 11 := by decide
    have e2 : (15 : Int32).toInt = 15 := by decide
    have c12 : v.1.toInt ≠ 12 := fun q => h12 (Int32.toInt_inj.mp (by rw [q]; decide))
    have c13 : v.1.toInt ≠ 13 := fun q => h13 (Int32.toInt_inj.mp (by rw [q]; decide))
    exact Int32.toInt_inj.mp (by rw [show (14 : Int32).toInt = 14 by decide]; omega)
  rw [if_pos h14]
theorem op11 {x : Int32} (h0 : ¬ x < 0) (h1 : ¬ x = 0) (h2 : x ≤ 11) : x = 1 ∨ x = 2 ∨ x = 3 ∨ x = 4 ∨ x = 5 ∨ x = 6 ∨ x = 7 ∨ x = 8 ∨ x = 9 ∨ x = 10 ∨ x = 11 := by
  rw [Int32.lt_iff_toInt_lt, show (0 : Int32).toInt = 0 from rfl] at h0
  rw [Int32.le_iff_toInt_le, show (11 : Int32).toInt = 11 by decide] at h2
  have c0 : x.toInt ≠ 0 := fun q => h1 (Int32.toInt_inj.mp (by rw [q]; decide))
  have k : ∀ c : Int32, x.toInt = c.toInt → x = c := fun c h => Int32.toInt_inj.mp h
  have hc : x.toInt = 1 ∨ x.toInt = 2 ∨ x.toInt = 3 ∨ x.toInt = 4 ∨ x.toInt = 5 ∨ x.toInt = 6 ∨ x.toInt = 7 ∨ x.toInt = 8 ∨ x.toInt = 9 ∨ x.toInt = 10 ∨ x.toInt = 11 := by omega
  rcases hc with q | q | q | q | q | q | q | q | q | q | q
  · exact Or.inl (k 1 q)
  · exact Or.inr (Or.inl (k 2 q))
  · exact Or.inr (Or.inr (Or.inl (k 3 q)))
  · exact Or.inr (Or.inr (Or.inr (Or.inl (k 4 q))))
  · exact Or.inr (Or.inr (Or.inr (Or.inr (Or.inl (k 5 q)))))
  · exact Or.inr (Or.inr (Or.inr (Or.inr (Or.inr (Or.inl (k 6 q))))))
  · exact Or.inr (Or.inr (Or.inr (Or.inr (Or.inr (Or.inr (Or.inl (k 7 q)))))))
  · exact Or.inr (Or.inr (Or.inr (Or.inr (Or.inr (Or.inr (Or.inr (Or.inl (k 8 q))))))))
  · exact Or.inr (Or.inr (Or.inr (Or.inr (Or.inr (Or.inr (Or.inr (Or.inr (Or.inl (k 9 q)))))))))
  · exact Or.inr (Or.inr (Or.inr (Or.inr (Or.inr (Or.inr (Or.inr (Or.inr (Or.inr (Or.inl (k 10 q))))))))))
  · exact Or.inr (Or.inr (Or.inr (Or.inr (Or.inr (Or.inr (Or.inr (Or.inr (Or.inr (Or.inr (k 11 q))))))))))
theorem mts_GG {f : Nat → KV} : ∀ (m r : Nat) (k : KV), GG k → (∀ t, r ≤ t → t < r + m → GG (f t)) → GG (mts f m r k)
  | 0, _, _, hk, _ => hk
  | m + 1, r, k, hk, h => mts_GG m (r + 1) (kMeet k (f r)) (GG_meet hk (h r (by omega) (by omega))) (fun t a b => h t (by omega) (by omega))
theorem upto_255 : kUpTo 255 = rtg (kS (kU kNothing 0 255) 0 255) ∧ GG (kUpTo 255) ∧ rtgo (kS (kU kNothing 0 255) 0 255) = true := by
  have q := tg_eq (k := kS (kU kNothing 0 255) 0 255) ⟨by decide, by decide, by decide, by decide, fun i hi h => by have h : bt (0 : Int32) i = true := h; rw [bt_0] at h; cases h⟩ rfl
  have t : tgo (kS (kU kNothing 0 255) 0 255) = true := by decide +kernel
  exact ⟨(q.2 t).1, (q.2 t).2, by rw [← q.1]; exact t⟩
theorem upto_65535 : kUpTo 65535 = rtg (kS (kU kNothing 0 65535) 0 65535) ∧ GG (kUpTo 65535) ∧ rtgo (kS (kU kNothing 0 65535) 0 65535) = true := by
  have q := tg_eq (k := kS (kU kNothing 0 65535) 0 65535) ⟨by decide, by decide, by decide, by decide, fun i hi h => by have h : bt (0 : Int32) i = true := h; rw [bt_0] at h; cases h⟩ rfl
  have t : tgo (kS (kU kNothing 0 65535) 0 65535) = true := by decide +kernel
  exact ⟨(q.2 t).1, (q.2 t).2, by rw [← q.1]; exact t⟩
theorem upto_16 : kUpTo 16 = rtg (kS (kU kNothing 0 16) 0 16) ∧ GG (kUpTo 16) ∧ rtgo (kS (kU kNothing 0 16) 0 16) = true := by
  have q := tg_eq (k := kS (kU kNothing 0 16) 0 16) ⟨by decide, by decide, by decide, by decide, fun i hi h => by have h : bt (0 : Int32) i = true := h; rw [bt_0] at h; cases h⟩ rfl
  have t : tgo (kS (kU kNothing 0 16) 0 16) = true := by decide +kernel
  exact ⟨(q.2 t).1, (q.2 t).2, by rw [← q.1]; exact t⟩
end S3
