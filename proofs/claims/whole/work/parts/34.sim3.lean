section S4
variable {g : Nat} {v : IV} {kc kk : Nat → KV}
theorem rdA_11 {x : Int32} (h : x = 1 ∨ x = 2 ∨ x = 3 ∨ x = 4 ∨ x = 5 ∨ x = 6 ∨ x = 7 ∨ x = 8 ∨ x = 9 ∨ x = 10 ∨ x = 11) : rdA x = true := by
  rcases h with rfl | rfl | rfl | rfl | rfl | rfl | rfl | rfl | rfl | rfl | rfl <;> decide
theorem st_al {r m : Nat} {k : KV} (h : AL g kc kk) (hk : GG k) : AL g (stp g k r m kc) (rst k r m kk) := by
  intro t ht
  have a := h t ht
  unfold stp rst
  by_cases q : 6 + r ≤ t ∧ t < 6 + r + m
  · by_cases z : (kc (g + 30 + 3 + t)).1 = 0
    · rw [if_neg (fun x => x.2 z), if_neg (fun x => x.2 (by rw [← a.1]; exact z))]
      exact a
    · have z2 : ¬ (kk t).1 = 0 := by rw [← a.1]; exact z
      rw [if_pos ⟨by omega, z⟩, if_pos ⟨q, z2⟩]
      by_cases o : (kc (g + 30 + 3 + t)).1 = 1
      · obtain ⟨e, gg⟩ := a.2 o
        rw [← e]
        exact al_refl (GG_meet gg hk)
      · exact ⟨a.1, fun x => absurd x o⟩
  · rw [if_neg (fun x => q (by omega)), if_neg (fun x => q x.1)]
    exact a
theorem chg_eq (hv : okV v) (h15 : v.1 < 15) (h : AL g kc kk) (hk : k01 kc) (hkk : k01 kk) (h6 : kk 256 = kk v.2.1.toNatClampNeg) (h7 : kk 257 = rB v kk) (sA : rdA v.1 = true → (kc (g + 30 + 3 + v.2.1.toNatClampNeg)).1 = 1) (sY : (yK g v kc (yA g v)).1 = 1) (h10 : v.1 = 10 ∨ v.1 = 11 → ¬ (kk 257).2.2.2.1 = 0) (h12 : v.1 = 12 ∨ v.1 = 13 → (kk 257).2.2.2.2.1 < 4) (hset : v.1 = 12 → ∀ r, loN (kk 257) ≤ r → r ≤ hiN (kk 257) → ¬ (kk (6 + r)).1 = 0) : CH g kc kk (chg g v kc) (rCh v kk) := by
  have ho := hv.1
  have hA6 : v.2.1.toNatClampNeg < 6 := ho.1.2
  obtain ⟨ey, gy⟩ := (y_al ho h).2 sY
  rw [← h7] at ey
  have eA : yK g v kc (g + 30 + 3 + v.2.1.toNatClampNeg) = kc (g + 30 + 3 + v.2.1.toNatClampNeg) := yK_o (by omega)
  have gA : rdA v.1 = true → kc (g + 30 + 3 + v.2.1.toNatClampNeg) = kk 256 ∧ GG (kk 256) := fun z => by
    obtain ⟨e, gg⟩ := (h v.2.1.toNatClampNeg (by omega)).2 (sA z)
    rw [← h6] at e
    exact ⟨e, by rw [← e]; exact gg⟩
  rw [ey] at gy
  have hy1 : (kk 257).1 = 1 := gy.1
  unfold chg rCh
  rw [ey, eA]
  by_cases c0 : v.1 = 0
  · rw [if_pos c0, if_pos c0]
    exact CH_mk rfl (fun a ha => by rw [va_up_ne _ _ (by omega), yK_o (by omega)]) (fun a a1 a2 => va_up_ne _ _ (by omega)) (hkk.up (Or.inr hy1)) (fun _ => h.y.up (al_refl gy))
  rw [if_neg c0, if_neg c0]
  by_cases c11 : v.1 ≤ 11
  · have ops := op11 hv.2.1.1 c0 c11
    obtain ⟨e, gg⟩ := gA (rdA_11 ops)
    have n : ∀ c : Int32, (12 : Int32) ≤ c → ¬ v.1 = c := fun c hc e => by
      rw [e] at c11
      exact absurd (Int32.le_trans hc c11) (by decide)
    rw [if_neg (n 12 (by decide)), if_neg (n 13 (by decide)), if_neg (n 14 (by decide)), if_pos c11, e]
    have oe := op_eq gg gy ops h10
    have sa1 : (rSa v.1 (kk 256) (kk 257) (rtg (rOp v.1 (kk 256) (kk 257)))).1 = 1 := by rw [rSa_1, rtg_1, rOp_1]
    generalize rSa v.1 (kk 256) (kk 257) (rtg (rOp v.1 (kk 256) (kk 257))) = rs at *
    generalize tg (kOp v.1 (kk 256) (kk 257)) = ts at *
    refine CH_mk oe.1 (fun a ha => by rw [va_up_ne _ _ (by omega), va_up_ne _ _ (by omega), yK_o (by omega)]) (fun a a1 a2 => by rw [va_up_ne _ _ (by omega), va_up_ne _ _ (by omega)]) ((hkk.up (Or.inr sa1)).up (Or.inr sa1)) (fun z => ?_)
    obtain ⟨e2, g2⟩ := oe.2 z
    rw [e2] at g2 ⊢
    exact ((h.y.c (by omega)).r (by omega)).up (al_refl g2)
  rw [if_neg c11]
  by_cases c12 : v.1 = 12
  · rw [if_pos c12, if_pos c12]
    obtain ⟨q1, q2, q3, q4⟩ := GG_b4 gy (h12 (Or.inl c12))
    have es : ∀ r, loN (kk 257) ≤ r → r ≤ hiN (kk 257) → npl g (yK g v kc) r = rpl kk r ∧ GG (rpl kk r) := fun r a b => by
      have al6 := h (6 + r) (by omega)
      have e1 : npl g (yK g v kc) r = kc (g + 30 + 3 + (6 + r)) := by
        show yK g v kc (g + 30 + 9 + r) = _
        rw [yK_o (by omega), show g + 30 + 9 + r = g + 30 + 3 + (6 + r) by omega]
      obtain ⟨e, gg⟩ := al6.2 ((hk _).resolve_left (by rw [al6.1]; exact hset c12 r a b))
      rw [e1, e]
      exact ⟨rfl, by show GG (kk (6 + r)); rw [← e]; exact gg⟩
    have em : mts (npl g (yK g v kc)) (hiN (kk 257) - loN (kk 257)) (loN (kk 257) + 1) (npl g (yK g v kc) (loN (kk 257))) = mts (rpl kk) (hiN (kk 257) - loN (kk 257)) (loN (kk 257) + 1) (rpl kk (loN (kk 257))) := by
      rw [(es (loN (kk 257)) (by omega) (by omega)).1]
      exact mts_congr _ _ _ (fun t a b => (es t (by omega) (by omega)).1)
    have gm : GG (mts (rpl kk) (hiN (kk 257) - loN (kk 257)) (loN (kk 257) + 1) (rpl kk (loN (kk 257)))) := mts_GG _ _ _ (es _ (by omega) (by omega)).2 (fun t a b => (es t (by omega) (by omega)).2)
    rw [em]
    generalize mts (rpl kk) (hiN (kk 257) - loN (kk 257)) (loN (kk 257) + 1) (rpl kk (loN (kk 257))) = m at *
    exact CH_mk rfl (fun a ha => by rw [va_up_ne _ _ (by omega), yK_o (by omega)]) (fun a a1 a2 => by rw [va_up_ne _ _ (by omega), va_up_ne _ _ (by omega)]) ((hkk.up (Or.inr gm.1)).up (Or.inr gm.1)) (fun _ => (h.y.r (by omega)).up (al_refl gm))
  rw [if_neg c12, if_neg c12]
  by_cases c13 : v.1 = 13
  · rw [if_pos c13, if_pos c13]
    obtain ⟨q1, q2, q3, q4⟩ := GG_b4 gy (h12 (Or.inr c13))
    obtain ⟨e, gg⟩ := gA (by rw [c13]; decide)
    rw [e]
    by_cases z : loN (kk 257) = hiN (kk 257)
    · rw [if_pos z, if_pos z, show g + 30 + 9 + loN (kk 257) = g + 30 + 3 + (6 + loN (kk 257)) by omega]
      exact CH_mk rfl (fun a ha => by rw [va_up_ne _ _ (by omega), yK_o (by omega)]) (fun a a1 a2 => by rw [va_up_ne _ _ (by omega)]) (hkk.up (Or.inr gg.1)) (fun _ => h.y.up (al_refl gg))
    · rw [if_neg z, if_neg z]
      exact CH_mk rfl (fun a ha => by rw [stp_out (by omega), yK_o (by omega)]) (fun a a1 a2 => rst_out (by omega)) (fun a => by rw [rst_k]; exact hkk a) (fun _ => st_al h.y gg)
  rw [if_neg c13, if_neg c13]
  have c14 : v.1 = 14 := by
    have a := i32_le_of c11
    have b := h15
    rw [Int32.lt_iff_toInt_lt] at a b
    have e1 : (11 : Int32).toInt = 11 := by decide
    have e2 : (15 : Int32).toInt = 15 := by decide
    have n12 : v.1.toInt ≠ 12 := fun q => c12 (Int32.toInt_inj.mp (by rw [q]; decide))
    have n13 : v.1.toInt ≠ 13 := fun q => c13 (Int32.toInt_inj.mp (by rw [q]; decide))
    exact Int32.toInt_inj.mp (by rw [show (14 : Int32).toInt = 14 by decide]; omega)
  rw [if_pos c14]
  have el : (if v.2.2.2.2 = 4 then kNothing else if v.2.2.2.2 = 1 then kUpTo 255 else kUpTo 65535) = rLd v.2.2.2.2 ∧ GG (rLd v.2.2.2.2) := by
    unfold rLd
    rcases hv.2.2.2.1 c14 with q | q | q
    · rw [q, if_neg (by decide), if_pos rfl, if_neg (by decide), if_pos rfl, ← upto_255.1]
      exact ⟨rfl, upto_255.2.1⟩
    · rw [q, if_neg (by decide), if_neg (by decide), if_neg (by decide), if_neg (by decide), ← upto_65535.1]
      exact ⟨rfl, upto_65535.2.1⟩
    · rw [q, if_pos rfl, if_pos (by decide)]
      exact ⟨rfl, GG_nothing⟩
  rw [el.1]
  have gl := el.2
  generalize rLd v.2.2.2.2 = m at *
  exact CH_mk rfl (fun a ha => by rw [va_up_ne _ _ (by omega), yK_o (by omega)]) (fun a a1 a2 => by rw [va_up_ne _ _ (by omega), va_up_ne _ _ (by omega)]) ((hkk.up (Or.inr gl.1)).up (Or.inr gl.1)) (fun _ => (h.y.r (by omega)).up (al_refl gl))
end S4
