section K1
variable {w w2 : xw} {g b : Nat} {ct : Int32} {ii : Nat → IV} {ln ln2 : Int32} {bt bt2 wt : Nat → Int32} {mr ms : Nat → Int32} {mi : Int32} {en st en2 st2 th pl wg : Int32} {po pa pb pn pf ws : Nat → Int32} {rc : Int32} {rg sk : Nat → Int32} {kc kk : Nat → KV}
theorem k01_kun {d n : Nat} (h : k01 kc) : k01 (kun d n kc) := fun a => by
  unfold kun
  split
  · exact Or.inl rfl
  · exact h a
theorem k01_run0 {n : Nat} (h : k01 kk) : k01 (run0 n kk) := fun a => by
  unfold run0
  split
  · exact Or.inl rfl
  · exact h a
theorem begin_al (h1 : k01 kc) (h2 : k01 kk) : AL g (sbg g kc) (rsu kk) ∧ k01 (sbg g kc) ∧ k01 (rsu kk) := by
  have e16 := upto_16
  have g1 := e16.2.1.1
  refine ⟨fun r hr => ?_, ((k01_kun h1).up (Or.inr g1)).up (Or.inr rfl), ((k01_run0 h2).up (Or.inr (by rw [← e16.1]; exact g1))).up (Or.inr rfl)⟩
  unfold sbg rsu
  by_cases r2 : r = 2
  · rw [r2, va_up_self, va_up_self]; exact al_refl GG_nothing
  · rw [va_up_ne _ _ (by omega), va_up_ne _ _ r2]
    by_cases r1 : r = 1
    · rw [r1, va_up_self, va_up_self, ← e16.1]; exact al_refl e16.2.1
    · rw [va_up_ne _ _ (by omega), va_up_ne _ _ r1]
      refine al_un ?_ ?_
      · unfold kun
        rw [if_pos (by omega)]
      · unfold run0
        rw [if_pos (by omega)]
theorem call_walk (hv : ∀ i, i < 24 → okV (ii i)) (hii : ∀ i, i < 24 → rv5 po pa pb pn pf i = ii i) {c : Nat} (hc : c ≤ 24) (hct : ct = Int32.ofNat c) (h1 : k01 kc) (h2 : k01 kk) : SAME w w2 g b ct ii ln ln2 bt bt2 mr ms mi 0 po pa pb pn pf rc rg sk (f_G_walk (ew (cb w g ct ii ln bt wt en st mr ms mi) (cP g) kc) g) (f_R_walk (rb w2 b th ct po pa pb pn pf ln2 bt2 kk pl st2 en2 wg ws rc rg sk) b) := by
  have h := begin_al (g := g) h1 h2
  have e1 : f_G_walk (ew (cb w g ct ii ln bt wt en st mr ms mi) (cP g) kc) g = f_W_judge_b8 4000 (ew (cb w g ct ii ln bt (wt0 wt 24) 0 0 mr ms mi) (cP g) (sbg g kc)) (g + 29) 0 0 := by
    unfold f_G_walk f_W_judge
    simp only [cr_0_2, cc_29, ew_begin, Option.bind_some]
    generalize f_W_judge_b8 4000 (ew (cb w g ct ii ln bt (wt0 wt 24) 0 0 mr ms mi) (cP g) (sbg g kc)) (g + 29) 0 0 = x
    cases x <;> rfl
  have e2 : f_R_walk (rb w2 b th ct po pa pb pn pf ln2 bt2 kk pl st2 en2 wg ws rc rg sk) b = f_R_walk_b31 4000 (rb w2 b 0 ct po pa pb pn pf ln2 bt2 (rsu kk) 0 0 0 0 ws rc rg sk) b 1 := by
    unfold f_R_walk
    simp only [rp_th, rp_st, rp_wg, rp_pl, rp_en (Or.inl rfl), rck, er_setUp, Option.bind_some]
  rw [e1, e2]
  have hb : ∀ p, p < 60 → Int32.ofNat p < ct → p < 24 := fun p hp z => by
    rw [hct] at z
    have := (i32_ltn (by omega) (by omega)).mp z
    omega
  exact walk_sim hv hii hb 300 4000 4000 (by omega) (by omega) (by omega) 0 (sbg g kc) (rsu kk) (wt0 wt 24) 0 0 ws (fun _ => 0) (by omega) h.1 ⟨h.2.1, h.2.2, fun t a b => absurd b (by omega), fun i hi => ⟨fun z => absurd (by unfold wt0; rw [if_pos hi]) z, fun z => by obtain ⟨t, a, b, -⟩ := z; omega⟩, fun t a b => absurd b (by omega), fun t a b => absurd b (by omega), fun z => absurd rfl z⟩
end K1
/-- may it be added? -/
def okB (op a b n f : Int32) : Bool := (decide (¬ op < 0) && decide (¬ (23 : Int32) < op)) && ((decide (¬ a < 0) && decide (¬ (6 : Int32) ≤ a)) && ((decide (¬ b < -1) && decide (b < 6)) && ((decide (¬ (op = 14 ∨ op = 15)) || (decide (¬ b = -1) && (decide (¬ n < 0) && decide (n ≤ 16)))) && (if op = 14 then decide (f = 1 ∨ f = 2 ∨ f = 4) else (decide (op < 15) || (decide ((22 : Int32) < op) || (decide (¬ f < 1) && decide (¬ (23 : Int32) < f))))))))
theorem allowed_eq (op a b n f : Int32) : f_I_allowed op a b n f = some (b01 (okB op a b n f)) := by
  have h62 : f_I_allowed_b62 op f = some (b01 (if op = 14 then decide (f = 1 ∨ f = 2 ∨ f = 4) else (decide (op < 15) || (decide ((22 : Int32) < op) || (decide (¬ f < 1) && decide (¬ (23 : Int32) < f)))))) := by
    unfold f_I_allowed_b62 f_I_allowed_b86 f_I_allowed_b91 f_I_allowed_b108 f_I_allowed_b109 f_I_allowed_b129 f_I_allowed_b133 f_I_allowed_b134
    by_cases h14 : op = 14
    · rw [if_neg (not_not_intro h14), if_pos h14]
      by_cases f1 : f = 1
      · rw [if_pos f1, decide_eq_true (Or.inl f1)]; rfl
      rw [if_neg f1]
      by_cases f2 : f = 2
      · rw [if_pos f2, decide_eq_true (Or.inr (Or.inl f2))]; rfl
      rw [if_neg f2]
      by_cases f4 : f = 4
      · rw [if_neg (not_not_intro f4), decide_eq_true (Or.inr (Or.inr f4))]; rfl
      · rw [if_pos f4, decide_eq_false (fun z => z.elim f1 (fun z => z.elim f2 f4))]; rfl
    · rw [if_pos h14, if_neg h14]
      by_cases h15 : op < 15
      · rw [if_pos h15, decide_eq_true h15]; rfl
      rw [if_neg h15, decide_eq_false h15]
      by_cases h22 : (22 : Int32) < op
      · rw [if_pos h22, decide_eq_true h22]; rfl
      rw [if_neg h22, decide_eq_false h22, if_neg (by decide)]
      by_cases f1 : f < 1
      · rw [if_pos f1, decide_eq_false (not_not_intro f1)]; rfl
      rw [if_neg f1, decide_eq_true f1]
      by_cases f23 : (23 : Int32) < f
      · rw [if_pos f23, decide_eq_false (not_not_intro f23)]; rfl
      · rw [if_neg f23, decide_eq_true f23]; rfl
  unfold f_I_allowed f_I_allowed_b31 okB
  by_cases o0 : op < 0
  · rw [if_pos o0, decide_eq_false (not_not_intro o0)]; rfl
  rw [if_neg o0, decide_eq_true o0]
  by_cases o23 : (23 : Int32) < op
  · rw [if_pos o23, decide_eq_false (not_not_intro o23)]; rfl
  rw [if_neg o23, decide_eq_true o23]
  by_cases a0 : a < 0
  · rw [if_pos a0, decide_eq_false (not_not_intro a0)]; rfl
  rw [if_neg a0, decide_eq_true a0]
  by_cases a6 : (6 : Int32) ≤ a
  · rw [if_pos a6, decide_eq_false (not_not_intro a6)]; rfl
  rw [if_neg a6, decide_eq_true a6]
  by_cases b1 : b < -1
  · rw [if_pos b1, decide_eq_false (not_not_intro b1)]; rfl
  rw [if_neg b1, decide_eq_true b1]
  by_cases b6 : b < 6
  · rw [if_pos b6, decide_eq_true b6, h62]
    have h45 : (op = 14 ∨ op = 15) → f_I_allowed_b45 op b n f = some (b01 ((decide (¬ b = -1) && (decide (¬ n < 0) && decide (n ≤ 16))) && (if op = 14 then decide (f = 1 ∨ f = 2 ∨ f = 4) else (decide (op < 15) || (decide ((22 : Int32) < op) || (decide (¬ f < 1) && decide (¬ (23 : Int32) < f))))))) := fun _ => by
      unfold f_I_allowed_b45 f_I_allowed_b60
      rw [h62]
      by_cases e : b = -1
      · rw [if_pos e, decide_eq_false (not_not_intro e)]; rfl
      rw [if_neg e, decide_eq_true e]
      by_cases n0 : n < 0
      · rw [if_pos n0, decide_eq_false (not_not_intro n0)]; rfl
      rw [if_neg n0, decide_eq_true n0]
      by_cases n16 : n ≤ 16
      · rw [if_pos n16, decide_eq_true n16]; rfl
      · rw [if_neg n16, decide_eq_false n16]; rfl
    generalize (if op = 14 then decide (f = 1 ∨ f = 2 ∨ f = 4) else (decide (op < 15) || (decide ((22 : Int32) < op) || (decide (¬ f < 1) && decide (¬ (23 : Int32) < f))))) = z at h45 ⊢
    by_cases h14 : op = 14
    · rw [if_pos h14, h45 (Or.inl h14), decide_eq_false (show ¬ ¬ (op = 14 ∨ op = 15) from not_not_intro (Or.inl h14))]; rfl
    rw [if_neg h14]
    by_cases h15 : op = 15
    · rw [if_neg (not_not_intro h15), h45 (Or.inr h15), decide_eq_false (show ¬ ¬ (op = 14 ∨ op = 15) from not_not_intro (Or.inr h15))]; rfl
    · rw [if_pos h15, decide_eq_true (show ¬ (op = 14 ∨ op = 15) from fun q => q.elim h14 h15)]; rfl
  · rw [if_neg b6, decide_eq_false b6]; rfl
theorem nat6 {a : Int32} (h0 : ¬ a < 0) (h6 : a < 6) : a.toNatClampNeg < 6 := by
  have e : a.toNatClampNeg = a.toInt.toNat := rfl
  rw [Int32.lt_iff_toInt_lt, show (6 : Int32).toInt = 6 by decide] at h6
  omega
theorem okB_V {op a b n f : Int32} (h : okB op a b n f = true) : okV (op, a, b, n, f) := by
  unfold okB at h
  simp only [Bool.and_eq_true, decide_eq_true_eq] at h
  obtain ⟨⟨o0, o23⟩, ⟨a0, a6⟩, ⟨b1, b6⟩, h4, h5⟩ := h
  have o23' : op ≤ 23 := by
    rw [Int32.le_iff_toInt_le]
    rw [Int32.lt_iff_toInt_lt] at o23
    omega
  have a6' : a < 6 := i32_le_of a6
  refine ⟨⟨⟨a0, nat6 a0 a6'⟩, ?_⟩, ⟨o0, o23'⟩, ?_, ?_, ?_⟩
  · by_cases e : b = -1
    · exact Or.inl e
    · have b0 : ¬ b < 0 := fun z => by
        rw [Int32.lt_iff_toInt_lt] at b1 z
        have e1 : (-1 : Int32).toInt = -1 := by decide
        have e0 : (0 : Int32).toInt = 0 := rfl
        exact e (Int32.toInt_inj.mp (by omega))
      exact Or.inr ⟨b0, nat6 b0 b6⟩
  · intro z
    have z : op = 14 ∨ op = 15 := z
    rw [Bool.or_eq_true, decide_eq_true_eq] at h4
    rcases h4 with h4 | h4
    · exact absurd z h4
    · simp only [Bool.and_eq_true, decide_eq_true_eq] at h4
      exact h4
  · intro z
    have z : op = 14 := z
    rw [if_pos z] at h5
    exact of_decide_eq_true h5
  · intro z
    obtain ⟨z1, z2⟩ : (15 : Int32) ≤ op ∧ op ≤ 22 := z
    have n14 : ¬ op = 14 := fun q => by rw [q] at z1; exact absurd z1 (by decide)
    rw [if_neg n14, decide_eq_false (i32_not_lt z1), decide_eq_false (i32_not_lt z2), Bool.false_or, Bool.false_or, Bool.and_eq_true, decide_eq_true_eq, decide_eq_true_eq] at h5
    obtain ⟨f1, f2⟩ := h5
    refine ⟨?_, ?_⟩
    · show (1 : Int32) ≤ f
      rw [Int32.le_iff_toInt_le]
      rw [Int32.lt_iff_toInt_lt] at f1
      omega
    · show f ≤ 23
      rw [Int32.le_iff_toInt_le]
      rw [Int32.lt_iff_toInt_lt] at f2
      omega
theorem within_eq (x lo hi : Int32) : f_R_within x lo hi = some (b01 (decide (¬ x < lo) && decide (¬ hi < x))) := by
  unfold f_R_within f_R_within_b14 f_R_within_b15
  by_cases h1 : x < lo
  · rw [if_pos h1, decide_eq_false (not_not_intro h1)]; rfl
  rw [if_neg h1, decide_eq_true h1]
  by_cases h2 : hi < x
  · rw [if_pos h2, decide_eq_false (not_not_intro h2)]; rfl
  · rw [if_neg h2, decide_eq_true h2]; rfl
