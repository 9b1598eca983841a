/-! A run of both objects. -/
theorem mst_k23 {ln op a n f y : Int32} {bt rg sk : Nat → Int32} {k : Int32} (h : mstY ln bt op a n f y rg sk = .inl k) : k = 2 ∨ k = 3 := by
  unfold mstY at h
  split at h
  · cases h
  split at h
  · cases h
  split at h
  · cases h
  split at h
  · split at h
    · cases h; exact Or.inr rfl
    · cases h
  split at h
  · split at h
    · cases h; exact Or.inr rfl
    · cases h
  split at h
  · split at h
    · cases h
    · cases h; exact Or.inr rfl
  split at h
  · cases h; exact Or.inl rfl
  · cases h
theorem mrun_k {c : Nat} {ii : Nat → IV} {ln : Int32} {bt : Nat → Int32} : ∀ (k p : Nat) (rg sk : Nat → Int32) (rc : Int32), (mrun c ii ln bt k p rg sk rc).1 = 0 ∨ (mrun c ii ln bt k p rg sk rc).1 = 1 ∨ (mrun c ii ln bt k p rg sk rc).1 = 2 ∨ (mrun c ii ln bt k p rg sk rc).1 = 3 := by
  intro k
  induction k with
  | zero => intro p rg sk rc; exact Or.inr (Or.inl rfl)
  | succ k ih =>
    intro p rg sk rc
    rw [mrun]
    split
    · exact Or.inr (Or.inl rfl)
    split
    · exact Or.inl rfl
    cases hm : mstep ln bt (ii p) rg sk with
    | inl q =>
      rcases mst_k23 hm with e | e
      · exact Or.inr (Or.inr (Or.inl e))
      · exact Or.inr (Or.inr (Or.inr e))
    | inr z =>
      obtain ⟨j, r, s⟩ := z
      exact ih _ r s _
theorem xsL_of {W : xw} {o : Nat} {f : Nat → Int64} {x : Int64} (h : W o = ar1 f) : xsL W o 0 x = some (va_up W o (ar1 (vp_updL f 0 x))) := by
  unfold xsL
  rw [h]
  rfl
theorem xaL_of {W : xw} {o : Nat} {f : Nat → Int64} (h : W o = ar1 f) : xaL W o 0 = some (f 0) := by
  unfold xaL
  rw [h]
  rfl
theorem b_run {g : Nat} {W : xw} (h : INV g W) (x : Int32) (sz : Nat) : ∃ k W1 sz1 v W2, f_L_run W sz g x (g + 394) = some (k, W1, sz1) ∧ xck W1 (g + 376) 8 = some () ∧ f_R_run W1 (g + 376) x = some (v, W2) ∧ xck W2 (g + 376) 8 = some () ∧ f_R_thrown W2 (g + 376) = some (k, W2) ∧ (k = 0 → xaL W2 (g + 394) 0 = some v.toInt64) ∧ INV g W2 := by
  have hk0 := h.ck
  obtain ⟨w1, fo, c, l, ii, bt, wt, en, st, mr, ms, mi, kc, th, po, pa, pb, pn, pf, bt2, kk, pl, wg, ws, rc, rg, sk, rfl, ho, hc, hl, hii, hv, hb, k1, k2, ha, hm⟩ := h
  have hcm := cm_run (w := rb w1 (g + 376) th (Int32.ofNat c) po pa pb pn pf (Int32.ofNat l) bt2 kk pl st en wg ws rc rg sk) (g := g) (bt := bt) (wt := wt) (en := en) (st := st) (mr := mr) (ms := ms) (mi := mi) (kc := kc) (x := x) hc hl hv
  have hmk := mrun_k (c := c) (ii := ii) (ln := Int32.ofNat l) (bt := bt) 24 0 (upd (upd (byt (fun _ => 0) mr 6) 1 (Int32.ofNat l)) 2 x) (byt (fun _ => 0) ms 4) 0
  have hmq := mrun_eq hc hl (ii := ii) (ii' := rv5 po pa pb pn pf) (bt := bt) (bt' := bt2) hii hv hb 24 0 (upd (upd (byt (fun _ => 0) mr 6) 1 (Int32.ofNat l)) 2 x) (byt (rI (Int32.ofNat l) x) rg 6) (byt (fun _ => 0) ms 4) (byt (fun _ => 0) sk 4) 0 reg_eq byt_eq
  have hv' : ∀ i, i < 24 → okV (rv5 po pa pb pn pf i) := fun i hi => by rw [hii i hi]; exact hv i hi
  have her : ∀ (w2 : xw), f_R_run (rb w2 (g + 376) th (Int32.ofNat c) po pa pb pn pf (Int32.ofNat l) bt2 kk pl st en wg ws rc rg sk) (g + 376) x = _ := fun w2 => er_run (w := w2) hc hl hv' rfl
  generalize mrun c (rv5 po pa pb pn pf) (Int32.ofNat l) bt2 24 0 (byt (rI (Int32.ofNat l) x) rg 6) (byt (fun _ => 0) sk 4) 0 = zr at hmq her
  generalize mrun c ii (Int32.ofNat l) bt 24 0 (upd (upd (byt (fun _ => 0) mr 6) 1 (Int32.ofNat l)) 2 x) (byt (fun _ => 0) ms 4) 0 = z at hmq hmk hcm
  obtain ⟨q1, q2, q3⟩ := hmq
  obtain ⟨kd, v, r', s', m'⟩ := z
  obtain ⟨kd2, v2, r2, s2, m2⟩ := zr
  dsimp only at q1 q2 q3 hmk her
  subst q1; subst q2; subst q3
  have fin : ∀ w3 : xw, ∀ fo3, w3 (g + 394) = ar1 fo3 → INV g (JW w3 g c l ii bt wt en st r' s' m' kc kd po pa pb pn pf bt2 kk pl wg ws m' r2 s2) := fun w3 fo3 h3 => ⟨w3, fo3, c, l, ii, bt, wt, en, st, r', s', m', kc, kd, po, pa, pb, pn, pf, bt2, kk, pl, wg, ws, m', r2, s2, rfl, h3, hc, hl, hii, hv, hb, k1, k2, ha, rfl⟩
  rcases hcm with ⟨z0, hx⟩ | ⟨z0, hx, ht⟩
  · have z0 : kd = 0 := z0
    have hx : f_G_run (JW w1 g c l ii bt wt en st mr ms mi kc th po pa pb pn pf bt2 kk pl wg ws rc rg sk) g x = some (v, ew (cb (rb w1 (g + 376) th (Int32.ofNat c) po pa pb pn pf (Int32.ofNat l) bt2 kk pl st en wg ws rc rg sk) g (Int32.ofNat c) ii (Int32.ofNat l) bt wt en st r' s' m') (cP g) kc) := hx
    have ho1 : (ew (cb (rb w1 (g + 376) th (Int32.ofNat c) po pa pb pn pf (Int32.ofNat l) bt2 kk pl st en wg ws rc rg sk) g (Int32.ofNat c) ii (Int32.ofNat l) bt wt en st r' s' m') (cP g) kc) (g + 394) = ar1 fo := by
      rw [ecb_out (by omega), rb_out (by omega)]; exact ho
    have hs := xsL_of (x := v.toInt64) ho1
    rw [ecb_up (by omega), rb_up (by omega)] at hs
    have h3 : va_up w1 (g + 394) (ar1 (vp_updL fo 0 v.toInt64)) (g + 394) = ar1 (vp_updL fo 0 v.toInt64) := va_up_self _ _ _
    refine ⟨0, ew (cb (rb (va_up w1 (g + 394) (ar1 (vp_updL fo 0 v.toInt64))) (g + 376) th (Int32.ofNat c) po pa pb pn pf (Int32.ofNat l) bt2 kk pl st en wg ws rc rg sk) g (Int32.ofNat c) ii (Int32.ofNat l) bt wt en st r' s' m') (cP g) kc, sz, v, JW (va_up w1 (g + 394) (ar1 (vp_updL fo 0 v.toInt64))) g c l ii bt wt en st r' s' m' kc kd po pa pb pn pf bt2 kk pl wg ws m' r2 s2, ?_, jck, ?_, jck, ?_, fun _ => ?_, fin _ _ h3⟩
    · unfold f_L_run
      simp only [hk0, hx, hs, Option.bind_some]
    · rw [jcomm (Nat.le_refl _), her, jwc]
    · rw [jwc, er_thrown, z0]
    · have ho2 : (JW (va_up w1 (g + 394) (ar1 (vp_updL fo 0 v.toInt64))) g c l ii bt wt en st r' s' m' kc kd po pa pb pn pf bt2 kk pl wg ws m' r2 s2) (g + 394) = ar1 (vp_updL fo 0 v.toInt64) :=
        (ecb_out (by omega)).trans ((rb_out (by omega)).trans h3)
      rw [xaL_of ho2]
      rfl
  · have z0 : ¬ kd = 0 := z0
    have hx : f_G_run (JW w1 g c l ii bt wt en st mr ms mi kc th po pa pb pn pf bt2 kk pl wg ws rc rg sk) g x = none := hx
    have ht : th_G_run (JW w1 g c l ii bt wt en st mr ms mi kc th po pa pb pn pf bt2 kk pl wg ws rc rg sk) g x = some (kN kd, ew (cb (rb w1 (g + 376) th (Int32.ofNat c) po pa pb pn pf (Int32.ofNat l) bt2 kk pl st en wg ws rc rg sk) g (Int32.ofNat c) ii (Int32.ofNat l) bt wt en st r' s' m') (cP g) kc) := ht
    refine ⟨kd, ew (cb (rb w1 (g + 376) th (Int32.ofNat c) po pa pb pn pf (Int32.ofNat l) bt2 kk pl st en wg ws rc rg sk) g (Int32.ofNat c) ii (Int32.ofNat l) bt wt en st r' s' m') (cP g) kc, sz + 1, v, JW w1 g c l ii bt wt en st r' s' m' kc kd po pa pb pn pf bt2 kk pl wg ws m' r2 s2, ?_, jck, ?_, jck, ?_, fun q => absurd q z0, fin _ _ ho⟩
    · unfold f_L_run
      simp only [hk0, hx, ht, Option.bind_some]
      rcases hmk with e | e | e | e
      · exact absurd e z0
      · rw [e]
        rw [if_pos (show kN 1 = "java/lang/IllegalStateException" by decide)]
      · rw [e]
        rw [if_neg (show ¬ kN 2 = "java/lang/IllegalStateException" by decide), if_pos (show kN 2 = "java/lang/ArithmeticException" by decide)]
      · rw [e]
        rw [if_neg (show ¬ kN 3 = "java/lang/IllegalStateException" by decide), if_neg (show ¬ kN 3 = "java/lang/ArithmeticException" by decide), if_pos (show kN 3 = "java/lang/IndexOutOfBoundsException" by decide)]
    · rw [jcomm (Nat.le_refl _), her, jwc]
    · rw [jwc, er_thrown]
