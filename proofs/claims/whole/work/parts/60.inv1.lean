/-! Both objects and the law's array, call by call. -/
section IV1
variable {w w' : xw} {g b a : Nat} {ct : Int32} {ii : Nat → IV} {ln : Int32} {bt wt : Nat → Int32} {en st : Int32} {mr ms : Nat → Int32} {mi : Int32} {kc : Nat → KV} {th ct2 : Int32} {po pa pb pn pf : Nat → Int32} {ln2 : Int32} {bt2 : Nat → Int32} {kk : Nat → KV} {pl st2 en2 wg : Int32} {ws : Nat → Int32} {rc : Int32} {rg sk : Nat → Int32} {x : Option xe} {o : Nat}
theorem rb_up (h : o < b ∨ b + 18 ≤ o) : va_up (rb w b th ct2 po pa pb pn pf ln2 bt2 kk pl st2 en2 wg ws rc rg sk) o x = rb (va_up w o x) b th ct2 po pa pb pn pf ln2 bt2 kk pl st2 en2 wg ws rc rg sk := by
  funext a
  by_cases e : a = o
  · rw [e, va_up_self, rb_out h, va_up_self]
  · rw [va_up_ne _ _ e]
    by_cases q : b ≤ a ∧ a < b + 18
    · exact rb_w q
    · rw [rb_out (by omega), rb_out (by omega), va_up_ne _ _ e]
theorem ecb_up (h : g + 376 ≤ o) : va_up (ew (cb w g ct ii ln bt wt en st mr ms mi) (cP g) kc) o x = ew (cb (va_up w o x) g ct ii ln bt wt en st mr ms mi) (cP g) kc := by
  funext a
  by_cases e : a = o
  · rw [e, va_up_self, ecb_out h, va_up_self]
  · rw [va_up_ne _ _ e]
    exact ew_w (cb_w (va_up_ne _ _ e).symm)
end IV1
abbrev ar1 (f : Nat → Int64) : Option xe := some (.inl (1, 1, .inr (.inl f)))
/-- the world of the law's loop -/
abbrev JW (w1 : xw) (g c l : Nat) (ii : Nat → IV) (bt wt : Nat → Int32) (en st : Int32) (mr ms : Nat → Int32) (mi : Int32) (kc : Nat → KV) (th : Int32) (po pa pb pn pf bt2 : Nat → Int32) (kk : Nat → KV) (pl wg : Int32) (ws : Nat → Int32) (rc : Int32) (rg sk : Nat → Int32) : xw :=
  ew (cb (rb w1 (g + 376) th (Int32.ofNat c) po pa pb pn pf (Int32.ofNat l) bt2 kk pl st en wg ws rc rg sk) g (Int32.ofNat c) ii (Int32.ofNat l) bt wt en st mr ms mi) (cP g) kc
def JR (g c l : Nat) (ii : Nat → IV) (bt : Nat → Int32) (en mi : Int32) (kc : Nat → KV) (po pa pb pn pf bt2 : Nat → Int32) (kk : Nat → KV) (rc : Int32) : Prop :=
  c ≤ 24 ∧ l ≤ 16 ∧ (∀ i, i < 24 → rv5 po pa pb pn pf i = ii i) ∧ (∀ i, i < 24 → okV (ii i)) ∧ eqn l bt bt2 ∧ k01 kc ∧ k01 kk ∧ (¬ en = 0 → ∀ r, r < 6 → al (kc (g + 48 + 3 + r)) (kk (250 + r))) ∧ mi = rc
def INV (g : Nat) (W : xw) : Prop := ∃ w1 f c l ii bt wt en st mr ms mi kc th po pa pb pn pf bt2 kk pl wg ws rc rg sk, W = JW w1 g c l ii bt wt en st mr ms mi kc th po pa pb pn pf bt2 kk pl wg ws rc rg sk ∧ w1 (g + 394) = ar1 f ∧ JR g c l ii bt en mi kc po pa pb pn pf bt2 kk rc
/-- what a call of both answers, and leaves -/
def BOTH (g : Nat) (x : Option (Int32 × xw)) (y : xw → Option (Int32 × xw)) : Prop := ∃ v W1 W2, x = some (v, W1) ∧ xck W1 (g + 376) 8 = some () ∧ y W1 = some (v, W2) ∧ INV g W2
theorem INV.ck {g : Nat} {W : xw} (h : INV g W) : xck W g 0 = some () := by
  obtain ⟨w1, f, c, l, ii, bt, wt, en, st, mr, ms, mi, kc, th, po, pa, pb, pn, pf, bt2, kk, pl, wg, ws, rc, rg, sk, rfl, -⟩ := h
  exact cc_0
theorem jck {w1 : xw} {g : Nat} {ii : Nat → IV} {bt wt : Nat → Int32} {en st : Int32} {mr ms : Nat → Int32} {mi : Int32} {kc : Nat → KV} {th ct2 : Int32} {po pa pb pn pf : Nat → Int32} {ln2 : Int32} {bt2 : Nat → Int32} {kk : Nat → KV} {pl st2 en2 wg : Int32} {ws : Nat → Int32} {rc : Int32} {rg sk : Nat → Int32} {ct ln : Int32} : xck (ew (cb (rb w1 (g + 376) th ct2 po pa pb pn pf ln2 bt2 kk pl st2 en2 wg ws rc rg sk) g ct ii ln bt wt en st mr ms mi) (cP g) kc) (g + 376) 8 = some () := by
  rw [jcomm (Nat.le_refl _)]
  exact rck
theorem jwc {w1 : xw} {g c l : Nat} {ii : Nat → IV} {bt wt : Nat → Int32} {en st : Int32} {mr ms : Nat → Int32} {mi : Int32} {kc : Nat → KV} {th : Int32} {po pa pb pn pf bt2 : Nat → Int32} {kk : Nat → KV} {pl wg : Int32} {ws : Nat → Int32} {rc : Int32} {rg sk : Nat → Int32} : JW w1 g c l ii bt wt en st mr ms mi kc th po pa pb pn pf bt2 kk pl wg ws rc rg sk = rb (ew (cb w1 g (Int32.ofNat c) ii (Int32.ofNat l) bt wt en st mr ms mi) (cP g) kc) (g + 376) th (Int32.ofNat c) po pa pb pn pf (Int32.ofNat l) bt2 kk pl st en wg ws rc rg sk := jcomm (Nat.le_refl _)
theorem b_add {g : Nat} {W : xw} (h : INV g W) (op a b n f : Int32) : BOTH g (f_G_add W g op a b n f) (fun W1 => f_R_add W1 (g + 376) op a b n f) := by
  obtain ⟨w1, fo, c, l, ii, bt, wt, en, st, mr, ms, mi, kc, th, po, pa, pb, pn, pf, bt2, kk, pl, wg, ws, rc, rg, sk, rfl, ho, hc, hl, hii, hv, hb, k1, k2, ha, hm⟩ := h
  have e1 := ew_add (w := rb w1 (g + 376) th (Int32.ofNat c) po pa pb pn pf (Int32.ofNat l) bt2 kk pl st en wg ws rc rg sk) (g := g) (ii := ii) (ln := Int32.ofNat l) (bt := bt) (wt := wt) (en := en) (st := st) (mr := mr) (ms := ms) (mi := mi) (kc := kc) (op := op) (a := a) (b := b) (n := n) (f := f) hc
  by_cases q : c < 24 ∧ okB op a b n f = true
  · rw [if_pos q] at e1
    refine ⟨_, _, JW w1 g (c + 1) l (va_up ii c (op, a, b, n, f)) bt wt en st mr ms mi kc 0 (upd po c op) (upd pa c a) (upd pb c b) (upd pn c n) (upd pf c f) bt2 kk pl wg ws rc rg sk, e1, jck, by show f_R_add _ _ _ _ _ _ _ = _; rw [jcomm (Nat.le_refl _), er_add hc, if_pos q, jwc], ?_⟩
    refine ⟨w1, fo, c + 1, l, va_up ii c (op, a, b, n, f), bt, wt, en, st, mr, ms, mi, kc, 0, upd po c op, upd pa c a, upd pb c b, upd pn c n, upd pf c f, bt2, kk, pl, wg, ws, rc, rg, sk, rfl, ho, by omega, hl, fun i hi => ?_, fun i hi => ?_, hb, k1, k2, ha, hm⟩
    · by_cases e : i = c
      · rw [e, va_up_self]
        unfold rv5 upd
        simp
      · rw [va_up_ne _ _ e, ← hii i hi]
        unfold rv5 upd
        simp only [if_neg e]
    · by_cases e : i = c
      · rw [e, va_up_self]; exact okB_V q.2
      · rw [va_up_ne _ _ e]; exact hv i hi
  · rw [if_neg q] at e1
    exact ⟨_, _, JW w1 g c l ii bt wt en st mr ms mi kc 0 po pa pb pn pf bt2 kk pl wg ws rc rg sk, e1, jck, by show f_R_add _ _ _ _ _ _ _ = _; rw [jcomm (Nat.le_refl _), er_add hc, if_neg q, jwc], ⟨w1, fo, c, l, ii, bt, wt, en, st, mr, ms, mi, kc, 0, po, pa, pb, pn, pf, bt2, kk, pl, wg, ws, rc, rg, sk, rfl, ho, hc, hl, hii, hv, hb, k1, k2, ha, hm⟩⟩
theorem b_size {g : Nat} {W : xw} (h : INV g W) : BOTH g (f_G_size W g) (fun W1 => f_R_size W1 (g + 376)) := by
  obtain ⟨w1, fo, c, l, ii, bt, wt, en, st, mr, ms, mi, kc, th, po, pa, pb, pn, pf, bt2, kk, pl, wg, ws, rc, rg, sk, rfl, ho, hc, hl, hii, hv, hb, k1, k2, ha, hm⟩ := h
  exact ⟨_, _, JW w1 g c l ii bt wt en st mr ms mi kc 0 po pa pb pn pf bt2 kk pl wg ws rc rg sk, ew_size (w := rb w1 (g + 376) th (Int32.ofNat c) po pa pb pn pf (Int32.ofNat l) bt2 kk pl st en wg ws rc rg sk) (g := g) (ct := Int32.ofNat c) (ii := ii) (ln := Int32.ofNat l) (bt := bt) (wt := wt) (en := en) (st := st) (mr := mr) (ms := ms) (mi := mi) (kc := kc), jck, by show f_R_size _ _ = _; rw [jcomm (Nat.le_refl _), er_size, jwc], ⟨w1, fo, c, l, ii, bt, wt, en, st, mr, ms, mi, kc, 0, po, pa, pb, pn, pf, bt2, kk, pl, wg, ws, rc, rg, sk, rfl, ho, hc, hl, hii, hv, hb, k1, k2, ha, hm⟩⟩
theorem b_steps {g : Nat} {W : xw} (h : INV g W) : BOTH g (f_G_steps W g) (fun W1 => f_R_steps W1 (g + 376)) := by
  obtain ⟨w1, fo, c, l, ii, bt, wt, en, st, mr, ms, mi, kc, th, po, pa, pb, pn, pf, bt2, kk, pl, wg, ws, rc, rg, sk, rfl, ho, hc, hl, hii, hv, hb, k1, k2, ha, hm⟩ := h
  exact ⟨_, _, JW w1 g c l ii bt wt en st mr ms mi kc 0 po pa pb pn pf bt2 kk pl wg ws rc rg sk, ew_steps (w := rb w1 (g + 376) th (Int32.ofNat c) po pa pb pn pf (Int32.ofNat l) bt2 kk pl st en wg ws rc rg sk) (g := g) (ct := Int32.ofNat c) (ii := ii) (ln := Int32.ofNat l) (bt := bt) (wt := wt) (en := en) (st := st) (mr := mr) (ms := ms) (mi := mi) (kc := kc), jck, by show f_R_steps _ _ = _; rw [jcomm (Nat.le_refl _), er_steps, jwc], ⟨w1, fo, c, l, ii, bt, wt, en, st, mr, ms, mi, kc, 0, po, pa, pb, pn, pf, bt2, kk, pl, wg, ws, rc, rg, sk, rfl, ho, hc, hl, hii, hv, hb, k1, k2, ha, hm⟩⟩
theorem b_clear {g : Nat} {W : xw} (h : INV g W) : BOTH g (f_G_clear W g) (fun W1 => f_R_clear W1 (g + 376)) := by
  obtain ⟨w1, fo, c, l, ii, bt, wt, en, st, mr, ms, mi, kc, th, po, pa, pb, pn, pf, bt2, kk, pl, wg, ws, rc, rg, sk, rfl, ho, hc, hl, hii, hv, hb, k1, k2, ha, hm⟩ := h
  have e1 := ew_clear (w := rb w1 (g + 376) th (Int32.ofNat c) po pa pb pn pf (Int32.ofNat l) bt2 kk pl st en wg ws rc rg sk) (g := g) (ct := Int32.ofNat c) (ii := ii) (ln := Int32.ofNat l) (bt := bt) (wt := wt) (en := en) (st := st) (mr := mr) (ms := ms) (mi := mi) (kc := kc)
  rw [show (0 : Int32) = Int32.ofNat 0 from rfl] at e1
  exact ⟨_, _, JW w1 g 0 l ii bt wt en st mr ms mi kc 0 po pa pb pn pf bt2 kk pl wg ws rc rg sk, e1, jck, by show f_R_clear _ _ = _; rw [jcomm (Nat.le_refl _), er_clear, jwc]; rfl, ⟨w1, fo, 0, l, ii, bt, wt, en, st, mr, ms, mi, kc, 0, po, pa, pb, pn, pf, bt2, kk, pl, wg, ws, rc, rg, sk, rfl, ho, Nat.zero_le _, hl, hii, hv, hb, k1, k2, ha, hm⟩⟩
theorem b_ran {g : Nat} {W : xw} (h : INV g W) : BOTH g (f_G_ran W g) (fun W1 => f_R_ran W1 (g + 376)) := by
  obtain ⟨w1, fo, c, l, ii, bt, wt, en, st, mr, ms, mi, kc, th, po, pa, pb, pn, pf, bt2, kk, pl, wg, ws, rc, rg, sk, rfl, ho, hc, hl, hii, hv, hb, k1, k2, ha, hm⟩ := h
  subst hm
  exact ⟨_, _, JW w1 g c l ii bt wt en st mr ms mi kc 0 po pa pb pn pf bt2 kk pl wg ws mi rg sk, ew_ran (w := rb w1 (g + 376) th (Int32.ofNat c) po pa pb pn pf (Int32.ofNat l) bt2 kk pl st en wg ws mi rg sk) (g := g) (ct := Int32.ofNat c) (ii := ii) (ln := Int32.ofNat l) (bt := bt) (wt := wt) (en := en) (st := st) (mr := mr) (ms := ms) (mi := mi) (kc := kc), jck, by show f_R_ran _ _ = _; rw [jcomm (Nat.le_refl _), er_ran, jwc], ⟨w1, fo, c, l, ii, bt, wt, en, st, mr, ms, mi, kc, 0, po, pa, pb, pn, pf, bt2, kk, pl, wg, ws, mi, rg, sk, rfl, ho, hc, hl, hii, hv, hb, k1, k2, ha, rfl⟩⟩
theorem b_packet {g : Nat} {W : xw} (h : INV g W) (lo hi : Int64) (k : Int32) : BOTH g (f_G_packet W g lo hi k) (fun W1 => f_R_packet W1 (g + 376) lo hi k) := by
  obtain ⟨w1, fo, c, l, ii, bt, wt, en, st, mr, ms, mi, kc, th, po, pa, pb, pn, pf, bt2, kk, pl, wg, ws, rc, rg, sk, rfl, ho, hc, hl, hii, hv, hb, k1, k2, ha, hm⟩ := h
  have e1 := ew_packet (w := rb w1 (g + 376) th (Int32.ofNat c) po pa pb pn pf (Int32.ofNat l) bt2 kk pl st en wg ws rc rg sk) (g := g) (ct := Int32.ofNat c) (ii := ii) (ln := Int32.ofNat l) (bt := bt) (wt := wt) (en := en) (st := st) (mr := mr) (ms := ms) (mi := mi) (kc := kc) (lo := lo) (hi := hi) (k := k)
  by_cases q : ¬ k < 0 ∧ k ≤ 16
  · have ek := i32_of6 q.1
    have kl : k.toNatClampNeg ≤ 16 := by
      have e : k.toNatClampNeg = k.toInt.toNat := rfl
      have q2 := q.2
      rw [Int32.le_iff_toInt_le, show (16 : Int32).toInt = 16 by decide] at q2
      omega
    rw [if_pos q] at e1
    have e1' : f_G_packet (JW w1 g c l ii bt wt en st mr ms mi kc th po pa pb pn pf bt2 kk pl wg ws rc rg sk) g lo hi k = some (1, ew (cb (rb w1 (g + 376) th (Int32.ofNat c) po pa pb pn pf (Int32.ofNat l) bt2 kk pl st en wg ws rc rg sk) g (Int32.ofNat c) ii (Int32.ofNat k.toNatClampNeg) (byt (byC lo hi) bt k.toNatClampNeg) wt en st mr ms mi) (cP g) kc) := by rw [← ek]; exact e1
    refine ⟨_, _, JW w1 g c k.toNatClampNeg ii (byt (byC lo hi) bt k.toNatClampNeg) wt en st mr ms mi kc 0 po pa pb pn pf (byt (byR lo hi) bt2 k.toNatClampNeg) kk pl wg ws rc rg sk, e1', jck, by show f_R_packet _ _ _ _ _ = _; rw [jcomm (Nat.le_refl _), er_packet, if_pos q, jwc, ← ek], ⟨w1, fo, c, k.toNatClampNeg, ii, byt (byC lo hi) bt k.toNatClampNeg, wt, en, st, mr, ms, mi, kc, 0, po, pa, pb, pn, pf, byt (byR lo hi) bt2 k.toNatClampNeg, kk, pl, wg, ws, rc, rg, sk, rfl, ho, hc, kl, hii, hv, ?_, k1, k2, ha, hm⟩⟩
    · exact fun i hi2 => by
        unfold byt
        rw [if_pos hi2, if_pos hi2]
        exact by_eq (by omega)
  · rw [if_neg q] at e1
    exact ⟨_, _, JW w1 g c l ii bt wt en st mr ms mi kc 0 po pa pb pn pf bt2 kk pl wg ws rc rg sk, e1, jck, by show f_R_packet _ _ _ _ _ = _; rw [jcomm (Nat.le_refl _), er_packet, if_neg q, jwc], ⟨w1, fo, c, l, ii, bt, wt, en, st, mr, ms, mi, kc, 0, po, pa, pb, pn, pf, bt2, kk, pl, wg, ws, rc, rg, sk, rfl, ho, hc, hl, hii, hv, hb, k1, k2, ha, hm⟩⟩
theorem told_al {k j : KV} (h : al k j) (h1 : k.1 = 0 ∨ k.1 = 1) (n : Int32) : kTold k n = kTold j n := by
  rcases h1 with q | q
  · unfold kTold
    rw [if_pos q, if_pos (h.1 ▸ q)]
  · rw [(h.2 q).1]
theorem b_known {g : Nat} {W : xw} (h : INV g W) (r n : Int32) : ∃ v W1 W2, f_G_known W g r n = some (v, W1) ∧ xck W1 (g + 376) 8 = some () ∧ f_R_known W1 (g + 376) r n = some (v, W2) ∧ INV g W2 := by
  obtain ⟨w1, fo, c, l, ii, bt, wt, en, st, mr, ms, mi, kc, th, po, pa, pb, pn, pf, bt2, kk, pl, wg, ws, rc, rg, sk, rfl, ho, hc, hl, hii, hv, hb, k1, k2, ha, hm⟩ := h
  have e1 := ew_known (w := rb w1 (g + 376) th (Int32.ofNat c) po pa pb pn pf (Int32.ofNat l) bt2 kk pl st en wg ws rc rg sk) (g := g) (ct := Int32.ofNat c) (ii := ii) (ln := Int32.ofNat l) (bt := bt) (wt := wt) (en := en) (st := st) (mr := mr) (ms := ms) (mi := mi) (kc := kc) (r := r) (n := n)
  refine ⟨_, _, JW w1 g c l ii bt wt en st mr ms mi kc 0 po pa pb pn pf bt2 kk pl wg ws rc rg sk, e1, jck, ?_, ⟨w1, fo, c, l, ii, bt, wt, en, st, mr, ms, mi, kc, 0, po, pa, pb, pn, pf, bt2, kk, pl, wg, ws, rc, rg, sk, rfl, ho, hc, hl, hii, hv, hb, k1, k2, ha, hm⟩⟩
  rw [jcomm (Nat.le_refl _), er_known, jwc]
  by_cases q : (¬ r < 0 ∧ r < 6) ∧ ¬ en = 0
  · rw [if_pos q, if_pos q, told_al (ha q.2 _ (nat6 q.1.1 q.1.2)) (k1 _) n]
  · rw [if_neg q, if_neg q]
theorem kf_inj {k j : KV} (h : kf k = kf j) : k = j := by
  unfold kf at h
  simp only [List.cons.injEq, Value.int.injEq, Value.long.injEq, and_true] at h
  obtain ⟨h1, h2, h3, h4, h5, h6, h7, h8⟩ := h
  exact Prod.ext h1 (Prod.ext h2 (Prod.ext h3 (Prod.ext h4 (Prod.ext h5 (Prod.ext h6 (Prod.ext h7 h8))))))
theorem b_walk {g : Nat} {W : xw} (h : INV g W) : BOTH g (f_G_walk W g) (fun W1 => f_R_walk W1 (g + 376)) := by
  obtain ⟨w1, fo, c, l, ii, bt, wt, en, st, mr, ms, mi, kc, th, po, pa, pb, pn, pf, bt2, kk, pl, wg, ws, rc, rg, sk, rfl, ho, hc, hl, hii, hv, hb, k1, k2, ha, hm⟩ := h
  obtain ⟨ans, st1, en1, wt1, kc1, kk1, pl1, wg1, ws1, x1, -, c1, -, -⟩ := call_walk (w := rb w1 (g + 376) th (Int32.ofNat c) po pa pb pn pf (Int32.ofNat l) bt2 kk pl st en wg ws rc rg sk) (w2 := fun _ => none) (g := g) (b := g + 376) (ln := Int32.ofNat l) (ln2 := Int32.ofNat l) (bt := bt) (bt2 := bt2) (wt := wt) (en := en) (st := st) (mr := mr) (ms := ms) (mi := mi) (th := th) (pl := pl) (st2 := st) (en2 := en) (wg := wg) (ws := ws) (rc := rc) (rg := rg) (sk := sk) hv hii hc rfl k1 k2
  obtain ⟨ans', st', en', wt', kc', kk', pl', wg', ws', x2, y2, c2, d2, a2⟩ := call_walk (w := rb w1 (g + 376) th (Int32.ofNat c) po pa pb pn pf (Int32.ofNat l) bt2 kk pl st en wg ws rc rg sk) (w2 := ew (cb w1 g (Int32.ofNat c) ii (Int32.ofNat l) bt wt1 en1 st1 mr ms mi) (cP g) kc1) (g := g) (b := g + 376) (ln := Int32.ofNat l) (ln2 := Int32.ofNat l) (bt := bt) (bt2 := bt2) (wt := wt) (en := en) (st := st) (mr := mr) (ms := ms) (mi := mi) (th := th) (pl := pl) (st2 := st) (en2 := en) (wg := wg) (ws := ws) (rc := rc) (rg := rg) (sk := sk) hv hii hc rfl k1 k2
  have hE := Option.some.inj (x1.symm.trans x2)
  have hans : ans = ans' := congrArg Prod.fst hE
  have hW := congrArg Prod.snd hE
  dsimp only at hW
  have h29 := congrFun hW (g + 29)
  rw [cw_29, cw_29] at h29
  simp only [Option.some.injEq, Sum.inr.injEq, Prod.mk.injEq, List.cons.injEq, Value.int.injEq, true_and, and_true] at h29
  obtain ⟨hen, hst⟩ := h29
  subst hen; subst hst; subst hans
  refine ⟨ans, _, JW w1 g c l ii bt wt1 en1 st1 mr ms mi kc1 0 po pa pb pn pf bt2 kk' pl' wg' ws' rc rg sk, x1, jck, ?_, ⟨w1, fo, c, l, ii, bt, wt1, en1, st1, mr, ms, mi, kc1, 0, po, pa, pb, pn, pf, bt2, kk', pl', wg', ws', rc, rg, sk, rfl, ho, hc, hl, hii, hv, hb, c1, d2, fun q r hr => ?_, hm⟩⟩
  · show f_R_walk _ _ = _
    rw [jcomm (Nat.le_refl _), y2, jwc]
  · have hk := congrFun hW (g + 48 + 3 + r)
    rw [ew_in (cP_eR hr), ew_in (cP_eR hr)] at hk
    simp only [Option.some.injEq, Sum.inr.injEq, Prod.mk.injEq, true_and] at hk
    rw [kf_inj hk]
    exact a2 q r hr
