/-! The two walks, held beside each other. -/
def al (k j : KV) : Prop := k.1 = j.1 ∧ (k.1 = 1 → k = j ∧ GG k)
theorem al_refl {k : KV} (h : GG k) : al k k := ⟨rfl, fun _ => ⟨rfl, h⟩⟩
theorem al_un {k j : KV} (h : k.1 = 0) (h2 : j.1 = 0) : al k j := ⟨by rw [h, h2], fun q => by rw [h] at q; exact absurd q (by decide)⟩
theorem al_eq {k j k' : KV} (h : al k j) (e : k' = j) (hg : GG j) : al k' j := by rw [e]; exact al_refl hg
/-- an instruction that may be added -/
def okV (v : IV) : Prop := okI v ∧ (¬ v.1 < 0 ∧ v.1 ≤ 23) ∧ (v.1 = 14 ∨ v.1 = 15 → ¬ v.2.2.1 = -1 ∧ ¬ v.2.2.2.1 < 0 ∧ v.2.2.2.1 ≤ 16) ∧ (v.1 = 14 → v.2.2.2.2 = 1 ∨ v.2.2.2.2 = 2 ∨ v.2.2.2.2 = 4) ∧ ((15 : Int32) ≤ v.1 ∧ v.1 ≤ 22 → (1 : Int32) ≤ v.2.2.2.2 ∧ v.2.2.2.2 ≤ 23)
def AL (g : Nat) (kc kk : Nat → KV) : Prop := ∀ r, r < 10 → al (kc (g + 30 + 3 + r)) (kk r)
theorem AL.up {g : Nat} {kc kk : Nat → KV} (h : AL g kc kk) {a : Nat} {k j : KV} (hk : al k j) : AL g (va_up kc (g + 30 + 3 + a) k) (va_up kk a j) := fun r hr => by
  by_cases e : r = a
  · rw [e, va_up_self, va_up_self]; exact hk
  · rw [va_up_ne _ _ (by omega), va_up_ne _ _ e]; exact h r hr
theorem AL.congr {g : Nat} {kc kk kc' kk' : Nat → KV} (h : AL g kc kk) (h1 : ∀ r, r < 10 → kc' (g + 30 + 3 + r) = kc (g + 30 + 3 + r)) (h2 : ∀ r, r < 10 → kk' r = kk r) : AL g kc' kk' := fun r hr => by rw [h1 r hr, h2 r hr]; exact h r hr
abbrev WT (g : Nat) (ii : Nat → IV) (wt : Nat → Int32) (en : Int32) (kc kk : Nat → KV) (j : Nat) (ws : Nat → Int32) (q : Nat → Nat) (B : Nat) : Prop :=
  (k01 kc) ∧
  (k01 kk) ∧
  (∀ t, 1 ≤ t → t ≤ j → q t < B ∧ q t < 24 ∧ t ≤ q t + 1 ∧ (t < j → q t < q (t + 1))) ∧
  (∀ i, i < 24 → (¬ wt i = 0 ↔ ∃ t, 1 ≤ t ∧ t ≤ j ∧ q t = i)) ∧
  (∀ t, 1 ≤ t → t ≤ j → ws t = Int32.ofNat (q t) + 1 + (ii (q t)).2.2.2.2 ∧ (15 : Int32) ≤ (ii (q t)).1 ∧ (ii (q t)).1 ≤ 22) ∧
  (∀ t, 1 ≤ t → t ≤ j → ∀ r, r < 10 → al (kc (g + 61 + 13 * q t + 3 + r)) (kk (10 * t + r))) ∧
  (¬ en = 0 → ∀ r, r < 6 → al (kc (g + 48 + 3 + r)) (kk (250 + r)))
theorem WT.kc1 {g ii wt en kc kk j ws q B} (h : WT g ii wt en kc kk j ws q B) : k01 kc := h.1
theorem WT.kk1 {g ii wt en kc kk j ws q B} (h : WT g ii wt en kc kk j ws q B) : k01 kk := h.2.1
theorem WT.inc {g ii wt en kc kk j ws q B} (h : WT g ii wt en kc kk j ws q B) : ∀ t, 1 ≤ t → t ≤ j → q t < B ∧ q t < 24 ∧ t ≤ q t + 1 ∧ (t < j → q t < q (t + 1)) := h.2.2.1
theorem WT.on {g ii wt en kc kk j ws q B} (h : WT g ii wt en kc kk j ws q B) : ∀ i, i < 24 → (¬ wt i = 0 ↔ ∃ t, 1 ≤ t ∧ t ≤ j ∧ q t = i) := h.2.2.2.1
theorem WT.wsq {g ii wt en kc kk j ws q B} (h : WT g ii wt en kc kk j ws q B) : ∀ t, 1 ≤ t → t ≤ j → ws t = Int32.ofNat (q t) + 1 + (ii (q t)).2.2.2.2 ∧ (15 : Int32) ≤ (ii (q t)).1 ∧ (ii (q t)).1 ≤ 22 := h.2.2.2.2.1
theorem WT.wk {g ii wt en kc kk j ws q B} (h : WT g ii wt en kc kk j ws q B) : ∀ t, 1 ≤ t → t ≤ j → ∀ r, r < 10 → al (kc (g + 61 + 13 * q t + 3 + r)) (kk (10 * t + r)) := h.2.2.2.2.2.1
theorem WT.en1 {g ii wt en kc kk j ws q B} (h : WT g ii wt en kc kk j ws q B) : ¬ en = 0 → ∀ r, r < 6 → al (kc (g + 48 + 3 + r)) (kk (250 + r)) := h.2.2.2.2.2.2
theorem WT.j_le {g ii wt en kc kk j ws q B} (h : WT g ii wt en kc kk j ws q B) : j ≤ B ∧ j ≤ 24 := by
  by_cases e : j = 0
  · omega
  · have := h.inc j (by omega) (by omega)
    omega
theorem WT.lt {g ii wt en kc kk j ws q B} (h : WT g ii wt en kc kk j ws q B) : ∀ d t, 1 ≤ t → t + d ≤ j → q t + d ≤ q (t + d) := by
  intro d
  induction d with
  | zero => intro t _ _; exact Nat.le_refl _
  | succ d ih =>
    intro t h1 h2
    have a := ih t h1 (by omega)
    have b := (h.inc (t + d) (by omega) (by omega)).2.2.2 (by omega)
    rw [show t + (d + 1) = t + d + 1 by omega]
    omega
theorem WT.congr {g ii wt en kc kk j ws q B kc' kk'} (h : WT g ii wt en kc kk j ws q B) (h1 : k01 kc') (h2 : k01 kk') (e1 : ∀ a, g + 48 ≤ a → kc' a = kc a) (e2 : ∀ a, 10 ≤ a → a < 256 → kk' a = kk a) : WT g ii wt en kc' kk' j ws q B :=
  ⟨h1, h2, h.inc, h.on, h.wsq, fun t a b r hr => by rw [e1 _ (by omega), e2 _ (by omega) (by have := h.j_le; omega)]; exact h.wk t a b r hr, fun he r hr => by rw [e1 _ (by omega), e2 _ (by omega) (by omega)]; exact h.en1 he r hr⟩
theorem WT.mono {g ii wt en kc kk j ws q B B'} (h : WT g ii wt en kc kk j ws q B) (hB : B ≤ B') : WT g ii wt en kc kk j ws q B' :=
  ⟨h.kc1, h.kk1, fun t a b => by have := h.inc t a b; exact ⟨by omega, this.2⟩, h.on, h.wsq, h.wk, h.en1⟩
def qp (j p : Nat) (q : Nat → Nat) : Nat → Nat := fun t => if t = j + 1 then p else q t
theorem qp_s {j p : Nat} {q : Nat → Nat} : qp j p q (j + 1) = p := if_pos rfl
theorem qp_o {j p t : Nat} {q : Nat → Nat} (h : t ≠ j + 1) : qp j p q t = q t := if_neg h
/-- a way that waits at p is pushed -/
theorem WT.push {g ii wt en kc kk j ws q p kc' kk'} (h : WT g ii wt en kc kk j ws q p) (hp : p < 24) (hop : (15 : Int32) ≤ (ii p).1 ∧ (ii p).1 ≤ 22) (h1 : k01 kc') (h2 : k01 kk') (e1 : ∀ a, g + 48 ≤ a → (a < g + 61 + 13 * p ∨ g + 61 + 13 * p + 13 ≤ a) → kc' a = kc a) (e2 : ∀ a, 10 ≤ a → a < 256 → (a < 10 * (j + 1) ∨ 10 * (j + 1) + 10 ≤ a) → kk' a = kk a) (hk : ∀ r, r < 10 → al (kc' (g + 61 + 13 * p + 3 + r)) (kk' (10 * (j + 1) + r))) : WT g ii (upd wt p 1) en kc' kk' (j + 1) (upd ws (j + 1) (Int32.ofNat p + 1 + (ii p).2.2.2.2)) (qp j p q) (p + 1) := by
  have hj := h.j_le
  refine ⟨h1, h2, ?_, ?_, ?_, ?_, ?_⟩
  · intro t a b
    by_cases e : t = j + 1
    · rw [e, qp_s]
      exact ⟨by omega, hp, by omega, fun z => absurd z (by omega)⟩
    · rw [qp_o e]
      have i := h.inc t a (by omega)
      refine ⟨by omega, i.2.1, i.2.2.1, fun z => ?_⟩
      by_cases e2 : t + 1 = j + 1
      · rw [e2, qp_s]; exact i.1
      · rw [qp_o e2]; exact i.2.2.2 (by omega)
  · intro i hi
    unfold upd
    by_cases e : i = p
    · rw [if_pos e]
      exact ⟨fun _ => ⟨j + 1, by omega, by omega, by rw [qp_s]; exact e.symm⟩, fun _ => by decide⟩
    · rw [if_neg e, h.on i hi]
      constructor
      · rintro ⟨t, a, b, c⟩
        exact ⟨t, a, by omega, by rw [qp_o (by omega)]; exact c⟩
      · rintro ⟨t, a, b, c⟩
        by_cases e2 : t = j + 1
        · rw [e2, qp_s] at c; omega
        · rw [qp_o e2] at c
          exact ⟨t, a, by omega, c⟩
  · intro t a b
    unfold upd
    by_cases e : t = j + 1
    · rw [if_pos e, e, qp_s]; exact ⟨rfl, hop⟩
    · rw [if_neg e, qp_o e]; exact h.wsq t a (by omega)
  · intro t a b r hr
    by_cases e : t = j + 1
    · rw [e, qp_s]; exact hk r hr
    · rw [qp_o e]
      have i := h.inc t a (by omega)
      rw [e1 _ (by omega) (by omega), e2 _ (by omega) (by omega) (by omega)]
      exact h.wk t a (by omega) r hr
  · intro he r hr
    rw [e1 _ (by omega) (by omega), e2 _ (by omega) (by omega) (by omega)]
    exact h.en1 he r hr
/-- nothing is pushed, the place's mark says so -/
theorem WT.nopush {g ii wt en kc kk j ws q p} (h : WT g ii wt en kc kk j ws q p) : WT g ii (upd wt p 0) en kc kk j ws q p := by
  refine ⟨h.kc1, h.kk1, h.inc, ?_, h.wsq, h.wk, h.en1⟩
  intro i hi
  unfold upd
  by_cases e : i = p
  · rw [if_pos e]
    refine ⟨fun z => absurd rfl z, ?_⟩
    rintro ⟨t, a, b, c⟩
    have := h.inc t a b
    omega
  · rw [if_neg e]; exact h.on i hi
theorem hiW_none {wt : Nat → Int32} : ∀ n, (∀ i, i < n → wt i = 0) → hiW wt n = none
  | 0, _ => rfl
  | n + 1, h => by
    show (if wt n = 0 then hiW wt n else some n) = none
    rw [if_pos (h n (by omega))]
    exact hiW_none n (fun i hi => h i (by omega))
theorem hiW_some {wt : Nat → Int32} {i : Nat} (hi : ¬ wt i = 0) : ∀ n, i < n → (∀ t, i < t → t < n → wt t = 0) → hiW wt n = some i
  | 0, h, _ => absurd h (by omega)
  | n + 1, h, h2 => by
    show (if wt n = 0 then hiW wt n else some n) = some i
    by_cases e : i = n
    · rw [← e, if_neg hi]
    · rw [if_pos (h2 n (by omega) (by omega))]
      exact hiW_some hi n (by omega) (fun t a b => h2 t a (by omega))
theorem WT.none {g ii wt en kc kk ws q B} (h : WT g ii wt en kc kk 0 ws q B) : hiW wt 24 = none := hiW_none 24 (fun i hi => by
  by_cases z : wt i = 0
  · exact z
  · obtain ⟨t, a, b, -⟩ := (h.on i hi).mp z
    omega)
theorem WT.res {g ii wt en kc kk j ws q B} (h : WT g ii wt en kc kk j ws q B) (hj : 1 ≤ j) : hiW wt 24 = some (q j) ∧ AL g (kcp (g + 30) (g + 61 + 13 * q j) 10 kc) (rcp (10 * j) 0 10 kk) ∧ WT g ii (upd wt (q j) 0) en (kcp (g + 30) (g + 61 + 13 * q j) 10 kc) (rcp (10 * j) 0 10 kk) (j - 1) ws q (q j) := by
  have ij := h.inc j hj (Nat.le_refl _)
  have hb := h.j_le
  have ltj : ∀ t, 1 ≤ t → t < j → q t < q j := fun t a b => by
    have := h.lt (j - t) t a (by omega)
    rw [show t + (j - t) = j by omega] at this
    omega
  refine ⟨?_, ?_, ?_⟩
  · refine hiW_some ?_ 24 ij.2.1 ?_
    · exact (h.on (q j) ij.2.1).mpr ⟨j, hj, Nat.le_refl _, rfl⟩
    · intro t a b
      by_cases z : wt t = 0
      · exact z
      · obtain ⟨s, x, y, e⟩ := (h.on t b).mp z
        by_cases e2 : s = j
        · rw [e2] at e; omega
        · have := ltj s x (by omega); omega
  · intro r hr
    have e1 : kcp (g + 30) (g + 61 + 13 * q j) 10 kc (g + 30 + 3 + r) = kc (g + 61 + 13 * q j + 3 + r) := by
      unfold kcp
      rw [if_pos (by omega), show g + 61 + 13 * q j + (g + 30 + 3 + r - (g + 30)) = g + 61 + 13 * q j + 3 + r by omega]
    have e2 : rcp (10 * j) 0 10 kk r = kk (10 * j + r) := by
      unfold rcp
      rw [if_pos (by omega), Nat.sub_zero]
    rw [e1, e2]
    exact h.wk j hj (Nat.le_refl _) r hr
  · have w2 : WT g ii wt en (kcp (g + 30) (g + 61 + 13 * q j) 10 kc) (rcp (10 * j) 0 10 kk) j ws q B := h.congr (h.kc1.cp _ _ _) (h.kk1.rcp _ _ _) (fun a ha => by unfold kcp; rw [if_neg (by omega)]) (fun a ha hb => by unfold rcp; rw [if_neg (by omega)])
    refine ⟨w2.kc1, w2.kk1, ?_, ?_, fun t a b => w2.wsq t a (by omega), fun t a b => w2.wk t a (by omega), w2.en1⟩
    · intro t a b
      have i := h.inc t a (by omega)
      exact ⟨ltj t a (by omega), i.2.1, i.2.2.1, fun z => i.2.2.2 (by omega)⟩
    · intro i hi
      unfold upd
      by_cases e : i = q j
      · rw [if_pos e]
        refine ⟨fun z => absurd rfl z, ?_⟩
        rintro ⟨t, a, b, c⟩
        have := ltj t a (by omega)
        omega
      · rw [if_neg e, h.on i hi]
        constructor
        · rintro ⟨t, a, b, c⟩
          refine ⟨t, a, ?_, c⟩
          by_cases z : t = j
          · rw [z] at c; exact absurd c.symm e
          · omega
        · rintro ⟨t, a, b, c⟩
          exact ⟨t, a, by omega, c⟩
