def xdf : Nat → List Value
  | 0 => [.null, .null, .null, .null]
  | 1 => [.int 0, .int 0, .int 0, .int 0, .int 0]
  | 2 => [.int 0, .int 0, .int 0, .long 0, .long 0, .long 0, .long 0, .int 0]
  | 3 => [.null, .null, .null, .null, .int 0]
  | 4 => [.null, .int 0]
  | 5 => [.null, .int 0]
  | 6 => [.null, .null]
  | 7 => [.null, .null, .null, .null, .null, .null, .null, .null, .int 0, .int 0]
  | 8 => [.int 0, .int 0, .null, .null, .null, .null, .null, .int 0, .null, .null, .null, .null, .null, .null, .null, .null, .null, .int 0, .int 0, .int 0, .int 0, .null, .int 0, .null, .null]
  | _ => []
def xbud (bc bs c s : Nat) : Option (Nat × Nat) := if c ≤ bc ∧ s ≤ bs then some (bc - c, bs - s) else none
def xn (w : xw) (sz bc bs ci : Nat) : Option (xw × Nat × Nat × Nat) := if 1 ≤ bc ∧ (xdf ci).length ≤ bs then some (va_up w sz (some (.inr (ci, xdf ci))), sz + 1, bc - 1, bs - (xdf ci).length) else none
def xnaI (w : xw) (sz bc bs : Nat) (k : Int32) : Option (xw × Nat × Nat × Nat) := if (1 ≤ bc ∧ k.toNatClampNeg ≤ bs) ∧ ¬ k < 0 ∧ k.toNatClampNeg ≤ 1000 then some (va_up w sz (some (.inl (0, k.toNatClampNeg, .inl (fun _ => 0)))), sz + 1, bc - 1, bs - k.toNatClampNeg) else none
def xnaZ (w : xw) (sz bc bs : Nat) (k : Int32) : Option (xw × Nat × Nat × Nat) := if (1 ≤ bc ∧ k.toNatClampNeg ≤ bs) ∧ ¬ k < 0 ∧ k.toNatClampNeg ≤ 1000 then some (va_up w sz (some (.inl (2, k.toNatClampNeg, .inl (fun _ => 0)))), sz + 1, bc - 1, bs - k.toNatClampNeg) else none
def xnaL (w : xw) (sz bc bs : Nat) (k : Int32) : Option (xw × Nat × Nat × Nat) := if (1 ≤ bc ∧ k.toNatClampNeg ≤ bs) ∧ ¬ k < 0 ∧ k.toNatClampNeg ≤ 1000 then some (va_up w sz (some (.inl (1, k.toNatClampNeg, .inr (.inl (fun _ => 0))))), sz + 1, bc - 1, bs - k.toNatClampNeg) else none
def xnaR (w : xw) (sz bc bs t : Nat) (k : Int32) : Option (xw × Nat × Nat × Nat) := if (1 ≤ bc ∧ k.toNatClampNeg ≤ bs) ∧ ¬ k < 0 ∧ k.toNatClampNeg ≤ 1000 then some (va_up w sz (some (.inl (t, k.toNatClampNeg, .inr (.inr (.inr (.inr (fun _ => none))))))), sz + 1, bc - 1, bs - k.toNatClampNeg) else none
/-- which class an array's tag asks for -/
def xtc : Nat → Option Nat
  | 3 => some 2
  | 4 => some 6
  | 5 => some 1
  | _ => none
def xsR (w : xw) (a : Nat) (i : Int32) (v : Nat) : Option xw := match w a with
  | some (.inl (t, n, .inr (.inr (.inr (.inr f))))) => (match w v with
    | some (.inr o) => if xtc t = some o.1 ∧ ¬ (i < 0 ∨ n ≤ i.toNatClampNeg) then some (va_up w a (some (.inl (t, n, .inr (.inr (.inr (.inr (va_up f i.toNatClampNeg (some v))))))))) else none
    | _ => none)
  | _ => none
theorem xsR_inv {w w1 : xw} {a v : Nat} {i : Int32} (h : xsR w a i v = some w1) : ∃ t n f ci fs, w a = some (.inl (t, n, .inr (.inr (.inr (.inr f))))) ∧ w v = some (.inr (ci, fs)) ∧ xtc t = some ci ∧ vp_in i n ∧ w1 = va_up w a (some (.inl (t, n, .inr (.inr (.inr (.inr (va_up f i.toNatClampNeg (some v)))))))) := by
  unfold xsR at h
  split at h
  · rename_i t n f ho
    split at h
    · rename_i o hv
      obtain ⟨ci, fs⟩ := o
      split at h
      · rename_i hc
        exact ⟨t, n, f, ci, fs, ho, hv, hc.1, hc.2, (Option.some.inj h).symm⟩
      · cases h
    · cases h
  · cases h
theorem xJ.new {D : va_G} {cT : Nat → ClassId} {A : Nat → Prop} {H0 H H1 : Heap} {w : xw} {sz : Nat} {x : xe} {locs : List Loc} (J : xJ D cT A H0 w sz H locs) (hat : va_at D xcl (sz, xtr cT x) H1) (z : H1.size = sz + 1) (oq : ∀ q : Nat, q < sz → H1[q]? = H[q]?) : xJ D cT A H0 (va_up w sz (some x)) (sz + 1) H1 locs := by
  obtain ⟨hH, hS, hA, hsz, hA2⟩ := J
  have hle : H0.size ≤ sz := by rw [← hsz]; exact hS.1
  refine ⟨fun b y hb => ?_, ⟨by omega, fun q h1 h2 => (oq q (by omega)).trans (hS.2.1 q h1 h2), hS.2.2⟩, fun b hb => ?_, z, hA2⟩
  · by_cases h : b = sz
    · subst h
      rw [va_up_self] at hb
      cases hb
      exact hat
    · rw [va_up_ne w (some x) h] at hb
      have hlt : b < H.size := (hH b y hb).lt
      exact (hH b y hb).kept (oq b (by omega))
  · by_cases h : b = sz
    · rw [h]; exact hA2 sz hle
    · rw [va_up_ne w (some x) h] at hb; exact hA b hb
theorem xfit_mk {R' R : Room} {maxL cl sl : Nat} (h : (Nat.ble (R'.frames + 1) R.frames && Nat.ble (8 + (maxL + 11) + R'.locals) R.locals) = true) (h1 : cl + R'.cells ≤ R.cells) (h2 : sl + R'.slots ≤ R.slots) : xfit R' maxL R cl sl = true := by
  unfold xfit
  rw [h, Nat.ble_eq_true_of_le h1, Nat.ble_eq_true_of_le h2]
  rfl
section XO
variable {cc : ByteArray} {nL : Nat} {own nm : String} {ret : Option FieldType} {R : Room} {X : xX} {lv lv' : List (Nat × Value)} {st : List Value} {w : xw} {sz cl sl pc pc' tgt bc bs : Nat} {off : Int} {r : xR} {ρ : Type} {ro : ρ}
theorem xo_new {ci index N : Nat} {C : String} {T : u_T} {ty : Nat → FieldType} {g : xw × Nat × Nat × Nat → Option ρ} (hd : xD cc pc (.new index) 3 pc') (K : xC ci C T N ty) (hcl : Cond.classLink own index C ∈ xT) (hin : Cond.instantiable C N ∈ xT) (hini : Cond.initialized C ∈ xT) (hdf : (xdf ci).length = N ∧ ∀ j, j < N → defaultValue (ty j) = vp_V (xdf ci) j) (hb : bc ≤ R.cells ∧ bs ≤ R.slots) (h : (xn w sz bc bs ci).bind g = some ro) (k : ∀ z, g z = some ro → z.2.2.1 ≤ R.cells ∧ z.2.2.2 ≤ R.slots → xK cc nL own nm ret R X lv (.ref sz :: st) z.1 z.2.1 (R.cells - z.2.2.1) (R.slots - z.2.2.2) pc' r) : xK cc nL own nm ret R X lv (st) w sz (R.cells - bc) (R.slots - bs) pc r := by
  obtain ⟨hd, rfl⟩ := hd
  obtain ⟨z, hz, hq⟩ := xb h
  obtain ⟨hN, hfs⟩ := hdf
  unfold xn at hz
  split at hz
  · rename_i hc
    rw [hN] at hc hz
    cases hz
    have kk := k _ hq ⟨Nat.le_trans (Nat.sub_le _ _) hb.1, Nat.le_trans (Nat.sub_le _ _) hb.2⟩
    intro p e s m below meth c H locs ls Z hm hn hr hk J hl
    have hKn := Z.2.2.2.2.1.1 ci _ K.1
    refine W.newcK Z.1 Z.2.1 Z.2.2.1 (Z.2.2.2.1 _ hcl) (Z.2.2.2.1 _ hin) (Z.2.2.2.1 _ hini) rfl hd (by omega) (by omega) hKn.2.1 J.2.2.2.1 fun H1 kC hkC e1 z1 o1 => ?_
    have e2 : R.cells - bc + 1 = R.cells - (bc - 1) := by omega
    have e3 : R.slots - bs + N = R.slots - (bs - N) := by omega
    rw [e2, e3]
    exact kk p e s m below meth c H1 locs ls Z hm hn hr hk (J.new ⟨_, K.1, (u_born ty Z.2.2.2.1 K.2.1 hKn hkC e1 K.2.2.1).to hfs⟩ z1 (fun q hq => o1 q hq)) hl
  · cases hz
theorem xo_newaI {k : Int32} {g : xw × Nat × Nat × Nat → Option ρ} (hd : xD cc pc (.newarray .int) 2 pc') (hw : Cond.arrayClass .int ∈ xT) (hb : bc ≤ R.cells ∧ bs ≤ R.slots) (h : (xnaI w sz bc bs k).bind g = some ro) (kk : ∀ z, g z = some ro → z.2.2.1 ≤ R.cells ∧ z.2.2.2 ≤ R.slots → xK cc nL own nm ret R X lv (.ref sz :: st) z.1 z.2.1 (R.cells - z.2.2.1) (R.slots - z.2.2.2) pc' r) : xK cc nL own nm ret R X lv (.int k :: st) w sz (R.cells - bc) (R.slots - bs) pc r := by
  obtain ⟨hd, rfl⟩ := hd
  obtain ⟨z, hz, hq⟩ := xb h
  unfold xnaI at hz
  split at hz
  · rename_i hc
    cases hz
    have kk := kk _ hq ⟨Nat.le_trans (Nat.sub_le _ _) hb.1, Nat.le_trans (Nat.sub_le _ _) hb.2⟩
    intro p e s m below meth c H locs ls Z hm hn hr hk J hl
    refine va_newaK (atype := .int) Z.1 Z.2.1 (Z.2.2.2.1 _ hw) rfl hd rfl hc.2.1 rfl (by
      have h8 : componentBytes (newarray.typeOf .int) ≤ 8 := by decide
      have := Nat.mul_le_mul hc.2.2 h8
      omega) (by omega) (by omega) J.2.2.2.1 fun H1 cA e1 z1 o1 hAr hNm => ?_
    have hcA : cA = X.2.2.1 0 := Option.some.inj (hNm.symm.trans ((Z.2.2.2.2.1.2 0 _ rfl).2))
    subst hcA
    have e2 : R.cells - bc + 1 = R.cells - (bc - 1) := by omega
    have e3 : R.slots - bs + k.toNatClampNeg = R.slots - (bs - k.toNatClampNeg) := by omega
    rw [e2, e3]
    exact kk p e s m below meth c H1 locs ls Z hm hn hr hk (J.new (x := .inl (0, k.toNatClampNeg, .inl (fun _ => 0))) e1 z1 (fun q hq => o1 q hq)) hl
  · cases hz
theorem xo_newaZ {k : Int32} {g : xw × Nat × Nat × Nat → Option ρ} (hd : xD cc pc (.newarray .boolean) 2 pc') (hw : Cond.arrayClass .boolean ∈ xT) (hb : bc ≤ R.cells ∧ bs ≤ R.slots) (h : (xnaZ w sz bc bs k).bind g = some ro) (kk : ∀ z, g z = some ro → z.2.2.1 ≤ R.cells ∧ z.2.2.2 ≤ R.slots → xK cc nL own nm ret R X lv (.ref sz :: st) z.1 z.2.1 (R.cells - z.2.2.1) (R.slots - z.2.2.2) pc' r) : xK cc nL own nm ret R X lv (.int k :: st) w sz (R.cells - bc) (R.slots - bs) pc r := by
  obtain ⟨hd, rfl⟩ := hd
  obtain ⟨z, hz, hq⟩ := xb h
  unfold xnaZ at hz
  split at hz
  · rename_i hc
    cases hz
    have kk := kk _ hq ⟨Nat.le_trans (Nat.sub_le _ _) hb.1, Nat.le_trans (Nat.sub_le _ _) hb.2⟩
    intro p e s m below meth c H locs ls Z hm hn hr hk J hl
    refine va_newaK (atype := .boolean) Z.1 Z.2.1 (Z.2.2.2.1 _ hw) rfl hd rfl hc.2.1 rfl (by
      have h8 : componentBytes (newarray.typeOf .boolean) ≤ 8 := by decide
      have := Nat.mul_le_mul hc.2.2 h8
      omega) (by omega) (by omega) J.2.2.2.1 fun H1 cA e1 z1 o1 hAr hNm => ?_
    have hcA : cA = X.2.2.1 2 := Option.some.inj (hNm.symm.trans ((Z.2.2.2.2.1.2 2 _ rfl).2))
    subst hcA
    have e2 : R.cells - bc + 1 = R.cells - (bc - 1) := by omega
    have e3 : R.slots - bs + k.toNatClampNeg = R.slots - (bs - k.toNatClampNeg) := by omega
    rw [e2, e3]
    exact kk p e s m below meth c H1 locs ls Z hm hn hr hk (J.new (x := .inl (2, k.toNatClampNeg, .inl (fun _ => 0))) e1 z1 (fun q hq => o1 q hq)) hl
  · cases hz
theorem xo_newaL {k : Int32} {g : xw × Nat × Nat × Nat → Option ρ} (hd : xD cc pc (.newarray .long) 2 pc') (hw : Cond.arrayClass .long ∈ xT) (hb : bc ≤ R.cells ∧ bs ≤ R.slots) (h : (xnaL w sz bc bs k).bind g = some ro) (kk : ∀ z, g z = some ro → z.2.2.1 ≤ R.cells ∧ z.2.2.2 ≤ R.slots → xK cc nL own nm ret R X lv (.ref sz :: st) z.1 z.2.1 (R.cells - z.2.2.1) (R.slots - z.2.2.2) pc' r) : xK cc nL own nm ret R X lv (.int k :: st) w sz (R.cells - bc) (R.slots - bs) pc r := by
  obtain ⟨hd, rfl⟩ := hd
  obtain ⟨z, hz, hq⟩ := xb h
  unfold xnaL at hz
  split at hz
  · rename_i hc
    cases hz
    have kk := kk _ hq ⟨Nat.le_trans (Nat.sub_le _ _) hb.1, Nat.le_trans (Nat.sub_le _ _) hb.2⟩
    intro p e s m below meth c H locs ls Z hm hn hr hk J hl
    refine va_newaK (atype := .long) Z.1 Z.2.1 (Z.2.2.2.1 _ hw) rfl hd rfl hc.2.1 rfl (by
      have h8 : componentBytes (newarray.typeOf .long) ≤ 8 := by decide
      have := Nat.mul_le_mul hc.2.2 h8
      omega) (by omega) (by omega) J.2.2.2.1 fun H1 cA e1 z1 o1 hAr hNm => ?_
    have hcA : cA = X.2.2.1 1 := Option.some.inj (hNm.symm.trans ((Z.2.2.2.2.1.2 1 _ rfl).2))
    subst hcA
    have e2 : R.cells - bc + 1 = R.cells - (bc - 1) := by omega
    have e3 : R.slots - bs + k.toNatClampNeg = R.slots - (bs - k.toNatClampNeg) := by omega
    rw [e2, e3]
    exact kk p e s m below meth c H1 locs ls Z hm hn hr hk (J.new (x := .inl (1, k.toNatClampNeg, .inr (.inl (fun _ => 0)))) e1 z1 (fun q hq => o1 q hq)) hl
  · cases hz
theorem xo_newaR {t : Nat} {k : Int32} {index : Nat} {C : String} {g : xw × Nat × Nat × Nat → Option ρ} (hd : xD cc pc (.anewarray index) 3 pc') (hw : Cond.classLink own index C ∈ xT) (hao : C ∈ xAO) (hty : ∀ cT : Nat → ClassId, (xtys cT)[t]? = some (cT t, .object C)) (hb : bc ≤ R.cells ∧ bs ≤ R.slots) (h : (xnaR w sz bc bs t k).bind g = some ro) (kk : ∀ z, g z = some ro → z.2.2.1 ≤ R.cells ∧ z.2.2.2 ≤ R.slots → xK cc nL own nm ret R X lv (.ref sz :: st) z.1 z.2.1 (R.cells - z.2.2.1) (R.slots - z.2.2.2) pc' r) : xK cc nL own nm ret R X lv (.int k :: st) w sz (R.cells - bc) (R.slots - bs) pc r := by
  obtain ⟨hd, rfl⟩ := hd
  obtain ⟨z, hz, hq⟩ := xb h
  unfold xnaR at hz
  split at hz
  · rename_i hc
    cases hz
    have kk := kk _ hq ⟨Nat.le_trans (Nat.sub_le _ _) hb.1, Nat.le_trans (Nat.sub_le _ _) hb.2⟩
    intro p e s m below meth c H locs ls Z hm hn hr hk J hl
    have hover : va_AO C s := Z.2.2.2.2.2.2 C hao
    have hsz := J.2.2.2.1
    refine W.anew Z.1 Z.2.1 Z.2.2.1 (Z.2.2.2.1 _ hw) (va_AO.use hover) rfl hd rfl hc.2.1 (by omega) (by omega) (by omega) fun cA kA comp f1 f2 f3 f4 => ?_
    obtain ⟨_, _, _, _, _, g4⟩ := (Z.2.2.2.2.1.2 t _ (hty _)).2
    have hcA : cA = X.2.2.1 t := Option.some.inj (f1.symm.trans g4)
    subst hcA
    generalize hH1 : H.push ({ cls := X.2.2.1 t, slots := Array.replicate k.toNatClampNeg .null, vm := .none } : Cell) = H1
    have z1 : H1.size = sz + 1 := by rw [← hH1, Array.size_push, hsz]
    have e1 : H1[sz]? = some (arrV (X.2.2.1 t) k.toNatClampNeg (fun _ => .null)) := by rw [← hH1, ← hsz, Array.getElem?_push_size, ← arrV_new]
    have o1 : ∀ q : Nat, q < sz → H1[q]? = H[q]? := fun q hq => by rw [← hH1, Array.getElem?_push, if_neg (by omega)]
    have e2 : R.cells - bc + 1 = R.cells - (bc - 1) := by omega
    have e3 : R.slots - bs + k.toNatClampNeg = R.slots - (bs - k.toNatClampNeg) := by omega
    rw [e2, e3]
    have kz := kk p e s m below meth c H1 locs ls Z hm hn hr hk (J.new (x := .inl (t, k.toNatClampNeg, .inr (.inr (.inr (.inr (fun _ => none)))))) e1 z1 o1) hl
    rw [← hsz] at kz
    exact kz
  · cases hz
theorem xo_astR {a v : Nat} {i : Int32} {g : xw → Option ρ} (hd : xD cc pc .aastore 1 pc') (h : (xsR w a i v).bind g = some ro) (kk : ∀ w1, g w1 = some ro → xK cc nL own nm ret R X lv (st) w1 sz cl sl pc' r) : xK cc nL own nm ret R X lv (.ref v :: .int i :: .ref a :: st) w sz cl sl pc r := by
  obtain ⟨hd, rfl⟩ := hd
  obtain ⟨w1, hx, hq⟩ := xb h
  obtain ⟨t, n, f, ci, vs, he, hv, htc, hi, rfl⟩ := xsR_inv hx
  have key : ∀ (rr : vw_C), xcl[ci]? = some rr → (∀ cT : Nat → ClassId, (xtys cT)[t]? = some (cT t, .object rr.1)) → xK cc nL own nm ret R X lv (.ref v :: .int i :: .ref a :: st) w sz cl sl pc r := fun rr hrr hty p e s m below meth c H locs ls Z hm hn hr hk J hl => by
    have hlt : i.toNatClampNeg < n := Nat.not_le.mp fun q => hi (Or.inr q)
    have h0 : ¬ i < 0 := fun q => hi (Or.inl q)
    obtain ⟨r', hr', cellV, g1, g2, g3, -⟩ := J.1 v _ hv
    have hcls := (Z.2.2.2.2.1.1 ci rr hrr).2
    obtain ⟨kA, comp, k1, k2, k3, -⟩ := (Z.2.2.2.2.1.2 t _ (hty _)).2
    have hcomp : comp = X.2.1.1 ci := Option.some.inj (k3.symm.trans hcls.1)
    subst hcomp
    obtain ⟨kC, hkC, -⟩ := hcls.2
    refine W.aast Z.1 Z.2.1 (J.1 a _ he) (fun q h => by cases h) (fun h => by cases h) k1 k2 rfl hkC ⟨h0, by show _ < (arrV _ _ _).slots.size; rw [arrV_size]; exact hlt⟩ g1 (fun q h => by rw [g3] at h; cases h) (by rw [g2]; exact hkC) (by rw [g2]; exact va_assign hcls) rfl rfl hd fun H1 e1 z oq => ?_
    refine kk _ hq p e s m below meth c H1 _ ls Z hm hn hr hk (J.put he ?_ z oq) hl
    show H1[a]? = some (vp_cell _ _)
    rw [e1]
    show some (Cell.setSlot (vp_cell _ _) _ _) = _
    rw [vp_cell_q, vp_cell_q, arrV_store]
    congr 2
    funext q
    by_cases hq : q = i.toNatClampNeg
    · subst hq
      simp [updV, va_up, va_rf]
    · simp [updV, va_up, hq]
  have h3 : (t = 3 ∧ ci = 2) ∨ (t = 4 ∧ ci = 6) ∨ (t = 5 ∧ ci = 1) := by
    unfold xtc at htc
    split at htc
    · cases htc; exact Or.inl ⟨rfl, rfl⟩
    · cases htc; exact Or.inr (Or.inl ⟨rfl, rfl⟩)
    · cases htc; exact Or.inr (Or.inr ⟨rfl, rfl⟩)
    · cases htc
  rcases h3 with ⟨rfl, rfl⟩ | ⟨rfl, rfl⟩ | ⟨rfl, rfl⟩
  · exact key _ rfl (fun _ => rfl)
  · exact key _ rfl (fun _ => rfl)
  · exact key _ rfl (fun _ => rfl)
theorem xo_IA {rest st0 : List Value} (As : List Value) {y : MethodName} {bytes : ByteArray} {maxL n index b0 c' s' : Nat} {R' : Room} {o : Option (Unit × xw × Nat)} {g : Nat × Nat → Unit × xw × Nat → Option ρ} (hd : xD cc pc (.invokespecial index) 3 pc') (hw : Cond.methodLink own index y ∈ xT) (hy : xYI y bytes maxL n) (hb : bc ≤ R.cells ∧ bs ≤ R.slots) (h : (xbud bc bs c' s').bind (fun b => o.bind (g b)) = some ro) (hM : ∀ z, o = some z → xM X.1 y bytes maxL none R' X.2.1 X.2.2.1 (.ref b0 :: As) w sz (none, z.2.1, z.2.2)) (hc : R'.cells = c' ∧ R'.slots = s') (hf : (Nat.ble (R'.frames + 1) R.frames && Nat.ble (8 + (maxL + 11) + R'.locals) R.locals) = true) (hnA : As.length = n) (hst : st0 = As.reverse ++ .ref b0 :: rest) (hW : Nat.ble (rest.map fun v => v.category).sum 8 = true) (k : ∀ b z, g b z = some ro → b.1 ≤ R.cells ∧ b.2 ≤ R.slots → xK cc nL own nm ret R X lv (rest) z.2.1 z.2.2 (R.cells - b.1) (R.slots - b.2) pc' r) : xK cc nL own nm ret R X lv (st0) w sz (R.cells - bc) (R.slots - bs) pc r := by
  obtain ⟨b, hbb, h⟩ := xb h
  obtain ⟨z, e1, h⟩ := xb h
  unfold xbud at hbb
  split at hbb
  · rename_i hcc
    cases hbb
    obtain ⟨hc1, hc2⟩ := hc
    have kz := k _ z h ⟨Nat.le_trans (Nat.sub_le _ _) hb.1, Nat.le_trans (Nat.sub_le _ _) hb.2⟩
    have e2 : R.cells - bc + R'.cells = R.cells - (bc - c') := by omega
    have e3 : R.slots - bs + R'.slots = R.slots - (bs - s') := by omega
    exact xc_I (As := As) hd hw hy (hM z e1) (xfit_mk hf (by omega) (by omega)) hnA hst hW (by rw [e2, e3]; exact kz)
  · cases hbb
theorem xo_IB {rest st0 : List Value} (As : List Value) {y : MethodName} {bytes : ByteArray} {maxL n index b0 : Nat} {R' : Room} {o : Option Unit} {g : Unit → Option ρ} (hd : xD cc pc (.invokespecial index) 3 pc') (hw : Cond.methodLink own index y ∈ xT) (hy : xYI y bytes maxL n) (h : o.bind g = some ro) (hM : ∀ z, o = some z → xM X.1 y bytes maxL none R' X.2.1 X.2.2.1 (.ref b0 :: As) w sz (none, w, sz)) (hf : (Nat.ble (R'.frames + 1) R.frames && Nat.ble (8 + (maxL + 11) + R'.locals) R.locals) = true) (hz : R'.cells = 0 ∧ R'.slots = 0) (hnA : As.length = n) (hst : st0 = As.reverse ++ .ref b0 :: rest) (hW : Nat.ble (rest.map fun v => v.category).sum 8 = true) (k : ∀ z, g z = some ro → xK cc nL own nm ret R X lv (rest) w sz (R.cells - bc) (R.slots - bs) pc' r) : xK cc nL own nm ret R X lv (st0) w sz (R.cells - bc) (R.slots - bs) pc r := by
  obtain ⟨z, e1, h⟩ := xb h
  have kz := k z h
  exact xc_I (As := As) hd hw hy (hM z e1) (xfit_mk hf (by rw [hz.1]; exact Nat.sub_le _ _) (by rw [hz.2]; exact Nat.sub_le _ _)) hnA hst hW (by rw [hz.1, hz.2]; exact kz)
theorem xo_IAN {host : String} {rest st0 : List Value} (As : List Value) {y : MethodName} {bytes : ByteArray} {maxL n index b0 c' s' : Nat} {R' : Room} {o : Option (Unit × xw × Nat)} {g : Nat × Nat → Unit × xw × Nat → Option ρ} (hd : xD cc pc (.invokespecial index) 3 pc') (hw : (own, index, y, host) ∈ xNw) (hy : xYI y bytes maxL n) (hb : bc ≤ R.cells ∧ bs ≤ R.slots) (h : (xbud bc bs c' s').bind (fun b => o.bind (g b)) = some ro) (hM : ∀ z, o = some z → xM X.1 y bytes maxL none R' X.2.1 X.2.2.1 (.ref b0 :: As) w sz (none, z.2.1, z.2.2)) (hc : R'.cells = c' ∧ R'.slots = s') (hf : (Nat.ble (R'.frames + 1) R.frames && Nat.ble (8 + (maxL + 11) + R'.locals) R.locals) = true) (hnA : As.length = n) (hst : st0 = As.reverse ++ .ref b0 :: rest) (hW : Nat.ble (rest.map fun v => v.category).sum 8 = true) (k : ∀ b z, g b z = some ro → b.1 ≤ R.cells ∧ b.2 ≤ R.slots → xK cc nL own nm ret R X lv (rest) z.2.1 z.2.2 (R.cells - b.1) (R.slots - b.2) pc' r) : xK cc nL own nm ret R X lv (st0) w sz (R.cells - bc) (R.slots - bs) pc r := by
  obtain ⟨b, hbb, h⟩ := xb h
  obtain ⟨z, e1, h⟩ := xb h
  unfold xbud at hbb
  split at hbb
  · rename_i hcc
    cases hbb
    obtain ⟨hc1, hc2⟩ := hc
    have kz := k _ z h ⟨Nat.le_trans (Nat.sub_le _ _) hb.1, Nat.le_trans (Nat.sub_le _ _) hb.2⟩
    have e2 : R.cells - bc + R'.cells = R.cells - (bc - c') := by omega
    have e3 : R.slots - bs + R'.slots = R.slots - (bs - s') := by omega
    exact xc_IN (As := As) hd hw hy (hM z e1) (xfit_mk hf (by omega) (by omega)) hnA hst hW (by rw [e2, e3]; exact kz)
  · cases hbb
theorem xo_IBN {host : String} {rest st0 : List Value} (As : List Value) {y : MethodName} {bytes : ByteArray} {maxL n index b0 : Nat} {R' : Room} {o : Option Unit} {g : Unit → Option ρ} (hd : xD cc pc (.invokespecial index) 3 pc') (hw : (own, index, y, host) ∈ xNw) (hy : xYI y bytes maxL n) (h : o.bind g = some ro) (hM : ∀ z, o = some z → xM X.1 y bytes maxL none R' X.2.1 X.2.2.1 (.ref b0 :: As) w sz (none, w, sz)) (hf : (Nat.ble (R'.frames + 1) R.frames && Nat.ble (8 + (maxL + 11) + R'.locals) R.locals) = true) (hz : R'.cells = 0 ∧ R'.slots = 0) (hnA : As.length = n) (hst : st0 = As.reverse ++ .ref b0 :: rest) (hW : Nat.ble (rest.map fun v => v.category).sum 8 = true) (k : ∀ z, g z = some ro → xK cc nL own nm ret R X lv (rest) w sz (R.cells - bc) (R.slots - bs) pc' r) : xK cc nL own nm ret R X lv (st0) w sz (R.cells - bc) (R.slots - bs) pc r := by
  obtain ⟨z, e1, h⟩ := xb h
  have kz := k z h
  exact xc_IN (As := As) hd hw hy (hM z e1) (xfit_mk hf (by rw [hz.1]; exact Nat.sub_le _ _) (by rw [hz.2]; exact Nat.sub_le _ _)) hnA hst hW (by rw [hz.1, hz.2]; exact kz)
theorem xo_retVB {ro : Unit × xw × Nat} (hd : xD cc pc .return_ 1 pc') (hret : ret = none) (hb : bc ≤ R.cells ∧ bs ≤ R.slots) (h : some ((), (w, sz)) = some ro) : xK cc nL own nm ret R X lv ([]) w sz (R.cells - bc) (R.slots - bs) pc (none, ro.2.1, ro.2.2) := by
  cases h
  exact fun p e s m below meth c H locs ls Z hm hn hr hk J hl => W.widen (Nat.sub_le _ _) (Nat.sub_le _ _) (W.vret Z.1 Z.2.1 (hr.trans hret) (fun t ht hW => ⟨rfl, by rw [ht]; exact J.1, by rw [ht]; exact J.2.2.2.1, J.2.2.1, J.2.1.F ht⟩) J.2.1.2.2 hd.1 hk)
end XO
theorem xdf_0 : (xdf 0).length = 4 ∧ ∀ j, j < 4 → defaultValue (ty_0 j) = vp_V (xdf 0) j := ⟨rfl, by decide +kernel⟩
theorem xdf_1 : (xdf 1).length = 5 ∧ ∀ j, j < 5 → defaultValue (ty_1 j) = vp_V (xdf 1) j := ⟨rfl, by decide +kernel⟩
theorem xdf_2 : (xdf 2).length = 8 ∧ ∀ j, j < 8 → defaultValue (ty_2 j) = vp_V (xdf 2) j := ⟨rfl, by decide +kernel⟩
theorem xdf_3 : (xdf 3).length = 5 ∧ ∀ j, j < 5 → defaultValue (ty_3 j) = vp_V (xdf 3) j := ⟨rfl, by decide +kernel⟩
theorem xdf_4 : (xdf 4).length = 2 ∧ ∀ j, j < 2 → defaultValue (ty_4 j) = vp_V (xdf 4) j := ⟨rfl, by decide +kernel⟩
theorem xdf_5 : (xdf 5).length = 2 ∧ ∀ j, j < 2 → defaultValue (ty_5 j) = vp_V (xdf 5) j := ⟨rfl, by decide +kernel⟩
theorem xdf_6 : (xdf 6).length = 2 ∧ ∀ j, j < 2 → defaultValue (ty_6 j) = vp_V (xdf 6) j := ⟨rfl, by decide +kernel⟩
theorem xdf_7 : (xdf 7).length = 10 ∧ ∀ j, j < 10 → defaultValue (ty_7 j) = vp_V (xdf 7) j := ⟨rfl, by decide +kernel⟩
theorem xdf_8 : (xdf 8).length = 25 ∧ ∀ j, j < 25 → defaultValue (ty_8 j) = vp_V (xdf 8) j := ⟨rfl, by decide +kernel⟩
