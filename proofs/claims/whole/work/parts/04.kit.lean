def xfix {α : Type} (b : α) (s : α → α) : Nat → α
  | 0 => b
  | n + 1 => s (xfix b s n)
theorem xfix_ind {α : Type} {b : α} {s : α → α} {P : α → Prop} (h0 : P b) (h1 : ∀ r, P r → P (s r)) : ∀ n, P (xfix b s n)
  | 0 => h0
  | n + 1 => h1 _ (xfix_ind h0 h1 n)
/-! Worlds as functions, and the judgement xK: a method's frame, with everything that stays the same hidden. -/
abbrev xe : Type := (Nat × vp_A) ⊕ (Nat × List Value)
abbrev xw : Type := Nat → Option xe
def xtr (cT : Nat → ClassId) (x : xe) : va_E := match x with
  | .inl q => .inl (cT q.1, q.2)
  | .inr o => .inr o
/-- every entry of the world lies in the heap -/
def xH (D : va_G) (cT : Nat → ClassId) (w : xw) (H : Heap) : Prop := ∀ (a : Nat) (x : xe), w a = some x → va_at D xcl (a, xtr cT x) H
def xA (w : xw) (sz : Nat) : Nat → Prop := fun q => (w q).isSome = true ∨ sz ≤ q
def xJ (D : va_G) (cT : Nat → ClassId) (A : Nat → Prop) (H0 : Heap) (w : xw) (sz : Nat) (H : Heap) (locs : List Loc) : Prop := xH D cT w H ∧ va_S A H0 H locs ∧ (∀ a, (w a).isSome = true → A a) ∧ H.size = sz ∧ ∀ q, H0.size ≤ q → A q
def xE (U : State) : Prop := (∀ x ∈ xNw, va_Nw (.methodLinkNest x.1 x.2.1 x.2.2.1 x.2.2.2) U) ∧ ∀ C ∈ xAO, va_AO C U
theorem xE.warm {s U : State} (hW : s.WarmedH U.vm) (h : xE s) : xE U := ⟨fun x hx => va_Nw.warmM hW (h.1 x hx), fun C hC => va_AO.moved hW.alike (h.2 C hC)⟩
theorem xE.same {s U : State} (hv : s.vm = U.vm) (h : xE s) : xE U := ⟨fun x hx => va_Nw.same rfl hv (h.1 x hx), fun C hC => va_AO.moved (by rw [hv]; exact Vm.Alike.refl _) (h.2 C hC)⟩
def xZ (p : Program) (s : State) (m : MethodId) (c : Code) (cc : ByteArray) (args : Array Value) (own : String) (D : va_G) (cT : Nat → ClassId) : Prop := p.tables.exec = Jvm.exec ∧ c.code = cc ∧ s.vm.findClass own = some m.cls ∧ (∀ x ∈ xT, x.before args s = true) ∧ va_K D xcl (xtys cT) s ∧ xE s
def xC (ci : Nat) (C : String) (T : u_T) (N : Nat) (ty : Nat → FieldType) : Prop := xcl[ci]? = some (C, T, N) ∧ (∀ x ∈ u_ws C T N, x ∈ xT) ∧ (∀ k, k < N → parseFieldDescriptor (T k).2.2.1 = some (ty k)) ∧ ∀ a, a < N → ∀ b, b < N → a ≠ b → (T a).2.1 ≠ (T b).2.1
def xB (D : va_G) (cT : Nat → ClassId) (w : xw) (sz : Nat) (U : State) : Prop := xH D cT w U.heap ∧ U.heap.size = sz ∧ va_K D xcl (xtys cT) U ∧ xE U
abbrev xR : Type := Option Value × xw × Nat
def xQ (D : va_G) (cT : Nat → ClassId) (w : xw) (sz : Nat) (r : xR) : Array Value → State → Outcome → State → Prop := fun _ st oc t => oc = .returned r.1 ∧ xH D cT r.2.1 t.heap ∧ t.heap.size = r.2.2 ∧ (∀ a, (r.2.1 a).isSome = true → xA w sz a) ∧ va_F (xA w sz) st t
def xM (l : Launch) (y : MethodName) (bytes : ByteArray) (maxL : Nat) (ret : Option FieldType) (R : Room) (D : va_G) (cT : Nat → ClassId) (as : List Value) (w : xw) (sz : Nat) (r : xR) : Prop :=
  Met l y (.code y bytes maxL ret :: xT) R (va_Pc as (xB D cT w sz)) (xQ D cT w sz r) R.cells R.slots (xA w sz)
/-- launch, class numbers, array classes, arguments, world and size at the start -/
abbrev xX : Type := Launch × va_G × (Nat → ClassId) × List Value × xw × Nat
def xK (cc : ByteArray) (nL : Nat) (own nm : String) (ret : Option FieldType) (R : Room) (X : xX) (lv : List (Nat × Value)) (st : List Value) (w : xw) (sz cl sl pc : Nat) (r : xR) : Prop :=
  ∀ (p : Program) (e : Env) (s : State) (m : MethodId) (below : List Frame) (meth : Method) (c : Code) (H : Heap) (locs : List Loc) (ls : Array Slot),
    xZ p s m c cc X.2.2.2.1.toArray own X.2.1 X.2.2.1 → c.maxLocals = nL → meth.name = nm → meth.sig.returnType = ret → meth.locks = false → xJ X.2.1 X.2.2.1 (xA X.2.2.2.2.1 X.2.2.2.2.2) s.heap w sz H locs → lv_has ls nL lv →
    W p X.1 e R s m X.2.2.2.1.toArray below meth c H locs cl sl (MQ below (xQ X.2.1 X.2.2.1 X.2.2.2.2.1 X.2.2.2.2.2 r) X.2.2.2.1.toArray s R.cells R.slots (xA X.2.2.2.2.1 X.2.2.2.2.2)) (F0 m pc ls st)
def xD (cc : ByteArray) (pc : Nat) (i : Instr) (n pc' : Nat) : Prop := decode cc pc = .ok (i, n) ∧ pc' = pc + n
theorem xd_of {cc : ByteArray} {pc : Nat} {i : Instr} {n pc' : Nat} (h : (decide (decode cc pc = .ok (i, n)) && Nat.beq pc' (pc + n)) = true) : xD cc pc i n pc' := by
  rw [Bool.and_eq_true, decide_eq_true_eq] at h
  exact ⟨h.1, Nat.eq_of_beq_eq_true h.2⟩
theorem xb {α β : Type} {o : Option α} {k : α → Option β} {r : β} (h : o.bind k = some r) : ∃ x, o = some x ∧ k x = some r := by
  cases o with
  | none => cases h
  | some x => exact ⟨x, rfl, h⟩
theorem xif {ρ : Type} {c : Prop} {dc : Decidable c} {a b : Option ρ} {r : ρ} (h : (@ite _ c dc a b) = some r) : (c ∧ a = some r) ∨ (¬ c ∧ b = some r) := by
  by_cases hc : c
  · rw [if_pos hc] at h; exact Or.inl ⟨hc, h⟩
  · rw [if_neg hc] at h; exact Or.inr ⟨hc, h⟩
theorem xif0 {ρ : Type} {c : Prop} {dc : Decidable c} {b : Option ρ} {r : ρ} (h : (@ite _ c dc none b) = some r) : ¬ c ∧ b = some r := by
  by_cases hc : c
  · rw [if_pos hc] at h; cases h
  · rw [if_neg hc] at h; exact ⟨hc, h⟩
def xfI (w : xw) (a ci k : Nat) : Option Int32 := match w a with
  | some (.inr o) => if o.1 = ci then (match o.2[k]? with | some (.int x) => some x | _ => none) else none
  | _ => none
theorem xfI_inv {w : xw} {a ci k : Nat} {x : Int32} (h : xfI w a ci k = some x) : ∃ fs, w a = some (.inr (ci, fs)) ∧ fs[k]? = some (.int x) := by
  unfold xfI at h
  split at h
  · rename_i o ho
    obtain ⟨c, fs⟩ := o
    split at h
    · rename_i hc
      split at h
      · rename_i y hy
        cases h
        have hc : c = ci := hc
        subst hc
        exact ⟨fs, ho, hy⟩
      · cases h
    · cases h
  · cases h
def xfL (w : xw) (a ci k : Nat) : Option Int64 := match w a with
  | some (.inr o) => if o.1 = ci then (match o.2[k]? with | some (.long x) => some x | _ => none) else none
  | _ => none
theorem xfL_inv {w : xw} {a ci k : Nat} {x : Int64} (h : xfL w a ci k = some x) : ∃ fs, w a = some (.inr (ci, fs)) ∧ fs[k]? = some (.long x) := by
  unfold xfL at h
  split at h
  · rename_i o ho
    obtain ⟨c, fs⟩ := o
    split at h
    · rename_i hc
      split at h
      · rename_i y hy
        cases h
        have hc : c = ci := hc
        subst hc
        exact ⟨fs, ho, hy⟩
      · cases h
    · cases h
  · cases h
def xfR (w : xw) (a ci k : Nat) : Option Nat := match w a with
  | some (.inr o) => if o.1 = ci then (match o.2[k]? with | some (.ref x) => some x | _ => none) else none
  | _ => none
theorem xfR_inv {w : xw} {a ci k : Nat} {x : Nat} (h : xfR w a ci k = some x) : ∃ fs, w a = some (.inr (ci, fs)) ∧ fs[k]? = some (.ref x) := by
  unfold xfR at h
  split at h
  · rename_i o ho
    obtain ⟨c, fs⟩ := o
    split at h
    · rename_i hc
      split at h
      · rename_i y hy
        cases h
        have hc : c = ci := hc
        subst hc
        exact ⟨fs, ho, hy⟩
      · cases h
    · cases h
  · cases h
def xck (w : xw) (a ci : Nat) : Option Unit := match w a with
  | some (.inr o) => if o.1 = ci then some () else none
  | _ => none
theorem xck_inv {w : xw} {a ci : Nat} {u : Unit} (h : xck w a ci = some u) : ∃ fs, w a = some (.inr (ci, fs)) := by
  unfold xck at h
  split at h
  · rename_i o ho
    obtain ⟨c, fs⟩ := o
    split at h
    · rename_i hc
      have hc : c = ci := hc
      subst hc
      exact ⟨fs, ho⟩
    · cases h
  · cases h
def xpV (w : xw) (a ci k : Nat) (v : Value) : Option xw := match w a with
  | some (.inr o) => if o.1 = ci ∧ k < o.2.length then some (va_up w a (some (.inr (ci, o.2.set k v)))) else none
  | _ => none
def xpI (w : xw) (a ci k : Nat) (x : Int32) : Option xw := xpV w a ci k (.int x)
def xpL (w : xw) (a ci k : Nat) (x : Int64) : Option xw := xpV w a ci k (.long x)
def xpR (w : xw) (a ci k : Nat) (x : Nat) : Option xw := xpV w a ci k (.ref x)
def xpZ (w : xw) (a ci k : Nat) (x : Int32) : Option xw := if x = 0 ∨ x = 1 then xpV w a ci k (.int x) else none
theorem xpV_inv {w w1 : xw} {a ci k : Nat} {v : Value} (h : xpV w a ci k v = some w1) : ∃ fs, w a = some (.inr (ci, fs)) ∧ k < fs.length ∧ w1 = va_up w a (some (.inr (ci, fs.set k v))) := by
  unfold xpV at h
  split at h
  · rename_i o ho
    obtain ⟨c, fs⟩ := o
    split at h
    · rename_i hc
      cases h
      obtain ⟨hc1, hc2⟩ := hc
      have hc1 : c = ci := hc1
      subst hc1
      exact ⟨fs, ho, hc2, rfl⟩
    · cases h
  · cases h
-- arrays: tags 0 int, 1 long, 2 boolean, 3 .. 5 references
def xaI (w : xw) (a : Nat) (i : Int32) : Option Int32 := match w a with
  | some (.inl (t, n, .inl f)) => if t = 0 ∧ ¬ (i < 0 ∨ n ≤ i.toNatClampNeg) then some (f i.toNatClampNeg) else none
  | _ => none
def xaZ (w : xw) (a : Nat) (i : Int32) : Option Int32 := match w a with
  | some (.inl (t, n, .inl f)) => if t = 2 ∧ ¬ (i < 0 ∨ n ≤ i.toNatClampNeg) then some (f i.toNatClampNeg) else none
  | _ => none
def xaL (w : xw) (a : Nat) (i : Int32) : Option Int64 := match w a with
  | some (.inl (t, n, .inr (.inl f))) => if t = 1 ∧ ¬ (i < 0 ∨ n ≤ i.toNatClampNeg) then some (f i.toNatClampNeg) else none
  | _ => none
def xaR (w : xw) (a : Nat) (i : Int32) : Option Nat := match w a with
  | some (.inl (t, n, .inr (.inr (.inr (.inr f))))) => if (3 ≤ t ∧ t < 6) ∧ ¬ (i < 0 ∨ n ≤ i.toNatClampNeg) then f i.toNatClampNeg else none
  | _ => none
def xsI (w : xw) (a : Nat) (i x : Int32) : Option xw := match w a with
  | some (.inl (t, n, .inl f)) => if t = 0 ∧ ¬ (i < 0 ∨ n ≤ i.toNatClampNeg) then some (va_up w a (some (.inl (0, n, .inl (upd f i.toNatClampNeg x))))) else none
  | _ => none
def xsZ (w : xw) (a : Nat) (i x : Int32) : Option xw := match w a with
  | some (.inl (t, n, .inl f)) => if t = 2 ∧ (x = 0 ∨ x = 1) ∧ ¬ (i < 0 ∨ n ≤ i.toNatClampNeg) then some (va_up w a (some (.inl (2, n, .inl (upd f i.toNatClampNeg x))))) else none
  | _ => none
def xsL (w : xw) (a : Nat) (i : Int32) (x : Int64) : Option xw := match w a with
  | some (.inl (t, n, .inr (.inl f))) => if t = 1 ∧ ¬ (i < 0 ∨ n ≤ i.toNatClampNeg) then some (va_up w a (some (.inl (1, n, .inr (.inl (vp_updL f i.toNatClampNeg x)))))) else none
  | _ => none
-- a boolean's end
def xrZ (x : Int32) (w : xw) : Option (Int32 × xw) := if x = 0 ∨ x = 1 then some (x, w) else none
def xrZ0 (x : Int32) : Option Int32 := if x = 0 ∨ x = 1 then some x else none
theorem xaI_inv {w : xw} {a : Nat} {i : Int32} {y : Int32} (h : xaI w a i = some y) : ∃ n f, w a = some (.inl (0, n, .inl f)) ∧ vp_in i n ∧ f i.toNatClampNeg = y := by
  unfold xaI at h
  split at h
  · rename_i t n f ho
    split at h
    · rename_i hc
      obtain ⟨ht, hi⟩ := hc
      subst ht
      exact ⟨n, f, ho, hi, Option.some.inj h⟩
    · cases h
  · cases h
theorem xaZ_inv {w : xw} {a : Nat} {i : Int32} {y : Int32} (h : xaZ w a i = some y) : ∃ n f, w a = some (.inl (2, n, .inl f)) ∧ vp_in i n ∧ f i.toNatClampNeg = y := by
  unfold xaZ at h
  split at h
  · rename_i t n f ho
    split at h
    · rename_i hc
      obtain ⟨ht, hi⟩ := hc
      subst ht
      exact ⟨n, f, ho, hi, Option.some.inj h⟩
    · cases h
  · cases h
theorem xaL_inv {w : xw} {a : Nat} {i : Int32} {y : Int64} (h : xaL w a i = some y) : ∃ n f, w a = some (.inl (1, n, .inr (.inl f))) ∧ vp_in i n ∧ f i.toNatClampNeg = y := by
  unfold xaL at h
  split at h
  · rename_i t n f ho
    split at h
    · rename_i hc
      obtain ⟨ht, hi⟩ := hc
      subst ht
      exact ⟨n, f, ho, hi, Option.some.inj h⟩
    · cases h
  · cases h
theorem xaR_inv {w : xw} {a : Nat} {i : Int32} {y : Nat} (h : xaR w a i = some y) : ∃ t n f, w a = some (.inl (t, n, .inr (.inr (.inr (.inr f))))) ∧ (3 ≤ t ∧ t < 6) ∧ vp_in i n ∧ f i.toNatClampNeg = some y := by
  unfold xaR at h
  split at h
  · rename_i t n f ho
    split at h
    · rename_i hc
      exact ⟨t, n, f, ho, hc.1, hc.2, h⟩
    · cases h
  · cases h
theorem xsI_inv {w w1 : xw} {a : Nat} {i : Int32} {x : Int32} (h : xsI w a i x = some w1) : ∃ n f, w a = some (.inl (0, n, .inl f)) ∧ vp_in i n ∧ w1 = va_up w a (some (.inl (0, n, .inl (upd f i.toNatClampNeg x)))) := by
  unfold xsI at h
  split at h
  · rename_i t n f ho
    split at h
    · rename_i hc
      obtain ⟨ht, hi⟩ := hc
      subst ht
      exact ⟨n, f, ho, hi, (Option.some.inj h).symm⟩
    · cases h
  · cases h
theorem xsL_inv {w w1 : xw} {a : Nat} {i : Int32} {x : Int64} (h : xsL w a i x = some w1) : ∃ n f, w a = some (.inl (1, n, .inr (.inl f))) ∧ vp_in i n ∧ w1 = va_up w a (some (.inl (1, n, .inr (.inl (vp_updL f i.toNatClampNeg x))))) := by
  unfold xsL at h
  split at h
  · rename_i t n f ho
    split at h
    · rename_i hc
      obtain ⟨ht, hi⟩ := hc
      subst ht
      exact ⟨n, f, ho, hi, (Option.some.inj h).symm⟩
    · cases h
  · cases h
theorem xsZ_inv {w w1 : xw} {a : Nat} {i x : Int32} (h : xsZ w a i x = some w1) : ∃ n f, w a = some (.inl (2, n, .inl f)) ∧ (x = 0 ∨ x = 1) ∧ vp_in i n ∧ w1 = va_up w a (some (.inl (2, n, .inl (upd f i.toNatClampNeg x)))) := by
  unfold xsZ at h
  split at h
  · rename_i t n f ho
    split at h
    · rename_i hc
      obtain ⟨ht, hx, hi⟩ := hc
      subst ht
      exact ⟨n, f, ho, hx, hi, (Option.some.inj h).symm⟩
    · cases h
  · cases h
theorem xrZ_inv {x : Int32} {w : xw} {ro : Int32 × xw} (h : xrZ x w = some ro) : (x = 0 ∨ x = 1) ∧ ro = (x, w) := by
  unfold xrZ at h
  split at h
  · rename_i hc; exact ⟨hc, (Option.some.inj h).symm⟩
  · cases h
theorem xrZ0_inv {x ro : Int32} (h : xrZ0 x = some ro) : (x = 0 ∨ x = 1) ∧ ro = x := by
  unfold xrZ0 at h
  split at h
  · rename_i hc; exact ⟨hc, (Option.some.inj h).symm⟩
  · cases h
theorem xnar {x : Int32} (h : x = 0 ∨ x = 1) : narrow .boolean (.int x) = .int x ∧ fits .boolean (.int x) = true ∧ vp_nar .boolean x = x := by
  rcases h with rfl | rfl <;> exact ⟨by decide, by decide, by decide⟩
theorem xT_good : GoodIn xT xT := fun x h => ⟨h, good_of_word (List.mem_filter.mp h).2⟩
theorem xgood {y : MethodName} {bytes : ByteArray} {maxL : Nat} {ret : Option FieldType} (h : Cond.code y bytes maxL ret ∈ xT) : GoodIn xT (.code y bytes maxL ret :: xT) := fun x hx => by
  rcases List.mem_cons.mp hx with rfl | hx
  · exact xT_good _ h
  · exact xT_good _ hx
theorem xP1 {D : va_G} {q : Nat × va_E} {H : Heap} (h : va_at D xcl q H) : va_P D xcl [q] H := by
  intro k z hk
  cases k with
  | zero => cases hk; exact h
  | succ k => simp at hk
/-- a write -/
theorem xJ.put {D : va_G} {cT : Nat → ClassId} {A : Nat → Prop} {H0 H H1 : Heap} {w : xw} {sz a k : Nat} {x0 x : xe} {locs : List Loc} (J : xJ D cT A H0 w sz H locs) (he : w a = some x0) (hat : va_at D xcl (a, xtr cT x) H1) (z : H1.size = H.size) (oq : ∀ q : Nat, q ≠ a → H1[q]? = H[q]?) : xJ D cT A H0 (va_up w a (some x)) sz H1 (locs ++ [⟨a, k⟩]) := by
  obtain ⟨hH, hS, hA, hsz, hA2⟩ := J
  have ha : A a := hA a (by rw [he]; rfl)
  refine ⟨fun b y hb => ?_, hS.put z oq ha, fun b hb => ?_, z.trans hsz, hA2⟩
  · by_cases h : b = a
    · subst h
      rw [va_up_self] at hb
      cases hb
      exact hat
    · rw [va_up_ne w (some x) h] at hb
      exact (hH b y hb).kept (oq b h)
  · by_cases h : b = a
    · rw [h]; exact ha
    · rw [va_up_ne w (some x) h] at hb; exact hA b hb

section XG
variable {p : Program} {l : Launch} {e : Env} {R : Room} {s : State} {m : MethodId} {args : Array Value} {below : List Frame} {meth : Method} {c : Code} {H : Heap} {locs : List Loc} {cells slots : Nat} {Q : State → Prop}
variable {cc : ByteArray} {pc : Nat} {ls : Array Slot} {rest st0 : List Value} {D : va_G} {cT : Nat → ClassId} {A : Nat → Prop} {H0 : Heap} {w w0 w1 : xw} {own C : String} {T : u_T} {N ci index a sz : Nat} {ty : Nat → FieldType}
theorem xg_getV (Z : xZ p s m c cc args own D cT) (J : xJ D cT A H0 w sz H locs) (K : xC ci C T N ty) (k : Nat) (hk : k < N) (hl : Cond.fieldLink own index C (T k).2.1 (T k).2.2.1 ∈ xT) (hc : (T k).1 = C) {fs : List Value} {v : Value} (he : w a = some (.inr (ci, fs))) (hv : fs[k]? = some v) (hdg : decode cc pc = .ok (.getfield index, 3))
    (kk : W p l e R s m args below meth c H locs cells slots Q (F0 m (pc + 3) ls (v :: rest))) : W p l e R s m args below meth c H locs cells slots Q (F0 m pc ls (.ref a :: rest)) :=
  va_get (D := D) (ws := [(a, .inr (ci, fs))]) (ref := C) Z.1 Z.2.1 Z.2.2.2.1 K.2.1 Z.2.2.1 Z.2.2.2.2.1 (xP1 (J.1 a _ he)) 0 rfl K.1 k hk (Z.2.2.2.1 _ hl) (fun x h => by rw [hc] at h; exact h) hv hdg kk
theorem xg_putV (Z : xZ p s m c cc args own D cT) (J : xJ D cT A H0 w sz H locs) (K : xC ci C T N ty) (k : Nat) (hk : k < N) (hl : Cond.fieldLink own index C (T k).2.1 (T k).2.2.1 ∈ xT) (hc : (T k).1 = C) (hfin : (T k).2.2.2 = false) {v : Value} (hn : narrow (ty k) v = v) (hfit : fits (ty k) v = true) (hdg : decode cc pc = .ok (.putfield index, 3)) (hw1 : xpV w a ci k v = some w1)
    (kk : ∀ (H1 : Heap) (locs1 : List Loc), xJ D cT A H0 w1 sz H1 locs1 → W p l e R s m args below meth c H1 locs1 cells slots Q (F0 m (pc + 3) ls rest)) : W p l e R s m args below meth c H locs cells slots Q (F0 m pc ls (v :: .ref a :: rest)) := by
  obtain ⟨fs, he, hlen, rfl⟩ := xpV_inv hw1
  have hts := Z.2.2.2.1
  have hap := va_apart (own := own) hts K.2.1 ty K.2.2.1 K.2.2.2 Z.2.2.2.2.1 K.1
  obtain ⟨r, h1, cell, q1, q2, q3, q4⟩ := J.1 a _ he
  have hr : r = (C, T, N) := Option.some.inj (h1.symm.trans K.1)
  subst hr
  obtain ⟨hS, hfc, kC, hkC, hkind⟩ := Z.2.2.2.2.1.1 ci _ K.1
  obtain ⟨cf, kf, fi, f, hi, hsl⟩ := hS k hk
  have hlay := hts _ (K.2.1 _ (u_in_lay hk))
  unfold u_lay at hlay
  rw [if_neg (by rw [hfin]; decide)] at hlay
  have hst := (u_facts hfc hkC (u_lays hts K.2.1 hk) hi).1
  have h6 := u_store hfc hkC hkind hlay hi (K.2.2.1 k hk) hn hfit
  have hi2 : s.fieldFound? C (T k).2.1 (T k).2.2.1 = some (cf, kf, fi, f) := by rw [hc] at hi; exact hi
  refine W.putK Z.1 Z.2.1 (f := f) ⟨Z.2.2.1, hts _ hl, ⟨_, _, _, hi2⟩, hst⟩ (by rw [q2]; exact h6) q1 q3 (by rw [hsl]; exact k2_hasslot (q4 k hk)) rfl rfl hdg fun H' e1 e2 e3 => ?_
  rw [hsl] at e1 ⊢
  exact kk H' _ (J.put he ⟨_, K.1, t_OB.to (V := updV (vp_V fs) k v) ⟨_, e1, q2, q3, t_set q4 hap hk v⟩ (fun j _ => vp_updV_set hlen v j)⟩ e2 e3)
theorem xg_putF (Z : xZ p s m c cc args own D cT) (J : xJ D cT A H0 w sz H locs) (K : xC ci C T N ty) (k : Nat) (hk : k < N) (hl : Cond.fieldLink own index C (T k).2.1 (T k).2.2.1 ∈ xT) (hc : (T k).1 = C) (hfin : (T k).2.2.2 = true) (hin2 : meth.name = "<init>") (hdecl : C = own) {v : Value} (hn : narrow (ty k) v = v) (hfit : fits (ty k) v = true) (hdg : decode cc pc = .ok (.putfield index, 3)) (hw1 : xpV w a ci k v = some w1)
    (kk : ∀ (H1 : Heap) (locs1 : List Loc), xJ D cT A H0 w1 sz H1 locs1 → W p l e R s m args below meth c H1 locs1 cells slots Q (F0 m (pc + 3) ls rest)) : W p l e R s m args below meth c H locs cells slots Q (F0 m pc ls (v :: .ref a :: rest)) := by
  obtain ⟨fs, he, hlen, rfl⟩ := xpV_inv hw1
  have hts := Z.2.2.2.1
  have hap := va_apart (own := own) hts K.2.1 ty K.2.2.1 K.2.2.2 Z.2.2.2.2.1 K.1
  obtain ⟨r, h1, cell, q1, q2, q3, q4⟩ := J.1 a _ he
  have hr : r = (C, T, N) := Option.some.inj (h1.symm.trans K.1)
  subst hr
  obtain ⟨hS, hfc, kC, hkC, hkind⟩ := Z.2.2.2.2.1.1 ci _ K.1
  obtain ⟨cf, kf, fi, f, hi, hsl⟩ := hS k hk
  have hlay := hts _ (K.2.1 _ (u_in_lay hk))
  unfold u_lay at hlay
  rw [if_pos hfin] at hlay
  have hst := (u_facts hfc hkC (u_lays hts K.2.1 hk) hi).1
  have hcf : m.cls = cf := by
    obtain ⟨_, _, c', _, _, _, -, -, hf', -, -, -, hown2, -⟩ := Cond.laysFinal_spec hlay
    have e1 : c' = cf := by have := hi.symm.trans hf'; simp at this; exact this.1.symm
    rw [hc, hdecl] at hown2
    rw [← e1]; exact Option.some.inj (Z.2.2.1.symm.trans hown2)
  have h6 := u_fits hfc hkC hkind (Or.inr hlay) hi (K.2.2.1 k hk) hn hfit
  have hi2 : s.fieldFound? C (T k).2.1 (T k).2.2.1 = some (cf, kf, fi, f) := by rw [hc] at hi; exact hi
  refine W.putFinK Z.1 Z.2.1 Z.2.2.1 (hts _ hl) hi2 hst hcf hin2 (by rw [q2]; exact h6) q1 q3 (by rw [hsl]; exact k2_hasslot (q4 k hk)) rfl rfl hdg fun H' e1 e2 e3 => ?_
  rw [hsl] at e1 ⊢
  exact kk H' _ (J.put he ⟨_, K.1, t_OB.to (V := updV (vp_V fs) k v) ⟨_, e1, q2, q3, t_set q4 hap hk v⟩ (fun j _ => vp_updV_set hlen v j)⟩ e2 e3)
/-- behind a call -/
theorem xg_go {r : xR} {as : Array Value} {mc ms : Nat} (hr : va_Run p l e R s m args below meth c H locs cells slots mc ms (F0 m pc ls st0) rest (xQ D cT w sz r as) (xA w sz)) (J : xJ D cT A H0 w sz H locs)
    (kk : ∀ (H1 : Heap) (locs1 : List Loc), xJ D cT A H0 r.2.1 r.2.2 H1 locs1 → W p l e R s m args below meth c H1 locs1 (cells + mc) (slots + ms) Q (F0 m (pc + 3) ls (r.1.toList ++ rest))) : W p l e R s m args below meth c H locs cells slots Q (F0 m pc ls st0) := by
  intro T hT X
  obtain ⟨v, st₀, t, T', L, h0, X', hL, e1, e2, ⟨hv, hH, hsz, hdom, hz, hk⟩, st⟩ := hr T hT X
  cases hv
  rw [h0] at hz hk
  obtain ⟨hH0, hS, hA, hsz0, hA2⟩ := J
  have hin : ∀ q, xA w sz q → A q := fun q z => z.elim (hA q) (fun z => hA2 q (Nat.le_trans hS.1 (by rw [hsz0]; exact z)))
  obtain ⟨t2, a1, b1⟩ := kk T'.heap (locs ++ L) ⟨by rw [e1]; exact hH, ⟨Nat.le_trans hS.1 (by rw [e1]; exact hz), fun q h1 h2 => by
      rw [e1, hk q (Nat.lt_of_lt_of_le h1 hS.1) (fun z => h2 (hin q z))]; exact hS.2.1 q h1 h2, fun q hq => by
      rcases List.mem_append.mp hq with h | h
      · exact hS.2.2 q h
      · exact hin _ (hL q h)⟩, fun a h => hin a (hdom a h), by rw [e1]; exact hsz, hA2⟩ T' rfl X'
  exact ⟨t2, st t2 a1, b1⟩
theorem xg_blind {as : List Value} : FrameBlind (va_Pc as (xB D cT w sz)) := fun a U g mk q => by
  obtain ⟨q0, q1, q2, q3, q4⟩ := q
  exact ⟨q0, q1, q2, va_K.moved (u := U) (U := U.calling g mk a) (Vm.Alike.refl U.vm) q3, xE.same (U := U.calling g mk a) rfl q4⟩
theorem xg_pre {as : List Value} (Z : xZ p s m c cc args own D cT) (J : xJ D cT A H0 w sz H locs) : PreS s H (va_Pc as (xB D cT w sz)) as := ⟨xg_blind, fun U hU hW => ⟨rfl, by rw [hU]; exact J.1, by rw [hU]; exact J.2.2.2.1, va_K.moved hW.alike Z.2.2.2.2.1, xE.warm hW Z.2.2.2.2.2⟩⟩
end XG
def xY (y : MethodName) (n : Nat) : Prop := y.cls ≠ "java/lang/invoke/MethodHandle" ∧ y.cls ≠ "java/lang/invoke/VarHandle" ∧ (parseMethodDescriptor y.desc).map (fun d => d.parameters.length) = some n
/-- what a callee's words are -/
def xYS (y : MethodName) (bytes : ByteArray) (maxL : Nat) (ret : Option FieldType) (n : Nat) : Prop := Cond.code y bytes maxL ret ∈ xT ∧ Cond.static y ∈ xT ∧ Cond.initialized y.cls ∈ xT ∧ xY y n
def xYV (y : MethodName) (bytes : ByteArray) (maxL : Nat) (ret : Option FieldType) (n : Nat) : Prop := Cond.code y bytes maxL ret ∈ xT ∧ Cond.instanceMethod y ∈ xT ∧ Cond.initialized y.cls ∈ xT ∧ xY y n ∧ Cond.selects y.cls y y ∈ xT
def xYI (y : MethodName) (bytes : ByteArray) (maxL : Nat) (n : Nat) : Prop := Cond.code y bytes maxL none ∈ xT ∧ Cond.instanceMethod y ∈ xT ∧ Cond.initialized y.cls ∈ xT ∧ xY y n ∧ y.name = "<init>"
def xfit (R' : Room) (maxL : Nat) (R : Room) (cl sl : Nat) : Bool := Nat.ble (R'.frames + 1) R.frames && Nat.ble (8 + (maxL + 11) + R'.locals) R.locals && Nat.ble (cl + R'.cells) R.cells && Nat.ble (sl + R'.slots) R.slots
theorem xfit_of {R' R : Room} {maxL cl sl : Nat} (h : xfit R' maxL R cl sl = true) : (R'.frames + 1 ≤ R.frames ∧ 8 + (maxL + 11) + R'.locals ≤ R.locals) ∧ (cl + R'.cells ≤ R.cells ∧ sl + R'.slots ≤ R.slots) := by
  unfold xfit at h
  simp only [Bool.and_eq_true] at h
  exact ⟨⟨Nat.le_of_ble_eq_true h.1.1.1, Nat.le_of_ble_eq_true h.1.1.2⟩, Nat.le_of_ble_eq_true h.1.2, Nat.le_of_ble_eq_true h.2⟩
theorem xip {ρ : Type} {c : Prop} {dc : Decidable c} {a b : Option ρ} {r : ρ} (hc : c) (h : (@ite _ c dc a b) = some r) : a = some r := by rw [if_pos hc] at h; exact h
theorem xin {ρ : Type} {c : Prop} {dc : Decidable c} {a b : Option ρ} {r : ρ} (hc : ¬ c) (h : (@ite _ c dc a b) = some r) : b = some r := by rw [if_neg hc] at h; exact h
def xDJ (cc : ByteArray) (pc : Nat) (i : Instr) (off : Int) (tgt pc' : Nat) : Prop := decode cc pc = .ok (i, 3) ∧ pc' = pc + 3 ∧ (pc : Int) + off = (tgt : Int)
theorem xdj_of {cc : ByteArray} {pc : Nat} {i : Instr} {off : Int} {tgt pc' : Nat} (h : (decide (decode cc pc = .ok (i, 3)) && Nat.beq pc' (pc + 3) && decide ((pc : Int) + off = (tgt : Int))) = true) : xDJ cc pc i off tgt pc' := by
  rw [Bool.and_eq_true, Bool.and_eq_true, decide_eq_true_eq, decide_eq_true_eq] at h
  exact ⟨h.1.1, Nat.eq_of_beq_eq_true h.1.2, h.2⟩
section XO
variable {cc : ByteArray} {nL : Nat} {own nm : String} {ret : Option FieldType} {R : Room} {X : xX} {lv lv' : List (Nat × Value)} {st : List Value} {w : xw} {sz cl sl pc pc' tgt : Nat} {off : Int} {r : xR} {ρ : Type} {ro : ρ}
theorem xo_iadd {x y : Int32} (hd : xD cc pc .iadd 1 pc') (k : xK cc nL own nm ret R X lv (.int (x + y) :: st) w sz cl sl pc' r) : xK cc nL own nm ret R X lv (.int y :: .int x :: st) w sz cl sl pc r := by
  obtain ⟨hd, rfl⟩ := hd
  exact fun p e s m below meth c H locs ls Z hm hn hr hk J hl => lv_iadd Z.1 Z.2.1 hd (k p e s m below meth c H locs ls Z hm hn hr hk J hl)
theorem xo_isub {x y : Int32} (hd : xD cc pc .isub 1 pc') (k : xK cc nL own nm ret R X lv (.int (x - y) :: st) w sz cl sl pc' r) : xK cc nL own nm ret R X lv (.int y :: .int x :: st) w sz cl sl pc r := by
  obtain ⟨hd, rfl⟩ := hd
  exact fun p e s m below meth c H locs ls Z hm hn hr hk J hl => lv_isub Z.1 Z.2.1 hd (k p e s m below meth c H locs ls Z hm hn hr hk J hl)
theorem xo_imul {x y : Int32} (hd : xD cc pc .imul 1 pc') (k : xK cc nL own nm ret R X lv (.int (x * y) :: st) w sz cl sl pc' r) : xK cc nL own nm ret R X lv (.int y :: .int x :: st) w sz cl sl pc r := by
  obtain ⟨hd, rfl⟩ := hd
  exact fun p e s m below meth c H locs ls Z hm hn hr hk J hl => lv_imul Z.1 Z.2.1 hd (k p e s m below meth c H locs ls Z hm hn hr hk J hl)
theorem xo_iand {x y : Int32} (hd : xD cc pc .iand 1 pc') (k : xK cc nL own nm ret R X lv (.int (x &&& y) :: st) w sz cl sl pc' r) : xK cc nL own nm ret R X lv (.int y :: .int x :: st) w sz cl sl pc r := by
  obtain ⟨hd, rfl⟩ := hd
  exact fun p e s m below meth c H locs ls Z hm hn hr hk J hl => lv_iand Z.1 Z.2.1 hd (k p e s m below meth c H locs ls Z hm hn hr hk J hl)
theorem xo_ior {x y : Int32} (hd : xD cc pc .ior 1 pc') (k : xK cc nL own nm ret R X lv (.int (x ||| y) :: st) w sz cl sl pc' r) : xK cc nL own nm ret R X lv (.int y :: .int x :: st) w sz cl sl pc r := by
  obtain ⟨hd, rfl⟩ := hd
  exact fun p e s m below meth c H locs ls Z hm hn hr hk J hl => lv_ior Z.1 Z.2.1 hd (k p e s m below meth c H locs ls Z hm hn hr hk J hl)
theorem xo_ixor {x y : Int32} (hd : xD cc pc .ixor 1 pc') (k : xK cc nL own nm ret R X lv (.int (x ^^^ y) :: st) w sz cl sl pc' r) : xK cc nL own nm ret R X lv (.int y :: .int x :: st) w sz cl sl pc r := by
  obtain ⟨hd, rfl⟩ := hd
  exact fun p e s m below meth c H locs ls Z hm hn hr hk J hl => lv_ixor Z.1 Z.2.1 hd (k p e s m below meth c H locs ls Z hm hn hr hk J hl)
theorem xo_ladd {x y : Int64} (hd : xD cc pc .ladd 1 pc') (k : xK cc nL own nm ret R X lv (.long (x + y) :: st) w sz cl sl pc' r) : xK cc nL own nm ret R X lv (.long y :: .long x :: st) w sz cl sl pc r := by
  obtain ⟨hd, rfl⟩ := hd
  exact fun p e s m below meth c H locs ls Z hm hn hr hk J hl => lv_ladd Z.1 Z.2.1 hd (k p e s m below meth c H locs ls Z hm hn hr hk J hl)
theorem xo_lsub {x y : Int64} (hd : xD cc pc .lsub 1 pc') (k : xK cc nL own nm ret R X lv (.long (x - y) :: st) w sz cl sl pc' r) : xK cc nL own nm ret R X lv (.long y :: .long x :: st) w sz cl sl pc r := by
  obtain ⟨hd, rfl⟩ := hd
  exact fun p e s m below meth c H locs ls Z hm hn hr hk J hl => lv_lsub Z.1 Z.2.1 hd (k p e s m below meth c H locs ls Z hm hn hr hk J hl)
theorem xo_lmul {x y : Int64} (hd : xD cc pc .lmul 1 pc') (k : xK cc nL own nm ret R X lv (.long (x * y) :: st) w sz cl sl pc' r) : xK cc nL own nm ret R X lv (.long y :: .long x :: st) w sz cl sl pc r := by
  obtain ⟨hd, rfl⟩ := hd
  exact fun p e s m below meth c H locs ls Z hm hn hr hk J hl => lv_lmul Z.1 Z.2.1 hd (k p e s m below meth c H locs ls Z hm hn hr hk J hl)
theorem xo_land {x y : Int64} (hd : xD cc pc .land 1 pc') (k : xK cc nL own nm ret R X lv (.long (x &&& y) :: st) w sz cl sl pc' r) : xK cc nL own nm ret R X lv (.long y :: .long x :: st) w sz cl sl pc r := by
  obtain ⟨hd, rfl⟩ := hd
  exact fun p e s m below meth c H locs ls Z hm hn hr hk J hl => lv_land Z.1 Z.2.1 hd (k p e s m below meth c H locs ls Z hm hn hr hk J hl)
theorem xo_lor {x y : Int64} (hd : xD cc pc .lor 1 pc') (k : xK cc nL own nm ret R X lv (.long (x ||| y) :: st) w sz cl sl pc' r) : xK cc nL own nm ret R X lv (.long y :: .long x :: st) w sz cl sl pc r := by
  obtain ⟨hd, rfl⟩ := hd
  exact fun p e s m below meth c H locs ls Z hm hn hr hk J hl => lv_lor Z.1 Z.2.1 hd (k p e s m below meth c H locs ls Z hm hn hr hk J hl)
theorem xo_lxor {x y : Int64} (hd : xD cc pc .lxor 1 pc') (k : xK cc nL own nm ret R X lv (.long (x ^^^ y) :: st) w sz cl sl pc' r) : xK cc nL own nm ret R X lv (.long y :: .long x :: st) w sz cl sl pc r := by
  obtain ⟨hd, rfl⟩ := hd
  exact fun p e s m below meth c H locs ls Z hm hn hr hk J hl => lv_lxor Z.1 Z.2.1 hd (k p e s m below meth c H locs ls Z hm hn hr hk J hl)
theorem xo_ishl {x y : Int32} (hd : xD cc pc .ishl 1 pc') (k : xK cc nL own nm ret R X lv (.int (x <<< (y &&& 31)) :: st) w sz cl sl pc' r) : xK cc nL own nm ret R X lv (.int y :: .int x :: st) w sz cl sl pc r := by
  obtain ⟨hd, rfl⟩ := hd
  exact fun p e s m below meth c H locs ls Z hm hn hr hk J hl => lv_ishl Z.1 Z.2.1 hd (k p e s m below meth c H locs ls Z hm hn hr hk J hl)
theorem xo_ishr {x y : Int32} (hd : xD cc pc .ishr 1 pc') (k : xK cc nL own nm ret R X lv (.int (x >>> (y &&& 31)) :: st) w sz cl sl pc' r) : xK cc nL own nm ret R X lv (.int y :: .int x :: st) w sz cl sl pc r := by
  obtain ⟨hd, rfl⟩ := hd
  exact fun p e s m below meth c H locs ls Z hm hn hr hk J hl => lv_ishr Z.1 Z.2.1 hd (k p e s m below meth c H locs ls Z hm hn hr hk J hl)
theorem xo_iushr {x y : Int32} (hd : xD cc pc .iushr 1 pc') (k : xK cc nL own nm ret R X lv (.int (x.toUInt32 >>> (y.toUInt32 &&& Int32.toUInt32 31)).toInt32 :: st) w sz cl sl pc' r) : xK cc nL own nm ret R X lv (.int y :: .int x :: st) w sz cl sl pc r := by
  obtain ⟨hd, rfl⟩ := hd
  exact fun p e s m below meth c H locs ls Z hm hn hr hk J hl => lv_iushr Z.1 Z.2.1 hd rfl (k p e s m below meth c H locs ls Z hm hn hr hk J hl)
theorem xo_lushr {x : Int64} {y : Int32} (hd : xD cc pc .lushr 1 pc') (k : xK cc nL own nm ret R X lv (.long (x.toUInt64 >>> (y.toInt64.toUInt64 &&& Int64.toUInt64 63)).toInt64 :: st) w sz cl sl pc' r) : xK cc nL own nm ret R X lv (.int y :: .long x :: st) w sz cl sl pc r := by
  obtain ⟨hd, rfl⟩ := hd
  exact fun p e s m below meth c H locs ls Z hm hn hr hk J hl => lv_lushr Z.1 Z.2.1 hd rfl (k p e s m below meth c H locs ls Z hm hn hr hk J hl)
theorem xo_lshl {x : Int64} {y : Int32} (hd : xD cc pc .lshl 1 pc') (k : xK cc nL own nm ret R X lv (.long (x <<< (y.toInt64 &&& 63)) :: st) w sz cl sl pc' r) : xK cc nL own nm ret R X lv (.int y :: .long x :: st) w sz cl sl pc r := by
  obtain ⟨hd, rfl⟩ := hd
  exact fun p e s m below meth c H locs ls Z hm hn hr hk J hl => lv_lshl Z.1 Z.2.1 hd rfl (k p e s m below meth c H locs ls Z hm hn hr hk J hl)
theorem xo_lshr {x : Int64} {y : Int32} (hd : xD cc pc .lshr 1 pc') (k : xK cc nL own nm ret R X lv (.long (x >>> (y.toInt64 &&& 63)) :: st) w sz cl sl pc' r) : xK cc nL own nm ret R X lv (.int y :: .long x :: st) w sz cl sl pc r := by
  obtain ⟨hd, rfl⟩ := hd
  exact fun p e s m below meth c H locs ls Z hm hn hr hk J hl => lv_lshr Z.1 Z.2.1 hd rfl (k p e s m below meth c H locs ls Z hm hn hr hk J hl)
theorem xo_i2l {x : Int32} (hd : xD cc pc .i2l 1 pc') (k : xK cc nL own nm ret R X lv (.long x.toInt64 :: st) w sz cl sl pc' r) : xK cc nL own nm ret R X lv (.int x :: st) w sz cl sl pc r := by
  obtain ⟨hd, rfl⟩ := hd
  exact fun p e s m below meth c H locs ls Z hm hn hr hk J hl => lv_i2l Z.1 Z.2.1 hd rfl (k p e s m below meth c H locs ls Z hm hn hr hk J hl)
theorem xo_l2i {x : Int64} (hd : xD cc pc .l2i 1 pc') (k : xK cc nL own nm ret R X lv (.int x.toInt32 :: st) w sz cl sl pc' r) : xK cc nL own nm ret R X lv (.long x :: st) w sz cl sl pc r := by
  obtain ⟨hd, rfl⟩ := hd
  exact fun p e s m below meth c H locs ls Z hm hn hr hk J hl => lv_l2i Z.1 Z.2.1 hd rfl (k p e s m below meth c H locs ls Z hm hn hr hk J hl)
theorem xo_ineg {x : Int32} (hd : xD cc pc .ineg 1 pc') (k : xK cc nL own nm ret R X lv (.int (-x) :: st) w sz cl sl pc' r) : xK cc nL own nm ret R X lv (.int x :: st) w sz cl sl pc r := by
  obtain ⟨hd, rfl⟩ := hd
  exact fun p e s m below meth c H locs ls Z hm hn hr hk J hl => lv_ineg Z.1 Z.2.1 hd (k p e s m below meth c H locs ls Z hm hn hr hk J hl)
theorem xo_lneg {x : Int64} (hd : xD cc pc .lneg 1 pc') (k : xK cc nL own nm ret R X lv (.long (-x) :: st) w sz cl sl pc' r) : xK cc nL own nm ret R X lv (.long x :: st) w sz cl sl pc r := by
  obtain ⟨hd, rfl⟩ := hd
  exact fun p e s m below meth c H locs ls Z hm hn hr hk J hl => lv_lneg Z.1 Z.2.1 hd (k p e s m below meth c H locs ls Z hm hn hr hk J hl)
theorem xo_idiv {x y : Int32} {dc : Decidable (y = 0)} {B : Option ρ} (hd : xD cc pc .idiv 1 pc') (h : (@ite _ (y = 0) dc none B) = some ro) (k : B = some ro → xK cc nL own nm ret R X lv (.int (x / y) :: st) w sz cl sl pc' r) : xK cc nL own nm ret R X lv (.int y :: .int x :: st) w sz cl sl pc r := by
  obtain ⟨hd, rfl⟩ := hd
  obtain ⟨hne, h⟩ := xif0 h
  exact fun p e s m below meth c H locs ls Z hm hn hr hk J hl => lv_idiv Z.1 Z.2.1 hd hne (k h p e s m below meth c H locs ls Z hm hn hr hk J hl)
theorem xo_irem {x y : Int32} {dc : Decidable (y = 0)} {B : Option ρ} (hd : xD cc pc .irem 1 pc') (h : (@ite _ (y = 0) dc none B) = some ro) (k : B = some ro → xK cc nL own nm ret R X lv (.int (x - x / y * y) :: st) w sz cl sl pc' r) : xK cc nL own nm ret R X lv (.int y :: .int x :: st) w sz cl sl pc r := by
  obtain ⟨hd, rfl⟩ := hd
  obtain ⟨hne, h⟩ := xif0 h
  exact fun p e s m below meth c H locs ls Z hm hn hr hk J hl => lv_irem Z.1 Z.2.1 hd hne (k h p e s m below meth c H locs ls Z hm hn hr hk J hl)
theorem xo_ldiv {x y : Int64} {dc : Decidable (y = 0)} {B : Option ρ} (hd : xD cc pc .ldiv 1 pc') (h : (@ite _ (y = 0) dc none B) = some ro) (k : B = some ro → xK cc nL own nm ret R X lv (.long (x / y) :: st) w sz cl sl pc' r) : xK cc nL own nm ret R X lv (.long y :: .long x :: st) w sz cl sl pc r := by
  obtain ⟨hd, rfl⟩ := hd
  obtain ⟨hne, h⟩ := xif0 h
  exact fun p e s m below meth c H locs ls Z hm hn hr hk J hl => lv_ldiv Z.1 Z.2.1 hd hne (k h p e s m below meth c H locs ls Z hm hn hr hk J hl)
theorem xo_lrem {x y : Int64} {dc : Decidable (y = 0)} {B : Option ρ} (hd : xD cc pc .lrem 1 pc') (h : (@ite _ (y = 0) dc none B) = some ro) (k : B = some ro → xK cc nL own nm ret R X lv (.long (x - x / y * y) :: st) w sz cl sl pc' r) : xK cc nL own nm ret R X lv (.long y :: .long x :: st) w sz cl sl pc r := by
  obtain ⟨hd, rfl⟩ := hd
  obtain ⟨hne, h⟩ := xif0 h
  exact fun p e s m below meth c H locs ls Z hm hn hr hk J hl => lv_lrem Z.1 Z.2.1 hd hne (k h p e s m below meth c H locs ls Z hm hn hr hk J hl)
theorem xo_dup {va : Value} (hd : xD cc pc .dup 1 pc') (hva : va.category = 1) (k : xK cc nL own nm ret R X lv (va :: va :: st) w sz cl sl pc' r) : xK cc nL own nm ret R X lv (va :: st) w sz cl sl pc r := by
  obtain ⟨hd, rfl⟩ := hd
  exact fun p e s m below meth c H locs ls Z hm hn hr hk J hl => lv_dup Z.1 Z.2.1 hd hva (k p e s m below meth c H locs ls Z hm hn hr hk J hl)
theorem xo_pop {va : Value} (hd : xD cc pc .pop 1 pc') (hva : va.category = 1) (k : xK cc nL own nm ret R X lv (st) w sz cl sl pc' r) : xK cc nL own nm ret R X lv (va :: st) w sz cl sl pc r := by
  obtain ⟨hd, rfl⟩ := hd
  exact fun p e s m below meth c H locs ls Z hm hn hr hk J hl => lv_pop Z.1 Z.2.1 hd hva (k p e s m below meth c H locs ls Z hm hn hr hk J hl)
theorem xo_iconst {n : Int} {v : Int32} (hd : xD cc pc (.iconst n) 1 pc') (hv : Int32.ofInt n = v) (k : xK cc nL own nm ret R X lv (.int v :: st) w sz cl sl pc' r) : xK cc nL own nm ret R X lv (st) w sz cl sl pc r := by
  obtain ⟨hd, rfl⟩ := hd
  exact fun p e s m below meth c H locs ls Z hm hn hr hk J hl => lv_iconst Z.1 Z.2.1 hd hv (k p e s m below meth c H locs ls Z hm hn hr hk J hl)
theorem xo_bipush {n : Int} {v : Int32} (hd : xD cc pc (.bipush n) 2 pc') (hv : (Int8.ofInt n).toInt32 = v) (k : xK cc nL own nm ret R X lv (.int v :: st) w sz cl sl pc' r) : xK cc nL own nm ret R X lv (st) w sz cl sl pc r := by
  obtain ⟨hd, rfl⟩ := hd
  exact fun p e s m below meth c H locs ls Z hm hn hr hk J hl => lv_bipush Z.1 Z.2.1 hd hv (k p e s m below meth c H locs ls Z hm hn hr hk J hl)
theorem xo_sipush {n : Int} {v : Int32} (hd : xD cc pc (.sipush n) 3 pc') (hv : (Int16.ofInt n).toInt32 = v) (k : xK cc nL own nm ret R X lv (.int v :: st) w sz cl sl pc' r) : xK cc nL own nm ret R X lv (st) w sz cl sl pc r := by
  obtain ⟨hd, rfl⟩ := hd
  exact fun p e s m below meth c H locs ls Z hm hn hr hk J hl => lv_sipush Z.1 Z.2.1 hd hv (k p e s m below meth c H locs ls Z hm hn hr hk J hl)
theorem xo_lconst {n : Fin 2} {v : Int64} (hd : xD cc pc (.lconst n) 1 pc') (hv : Int64.ofNat (n : Nat) = v) (k : xK cc nL own nm ret R X lv (.long v :: st) w sz cl sl pc' r) : xK cc nL own nm ret R X lv (st) w sz cl sl pc r := by
  obtain ⟨hd, rfl⟩ := hd
  exact fun p e s m below meth c H locs ls Z hm hn hr hk J hl => lv_lconst Z.1 Z.2.1 hd hv (k p e s m below meth c H locs ls Z hm hn hr hk J hl)
theorem xo_ldc2 {index : Nat} {v : Int64} (hd : xD cc pc (.ldc2_w index) 3 pc') (hw : Cond.constantLong own index v ∈ xT) (k : xK cc nL own nm ret R X lv (.long v :: st) w sz cl sl pc' r) : xK cc nL own nm ret R X lv (st) w sz cl sl pc r := by
  obtain ⟨hd, rfl⟩ := hd
  exact fun p e s m below meth c H locs ls Z hm hn hr hk J hl => lv_ldc2 Z.1 Z.2.1 Z.2.2.1 (Z.2.2.2.1 _ hw) hd (k p e s m below meth c H locs ls Z hm hn hr hk J hl)
theorem xo_ldc {index : Nat} {v : Int32} (hd : xD cc pc (.ldc index) 2 pc') (hw : Cond.constant own index v ∈ xT) (k : xK cc nL own nm ret R X lv (.int v :: st) w sz cl sl pc' r) : xK cc nL own nm ret R X lv (st) w sz cl sl pc r := by
  obtain ⟨hd, rfl⟩ := hd
  exact fun p e s m below meth c H locs ls Z hm hn hr hk J hl => lv_ldc Z.1 Z.2.1 Z.2.2.1 (Z.2.2.2.1 _ hw) hd (k p e s m below meth c H locs ls Z hm hn hr hk J hl)
theorem xo_ldcw {index : Nat} {v : Int32} (hd : xD cc pc (.ldc_w index) 3 pc') (hw : Cond.constant own index v ∈ xT) (k : xK cc nL own nm ret R X lv (.int v :: st) w sz cl sl pc' r) : xK cc nL own nm ret R X lv (st) w sz cl sl pc r := by
  obtain ⟨hd, rfl⟩ := hd
  exact fun p e s m below meth c H locs ls Z hm hn hr hk J hl => lv_ldcw Z.1 Z.2.1 Z.2.2.1 (Z.2.2.2.1 _ hw) hd (k p e s m below meth c H locs ls Z hm hn hr hk J hl)
theorem xo_iload_n (q : Nat) {i : Fin 4} {j : Nat} {x : Int32} (hd : xD cc pc (.iload_n i) 1 pc') (hj : (i : Nat) = j) (hq : lv[q]? = some (j, .int x)) (k : xK cc nL own nm ret R X lv (.int x :: st) w sz cl sl pc' r) : xK cc nL own nm ret R X lv (st) w sz cl sl pc r := by
  obtain ⟨hd, rfl⟩ := hd
  exact fun p e s m below meth c H locs ls Z hm hn hr hk J hl => lv_iload_n Z.1 Z.2.1 hd hj (lv_at hl q hq) (k p e s m below meth c H locs ls Z hm hn hr hk J hl)
theorem xo_iload (q : Nat) {j : Nat} {x : Int32} (hd : xD cc pc (.iload j) 2 pc') (hq : lv[q]? = some (j, .int x)) (k : xK cc nL own nm ret R X lv (.int x :: st) w sz cl sl pc' r) : xK cc nL own nm ret R X lv (st) w sz cl sl pc r := by
  obtain ⟨hd, rfl⟩ := hd
  exact fun p e s m below meth c H locs ls Z hm hn hr hk J hl => lv_iload Z.1 Z.2.1 hd (lv_at hl q hq) (k p e s m below meth c H locs ls Z hm hn hr hk J hl)
theorem xo_istore_n {i : Fin 4} {j : Nat} {x : Int32} (lv' : List (Nat × Value)) (hd : xD cc pc (.istore_n i) 1 pc') (hj : (i : Nat) = j) (hlt : Nat.ble (j + 1) nL = true) (hlv : (j, Value.int x) :: lv.filter (fun q => !(q.1 == j) && !(q.1 + 1 == j && q.2.category == 2)) = lv') (k : xK cc nL own nm ret R X lv' (st) w sz cl sl pc' r) : xK cc nL own nm ret R X lv (.int x :: st) w sz cl sl pc r := by
  obtain ⟨hd, rfl⟩ := hd
  exact fun p e s m below meth c H locs ls Z hm hn hr hk J hl => lv_istore_n Z.1 Z.2.1 hd hj hl (Nat.le_of_ble_eq_true hlt) hlv (fun ls hl => k p e s m below meth c H locs ls Z hm hn hr hk J hl)
theorem xo_istore {j : Nat} {x : Int32} (lv' : List (Nat × Value)) (hd : xD cc pc (.istore j) 2 pc') (hlt : Nat.ble (j + 1) nL = true) (hlv : (j, Value.int x) :: lv.filter (fun q => !(q.1 == j) && !(q.1 + 1 == j && q.2.category == 2)) = lv') (k : xK cc nL own nm ret R X lv' (st) w sz cl sl pc' r) : xK cc nL own nm ret R X lv (.int x :: st) w sz cl sl pc r := by
  obtain ⟨hd, rfl⟩ := hd
  exact fun p e s m below meth c H locs ls Z hm hn hr hk J hl => lv_istore Z.1 Z.2.1 hd hl (Nat.le_of_ble_eq_true hlt) hlv (fun ls hl => k p e s m below meth c H locs ls Z hm hn hr hk J hl)
theorem xo_lload_n (q : Nat) {i : Fin 4} {j : Nat} {x : Int64} (hd : xD cc pc (.lload_n i) 1 pc') (hj : (i : Nat) = j) (hq : lv[q]? = some (j, .long x)) (k : xK cc nL own nm ret R X lv (.long x :: st) w sz cl sl pc' r) : xK cc nL own nm ret R X lv (st) w sz cl sl pc r := by
  obtain ⟨hd, rfl⟩ := hd
  exact fun p e s m below meth c H locs ls Z hm hn hr hk J hl => lv_lload_n Z.1 Z.2.1 hd hj (lv_at hl q hq) (k p e s m below meth c H locs ls Z hm hn hr hk J hl)
theorem xo_lload (q : Nat) {j : Nat} {x : Int64} (hd : xD cc pc (.lload j) 2 pc') (hq : lv[q]? = some (j, .long x)) (k : xK cc nL own nm ret R X lv (.long x :: st) w sz cl sl pc' r) : xK cc nL own nm ret R X lv (st) w sz cl sl pc r := by
  obtain ⟨hd, rfl⟩ := hd
  exact fun p e s m below meth c H locs ls Z hm hn hr hk J hl => lv_lload Z.1 Z.2.1 hd (lv_at hl q hq) (k p e s m below meth c H locs ls Z hm hn hr hk J hl)
theorem xo_lstore_n {i : Fin 4} {j : Nat} {x : Int64} (lv' : List (Nat × Value)) (hd : xD cc pc (.lstore_n i) 1 pc') (hj : (i : Nat) = j) (hlt : Nat.ble (j + 2) nL = true) (hlv : (j, Value.long x) :: lv.filter (fun q => !(q.1 == j) && (!(q.1 == j + 1) && !(q.1 + 1 == j && q.2.category == 2))) = lv') (k : xK cc nL own nm ret R X lv' (st) w sz cl sl pc' r) : xK cc nL own nm ret R X lv (.long x :: st) w sz cl sl pc r := by
  obtain ⟨hd, rfl⟩ := hd
  exact fun p e s m below meth c H locs ls Z hm hn hr hk J hl => lv_lstore_n Z.1 Z.2.1 hd hj hl (Nat.le_of_ble_eq_true hlt) hlv (fun ls hl => k p e s m below meth c H locs ls Z hm hn hr hk J hl)
theorem xo_lstore {j : Nat} {x : Int64} (lv' : List (Nat × Value)) (hd : xD cc pc (.lstore j) 2 pc') (hlt : Nat.ble (j + 2) nL = true) (hlv : (j, Value.long x) :: lv.filter (fun q => !(q.1 == j) && (!(q.1 == j + 1) && !(q.1 + 1 == j && q.2.category == 2))) = lv') (k : xK cc nL own nm ret R X lv' (st) w sz cl sl pc' r) : xK cc nL own nm ret R X lv (.long x :: st) w sz cl sl pc r := by
  obtain ⟨hd, rfl⟩ := hd
  exact fun p e s m below meth c H locs ls Z hm hn hr hk J hl => lv_lstore Z.1 Z.2.1 hd hl (Nat.le_of_ble_eq_true hlt) hlv (fun ls hl => k p e s m below meth c H locs ls Z hm hn hr hk J hl)
theorem xo_aload_n (q : Nat) {i : Fin 4} {j : Nat} {x : Nat} (hd : xD cc pc (.aload_n i) 1 pc') (hj : (i : Nat) = j) (hq : lv[q]? = some (j, .ref x)) (k : xK cc nL own nm ret R X lv (.ref x :: st) w sz cl sl pc' r) : xK cc nL own nm ret R X lv (st) w sz cl sl pc r := by
  obtain ⟨hd, rfl⟩ := hd
  exact fun p e s m below meth c H locs ls Z hm hn hr hk J hl => lv_aload_n Z.1 Z.2.1 hd hj (lv_at hl q hq) (k p e s m below meth c H locs ls Z hm hn hr hk J hl)
theorem xo_aload (q : Nat) {j : Nat} {x : Nat} (hd : xD cc pc (.aload j) 2 pc') (hq : lv[q]? = some (j, .ref x)) (k : xK cc nL own nm ret R X lv (.ref x :: st) w sz cl sl pc' r) : xK cc nL own nm ret R X lv (st) w sz cl sl pc r := by
  obtain ⟨hd, rfl⟩ := hd
  exact fun p e s m below meth c H locs ls Z hm hn hr hk J hl => lv_aload Z.1 Z.2.1 hd (lv_at hl q hq) (k p e s m below meth c H locs ls Z hm hn hr hk J hl)
theorem xo_astore_n {i : Fin 4} {j : Nat} {x : Nat} (lv' : List (Nat × Value)) (hd : xD cc pc (.astore_n i) 1 pc') (hj : (i : Nat) = j) (hlt : Nat.ble (j + 1) nL = true) (hlv : (j, Value.ref x) :: lv.filter (fun q => !(q.1 == j) && !(q.1 + 1 == j && q.2.category == 2)) = lv') (k : xK cc nL own nm ret R X lv' (st) w sz cl sl pc' r) : xK cc nL own nm ret R X lv (.ref x :: st) w sz cl sl pc r := by
  obtain ⟨hd, rfl⟩ := hd
  exact fun p e s m below meth c H locs ls Z hm hn hr hk J hl => lv_astore_n Z.1 Z.2.1 hd hj hl (Nat.le_of_ble_eq_true hlt) hlv (fun ls hl => k p e s m below meth c H locs ls Z hm hn hr hk J hl)
theorem xo_astore {j : Nat} {x : Nat} (lv' : List (Nat × Value)) (hd : xD cc pc (.astore j) 2 pc') (hlt : Nat.ble (j + 1) nL = true) (hlv : (j, Value.ref x) :: lv.filter (fun q => !(q.1 == j) && !(q.1 + 1 == j && q.2.category == 2)) = lv') (k : xK cc nL own nm ret R X lv' (st) w sz cl sl pc' r) : xK cc nL own nm ret R X lv (.ref x :: st) w sz cl sl pc r := by
  obtain ⟨hd, rfl⟩ := hd
  exact fun p e s m below meth c H locs ls Z hm hn hr hk J hl => lv_astore Z.1 Z.2.1 hd hl (Nat.le_of_ble_eq_true hlt) hlv (fun ls hl => k p e s m below meth c H locs ls Z hm hn hr hk J hl)
theorem xo_iinc (q : Nat) {j : Nat} {n : Int} {x : Int32} {dd : Int32} {g : Int32 → Option ρ} (lv' : Int32 → List (Nat × Value)) (hd : xD cc pc (.iinc j n) 3 pc') (hq : lv[q]? = some (j, .int x)) (hlt : Nat.ble (j + 1) nL = true) (hv : Int32.ofInt n = dd) (hlv : ∀ z, (j, Value.int z) :: lv.filter (fun q => !(q.1 == j) && !(q.1 + 1 == j && q.2.category == 2)) = lv' z) (h : (some (x + dd)).bind g = some ro) (k : ∀ z, g z = some ro → xK cc nL own nm ret R X (lv' z) (st) w sz cl sl pc' r) : xK cc nL own nm ret R X lv (st) w sz cl sl pc r := by
  obtain ⟨hd, rfl⟩ := hd
  subst hv
  exact fun p e s m below meth c H locs ls Z hm hn hr hk J hl => lv_iinc Z.1 Z.2.1 hd hl hq rfl (Nat.le_of_ble_eq_true hlt) (hlv _) (fun ls hl => k _ h p e s m below meth c H locs ls Z hm hn hr hk J hl)
theorem xo_goto (hd : xDJ cc pc (.goto off) off tgt pc') (k : xK cc nL own nm ret R X lv (st) w sz cl sl tgt r) : xK cc nL own nm ret R X lv (st) w sz cl sl pc r :=
  fun p e s m below meth c H locs ls Z hm hn hr hk J hl => lv_goto Z.1 Z.2.1 hd.1 hd.2.2 (k p e s m below meth c H locs ls Z hm hn hr hk J hl)
theorem xo_sub (ks : List Nat) (lv' : List (Nat × Value)) (hs : lv_pick lv ks = lv') (k : xK cc nL own nm ret R X lv' (st) w sz cl sl pc r) : xK cc nL own nm ret R X lv (st) w sz cl sl pc r :=
  fun p e s m below meth c H locs ls Z hm hn hr hk J hl => k p e s m below meth c H locs ls Z hm hn hr hk J (lv_sub hl ks hs)
theorem xo_nmI {x : Int32} {g : Int32 → Option ρ} (h : (some x).bind g = some ro) (k : ∀ z, g z = some ro → xK cc nL own nm ret R X lv (.int z :: st) w sz cl sl pc r) : xK cc nL own nm ret R X lv (.int x :: st) w sz cl sl pc r := k x h
theorem xo_nmL {x : Int64} {g : Int64 → Option ρ} (h : (some x).bind g = some ro) (k : ∀ z, g z = some ro → xK cc nL own nm ret R X lv (.long z :: st) w sz cl sl pc r) : xK cc nL own nm ret R X lv (.long x :: st) w sz cl sl pc r := k x h
theorem xo_nmR {x : Nat} {g : Nat → Option ρ} (h : (some x).bind g = some ro) (k : ∀ z, g z = some ro → xK cc nL own nm ret R X lv (.ref z :: st) w sz cl sl pc r) : xK cc nL own nm ret R X lv (.ref x :: st) w sz cl sl pc r := k x h
theorem xo_icmp_eq {x y : Int32} {dc : Decidable (x = y)} {A B : Option ρ} (hd : xDJ cc pc (.if_icmp .eq off) off tgt pc') (h : (@ite _ (x = y) dc A B) = some ro) (kt : A = some ro → xK cc nL own nm ret R X lv (st) w sz cl sl tgt r) (kf : B = some ro → xK cc nL own nm ret R X lv (st) w sz cl sl pc' r) : xK cc nL own nm ret R X lv (.int y :: .int x :: st) w sz cl sl pc r := by
  obtain ⟨hd, rfl, ht⟩ := hd
  exact fun p e s m below meth c H locs ls Z hm hn hr hk J hl => lv_icmp_eq Z.1 Z.2.1 hd ht (fun hc => kt (xip hc h) p e s m below meth c H locs ls Z hm hn hr hk J hl) (fun hc => kf (xin hc h) p e s m below meth c H locs ls Z hm hn hr hk J hl)
theorem xo_icmp_ne {x y : Int32} {dc : Decidable (¬ x = y)} {A B : Option ρ} (hd : xDJ cc pc (.if_icmp .ne off) off tgt pc') (h : (@ite _ (¬ x = y) dc A B) = some ro) (kt : A = some ro → xK cc nL own nm ret R X lv (st) w sz cl sl tgt r) (kf : B = some ro → xK cc nL own nm ret R X lv (st) w sz cl sl pc' r) : xK cc nL own nm ret R X lv (.int y :: .int x :: st) w sz cl sl pc r := by
  obtain ⟨hd, rfl, ht⟩ := hd
  exact fun p e s m below meth c H locs ls Z hm hn hr hk J hl => lv_icmp_ne Z.1 Z.2.1 hd ht (fun hc => kt (xip hc h) p e s m below meth c H locs ls Z hm hn hr hk J hl) (fun hc => kf (xin (fun q => q hc) h) p e s m below meth c H locs ls Z hm hn hr hk J hl)
theorem xo_icmp_lt {x y : Int32} {dc : Decidable (x < y)} {A B : Option ρ} (hd : xDJ cc pc (.if_icmp .lt off) off tgt pc') (h : (@ite _ (x < y) dc A B) = some ro) (kt : A = some ro → xK cc nL own nm ret R X lv (st) w sz cl sl tgt r) (kf : B = some ro → xK cc nL own nm ret R X lv (st) w sz cl sl pc' r) : xK cc nL own nm ret R X lv (.int y :: .int x :: st) w sz cl sl pc r := by
  obtain ⟨hd, rfl, ht⟩ := hd
  exact fun p e s m below meth c H locs ls Z hm hn hr hk J hl => lv_icmp_lt Z.1 Z.2.1 hd ht (fun hc => kt (xip hc h) p e s m below meth c H locs ls Z hm hn hr hk J hl) (fun hc => kf (xin hc h) p e s m below meth c H locs ls Z hm hn hr hk J hl)
theorem xo_icmp_ge {x y : Int32} {dc : Decidable (y ≤ x)} {A B : Option ρ} (hd : xDJ cc pc (.if_icmp .ge off) off tgt pc') (h : (@ite _ (y ≤ x) dc A B) = some ro) (kt : A = some ro → xK cc nL own nm ret R X lv (st) w sz cl sl tgt r) (kf : B = some ro → xK cc nL own nm ret R X lv (st) w sz cl sl pc' r) : xK cc nL own nm ret R X lv (.int y :: .int x :: st) w sz cl sl pc r := by
  obtain ⟨hd, rfl, ht⟩ := hd
  exact fun p e s m below meth c H locs ls Z hm hn hr hk J hl => lv_icmp_ge Z.1 Z.2.1 hd ht (fun hc => kt (xip hc h) p e s m below meth c H locs ls Z hm hn hr hk J hl) (fun hc => kf (xin hc h) p e s m below meth c H locs ls Z hm hn hr hk J hl)
theorem xo_icmp_gt {x y : Int32} {dc : Decidable (y < x)} {A B : Option ρ} (hd : xDJ cc pc (.if_icmp .gt off) off tgt pc') (h : (@ite _ (y < x) dc A B) = some ro) (kt : A = some ro → xK cc nL own nm ret R X lv (st) w sz cl sl tgt r) (kf : B = some ro → xK cc nL own nm ret R X lv (st) w sz cl sl pc' r) : xK cc nL own nm ret R X lv (.int y :: .int x :: st) w sz cl sl pc r := by
  obtain ⟨hd, rfl, ht⟩ := hd
  exact fun p e s m below meth c H locs ls Z hm hn hr hk J hl => lv_icmp_gt Z.1 Z.2.1 hd ht (fun hc => kt (xip hc h) p e s m below meth c H locs ls Z hm hn hr hk J hl) (fun hc => kf (xin hc h) p e s m below meth c H locs ls Z hm hn hr hk J hl)
theorem xo_icmp_le {x y : Int32} {dc : Decidable (x ≤ y)} {A B : Option ρ} (hd : xDJ cc pc (.if_icmp .le off) off tgt pc') (h : (@ite _ (x ≤ y) dc A B) = some ro) (kt : A = some ro → xK cc nL own nm ret R X lv (st) w sz cl sl tgt r) (kf : B = some ro → xK cc nL own nm ret R X lv (st) w sz cl sl pc' r) : xK cc nL own nm ret R X lv (.int y :: .int x :: st) w sz cl sl pc r := by
  obtain ⟨hd, rfl, ht⟩ := hd
  exact fun p e s m below meth c H locs ls Z hm hn hr hk J hl => lv_icmp_le Z.1 Z.2.1 hd ht (fun hc => kt (xip hc h) p e s m below meth c H locs ls Z hm hn hr hk J hl) (fun hc => kf (xin hc h) p e s m below meth c H locs ls Z hm hn hr hk J hl)
theorem xo_if_eq {x : Int32} {dc : Decidable (x = 0)} {A B : Option ρ} (hd : xDJ cc pc (.ifCond .eq off) off tgt pc') (h : (@ite _ (x = 0) dc A B) = some ro) (kt : A = some ro → xK cc nL own nm ret R X lv (st) w sz cl sl tgt r) (kf : B = some ro → xK cc nL own nm ret R X lv (st) w sz cl sl pc' r) : xK cc nL own nm ret R X lv (.int x :: st) w sz cl sl pc r := by
  obtain ⟨hd, rfl, ht⟩ := hd
  exact fun p e s m below meth c H locs ls Z hm hn hr hk J hl => lv_if_eq Z.1 Z.2.1 hd ht (fun hc => kt (xip hc h) p e s m below meth c H locs ls Z hm hn hr hk J hl) (fun hc => kf (xin hc h) p e s m below meth c H locs ls Z hm hn hr hk J hl)
theorem xo_if_ne {x : Int32} {dc : Decidable (¬ x = 0)} {A B : Option ρ} (hd : xDJ cc pc (.ifCond .ne off) off tgt pc') (h : (@ite _ (¬ x = 0) dc A B) = some ro) (kt : A = some ro → xK cc nL own nm ret R X lv (st) w sz cl sl tgt r) (kf : B = some ro → xK cc nL own nm ret R X lv (st) w sz cl sl pc' r) : xK cc nL own nm ret R X lv (.int x :: st) w sz cl sl pc r := by
  obtain ⟨hd, rfl, ht⟩ := hd
  exact fun p e s m below meth c H locs ls Z hm hn hr hk J hl => lv_if_ne Z.1 Z.2.1 hd ht (fun hc => kt (xip hc h) p e s m below meth c H locs ls Z hm hn hr hk J hl) (fun hc => kf (xin (fun q => q hc) h) p e s m below meth c H locs ls Z hm hn hr hk J hl)
theorem xo_if_lt {x : Int32} {dc : Decidable (x < 0)} {A B : Option ρ} (hd : xDJ cc pc (.ifCond .lt off) off tgt pc') (h : (@ite _ (x < 0) dc A B) = some ro) (kt : A = some ro → xK cc nL own nm ret R X lv (st) w sz cl sl tgt r) (kf : B = some ro → xK cc nL own nm ret R X lv (st) w sz cl sl pc' r) : xK cc nL own nm ret R X lv (.int x :: st) w sz cl sl pc r := by
  obtain ⟨hd, rfl, ht⟩ := hd
  exact fun p e s m below meth c H locs ls Z hm hn hr hk J hl => lv_if_lt Z.1 Z.2.1 hd ht (fun hc => kt (xip hc h) p e s m below meth c H locs ls Z hm hn hr hk J hl) (fun hc => kf (xin hc h) p e s m below meth c H locs ls Z hm hn hr hk J hl)
theorem xo_if_ge {x : Int32} {dc : Decidable (0 ≤ x)} {A B : Option ρ} (hd : xDJ cc pc (.ifCond .ge off) off tgt pc') (h : (@ite _ (0 ≤ x) dc A B) = some ro) (kt : A = some ro → xK cc nL own nm ret R X lv (st) w sz cl sl tgt r) (kf : B = some ro → xK cc nL own nm ret R X lv (st) w sz cl sl pc' r) : xK cc nL own nm ret R X lv (.int x :: st) w sz cl sl pc r := by
  obtain ⟨hd, rfl, ht⟩ := hd
  exact fun p e s m below meth c H locs ls Z hm hn hr hk J hl => lv_if_ge Z.1 Z.2.1 hd ht (fun hc => kt (xip hc h) p e s m below meth c H locs ls Z hm hn hr hk J hl) (fun hc => kf (xin hc h) p e s m below meth c H locs ls Z hm hn hr hk J hl)
theorem xo_if_gt {x : Int32} {dc : Decidable (0 < x)} {A B : Option ρ} (hd : xDJ cc pc (.ifCond .gt off) off tgt pc') (h : (@ite _ (0 < x) dc A B) = some ro) (kt : A = some ro → xK cc nL own nm ret R X lv (st) w sz cl sl tgt r) (kf : B = some ro → xK cc nL own nm ret R X lv (st) w sz cl sl pc' r) : xK cc nL own nm ret R X lv (.int x :: st) w sz cl sl pc r := by
  obtain ⟨hd, rfl, ht⟩ := hd
  exact fun p e s m below meth c H locs ls Z hm hn hr hk J hl => lv_if_gt Z.1 Z.2.1 hd ht (fun hc => kt (xip hc h) p e s m below meth c H locs ls Z hm hn hr hk J hl) (fun hc => kf (xin hc h) p e s m below meth c H locs ls Z hm hn hr hk J hl)
theorem xo_if_le {x : Int32} {dc : Decidable (x ≤ 0)} {A B : Option ρ} (hd : xDJ cc pc (.ifCond .le off) off tgt pc') (h : (@ite _ (x ≤ 0) dc A B) = some ro) (kt : A = some ro → xK cc nL own nm ret R X lv (st) w sz cl sl tgt r) (kf : B = some ro → xK cc nL own nm ret R X lv (st) w sz cl sl pc' r) : xK cc nL own nm ret R X lv (.int x :: st) w sz cl sl pc r := by
  obtain ⟨hd, rfl, ht⟩ := hd
  exact fun p e s m below meth c H locs ls Z hm hn hr hk J hl => lv_if_le Z.1 Z.2.1 hd ht (fun hc => kt (xip hc h) p e s m below meth c H locs ls Z hm hn hr hk J hl) (fun hc => kf (xin hc h) p e s m below meth c H locs ls Z hm hn hr hk J hl)
theorem xo_lceq {x y : Int64} {pm : Nat} {dc : Decidable (x = y)} {A B : Option ρ} (h1 : xD cc pc .lcmp 1 pm) (hd : xDJ cc pm (.ifCond .eq off) off tgt pc') (h : (@ite _ (x = y) dc A B) = some ro) (kt : A = some ro → xK cc nL own nm ret R X lv (st) w sz cl sl tgt r) (kf : B = some ro → xK cc nL own nm ret R X lv (st) w sz cl sl pc' r) : xK cc nL own nm ret R X lv (.long y :: .long x :: st) w sz cl sl pc r := by
  obtain ⟨h1, rfl⟩ := h1
  obtain ⟨hd, rfl, ht⟩ := hd
  exact fun p e s m below meth c H locs ls Z hm hn hr hk J hl => W.lcmp Z.1 Z.2.1 h1 (lv_if_eq Z.1 Z.2.1 hd ht (fun hc => kt (xip ((lg_cmp_eq x y).mp hc) h) p e s m below meth c H locs ls Z hm hn hr hk J hl) (fun hc => kf (xin (fun q => hc ((lg_cmp_eq x y).mpr q)) h) p e s m below meth c H locs ls Z hm hn hr hk J hl))
theorem xo_lcne {x y : Int64} {pm : Nat} {dc : Decidable (¬ x = y)} {A B : Option ρ} (h1 : xD cc pc .lcmp 1 pm) (hd : xDJ cc pm (.ifCond .ne off) off tgt pc') (h : (@ite _ (¬ x = y) dc A B) = some ro) (kt : A = some ro → xK cc nL own nm ret R X lv (st) w sz cl sl tgt r) (kf : B = some ro → xK cc nL own nm ret R X lv (st) w sz cl sl pc' r) : xK cc nL own nm ret R X lv (.long y :: .long x :: st) w sz cl sl pc r := by
  obtain ⟨h1, rfl⟩ := h1
  obtain ⟨hd, rfl, ht⟩ := hd
  exact fun p e s m below meth c H locs ls Z hm hn hr hk J hl => W.lcmp Z.1 Z.2.1 h1 (lv_if_ne Z.1 Z.2.1 hd ht (fun hc => kt (xip ((not_congr (lg_cmp_eq x y)).mp hc) h) p e s m below meth c H locs ls Z hm hn hr hk J hl) (fun hc => kf (xin (fun q => q ((lg_cmp_eq x y).mp hc)) h) p e s m below meth c H locs ls Z hm hn hr hk J hl))
theorem xo_lclt {x y : Int64} {pm : Nat} {dc : Decidable (x < y)} {A B : Option ρ} (h1 : xD cc pc .lcmp 1 pm) (hd : xDJ cc pm (.ifCond .lt off) off tgt pc') (h : (@ite _ (x < y) dc A B) = some ro) (kt : A = some ro → xK cc nL own nm ret R X lv (st) w sz cl sl tgt r) (kf : B = some ro → xK cc nL own nm ret R X lv (st) w sz cl sl pc' r) : xK cc nL own nm ret R X lv (.long y :: .long x :: st) w sz cl sl pc r := by
  obtain ⟨h1, rfl⟩ := h1
  obtain ⟨hd, rfl, ht⟩ := hd
  exact fun p e s m below meth c H locs ls Z hm hn hr hk J hl => W.lcmp Z.1 Z.2.1 h1 (lv_if_lt Z.1 Z.2.1 hd ht (fun hc => kt (xip ((lg_cmp_lt x y).mp hc) h) p e s m below meth c H locs ls Z hm hn hr hk J hl) (fun hc => kf (xin (fun q => hc ((lg_cmp_lt x y).mpr q)) h) p e s m below meth c H locs ls Z hm hn hr hk J hl))
theorem xo_lcge {x y : Int64} {pm : Nat} {dc : Decidable (y ≤ x)} {A B : Option ρ} (h1 : xD cc pc .lcmp 1 pm) (hd : xDJ cc pm (.ifCond .ge off) off tgt pc') (h : (@ite _ (y ≤ x) dc A B) = some ro) (kt : A = some ro → xK cc nL own nm ret R X lv (st) w sz cl sl tgt r) (kf : B = some ro → xK cc nL own nm ret R X lv (st) w sz cl sl pc' r) : xK cc nL own nm ret R X lv (.long y :: .long x :: st) w sz cl sl pc r := by
  obtain ⟨h1, rfl⟩ := h1
  obtain ⟨hd, rfl, ht⟩ := hd
  exact fun p e s m below meth c H locs ls Z hm hn hr hk J hl => W.lcmp Z.1 Z.2.1 h1 (lv_if_ge Z.1 Z.2.1 hd ht (fun hc => kt (xip ((lg_cmp_ge x y).mp hc) h) p e s m below meth c H locs ls Z hm hn hr hk J hl) (fun hc => kf (xin (fun q => hc ((lg_cmp_ge x y).mpr q)) h) p e s m below meth c H locs ls Z hm hn hr hk J hl))
theorem xo_lcgt {x y : Int64} {pm : Nat} {dc : Decidable (y < x)} {A B : Option ρ} (h1 : xD cc pc .lcmp 1 pm) (hd : xDJ cc pm (.ifCond .gt off) off tgt pc') (h : (@ite _ (y < x) dc A B) = some ro) (kt : A = some ro → xK cc nL own nm ret R X lv (st) w sz cl sl tgt r) (kf : B = some ro → xK cc nL own nm ret R X lv (st) w sz cl sl pc' r) : xK cc nL own nm ret R X lv (.long y :: .long x :: st) w sz cl sl pc r := by
  obtain ⟨h1, rfl⟩ := h1
  obtain ⟨hd, rfl, ht⟩ := hd
  exact fun p e s m below meth c H locs ls Z hm hn hr hk J hl => W.lcmp Z.1 Z.2.1 h1 (lv_if_gt Z.1 Z.2.1 hd ht (fun hc => kt (xip ((lg_cmp_gt x y).mp hc) h) p e s m below meth c H locs ls Z hm hn hr hk J hl) (fun hc => kf (xin (fun q => hc ((lg_cmp_gt x y).mpr q)) h) p e s m below meth c H locs ls Z hm hn hr hk J hl))
theorem xo_lcle {x y : Int64} {pm : Nat} {dc : Decidable (x ≤ y)} {A B : Option ρ} (h1 : xD cc pc .lcmp 1 pm) (hd : xDJ cc pm (.ifCond .le off) off tgt pc') (h : (@ite _ (x ≤ y) dc A B) = some ro) (kt : A = some ro → xK cc nL own nm ret R X lv (st) w sz cl sl tgt r) (kf : B = some ro → xK cc nL own nm ret R X lv (st) w sz cl sl pc' r) : xK cc nL own nm ret R X lv (.long y :: .long x :: st) w sz cl sl pc r := by
  obtain ⟨h1, rfl⟩ := h1
  obtain ⟨hd, rfl, ht⟩ := hd
  exact fun p e s m below meth c H locs ls Z hm hn hr hk J hl => W.lcmp Z.1 Z.2.1 h1 (lv_if_le Z.1 Z.2.1 hd ht (fun hc => kt (xip ((lg_cmp_le x y).mp hc) h) p e s m below meth c H locs ls Z hm hn hr hk J hl) (fun hc => kf (xin (fun q => hc ((lg_cmp_le x y).mpr q)) h) p e s m below meth c H locs ls Z hm hn hr hk J hl))
theorem xo_tableIn {dflt lo hi : Int} {offs : Array Int} {len : Nat} {x : Int32} (off : Int) (tgt : Nat) (hd : xD cc pc (.tableswitch dflt lo hi offs) len pc') (h1 : ¬ x.toInt < lo) (h2 : ¬ hi < x.toInt) (ho : offs[(x.toInt - lo).toNat]? = some off) (ht : (pc : Int) + off = (tgt : Int)) (k : xK cc nL own nm ret R X lv (st) w sz cl sl tgt r) : xK cc nL own nm ret R X lv (.int x :: st) w sz cl sl pc r :=
  fun p e s m below meth c H locs ls Z hm hn hr hk J hl => lv_tableIn Z.1 Z.2.1 hd.1 h1 h2 ho ht (k p e s m below meth c H locs ls Z hm hn hr hk J hl)
theorem xo_tableOut {dflt lo hi : Int} {offs : Array Int} {len : Nat} {x : Int32} (tgt : Nat) (hd : xD cc pc (.tableswitch dflt lo hi offs) len pc') (h1 : x.toInt < lo ∨ hi < x.toInt) (ht : (pc : Int) + dflt = (tgt : Int)) (k : xK cc nL own nm ret R X lv (st) w sz cl sl tgt r) : xK cc nL own nm ret R X lv (.int x :: st) w sz cl sl pc r :=
  fun p e s m below meth c H locs ls Z hm hn hr hk J hl => lv_tableOut Z.1 Z.2.1 hd.1 h1 ht (k p e s m below meth c H locs ls Z hm hn hr hk J hl)
theorem xo_lookup {dflt : Int} {ps : Array (Int × Int)} {len : Nat} {x : Int32} (off : Int) (tgt : Nat) (hd : xD cc pc (.lookupswitch dflt ps) len pc') (hp : (ps.toList.zip (ps.toList.drop 1)).all (fun (a, next) => a.1 < next.1) = true) (ho : Op.lookupswitch.offset ps.toList dflt x.toInt = off) (ht : (pc : Int) + off = (tgt : Int)) (k : xK cc nL own nm ret R X lv (st) w sz cl sl tgt r) : xK cc nL own nm ret R X lv (.int x :: st) w sz cl sl pc r :=
  fun p e s m below meth c H locs ls Z hm hn hr hk J hl => lv_lookup Z.1 Z.2.1 hd.1 hp ho ht (k p e s m below meth c H locs ls Z hm hn hr hk J hl)
theorem xo_getI {ci index N a : Nat} {C : String} {T : u_T} {ty : Nat → FieldType} (k : Nat) {g : Int32 → Option ρ} (hd : xD cc pc (.getfield index) 3 pc') (K : xC ci C T N ty) (hkn : Nat.ble (k + 1) N = true) (hw : Cond.fieldLink own index C (T k).2.1 (T k).2.2.1 ∈ xT) (hc : (T k).1 = C) (h : (xfI w a ci k).bind g = some ro) (kk : ∀ x, g x = some ro → xK cc nL own nm ret R X lv (.int x :: st) w sz cl sl pc' r) : xK cc nL own nm ret R X lv (.ref a :: st) w sz cl sl pc r := by
  obtain ⟨hd, rfl⟩ := hd
  obtain ⟨x, hx, hq⟩ := xb h
  obtain ⟨fs, he, hv⟩ := xfI_inv hx
  exact fun p e s m below meth c H locs ls Z hm hn hr hk J hl => xg_getV Z J K k (Nat.le_of_ble_eq_true hkn) hw hc he hv hd (kk x hq p e s m below meth c H locs ls Z hm hn hr hk J hl)
theorem xo_getL {ci index N a : Nat} {C : String} {T : u_T} {ty : Nat → FieldType} (k : Nat) {g : Int64 → Option ρ} (hd : xD cc pc (.getfield index) 3 pc') (K : xC ci C T N ty) (hkn : Nat.ble (k + 1) N = true) (hw : Cond.fieldLink own index C (T k).2.1 (T k).2.2.1 ∈ xT) (hc : (T k).1 = C) (h : (xfL w a ci k).bind g = some ro) (kk : ∀ x, g x = some ro → xK cc nL own nm ret R X lv (.long x :: st) w sz cl sl pc' r) : xK cc nL own nm ret R X lv (.ref a :: st) w sz cl sl pc r := by
  obtain ⟨hd, rfl⟩ := hd
  obtain ⟨x, hx, hq⟩ := xb h
  obtain ⟨fs, he, hv⟩ := xfL_inv hx
  exact fun p e s m below meth c H locs ls Z hm hn hr hk J hl => xg_getV Z J K k (Nat.le_of_ble_eq_true hkn) hw hc he hv hd (kk x hq p e s m below meth c H locs ls Z hm hn hr hk J hl)
theorem xo_getR {ci index N a : Nat} {C : String} {T : u_T} {ty : Nat → FieldType} (k : Nat) {g : Nat → Option ρ} (hd : xD cc pc (.getfield index) 3 pc') (K : xC ci C T N ty) (hkn : Nat.ble (k + 1) N = true) (hw : Cond.fieldLink own index C (T k).2.1 (T k).2.2.1 ∈ xT) (hc : (T k).1 = C) (h : (xfR w a ci k).bind g = some ro) (kk : ∀ x, g x = some ro → xK cc nL own nm ret R X lv (.ref x :: st) w sz cl sl pc' r) : xK cc nL own nm ret R X lv (.ref a :: st) w sz cl sl pc r := by
  obtain ⟨hd, rfl⟩ := hd
  obtain ⟨x, hx, hq⟩ := xb h
  obtain ⟨fs, he, hv⟩ := xfR_inv hx
  exact fun p e s m below meth c H locs ls Z hm hn hr hk J hl => xg_getV Z J K k (Nat.le_of_ble_eq_true hkn) hw hc he hv hd (kk x hq p e s m below meth c H locs ls Z hm hn hr hk J hl)
theorem xo_putI {ci index N a : Nat} {C : String} {T : u_T} {ty : Nat → FieldType} {x : Int32} (k : Nat) {g : xw → Option ρ} (hd : xD cc pc (.putfield index) 3 pc') (K : xC ci C T N ty) (hkn : Nat.ble (k + 1) N = true) (hw : Cond.fieldLink own index C (T k).2.1 (T k).2.2.1 ∈ xT) (hc : (T k).1 = C) (hfin : (T k).2.2.2 = false) (hnar : narrow (ty k) (.int x) = .int x) (hfit : fits (ty k) (.int x) = true) (h : (xpI w a ci k x).bind g = some ro) (kk : ∀ w1, g w1 = some ro → xK cc nL own nm ret R X lv (st) w1 sz cl sl pc' r) : xK cc nL own nm ret R X lv (.int x :: .ref a :: st) w sz cl sl pc r := by
  obtain ⟨hd, rfl⟩ := hd
  obtain ⟨w1, hx, hq⟩ := xb h
  exact fun p e s m below meth c H locs ls Z hm hn hr hk J hl => xg_putV Z J K k (Nat.le_of_ble_eq_true hkn) hw hc hfin hnar hfit hd hx (fun H locs J => kk w1 hq p e s m below meth c H locs ls Z hm hn hr hk J hl)
theorem xo_putIF {ci index N a : Nat} {C : String} {T : u_T} {ty : Nat → FieldType} {x : Int32} (k : Nat) {g : xw → Option ρ} (hd : xD cc pc (.putfield index) 3 pc') (K : xC ci C T N ty) (hkn : Nat.ble (k + 1) N = true) (hw : Cond.fieldLink own index C (T k).2.1 (T k).2.2.1 ∈ xT) (hc : (T k).1 = C) (hfin : (T k).2.2.2 = true) (hnm : nm = "<init>") (hdecl : C = own) (hnar : narrow (ty k) (.int x) = .int x) (hfit : fits (ty k) (.int x) = true) (h : (xpI w a ci k x).bind g = some ro) (kk : ∀ w1, g w1 = some ro → xK cc nL own nm ret R X lv (st) w1 sz cl sl pc' r) : xK cc nL own nm ret R X lv (.int x :: .ref a :: st) w sz cl sl pc r := by
  obtain ⟨hd, rfl⟩ := hd
  obtain ⟨w1, hx, hq⟩ := xb h
  exact fun p e s m below meth c H locs ls Z hm hn hr hk J hl => xg_putF Z J K k (Nat.le_of_ble_eq_true hkn) hw hc hfin (hn.trans hnm) hdecl hnar hfit hd hx (fun H locs J => kk w1 hq p e s m below meth c H locs ls Z hm hn hr hk J hl)
theorem xo_putL {ci index N a : Nat} {C : String} {T : u_T} {ty : Nat → FieldType} {x : Int64} (k : Nat) {g : xw → Option ρ} (hd : xD cc pc (.putfield index) 3 pc') (K : xC ci C T N ty) (hkn : Nat.ble (k + 1) N = true) (hw : Cond.fieldLink own index C (T k).2.1 (T k).2.2.1 ∈ xT) (hc : (T k).1 = C) (hfin : (T k).2.2.2 = false) (hnar : narrow (ty k) (.long x) = .long x) (hfit : fits (ty k) (.long x) = true) (h : (xpL w a ci k x).bind g = some ro) (kk : ∀ w1, g w1 = some ro → xK cc nL own nm ret R X lv (st) w1 sz cl sl pc' r) : xK cc nL own nm ret R X lv (.long x :: .ref a :: st) w sz cl sl pc r := by
  obtain ⟨hd, rfl⟩ := hd
  obtain ⟨w1, hx, hq⟩ := xb h
  exact fun p e s m below meth c H locs ls Z hm hn hr hk J hl => xg_putV Z J K k (Nat.le_of_ble_eq_true hkn) hw hc hfin hnar hfit hd hx (fun H locs J => kk w1 hq p e s m below meth c H locs ls Z hm hn hr hk J hl)
theorem xo_putLF {ci index N a : Nat} {C : String} {T : u_T} {ty : Nat → FieldType} {x : Int64} (k : Nat) {g : xw → Option ρ} (hd : xD cc pc (.putfield index) 3 pc') (K : xC ci C T N ty) (hkn : Nat.ble (k + 1) N = true) (hw : Cond.fieldLink own index C (T k).2.1 (T k).2.2.1 ∈ xT) (hc : (T k).1 = C) (hfin : (T k).2.2.2 = true) (hnm : nm = "<init>") (hdecl : C = own) (hnar : narrow (ty k) (.long x) = .long x) (hfit : fits (ty k) (.long x) = true) (h : (xpL w a ci k x).bind g = some ro) (kk : ∀ w1, g w1 = some ro → xK cc nL own nm ret R X lv (st) w1 sz cl sl pc' r) : xK cc nL own nm ret R X lv (.long x :: .ref a :: st) w sz cl sl pc r := by
  obtain ⟨hd, rfl⟩ := hd
  obtain ⟨w1, hx, hq⟩ := xb h
  exact fun p e s m below meth c H locs ls Z hm hn hr hk J hl => xg_putF Z J K k (Nat.le_of_ble_eq_true hkn) hw hc hfin (hn.trans hnm) hdecl hnar hfit hd hx (fun H locs J => kk w1 hq p e s m below meth c H locs ls Z hm hn hr hk J hl)
theorem xo_putR {ci index N a : Nat} {C : String} {T : u_T} {ty : Nat → FieldType} {x : Nat} (k : Nat) {g : xw → Option ρ} (hd : xD cc pc (.putfield index) 3 pc') (K : xC ci C T N ty) (hkn : Nat.ble (k + 1) N = true) (hw : Cond.fieldLink own index C (T k).2.1 (T k).2.2.1 ∈ xT) (hc : (T k).1 = C) (hfin : (T k).2.2.2 = false) (hnar : narrow (ty k) (.ref x) = .ref x) (hfit : fits (ty k) (.ref x) = true) (h : (xpR w a ci k x).bind g = some ro) (kk : ∀ w1, g w1 = some ro → xK cc nL own nm ret R X lv (st) w1 sz cl sl pc' r) : xK cc nL own nm ret R X lv (.ref x :: .ref a :: st) w sz cl sl pc r := by
  obtain ⟨hd, rfl⟩ := hd
  obtain ⟨w1, hx, hq⟩ := xb h
  exact fun p e s m below meth c H locs ls Z hm hn hr hk J hl => xg_putV Z J K k (Nat.le_of_ble_eq_true hkn) hw hc hfin hnar hfit hd hx (fun H locs J => kk w1 hq p e s m below meth c H locs ls Z hm hn hr hk J hl)
theorem xo_putRF {ci index N a : Nat} {C : String} {T : u_T} {ty : Nat → FieldType} {x : Nat} (k : Nat) {g : xw → Option ρ} (hd : xD cc pc (.putfield index) 3 pc') (K : xC ci C T N ty) (hkn : Nat.ble (k + 1) N = true) (hw : Cond.fieldLink own index C (T k).2.1 (T k).2.2.1 ∈ xT) (hc : (T k).1 = C) (hfin : (T k).2.2.2 = true) (hnm : nm = "<init>") (hdecl : C = own) (hnar : narrow (ty k) (.ref x) = .ref x) (hfit : fits (ty k) (.ref x) = true) (h : (xpR w a ci k x).bind g = some ro) (kk : ∀ w1, g w1 = some ro → xK cc nL own nm ret R X lv (st) w1 sz cl sl pc' r) : xK cc nL own nm ret R X lv (.ref x :: .ref a :: st) w sz cl sl pc r := by
  obtain ⟨hd, rfl⟩ := hd
  obtain ⟨w1, hx, hq⟩ := xb h
  exact fun p e s m below meth c H locs ls Z hm hn hr hk J hl => xg_putF Z J K k (Nat.le_of_ble_eq_true hkn) hw hc hfin (hn.trans hnm) hdecl hnar hfit hd hx (fun H locs J => kk w1 hq p e s m below meth c H locs ls Z hm hn hr hk J hl)
theorem xo_putZ {ci index N a : Nat} {C : String} {T : u_T} {ty : Nat → FieldType} {x : Int32} (k : Nat) {g : xw → Option ρ} (hd : xD cc pc (.putfield index) 3 pc') (K : xC ci C T N ty) (hkn : Nat.ble (k + 1) N = true) (hw : Cond.fieldLink own index C (T k).2.1 (T k).2.2.1 ∈ xT) (hc : (T k).1 = C) (hfin : (T k).2.2.2 = false) (hty : ty k = .boolean) (h : (xpZ w a ci k x).bind g = some ro) (kk : ∀ w1, g w1 = some ro → xK cc nL own nm ret R X lv (st) w1 sz cl sl pc' r) : xK cc nL own nm ret R X lv (.int x :: .ref a :: st) w sz cl sl pc r := by
  obtain ⟨hd, rfl⟩ := hd
  obtain ⟨w1, hx, hq⟩ := xb h
  unfold xpZ at hx
  split at hx
  · rename_i hb
    obtain ⟨n1, n2, -⟩ := xnar hb
    exact fun p e s m below meth c H locs ls Z hm hn hr hk J hl => xg_putV Z J K k (Nat.le_of_ble_eq_true hkn) hw hc hfin (by rw [hty]; exact n1) (by rw [hty]; exact n2) hd hx (fun H locs J => kk w1 hq p e s m below meth c H locs ls Z hm hn hr hk J hl)
  · cases hx
theorem xo_putZF {ci index N a : Nat} {C : String} {T : u_T} {ty : Nat → FieldType} {x : Int32} (k : Nat) {g : xw → Option ρ} (hd : xD cc pc (.putfield index) 3 pc') (K : xC ci C T N ty) (hkn : Nat.ble (k + 1) N = true) (hw : Cond.fieldLink own index C (T k).2.1 (T k).2.2.1 ∈ xT) (hc : (T k).1 = C) (hfin : (T k).2.2.2 = true) (hnm : nm = "<init>") (hdecl : C = own) (hty : ty k = .boolean) (h : (xpZ w a ci k x).bind g = some ro) (kk : ∀ w1, g w1 = some ro → xK cc nL own nm ret R X lv (st) w1 sz cl sl pc' r) : xK cc nL own nm ret R X lv (.int x :: .ref a :: st) w sz cl sl pc r := by
  obtain ⟨hd, rfl⟩ := hd
  obtain ⟨w1, hx, hq⟩ := xb h
  unfold xpZ at hx
  split at hx
  · rename_i hb
    obtain ⟨n1, n2, -⟩ := xnar hb
    exact fun p e s m below meth c H locs ls Z hm hn hr hk J hl => xg_putF Z J K k (Nat.le_of_ble_eq_true hkn) hw hc hfin (hn.trans hnm) hdecl (by rw [hty]; exact n1) (by rw [hty]; exact n2) hd hx (fun H locs J => kk w1 hq p e s m below meth c H locs ls Z hm hn hr hk J hl)
  · cases hx
theorem xo_aldI {a : Nat} {i : Int32} {g : Int32 → Option ρ} (hd : xD cc pc .iaload 1 pc') (h : (xaI w a i).bind g = some ro) (kk : ∀ x, g x = some ro → xK cc nL own nm ret R X lv (.int x :: st) w sz cl sl pc' r) : xK cc nL own nm ret R X lv (.int i :: .ref a :: st) w sz cl sl pc r := by
  obtain ⟨hd, rfl⟩ := hd
  obtain ⟨x, hx, hq⟩ := xb h
  obtain ⟨n, f, he, hi, rfl⟩ := xaI_inv hx
  exact fun p e s m below meth c H locs ls Z hm hn hr hk J hl => va_iald Z.1 Z.2.1 Z.2.2.2.2.1 (xP1 (J.1 a _ he)) 0 0 rfl rfl hi hd (kk _ hq p e s m below meth c H locs ls Z hm hn hr hk J hl)
theorem xo_aldZ {a : Nat} {i : Int32} {g : Int32 → Option ρ} (hd : xD cc pc .baload 1 pc') (h : (xaZ w a i).bind g = some ro) (kk : ∀ x, g x = some ro → xK cc nL own nm ret R X lv (.int x :: st) w sz cl sl pc' r) : xK cc nL own nm ret R X lv (.int i :: .ref a :: st) w sz cl sl pc r := by
  obtain ⟨hd, rfl⟩ := hd
  obtain ⟨x, hx, hq⟩ := xb h
  obtain ⟨n, f, he, hi, rfl⟩ := xaZ_inv hx
  exact fun p e s m below meth c H locs ls Z hm hn hr hk J hl => va_zald Z.1 Z.2.1 Z.2.2.2.2.1 (xP1 (J.1 a _ he)) 0 2 rfl rfl hi hd (kk _ hq p e s m below meth c H locs ls Z hm hn hr hk J hl)
theorem xo_aldL {a : Nat} {i : Int32} {g : Int64 → Option ρ} (hd : xD cc pc .laload 1 pc') (h : (xaL w a i).bind g = some ro) (kk : ∀ x, g x = some ro → xK cc nL own nm ret R X lv (.long x :: st) w sz cl sl pc' r) : xK cc nL own nm ret R X lv (.int i :: .ref a :: st) w sz cl sl pc r := by
  obtain ⟨hd, rfl⟩ := hd
  obtain ⟨x, hx, hq⟩ := xb h
  obtain ⟨n, f, he, hi, rfl⟩ := xaL_inv hx
  exact fun p e s m below meth c H locs ls Z hm hn hr hk J hl => va_lald Z.1 Z.2.1 Z.2.2.2.2.1 (xP1 (J.1 a _ he)) 0 1 rfl rfl hi hd (kk _ hq p e s m below meth c H locs ls Z hm hn hr hk J hl)
theorem xo_aldR {a : Nat} {i : Int32} {g : Nat → Option ρ} (hd : xD cc pc .aaload 1 pc') (h : (xaR w a i).bind g = some ro) (kk : ∀ x, g x = some ro → xK cc nL own nm ret R X lv (.ref x :: st) w sz cl sl pc' r) : xK cc nL own nm ret R X lv (.int i :: .ref a :: st) w sz cl sl pc r := by
  obtain ⟨hd, rfl⟩ := hd
  obtain ⟨x, hx, hq⟩ := xb h
  obtain ⟨t, n, f, he, ht, hi, hf⟩ := xaR_inv hx
  have key : ∀ (t0 : Nat) (C : String), (∀ cT : Nat → ClassId, (xtys cT)[t0]? = some (cT t, .object C)) → xK cc nL own nm ret R X lv (.int i :: .ref a :: st) w sz cl sl pc r := fun t0 C hty p e s m below meth c H locs ls Z hm hn hr hk J hl =>
    va_aldq (C := C) Z.1 Z.2.1 Z.2.2.2.2.1 (xP1 (J.1 a _ he)) 0 t0 rfl (hty _) hi hd (by rw [hf]; exact kk _ hq p e s m below meth c H locs ls Z hm hn hr hk J hl)
  have h3 : t = 3 ∨ t = 4 ∨ t = 5 := by omega
  rcases h3 with rfl | rfl | rfl
  · exact key 3 _ (fun _ => rfl)
  · exact key 4 _ (fun _ => rfl)
  · exact key 5 _ (fun _ => rfl)
theorem xo_astI {a : Nat} {i : Int32} {x : Int32} {g : xw → Option ρ} (hd : xD cc pc .iastore 1 pc') (h : (xsI w a i x).bind g = some ro) (kk : ∀ w1, g w1 = some ro → xK cc nL own nm ret R X lv (st) w1 sz cl sl pc' r) : xK cc nL own nm ret R X lv (.int x :: .int i :: .ref a :: st) w sz cl sl pc r := by
  obtain ⟨hd, rfl⟩ := hd
  obtain ⟨w1, hx, hq⟩ := xb h
  obtain ⟨n, f, he, hi, rfl⟩ := xsI_inv hx
  exact fun p e s m below meth c H locs ls Z hm hn hr hk J hl => by
    refine W.iast Z.1 Z.2.1 (J.1 a _ he) ((Z.2.2.2.2.1.2 0 _ rfl).1 n (fun j => .int (f j))) (fun q => by cases q) (by show ¬ (i < 0 ∨ (arrV _ _ _).slots.size ≤ _); rw [arrV_size]; exact hi) rfl rfl hd fun H1 e1 z oq => ?_
    refine kk _ hq p e s m below meth c H1 _ ls Z hm hn hr hk (J.put he ?_ z oq) hl
    show H1[a]? = some (vp_cell _ _)
    rw [e1]
    show some (Cell.setSlot (vp_cell _ _) _ _) = _
    rw [vp_cell_i, vp_cell_i, arrV_store]
    congr 2
    funext q
    by_cases hq : q = i.toNatClampNeg
    · subst hq
      simp [updV, upd]
    · simp [updV, upd, hq]
theorem xo_astL {a : Nat} {i : Int32} {x : Int64} {g : xw → Option ρ} (hd : xD cc pc .lastore 1 pc') (h : (xsL w a i x).bind g = some ro) (kk : ∀ w1, g w1 = some ro → xK cc nL own nm ret R X lv (st) w1 sz cl sl pc' r) : xK cc nL own nm ret R X lv (.long x :: .int i :: .ref a :: st) w sz cl sl pc r := by
  obtain ⟨hd, rfl⟩ := hd
  obtain ⟨w1, hx, hq⟩ := xb h
  obtain ⟨n, f, he, hi, rfl⟩ := xsL_inv hx
  exact fun p e s m below meth c H locs ls Z hm hn hr hk J hl => by
    refine W.last Z.1 Z.2.1 (J.1 a _ he) ((Z.2.2.2.2.1.2 1 _ rfl).1 n (fun j => .long (f j))) (fun q => by cases q) (by show ¬ (i < 0 ∨ (arrV _ _ _).slots.size ≤ _); rw [arrV_size]; exact hi) rfl rfl hd fun H1 e1 z oq => ?_
    refine kk _ hq p e s m below meth c H1 _ ls Z hm hn hr hk (J.put he ?_ z oq) hl
    show H1[a]? = some (vp_cell _ _)
    rw [e1]
    show some (Cell.setSlot (vp_cell _ _) _ _) = _
    rw [vp_cell_l, vp_cell_l, arrV_store]
    congr 2
    funext q
    by_cases hq : q = i.toNatClampNeg
    · subst hq
      simp [updV, vp_updL]
    · simp [updV, vp_updL, hq]
theorem xo_astZ {a : Nat} {i : Int32} {x : Int32} {g : xw → Option ρ} (hd : xD cc pc .bastore 1 pc') (h : (xsZ w a i x).bind g = some ro) (kk : ∀ w1, g w1 = some ro → xK cc nL own nm ret R X lv (st) w1 sz cl sl pc' r) : xK cc nL own nm ret R X lv (.int x :: .int i :: .ref a :: st) w sz cl sl pc r := by
  obtain ⟨hd, rfl⟩ := hd
  obtain ⟨w1, hx, hq⟩ := xb h
  obtain ⟨n, f, he, hb, hi, rfl⟩ := xsZ_inv hx
  obtain ⟨-, -, hnr⟩ := xnar hb
  exact fun p e s m below meth c H locs ls Z hm hn hr hk J hl => by
    refine W.zast Z.1 Z.2.1 (J.1 a _ he) ((Z.2.2.2.2.1.2 2 _ rfl).1 n (fun j => .int (f j))) (fun q => by cases q) (by show ¬ (i < 0 ∨ (arrV _ _ _).slots.size ≤ _); rw [arrV_size]; exact hi) rfl rfl hd fun H1 e1 z oq => ?_
    refine kk _ hq p e s m below meth c H1 _ ls Z hm hn hr hk (J.put he ?_ z oq) hl
    show H1[a]? = some (vp_cell _ _)
    rw [e1]
    show some (Cell.setSlot (vp_cell _ _) _ _) = _
    rw [vp_cell_i, vp_cell_i, arrV_store]
    congr 2
    funext q
    by_cases hq : q = i.toNatClampNeg
    · subst hq
      rcases hb with rfl | rfl <;> simp [updV, upd] <;> rfl
    · simp [updV, upd, hq]
theorem xo_obj {index a : Nat} (hd : xD cc pc (.invokespecial index) 3 pc') (hw : Cond.methodLink own index Lib.objectInit ∈ xT) (hfr : Nat.ble 1 R.frames = true) (hsm : Nat.ble ((st.map fun v => v.category).sum + 12) R.locals = true) (k : xK cc nL own nm ret R X lv (st) w sz cl sl pc' r) : xK cc nL own nm ret R X lv (.ref a :: st) w sz cl sl pc r := by
  obtain ⟨hd, rfl⟩ := hd
  exact fun p e s m below meth c H locs ls Z hm hn hr hk J hl => W.objInit Z.1 Z.2.1 Z.2.2.1 (Z.2.2.2.1 _ hw) (Z.2.2.2.1 _ xw_objinst) (Z.2.2.2.1 _ xw_objcode) rfl (hl.1.trans hm.symm) rfl hd (Nat.le_of_ble_eq_true hfr) (by
    have := Nat.le_of_ble_eq_true hsm
    show 2 * (F0 m pc ls (.ref a :: st)).monitorRoom + (st.map fun v => v.category).sum + 12 ≤ R.locals
    have h0 : (F0 m pc ls (.ref a :: st)).monitorRoom = 0 := rfl
    omega) (k p e s m below meth c H locs ls Z hm hn hr hk J hl)
theorem xo_mmaxI {index : Nat} {x y : Int32} {g : Int32 → Option ρ} (hd : xD cc pc (.invokestatic index) 3 pc') (hw : Cond.methodLink own index Lib.Math.max.name ∈ xT) (hfr : Nat.ble 1 R.frames = true) (hlo : Nat.ble ((st.map fun v => v.category).sum + 13) R.locals = true) (hcl : Nat.ble cl R.cells = true) (hsl : Nat.ble sl R.slots = true) (h : (some (if x < y then y else x)).bind g = some ro) (k : ∀ z, g z = some ro → xK cc nL own nm ret R X lv (.int z :: st) w sz cl sl pc' r) : xK cc nL own nm ret R X lv (.int y :: .int x :: st) w sz cl sl pc r := by
  obtain ⟨hd, rfl⟩ := hd
  exact fun p e s m below meth c H locs ls Z hm hn hr hk J hl => va_mmax Z.1 Z.2.1 (hm.trans hl.1.symm) Z.2.2.1 (Z.2.2.2.1 _ hw) (Z.2.2.2.1 _ xw_mmaxI.1) (Z.2.2.2.1 _ xw_mmaxI.2.1) (Z.2.2.2.1 _ xw_mmaxI.2.2) (Nat.le_of_ble_eq_true hfr) (Nat.le_of_ble_eq_true hlo) (Nat.le_of_ble_eq_true hcl) (Nat.le_of_ble_eq_true hsl) hd (k _ h p e s m below meth c H locs ls Z hm hn hr hk J hl)
theorem xo_mminI {index : Nat} {x y : Int32} {g : Int32 → Option ρ} (hd : xD cc pc (.invokestatic index) 3 pc') (hw : Cond.methodLink own index Lib.Math.min.name ∈ xT) (hfr : Nat.ble 1 R.frames = true) (hlo : Nat.ble ((st.map fun v => v.category).sum + 13) R.locals = true) (hcl : Nat.ble cl R.cells = true) (hsl : Nat.ble sl R.slots = true) (h : (some (if y < x then y else x)).bind g = some ro) (k : ∀ z, g z = some ro → xK cc nL own nm ret R X lv (.int z :: st) w sz cl sl pc' r) : xK cc nL own nm ret R X lv (.int y :: .int x :: st) w sz cl sl pc r := by
  obtain ⟨hd, rfl⟩ := hd
  exact fun p e s m below meth c H locs ls Z hm hn hr hk J hl => va_mmin Z.1 Z.2.1 (hm.trans hl.1.symm) Z.2.2.1 (Z.2.2.2.1 _ hw) (Z.2.2.2.1 _ xw_mminI.1) (Z.2.2.2.1 _ xw_mminI.2.1) (Z.2.2.2.1 _ xw_mminI.2.2) (Nat.le_of_ble_eq_true hfr) (Nat.le_of_ble_eq_true hlo) (Nat.le_of_ble_eq_true hcl) (Nat.le_of_ble_eq_true hsl) hd (k _ h p e s m below meth c H locs ls Z hm hn hr hk J hl)
theorem xo_mmaxL {index : Nat} {x y : Int64} {g : Int64 → Option ρ} (hd : xD cc pc (.invokestatic index) 3 pc') (hw : Cond.methodLink own index Lib.MathLoose.max_long.x ∈ xT) (hfr : Nat.ble 1 R.frames = true) (hlo : Nat.ble ((st.map fun v => v.category).sum + 15) R.locals = true) (hcl : Nat.ble cl R.cells = true) (hsl : Nat.ble sl R.slots = true) (h : (some (if y < x then x else y)).bind g = some ro) (k : ∀ z, g z = some ro → xK cc nL own nm ret R X lv (.long z :: st) w sz cl sl pc' r) : xK cc nL own nm ret R X lv (.long y :: .long x :: st) w sz cl sl pc r := by
  obtain ⟨hd, rfl⟩ := hd
  exact fun p e s m below meth c H locs ls Z hm hn hr hk J hl => va_mmax_long Z.1 Z.2.1 (hm.trans hl.1.symm) Z.2.2.1 (Z.2.2.2.1 _ hw) (Z.2.2.2.1 _ xw_mmaxJ.1) (Z.2.2.2.1 _ xw_mmaxJ.2.1) (Z.2.2.2.1 _ xw_mmaxJ.2.2) (Nat.le_of_ble_eq_true hfr) (Nat.le_of_ble_eq_true hlo) (Nat.le_of_ble_eq_true hcl) (Nat.le_of_ble_eq_true hsl) hd (k _ h p e s m below meth c H locs ls Z hm hn hr hk J hl)
theorem xo_mminL {index : Nat} {x y : Int64} {g : Int64 → Option ρ} (hd : xD cc pc (.invokestatic index) 3 pc') (hw : Cond.methodLink own index Lib.MathLoose.min_long.x ∈ xT) (hfr : Nat.ble 1 R.frames = true) (hlo : Nat.ble ((st.map fun v => v.category).sum + 15) R.locals = true) (hcl : Nat.ble cl R.cells = true) (hsl : Nat.ble sl R.slots = true) (h : (some (if y < x then y else x)).bind g = some ro) (k : ∀ z, g z = some ro → xK cc nL own nm ret R X lv (.long z :: st) w sz cl sl pc' r) : xK cc nL own nm ret R X lv (.long y :: .long x :: st) w sz cl sl pc r := by
  obtain ⟨hd, rfl⟩ := hd
  exact fun p e s m below meth c H locs ls Z hm hn hr hk J hl => va_mmin_long Z.1 Z.2.1 (hm.trans hl.1.symm) Z.2.2.1 (Z.2.2.2.1 _ hw) (Z.2.2.2.1 _ xw_mminJ.1) (Z.2.2.2.1 _ xw_mminJ.2.1) (Z.2.2.2.1 _ xw_mminJ.2.2) (Nat.le_of_ble_eq_true hfr) (Nat.le_of_ble_eq_true hlo) (Nat.le_of_ble_eq_true hcl) (Nat.le_of_ble_eq_true hsl) hd (k _ h p e s m below meth c H locs ls Z hm hn hr hk J hl)
theorem xc_S {As rest st0 : List Value} {y : MethodName} {bytes : ByteArray} {maxL n index : Nat} {ret' : Option FieldType} {R' : Room} {r' : xR} (hd : xD cc pc (.invokestatic index) 3 pc') (hw : Cond.methodLink own index y ∈ xT) (hy : xYS y bytes maxL ret' n) (hM : xM X.1 y bytes maxL ret' R' X.2.1 X.2.2.1 As w sz r') (hf : xfit R' maxL R cl sl = true) (hnA : As.length = n) (hst : st0 = As.reverse ++ rest) (hW : Nat.ble (rest.map fun v => v.category).sum 8 = true) (k : xK cc nL own nm ret R X lv (r'.1.toList ++ rest) r'.2.1 r'.2.2 (cl + R'.cells) (sl + R'.slots) pc' r) : xK cc nL own nm ret R X lv (st0) w sz cl sl pc r := by
  obtain ⟨hd, rfl⟩ := hd
  obtain ⟨hf1, hf2⟩ := xfit_of hf
  exact fun p e s m below meth c H locs ls Z hm hn hr hk J hl => xg_go (va_runS (As := As) (n := n) ⟨Z.1, Z.2.1, hm, Z.2.2.1, Z.2.2.2.1⟩ hM ⟨callB_of n Z.2.2.2.1 (xgood hy.1) rfl rfl rfl (Z.2.2.2.1 _ hy.2.2.1) (Z.2.2.2.1 _ hw) hy.2.2.2 hf1, Z.2.2.2.1 _ hy.2.1⟩ (xg_pre Z J) rfl hnA hl.1 hst (lv_room (Nat.le_of_ble_eq_true hW)) hd hf2) J (fun H locs J => k p e s m below meth c H locs ls Z hm hn hr hk J hl)
theorem xc_SN {host : String} {As rest st0 : List Value} {y : MethodName} {bytes : ByteArray} {maxL n index : Nat} {ret' : Option FieldType} {R' : Room} {r' : xR} (hd : xD cc pc (.invokestatic index) 3 pc') (hw : (own, index, y, host) ∈ xNw) (hy : xYS y bytes maxL ret' n) (hM : xM X.1 y bytes maxL ret' R' X.2.1 X.2.2.1 As w sz r') (hf : xfit R' maxL R cl sl = true) (hnA : As.length = n) (hst : st0 = As.reverse ++ rest) (hW : Nat.ble (rest.map fun v => v.category).sum 8 = true) (k : xK cc nL own nm ret R X lv (r'.1.toList ++ rest) r'.2.1 r'.2.2 (cl + R'.cells) (sl + R'.slots) pc' r) : xK cc nL own nm ret R X lv (st0) w sz cl sl pc r := by
  obtain ⟨hd, rfl⟩ := hd
  obtain ⟨hf1, hf2⟩ := xfit_of hf
  exact fun p e s m below meth c H locs ls Z hm hn hr hk J hl => xg_go (va_runSN (As := As) (n := n) ⟨Z.1, Z.2.1, hm, Z.2.2.1, Z.2.2.2.1⟩ hM ⟨va_cnB n Z.2.2.2.1 (xgood hy.1) rfl rfl rfl (Z.2.2.2.2.2.1 _ hw) (Z.2.2.2.1 _ hy.2.2.1) hy.2.2.2 hf1, Z.2.2.2.1 _ hy.2.1, trivial⟩ (xg_pre Z J) rfl hnA hl.1 hst (lv_room (Nat.le_of_ble_eq_true hW)) hd hf2) J (fun H locs J => k p e s m below meth c H locs ls Z hm hn hr hk J hl)
theorem xc_V {As rest st0 : List Value} {y : MethodName} {bytes : ByteArray} {maxL n index b ci N : Nat} {T : u_T} {ty : Nat → FieldType} {ret' : Option FieldType} {R' : Room} {r' : xR} {u : Unit} (hd : xD cc pc (.invokevirtual index) 3 pc') (hw : Cond.methodLink own index y ∈ xT) (hy : xYV y bytes maxL ret' n) (K : xC ci y.cls T N ty) (hck : xck w b ci = some u) (hM : xM X.1 y bytes maxL ret' R' X.2.1 X.2.2.1 (.ref b :: As) w sz r') (hf : xfit R' maxL R cl sl = true) (hnA : As.length = n) (hst : st0 = As.reverse ++ .ref b :: rest) (hW : Nat.ble (rest.map fun v => v.category).sum 8 = true) (k : xK cc nL own nm ret R X lv (r'.1.toList ++ rest) r'.2.1 r'.2.2 (cl + R'.cells) (sl + R'.slots) pc' r) : xK cc nL own nm ret R X lv (st0) w sz cl sl pc r := by
  obtain ⟨hd, rfl⟩ := hd
  obtain ⟨hf1, hf2⟩ := xfit_of hf
  obtain ⟨fs, he⟩ := xck_inv hck
  exact fun p e s m below meth c H locs ls Z hm hn hr hk J hl => xg_go (va_runV (C := y.cls) (b := b) (As := As) (n := n) ⟨Z.1, Z.2.1, hm, Z.2.2.1, Z.2.2.2.1⟩ hM ⟨callB_of n Z.2.2.2.1 (xgood hy.1) rfl rfl rfl (Z.2.2.2.1 _ hy.2.2.1) (Z.2.2.2.1 _ hw) hy.2.2.2.1 hf1, Z.2.2.2.1 _ hy.2.1, Z.2.2.2.1 _ hy.2.2.2.2⟩ ⟨(xg_pre Z J).1, va_recv (q0 := 0) Z.2.2.2.2.1 (xP1 (J.1 b _ he)) K.1 rfl, (xg_pre Z J).2⟩ rfl hnA hl.1 hst (lv_room (Nat.le_of_ble_eq_true hW)) hd hf2) J (fun H locs J => k p e s m below meth c H locs ls Z hm hn hr hk J hl)
theorem xc_VN {host : String} {As rest st0 : List Value} {y : MethodName} {bytes : ByteArray} {maxL n index b ci N : Nat} {T : u_T} {ty : Nat → FieldType} {ret' : Option FieldType} {R' : Room} {r' : xR} {u : Unit} (hd : xD cc pc (.invokevirtual index) 3 pc') (hw : (own, index, y, host) ∈ xNw) (hy : xYV y bytes maxL ret' n) (K : xC ci y.cls T N ty) (hck : xck w b ci = some u) (hM : xM X.1 y bytes maxL ret' R' X.2.1 X.2.2.1 (.ref b :: As) w sz r') (hf : xfit R' maxL R cl sl = true) (hnA : As.length = n) (hst : st0 = As.reverse ++ .ref b :: rest) (hW : Nat.ble (rest.map fun v => v.category).sum 8 = true) (k : xK cc nL own nm ret R X lv (r'.1.toList ++ rest) r'.2.1 r'.2.2 (cl + R'.cells) (sl + R'.slots) pc' r) : xK cc nL own nm ret R X lv (st0) w sz cl sl pc r := by
  obtain ⟨hd, rfl⟩ := hd
  obtain ⟨hf1, hf2⟩ := xfit_of hf
  obtain ⟨fs, he⟩ := xck_inv hck
  exact fun p e s m below meth c H locs ls Z hm hn hr hk J hl => xg_go (va_runVN (C := y.cls) (b := b) (As := As) (n := n) ⟨Z.1, Z.2.1, hm, Z.2.2.1, Z.2.2.2.1⟩ hM ⟨va_cnB n Z.2.2.2.1 (xgood hy.1) rfl rfl rfl (Z.2.2.2.2.2.1 _ hw) (Z.2.2.2.1 _ hy.2.2.1) hy.2.2.2.1 hf1, Z.2.2.2.1 _ hy.2.1, Z.2.2.2.1 _ hy.2.2.2.2⟩ ⟨(xg_pre Z J).1, va_recv (q0 := 0) Z.2.2.2.2.1 (xP1 (J.1 b _ he)) K.1 rfl, (xg_pre Z J).2⟩ rfl hnA hl.1 hst (lv_room (Nat.le_of_ble_eq_true hW)) hd hf2) J (fun H locs J => k p e s m below meth c H locs ls Z hm hn hr hk J hl)
theorem xc_I {As rest st0 : List Value} {y : MethodName} {bytes : ByteArray} {maxL n index b : Nat} {R' : Room} {r' : xR} (hd : xD cc pc (.invokespecial index) 3 pc') (hw : Cond.methodLink own index y ∈ xT) (hy : xYI y bytes maxL n) (hM : xM X.1 y bytes maxL none R' X.2.1 X.2.2.1 (.ref b :: As) w sz r') (hf : xfit R' maxL R cl sl = true) (hnA : As.length = n) (hst : st0 = As.reverse ++ .ref b :: rest) (hW : Nat.ble (rest.map fun v => v.category).sum 8 = true) (k : xK cc nL own nm ret R X lv (r'.1.toList ++ rest) r'.2.1 r'.2.2 (cl + R'.cells) (sl + R'.slots) pc' r) : xK cc nL own nm ret R X lv (st0) w sz cl sl pc r := by
  obtain ⟨hd, rfl⟩ := hd
  obtain ⟨hf1, hf2⟩ := xfit_of hf
  exact fun p e s m below meth c H locs ls Z hm hn hr hk J hl => xg_go (va_runI (b := b) (As := As) (n := n) ⟨Z.1, Z.2.1, hm, Z.2.2.1, Z.2.2.2.1⟩ hM ⟨callB_of n Z.2.2.2.1 (xgood hy.1) rfl rfl rfl (Z.2.2.2.1 _ hy.2.2.1) (Z.2.2.2.1 _ hw) hy.2.2.2.1 hf1, hy.2.2.2.2, Z.2.2.2.1 _ hy.2.1⟩ (xg_pre Z J) rfl hnA hl.1 hst (lv_room (Nat.le_of_ble_eq_true hW)) hd hf2) J (fun H locs J => k p e s m below meth c H locs ls Z hm hn hr hk J hl)
theorem xc_IN {host : String} {As rest st0 : List Value} {y : MethodName} {bytes : ByteArray} {maxL n index b : Nat} {R' : Room} {r' : xR} (hd : xD cc pc (.invokespecial index) 3 pc') (hw : (own, index, y, host) ∈ xNw) (hy : xYI y bytes maxL n) (hM : xM X.1 y bytes maxL none R' X.2.1 X.2.2.1 (.ref b :: As) w sz r') (hf : xfit R' maxL R cl sl = true) (hnA : As.length = n) (hst : st0 = As.reverse ++ .ref b :: rest) (hW : Nat.ble (rest.map fun v => v.category).sum 8 = true) (k : xK cc nL own nm ret R X lv (r'.1.toList ++ rest) r'.2.1 r'.2.2 (cl + R'.cells) (sl + R'.slots) pc' r) : xK cc nL own nm ret R X lv (st0) w sz cl sl pc r := by
  obtain ⟨hd, rfl⟩ := hd
  obtain ⟨hf1, hf2⟩ := xfit_of hf
  exact fun p e s m below meth c H locs ls Z hm hn hr hk J hl => xg_go (va_runIN (b := b) (As := As) (n := n) ⟨Z.1, Z.2.1, hm, Z.2.2.1, Z.2.2.2.1⟩ hM ⟨va_cnB n Z.2.2.2.1 (xgood hy.1) rfl rfl rfl (Z.2.2.2.2.2.1 _ hw) (Z.2.2.2.1 _ hy.2.2.1) hy.2.2.2.1 hf1, hy.2.2.2.2, Z.2.2.2.1 _ hy.2.1⟩ (xg_pre Z J) rfl hnA hl.1 hst (lv_room (Nat.le_of_ble_eq_true hW)) hd hf2) J (fun H locs J => k p e s m below meth c H locs ls Z hm hn hr hk J hl)
theorem xo_S_I0 {rest st0 : List Value} (As : List Value) {y : MethodName} {bytes : ByteArray} {maxL n index : Nat} {ret' : Option FieldType} {R' : Room} {o : Option (Int32)} {g : Int32 → Option ρ} (hd : xD cc pc (.invokestatic index) 3 pc') (hw : Cond.methodLink own index y ∈ xT) (hy : xYS y bytes maxL ret' n) (h : o.bind g = some ro) (hM : ∀ z, o = some z → xM X.1 y bytes maxL ret' R' X.2.1 X.2.2.1 As w sz (some (.int z), w, sz)) (hf : xfit R' maxL R cl sl = true) (hz : R'.cells = 0 ∧ R'.slots = 0) (hnA : As.length = n) (hst : st0 = As.reverse ++ rest) (hW : Nat.ble (rest.map fun v => v.category).sum 8 = true) (k : ∀ z, g z = some ro → xK cc nL own nm ret R X lv (.int z :: rest) w sz cl sl pc' r) : xK cc nL own nm ret R X lv (st0) w sz cl sl pc r := by
  skip
  obtain ⟨z, e1, h⟩ := xb h
  have kz := k z h
  exact xc_S (As := As) hd hw hy (hM z e1) hf hnA hst hW (by rw [hz.1, hz.2]; exact kz)
theorem xo_SN_I0 {host : String} {rest st0 : List Value} (As : List Value) {y : MethodName} {bytes : ByteArray} {maxL n index : Nat} {ret' : Option FieldType} {R' : Room} {o : Option (Int32)} {g : Int32 → Option ρ} (hd : xD cc pc (.invokestatic index) 3 pc') (hw : (own, index, y, host) ∈ xNw) (hy : xYS y bytes maxL ret' n) (h : o.bind g = some ro) (hM : ∀ z, o = some z → xM X.1 y bytes maxL ret' R' X.2.1 X.2.2.1 As w sz (some (.int z), w, sz)) (hf : xfit R' maxL R cl sl = true) (hz : R'.cells = 0 ∧ R'.slots = 0) (hnA : As.length = n) (hst : st0 = As.reverse ++ rest) (hW : Nat.ble (rest.map fun v => v.category).sum 8 = true) (k : ∀ z, g z = some ro → xK cc nL own nm ret R X lv (.int z :: rest) w sz cl sl pc' r) : xK cc nL own nm ret R X lv (st0) w sz cl sl pc r := by
  skip
  obtain ⟨z, e1, h⟩ := xb h
  have kz := k z h
  exact xc_SN (As := As) hd hw hy (hM z e1) hf hnA hst hW (by rw [hz.1, hz.2]; exact kz)
theorem xo_V_I0 {rest st0 : List Value} (As : List Value) {y : MethodName} {bytes : ByteArray} {maxL n index : Nat} {b ci N : Nat} {T : u_T} {ty : Nat → FieldType} {ret' : Option FieldType} {R' : Room} {o : Option (Int32)} {g : Int32 → Option ρ} (hd : xD cc pc (.invokevirtual index) 3 pc') (hw : Cond.methodLink own index y ∈ xT) (hy : xYV y bytes maxL ret' n) (h : (xck w b ci).bind (fun _ => o.bind g) = some ro) (K : xC ci y.cls T N ty) (hM : ∀ z, o = some z → xM X.1 y bytes maxL ret' R' X.2.1 X.2.2.1 (.ref b :: As) w sz (some (.int z), w, sz)) (hf : xfit R' maxL R cl sl = true) (hz : R'.cells = 0 ∧ R'.slots = 0) (hnA : As.length = n) (hst : st0 = As.reverse ++ .ref b :: rest) (hW : Nat.ble (rest.map fun v => v.category).sum 8 = true) (k : ∀ z, g z = some ro → xK cc nL own nm ret R X lv (.int z :: rest) w sz cl sl pc' r) : xK cc nL own nm ret R X lv (st0) w sz cl sl pc r := by
  obtain ⟨u, hu, h⟩ := xb h
  obtain ⟨z, e1, h⟩ := xb h
  have kz := k z h
  exact xc_V (As := As) hd hw hy K hu (hM z e1) hf hnA hst hW (by rw [hz.1, hz.2]; exact kz)
theorem xo_VN_I0 {host : String} {rest st0 : List Value} (As : List Value) {y : MethodName} {bytes : ByteArray} {maxL n index : Nat} {b ci N : Nat} {T : u_T} {ty : Nat → FieldType} {ret' : Option FieldType} {R' : Room} {o : Option (Int32)} {g : Int32 → Option ρ} (hd : xD cc pc (.invokevirtual index) 3 pc') (hw : (own, index, y, host) ∈ xNw) (hy : xYV y bytes maxL ret' n) (h : (xck w b ci).bind (fun _ => o.bind g) = some ro) (K : xC ci y.cls T N ty) (hM : ∀ z, o = some z → xM X.1 y bytes maxL ret' R' X.2.1 X.2.2.1 (.ref b :: As) w sz (some (.int z), w, sz)) (hf : xfit R' maxL R cl sl = true) (hz : R'.cells = 0 ∧ R'.slots = 0) (hnA : As.length = n) (hst : st0 = As.reverse ++ .ref b :: rest) (hW : Nat.ble (rest.map fun v => v.category).sum 8 = true) (k : ∀ z, g z = some ro → xK cc nL own nm ret R X lv (.int z :: rest) w sz cl sl pc' r) : xK cc nL own nm ret R X lv (st0) w sz cl sl pc r := by
  obtain ⟨u, hu, h⟩ := xb h
  obtain ⟨z, e1, h⟩ := xb h
  have kz := k z h
  exact xc_VN (As := As) hd hw hy K hu (hM z e1) hf hnA hst hW (by rw [hz.1, hz.2]; exact kz)
theorem xo_S_IH {rest st0 : List Value} (As : List Value) {y : MethodName} {bytes : ByteArray} {maxL n index : Nat} {ret' : Option FieldType} {R' : Room} {o : Option (Int32 × xw)} {g : Int32 × xw → Option ρ} (hd : xD cc pc (.invokestatic index) 3 pc') (hw : Cond.methodLink own index y ∈ xT) (hy : xYS y bytes maxL ret' n) (h : o.bind g = some ro) (hM : ∀ z, o = some z → xM X.1 y bytes maxL ret' R' X.2.1 X.2.2.1 As w sz (some (.int z.1), z.2, sz)) (hf : xfit R' maxL R cl sl = true) (hz : R'.cells = 0 ∧ R'.slots = 0) (hnA : As.length = n) (hst : st0 = As.reverse ++ rest) (hW : Nat.ble (rest.map fun v => v.category).sum 8 = true) (k : ∀ z, g z = some ro → xK cc nL own nm ret R X lv (.int z.1 :: rest) z.2 sz cl sl pc' r) : xK cc nL own nm ret R X lv (st0) w sz cl sl pc r := by
  skip
  obtain ⟨z, e1, h⟩ := xb h
  have kz := k z h
  exact xc_S (As := As) hd hw hy (hM z e1) hf hnA hst hW (by rw [hz.1, hz.2]; exact kz)
theorem xo_SN_IH {host : String} {rest st0 : List Value} (As : List Value) {y : MethodName} {bytes : ByteArray} {maxL n index : Nat} {ret' : Option FieldType} {R' : Room} {o : Option (Int32 × xw)} {g : Int32 × xw → Option ρ} (hd : xD cc pc (.invokestatic index) 3 pc') (hw : (own, index, y, host) ∈ xNw) (hy : xYS y bytes maxL ret' n) (h : o.bind g = some ro) (hM : ∀ z, o = some z → xM X.1 y bytes maxL ret' R' X.2.1 X.2.2.1 As w sz (some (.int z.1), z.2, sz)) (hf : xfit R' maxL R cl sl = true) (hz : R'.cells = 0 ∧ R'.slots = 0) (hnA : As.length = n) (hst : st0 = As.reverse ++ rest) (hW : Nat.ble (rest.map fun v => v.category).sum 8 = true) (k : ∀ z, g z = some ro → xK cc nL own nm ret R X lv (.int z.1 :: rest) z.2 sz cl sl pc' r) : xK cc nL own nm ret R X lv (st0) w sz cl sl pc r := by
  skip
  obtain ⟨z, e1, h⟩ := xb h
  have kz := k z h
  exact xc_SN (As := As) hd hw hy (hM z e1) hf hnA hst hW (by rw [hz.1, hz.2]; exact kz)
theorem xo_V_IH {rest st0 : List Value} (As : List Value) {y : MethodName} {bytes : ByteArray} {maxL n index : Nat} {b ci N : Nat} {T : u_T} {ty : Nat → FieldType} {ret' : Option FieldType} {R' : Room} {o : Option (Int32 × xw)} {g : Int32 × xw → Option ρ} (hd : xD cc pc (.invokevirtual index) 3 pc') (hw : Cond.methodLink own index y ∈ xT) (hy : xYV y bytes maxL ret' n) (h : (xck w b ci).bind (fun _ => o.bind g) = some ro) (K : xC ci y.cls T N ty) (hM : ∀ z, o = some z → xM X.1 y bytes maxL ret' R' X.2.1 X.2.2.1 (.ref b :: As) w sz (some (.int z.1), z.2, sz)) (hf : xfit R' maxL R cl sl = true) (hz : R'.cells = 0 ∧ R'.slots = 0) (hnA : As.length = n) (hst : st0 = As.reverse ++ .ref b :: rest) (hW : Nat.ble (rest.map fun v => v.category).sum 8 = true) (k : ∀ z, g z = some ro → xK cc nL own nm ret R X lv (.int z.1 :: rest) z.2 sz cl sl pc' r) : xK cc nL own nm ret R X lv (st0) w sz cl sl pc r := by
  obtain ⟨u, hu, h⟩ := xb h
  obtain ⟨z, e1, h⟩ := xb h
  have kz := k z h
  exact xc_V (As := As) hd hw hy K hu (hM z e1) hf hnA hst hW (by rw [hz.1, hz.2]; exact kz)
theorem xo_VN_IH {host : String} {rest st0 : List Value} (As : List Value) {y : MethodName} {bytes : ByteArray} {maxL n index : Nat} {b ci N : Nat} {T : u_T} {ty : Nat → FieldType} {ret' : Option FieldType} {R' : Room} {o : Option (Int32 × xw)} {g : Int32 × xw → Option ρ} (hd : xD cc pc (.invokevirtual index) 3 pc') (hw : (own, index, y, host) ∈ xNw) (hy : xYV y bytes maxL ret' n) (h : (xck w b ci).bind (fun _ => o.bind g) = some ro) (K : xC ci y.cls T N ty) (hM : ∀ z, o = some z → xM X.1 y bytes maxL ret' R' X.2.1 X.2.2.1 (.ref b :: As) w sz (some (.int z.1), z.2, sz)) (hf : xfit R' maxL R cl sl = true) (hz : R'.cells = 0 ∧ R'.slots = 0) (hnA : As.length = n) (hst : st0 = As.reverse ++ .ref b :: rest) (hW : Nat.ble (rest.map fun v => v.category).sum 8 = true) (k : ∀ z, g z = some ro → xK cc nL own nm ret R X lv (.int z.1 :: rest) z.2 sz cl sl pc' r) : xK cc nL own nm ret R X lv (st0) w sz cl sl pc r := by
  obtain ⟨u, hu, h⟩ := xb h
  obtain ⟨z, e1, h⟩ := xb h
  have kz := k z h
  exact xc_VN (As := As) hd hw hy K hu (hM z e1) hf hnA hst hW (by rw [hz.1, hz.2]; exact kz)
theorem xo_S_IA {rest st0 : List Value} (As : List Value) {y : MethodName} {bytes : ByteArray} {maxL n index : Nat} {ret' : Option FieldType} {R' : Room} {o : Option (Int32 × xw × Nat)} {g : Int32 × xw × Nat → Option ρ} (hd : xD cc pc (.invokestatic index) 3 pc') (hw : Cond.methodLink own index y ∈ xT) (hy : xYS y bytes maxL ret' n) (h : o.bind g = some ro) (hM : ∀ z, o = some z → xM X.1 y bytes maxL ret' R' X.2.1 X.2.2.1 As w sz (some (.int z.1), z.2.1, z.2.2)) (hf : xfit R' maxL R cl sl = true) (hnA : As.length = n) (hst : st0 = As.reverse ++ rest) (hW : Nat.ble (rest.map fun v => v.category).sum 8 = true) (k : ∀ z, g z = some ro → xK cc nL own nm ret R X lv (.int z.1 :: rest) z.2.1 z.2.2 (cl + R'.cells) (sl + R'.slots) pc' r) : xK cc nL own nm ret R X lv (st0) w sz cl sl pc r := by
  skip
  obtain ⟨z, e1, h⟩ := xb h
  have kz := k z h
  exact xc_S (As := As) hd hw hy (hM z e1) hf hnA hst hW kz
theorem xo_SN_IA {host : String} {rest st0 : List Value} (As : List Value) {y : MethodName} {bytes : ByteArray} {maxL n index : Nat} {ret' : Option FieldType} {R' : Room} {o : Option (Int32 × xw × Nat)} {g : Int32 × xw × Nat → Option ρ} (hd : xD cc pc (.invokestatic index) 3 pc') (hw : (own, index, y, host) ∈ xNw) (hy : xYS y bytes maxL ret' n) (h : o.bind g = some ro) (hM : ∀ z, o = some z → xM X.1 y bytes maxL ret' R' X.2.1 X.2.2.1 As w sz (some (.int z.1), z.2.1, z.2.2)) (hf : xfit R' maxL R cl sl = true) (hnA : As.length = n) (hst : st0 = As.reverse ++ rest) (hW : Nat.ble (rest.map fun v => v.category).sum 8 = true) (k : ∀ z, g z = some ro → xK cc nL own nm ret R X lv (.int z.1 :: rest) z.2.1 z.2.2 (cl + R'.cells) (sl + R'.slots) pc' r) : xK cc nL own nm ret R X lv (st0) w sz cl sl pc r := by
  skip
  obtain ⟨z, e1, h⟩ := xb h
  have kz := k z h
  exact xc_SN (As := As) hd hw hy (hM z e1) hf hnA hst hW kz
theorem xo_V_IA {rest st0 : List Value} (As : List Value) {y : MethodName} {bytes : ByteArray} {maxL n index : Nat} {b ci N : Nat} {T : u_T} {ty : Nat → FieldType} {ret' : Option FieldType} {R' : Room} {o : Option (Int32 × xw × Nat)} {g : Int32 × xw × Nat → Option ρ} (hd : xD cc pc (.invokevirtual index) 3 pc') (hw : Cond.methodLink own index y ∈ xT) (hy : xYV y bytes maxL ret' n) (h : (xck w b ci).bind (fun _ => o.bind g) = some ro) (K : xC ci y.cls T N ty) (hM : ∀ z, o = some z → xM X.1 y bytes maxL ret' R' X.2.1 X.2.2.1 (.ref b :: As) w sz (some (.int z.1), z.2.1, z.2.2)) (hf : xfit R' maxL R cl sl = true) (hnA : As.length = n) (hst : st0 = As.reverse ++ .ref b :: rest) (hW : Nat.ble (rest.map fun v => v.category).sum 8 = true) (k : ∀ z, g z = some ro → xK cc nL own nm ret R X lv (.int z.1 :: rest) z.2.1 z.2.2 (cl + R'.cells) (sl + R'.slots) pc' r) : xK cc nL own nm ret R X lv (st0) w sz cl sl pc r := by
  obtain ⟨u, hu, h⟩ := xb h
  obtain ⟨z, e1, h⟩ := xb h
  have kz := k z h
  exact xc_V (As := As) hd hw hy K hu (hM z e1) hf hnA hst hW kz
theorem xo_VN_IA {host : String} {rest st0 : List Value} (As : List Value) {y : MethodName} {bytes : ByteArray} {maxL n index : Nat} {b ci N : Nat} {T : u_T} {ty : Nat → FieldType} {ret' : Option FieldType} {R' : Room} {o : Option (Int32 × xw × Nat)} {g : Int32 × xw × Nat → Option ρ} (hd : xD cc pc (.invokevirtual index) 3 pc') (hw : (own, index, y, host) ∈ xNw) (hy : xYV y bytes maxL ret' n) (h : (xck w b ci).bind (fun _ => o.bind g) = some ro) (K : xC ci y.cls T N ty) (hM : ∀ z, o = some z → xM X.1 y bytes maxL ret' R' X.2.1 X.2.2.1 (.ref b :: As) w sz (some (.int z.1), z.2.1, z.2.2)) (hf : xfit R' maxL R cl sl = true) (hnA : As.length = n) (hst : st0 = As.reverse ++ .ref b :: rest) (hW : Nat.ble (rest.map fun v => v.category).sum 8 = true) (k : ∀ z, g z = some ro → xK cc nL own nm ret R X lv (.int z.1 :: rest) z.2.1 z.2.2 (cl + R'.cells) (sl + R'.slots) pc' r) : xK cc nL own nm ret R X lv (st0) w sz cl sl pc r := by
  obtain ⟨u, hu, h⟩ := xb h
  obtain ⟨z, e1, h⟩ := xb h
  have kz := k z h
  exact xc_VN (As := As) hd hw hy K hu (hM z e1) hf hnA hst hW kz
theorem xo_S_L0 {rest st0 : List Value} (As : List Value) {y : MethodName} {bytes : ByteArray} {maxL n index : Nat} {ret' : Option FieldType} {R' : Room} {o : Option (Int64)} {g : Int64 → Option ρ} (hd : xD cc pc (.invokestatic index) 3 pc') (hw : Cond.methodLink own index y ∈ xT) (hy : xYS y bytes maxL ret' n) (h : o.bind g = some ro) (hM : ∀ z, o = some z → xM X.1 y bytes maxL ret' R' X.2.1 X.2.2.1 As w sz (some (.long z), w, sz)) (hf : xfit R' maxL R cl sl = true) (hz : R'.cells = 0 ∧ R'.slots = 0) (hnA : As.length = n) (hst : st0 = As.reverse ++ rest) (hW : Nat.ble (rest.map fun v => v.category).sum 8 = true) (k : ∀ z, g z = some ro → xK cc nL own nm ret R X lv (.long z :: rest) w sz cl sl pc' r) : xK cc nL own nm ret R X lv (st0) w sz cl sl pc r := by
  skip
  obtain ⟨z, e1, h⟩ := xb h
  have kz := k z h
  exact xc_S (As := As) hd hw hy (hM z e1) hf hnA hst hW (by rw [hz.1, hz.2]; exact kz)
theorem xo_SN_L0 {host : String} {rest st0 : List Value} (As : List Value) {y : MethodName} {bytes : ByteArray} {maxL n index : Nat} {ret' : Option FieldType} {R' : Room} {o : Option (Int64)} {g : Int64 → Option ρ} (hd : xD cc pc (.invokestatic index) 3 pc') (hw : (own, index, y, host) ∈ xNw) (hy : xYS y bytes maxL ret' n) (h : o.bind g = some ro) (hM : ∀ z, o = some z → xM X.1 y bytes maxL ret' R' X.2.1 X.2.2.1 As w sz (some (.long z), w, sz)) (hf : xfit R' maxL R cl sl = true) (hz : R'.cells = 0 ∧ R'.slots = 0) (hnA : As.length = n) (hst : st0 = As.reverse ++ rest) (hW : Nat.ble (rest.map fun v => v.category).sum 8 = true) (k : ∀ z, g z = some ro → xK cc nL own nm ret R X lv (.long z :: rest) w sz cl sl pc' r) : xK cc nL own nm ret R X lv (st0) w sz cl sl pc r := by
  skip
  obtain ⟨z, e1, h⟩ := xb h
  have kz := k z h
  exact xc_SN (As := As) hd hw hy (hM z e1) hf hnA hst hW (by rw [hz.1, hz.2]; exact kz)
theorem xo_V_L0 {rest st0 : List Value} (As : List Value) {y : MethodName} {bytes : ByteArray} {maxL n index : Nat} {b ci N : Nat} {T : u_T} {ty : Nat → FieldType} {ret' : Option FieldType} {R' : Room} {o : Option (Int64)} {g : Int64 → Option ρ} (hd : xD cc pc (.invokevirtual index) 3 pc') (hw : Cond.methodLink own index y ∈ xT) (hy : xYV y bytes maxL ret' n) (h : (xck w b ci).bind (fun _ => o.bind g) = some ro) (K : xC ci y.cls T N ty) (hM : ∀ z, o = some z → xM X.1 y bytes maxL ret' R' X.2.1 X.2.2.1 (.ref b :: As) w sz (some (.long z), w, sz)) (hf : xfit R' maxL R cl sl = true) (hz : R'.cells = 0 ∧ R'.slots = 0) (hnA : As.length = n) (hst : st0 = As.reverse ++ .ref b :: rest) (hW : Nat.ble (rest.map fun v => v.category).sum 8 = true) (k : ∀ z, g z = some ro → xK cc nL own nm ret R X lv (.long z :: rest) w sz cl sl pc' r) : xK cc nL own nm ret R X lv (st0) w sz cl sl pc r := by
  obtain ⟨u, hu, h⟩ := xb h
  obtain ⟨z, e1, h⟩ := xb h
  have kz := k z h
  exact xc_V (As := As) hd hw hy K hu (hM z e1) hf hnA hst hW (by rw [hz.1, hz.2]; exact kz)
theorem xo_VN_L0 {host : String} {rest st0 : List Value} (As : List Value) {y : MethodName} {bytes : ByteArray} {maxL n index : Nat} {b ci N : Nat} {T : u_T} {ty : Nat → FieldType} {ret' : Option FieldType} {R' : Room} {o : Option (Int64)} {g : Int64 → Option ρ} (hd : xD cc pc (.invokevirtual index) 3 pc') (hw : (own, index, y, host) ∈ xNw) (hy : xYV y bytes maxL ret' n) (h : (xck w b ci).bind (fun _ => o.bind g) = some ro) (K : xC ci y.cls T N ty) (hM : ∀ z, o = some z → xM X.1 y bytes maxL ret' R' X.2.1 X.2.2.1 (.ref b :: As) w sz (some (.long z), w, sz)) (hf : xfit R' maxL R cl sl = true) (hz : R'.cells = 0 ∧ R'.slots = 0) (hnA : As.length = n) (hst : st0 = As.reverse ++ .ref b :: rest) (hW : Nat.ble (rest.map fun v => v.category).sum 8 = true) (k : ∀ z, g z = some ro → xK cc nL own nm ret R X lv (.long z :: rest) w sz cl sl pc' r) : xK cc nL own nm ret R X lv (st0) w sz cl sl pc r := by
  obtain ⟨u, hu, h⟩ := xb h
  obtain ⟨z, e1, h⟩ := xb h
  have kz := k z h
  exact xc_VN (As := As) hd hw hy K hu (hM z e1) hf hnA hst hW (by rw [hz.1, hz.2]; exact kz)
theorem xo_S_LH {rest st0 : List Value} (As : List Value) {y : MethodName} {bytes : ByteArray} {maxL n index : Nat} {ret' : Option FieldType} {R' : Room} {o : Option (Int64 × xw)} {g : Int64 × xw → Option ρ} (hd : xD cc pc (.invokestatic index) 3 pc') (hw : Cond.methodLink own index y ∈ xT) (hy : xYS y bytes maxL ret' n) (h : o.bind g = some ro) (hM : ∀ z, o = some z → xM X.1 y bytes maxL ret' R' X.2.1 X.2.2.1 As w sz (some (.long z.1), z.2, sz)) (hf : xfit R' maxL R cl sl = true) (hz : R'.cells = 0 ∧ R'.slots = 0) (hnA : As.length = n) (hst : st0 = As.reverse ++ rest) (hW : Nat.ble (rest.map fun v => v.category).sum 8 = true) (k : ∀ z, g z = some ro → xK cc nL own nm ret R X lv (.long z.1 :: rest) z.2 sz cl sl pc' r) : xK cc nL own nm ret R X lv (st0) w sz cl sl pc r := by
  skip
  obtain ⟨z, e1, h⟩ := xb h
  have kz := k z h
  exact xc_S (As := As) hd hw hy (hM z e1) hf hnA hst hW (by rw [hz.1, hz.2]; exact kz)
theorem xo_SN_LH {host : String} {rest st0 : List Value} (As : List Value) {y : MethodName} {bytes : ByteArray} {maxL n index : Nat} {ret' : Option FieldType} {R' : Room} {o : Option (Int64 × xw)} {g : Int64 × xw → Option ρ} (hd : xD cc pc (.invokestatic index) 3 pc') (hw : (own, index, y, host) ∈ xNw) (hy : xYS y bytes maxL ret' n) (h : o.bind g = some ro) (hM : ∀ z, o = some z → xM X.1 y bytes maxL ret' R' X.2.1 X.2.2.1 As w sz (some (.long z.1), z.2, sz)) (hf : xfit R' maxL R cl sl = true) (hz : R'.cells = 0 ∧ R'.slots = 0) (hnA : As.length = n) (hst : st0 = As.reverse ++ rest) (hW : Nat.ble (rest.map fun v => v.category).sum 8 = true) (k : ∀ z, g z = some ro → xK cc nL own nm ret R X lv (.long z.1 :: rest) z.2 sz cl sl pc' r) : xK cc nL own nm ret R X lv (st0) w sz cl sl pc r := by
  skip
  obtain ⟨z, e1, h⟩ := xb h
  have kz := k z h
  exact xc_SN (As := As) hd hw hy (hM z e1) hf hnA hst hW (by rw [hz.1, hz.2]; exact kz)
theorem xo_V_LH {rest st0 : List Value} (As : List Value) {y : MethodName} {bytes : ByteArray} {maxL n index : Nat} {b ci N : Nat} {T : u_T} {ty : Nat → FieldType} {ret' : Option FieldType} {R' : Room} {o : Option (Int64 × xw)} {g : Int64 × xw → Option ρ} (hd : xD cc pc (.invokevirtual index) 3 pc') (hw : Cond.methodLink own index y ∈ xT) (hy : xYV y bytes maxL ret' n) (h : (xck w b ci).bind (fun _ => o.bind g) = some ro) (K : xC ci y.cls T N ty) (hM : ∀ z, o = some z → xM X.1 y bytes maxL ret' R' X.2.1 X.2.2.1 (.ref b :: As) w sz (some (.long z.1), z.2, sz)) (hf : xfit R' maxL R cl sl = true) (hz : R'.cells = 0 ∧ R'.slots = 0) (hnA : As.length = n) (hst : st0 = As.reverse ++ .ref b :: rest) (hW : Nat.ble (rest.map fun v => v.category).sum 8 = true) (k : ∀ z, g z = some ro → xK cc nL own nm ret R X lv (.long z.1 :: rest) z.2 sz cl sl pc' r) : xK cc nL own nm ret R X lv (st0) w sz cl sl pc r := by
  obtain ⟨u, hu, h⟩ := xb h
  obtain ⟨z, e1, h⟩ := xb h
  have kz := k z h
  exact xc_V (As := As) hd hw hy K hu (hM z e1) hf hnA hst hW (by rw [hz.1, hz.2]; exact kz)
theorem xo_VN_LH {host : String} {rest st0 : List Value} (As : List Value) {y : MethodName} {bytes : ByteArray} {maxL n index : Nat} {b ci N : Nat} {T : u_T} {ty : Nat → FieldType} {ret' : Option FieldType} {R' : Room} {o : Option (Int64 × xw)} {g : Int64 × xw → Option ρ} (hd : xD cc pc (.invokevirtual index) 3 pc') (hw : (own, index, y, host) ∈ xNw) (hy : xYV y bytes maxL ret' n) (h : (xck w b ci).bind (fun _ => o.bind g) = some ro) (K : xC ci y.cls T N ty) (hM : ∀ z, o = some z → xM X.1 y bytes maxL ret' R' X.2.1 X.2.2.1 (.ref b :: As) w sz (some (.long z.1), z.2, sz)) (hf : xfit R' maxL R cl sl = true) (hz : R'.cells = 0 ∧ R'.slots = 0) (hnA : As.length = n) (hst : st0 = As.reverse ++ .ref b :: rest) (hW : Nat.ble (rest.map fun v => v.category).sum 8 = true) (k : ∀ z, g z = some ro → xK cc nL own nm ret R X lv (.long z.1 :: rest) z.2 sz cl sl pc' r) : xK cc nL own nm ret R X lv (st0) w sz cl sl pc r := by
  obtain ⟨u, hu, h⟩ := xb h
  obtain ⟨z, e1, h⟩ := xb h
  have kz := k z h
  exact xc_VN (As := As) hd hw hy K hu (hM z e1) hf hnA hst hW (by rw [hz.1, hz.2]; exact kz)
theorem xo_S_LA {rest st0 : List Value} (As : List Value) {y : MethodName} {bytes : ByteArray} {maxL n index : Nat} {ret' : Option FieldType} {R' : Room} {o : Option (Int64 × xw × Nat)} {g : Int64 × xw × Nat → Option ρ} (hd : xD cc pc (.invokestatic index) 3 pc') (hw : Cond.methodLink own index y ∈ xT) (hy : xYS y bytes maxL ret' n) (h : o.bind g = some ro) (hM : ∀ z, o = some z → xM X.1 y bytes maxL ret' R' X.2.1 X.2.2.1 As w sz (some (.long z.1), z.2.1, z.2.2)) (hf : xfit R' maxL R cl sl = true) (hnA : As.length = n) (hst : st0 = As.reverse ++ rest) (hW : Nat.ble (rest.map fun v => v.category).sum 8 = true) (k : ∀ z, g z = some ro → xK cc nL own nm ret R X lv (.long z.1 :: rest) z.2.1 z.2.2 (cl + R'.cells) (sl + R'.slots) pc' r) : xK cc nL own nm ret R X lv (st0) w sz cl sl pc r := by
  skip
  obtain ⟨z, e1, h⟩ := xb h
  have kz := k z h
  exact xc_S (As := As) hd hw hy (hM z e1) hf hnA hst hW kz
theorem xo_SN_LA {host : String} {rest st0 : List Value} (As : List Value) {y : MethodName} {bytes : ByteArray} {maxL n index : Nat} {ret' : Option FieldType} {R' : Room} {o : Option (Int64 × xw × Nat)} {g : Int64 × xw × Nat → Option ρ} (hd : xD cc pc (.invokestatic index) 3 pc') (hw : (own, index, y, host) ∈ xNw) (hy : xYS y bytes maxL ret' n) (h : o.bind g = some ro) (hM : ∀ z, o = some z → xM X.1 y bytes maxL ret' R' X.2.1 X.2.2.1 As w sz (some (.long z.1), z.2.1, z.2.2)) (hf : xfit R' maxL R cl sl = true) (hnA : As.length = n) (hst : st0 = As.reverse ++ rest) (hW : Nat.ble (rest.map fun v => v.category).sum 8 = true) (k : ∀ z, g z = some ro → xK cc nL own nm ret R X lv (.long z.1 :: rest) z.2.1 z.2.2 (cl + R'.cells) (sl + R'.slots) pc' r) : xK cc nL own nm ret R X lv (st0) w sz cl sl pc r := by
  skip
  obtain ⟨z, e1, h⟩ := xb h
  have kz := k z h
  exact xc_SN (As := As) hd hw hy (hM z e1) hf hnA hst hW kz
theorem xo_V_LA {rest st0 : List Value} (As : List Value) {y : MethodName} {bytes : ByteArray} {maxL n index : Nat} {b ci N : Nat} {T : u_T} {ty : Nat → FieldType} {ret' : Option FieldType} {R' : Room} {o : Option (Int64 × xw × Nat)} {g : Int64 × xw × Nat → Option ρ} (hd : xD cc pc (.invokevirtual index) 3 pc') (hw : Cond.methodLink own index y ∈ xT) (hy : xYV y bytes maxL ret' n) (h : (xck w b ci).bind (fun _ => o.bind g) = some ro) (K : xC ci y.cls T N ty) (hM : ∀ z, o = some z → xM X.1 y bytes maxL ret' R' X.2.1 X.2.2.1 (.ref b :: As) w sz (some (.long z.1), z.2.1, z.2.2)) (hf : xfit R' maxL R cl sl = true) (hnA : As.length = n) (hst : st0 = As.reverse ++ .ref b :: rest) (hW : Nat.ble (rest.map fun v => v.category).sum 8 = true) (k : ∀ z, g z = some ro → xK cc nL own nm ret R X lv (.long z.1 :: rest) z.2.1 z.2.2 (cl + R'.cells) (sl + R'.slots) pc' r) : xK cc nL own nm ret R X lv (st0) w sz cl sl pc r := by
  obtain ⟨u, hu, h⟩ := xb h
  obtain ⟨z, e1, h⟩ := xb h
  have kz := k z h
  exact xc_V (As := As) hd hw hy K hu (hM z e1) hf hnA hst hW kz
theorem xo_VN_LA {host : String} {rest st0 : List Value} (As : List Value) {y : MethodName} {bytes : ByteArray} {maxL n index : Nat} {b ci N : Nat} {T : u_T} {ty : Nat → FieldType} {ret' : Option FieldType} {R' : Room} {o : Option (Int64 × xw × Nat)} {g : Int64 × xw × Nat → Option ρ} (hd : xD cc pc (.invokevirtual index) 3 pc') (hw : (own, index, y, host) ∈ xNw) (hy : xYV y bytes maxL ret' n) (h : (xck w b ci).bind (fun _ => o.bind g) = some ro) (K : xC ci y.cls T N ty) (hM : ∀ z, o = some z → xM X.1 y bytes maxL ret' R' X.2.1 X.2.2.1 (.ref b :: As) w sz (some (.long z.1), z.2.1, z.2.2)) (hf : xfit R' maxL R cl sl = true) (hnA : As.length = n) (hst : st0 = As.reverse ++ .ref b :: rest) (hW : Nat.ble (rest.map fun v => v.category).sum 8 = true) (k : ∀ z, g z = some ro → xK cc nL own nm ret R X lv (.long z.1 :: rest) z.2.1 z.2.2 (cl + R'.cells) (sl + R'.slots) pc' r) : xK cc nL own nm ret R X lv (st0) w sz cl sl pc r := by
  obtain ⟨u, hu, h⟩ := xb h
  obtain ⟨z, e1, h⟩ := xb h
  have kz := k z h
  exact xc_VN (As := As) hd hw hy K hu (hM z e1) hf hnA hst hW kz
theorem xo_S_R0 {rest st0 : List Value} (As : List Value) {y : MethodName} {bytes : ByteArray} {maxL n index : Nat} {ret' : Option FieldType} {R' : Room} {o : Option (Nat)} {g : Nat → Option ρ} (hd : xD cc pc (.invokestatic index) 3 pc') (hw : Cond.methodLink own index y ∈ xT) (hy : xYS y bytes maxL ret' n) (h : o.bind g = some ro) (hM : ∀ z, o = some z → xM X.1 y bytes maxL ret' R' X.2.1 X.2.2.1 As w sz (some (.ref z), w, sz)) (hf : xfit R' maxL R cl sl = true) (hz : R'.cells = 0 ∧ R'.slots = 0) (hnA : As.length = n) (hst : st0 = As.reverse ++ rest) (hW : Nat.ble (rest.map fun v => v.category).sum 8 = true) (k : ∀ z, g z = some ro → xK cc nL own nm ret R X lv (.ref z :: rest) w sz cl sl pc' r) : xK cc nL own nm ret R X lv (st0) w sz cl sl pc r := by
  skip
  obtain ⟨z, e1, h⟩ := xb h
  have kz := k z h
  exact xc_S (As := As) hd hw hy (hM z e1) hf hnA hst hW (by rw [hz.1, hz.2]; exact kz)
theorem xo_SN_R0 {host : String} {rest st0 : List Value} (As : List Value) {y : MethodName} {bytes : ByteArray} {maxL n index : Nat} {ret' : Option FieldType} {R' : Room} {o : Option (Nat)} {g : Nat → Option ρ} (hd : xD cc pc (.invokestatic index) 3 pc') (hw : (own, index, y, host) ∈ xNw) (hy : xYS y bytes maxL ret' n) (h : o.bind g = some ro) (hM : ∀ z, o = some z → xM X.1 y bytes maxL ret' R' X.2.1 X.2.2.1 As w sz (some (.ref z), w, sz)) (hf : xfit R' maxL R cl sl = true) (hz : R'.cells = 0 ∧ R'.slots = 0) (hnA : As.length = n) (hst : st0 = As.reverse ++ rest) (hW : Nat.ble (rest.map fun v => v.category).sum 8 = true) (k : ∀ z, g z = some ro → xK cc nL own nm ret R X lv (.ref z :: rest) w sz cl sl pc' r) : xK cc nL own nm ret R X lv (st0) w sz cl sl pc r := by
  skip
  obtain ⟨z, e1, h⟩ := xb h
  have kz := k z h
  exact xc_SN (As := As) hd hw hy (hM z e1) hf hnA hst hW (by rw [hz.1, hz.2]; exact kz)
theorem xo_V_R0 {rest st0 : List Value} (As : List Value) {y : MethodName} {bytes : ByteArray} {maxL n index : Nat} {b ci N : Nat} {T : u_T} {ty : Nat → FieldType} {ret' : Option FieldType} {R' : Room} {o : Option (Nat)} {g : Nat → Option ρ} (hd : xD cc pc (.invokevirtual index) 3 pc') (hw : Cond.methodLink own index y ∈ xT) (hy : xYV y bytes maxL ret' n) (h : (xck w b ci).bind (fun _ => o.bind g) = some ro) (K : xC ci y.cls T N ty) (hM : ∀ z, o = some z → xM X.1 y bytes maxL ret' R' X.2.1 X.2.2.1 (.ref b :: As) w sz (some (.ref z), w, sz)) (hf : xfit R' maxL R cl sl = true) (hz : R'.cells = 0 ∧ R'.slots = 0) (hnA : As.length = n) (hst : st0 = As.reverse ++ .ref b :: rest) (hW : Nat.ble (rest.map fun v => v.category).sum 8 = true) (k : ∀ z, g z = some ro → xK cc nL own nm ret R X lv (.ref z :: rest) w sz cl sl pc' r) : xK cc nL own nm ret R X lv (st0) w sz cl sl pc r := by
  obtain ⟨u, hu, h⟩ := xb h
  obtain ⟨z, e1, h⟩ := xb h
  have kz := k z h
  exact xc_V (As := As) hd hw hy K hu (hM z e1) hf hnA hst hW (by rw [hz.1, hz.2]; exact kz)
theorem xo_VN_R0 {host : String} {rest st0 : List Value} (As : List Value) {y : MethodName} {bytes : ByteArray} {maxL n index : Nat} {b ci N : Nat} {T : u_T} {ty : Nat → FieldType} {ret' : Option FieldType} {R' : Room} {o : Option (Nat)} {g : Nat → Option ρ} (hd : xD cc pc (.invokevirtual index) 3 pc') (hw : (own, index, y, host) ∈ xNw) (hy : xYV y bytes maxL ret' n) (h : (xck w b ci).bind (fun _ => o.bind g) = some ro) (K : xC ci y.cls T N ty) (hM : ∀ z, o = some z → xM X.1 y bytes maxL ret' R' X.2.1 X.2.2.1 (.ref b :: As) w sz (some (.ref z), w, sz)) (hf : xfit R' maxL R cl sl = true) (hz : R'.cells = 0 ∧ R'.slots = 0) (hnA : As.length = n) (hst : st0 = As.reverse ++ .ref b :: rest) (hW : Nat.ble (rest.map fun v => v.category).sum 8 = true) (k : ∀ z, g z = some ro → xK cc nL own nm ret R X lv (.ref z :: rest) w sz cl sl pc' r) : xK cc nL own nm ret R X lv (st0) w sz cl sl pc r := by
  obtain ⟨u, hu, h⟩ := xb h
  obtain ⟨z, e1, h⟩ := xb h
  have kz := k z h
  exact xc_VN (As := As) hd hw hy K hu (hM z e1) hf hnA hst hW (by rw [hz.1, hz.2]; exact kz)
theorem xo_S_RH {rest st0 : List Value} (As : List Value) {y : MethodName} {bytes : ByteArray} {maxL n index : Nat} {ret' : Option FieldType} {R' : Room} {o : Option (Nat × xw)} {g : Nat × xw → Option ρ} (hd : xD cc pc (.invokestatic index) 3 pc') (hw : Cond.methodLink own index y ∈ xT) (hy : xYS y bytes maxL ret' n) (h : o.bind g = some ro) (hM : ∀ z, o = some z → xM X.1 y bytes maxL ret' R' X.2.1 X.2.2.1 As w sz (some (.ref z.1), z.2, sz)) (hf : xfit R' maxL R cl sl = true) (hz : R'.cells = 0 ∧ R'.slots = 0) (hnA : As.length = n) (hst : st0 = As.reverse ++ rest) (hW : Nat.ble (rest.map fun v => v.category).sum 8 = true) (k : ∀ z, g z = some ro → xK cc nL own nm ret R X lv (.ref z.1 :: rest) z.2 sz cl sl pc' r) : xK cc nL own nm ret R X lv (st0) w sz cl sl pc r := by
  skip
  obtain ⟨z, e1, h⟩ := xb h
  have kz := k z h
  exact xc_S (As := As) hd hw hy (hM z e1) hf hnA hst hW (by rw [hz.1, hz.2]; exact kz)
theorem xo_SN_RH {host : String} {rest st0 : List Value} (As : List Value) {y : MethodName} {bytes : ByteArray} {maxL n index : Nat} {ret' : Option FieldType} {R' : Room} {o : Option (Nat × xw)} {g : Nat × xw → Option ρ} (hd : xD cc pc (.invokestatic index) 3 pc') (hw : (own, index, y, host) ∈ xNw) (hy : xYS y bytes maxL ret' n) (h : o.bind g = some ro) (hM : ∀ z, o = some z → xM X.1 y bytes maxL ret' R' X.2.1 X.2.2.1 As w sz (some (.ref z.1), z.2, sz)) (hf : xfit R' maxL R cl sl = true) (hz : R'.cells = 0 ∧ R'.slots = 0) (hnA : As.length = n) (hst : st0 = As.reverse ++ rest) (hW : Nat.ble (rest.map fun v => v.category).sum 8 = true) (k : ∀ z, g z = some ro → xK cc nL own nm ret R X lv (.ref z.1 :: rest) z.2 sz cl sl pc' r) : xK cc nL own nm ret R X lv (st0) w sz cl sl pc r := by
  skip
  obtain ⟨z, e1, h⟩ := xb h
  have kz := k z h
  exact xc_SN (As := As) hd hw hy (hM z e1) hf hnA hst hW (by rw [hz.1, hz.2]; exact kz)
theorem xo_V_RH {rest st0 : List Value} (As : List Value) {y : MethodName} {bytes : ByteArray} {maxL n index : Nat} {b ci N : Nat} {T : u_T} {ty : Nat → FieldType} {ret' : Option FieldType} {R' : Room} {o : Option (Nat × xw)} {g : Nat × xw → Option ρ} (hd : xD cc pc (.invokevirtual index) 3 pc') (hw : Cond.methodLink own index y ∈ xT) (hy : xYV y bytes maxL ret' n) (h : (xck w b ci).bind (fun _ => o.bind g) = some ro) (K : xC ci y.cls T N ty) (hM : ∀ z, o = some z → xM X.1 y bytes maxL ret' R' X.2.1 X.2.2.1 (.ref b :: As) w sz (some (.ref z.1), z.2, sz)) (hf : xfit R' maxL R cl sl = true) (hz : R'.cells = 0 ∧ R'.slots = 0) (hnA : As.length = n) (hst : st0 = As.reverse ++ .ref b :: rest) (hW : Nat.ble (rest.map fun v => v.category).sum 8 = true) (k : ∀ z, g z = some ro → xK cc nL own nm ret R X lv (.ref z.1 :: rest) z.2 sz cl sl pc' r) : xK cc nL own nm ret R X lv (st0) w sz cl sl pc r := by
  obtain ⟨u, hu, h⟩ := xb h
  obtain ⟨z, e1, h⟩ := xb h
  have kz := k z h
  exact xc_V (As := As) hd hw hy K hu (hM z e1) hf hnA hst hW (by rw [hz.1, hz.2]; exact kz)
theorem xo_VN_RH {host : String} {rest st0 : List Value} (As : List Value) {y : MethodName} {bytes : ByteArray} {maxL n index : Nat} {b ci N : Nat} {T : u_T} {ty : Nat → FieldType} {ret' : Option FieldType} {R' : Room} {o : Option (Nat × xw)} {g : Nat × xw → Option ρ} (hd : xD cc pc (.invokevirtual index) 3 pc') (hw : (own, index, y, host) ∈ xNw) (hy : xYV y bytes maxL ret' n) (h : (xck w b ci).bind (fun _ => o.bind g) = some ro) (K : xC ci y.cls T N ty) (hM : ∀ z, o = some z → xM X.1 y bytes maxL ret' R' X.2.1 X.2.2.1 (.ref b :: As) w sz (some (.ref z.1), z.2, sz)) (hf : xfit R' maxL R cl sl = true) (hz : R'.cells = 0 ∧ R'.slots = 0) (hnA : As.length = n) (hst : st0 = As.reverse ++ .ref b :: rest) (hW : Nat.ble (rest.map fun v => v.category).sum 8 = true) (k : ∀ z, g z = some ro → xK cc nL own nm ret R X lv (.ref z.1 :: rest) z.2 sz cl sl pc' r) : xK cc nL own nm ret R X lv (st0) w sz cl sl pc r := by
  obtain ⟨u, hu, h⟩ := xb h
  obtain ⟨z, e1, h⟩ := xb h
  have kz := k z h
  exact xc_VN (As := As) hd hw hy K hu (hM z e1) hf hnA hst hW (by rw [hz.1, hz.2]; exact kz)
theorem xo_S_RA {rest st0 : List Value} (As : List Value) {y : MethodName} {bytes : ByteArray} {maxL n index : Nat} {ret' : Option FieldType} {R' : Room} {o : Option (Nat × xw × Nat)} {g : Nat × xw × Nat → Option ρ} (hd : xD cc pc (.invokestatic index) 3 pc') (hw : Cond.methodLink own index y ∈ xT) (hy : xYS y bytes maxL ret' n) (h : o.bind g = some ro) (hM : ∀ z, o = some z → xM X.1 y bytes maxL ret' R' X.2.1 X.2.2.1 As w sz (some (.ref z.1), z.2.1, z.2.2)) (hf : xfit R' maxL R cl sl = true) (hnA : As.length = n) (hst : st0 = As.reverse ++ rest) (hW : Nat.ble (rest.map fun v => v.category).sum 8 = true) (k : ∀ z, g z = some ro → xK cc nL own nm ret R X lv (.ref z.1 :: rest) z.2.1 z.2.2 (cl + R'.cells) (sl + R'.slots) pc' r) : xK cc nL own nm ret R X lv (st0) w sz cl sl pc r := by
  skip
  obtain ⟨z, e1, h⟩ := xb h
  have kz := k z h
  exact xc_S (As := As) hd hw hy (hM z e1) hf hnA hst hW kz
theorem xo_SN_RA {host : String} {rest st0 : List Value} (As : List Value) {y : MethodName} {bytes : ByteArray} {maxL n index : Nat} {ret' : Option FieldType} {R' : Room} {o : Option (Nat × xw × Nat)} {g : Nat × xw × Nat → Option ρ} (hd : xD cc pc (.invokestatic index) 3 pc') (hw : (own, index, y, host) ∈ xNw) (hy : xYS y bytes maxL ret' n) (h : o.bind g = some ro) (hM : ∀ z, o = some z → xM X.1 y bytes maxL ret' R' X.2.1 X.2.2.1 As w sz (some (.ref z.1), z.2.1, z.2.2)) (hf : xfit R' maxL R cl sl = true) (hnA : As.length = n) (hst : st0 = As.reverse ++ rest) (hW : Nat.ble (rest.map fun v => v.category).sum 8 = true) (k : ∀ z, g z = some ro → xK cc nL own nm ret R X lv (.ref z.1 :: rest) z.2.1 z.2.2 (cl + R'.cells) (sl + R'.slots) pc' r) : xK cc nL own nm ret R X lv (st0) w sz cl sl pc r := by
  skip
  obtain ⟨z, e1, h⟩ := xb h
  have kz := k z h
  exact xc_SN (As := As) hd hw hy (hM z e1) hf hnA hst hW kz
theorem xo_V_RA {rest st0 : List Value} (As : List Value) {y : MethodName} {bytes : ByteArray} {maxL n index : Nat} {b ci N : Nat} {T : u_T} {ty : Nat → FieldType} {ret' : Option FieldType} {R' : Room} {o : Option (Nat × xw × Nat)} {g : Nat × xw × Nat → Option ρ} (hd : xD cc pc (.invokevirtual index) 3 pc') (hw : Cond.methodLink own index y ∈ xT) (hy : xYV y bytes maxL ret' n) (h : (xck w b ci).bind (fun _ => o.bind g) = some ro) (K : xC ci y.cls T N ty) (hM : ∀ z, o = some z → xM X.1 y bytes maxL ret' R' X.2.1 X.2.2.1 (.ref b :: As) w sz (some (.ref z.1), z.2.1, z.2.2)) (hf : xfit R' maxL R cl sl = true) (hnA : As.length = n) (hst : st0 = As.reverse ++ .ref b :: rest) (hW : Nat.ble (rest.map fun v => v.category).sum 8 = true) (k : ∀ z, g z = some ro → xK cc nL own nm ret R X lv (.ref z.1 :: rest) z.2.1 z.2.2 (cl + R'.cells) (sl + R'.slots) pc' r) : xK cc nL own nm ret R X lv (st0) w sz cl sl pc r := by
  obtain ⟨u, hu, h⟩ := xb h
  obtain ⟨z, e1, h⟩ := xb h
  have kz := k z h
  exact xc_V (As := As) hd hw hy K hu (hM z e1) hf hnA hst hW kz
theorem xo_VN_RA {host : String} {rest st0 : List Value} (As : List Value) {y : MethodName} {bytes : ByteArray} {maxL n index : Nat} {b ci N : Nat} {T : u_T} {ty : Nat → FieldType} {ret' : Option FieldType} {R' : Room} {o : Option (Nat × xw × Nat)} {g : Nat × xw × Nat → Option ρ} (hd : xD cc pc (.invokevirtual index) 3 pc') (hw : (own, index, y, host) ∈ xNw) (hy : xYV y bytes maxL ret' n) (h : (xck w b ci).bind (fun _ => o.bind g) = some ro) (K : xC ci y.cls T N ty) (hM : ∀ z, o = some z → xM X.1 y bytes maxL ret' R' X.2.1 X.2.2.1 (.ref b :: As) w sz (some (.ref z.1), z.2.1, z.2.2)) (hf : xfit R' maxL R cl sl = true) (hnA : As.length = n) (hst : st0 = As.reverse ++ .ref b :: rest) (hW : Nat.ble (rest.map fun v => v.category).sum 8 = true) (k : ∀ z, g z = some ro → xK cc nL own nm ret R X lv (.ref z.1 :: rest) z.2.1 z.2.2 (cl + R'.cells) (sl + R'.slots) pc' r) : xK cc nL own nm ret R X lv (st0) w sz cl sl pc r := by
  obtain ⟨u, hu, h⟩ := xb h
  obtain ⟨z, e1, h⟩ := xb h
  have kz := k z h
  exact xc_VN (As := As) hd hw hy K hu (hM z e1) hf hnA hst hW kz
theorem xo_S_VH {rest st0 : List Value} (As : List Value) {y : MethodName} {bytes : ByteArray} {maxL n index : Nat} {ret' : Option FieldType} {R' : Room} {o : Option (Unit × xw)} {g : Unit × xw → Option ρ} (hd : xD cc pc (.invokestatic index) 3 pc') (hw : Cond.methodLink own index y ∈ xT) (hy : xYS y bytes maxL ret' n) (h : o.bind g = some ro) (hM : ∀ z, o = some z → xM X.1 y bytes maxL ret' R' X.2.1 X.2.2.1 As w sz (none, z.2, sz)) (hf : xfit R' maxL R cl sl = true) (hz : R'.cells = 0 ∧ R'.slots = 0) (hnA : As.length = n) (hst : st0 = As.reverse ++ rest) (hW : Nat.ble (rest.map fun v => v.category).sum 8 = true) (k : ∀ z, g z = some ro → xK cc nL own nm ret R X lv (rest) z.2 sz cl sl pc' r) : xK cc nL own nm ret R X lv (st0) w sz cl sl pc r := by
  skip
  obtain ⟨z, e1, h⟩ := xb h
  have kz := k z h
  exact xc_S (As := As) hd hw hy (hM z e1) hf hnA hst hW (by rw [hz.1, hz.2]; exact kz)
theorem xo_SN_VH {host : String} {rest st0 : List Value} (As : List Value) {y : MethodName} {bytes : ByteArray} {maxL n index : Nat} {ret' : Option FieldType} {R' : Room} {o : Option (Unit × xw)} {g : Unit × xw → Option ρ} (hd : xD cc pc (.invokestatic index) 3 pc') (hw : (own, index, y, host) ∈ xNw) (hy : xYS y bytes maxL ret' n) (h : o.bind g = some ro) (hM : ∀ z, o = some z → xM X.1 y bytes maxL ret' R' X.2.1 X.2.2.1 As w sz (none, z.2, sz)) (hf : xfit R' maxL R cl sl = true) (hz : R'.cells = 0 ∧ R'.slots = 0) (hnA : As.length = n) (hst : st0 = As.reverse ++ rest) (hW : Nat.ble (rest.map fun v => v.category).sum 8 = true) (k : ∀ z, g z = some ro → xK cc nL own nm ret R X lv (rest) z.2 sz cl sl pc' r) : xK cc nL own nm ret R X lv (st0) w sz cl sl pc r := by
  skip
  obtain ⟨z, e1, h⟩ := xb h
  have kz := k z h
  exact xc_SN (As := As) hd hw hy (hM z e1) hf hnA hst hW (by rw [hz.1, hz.2]; exact kz)
theorem xo_V_VH {rest st0 : List Value} (As : List Value) {y : MethodName} {bytes : ByteArray} {maxL n index : Nat} {b ci N : Nat} {T : u_T} {ty : Nat → FieldType} {ret' : Option FieldType} {R' : Room} {o : Option (Unit × xw)} {g : Unit × xw → Option ρ} (hd : xD cc pc (.invokevirtual index) 3 pc') (hw : Cond.methodLink own index y ∈ xT) (hy : xYV y bytes maxL ret' n) (h : (xck w b ci).bind (fun _ => o.bind g) = some ro) (K : xC ci y.cls T N ty) (hM : ∀ z, o = some z → xM X.1 y bytes maxL ret' R' X.2.1 X.2.2.1 (.ref b :: As) w sz (none, z.2, sz)) (hf : xfit R' maxL R cl sl = true) (hz : R'.cells = 0 ∧ R'.slots = 0) (hnA : As.length = n) (hst : st0 = As.reverse ++ .ref b :: rest) (hW : Nat.ble (rest.map fun v => v.category).sum 8 = true) (k : ∀ z, g z = some ro → xK cc nL own nm ret R X lv (rest) z.2 sz cl sl pc' r) : xK cc nL own nm ret R X lv (st0) w sz cl sl pc r := by
  obtain ⟨u, hu, h⟩ := xb h
  obtain ⟨z, e1, h⟩ := xb h
  have kz := k z h
  exact xc_V (As := As) hd hw hy K hu (hM z e1) hf hnA hst hW (by rw [hz.1, hz.2]; exact kz)
theorem xo_VN_VH {host : String} {rest st0 : List Value} (As : List Value) {y : MethodName} {bytes : ByteArray} {maxL n index : Nat} {b ci N : Nat} {T : u_T} {ty : Nat → FieldType} {ret' : Option FieldType} {R' : Room} {o : Option (Unit × xw)} {g : Unit × xw → Option ρ} (hd : xD cc pc (.invokevirtual index) 3 pc') (hw : (own, index, y, host) ∈ xNw) (hy : xYV y bytes maxL ret' n) (h : (xck w b ci).bind (fun _ => o.bind g) = some ro) (K : xC ci y.cls T N ty) (hM : ∀ z, o = some z → xM X.1 y bytes maxL ret' R' X.2.1 X.2.2.1 (.ref b :: As) w sz (none, z.2, sz)) (hf : xfit R' maxL R cl sl = true) (hz : R'.cells = 0 ∧ R'.slots = 0) (hnA : As.length = n) (hst : st0 = As.reverse ++ .ref b :: rest) (hW : Nat.ble (rest.map fun v => v.category).sum 8 = true) (k : ∀ z, g z = some ro → xK cc nL own nm ret R X lv (rest) z.2 sz cl sl pc' r) : xK cc nL own nm ret R X lv (st0) w sz cl sl pc r := by
  obtain ⟨u, hu, h⟩ := xb h
  obtain ⟨z, e1, h⟩ := xb h
  have kz := k z h
  exact xc_VN (As := As) hd hw hy K hu (hM z e1) hf hnA hst hW (by rw [hz.1, hz.2]; exact kz)
theorem xo_I_VH {rest st0 : List Value} (As : List Value) {y : MethodName} {bytes : ByteArray} {maxL n index : Nat} {b : Nat} {R' : Room} {o : Option (Unit × xw)} {g : Unit × xw → Option ρ} (hd : xD cc pc (.invokespecial index) 3 pc') (hw : Cond.methodLink own index y ∈ xT) (hy : xYI y bytes maxL n) (h : o.bind g = some ro) (hM : ∀ z, o = some z → xM X.1 y bytes maxL none R' X.2.1 X.2.2.1 (.ref b :: As) w sz (none, z.2, sz)) (hf : xfit R' maxL R cl sl = true) (hz : R'.cells = 0 ∧ R'.slots = 0) (hnA : As.length = n) (hst : st0 = As.reverse ++ .ref b :: rest) (hW : Nat.ble (rest.map fun v => v.category).sum 8 = true) (k : ∀ z, g z = some ro → xK cc nL own nm ret R X lv (rest) z.2 sz cl sl pc' r) : xK cc nL own nm ret R X lv (st0) w sz cl sl pc r := by
  skip
  obtain ⟨z, e1, h⟩ := xb h
  have kz := k z h
  exact xc_I (As := As) hd hw hy (hM z e1) hf hnA hst hW (by rw [hz.1, hz.2]; exact kz)
theorem xo_IN_VH {host : String} {rest st0 : List Value} (As : List Value) {y : MethodName} {bytes : ByteArray} {maxL n index : Nat} {b : Nat} {R' : Room} {o : Option (Unit × xw)} {g : Unit × xw → Option ρ} (hd : xD cc pc (.invokespecial index) 3 pc') (hw : (own, index, y, host) ∈ xNw) (hy : xYI y bytes maxL n) (h : o.bind g = some ro) (hM : ∀ z, o = some z → xM X.1 y bytes maxL none R' X.2.1 X.2.2.1 (.ref b :: As) w sz (none, z.2, sz)) (hf : xfit R' maxL R cl sl = true) (hz : R'.cells = 0 ∧ R'.slots = 0) (hnA : As.length = n) (hst : st0 = As.reverse ++ .ref b :: rest) (hW : Nat.ble (rest.map fun v => v.category).sum 8 = true) (k : ∀ z, g z = some ro → xK cc nL own nm ret R X lv (rest) z.2 sz cl sl pc' r) : xK cc nL own nm ret R X lv (st0) w sz cl sl pc r := by
  skip
  obtain ⟨z, e1, h⟩ := xb h
  have kz := k z h
  exact xc_IN (As := As) hd hw hy (hM z e1) hf hnA hst hW (by rw [hz.1, hz.2]; exact kz)
theorem xo_S_VA {rest st0 : List Value} (As : List Value) {y : MethodName} {bytes : ByteArray} {maxL n index : Nat} {ret' : Option FieldType} {R' : Room} {o : Option (Unit × xw × Nat)} {g : Unit × xw × Nat → Option ρ} (hd : xD cc pc (.invokestatic index) 3 pc') (hw : Cond.methodLink own index y ∈ xT) (hy : xYS y bytes maxL ret' n) (h : o.bind g = some ro) (hM : ∀ z, o = some z → xM X.1 y bytes maxL ret' R' X.2.1 X.2.2.1 As w sz (none, z.2.1, z.2.2)) (hf : xfit R' maxL R cl sl = true) (hnA : As.length = n) (hst : st0 = As.reverse ++ rest) (hW : Nat.ble (rest.map fun v => v.category).sum 8 = true) (k : ∀ z, g z = some ro → xK cc nL own nm ret R X lv (rest) z.2.1 z.2.2 (cl + R'.cells) (sl + R'.slots) pc' r) : xK cc nL own nm ret R X lv (st0) w sz cl sl pc r := by
  skip
  obtain ⟨z, e1, h⟩ := xb h
  have kz := k z h
  exact xc_S (As := As) hd hw hy (hM z e1) hf hnA hst hW kz
theorem xo_SN_VA {host : String} {rest st0 : List Value} (As : List Value) {y : MethodName} {bytes : ByteArray} {maxL n index : Nat} {ret' : Option FieldType} {R' : Room} {o : Option (Unit × xw × Nat)} {g : Unit × xw × Nat → Option ρ} (hd : xD cc pc (.invokestatic index) 3 pc') (hw : (own, index, y, host) ∈ xNw) (hy : xYS y bytes maxL ret' n) (h : o.bind g = some ro) (hM : ∀ z, o = some z → xM X.1 y bytes maxL ret' R' X.2.1 X.2.2.1 As w sz (none, z.2.1, z.2.2)) (hf : xfit R' maxL R cl sl = true) (hnA : As.length = n) (hst : st0 = As.reverse ++ rest) (hW : Nat.ble (rest.map fun v => v.category).sum 8 = true) (k : ∀ z, g z = some ro → xK cc nL own nm ret R X lv (rest) z.2.1 z.2.2 (cl + R'.cells) (sl + R'.slots) pc' r) : xK cc nL own nm ret R X lv (st0) w sz cl sl pc r := by
  skip
  obtain ⟨z, e1, h⟩ := xb h
  have kz := k z h
  exact xc_SN (As := As) hd hw hy (hM z e1) hf hnA hst hW kz
theorem xo_V_VA {rest st0 : List Value} (As : List Value) {y : MethodName} {bytes : ByteArray} {maxL n index : Nat} {b ci N : Nat} {T : u_T} {ty : Nat → FieldType} {ret' : Option FieldType} {R' : Room} {o : Option (Unit × xw × Nat)} {g : Unit × xw × Nat → Option ρ} (hd : xD cc pc (.invokevirtual index) 3 pc') (hw : Cond.methodLink own index y ∈ xT) (hy : xYV y bytes maxL ret' n) (h : (xck w b ci).bind (fun _ => o.bind g) = some ro) (K : xC ci y.cls T N ty) (hM : ∀ z, o = some z → xM X.1 y bytes maxL ret' R' X.2.1 X.2.2.1 (.ref b :: As) w sz (none, z.2.1, z.2.2)) (hf : xfit R' maxL R cl sl = true) (hnA : As.length = n) (hst : st0 = As.reverse ++ .ref b :: rest) (hW : Nat.ble (rest.map fun v => v.category).sum 8 = true) (k : ∀ z, g z = some ro → xK cc nL own nm ret R X lv (rest) z.2.1 z.2.2 (cl + R'.cells) (sl + R'.slots) pc' r) : xK cc nL own nm ret R X lv (st0) w sz cl sl pc r := by
  obtain ⟨u, hu, h⟩ := xb h
  obtain ⟨z, e1, h⟩ := xb h
  have kz := k z h
  exact xc_V (As := As) hd hw hy K hu (hM z e1) hf hnA hst hW kz
theorem xo_VN_VA {host : String} {rest st0 : List Value} (As : List Value) {y : MethodName} {bytes : ByteArray} {maxL n index : Nat} {b ci N : Nat} {T : u_T} {ty : Nat → FieldType} {ret' : Option FieldType} {R' : Room} {o : Option (Unit × xw × Nat)} {g : Unit × xw × Nat → Option ρ} (hd : xD cc pc (.invokevirtual index) 3 pc') (hw : (own, index, y, host) ∈ xNw) (hy : xYV y bytes maxL ret' n) (h : (xck w b ci).bind (fun _ => o.bind g) = some ro) (K : xC ci y.cls T N ty) (hM : ∀ z, o = some z → xM X.1 y bytes maxL ret' R' X.2.1 X.2.2.1 (.ref b :: As) w sz (none, z.2.1, z.2.2)) (hf : xfit R' maxL R cl sl = true) (hnA : As.length = n) (hst : st0 = As.reverse ++ .ref b :: rest) (hW : Nat.ble (rest.map fun v => v.category).sum 8 = true) (k : ∀ z, g z = some ro → xK cc nL own nm ret R X lv (rest) z.2.1 z.2.2 (cl + R'.cells) (sl + R'.slots) pc' r) : xK cc nL own nm ret R X lv (st0) w sz cl sl pc r := by
  obtain ⟨u, hu, h⟩ := xb h
  obtain ⟨z, e1, h⟩ := xb h
  have kz := k z h
  exact xc_VN (As := As) hd hw hy K hu (hM z e1) hf hnA hst hW kz
theorem xo_I_VA {rest st0 : List Value} (As : List Value) {y : MethodName} {bytes : ByteArray} {maxL n index : Nat} {b : Nat} {R' : Room} {o : Option (Unit × xw × Nat)} {g : Unit × xw × Nat → Option ρ} (hd : xD cc pc (.invokespecial index) 3 pc') (hw : Cond.methodLink own index y ∈ xT) (hy : xYI y bytes maxL n) (h : o.bind g = some ro) (hM : ∀ z, o = some z → xM X.1 y bytes maxL none R' X.2.1 X.2.2.1 (.ref b :: As) w sz (none, z.2.1, z.2.2)) (hf : xfit R' maxL R cl sl = true) (hnA : As.length = n) (hst : st0 = As.reverse ++ .ref b :: rest) (hW : Nat.ble (rest.map fun v => v.category).sum 8 = true) (k : ∀ z, g z = some ro → xK cc nL own nm ret R X lv (rest) z.2.1 z.2.2 (cl + R'.cells) (sl + R'.slots) pc' r) : xK cc nL own nm ret R X lv (st0) w sz cl sl pc r := by
  skip
  obtain ⟨z, e1, h⟩ := xb h
  have kz := k z h
  exact xc_I (As := As) hd hw hy (hM z e1) hf hnA hst hW kz
theorem xo_IN_VA {host : String} {rest st0 : List Value} (As : List Value) {y : MethodName} {bytes : ByteArray} {maxL n index : Nat} {b : Nat} {R' : Room} {o : Option (Unit × xw × Nat)} {g : Unit × xw × Nat → Option ρ} (hd : xD cc pc (.invokespecial index) 3 pc') (hw : (own, index, y, host) ∈ xNw) (hy : xYI y bytes maxL n) (h : o.bind g = some ro) (hM : ∀ z, o = some z → xM X.1 y bytes maxL none R' X.2.1 X.2.2.1 (.ref b :: As) w sz (none, z.2.1, z.2.2)) (hf : xfit R' maxL R cl sl = true) (hnA : As.length = n) (hst : st0 = As.reverse ++ .ref b :: rest) (hW : Nat.ble (rest.map fun v => v.category).sum 8 = true) (k : ∀ z, g z = some ro → xK cc nL own nm ret R X lv (rest) z.2.1 z.2.2 (cl + R'.cells) (sl + R'.slots) pc' r) : xK cc nL own nm ret R X lv (st0) w sz cl sl pc r := by
  skip
  obtain ⟨z, e1, h⟩ := xb h
  have kz := k z h
  exact xc_IN (As := As) hd hw hy (hM z e1) hf hnA hst hW kz
theorem xo_retI0 {v : Int32} {ro : Int32} (hd : xD cc pc .ireturn 1 pc') (hret : ret = some .int) (hc : cl = R.cells) (hs : sl = R.slots) (h : some v = some ro) : xK cc nL own nm ret R X lv ([.int v]) w sz cl sl pc (some (.int ro), w, sz) := by
  cases h
  subst hc
  subst hs
  exact fun p e s m below meth c H locs ls Z hm hn hr hk J hl => W.iret Z.1 Z.2.1 (hr.trans hret) (fun t ht hW => ⟨rfl, by rw [ht]; exact J.1, by rw [ht]; exact J.2.2.2.1, J.2.2.1, J.2.1.F ht⟩) J.2.1.2.2 hd.1 hk
theorem xo_retIH {v : Int32} {ro : Int32 × xw} (hd : xD cc pc .ireturn 1 pc') (hret : ret = some .int) (hc : cl = R.cells) (hs : sl = R.slots) (h : some (v, w) = some ro) : xK cc nL own nm ret R X lv ([.int v]) w sz cl sl pc (some (.int ro.1), ro.2, sz) := by
  cases h
  subst hc
  subst hs
  exact fun p e s m below meth c H locs ls Z hm hn hr hk J hl => W.iret Z.1 Z.2.1 (hr.trans hret) (fun t ht hW => ⟨rfl, by rw [ht]; exact J.1, by rw [ht]; exact J.2.2.2.1, J.2.2.1, J.2.1.F ht⟩) J.2.1.2.2 hd.1 hk
theorem xo_retIA {v : Int32} {ro : Int32 × xw × Nat} (hd : xD cc pc .ireturn 1 pc') (hret : ret = some .int) (hc : cl = R.cells) (hs : sl = R.slots) (h : some (v, w, sz) = some ro) : xK cc nL own nm ret R X lv ([.int v]) w sz cl sl pc (some (.int ro.1), ro.2.1, ro.2.2) := by
  cases h
  subst hc
  subst hs
  exact fun p e s m below meth c H locs ls Z hm hn hr hk J hl => W.iret Z.1 Z.2.1 (hr.trans hret) (fun t ht hW => ⟨rfl, by rw [ht]; exact J.1, by rw [ht]; exact J.2.2.2.1, J.2.2.1, J.2.1.F ht⟩) J.2.1.2.2 hd.1 hk
theorem xo_retL0 {v : Int64} {ro : Int64} (hd : xD cc pc .lreturn 1 pc') (hret : ret = some .long) (hc : cl = R.cells) (hs : sl = R.slots) (h : some v = some ro) : xK cc nL own nm ret R X lv ([.long v]) w sz cl sl pc (some (.long ro), w, sz) := by
  cases h
  subst hc
  subst hs
  exact fun p e s m below meth c H locs ls Z hm hn hr hk J hl => W.lret Z.1 Z.2.1 (hr.trans hret) (fun t ht hW => ⟨rfl, by rw [ht]; exact J.1, by rw [ht]; exact J.2.2.2.1, J.2.2.1, J.2.1.F ht⟩) J.2.1.2.2 hd.1 hk
theorem xo_retLH {v : Int64} {ro : Int64 × xw} (hd : xD cc pc .lreturn 1 pc') (hret : ret = some .long) (hc : cl = R.cells) (hs : sl = R.slots) (h : some (v, w) = some ro) : xK cc nL own nm ret R X lv ([.long v]) w sz cl sl pc (some (.long ro.1), ro.2, sz) := by
  cases h
  subst hc
  subst hs
  exact fun p e s m below meth c H locs ls Z hm hn hr hk J hl => W.lret Z.1 Z.2.1 (hr.trans hret) (fun t ht hW => ⟨rfl, by rw [ht]; exact J.1, by rw [ht]; exact J.2.2.2.1, J.2.2.1, J.2.1.F ht⟩) J.2.1.2.2 hd.1 hk
theorem xo_retLA {v : Int64} {ro : Int64 × xw × Nat} (hd : xD cc pc .lreturn 1 pc') (hret : ret = some .long) (hc : cl = R.cells) (hs : sl = R.slots) (h : some (v, w, sz) = some ro) : xK cc nL own nm ret R X lv ([.long v]) w sz cl sl pc (some (.long ro.1), ro.2.1, ro.2.2) := by
  cases h
  subst hc
  subst hs
  exact fun p e s m below meth c H locs ls Z hm hn hr hk J hl => W.lret Z.1 Z.2.1 (hr.trans hret) (fun t ht hW => ⟨rfl, by rw [ht]; exact J.1, by rw [ht]; exact J.2.2.2.1, J.2.2.1, J.2.1.F ht⟩) J.2.1.2.2 hd.1 hk
theorem xo_retR0 {v : Nat} {rt : FieldType} {ro : Nat} (hd : xD cc pc .areturn 1 pc') (hrt : (∃ n, rt = .object n) ∨ ∃ t, rt = .array t) (hret : ret = some rt) (hc : cl = R.cells) (hs : sl = R.slots) (h : some v = some ro) : xK cc nL own nm ret R X lv ([.ref v]) w sz cl sl pc (some (.ref ro), w, sz) := by
  cases h
  subst hc
  subst hs
  exact fun p e s m below meth c H locs ls Z hm hn hr hk J hl => W.aret Z.1 Z.2.1 (hr.trans hret) hrt (Or.inr ⟨_, rfl⟩) (fun t ht hW => ⟨rfl, by rw [ht]; exact J.1, by rw [ht]; exact J.2.2.2.1, J.2.2.1, J.2.1.F ht⟩) J.2.1.2.2 hd.1 hk
theorem xo_retRH {v : Nat} {rt : FieldType} {ro : Nat × xw} (hd : xD cc pc .areturn 1 pc') (hrt : (∃ n, rt = .object n) ∨ ∃ t, rt = .array t) (hret : ret = some rt) (hc : cl = R.cells) (hs : sl = R.slots) (h : some (v, w) = some ro) : xK cc nL own nm ret R X lv ([.ref v]) w sz cl sl pc (some (.ref ro.1), ro.2, sz) := by
  cases h
  subst hc
  subst hs
  exact fun p e s m below meth c H locs ls Z hm hn hr hk J hl => W.aret Z.1 Z.2.1 (hr.trans hret) hrt (Or.inr ⟨_, rfl⟩) (fun t ht hW => ⟨rfl, by rw [ht]; exact J.1, by rw [ht]; exact J.2.2.2.1, J.2.2.1, J.2.1.F ht⟩) J.2.1.2.2 hd.1 hk
theorem xo_retRA {v : Nat} {rt : FieldType} {ro : Nat × xw × Nat} (hd : xD cc pc .areturn 1 pc') (hrt : (∃ n, rt = .object n) ∨ ∃ t, rt = .array t) (hret : ret = some rt) (hc : cl = R.cells) (hs : sl = R.slots) (h : some (v, w, sz) = some ro) : xK cc nL own nm ret R X lv ([.ref v]) w sz cl sl pc (some (.ref ro.1), ro.2.1, ro.2.2) := by
  cases h
  subst hc
  subst hs
  exact fun p e s m below meth c H locs ls Z hm hn hr hk J hl => W.aret Z.1 Z.2.1 (hr.trans hret) hrt (Or.inr ⟨_, rfl⟩) (fun t ht hW => ⟨rfl, by rw [ht]; exact J.1, by rw [ht]; exact J.2.2.2.1, J.2.2.1, J.2.1.F ht⟩) J.2.1.2.2 hd.1 hk
theorem xo_retV0 {ro : Unit} (hd : xD cc pc .return_ 1 pc') (hret : ret = none) (hc : cl = R.cells) (hs : sl = R.slots) (h : some () = some ro) : xK cc nL own nm ret R X lv ([]) w sz cl sl pc (none, w, sz) := by
  cases h
  subst hc
  subst hs
  exact fun p e s m below meth c H locs ls Z hm hn hr hk J hl => W.vret Z.1 Z.2.1 (hr.trans hret) (fun t ht hW => ⟨rfl, by rw [ht]; exact J.1, by rw [ht]; exact J.2.2.2.1, J.2.2.1, J.2.1.F ht⟩) J.2.1.2.2 hd.1 hk
theorem xo_retVH {ro : Unit × xw} (hd : xD cc pc .return_ 1 pc') (hret : ret = none) (hc : cl = R.cells) (hs : sl = R.slots) (h : some ((), w) = some ro) : xK cc nL own nm ret R X lv ([]) w sz cl sl pc (none, ro.2, sz) := by
  cases h
  subst hc
  subst hs
  exact fun p e s m below meth c H locs ls Z hm hn hr hk J hl => W.vret Z.1 Z.2.1 (hr.trans hret) (fun t ht hW => ⟨rfl, by rw [ht]; exact J.1, by rw [ht]; exact J.2.2.2.1, J.2.2.1, J.2.1.F ht⟩) J.2.1.2.2 hd.1 hk
theorem xo_retVA {ro : Unit × xw × Nat} (hd : xD cc pc .return_ 1 pc') (hret : ret = none) (hc : cl = R.cells) (hs : sl = R.slots) (h : some ((), w, sz) = some ro) : xK cc nL own nm ret R X lv ([]) w sz cl sl pc (none, ro.2.1, ro.2.2) := by
  cases h
  subst hc
  subst hs
  exact fun p e s m below meth c H locs ls Z hm hn hr hk J hl => W.vret Z.1 Z.2.1 (hr.trans hret) (fun t ht hW => ⟨rfl, by rw [ht]; exact J.1, by rw [ht]; exact J.2.2.2.1, J.2.2.1, J.2.1.F ht⟩) J.2.1.2.2 hd.1 hk
theorem xo_retZ0 {v : Int32} {ro : Int32} (hd : xD cc pc .ireturn 1 pc') (hret : ret = some .boolean) (hc : cl = R.cells) (hs : sl = R.slots) (h : xrZ0 v = some ro) : xK cc nL own nm ret R X lv ([.int v]) w sz cl sl pc (some (.int ro), w, sz) := by
  obtain ⟨hz, rfl⟩ := xrZ0_inv h
  subst hc
  subst hs
  exact fun p e s m below meth c H locs ls Z hm hn hr hk J hl => W.zret Z.1 Z.2.1 (hr.trans hret) (xnar hz).1 (fun t ht hW => ⟨rfl, by rw [ht]; exact J.1, by rw [ht]; exact J.2.2.2.1, J.2.2.1, J.2.1.F ht⟩) J.2.1.2.2 hd.1 hk
theorem xo_retZH {v : Int32} {ro : Int32 × xw} (hd : xD cc pc .ireturn 1 pc') (hret : ret = some .boolean) (hc : cl = R.cells) (hs : sl = R.slots) (h : xrZ v w = some ro) : xK cc nL own nm ret R X lv ([.int v]) w sz cl sl pc (some (.int ro.1), ro.2, sz) := by
  obtain ⟨hz, rfl⟩ := xrZ_inv h
  subst hc
  subst hs
  exact fun p e s m below meth c H locs ls Z hm hn hr hk J hl => W.zret Z.1 Z.2.1 (hr.trans hret) (xnar hz).1 (fun t ht hW => ⟨rfl, by rw [ht]; exact J.1, by rw [ht]; exact J.2.2.2.1, J.2.2.1, J.2.1.F ht⟩) J.2.1.2.2 hd.1 hk
end XO
theorem xm_of {l : Launch} {y : MethodName} {bytes cc : ByteArray} {maxL : Nat} {ret : Option FieldType} {R : Room} {D : va_G} {cT : Nat → ClassId} {as : List Value} {w : xw} {sz : Nat} {r : xR} (hb : bytes = cc) (hp : plainName y.cls = true) (hn : Nat.ble (lg_sl as).length maxL = true)
    (h : xK cc maxL y.cls y.name ret R (l, D, cT, as, w, sz) (lv_args 0 as) [] w sz 0 0 0 r) : xM l y bytes maxL ret R D cT as w sz r := by
  refine Met.ofW (cc := bytes) (maxL := maxL) (ret := ret) hp rfl ?_
  intro p e s m args below meth c s₁ B hml hv
  obtain ⟨rfl, h1, h2, h3, h4⟩ := hv
  have hts := atoms_spec B.pre
  rw [lg_entry_eq]
  exact h p e s m below meth c s.heap [] _ ⟨B.exec, B.bytes.trans hb, findClass_of_methodNamed B.named, fun x hx => hts x (List.mem_cons_of_mem _ hx), h3, h4⟩ hml (name_of_methodNamed B.named B.method).1 B.returns B.notSynchronized ⟨h1, va_S.rf, fun a ha => Or.inl ha, h2, fun q hq => Or.inr (by rw [← h2]; exact hq)⟩ (lv_entry as (Nat.le_of_ble_eq_true hn))
