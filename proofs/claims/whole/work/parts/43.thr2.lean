/-! Throws: the judgement xU. -/
def xStr : List (String × Nat × String) := [("ProgramGate$Machine", 98, "the stack has no such place"), ("ProgramGate$Machine", 101, "the packet has no such byte"), ("ProgramGate$Machine", 111, "it divides by 0"), ("ProgramGate$Machine", 57, "the program's end is passed")]
/-- a static field that is laid, in a cell that nobody changes -/
def xLS (C n d : String) (A : Nat → Prop) (U : State) (H : Heap) : Prop := ∃ (c : ClassId) (k : Class) (i : Nat) (f : Field) (a : Nat) (cell : Cell), U.vm.findClass C = some c ∧ U.fieldFound? C n d = some (c, k, i, f) ∧ f.isStatic = true ∧ k.statics = some a ∧ H[a]? = some cell ∧ cell.vm.isStatics = true ∧ cell.cls = c ∧ f.slot < cell.slots.size ∧ k.staticTypes[f.slot]? = some f.type ∧ ¬ A a
theorem xLS.of {C n d : String} {A : Nat → Prop} {U : State} {args : Array Value} (h : (Cond.laysStatic C n d).before args U = true) (hA : ∀ a : Nat, a < U.heap.size → ¬ A a) : xLS C n d A U U.heap := by
  obtain ⟨c, k, i, f, a, cell, hc, hi, hst, ha, hcell, hs, hcls, hlt, hty⟩ := Cond.laysStatic_spec h
  exact ⟨c, k, i, f, a, cell, hc, hi, hst, ha, hcell, hs, hcls, hlt, hty, hA a (Array.getElem?_eq_some_iff.mp hcell).1⟩
theorem xLS.use {C n d : String} {A : Nat → Prop} {U : State} {args : Array Value} (h : xLS C n d A U U.heap) : (Cond.laysStatic C n d).before args U = true := by
  obtain ⟨c, k, i, f, a, cell, hc, hi, hst, ha, hcell, hs, hcls, hlt, hty, -⟩ := h
  exact Cond.laysStatic_of hc hi hst ha hcell hs hcls hlt hty
theorem xLS.moved {C n d : String} {A : Nat → Prop} {u U : State} {H : Heap} (hvm : u.vm.Alike U.vm) (h : xLS C n d A u H) : xLS C n d A U H := by
  obtain ⟨c, k, i, f, a, cell, hc, hi, hst, ha, hcell, hs, hcls, hlt, hty, hn⟩ := h
  obtain ⟨k', hi', hek⟩ := State.fieldFound?_setVm hvm hi
  have hi' : U.fieldFound? C n d = some (c, k', i, f) := hi'
  exact ⟨c, k', i, f, a, cell, by rw [hvm.findClass]; exact hc, hi', hst, by rw [hek]; exact ha, hcell, hs, hcls, hlt, by rw [hek]; exact hty, hn⟩
theorem xLS.kept {C n d : String} {A : Nat → Prop} {U : State} {H H1 : Heap} (h : xLS C n d A U H) (hq : ∀ a : Nat, a < H.size → ¬ A a → H1[a]? = H[a]?) : xLS C n d A U H1 := by
  obtain ⟨c, k, i, f, a, cell, hc, hi, hst, ha, hcell, hs, hcls, hlt, hty, hn⟩ := h
  exact ⟨c, k, i, f, a, cell, hc, hi, hst, ha, by rw [hq a (Array.getElem?_eq_some_iff.mp hcell).1 hn]; exact hcell, hs, hcls, hlt, hty, hn⟩
theorem xLS.narrow {C n d : String} {A B : Nat → Prop} {U : State} {H : Heap} (h : xLS C n d A U H) (hAB : ∀ q, B q → A q) : xLS C n d B U H := by
  obtain ⟨c, k, i, f, a, cell, hc, hi, hst, ha, hcell, hs, hcls, hlt, hty, hn⟩ := h
  exact ⟨c, k, i, f, a, cell, hc, hi, hst, ha, hcell, hs, hcls, hlt, hty, fun z => hn (hAB a z)⟩
def xDc : List Cond := [.declares (Bundle.initS "java/lang/RuntimeException"), .declares (Bundle.initS "java/lang/Exception"), .declares (Bundle.initS Bundle.tN), .castable "java/lang/IllegalStateException" "java/lang/IllegalStateException", .castable "java/lang/ArithmeticException" "java/lang/ArithmeticException", .castable "java/lang/IndexOutOfBoundsException" "java/lang/IndexOutOfBoundsException"]
def xNp : List (String × String) := [("java/lang/ArithmeticException", "java/lang/IllegalStateException"), ("java/lang/IndexOutOfBoundsException", "java/lang/IllegalStateException"), ("java/lang/IndexOutOfBoundsException", "java/lang/ArithmeticException")]
def xDT (U : State) : Prop := (∀ c ∈ xDc, c.before #[] U = true) ∧ ∀ x ∈ xNp, ∃ c t, U.vm.findClass x.1 = some c ∧ U.vm.findClass x.2 = some t ∧ U.vm.assignable c t = false
theorem xDT.moved {u U : State} (hvm : u.vm.Alike U.vm) (h : xDT u) : xDT U := by
  refine ⟨fun c hc => ?_, fun x hx => ?_⟩
  · have h1 := h.1 c hc
    have key : c.onTables = true ∧ c.before #[] (u.setVm U.vm) = true := by
      simp only [xDc, List.mem_cons, List.not_mem_nil, or_false] at hc
      rcases hc with rfl | rfl | rfl | rfl | rfl | rfl
      · exact ⟨rfl, by rw [Cond.declares_setVm hvm]; exact h1⟩
      · exact ⟨rfl, by rw [Cond.declares_setVm hvm]; exact h1⟩
      · exact ⟨rfl, by rw [Cond.declares_setVm hvm]; exact h1⟩
      · exact ⟨rfl, by rw [Cond.castable_setVm hvm]; exact h1⟩
      · exact ⟨rfl, by rw [Cond.castable_setVm hvm]; exact h1⟩
      · exact ⟨rfl, by rw [Cond.castable_setVm hvm]; exact h1⟩
    have e := Cond.onTables_vm (A := #[]) (A' := #[]) (U := u) (U' := U) U.vm c key.1
    have hU : U.setVm U.vm = U := rfl
    rw [hU] at e
    rw [← e]
    exact key.2
  · obtain ⟨c, t, h1, h2, h3⟩ := h.2 x hx
    exact ⟨c, t, by rw [hvm.findClass]; exact h1, by rw [hvm.findClass]; exact h2, by rw [hvm.assignable]; exact h3⟩
/-- what an exception's making asks beyond the tables -/
def xTF (A : Nat → Prop) (U : State) (H : Heap) : Prop := va_Zq Bundle.tN "UNASSIGNED_STACK" Bundle.steD A U H ∧ va_Zq Bundle.tN "SUPPRESSED_SENTINEL" Bundle.listD A U H ∧ (xLS Bundle.tN "UNASSIGNED_STACK" Bundle.steD A U H ∧ xLS Bundle.tN "SUPPRESSED_SENTINEL" Bundle.listD A U H) ∧ (∀ x ∈ xStr, ∃ q, vk_R x.1 x.2.1 x.2.2 q U) ∧ xDT U
theorem xTF.warm {A : Nat → Prop} {s U : State} {H : Heap} (hW : s.WarmedH U.vm) (h : xTF A s H) : xTF A U H := ⟨h.1.moved hW.alike, h.2.1.moved hW.alike, ⟨h.2.2.1.1.moved hW.alike, h.2.2.1.2.moved hW.alike⟩, fun x hx => by
  obtain ⟨q, hq⟩ := h.2.2.2.1 x hx
  exact ⟨q, hq.warm hW⟩, h.2.2.2.2.moved hW.alike⟩
theorem xTF.kept {A : Nat → Prop} {U : State} {H H1 : Heap} (h : xTF A U H) (hq : ∀ a : Nat, a < H.size → ¬ A a → H1[a]? = H[a]?) : xTF A U H1 := ⟨h.1.kept hq, h.2.1.kept hq, ⟨h.2.2.1.1.kept hq, h.2.2.1.2.kept hq⟩, h.2.2.2⟩
theorem xTF.narrow {A B : Nat → Prop} {U : State} {H : Heap} (h : xTF A U H) (hAB : ∀ q, B q → A q) : xTF B U H := ⟨h.1.narrow hAB, h.2.1.narrow hAB, ⟨h.2.2.1.1.narrow hAB, h.2.2.1.2.narrow hAB⟩, h.2.2.2⟩
theorem va_Zq_ref {C n d : String} {A : Nat → Prop} {U : State} {args : Array Value} (h : va_Zq C n d A U U.heap) : (Cond.isRef (.static C n d)).before args U = true := by
  have key : ∀ v : Value, va_Z C n d v A U U.heap → (Term.static C n d).eval args U none [] U = some v := fun v hv => by
    obtain ⟨cf, kf, fi, f, a, cell, h1, h2, h3, h4, h5, h6, h7, h8⟩ := hv
    simp [Term.eval, State.fieldNamed?, h1, h2, h4, h5, h6, h7]
  rcases h with h | ⟨t, h⟩
  · simp [Cond.before, Cond.holds, Cond.value, key _ h]
  · simp [Cond.before, Cond.holds, Cond.value, key _ h]
/-- exception's class, world, size -/
abbrev xV : Type := String × xw × Nat
def xQT (D : va_G) (cT : Nat → ClassId) (w : xw) (sz : Nat) (r : xV) : Array Value → State → Outcome → State → Prop := fun _ st oc t => (∃ (x : Nat) (ce : Cell), oc = .threw x ∧ t.heap[x]? = some ce ∧ st.vm.findClass r.1 = some ce.cls ∧ ce.vm = .none) ∧ xH D cT r.2.1 t.heap ∧ t.heap.size = r.2.2 ∧ (∀ a, (r.2.1 a).isSome = true → xA w sz a) ∧ va_F (xA w sz) st t
def xMT (below : List Frame) (Q : Array Value → State → Outcome → State → Prop) (args : Array Value) (s : State) (mc ms : Nat) (free : Nat → Prop) : State → Prop := fun t => ∃ o, t.status = .running ∧ Ended t below o ∧ (Q args s o t ∧ ∃ L, FrameEndT s o t L mc ms ∧ ∀ q ∈ L, free q.base)
def xU (cc : ByteArray) (nL : Nat) (own nm : String) (ret : Option FieldType) (R : Room) (X : xX) (lv : List (Nat × Value)) (st : List Value) (w : xw) (sz cl sl pc : Nat) (r : xV) : Prop :=
  ∀ (p : Program) (e : Env) (s : State) (m : MethodId) (below : List Frame) (meth : Method) (c : Code) (H : Heap) (locs : List Loc) (ls : Array Slot),
    xZ p s m c cc X.2.2.2.1.toArray own X.2.1 X.2.2.1 → c.maxLocals = nL → meth.name = nm → meth.sig.returnType = ret → (meth.locks = false ∧ xTF (xA X.2.2.2.2.1 X.2.2.2.2.2) s s.heap ∧ c.exceptionTable.isEmpty = true ∧ X.1.stackTraces = false) → xJ X.2.1 X.2.2.1 (xA X.2.2.2.2.1 X.2.2.2.2.2) s.heap w sz H locs → lv_has ls nL lv →
    W p X.1 e R s m X.2.2.2.1.toArray below meth c H locs cl sl (xMT below (xQT X.2.1 X.2.2.1 X.2.2.2.2.1 X.2.2.2.2.2 r) X.2.2.2.1.toArray s R.cells R.slots (xA X.2.2.2.2.1 X.2.2.2.2.2)) (F0 m pc ls st)
section XOU
variable {cc : ByteArray} {nL : Nat} {own nm : String} {ret : Option FieldType} {R : Room} {X : xX} {lv lv' : List (Nat × Value)} {st : List Value} {w : xw} {sz cl sl pc pc' tgt : Nat} {off : Int} {r : xV} {ρ : Type} {ro : ρ}
theorem uxo_iadd {x y : Int32} (hd : xD cc pc .iadd 1 pc') (k : xU cc nL own nm ret R X lv (.int (x + y) :: st) w sz cl sl pc' r) : xU cc nL own nm ret R X lv (.int y :: .int x :: st) w sz cl sl pc r := by
  obtain ⟨hd, rfl⟩ := hd
  exact fun p e s m below meth c H locs ls Z hm hn hr hk J hl => lv_iadd Z.1 Z.2.1 hd (k p e s m below meth c H locs ls Z hm hn hr hk J hl)
theorem uxo_isub {x y : Int32} (hd : xD cc pc .isub 1 pc') (k : xU cc nL own nm ret R X lv (.int (x - y) :: st) w sz cl sl pc' r) : xU cc nL own nm ret R X lv (.int y :: .int x :: st) w sz cl sl pc r := by
  obtain ⟨hd, rfl⟩ := hd
  exact fun p e s m below meth c H locs ls Z hm hn hr hk J hl => lv_isub Z.1 Z.2.1 hd (k p e s m below meth c H locs ls Z hm hn hr hk J hl)
theorem uxo_imul {x y : Int32} (hd : xD cc pc .imul 1 pc') (k : xU cc nL own nm ret R X lv (.int (x * y) :: st) w sz cl sl pc' r) : xU cc nL own nm ret R X lv (.int y :: .int x :: st) w sz cl sl pc r := by
  obtain ⟨hd, rfl⟩ := hd
  exact fun p e s m below meth c H locs ls Z hm hn hr hk J hl => lv_imul Z.1 Z.2.1 hd (k p e s m below meth c H locs ls Z hm hn hr hk J hl)
theorem uxo_iand {x y : Int32} (hd : xD cc pc .iand 1 pc') (k : xU cc nL own nm ret R X lv (.int (x &&& y) :: st) w sz cl sl pc' r) : xU cc nL own nm ret R X lv (.int y :: .int x :: st) w sz cl sl pc r := by
  obtain ⟨hd, rfl⟩ := hd
  exact fun p e s m below meth c H locs ls Z hm hn hr hk J hl => lv_iand Z.1 Z.2.1 hd (k p e s m below meth c H locs ls Z hm hn hr hk J hl)
theorem uxo_ior {x y : Int32} (hd : xD cc pc .ior 1 pc') (k : xU cc nL own nm ret R X lv (.int (x ||| y) :: st) w sz cl sl pc' r) : xU cc nL own nm ret R X lv (.int y :: .int x :: st) w sz cl sl pc r := by
  obtain ⟨hd, rfl⟩ := hd
  exact fun p e s m below meth c H locs ls Z hm hn hr hk J hl => lv_ior Z.1 Z.2.1 hd (k p e s m below meth c H locs ls Z hm hn hr hk J hl)
theorem uxo_ixor {x y : Int32} (hd : xD cc pc .ixor 1 pc') (k : xU cc nL own nm ret R X lv (.int (x ^^^ y) :: st) w sz cl sl pc' r) : xU cc nL own nm ret R X lv (.int y :: .int x :: st) w sz cl sl pc r := by
  obtain ⟨hd, rfl⟩ := hd
  exact fun p e s m below meth c H locs ls Z hm hn hr hk J hl => lv_ixor Z.1 Z.2.1 hd (k p e s m below meth c H locs ls Z hm hn hr hk J hl)
theorem uxo_ladd {x y : Int64} (hd : xD cc pc .ladd 1 pc') (k : xU cc nL own nm ret R X lv (.long (x + y) :: st) w sz cl sl pc' r) : xU cc nL own nm ret R X lv (.long y :: .long x :: st) w sz cl sl pc r := by
  obtain ⟨hd, rfl⟩ := hd
  exact fun p e s m below meth c H locs ls Z hm hn hr hk J hl => lv_ladd Z.1 Z.2.1 hd (k p e s m below meth c H locs ls Z hm hn hr hk J hl)
theorem uxo_lsub {x y : Int64} (hd : xD cc pc .lsub 1 pc') (k : xU cc nL own nm ret R X lv (.long (x - y) :: st) w sz cl sl pc' r) : xU cc nL own nm ret R X lv (.long y :: .long x :: st) w sz cl sl pc r := by
  obtain ⟨hd, rfl⟩ := hd
  exact fun p e s m below meth c H locs ls Z hm hn hr hk J hl => lv_lsub Z.1 Z.2.1 hd (k p e s m below meth c H locs ls Z hm hn hr hk J hl)
theorem uxo_lmul {x y : Int64} (hd : xD cc pc .lmul 1 pc') (k : xU cc nL own nm ret R X lv (.long (x * y) :: st) w sz cl sl pc' r) : xU cc nL own nm ret R X lv (.long y :: .long x :: st) w sz cl sl pc r := by
  obtain ⟨hd, rfl⟩ := hd
  exact fun p e s m below meth c H locs ls Z hm hn hr hk J hl => lv_lmul Z.1 Z.2.1 hd (k p e s m below meth c H locs ls Z hm hn hr hk J hl)
theorem uxo_land {x y : Int64} (hd : xD cc pc .land 1 pc') (k : xU cc nL own nm ret R X lv (.long (x &&& y) :: st) w sz cl sl pc' r) : xU cc nL own nm ret R X lv (.long y :: .long x :: st) w sz cl sl pc r := by
  obtain ⟨hd, rfl⟩ := hd
  exact fun p e s m below meth c H locs ls Z hm hn hr hk J hl => lv_land Z.1 Z.2.1 hd (k p e s m below meth c H locs ls Z hm hn hr hk J hl)
theorem uxo_lor {x y : Int64} (hd : xD cc pc .lor 1 pc') (k : xU cc nL own nm ret R X lv (.long (x ||| y) :: st) w sz cl sl pc' r) : xU cc nL own nm ret R X lv (.long y :: .long x :: st) w sz cl sl pc r := by
  obtain ⟨hd, rfl⟩ := hd
  exact fun p e s m below meth c H locs ls Z hm hn hr hk J hl => lv_lor Z.1 Z.2.1 hd (k p e s m below meth c H locs ls Z hm hn hr hk J hl)
theorem uxo_lxor {x y : Int64} (hd : xD cc pc .lxor 1 pc') (k : xU cc nL own nm ret R X lv (.long (x ^^^ y) :: st) w sz cl sl pc' r) : xU cc nL own nm ret R X lv (.long y :: .long x :: st) w sz cl sl pc r := by
  obtain ⟨hd, rfl⟩ := hd
  exact fun p e s m below meth c H locs ls Z hm hn hr hk J hl => lv_lxor Z.1 Z.2.1 hd (k p e s m below meth c H locs ls Z hm hn hr hk J hl)
theorem uxo_ishl {x y : Int32} (hd : xD cc pc .ishl 1 pc') (k : xU cc nL own nm ret R X lv (.int (x <<< (y &&& 31)) :: st) w sz cl sl pc' r) : xU cc nL own nm ret R X lv (.int y :: .int x :: st) w sz cl sl pc r := by
  obtain ⟨hd, rfl⟩ := hd
  exact fun p e s m below meth c H locs ls Z hm hn hr hk J hl => lv_ishl Z.1 Z.2.1 hd (k p e s m below meth c H locs ls Z hm hn hr hk J hl)
theorem uxo_ishr {x y : Int32} (hd : xD cc pc .ishr 1 pc') (k : xU cc nL own nm ret R X lv (.int (x >>> (y &&& 31)) :: st) w sz cl sl pc' r) : xU cc nL own nm ret R X lv (.int y :: .int x :: st) w sz cl sl pc r := by
  obtain ⟨hd, rfl⟩ := hd
  exact fun p e s m below meth c H locs ls Z hm hn hr hk J hl => lv_ishr Z.1 Z.2.1 hd (k p e s m below meth c H locs ls Z hm hn hr hk J hl)
theorem uxo_iushr {x y : Int32} (hd : xD cc pc .iushr 1 pc') (k : xU cc nL own nm ret R X lv (.int (x.toUInt32 >>> (y.toUInt32 &&& Int32.toUInt32 31)).toInt32 :: st) w sz cl sl pc' r) : xU cc nL own nm ret R X lv (.int y :: .int x :: st) w sz cl sl pc r := by
  obtain ⟨hd, rfl⟩ := hd
  exact fun p e s m below meth c H locs ls Z hm hn hr hk J hl => lv_iushr Z.1 Z.2.1 hd rfl (k p e s m below meth c H locs ls Z hm hn hr hk J hl)
theorem uxo_lushr {x : Int64} {y : Int32} (hd : xD cc pc .lushr 1 pc') (k : xU cc nL own nm ret R X lv (.long (x.toUInt64 >>> (y.toInt64.toUInt64 &&& Int64.toUInt64 63)).toInt64 :: st) w sz cl sl pc' r) : xU cc nL own nm ret R X lv (.int y :: .long x :: st) w sz cl sl pc r := by
  obtain ⟨hd, rfl⟩ := hd
  exact fun p e s m below meth c H locs ls Z hm hn hr hk J hl => lv_lushr Z.1 Z.2.1 hd rfl (k p e s m below meth c H locs ls Z hm hn hr hk J hl)
theorem uxo_lshl {x : Int64} {y : Int32} (hd : xD cc pc .lshl 1 pc') (k : xU cc nL own nm ret R X lv (.long (x <<< (y.toInt64 &&& 63)) :: st) w sz cl sl pc' r) : xU cc nL own nm ret R X lv (.int y :: .long x :: st) w sz cl sl pc r := by
  obtain ⟨hd, rfl⟩ := hd
  exact fun p e s m below meth c H locs ls Z hm hn hr hk J hl => lv_lshl Z.1 Z.2.1 hd rfl (k p e s m below meth c H locs ls Z hm hn hr hk J hl)
theorem uxo_lshr {x : Int64} {y : Int32} (hd : xD cc pc .lshr 1 pc') (k : xU cc nL own nm ret R X lv (.long (x >>> (y.toInt64 &&& 63)) :: st) w sz cl sl pc' r) : xU cc nL own nm ret R X lv (.int y :: .long x :: st) w sz cl sl pc r := by
  obtain ⟨hd, rfl⟩ := hd
  exact fun p e s m below meth c H locs ls Z hm hn hr hk J hl => lv_lshr Z.1 Z.2.1 hd rfl (k p e s m below meth c H locs ls Z hm hn hr hk J hl)
theorem uxo_i2l {x : Int32} (hd : xD cc pc .i2l 1 pc') (k : xU cc nL own nm ret R X lv (.long x.toInt64 :: st) w sz cl sl pc' r) : xU cc nL own nm ret R X lv (.int x :: st) w sz cl sl pc r := by
  obtain ⟨hd, rfl⟩ := hd
  exact fun p e s m below meth c H locs ls Z hm hn hr hk J hl => lv_i2l Z.1 Z.2.1 hd rfl (k p e s m below meth c H locs ls Z hm hn hr hk J hl)
theorem uxo_l2i {x : Int64} (hd : xD cc pc .l2i 1 pc') (k : xU cc nL own nm ret R X lv (.int x.toInt32 :: st) w sz cl sl pc' r) : xU cc nL own nm ret R X lv (.long x :: st) w sz cl sl pc r := by
  obtain ⟨hd, rfl⟩ := hd
  exact fun p e s m below meth c H locs ls Z hm hn hr hk J hl => lv_l2i Z.1 Z.2.1 hd rfl (k p e s m below meth c H locs ls Z hm hn hr hk J hl)
theorem uxo_ineg {x : Int32} (hd : xD cc pc .ineg 1 pc') (k : xU cc nL own nm ret R X lv (.int (-x) :: st) w sz cl sl pc' r) : xU cc nL own nm ret R X lv (.int x :: st) w sz cl sl pc r := by
  obtain ⟨hd, rfl⟩ := hd
  exact fun p e s m below meth c H locs ls Z hm hn hr hk J hl => lv_ineg Z.1 Z.2.1 hd (k p e s m below meth c H locs ls Z hm hn hr hk J hl)
theorem uxo_lneg {x : Int64} (hd : xD cc pc .lneg 1 pc') (k : xU cc nL own nm ret R X lv (.long (-x) :: st) w sz cl sl pc' r) : xU cc nL own nm ret R X lv (.long x :: st) w sz cl sl pc r := by
  obtain ⟨hd, rfl⟩ := hd
  exact fun p e s m below meth c H locs ls Z hm hn hr hk J hl => lv_lneg Z.1 Z.2.1 hd (k p e s m below meth c H locs ls Z hm hn hr hk J hl)
theorem uxo_idiv {x y : Int32} {dc : Decidable (y = 0)} {B : Option ρ} (hd : xD cc pc .idiv 1 pc') (h : (@ite _ (y = 0) dc none B) = some ro) (k : B = some ro → xU cc nL own nm ret R X lv (.int (x / y) :: st) w sz cl sl pc' r) : xU cc nL own nm ret R X lv (.int y :: .int x :: st) w sz cl sl pc r := by
  obtain ⟨hd, rfl⟩ := hd
  obtain ⟨hne, h⟩ := xif0 h
  exact fun p e s m below meth c H locs ls Z hm hn hr hk J hl => lv_idiv Z.1 Z.2.1 hd hne (k h p e s m below meth c H locs ls Z hm hn hr hk J hl)
theorem uxo_irem {x y : Int32} {dc : Decidable (y = 0)} {B : Option ρ} (hd : xD cc pc .irem 1 pc') (h : (@ite _ (y = 0) dc none B) = some ro) (k : B = some ro → xU cc nL own nm ret R X lv (.int (x - x / y * y) :: st) w sz cl sl pc' r) : xU cc nL own nm ret R X lv (.int y :: .int x :: st) w sz cl sl pc r := by
  obtain ⟨hd, rfl⟩ := hd
  obtain ⟨hne, h⟩ := xif0 h
  exact fun p e s m below meth c H locs ls Z hm hn hr hk J hl => lv_irem Z.1 Z.2.1 hd hne (k h p e s m below meth c H locs ls Z hm hn hr hk J hl)
theorem uxo_ldiv {x y : Int64} {dc : Decidable (y = 0)} {B : Option ρ} (hd : xD cc pc .ldiv 1 pc') (h : (@ite _ (y = 0) dc none B) = some ro) (k : B = some ro → xU cc nL own nm ret R X lv (.long (x / y) :: st) w sz cl sl pc' r) : xU cc nL own nm ret R X lv (.long y :: .long x :: st) w sz cl sl pc r := by
  obtain ⟨hd, rfl⟩ := hd
  obtain ⟨hne, h⟩ := xif0 h
  exact fun p e s m below meth c H locs ls Z hm hn hr hk J hl => lv_ldiv Z.1 Z.2.1 hd hne (k h p e s m below meth c H locs ls Z hm hn hr hk J hl)
theorem uxo_lrem {x y : Int64} {dc : Decidable (y = 0)} {B : Option ρ} (hd : xD cc pc .lrem 1 pc') (h : (@ite _ (y = 0) dc none B) = some ro) (k : B = some ro → xU cc nL own nm ret R X lv (.long (x - x / y * y) :: st) w sz cl sl pc' r) : xU cc nL own nm ret R X lv (.long y :: .long x :: st) w sz cl sl pc r := by
  obtain ⟨hd, rfl⟩ := hd
  obtain ⟨hne, h⟩ := xif0 h
  exact fun p e s m below meth c H locs ls Z hm hn hr hk J hl => lv_lrem Z.1 Z.2.1 hd hne (k h p e s m below meth c H locs ls Z hm hn hr hk J hl)
theorem uxo_dup {va : Value} (hd : xD cc pc .dup 1 pc') (hva : va.category = 1) (k : xU cc nL own nm ret R X lv (va :: va :: st) w sz cl sl pc' r) : xU cc nL own nm ret R X lv (va :: st) w sz cl sl pc r := by
  obtain ⟨hd, rfl⟩ := hd
  exact fun p e s m below meth c H locs ls Z hm hn hr hk J hl => lv_dup Z.1 Z.2.1 hd hva (k p e s m below meth c H locs ls Z hm hn hr hk J hl)
theorem uxo_pop {va : Value} (hd : xD cc pc .pop 1 pc') (hva : va.category = 1) (k : xU cc nL own nm ret R X lv (st) w sz cl sl pc' r) : xU cc nL own nm ret R X lv (va :: st) w sz cl sl pc r := by
  obtain ⟨hd, rfl⟩ := hd
  exact fun p e s m below meth c H locs ls Z hm hn hr hk J hl => lv_pop Z.1 Z.2.1 hd hva (k p e s m below meth c H locs ls Z hm hn hr hk J hl)
theorem uxo_iconst {n : Int} {v : Int32} (hd : xD cc pc (.iconst n) 1 pc') (hv : Int32.ofInt n = v) (k : xU cc nL own nm ret R X lv (.int v :: st) w sz cl sl pc' r) : xU cc nL own nm ret R X lv (st) w sz cl sl pc r := by
  obtain ⟨hd, rfl⟩ := hd
  exact fun p e s m below meth c H locs ls Z hm hn hr hk J hl => lv_iconst Z.1 Z.2.1 hd hv (k p e s m below meth c H locs ls Z hm hn hr hk J hl)
theorem uxo_bipush {n : Int} {v : Int32} (hd : xD cc pc (.bipush n) 2 pc') (hv : (Int8.ofInt n).toInt32 = v) (k : xU cc nL own nm ret R X lv (.int v :: st) w sz cl sl pc' r) : xU cc nL own nm ret R X lv (st) w sz cl sl pc r := by
  obtain ⟨hd, rfl⟩ := hd
  exact fun p e s m below meth c H locs ls Z hm hn hr hk J hl => lv_bipush Z.1 Z.2.1 hd hv (k p e s m below meth c H locs ls Z hm hn hr hk J hl)
theorem uxo_sipush {n : Int} {v : Int32} (hd : xD cc pc (.sipush n) 3 pc') (hv : (Int16.ofInt n).toInt32 = v) (k : xU cc nL own nm ret R X lv (.int v :: st) w sz cl sl pc' r) : xU cc nL own nm ret R X lv (st) w sz cl sl pc r := by
  obtain ⟨hd, rfl⟩ := hd
  exact fun p e s m below meth c H locs ls Z hm hn hr hk J hl => lv_sipush Z.1 Z.2.1 hd hv (k p e s m below meth c H locs ls Z hm hn hr hk J hl)
theorem uxo_lconst {n : Fin 2} {v : Int64} (hd : xD cc pc (.lconst n) 1 pc') (hv : Int64.ofNat (n : Nat) = v) (k : xU cc nL own nm ret R X lv (.long v :: st) w sz cl sl pc' r) : xU cc nL own nm ret R X lv (st) w sz cl sl pc r := by
  obtain ⟨hd, rfl⟩ := hd
  exact fun p e s m below meth c H locs ls Z hm hn hr hk J hl => lv_lconst Z.1 Z.2.1 hd hv (k p e s m below meth c H locs ls Z hm hn hr hk J hl)
theorem uxo_ldc2 {index : Nat} {v : Int64} (hd : xD cc pc (.ldc2_w index) 3 pc') (hw : Cond.constantLong own index v ∈ xT) (k : xU cc nL own nm ret R X lv (.long v :: st) w sz cl sl pc' r) : xU cc nL own nm ret R X lv (st) w sz cl sl pc r := by
  obtain ⟨hd, rfl⟩ := hd
  exact fun p e s m below meth c H locs ls Z hm hn hr hk J hl => lv_ldc2 Z.1 Z.2.1 Z.2.2.1 (Z.2.2.2.1 _ hw) hd (k p e s m below meth c H locs ls Z hm hn hr hk J hl)
theorem uxo_ldc {index : Nat} {v : Int32} (hd : xD cc pc (.ldc index) 2 pc') (hw : Cond.constant own index v ∈ xT) (k : xU cc nL own nm ret R X lv (.int v :: st) w sz cl sl pc' r) : xU cc nL own nm ret R X lv (st) w sz cl sl pc r := by
  obtain ⟨hd, rfl⟩ := hd
  exact fun p e s m below meth c H locs ls Z hm hn hr hk J hl => lv_ldc Z.1 Z.2.1 Z.2.2.1 (Z.2.2.2.1 _ hw) hd (k p e s m below meth c H locs ls Z hm hn hr hk J hl)
theorem uxo_ldcw {index : Nat} {v : Int32} (hd : xD cc pc (.ldc_w index) 3 pc') (hw : Cond.constant own index v ∈ xT) (k : xU cc nL own nm ret R X lv (.int v :: st) w sz cl sl pc' r) : xU cc nL own nm ret R X lv (st) w sz cl sl pc r := by
  obtain ⟨hd, rfl⟩ := hd
  exact fun p e s m below meth c H locs ls Z hm hn hr hk J hl => lv_ldcw Z.1 Z.2.1 Z.2.2.1 (Z.2.2.2.1 _ hw) hd (k p e s m below meth c H locs ls Z hm hn hr hk J hl)
theorem uxo_iload_n (q : Nat) {i : Fin 4} {j : Nat} {x : Int32} (hd : xD cc pc (.iload_n i) 1 pc') (hj : (i : Nat) = j) (hq : lv[q]? = some (j, .int x)) (k : xU cc nL own nm ret R X lv (.int x :: st) w sz cl sl pc' r) : xU cc nL own nm ret R X lv (st) w sz cl sl pc r := by
  obtain ⟨hd, rfl⟩ := hd
  exact fun p e s m below meth c H locs ls Z hm hn hr hk J hl => lv_iload_n Z.1 Z.2.1 hd hj (lv_at hl q hq) (k p e s m below meth c H locs ls Z hm hn hr hk J hl)
theorem uxo_iload (q : Nat) {j : Nat} {x : Int32} (hd : xD cc pc (.iload j) 2 pc') (hq : lv[q]? = some (j, .int x)) (k : xU cc nL own nm ret R X lv (.int x :: st) w sz cl sl pc' r) : xU cc nL own nm ret R X lv (st) w sz cl sl pc r := by
  obtain ⟨hd, rfl⟩ := hd
  exact fun p e s m below meth c H locs ls Z hm hn hr hk J hl => lv_iload Z.1 Z.2.1 hd (lv_at hl q hq) (k p e s m below meth c H locs ls Z hm hn hr hk J hl)
theorem uxo_istore_n {i : Fin 4} {j : Nat} {x : Int32} (lv' : List (Nat × Value)) (hd : xD cc pc (.istore_n i) 1 pc') (hj : (i : Nat) = j) (hlt : Nat.ble (j + 1) nL = true) (hlv : (j, Value.int x) :: lv.filter (fun q => !(q.1 == j) && !(q.1 + 1 == j && q.2.category == 2)) = lv') (k : xU cc nL own nm ret R X lv' (st) w sz cl sl pc' r) : xU cc nL own nm ret R X lv (.int x :: st) w sz cl sl pc r := by
  obtain ⟨hd, rfl⟩ := hd
  exact fun p e s m below meth c H locs ls Z hm hn hr hk J hl => lv_istore_n Z.1 Z.2.1 hd hj hl (Nat.le_of_ble_eq_true hlt) hlv (fun ls hl => k p e s m below meth c H locs ls Z hm hn hr hk J hl)
theorem uxo_istore {j : Nat} {x : Int32} (lv' : List (Nat × Value)) (hd : xD cc pc (.istore j) 2 pc') (hlt : Nat.ble (j + 1) nL = true) (hlv : (j, Value.int x) :: lv.filter (fun q => !(q.1 == j) && !(q.1 + 1 == j && q.2.category == 2)) = lv') (k : xU cc nL own nm ret R X lv' (st) w sz cl sl pc' r) : xU cc nL own nm ret R X lv (.int x :: st) w sz cl sl pc r := by
  obtain ⟨hd, rfl⟩ := hd
  exact fun p e s m below meth c H locs ls Z hm hn hr hk J hl => lv_istore Z.1 Z.2.1 hd hl (Nat.le_of_ble_eq_true hlt) hlv (fun ls hl => k p e s m below meth c H locs ls Z hm hn hr hk J hl)
theorem uxo_lload_n (q : Nat) {i : Fin 4} {j : Nat} {x : Int64} (hd : xD cc pc (.lload_n i) 1 pc') (hj : (i : Nat) = j) (hq : lv[q]? = some (j, .long x)) (k : xU cc nL own nm ret R X lv (.long x :: st) w sz cl sl pc' r) : xU cc nL own nm ret R X lv (st) w sz cl sl pc r := by
  obtain ⟨hd, rfl⟩ := hd
  exact fun p e s m below meth c H locs ls Z hm hn hr hk J hl => lv_lload_n Z.1 Z.2.1 hd hj (lv_at hl q hq) (k p e s m below meth c H locs ls Z hm hn hr hk J hl)
theorem uxo_lload (q : Nat) {j : Nat} {x : Int64} (hd : xD cc pc (.lload j) 2 pc') (hq : lv[q]? = some (j, .long x)) (k : xU cc nL own nm ret R X lv (.long x :: st) w sz cl sl pc' r) : xU cc nL own nm ret R X lv (st) w sz cl sl pc r := by
  obtain ⟨hd, rfl⟩ := hd
  exact fun p e s m below meth c H locs ls Z hm hn hr hk J hl => lv_lload Z.1 Z.2.1 hd (lv_at hl q hq) (k p e s m below meth c H locs ls Z hm hn hr hk J hl)
theorem uxo_lstore_n {i : Fin 4} {j : Nat} {x : Int64} (lv' : List (Nat × Value)) (hd : xD cc pc (.lstore_n i) 1 pc') (hj : (i : Nat) = j) (hlt : Nat.ble (j + 2) nL = true) (hlv : (j, Value.long x) :: lv.filter (fun q => !(q.1 == j) && (!(q.1 == j + 1) && !(q.1 + 1 == j && q.2.category == 2))) = lv') (k : xU cc nL own nm ret R X lv' (st) w sz cl sl pc' r) : xU cc nL own nm ret R X lv (.long x :: st) w sz cl sl pc r := by
  obtain ⟨hd, rfl⟩ := hd
  exact fun p e s m below meth c H locs ls Z hm hn hr hk J hl => lv_lstore_n Z.1 Z.2.1 hd hj hl (Nat.le_of_ble_eq_true hlt) hlv (fun ls hl => k p e s m below meth c H locs ls Z hm hn hr hk J hl)
theorem uxo_lstore {j : Nat} {x : Int64} (lv' : List (Nat × Value)) (hd : xD cc pc (.lstore j) 2 pc') (hlt : Nat.ble (j + 2) nL = true) (hlv : (j, Value.long x) :: lv.filter (fun q => !(q.1 == j) && (!(q.1 == j + 1) && !(q.1 + 1 == j && q.2.category == 2))) = lv') (k : xU cc nL own nm ret R X lv' (st) w sz cl sl pc' r) : xU cc nL own nm ret R X lv (.long x :: st) w sz cl sl pc r := by
  obtain ⟨hd, rfl⟩ := hd
  exact fun p e s m below meth c H locs ls Z hm hn hr hk J hl => lv_lstore Z.1 Z.2.1 hd hl (Nat.le_of_ble_eq_true hlt) hlv (fun ls hl => k p e s m below meth c H locs ls Z hm hn hr hk J hl)
theorem uxo_aload_n (q : Nat) {i : Fin 4} {j : Nat} {x : Nat} (hd : xD cc pc (.aload_n i) 1 pc') (hj : (i : Nat) = j) (hq : lv[q]? = some (j, .ref x)) (k : xU cc nL own nm ret R X lv (.ref x :: st) w sz cl sl pc' r) : xU cc nL own nm ret R X lv (st) w sz cl sl pc r := by
  obtain ⟨hd, rfl⟩ := hd
  exact fun p e s m below meth c H locs ls Z hm hn hr hk J hl => lv_aload_n Z.1 Z.2.1 hd hj (lv_at hl q hq) (k p e s m below meth c H locs ls Z hm hn hr hk J hl)
theorem uxo_aload (q : Nat) {j : Nat} {x : Nat} (hd : xD cc pc (.aload j) 2 pc') (hq : lv[q]? = some (j, .ref x)) (k : xU cc nL own nm ret R X lv (.ref x :: st) w sz cl sl pc' r) : xU cc nL own nm ret R X lv (st) w sz cl sl pc r := by
  obtain ⟨hd, rfl⟩ := hd
  exact fun p e s m below meth c H locs ls Z hm hn hr hk J hl => lv_aload Z.1 Z.2.1 hd (lv_at hl q hq) (k p e s m below meth c H locs ls Z hm hn hr hk J hl)
theorem uxo_astore_n {i : Fin 4} {j : Nat} {x : Nat} (lv' : List (Nat × Value)) (hd : xD cc pc (.astore_n i) 1 pc') (hj : (i : Nat) = j) (hlt : Nat.ble (j + 1) nL = true) (hlv : (j, Value.ref x) :: lv.filter (fun q => !(q.1 == j) && !(q.1 + 1 == j && q.2.category == 2)) = lv') (k : xU cc nL own nm ret R X lv' (st) w sz cl sl pc' r) : xU cc nL own nm ret R X lv (.ref x :: st) w sz cl sl pc r := by
  obtain ⟨hd, rfl⟩ := hd
  exact fun p e s m below meth c H locs ls Z hm hn hr hk J hl => lv_astore_n Z.1 Z.2.1 hd hj hl (Nat.le_of_ble_eq_true hlt) hlv (fun ls hl => k p e s m below meth c H locs ls Z hm hn hr hk J hl)
theorem uxo_astore {j : Nat} {x : Nat} (lv' : List (Nat × Value)) (hd : xD cc pc (.astore j) 2 pc') (hlt : Nat.ble (j + 1) nL = true) (hlv : (j, Value.ref x) :: lv.filter (fun q => !(q.1 == j) && !(q.1 + 1 == j && q.2.category == 2)) = lv') (k : xU cc nL own nm ret R X lv' (st) w sz cl sl pc' r) : xU cc nL own nm ret R X lv (.ref x :: st) w sz cl sl pc r := by
  obtain ⟨hd, rfl⟩ := hd
  exact fun p e s m below meth c H locs ls Z hm hn hr hk J hl => lv_astore Z.1 Z.2.1 hd hl (Nat.le_of_ble_eq_true hlt) hlv (fun ls hl => k p e s m below meth c H locs ls Z hm hn hr hk J hl)
theorem uxo_iinc (q : Nat) {j : Nat} {n : Int} {x : Int32} {dd : Int32} {g : Int32 → Option ρ} (lv' : Int32 → List (Nat × Value)) (hd : xD cc pc (.iinc j n) 3 pc') (hq : lv[q]? = some (j, .int x)) (hlt : Nat.ble (j + 1) nL = true) (hv : Int32.ofInt n = dd) (hlv : ∀ z, (j, Value.int z) :: lv.filter (fun q => !(q.1 == j) && !(q.1 + 1 == j && q.2.category == 2)) = lv' z) (h : (some (x + dd)).bind g = some ro) (k : ∀ z, g z = some ro → xU cc nL own nm ret R X (lv' z) (st) w sz cl sl pc' r) : xU cc nL own nm ret R X lv (st) w sz cl sl pc r := by
  obtain ⟨hd, rfl⟩ := hd
  subst hv
  exact fun p e s m below meth c H locs ls Z hm hn hr hk J hl => lv_iinc Z.1 Z.2.1 hd hl hq rfl (Nat.le_of_ble_eq_true hlt) (hlv _) (fun ls hl => k _ h p e s m below meth c H locs ls Z hm hn hr hk J hl)
theorem uxo_goto (hd : xDJ cc pc (.goto off) off tgt pc') (k : xU cc nL own nm ret R X lv (st) w sz cl sl tgt r) : xU cc nL own nm ret R X lv (st) w sz cl sl pc r :=
  fun p e s m below meth c H locs ls Z hm hn hr hk J hl => lv_goto Z.1 Z.2.1 hd.1 hd.2.2 (k p e s m below meth c H locs ls Z hm hn hr hk J hl)
theorem uxo_sub (ks : List Nat) (lv' : List (Nat × Value)) (hs : lv_pick lv ks = lv') (k : xU cc nL own nm ret R X lv' (st) w sz cl sl pc r) : xU cc nL own nm ret R X lv (st) w sz cl sl pc r :=
  fun p e s m below meth c H locs ls Z hm hn hr hk J hl => k p e s m below meth c H locs ls Z hm hn hr hk J (lv_sub hl ks hs)
theorem uxo_nmI {x : Int32} {g : Int32 → Option ρ} (h : (some x).bind g = some ro) (k : ∀ z, g z = some ro → xU cc nL own nm ret R X lv (.int z :: st) w sz cl sl pc r) : xU cc nL own nm ret R X lv (.int x :: st) w sz cl sl pc r := k x h
theorem uxo_nmL {x : Int64} {g : Int64 → Option ρ} (h : (some x).bind g = some ro) (k : ∀ z, g z = some ro → xU cc nL own nm ret R X lv (.long z :: st) w sz cl sl pc r) : xU cc nL own nm ret R X lv (.long x :: st) w sz cl sl pc r := k x h
theorem uxo_nmR {x : Nat} {g : Nat → Option ρ} (h : (some x).bind g = some ro) (k : ∀ z, g z = some ro → xU cc nL own nm ret R X lv (.ref z :: st) w sz cl sl pc r) : xU cc nL own nm ret R X lv (.ref x :: st) w sz cl sl pc r := k x h
theorem uxo_icmp_eq {x y : Int32} {dc : Decidable (x = y)} {A B : Option ρ} (hd : xDJ cc pc (.if_icmp .eq off) off tgt pc') (h : (@ite _ (x = y) dc A B) = some ro) (kt : A = some ro → xU cc nL own nm ret R X lv (st) w sz cl sl tgt r) (kf : B = some ro → xU cc nL own nm ret R X lv (st) w sz cl sl pc' r) : xU cc nL own nm ret R X lv (.int y :: .int x :: st) w sz cl sl pc r := by
  obtain ⟨hd, rfl, ht⟩ := hd
  exact fun p e s m below meth c H locs ls Z hm hn hr hk J hl => lv_icmp_eq Z.1 Z.2.1 hd ht (fun hc => kt (xip hc h) p e s m below meth c H locs ls Z hm hn hr hk J hl) (fun hc => kf (xin hc h) p e s m below meth c H locs ls Z hm hn hr hk J hl)
theorem uxo_icmp_ne {x y : Int32} {dc : Decidable (¬ x = y)} {A B : Option ρ} (hd : xDJ cc pc (.if_icmp .ne off) off tgt pc') (h : (@ite _ (¬ x = y) dc A B) = some ro) (kt : A = some ro → xU cc nL own nm ret R X lv (st) w sz cl sl tgt r) (kf : B = some ro → xU cc nL own nm ret R X lv (st) w sz cl sl pc' r) : xU cc nL own nm ret R X lv (.int y :: .int x :: st) w sz cl sl pc r := by
  obtain ⟨hd, rfl, ht⟩ := hd
  exact fun p e s m below meth c H locs ls Z hm hn hr hk J hl => lv_icmp_ne Z.1 Z.2.1 hd ht (fun hc => kt (xip hc h) p e s m below meth c H locs ls Z hm hn hr hk J hl) (fun hc => kf (xin (fun q => q hc) h) p e s m below meth c H locs ls Z hm hn hr hk J hl)
theorem uxo_icmp_lt {x y : Int32} {dc : Decidable (x < y)} {A B : Option ρ} (hd : xDJ cc pc (.if_icmp .lt off) off tgt pc') (h : (@ite _ (x < y) dc A B) = some ro) (kt : A = some ro → xU cc nL own nm ret R X lv (st) w sz cl sl tgt r) (kf : B = some ro → xU cc nL own nm ret R X lv (st) w sz cl sl pc' r) : xU cc nL own nm ret R X lv (.int y :: .int x :: st) w sz cl sl pc r := by
  obtain ⟨hd, rfl, ht⟩ := hd
  exact fun p e s m below meth c H locs ls Z hm hn hr hk J hl => lv_icmp_lt Z.1 Z.2.1 hd ht (fun hc => kt (xip hc h) p e s m below meth c H locs ls Z hm hn hr hk J hl) (fun hc => kf (xin hc h) p e s m below meth c H locs ls Z hm hn hr hk J hl)
theorem uxo_icmp_ge {x y : Int32} {dc : Decidable (y ≤ x)} {A B : Option ρ} (hd : xDJ cc pc (.if_icmp .ge off) off tgt pc') (h : (@ite _ (y ≤ x) dc A B) = some ro) (kt : A = some ro → xU cc nL own nm ret R X lv (st) w sz cl sl tgt r) (kf : B = some ro → xU cc nL own nm ret R X lv (st) w sz cl sl pc' r) : xU cc nL own nm ret R X lv (.int y :: .int x :: st) w sz cl sl pc r := by
  obtain ⟨hd, rfl, ht⟩ := hd
  exact fun p e s m below meth c H locs ls Z hm hn hr hk J hl => lv_icmp_ge Z.1 Z.2.1 hd ht (fun hc => kt (xip hc h) p e s m below meth c H locs ls Z hm hn hr hk J hl) (fun hc => kf (xin hc h) p e s m below meth c H locs ls Z hm hn hr hk J hl)
theorem uxo_icmp_gt {x y : Int32} {dc : Decidable (y < x)} {A B : Option ρ} (hd : xDJ cc pc (.if_icmp .gt off) off tgt pc') (h : (@ite _ (y < x) dc A B) = some ro) (kt : A = some ro → xU cc nL own nm ret R X lv (st) w sz cl sl tgt r) (kf : B = some ro → xU cc nL own nm ret R X lv (st) w sz cl sl pc' r) : xU cc nL own nm ret R X lv (.int y :: .int x :: st) w sz cl sl pc r := by
  obtain ⟨hd, rfl, ht⟩ := hd
  exact fun p e s m below meth c H locs ls Z hm hn hr hk J hl => lv_icmp_gt Z.1 Z.2.1 hd ht (fun hc => kt (xip hc h) p e s m below meth c H locs ls Z hm hn hr hk J hl) (fun hc => kf (xin hc h) p e s m below meth c H locs ls Z hm hn hr hk J hl)
theorem uxo_icmp_le {x y : Int32} {dc : Decidable (x ≤ y)} {A B : Option ρ} (hd : xDJ cc pc (.if_icmp .le off) off tgt pc') (h : (@ite _ (x ≤ y) dc A B) = some ro) (kt : A = some ro → xU cc nL own nm ret R X lv (st) w sz cl sl tgt r) (kf : B = some ro → xU cc nL own nm ret R X lv (st) w sz cl sl pc' r) : xU cc nL own nm ret R X lv (.int y :: .int x :: st) w sz cl sl pc r := by
  obtain ⟨hd, rfl, ht⟩ := hd
  exact fun p e s m below meth c H locs ls Z hm hn hr hk J hl => lv_icmp_le Z.1 Z.2.1 hd ht (fun hc => kt (xip hc h) p e s m below meth c H locs ls Z hm hn hr hk J hl) (fun hc => kf (xin hc h) p e s m below meth c H locs ls Z hm hn hr hk J hl)
theorem uxo_if_eq {x : Int32} {dc : Decidable (x = 0)} {A B : Option ρ} (hd : xDJ cc pc (.ifCond .eq off) off tgt pc') (h : (@ite _ (x = 0) dc A B) = some ro) (kt : A = some ro → xU cc nL own nm ret R X lv (st) w sz cl sl tgt r) (kf : B = some ro → xU cc nL own nm ret R X lv (st) w sz cl sl pc' r) : xU cc nL own nm ret R X lv (.int x :: st) w sz cl sl pc r := by
  obtain ⟨hd, rfl, ht⟩ := hd
  exact fun p e s m below meth c H locs ls Z hm hn hr hk J hl => lv_if_eq Z.1 Z.2.1 hd ht (fun hc => kt (xip hc h) p e s m below meth c H locs ls Z hm hn hr hk J hl) (fun hc => kf (xin hc h) p e s m below meth c H locs ls Z hm hn hr hk J hl)
theorem uxo_if_ne {x : Int32} {dc : Decidable (¬ x = 0)} {A B : Option ρ} (hd : xDJ cc pc (.ifCond .ne off) off tgt pc') (h : (@ite _ (¬ x = 0) dc A B) = some ro) (kt : A = some ro → xU cc nL own nm ret R X lv (st) w sz cl sl tgt r) (kf : B = some ro → xU cc nL own nm ret R X lv (st) w sz cl sl pc' r) : xU cc nL own nm ret R X lv (.int x :: st) w sz cl sl pc r := by
  obtain ⟨hd, rfl, ht⟩ := hd
  exact fun p e s m below meth c H locs ls Z hm hn hr hk J hl => lv_if_ne Z.1 Z.2.1 hd ht (fun hc => kt (xip hc h) p e s m below meth c H locs ls Z hm hn hr hk J hl) (fun hc => kf (xin (fun q => q hc) h) p e s m below meth c H locs ls Z hm hn hr hk J hl)
theorem uxo_if_lt {x : Int32} {dc : Decidable (x < 0)} {A B : Option ρ} (hd : xDJ cc pc (.ifCond .lt off) off tgt pc') (h : (@ite _ (x < 0) dc A B) = some ro) (kt : A = some ro → xU cc nL own nm ret R X lv (st) w sz cl sl tgt r) (kf : B = some ro → xU cc nL own nm ret R X lv (st) w sz cl sl pc' r) : xU cc nL own nm ret R X lv (.int x :: st) w sz cl sl pc r := by
  obtain ⟨hd, rfl, ht⟩ := hd
  exact fun p e s m below meth c H locs ls Z hm hn hr hk J hl => lv_if_lt Z.1 Z.2.1 hd ht (fun hc => kt (xip hc h) p e s m below meth c H locs ls Z hm hn hr hk J hl) (fun hc => kf (xin hc h) p e s m below meth c H locs ls Z hm hn hr hk J hl)
theorem uxo_if_ge {x : Int32} {dc : Decidable (0 ≤ x)} {A B : Option ρ} (hd : xDJ cc pc (.ifCond .ge off) off tgt pc') (h : (@ite _ (0 ≤ x) dc A B) = some ro) (kt : A = some ro → xU cc nL own nm ret R X lv (st) w sz cl sl tgt r) (kf : B = some ro → xU cc nL own nm ret R X lv (st) w sz cl sl pc' r) : xU cc nL own nm ret R X lv (.int x :: st) w sz cl sl pc r := by
  obtain ⟨hd, rfl, ht⟩ := hd
  exact fun p e s m below meth c H locs ls Z hm hn hr hk J hl => lv_if_ge Z.1 Z.2.1 hd ht (fun hc => kt (xip hc h) p e s m below meth c H locs ls Z hm hn hr hk J hl) (fun hc => kf (xin hc h) p e s m below meth c H locs ls Z hm hn hr hk J hl)
theorem uxo_if_gt {x : Int32} {dc : Decidable (0 < x)} {A B : Option ρ} (hd : xDJ cc pc (.ifCond .gt off) off tgt pc') (h : (@ite _ (0 < x) dc A B) = some ro) (kt : A = some ro → xU cc nL own nm ret R X lv (st) w sz cl sl tgt r) (kf : B = some ro → xU cc nL own nm ret R X lv (st) w sz cl sl pc' r) : xU cc nL own nm ret R X lv (.int x :: st) w sz cl sl pc r := by
  obtain ⟨hd, rfl, ht⟩ := hd
  exact fun p e s m below meth c H locs ls Z hm hn hr hk J hl => lv_if_gt Z.1 Z.2.1 hd ht (fun hc => kt (xip hc h) p e s m below meth c H locs ls Z hm hn hr hk J hl) (fun hc => kf (xin hc h) p e s m below meth c H locs ls Z hm hn hr hk J hl)
theorem uxo_if_le {x : Int32} {dc : Decidable (x ≤ 0)} {A B : Option ρ} (hd : xDJ cc pc (.ifCond .le off) off tgt pc') (h : (@ite _ (x ≤ 0) dc A B) = some ro) (kt : A = some ro → xU cc nL own nm ret R X lv (st) w sz cl sl tgt r) (kf : B = some ro → xU cc nL own nm ret R X lv (st) w sz cl sl pc' r) : xU cc nL own nm ret R X lv (.int x :: st) w sz cl sl pc r := by
  obtain ⟨hd, rfl, ht⟩ := hd
  exact fun p e s m below meth c H locs ls Z hm hn hr hk J hl => lv_if_le Z.1 Z.2.1 hd ht (fun hc => kt (xip hc h) p e s m below meth c H locs ls Z hm hn hr hk J hl) (fun hc => kf (xin hc h) p e s m below meth c H locs ls Z hm hn hr hk J hl)
theorem uxo_lceq {x y : Int64} {pm : Nat} {dc : Decidable (x = y)} {A B : Option ρ} (h1 : xD cc pc .lcmp 1 pm) (hd : xDJ cc pm (.ifCond .eq off) off tgt pc') (h : (@ite _ (x = y) dc A B) = some ro) (kt : A = some ro → xU cc nL own nm ret R X lv (st) w sz cl sl tgt r) (kf : B = some ro → xU cc nL own nm ret R X lv (st) w sz cl sl pc' r) : xU cc nL own nm ret R X lv (.long y :: .long x :: st) w sz cl sl pc r := by
  obtain ⟨h1, rfl⟩ := h1
  obtain ⟨hd, rfl, ht⟩ := hd
  exact fun p e s m below meth c H locs ls Z hm hn hr hk J hl => W.lcmp Z.1 Z.2.1 h1 (lv_if_eq Z.1 Z.2.1 hd ht (fun hc => kt (xip ((lg_cmp_eq x y).mp hc) h) p e s m below meth c H locs ls Z hm hn hr hk J hl) (fun hc => kf (xin (fun q => hc ((lg_cmp_eq x y).mpr q)) h) p e s m below meth c H locs ls Z hm hn hr hk J hl))
theorem uxo_lcne {x y : Int64} {pm : Nat} {dc : Decidable (¬ x = y)} {A B : Option ρ} (h1 : xD cc pc .lcmp 1 pm) (hd : xDJ cc pm (.ifCond .ne off) off tgt pc') (h : (@ite _ (¬ x = y) dc A B) = some ro) (kt : A = some ro → xU cc nL own nm ret R X lv (st) w sz cl sl tgt r) (kf : B = some ro → xU cc nL own nm ret R X lv (st) w sz cl sl pc' r) : xU cc nL own nm ret R X lv (.long y :: .long x :: st) w sz cl sl pc r := by
  obtain ⟨h1, rfl⟩ := h1
  obtain ⟨hd, rfl, ht⟩ := hd
  exact fun p e s m below meth c H locs ls Z hm hn hr hk J hl => W.lcmp Z.1 Z.2.1 h1 (lv_if_ne Z.1 Z.2.1 hd ht (fun hc => kt (xip ((not_congr (lg_cmp_eq x y)).mp hc) h) p e s m below meth c H locs ls Z hm hn hr hk J hl) (fun hc => kf (xin (fun q => q ((lg_cmp_eq x y).mp hc)) h) p e s m below meth c H locs ls Z hm hn hr hk J hl))
theorem uxo_lclt {x y : Int64} {pm : Nat} {dc : Decidable (x < y)} {A B : Option ρ} (h1 : xD cc pc .lcmp 1 pm) (hd : xDJ cc pm (.ifCond .lt off) off tgt pc') (h : (@ite _ (x < y) dc A B) = some ro) (kt : A = some ro → xU cc nL own nm ret R X lv (st) w sz cl sl tgt r) (kf : B = some ro → xU cc nL own nm ret R X lv (st) w sz cl sl pc' r) : xU cc nL own nm ret R X lv (.long y :: .long x :: st) w sz cl sl pc r := by
  obtain ⟨h1, rfl⟩ := h1
  obtain ⟨hd, rfl, ht⟩ := hd
  exact fun p e s m below meth c H locs ls Z hm hn hr hk J hl => W.lcmp Z.1 Z.2.1 h1 (lv_if_lt Z.1 Z.2.1 hd ht (fun hc => kt (xip ((lg_cmp_lt x y).mp hc) h) p e s m below meth c H locs ls Z hm hn hr hk J hl) (fun hc => kf (xin (fun q => hc ((lg_cmp_lt x y).mpr q)) h) p e s m below meth c H locs ls Z hm hn hr hk J hl))
theorem uxo_lcge {x y : Int64} {pm : Nat} {dc : Decidable (y ≤ x)} {A B : Option ρ} (h1 : xD cc pc .lcmp 1 pm) (hd : xDJ cc pm (.ifCond .ge off) off tgt pc') (h : (@ite _ (y ≤ x) dc A B) = some ro) (kt : A = some ro → xU cc nL own nm ret R X lv (st) w sz cl sl tgt r) (kf : B = some ro → xU cc nL own nm ret R X lv (st) w sz cl sl pc' r) : xU cc nL own nm ret R X lv (.long y :: .long x :: st) w sz cl sl pc r := by
  obtain ⟨h1, rfl⟩ := h1
  obtain ⟨hd, rfl, ht⟩ := hd
  exact fun p e s m below meth c H locs ls Z hm hn hr hk J hl => W.lcmp Z.1 Z.2.1 h1 (lv_if_ge Z.1 Z.2.1 hd ht (fun hc => kt (xip ((lg_cmp_ge x y).mp hc) h) p e s m below meth c H locs ls Z hm hn hr hk J hl) (fun hc => kf (xin (fun q => hc ((lg_cmp_ge x y).mpr q)) h) p e s m below meth c H locs ls Z hm hn hr hk J hl))
theorem uxo_lcgt {x y : Int64} {pm : Nat} {dc : Decidable (y < x)} {A B : Option ρ} (h1 : xD cc pc .lcmp 1 pm) (hd : xDJ cc pm (.ifCond .gt off) off tgt pc') (h : (@ite _ (y < x) dc A B) = some ro) (kt : A = some ro → xU cc nL own nm ret R X lv (st) w sz cl sl tgt r) (kf : B = some ro → xU cc nL own nm ret R X lv (st) w sz cl sl pc' r) : xU cc nL own nm ret R X lv (.long y :: .long x :: st) w sz cl sl pc r := by
  obtain ⟨h1, rfl⟩ := h1
  obtain ⟨hd, rfl, ht⟩ := hd
  exact fun p e s m below meth c H locs ls Z hm hn hr hk J hl => W.lcmp Z.1 Z.2.1 h1 (lv_if_gt Z.1 Z.2.1 hd ht (fun hc => kt (xip ((lg_cmp_gt x y).mp hc) h) p e s m below meth c H locs ls Z hm hn hr hk J hl) (fun hc => kf (xin (fun q => hc ((lg_cmp_gt x y).mpr q)) h) p e s m below meth c H locs ls Z hm hn hr hk J hl))
theorem uxo_lcle {x y : Int64} {pm : Nat} {dc : Decidable (x ≤ y)} {A B : Option ρ} (h1 : xD cc pc .lcmp 1 pm) (hd : xDJ cc pm (.ifCond .le off) off tgt pc') (h : (@ite _ (x ≤ y) dc A B) = some ro) (kt : A = some ro → xU cc nL own nm ret R X lv (st) w sz cl sl tgt r) (kf : B = some ro → xU cc nL own nm ret R X lv (st) w sz cl sl pc' r) : xU cc nL own nm ret R X lv (.long y :: .long x :: st) w sz cl sl pc r := by
  obtain ⟨h1, rfl⟩ := h1
  obtain ⟨hd, rfl, ht⟩ := hd
  exact fun p e s m below meth c H locs ls Z hm hn hr hk J hl => W.lcmp Z.1 Z.2.1 h1 (lv_if_le Z.1 Z.2.1 hd ht (fun hc => kt (xip ((lg_cmp_le x y).mp hc) h) p e s m below meth c H locs ls Z hm hn hr hk J hl) (fun hc => kf (xin (fun q => hc ((lg_cmp_le x y).mpr q)) h) p e s m below meth c H locs ls Z hm hn hr hk J hl))
theorem uxo_tableIn {dflt lo hi : Int} {offs : Array Int} {len : Nat} {x : Int32} (off : Int) (tgt : Nat) (hd : xD cc pc (.tableswitch dflt lo hi offs) len pc') (h1 : ¬ x.toInt < lo) (h2 : ¬ hi < x.toInt) (ho : offs[(x.toInt - lo).toNat]? = some off) (ht : (pc : Int) + off = (tgt : Int)) (k : xU cc nL own nm ret R X lv (st) w sz cl sl tgt r) : xU cc nL own nm ret R X lv (.int x :: st) w sz cl sl pc r :=
  fun p e s m below meth c H locs ls Z hm hn hr hk J hl => lv_tableIn Z.1 Z.2.1 hd.1 h1 h2 ho ht (k p e s m below meth c H locs ls Z hm hn hr hk J hl)
theorem uxo_tableOut {dflt lo hi : Int} {offs : Array Int} {len : Nat} {x : Int32} (tgt : Nat) (hd : xD cc pc (.tableswitch dflt lo hi offs) len pc') (h1 : x.toInt < lo ∨ hi < x.toInt) (ht : (pc : Int) + dflt = (tgt : Int)) (k : xU cc nL own nm ret R X lv (st) w sz cl sl tgt r) : xU cc nL own nm ret R X lv (.int x :: st) w sz cl sl pc r :=
  fun p e s m below meth c H locs ls Z hm hn hr hk J hl => lv_tableOut Z.1 Z.2.1 hd.1 h1 ht (k p e s m below meth c H locs ls Z hm hn hr hk J hl)
theorem uxo_lookup {dflt : Int} {ps : Array (Int × Int)} {len : Nat} {x : Int32} (off : Int) (tgt : Nat) (hd : xD cc pc (.lookupswitch dflt ps) len pc') (hp : (ps.toList.zip (ps.toList.drop 1)).all (fun (a, next) => a.1 < next.1) = true) (ho : Op.lookupswitch.offset ps.toList dflt x.toInt = off) (ht : (pc : Int) + off = (tgt : Int)) (k : xU cc nL own nm ret R X lv (st) w sz cl sl tgt r) : xU cc nL own nm ret R X lv (.int x :: st) w sz cl sl pc r :=
  fun p e s m below meth c H locs ls Z hm hn hr hk J hl => lv_lookup Z.1 Z.2.1 hd.1 hp ho ht (k p e s m below meth c H locs ls Z hm hn hr hk J hl)
theorem uxo_getI {ci index N a : Nat} {C : String} {T : u_T} {ty : Nat → FieldType} (k : Nat) {g : Int32 → Option ρ} (hd : xD cc pc (.getfield index) 3 pc') (K : xC ci C T N ty) (hkn : Nat.ble (k + 1) N = true) (hw : Cond.fieldLink own index C (T k).2.1 (T k).2.2.1 ∈ xT) (hc : (T k).1 = C) (h : (xfI w a ci k).bind g = some ro) (kk : ∀ x, g x = some ro → xU cc nL own nm ret R X lv (.int x :: st) w sz cl sl pc' r) : xU cc nL own nm ret R X lv (.ref a :: st) w sz cl sl pc r := by
  obtain ⟨hd, rfl⟩ := hd
  obtain ⟨x, hx, hq⟩ := xb h
  obtain ⟨fs, he, hv⟩ := xfI_inv hx
  exact fun p e s m below meth c H locs ls Z hm hn hr hk J hl => xg_getV Z J K k (Nat.le_of_ble_eq_true hkn) hw hc he hv hd (kk x hq p e s m below meth c H locs ls Z hm hn hr hk J hl)
theorem uxo_getL {ci index N a : Nat} {C : String} {T : u_T} {ty : Nat → FieldType} (k : Nat) {g : Int64 → Option ρ} (hd : xD cc pc (.getfield index) 3 pc') (K : xC ci C T N ty) (hkn : Nat.ble (k + 1) N = true) (hw : Cond.fieldLink own index C (T k).2.1 (T k).2.2.1 ∈ xT) (hc : (T k).1 = C) (h : (xfL w a ci k).bind g = some ro) (kk : ∀ x, g x = some ro → xU cc nL own nm ret R X lv (.long x :: st) w sz cl sl pc' r) : xU cc nL own nm ret R X lv (.ref a :: st) w sz cl sl pc r := by
  obtain ⟨hd, rfl⟩ := hd
  obtain ⟨x, hx, hq⟩ := xb h
  obtain ⟨fs, he, hv⟩ := xfL_inv hx
  exact fun p e s m below meth c H locs ls Z hm hn hr hk J hl => xg_getV Z J K k (Nat.le_of_ble_eq_true hkn) hw hc he hv hd (kk x hq p e s m below meth c H locs ls Z hm hn hr hk J hl)
theorem uxo_getR {ci index N a : Nat} {C : String} {T : u_T} {ty : Nat → FieldType} (k : Nat) {g : Nat → Option ρ} (hd : xD cc pc (.getfield index) 3 pc') (K : xC ci C T N ty) (hkn : Nat.ble (k + 1) N = true) (hw : Cond.fieldLink own index C (T k).2.1 (T k).2.2.1 ∈ xT) (hc : (T k).1 = C) (h : (xfR w a ci k).bind g = some ro) (kk : ∀ x, g x = some ro → xU cc nL own nm ret R X lv (.ref x :: st) w sz cl sl pc' r) : xU cc nL own nm ret R X lv (.ref a :: st) w sz cl sl pc r := by
  obtain ⟨hd, rfl⟩ := hd
  obtain ⟨x, hx, hq⟩ := xb h
  obtain ⟨fs, he, hv⟩ := xfR_inv hx
  exact fun p e s m below meth c H locs ls Z hm hn hr hk J hl => xg_getV Z J K k (Nat.le_of_ble_eq_true hkn) hw hc he hv hd (kk x hq p e s m below meth c H locs ls Z hm hn hr hk J hl)
theorem uxo_putI {ci index N a : Nat} {C : String} {T : u_T} {ty : Nat → FieldType} {x : Int32} (k : Nat) {g : xw → Option ρ} (hd : xD cc pc (.putfield index) 3 pc') (K : xC ci C T N ty) (hkn : Nat.ble (k + 1) N = true) (hw : Cond.fieldLink own index C (T k).2.1 (T k).2.2.1 ∈ xT) (hc : (T k).1 = C) (hfin : (T k).2.2.2 = false) (hnar : narrow (ty k) (.int x) = .int x) (hfit : fits (ty k) (.int x) = true) (h : (xpI w a ci k x).bind g = some ro) (kk : ∀ w1, g w1 = some ro → xU cc nL own nm ret R X lv (st) w1 sz cl sl pc' r) : xU cc nL own nm ret R X lv (.int x :: .ref a :: st) w sz cl sl pc r := by
  obtain ⟨hd, rfl⟩ := hd
  obtain ⟨w1, hx, hq⟩ := xb h
  exact fun p e s m below meth c H locs ls Z hm hn hr hk J hl => xg_putV Z J K k (Nat.le_of_ble_eq_true hkn) hw hc hfin hnar hfit hd hx (fun H locs J => kk w1 hq p e s m below meth c H locs ls Z hm hn hr hk J hl)
theorem uxo_putIF {ci index N a : Nat} {C : String} {T : u_T} {ty : Nat → FieldType} {x : Int32} (k : Nat) {g : xw → Option ρ} (hd : xD cc pc (.putfield index) 3 pc') (K : xC ci C T N ty) (hkn : Nat.ble (k + 1) N = true) (hw : Cond.fieldLink own index C (T k).2.1 (T k).2.2.1 ∈ xT) (hc : (T k).1 = C) (hfin : (T k).2.2.2 = true) (hnm : nm = "<init>") (hdecl : C = own) (hnar : narrow (ty k) (.int x) = .int x) (hfit : fits (ty k) (.int x) = true) (h : (xpI w a ci k x).bind g = some ro) (kk : ∀ w1, g w1 = some ro → xU cc nL own nm ret R X lv (st) w1 sz cl sl pc' r) : xU cc nL own nm ret R X lv (.int x :: .ref a :: st) w sz cl sl pc r := by
  obtain ⟨hd, rfl⟩ := hd
  obtain ⟨w1, hx, hq⟩ := xb h
  exact fun p e s m below meth c H locs ls Z hm hn hr hk J hl => xg_putF Z J K k (Nat.le_of_ble_eq_true hkn) hw hc hfin (hn.trans hnm) hdecl hnar hfit hd hx (fun H locs J => kk w1 hq p e s m below meth c H locs ls Z hm hn hr hk J hl)
theorem uxo_putL {ci index N a : Nat} {C : String} {T : u_T} {ty : Nat → FieldType} {x : Int64} (k : Nat) {g : xw → Option ρ} (hd : xD cc pc (.putfield index) 3 pc') (K : xC ci C T N ty) (hkn : Nat.ble (k + 1) N = true) (hw : Cond.fieldLink own index C (T k).2.1 (T k).2.2.1 ∈ xT) (hc : (T k).1 = C) (hfin : (T k).2.2.2 = false) (hnar : narrow (ty k) (.long x) = .long x) (hfit : fits (ty k) (.long x) = true) (h : (xpL w a ci k x).bind g = some ro) (kk : ∀ w1, g w1 = some ro → xU cc nL own nm ret R X lv (st) w1 sz cl sl pc' r) : xU cc nL own nm ret R X lv (.long x :: .ref a :: st) w sz cl sl pc r := by
  obtain ⟨hd, rfl⟩ := hd
  obtain ⟨w1, hx, hq⟩ := xb h
  exact fun p e s m below meth c H locs ls Z hm hn hr hk J hl => xg_putV Z J K k (Nat.le_of_ble_eq_true hkn) hw hc hfin hnar hfit hd hx (fun H locs J => kk w1 hq p e s m below meth c H locs ls Z hm hn hr hk J hl)
theorem uxo_putLF {ci index N a : Nat} {C : String} {T : u_T} {ty : Nat → FieldType} {x : Int64} (k : Nat) {g : xw → Option ρ} (hd : xD cc pc (.putfield index) 3 pc') (K : xC ci C T N ty) (hkn : Nat.ble (k + 1) N = true) (hw : Cond.fieldLink own index C (T k).2.1 (T k).2.2.1 ∈ xT) (hc : (T k).1 = C) (hfin : (T k).2.2.2 = true) (hnm : nm = "<init>") (hdecl : C = own) (hnar : narrow (ty k) (.long x) = .long x) (hfit : fits (ty k) (.long x) = true) (h : (xpL w a ci k x).bind g = some ro) (kk : ∀ w1, g w1 = some ro → xU cc nL own nm ret R X lv (st) w1 sz cl sl pc' r) : xU cc nL own nm ret R X lv (.long x :: .ref a :: st) w sz cl sl pc r := by
  obtain ⟨hd, rfl⟩ := hd
  obtain ⟨w1, hx, hq⟩ := xb h
  exact fun p e s m below meth c H locs ls Z hm hn hr hk J hl => xg_putF Z J K k (Nat.le_of_ble_eq_true hkn) hw hc hfin (hn.trans hnm) hdecl hnar hfit hd hx (fun H locs J => kk w1 hq p e s m below meth c H locs ls Z hm hn hr hk J hl)
theorem uxo_putR {ci index N a : Nat} {C : String} {T : u_T} {ty : Nat → FieldType} {x : Nat} (k : Nat) {g : xw → Option ρ} (hd : xD cc pc (.putfield index) 3 pc') (K : xC ci C T N ty) (hkn : Nat.ble (k + 1) N = true) (hw : Cond.fieldLink own index C (T k).2.1 (T k).2.2.1 ∈ xT) (hc : (T k).1 = C) (hfin : (T k).2.2.2 = false) (hnar : narrow (ty k) (.ref x) = .ref x) (hfit : fits (ty k) (.ref x) = true) (h : (xpR w a ci k x).bind g = some ro) (kk : ∀ w1, g w1 = some ro → xU cc nL own nm ret R X lv (st) w1 sz cl sl pc' r) : xU cc nL own nm ret R X lv (.ref x :: .ref a :: st) w sz cl sl pc r := by
  obtain ⟨hd, rfl⟩ := hd
  obtain ⟨w1, hx, hq⟩ := xb h
  exact fun p e s m below meth c H locs ls Z hm hn hr hk J hl => xg_putV Z J K k (Nat.le_of_ble_eq_true hkn) hw hc hfin hnar hfit hd hx (fun H locs J => kk w1 hq p e s m below meth c H locs ls Z hm hn hr hk J hl)
theorem uxo_putRF {ci index N a : Nat} {C : String} {T : u_T} {ty : Nat → FieldType} {x : Nat} (k : Nat) {g : xw → Option ρ} (hd : xD cc pc (.putfield index) 3 pc') (K : xC ci C T N ty) (hkn : Nat.ble (k + 1) N = true) (hw : Cond.fieldLink own index C (T k).2.1 (T k).2.2.1 ∈ xT) (hc : (T k).1 = C) (hfin : (T k).2.2.2 = true) (hnm : nm = "<init>") (hdecl : C = own) (hnar : narrow (ty k) (.ref x) = .ref x) (hfit : fits (ty k) (.ref x) = true) (h : (xpR w a ci k x).bind g = some ro) (kk : ∀ w1, g w1 = some ro → xU cc nL own nm ret R X lv (st) w1 sz cl sl pc' r) : xU cc nL own nm ret R X lv (.ref x :: .ref a :: st) w sz cl sl pc r := by
  obtain ⟨hd, rfl⟩ := hd
  obtain ⟨w1, hx, hq⟩ := xb h
  exact fun p e s m below meth c H locs ls Z hm hn hr hk J hl => xg_putF Z J K k (Nat.le_of_ble_eq_true hkn) hw hc hfin (hn.trans hnm) hdecl hnar hfit hd hx (fun H locs J => kk w1 hq p e s m below meth c H locs ls Z hm hn hr hk J hl)
theorem uxo_putZ {ci index N a : Nat} {C : String} {T : u_T} {ty : Nat → FieldType} {x : Int32} (k : Nat) {g : xw → Option ρ} (hd : xD cc pc (.putfield index) 3 pc') (K : xC ci C T N ty) (hkn : Nat.ble (k + 1) N = true) (hw : Cond.fieldLink own index C (T k).2.1 (T k).2.2.1 ∈ xT) (hc : (T k).1 = C) (hfin : (T k).2.2.2 = false) (hty : ty k = .boolean) (h : (xpZ w a ci k x).bind g = some ro) (kk : ∀ w1, g w1 = some ro → xU cc nL own nm ret R X lv (st) w1 sz cl sl pc' r) : xU cc nL own nm ret R X lv (.int x :: .ref a :: st) w sz cl sl pc r := by
  obtain ⟨hd, rfl⟩ := hd
  obtain ⟨w1, hx, hq⟩ := xb h
  unfold xpZ at hx
  split at hx
  · rename_i hb
    obtain ⟨n1, n2, -⟩ := xnar hb
    exact fun p e s m below meth c H locs ls Z hm hn hr hk J hl => xg_putV Z J K k (Nat.le_of_ble_eq_true hkn) hw hc hfin (by rw [hty]; exact n1) (by rw [hty]; exact n2) hd hx (fun H locs J => kk w1 hq p e s m below meth c H locs ls Z hm hn hr hk J hl)
  · cases hx
theorem uxo_putZF {ci index N a : Nat} {C : String} {T : u_T} {ty : Nat → FieldType} {x : Int32} (k : Nat) {g : xw → Option ρ} (hd : xD cc pc (.putfield index) 3 pc') (K : xC ci C T N ty) (hkn : Nat.ble (k + 1) N = true) (hw : Cond.fieldLink own index C (T k).2.1 (T k).2.2.1 ∈ xT) (hc : (T k).1 = C) (hfin : (T k).2.2.2 = true) (hnm : nm = "<init>") (hdecl : C = own) (hty : ty k = .boolean) (h : (xpZ w a ci k x).bind g = some ro) (kk : ∀ w1, g w1 = some ro → xU cc nL own nm ret R X lv (st) w1 sz cl sl pc' r) : xU cc nL own nm ret R X lv (.int x :: .ref a :: st) w sz cl sl pc r := by
  obtain ⟨hd, rfl⟩ := hd
  obtain ⟨w1, hx, hq⟩ := xb h
  unfold xpZ at hx
  split at hx
  · rename_i hb
    obtain ⟨n1, n2, -⟩ := xnar hb
    exact fun p e s m below meth c H locs ls Z hm hn hr hk J hl => xg_putF Z J K k (Nat.le_of_ble_eq_true hkn) hw hc hfin (hn.trans hnm) hdecl (by rw [hty]; exact n1) (by rw [hty]; exact n2) hd hx (fun H locs J => kk w1 hq p e s m below meth c H locs ls Z hm hn hr hk J hl)
  · cases hx
theorem uxo_aldI {a : Nat} {i : Int32} {g : Int32 → Option ρ} (hd : xD cc pc .iaload 1 pc') (h : (xaI w a i).bind g = some ro) (kk : ∀ x, g x = some ro → xU cc nL own nm ret R X lv (.int x :: st) w sz cl sl pc' r) : xU cc nL own nm ret R X lv (.int i :: .ref a :: st) w sz cl sl pc r := by
  obtain ⟨hd, rfl⟩ := hd
  obtain ⟨x, hx, hq⟩ := xb h
  obtain ⟨n, f, he, hi, rfl⟩ := xaI_inv hx
  exact fun p e s m below meth c H locs ls Z hm hn hr hk J hl => va_iald Z.1 Z.2.1 Z.2.2.2.2.1 (xP1 (J.1 a _ he)) 0 0 rfl rfl hi hd (kk _ hq p e s m below meth c H locs ls Z hm hn hr hk J hl)
theorem uxo_aldZ {a : Nat} {i : Int32} {g : Int32 → Option ρ} (hd : xD cc pc .baload 1 pc') (h : (xaZ w a i).bind g = some ro) (kk : ∀ x, g x = some ro → xU cc nL own nm ret R X lv (.int x :: st) w sz cl sl pc' r) : xU cc nL own nm ret R X lv (.int i :: .ref a :: st) w sz cl sl pc r := by
  obtain ⟨hd, rfl⟩ := hd
  obtain ⟨x, hx, hq⟩ := xb h
  obtain ⟨n, f, he, hi, rfl⟩ := xaZ_inv hx
  exact fun p e s m below meth c H locs ls Z hm hn hr hk J hl => va_zald Z.1 Z.2.1 Z.2.2.2.2.1 (xP1 (J.1 a _ he)) 0 2 rfl rfl hi hd (kk _ hq p e s m below meth c H locs ls Z hm hn hr hk J hl)
theorem uxo_aldL {a : Nat} {i : Int32} {g : Int64 → Option ρ} (hd : xD cc pc .laload 1 pc') (h : (xaL w a i).bind g = some ro) (kk : ∀ x, g x = some ro → xU cc nL own nm ret R X lv (.long x :: st) w sz cl sl pc' r) : xU cc nL own nm ret R X lv (.int i :: .ref a :: st) w sz cl sl pc r := by
  obtain ⟨hd, rfl⟩ := hd
  obtain ⟨x, hx, hq⟩ := xb h
  obtain ⟨n, f, he, hi, rfl⟩ := xaL_inv hx
  exact fun p e s m below meth c H locs ls Z hm hn hr hk J hl => va_lald Z.1 Z.2.1 Z.2.2.2.2.1 (xP1 (J.1 a _ he)) 0 1 rfl rfl hi hd (kk _ hq p e s m below meth c H locs ls Z hm hn hr hk J hl)
theorem uxo_aldR {a : Nat} {i : Int32} {g : Nat → Option ρ} (hd : xD cc pc .aaload 1 pc') (h : (xaR w a i).bind g = some ro) (kk : ∀ x, g x = some ro → xU cc nL own nm ret R X lv (.ref x :: st) w sz cl sl pc' r) : xU cc nL own nm ret R X lv (.int i :: .ref a :: st) w sz cl sl pc r := by
  obtain ⟨hd, rfl⟩ := hd
  obtain ⟨x, hx, hq⟩ := xb h
  obtain ⟨t, n, f, he, ht, hi, hf⟩ := xaR_inv hx
  have key : ∀ (t0 : Nat) (C : String), (∀ cT : Nat → ClassId, (xtys cT)[t0]? = some (cT t, .object C)) → xU cc nL own nm ret R X lv (.int i :: .ref a :: st) w sz cl sl pc r := fun t0 C hty p e s m below meth c H locs ls Z hm hn hr hk J hl =>
    va_aldq (C := C) Z.1 Z.2.1 Z.2.2.2.2.1 (xP1 (J.1 a _ he)) 0 t0 rfl (hty _) hi hd (by rw [hf]; exact kk _ hq p e s m below meth c H locs ls Z hm hn hr hk J hl)
  have h3 : t = 3 ∨ t = 4 ∨ t = 5 := by omega
  rcases h3 with rfl | rfl | rfl
  · exact key 3 _ (fun _ => rfl)
  · exact key 4 _ (fun _ => rfl)
  · exact key 5 _ (fun _ => rfl)
theorem uxo_astI {a : Nat} {i : Int32} {x : Int32} {g : xw → Option ρ} (hd : xD cc pc .iastore 1 pc') (h : (xsI w a i x).bind g = some ro) (kk : ∀ w1, g w1 = some ro → xU cc nL own nm ret R X lv (st) w1 sz cl sl pc' r) : xU cc nL own nm ret R X lv (.int x :: .int i :: .ref a :: st) w sz cl sl pc r := by
  obtain ⟨hd, rfl⟩ := hd
  obtain ⟨w1, hx, hq⟩ := xb h
  obtain ⟨n, f, he, hi, rfl⟩ := xsI_inv hx
  exact fun p e s m below meth c H locs ls Z hm hn hr hk J hl => by
    refine W.iast Z.1 Z.2.1 (J.1 a _ he) ((Z.2.2.2.2.1.2 0 _ rfl).1 n (fun j => .int (f j))) (fun q => by cases q) (by show ¬ (i < 0 ∨ (arrV _ _ _).slots.size ≤ _); rw [arrV_size]; exact hi) rfl rfl hd fun H1 e1 z oq => ?_
    refine kk _ hq p e s m below meth c H1 _ ls Z hm hn hr hk (J.put he ?_ z oq) hl
    show H1[a]? = some (vp_cell _ _)
    rw [e1]
    show some (Cell.setSlot (vp_cell _ _) _ _) = _
    rw [vp_cell_i, vp_cell_i, arrV_store]
    congr 2
    funext q
    by_cases hq : q = i.toNatClampNeg
    · subst hq
      simp [updV, upd]
    · simp [updV, upd, hq]
theorem uxo_astL {a : Nat} {i : Int32} {x : Int64} {g : xw → Option ρ} (hd : xD cc pc .lastore 1 pc') (h : (xsL w a i x).bind g = some ro) (kk : ∀ w1, g w1 = some ro → xU cc nL own nm ret R X lv (st) w1 sz cl sl pc' r) : xU cc nL own nm ret R X lv (.long x :: .int i :: .ref a :: st) w sz cl sl pc r := by
  obtain ⟨hd, rfl⟩ := hd
  obtain ⟨w1, hx, hq⟩ := xb h
  obtain ⟨n, f, he, hi, rfl⟩ := xsL_inv hx
  exact fun p e s m below meth c H locs ls Z hm hn hr hk J hl => by
    refine W.last Z.1 Z.2.1 (J.1 a _ he) ((Z.2.2.2.2.1.2 1 _ rfl).1 n (fun j => .long (f j))) (fun q => by cases q) (by show ¬ (i < 0 ∨ (arrV _ _ _).slots.size ≤ _); rw [arrV_size]; exact hi) rfl rfl hd fun H1 e1 z oq => ?_
    refine kk _ hq p e s m below meth c H1 _ ls Z hm hn hr hk (J.put he ?_ z oq) hl
    show H1[a]? = some (vp_cell _ _)
    rw [e1]
    show some (Cell.setSlot (vp_cell _ _) _ _) = _
    rw [vp_cell_l, vp_cell_l, arrV_store]
    congr 2
    funext q
    by_cases hq : q = i.toNatClampNeg
    · subst hq
      simp [updV, vp_updL]
    · simp [updV, vp_updL, hq]
theorem uxo_astZ {a : Nat} {i : Int32} {x : Int32} {g : xw → Option ρ} (hd : xD cc pc .bastore 1 pc') (h : (xsZ w a i x).bind g = some ro) (kk : ∀ w1, g w1 = some ro → xU cc nL own nm ret R X lv (st) w1 sz cl sl pc' r) : xU cc nL own nm ret R X lv (.int x :: .int i :: .ref a :: st) w sz cl sl pc r := by
  obtain ⟨hd, rfl⟩ := hd
  obtain ⟨w1, hx, hq⟩ := xb h
  obtain ⟨n, f, he, hb, hi, rfl⟩ := xsZ_inv hx
  obtain ⟨-, -, hnr⟩ := xnar hb
  exact fun p e s m below meth c H locs ls Z hm hn hr hk J hl => by
    refine W.zast Z.1 Z.2.1 (J.1 a _ he) ((Z.2.2.2.2.1.2 2 _ rfl).1 n (fun j => .int (f j))) (fun q => by cases q) (by show ¬ (i < 0 ∨ (arrV _ _ _).slots.size ≤ _); rw [arrV_size]; exact hi) rfl rfl hd fun H1 e1 z oq => ?_
    refine kk _ hq p e s m below meth c H1 _ ls Z hm hn hr hk (J.put he ?_ z oq) hl
    show H1[a]? = some (vp_cell _ _)
    rw [e1]
    show some (Cell.setSlot (vp_cell _ _) _ _) = _
    rw [vp_cell_i, vp_cell_i, arrV_store]
    congr 2
    funext q
    by_cases hq : q = i.toNatClampNeg
    · subst hq
      rcases hb with rfl | rfl <;> simp [updV, upd] <;> rfl
    · simp [updV, upd, hq]
theorem uxo_obj {index a : Nat} (hd : xD cc pc (.invokespecial index) 3 pc') (hw : Cond.methodLink own index Lib.objectInit ∈ xT) (hfr : Nat.ble 1 R.frames = true) (hsm : Nat.ble ((st.map fun v => v.category).sum + 12) R.locals = true) (k : xU cc nL own nm ret R X lv (st) w sz cl sl pc' r) : xU cc nL own nm ret R X lv (.ref a :: st) w sz cl sl pc r := by
  obtain ⟨hd, rfl⟩ := hd
  exact fun p e s m below meth c H locs ls Z hm hn hr hk J hl => W.objInit Z.1 Z.2.1 Z.2.2.1 (Z.2.2.2.1 _ hw) (Z.2.2.2.1 _ xw_objinst) (Z.2.2.2.1 _ xw_objcode) rfl (hl.1.trans hm.symm) rfl hd (Nat.le_of_ble_eq_true hfr) (by
    have := Nat.le_of_ble_eq_true hsm
    show 2 * (F0 m pc ls (.ref a :: st)).monitorRoom + (st.map fun v => v.category).sum + 12 ≤ R.locals
    have h0 : (F0 m pc ls (.ref a :: st)).monitorRoom = 0 := rfl
    omega) (k p e s m below meth c H locs ls Z hm hn hr hk J hl)
theorem uxo_mmaxI {index : Nat} {x y : Int32} {g : Int32 → Option ρ} (hd : xD cc pc (.invokestatic index) 3 pc') (hw : Cond.methodLink own index Lib.Math.max.name ∈ xT) (hfr : Nat.ble 1 R.frames = true) (hlo : Nat.ble ((st.map fun v => v.category).sum + 13) R.locals = true) (hcl : Nat.ble cl R.cells = true) (hsl : Nat.ble sl R.slots = true) (h : (some (if x < y then y else x)).bind g = some ro) (k : ∀ z, g z = some ro → xU cc nL own nm ret R X lv (.int z :: st) w sz cl sl pc' r) : xU cc nL own nm ret R X lv (.int y :: .int x :: st) w sz cl sl pc r := by
  obtain ⟨hd, rfl⟩ := hd
  exact fun p e s m below meth c H locs ls Z hm hn hr hk J hl => va_mmax Z.1 Z.2.1 (hm.trans hl.1.symm) Z.2.2.1 (Z.2.2.2.1 _ hw) (Z.2.2.2.1 _ xw_mmaxI.1) (Z.2.2.2.1 _ xw_mmaxI.2.1) (Z.2.2.2.1 _ xw_mmaxI.2.2) (Nat.le_of_ble_eq_true hfr) (Nat.le_of_ble_eq_true hlo) (Nat.le_of_ble_eq_true hcl) (Nat.le_of_ble_eq_true hsl) hd (k _ h p e s m below meth c H locs ls Z hm hn hr hk J hl)
theorem uxo_mminI {index : Nat} {x y : Int32} {g : Int32 → Option ρ} (hd : xD cc pc (.invokestatic index) 3 pc') (hw : Cond.methodLink own index Lib.Math.min.name ∈ xT) (hfr : Nat.ble 1 R.frames = true) (hlo : Nat.ble ((st.map fun v => v.category).sum + 13) R.locals = true) (hcl : Nat.ble cl R.cells = true) (hsl : Nat.ble sl R.slots = true) (h : (some (if y < x then y else x)).bind g = some ro) (k : ∀ z, g z = some ro → xU cc nL own nm ret R X lv (.int z :: st) w sz cl sl pc' r) : xU cc nL own nm ret R X lv (.int y :: .int x :: st) w sz cl sl pc r := by
  obtain ⟨hd, rfl⟩ := hd
  exact fun p e s m below meth c H locs ls Z hm hn hr hk J hl => va_mmin Z.1 Z.2.1 (hm.trans hl.1.symm) Z.2.2.1 (Z.2.2.2.1 _ hw) (Z.2.2.2.1 _ xw_mminI.1) (Z.2.2.2.1 _ xw_mminI.2.1) (Z.2.2.2.1 _ xw_mminI.2.2) (Nat.le_of_ble_eq_true hfr) (Nat.le_of_ble_eq_true hlo) (Nat.le_of_ble_eq_true hcl) (Nat.le_of_ble_eq_true hsl) hd (k _ h p e s m below meth c H locs ls Z hm hn hr hk J hl)
theorem uxo_mmaxL {index : Nat} {x y : Int64} {g : Int64 → Option ρ} (hd : xD cc pc (.invokestatic index) 3 pc') (hw : Cond.methodLink own index Lib.MathLoose.max_long.x ∈ xT) (hfr : Nat.ble 1 R.frames = true) (hlo : Nat.ble ((st.map fun v => v.category).sum + 15) R.locals = true) (hcl : Nat.ble cl R.cells = true) (hsl : Nat.ble sl R.slots = true) (h : (some (if y < x then x else y)).bind g = some ro) (k : ∀ z, g z = some ro → xU cc nL own nm ret R X lv (.long z :: st) w sz cl sl pc' r) : xU cc nL own nm ret R X lv (.long y :: .long x :: st) w sz cl sl pc r := by
  obtain ⟨hd, rfl⟩ := hd
  exact fun p e s m below meth c H locs ls Z hm hn hr hk J hl => va_mmax_long Z.1 Z.2.1 (hm.trans hl.1.symm) Z.2.2.1 (Z.2.2.2.1 _ hw) (Z.2.2.2.1 _ xw_mmaxJ.1) (Z.2.2.2.1 _ xw_mmaxJ.2.1) (Z.2.2.2.1 _ xw_mmaxJ.2.2) (Nat.le_of_ble_eq_true hfr) (Nat.le_of_ble_eq_true hlo) (Nat.le_of_ble_eq_true hcl) (Nat.le_of_ble_eq_true hsl) hd (k _ h p e s m below meth c H locs ls Z hm hn hr hk J hl)
theorem uxo_mminL {index : Nat} {x y : Int64} {g : Int64 → Option ρ} (hd : xD cc pc (.invokestatic index) 3 pc') (hw : Cond.methodLink own index Lib.MathLoose.min_long.x ∈ xT) (hfr : Nat.ble 1 R.frames = true) (hlo : Nat.ble ((st.map fun v => v.category).sum + 15) R.locals = true) (hcl : Nat.ble cl R.cells = true) (hsl : Nat.ble sl R.slots = true) (h : (some (if y < x then y else x)).bind g = some ro) (k : ∀ z, g z = some ro → xU cc nL own nm ret R X lv (.long z :: st) w sz cl sl pc' r) : xU cc nL own nm ret R X lv (.long y :: .long x :: st) w sz cl sl pc r := by
  obtain ⟨hd, rfl⟩ := hd
  exact fun p e s m below meth c H locs ls Z hm hn hr hk J hl => va_mmin_long Z.1 Z.2.1 (hm.trans hl.1.symm) Z.2.2.1 (Z.2.2.2.1 _ hw) (Z.2.2.2.1 _ xw_mminJ.1) (Z.2.2.2.1 _ xw_mminJ.2.1) (Z.2.2.2.1 _ xw_mminJ.2.2) (Nat.le_of_ble_eq_true hfr) (Nat.le_of_ble_eq_true hlo) (Nat.le_of_ble_eq_true hcl) (Nat.le_of_ble_eq_true hsl) hd (k _ h p e s m below meth c H locs ls Z hm hn hr hk J hl)
theorem uxc_S {As rest st0 : List Value} {y : MethodName} {bytes : ByteArray} {maxL n index : Nat} {ret' : Option FieldType} {R' : Room} {r' : xR} (hd : xD cc pc (.invokestatic index) 3 pc') (hw : Cond.methodLink own index y ∈ xT) (hy : xYS y bytes maxL ret' n) (hM : xM X.1 y bytes maxL ret' R' X.2.1 X.2.2.1 As w sz r') (hf : xfit R' maxL R cl sl = true) (hnA : As.length = n) (hst : st0 = As.reverse ++ rest) (hW : Nat.ble (rest.map fun v => v.category).sum 8 = true) (k : xU cc nL own nm ret R X lv (r'.1.toList ++ rest) r'.2.1 r'.2.2 (cl + R'.cells) (sl + R'.slots) pc' r) : xU cc nL own nm ret R X lv (st0) w sz cl sl pc r := by
  obtain ⟨hd, rfl⟩ := hd
  obtain ⟨hf1, hf2⟩ := xfit_of hf
  exact fun p e s m below meth c H locs ls Z hm hn hr hk J hl => xg_go (va_runS (As := As) (n := n) ⟨Z.1, Z.2.1, hm, Z.2.2.1, Z.2.2.2.1⟩ hM ⟨callB_of n Z.2.2.2.1 (xgood hy.1) rfl rfl rfl (Z.2.2.2.1 _ hy.2.2.1) (Z.2.2.2.1 _ hw) hy.2.2.2 hf1, Z.2.2.2.1 _ hy.2.1⟩ (xg_pre Z J) rfl hnA hl.1 hst (lv_room (Nat.le_of_ble_eq_true hW)) hd hf2) J (fun H locs J => k p e s m below meth c H locs ls Z hm hn hr hk J hl)
theorem uxc_SN {host : String} {As rest st0 : List Value} {y : MethodName} {bytes : ByteArray} {maxL n index : Nat} {ret' : Option FieldType} {R' : Room} {r' : xR} (hd : xD cc pc (.invokestatic index) 3 pc') (hw : (own, index, y, host) ∈ xNw) (hy : xYS y bytes maxL ret' n) (hM : xM X.1 y bytes maxL ret' R' X.2.1 X.2.2.1 As w sz r') (hf : xfit R' maxL R cl sl = true) (hnA : As.length = n) (hst : st0 = As.reverse ++ rest) (hW : Nat.ble (rest.map fun v => v.category).sum 8 = true) (k : xU cc nL own nm ret R X lv (r'.1.toList ++ rest) r'.2.1 r'.2.2 (cl + R'.cells) (sl + R'.slots) pc' r) : xU cc nL own nm ret R X lv (st0) w sz cl sl pc r := by
  obtain ⟨hd, rfl⟩ := hd
  obtain ⟨hf1, hf2⟩ := xfit_of hf
  exact fun p e s m below meth c H locs ls Z hm hn hr hk J hl => xg_go (va_runSN (As := As) (n := n) ⟨Z.1, Z.2.1, hm, Z.2.2.1, Z.2.2.2.1⟩ hM ⟨va_cnB n Z.2.2.2.1 (xgood hy.1) rfl rfl rfl (Z.2.2.2.2.2.1 _ hw) (Z.2.2.2.1 _ hy.2.2.1) hy.2.2.2 hf1, Z.2.2.2.1 _ hy.2.1, trivial⟩ (xg_pre Z J) rfl hnA hl.1 hst (lv_room (Nat.le_of_ble_eq_true hW)) hd hf2) J (fun H locs J => k p e s m below meth c H locs ls Z hm hn hr hk J hl)
theorem uxc_V {As rest st0 : List Value} {y : MethodName} {bytes : ByteArray} {maxL n index b ci N : Nat} {T : u_T} {ty : Nat → FieldType} {ret' : Option FieldType} {R' : Room} {r' : xR} {u : Unit} (hd : xD cc pc (.invokevirtual index) 3 pc') (hw : Cond.methodLink own index y ∈ xT) (hy : xYV y bytes maxL ret' n) (K : xC ci y.cls T N ty) (hck : xck w b ci = some u) (hM : xM X.1 y bytes maxL ret' R' X.2.1 X.2.2.1 (.ref b :: As) w sz r') (hf : xfit R' maxL R cl sl = true) (hnA : As.length = n) (hst : st0 = As.reverse ++ .ref b :: rest) (hW : Nat.ble (rest.map fun v => v.category).sum 8 = true) (k : xU cc nL own nm ret R X lv (r'.1.toList ++ rest) r'.2.1 r'.2.2 (cl + R'.cells) (sl + R'.slots) pc' r) : xU cc nL own nm ret R X lv (st0) w sz cl sl pc r := by
  obtain ⟨hd, rfl⟩ := hd
  obtain ⟨hf1, hf2⟩ := xfit_of hf
  obtain ⟨fs, he⟩ := xck_inv hck
  exact fun p e s m below meth c H locs ls Z hm hn hr hk J hl => xg_go (va_runV (C := y.cls) (b := b) (As := As) (n := n) ⟨Z.1, Z.2.1, hm, Z.2.2.1, Z.2.2.2.1⟩ hM ⟨callB_of n Z.2.2.2.1 (xgood hy.1) rfl rfl rfl (Z.2.2.2.1 _ hy.2.2.1) (Z.2.2.2.1 _ hw) hy.2.2.2.1 hf1, Z.2.2.2.1 _ hy.2.1, Z.2.2.2.1 _ hy.2.2.2.2⟩ ⟨(xg_pre Z J).1, va_recv (q0 := 0) Z.2.2.2.2.1 (xP1 (J.1 b _ he)) K.1 rfl, (xg_pre Z J).2⟩ rfl hnA hl.1 hst (lv_room (Nat.le_of_ble_eq_true hW)) hd hf2) J (fun H locs J => k p e s m below meth c H locs ls Z hm hn hr hk J hl)
theorem uxc_VN {host : String} {As rest st0 : List Value} {y : MethodName} {bytes : ByteArray} {maxL n index b ci N : Nat} {T : u_T} {ty : Nat → FieldType} {ret' : Option FieldType} {R' : Room} {r' : xR} {u : Unit} (hd : xD cc pc (.invokevirtual index) 3 pc') (hw : (own, index, y, host) ∈ xNw) (hy : xYV y bytes maxL ret' n) (K : xC ci y.cls T N ty) (hck : xck w b ci = some u) (hM : xM X.1 y bytes maxL ret' R' X.2.1 X.2.2.1 (.ref b :: As) w sz r') (hf : xfit R' maxL R cl sl = true) (hnA : As.length = n) (hst : st0 = As.reverse ++ .ref b :: rest) (hW : Nat.ble (rest.map fun v => v.category).sum 8 = true) (k : xU cc nL own nm ret R X lv (r'.1.toList ++ rest) r'.2.1 r'.2.2 (cl + R'.cells) (sl + R'.slots) pc' r) : xU cc nL own nm ret R X lv (st0) w sz cl sl pc r := by
  obtain ⟨hd, rfl⟩ := hd
  obtain ⟨hf1, hf2⟩ := xfit_of hf
  obtain ⟨fs, he⟩ := xck_inv hck
  exact fun p e s m below meth c H locs ls Z hm hn hr hk J hl => xg_go (va_runVN (C := y.cls) (b := b) (As := As) (n := n) ⟨Z.1, Z.2.1, hm, Z.2.2.1, Z.2.2.2.1⟩ hM ⟨va_cnB n Z.2.2.2.1 (xgood hy.1) rfl rfl rfl (Z.2.2.2.2.2.1 _ hw) (Z.2.2.2.1 _ hy.2.2.1) hy.2.2.2.1 hf1, Z.2.2.2.1 _ hy.2.1, Z.2.2.2.1 _ hy.2.2.2.2⟩ ⟨(xg_pre Z J).1, va_recv (q0 := 0) Z.2.2.2.2.1 (xP1 (J.1 b _ he)) K.1 rfl, (xg_pre Z J).2⟩ rfl hnA hl.1 hst (lv_room (Nat.le_of_ble_eq_true hW)) hd hf2) J (fun H locs J => k p e s m below meth c H locs ls Z hm hn hr hk J hl)
theorem uxc_I {As rest st0 : List Value} {y : MethodName} {bytes : ByteArray} {maxL n index b : Nat} {R' : Room} {r' : xR} (hd : xD cc pc (.invokespecial index) 3 pc') (hw : Cond.methodLink own index y ∈ xT) (hy : xYI y bytes maxL n) (hM : xM X.1 y bytes maxL none R' X.2.1 X.2.2.1 (.ref b :: As) w sz r') (hf : xfit R' maxL R cl sl = true) (hnA : As.length = n) (hst : st0 = As.reverse ++ .ref b :: rest) (hW : Nat.ble (rest.map fun v => v.category).sum 8 = true) (k : xU cc nL own nm ret R X lv (r'.1.toList ++ rest) r'.2.1 r'.2.2 (cl + R'.cells) (sl + R'.slots) pc' r) : xU cc nL own nm ret R X lv (st0) w sz cl sl pc r := by
  obtain ⟨hd, rfl⟩ := hd
  obtain ⟨hf1, hf2⟩ := xfit_of hf
  exact fun p e s m below meth c H locs ls Z hm hn hr hk J hl => xg_go (va_runI (b := b) (As := As) (n := n) ⟨Z.1, Z.2.1, hm, Z.2.2.1, Z.2.2.2.1⟩ hM ⟨callB_of n Z.2.2.2.1 (xgood hy.1) rfl rfl rfl (Z.2.2.2.1 _ hy.2.2.1) (Z.2.2.2.1 _ hw) hy.2.2.2.1 hf1, hy.2.2.2.2, Z.2.2.2.1 _ hy.2.1⟩ (xg_pre Z J) rfl hnA hl.1 hst (lv_room (Nat.le_of_ble_eq_true hW)) hd hf2) J (fun H locs J => k p e s m below meth c H locs ls Z hm hn hr hk J hl)
theorem uxc_IN {host : String} {As rest st0 : List Value} {y : MethodName} {bytes : ByteArray} {maxL n index b : Nat} {R' : Room} {r' : xR} (hd : xD cc pc (.invokespecial index) 3 pc') (hw : (own, index, y, host) ∈ xNw) (hy : xYI y bytes maxL n) (hM : xM X.1 y bytes maxL none R' X.2.1 X.2.2.1 (.ref b :: As) w sz r') (hf : xfit R' maxL R cl sl = true) (hnA : As.length = n) (hst : st0 = As.reverse ++ .ref b :: rest) (hW : Nat.ble (rest.map fun v => v.category).sum 8 = true) (k : xU cc nL own nm ret R X lv (r'.1.toList ++ rest) r'.2.1 r'.2.2 (cl + R'.cells) (sl + R'.slots) pc' r) : xU cc nL own nm ret R X lv (st0) w sz cl sl pc r := by
  obtain ⟨hd, rfl⟩ := hd
  obtain ⟨hf1, hf2⟩ := xfit_of hf
  exact fun p e s m below meth c H locs ls Z hm hn hr hk J hl => xg_go (va_runIN (b := b) (As := As) (n := n) ⟨Z.1, Z.2.1, hm, Z.2.2.1, Z.2.2.2.1⟩ hM ⟨va_cnB n Z.2.2.2.1 (xgood hy.1) rfl rfl rfl (Z.2.2.2.2.2.1 _ hw) (Z.2.2.2.1 _ hy.2.2.1) hy.2.2.2.1 hf1, hy.2.2.2.2, Z.2.2.2.1 _ hy.2.1⟩ (xg_pre Z J) rfl hnA hl.1 hst (lv_room (Nat.le_of_ble_eq_true hW)) hd hf2) J (fun H locs J => k p e s m below meth c H locs ls Z hm hn hr hk J hl)
theorem uxo_S_I0 {rest st0 : List Value} (As : List Value) {y : MethodName} {bytes : ByteArray} {maxL n index : Nat} {ret' : Option FieldType} {R' : Room} {o : Option (Int32)} {g : Int32 → Option ρ} (hd : xD cc pc (.invokestatic index) 3 pc') (hw : Cond.methodLink own index y ∈ xT) (hy : xYS y bytes maxL ret' n) (h : o.bind g = some ro) (hM : ∀ z, o = some z → xM X.1 y bytes maxL ret' R' X.2.1 X.2.2.1 As w sz (some (.int z), w, sz)) (hf : xfit R' maxL R cl sl = true) (hz : R'.cells = 0 ∧ R'.slots = 0) (hnA : As.length = n) (hst : st0 = As.reverse ++ rest) (hW : Nat.ble (rest.map fun v => v.category).sum 8 = true) (k : ∀ z, g z = some ro → xU cc nL own nm ret R X lv (.int z :: rest) w sz cl sl pc' r) : xU cc nL own nm ret R X lv (st0) w sz cl sl pc r := by
  skip
  obtain ⟨z, e1, h⟩ := xb h
  have kz := k z h
  exact uxc_S (As := As) hd hw hy (hM z e1) hf hnA hst hW (by rw [hz.1, hz.2]; exact kz)
theorem uxo_SN_I0 {host : String} {rest st0 : List Value} (As : List Value) {y : MethodName} {bytes : ByteArray} {maxL n index : Nat} {ret' : Option FieldType} {R' : Room} {o : Option (Int32)} {g : Int32 → Option ρ} (hd : xD cc pc (.invokestatic index) 3 pc') (hw : (own, index, y, host) ∈ xNw) (hy : xYS y bytes maxL ret' n) (h : o.bind g = some ro) (hM : ∀ z, o = some z → xM X.1 y bytes maxL ret' R' X.2.1 X.2.2.1 As w sz (some (.int z), w, sz)) (hf : xfit R' maxL R cl sl = true) (hz : R'.cells = 0 ∧ R'.slots = 0) (hnA : As.length = n) (hst : st0 = As.reverse ++ rest) (hW : Nat.ble (rest.map fun v => v.category).sum 8 = true) (k : ∀ z, g z = some ro → xU cc nL own nm ret R X lv (.int z :: rest) w sz cl sl pc' r) : xU cc nL own nm ret R X lv (st0) w sz cl sl pc r := by
  skip
  obtain ⟨z, e1, h⟩ := xb h
  have kz := k z h
  exact uxc_SN (As := As) hd hw hy (hM z e1) hf hnA hst hW (by rw [hz.1, hz.2]; exact kz)
theorem uxo_V_I0 {rest st0 : List Value} (As : List Value) {y : MethodName} {bytes : ByteArray} {maxL n index : Nat} {b ci N : Nat} {T : u_T} {ty : Nat → FieldType} {ret' : Option FieldType} {R' : Room} {o : Option (Int32)} {g : Int32 → Option ρ} (hd : xD cc pc (.invokevirtual index) 3 pc') (hw : Cond.methodLink own index y ∈ xT) (hy : xYV y bytes maxL ret' n) (h : (xck w b ci).bind (fun _ => o.bind g) = some ro) (K : xC ci y.cls T N ty) (hM : ∀ z, o = some z → xM X.1 y bytes maxL ret' R' X.2.1 X.2.2.1 (.ref b :: As) w sz (some (.int z), w, sz)) (hf : xfit R' maxL R cl sl = true) (hz : R'.cells = 0 ∧ R'.slots = 0) (hnA : As.length = n) (hst : st0 = As.reverse ++ .ref b :: rest) (hW : Nat.ble (rest.map fun v => v.category).sum 8 = true) (k : ∀ z, g z = some ro → xU cc nL own nm ret R X lv (.int z :: rest) w sz cl sl pc' r) : xU cc nL own nm ret R X lv (st0) w sz cl sl pc r := by
  obtain ⟨u, hu, h⟩ := xb h
  obtain ⟨z, e1, h⟩ := xb h
  have kz := k z h
  exact uxc_V (As := As) hd hw hy K hu (hM z e1) hf hnA hst hW (by rw [hz.1, hz.2]; exact kz)
theorem uxo_VN_I0 {host : String} {rest st0 : List Value} (As : List Value) {y : MethodName} {bytes : ByteArray} {maxL n index : Nat} {b ci N : Nat} {T : u_T} {ty : Nat → FieldType} {ret' : Option FieldType} {R' : Room} {o : Option (Int32)} {g : Int32 → Option ρ} (hd : xD cc pc (.invokevirtual index) 3 pc') (hw : (own, index, y, host) ∈ xNw) (hy : xYV y bytes maxL ret' n) (h : (xck w b ci).bind (fun _ => o.bind g) = some ro) (K : xC ci y.cls T N ty) (hM : ∀ z, o = some z → xM X.1 y bytes maxL ret' R' X.2.1 X.2.2.1 (.ref b :: As) w sz (some (.int z), w, sz)) (hf : xfit R' maxL R cl sl = true) (hz : R'.cells = 0 ∧ R'.slots = 0) (hnA : As.length = n) (hst : st0 = As.reverse ++ .ref b :: rest) (hW : Nat.ble (rest.map fun v => v.category).sum 8 = true) (k : ∀ z, g z = some ro → xU cc nL own nm ret R X lv (.int z :: rest) w sz cl sl pc' r) : xU cc nL own nm ret R X lv (st0) w sz cl sl pc r := by
  obtain ⟨u, hu, h⟩ := xb h
  obtain ⟨z, e1, h⟩ := xb h
  have kz := k z h
  exact uxc_VN (As := As) hd hw hy K hu (hM z e1) hf hnA hst hW (by rw [hz.1, hz.2]; exact kz)
theorem uxo_S_IH {rest st0 : List Value} (As : List Value) {y : MethodName} {bytes : ByteArray} {maxL n index : Nat} {ret' : Option FieldType} {R' : Room} {o : Option (Int32 × xw)} {g : Int32 × xw → Option ρ} (hd : xD cc pc (.invokestatic index) 3 pc') (hw : Cond.methodLink own index y ∈ xT) (hy : xYS y bytes maxL ret' n) (h : o.bind g = some ro) (hM : ∀ z, o = some z → xM X.1 y bytes maxL ret' R' X.2.1 X.2.2.1 As w sz (some (.int z.1), z.2, sz)) (hf : xfit R' maxL R cl sl = true) (hz : R'.cells = 0 ∧ R'.slots = 0) (hnA : As.length = n) (hst : st0 = As.reverse ++ rest) (hW : Nat.ble (rest.map fun v => v.category).sum 8 = true) (k : ∀ z, g z = some ro → xU cc nL own nm ret R X lv (.int z.1 :: rest) z.2 sz cl sl pc' r) : xU cc nL own nm ret R X lv (st0) w sz cl sl pc r := by
  skip
  obtain ⟨z, e1, h⟩ := xb h
  have kz := k z h
  exact uxc_S (As := As) hd hw hy (hM z e1) hf hnA hst hW (by rw [hz.1, hz.2]; exact kz)
theorem uxo_SN_IH {host : String} {rest st0 : List Value} (As : List Value) {y : MethodName} {bytes : ByteArray} {maxL n index : Nat} {ret' : Option FieldType} {R' : Room} {o : Option (Int32 × xw)} {g : Int32 × xw → Option ρ} (hd : xD cc pc (.invokestatic index) 3 pc') (hw : (own, index, y, host) ∈ xNw) (hy : xYS y bytes maxL ret' n) (h : o.bind g = some ro) (hM : ∀ z, o = some z → xM X.1 y bytes maxL ret' R' X.2.1 X.2.2.1 As w sz (some (.int z.1), z.2, sz)) (hf : xfit R' maxL R cl sl = true) (hz : R'.cells = 0 ∧ R'.slots = 0) (hnA : As.length = n) (hst : st0 = As.reverse ++ rest) (hW : Nat.ble (rest.map fun v => v.category).sum 8 = true) (k : ∀ z, g z = some ro → xU cc nL own nm ret R X lv (.int z.1 :: rest) z.2 sz cl sl pc' r) : xU cc nL own nm ret R X lv (st0) w sz cl sl pc r := by
  skip
  obtain ⟨z, e1, h⟩ := xb h
  have kz := k z h
  exact uxc_SN (As := As) hd hw hy (hM z e1) hf hnA hst hW (by rw [hz.1, hz.2]; exact kz)
theorem uxo_V_IH {rest st0 : List Value} (As : List Value) {y : MethodName} {bytes : ByteArray} {maxL n index : Nat} {b ci N : Nat} {T : u_T} {ty : Nat → FieldType} {ret' : Option FieldType} {R' : Room} {o : Option (Int32 × xw)} {g : Int32 × xw → Option ρ} (hd : xD cc pc (.invokevirtual index) 3 pc') (hw : Cond.methodLink own index y ∈ xT) (hy : xYV y bytes maxL ret' n) (h : (xck w b ci).bind (fun _ => o.bind g) = some ro) (K : xC ci y.cls T N ty) (hM : ∀ z, o = some z → xM X.1 y bytes maxL ret' R' X.2.1 X.2.2.1 (.ref b :: As) w sz (some (.int z.1), z.2, sz)) (hf : xfit R' maxL R cl sl = true) (hz : R'.cells = 0 ∧ R'.slots = 0) (hnA : As.length = n) (hst : st0 = As.reverse ++ .ref b :: rest) (hW : Nat.ble (rest.map fun v => v.category).sum 8 = true) (k : ∀ z, g z = some ro → xU cc nL own nm ret R X lv (.int z.1 :: rest) z.2 sz cl sl pc' r) : xU cc nL own nm ret R X lv (st0) w sz cl sl pc r := by
  obtain ⟨u, hu, h⟩ := xb h
  obtain ⟨z, e1, h⟩ := xb h
  have kz := k z h
  exact uxc_V (As := As) hd hw hy K hu (hM z e1) hf hnA hst hW (by rw [hz.1, hz.2]; exact kz)
theorem uxo_VN_IH {host : String} {rest st0 : List Value} (As : List Value) {y : MethodName} {bytes : ByteArray} {maxL n index : Nat} {b ci N : Nat} {T : u_T} {ty : Nat → FieldType} {ret' : Option FieldType} {R' : Room} {o : Option (Int32 × xw)} {g : Int32 × xw → Option ρ} (hd : xD cc pc (.invokevirtual index) 3 pc') (hw : (own, index, y, host) ∈ xNw) (hy : xYV y bytes maxL ret' n) (h : (xck w b ci).bind (fun _ => o.bind g) = some ro) (K : xC ci y.cls T N ty) (hM : ∀ z, o = some z → xM X.1 y bytes maxL ret' R' X.2.1 X.2.2.1 (.ref b :: As) w sz (some (.int z.1), z.2, sz)) (hf : xfit R' maxL R cl sl = true) (hz : R'.cells = 0 ∧ R'.slots = 0) (hnA : As.length = n) (hst : st0 = As.reverse ++ .ref b :: rest) (hW : Nat.ble (rest.map fun v => v.category).sum 8 = true) (k : ∀ z, g z = some ro → xU cc nL own nm ret R X lv (.int z.1 :: rest) z.2 sz cl sl pc' r) : xU cc nL own nm ret R X lv (st0) w sz cl sl pc r := by
  obtain ⟨u, hu, h⟩ := xb h
  obtain ⟨z, e1, h⟩ := xb h
  have kz := k z h
  exact uxc_VN (As := As) hd hw hy K hu (hM z e1) hf hnA hst hW (by rw [hz.1, hz.2]; exact kz)
theorem uxo_S_IA {rest st0 : List Value} (As : List Value) {y : MethodName} {bytes : ByteArray} {maxL n index : Nat} {ret' : Option FieldType} {R' : Room} {o : Option (Int32 × xw × Nat)} {g : Int32 × xw × Nat → Option ρ} (hd : xD cc pc (.invokestatic index) 3 pc') (hw : Cond.methodLink own index y ∈ xT) (hy : xYS y bytes maxL ret' n) (h : o.bind g = some ro) (hM : ∀ z, o = some z → xM X.1 y bytes maxL ret' R' X.2.1 X.2.2.1 As w sz (some (.int z.1), z.2.1, z.2.2)) (hf : xfit R' maxL R cl sl = true) (hnA : As.length = n) (hst : st0 = As.reverse ++ rest) (hW : Nat.ble (rest.map fun v => v.category).sum 8 = true) (k : ∀ z, g z = some ro → xU cc nL own nm ret R X lv (.int z.1 :: rest) z.2.1 z.2.2 (cl + R'.cells) (sl + R'.slots) pc' r) : xU cc nL own nm ret R X lv (st0) w sz cl sl pc r := by
  skip
  obtain ⟨z, e1, h⟩ := xb h
  have kz := k z h
  exact uxc_S (As := As) hd hw hy (hM z e1) hf hnA hst hW kz
theorem uxo_SN_IA {host : String} {rest st0 : List Value} (As : List Value) {y : MethodName} {bytes : ByteArray} {maxL n index : Nat} {ret' : Option FieldType} {R' : Room} {o : Option (Int32 × xw × Nat)} {g : Int32 × xw × Nat → Option ρ} (hd : xD cc pc (.invokestatic index) 3 pc') (hw : (own, index, y, host) ∈ xNw) (hy : xYS y bytes maxL ret' n) (h : o.bind g = some ro) (hM : ∀ z, o = some z → xM X.1 y bytes maxL ret' R' X.2.1 X.2.2.1 As w sz (some (.int z.1), z.2.1, z.2.2)) (hf : xfit R' maxL R cl sl = true) (hnA : As.length = n) (hst : st0 = As.reverse ++ rest) (hW : Nat.ble (rest.map fun v => v.category).sum 8 = true) (k : ∀ z, g z = some ro → xU cc nL own nm ret R X lv (.int z.1 :: rest) z.2.1 z.2.2 (cl + R'.cells) (sl + R'.slots) pc' r) : xU cc nL own nm ret R X lv (st0) w sz cl sl pc r := by
  skip
  obtain ⟨z, e1, h⟩ := xb h
  have kz := k z h
  exact uxc_SN (As := As) hd hw hy (hM z e1) hf hnA hst hW kz
theorem uxo_V_IA {rest st0 : List Value} (As : List Value) {y : MethodName} {bytes : ByteArray} {maxL n index : Nat} {b ci N : Nat} {T : u_T} {ty : Nat → FieldType} {ret' : Option FieldType} {R' : Room} {o : Option (Int32 × xw × Nat)} {g : Int32 × xw × Nat → Option ρ} (hd : xD cc pc (.invokevirtual index) 3 pc') (hw : Cond.methodLink own index y ∈ xT) (hy : xYV y bytes maxL ret' n) (h : (xck w b ci).bind (fun _ => o.bind g) = some ro) (K : xC ci y.cls T N ty) (hM : ∀ z, o = some z → xM X.1 y bytes maxL ret' R' X.2.1 X.2.2.1 (.ref b :: As) w sz (some (.int z.1), z.2.1, z.2.2)) (hf : xfit R' maxL R cl sl = true) (hnA : As.length = n) (hst : st0 = As.reverse ++ .ref b :: rest) (hW : Nat.ble (rest.map fun v => v.category).sum 8 = true) (k : ∀ z, g z = some ro → xU cc nL own nm ret R X lv (.int z.1 :: rest) z.2.1 z.2.2 (cl + R'.cells) (sl + R'.slots) pc' r) : xU cc nL own nm ret R X lv (st0) w sz cl sl pc r := by
  obtain ⟨u, hu, h⟩ := xb h
  obtain ⟨z, e1, h⟩ := xb h
  have kz := k z h
  exact uxc_V (As := As) hd hw hy K hu (hM z e1) hf hnA hst hW kz
theorem uxo_VN_IA {host : String} {rest st0 : List Value} (As : List Value) {y : MethodName} {bytes : ByteArray} {maxL n index : Nat} {b ci N : Nat} {T : u_T} {ty : Nat → FieldType} {ret' : Option FieldType} {R' : Room} {o : Option (Int32 × xw × Nat)} {g : Int32 × xw × Nat → Option ρ} (hd : xD cc pc (.invokevirtual index) 3 pc') (hw : (own, index, y, host) ∈ xNw) (hy : xYV y bytes maxL ret' n) (h : (xck w b ci).bind (fun _ => o.bind g) = some ro) (K : xC ci y.cls T N ty) (hM : ∀ z, o = some z → xM X.1 y bytes maxL ret' R' X.2.1 X.2.2.1 (.ref b :: As) w sz (some (.int z.1), z.2.1, z.2.2)) (hf : xfit R' maxL R cl sl = true) (hnA : As.length = n) (hst : st0 = As.reverse ++ .ref b :: rest) (hW : Nat.ble (rest.map fun v => v.category).sum 8 = true) (k : ∀ z, g z = some ro → xU cc nL own nm ret R X lv (.int z.1 :: rest) z.2.1 z.2.2 (cl + R'.cells) (sl + R'.slots) pc' r) : xU cc nL own nm ret R X lv (st0) w sz cl sl pc r := by
  obtain ⟨u, hu, h⟩ := xb h
  obtain ⟨z, e1, h⟩ := xb h
  have kz := k z h
  exact uxc_VN (As := As) hd hw hy K hu (hM z e1) hf hnA hst hW kz
theorem uxo_S_L0 {rest st0 : List Value} (As : List Value) {y : MethodName} {bytes : ByteArray} {maxL n index : Nat} {ret' : Option FieldType} {R' : Room} {o : Option (Int64)} {g : Int64 → Option ρ} (hd : xD cc pc (.invokestatic index) 3 pc') (hw : Cond.methodLink own index y ∈ xT) (hy : xYS y bytes maxL ret' n) (h : o.bind g = some ro) (hM : ∀ z, o = some z → xM X.1 y bytes maxL ret' R' X.2.1 X.2.2.1 As w sz (some (.long z), w, sz)) (hf : xfit R' maxL R cl sl = true) (hz : R'.cells = 0 ∧ R'.slots = 0) (hnA : As.length = n) (hst : st0 = As.reverse ++ rest) (hW : Nat.ble (rest.map fun v => v.category).sum 8 = true) (k : ∀ z, g z = some ro → xU cc nL own nm ret R X lv (.long z :: rest) w sz cl sl pc' r) : xU cc nL own nm ret R X lv (st0) w sz cl sl pc r := by
  skip
  obtain ⟨z, e1, h⟩ := xb h
  have kz := k z h
  exact uxc_S (As := As) hd hw hy (hM z e1) hf hnA hst hW (by rw [hz.1, hz.2]; exact kz)
theorem uxo_SN_L0 {host : String} {rest st0 : List Value} (As : List Value) {y : MethodName} {bytes : ByteArray} {maxL n index : Nat} {ret' : Option FieldType} {R' : Room} {o : Option (Int64)} {g : Int64 → Option ρ} (hd : xD cc pc (.invokestatic index) 3 pc') (hw : (own, index, y, host) ∈ xNw) (hy : xYS y bytes maxL ret' n) (h : o.bind g = some ro) (hM : ∀ z, o = some z → xM X.1 y bytes maxL ret' R' X.2.1 X.2.2.1 As w sz (some (.long z), w, sz)) (hf : xfit R' maxL R cl sl = true) (hz : R'.cells = 0 ∧ R'.slots = 0) (hnA : As.length = n) (hst : st0 = As.reverse ++ rest) (hW : Nat.ble (rest.map fun v => v.category).sum 8 = true) (k : ∀ z, g z = some ro → xU cc nL own nm ret R X lv (.long z :: rest) w sz cl sl pc' r) : xU cc nL own nm ret R X lv (st0) w sz cl sl pc r := by
  skip
  obtain ⟨z, e1, h⟩ := xb h
  have kz := k z h
  exact uxc_SN (As := As) hd hw hy (hM z e1) hf hnA hst hW (by rw [hz.1, hz.2]; exact kz)
theorem uxo_V_L0 {rest st0 : List Value} (As : List Value) {y : MethodName} {bytes : ByteArray} {maxL n index : Nat} {b ci N : Nat} {T : u_T} {ty : Nat → FieldType} {ret' : Option FieldType} {R' : Room} {o : Option (Int64)} {g : Int64 → Option ρ} (hd : xD cc pc (.invokevirtual index) 3 pc') (hw : Cond.methodLink own index y ∈ xT) (hy : xYV y bytes maxL ret' n) (h : (xck w b ci).bind (fun _ => o.bind g) = some ro) (K : xC ci y.cls T N ty) (hM : ∀ z, o = some z → xM X.1 y bytes maxL ret' R' X.2.1 X.2.2.1 (.ref b :: As) w sz (some (.long z), w, sz)) (hf : xfit R' maxL R cl sl = true) (hz : R'.cells = 0 ∧ R'.slots = 0) (hnA : As.length = n) (hst : st0 = As.reverse ++ .ref b :: rest) (hW : Nat.ble (rest.map fun v => v.category).sum 8 = true) (k : ∀ z, g z = some ro → xU cc nL own nm ret R X lv (.long z :: rest) w sz cl sl pc' r) : xU cc nL own nm ret R X lv (st0) w sz cl sl pc r := by
  obtain ⟨u, hu, h⟩ := xb h
  obtain ⟨z, e1, h⟩ := xb h
  have kz := k z h
  exact uxc_V (As := As) hd hw hy K hu (hM z e1) hf hnA hst hW (by rw [hz.1, hz.2]; exact kz)
theorem uxo_VN_L0 {host : String} {rest st0 : List Value} (As : List Value) {y : MethodName} {bytes : ByteArray} {maxL n index : Nat} {b ci N : Nat} {T : u_T} {ty : Nat → FieldType} {ret' : Option FieldType} {R' : Room} {o : Option (Int64)} {g : Int64 → Option ρ} (hd : xD cc pc (.invokevirtual index) 3 pc') (hw : (own, index, y, host) ∈ xNw) (hy : xYV y bytes maxL ret' n) (h : (xck w b ci).bind (fun _ => o.bind g) = some ro) (K : xC ci y.cls T N ty) (hM : ∀ z, o = some z → xM X.1 y bytes maxL ret' R' X.2.1 X.2.2.1 (.ref b :: As) w sz (some (.long z), w, sz)) (hf : xfit R' maxL R cl sl = true) (hz : R'.cells = 0 ∧ R'.slots = 0) (hnA : As.length = n) (hst : st0 = As.reverse ++ .ref b :: rest) (hW : Nat.ble (rest.map fun v => v.category).sum 8 = true) (k : ∀ z, g z = some ro → xU cc nL own nm ret R X lv (.long z :: rest) w sz cl sl pc' r) : xU cc nL own nm ret R X lv (st0) w sz cl sl pc r := by
  obtain ⟨u, hu, h⟩ := xb h
  obtain ⟨z, e1, h⟩ := xb h
  have kz := k z h
  exact uxc_VN (As := As) hd hw hy K hu (hM z e1) hf hnA hst hW (by rw [hz.1, hz.2]; exact kz)
theorem uxo_S_LH {rest st0 : List Value} (As : List Value) {y : MethodName} {bytes : ByteArray} {maxL n index : Nat} {ret' : Option FieldType} {R' : Room} {o : Option (Int64 × xw)} {g : Int64 × xw → Option ρ} (hd : xD cc pc (.invokestatic index) 3 pc') (hw : Cond.methodLink own index y ∈ xT) (hy : xYS y bytes maxL ret' n) (h : o.bind g = some ro) (hM : ∀ z, o = some z → xM X.1 y bytes maxL ret' R' X.2.1 X.2.2.1 As w sz (some (.long z.1), z.2, sz)) (hf : xfit R' maxL R cl sl = true) (hz : R'.cells = 0 ∧ R'.slots = 0) (hnA : As.length = n) (hst : st0 = As.reverse ++ rest) (hW : Nat.ble (rest.map fun v => v.category).sum 8 = true) (k : ∀ z, g z = some ro → xU cc nL own nm ret R X lv (.long z.1 :: rest) z.2 sz cl sl pc' r) : xU cc nL own nm ret R X lv (st0) w sz cl sl pc r := by
  skip
  obtain ⟨z, e1, h⟩ := xb h
  have kz := k z h
  exact uxc_S (As := As) hd hw hy (hM z e1) hf hnA hst hW (by rw [hz.1, hz.2]; exact kz)
theorem uxo_SN_LH {host : String} {rest st0 : List Value} (As : List Value) {y : MethodName} {bytes : ByteArray} {maxL n index : Nat} {ret' : Option FieldType} {R' : Room} {o : Option (Int64 × xw)} {g : Int64 × xw → Option ρ} (hd : xD cc pc (.invokestatic index) 3 pc') (hw : (own, index, y, host) ∈ xNw) (hy : xYS y bytes maxL ret' n) (h : o.bind g = some ro) (hM : ∀ z, o = some z → xM X.1 y bytes maxL ret' R' X.2.1 X.2.2.1 As w sz (some (.long z.1), z.2, sz)) (hf : xfit R' maxL R cl sl = true) (hz : R'.cells = 0 ∧ R'.slots = 0) (hnA : As.length = n) (hst : st0 = As.reverse ++ rest) (hW : Nat.ble (rest.map fun v => v.category).sum 8 = true) (k : ∀ z, g z = some ro → xU cc nL own nm ret R X lv (.long z.1 :: rest) z.2 sz cl sl pc' r) : xU cc nL own nm ret R X lv (st0) w sz cl sl pc r := by
  skip
  obtain ⟨z, e1, h⟩ := xb h
  have kz := k z h
  exact uxc_SN (As := As) hd hw hy (hM z e1) hf hnA hst hW (by rw [hz.1, hz.2]; exact kz)
theorem uxo_V_LH {rest st0 : List Value} (As : List Value) {y : MethodName} {bytes : ByteArray} {maxL n index : Nat} {b ci N : Nat} {T : u_T} {ty : Nat → FieldType} {ret' : Option FieldType} {R' : Room} {o : Option (Int64 × xw)} {g : Int64 × xw → Option ρ} (hd : xD cc pc (.invokevirtual index) 3 pc') (hw : Cond.methodLink own index y ∈ xT) (hy : xYV y bytes maxL ret' n) (h : (xck w b ci).bind (fun _ => o.bind g) = some ro) (K : xC ci y.cls T N ty) (hM : ∀ z, o = some z → xM X.1 y bytes maxL ret' R' X.2.1 X.2.2.1 (.ref b :: As) w sz (some (.long z.1), z.2, sz)) (hf : xfit R' maxL R cl sl = true) (hz : R'.cells = 0 ∧ R'.slots = 0) (hnA : As.length = n) (hst : st0 = As.reverse ++ .ref b :: rest) (hW : Nat.ble (rest.map fun v => v.category).sum 8 = true) (k : ∀ z, g z = some ro → xU cc nL own nm ret R X lv (.long z.1 :: rest) z.2 sz cl sl pc' r) : xU cc nL own nm ret R X lv (st0) w sz cl sl pc r := by
  obtain ⟨u, hu, h⟩ := xb h
  obtain ⟨z, e1, h⟩ := xb h
  have kz := k z h
  exact uxc_V (As := As) hd hw hy K hu (hM z e1) hf hnA hst hW (by rw [hz.1, hz.2]; exact kz)
theorem uxo_VN_LH {host : String} {rest st0 : List Value} (As : List Value) {y : MethodName} {bytes : ByteArray} {maxL n index : Nat} {b ci N : Nat} {T : u_T} {ty : Nat → FieldType} {ret' : Option FieldType} {R' : Room} {o : Option (Int64 × xw)} {g : Int64 × xw → Option ρ} (hd : xD cc pc (.invokevirtual index) 3 pc') (hw : (own, index, y, host) ∈ xNw) (hy : xYV y bytes maxL ret' n) (h : (xck w b ci).bind (fun _ => o.bind g) = some ro) (K : xC ci y.cls T N ty) (hM : ∀ z, o = some z → xM X.1 y bytes maxL ret' R' X.2.1 X.2.2.1 (.ref b :: As) w sz (some (.long z.1), z.2, sz)) (hf : xfit R' maxL R cl sl = true) (hz : R'.cells = 0 ∧ R'.slots = 0) (hnA : As.length = n) (hst : st0 = As.reverse ++ .ref b :: rest) (hW : Nat.ble (rest.map fun v => v.category).sum 8 = true) (k : ∀ z, g z = some ro → xU cc nL own nm ret R X lv (.long z.1 :: rest) z.2 sz cl sl pc' r) : xU cc nL own nm ret R X lv (st0) w sz cl sl pc r := by
  obtain ⟨u, hu, h⟩ := xb h
  obtain ⟨z, e1, h⟩ := xb h
  have kz := k z h
  exact uxc_VN (As := As) hd hw hy K hu (hM z e1) hf hnA hst hW (by rw [hz.1, hz.2]; exact kz)
theorem uxo_S_LA {rest st0 : List Value} (As : List Value) {y : MethodName} {bytes : ByteArray} {maxL n index : Nat} {ret' : Option FieldType} {R' : Room} {o : Option (Int64 × xw × Nat)} {g : Int64 × xw × Nat → Option ρ} (hd : xD cc pc (.invokestatic index) 3 pc') (hw : Cond.methodLink own index y ∈ xT) (hy : xYS y bytes maxL ret' n) (h : o.bind g = some ro) (hM : ∀ z, o = some z → xM X.1 y bytes maxL ret' R' X.2.1 X.2.2.1 As w sz (some (.long z.1), z.2.1, z.2.2)) (hf : xfit R' maxL R cl sl = true) (hnA : As.length = n) (hst : st0 = As.reverse ++ rest) (hW : Nat.ble (rest.map fun v => v.category).sum 8 = true) (k : ∀ z, g z = some ro → xU cc nL own nm ret R X lv (.long z.1 :: rest) z.2.1 z.2.2 (cl + R'.cells) (sl + R'.slots) pc' r) : xU cc nL own nm ret R X lv (st0) w sz cl sl pc r := by
  skip
  obtain ⟨z, e1, h⟩ := xb h
  have kz := k z h
  exact uxc_S (As := As) hd hw hy (hM z e1) hf hnA hst hW kz
theorem uxo_SN_LA {host : String} {rest st0 : List Value} (As : List Value) {y : MethodName} {bytes : ByteArray} {maxL n index : Nat} {ret' : Option FieldType} {R' : Room} {o : Option (Int64 × xw × Nat)} {g : Int64 × xw × Nat → Option ρ} (hd : xD cc pc (.invokestatic index) 3 pc') (hw : (own, index, y, host) ∈ xNw) (hy : xYS y bytes maxL ret' n) (h : o.bind g = some ro) (hM : ∀ z, o = some z → xM X.1 y bytes maxL ret' R' X.2.1 X.2.2.1 As w sz (some (.long z.1), z.2.1, z.2.2)) (hf : xfit R' maxL R cl sl = true) (hnA : As.length = n) (hst : st0 = As.reverse ++ rest) (hW : Nat.ble (rest.map fun v => v.category).sum 8 = true) (k : ∀ z, g z = some ro → xU cc nL own nm ret R X lv (.long z.1 :: rest) z.2.1 z.2.2 (cl + R'.cells) (sl + R'.slots) pc' r) : xU cc nL own nm ret R X lv (st0) w sz cl sl pc r := by
  skip
  obtain ⟨z, e1, h⟩ := xb h
  have kz := k z h
  exact uxc_SN (As := As) hd hw hy (hM z e1) hf hnA hst hW kz
theorem uxo_V_LA {rest st0 : List Value} (As : List Value) {y : MethodName} {bytes : ByteArray} {maxL n index : Nat} {b ci N : Nat} {T : u_T} {ty : Nat → FieldType} {ret' : Option FieldType} {R' : Room} {o : Option (Int64 × xw × Nat)} {g : Int64 × xw × Nat → Option ρ} (hd : xD cc pc (.invokevirtual index) 3 pc') (hw : Cond.methodLink own index y ∈ xT) (hy : xYV y bytes maxL ret' n) (h : (xck w b ci).bind (fun _ => o.bind g) = some ro) (K : xC ci y.cls T N ty) (hM : ∀ z, o = some z → xM X.1 y bytes maxL ret' R' X.2.1 X.2.2.1 (.ref b :: As) w sz (some (.long z.1), z.2.1, z.2.2)) (hf : xfit R' maxL R cl sl = true) (hnA : As.length = n) (hst : st0 = As.reverse ++ .ref b :: rest) (hW : Nat.ble (rest.map fun v => v.category).sum 8 = true) (k : ∀ z, g z = some ro → xU cc nL own nm ret R X lv (.long z.1 :: rest) z.2.1 z.2.2 (cl + R'.cells) (sl + R'.slots) pc' r) : xU cc nL own nm ret R X lv (st0) w sz cl sl pc r := by
  obtain ⟨u, hu, h⟩ := xb h
  obtain ⟨z, e1, h⟩ := xb h
  have kz := k z h
  exact uxc_V (As := As) hd hw hy K hu (hM z e1) hf hnA hst hW kz
theorem uxo_VN_LA {host : String} {rest st0 : List Value} (As : List Value) {y : MethodName} {bytes : ByteArray} {maxL n index : Nat} {b ci N : Nat} {T : u_T} {ty : Nat → FieldType} {ret' : Option FieldType} {R' : Room} {o : Option (Int64 × xw × Nat)} {g : Int64 × xw × Nat → Option ρ} (hd : xD cc pc (.invokevirtual index) 3 pc') (hw : (own, index, y, host) ∈ xNw) (hy : xYV y bytes maxL ret' n) (h : (xck w b ci).bind (fun _ => o.bind g) = some ro) (K : xC ci y.cls T N ty) (hM : ∀ z, o = some z → xM X.1 y bytes maxL ret' R' X.2.1 X.2.2.1 (.ref b :: As) w sz (some (.long z.1), z.2.1, z.2.2)) (hf : xfit R' maxL R cl sl = true) (hnA : As.length = n) (hst : st0 = As.reverse ++ .ref b :: rest) (hW : Nat.ble (rest.map fun v => v.category).sum 8 = true) (k : ∀ z, g z = some ro → xU cc nL own nm ret R X lv (.long z.1 :: rest) z.2.1 z.2.2 (cl + R'.cells) (sl + R'.slots) pc' r) : xU cc nL own nm ret R X lv (st0) w sz cl sl pc r := by
  obtain ⟨u, hu, h⟩ := xb h
  obtain ⟨z, e1, h⟩ := xb h
  have kz := k z h
  exact uxc_VN (As := As) hd hw hy K hu (hM z e1) hf hnA hst hW kz
theorem uxo_S_R0 {rest st0 : List Value} (As : List Value) {y : MethodName} {bytes : ByteArray} {maxL n index : Nat} {ret' : Option FieldType} {R' : Room} {o : Option (Nat)} {g : Nat → Option ρ} (hd : xD cc pc (.invokestatic index) 3 pc') (hw : Cond.methodLink own index y ∈ xT) (hy : xYS y bytes maxL ret' n) (h : o.bind g = some ro) (hM : ∀ z, o = some z → xM X.1 y bytes maxL ret' R' X.2.1 X.2.2.1 As w sz (some (.ref z), w, sz)) (hf : xfit R' maxL R cl sl = true) (hz : R'.cells = 0 ∧ R'.slots = 0) (hnA : As.length = n) (hst : st0 = As.reverse ++ rest) (hW : Nat.ble (rest.map fun v => v.category).sum 8 = true) (k : ∀ z, g z = some ro → xU cc nL own nm ret R X lv (.ref z :: rest) w sz cl sl pc' r) : xU cc nL own nm ret R X lv (st0) w sz cl sl pc r := by
  skip
  obtain ⟨z, e1, h⟩ := xb h
  have kz := k z h
  exact uxc_S (As := As) hd hw hy (hM z e1) hf hnA hst hW (by rw [hz.1, hz.2]; exact kz)
theorem uxo_SN_R0 {host : String} {rest st0 : List Value} (As : List Value) {y : MethodName} {bytes : ByteArray} {maxL n index : Nat} {ret' : Option FieldType} {R' : Room} {o : Option (Nat)} {g : Nat → Option ρ} (hd : xD cc pc (.invokestatic index) 3 pc') (hw : (own, index, y, host) ∈ xNw) (hy : xYS y bytes maxL ret' n) (h : o.bind g = some ro) (hM : ∀ z, o = some z → xM X.1 y bytes maxL ret' R' X.2.1 X.2.2.1 As w sz (some (.ref z), w, sz)) (hf : xfit R' maxL R cl sl = true) (hz : R'.cells = 0 ∧ R'.slots = 0) (hnA : As.length = n) (hst : st0 = As.reverse ++ rest) (hW : Nat.ble (rest.map fun v => v.category).sum 8 = true) (k : ∀ z, g z = some ro → xU cc nL own nm ret R X lv (.ref z :: rest) w sz cl sl pc' r) : xU cc nL own nm ret R X lv (st0) w sz cl sl pc r := by
  skip
  obtain ⟨z, e1, h⟩ := xb h
  have kz := k z h
  exact uxc_SN (As := As) hd hw hy (hM z e1) hf hnA hst hW (by rw [hz.1, hz.2]; exact kz)
theorem uxo_V_R0 {rest st0 : List Value} (As : List Value) {y : MethodName} {bytes : ByteArray} {maxL n index : Nat} {b ci N : Nat} {T : u_T} {ty : Nat → FieldType} {ret' : Option FieldType} {R' : Room} {o : Option (Nat)} {g : Nat → Option ρ} (hd : xD cc pc (.invokevirtual index) 3 pc') (hw : Cond.methodLink own index y ∈ xT) (hy : xYV y bytes maxL ret' n) (h : (xck w b ci).bind (fun _ => o.bind g) = some ro) (K : xC ci y.cls T N ty) (hM : ∀ z, o = some z → xM X.1 y bytes maxL ret' R' X.2.1 X.2.2.1 (.ref b :: As) w sz (some (.ref z), w, sz)) (hf : xfit R' maxL R cl sl = true) (hz : R'.cells = 0 ∧ R'.slots = 0) (hnA : As.length = n) (hst : st0 = As.reverse ++ .ref b :: rest) (hW : Nat.ble (rest.map fun v => v.category).sum 8 = true) (k : ∀ z, g z = some ro → xU cc nL own nm ret R X lv (.ref z :: rest) w sz cl sl pc' r) : xU cc nL own nm ret R X lv (st0) w sz cl sl pc r := by
  obtain ⟨u, hu, h⟩ := xb h
  obtain ⟨z, e1, h⟩ := xb h
  have kz := k z h
  exact uxc_V (As := As) hd hw hy K hu (hM z e1) hf hnA hst hW (by rw [hz.1, hz.2]; exact kz)
theorem uxo_VN_R0 {host : String} {rest st0 : List Value} (As : List Value) {y : MethodName} {bytes : ByteArray} {maxL n index : Nat} {b ci N : Nat} {T : u_T} {ty : Nat → FieldType} {ret' : Option FieldType} {R' : Room} {o : Option (Nat)} {g : Nat → Option ρ} (hd : xD cc pc (.invokevirtual index) 3 pc') (hw : (own, index, y, host) ∈ xNw) (hy : xYV y bytes maxL ret' n) (h : (xck w b ci).bind (fun _ => o.bind g) = some ro) (K : xC ci y.cls T N ty) (hM : ∀ z, o = some z → xM X.1 y bytes maxL ret' R' X.2.1 X.2.2.1 (.ref b :: As) w sz (some (.ref z), w, sz)) (hf : xfit R' maxL R cl sl = true) (hz : R'.cells = 0 ∧ R'.slots = 0) (hnA : As.length = n) (hst : st0 = As.reverse ++ .ref b :: rest) (hW : Nat.ble (rest.map fun v => v.category).sum 8 = true) (k : ∀ z, g z = some ro → xU cc nL own nm ret R X lv (.ref z :: rest) w sz cl sl pc' r) : xU cc nL own nm ret R X lv (st0) w sz cl sl pc r := by
  obtain ⟨u, hu, h⟩ := xb h
  obtain ⟨z, e1, h⟩ := xb h
  have kz := k z h
  exact uxc_VN (As := As) hd hw hy K hu (hM z e1) hf hnA hst hW (by rw [hz.1, hz.2]; exact kz)
theorem uxo_S_RH {rest st0 : List Value} (As : List Value) {y : MethodName} {bytes : ByteArray} {maxL n index : Nat} {ret' : Option FieldType} {R' : Room} {o : Option (Nat × xw)} {g : Nat × xw → Option ρ} (hd : xD cc pc (.invokestatic index) 3 pc') (hw : Cond.methodLink own index y ∈ xT) (hy : xYS y bytes maxL ret' n) (h : o.bind g = some ro) (hM : ∀ z, o = some z → xM X.1 y bytes maxL ret' R' X.2.1 X.2.2.1 As w sz (some (.ref z.1), z.2, sz)) (hf : xfit R' maxL R cl sl = true) (hz : R'.cells = 0 ∧ R'.slots = 0) (hnA : As.length = n) (hst : st0 = As.reverse ++ rest) (hW : Nat.ble (rest.map fun v => v.category).sum 8 = true) (k : ∀ z, g z = some ro → xU cc nL own nm ret R X lv (.ref z.1 :: rest) z.2 sz cl sl pc' r) : xU cc nL own nm ret R X lv (st0) w sz cl sl pc r := by
  skip
  obtain ⟨z, e1, h⟩ := xb h
  have kz := k z h
  exact uxc_S (As := As) hd hw hy (hM z e1) hf hnA hst hW (by rw [hz.1, hz.2]; exact kz)
theorem uxo_SN_RH {host : String} {rest st0 : List Value} (As : List Value) {y : MethodName} {bytes : ByteArray} {maxL n index : Nat} {ret' : Option FieldType} {R' : Room} {o : Option (Nat × xw)} {g : Nat × xw → Option ρ} (hd : xD cc pc (.invokestatic index) 3 pc') (hw : (own, index, y, host) ∈ xNw) (hy : xYS y bytes maxL ret' n) (h : o.bind g = some ro) (hM : ∀ z, o = some z → xM X.1 y bytes maxL ret' R' X.2.1 X.2.2.1 As w sz (some (.ref z.1), z.2, sz)) (hf : xfit R' maxL R cl sl = true) (hz : R'.cells = 0 ∧ R'.slots = 0) (hnA : As.length = n) (hst : st0 = As.reverse ++ rest) (hW : Nat.ble (rest.map fun v => v.category).sum 8 = true) (k : ∀ z, g z = some ro → xU cc nL own nm ret R X lv (.ref z.1 :: rest) z.2 sz cl sl pc' r) : xU cc nL own nm ret R X lv (st0) w sz cl sl pc r := by
  skip
  obtain ⟨z, e1, h⟩ := xb h
  have kz := k z h
  exact uxc_SN (As := As) hd hw hy (hM z e1) hf hnA hst hW (by rw [hz.1, hz.2]; exact kz)
theorem uxo_V_RH {rest st0 : List Value} (As : List Value) {y : MethodName} {bytes : ByteArray} {maxL n index : Nat} {b ci N : Nat} {T : u_T} {ty : Nat → FieldType} {ret' : Option FieldType} {R' : Room} {o : Option (Nat × xw)} {g : Nat × xw → Option ρ} (hd : xD cc pc (.invokevirtual index) 3 pc') (hw : Cond.methodLink own index y ∈ xT) (hy : xYV y bytes maxL ret' n) (h : (xck w b ci).bind (fun _ => o.bind g) = some ro) (K : xC ci y.cls T N ty) (hM : ∀ z, o = some z → xM X.1 y bytes maxL ret' R' X.2.1 X.2.2.1 (.ref b :: As) w sz (some (.ref z.1), z.2, sz)) (hf : xfit R' maxL R cl sl = true) (hz : R'.cells = 0 ∧ R'.slots = 0) (hnA : As.length = n) (hst : st0 = As.reverse ++ .ref b :: rest) (hW : Nat.ble (rest.map fun v => v.category).sum 8 = true) (k : ∀ z, g z = some ro → xU cc nL own nm ret R X lv (.ref z.1 :: rest) z.2 sz cl sl pc' r) : xU cc nL own nm ret R X lv (st0) w sz cl sl pc r := by
  obtain ⟨u, hu, h⟩ := xb h
  obtain ⟨z, e1, h⟩ := xb h
  have kz := k z h
  exact uxc_V (As := As) hd hw hy K hu (hM z e1) hf hnA hst hW (by rw [hz.1, hz.2]; exact kz)
theorem uxo_VN_RH {host : String} {rest st0 : List Value} (As : List Value) {y : MethodName} {bytes : ByteArray} {maxL n index : Nat} {b ci N : Nat} {T : u_T} {ty : Nat → FieldType} {ret' : Option FieldType} {R' : Room} {o : Option (Nat × xw)} {g : Nat × xw → Option ρ} (hd : xD cc pc (.invokevirtual index) 3 pc') (hw : (own, index, y, host) ∈ xNw) (hy : xYV y bytes maxL ret' n) (h : (xck w b ci).bind (fun _ => o.bind g) = some ro) (K : xC ci y.cls T N ty) (hM : ∀ z, o = some z → xM X.1 y bytes maxL ret' R' X.2.1 X.2.2.1 (.ref b :: As) w sz (some (.ref z.1), z.2, sz)) (hf : xfit R' maxL R cl sl = true) (hz : R'.cells = 0 ∧ R'.slots = 0) (hnA : As.length = n) (hst : st0 = As.reverse ++ .ref b :: rest) (hW : Nat.ble (rest.map fun v => v.category).sum 8 = true) (k : ∀ z, g z = some ro → xU cc nL own nm ret R X lv (.ref z.1 :: rest) z.2 sz cl sl pc' r) : xU cc nL own nm ret R X lv (st0) w sz cl sl pc r := by
  obtain ⟨u, hu, h⟩ := xb h
  obtain ⟨z, e1, h⟩ := xb h
  have kz := k z h
  exact uxc_VN (As := As) hd hw hy K hu (hM z e1) hf hnA hst hW (by rw [hz.1, hz.2]; exact kz)
theorem uxo_S_RA {rest st0 : List Value} (As : List Value) {y : MethodName} {bytes : ByteArray} {maxL n index : Nat} {ret' : Option FieldType} {R' : Room} {o : Option (Nat × xw × Nat)} {g : Nat × xw × Nat → Option ρ} (hd : xD cc pc (.invokestatic index) 3 pc') (hw : Cond.methodLink own index y ∈ xT) (hy : xYS y bytes maxL ret' n) (h : o.bind g = some ro) (hM : ∀ z, o = some z → xM X.1 y bytes maxL ret' R' X.2.1 X.2.2.1 As w sz (some (.ref z.1), z.2.1, z.2.2)) (hf : xfit R' maxL R cl sl = true) (hnA : As.length = n) (hst : st0 = As.reverse ++ rest) (hW : Nat.ble (rest.map fun v => v.category).sum 8 = true) (k : ∀ z, g z = some ro → xU cc nL own nm ret R X lv (.ref z.1 :: rest) z.2.1 z.2.2 (cl + R'.cells) (sl + R'.slots) pc' r) : xU cc nL own nm ret R X lv (st0) w sz cl sl pc r := by
  skip
  obtain ⟨z, e1, h⟩ := xb h
  have kz := k z h
  exact uxc_S (As := As) hd hw hy (hM z e1) hf hnA hst hW kz
theorem uxo_SN_RA {host : String} {rest st0 : List Value} (As : List Value) {y : MethodName} {bytes : ByteArray} {maxL n index : Nat} {ret' : Option FieldType} {R' : Room} {o : Option (Nat × xw × Nat)} {g : Nat × xw × Nat → Option ρ} (hd : xD cc pc (.invokestatic index) 3 pc') (hw : (own, index, y, host) ∈ xNw) (hy : xYS y bytes maxL ret' n) (h : o.bind g = some ro) (hM : ∀ z, o = some z → xM X.1 y bytes maxL ret' R' X.2.1 X.2.2.1 As w sz (some (.ref z.1), z.2.1, z.2.2)) (hf : xfit R' maxL R cl sl = true) (hnA : As.length = n) (hst : st0 = As.reverse ++ rest) (hW : Nat.ble (rest.map fun v => v.category).sum 8 = true) (k : ∀ z, g z = some ro → xU cc nL own nm ret R X lv (.ref z.1 :: rest) z.2.1 z.2.2 (cl + R'.cells) (sl + R'.slots) pc' r) : xU cc nL own nm ret R X lv (st0) w sz cl sl pc r := by
  skip
  obtain ⟨z, e1, h⟩ := xb h
  have kz := k z h
  exact uxc_SN (As := As) hd hw hy (hM z e1) hf hnA hst hW kz
theorem uxo_V_RA {rest st0 : List Value} (As : List Value) {y : MethodName} {bytes : ByteArray} {maxL n index : Nat} {b ci N : Nat} {T : u_T} {ty : Nat → FieldType} {ret' : Option FieldType} {R' : Room} {o : Option (Nat × xw × Nat)} {g : Nat × xw × Nat → Option ρ} (hd : xD cc pc (.invokevirtual index) 3 pc') (hw : Cond.methodLink own index y ∈ xT) (hy : xYV y bytes maxL ret' n) (h : (xck w b ci).bind (fun _ => o.bind g) = some ro) (K : xC ci y.cls T N ty) (hM : ∀ z, o = some z → xM X.1 y bytes maxL ret' R' X.2.1 X.2.2.1 (.ref b :: As) w sz (some (.ref z.1), z.2.1, z.2.2)) (hf : xfit R' maxL R cl sl = true) (hnA : As.length = n) (hst : st0 = As.reverse ++ .ref b :: rest) (hW : Nat.ble (rest.map fun v => v.category).sum 8 = true) (k : ∀ z, g z = some ro → xU cc nL own nm ret R X lv (.ref z.1 :: rest) z.2.1 z.2.2 (cl + R'.cells) (sl + R'.slots) pc' r) : xU cc nL own nm ret R X lv (st0) w sz cl sl pc r := by
  obtain ⟨u, hu, h⟩ := xb h
  obtain ⟨z, e1, h⟩ := xb h
  have kz := k z h
  exact uxc_V (As := As) hd hw hy K hu (hM z e1) hf hnA hst hW kz
theorem uxo_VN_RA {host : String} {rest st0 : List Value} (As : List Value) {y : MethodName} {bytes : ByteArray} {maxL n index : Nat} {b ci N : Nat} {T : u_T} {ty : Nat → FieldType} {ret' : Option FieldType} {R' : Room} {o : Option (Nat × xw × Nat)} {g : Nat × xw × Nat → Option ρ} (hd : xD cc pc (.invokevirtual index) 3 pc') (hw : (own, index, y, host) ∈ xNw) (hy : xYV y bytes maxL ret' n) (h : (xck w b ci).bind (fun _ => o.bind g) = some ro) (K : xC ci y.cls T N ty) (hM : ∀ z, o = some z → xM X.1 y bytes maxL ret' R' X.2.1 X.2.2.1 (.ref b :: As) w sz (some (.ref z.1), z.2.1, z.2.2)) (hf : xfit R' maxL R cl sl = true) (hnA : As.length = n) (hst : st0 = As.reverse ++ .ref b :: rest) (hW : Nat.ble (rest.map fun v => v.category).sum 8 = true) (k : ∀ z, g z = some ro → xU cc nL own nm ret R X lv (.ref z.1 :: rest) z.2.1 z.2.2 (cl + R'.cells) (sl + R'.slots) pc' r) : xU cc nL own nm ret R X lv (st0) w sz cl sl pc r := by
  obtain ⟨u, hu, h⟩ := xb h
  obtain ⟨z, e1, h⟩ := xb h
  have kz := k z h
  exact uxc_VN (As := As) hd hw hy K hu (hM z e1) hf hnA hst hW kz
theorem uxo_S_VH {rest st0 : List Value} (As : List Value) {y : MethodName} {bytes : ByteArray} {maxL n index : Nat} {ret' : Option FieldType} {R' : Room} {o : Option (Unit × xw)} {g : Unit × xw → Option ρ} (hd : xD cc pc (.invokestatic index) 3 pc') (hw : Cond.methodLink own index y ∈ xT) (hy : xYS y bytes maxL ret' n) (h : o.bind g = some ro) (hM : ∀ z, o = some z → xM X.1 y bytes maxL ret' R' X.2.1 X.2.2.1 As w sz (none, z.2, sz)) (hf : xfit R' maxL R cl sl = true) (hz : R'.cells = 0 ∧ R'.slots = 0) (hnA : As.length = n) (hst : st0 = As.reverse ++ rest) (hW : Nat.ble (rest.map fun v => v.category).sum 8 = true) (k : ∀ z, g z = some ro → xU cc nL own nm ret R X lv (rest) z.2 sz cl sl pc' r) : xU cc nL own nm ret R X lv (st0) w sz cl sl pc r := by
  skip
  obtain ⟨z, e1, h⟩ := xb h
  have kz := k z h
  exact uxc_S (As := As) hd hw hy (hM z e1) hf hnA hst hW (by rw [hz.1, hz.2]; exact kz)
theorem uxo_SN_VH {host : String} {rest st0 : List Value} (As : List Value) {y : MethodName} {bytes : ByteArray} {maxL n index : Nat} {ret' : Option FieldType} {R' : Room} {o : Option (Unit × xw)} {g : Unit × xw → Option ρ} (hd : xD cc pc (.invokestatic index) 3 pc') (hw : (own, index, y, host) ∈ xNw) (hy : xYS y bytes maxL ret' n) (h : o.bind g = some ro) (hM : ∀ z, o = some z → xM X.1 y bytes maxL ret' R' X.2.1 X.2.2.1 As w sz (none, z.2, sz)) (hf : xfit R' maxL R cl sl = true) (hz : R'.cells = 0 ∧ R'.slots = 0) (hnA : As.length = n) (hst : st0 = As.reverse ++ rest) (hW : Nat.ble (rest.map fun v => v.category).sum 8 = true) (k : ∀ z, g z = some ro → xU cc nL own nm ret R X lv (rest) z.2 sz cl sl pc' r) : xU cc nL own nm ret R X lv (st0) w sz cl sl pc r := by
  skip
  obtain ⟨z, e1, h⟩ := xb h
  have kz := k z h
  exact uxc_SN (As := As) hd hw hy (hM z e1) hf hnA hst hW (by rw [hz.1, hz.2]; exact kz)
theorem uxo_V_VH {rest st0 : List Value} (As : List Value) {y : MethodName} {bytes : ByteArray} {maxL n index : Nat} {b ci N : Nat} {T : u_T} {ty : Nat → FieldType} {ret' : Option FieldType} {R' : Room} {o : Option (Unit × xw)} {g : Unit × xw → Option ρ} (hd : xD cc pc (.invokevirtual index) 3 pc') (hw : Cond.methodLink own index y ∈ xT) (hy : xYV y bytes maxL ret' n) (h : (xck w b ci).bind (fun _ => o.bind g) = some ro) (K : xC ci y.cls T N ty) (hM : ∀ z, o = some z → xM X.1 y bytes maxL ret' R' X.2.1 X.2.2.1 (.ref b :: As) w sz (none, z.2, sz)) (hf : xfit R' maxL R cl sl = true) (hz : R'.cells = 0 ∧ R'.slots = 0) (hnA : As.length = n) (hst : st0 = As.reverse ++ .ref b :: rest) (hW : Nat.ble (rest.map fun v => v.category).sum 8 = true) (k : ∀ z, g z = some ro → xU cc nL own nm ret R X lv (rest) z.2 sz cl sl pc' r) : xU cc nL own nm ret R X lv (st0) w sz cl sl pc r := by
  obtain ⟨u, hu, h⟩ := xb h
  obtain ⟨z, e1, h⟩ := xb h
  have kz := k z h
  exact uxc_V (As := As) hd hw hy K hu (hM z e1) hf hnA hst hW (by rw [hz.1, hz.2]; exact kz)
theorem uxo_VN_VH {host : String} {rest st0 : List Value} (As : List Value) {y : MethodName} {bytes : ByteArray} {maxL n index : Nat} {b ci N : Nat} {T : u_T} {ty : Nat → FieldType} {ret' : Option FieldType} {R' : Room} {o : Option (Unit × xw)} {g : Unit × xw → Option ρ} (hd : xD cc pc (.invokevirtual index) 3 pc') (hw : (own, index, y, host) ∈ xNw) (hy : xYV y bytes maxL ret' n) (h : (xck w b ci).bind (fun _ => o.bind g) = some ro) (K : xC ci y.cls T N ty) (hM : ∀ z, o = some z → xM X.1 y bytes maxL ret' R' X.2.1 X.2.2.1 (.ref b :: As) w sz (none, z.2, sz)) (hf : xfit R' maxL R cl sl = true) (hz : R'.cells = 0 ∧ R'.slots = 0) (hnA : As.length = n) (hst : st0 = As.reverse ++ .ref b :: rest) (hW : Nat.ble (rest.map fun v => v.category).sum 8 = true) (k : ∀ z, g z = some ro → xU cc nL own nm ret R X lv (rest) z.2 sz cl sl pc' r) : xU cc nL own nm ret R X lv (st0) w sz cl sl pc r := by
  obtain ⟨u, hu, h⟩ := xb h
  obtain ⟨z, e1, h⟩ := xb h
  have kz := k z h
  exact uxc_VN (As := As) hd hw hy K hu (hM z e1) hf hnA hst hW (by rw [hz.1, hz.2]; exact kz)
theorem uxo_I_VH {rest st0 : List Value} (As : List Value) {y : MethodName} {bytes : ByteArray} {maxL n index : Nat} {b : Nat} {R' : Room} {o : Option (Unit × xw)} {g : Unit × xw → Option ρ} (hd : xD cc pc (.invokespecial index) 3 pc') (hw : Cond.methodLink own index y ∈ xT) (hy : xYI y bytes maxL n) (h : o.bind g = some ro) (hM : ∀ z, o = some z → xM X.1 y bytes maxL none R' X.2.1 X.2.2.1 (.ref b :: As) w sz (none, z.2, sz)) (hf : xfit R' maxL R cl sl = true) (hz : R'.cells = 0 ∧ R'.slots = 0) (hnA : As.length = n) (hst : st0 = As.reverse ++ .ref b :: rest) (hW : Nat.ble (rest.map fun v => v.category).sum 8 = true) (k : ∀ z, g z = some ro → xU cc nL own nm ret R X lv (rest) z.2 sz cl sl pc' r) : xU cc nL own nm ret R X lv (st0) w sz cl sl pc r := by
  skip
  obtain ⟨z, e1, h⟩ := xb h
  have kz := k z h
  exact uxc_I (As := As) hd hw hy (hM z e1) hf hnA hst hW (by rw [hz.1, hz.2]; exact kz)
theorem uxo_IN_VH {host : String} {rest st0 : List Value} (As : List Value) {y : MethodName} {bytes : ByteArray} {maxL n index : Nat} {b : Nat} {R' : Room} {o : Option (Unit × xw)} {g : Unit × xw → Option ρ} (hd : xD cc pc (.invokespecial index) 3 pc') (hw : (own, index, y, host) ∈ xNw) (hy : xYI y bytes maxL n) (h : o.bind g = some ro) (hM : ∀ z, o = some z → xM X.1 y bytes maxL none R' X.2.1 X.2.2.1 (.ref b :: As) w sz (none, z.2, sz)) (hf : xfit R' maxL R cl sl = true) (hz : R'.cells = 0 ∧ R'.slots = 0) (hnA : As.length = n) (hst : st0 = As.reverse ++ .ref b :: rest) (hW : Nat.ble (rest.map fun v => v.category).sum 8 = true) (k : ∀ z, g z = some ro → xU cc nL own nm ret R X lv (rest) z.2 sz cl sl pc' r) : xU cc nL own nm ret R X lv (st0) w sz cl sl pc r := by
  skip
  obtain ⟨z, e1, h⟩ := xb h
  have kz := k z h
  exact uxc_IN (As := As) hd hw hy (hM z e1) hf hnA hst hW (by rw [hz.1, hz.2]; exact kz)
theorem uxo_S_VA {rest st0 : List Value} (As : List Value) {y : MethodName} {bytes : ByteArray} {maxL n index : Nat} {ret' : Option FieldType} {R' : Room} {o : Option (Unit × xw × Nat)} {g : Unit × xw × Nat → Option ρ} (hd : xD cc pc (.invokestatic index) 3 pc') (hw : Cond.methodLink own index y ∈ xT) (hy : xYS y bytes maxL ret' n) (h : o.bind g = some ro) (hM : ∀ z, o = some z → xM X.1 y bytes maxL ret' R' X.2.1 X.2.2.1 As w sz (none, z.2.1, z.2.2)) (hf : xfit R' maxL R cl sl = true) (hnA : As.length = n) (hst : st0 = As.reverse ++ rest) (hW : Nat.ble (rest.map fun v => v.category).sum 8 = true) (k : ∀ z, g z = some ro → xU cc nL own nm ret R X lv (rest) z.2.1 z.2.2 (cl + R'.cells) (sl + R'.slots) pc' r) : xU cc nL own nm ret R X lv (st0) w sz cl sl pc r := by
  skip
  obtain ⟨z, e1, h⟩ := xb h
  have kz := k z h
  exact uxc_S (As := As) hd hw hy (hM z e1) hf hnA hst hW kz
theorem uxo_SN_VA {host : String} {rest st0 : List Value} (As : List Value) {y : MethodName} {bytes : ByteArray} {maxL n index : Nat} {ret' : Option FieldType} {R' : Room} {o : Option (Unit × xw × Nat)} {g : Unit × xw × Nat → Option ρ} (hd : xD cc pc (.invokestatic index) 3 pc') (hw : (own, index, y, host) ∈ xNw) (hy : xYS y bytes maxL ret' n) (h : o.bind g = some ro) (hM : ∀ z, o = some z → xM X.1 y bytes maxL ret' R' X.2.1 X.2.2.1 As w sz (none, z.2.1, z.2.2)) (hf : xfit R' maxL R cl sl = true) (hnA : As.length = n) (hst : st0 = As.reverse ++ rest) (hW : Nat.ble (rest.map fun v => v.category).sum 8 = true) (k : ∀ z, g z = some ro → xU cc nL own nm ret R X lv (rest) z.2.1 z.2.2 (cl + R'.cells) (sl + R'.slots) pc' r) : xU cc nL own nm ret R X lv (st0) w sz cl sl pc r := by
  skip
  obtain ⟨z, e1, h⟩ := xb h
  have kz := k z h
  exact uxc_SN (As := As) hd hw hy (hM z e1) hf hnA hst hW kz
theorem uxo_V_VA {rest st0 : List Value} (As : List Value) {y : MethodName} {bytes : ByteArray} {maxL n index : Nat} {b ci N : Nat} {T : u_T} {ty : Nat → FieldType} {ret' : Option FieldType} {R' : Room} {o : Option (Unit × xw × Nat)} {g : Unit × xw × Nat → Option ρ} (hd : xD cc pc (.invokevirtual index) 3 pc') (hw : Cond.methodLink own index y ∈ xT) (hy : xYV y bytes maxL ret' n) (h : (xck w b ci).bind (fun _ => o.bind g) = some ro) (K : xC ci y.cls T N ty) (hM : ∀ z, o = some z → xM X.1 y bytes maxL ret' R' X.2.1 X.2.2.1 (.ref b :: As) w sz (none, z.2.1, z.2.2)) (hf : xfit R' maxL R cl sl = true) (hnA : As.length = n) (hst : st0 = As.reverse ++ .ref b :: rest) (hW : Nat.ble (rest.map fun v => v.category).sum 8 = true) (k : ∀ z, g z = some ro → xU cc nL own nm ret R X lv (rest) z.2.1 z.2.2 (cl + R'.cells) (sl + R'.slots) pc' r) : xU cc nL own nm ret R X lv (st0) w sz cl sl pc r := by
  obtain ⟨u, hu, h⟩ := xb h
  obtain ⟨z, e1, h⟩ := xb h
  have kz := k z h
  exact uxc_V (As := As) hd hw hy K hu (hM z e1) hf hnA hst hW kz
theorem uxo_VN_VA {host : String} {rest st0 : List Value} (As : List Value) {y : MethodName} {bytes : ByteArray} {maxL n index : Nat} {b ci N : Nat} {T : u_T} {ty : Nat → FieldType} {ret' : Option FieldType} {R' : Room} {o : Option (Unit × xw × Nat)} {g : Unit × xw × Nat → Option ρ} (hd : xD cc pc (.invokevirtual index) 3 pc') (hw : (own, index, y, host) ∈ xNw) (hy : xYV y bytes maxL ret' n) (h : (xck w b ci).bind (fun _ => o.bind g) = some ro) (K : xC ci y.cls T N ty) (hM : ∀ z, o = some z → xM X.1 y bytes maxL ret' R' X.2.1 X.2.2.1 (.ref b :: As) w sz (none, z.2.1, z.2.2)) (hf : xfit R' maxL R cl sl = true) (hnA : As.length = n) (hst : st0 = As.reverse ++ .ref b :: rest) (hW : Nat.ble (rest.map fun v => v.category).sum 8 = true) (k : ∀ z, g z = some ro → xU cc nL own nm ret R X lv (rest) z.2.1 z.2.2 (cl + R'.cells) (sl + R'.slots) pc' r) : xU cc nL own nm ret R X lv (st0) w sz cl sl pc r := by
  obtain ⟨u, hu, h⟩ := xb h
  obtain ⟨z, e1, h⟩ := xb h
  have kz := k z h
  exact uxc_VN (As := As) hd hw hy K hu (hM z e1) hf hnA hst hW kz
theorem uxo_I_VA {rest st0 : List Value} (As : List Value) {y : MethodName} {bytes : ByteArray} {maxL n index : Nat} {b : Nat} {R' : Room} {o : Option (Unit × xw × Nat)} {g : Unit × xw × Nat → Option ρ} (hd : xD cc pc (.invokespecial index) 3 pc') (hw : Cond.methodLink own index y ∈ xT) (hy : xYI y bytes maxL n) (h : o.bind g = some ro) (hM : ∀ z, o = some z → xM X.1 y bytes maxL none R' X.2.1 X.2.2.1 (.ref b :: As) w sz (none, z.2.1, z.2.2)) (hf : xfit R' maxL R cl sl = true) (hnA : As.length = n) (hst : st0 = As.reverse ++ .ref b :: rest) (hW : Nat.ble (rest.map fun v => v.category).sum 8 = true) (k : ∀ z, g z = some ro → xU cc nL own nm ret R X lv (rest) z.2.1 z.2.2 (cl + R'.cells) (sl + R'.slots) pc' r) : xU cc nL own nm ret R X lv (st0) w sz cl sl pc r := by
  skip
  obtain ⟨z, e1, h⟩ := xb h
  have kz := k z h
  exact uxc_I (As := As) hd hw hy (hM z e1) hf hnA hst hW kz
theorem uxo_IN_VA {host : String} {rest st0 : List Value} (As : List Value) {y : MethodName} {bytes : ByteArray} {maxL n index : Nat} {b : Nat} {R' : Room} {o : Option (Unit × xw × Nat)} {g : Unit × xw × Nat → Option ρ} (hd : xD cc pc (.invokespecial index) 3 pc') (hw : (own, index, y, host) ∈ xNw) (hy : xYI y bytes maxL n) (h : o.bind g = some ro) (hM : ∀ z, o = some z → xM X.1 y bytes maxL none R' X.2.1 X.2.2.1 (.ref b :: As) w sz (none, z.2.1, z.2.2)) (hf : xfit R' maxL R cl sl = true) (hnA : As.length = n) (hst : st0 = As.reverse ++ .ref b :: rest) (hW : Nat.ble (rest.map fun v => v.category).sum 8 = true) (k : ∀ z, g z = some ro → xU cc nL own nm ret R X lv (rest) z.2.1 z.2.2 (cl + R'.cells) (sl + R'.slots) pc' r) : xU cc nL own nm ret R X lv (st0) w sz cl sl pc r := by
  skip
  obtain ⟨z, e1, h⟩ := xb h
  have kz := k z h
  exact uxc_IN (As := As) hd hw hy (hM z e1) hf hnA hst hW kz
end XOU
