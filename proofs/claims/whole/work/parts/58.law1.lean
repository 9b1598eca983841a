def R_law : String := "ProgramGateLaw"
def lw_P (b : Addr) (xs : List Int32) (args : Array Value) (s : State) : Prop := args = #[.ref b] ∧ s.IntsAt b xs ∧ xs.length ≤ 3072 ∧ (Jvm.Cond.and given_1 narrow_1).before args s = true
def lw_Q (_ : Array Value) (s : State) (o : Outcome) (t : State) : Prop := o = .returned (some (.int 1)) ∧ Framed s o t [] 601024 7293034
def lw_Z (below : List Frame) (a : Array Value) (s : State) : State → Prop := fun t => ∃ o, t.status = .running ∧ Ended t below o ∧ lw_Q a s o t
/-- the law's own end, with 1 on the stack, nothing written that was there before, its room as the claim has it -/
theorem lw_ret {p : Program} {l : Launch} {e : Env} {s : State} {m : MethodId} {below : List Frame} {meth : Method} {c : Code} {b : Nat} (hx : p.tables.exec = Jvm.exec) (hb : c.code = code) (hr : meth.sig.returnType = ret) (hlocks : meth.locks = false) {pc : Nat} {H : Heap} {ls : Array Slot} (hdg : decode code pc = .ok (.ireturn, 1)) : W p l e room_1 s m #[Value.ref b] below meth c H [] 601024 7293034 (lw_Z below #[Value.ref b] s) (F0 m pc ls [.int 1]) := by
  intro T hT X
  obtain ⟨fs, hret, hrun, hended, hW, hframe⟩ := X.leave (v := some (.int 1)) (hlocks := hlocks) (fun h => by rw [hr] at h; cases h)
  have hmeth' : T.vm.method? m = some meth := X.method'
  refine ⟨T.setFrames fs, ?_, .returned (some (.int 1)), hrun, hended, rfl, ⟨_, rfl⟩, hW, hframe⟩
  jvm_step X.here [X.here.top, hx, hb, hdg, hmeth', hr, ret, narrow_b1]
  (try refine ⟨rfl, ?_⟩); (try refine ⟨rfl, ?_⟩)
  first | (intro acts; rw [hret _ acts rfl rfl rfl]) | rw [hret _ _ rfl rfl rfl]
  exact Steps.refl _
/-- what holds at the law's entry: the machine, the code, the tables' words (any of lw_tbl by 'hts w (by decide +kernel)'), the script of L ints xs at the cell b, what the Statement gives of the start (any of its parts by flat_of_before) -/
def lw_At (p : Program) (s : State) (m : MethodId) (meth : Method) (c : Code) (b L : Nat) (xs : Nat → Int32) : Prop :=
  p.tables.exec = Jvm.exec ∧ c.code = code ∧ meth.sig.returnType = ret ∧ c.maxLocals = 7 ∧ s.vm.findClass R_law = some m.cls ∧ (∀ w ∈ lw_tbl, w.before #[Value.ref b] s = true) ∧ va_X b L xs s s.heap ∧ b < s.heap.size ∧ meth.locks = false ∧ (Jvm.Cond.and given_1 narrow_1).before #[Value.ref b] s = true
theorem tw_0 : Cond.initialized "ProgramGateLaw" ∈ xT := xin_1 (i := 0) rfl rfl
theorem tw_496 : Cond.methodLink "ProgramGateLaw" 52 (⟨"ProgramGateLaw", "run", "(LProgramGate;I[J)I"⟩ : MethodName) ∈ xT := xin_3 (i := 16) rfl rfl
theorem tw_497 : Cond.static (⟨"ProgramGateLaw", "run", "(LProgramGate;I[J)I"⟩ : MethodName) ∈ xT := xin_3 (i := 17) rfl rfl
/-! The law's own judgement. -/
/-- the script: where it lies, how long it is, its numbers -/
abbrev xS : Type := Nat × Nat × (Nat → Int32)
def xL (cc : ByteArray) (nL : Nat) (own nm : String) (ret : Option FieldType) (R : Room) (X : xX) (lv : List (Nat × Value)) (st : List Value) (w : xw) (sz cl sl pc : Nat) (r : xS) : Prop :=
  ∀ (p : Program) (e : Env) (s : State) (m : MethodId) (below : List Frame) (meth : Method) (c : Code) (H : Heap) (locs : List Loc) (ls : Array Slot),
    xZ p s m c cc X.2.2.2.1.toArray own X.2.1 X.2.2.1 → c.maxLocals = nL → meth.name = nm → meth.sig.returnType = ret → (meth.locks = false ∧ xTF (xA X.2.2.2.2.1 X.2.2.2.2.2) s s.heap ∧ (va_X r.1 r.2.1 r.2.2 s s.heap ∧ r.1 < s.heap.size ∧ ¬ xA X.2.2.2.2.1 X.2.2.2.2.2 r.1) ∧ X.1.stackTraces = false ∧ ∀ q, xA X.2.2.2.2.1 X.2.2.2.2.2 q → s.heap.size ≤ q) → xJ X.2.1 X.2.2.1 (xA X.2.2.2.2.1 X.2.2.2.2.2) s.heap w sz H locs → lv_has ls nL lv →
    W p X.1 e R s m X.2.2.2.1.toArray below meth c H locs cl sl (lw_Z below X.2.2.2.1.toArray s) (F0 m pc ls st)
section XOV
variable {cc : ByteArray} {nL : Nat} {own nm : String} {ret : Option FieldType} {R : Room} {X : xX} {lv lv' : List (Nat × Value)} {st : List Value} {w : xw} {sz cl sl bc bs pc pc' tgt : Nat} {off : Int} {r : xS} {ρ : Type} {ro : ρ}
theorem vxo_iadd {x y : Int32} (hd : xD cc pc .iadd 1 pc') (k : xL cc nL own nm ret R X lv (.int (x + y) :: st) w sz cl sl pc' r) : xL cc nL own nm ret R X lv (.int y :: .int x :: st) w sz cl sl pc r := by
  obtain ⟨hd, rfl⟩ := hd
  exact fun p e s m below meth c H locs ls Z hm hn hr hk J hl => lv_iadd Z.1 Z.2.1 hd (k p e s m below meth c H locs ls Z hm hn hr hk J hl)
theorem vxo_isub {x y : Int32} (hd : xD cc pc .isub 1 pc') (k : xL cc nL own nm ret R X lv (.int (x - y) :: st) w sz cl sl pc' r) : xL cc nL own nm ret R X lv (.int y :: .int x :: st) w sz cl sl pc r := by
  obtain ⟨hd, rfl⟩ := hd
  exact fun p e s m below meth c H locs ls Z hm hn hr hk J hl => lv_isub Z.1 Z.2.1 hd (k p e s m below meth c H locs ls Z hm hn hr hk J hl)
theorem vxo_imul {x y : Int32} (hd : xD cc pc .imul 1 pc') (k : xL cc nL own nm ret R X lv (.int (x * y) :: st) w sz cl sl pc' r) : xL cc nL own nm ret R X lv (.int y :: .int x :: st) w sz cl sl pc r := by
  obtain ⟨hd, rfl⟩ := hd
  exact fun p e s m below meth c H locs ls Z hm hn hr hk J hl => lv_imul Z.1 Z.2.1 hd (k p e s m below meth c H locs ls Z hm hn hr hk J hl)
theorem vxo_iand {x y : Int32} (hd : xD cc pc .iand 1 pc') (k : xL cc nL own nm ret R X lv (.int (x &&& y) :: st) w sz cl sl pc' r) : xL cc nL own nm ret R X lv (.int y :: .int x :: st) w sz cl sl pc r := by
  obtain ⟨hd, rfl⟩ := hd
  exact fun p e s m below meth c H locs ls Z hm hn hr hk J hl => lv_iand Z.1 Z.2.1 hd (k p e s m below meth c H locs ls Z hm hn hr hk J hl)
theorem vxo_ior {x y : Int32} (hd : xD cc pc .ior 1 pc') (k : xL cc nL own nm ret R X lv (.int (x ||| y) :: st) w sz cl sl pc' r) : xL cc nL own nm ret R X lv (.int y :: .int x :: st) w sz cl sl pc r := by
  obtain ⟨hd, rfl⟩ := hd
  exact fun p e s m below meth c H locs ls Z hm hn hr hk J hl => lv_ior Z.1 Z.2.1 hd (k p e s m below meth c H locs ls Z hm hn hr hk J hl)
theorem vxo_ixor {x y : Int32} (hd : xD cc pc .ixor 1 pc') (k : xL cc nL own nm ret R X lv (.int (x ^^^ y) :: st) w sz cl sl pc' r) : xL cc nL own nm ret R X lv (.int y :: .int x :: st) w sz cl sl pc r := by
  obtain ⟨hd, rfl⟩ := hd
  exact fun p e s m below meth c H locs ls Z hm hn hr hk J hl => lv_ixor Z.1 Z.2.1 hd (k p e s m below meth c H locs ls Z hm hn hr hk J hl)
theorem vxo_ladd {x y : Int64} (hd : xD cc pc .ladd 1 pc') (k : xL cc nL own nm ret R X lv (.long (x + y) :: st) w sz cl sl pc' r) : xL cc nL own nm ret R X lv (.long y :: .long x :: st) w sz cl sl pc r := by
  obtain ⟨hd, rfl⟩ := hd
  exact fun p e s m below meth c H locs ls Z hm hn hr hk J hl => lv_ladd Z.1 Z.2.1 hd (k p e s m below meth c H locs ls Z hm hn hr hk J hl)
theorem vxo_lsub {x y : Int64} (hd : xD cc pc .lsub 1 pc') (k : xL cc nL own nm ret R X lv (.long (x - y) :: st) w sz cl sl pc' r) : xL cc nL own nm ret R X lv (.long y :: .long x :: st) w sz cl sl pc r := by
  obtain ⟨hd, rfl⟩ := hd
  exact fun p e s m below meth c H locs ls Z hm hn hr hk J hl => lv_lsub Z.1 Z.2.1 hd (k p e s m below meth c H locs ls Z hm hn hr hk J hl)
theorem vxo_lmul {x y : Int64} (hd : xD cc pc .lmul 1 pc') (k : xL cc nL own nm ret R X lv (.long (x * y) :: st) w sz cl sl pc' r) : xL cc nL own nm ret R X lv (.long y :: .long x :: st) w sz cl sl pc r := by
  obtain ⟨hd, rfl⟩ := hd
  exact fun p e s m below meth c H locs ls Z hm hn hr hk J hl => lv_lmul Z.1 Z.2.1 hd (k p e s m below meth c H locs ls Z hm hn hr hk J hl)
theorem vxo_land {x y : Int64} (hd : xD cc pc .land 1 pc') (k : xL cc nL own nm ret R X lv (.long (x &&& y) :: st) w sz cl sl pc' r) : xL cc nL own nm ret R X lv (.long y :: .long x :: st) w sz cl sl pc r := by
  obtain ⟨hd, rfl⟩ := hd
  exact fun p e s m below meth c H locs ls Z hm hn hr hk J hl => lv_land Z.1 Z.2.1 hd (k p e s m below meth c H locs ls Z hm hn hr hk J hl)
theorem vxo_lor {x y : Int64} (hd : xD cc pc .lor 1 pc') (k : xL cc nL own nm ret R X lv (.long (x ||| y) :: st) w sz cl sl pc' r) : xL cc nL own nm ret R X lv (.long y :: .long x :: st) w sz cl sl pc r := by
  obtain ⟨hd, rfl⟩ := hd
  exact fun p e s m below meth c H locs ls Z hm hn hr hk J hl => lv_lor Z.1 Z.2.1 hd (k p e s m below meth c H locs ls Z hm hn hr hk J hl)
theorem vxo_lxor {x y : Int64} (hd : xD cc pc .lxor 1 pc') (k : xL cc nL own nm ret R X lv (.long (x ^^^ y) :: st) w sz cl sl pc' r) : xL cc nL own nm ret R X lv (.long y :: .long x :: st) w sz cl sl pc r := by
  obtain ⟨hd, rfl⟩ := hd
  exact fun p e s m below meth c H locs ls Z hm hn hr hk J hl => lv_lxor Z.1 Z.2.1 hd (k p e s m below meth c H locs ls Z hm hn hr hk J hl)
theorem vxo_ishl {x y : Int32} (hd : xD cc pc .ishl 1 pc') (k : xL cc nL own nm ret R X lv (.int (x <<< (y &&& 31)) :: st) w sz cl sl pc' r) : xL cc nL own nm ret R X lv (.int y :: .int x :: st) w sz cl sl pc r := by
  obtain ⟨hd, rfl⟩ := hd
  exact fun p e s m below meth c H locs ls Z hm hn hr hk J hl => lv_ishl Z.1 Z.2.1 hd (k p e s m below meth c H locs ls Z hm hn hr hk J hl)
theorem vxo_ishr {x y : Int32} (hd : xD cc pc .ishr 1 pc') (k : xL cc nL own nm ret R X lv (.int (x >>> (y &&& 31)) :: st) w sz cl sl pc' r) : xL cc nL own nm ret R X lv (.int y :: .int x :: st) w sz cl sl pc r := by
  obtain ⟨hd, rfl⟩ := hd
  exact fun p e s m below meth c H locs ls Z hm hn hr hk J hl => lv_ishr Z.1 Z.2.1 hd (k p e s m below meth c H locs ls Z hm hn hr hk J hl)
theorem vxo_iushr {x y : Int32} (hd : xD cc pc .iushr 1 pc') (k : xL cc nL own nm ret R X lv (.int (x.toUInt32 >>> (y.toUInt32 &&& Int32.toUInt32 31)).toInt32 :: st) w sz cl sl pc' r) : xL cc nL own nm ret R X lv (.int y :: .int x :: st) w sz cl sl pc r := by
  obtain ⟨hd, rfl⟩ := hd
  exact fun p e s m below meth c H locs ls Z hm hn hr hk J hl => lv_iushr Z.1 Z.2.1 hd rfl (k p e s m below meth c H locs ls Z hm hn hr hk J hl)
theorem vxo_lushr {x : Int64} {y : Int32} (hd : xD cc pc .lushr 1 pc') (k : xL cc nL own nm ret R X lv (.long (x.toUInt64 >>> (y.toInt64.toUInt64 &&& Int64.toUInt64 63)).toInt64 :: st) w sz cl sl pc' r) : xL cc nL own nm ret R X lv (.int y :: .long x :: st) w sz cl sl pc r := by
  obtain ⟨hd, rfl⟩ := hd
  exact fun p e s m below meth c H locs ls Z hm hn hr hk J hl => lv_lushr Z.1 Z.2.1 hd rfl (k p e s m below meth c H locs ls Z hm hn hr hk J hl)
theorem vxo_lshl {x : Int64} {y : Int32} (hd : xD cc pc .lshl 1 pc') (k : xL cc nL own nm ret R X lv (.long (x <<< (y.toInt64 &&& 63)) :: st) w sz cl sl pc' r) : xL cc nL own nm ret R X lv (.int y :: .long x :: st) w sz cl sl pc r := by
  obtain ⟨hd, rfl⟩ := hd
  exact fun p e s m below meth c H locs ls Z hm hn hr hk J hl => lv_lshl Z.1 Z.2.1 hd rfl (k p e s m below meth c H locs ls Z hm hn hr hk J hl)
theorem vxo_lshr {x : Int64} {y : Int32} (hd : xD cc pc .lshr 1 pc') (k : xL cc nL own nm ret R X lv (.long (x >>> (y.toInt64 &&& 63)) :: st) w sz cl sl pc' r) : xL cc nL own nm ret R X lv (.int y :: .long x :: st) w sz cl sl pc r := by
  obtain ⟨hd, rfl⟩ := hd
  exact fun p e s m below meth c H locs ls Z hm hn hr hk J hl => lv_lshr Z.1 Z.2.1 hd rfl (k p e s m below meth c H locs ls Z hm hn hr hk J hl)
theorem vxo_i2l {x : Int32} (hd : xD cc pc .i2l 1 pc') (k : xL cc nL own nm ret R X lv (.long x.toInt64 :: st) w sz cl sl pc' r) : xL cc nL own nm ret R X lv (.int x :: st) w sz cl sl pc r := by
  obtain ⟨hd, rfl⟩ := hd
  exact fun p e s m below meth c H locs ls Z hm hn hr hk J hl => lv_i2l Z.1 Z.2.1 hd rfl (k p e s m below meth c H locs ls Z hm hn hr hk J hl)
theorem vxo_l2i {x : Int64} (hd : xD cc pc .l2i 1 pc') (k : xL cc nL own nm ret R X lv (.int x.toInt32 :: st) w sz cl sl pc' r) : xL cc nL own nm ret R X lv (.long x :: st) w sz cl sl pc r := by
  obtain ⟨hd, rfl⟩ := hd
  exact fun p e s m below meth c H locs ls Z hm hn hr hk J hl => lv_l2i Z.1 Z.2.1 hd rfl (k p e s m below meth c H locs ls Z hm hn hr hk J hl)
theorem vxo_ineg {x : Int32} (hd : xD cc pc .ineg 1 pc') (k : xL cc nL own nm ret R X lv (.int (-x) :: st) w sz cl sl pc' r) : xL cc nL own nm ret R X lv (.int x :: st) w sz cl sl pc r := by
  obtain ⟨hd, rfl⟩ := hd
  exact fun p e s m below meth c H locs ls Z hm hn hr hk J hl => lv_ineg Z.1 Z.2.1 hd (k p e s m below meth c H locs ls Z hm hn hr hk J hl)
theorem vxo_lneg {x : Int64} (hd : xD cc pc .lneg 1 pc') (k : xL cc nL own nm ret R X lv (.long (-x) :: st) w sz cl sl pc' r) : xL cc nL own nm ret R X lv (.long x :: st) w sz cl sl pc r := by
  obtain ⟨hd, rfl⟩ := hd
  exact fun p e s m below meth c H locs ls Z hm hn hr hk J hl => lv_lneg Z.1 Z.2.1 hd (k p e s m below meth c H locs ls Z hm hn hr hk J hl)
theorem vxo_idiv {x y : Int32} {dc : Decidable (y = 0)} {B : Option ρ} (hd : xD cc pc .idiv 1 pc') (h : (@ite _ (y = 0) dc none B) = some ro) (k : B = some ro → xL cc nL own nm ret R X lv (.int (x / y) :: st) w sz cl sl pc' r) : xL cc nL own nm ret R X lv (.int y :: .int x :: st) w sz cl sl pc r := by
  obtain ⟨hd, rfl⟩ := hd
  obtain ⟨hne, h⟩ := xif0 h
  exact fun p e s m below meth c H locs ls Z hm hn hr hk J hl => lv_idiv Z.1 Z.2.1 hd hne (k h p e s m below meth c H locs ls Z hm hn hr hk J hl)
theorem vxo_irem {x y : Int32} {dc : Decidable (y = 0)} {B : Option ρ} (hd : xD cc pc .irem 1 pc') (h : (@ite _ (y = 0) dc none B) = some ro) (k : B = some ro → xL cc nL own nm ret R X lv (.int (x - x / y * y) :: st) w sz cl sl pc' r) : xL cc nL own nm ret R X lv (.int y :: .int x :: st) w sz cl sl pc r := by
  obtain ⟨hd, rfl⟩ := hd
  obtain ⟨hne, h⟩ := xif0 h
  exact fun p e s m below meth c H locs ls Z hm hn hr hk J hl => lv_irem Z.1 Z.2.1 hd hne (k h p e s m below meth c H locs ls Z hm hn hr hk J hl)
theorem vxo_ldiv {x y : Int64} {dc : Decidable (y = 0)} {B : Option ρ} (hd : xD cc pc .ldiv 1 pc') (h : (@ite _ (y = 0) dc none B) = some ro) (k : B = some ro → xL cc nL own nm ret R X lv (.long (x / y) :: st) w sz cl sl pc' r) : xL cc nL own nm ret R X lv (.long y :: .long x :: st) w sz cl sl pc r := by
  obtain ⟨hd, rfl⟩ := hd
  obtain ⟨hne, h⟩ := xif0 h
  exact fun p e s m below meth c H locs ls Z hm hn hr hk J hl => lv_ldiv Z.1 Z.2.1 hd hne (k h p e s m below meth c H locs ls Z hm hn hr hk J hl)
theorem vxo_lrem {x y : Int64} {dc : Decidable (y = 0)} {B : Option ρ} (hd : xD cc pc .lrem 1 pc') (h : (@ite _ (y = 0) dc none B) = some ro) (k : B = some ro → xL cc nL own nm ret R X lv (.long (x - x / y * y) :: st) w sz cl sl pc' r) : xL cc nL own nm ret R X lv (.long y :: .long x :: st) w sz cl sl pc r := by
  obtain ⟨hd, rfl⟩ := hd
  obtain ⟨hne, h⟩ := xif0 h
  exact fun p e s m below meth c H locs ls Z hm hn hr hk J hl => lv_lrem Z.1 Z.2.1 hd hne (k h p e s m below meth c H locs ls Z hm hn hr hk J hl)
theorem vxo_dup {va : Value} (hd : xD cc pc .dup 1 pc') (hva : va.category = 1) (k : xL cc nL own nm ret R X lv (va :: va :: st) w sz cl sl pc' r) : xL cc nL own nm ret R X lv (va :: st) w sz cl sl pc r := by
  obtain ⟨hd, rfl⟩ := hd
  exact fun p e s m below meth c H locs ls Z hm hn hr hk J hl => lv_dup Z.1 Z.2.1 hd hva (k p e s m below meth c H locs ls Z hm hn hr hk J hl)
theorem vxo_pop {va : Value} (hd : xD cc pc .pop 1 pc') (hva : va.category = 1) (k : xL cc nL own nm ret R X lv (st) w sz cl sl pc' r) : xL cc nL own nm ret R X lv (va :: st) w sz cl sl pc r := by
  obtain ⟨hd, rfl⟩ := hd
  exact fun p e s m below meth c H locs ls Z hm hn hr hk J hl => lv_pop Z.1 Z.2.1 hd hva (k p e s m below meth c H locs ls Z hm hn hr hk J hl)
theorem vxo_iconst {n : Int} {v : Int32} (hd : xD cc pc (.iconst n) 1 pc') (hv : Int32.ofInt n = v) (k : xL cc nL own nm ret R X lv (.int v :: st) w sz cl sl pc' r) : xL cc nL own nm ret R X lv (st) w sz cl sl pc r := by
  obtain ⟨hd, rfl⟩ := hd
  exact fun p e s m below meth c H locs ls Z hm hn hr hk J hl => lv_iconst Z.1 Z.2.1 hd hv (k p e s m below meth c H locs ls Z hm hn hr hk J hl)
theorem vxo_bipush {n : Int} {v : Int32} (hd : xD cc pc (.bipush n) 2 pc') (hv : (Int8.ofInt n).toInt32 = v) (k : xL cc nL own nm ret R X lv (.int v :: st) w sz cl sl pc' r) : xL cc nL own nm ret R X lv (st) w sz cl sl pc r := by
  obtain ⟨hd, rfl⟩ := hd
  exact fun p e s m below meth c H locs ls Z hm hn hr hk J hl => lv_bipush Z.1 Z.2.1 hd hv (k p e s m below meth c H locs ls Z hm hn hr hk J hl)
theorem vxo_sipush {n : Int} {v : Int32} (hd : xD cc pc (.sipush n) 3 pc') (hv : (Int16.ofInt n).toInt32 = v) (k : xL cc nL own nm ret R X lv (.int v :: st) w sz cl sl pc' r) : xL cc nL own nm ret R X lv (st) w sz cl sl pc r := by
  obtain ⟨hd, rfl⟩ := hd
  exact fun p e s m below meth c H locs ls Z hm hn hr hk J hl => lv_sipush Z.1 Z.2.1 hd hv (k p e s m below meth c H locs ls Z hm hn hr hk J hl)
theorem vxo_lconst {n : Fin 2} {v : Int64} (hd : xD cc pc (.lconst n) 1 pc') (hv : Int64.ofNat (n : Nat) = v) (k : xL cc nL own nm ret R X lv (.long v :: st) w sz cl sl pc' r) : xL cc nL own nm ret R X lv (st) w sz cl sl pc r := by
  obtain ⟨hd, rfl⟩ := hd
  exact fun p e s m below meth c H locs ls Z hm hn hr hk J hl => lv_lconst Z.1 Z.2.1 hd hv (k p e s m below meth c H locs ls Z hm hn hr hk J hl)
theorem vxo_ldc2 {index : Nat} {v : Int64} (hd : xD cc pc (.ldc2_w index) 3 pc') (hw : Cond.constantLong own index v ∈ xT) (k : xL cc nL own nm ret R X lv (.long v :: st) w sz cl sl pc' r) : xL cc nL own nm ret R X lv (st) w sz cl sl pc r := by
  obtain ⟨hd, rfl⟩ := hd
  exact fun p e s m below meth c H locs ls Z hm hn hr hk J hl => lv_ldc2 Z.1 Z.2.1 Z.2.2.1 (Z.2.2.2.1 _ hw) hd (k p e s m below meth c H locs ls Z hm hn hr hk J hl)
theorem vxo_ldc {index : Nat} {v : Int32} (hd : xD cc pc (.ldc index) 2 pc') (hw : Cond.constant own index v ∈ xT) (k : xL cc nL own nm ret R X lv (.int v :: st) w sz cl sl pc' r) : xL cc nL own nm ret R X lv (st) w sz cl sl pc r := by
  obtain ⟨hd, rfl⟩ := hd
  exact fun p e s m below meth c H locs ls Z hm hn hr hk J hl => lv_ldc Z.1 Z.2.1 Z.2.2.1 (Z.2.2.2.1 _ hw) hd (k p e s m below meth c H locs ls Z hm hn hr hk J hl)
theorem vxo_ldcw {index : Nat} {v : Int32} (hd : xD cc pc (.ldc_w index) 3 pc') (hw : Cond.constant own index v ∈ xT) (k : xL cc nL own nm ret R X lv (.int v :: st) w sz cl sl pc' r) : xL cc nL own nm ret R X lv (st) w sz cl sl pc r := by
  obtain ⟨hd, rfl⟩ := hd
  exact fun p e s m below meth c H locs ls Z hm hn hr hk J hl => lv_ldcw Z.1 Z.2.1 Z.2.2.1 (Z.2.2.2.1 _ hw) hd (k p e s m below meth c H locs ls Z hm hn hr hk J hl)
theorem vxo_iload_n (q : Nat) {i : Fin 4} {j : Nat} {x : Int32} (hd : xD cc pc (.iload_n i) 1 pc') (hj : (i : Nat) = j) (hq : lv[q]? = some (j, .int x)) (k : xL cc nL own nm ret R X lv (.int x :: st) w sz cl sl pc' r) : xL cc nL own nm ret R X lv (st) w sz cl sl pc r := by
  obtain ⟨hd, rfl⟩ := hd
  exact fun p e s m below meth c H locs ls Z hm hn hr hk J hl => lv_iload_n Z.1 Z.2.1 hd hj (lv_at hl q hq) (k p e s m below meth c H locs ls Z hm hn hr hk J hl)
theorem vxo_iload (q : Nat) {j : Nat} {x : Int32} (hd : xD cc pc (.iload j) 2 pc') (hq : lv[q]? = some (j, .int x)) (k : xL cc nL own nm ret R X lv (.int x :: st) w sz cl sl pc' r) : xL cc nL own nm ret R X lv (st) w sz cl sl pc r := by
  obtain ⟨hd, rfl⟩ := hd
  exact fun p e s m below meth c H locs ls Z hm hn hr hk J hl => lv_iload Z.1 Z.2.1 hd (lv_at hl q hq) (k p e s m below meth c H locs ls Z hm hn hr hk J hl)
theorem vxo_istore_n {i : Fin 4} {j : Nat} {x : Int32} (lv' : List (Nat × Value)) (hd : xD cc pc (.istore_n i) 1 pc') (hj : (i : Nat) = j) (hlt : Nat.ble (j + 1) nL = true) (hlv : (j, Value.int x) :: lv.filter (fun q => !(q.1 == j) && !(q.1 + 1 == j && q.2.category == 2)) = lv') (k : xL cc nL own nm ret R X lv' (st) w sz cl sl pc' r) : xL cc nL own nm ret R X lv (.int x :: st) w sz cl sl pc r := by
  obtain ⟨hd, rfl⟩ := hd
  exact fun p e s m below meth c H locs ls Z hm hn hr hk J hl => lv_istore_n Z.1 Z.2.1 hd hj hl (Nat.le_of_ble_eq_true hlt) hlv (fun ls hl => k p e s m below meth c H locs ls Z hm hn hr hk J hl)
theorem vxo_istore {j : Nat} {x : Int32} (lv' : List (Nat × Value)) (hd : xD cc pc (.istore j) 2 pc') (hlt : Nat.ble (j + 1) nL = true) (hlv : (j, Value.int x) :: lv.filter (fun q => !(q.1 == j) && !(q.1 + 1 == j && q.2.category == 2)) = lv') (k : xL cc nL own nm ret R X lv' (st) w sz cl sl pc' r) : xL cc nL own nm ret R X lv (.int x :: st) w sz cl sl pc r := by
  obtain ⟨hd, rfl⟩ := hd
  exact fun p e s m below meth c H locs ls Z hm hn hr hk J hl => lv_istore Z.1 Z.2.1 hd hl (Nat.le_of_ble_eq_true hlt) hlv (fun ls hl => k p e s m below meth c H locs ls Z hm hn hr hk J hl)
theorem vxo_lload_n (q : Nat) {i : Fin 4} {j : Nat} {x : Int64} (hd : xD cc pc (.lload_n i) 1 pc') (hj : (i : Nat) = j) (hq : lv[q]? = some (j, .long x)) (k : xL cc nL own nm ret R X lv (.long x :: st) w sz cl sl pc' r) : xL cc nL own nm ret R X lv (st) w sz cl sl pc r := by
  obtain ⟨hd, rfl⟩ := hd
  exact fun p e s m below meth c H locs ls Z hm hn hr hk J hl => lv_lload_n Z.1 Z.2.1 hd hj (lv_at hl q hq) (k p e s m below meth c H locs ls Z hm hn hr hk J hl)
theorem vxo_lload (q : Nat) {j : Nat} {x : Int64} (hd : xD cc pc (.lload j) 2 pc') (hq : lv[q]? = some (j, .long x)) (k : xL cc nL own nm ret R X lv (.long x :: st) w sz cl sl pc' r) : xL cc nL own nm ret R X lv (st) w sz cl sl pc r := by
  obtain ⟨hd, rfl⟩ := hd
  exact fun p e s m below meth c H locs ls Z hm hn hr hk J hl => lv_lload Z.1 Z.2.1 hd (lv_at hl q hq) (k p e s m below meth c H locs ls Z hm hn hr hk J hl)
theorem vxo_lstore_n {i : Fin 4} {j : Nat} {x : Int64} (lv' : List (Nat × Value)) (hd : xD cc pc (.lstore_n i) 1 pc') (hj : (i : Nat) = j) (hlt : Nat.ble (j + 2) nL = true) (hlv : (j, Value.long x) :: lv.filter (fun q => !(q.1 == j) && (!(q.1 == j + 1) && !(q.1 + 1 == j && q.2.category == 2))) = lv') (k : xL cc nL own nm ret R X lv' (st) w sz cl sl pc' r) : xL cc nL own nm ret R X lv (.long x :: st) w sz cl sl pc r := by
  obtain ⟨hd, rfl⟩ := hd
  exact fun p e s m below meth c H locs ls Z hm hn hr hk J hl => lv_lstore_n Z.1 Z.2.1 hd hj hl (Nat.le_of_ble_eq_true hlt) hlv (fun ls hl => k p e s m below meth c H locs ls Z hm hn hr hk J hl)
theorem vxo_lstore {j : Nat} {x : Int64} (lv' : List (Nat × Value)) (hd : xD cc pc (.lstore j) 2 pc') (hlt : Nat.ble (j + 2) nL = true) (hlv : (j, Value.long x) :: lv.filter (fun q => !(q.1 == j) && (!(q.1 == j + 1) && !(q.1 + 1 == j && q.2.category == 2))) = lv') (k : xL cc nL own nm ret R X lv' (st) w sz cl sl pc' r) : xL cc nL own nm ret R X lv (.long x :: st) w sz cl sl pc r := by
  obtain ⟨hd, rfl⟩ := hd
  exact fun p e s m below meth c H locs ls Z hm hn hr hk J hl => lv_lstore Z.1 Z.2.1 hd hl (Nat.le_of_ble_eq_true hlt) hlv (fun ls hl => k p e s m below meth c H locs ls Z hm hn hr hk J hl)
theorem vxo_aload_n (q : Nat) {i : Fin 4} {j : Nat} {x : Nat} (hd : xD cc pc (.aload_n i) 1 pc') (hj : (i : Nat) = j) (hq : lv[q]? = some (j, .ref x)) (k : xL cc nL own nm ret R X lv (.ref x :: st) w sz cl sl pc' r) : xL cc nL own nm ret R X lv (st) w sz cl sl pc r := by
  obtain ⟨hd, rfl⟩ := hd
  exact fun p e s m below meth c H locs ls Z hm hn hr hk J hl => lv_aload_n Z.1 Z.2.1 hd hj (lv_at hl q hq) (k p e s m below meth c H locs ls Z hm hn hr hk J hl)
theorem vxo_aload (q : Nat) {j : Nat} {x : Nat} (hd : xD cc pc (.aload j) 2 pc') (hq : lv[q]? = some (j, .ref x)) (k : xL cc nL own nm ret R X lv (.ref x :: st) w sz cl sl pc' r) : xL cc nL own nm ret R X lv (st) w sz cl sl pc r := by
  obtain ⟨hd, rfl⟩ := hd
  exact fun p e s m below meth c H locs ls Z hm hn hr hk J hl => lv_aload Z.1 Z.2.1 hd (lv_at hl q hq) (k p e s m below meth c H locs ls Z hm hn hr hk J hl)
theorem vxo_astore_n {i : Fin 4} {j : Nat} {x : Nat} (lv' : List (Nat × Value)) (hd : xD cc pc (.astore_n i) 1 pc') (hj : (i : Nat) = j) (hlt : Nat.ble (j + 1) nL = true) (hlv : (j, Value.ref x) :: lv.filter (fun q => !(q.1 == j) && !(q.1 + 1 == j && q.2.category == 2)) = lv') (k : xL cc nL own nm ret R X lv' (st) w sz cl sl pc' r) : xL cc nL own nm ret R X lv (.ref x :: st) w sz cl sl pc r := by
  obtain ⟨hd, rfl⟩ := hd
  exact fun p e s m below meth c H locs ls Z hm hn hr hk J hl => lv_astore_n Z.1 Z.2.1 hd hj hl (Nat.le_of_ble_eq_true hlt) hlv (fun ls hl => k p e s m below meth c H locs ls Z hm hn hr hk J hl)
theorem vxo_astore {j : Nat} {x : Nat} (lv' : List (Nat × Value)) (hd : xD cc pc (.astore j) 2 pc') (hlt : Nat.ble (j + 1) nL = true) (hlv : (j, Value.ref x) :: lv.filter (fun q => !(q.1 == j) && !(q.1 + 1 == j && q.2.category == 2)) = lv') (k : xL cc nL own nm ret R X lv' (st) w sz cl sl pc' r) : xL cc nL own nm ret R X lv (.ref x :: st) w sz cl sl pc r := by
  obtain ⟨hd, rfl⟩ := hd
  exact fun p e s m below meth c H locs ls Z hm hn hr hk J hl => lv_astore Z.1 Z.2.1 hd hl (Nat.le_of_ble_eq_true hlt) hlv (fun ls hl => k p e s m below meth c H locs ls Z hm hn hr hk J hl)
theorem vxo_iinc (q : Nat) {j : Nat} {n : Int} {x : Int32} {dd : Int32} {g : Int32 → Option ρ} (lv' : Int32 → List (Nat × Value)) (hd : xD cc pc (.iinc j n) 3 pc') (hq : lv[q]? = some (j, .int x)) (hlt : Nat.ble (j + 1) nL = true) (hv : Int32.ofInt n = dd) (hlv : ∀ z, (j, Value.int z) :: lv.filter (fun q => !(q.1 == j) && !(q.1 + 1 == j && q.2.category == 2)) = lv' z) (h : (some (x + dd)).bind g = some ro) (k : ∀ z, g z = some ro → xL cc nL own nm ret R X (lv' z) (st) w sz cl sl pc' r) : xL cc nL own nm ret R X lv (st) w sz cl sl pc r := by
  obtain ⟨hd, rfl⟩ := hd
  subst hv
  exact fun p e s m below meth c H locs ls Z hm hn hr hk J hl => lv_iinc Z.1 Z.2.1 hd hl hq rfl (Nat.le_of_ble_eq_true hlt) (hlv _) (fun ls hl => k _ h p e s m below meth c H locs ls Z hm hn hr hk J hl)
theorem vxo_goto (hd : xDJ cc pc (.goto off) off tgt pc') (k : xL cc nL own nm ret R X lv (st) w sz cl sl tgt r) : xL cc nL own nm ret R X lv (st) w sz cl sl pc r :=
  fun p e s m below meth c H locs ls Z hm hn hr hk J hl => lv_goto Z.1 Z.2.1 hd.1 hd.2.2 (k p e s m below meth c H locs ls Z hm hn hr hk J hl)
theorem vxo_sub (ks : List Nat) (lv' : List (Nat × Value)) (hs : lv_pick lv ks = lv') (k : xL cc nL own nm ret R X lv' (st) w sz cl sl pc r) : xL cc nL own nm ret R X lv (st) w sz cl sl pc r :=
  fun p e s m below meth c H locs ls Z hm hn hr hk J hl => k p e s m below meth c H locs ls Z hm hn hr hk J (lv_sub hl ks hs)
theorem vxo_nmI {x : Int32} {g : Int32 → Option ρ} (h : (some x).bind g = some ro) (k : ∀ z, g z = some ro → xL cc nL own nm ret R X lv (.int z :: st) w sz cl sl pc r) : xL cc nL own nm ret R X lv (.int x :: st) w sz cl sl pc r := k x h
theorem vxo_nmL {x : Int64} {g : Int64 → Option ρ} (h : (some x).bind g = some ro) (k : ∀ z, g z = some ro → xL cc nL own nm ret R X lv (.long z :: st) w sz cl sl pc r) : xL cc nL own nm ret R X lv (.long x :: st) w sz cl sl pc r := k x h
theorem vxo_nmR {x : Nat} {g : Nat → Option ρ} (h : (some x).bind g = some ro) (k : ∀ z, g z = some ro → xL cc nL own nm ret R X lv (.ref z :: st) w sz cl sl pc r) : xL cc nL own nm ret R X lv (.ref x :: st) w sz cl sl pc r := k x h
theorem vxo_icmp_eq {x y : Int32} {dc : Decidable (x = y)} {A B : Option ρ} (hd : xDJ cc pc (.if_icmp .eq off) off tgt pc') (h : (@ite _ (x = y) dc A B) = some ro) (kt : A = some ro → xL cc nL own nm ret R X lv (st) w sz cl sl tgt r) (kf : B = some ro → xL cc nL own nm ret R X lv (st) w sz cl sl pc' r) : xL cc nL own nm ret R X lv (.int y :: .int x :: st) w sz cl sl pc r := by
  obtain ⟨hd, rfl, ht⟩ := hd
  exact fun p e s m below meth c H locs ls Z hm hn hr hk J hl => lv_icmp_eq Z.1 Z.2.1 hd ht (fun hc => kt (xip hc h) p e s m below meth c H locs ls Z hm hn hr hk J hl) (fun hc => kf (xin hc h) p e s m below meth c H locs ls Z hm hn hr hk J hl)
theorem vxo_icmp_ne {x y : Int32} {dc : Decidable (¬ x = y)} {A B : Option ρ} (hd : xDJ cc pc (.if_icmp .ne off) off tgt pc') (h : (@ite _ (¬ x = y) dc A B) = some ro) (kt : A = some ro → xL cc nL own nm ret R X lv (st) w sz cl sl tgt r) (kf : B = some ro → xL cc nL own nm ret R X lv (st) w sz cl sl pc' r) : xL cc nL own nm ret R X lv (.int y :: .int x :: st) w sz cl sl pc r := by
  obtain ⟨hd, rfl, ht⟩ := hd
  exact fun p e s m below meth c H locs ls Z hm hn hr hk J hl => lv_icmp_ne Z.1 Z.2.1 hd ht (fun hc => kt (xip hc h) p e s m below meth c H locs ls Z hm hn hr hk J hl) (fun hc => kf (xin (fun q => q hc) h) p e s m below meth c H locs ls Z hm hn hr hk J hl)
theorem vxo_icmp_lt {x y : Int32} {dc : Decidable (x < y)} {A B : Option ρ} (hd : xDJ cc pc (.if_icmp .lt off) off tgt pc') (h : (@ite _ (x < y) dc A B) = some ro) (kt : A = some ro → xL cc nL own nm ret R X lv (st) w sz cl sl tgt r) (kf : B = some ro → xL cc nL own nm ret R X lv (st) w sz cl sl pc' r) : xL cc nL own nm ret R X lv (.int y :: .int x :: st) w sz cl sl pc r := by
  obtain ⟨hd, rfl, ht⟩ := hd
  exact fun p e s m below meth c H locs ls Z hm hn hr hk J hl => lv_icmp_lt Z.1 Z.2.1 hd ht (fun hc => kt (xip hc h) p e s m below meth c H locs ls Z hm hn hr hk J hl) (fun hc => kf (xin hc h) p e s m below meth c H locs ls Z hm hn hr hk J hl)
theorem vxo_icmp_ge {x y : Int32} {dc : Decidable (y ≤ x)} {A B : Option ρ} (hd : xDJ cc pc (.if_icmp .ge off) off tgt pc') (h : (@ite _ (y ≤ x) dc A B) = some ro) (kt : A = some ro → xL cc nL own nm ret R X lv (st) w sz cl sl tgt r) (kf : B = some ro → xL cc nL own nm ret R X lv (st) w sz cl sl pc' r) : xL cc nL own nm ret R X lv (.int y :: .int x :: st) w sz cl sl pc r := by
  obtain ⟨hd, rfl, ht⟩ := hd
  exact fun p e s m below meth c H locs ls Z hm hn hr hk J hl => lv_icmp_ge Z.1 Z.2.1 hd ht (fun hc => kt (xip hc h) p e s m below meth c H locs ls Z hm hn hr hk J hl) (fun hc => kf (xin hc h) p e s m below meth c H locs ls Z hm hn hr hk J hl)
theorem vxo_icmp_gt {x y : Int32} {dc : Decidable (y < x)} {A B : Option ρ} (hd : xDJ cc pc (.if_icmp .gt off) off tgt pc') (h : (@ite _ (y < x) dc A B) = some ro) (kt : A = some ro → xL cc nL own nm ret R X lv (st) w sz cl sl tgt r) (kf : B = some ro → xL cc nL own nm ret R X lv (st) w sz cl sl pc' r) : xL cc nL own nm ret R X lv (.int y :: .int x :: st) w sz cl sl pc r := by
  obtain ⟨hd, rfl, ht⟩ := hd
  exact fun p e s m below meth c H locs ls Z hm hn hr hk J hl => lv_icmp_gt Z.1 Z.2.1 hd ht (fun hc => kt (xip hc h) p e s m below meth c H locs ls Z hm hn hr hk J hl) (fun hc => kf (xin hc h) p e s m below meth c H locs ls Z hm hn hr hk J hl)
theorem vxo_icmp_le {x y : Int32} {dc : Decidable (x ≤ y)} {A B : Option ρ} (hd : xDJ cc pc (.if_icmp .le off) off tgt pc') (h : (@ite _ (x ≤ y) dc A B) = some ro) (kt : A = some ro → xL cc nL own nm ret R X lv (st) w sz cl sl tgt r) (kf : B = some ro → xL cc nL own nm ret R X lv (st) w sz cl sl pc' r) : xL cc nL own nm ret R X lv (.int y :: .int x :: st) w sz cl sl pc r := by
  obtain ⟨hd, rfl, ht⟩ := hd
  exact fun p e s m below meth c H locs ls Z hm hn hr hk J hl => lv_icmp_le Z.1 Z.2.1 hd ht (fun hc => kt (xip hc h) p e s m below meth c H locs ls Z hm hn hr hk J hl) (fun hc => kf (xin hc h) p e s m below meth c H locs ls Z hm hn hr hk J hl)
theorem vxo_if_eq {x : Int32} {dc : Decidable (x = 0)} {A B : Option ρ} (hd : xDJ cc pc (.ifCond .eq off) off tgt pc') (h : (@ite _ (x = 0) dc A B) = some ro) (kt : A = some ro → xL cc nL own nm ret R X lv (st) w sz cl sl tgt r) (kf : B = some ro → xL cc nL own nm ret R X lv (st) w sz cl sl pc' r) : xL cc nL own nm ret R X lv (.int x :: st) w sz cl sl pc r := by
  obtain ⟨hd, rfl, ht⟩ := hd
  exact fun p e s m below meth c H locs ls Z hm hn hr hk J hl => lv_if_eq Z.1 Z.2.1 hd ht (fun hc => kt (xip hc h) p e s m below meth c H locs ls Z hm hn hr hk J hl) (fun hc => kf (xin hc h) p e s m below meth c H locs ls Z hm hn hr hk J hl)
theorem vxo_if_ne {x : Int32} {dc : Decidable (¬ x = 0)} {A B : Option ρ} (hd : xDJ cc pc (.ifCond .ne off) off tgt pc') (h : (@ite _ (¬ x = 0) dc A B) = some ro) (kt : A = some ro → xL cc nL own nm ret R X lv (st) w sz cl sl tgt r) (kf : B = some ro → xL cc nL own nm ret R X lv (st) w sz cl sl pc' r) : xL cc nL own nm ret R X lv (.int x :: st) w sz cl sl pc r := by
  obtain ⟨hd, rfl, ht⟩ := hd
  exact fun p e s m below meth c H locs ls Z hm hn hr hk J hl => lv_if_ne Z.1 Z.2.1 hd ht (fun hc => kt (xip hc h) p e s m below meth c H locs ls Z hm hn hr hk J hl) (fun hc => kf (xin (fun q => q hc) h) p e s m below meth c H locs ls Z hm hn hr hk J hl)
theorem vxo_if_lt {x : Int32} {dc : Decidable (x < 0)} {A B : Option ρ} (hd : xDJ cc pc (.ifCond .lt off) off tgt pc') (h : (@ite _ (x < 0) dc A B) = some ro) (kt : A = some ro → xL cc nL own nm ret R X lv (st) w sz cl sl tgt r) (kf : B = some ro → xL cc nL own nm ret R X lv (st) w sz cl sl pc' r) : xL cc nL own nm ret R X lv (.int x :: st) w sz cl sl pc r := by
  obtain ⟨hd, rfl, ht⟩ := hd
  exact fun p e s m below meth c H locs ls Z hm hn hr hk J hl => lv_if_lt Z.1 Z.2.1 hd ht (fun hc => kt (xip hc h) p e s m below meth c H locs ls Z hm hn hr hk J hl) (fun hc => kf (xin hc h) p e s m below meth c H locs ls Z hm hn hr hk J hl)
theorem vxo_if_ge {x : Int32} {dc : Decidable (0 ≤ x)} {A B : Option ρ} (hd : xDJ cc pc (.ifCond .ge off) off tgt pc') (h : (@ite _ (0 ≤ x) dc A B) = some ro) (kt : A = some ro → xL cc nL own nm ret R X lv (st) w sz cl sl tgt r) (kf : B = some ro → xL cc nL own nm ret R X lv (st) w sz cl sl pc' r) : xL cc nL own nm ret R X lv (.int x :: st) w sz cl sl pc r := by
  obtain ⟨hd, rfl, ht⟩ := hd
  exact fun p e s m below meth c H locs ls Z hm hn hr hk J hl => lv_if_ge Z.1 Z.2.1 hd ht (fun hc => kt (xip hc h) p e s m below meth c H locs ls Z hm hn hr hk J hl) (fun hc => kf (xin hc h) p e s m below meth c H locs ls Z hm hn hr hk J hl)
theorem vxo_if_gt {x : Int32} {dc : Decidable (0 < x)} {A B : Option ρ} (hd : xDJ cc pc (.ifCond .gt off) off tgt pc') (h : (@ite _ (0 < x) dc A B) = some ro) (kt : A = some ro → xL cc nL own nm ret R X lv (st) w sz cl sl tgt r) (kf : B = some ro → xL cc nL own nm ret R X lv (st) w sz cl sl pc' r) : xL cc nL own nm ret R X lv (.int x :: st) w sz cl sl pc r := by
  obtain ⟨hd, rfl, ht⟩ := hd
  exact fun p e s m below meth c H locs ls Z hm hn hr hk J hl => lv_if_gt Z.1 Z.2.1 hd ht (fun hc => kt (xip hc h) p e s m below meth c H locs ls Z hm hn hr hk J hl) (fun hc => kf (xin hc h) p e s m below meth c H locs ls Z hm hn hr hk J hl)
theorem vxo_if_le {x : Int32} {dc : Decidable (x ≤ 0)} {A B : Option ρ} (hd : xDJ cc pc (.ifCond .le off) off tgt pc') (h : (@ite _ (x ≤ 0) dc A B) = some ro) (kt : A = some ro → xL cc nL own nm ret R X lv (st) w sz cl sl tgt r) (kf : B = some ro → xL cc nL own nm ret R X lv (st) w sz cl sl pc' r) : xL cc nL own nm ret R X lv (.int x :: st) w sz cl sl pc r := by
  obtain ⟨hd, rfl, ht⟩ := hd
  exact fun p e s m below meth c H locs ls Z hm hn hr hk J hl => lv_if_le Z.1 Z.2.1 hd ht (fun hc => kt (xip hc h) p e s m below meth c H locs ls Z hm hn hr hk J hl) (fun hc => kf (xin hc h) p e s m below meth c H locs ls Z hm hn hr hk J hl)
theorem vxo_lceq {x y : Int64} {pm : Nat} {dc : Decidable (x = y)} {A B : Option ρ} (h1 : xD cc pc .lcmp 1 pm) (hd : xDJ cc pm (.ifCond .eq off) off tgt pc') (h : (@ite _ (x = y) dc A B) = some ro) (kt : A = some ro → xL cc nL own nm ret R X lv (st) w sz cl sl tgt r) (kf : B = some ro → xL cc nL own nm ret R X lv (st) w sz cl sl pc' r) : xL cc nL own nm ret R X lv (.long y :: .long x :: st) w sz cl sl pc r := by
  obtain ⟨h1, rfl⟩ := h1
  obtain ⟨hd, rfl, ht⟩ := hd
  exact fun p e s m below meth c H locs ls Z hm hn hr hk J hl => W.lcmp Z.1 Z.2.1 h1 (lv_if_eq Z.1 Z.2.1 hd ht (fun hc => kt (xip ((lg_cmp_eq x y).mp hc) h) p e s m below meth c H locs ls Z hm hn hr hk J hl) (fun hc => kf (xin (fun q => hc ((lg_cmp_eq x y).mpr q)) h) p e s m below meth c H locs ls Z hm hn hr hk J hl))
theorem vxo_lcne {x y : Int64} {pm : Nat} {dc : Decidable (¬ x = y)} {A B : Option ρ} (h1 : xD cc pc .lcmp 1 pm) (hd : xDJ cc pm (.ifCond .ne off) off tgt pc') (h : (@ite _ (¬ x = y) dc A B) = some ro) (kt : A = some ro → xL cc nL own nm ret R X lv (st) w sz cl sl tgt r) (kf : B = some ro → xL cc nL own nm ret R X lv (st) w sz cl sl pc' r) : xL cc nL own nm ret R X lv (.long y :: .long x :: st) w sz cl sl pc r := by
  obtain ⟨h1, rfl⟩ := h1
  obtain ⟨hd, rfl, ht⟩ := hd
  exact fun p e s m below meth c H locs ls Z hm hn hr hk J hl => W.lcmp Z.1 Z.2.1 h1 (lv_if_ne Z.1 Z.2.1 hd ht (fun hc => kt (xip ((not_congr (lg_cmp_eq x y)).mp hc) h) p e s m below meth c H locs ls Z hm hn hr hk J hl) (fun hc => kf (xin (fun q => q ((lg_cmp_eq x y).mp hc)) h) p e s m below meth c H locs ls Z hm hn hr hk J hl))
theorem vxo_lclt {x y : Int64} {pm : Nat} {dc : Decidable (x < y)} {A B : Option ρ} (h1 : xD cc pc .lcmp 1 pm) (hd : xDJ cc pm (.ifCond .lt off) off tgt pc') (h : (@ite _ (x < y) dc A B) = some ro) (kt : A = some ro → xL cc nL own nm ret R X lv (st) w sz cl sl tgt r) (kf : B = some ro → xL cc nL own nm ret R X lv (st) w sz cl sl pc' r) : xL cc nL own nm ret R X lv (.long y :: .long x :: st) w sz cl sl pc r := by
  obtain ⟨h1, rfl⟩ := h1
  obtain ⟨hd, rfl, ht⟩ := hd
  exact fun p e s m below meth c H locs ls Z hm hn hr hk J hl => W.lcmp Z.1 Z.2.1 h1 (lv_if_lt Z.1 Z.2.1 hd ht (fun hc => kt (xip ((lg_cmp_lt x y).mp hc) h) p e s m below meth c H locs ls Z hm hn hr hk J hl) (fun hc => kf (xin (fun q => hc ((lg_cmp_lt x y).mpr q)) h) p e s m below meth c H locs ls Z hm hn hr hk J hl))
theorem vxo_lcge {x y : Int64} {pm : Nat} {dc : Decidable (y ≤ x)} {A B : Option ρ} (h1 : xD cc pc .lcmp 1 pm) (hd : xDJ cc pm (.ifCond .ge off) off tgt pc') (h : (@ite _ (y ≤ x) dc A B) = some ro) (kt : A = some ro → xL cc nL own nm ret R X lv (st) w sz cl sl tgt r) (kf : B = some ro → xL cc nL own nm ret R X lv (st) w sz cl sl pc' r) : xL cc nL own nm ret R X lv (.long y :: .long x :: st) w sz cl sl pc r := by
  obtain ⟨h1, rfl⟩ := h1
  obtain ⟨hd, rfl, ht⟩ := hd
  exact fun p e s m below meth c H locs ls Z hm hn hr hk J hl => W.lcmp Z.1 Z.2.1 h1 (lv_if_ge Z.1 Z.2.1 hd ht (fun hc => kt (xip ((lg_cmp_ge x y).mp hc) h) p e s m below meth c H locs ls Z hm hn hr hk J hl) (fun hc => kf (xin (fun q => hc ((lg_cmp_ge x y).mpr q)) h) p e s m below meth c H locs ls Z hm hn hr hk J hl))
theorem vxo_lcgt {x y : Int64} {pm : Nat} {dc : Decidable (y < x)} {A B : Option ρ} (h1 : xD cc pc .lcmp 1 pm) (hd : xDJ cc pm (.ifCond .gt off) off tgt pc') (h : (@ite _ (y < x) dc A B) = some ro) (kt : A = some ro → xL cc nL own nm ret R X lv (st) w sz cl sl tgt r) (kf : B = some ro → xL cc nL own nm ret R X lv (st) w sz cl sl pc' r) : xL cc nL own nm ret R X lv (.long y :: .long x :: st) w sz cl sl pc r := by
  obtain ⟨h1, rfl⟩ := h1
  obtain ⟨hd, rfl, ht⟩ := hd
  exact fun p e s m below meth c H locs ls Z hm hn hr hk J hl => W.lcmp Z.1 Z.2.1 h1 (lv_if_gt Z.1 Z.2.1 hd ht (fun hc => kt (xip ((lg_cmp_gt x y).mp hc) h) p e s m below meth c H locs ls Z hm hn hr hk J hl) (fun hc => kf (xin (fun q => hc ((lg_cmp_gt x y).mpr q)) h) p e s m below meth c H locs ls Z hm hn hr hk J hl))
theorem vxo_lcle {x y : Int64} {pm : Nat} {dc : Decidable (x ≤ y)} {A B : Option ρ} (h1 : xD cc pc .lcmp 1 pm) (hd : xDJ cc pm (.ifCond .le off) off tgt pc') (h : (@ite _ (x ≤ y) dc A B) = some ro) (kt : A = some ro → xL cc nL own nm ret R X lv (st) w sz cl sl tgt r) (kf : B = some ro → xL cc nL own nm ret R X lv (st) w sz cl sl pc' r) : xL cc nL own nm ret R X lv (.long y :: .long x :: st) w sz cl sl pc r := by
  obtain ⟨h1, rfl⟩ := h1
  obtain ⟨hd, rfl, ht⟩ := hd
  exact fun p e s m below meth c H locs ls Z hm hn hr hk J hl => W.lcmp Z.1 Z.2.1 h1 (lv_if_le Z.1 Z.2.1 hd ht (fun hc => kt (xip ((lg_cmp_le x y).mp hc) h) p e s m below meth c H locs ls Z hm hn hr hk J hl) (fun hc => kf (xin (fun q => hc ((lg_cmp_le x y).mpr q)) h) p e s m below meth c H locs ls Z hm hn hr hk J hl))
theorem vxo_tableIn {dflt lo hi : Int} {offs : Array Int} {len : Nat} {x : Int32} (off : Int) (tgt : Nat) (hd : xD cc pc (.tableswitch dflt lo hi offs) len pc') (h1 : ¬ x.toInt < lo) (h2 : ¬ hi < x.toInt) (ho : offs[(x.toInt - lo).toNat]? = some off) (ht : (pc : Int) + off = (tgt : Int)) (k : xL cc nL own nm ret R X lv (st) w sz cl sl tgt r) : xL cc nL own nm ret R X lv (.int x :: st) w sz cl sl pc r :=
  fun p e s m below meth c H locs ls Z hm hn hr hk J hl => lv_tableIn Z.1 Z.2.1 hd.1 h1 h2 ho ht (k p e s m below meth c H locs ls Z hm hn hr hk J hl)
theorem vxo_tableOut {dflt lo hi : Int} {offs : Array Int} {len : Nat} {x : Int32} (tgt : Nat) (hd : xD cc pc (.tableswitch dflt lo hi offs) len pc') (h1 : x.toInt < lo ∨ hi < x.toInt) (ht : (pc : Int) + dflt = (tgt : Int)) (k : xL cc nL own nm ret R X lv (st) w sz cl sl tgt r) : xL cc nL own nm ret R X lv (.int x :: st) w sz cl sl pc r :=
  fun p e s m below meth c H locs ls Z hm hn hr hk J hl => lv_tableOut Z.1 Z.2.1 hd.1 h1 ht (k p e s m below meth c H locs ls Z hm hn hr hk J hl)
theorem vxo_lookup {dflt : Int} {ps : Array (Int × Int)} {len : Nat} {x : Int32} (off : Int) (tgt : Nat) (hd : xD cc pc (.lookupswitch dflt ps) len pc') (hp : (ps.toList.zip (ps.toList.drop 1)).all (fun (a, next) => a.1 < next.1) = true) (ho : Op.lookupswitch.offset ps.toList dflt x.toInt = off) (ht : (pc : Int) + off = (tgt : Int)) (k : xL cc nL own nm ret R X lv (st) w sz cl sl tgt r) : xL cc nL own nm ret R X lv (.int x :: st) w sz cl sl pc r :=
  fun p e s m below meth c H locs ls Z hm hn hr hk J hl => lv_lookup Z.1 Z.2.1 hd.1 hp ho ht (k p e s m below meth c H locs ls Z hm hn hr hk J hl)
theorem vxo_getI {ci index N a : Nat} {C : String} {T : u_T} {ty : Nat → FieldType} (k : Nat) {g : Int32 → Option ρ} (hd : xD cc pc (.getfield index) 3 pc') (K : xC ci C T N ty) (hkn : Nat.ble (k + 1) N = true) (hw : Cond.fieldLink own index C (T k).2.1 (T k).2.2.1 ∈ xT) (hc : (T k).1 = C) (h : (xfI w a ci k).bind g = some ro) (kk : ∀ x, g x = some ro → xL cc nL own nm ret R X lv (.int x :: st) w sz cl sl pc' r) : xL cc nL own nm ret R X lv (.ref a :: st) w sz cl sl pc r := by
  obtain ⟨hd, rfl⟩ := hd
  obtain ⟨x, hx, hq⟩ := xb h
  obtain ⟨fs, he, hv⟩ := xfI_inv hx
  exact fun p e s m below meth c H locs ls Z hm hn hr hk J hl => xg_getV Z J K k (Nat.le_of_ble_eq_true hkn) hw hc he hv hd (kk x hq p e s m below meth c H locs ls Z hm hn hr hk J hl)
theorem vxo_getL {ci index N a : Nat} {C : String} {T : u_T} {ty : Nat → FieldType} (k : Nat) {g : Int64 → Option ρ} (hd : xD cc pc (.getfield index) 3 pc') (K : xC ci C T N ty) (hkn : Nat.ble (k + 1) N = true) (hw : Cond.fieldLink own index C (T k).2.1 (T k).2.2.1 ∈ xT) (hc : (T k).1 = C) (h : (xfL w a ci k).bind g = some ro) (kk : ∀ x, g x = some ro → xL cc nL own nm ret R X lv (.long x :: st) w sz cl sl pc' r) : xL cc nL own nm ret R X lv (.ref a :: st) w sz cl sl pc r := by
  obtain ⟨hd, rfl⟩ := hd
  obtain ⟨x, hx, hq⟩ := xb h
  obtain ⟨fs, he, hv⟩ := xfL_inv hx
  exact fun p e s m below meth c H locs ls Z hm hn hr hk J hl => xg_getV Z J K k (Nat.le_of_ble_eq_true hkn) hw hc he hv hd (kk x hq p e s m below meth c H locs ls Z hm hn hr hk J hl)
theorem vxo_getR {ci index N a : Nat} {C : String} {T : u_T} {ty : Nat → FieldType} (k : Nat) {g : Nat → Option ρ} (hd : xD cc pc (.getfield index) 3 pc') (K : xC ci C T N ty) (hkn : Nat.ble (k + 1) N = true) (hw : Cond.fieldLink own index C (T k).2.1 (T k).2.2.1 ∈ xT) (hc : (T k).1 = C) (h : (xfR w a ci k).bind g = some ro) (kk : ∀ x, g x = some ro → xL cc nL own nm ret R X lv (.ref x :: st) w sz cl sl pc' r) : xL cc nL own nm ret R X lv (.ref a :: st) w sz cl sl pc r := by
  obtain ⟨hd, rfl⟩ := hd
  obtain ⟨x, hx, hq⟩ := xb h
  obtain ⟨fs, he, hv⟩ := xfR_inv hx
  exact fun p e s m below meth c H locs ls Z hm hn hr hk J hl => xg_getV Z J K k (Nat.le_of_ble_eq_true hkn) hw hc he hv hd (kk x hq p e s m below meth c H locs ls Z hm hn hr hk J hl)
theorem vxo_putI {ci index N a : Nat} {C : String} {T : u_T} {ty : Nat → FieldType} {x : Int32} (k : Nat) {g : xw → Option ρ} (hd : xD cc pc (.putfield index) 3 pc') (K : xC ci C T N ty) (hkn : Nat.ble (k + 1) N = true) (hw : Cond.fieldLink own index C (T k).2.1 (T k).2.2.1 ∈ xT) (hc : (T k).1 = C) (hfin : (T k).2.2.2 = false) (hnar : narrow (ty k) (.int x) = .int x) (hfit : fits (ty k) (.int x) = true) (h : (xpI w a ci k x).bind g = some ro) (kk : ∀ w1, g w1 = some ro → xL cc nL own nm ret R X lv (st) w1 sz cl sl pc' r) : xL cc nL own nm ret R X lv (.int x :: .ref a :: st) w sz cl sl pc r := by
  obtain ⟨hd, rfl⟩ := hd
  obtain ⟨w1, hx, hq⟩ := xb h
  exact fun p e s m below meth c H locs ls Z hm hn hr hk J hl => xg_putV Z J K k (Nat.le_of_ble_eq_true hkn) hw hc hfin hnar hfit hd hx (fun H locs J => kk w1 hq p e s m below meth c H locs ls Z hm hn hr hk J hl)
theorem vxo_putIF {ci index N a : Nat} {C : String} {T : u_T} {ty : Nat → FieldType} {x : Int32} (k : Nat) {g : xw → Option ρ} (hd : xD cc pc (.putfield index) 3 pc') (K : xC ci C T N ty) (hkn : Nat.ble (k + 1) N = true) (hw : Cond.fieldLink own index C (T k).2.1 (T k).2.2.1 ∈ xT) (hc : (T k).1 = C) (hfin : (T k).2.2.2 = true) (hnm : nm = "<init>") (hdecl : C = own) (hnar : narrow (ty k) (.int x) = .int x) (hfit : fits (ty k) (.int x) = true) (h : (xpI w a ci k x).bind g = some ro) (kk : ∀ w1, g w1 = some ro → xL cc nL own nm ret R X lv (st) w1 sz cl sl pc' r) : xL cc nL own nm ret R X lv (.int x :: .ref a :: st) w sz cl sl pc r := by
  obtain ⟨hd, rfl⟩ := hd
  obtain ⟨w1, hx, hq⟩ := xb h
  exact fun p e s m below meth c H locs ls Z hm hn hr hk J hl => xg_putF Z J K k (Nat.le_of_ble_eq_true hkn) hw hc hfin (hn.trans hnm) hdecl hnar hfit hd hx (fun H locs J => kk w1 hq p e s m below meth c H locs ls Z hm hn hr hk J hl)
theorem vxo_putL {ci index N a : Nat} {C : String} {T : u_T} {ty : Nat → FieldType} {x : Int64} (k : Nat) {g : xw → Option ρ} (hd : xD cc pc (.putfield index) 3 pc') (K : xC ci C T N ty) (hkn : Nat.ble (k + 1) N = true) (hw : Cond.fieldLink own index C (T k).2.1 (T k).2.2.1 ∈ xT) (hc : (T k).1 = C) (hfin : (T k).2.2.2 = false) (hnar : narrow (ty k) (.long x) = .long x) (hfit : fits (ty k) (.long x) = true) (h : (xpL w a ci k x).bind g = some ro) (kk : ∀ w1, g w1 = some ro → xL cc nL own nm ret R X lv (st) w1 sz cl sl pc' r) : xL cc nL own nm ret R X lv (.long x :: .ref a :: st) w sz cl sl pc r := by
  obtain ⟨hd, rfl⟩ := hd
  obtain ⟨w1, hx, hq⟩ := xb h
  exact fun p e s m below meth c H locs ls Z hm hn hr hk J hl => xg_putV Z J K k (Nat.le_of_ble_eq_true hkn) hw hc hfin hnar hfit hd hx (fun H locs J => kk w1 hq p e s m below meth c H locs ls Z hm hn hr hk J hl)
theorem vxo_putLF {ci index N a : Nat} {C : String} {T : u_T} {ty : Nat → FieldType} {x : Int64} (k : Nat) {g : xw → Option ρ} (hd : xD cc pc (.putfield index) 3 pc') (K : xC ci C T N ty) (hkn : Nat.ble (k + 1) N = true) (hw : Cond.fieldLink own index C (T k).2.1 (T k).2.2.1 ∈ xT) (hc : (T k).1 = C) (hfin : (T k).2.2.2 = true) (hnm : nm = "<init>") (hdecl : C = own) (hnar : narrow (ty k) (.long x) = .long x) (hfit : fits (ty k) (.long x) = true) (h : (xpL w a ci k x).bind g = some ro) (kk : ∀ w1, g w1 = some ro → xL cc nL own nm ret R X lv (st) w1 sz cl sl pc' r) : xL cc nL own nm ret R X lv (.long x :: .ref a :: st) w sz cl sl pc r := by
  obtain ⟨hd, rfl⟩ := hd
  obtain ⟨w1, hx, hq⟩ := xb h
  exact fun p e s m below meth c H locs ls Z hm hn hr hk J hl => xg_putF Z J K k (Nat.le_of_ble_eq_true hkn) hw hc hfin (hn.trans hnm) hdecl hnar hfit hd hx (fun H locs J => kk w1 hq p e s m below meth c H locs ls Z hm hn hr hk J hl)
theorem vxo_putR {ci index N a : Nat} {C : String} {T : u_T} {ty : Nat → FieldType} {x : Nat} (k : Nat) {g : xw → Option ρ} (hd : xD cc pc (.putfield index) 3 pc') (K : xC ci C T N ty) (hkn : Nat.ble (k + 1) N = true) (hw : Cond.fieldLink own index C (T k).2.1 (T k).2.2.1 ∈ xT) (hc : (T k).1 = C) (hfin : (T k).2.2.2 = false) (hnar : narrow (ty k) (.ref x) = .ref x) (hfit : fits (ty k) (.ref x) = true) (h : (xpR w a ci k x).bind g = some ro) (kk : ∀ w1, g w1 = some ro → xL cc nL own nm ret R X lv (st) w1 sz cl sl pc' r) : xL cc nL own nm ret R X lv (.ref x :: .ref a :: st) w sz cl sl pc r := by
  obtain ⟨hd, rfl⟩ := hd
  obtain ⟨w1, hx, hq⟩ := xb h
  exact fun p e s m below meth c H locs ls Z hm hn hr hk J hl => xg_putV Z J K k (Nat.le_of_ble_eq_true hkn) hw hc hfin hnar hfit hd hx (fun H locs J => kk w1 hq p e s m below meth c H locs ls Z hm hn hr hk J hl)
theorem vxo_putRF {ci index N a : Nat} {C : String} {T : u_T} {ty : Nat → FieldType} {x : Nat} (k : Nat) {g : xw → Option ρ} (hd : xD cc pc (.putfield index) 3 pc') (K : xC ci C T N ty) (hkn : Nat.ble (k + 1) N = true) (hw : Cond.fieldLink own index C (T k).2.1 (T k).2.2.1 ∈ xT) (hc : (T k).1 = C) (hfin : (T k).2.2.2 = true) (hnm : nm = "<init>") (hdecl : C = own) (hnar : narrow (ty k) (.ref x) = .ref x) (hfit : fits (ty k) (.ref x) = true) (h : (xpR w a ci k x).bind g = some ro) (kk : ∀ w1, g w1 = some ro → xL cc nL own nm ret R X lv (st) w1 sz cl sl pc' r) : xL cc nL own nm ret R X lv (.ref x :: .ref a :: st) w sz cl sl pc r := by
  obtain ⟨hd, rfl⟩ := hd
  obtain ⟨w1, hx, hq⟩ := xb h
  exact fun p e s m below meth c H locs ls Z hm hn hr hk J hl => xg_putF Z J K k (Nat.le_of_ble_eq_true hkn) hw hc hfin (hn.trans hnm) hdecl hnar hfit hd hx (fun H locs J => kk w1 hq p e s m below meth c H locs ls Z hm hn hr hk J hl)
theorem vxo_putZ {ci index N a : Nat} {C : String} {T : u_T} {ty : Nat → FieldType} {x : Int32} (k : Nat) {g : xw → Option ρ} (hd : xD cc pc (.putfield index) 3 pc') (K : xC ci C T N ty) (hkn : Nat.ble (k + 1) N = true) (hw : Cond.fieldLink own index C (T k).2.1 (T k).2.2.1 ∈ xT) (hc : (T k).1 = C) (hfin : (T k).2.2.2 = false) (hty : ty k = .boolean) (h : (xpZ w a ci k x).bind g = some ro) (kk : ∀ w1, g w1 = some ro → xL cc nL own nm ret R X lv (st) w1 sz cl sl pc' r) : xL cc nL own nm ret R X lv (.int x :: .ref a :: st) w sz cl sl pc r := by
  obtain ⟨hd, rfl⟩ := hd
  obtain ⟨w1, hx, hq⟩ := xb h
  unfold xpZ at hx
  split at hx
  · rename_i hb
    obtain ⟨n1, n2, -⟩ := xnar hb
    exact fun p e s m below meth c H locs ls Z hm hn hr hk J hl => xg_putV Z J K k (Nat.le_of_ble_eq_true hkn) hw hc hfin (by rw [hty]; exact n1) (by rw [hty]; exact n2) hd hx (fun H locs J => kk w1 hq p e s m below meth c H locs ls Z hm hn hr hk J hl)
  · cases hx
theorem vxo_putZF {ci index N a : Nat} {C : String} {T : u_T} {ty : Nat → FieldType} {x : Int32} (k : Nat) {g : xw → Option ρ} (hd : xD cc pc (.putfield index) 3 pc') (K : xC ci C T N ty) (hkn : Nat.ble (k + 1) N = true) (hw : Cond.fieldLink own index C (T k).2.1 (T k).2.2.1 ∈ xT) (hc : (T k).1 = C) (hfin : (T k).2.2.2 = true) (hnm : nm = "<init>") (hdecl : C = own) (hty : ty k = .boolean) (h : (xpZ w a ci k x).bind g = some ro) (kk : ∀ w1, g w1 = some ro → xL cc nL own nm ret R X lv (st) w1 sz cl sl pc' r) : xL cc nL own nm ret R X lv (.int x :: .ref a :: st) w sz cl sl pc r := by
  obtain ⟨hd, rfl⟩ := hd
  obtain ⟨w1, hx, hq⟩ := xb h
  unfold xpZ at hx
  split at hx
  · rename_i hb
    obtain ⟨n1, n2, -⟩ := xnar hb
    exact fun p e s m below meth c H locs ls Z hm hn hr hk J hl => xg_putF Z J K k (Nat.le_of_ble_eq_true hkn) hw hc hfin (hn.trans hnm) hdecl (by rw [hty]; exact n1) (by rw [hty]; exact n2) hd hx (fun H locs J => kk w1 hq p e s m below meth c H locs ls Z hm hn hr hk J hl)
  · cases hx
theorem vxo_aldI {a : Nat} {i : Int32} {g : Int32 → Option ρ} (hd : xD cc pc .iaload 1 pc') (h : (xaI w a i).bind g = some ro) (kk : ∀ x, g x = some ro → xL cc nL own nm ret R X lv (.int x :: st) w sz cl sl pc' r) : xL cc nL own nm ret R X lv (.int i :: .ref a :: st) w sz cl sl pc r := by
  obtain ⟨hd, rfl⟩ := hd
  obtain ⟨x, hx, hq⟩ := xb h
  obtain ⟨n, f, he, hi, rfl⟩ := xaI_inv hx
  exact fun p e s m below meth c H locs ls Z hm hn hr hk J hl => va_iald Z.1 Z.2.1 Z.2.2.2.2.1 (xP1 (J.1 a _ he)) 0 0 rfl rfl hi hd (kk _ hq p e s m below meth c H locs ls Z hm hn hr hk J hl)
theorem vxo_aldZ {a : Nat} {i : Int32} {g : Int32 → Option ρ} (hd : xD cc pc .baload 1 pc') (h : (xaZ w a i).bind g = some ro) (kk : ∀ x, g x = some ro → xL cc nL own nm ret R X lv (.int x :: st) w sz cl sl pc' r) : xL cc nL own nm ret R X lv (.int i :: .ref a :: st) w sz cl sl pc r := by
  obtain ⟨hd, rfl⟩ := hd
  obtain ⟨x, hx, hq⟩ := xb h
  obtain ⟨n, f, he, hi, rfl⟩ := xaZ_inv hx
  exact fun p e s m below meth c H locs ls Z hm hn hr hk J hl => va_zald Z.1 Z.2.1 Z.2.2.2.2.1 (xP1 (J.1 a _ he)) 0 2 rfl rfl hi hd (kk _ hq p e s m below meth c H locs ls Z hm hn hr hk J hl)
theorem vxo_aldL {a : Nat} {i : Int32} {g : Int64 → Option ρ} (hd : xD cc pc .laload 1 pc') (h : (xaL w a i).bind g = some ro) (kk : ∀ x, g x = some ro → xL cc nL own nm ret R X lv (.long x :: st) w sz cl sl pc' r) : xL cc nL own nm ret R X lv (.int i :: .ref a :: st) w sz cl sl pc r := by
  obtain ⟨hd, rfl⟩ := hd
  obtain ⟨x, hx, hq⟩ := xb h
  obtain ⟨n, f, he, hi, rfl⟩ := xaL_inv hx
  exact fun p e s m below meth c H locs ls Z hm hn hr hk J hl => va_lald Z.1 Z.2.1 Z.2.2.2.2.1 (xP1 (J.1 a _ he)) 0 1 rfl rfl hi hd (kk _ hq p e s m below meth c H locs ls Z hm hn hr hk J hl)
theorem vxo_aldR {a : Nat} {i : Int32} {g : Nat → Option ρ} (hd : xD cc pc .aaload 1 pc') (h : (xaR w a i).bind g = some ro) (kk : ∀ x, g x = some ro → xL cc nL own nm ret R X lv (.ref x :: st) w sz cl sl pc' r) : xL cc nL own nm ret R X lv (.int i :: .ref a :: st) w sz cl sl pc r := by
  obtain ⟨hd, rfl⟩ := hd
  obtain ⟨x, hx, hq⟩ := xb h
  obtain ⟨t, n, f, he, ht, hi, hf⟩ := xaR_inv hx
  have key : ∀ (t0 : Nat) (C : String), (∀ cT : Nat → ClassId, (xtys cT)[t0]? = some (cT t, .object C)) → xL cc nL own nm ret R X lv (.int i :: .ref a :: st) w sz cl sl pc r := fun t0 C hty p e s m below meth c H locs ls Z hm hn hr hk J hl =>
    va_aldq (C := C) Z.1 Z.2.1 Z.2.2.2.2.1 (xP1 (J.1 a _ he)) 0 t0 rfl (hty _) hi hd (by rw [hf]; exact kk _ hq p e s m below meth c H locs ls Z hm hn hr hk J hl)
  have h3 : t = 3 ∨ t = 4 ∨ t = 5 := by omega
  rcases h3 with rfl | rfl | rfl
  · exact key 3 _ (fun _ => rfl)
  · exact key 4 _ (fun _ => rfl)
  · exact key 5 _ (fun _ => rfl)
theorem vxo_astI {a : Nat} {i : Int32} {x : Int32} {g : xw → Option ρ} (hd : xD cc pc .iastore 1 pc') (h : (xsI w a i x).bind g = some ro) (kk : ∀ w1, g w1 = some ro → xL cc nL own nm ret R X lv (st) w1 sz cl sl pc' r) : xL cc nL own nm ret R X lv (.int x :: .int i :: .ref a :: st) w sz cl sl pc r := by
  obtain ⟨hd, rfl⟩ := hd
  obtain ⟨w1, hx, hq⟩ := xb h
  obtain ⟨n, f, he, hi, rfl⟩ := xsI_inv hx
  exact fun p e s m below meth c H locs ls Z hm hn hr hk J hl => by
    refine W.iast Z.1 Z.2.1 (J.1 a _ he) ((Z.2.2.2.2.1.2 0 _ rfl).1 n (fun j => .int (f j))) (fun q => by cases q) (by show ¬ (i < 0 ∨ (arrV _ _ _).slots.size ≤ _); rw [arrV_size]; exact hi) rfl rfl hd fun H1 e1 z oq => ?_
    refine kk _ hq p e s m below meth c H1 _ ls Z hm hn hr hk (J.put he ?_ z oq) hl
    show H1[a]? = some (vp_cell _ _)
    rw [e1]
    show some (Cell.setSlot (vp_cell _ _) _ _) = _
    rw [vp_cell_i, vp_cell_i, arrV_store]
    congr 2
    funext q
    by_cases hq : q = i.toNatClampNeg
    · subst hq
      simp [updV, upd]
    · simp [updV, upd, hq]
theorem vxo_astL {a : Nat} {i : Int32} {x : Int64} {g : xw → Option ρ} (hd : xD cc pc .lastore 1 pc') (h : (xsL w a i x).bind g = some ro) (kk : ∀ w1, g w1 = some ro → xL cc nL own nm ret R X lv (st) w1 sz cl sl pc' r) : xL cc nL own nm ret R X lv (.long x :: .int i :: .ref a :: st) w sz cl sl pc r := by
  obtain ⟨hd, rfl⟩ := hd
  obtain ⟨w1, hx, hq⟩ := xb h
  obtain ⟨n, f, he, hi, rfl⟩ := xsL_inv hx
  exact fun p e s m below meth c H locs ls Z hm hn hr hk J hl => by
    refine W.last Z.1 Z.2.1 (J.1 a _ he) ((Z.2.2.2.2.1.2 1 _ rfl).1 n (fun j => .long (f j))) (fun q => by cases q) (by show ¬ (i < 0 ∨ (arrV _ _ _).slots.size ≤ _); rw [arrV_size]; exact hi) rfl rfl hd fun H1 e1 z oq => ?_
    refine kk _ hq p e s m below meth c H1 _ ls Z hm hn hr hk (J.put he ?_ z oq) hl
    show H1[a]? = some (vp_cell _ _)
    rw [e1]
    show some (Cell.setSlot (vp_cell _ _) _ _) = _
    rw [vp_cell_l, vp_cell_l, arrV_store]
    congr 2
    funext q
    by_cases hq : q = i.toNatClampNeg
    · subst hq
      simp [updV, vp_updL]
    · simp [updV, vp_updL, hq]
theorem vxo_astZ {a : Nat} {i : Int32} {x : Int32} {g : xw → Option ρ} (hd : xD cc pc .bastore 1 pc') (h : (xsZ w a i x).bind g = some ro) (kk : ∀ w1, g w1 = some ro → xL cc nL own nm ret R X lv (st) w1 sz cl sl pc' r) : xL cc nL own nm ret R X lv (.int x :: .int i :: .ref a :: st) w sz cl sl pc r := by
  obtain ⟨hd, rfl⟩ := hd
  obtain ⟨w1, hx, hq⟩ := xb h
  obtain ⟨n, f, he, hb, hi, rfl⟩ := xsZ_inv hx
  obtain ⟨-, -, hnr⟩ := xnar hb
  exact fun p e s m below meth c H locs ls Z hm hn hr hk J hl => by
    refine W.zast Z.1 Z.2.1 (J.1 a _ he) ((Z.2.2.2.2.1.2 2 _ rfl).1 n (fun j => .int (f j))) (fun q => by cases q) (by show ¬ (i < 0 ∨ (arrV _ _ _).slots.size ≤ _); rw [arrV_size]; exact hi) rfl rfl hd fun H1 e1 z oq => ?_
    refine kk _ hq p e s m below meth c H1 _ ls Z hm hn hr hk (J.put he ?_ z oq) hl
    show H1[a]? = some (vp_cell _ _)
    rw [e1]
    show some (Cell.setSlot (vp_cell _ _) _ _) = _
    rw [vp_cell_i, vp_cell_i, arrV_store]
    congr 2
    funext q
    by_cases hq : q = i.toNatClampNeg
    · subst hq
      rcases hb with rfl | rfl <;> simp [updV, upd] <;> rfl
    · simp [updV, upd, hq]
theorem vxo_obj {index a : Nat} (hd : xD cc pc (.invokespecial index) 3 pc') (hw : Cond.methodLink own index Lib.objectInit ∈ xT) (hfr : Nat.ble 1 R.frames = true) (hsm : Nat.ble ((st.map fun v => v.category).sum + 12) R.locals = true) (k : xL cc nL own nm ret R X lv (st) w sz cl sl pc' r) : xL cc nL own nm ret R X lv (.ref a :: st) w sz cl sl pc r := by
  obtain ⟨hd, rfl⟩ := hd
  exact fun p e s m below meth c H locs ls Z hm hn hr hk J hl => W.objInit Z.1 Z.2.1 Z.2.2.1 (Z.2.2.2.1 _ hw) (Z.2.2.2.1 _ xw_objinst) (Z.2.2.2.1 _ xw_objcode) rfl (hl.1.trans hm.symm) rfl hd (Nat.le_of_ble_eq_true hfr) (by
    have := Nat.le_of_ble_eq_true hsm
    show 2 * (F0 m pc ls (.ref a :: st)).monitorRoom + (st.map fun v => v.category).sum + 12 ≤ R.locals
    have h0 : (F0 m pc ls (.ref a :: st)).monitorRoom = 0 := rfl
    omega) (k p e s m below meth c H locs ls Z hm hn hr hk J hl)
theorem vxo_mmaxI {index : Nat} {x y : Int32} {g : Int32 → Option ρ} (hd : xD cc pc (.invokestatic index) 3 pc') (hw : Cond.methodLink own index Lib.Math.max.name ∈ xT) (hfr : Nat.ble 1 R.frames = true) (hlo : Nat.ble ((st.map fun v => v.category).sum + 13) R.locals = true) (hcl : Nat.ble cl R.cells = true) (hsl : Nat.ble sl R.slots = true) (h : (some (if x < y then y else x)).bind g = some ro) (k : ∀ z, g z = some ro → xL cc nL own nm ret R X lv (.int z :: st) w sz cl sl pc' r) : xL cc nL own nm ret R X lv (.int y :: .int x :: st) w sz cl sl pc r := by
  obtain ⟨hd, rfl⟩ := hd
  exact fun p e s m below meth c H locs ls Z hm hn hr hk J hl => va_mmax Z.1 Z.2.1 (hm.trans hl.1.symm) Z.2.2.1 (Z.2.2.2.1 _ hw) (Z.2.2.2.1 _ xw_mmaxI.1) (Z.2.2.2.1 _ xw_mmaxI.2.1) (Z.2.2.2.1 _ xw_mmaxI.2.2) (Nat.le_of_ble_eq_true hfr) (Nat.le_of_ble_eq_true hlo) (Nat.le_of_ble_eq_true hcl) (Nat.le_of_ble_eq_true hsl) hd (k _ h p e s m below meth c H locs ls Z hm hn hr hk J hl)
theorem vxo_mminI {index : Nat} {x y : Int32} {g : Int32 → Option ρ} (hd : xD cc pc (.invokestatic index) 3 pc') (hw : Cond.methodLink own index Lib.Math.min.name ∈ xT) (hfr : Nat.ble 1 R.frames = true) (hlo : Nat.ble ((st.map fun v => v.category).sum + 13) R.locals = true) (hcl : Nat.ble cl R.cells = true) (hsl : Nat.ble sl R.slots = true) (h : (some (if y < x then y else x)).bind g = some ro) (k : ∀ z, g z = some ro → xL cc nL own nm ret R X lv (.int z :: st) w sz cl sl pc' r) : xL cc nL own nm ret R X lv (.int y :: .int x :: st) w sz cl sl pc r := by
  obtain ⟨hd, rfl⟩ := hd
  exact fun p e s m below meth c H locs ls Z hm hn hr hk J hl => va_mmin Z.1 Z.2.1 (hm.trans hl.1.symm) Z.2.2.1 (Z.2.2.2.1 _ hw) (Z.2.2.2.1 _ xw_mminI.1) (Z.2.2.2.1 _ xw_mminI.2.1) (Z.2.2.2.1 _ xw_mminI.2.2) (Nat.le_of_ble_eq_true hfr) (Nat.le_of_ble_eq_true hlo) (Nat.le_of_ble_eq_true hcl) (Nat.le_of_ble_eq_true hsl) hd (k _ h p e s m below meth c H locs ls Z hm hn hr hk J hl)
theorem vxo_mmaxL {index : Nat} {x y : Int64} {g : Int64 → Option ρ} (hd : xD cc pc (.invokestatic index) 3 pc') (hw : Cond.methodLink own index Lib.MathLoose.max_long.x ∈ xT) (hfr : Nat.ble 1 R.frames = true) (hlo : Nat.ble ((st.map fun v => v.category).sum + 15) R.locals = true) (hcl : Nat.ble cl R.cells = true) (hsl : Nat.ble sl R.slots = true) (h : (some (if y < x then x else y)).bind g = some ro) (k : ∀ z, g z = some ro → xL cc nL own nm ret R X lv (.long z :: st) w sz cl sl pc' r) : xL cc nL own nm ret R X lv (.long y :: .long x :: st) w sz cl sl pc r := by
  obtain ⟨hd, rfl⟩ := hd
  exact fun p e s m below meth c H locs ls Z hm hn hr hk J hl => va_mmax_long Z.1 Z.2.1 (hm.trans hl.1.symm) Z.2.2.1 (Z.2.2.2.1 _ hw) (Z.2.2.2.1 _ xw_mmaxJ.1) (Z.2.2.2.1 _ xw_mmaxJ.2.1) (Z.2.2.2.1 _ xw_mmaxJ.2.2) (Nat.le_of_ble_eq_true hfr) (Nat.le_of_ble_eq_true hlo) (Nat.le_of_ble_eq_true hcl) (Nat.le_of_ble_eq_true hsl) hd (k _ h p e s m below meth c H locs ls Z hm hn hr hk J hl)
theorem vxo_mminL {index : Nat} {x y : Int64} {g : Int64 → Option ρ} (hd : xD cc pc (.invokestatic index) 3 pc') (hw : Cond.methodLink own index Lib.MathLoose.min_long.x ∈ xT) (hfr : Nat.ble 1 R.frames = true) (hlo : Nat.ble ((st.map fun v => v.category).sum + 15) R.locals = true) (hcl : Nat.ble cl R.cells = true) (hsl : Nat.ble sl R.slots = true) (h : (some (if y < x then y else x)).bind g = some ro) (k : ∀ z, g z = some ro → xL cc nL own nm ret R X lv (.long z :: st) w sz cl sl pc' r) : xL cc nL own nm ret R X lv (.long y :: .long x :: st) w sz cl sl pc r := by
  obtain ⟨hd, rfl⟩ := hd
  exact fun p e s m below meth c H locs ls Z hm hn hr hk J hl => va_mmin_long Z.1 Z.2.1 (hm.trans hl.1.symm) Z.2.2.1 (Z.2.2.2.1 _ hw) (Z.2.2.2.1 _ xw_mminJ.1) (Z.2.2.2.1 _ xw_mminJ.2.1) (Z.2.2.2.1 _ xw_mminJ.2.2) (Nat.le_of_ble_eq_true hfr) (Nat.le_of_ble_eq_true hlo) (Nat.le_of_ble_eq_true hcl) (Nat.le_of_ble_eq_true hsl) hd (k _ h p e s m below meth c H locs ls Z hm hn hr hk J hl)
theorem vxc_S {As rest st0 : List Value} {y : MethodName} {bytes : ByteArray} {maxL n index : Nat} {ret' : Option FieldType} {R' : Room} {r' : xR} (hd : xD cc pc (.invokestatic index) 3 pc') (hw : Cond.methodLink own index y ∈ xT) (hy : xYS y bytes maxL ret' n) (hM : xM X.1 y bytes maxL ret' R' X.2.1 X.2.2.1 As w sz r') (hf : xfit R' maxL R cl sl = true) (hnA : As.length = n) (hst : st0 = As.reverse ++ rest) (hW : Nat.ble (rest.map fun v => v.category).sum 8 = true) (k : xL cc nL own nm ret R X lv (r'.1.toList ++ rest) r'.2.1 r'.2.2 (cl + R'.cells) (sl + R'.slots) pc' r) : xL cc nL own nm ret R X lv (st0) w sz cl sl pc r := by
  obtain ⟨hd, rfl⟩ := hd
  obtain ⟨hf1, hf2⟩ := xfit_of hf
  exact fun p e s m below meth c H locs ls Z hm hn hr hk J hl => xg_go (va_runS (As := As) (n := n) ⟨Z.1, Z.2.1, hm, Z.2.2.1, Z.2.2.2.1⟩ hM ⟨callB_of n Z.2.2.2.1 (xgood hy.1) rfl rfl rfl (Z.2.2.2.1 _ hy.2.2.1) (Z.2.2.2.1 _ hw) hy.2.2.2 hf1, Z.2.2.2.1 _ hy.2.1⟩ (xg_pre Z J) rfl hnA hl.1 hst (lv_room (Nat.le_of_ble_eq_true hW)) hd hf2) J (fun H locs J => k p e s m below meth c H locs ls Z hm hn hr hk J hl)
theorem vxc_SN {host : String} {As rest st0 : List Value} {y : MethodName} {bytes : ByteArray} {maxL n index : Nat} {ret' : Option FieldType} {R' : Room} {r' : xR} (hd : xD cc pc (.invokestatic index) 3 pc') (hw : (own, index, y, host) ∈ xNw) (hy : xYS y bytes maxL ret' n) (hM : xM X.1 y bytes maxL ret' R' X.2.1 X.2.2.1 As w sz r') (hf : xfit R' maxL R cl sl = true) (hnA : As.length = n) (hst : st0 = As.reverse ++ rest) (hW : Nat.ble (rest.map fun v => v.category).sum 8 = true) (k : xL cc nL own nm ret R X lv (r'.1.toList ++ rest) r'.2.1 r'.2.2 (cl + R'.cells) (sl + R'.slots) pc' r) : xL cc nL own nm ret R X lv (st0) w sz cl sl pc r := by
  obtain ⟨hd, rfl⟩ := hd
  obtain ⟨hf1, hf2⟩ := xfit_of hf
  exact fun p e s m below meth c H locs ls Z hm hn hr hk J hl => xg_go (va_runSN (As := As) (n := n) ⟨Z.1, Z.2.1, hm, Z.2.2.1, Z.2.2.2.1⟩ hM ⟨va_cnB n Z.2.2.2.1 (xgood hy.1) rfl rfl rfl (Z.2.2.2.2.2.1 _ hw) (Z.2.2.2.1 _ hy.2.2.1) hy.2.2.2 hf1, Z.2.2.2.1 _ hy.2.1, trivial⟩ (xg_pre Z J) rfl hnA hl.1 hst (lv_room (Nat.le_of_ble_eq_true hW)) hd hf2) J (fun H locs J => k p e s m below meth c H locs ls Z hm hn hr hk J hl)
theorem vxc_V {As rest st0 : List Value} {y : MethodName} {bytes : ByteArray} {maxL n index b ci N : Nat} {T : u_T} {ty : Nat → FieldType} {ret' : Option FieldType} {R' : Room} {r' : xR} {u : Unit} (hd : xD cc pc (.invokevirtual index) 3 pc') (hw : Cond.methodLink own index y ∈ xT) (hy : xYV y bytes maxL ret' n) (K : xC ci y.cls T N ty) (hck : xck w b ci = some u) (hM : xM X.1 y bytes maxL ret' R' X.2.1 X.2.2.1 (.ref b :: As) w sz r') (hf : xfit R' maxL R cl sl = true) (hnA : As.length = n) (hst : st0 = As.reverse ++ .ref b :: rest) (hW : Nat.ble (rest.map fun v => v.category).sum 8 = true) (k : xL cc nL own nm ret R X lv (r'.1.toList ++ rest) r'.2.1 r'.2.2 (cl + R'.cells) (sl + R'.slots) pc' r) : xL cc nL own nm ret R X lv (st0) w sz cl sl pc r := by
  obtain ⟨hd, rfl⟩ := hd
  obtain ⟨hf1, hf2⟩ := xfit_of hf
  obtain ⟨fs, he⟩ := xck_inv hck
  exact fun p e s m below meth c H locs ls Z hm hn hr hk J hl => xg_go (va_runV (C := y.cls) (b := b) (As := As) (n := n) ⟨Z.1, Z.2.1, hm, Z.2.2.1, Z.2.2.2.1⟩ hM ⟨callB_of n Z.2.2.2.1 (xgood hy.1) rfl rfl rfl (Z.2.2.2.1 _ hy.2.2.1) (Z.2.2.2.1 _ hw) hy.2.2.2.1 hf1, Z.2.2.2.1 _ hy.2.1, Z.2.2.2.1 _ hy.2.2.2.2⟩ ⟨(xg_pre Z J).1, va_recv (q0 := 0) Z.2.2.2.2.1 (xP1 (J.1 b _ he)) K.1 rfl, (xg_pre Z J).2⟩ rfl hnA hl.1 hst (lv_room (Nat.le_of_ble_eq_true hW)) hd hf2) J (fun H locs J => k p e s m below meth c H locs ls Z hm hn hr hk J hl)
theorem vxc_VN {host : String} {As rest st0 : List Value} {y : MethodName} {bytes : ByteArray} {maxL n index b ci N : Nat} {T : u_T} {ty : Nat → FieldType} {ret' : Option FieldType} {R' : Room} {r' : xR} {u : Unit} (hd : xD cc pc (.invokevirtual index) 3 pc') (hw : (own, index, y, host) ∈ xNw) (hy : xYV y bytes maxL ret' n) (K : xC ci y.cls T N ty) (hck : xck w b ci = some u) (hM : xM X.1 y bytes maxL ret' R' X.2.1 X.2.2.1 (.ref b :: As) w sz r') (hf : xfit R' maxL R cl sl = true) (hnA : As.length = n) (hst : st0 = As.reverse ++ .ref b :: rest) (hW : Nat.ble (rest.map fun v => v.category).sum 8 = true) (k : xL cc nL own nm ret R X lv (r'.1.toList ++ rest) r'.2.1 r'.2.2 (cl + R'.cells) (sl + R'.slots) pc' r) : xL cc nL own nm ret R X lv (st0) w sz cl sl pc r := by
  obtain ⟨hd, rfl⟩ := hd
  obtain ⟨hf1, hf2⟩ := xfit_of hf
  obtain ⟨fs, he⟩ := xck_inv hck
  exact fun p e s m below meth c H locs ls Z hm hn hr hk J hl => xg_go (va_runVN (C := y.cls) (b := b) (As := As) (n := n) ⟨Z.1, Z.2.1, hm, Z.2.2.1, Z.2.2.2.1⟩ hM ⟨va_cnB n Z.2.2.2.1 (xgood hy.1) rfl rfl rfl (Z.2.2.2.2.2.1 _ hw) (Z.2.2.2.1 _ hy.2.2.1) hy.2.2.2.1 hf1, Z.2.2.2.1 _ hy.2.1, Z.2.2.2.1 _ hy.2.2.2.2⟩ ⟨(xg_pre Z J).1, va_recv (q0 := 0) Z.2.2.2.2.1 (xP1 (J.1 b _ he)) K.1 rfl, (xg_pre Z J).2⟩ rfl hnA hl.1 hst (lv_room (Nat.le_of_ble_eq_true hW)) hd hf2) J (fun H locs J => k p e s m below meth c H locs ls Z hm hn hr hk J hl)
theorem vxc_I {As rest st0 : List Value} {y : MethodName} {bytes : ByteArray} {maxL n index b : Nat} {R' : Room} {r' : xR} (hd : xD cc pc (.invokespecial index) 3 pc') (hw : Cond.methodLink own index y ∈ xT) (hy : xYI y bytes maxL n) (hM : xM X.1 y bytes maxL none R' X.2.1 X.2.2.1 (.ref b :: As) w sz r') (hf : xfit R' maxL R cl sl = true) (hnA : As.length = n) (hst : st0 = As.reverse ++ .ref b :: rest) (hW : Nat.ble (rest.map fun v => v.category).sum 8 = true) (k : xL cc nL own nm ret R X lv (r'.1.toList ++ rest) r'.2.1 r'.2.2 (cl + R'.cells) (sl + R'.slots) pc' r) : xL cc nL own nm ret R X lv (st0) w sz cl sl pc r := by
  obtain ⟨hd, rfl⟩ := hd
  obtain ⟨hf1, hf2⟩ := xfit_of hf
  exact fun p e s m below meth c H locs ls Z hm hn hr hk J hl => xg_go (va_runI (b := b) (As := As) (n := n) ⟨Z.1, Z.2.1, hm, Z.2.2.1, Z.2.2.2.1⟩ hM ⟨callB_of n Z.2.2.2.1 (xgood hy.1) rfl rfl rfl (Z.2.2.2.1 _ hy.2.2.1) (Z.2.2.2.1 _ hw) hy.2.2.2.1 hf1, hy.2.2.2.2, Z.2.2.2.1 _ hy.2.1⟩ (xg_pre Z J) rfl hnA hl.1 hst (lv_room (Nat.le_of_ble_eq_true hW)) hd hf2) J (fun H locs J => k p e s m below meth c H locs ls Z hm hn hr hk J hl)
theorem vxc_IN {host : String} {As rest st0 : List Value} {y : MethodName} {bytes : ByteArray} {maxL n index b : Nat} {R' : Room} {r' : xR} (hd : xD cc pc (.invokespecial index) 3 pc') (hw : (own, index, y, host) ∈ xNw) (hy : xYI y bytes maxL n) (hM : xM X.1 y bytes maxL none R' X.2.1 X.2.2.1 (.ref b :: As) w sz r') (hf : xfit R' maxL R cl sl = true) (hnA : As.length = n) (hst : st0 = As.reverse ++ .ref b :: rest) (hW : Nat.ble (rest.map fun v => v.category).sum 8 = true) (k : xL cc nL own nm ret R X lv (r'.1.toList ++ rest) r'.2.1 r'.2.2 (cl + R'.cells) (sl + R'.slots) pc' r) : xL cc nL own nm ret R X lv (st0) w sz cl sl pc r := by
  obtain ⟨hd, rfl⟩ := hd
  obtain ⟨hf1, hf2⟩ := xfit_of hf
  exact fun p e s m below meth c H locs ls Z hm hn hr hk J hl => xg_go (va_runIN (b := b) (As := As) (n := n) ⟨Z.1, Z.2.1, hm, Z.2.2.1, Z.2.2.2.1⟩ hM ⟨va_cnB n Z.2.2.2.1 (xgood hy.1) rfl rfl rfl (Z.2.2.2.2.2.1 _ hw) (Z.2.2.2.1 _ hy.2.2.1) hy.2.2.2.1 hf1, hy.2.2.2.2, Z.2.2.2.1 _ hy.2.1⟩ (xg_pre Z J) rfl hnA hl.1 hst (lv_room (Nat.le_of_ble_eq_true hW)) hd hf2) J (fun H locs J => k p e s m below meth c H locs ls Z hm hn hr hk J hl)
theorem vxo_S_I0 {rest st0 : List Value} (As : List Value) {y : MethodName} {bytes : ByteArray} {maxL n index : Nat} {ret' : Option FieldType} {R' : Room} {o : Option (Int32)} {g : Int32 → Option ρ} (hd : xD cc pc (.invokestatic index) 3 pc') (hw : Cond.methodLink own index y ∈ xT) (hy : xYS y bytes maxL ret' n) (h : o.bind g = some ro) (hM : ∀ z, o = some z → xM X.1 y bytes maxL ret' R' X.2.1 X.2.2.1 As w sz (some (.int z), w, sz)) (hf : xfit R' maxL R cl sl = true) (hz : R'.cells = 0 ∧ R'.slots = 0) (hnA : As.length = n) (hst : st0 = As.reverse ++ rest) (hW : Nat.ble (rest.map fun v => v.category).sum 8 = true) (k : ∀ z, g z = some ro → xL cc nL own nm ret R X lv (.int z :: rest) w sz cl sl pc' r) : xL cc nL own nm ret R X lv (st0) w sz cl sl pc r := by
  skip
  obtain ⟨z, e1, h⟩ := xb h
  have kz := k z h
  exact vxc_S (As := As) hd hw hy (hM z e1) hf hnA hst hW (by rw [hz.1, hz.2]; exact kz)
theorem vxo_SN_I0 {host : String} {rest st0 : List Value} (As : List Value) {y : MethodName} {bytes : ByteArray} {maxL n index : Nat} {ret' : Option FieldType} {R' : Room} {o : Option (Int32)} {g : Int32 → Option ρ} (hd : xD cc pc (.invokestatic index) 3 pc') (hw : (own, index, y, host) ∈ xNw) (hy : xYS y bytes maxL ret' n) (h : o.bind g = some ro) (hM : ∀ z, o = some z → xM X.1 y bytes maxL ret' R' X.2.1 X.2.2.1 As w sz (some (.int z), w, sz)) (hf : xfit R' maxL R cl sl = true) (hz : R'.cells = 0 ∧ R'.slots = 0) (hnA : As.length = n) (hst : st0 = As.reverse ++ rest) (hW : Nat.ble (rest.map fun v => v.category).sum 8 = true) (k : ∀ z, g z = some ro → xL cc nL own nm ret R X lv (.int z :: rest) w sz cl sl pc' r) : xL cc nL own nm ret R X lv (st0) w sz cl sl pc r := by
  skip
  obtain ⟨z, e1, h⟩ := xb h
  have kz := k z h
  exact vxc_SN (As := As) hd hw hy (hM z e1) hf hnA hst hW (by rw [hz.1, hz.2]; exact kz)
theorem vxo_V_I0 {rest st0 : List Value} (As : List Value) {y : MethodName} {bytes : ByteArray} {maxL n index : Nat} {b ci N : Nat} {T : u_T} {ty : Nat → FieldType} {ret' : Option FieldType} {R' : Room} {o : Option (Int32)} {g : Int32 → Option ρ} (hd : xD cc pc (.invokevirtual index) 3 pc') (hw : Cond.methodLink own index y ∈ xT) (hy : xYV y bytes maxL ret' n) (h : (xck w b ci).bind (fun _ => o.bind g) = some ro) (K : xC ci y.cls T N ty) (hM : ∀ z, o = some z → xM X.1 y bytes maxL ret' R' X.2.1 X.2.2.1 (.ref b :: As) w sz (some (.int z), w, sz)) (hf : xfit R' maxL R cl sl = true) (hz : R'.cells = 0 ∧ R'.slots = 0) (hnA : As.length = n) (hst : st0 = As.reverse ++ .ref b :: rest) (hW : Nat.ble (rest.map fun v => v.category).sum 8 = true) (k : ∀ z, g z = some ro → xL cc nL own nm ret R X lv (.int z :: rest) w sz cl sl pc' r) : xL cc nL own nm ret R X lv (st0) w sz cl sl pc r := by
  obtain ⟨u, hu, h⟩ := xb h
  obtain ⟨z, e1, h⟩ := xb h
  have kz := k z h
  exact vxc_V (As := As) hd hw hy K hu (hM z e1) hf hnA hst hW (by rw [hz.1, hz.2]; exact kz)
theorem vxo_VN_I0 {host : String} {rest st0 : List Value} (As : List Value) {y : MethodName} {bytes : ByteArray} {maxL n index : Nat} {b ci N : Nat} {T : u_T} {ty : Nat → FieldType} {ret' : Option FieldType} {R' : Room} {o : Option (Int32)} {g : Int32 → Option ρ} (hd : xD cc pc (.invokevirtual index) 3 pc') (hw : (own, index, y, host) ∈ xNw) (hy : xYV y bytes maxL ret' n) (h : (xck w b ci).bind (fun _ => o.bind g) = some ro) (K : xC ci y.cls T N ty) (hM : ∀ z, o = some z → xM X.1 y bytes maxL ret' R' X.2.1 X.2.2.1 (.ref b :: As) w sz (some (.int z), w, sz)) (hf : xfit R' maxL R cl sl = true) (hz : R'.cells = 0 ∧ R'.slots = 0) (hnA : As.length = n) (hst : st0 = As.reverse ++ .ref b :: rest) (hW : Nat.ble (rest.map fun v => v.category).sum 8 = true) (k : ∀ z, g z = some ro → xL cc nL own nm ret R X lv (.int z :: rest) w sz cl sl pc' r) : xL cc nL own nm ret R X lv (st0) w sz cl sl pc r := by
  obtain ⟨u, hu, h⟩ := xb h
  obtain ⟨z, e1, h⟩ := xb h
  have kz := k z h
  exact vxc_VN (As := As) hd hw hy K hu (hM z e1) hf hnA hst hW (by rw [hz.1, hz.2]; exact kz)
theorem vxo_S_IH {rest st0 : List Value} (As : List Value) {y : MethodName} {bytes : ByteArray} {maxL n index : Nat} {ret' : Option FieldType} {R' : Room} {o : Option (Int32 × xw)} {g : Int32 × xw → Option ρ} (hd : xD cc pc (.invokestatic index) 3 pc') (hw : Cond.methodLink own index y ∈ xT) (hy : xYS y bytes maxL ret' n) (h : o.bind g = some ro) (hM : ∀ z, o = some z → xM X.1 y bytes maxL ret' R' X.2.1 X.2.2.1 As w sz (some (.int z.1), z.2, sz)) (hf : xfit R' maxL R cl sl = true) (hz : R'.cells = 0 ∧ R'.slots = 0) (hnA : As.length = n) (hst : st0 = As.reverse ++ rest) (hW : Nat.ble (rest.map fun v => v.category).sum 8 = true) (k : ∀ z, g z = some ro → xL cc nL own nm ret R X lv (.int z.1 :: rest) z.2 sz cl sl pc' r) : xL cc nL own nm ret R X lv (st0) w sz cl sl pc r := by
  skip
  obtain ⟨z, e1, h⟩ := xb h
  have kz := k z h
  exact vxc_S (As := As) hd hw hy (hM z e1) hf hnA hst hW (by rw [hz.1, hz.2]; exact kz)
theorem vxo_SN_IH {host : String} {rest st0 : List Value} (As : List Value) {y : MethodName} {bytes : ByteArray} {maxL n index : Nat} {ret' : Option FieldType} {R' : Room} {o : Option (Int32 × xw)} {g : Int32 × xw → Option ρ} (hd : xD cc pc (.invokestatic index) 3 pc') (hw : (own, index, y, host) ∈ xNw) (hy : xYS y bytes maxL ret' n) (h : o.bind g = some ro) (hM : ∀ z, o = some z → xM X.1 y bytes maxL ret' R' X.2.1 X.2.2.1 As w sz (some (.int z.1), z.2, sz)) (hf : xfit R' maxL R cl sl = true) (hz : R'.cells = 0 ∧ R'.slots = 0) (hnA : As.length = n) (hst : st0 = As.reverse ++ rest) (hW : Nat.ble (rest.map fun v => v.category).sum 8 = true) (k : ∀ z, g z = some ro → xL cc nL own nm ret R X lv (.int z.1 :: rest) z.2 sz cl sl pc' r) : xL cc nL own nm ret R X lv (st0) w sz cl sl pc r := by
  skip
  obtain ⟨z, e1, h⟩ := xb h
  have kz := k z h
  exact vxc_SN (As := As) hd hw hy (hM z e1) hf hnA hst hW (by rw [hz.1, hz.2]; exact kz)
theorem vxo_V_IH {rest st0 : List Value} (As : List Value) {y : MethodName} {bytes : ByteArray} {maxL n index : Nat} {b ci N : Nat} {T : u_T} {ty : Nat → FieldType} {ret' : Option FieldType} {R' : Room} {o : Option (Int32 × xw)} {g : Int32 × xw → Option ρ} (hd : xD cc pc (.invokevirtual index) 3 pc') (hw : Cond.methodLink own index y ∈ xT) (hy : xYV y bytes maxL ret' n) (h : (xck w b ci).bind (fun _ => o.bind g) = some ro) (K : xC ci y.cls T N ty) (hM : ∀ z, o = some z → xM X.1 y bytes maxL ret' R' X.2.1 X.2.2.1 (.ref b :: As) w sz (some (.int z.1), z.2, sz)) (hf : xfit R' maxL R cl sl = true) (hz : R'.cells = 0 ∧ R'.slots = 0) (hnA : As.length = n) (hst : st0 = As.reverse ++ .ref b :: rest) (hW : Nat.ble (rest.map fun v => v.category).sum 8 = true) (k : ∀ z, g z = some ro → xL cc nL own nm ret R X lv (.int z.1 :: rest) z.2 sz cl sl pc' r) : xL cc nL own nm ret R X lv (st0) w sz cl sl pc r := by
  obtain ⟨u, hu, h⟩ := xb h
  obtain ⟨z, e1, h⟩ := xb h
  have kz := k z h
  exact vxc_V (As := As) hd hw hy K hu (hM z e1) hf hnA hst hW (by rw [hz.1, hz.2]; exact kz)
theorem vxo_VN_IH {host : String} {rest st0 : List Value} (As : List Value) {y : MethodName} {bytes : ByteArray} {maxL n index : Nat} {b ci N : Nat} {T : u_T} {ty : Nat → FieldType} {ret' : Option FieldType} {R' : Room} {o : Option (Int32 × xw)} {g : Int32 × xw → Option ρ} (hd : xD cc pc (.invokevirtual index) 3 pc') (hw : (own, index, y, host) ∈ xNw) (hy : xYV y bytes maxL ret' n) (h : (xck w b ci).bind (fun _ => o.bind g) = some ro) (K : xC ci y.cls T N ty) (hM : ∀ z, o = some z → xM X.1 y bytes maxL ret' R' X.2.1 X.2.2.1 (.ref b :: As) w sz (some (.int z.1), z.2, sz)) (hf : xfit R' maxL R cl sl = true) (hz : R'.cells = 0 ∧ R'.slots = 0) (hnA : As.length = n) (hst : st0 = As.reverse ++ .ref b :: rest) (hW : Nat.ble (rest.map fun v => v.category).sum 8 = true) (k : ∀ z, g z = some ro → xL cc nL own nm ret R X lv (.int z.1 :: rest) z.2 sz cl sl pc' r) : xL cc nL own nm ret R X lv (st0) w sz cl sl pc r := by
  obtain ⟨u, hu, h⟩ := xb h
  obtain ⟨z, e1, h⟩ := xb h
  have kz := k z h
  exact vxc_VN (As := As) hd hw hy K hu (hM z e1) hf hnA hst hW (by rw [hz.1, hz.2]; exact kz)
theorem vxo_S_IA {rest st0 : List Value} (As : List Value) {y : MethodName} {bytes : ByteArray} {maxL n index : Nat} {ret' : Option FieldType} {R' : Room} {o : Option (Int32 × xw × Nat)} {g : Int32 × xw × Nat → Option ρ} (hd : xD cc pc (.invokestatic index) 3 pc') (hw : Cond.methodLink own index y ∈ xT) (hy : xYS y bytes maxL ret' n) (h : o.bind g = some ro) (hM : ∀ z, o = some z → xM X.1 y bytes maxL ret' R' X.2.1 X.2.2.1 As w sz (some (.int z.1), z.2.1, z.2.2)) (hf : xfit R' maxL R cl sl = true) (hnA : As.length = n) (hst : st0 = As.reverse ++ rest) (hW : Nat.ble (rest.map fun v => v.category).sum 8 = true) (k : ∀ z, g z = some ro → xL cc nL own nm ret R X lv (.int z.1 :: rest) z.2.1 z.2.2 (cl + R'.cells) (sl + R'.slots) pc' r) : xL cc nL own nm ret R X lv (st0) w sz cl sl pc r := by
  skip
  obtain ⟨z, e1, h⟩ := xb h
  have kz := k z h
  exact vxc_S (As := As) hd hw hy (hM z e1) hf hnA hst hW kz
theorem vxo_SN_IA {host : String} {rest st0 : List Value} (As : List Value) {y : MethodName} {bytes : ByteArray} {maxL n index : Nat} {ret' : Option FieldType} {R' : Room} {o : Option (Int32 × xw × Nat)} {g : Int32 × xw × Nat → Option ρ} (hd : xD cc pc (.invokestatic index) 3 pc') (hw : (own, index, y, host) ∈ xNw) (hy : xYS y bytes maxL ret' n) (h : o.bind g = some ro) (hM : ∀ z, o = some z → xM X.1 y bytes maxL ret' R' X.2.1 X.2.2.1 As w sz (some (.int z.1), z.2.1, z.2.2)) (hf : xfit R' maxL R cl sl = true) (hnA : As.length = n) (hst : st0 = As.reverse ++ rest) (hW : Nat.ble (rest.map fun v => v.category).sum 8 = true) (k : ∀ z, g z = some ro → xL cc nL own nm ret R X lv (.int z.1 :: rest) z.2.1 z.2.2 (cl + R'.cells) (sl + R'.slots) pc' r) : xL cc nL own nm ret R X lv (st0) w sz cl sl pc r := by
  skip
  obtain ⟨z, e1, h⟩ := xb h
  have kz := k z h
  exact vxc_SN (As := As) hd hw hy (hM z e1) hf hnA hst hW kz
theorem vxo_V_IA {rest st0 : List Value} (As : List Value) {y : MethodName} {bytes : ByteArray} {maxL n index : Nat} {b ci N : Nat} {T : u_T} {ty : Nat → FieldType} {ret' : Option FieldType} {R' : Room} {o : Option (Int32 × xw × Nat)} {g : Int32 × xw × Nat → Option ρ} (hd : xD cc pc (.invokevirtual index) 3 pc') (hw : Cond.methodLink own index y ∈ xT) (hy : xYV y bytes maxL ret' n) (h : (xck w b ci).bind (fun _ => o.bind g) = some ro) (K : xC ci y.cls T N ty) (hM : ∀ z, o = some z → xM X.1 y bytes maxL ret' R' X.2.1 X.2.2.1 (.ref b :: As) w sz (some (.int z.1), z.2.1, z.2.2)) (hf : xfit R' maxL R cl sl = true) (hnA : As.length = n) (hst : st0 = As.reverse ++ .ref b :: rest) (hW : Nat.ble (rest.map fun v => v.category).sum 8 = true) (k : ∀ z, g z = some ro → xL cc nL own nm ret R X lv (.int z.1 :: rest) z.2.1 z.2.2 (cl + R'.cells) (sl + R'.slots) pc' r) : xL cc nL own nm ret R X lv (st0) w sz cl sl pc r := by
  obtain ⟨u, hu, h⟩ := xb h
  obtain ⟨z, e1, h⟩ := xb h
  have kz := k z h
  exact vxc_V (As := As) hd hw hy K hu (hM z e1) hf hnA hst hW kz
theorem vxo_VN_IA {host : String} {rest st0 : List Value} (As : List Value) {y : MethodName} {bytes : ByteArray} {maxL n index : Nat} {b ci N : Nat} {T : u_T} {ty : Nat → FieldType} {ret' : Option FieldType} {R' : Room} {o : Option (Int32 × xw × Nat)} {g : Int32 × xw × Nat → Option ρ} (hd : xD cc pc (.invokevirtual index) 3 pc') (hw : (own, index, y, host) ∈ xNw) (hy : xYV y bytes maxL ret' n) (h : (xck w b ci).bind (fun _ => o.bind g) = some ro) (K : xC ci y.cls T N ty) (hM : ∀ z, o = some z → xM X.1 y bytes maxL ret' R' X.2.1 X.2.2.1 (.ref b :: As) w sz (some (.int z.1), z.2.1, z.2.2)) (hf : xfit R' maxL R cl sl = true) (hnA : As.length = n) (hst : st0 = As.reverse ++ .ref b :: rest) (hW : Nat.ble (rest.map fun v => v.category).sum 8 = true) (k : ∀ z, g z = some ro → xL cc nL own nm ret R X lv (.int z.1 :: rest) z.2.1 z.2.2 (cl + R'.cells) (sl + R'.slots) pc' r) : xL cc nL own nm ret R X lv (st0) w sz cl sl pc r := by
  obtain ⟨u, hu, h⟩ := xb h
  obtain ⟨z, e1, h⟩ := xb h
  have kz := k z h
  exact vxc_VN (As := As) hd hw hy K hu (hM z e1) hf hnA hst hW kz
theorem vxo_S_L0 {rest st0 : List Value} (As : List Value) {y : MethodName} {bytes : ByteArray} {maxL n index : Nat} {ret' : Option FieldType} {R' : Room} {o : Option (Int64)} {g : Int64 → Option ρ} (hd : xD cc pc (.invokestatic index) 3 pc') (hw : Cond.methodLink own index y ∈ xT) (hy : xYS y bytes maxL ret' n) (h : o.bind g = some ro) (hM : ∀ z, o = some z → xM X.1 y bytes maxL ret' R' X.2.1 X.2.2.1 As w sz (some (.long z), w, sz)) (hf : xfit R' maxL R cl sl = true) (hz : R'.cells = 0 ∧ R'.slots = 0) (hnA : As.length = n) (hst : st0 = As.reverse ++ rest) (hW : Nat.ble (rest.map fun v => v.category).sum 8 = true) (k : ∀ z, g z = some ro → xL cc nL own nm ret R X lv (.long z :: rest) w sz cl sl pc' r) : xL cc nL own nm ret R X lv (st0) w sz cl sl pc r := by
  skip
  obtain ⟨z, e1, h⟩ := xb h
  have kz := k z h
  exact vxc_S (As := As) hd hw hy (hM z e1) hf hnA hst hW (by rw [hz.1, hz.2]; exact kz)
theorem vxo_SN_L0 {host : String} {rest st0 : List Value} (As : List Value) {y : MethodName} {bytes : ByteArray} {maxL n index : Nat} {ret' : Option FieldType} {R' : Room} {o : Option (Int64)} {g : Int64 → Option ρ} (hd : xD cc pc (.invokestatic index) 3 pc') (hw : (own, index, y, host) ∈ xNw) (hy : xYS y bytes maxL ret' n) (h : o.bind g = some ro) (hM : ∀ z, o = some z → xM X.1 y bytes maxL ret' R' X.2.1 X.2.2.1 As w sz (some (.long z), w, sz)) (hf : xfit R' maxL R cl sl = true) (hz : R'.cells = 0 ∧ R'.slots = 0) (hnA : As.length = n) (hst : st0 = As.reverse ++ rest) (hW : Nat.ble (rest.map fun v => v.category).sum 8 = true) (k : ∀ z, g z = some ro → xL cc nL own nm ret R X lv (.long z :: rest) w sz cl sl pc' r) : xL cc nL own nm ret R X lv (st0) w sz cl sl pc r := by
  skip
  obtain ⟨z, e1, h⟩ := xb h
  have kz := k z h
  exact vxc_SN (As := As) hd hw hy (hM z e1) hf hnA hst hW (by rw [hz.1, hz.2]; exact kz)
theorem vxo_V_L0 {rest st0 : List Value} (As : List Value) {y : MethodName} {bytes : ByteArray} {maxL n index : Nat} {b ci N : Nat} {T : u_T} {ty : Nat → FieldType} {ret' : Option FieldType} {R' : Room} {o : Option (Int64)} {g : Int64 → Option ρ} (hd : xD cc pc (.invokevirtual index) 3 pc') (hw : Cond.methodLink own index y ∈ xT) (hy : xYV y bytes maxL ret' n) (h : (xck w b ci).bind (fun _ => o.bind g) = some ro) (K : xC ci y.cls T N ty) (hM : ∀ z, o = some z → xM X.1 y bytes maxL ret' R' X.2.1 X.2.2.1 (.ref b :: As) w sz (some (.long z), w, sz)) (hf : xfit R' maxL R cl sl = true) (hz : R'.cells = 0 ∧ R'.slots = 0) (hnA : As.length = n) (hst : st0 = As.reverse ++ .ref b :: rest) (hW : Nat.ble (rest.map fun v => v.category).sum 8 = true) (k : ∀ z, g z = some ro → xL cc nL own nm ret R X lv (.long z :: rest) w sz cl sl pc' r) : xL cc nL own nm ret R X lv (st0) w sz cl sl pc r := by
  obtain ⟨u, hu, h⟩ := xb h
  obtain ⟨z, e1, h⟩ := xb h
  have kz := k z h
  exact vxc_V (As := As) hd hw hy K hu (hM z e1) hf hnA hst hW (by rw [hz.1, hz.2]; exact kz)
theorem vxo_VN_L0 {host : String} {rest st0 : List Value} (As : List Value) {y : MethodName} {bytes : ByteArray} {maxL n index : Nat} {b ci N : Nat} {T : u_T} {ty : Nat → FieldType} {ret' : Option FieldType} {R' : Room} {o : Option (Int64)} {g : Int64 → Option ρ} (hd : xD cc pc (.invokevirtual index) 3 pc') (hw : (own, index, y, host) ∈ xNw) (hy : xYV y bytes maxL ret' n) (h : (xck w b ci).bind (fun _ => o.bind g) = some ro) (K : xC ci y.cls T N ty) (hM : ∀ z, o = some z → xM X.1 y bytes maxL ret' R' X.2.1 X.2.2.1 (.ref b :: As) w sz (some (.long z), w, sz)) (hf : xfit R' maxL R cl sl = true) (hz : R'.cells = 0 ∧ R'.slots = 0) (hnA : As.length = n) (hst : st0 = As.reverse ++ .ref b :: rest) (hW : Nat.ble (rest.map fun v => v.category).sum 8 = true) (k : ∀ z, g z = some ro → xL cc nL own nm ret R X lv (.long z :: rest) w sz cl sl pc' r) : xL cc nL own nm ret R X lv (st0) w sz cl sl pc r := by
  obtain ⟨u, hu, h⟩ := xb h
  obtain ⟨z, e1, h⟩ := xb h
  have kz := k z h
  exact vxc_VN (As := As) hd hw hy K hu (hM z e1) hf hnA hst hW (by rw [hz.1, hz.2]; exact kz)
theorem vxo_S_LH {rest st0 : List Value} (As : List Value) {y : MethodName} {bytes : ByteArray} {maxL n index : Nat} {ret' : Option FieldType} {R' : Room} {o : Option (Int64 × xw)} {g : Int64 × xw → Option ρ} (hd : xD cc pc (.invokestatic index) 3 pc') (hw : Cond.methodLink own index y ∈ xT) (hy : xYS y bytes maxL ret' n) (h : o.bind g = some ro) (hM : ∀ z, o = some z → xM X.1 y bytes maxL ret' R' X.2.1 X.2.2.1 As w sz (some (.long z.1), z.2, sz)) (hf : xfit R' maxL R cl sl = true) (hz : R'.cells = 0 ∧ R'.slots = 0) (hnA : As.length = n) (hst : st0 = As.reverse ++ rest) (hW : Nat.ble (rest.map fun v => v.category).sum 8 = true) (k : ∀ z, g z = some ro → xL cc nL own nm ret R X lv (.long z.1 :: rest) z.2 sz cl sl pc' r) : xL cc nL own nm ret R X lv (st0) w sz cl sl pc r := by
  skip
  obtain ⟨z, e1, h⟩ := xb h
  have kz := k z h
  exact vxc_S (As := As) hd hw hy (hM z e1) hf hnA hst hW (by rw [hz.1, hz.2]; exact kz)
theorem vxo_SN_LH {host : String} {rest st0 : List Value} (As : List Value) {y : MethodName} {bytes : ByteArray} {maxL n index : Nat} {ret' : Option FieldType} {R' : Room} {o : Option (Int64 × xw)} {g : Int64 × xw → Option ρ} (hd : xD cc pc (.invokestatic index) 3 pc') (hw : (own, index, y, host) ∈ xNw) (hy : xYS y bytes maxL ret' n) (h : o.bind g = some ro) (hM : ∀ z, o = some z → xM X.1 y bytes maxL ret' R' X.2.1 X.2.2.1 As w sz (some (.long z.1), z.2, sz)) (hf : xfit R' maxL R cl sl = true) (hz : R'.cells = 0 ∧ R'.slots = 0) (hnA : As.length = n) (hst : st0 = As.reverse ++ rest) (hW : Nat.ble (rest.map fun v => v.category).sum 8 = true) (k : ∀ z, g z = some ro → xL cc nL own nm ret R X lv (.long z.1 :: rest) z.2 sz cl sl pc' r) : xL cc nL own nm ret R X lv (st0) w sz cl sl pc r := by
  skip
  obtain ⟨z, e1, h⟩ := xb h
  have kz := k z h
  exact vxc_SN (As := As) hd hw hy (hM z e1) hf hnA hst hW (by rw [hz.1, hz.2]; exact kz)
theorem vxo_V_LH {rest st0 : List Value} (As : List Value) {y : MethodName} {bytes : ByteArray} {maxL n index : Nat} {b ci N : Nat} {T : u_T} {ty : Nat → FieldType} {ret' : Option FieldType} {R' : Room} {o : Option (Int64 × xw)} {g : Int64 × xw → Option ρ} (hd : xD cc pc (.invokevirtual index) 3 pc') (hw : Cond.methodLink own index y ∈ xT) (hy : xYV y bytes maxL ret' n) (h : (xck w b ci).bind (fun _ => o.bind g) = some ro) (K : xC ci y.cls T N ty) (hM : ∀ z, o = some z → xM X.1 y bytes maxL ret' R' X.2.1 X.2.2.1 (.ref b :: As) w sz (some (.long z.1), z.2, sz)) (hf : xfit R' maxL R cl sl = true) (hz : R'.cells = 0 ∧ R'.slots = 0) (hnA : As.length = n) (hst : st0 = As.reverse ++ .ref b :: rest) (hW : Nat.ble (rest.map fun v => v.category).sum 8 = true) (k : ∀ z, g z = some ro → xL cc nL own nm ret R X lv (.long z.1 :: rest) z.2 sz cl sl pc' r) : xL cc nL own nm ret R X lv (st0) w sz cl sl pc r := by
  obtain ⟨u, hu, h⟩ := xb h
  obtain ⟨z, e1, h⟩ := xb h
  have kz := k z h
  exact vxc_V (As := As) hd hw hy K hu (hM z e1) hf hnA hst hW (by rw [hz.1, hz.2]; exact kz)
theorem vxo_VN_LH {host : String} {rest st0 : List Value} (As : List Value) {y : MethodName} {bytes : ByteArray} {maxL n index : Nat} {b ci N : Nat} {T : u_T} {ty : Nat → FieldType} {ret' : Option FieldType} {R' : Room} {o : Option (Int64 × xw)} {g : Int64 × xw → Option ρ} (hd : xD cc pc (.invokevirtual index) 3 pc') (hw : (own, index, y, host) ∈ xNw) (hy : xYV y bytes maxL ret' n) (h : (xck w b ci).bind (fun _ => o.bind g) = some ro) (K : xC ci y.cls T N ty) (hM : ∀ z, o = some z → xM X.1 y bytes maxL ret' R' X.2.1 X.2.2.1 (.ref b :: As) w sz (some (.long z.1), z.2, sz)) (hf : xfit R' maxL R cl sl = true) (hz : R'.cells = 0 ∧ R'.slots = 0) (hnA : As.length = n) (hst : st0 = As.reverse ++ .ref b :: rest) (hW : Nat.ble (rest.map fun v => v.category).sum 8 = true) (k : ∀ z, g z = some ro → xL cc nL own nm ret R X lv (.long z.1 :: rest) z.2 sz cl sl pc' r) : xL cc nL own nm ret R X lv (st0) w sz cl sl pc r := by
  obtain ⟨u, hu, h⟩ := xb h
  obtain ⟨z, e1, h⟩ := xb h
  have kz := k z h
  exact vxc_VN (As := As) hd hw hy K hu (hM z e1) hf hnA hst hW (by rw [hz.1, hz.2]; exact kz)
theorem vxo_S_LA {rest st0 : List Value} (As : List Value) {y : MethodName} {bytes : ByteArray} {maxL n index : Nat} {ret' : Option FieldType} {R' : Room} {o : Option (Int64 × xw × Nat)} {g : Int64 × xw × Nat → Option ρ} (hd : xD cc pc (.invokestatic index) 3 pc') (hw : Cond.methodLink own index y ∈ xT) (hy : xYS y bytes maxL ret' n) (h : o.bind g = some ro) (hM : ∀ z, o = some z → xM X.1 y bytes maxL ret' R' X.2.1 X.2.2.1 As w sz (some (.long z.1), z.2.1, z.2.2)) (hf : xfit R' maxL R cl sl = true) (hnA : As.length = n) (hst : st0 = As.reverse ++ rest) (hW : Nat.ble (rest.map fun v => v.category).sum 8 = true) (k : ∀ z, g z = some ro → xL cc nL own nm ret R X lv (.long z.1 :: rest) z.2.1 z.2.2 (cl + R'.cells) (sl + R'.slots) pc' r) : xL cc nL own nm ret R X lv (st0) w sz cl sl pc r := by
  skip
  obtain ⟨z, e1, h⟩ := xb h
  have kz := k z h
  exact vxc_S (As := As) hd hw hy (hM z e1) hf hnA hst hW kz
theorem vxo_SN_LA {host : String} {rest st0 : List Value} (As : List Value) {y : MethodName} {bytes : ByteArray} {maxL n index : Nat} {ret' : Option FieldType} {R' : Room} {o : Option (Int64 × xw × Nat)} {g : Int64 × xw × Nat → Option ρ} (hd : xD cc pc (.invokestatic index) 3 pc') (hw : (own, index, y, host) ∈ xNw) (hy : xYS y bytes maxL ret' n) (h : o.bind g = some ro) (hM : ∀ z, o = some z → xM X.1 y bytes maxL ret' R' X.2.1 X.2.2.1 As w sz (some (.long z.1), z.2.1, z.2.2)) (hf : xfit R' maxL R cl sl = true) (hnA : As.length = n) (hst : st0 = As.reverse ++ rest) (hW : Nat.ble (rest.map fun v => v.category).sum 8 = true) (k : ∀ z, g z = some ro → xL cc nL own nm ret R X lv (.long z.1 :: rest) z.2.1 z.2.2 (cl + R'.cells) (sl + R'.slots) pc' r) : xL cc nL own nm ret R X lv (st0) w sz cl sl pc r := by
  skip
  obtain ⟨z, e1, h⟩ := xb h
  have kz := k z h
  exact vxc_SN (As := As) hd hw hy (hM z e1) hf hnA hst hW kz
theorem vxo_V_LA {rest st0 : List Value} (As : List Value) {y : MethodName} {bytes : ByteArray} {maxL n index : Nat} {b ci N : Nat} {T : u_T} {ty : Nat → FieldType} {ret' : Option FieldType} {R' : Room} {o : Option (Int64 × xw × Nat)} {g : Int64 × xw × Nat → Option ρ} (hd : xD cc pc (.invokevirtual index) 3 pc') (hw : Cond.methodLink own index y ∈ xT) (hy : xYV y bytes maxL ret' n) (h : (xck w b ci).bind (fun _ => o.bind g) = some ro) (K : xC ci y.cls T N ty) (hM : ∀ z, o = some z → xM X.1 y bytes maxL ret' R' X.2.1 X.2.2.1 (.ref b :: As) w sz (some (.long z.1), z.2.1, z.2.2)) (hf : xfit R' maxL R cl sl = true) (hnA : As.length = n) (hst : st0 = As.reverse ++ .ref b :: rest) (hW : Nat.ble (rest.map fun v => v.category).sum 8 = true) (k : ∀ z, g z = some ro → xL cc nL own nm ret R X lv (.long z.1 :: rest) z.2.1 z.2.2 (cl + R'.cells) (sl + R'.slots) pc' r) : xL cc nL own nm ret R X lv (st0) w sz cl sl pc r := by
  obtain ⟨u, hu, h⟩ := xb h
  obtain ⟨z, e1, h⟩ := xb h
  have kz := k z h
  exact vxc_V (As := As) hd hw hy K hu (hM z e1) hf hnA hst hW kz
theorem vxo_VN_LA {host : String} {rest st0 : List Value} (As : List Value) {y : MethodName} {bytes : ByteArray} {maxL n index : Nat} {b ci N : Nat} {T : u_T} {ty : Nat → FieldType} {ret' : Option FieldType} {R' : Room} {o : Option (Int64 × xw × Nat)} {g : Int64 × xw × Nat → Option ρ} (hd : xD cc pc (.invokevirtual index) 3 pc') (hw : (own, index, y, host) ∈ xNw) (hy : xYV y bytes maxL ret' n) (h : (xck w b ci).bind (fun _ => o.bind g) = some ro) (K : xC ci y.cls T N ty) (hM : ∀ z, o = some z → xM X.1 y bytes maxL ret' R' X.2.1 X.2.2.1 (.ref b :: As) w sz (some (.long z.1), z.2.1, z.2.2)) (hf : xfit R' maxL R cl sl = true) (hnA : As.length = n) (hst : st0 = As.reverse ++ .ref b :: rest) (hW : Nat.ble (rest.map fun v => v.category).sum 8 = true) (k : ∀ z, g z = some ro → xL cc nL own nm ret R X lv (.long z.1 :: rest) z.2.1 z.2.2 (cl + R'.cells) (sl + R'.slots) pc' r) : xL cc nL own nm ret R X lv (st0) w sz cl sl pc r := by
  obtain ⟨u, hu, h⟩ := xb h
  obtain ⟨z, e1, h⟩ := xb h
  have kz := k z h
  exact vxc_VN (As := As) hd hw hy K hu (hM z e1) hf hnA hst hW kz
theorem vxo_S_R0 {rest st0 : List Value} (As : List Value) {y : MethodName} {bytes : ByteArray} {maxL n index : Nat} {ret' : Option FieldType} {R' : Room} {o : Option (Nat)} {g : Nat → Option ρ} (hd : xD cc pc (.invokestatic index) 3 pc') (hw : Cond.methodLink own index y ∈ xT) (hy : xYS y bytes maxL ret' n) (h : o.bind g = some ro) (hM : ∀ z, o = some z → xM X.1 y bytes maxL ret' R' X.2.1 X.2.2.1 As w sz (some (.ref z), w, sz)) (hf : xfit R' maxL R cl sl = true) (hz : R'.cells = 0 ∧ R'.slots = 0) (hnA : As.length = n) (hst : st0 = As.reverse ++ rest) (hW : Nat.ble (rest.map fun v => v.category).sum 8 = true) (k : ∀ z, g z = some ro → xL cc nL own nm ret R X lv (.ref z :: rest) w sz cl sl pc' r) : xL cc nL own nm ret R X lv (st0) w sz cl sl pc r := by
  skip
  obtain ⟨z, e1, h⟩ := xb h
  have kz := k z h
  exact vxc_S (As := As) hd hw hy (hM z e1) hf hnA hst hW (by rw [hz.1, hz.2]; exact kz)
theorem vxo_SN_R0 {host : String} {rest st0 : List Value} (As : List Value) {y : MethodName} {bytes : ByteArray} {maxL n index : Nat} {ret' : Option FieldType} {R' : Room} {o : Option (Nat)} {g : Nat → Option ρ} (hd : xD cc pc (.invokestatic index) 3 pc') (hw : (own, index, y, host) ∈ xNw) (hy : xYS y bytes maxL ret' n) (h : o.bind g = some ro) (hM : ∀ z, o = some z → xM X.1 y bytes maxL ret' R' X.2.1 X.2.2.1 As w sz (some (.ref z), w, sz)) (hf : xfit R' maxL R cl sl = true) (hz : R'.cells = 0 ∧ R'.slots = 0) (hnA : As.length = n) (hst : st0 = As.reverse ++ rest) (hW : Nat.ble (rest.map fun v => v.category).sum 8 = true) (k : ∀ z, g z = some ro → xL cc nL own nm ret R X lv (.ref z :: rest) w sz cl sl pc' r) : xL cc nL own nm ret R X lv (st0) w sz cl sl pc r := by
  skip
  obtain ⟨z, e1, h⟩ := xb h
  have kz := k z h
  exact vxc_SN (As := As) hd hw hy (hM z e1) hf hnA hst hW (by rw [hz.1, hz.2]; exact kz)
theorem vxo_V_R0 {rest st0 : List Value} (As : List Value) {y : MethodName} {bytes : ByteArray} {maxL n index : Nat} {b ci N : Nat} {T : u_T} {ty : Nat → FieldType} {ret' : Option FieldType} {R' : Room} {o : Option (Nat)} {g : Nat → Option ρ} (hd : xD cc pc (.invokevirtual index) 3 pc') (hw : Cond.methodLink own index y ∈ xT) (hy : xYV y bytes maxL ret' n) (h : (xck w b ci).bind (fun _ => o.bind g) = some ro) (K : xC ci y.cls T N ty) (hM : ∀ z, o = some z → xM X.1 y bytes maxL ret' R' X.2.1 X.2.2.1 (.ref b :: As) w sz (some (.ref z), w, sz)) (hf : xfit R' maxL R cl sl = true) (hz : R'.cells = 0 ∧ R'.slots = 0) (hnA : As.length = n) (hst : st0 = As.reverse ++ .ref b :: rest) (hW : Nat.ble (rest.map fun v => v.category).sum 8 = true) (k : ∀ z, g z = some ro → xL cc nL own nm ret R X lv (.ref z :: rest) w sz cl sl pc' r) : xL cc nL own nm ret R X lv (st0) w sz cl sl pc r := by
  obtain ⟨u, hu, h⟩ := xb h
  obtain ⟨z, e1, h⟩ := xb h
  have kz := k z h
  exact vxc_V (As := As) hd hw hy K hu (hM z e1) hf hnA hst hW (by rw [hz.1, hz.2]; exact kz)
theorem vxo_VN_R0 {host : String} {rest st0 : List Value} (As : List Value) {y : MethodName} {bytes : ByteArray} {maxL n index : Nat} {b ci N : Nat} {T : u_T} {ty : Nat → FieldType} {ret' : Option FieldType} {R' : Room} {o : Option (Nat)} {g : Nat → Option ρ} (hd : xD cc pc (.invokevirtual index) 3 pc') (hw : (own, index, y, host) ∈ xNw) (hy : xYV y bytes maxL ret' n) (h : (xck w b ci).bind (fun _ => o.bind g) = some ro) (K : xC ci y.cls T N ty) (hM : ∀ z, o = some z → xM X.1 y bytes maxL ret' R' X.2.1 X.2.2.1 (.ref b :: As) w sz (some (.ref z), w, sz)) (hf : xfit R' maxL R cl sl = true) (hz : R'.cells = 0 ∧ R'.slots = 0) (hnA : As.length = n) (hst : st0 = As.reverse ++ .ref b :: rest) (hW : Nat.ble (rest.map fun v => v.category).sum 8 = true) (k : ∀ z, g z = some ro → xL cc nL own nm ret R X lv (.ref z :: rest) w sz cl sl pc' r) : xL cc nL own nm ret R X lv (st0) w sz cl sl pc r := by
  obtain ⟨u, hu, h⟩ := xb h
  obtain ⟨z, e1, h⟩ := xb h
  have kz := k z h
  exact vxc_VN (As := As) hd hw hy K hu (hM z e1) hf hnA hst hW (by rw [hz.1, hz.2]; exact kz)
theorem vxo_S_RH {rest st0 : List Value} (As : List Value) {y : MethodName} {bytes : ByteArray} {maxL n index : Nat} {ret' : Option FieldType} {R' : Room} {o : Option (Nat × xw)} {g : Nat × xw → Option ρ} (hd : xD cc pc (.invokestatic index) 3 pc') (hw : Cond.methodLink own index y ∈ xT) (hy : xYS y bytes maxL ret' n) (h : o.bind g = some ro) (hM : ∀ z, o = some z → xM X.1 y bytes maxL ret' R' X.2.1 X.2.2.1 As w sz (some (.ref z.1), z.2, sz)) (hf : xfit R' maxL R cl sl = true) (hz : R'.cells = 0 ∧ R'.slots = 0) (hnA : As.length = n) (hst : st0 = As.reverse ++ rest) (hW : Nat.ble (rest.map fun v => v.category).sum 8 = true) (k : ∀ z, g z = some ro → xL cc nL own nm ret R X lv (.ref z.1 :: rest) z.2 sz cl sl pc' r) : xL cc nL own nm ret R X lv (st0) w sz cl sl pc r := by
  skip
  obtain ⟨z, e1, h⟩ := xb h
  have kz := k z h
  exact vxc_S (As := As) hd hw hy (hM z e1) hf hnA hst hW (by rw [hz.1, hz.2]; exact kz)
theorem vxo_SN_RH {host : String} {rest st0 : List Value} (As : List Value) {y : MethodName} {bytes : ByteArray} {maxL n index : Nat} {ret' : Option FieldType} {R' : Room} {o : Option (Nat × xw)} {g : Nat × xw → Option ρ} (hd : xD cc pc (.invokestatic index) 3 pc') (hw : (own, index, y, host) ∈ xNw) (hy : xYS y bytes maxL ret' n) (h : o.bind g = some ro) (hM : ∀ z, o = some z → xM X.1 y bytes maxL ret' R' X.2.1 X.2.2.1 As w sz (some (.ref z.1), z.2, sz)) (hf : xfit R' maxL R cl sl = true) (hz : R'.cells = 0 ∧ R'.slots = 0) (hnA : As.length = n) (hst : st0 = As.reverse ++ rest) (hW : Nat.ble (rest.map fun v => v.category).sum 8 = true) (k : ∀ z, g z = some ro → xL cc nL own nm ret R X lv (.ref z.1 :: rest) z.2 sz cl sl pc' r) : xL cc nL own nm ret R X lv (st0) w sz cl sl pc r := by
  skip
  obtain ⟨z, e1, h⟩ := xb h
  have kz := k z h
  exact vxc_SN (As := As) hd hw hy (hM z e1) hf hnA hst hW (by rw [hz.1, hz.2]; exact kz)
theorem vxo_V_RH {rest st0 : List Value} (As : List Value) {y : MethodName} {bytes : ByteArray} {maxL n index : Nat} {b ci N : Nat} {T : u_T} {ty : Nat → FieldType} {ret' : Option FieldType} {R' : Room} {o : Option (Nat × xw)} {g : Nat × xw → Option ρ} (hd : xD cc pc (.invokevirtual index) 3 pc') (hw : Cond.methodLink own index y ∈ xT) (hy : xYV y bytes maxL ret' n) (h : (xck w b ci).bind (fun _ => o.bind g) = some ro) (K : xC ci y.cls T N ty) (hM : ∀ z, o = some z → xM X.1 y bytes maxL ret' R' X.2.1 X.2.2.1 (.ref b :: As) w sz (some (.ref z.1), z.2, sz)) (hf : xfit R' maxL R cl sl = true) (hz : R'.cells = 0 ∧ R'.slots = 0) (hnA : As.length = n) (hst : st0 = As.reverse ++ .ref b :: rest) (hW : Nat.ble (rest.map fun v => v.category).sum 8 = true) (k : ∀ z, g z = some ro → xL cc nL own nm ret R X lv (.ref z.1 :: rest) z.2 sz cl sl pc' r) : xL cc nL own nm ret R X lv (st0) w sz cl sl pc r := by
  obtain ⟨u, hu, h⟩ := xb h
  obtain ⟨z, e1, h⟩ := xb h
  have kz := k z h
  exact vxc_V (As := As) hd hw hy K hu (hM z e1) hf hnA hst hW (by rw [hz.1, hz.2]; exact kz)
theorem vxo_VN_RH {host : String} {rest st0 : List Value} (As : List Value) {y : MethodName} {bytes : ByteArray} {maxL n index : Nat} {b ci N : Nat} {T : u_T} {ty : Nat → FieldType} {ret' : Option FieldType} {R' : Room} {o : Option (Nat × xw)} {g : Nat × xw → Option ρ} (hd : xD cc pc (.invokevirtual index) 3 pc') (hw : (own, index, y, host) ∈ xNw) (hy : xYV y bytes maxL ret' n) (h : (xck w b ci).bind (fun _ => o.bind g) = some ro) (K : xC ci y.cls T N ty) (hM : ∀ z, o = some z → xM X.1 y bytes maxL ret' R' X.2.1 X.2.2.1 (.ref b :: As) w sz (some (.ref z.1), z.2, sz)) (hf : xfit R' maxL R cl sl = true) (hz : R'.cells = 0 ∧ R'.slots = 0) (hnA : As.length = n) (hst : st0 = As.reverse ++ .ref b :: rest) (hW : Nat.ble (rest.map fun v => v.category).sum 8 = true) (k : ∀ z, g z = some ro → xL cc nL own nm ret R X lv (.ref z.1 :: rest) z.2 sz cl sl pc' r) : xL cc nL own nm ret R X lv (st0) w sz cl sl pc r := by
  obtain ⟨u, hu, h⟩ := xb h
  obtain ⟨z, e1, h⟩ := xb h
  have kz := k z h
  exact vxc_VN (As := As) hd hw hy K hu (hM z e1) hf hnA hst hW (by rw [hz.1, hz.2]; exact kz)
theorem vxo_S_RA {rest st0 : List Value} (As : List Value) {y : MethodName} {bytes : ByteArray} {maxL n index : Nat} {ret' : Option FieldType} {R' : Room} {o : Option (Nat × xw × Nat)} {g : Nat × xw × Nat → Option ρ} (hd : xD cc pc (.invokestatic index) 3 pc') (hw : Cond.methodLink own index y ∈ xT) (hy : xYS y bytes maxL ret' n) (h : o.bind g = some ro) (hM : ∀ z, o = some z → xM X.1 y bytes maxL ret' R' X.2.1 X.2.2.1 As w sz (some (.ref z.1), z.2.1, z.2.2)) (hf : xfit R' maxL R cl sl = true) (hnA : As.length = n) (hst : st0 = As.reverse ++ rest) (hW : Nat.ble (rest.map fun v => v.category).sum 8 = true) (k : ∀ z, g z = some ro → xL cc nL own nm ret R X lv (.ref z.1 :: rest) z.2.1 z.2.2 (cl + R'.cells) (sl + R'.slots) pc' r) : xL cc nL own nm ret R X lv (st0) w sz cl sl pc r := by
  skip
  obtain ⟨z, e1, h⟩ := xb h
  have kz := k z h
  exact vxc_S (As := As) hd hw hy (hM z e1) hf hnA hst hW kz
theorem vxo_SN_RA {host : String} {rest st0 : List Value} (As : List Value) {y : MethodName} {bytes : ByteArray} {maxL n index : Nat} {ret' : Option FieldType} {R' : Room} {o : Option (Nat × xw × Nat)} {g : Nat × xw × Nat → Option ρ} (hd : xD cc pc (.invokestatic index) 3 pc') (hw : (own, index, y, host) ∈ xNw) (hy : xYS y bytes maxL ret' n) (h : o.bind g = some ro) (hM : ∀ z, o = some z → xM X.1 y bytes maxL ret' R' X.2.1 X.2.2.1 As w sz (some (.ref z.1), z.2.1, z.2.2)) (hf : xfit R' maxL R cl sl = true) (hnA : As.length = n) (hst : st0 = As.reverse ++ rest) (hW : Nat.ble (rest.map fun v => v.category).sum 8 = true) (k : ∀ z, g z = some ro → xL cc nL own nm ret R X lv (.ref z.1 :: rest) z.2.1 z.2.2 (cl + R'.cells) (sl + R'.slots) pc' r) : xL cc nL own nm ret R X lv (st0) w sz cl sl pc r := by
  skip
  obtain ⟨z, e1, h⟩ := xb h
  have kz := k z h
  exact vxc_SN (As := As) hd hw hy (hM z e1) hf hnA hst hW kz
theorem vxo_V_RA {rest st0 : List Value} (As : List Value) {y : MethodName} {bytes : ByteArray} {maxL n index : Nat} {b ci N : Nat} {T : u_T} {ty : Nat → FieldType} {ret' : Option FieldType} {R' : Room} {o : Option (Nat × xw × Nat)} {g : Nat × xw × Nat → Option ρ} (hd : xD cc pc (.invokevirtual index) 3 pc') (hw : Cond.methodLink own index y ∈ xT) (hy : xYV y bytes maxL ret' n) (h : (xck w b ci).bind (fun _ => o.bind g) = some ro) (K : xC ci y.cls T N ty) (hM : ∀ z, o = some z → xM X.1 y bytes maxL ret' R' X.2.1 X.2.2.1 (.ref b :: As) w sz (some (.ref z.1), z.2.1, z.2.2)) (hf : xfit R' maxL R cl sl = true) (hnA : As.length = n) (hst : st0 = As.reverse ++ .ref b :: rest) (hW : Nat.ble (rest.map fun v => v.category).sum 8 = true) (k : ∀ z, g z = some ro → xL cc nL own nm ret R X lv (.ref z.1 :: rest) z.2.1 z.2.2 (cl + R'.cells) (sl + R'.slots) pc' r) : xL cc nL own nm ret R X lv (st0) w sz cl sl pc r := by
  obtain ⟨u, hu, h⟩ := xb h
  obtain ⟨z, e1, h⟩ := xb h
  have kz := k z h
  exact vxc_V (As := As) hd hw hy K hu (hM z e1) hf hnA hst hW kz
theorem vxo_VN_RA {host : String} {rest st0 : List Value} (As : List Value) {y : MethodName} {bytes : ByteArray} {maxL n index : Nat} {b ci N : Nat} {T : u_T} {ty : Nat → FieldType} {ret' : Option FieldType} {R' : Room} {o : Option (Nat × xw × Nat)} {g : Nat × xw × Nat → Option ρ} (hd : xD cc pc (.invokevirtual index) 3 pc') (hw : (own, index, y, host) ∈ xNw) (hy : xYV y bytes maxL ret' n) (h : (xck w b ci).bind (fun _ => o.bind g) = some ro) (K : xC ci y.cls T N ty) (hM : ∀ z, o = some z → xM X.1 y bytes maxL ret' R' X.2.1 X.2.2.1 (.ref b :: As) w sz (some (.ref z.1), z.2.1, z.2.2)) (hf : xfit R' maxL R cl sl = true) (hnA : As.length = n) (hst : st0 = As.reverse ++ .ref b :: rest) (hW : Nat.ble (rest.map fun v => v.category).sum 8 = true) (k : ∀ z, g z = some ro → xL cc nL own nm ret R X lv (.ref z.1 :: rest) z.2.1 z.2.2 (cl + R'.cells) (sl + R'.slots) pc' r) : xL cc nL own nm ret R X lv (st0) w sz cl sl pc r := by
  obtain ⟨u, hu, h⟩ := xb h
  obtain ⟨z, e1, h⟩ := xb h
  have kz := k z h
  exact vxc_VN (As := As) hd hw hy K hu (hM z e1) hf hnA hst hW kz
theorem vxo_S_VH {rest st0 : List Value} (As : List Value) {y : MethodName} {bytes : ByteArray} {maxL n index : Nat} {ret' : Option FieldType} {R' : Room} {o : Option (Unit × xw)} {g : Unit × xw → Option ρ} (hd : xD cc pc (.invokestatic index) 3 pc') (hw : Cond.methodLink own index y ∈ xT) (hy : xYS y bytes maxL ret' n) (h : o.bind g = some ro) (hM : ∀ z, o = some z → xM X.1 y bytes maxL ret' R' X.2.1 X.2.2.1 As w sz (none, z.2, sz)) (hf : xfit R' maxL R cl sl = true) (hz : R'.cells = 0 ∧ R'.slots = 0) (hnA : As.length = n) (hst : st0 = As.reverse ++ rest) (hW : Nat.ble (rest.map fun v => v.category).sum 8 = true) (k : ∀ z, g z = some ro → xL cc nL own nm ret R X lv (rest) z.2 sz cl sl pc' r) : xL cc nL own nm ret R X lv (st0) w sz cl sl pc r := by
  skip
  obtain ⟨z, e1, h⟩ := xb h
  have kz := k z h
  exact vxc_S (As := As) hd hw hy (hM z e1) hf hnA hst hW (by rw [hz.1, hz.2]; exact kz)
theorem vxo_SN_VH {host : String} {rest st0 : List Value} (As : List Value) {y : MethodName} {bytes : ByteArray} {maxL n index : Nat} {ret' : Option FieldType} {R' : Room} {o : Option (Unit × xw)} {g : Unit × xw → Option ρ} (hd : xD cc pc (.invokestatic index) 3 pc') (hw : (own, index, y, host) ∈ xNw) (hy : xYS y bytes maxL ret' n) (h : o.bind g = some ro) (hM : ∀ z, o = some z → xM X.1 y bytes maxL ret' R' X.2.1 X.2.2.1 As w sz (none, z.2, sz)) (hf : xfit R' maxL R cl sl = true) (hz : R'.cells = 0 ∧ R'.slots = 0) (hnA : As.length = n) (hst : st0 = As.reverse ++ rest) (hW : Nat.ble (rest.map fun v => v.category).sum 8 = true) (k : ∀ z, g z = some ro → xL cc nL own nm ret R X lv (rest) z.2 sz cl sl pc' r) : xL cc nL own nm ret R X lv (st0) w sz cl sl pc r := by
  skip
  obtain ⟨z, e1, h⟩ := xb h
  have kz := k z h
  exact vxc_SN (As := As) hd hw hy (hM z e1) hf hnA hst hW (by rw [hz.1, hz.2]; exact kz)
theorem vxo_V_VH {rest st0 : List Value} (As : List Value) {y : MethodName} {bytes : ByteArray} {maxL n index : Nat} {b ci N : Nat} {T : u_T} {ty : Nat → FieldType} {ret' : Option FieldType} {R' : Room} {o : Option (Unit × xw)} {g : Unit × xw → Option ρ} (hd : xD cc pc (.invokevirtual index) 3 pc') (hw : Cond.methodLink own index y ∈ xT) (hy : xYV y bytes maxL ret' n) (h : (xck w b ci).bind (fun _ => o.bind g) = some ro) (K : xC ci y.cls T N ty) (hM : ∀ z, o = some z → xM X.1 y bytes maxL ret' R' X.2.1 X.2.2.1 (.ref b :: As) w sz (none, z.2, sz)) (hf : xfit R' maxL R cl sl = true) (hz : R'.cells = 0 ∧ R'.slots = 0) (hnA : As.length = n) (hst : st0 = As.reverse ++ .ref b :: rest) (hW : Nat.ble (rest.map fun v => v.category).sum 8 = true) (k : ∀ z, g z = some ro → xL cc nL own nm ret R X lv (rest) z.2 sz cl sl pc' r) : xL cc nL own nm ret R X lv (st0) w sz cl sl pc r := by
  obtain ⟨u, hu, h⟩ := xb h
  obtain ⟨z, e1, h⟩ := xb h
  have kz := k z h
  exact vxc_V (As := As) hd hw hy K hu (hM z e1) hf hnA hst hW (by rw [hz.1, hz.2]; exact kz)
theorem vxo_VN_VH {host : String} {rest st0 : List Value} (As : List Value) {y : MethodName} {bytes : ByteArray} {maxL n index : Nat} {b ci N : Nat} {T : u_T} {ty : Nat → FieldType} {ret' : Option FieldType} {R' : Room} {o : Option (Unit × xw)} {g : Unit × xw → Option ρ} (hd : xD cc pc (.invokevirtual index) 3 pc') (hw : (own, index, y, host) ∈ xNw) (hy : xYV y bytes maxL ret' n) (h : (xck w b ci).bind (fun _ => o.bind g) = some ro) (K : xC ci y.cls T N ty) (hM : ∀ z, o = some z → xM X.1 y bytes maxL ret' R' X.2.1 X.2.2.1 (.ref b :: As) w sz (none, z.2, sz)) (hf : xfit R' maxL R cl sl = true) (hz : R'.cells = 0 ∧ R'.slots = 0) (hnA : As.length = n) (hst : st0 = As.reverse ++ .ref b :: rest) (hW : Nat.ble (rest.map fun v => v.category).sum 8 = true) (k : ∀ z, g z = some ro → xL cc nL own nm ret R X lv (rest) z.2 sz cl sl pc' r) : xL cc nL own nm ret R X lv (st0) w sz cl sl pc r := by
  obtain ⟨u, hu, h⟩ := xb h
  obtain ⟨z, e1, h⟩ := xb h
  have kz := k z h
  exact vxc_VN (As := As) hd hw hy K hu (hM z e1) hf hnA hst hW (by rw [hz.1, hz.2]; exact kz)
theorem vxo_I_VH {rest st0 : List Value} (As : List Value) {y : MethodName} {bytes : ByteArray} {maxL n index : Nat} {b : Nat} {R' : Room} {o : Option (Unit × xw)} {g : Unit × xw → Option ρ} (hd : xD cc pc (.invokespecial index) 3 pc') (hw : Cond.methodLink own index y ∈ xT) (hy : xYI y bytes maxL n) (h : o.bind g = some ro) (hM : ∀ z, o = some z → xM X.1 y bytes maxL none R' X.2.1 X.2.2.1 (.ref b :: As) w sz (none, z.2, sz)) (hf : xfit R' maxL R cl sl = true) (hz : R'.cells = 0 ∧ R'.slots = 0) (hnA : As.length = n) (hst : st0 = As.reverse ++ .ref b :: rest) (hW : Nat.ble (rest.map fun v => v.category).sum 8 = true) (k : ∀ z, g z = some ro → xL cc nL own nm ret R X lv (rest) z.2 sz cl sl pc' r) : xL cc nL own nm ret R X lv (st0) w sz cl sl pc r := by
  skip
  obtain ⟨z, e1, h⟩ := xb h
  have kz := k z h
  exact vxc_I (As := As) hd hw hy (hM z e1) hf hnA hst hW (by rw [hz.1, hz.2]; exact kz)
theorem vxo_IN_VH {host : String} {rest st0 : List Value} (As : List Value) {y : MethodName} {bytes : ByteArray} {maxL n index : Nat} {b : Nat} {R' : Room} {o : Option (Unit × xw)} {g : Unit × xw → Option ρ} (hd : xD cc pc (.invokespecial index) 3 pc') (hw : (own, index, y, host) ∈ xNw) (hy : xYI y bytes maxL n) (h : o.bind g = some ro) (hM : ∀ z, o = some z → xM X.1 y bytes maxL none R' X.2.1 X.2.2.1 (.ref b :: As) w sz (none, z.2, sz)) (hf : xfit R' maxL R cl sl = true) (hz : R'.cells = 0 ∧ R'.slots = 0) (hnA : As.length = n) (hst : st0 = As.reverse ++ .ref b :: rest) (hW : Nat.ble (rest.map fun v => v.category).sum 8 = true) (k : ∀ z, g z = some ro → xL cc nL own nm ret R X lv (rest) z.2 sz cl sl pc' r) : xL cc nL own nm ret R X lv (st0) w sz cl sl pc r := by
  skip
  obtain ⟨z, e1, h⟩ := xb h
  have kz := k z h
  exact vxc_IN (As := As) hd hw hy (hM z e1) hf hnA hst hW (by rw [hz.1, hz.2]; exact kz)
theorem vxo_S_VA {rest st0 : List Value} (As : List Value) {y : MethodName} {bytes : ByteArray} {maxL n index : Nat} {ret' : Option FieldType} {R' : Room} {o : Option (Unit × xw × Nat)} {g : Unit × xw × Nat → Option ρ} (hd : xD cc pc (.invokestatic index) 3 pc') (hw : Cond.methodLink own index y ∈ xT) (hy : xYS y bytes maxL ret' n) (h : o.bind g = some ro) (hM : ∀ z, o = some z → xM X.1 y bytes maxL ret' R' X.2.1 X.2.2.1 As w sz (none, z.2.1, z.2.2)) (hf : xfit R' maxL R cl sl = true) (hnA : As.length = n) (hst : st0 = As.reverse ++ rest) (hW : Nat.ble (rest.map fun v => v.category).sum 8 = true) (k : ∀ z, g z = some ro → xL cc nL own nm ret R X lv (rest) z.2.1 z.2.2 (cl + R'.cells) (sl + R'.slots) pc' r) : xL cc nL own nm ret R X lv (st0) w sz cl sl pc r := by
  skip
  obtain ⟨z, e1, h⟩ := xb h
  have kz := k z h
  exact vxc_S (As := As) hd hw hy (hM z e1) hf hnA hst hW kz
theorem vxo_SN_VA {host : String} {rest st0 : List Value} (As : List Value) {y : MethodName} {bytes : ByteArray} {maxL n index : Nat} {ret' : Option FieldType} {R' : Room} {o : Option (Unit × xw × Nat)} {g : Unit × xw × Nat → Option ρ} (hd : xD cc pc (.invokestatic index) 3 pc') (hw : (own, index, y, host) ∈ xNw) (hy : xYS y bytes maxL ret' n) (h : o.bind g = some ro) (hM : ∀ z, o = some z → xM X.1 y bytes maxL ret' R' X.2.1 X.2.2.1 As w sz (none, z.2.1, z.2.2)) (hf : xfit R' maxL R cl sl = true) (hnA : As.length = n) (hst : st0 = As.reverse ++ rest) (hW : Nat.ble (rest.map fun v => v.category).sum 8 = true) (k : ∀ z, g z = some ro → xL cc nL own nm ret R X lv (rest) z.2.1 z.2.2 (cl + R'.cells) (sl + R'.slots) pc' r) : xL cc nL own nm ret R X lv (st0) w sz cl sl pc r := by
  skip
  obtain ⟨z, e1, h⟩ := xb h
  have kz := k z h
  exact vxc_SN (As := As) hd hw hy (hM z e1) hf hnA hst hW kz
theorem vxo_V_VA {rest st0 : List Value} (As : List Value) {y : MethodName} {bytes : ByteArray} {maxL n index : Nat} {b ci N : Nat} {T : u_T} {ty : Nat → FieldType} {ret' : Option FieldType} {R' : Room} {o : Option (Unit × xw × Nat)} {g : Unit × xw × Nat → Option ρ} (hd : xD cc pc (.invokevirtual index) 3 pc') (hw : Cond.methodLink own index y ∈ xT) (hy : xYV y bytes maxL ret' n) (h : (xck w b ci).bind (fun _ => o.bind g) = some ro) (K : xC ci y.cls T N ty) (hM : ∀ z, o = some z → xM X.1 y bytes maxL ret' R' X.2.1 X.2.2.1 (.ref b :: As) w sz (none, z.2.1, z.2.2)) (hf : xfit R' maxL R cl sl = true) (hnA : As.length = n) (hst : st0 = As.reverse ++ .ref b :: rest) (hW : Nat.ble (rest.map fun v => v.category).sum 8 = true) (k : ∀ z, g z = some ro → xL cc nL own nm ret R X lv (rest) z.2.1 z.2.2 (cl + R'.cells) (sl + R'.slots) pc' r) : xL cc nL own nm ret R X lv (st0) w sz cl sl pc r := by
  obtain ⟨u, hu, h⟩ := xb h
  obtain ⟨z, e1, h⟩ := xb h
  have kz := k z h
  exact vxc_V (As := As) hd hw hy K hu (hM z e1) hf hnA hst hW kz
theorem vxo_VN_VA {host : String} {rest st0 : List Value} (As : List Value) {y : MethodName} {bytes : ByteArray} {maxL n index : Nat} {b ci N : Nat} {T : u_T} {ty : Nat → FieldType} {ret' : Option FieldType} {R' : Room} {o : Option (Unit × xw × Nat)} {g : Unit × xw × Nat → Option ρ} (hd : xD cc pc (.invokevirtual index) 3 pc') (hw : (own, index, y, host) ∈ xNw) (hy : xYV y bytes maxL ret' n) (h : (xck w b ci).bind (fun _ => o.bind g) = some ro) (K : xC ci y.cls T N ty) (hM : ∀ z, o = some z → xM X.1 y bytes maxL ret' R' X.2.1 X.2.2.1 (.ref b :: As) w sz (none, z.2.1, z.2.2)) (hf : xfit R' maxL R cl sl = true) (hnA : As.length = n) (hst : st0 = As.reverse ++ .ref b :: rest) (hW : Nat.ble (rest.map fun v => v.category).sum 8 = true) (k : ∀ z, g z = some ro → xL cc nL own nm ret R X lv (rest) z.2.1 z.2.2 (cl + R'.cells) (sl + R'.slots) pc' r) : xL cc nL own nm ret R X lv (st0) w sz cl sl pc r := by
  obtain ⟨u, hu, h⟩ := xb h
  obtain ⟨z, e1, h⟩ := xb h
  have kz := k z h
  exact vxc_VN (As := As) hd hw hy K hu (hM z e1) hf hnA hst hW kz
theorem vxo_I_VA {rest st0 : List Value} (As : List Value) {y : MethodName} {bytes : ByteArray} {maxL n index : Nat} {b : Nat} {R' : Room} {o : Option (Unit × xw × Nat)} {g : Unit × xw × Nat → Option ρ} (hd : xD cc pc (.invokespecial index) 3 pc') (hw : Cond.methodLink own index y ∈ xT) (hy : xYI y bytes maxL n) (h : o.bind g = some ro) (hM : ∀ z, o = some z → xM X.1 y bytes maxL none R' X.2.1 X.2.2.1 (.ref b :: As) w sz (none, z.2.1, z.2.2)) (hf : xfit R' maxL R cl sl = true) (hnA : As.length = n) (hst : st0 = As.reverse ++ .ref b :: rest) (hW : Nat.ble (rest.map fun v => v.category).sum 8 = true) (k : ∀ z, g z = some ro → xL cc nL own nm ret R X lv (rest) z.2.1 z.2.2 (cl + R'.cells) (sl + R'.slots) pc' r) : xL cc nL own nm ret R X lv (st0) w sz cl sl pc r := by
  skip
  obtain ⟨z, e1, h⟩ := xb h
  have kz := k z h
  exact vxc_I (As := As) hd hw hy (hM z e1) hf hnA hst hW kz
theorem vxo_IN_VA {host : String} {rest st0 : List Value} (As : List Value) {y : MethodName} {bytes : ByteArray} {maxL n index : Nat} {b : Nat} {R' : Room} {o : Option (Unit × xw × Nat)} {g : Unit × xw × Nat → Option ρ} (hd : xD cc pc (.invokespecial index) 3 pc') (hw : (own, index, y, host) ∈ xNw) (hy : xYI y bytes maxL n) (h : o.bind g = some ro) (hM : ∀ z, o = some z → xM X.1 y bytes maxL none R' X.2.1 X.2.2.1 (.ref b :: As) w sz (none, z.2.1, z.2.2)) (hf : xfit R' maxL R cl sl = true) (hnA : As.length = n) (hst : st0 = As.reverse ++ .ref b :: rest) (hW : Nat.ble (rest.map fun v => v.category).sum 8 = true) (k : ∀ z, g z = some ro → xL cc nL own nm ret R X lv (rest) z.2.1 z.2.2 (cl + R'.cells) (sl + R'.slots) pc' r) : xL cc nL own nm ret R X lv (st0) w sz cl sl pc r := by
  skip
  obtain ⟨z, e1, h⟩ := xb h
  have kz := k z h
  exact vxc_IN (As := As) hd hw hy (hM z e1) hf hnA hst hW kz
theorem vxo_new {ci index N : Nat} {C : String} {T : u_T} {ty : Nat → FieldType} {g : xw × Nat × Nat × Nat → Option ρ} (hd : xD cc pc (.new index) 3 pc') (K : xC ci C T N ty) (hcl : Cond.classLink own index C ∈ xT) (hin : Cond.instantiable C N ∈ xT) (hini : Cond.initialized C ∈ xT) (hdf : (xdf ci).length = N ∧ ∀ j, j < N → defaultValue (ty j) = vp_V (xdf ci) j) (hb : bc ≤ R.cells ∧ bs ≤ R.slots) (h : (xn w sz bc bs ci).bind g = some ro) (k : ∀ z, g z = some ro → z.2.2.1 ≤ R.cells ∧ z.2.2.2 ≤ R.slots → xL cc nL own nm ret R X lv (.ref sz :: st) z.1 z.2.1 (R.cells - z.2.2.1) (R.slots - z.2.2.2) pc' r) : xL cc nL own nm ret R X lv (st) w sz (R.cells - bc) (R.slots - bs) pc r := by
  obtain ⟨hd, rfl⟩ := hd
  obtain ⟨z, hz, hq⟩ := xb h
  obtain ⟨hN, hfs⟩ := hdf
  unfold xn at hz
  split at hz
  · rename_i hc
    rw [hN] at hc hz
    cases hz
    have kk := k _ hq ⟨Nat.le_trans (Nat.sub_le _ _) hb.1, Nat.le_trans (Nat.sub_le _ _) hb.2⟩
    intro p e s m below meth c H locs ls Z hm hn hr hk J hl
    have hKn := Z.2.2.2.2.1.1 ci _ K.1
    refine W.newcK Z.1 Z.2.1 Z.2.2.1 (Z.2.2.2.1 _ hcl) (Z.2.2.2.1 _ hin) (Z.2.2.2.1 _ hini) rfl hd (by omega) (by omega) hKn.2.1 J.2.2.2.1 fun H1 kC hkC e1 z1 o1 => ?_
    have e2 : R.cells - bc + 1 = R.cells - (bc - 1) := by omega
    have e3 : R.slots - bs + N = R.slots - (bs - N) := by omega
    rw [e2, e3]
    exact kk p e s m below meth c H1 locs ls Z hm hn hr hk (J.new ⟨_, K.1, (u_born ty Z.2.2.2.1 K.2.1 hKn hkC e1 K.2.2.1).to hfs⟩ z1 (fun q hq => o1 q hq)) hl
  · cases hz
theorem vxo_newaI {k : Int32} {g : xw × Nat × Nat × Nat → Option ρ} (hd : xD cc pc (.newarray .int) 2 pc') (hw : Cond.arrayClass .int ∈ xT) (hb : bc ≤ R.cells ∧ bs ≤ R.slots) (h : (xnaI w sz bc bs k).bind g = some ro) (kk : ∀ z, g z = some ro → z.2.2.1 ≤ R.cells ∧ z.2.2.2 ≤ R.slots → xL cc nL own nm ret R X lv (.ref sz :: st) z.1 z.2.1 (R.cells - z.2.2.1) (R.slots - z.2.2.2) pc' r) : xL cc nL own nm ret R X lv (.int k :: st) w sz (R.cells - bc) (R.slots - bs) pc r := by
  obtain ⟨hd, rfl⟩ := hd
  obtain ⟨z, hz, hq⟩ := xb h
  unfold xnaI at hz
  split at hz
  · rename_i hc
    cases hz
    have kk := kk _ hq ⟨Nat.le_trans (Nat.sub_le _ _) hb.1, Nat.le_trans (Nat.sub_le _ _) hb.2⟩
    intro p e s m below meth c H locs ls Z hm hn hr hk J hl
    refine va_newaK (atype := .int) Z.1 Z.2.1 (Z.2.2.2.1 _ hw) rfl hd rfl hc.2.1 rfl (by
      have h8 : componentBytes (newarray.typeOf .int) ≤ 8 := by decide
      have := Nat.mul_le_mul hc.2.2 h8
      omega) (by omega) (by omega) J.2.2.2.1 fun H1 cA e1 z1 o1 hAr hNm => ?_
    have hcA : cA = X.2.2.1 0 := Option.some.inj (hNm.symm.trans ((Z.2.2.2.2.1.2 0 _ rfl).2))
    subst hcA
    have e2 : R.cells - bc + 1 = R.cells - (bc - 1) := by omega
    have e3 : R.slots - bs + k.toNatClampNeg = R.slots - (bs - k.toNatClampNeg) := by omega
    rw [e2, e3]
    exact kk p e s m below meth c H1 locs ls Z hm hn hr hk (J.new (x := .inl (0, k.toNatClampNeg, .inl (fun _ => 0))) e1 z1 (fun q hq => o1 q hq)) hl
  · cases hz
theorem vxo_newaZ {k : Int32} {g : xw × Nat × Nat × Nat → Option ρ} (hd : xD cc pc (.newarray .boolean) 2 pc') (hw : Cond.arrayClass .boolean ∈ xT) (hb : bc ≤ R.cells ∧ bs ≤ R.slots) (h : (xnaZ w sz bc bs k).bind g = some ro) (kk : ∀ z, g z = some ro → z.2.2.1 ≤ R.cells ∧ z.2.2.2 ≤ R.slots → xL cc nL own nm ret R X lv (.ref sz :: st) z.1 z.2.1 (R.cells - z.2.2.1) (R.slots - z.2.2.2) pc' r) : xL cc nL own nm ret R X lv (.int k :: st) w sz (R.cells - bc) (R.slots - bs) pc r := by
  obtain ⟨hd, rfl⟩ := hd
  obtain ⟨z, hz, hq⟩ := xb h
  unfold xnaZ at hz
  split at hz
  · rename_i hc
    cases hz
    have kk := kk _ hq ⟨Nat.le_trans (Nat.sub_le _ _) hb.1, Nat.le_trans (Nat.sub_le _ _) hb.2⟩
    intro p e s m below meth c H locs ls Z hm hn hr hk J hl
    refine va_newaK (atype := .boolean) Z.1 Z.2.1 (Z.2.2.2.1 _ hw) rfl hd rfl hc.2.1 rfl (by
      have h8 : componentBytes (newarray.typeOf .boolean) ≤ 8 := by decide
      have := Nat.mul_le_mul hc.2.2 h8
      omega) (by omega) (by omega) J.2.2.2.1 fun H1 cA e1 z1 o1 hAr hNm => ?_
    have hcA : cA = X.2.2.1 2 := Option.some.inj (hNm.symm.trans ((Z.2.2.2.2.1.2 2 _ rfl).2))
    subst hcA
    have e2 : R.cells - bc + 1 = R.cells - (bc - 1) := by omega
    have e3 : R.slots - bs + k.toNatClampNeg = R.slots - (bs - k.toNatClampNeg) := by omega
    rw [e2, e3]
    exact kk p e s m below meth c H1 locs ls Z hm hn hr hk (J.new (x := .inl (2, k.toNatClampNeg, .inl (fun _ => 0))) e1 z1 (fun q hq => o1 q hq)) hl
  · cases hz
theorem vxo_newaL {k : Int32} {g : xw × Nat × Nat × Nat → Option ρ} (hd : xD cc pc (.newarray .long) 2 pc') (hw : Cond.arrayClass .long ∈ xT) (hb : bc ≤ R.cells ∧ bs ≤ R.slots) (h : (xnaL w sz bc bs k).bind g = some ro) (kk : ∀ z, g z = some ro → z.2.2.1 ≤ R.cells ∧ z.2.2.2 ≤ R.slots → xL cc nL own nm ret R X lv (.ref sz :: st) z.1 z.2.1 (R.cells - z.2.2.1) (R.slots - z.2.2.2) pc' r) : xL cc nL own nm ret R X lv (.int k :: st) w sz (R.cells - bc) (R.slots - bs) pc r := by
  obtain ⟨hd, rfl⟩ := hd
  obtain ⟨z, hz, hq⟩ := xb h
  unfold xnaL at hz
  split at hz
  · rename_i hc
    cases hz
    have kk := kk _ hq ⟨Nat.le_trans (Nat.sub_le _ _) hb.1, Nat.le_trans (Nat.sub_le _ _) hb.2⟩
    intro p e s m below meth c H locs ls Z hm hn hr hk J hl
    refine va_newaK (atype := .long) Z.1 Z.2.1 (Z.2.2.2.1 _ hw) rfl hd rfl hc.2.1 rfl (by
      have h8 : componentBytes (newarray.typeOf .long) ≤ 8 := by decide
      have := Nat.mul_le_mul hc.2.2 h8
      omega) (by omega) (by omega) J.2.2.2.1 fun H1 cA e1 z1 o1 hAr hNm => ?_
    have hcA : cA = X.2.2.1 1 := Option.some.inj (hNm.symm.trans ((Z.2.2.2.2.1.2 1 _ rfl).2))
    subst hcA
    have e2 : R.cells - bc + 1 = R.cells - (bc - 1) := by omega
    have e3 : R.slots - bs + k.toNatClampNeg = R.slots - (bs - k.toNatClampNeg) := by omega
    rw [e2, e3]
    exact kk p e s m below meth c H1 locs ls Z hm hn hr hk (J.new (x := .inl (1, k.toNatClampNeg, .inr (.inl (fun _ => 0)))) e1 z1 (fun q hq => o1 q hq)) hl
  · cases hz
theorem vxo_newaR {t : Nat} {k : Int32} {index : Nat} {C : String} {g : xw × Nat × Nat × Nat → Option ρ} (hd : xD cc pc (.anewarray index) 3 pc') (hw : Cond.classLink own index C ∈ xT) (hao : C ∈ xAO) (hty : ∀ cT : Nat → ClassId, (xtys cT)[t]? = some (cT t, .object C)) (hb : bc ≤ R.cells ∧ bs ≤ R.slots) (h : (xnaR w sz bc bs t k).bind g = some ro) (kk : ∀ z, g z = some ro → z.2.2.1 ≤ R.cells ∧ z.2.2.2 ≤ R.slots → xL cc nL own nm ret R X lv (.ref sz :: st) z.1 z.2.1 (R.cells - z.2.2.1) (R.slots - z.2.2.2) pc' r) : xL cc nL own nm ret R X lv (.int k :: st) w sz (R.cells - bc) (R.slots - bs) pc r := by
  obtain ⟨hd, rfl⟩ := hd
  obtain ⟨z, hz, hq⟩ := xb h
  unfold xnaR at hz
  split at hz
  · rename_i hc
    cases hz
    have kk := kk _ hq ⟨Nat.le_trans (Nat.sub_le _ _) hb.1, Nat.le_trans (Nat.sub_le _ _) hb.2⟩
    intro p e s m below meth c H locs ls Z hm hn hr hk J hl
    have hover : va_AO C s := Z.2.2.2.2.2.2 C hao
    have hsz := J.2.2.2.1
    refine W.anew Z.1 Z.2.1 Z.2.2.1 (Z.2.2.2.1 _ hw) (va_AO.use hover) rfl hd rfl hc.2.1 (by omega) (by omega) (by omega) fun cA kA comp f1 f2 f3 f4 => ?_
    obtain ⟨_, _, _, _, _, g4⟩ := (Z.2.2.2.2.1.2 t _ (hty _)).2
    have hcA : cA = X.2.2.1 t := Option.some.inj (f1.symm.trans g4)
    subst hcA
    generalize hH1 : H.push ({ cls := X.2.2.1 t, slots := Array.replicate k.toNatClampNeg .null, vm := .none } : Cell) = H1
    have z1 : H1.size = sz + 1 := by rw [← hH1, Array.size_push, hsz]
    have e1 : H1[sz]? = some (arrV (X.2.2.1 t) k.toNatClampNeg (fun _ => .null)) := by rw [← hH1, ← hsz, Array.getElem?_push_size, ← arrV_new]
    have o1 : ∀ q : Nat, q < sz → H1[q]? = H[q]? := fun q hq => by rw [← hH1, Array.getElem?_push, if_neg (by omega)]
    have e2 : R.cells - bc + 1 = R.cells - (bc - 1) := by omega
    have e3 : R.slots - bs + k.toNatClampNeg = R.slots - (bs - k.toNatClampNeg) := by omega
    rw [e2, e3]
    have kz := kk p e s m below meth c H1 locs ls Z hm hn hr hk (J.new (x := .inl (t, k.toNatClampNeg, .inr (.inr (.inr (.inr (fun _ => none)))))) e1 z1 o1) hl
    rw [← hsz] at kz
    exact kz
  · cases hz
theorem vxo_astR {a v : Nat} {i : Int32} {g : xw → Option ρ} (hd : xD cc pc .aastore 1 pc') (h : (xsR w a i v).bind g = some ro) (kk : ∀ w1, g w1 = some ro → xL cc nL own nm ret R X lv (st) w1 sz cl sl pc' r) : xL cc nL own nm ret R X lv (.ref v :: .int i :: .ref a :: st) w sz cl sl pc r := by
  obtain ⟨hd, rfl⟩ := hd
  obtain ⟨w1, hx, hq⟩ := xb h
  obtain ⟨t, n, f, ci, vs, he, hv, htc, hi, rfl⟩ := xsR_inv hx
  have key : ∀ (rr : vw_C), xcl[ci]? = some rr → (∀ cT : Nat → ClassId, (xtys cT)[t]? = some (cT t, .object rr.1)) → xL cc nL own nm ret R X lv (.ref v :: .int i :: .ref a :: st) w sz cl sl pc r := fun rr hrr hty p e s m below meth c H locs ls Z hm hn hr hk J hl => by
    have hlt : i.toNatClampNeg < n := Nat.not_le.mp fun q => hi (Or.inr q)
    have h0 : ¬ i < 0 := fun q => hi (Or.inl q)
    obtain ⟨r', hr', cellV, g1, g2, g3, -⟩ := J.1 v _ hv
    have hcls := (Z.2.2.2.2.1.1 ci rr hrr).2
    obtain ⟨kA, comp, k1, k2, k3, -⟩ := (Z.2.2.2.2.1.2 t _ (hty _)).2
    have hcomp : comp = X.2.1.1 ci := Option.some.inj (k3.symm.trans hcls.1)
    subst hcomp
    obtain ⟨kC, hkC, -⟩ := hcls.2
    refine W.aast Z.1 Z.2.1 (J.1 a _ he) (fun q h => by cases h) (fun h => by cases h) k1 k2 rfl hkC ⟨h0, by show _ < (arrV _ _ _).slots.size; rw [arrV_size]; exact hlt⟩ g1 (fun q h => by rw [g3] at h; cases h) (by rw [g2]; exact hkC) (by rw [g2]; exact va_assign hcls) rfl rfl hd fun H1 e1 z oq => ?_
    refine kk _ hq p e s m below meth c H1 _ ls Z hm hn hr hk (J.put he ?_ z oq) hl
    show H1[a]? = some (vp_cell _ _)
    rw [e1]
    show some (Cell.setSlot (vp_cell _ _) _ _) = _
    rw [vp_cell_q, vp_cell_q, arrV_store]
    congr 2
    funext q
    by_cases hq : q = i.toNatClampNeg
    · subst hq
      simp [updV, va_up, va_rf]
    · simp [updV, va_up, hq]
  have h3 : (t = 3 ∧ ci = 2) ∨ (t = 4 ∧ ci = 6) ∨ (t = 5 ∧ ci = 1) := by
    unfold xtc at htc
    split at htc
    · cases htc; exact Or.inl ⟨rfl, rfl⟩
    · cases htc; exact Or.inr (Or.inl ⟨rfl, rfl⟩)
    · cases htc; exact Or.inr (Or.inr ⟨rfl, rfl⟩)
    · cases htc
  rcases h3 with ⟨rfl, rfl⟩ | ⟨rfl, rfl⟩ | ⟨rfl, rfl⟩
  · exact key _ rfl (fun _ => rfl)
  · exact key _ rfl (fun _ => rfl)
  · exact key _ rfl (fun _ => rfl)
theorem vxo_IA {rest st0 : List Value} (As : List Value) {y : MethodName} {bytes : ByteArray} {maxL n index b0 c' s' : Nat} {R' : Room} {o : Option (Unit × xw × Nat)} {g : Nat × Nat → Unit × xw × Nat → Option ρ} (hd : xD cc pc (.invokespecial index) 3 pc') (hw : Cond.methodLink own index y ∈ xT) (hy : xYI y bytes maxL n) (hb : bc ≤ R.cells ∧ bs ≤ R.slots) (h : (xbud bc bs c' s').bind (fun b => o.bind (g b)) = some ro) (hM : ∀ z, o = some z → xM X.1 y bytes maxL none R' X.2.1 X.2.2.1 (.ref b0 :: As) w sz (none, z.2.1, z.2.2)) (hc : R'.cells = c' ∧ R'.slots = s') (hf : (Nat.ble (R'.frames + 1) R.frames && Nat.ble (8 + (maxL + 11) + R'.locals) R.locals) = true) (hnA : As.length = n) (hst : st0 = As.reverse ++ .ref b0 :: rest) (hW : Nat.ble (rest.map fun v => v.category).sum 8 = true) (k : ∀ b z, g b z = some ro → b.1 ≤ R.cells ∧ b.2 ≤ R.slots → xL cc nL own nm ret R X lv (rest) z.2.1 z.2.2 (R.cells - b.1) (R.slots - b.2) pc' r) : xL cc nL own nm ret R X lv (st0) w sz (R.cells - bc) (R.slots - bs) pc r := by
  obtain ⟨b, hbb, h⟩ := xb h
  obtain ⟨z, e1, h⟩ := xb h
  unfold xbud at hbb
  split at hbb
  · rename_i hcc
    cases hbb
    obtain ⟨hc1, hc2⟩ := hc
    have kz := k _ z h ⟨Nat.le_trans (Nat.sub_le _ _) hb.1, Nat.le_trans (Nat.sub_le _ _) hb.2⟩
    have e2 : R.cells - bc + R'.cells = R.cells - (bc - c') := by omega
    have e3 : R.slots - bs + R'.slots = R.slots - (bs - s') := by omega
    exact vxc_I (As := As) hd hw hy (hM z e1) (xfit_mk hf (by omega) (by omega)) hnA hst hW (by rw [e2, e3]; exact kz)
  · cases hbb
theorem vxo_IB {rest st0 : List Value} (As : List Value) {y : MethodName} {bytes : ByteArray} {maxL n index b0 : Nat} {R' : Room} {o : Option Unit} {g : Unit → Option ρ} (hd : xD cc pc (.invokespecial index) 3 pc') (hw : Cond.methodLink own index y ∈ xT) (hy : xYI y bytes maxL n) (h : o.bind g = some ro) (hM : ∀ z, o = some z → xM X.1 y bytes maxL none R' X.2.1 X.2.2.1 (.ref b0 :: As) w sz (none, w, sz)) (hf : (Nat.ble (R'.frames + 1) R.frames && Nat.ble (8 + (maxL + 11) + R'.locals) R.locals) = true) (hz : R'.cells = 0 ∧ R'.slots = 0) (hnA : As.length = n) (hst : st0 = As.reverse ++ .ref b0 :: rest) (hW : Nat.ble (rest.map fun v => v.category).sum 8 = true) (k : ∀ z, g z = some ro → xL cc nL own nm ret R X lv (rest) w sz (R.cells - bc) (R.slots - bs) pc' r) : xL cc nL own nm ret R X lv (st0) w sz (R.cells - bc) (R.slots - bs) pc r := by
  obtain ⟨z, e1, h⟩ := xb h
  have kz := k z h
  exact vxc_I (As := As) hd hw hy (hM z e1) (xfit_mk hf (by rw [hz.1]; exact Nat.sub_le _ _) (by rw [hz.2]; exact Nat.sub_le _ _)) hnA hst hW (by rw [hz.1, hz.2]; exact kz)
theorem vxo_IAN {host : String} {rest st0 : List Value} (As : List Value) {y : MethodName} {bytes : ByteArray} {maxL n index b0 c' s' : Nat} {R' : Room} {o : Option (Unit × xw × Nat)} {g : Nat × Nat → Unit × xw × Nat → Option ρ} (hd : xD cc pc (.invokespecial index) 3 pc') (hw : (own, index, y, host) ∈ xNw) (hy : xYI y bytes maxL n) (hb : bc ≤ R.cells ∧ bs ≤ R.slots) (h : (xbud bc bs c' s').bind (fun b => o.bind (g b)) = some ro) (hM : ∀ z, o = some z → xM X.1 y bytes maxL none R' X.2.1 X.2.2.1 (.ref b0 :: As) w sz (none, z.2.1, z.2.2)) (hc : R'.cells = c' ∧ R'.slots = s') (hf : (Nat.ble (R'.frames + 1) R.frames && Nat.ble (8 + (maxL + 11) + R'.locals) R.locals) = true) (hnA : As.length = n) (hst : st0 = As.reverse ++ .ref b0 :: rest) (hW : Nat.ble (rest.map fun v => v.category).sum 8 = true) (k : ∀ b z, g b z = some ro → b.1 ≤ R.cells ∧ b.2 ≤ R.slots → xL cc nL own nm ret R X lv (rest) z.2.1 z.2.2 (R.cells - b.1) (R.slots - b.2) pc' r) : xL cc nL own nm ret R X lv (st0) w sz (R.cells - bc) (R.slots - bs) pc r := by
  obtain ⟨b, hbb, h⟩ := xb h
  obtain ⟨z, e1, h⟩ := xb h
  unfold xbud at hbb
  split at hbb
  · rename_i hcc
    cases hbb
    obtain ⟨hc1, hc2⟩ := hc
    have kz := k _ z h ⟨Nat.le_trans (Nat.sub_le _ _) hb.1, Nat.le_trans (Nat.sub_le _ _) hb.2⟩
    have e2 : R.cells - bc + R'.cells = R.cells - (bc - c') := by omega
    have e3 : R.slots - bs + R'.slots = R.slots - (bs - s') := by omega
    exact vxc_IN (As := As) hd hw hy (hM z e1) (xfit_mk hf (by omega) (by omega)) hnA hst hW (by rw [e2, e3]; exact kz)
  · cases hbb
theorem vxo_IBN {host : String} {rest st0 : List Value} (As : List Value) {y : MethodName} {bytes : ByteArray} {maxL n index b0 : Nat} {R' : Room} {o : Option Unit} {g : Unit → Option ρ} (hd : xD cc pc (.invokespecial index) 3 pc') (hw : (own, index, y, host) ∈ xNw) (hy : xYI y bytes maxL n) (h : o.bind g = some ro) (hM : ∀ z, o = some z → xM X.1 y bytes maxL none R' X.2.1 X.2.2.1 (.ref b0 :: As) w sz (none, w, sz)) (hf : (Nat.ble (R'.frames + 1) R.frames && Nat.ble (8 + (maxL + 11) + R'.locals) R.locals) = true) (hz : R'.cells = 0 ∧ R'.slots = 0) (hnA : As.length = n) (hst : st0 = As.reverse ++ .ref b0 :: rest) (hW : Nat.ble (rest.map fun v => v.category).sum 8 = true) (k : ∀ z, g z = some ro → xL cc nL own nm ret R X lv (rest) w sz (R.cells - bc) (R.slots - bs) pc' r) : xL cc nL own nm ret R X lv (st0) w sz (R.cells - bc) (R.slots - bs) pc r := by
  obtain ⟨z, e1, h⟩ := xb h
  have kz := k z h
  exact vxc_IN (As := As) hd hw hy (hM z e1) (xfit_mk hf (by rw [hz.1]; exact Nat.sub_le _ _) (by rw [hz.2]; exact Nat.sub_le _ _)) hnA hst hW (by rw [hz.1, hz.2]; exact kz)
theorem xfit_sub {R' R : Room} {maxL bc bs : Nat} (h : (Nat.ble (R'.frames + 1) R.frames && Nat.ble (8 + (maxL + 11) + R'.locals) R.locals) = true) (hz : R'.cells = 0 ∧ R'.slots = 0) : xfit R' maxL R (R.cells - bc) (R.slots - bs) = true := by
  unfold xfit
  rw [Bool.and_eq_true] at h
  rw [h.1, h.2, hz.1, hz.2, Bool.true_and, Bool.true_and, Bool.and_eq_true]
  exact ⟨Nat.ble_eq_true_of_le (Nat.sub_le _ _), Nat.ble_eq_true_of_le (Nat.sub_le _ _)⟩
/-- a number of the script -/
def xsl (L : Nat) (xs : Nat → Int32) (i : Int32) : Option Int32 := if ¬ (i < 0 ∨ L ≤ i.toNatClampNeg) then some (xs i.toNatClampNeg) else none
theorem v_sld {bS L : Nat} {xs : Nat → Int32} {i : Int32} {g : Int32 → Option ρ} (hd : xD cc pc .iaload 1 pc') (h : (xsl L xs i).bind g = some ro) (k : ∀ x, g x = some ro → xL cc nL own nm ret R X lv (.int x :: st) w sz cl sl pc' (bS, L, xs)) : xL cc nL own nm ret R X lv (.int i :: .ref bS :: st) w sz cl sl pc (bS, L, xs) := by
  obtain ⟨hd, rfl⟩ := hd
  obtain ⟨x, hx, h⟩ := xb h
  unfold xsl at hx
  split at hx
  · rename_i hi
    cases hx
    have kk := k _ h
    exact fun p e s m below meth c H locs ls Z hm hn hr hk J hl => va_sld Z.1 Z.2.1 hk.2.2.1.1 hk.2.2.1.2.1 hk.2.2.1.2.2 J.2.1 hi hd (kk p e s m below meth c H locs ls Z hm hn hr hk J hl)
  · cases hx
theorem v_slen {bS L : Nat} {xs : Nat → Int32} {g : Int32 → Option ρ} (hd : xD cc pc .arraylength 1 pc') (h : (some (Int32.ofNat L)).bind g = some ro) (k : ∀ x, g x = some ro → xL cc nL own nm ret R X lv (.int x :: st) w sz cl sl pc' (bS, L, xs)) : xL cc nL own nm ret R X lv (.ref bS :: st) w sz cl sl pc (bS, L, xs) := by
  obtain ⟨hd, rfl⟩ := hd
  have kk := k _ h
  exact fun p e s m below meth c H locs ls Z hm hn hr hk J hl => va_slen Z.1 Z.2.1 hk.2.2.1.1 hk.2.2.1.2.1 hk.2.2.1.2.2 J.2.1 hd (kk p e s m below meth c H locs ls Z hm hn hr hk J hl)
end XOV
section XLR
variable {p : Program} {l : Launch} {e : Env} {R : Room} {s : State} {m : MethodId} {args : Array Value} {below : List Frame} {meth : Method} {c : Code} {T : State} {locs : List Loc} {cells slots : Nat}
theorem xcallSW (X : Stand p l e R s m args below meth c T locs cells slots) (hexec : p.tables.exec = Jvm.exec) {own : String} {index : Nat} {y : MethodName} {bytes : ByteArray} {maxL W : Nat} {ret : Option FieldType} {hs : List (Nat × Nat × Nat × Nat)}
    (hown : s.vm.findClass own = some m.cls) (hlink : (Cond.methodLink own index y).before args s = true) (hstat : (Cond.static y).before args s = true) (hinit : (Cond.initialized y.cls).before args s = true)
    (hcode : (Cond.codeWith y bytes maxL ret hs).before args s = true) (hy : y.cls ≠ "java/lang/invoke/MethodHandle" ∧ y.cls ≠ "java/lang/invoke/VarHandle")
    {Pre : Pt → Array Value → Prop} {Post : Pt → Array Value → Option Value → Pt → Prop} (hK : Back l R p e below s args y 3 W Pre Post)
    {g : JFrame} (hg : g.method = m) (hsize : g.locals.size = c.maxLocals) {argsL rest : List Value} (hlen : ∀ sig, parseMethodDescriptor y.desc = some sig → argsL.length = sig.parameters.length)
    (hstack : g.stack = argsL.reverse ++ rest) (hW : 2 * g.monitorRoom + (rest.map fun v => v.category).sum ≤ W) (hdg : decode c.code g.pc = .ok (.invokestatic index, 3))
    (hpre : ∀ vm₁, s.WarmedH vm₁ → Pre ⟨T.setVm vm₁, locs, cells, slots⟩ argsL.toArray) :
    ∃ (v : Option Value) (vm₁ : Vm) (B : Pt), s.WarmedH vm₁ ∧ Stand p l e R s m args below meth c B.U B.locs B.cells B.slots ∧ Post ⟨T.setVm vm₁, locs, cells, slots⟩ argsL.toArray v B ∧
      ∀ target, Steps p.tables e below (B.U.setTop { g with pc := g.pc + 3, stack := v.toList ++ rest }) target → Steps p.tables e below (T.setTop g) target := by
  obtain ⟨mk, methM, cM, hnamed, hmethM, -, -, -, -, -, -, hsigM⟩ := Cond.codeWith_spec hcode
  have hstatic : methM.isStatic = true := Cond.static_spec hnamed hmethM hstat
  obtain ⟨kP, hkP, -⟩ := className_of_methodNamed hnamed
  have hinitP : kP.init = .initialized := Cond.initialized_spec (findClass_of_methodNamed hnamed) hkP hinit
  obtain ⟨vm₁, X₁, hstep₁⟩ := X.invokestatic hexec hown hlink hnamed hmethM hstatic hkP hinitP hy (g := g) hg (argsL := argsL) (rest := rest) (hlen _ hsigM) hstack hdg
  obtain ⟨v, B, X', hpost, hsteps⟩ := hK m meth c ⟨T.setVm vm₁, locs, cells, slots⟩ { g with stack := rest } (.invokestatic index) mk argsL.toArray X₁ hg hsize hdg hW (X₁.named hnamed) (hpre vm₁ X₁.warmed)
  exact ⟨v, vm₁, B, X₁.warmed, X', hpost, fun target h => hstep₁ _ fun acts => by rw [doInvoke_state]; exact hsteps.trans h⟩
end XLR
section XLS
variable {cc : ByteArray} {nL : Nat} {nm : String} {ret : Option FieldType} {R : Room} {X : xX} {lv : List (Nat × Value)} {w : xw} {sz bc bs pc pc' : Nat} {r : xS} {ρ : Type} {ro : ρ}
theorem v_run {rest : List Value} {a0 a2 : Nat} {a1 : Int32} {g : Nat × Nat → Int32 × xw × Nat → Option ρ} (hd : xD cc pc (.invokestatic 52) 3 pc') (hb : bc ≤ R.cells ∧ bs ≤ R.slots) (h : (xbud bc bs 1 6).bind (fun b => (f_L_run w sz a0 a1 a2).bind (g b)) = some ro) (hf : (Nat.ble (R_L_run.frames + 1) R.frames && Nat.ble (8 + (4 + 11) + R_L_run.locals) R.locals) = true) (hW : Nat.ble (rest.map fun v => v.category).sum 8 = true)
    (k : ∀ b z, g b z = some ro → b.1 ≤ R.cells ∧ b.2 ≤ R.slots → xL cc nL "ProgramGateLaw" nm ret R X lv (.int z.1 :: rest) z.2.1 z.2.2 (R.cells - b.1) (R.slots - b.2) pc' r) : xL cc nL "ProgramGateLaw" nm ret R X lv (.ref a2 :: .int a1 :: .ref a0 :: rest) w sz (R.cells - bc) (R.slots - bs) pc r := by
  obtain ⟨hd, rfl⟩ := hd
  obtain ⟨b, hbd, h⟩ := xb h
  obtain ⟨z, hz, h⟩ := xb h
  unfold xbud at hbd
  split at hbd
  · rename_i hc
    cases hbd
    rw [Bool.and_eq_true] at hf
    have hf1 := Nat.le_of_ble_eq_true hf.1
    have hf2 := Nat.le_of_ble_eq_true hf.2
    have kz := k _ z h ⟨Nat.le_trans (Nat.sub_le _ _) hb.1, Nat.le_trans (Nat.sub_le _ _) hb.2⟩
    intro p e s m below meth c H locs ls Z hm hn hr hk J hl T hT X0
    have hM := c_L_run X.1 X.2.1 X.2.2.1 sz w a0 a1 a2 z hz hk.2.2.2.1
    have hcw : Cond.codeWith y_L_run b_L_run 4 t_L_run hs_L_run ∈ Cond.codeWith y_L_run b_L_run 4 t_L_run hs_L_run :: xT := List.mem_cons_self
    have hG : GoodIn xT (Cond.codeWith y_L_run b_L_run 4 t_L_run hs_L_run :: xT) := fun x hx => by
      rcases List.mem_cons.mp hx with rfl | hx
      · exact xT_good _ tw_lr
      · exact xT_good _ hx
    have hK : Back X.1 R p e below s X.2.2.2.1.toArray y_L_run 3 8 (PreOf R R_L_run.cells R_L_run.slots (xPT X.2.1 X.2.2.1 w sz [.ref a0, .int a1, .ref a2])) (PostOf (xQ X.2.1 X.2.2.1 w sz (some (.int z.1), z.2.1, z.2.2)) R_L_run.cells R_L_run.slots (xA w sz)) := va_backW (bytes := b_L_run) (maxL := 4) (ret := t_L_run) (hh := hs_L_run) hM xt_blind rfl rfl hf1 hf2 (pay_in Z.2.2.2.1 hG) hcw (fun a' U hW => word_at hW (xT_good _ tw_0).2 (Z.2.2.2.1 _ tw_0))
    obtain ⟨v, vm₁, ⟨U', l2, c2, s2⟩, hW₁, X', ⟨g', mk, t, L, e1, e2, hq, h1, hL, h2, h3⟩, st⟩ := xcallSW X0 Z.1 (own := "ProgramGateLaw") (index := 52) (bytes := b_L_run) (maxL := 4) (ret := t_L_run) (hs := hs_L_run) Z.2.2.1 (Z.2.2.2.1 _ tw_496) (Z.2.2.2.1 _ tw_497) (Z.2.2.2.1 _ tw_0) (Z.2.2.2.1 _ tw_lr) ⟨by decide, by decide⟩ hK (g := F0 m pc ls (.ref a2 :: .int a1 :: .ref a0 :: rest)) rfl (hl.1.trans hm.symm) (argsL := [.ref a0, .int a1, .ref a2]) (rest := rest) (fun sig h => by
        have h2 : (parseMethodDescriptor y_L_run.desc).map (fun d => d.parameters.length) = some 3 := by decide +kernel
        rw [h] at h2
        exact (Option.some.inj h2).symm) rfl (lv_room (Nat.le_of_ble_eq_true hW)) (by rw [Z.2.1]; exact hd)
      (fun vm₁ hW₁ => ⟨by show R.cells - bc + 1 ≤ R.cells; omega, by show R.slots - bs + 6 ≤ R.slots; omega, xt_pre Z J hk.2.1 (T.setVm vm₁) hT hW₁⟩)
    dsimp only [Pt.U, Pt.locs, Pt.cells, Pt.slots] at X' e1 e2 h1 h2 h3 st
    subst h1; subst h2; subst h3
    obtain ⟨hv, hH, hsz, hdom, hzz, hkk⟩ := hq
    cases hv
    have q0 : ((T.setVm vm₁).calling g' mk ([.ref a0, .int a1, .ref a2] : List Value).toArray).heap = H := hT
    rw [q0] at hzz hkk
    have hin := xt_in J
    have hS := J.2.1
    have J' : xJ X.2.1 X.2.2.1 (xA X.2.2.2.2.1 X.2.2.2.2.2) s.heap z.2.1 z.2.2 U'.heap (locs ++ L) := ⟨by rw [e1]; exact hH, ⟨Nat.le_trans hS.1 (by rw [e1]; exact hzz), fun q h1 h2 => by
        rw [e1, hkk q (Nat.lt_of_lt_of_le h1 hS.1) (fun z => h2 (hin q z))]; exact hS.2.1 q h1 h2, fun q hq => by
        rcases List.mem_append.mp hq with h | h
        · exact hS.2.2 q h
        · exact hin _ (hL q h)⟩, fun a h => hin a (hdom a h), by rw [e1]; exact hsz, J.2.2.2.2⟩
    have ec : R.cells - (bc - 1) = R.cells - bc + R_L_run.cells := by show _ = R.cells - bc + 1; omega
    have es : R.slots - (bs - 6) = R.slots - bs + R_L_run.slots := by show _ = R.slots - bs + 6; omega
    have kz2 := kz p e s m below meth c U'.heap (locs ++ L) ls Z hm hn hr hk J' hl
    dsimp only at kz2
    rw [ec, es] at kz2
    obtain ⟨t2, a1', b1'⟩ := kz2 U' rfl X'
    exact ⟨t2, st t2 a1', b1'⟩
  · cases hbd
end XLS
theorem v_ret {cc : ByteArray} {nL : Nat} {nm : String} {l : Launch} {D : va_G} {cT : Nat → ClassId} {w0 w : xw} {sz0 sz bc bs pc pc' b0 : Nat} {lv : List (Nat × Value)} {v : Int32} {r : xS} (hcc : code = cc) (hd : xD cc pc .ireturn 1 pc') (h : some v = some 1) : xL cc nL "ProgramGateLaw" nm ret room_1 (l, D, cT, [.ref b0], w0, sz0) lv [.int v] w sz (room_1.cells - bc) (room_1.slots - bs) pc r := by
  cases h
  intro p e s m below meth c H locs ls Z hm hn hr hk J hl
  refine va_forget (fun q hq => hk.2.2.2.2 _ (J.2.1.2.2 q hq)) ?_
  exact W.widen (Nat.sub_le _ _) (Nat.sub_le _ _) (lw_ret Z.1 (Z.2.1.trans hcc.symm) hr hk.1 (by rw [hcc]; exact hd.1))
