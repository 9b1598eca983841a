/-! Throws: the leaf that makes and throws, a callee that throws, the entry. -/
/-- the contract of a method that throws -/
def xN (l : Launch) (y : MethodName) (bytes : ByteArray) (maxL : Nat) (ret : Option FieldType) (R : Room) (D : va_G) (cT : Nat → ClassId) (as : List Value) (w : xw) (sz : Nat) (r : xV) : Prop :=
  l.stackTraces = false → MetFree l y (headSpec (.code y bytes maxL ret :: xT) R) (va_Pc as (fun U => xB D cT w sz U ∧ xTF (xA w sz) U U.heap)) (fun _ _ _ _ _ => True) (fun a st o t => xQT D cT w sz r a st o t ∧ ∃ L, FrameEndT st o t L R.cells R.slots ∧ ∀ q ∈ L, xA w sz q.base)
theorem xDc_on : ∀ c ∈ xDc, c.onTables = true := by decide
theorem xout {c : Code} (h : c.exceptionTable.isEmpty = true) (pc : Nat) : ∀ x ∈ c.exceptionTable.toList, covers x pc = false := by
  rw [Array.isEmpty_iff] at h
  intro x hx
  rw [h] at hx
  simp at hx
theorem xkeep {s U : State} {T : State} {n k : Nat} (h : T.sameButNew ({ U with vm := T.vm } : State) [] n k) : ∀ q : Nat, q < T.heap.size → U.heap[q]? = T.heap[q]? := by
  intro q hq
  obtain ⟨-, -, -, -, -, h⟩ := h
  have e : T.heap[q]? = some (T.heap[q]'hq) := Array.getElem?_eq_getElem hq
  obtain ⟨c', h1, h2, -, h4⟩ := h q _ e
  have h1 : U.heap[q]? = some c' := h1
  have h5 : c'.slots = (T.heap[q]'hq).slots := Array.ext_getElem? (fun i => h4 i (by simp))
  rw [h1, e, h2, h5]
section XT
variable {cc : ByteArray} {nL : Nat} {own nm : String} {ret : Option FieldType} {R : Room} {X : xX} {lv : List (Nat × Value)} {w : xw} {sz cl sl pc p1 p2 p3 p4 p5 : Nat}
theorem uo_leaf {K tx : String} (names : List String) {ic ix is : Nat} {ro : String × xw} (d0 : xD cc pc (.new ix) 3 p1) (d1 : xD cc p1 .dup 1 p2) (d2 : xD cc p2 (.ldc is) 2 p3) (d3 : xD cc p3 (.invokespecial ic) 3 p4) (d4 : xD cc p4 .athrow 1 p5)
    (hs : (own, is, tx) ∈ xStr) (hcl : Cond.classLink own ix K ∈ xT) (hin : Cond.instantiable K 6 ∈ xT) (hi : Cond.initialized K ∈ xT)
    (hat : ∀ a ∈ Bundle.ownAtoms own ic K names, a ∈ xT ∨ a = .isRef (.static Bundle.tN "UNASSIGNED_STACK" Bundle.steD) ∨ a = .isRef (.static Bundle.tN "SUPPRESSED_SENTINEL" Bundle.listD) ∨ a = .laysStatic Bundle.tN "UNASSIGNED_STACK" Bundle.steD ∨ a = .laysStatic Bundle.tN "SUPPRESSED_SENTINEL" Bundle.listD ∨ a ∈ xDc)
    (hK : Bundle.fit K = true) (hN : ∀ n ∈ names, Bundle.fit n = true)
    (hfr : Nat.ble (names.length + 4) R.frames = true) (hlo : Nat.ble (13 * (names.length + 1) + 43) R.locals = true) (hce : Nat.ble (cl + 1) R.cells = true) (hsl : Nat.ble (sl + 6) R.slots = true)
    (h : some (K, w) = some ro) : xU cc nL own nm ret R X lv [] w sz cl sl pc (ro.1, ro.2, sz + 1) := by
  cases h
  obtain ⟨d0, rfl⟩ := d0
  obtain ⟨d1, rfl⟩ := d1
  obtain ⟨d2, rfl⟩ := d2
  obtain ⟨d3, rfl⟩ := d3
  obtain ⟨d4, -⟩ := d4
  have hfr := Nat.le_of_ble_eq_true hfr
  have hlo := Nat.le_of_ble_eq_true hlo
  have hce := Nat.le_of_ble_eq_true hce
  have hsl := Nat.le_of_ble_eq_true hsl
  intro p e s m below meth c H locs ls Z hm hn hr hk J hl
  obtain ⟨hlock, hTF, hno, htr0⟩ := hk
  intro T hT X0
  obtain ⟨q, hq⟩ := hTF.2.2.2.1 _ hs
  have Y0 := xre X0 (R' := { frames := R.frames, cells := 1, slots := 6, locals := R.locals }) (Nat.le_refl _) (Nat.le_refl _) hce hsl
  have hwm : s.WarmedH (T.setFrames (.invoking m X.2.2.2.1.toArray :: below)).vm := X0.warmed
  have hat' : ∀ x ∈ xT, x.before X.2.2.2.1.toArray (T.setFrames (.invoking m X.2.2.2.1.toArray :: below)) = true := fun x hx => word_at hwm (xT_good _ hx).2 (Z.2.2.2.1 x hx)
  have hown' : (T.setFrames (.invoking m X.2.2.2.1.toArray :: below)).vm.findClass own = some m.cls := by rw [hwm.alike.findClass]; exact Z.2.2.1
  have hTF' : xTF (xA X.2.2.2.2.1 X.2.2.2.2.2) (T.setFrames (.invoking m X.2.2.2.1.toArray :: below)) (T.setFrames (.invoking m X.2.2.2.1.toArray :: below)).heap := (hTF.kept (H1 := T.heap) (by rw [hT]; exact J.2.1.2.1)).warm hwm
  have hatoms : ∀ a ∈ Bundle.ownAtoms own ic K names, a.before X.2.2.2.1.toArray (T.setFrames (.invoking m X.2.2.2.1.toArray :: below)) = true := fun a ha => by
    rcases hat a ha with h | h | h | h | h | h
    · exact hat' a h
    · rw [h]; exact va_Zq_ref hTF'.1
    · rw [h]; exact va_Zq_ref hTF'.2.1
    · rw [h]; exact hTF'.2.2.1.1.use
    · rw [h]; exact hTF'.2.2.1.2.use
    · exact va_any (xDc_on a h) (hTF'.2.2.2.2.1 a h)
  have htr : e.platform.stackTraces = false := by rw [Example.NoTraceControls.admits_follows X0.admits]; exact htr0
  obtain ⟨vm1, cC, kC, hfc, hkC, hord, hn6, Y1, st1⟩ := Y0.newCold Z.1 (own := own) (C := K) (index := ix) (n := 6) hown' (hat' _ hcl) (hat' _ hin) (hat' _ hi) (g := F0 m pc ls []) rfl (by rw [Z.2.1]; exact d0) (Nat.le_refl _) (Nat.le_refl _)
  have hq' : vk_R own is tx q (T.setFrames (.invoking m X.2.2.2.1.toArray :: below)) := hq.warm hwm
  have key : W p X.1 e { frames := R.frames, cells := 1, slots := 6, locals := R.locals } (T.setFrames (.invoking m X.2.2.2.1.toArray :: below)) m X.2.2.2.1.toArray below meth c ((T.setVm vm1).pushCell { cls := cC, slots := kC.instanceTypes.map defaultValue, vm := .none }).heap [] (0 + 1) (0 + 6) (xMT below (xQT X.2.1 X.2.2.1 X.2.2.2.2.1 X.2.2.2.2.2 (K, w, sz + 1)) X.2.2.2.1.toArray s R.cells R.slots (xA X.2.2.2.2.1 X.2.2.2.2.2)) (F0 m (pc + 3) ls [.ref T.heap.size]) := by
    refine lv_dup Z.1 Z.2.1 d1 rfl (va_ldcS Z.1 Z.2.1 hown' hq' d2 ?_)
    intro T2 hT2 Y2
    obtain ⟨U, hst, hrun, hend, hWU, hsame, ce, hceU, hoc⟩ := Y2.ctorThrowS Z.1 htr (own := own) (cls := K) (names := names) (ic := ic) hown' hK hN hatoms (fun x hx => by cases hx) (a := T.heap.size) (cX := cC) (kX := kC) hfc hkC (by rw [hT2]; simp [State.pushCell, State.setVm]) (Nat.le_refl _) (msg := .ref q) rfl (g := F0 m (pc + 3 + 1 + 2) ls [.ref q, .ref T.heap.size, .ref T.heap.size]) rfl (hl.1.trans hm.symm) rfl rfl (rest := []) rfl (by rw [Z.2.1]; exact d3) (by rw [Z.2.1]; exact d4) (xout hno _) (by show names.length + 3 < R.frames; omega) (by
        have h0 : (F0 m (pc + 3 + 1 + 2) ls [.ref q, .ref T.heap.size, .ref T.heap.size]).monitorRoom = 0 := rfl
        have h1 : ((Value.ref T.heap.size :: ([] : List Value)).map fun v => v.category).sum = 1 := rfl
        rw [h0, h1]
        show 2 * 0 + 1 + _ ≤ R.locals
        omega) hlock
    have hs2 : T.sameButNew ({ U with vm := T.vm } : State) [] (0 + 1) (0 + 6) := by
      obtain ⟨h1, h2⟩ := hsame
      refine ⟨?_, h2⟩
      rw [State.setFrames_setFrames] at h1
      exact h1
    have hold := xkeep (s := s) hs2
    have hz1 : T.heap.size < U.heap.size := (Array.getElem?_eq_some_iff.mp hceU).1
    have hz2 : U.heap.size ≤ T.heap.size + 1 := hs2.2.2.1
    have hsT : T.heap.size = sz := by rw [hT]; exact J.2.2.2.1
    refine ⟨U, hst, .threw T.heap.size, hrun, hend, ⟨⟨T.heap.size, ce, rfl, hceU, ?_, hoc.vm⟩, ?_, ?_, J.2.2.1, ?_, ?_⟩, locs, ⟨⟨_, rfl⟩, ?_, ?_⟩, J.2.1.2.2⟩
    · have := hoc.cls
      rw [hwm.alike.findClass] at this
      exact this
    · intro a x hx
      have h1 := J.1 a x hx
      rw [← hT] at h1
      exact h1.kept (hold a h1.lt)
    · show U.heap.size = sz + 1
      omega
    · have := J.2.1.1
      rw [← hT] at this
      omega
    · intro a h1 h2
      have h3 := J.2.1.1
      rw [← hT] at h3
      rw [hold a (by omega), hT]
      exact J.2.1.2.1 a h1 h2
    · exact State.WarmedH.trans X0.warmed hWU
    · have hs3 := X0.same.trans (hs2.setVm s.vm)
      rw [List.append_nil] at hs3
      obtain ⟨a1, a2, a3, a4, a5, a6⟩ := hs3
      exact ⟨a1, a2, Nat.le_trans a3 (by omega), a4, Nat.le_trans a5 (by omega), a6⟩
  obtain ⟨t, a1, b1⟩ := key _ rfl Y1
  exact ⟨t, st1 t a1, b1⟩
end XT
section XTC
variable {l : Launch} {R : Room} {p : Program} {e : Env} {below : List Frame} {s : State} {sargs : Array Value} {y : MethodName} {len W : Nat}
def xPostT (Qc : Array Value → State → Outcome → State → Prop) (mc ms : Nat) (free : Addr → Prop) : Pt → Array Value → Addr → Pt → Prop := fun A a v B =>
  ∃ (g : JFrame) (mk : MethodId) (t : State) (L : List Loc), B.U.heap = t.heap ∧ B.U.vm = t.vm ∧ Qc a (A.U.calling g mk a) (.threw v) t ∧ B.locs = A.locs ++ L ∧ (∀ q ∈ L, free q.base) ∧ B.cells = A.cells + mc ∧ B.slots = A.slots + ms
theorem xbackT {ws : List Cond} {rm : Room} {Pc : Array Value → State → Prop} {Qc : Array Value → State → Outcome → State → Prop} {mc ms : Nat} {free : Addr → Prop} {bytes : ByteArray} {maxL : Nat} {ret : Option FieldType}
    (hM : MetFree l y (headSpec ws rm) Pc (fun _ _ _ _ _ => True) (fun a st o t => Qc a st o t ∧ ∃ L, FrameEndT st o t L mc ms ∧ ∀ q ∈ L, free q.base)) (hblind : FrameBlind Pc) (hrc : rm.cells = mc) (hrs : rm.slots = ms)
    (hframes : rm.frames + 1 ≤ R.frames) (hlocals : W + (maxL + 11) + rm.locals ≤ R.locals)
    (hws : ∀ w ∈ ws, ∀ a' U, s.WarmedH U.vm → w.before a' U = true) (hcode : Cond.code y bytes maxL ret ∈ ws) (hinit : ∀ a' U, s.WarmedH U.vm → (Cond.initialized y.cls).before a' U = true) :
    BackT l R p e below s sargs y len W (PreOf R mc ms Pc) (xPostT Qc mc ms free) := by
  refine BackT.of_free (S := headSpec ws rm) (P := Pc) (K := fun _ _ _ _ _ => True) (Q := fun a st o t => Qc a st o t ∧ ∃ L, FrameEndT st o t L mc ms ∧ ∀ q ∈ L, free q.base) (bytes := bytes) (maxL := maxL) (ret := ret)
    (E := fun a st o t L k n => k = mc ∧ n = ms ∧ ∀ q ∈ L, free q.base) hM hframes hlocals ?_ ?_ (fun _ _ _ _ _ _ _ _ _ => trivial) ?_ ?_
  · intro m meth c A a X hp
    exact ⟨atoms_intro fun w hw => hws w hw _ _ X.warmed, hws _ hcode _ _ X.warmed, hinit _ _ X.warmed, by rw [show (headSpec ws rm).room.cells = mc from hrc]; exact hp.1, by rw [show (headSpec ws rm).room.slots = ms from hrs]; exact hp.2.1⟩
  · intro m meth c A a g mk X hp
    exact hblind _ _ _ _ hp.2.2
  · intro a st o t ⟨hq, L, hF, hL⟩
    exact ⟨L, mc, ms, hF, rfl, rfl, hL⟩
  · intro m meth c A a g mk v t L k n X hp hq hF ⟨e1, e2, hL⟩
    subst e1; subst e2
    exact ⟨g, mk, t, L, rfl, rfl, hq.1, rfl, hL, rfl, rfl⟩
variable {m : MethodId} {args : Array Value} {meth : Method} {c : Code} {T : State} {locs : List Loc} {cells slots : Nat}
theorem xcallVT (X : Stand p l e R s m args below meth c T locs cells slots) (hexec : p.tables.exec = Jvm.exec) {own C : String} {index : Nat} {bytes : ByteArray} {maxL : Nat} {ret : Option FieldType}
    (hown : s.vm.findClass own = some m.cls) (hlink : (Cond.methodLink own index y).before args s = true) (hinst : (Cond.instanceMethod y).before args s = true) (hsel : (Cond.selects C y y).before args s = true)
    (hcode : (Cond.code y bytes maxL ret).before args s = true) (hy : y.cls ≠ "java/lang/invoke/MethodHandle" ∧ y.cls ≠ "java/lang/invoke/VarHandle")
    {Pre : Pt → Array Value → Prop} {Post : Pt → Array Value → Addr → Pt → Prop} (hK : BackT l R p e below s args y 3 W Pre Post)
    {b : Addr} {cellB : Cell} (hcell : T.heap[b]? = some cellB) (hobj : cellB.vm.isStatics = false) (hcls : s.vm.findClass C = some cellB.cls)
    {g : JFrame} (hg : g.method = m) (hsize : g.locals.size = c.maxLocals) {argsL rest : List Value} (hlen : ∀ sig, parseMethodDescriptor y.desc = some sig → argsL.length = sig.parameters.length)
    (hstack : g.stack = argsL.reverse ++ .ref b :: rest) (hW : 2 * g.monitorRoom + (rest.map fun v => v.category).sum ≤ W) (hdg : decode c.code g.pc = .ok (.invokevirtual index, 3))
    (hpre : ∀ vm₁, s.WarmedH vm₁ → Pre ⟨T.setVm vm₁, locs, cells, slots⟩ (Value.ref b :: argsL).toArray) :
    ∃ (v : Addr) (vm₁ : Vm) (B : Pt), s.WarmedH vm₁ ∧ Stand p l e R s m args below meth c B.U B.locs B.cells B.slots ∧ Post ⟨T.setVm vm₁, locs, cells, slots⟩ (Value.ref b :: argsL).toArray v B ∧
      Steps p.tables e below (T.setTop g) ((B.U.setTop { g with stack := rest }).pushFrame (.throwing v)) := by
  obtain ⟨mk, methM, hnamed, hmethM, hstM, habM⟩ := Cond.instanceMethod_spec hinst
  obtain ⟨methM', cM, hmethM', -, -, -, -, -, -, hsigM⟩ := Cond.code_spec hnamed hcode
  cases hmethM.symm.trans hmethM'
  obtain ⟨c2, r2, m2, q1, q2, q3, q4, kP, hkP, hkPi⟩ := Cond.selects_spec hsel
  cases hcls.symm.trans q1
  cases (State.methodFound?_of_named hnamed hy).symm.trans q2
  cases hnamed.symm.trans q3
  have hselP : selectMethod e.platform s.vm cellB.cls mk = .method mk := by rw [Launch.admits_selectMethod X.admits]; exact q4
  obtain ⟨vm₁, X₁, hstep₁⟩ := X.invokevirtual hexec hown hlink hnamed hmethM hstM hkP hkPi hy (a := b) (cell := cellB) hcell
    (fun z h => by rw [h] at hobj; cases hobj) hselP hmethM habM hkP hkPi (g := g) hg (argsL := argsL) (rest := rest) (hlen _ hsigM) hstack hdg
  obtain ⟨v, B, X', hpost, hsteps⟩ := hK m meth c ⟨T.setVm vm₁, locs, cells, slots⟩ { g with stack := rest } (.invokevirtual index) mk (Value.ref b :: argsL).toArray X₁ hg hsize hdg hW (X₁.named hnamed) (hpre vm₁ X₁.warmed)
  exact ⟨v, vm₁, B, X₁.warmed, X', hpost, hstep₁ _ fun acts => by rw [doInvoke_state]; exact hsteps⟩
theorem xcallST (X : Stand p l e R s m args below meth c T locs cells slots) (hexec : p.tables.exec = Jvm.exec) {own : String} {index : Nat} {bytes : ByteArray} {maxL : Nat} {ret : Option FieldType}
    (hown : s.vm.findClass own = some m.cls) (hlink : (Cond.methodLink own index y).before args s = true) (hstat : (Cond.static y).before args s = true) (hinit : (Cond.initialized y.cls).before args s = true)
    (hcode : (Cond.code y bytes maxL ret).before args s = true) (hy : y.cls ≠ "java/lang/invoke/MethodHandle" ∧ y.cls ≠ "java/lang/invoke/VarHandle")
    {Pre : Pt → Array Value → Prop} {Post : Pt → Array Value → Addr → Pt → Prop} (hK : BackT l R p e below s args y 3 W Pre Post)
    {g : JFrame} (hg : g.method = m) (hsize : g.locals.size = c.maxLocals) {argsL rest : List Value} (hlen : ∀ sig, parseMethodDescriptor y.desc = some sig → argsL.length = sig.parameters.length)
    (hstack : g.stack = argsL.reverse ++ rest) (hW : 2 * g.monitorRoom + (rest.map fun v => v.category).sum ≤ W) (hdg : decode c.code g.pc = .ok (.invokestatic index, 3))
    (hpre : ∀ vm₁, s.WarmedH vm₁ → Pre ⟨T.setVm vm₁, locs, cells, slots⟩ argsL.toArray) :
    ∃ (v : Addr) (vm₁ : Vm) (B : Pt), s.WarmedH vm₁ ∧ Stand p l e R s m args below meth c B.U B.locs B.cells B.slots ∧ Post ⟨T.setVm vm₁, locs, cells, slots⟩ argsL.toArray v B ∧
      Steps p.tables e below (T.setTop g) ((B.U.setTop { g with stack := rest }).pushFrame (.throwing v)) := by
  obtain ⟨mk, hnamed⟩ := Cond.code_named hcode
  obtain ⟨methM, cM, hmethM, -, -, -, -, -, -, hsigM⟩ := Cond.code_spec hnamed hcode
  have hstatic : methM.isStatic = true := Cond.static_spec hnamed hmethM hstat
  obtain ⟨kP, hkP, -⟩ := className_of_methodNamed hnamed
  have hinitP : kP.init = .initialized := Cond.initialized_spec (findClass_of_methodNamed hnamed) hkP hinit
  obtain ⟨vm₁, X₁, hstep₁⟩ := X.invokestatic hexec hown hlink hnamed hmethM hstatic hkP hinitP hy (g := g) hg (argsL := argsL) (rest := rest) (hlen _ hsigM) hstack hdg
  obtain ⟨v, B, X', hpost, hsteps⟩ := hK m meth c ⟨T.setVm vm₁, locs, cells, slots⟩ { g with stack := rest } (.invokestatic index) mk argsL.toArray X₁ hg hsize hdg hW (X₁.named hnamed) (hpre vm₁ X₁.warmed)
  exact ⟨v, vm₁, B, X₁.warmed, X', hpost, hstep₁ _ fun acts => by rw [doInvoke_state]; exact hsteps⟩
end XTC
/-- what a call that throws is, from the caller's side -/
def xRunT (p : Program) (l : Launch) (e : Env) (R : Room) (s : State) (m : MethodId) (args : Array Value) (below : List Frame) (meth : Method) (c : Code) (H : Heap) (locs : List Loc) (cells slots mc ms : Nat) (g : JFrame) (rest : List Value) (Qa : State → Outcome → State → Prop) (free : Addr → Prop) : Prop :=
  ∀ T : State, T.heap = H → Stand p l e R s m args below meth c T locs cells slots → ∃ (v : Addr) (st₀ t T' : State) (L : List Loc), st₀.heap = H ∧ s.WarmedH st₀.vm ∧ Stand p l e R s m args below meth c T' (locs ++ L) (cells + mc) (slots + ms) ∧ (∀ q ∈ L, free q.base) ∧ T'.heap = t.heap ∧ T'.vm = t.vm ∧ Qa st₀ (.threw v) t ∧
    Steps p.tables e below (T.setTop g) ((T'.setTop { g with stack := rest }).pushFrame (.throwing v))
section XTB
variable {p : Program} {l : Launch} {e : Env} {s : State} {m : MethodId} {args : Array Value} {below : List Frame} {meth : Method} {c : Code} {H H0 : Heap} {locs : List Loc} {cells slots : Nat} {cc : ByteArray} {D : va_G} {cT : Nat → ClassId} {A : Nat → Prop} {R : Room} {own : String} {w : xw} {sz pc nL : Nat} {ls : Array Slot}
abbrev xPT (D : va_G) (cT : Nat → ClassId) (w : xw) (sz : Nat) (as : List Value) : Array Value → State → Prop := va_Pc as (fun U => xB D cT w sz U ∧ xTF (xA w sz) U U.heap)
theorem xt_blind {as : List Value} : FrameBlind (xPT D cT w sz as) := fun a U g mk q => by
  obtain ⟨q0, ⟨q1, q2, q3, q4⟩, q5⟩ := q
  exact ⟨q0, ⟨q1, q2, va_K.moved (u := U) (U := U.calling g mk a) (Vm.Alike.refl U.vm) q3, xE.same (U := U.calling g mk a) rfl q4⟩, q5.warm (s := U) (U := U.calling g mk a) (State.WarmedH.refl U)⟩
theorem xt_in (J : xJ D cT A H0 w sz H locs) : ∀ q, xA w sz q → A q := fun q z => z.elim (J.2.2.1 q) (fun z => J.2.2.2.2 q (Nat.le_trans J.2.1.1 (by rw [J.2.2.2.1]; exact z)))
theorem xt_pre {as : List Value} (Z : xZ p s m c cc args own D cT) (J : xJ D cT A s.heap w sz H locs) (hF : xTF A s s.heap) : ∀ U : State, U.heap = H → s.WarmedH U.vm → xPT D cT w sz as as.toArray U := fun U hU hW => ⟨rfl, ⟨by rw [hU]; exact J.1, by rw [hU]; exact J.2.2.2.1, va_K.moved hW.alike Z.2.2.2.2.1, xE.warm hW Z.2.2.2.2.2⟩, by
  rw [hU]
  exact ((hF.kept (H1 := H) J.2.1.2.1).narrow (xt_in J)).warm hW⟩
theorem xt_runV {As rest : List Value} {y : MethodName} {bytes : ByteArray} {maxL n index b ci N : Nat} {T : u_T} {ty : Nat → FieldType} {ret' : Option FieldType} {R' : Room} {r' : xV} {u : Unit} {st0 : List Value} {cl sl : Nat} (Z : xZ p s m c cc args own D cT) (hm : c.maxLocals = nL) (htr : l.stackTraces = false) (hF : xTF A s s.heap) (J : xJ D cT A s.heap w sz H locs) (hls : ls.size = nL)
    (hd : decode cc pc = .ok (.invokevirtual index, 3)) (hw : Cond.methodLink own index y ∈ xT) (hy : xYV y bytes maxL ret' n) (K : xC ci y.cls T N ty) (hck : xck w b ci = some u) (hM : xN l y bytes maxL ret' R' D cT (.ref b :: As) w sz r') (hf : xfit R' maxL R cl sl = true) (hnA : As.length = n) (hst : st0 = As.reverse ++ .ref b :: rest) (hW : Nat.ble (rest.map fun v => v.category).sum 8 = true) :
    xRunT p l e R s m args below meth c H locs cl sl R'.cells R'.slots (F0 m pc ls st0) rest (xQT D cT w sz r' (Value.ref b :: As).toArray) (xA w sz) := by
  obtain ⟨hf1, hf2⟩ := xfit_of hf
  obtain ⟨fs, he⟩ := xck_inv hck
  obtain ⟨hcode, hinst, hini, hyy, hsel⟩ := hy
  have hK : BackT l R p e below s args y 3 8 (PreOf R R'.cells R'.slots (xPT D cT w sz (.ref b :: As))) (xPostT (xQT D cT w sz r') R'.cells R'.slots (xA w sz)) := xbackT (bytes := bytes) (maxL := maxL) (ret := ret') (hM htr) xt_blind rfl rfl hf1.1 hf1.2 (pay_in Z.2.2.2.1 (xgood hcode)) List.mem_cons_self (fun a' U hW => word_at hW (xT_good _ hini).2 (Z.2.2.2.1 _ hini))
  obtain ⟨cellB, hcB, hoB, hclB⟩ := va_recv (q0 := 0) Z.2.2.2.2.1 (xP1 (J.1 b _ he)) K.1 rfl
  intro T hT X
  obtain ⟨v, vm₁, ⟨U', l2, c2, s2⟩, hW₁, X', ⟨g', mk, t, L, e1, e2, hq, h1, hL, h2, h3⟩, st⟩ := xcallVT X Z.1 (C := y.cls) (bytes := bytes) (maxL := maxL) (ret := ret') Z.2.2.1 (Z.2.2.2.1 _ hw) (Z.2.2.2.1 _ hinst) (Z.2.2.2.1 _ hsel) (Z.2.2.2.1 _ hcode) ⟨hyy.1, hyy.2.1⟩ hK (by rw [hT]; exact hcB) hoB hclB (g := F0 m pc ls st0) rfl (hls.trans hm.symm) (argsL := As) (rest := rest) (fun sig h => hnA.trans (by
      have h2 := hyy.2.2
      rw [h] at h2
      exact (Option.some.inj h2).symm)) hst (lv_room (Nat.le_of_ble_eq_true hW)) (by rw [Z.2.1]; exact hd)
    (fun vm₁ hW₁ => ⟨hf2.1, hf2.2, xt_pre Z J hF (T.setVm vm₁) hT hW₁⟩)
  dsimp only [Pt.U, Pt.locs, Pt.cells, Pt.slots] at X' e1 e2 h1 h2 h3 st
  subst h1; subst h2; subst h3
  exact ⟨v, (T.setVm vm₁).calling g' mk (Value.ref b :: As).toArray, t, U', L, hT, hW₁, X', hL, e1, e2, hq, st⟩
theorem xt_runS {As rest : List Value} {y : MethodName} {bytes : ByteArray} {maxL n index : Nat} {ret' : Option FieldType} {R' : Room} {r' : xV} {st0 : List Value} {cl sl : Nat} (Z : xZ p s m c cc args own D cT) (hm : c.maxLocals = nL) (htr : l.stackTraces = false) (hF : xTF A s s.heap) (J : xJ D cT A s.heap w sz H locs) (hls : ls.size = nL)
    (hd : decode cc pc = .ok (.invokestatic index, 3)) (hw : Cond.methodLink own index y ∈ xT) (hy : xYS y bytes maxL ret' n) (hM : xN l y bytes maxL ret' R' D cT As w sz r') (hf : xfit R' maxL R cl sl = true) (hnA : As.length = n) (hst : st0 = As.reverse ++ rest) (hW : Nat.ble (rest.map fun v => v.category).sum 8 = true) :
    xRunT p l e R s m args below meth c H locs cl sl R'.cells R'.slots (F0 m pc ls st0) rest (xQT D cT w sz r' As.toArray) (xA w sz) := by
  obtain ⟨hf1, hf2⟩ := xfit_of hf
  obtain ⟨hcode, hstat, hini, hyy⟩ := hy
  have hK : BackT l R p e below s args y 3 8 (PreOf R R'.cells R'.slots (xPT D cT w sz As)) (xPostT (xQT D cT w sz r') R'.cells R'.slots (xA w sz)) := xbackT (bytes := bytes) (maxL := maxL) (ret := ret') (hM htr) xt_blind rfl rfl hf1.1 hf1.2 (pay_in Z.2.2.2.1 (xgood hcode)) List.mem_cons_self (fun a' U hW => word_at hW (xT_good _ hini).2 (Z.2.2.2.1 _ hini))
  intro T hT X
  obtain ⟨v, vm₁, ⟨U', l2, c2, s2⟩, hW₁, X', ⟨g', mk, t, L, e1, e2, hq, h1, hL, h2, h3⟩, st⟩ := xcallST X Z.1 (bytes := bytes) (maxL := maxL) (ret := ret') Z.2.2.1 (Z.2.2.2.1 _ hw) (Z.2.2.2.1 _ hstat) (Z.2.2.2.1 _ hini) (Z.2.2.2.1 _ hcode) ⟨hyy.1, hyy.2.1⟩ hK (g := F0 m pc ls st0) rfl (hls.trans hm.symm) (argsL := As) (rest := rest) (fun sig h => hnA.trans (by
      have h2 := hyy.2.2
      rw [h] at h2
      exact (Option.some.inj h2).symm)) hst (lv_room (Nat.le_of_ble_eq_true hW)) (by rw [Z.2.1]; exact hd)
    (fun vm₁ hW₁ => ⟨hf2.1, hf2.2, xt_pre Z J hF (T.setVm vm₁) hT hW₁⟩)
  dsimp only [Pt.U, Pt.locs, Pt.cells, Pt.slots] at X' e1 e2 h1 h2 h3 st
  subst h1; subst h2; subst h3
  exact ⟨v, (T.setVm vm₁).calling g' mk As.toArray, t, U', L, hT, hW₁, X', hL, e1, e2, hq, st⟩
/-- behind a call that threw, where the caller has no handler -/
theorem xt_out {as : Array Value} {r : xV} {mc ms cl sl : Nat} {w0 : xw} {sz0 : Nat} {st0 rest : List Value} (hr : xRunT p l e R s m args below meth c H locs cl sl mc ms (F0 m pc ls st0) rest (xQT D cT w sz r as) (xA w sz)) (hlock : meth.locks = false) (hno : c.exceptionTable.isEmpty = true) (hc : cl + mc ≤ R.cells) (hs : sl + ms ≤ R.slots) (J : xJ D cT (xA w0 sz0) s.heap w sz H locs) :
    W p l e R s m args below meth c H locs cl sl (xMT below (xQT D cT w0 sz0 r) args s R.cells R.slots (xA w0 sz0)) (F0 m pc ls st0) := by
  intro T hT X
  obtain ⟨v, st₀, t, T', L, h0, hW0, X', hL, e1, e2, ⟨⟨x, ce, hx, hce, hcls, hvm⟩, hH, hsz, hdom, hz, hk⟩, st⟩ := hr T hT X
  cases hx
  obtain ⟨hst, hrun, hend, hW, hsame⟩ := X'.leaveThrown v (g := { (F0 m pc ls st0) with stack := rest }) rfl rfl rfl (xout hno _) hlock
  have hin := xt_in J
  rw [h0] at hz hk
  have hS := J.2.1
  refine ⟨T'.setFrames (.throwing v :: below), st.trans hst, .threw v, hrun, hend, ⟨⟨v, ce, rfl, ?_, ?_, hvm⟩, ?_, ?_, fun a h => hin a (hdom a h), ?_, ?_⟩, locs ++ L, ⟨⟨_, rfl⟩, hW, ?_⟩, ?_⟩
  · show T'.heap[v]? = some ce
    rw [e1]; exact hce
  · rw [hW0.alike.findClass] at hcls
    exact hcls
  · show xH D cT r.2.1 T'.heap
    rw [e1]; exact hH
  · show T'.heap.size = r.2.2
    rw [e1]; exact hsz
  · show s.heap.size ≤ T'.heap.size
    rw [e1]; exact Nat.le_trans hS.1 hz
  · intro q h1 h2
    show T'.heap[q]? = s.heap[q]?
    rw [e1, hk q (Nat.lt_of_lt_of_le h1 hS.1) (fun z => h2 (hin q z))]; exact hS.2.1 q h1 h2
  · obtain ⟨a1, a2, a3, a4, a5, a6⟩ := hsame
    exact ⟨a1, a2, Nat.le_trans a3 (by omega), a4, Nat.le_trans a5 (by omega), a6⟩
  · intro q hq
    rcases List.mem_append.mp hq with h | h
    · exact hS.2.2 q h
    · exact hin _ (hL q h)
end XTB
def xor2 {α β : Type} (o : Option α) (t : Option β) (g : α → Option β) : Option β := match o with
  | some z => g z
  | none => t
section XTR
variable {cc : ByteArray} {nL : Nat} {own nm : String} {ret : Option FieldType} {R : Room} {X : xX} {lv : List (Nat × Value)} {st : List Value} {w : xw} {sz cl sl pc pc' : Nat}
theorem uc_V {As rest st0 : List Value} {y : MethodName} {bytes : ByteArray} {maxL n index b ci N : Nat} {T : u_T} {ty : Nat → FieldType} {ret' : Option FieldType} {R' : Room} {r : xV} {u : Unit} (hd : xD cc pc (.invokevirtual index) 3 pc') (hw : Cond.methodLink own index y ∈ xT) (hy : xYV y bytes maxL ret' n) (K : xC ci y.cls T N ty) (hck : xck w b ci = some u) (hM : xN X.1 y bytes maxL ret' R' X.2.1 X.2.2.1 (.ref b :: As) w sz r) (hf : xfit R' maxL R cl sl = true) (hnA : As.length = n) (hst : st0 = As.reverse ++ .ref b :: rest) (hW : Nat.ble (rest.map fun v => v.category).sum 8 = true) : xU cc nL own nm ret R X lv st0 w sz cl sl pc r :=
  fun p e s m below meth c H locs ls Z hm hn hr hk J hl => xt_out (xt_runV Z hm hk.2.2.2 hk.2.1 J hl.1 hd.1 hw hy K hck hM hf hnA hst hW) hk.1 hk.2.2.1 (xfit_of hf).2.1 (xfit_of hf).2.2 J
theorem uc_S {As rest st0 : List Value} {y : MethodName} {bytes : ByteArray} {maxL n index : Nat} {ret' : Option FieldType} {R' : Room} {r : xV} (hd : xD cc pc (.invokestatic index) 3 pc') (hw : Cond.methodLink own index y ∈ xT) (hy : xYS y bytes maxL ret' n) (hM : xN X.1 y bytes maxL ret' R' X.2.1 X.2.2.1 As w sz r) (hf : xfit R' maxL R cl sl = true) (hnA : As.length = n) (hst : st0 = As.reverse ++ rest) (hW : Nat.ble (rest.map fun v => v.category).sum 8 = true) : xU cc nL own nm ret R X lv st0 w sz cl sl pc r :=
  fun p e s m below meth c H locs ls Z hm hn hr hk J hl => xt_out (xt_runS Z hm hk.2.2.2 hk.2.1 J hl.1 hd.1 hw hy hM hf hnA hst hW) hk.1 hk.2.2.1 (xfit_of hf).2.1 (xfit_of hf).2.2 J
theorem uo_VT_I {rest st0 : List Value} (As : List Value) {y : MethodName} {bytes : ByteArray} {maxL n index : Nat} {b ci N : Nat} {T : u_T} {ty : Nat → FieldType} {ret' : Option FieldType} {R' Rt : Room} {o : Option (Int32 × xw)} {t : Option (String × xw)} {g : Int32 × xw → Option (String × xw)} {ro : String × xw} (hd : xD cc pc (.invokevirtual index) 3 pc') (hw : Cond.methodLink own index y ∈ xT) (hy : xYV y bytes maxL ret' n) (h : (xck w b ci).bind (fun _ => xor2 o t g) = some ro) (K : xC ci y.cls T N ty) (hM : ∀ z, o = some z → xM X.1 y bytes maxL ret' R' X.2.1 X.2.2.1 (.ref b :: As) w sz (some (.int z.1), z.2, sz)) (hT : ∀ z, t = some z → xN X.1 y bytes maxL ret' Rt X.2.1 X.2.2.1 (.ref b :: As) w sz (z.1, z.2, sz + 1)) (hf : xfit R' maxL R cl sl = true) (hft : xfit Rt maxL R cl sl = true) (hz : R'.cells = 0 ∧ R'.slots = 0) (hnA : As.length = n) (hst : st0 = As.reverse ++ .ref b :: rest) (hW : Nat.ble (rest.map fun v => v.category).sum 8 = true) (k : ∀ z, g z = some ro → xU cc nL own nm ret R X lv (.int z.1 :: rest) z.2 sz cl sl pc' (ro.1, ro.2, sz + 1)) : xU cc nL own nm ret R X lv st0 w sz cl sl pc (ro.1, ro.2, sz + 1) := by
  obtain ⟨u, hu, h⟩ := xb h
  cases ho : o with
  | some z =>
    rw [ho] at h
    have kz := k z h
    exact uxc_V (As := As) hd hw hy K hu (hM z ho) hf hnA hst hW (by rw [hz.1, hz.2]; exact kz)
  | none =>
    rw [ho] at h
    exact uc_V (As := As) hd hw hy K hu (hT ro h) hft hnA hst hW
theorem uo_ST_I {rest st0 : List Value} (As : List Value) {y : MethodName} {bytes : ByteArray} {maxL n index : Nat} {ret' : Option FieldType} {R' Rt : Room} {o : Option (Int32 × xw)} {t : Option (String × xw)} {g : Int32 × xw → Option (String × xw)} {ro : String × xw} (hd : xD cc pc (.invokestatic index) 3 pc') (hw : Cond.methodLink own index y ∈ xT) (hy : xYS y bytes maxL ret' n) (h : xor2 o t g = some ro) (hM : ∀ z, o = some z → xM X.1 y bytes maxL ret' R' X.2.1 X.2.2.1 As w sz (some (.int z.1), z.2, sz)) (hT : ∀ z, t = some z → xN X.1 y bytes maxL ret' Rt X.2.1 X.2.2.1 As w sz (z.1, z.2, sz + 1)) (hf : xfit R' maxL R cl sl = true) (hft : xfit Rt maxL R cl sl = true) (hz : R'.cells = 0 ∧ R'.slots = 0) (hnA : As.length = n) (hst : st0 = As.reverse ++ rest) (hW : Nat.ble (rest.map fun v => v.category).sum 8 = true) (k : ∀ z, g z = some ro → xU cc nL own nm ret R X lv (.int z.1 :: rest) z.2 sz cl sl pc' (ro.1, ro.2, sz + 1)) : xU cc nL own nm ret R X lv st0 w sz cl sl pc (ro.1, ro.2, sz + 1) := by
  cases ho : o with
  | some z =>
    rw [ho] at h
    have kz := k z h
    exact uxc_S (As := As) hd hw hy (hM z ho) hf hnA hst hW (by rw [hz.1, hz.2]; exact kz)
  | none =>
    rw [ho] at h
    exact uc_S (As := As) hd hw hy (hT ro h) hft hnA hst hW
theorem uo_ST_L {rest st0 : List Value} (As : List Value) {y : MethodName} {bytes : ByteArray} {maxL n index : Nat} {ret' : Option FieldType} {R' Rt : Room} {o : Option (Int64 × xw)} {t : Option (String × xw)} {g : Int64 × xw → Option (String × xw)} {ro : String × xw} (hd : xD cc pc (.invokestatic index) 3 pc') (hw : Cond.methodLink own index y ∈ xT) (hy : xYS y bytes maxL ret' n) (h : xor2 o t g = some ro) (hM : ∀ z, o = some z → xM X.1 y bytes maxL ret' R' X.2.1 X.2.2.1 As w sz (some (.long z.1), z.2, sz)) (hT : ∀ z, t = some z → xN X.1 y bytes maxL ret' Rt X.2.1 X.2.2.1 As w sz (z.1, z.2, sz + 1)) (hf : xfit R' maxL R cl sl = true) (hft : xfit Rt maxL R cl sl = true) (hz : R'.cells = 0 ∧ R'.slots = 0) (hnA : As.length = n) (hst : st0 = As.reverse ++ rest) (hW : Nat.ble (rest.map fun v => v.category).sum 8 = true) (k : ∀ z, g z = some ro → xU cc nL own nm ret R X lv (.long z.1 :: rest) z.2 sz cl sl pc' (ro.1, ro.2, sz + 1)) : xU cc nL own nm ret R X lv st0 w sz cl sl pc (ro.1, ro.2, sz + 1) := by
  cases ho : o with
  | some z =>
    rw [ho] at h
    have kz := k z h
    exact uxc_S (As := As) hd hw hy (hM z ho) hf hnA hst hW (by rw [hz.1, hz.2]; exact kz)
  | none =>
    rw [ho] at h
    exact uc_S (As := As) hd hw hy (hT ro h) hft hnA hst hW
end XTR
theorem xu_of {l : Launch} {y : MethodName} {bytes cc : ByteArray} {maxL : Nat} {ret : Option FieldType} {R : Room} {D : va_G} {cT : Nat → ClassId} {as : List Value} {w : xw} {sz : Nat} {r : xV} (hb : bytes = cc) (hp : plainName y.cls = true) (hn : Nat.ble (lg_sl as).length maxL = true)
    (h : xU cc maxL y.cls y.name ret R (l, D, cT, as, w, sz) (lv_args 0 as) [] w sz 0 0 0 r) : xN l y bytes maxL ret R D cT as w sz r := by
  intro htr
  refine MetFree.of_bodySF (code := bytes) (maxLocals := maxL) (ret := ret) (plainFor_of_name hp) ?_ ?_
  · intro args s m h hn
    obtain ⟨meth, c, h1, h2, h3, h4, h5, h6, -, -⟩ := Cond.code_spec hn (atoms_spec (ws := .code y bytes maxL ret :: xT) h _ List.mem_cons_self)
    exact ⟨meth, c, h1, h2, h3, h4, h5, h6⟩
  · intro p e s m args below meth c s₁ B hml hP _
    obtain ⟨rfl, ⟨h1, h2, h3, h4⟩, h5⟩ := hP
    have hts := atoms_spec (ws := .code y bytes maxL ret :: xT) B.pre
    have X0 := Stand.of_body B
    have hno : c.exceptionTable.isEmpty = true := by
      obtain ⟨meth', c', q1, q2, -, -, -, -, q3, -⟩ := Cond.code_spec B.named (hts _ List.mem_cons_self)
      cases Option.some.inj (B.method.symm.trans q1)
      cases Option.some.inj (X0.code.symm.trans q2)
      exact q3
    have hh0 : s₁.heap = s.heap := by rw [B.state]; rfl
    obtain ⟨t, a1, o, b1, b2, b3⟩ := h p e s m below meth c s.heap [] (entryFrame m as.toArray maxL).locals ⟨B.exec, B.bytes.trans hb, findClass_of_methodNamed B.named, fun x hx => hts x (List.mem_cons_of_mem _ hx), h3, h4⟩ hml (name_of_methodNamed B.named B.method).1 B.returns ⟨B.notSynchronized, h5, hno, htr⟩ ⟨h1, va_S.rf, fun a ha => Or.inl ha, h2, fun q hq => Or.inr (by rw [← h2]; exact hq)⟩ (by rw [lg_entry_eq]; exact lv_entry as (Nat.le_of_ble_eq_true hn)) s₁ hh0 X0
    refine ⟨t, o, ?_, b1, b2, b3⟩
    have e0 : entryFrame m as.toArray maxL = F0 m 0 (entryFrame m as.toArray maxL).locals [] := by rw [lg_entry_eq]
    rw [e0]
    exact a1
