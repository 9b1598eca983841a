/-! The law's own run: it returns 0, or the number of what was thrown. -/
theorem d_L_run_0 : xD lb_L_run 0 (.aload_n 2) 1 1 := xd_of (by decide +kernel)
theorem d_L_run_1 : xD lb_L_run 1 (.iconst 0) 1 2 := xd_of (by decide +kernel)
theorem d_L_run_2 : xD lb_L_run 2 (.aload_n 0) 1 3 := xd_of (by decide +kernel)
theorem d_L_run_3 : xD lb_L_run 3 (.iload_n 1) 1 4 := xd_of (by decide +kernel)
theorem d_L_run_4 : xD lb_L_run 4 (.invokevirtual 7) 3 7 := xd_of (by decide +kernel)
theorem d_L_run_7 : xD lb_L_run 7 .i2l 1 8 := xd_of (by decide +kernel)
theorem d_L_run_8 : xD lb_L_run 8 .lastore 1 9 := xd_of (by decide +kernel)
theorem d_L_run_9 : xDJ lb_L_run 9 (.goto 12) 12 21 12 := xdj_of (by decide +kernel)
theorem d_L_run_12 : xD lb_L_run 12 (.astore_n 3) 1 13 := xd_of (by decide +kernel)
theorem d_L_run_13 : xD lb_L_run 13 (.iconst 1) 1 14 := xd_of (by decide +kernel)
theorem d_L_run_14 : xD lb_L_run 14 .ireturn 1 15 := xd_of (by decide +kernel)
theorem d_L_run_15 : xD lb_L_run 15 (.astore_n 3) 1 16 := xd_of (by decide +kernel)
theorem d_L_run_16 : xD lb_L_run 16 (.iconst 2) 1 17 := xd_of (by decide +kernel)
theorem d_L_run_17 : xD lb_L_run 17 .ireturn 1 18 := xd_of (by decide +kernel)
theorem d_L_run_18 : xD lb_L_run 18 (.astore_n 3) 1 19 := xd_of (by decide +kernel)
theorem d_L_run_19 : xD lb_L_run 19 (.iconst 3) 1 20 := xd_of (by decide +kernel)
theorem d_L_run_20 : xD lb_L_run 20 .ireturn 1 21 := xd_of (by decide +kernel)
theorem d_L_run_21 : xD lb_L_run 21 (.iconst 0) 1 22 := xd_of (by decide +kernel)
theorem d_L_run_22 : xD lb_L_run 22 .ireturn 1 23 := xd_of (by decide +kernel)
abbrev hs_L_run : List (Nat × Nat × Nat × Nat) := [(0, 9, 12, 13), (0, 9, 15, 15), (0, 9, 18, 17)]
theorem tw_lr : Cond.codeWith y_L_run b_L_run 4 t_L_run hs_L_run ∈ xT := xin_3 (i := 18) rfl rfl
theorem tw_lr1 : Cond.classLink "ProgramGateLaw" 13 "java/lang/IllegalStateException" ∈ xT := xin_3 (i := 19) rfl rfl
theorem tw_lr2 : Cond.classLink "ProgramGateLaw" 15 "java/lang/ArithmeticException" ∈ xT := xin_3 (i := 20) rfl rfl
theorem tw_lr3 : Cond.classLink "ProgramGateLaw" 17 "java/lang/IndexOutOfBoundsException" ∈ xT := xin_3 (i := 21) rfl rfl
theorem tw_lr4 : Cond.methodLink "ProgramGateLaw" 7 y_G_run ∈ xT := xin_3 (i := 22) rfl rfl
theorem tw_503 : Cond.instanceMethod (⟨"ProgramGate", "run", "(I)I"⟩ : MethodName) ∈ xT := xin_3 (i := 23) rfl rfl
theorem tw_504 : Cond.selects "ProgramGate" (⟨"ProgramGate", "run", "(I)I"⟩ : MethodName) (⟨"ProgramGate", "run", "(I)I"⟩ : MethodName) ∈ xT := xin_3 (i := 24) rfl rfl
theorem tw_505 : Cond.code (⟨"ProgramGate", "run", "(I)I"⟩ : MethodName) prog_1_method_8_code 2 (some .int) ∈ xT := xin_3 (i := 25) rfl rfl
theorem yw_G_run : xYV y_G_run b_G_run 2 t_G_run 1 := ⟨tw_505, tw_503, tw_1, ⟨by decide +kernel, by decide +kernel, by decide +kernel⟩, tw_504⟩
abbrev R_L_run : Room := { frames := 11, cells := 1, slots := 6, locals := 191 }
def xMW (l : Launch) (y : MethodName) (bytes : ByteArray) (maxL : Nat) (ret : Option FieldType) (hs : List (Nat × Nat × Nat × Nat)) (R : Room) (D : va_G) (cT : Nat → ClassId) (as : List Value) (w : xw) (sz : Nat) (r : xR) : Prop :=
  l.stackTraces = false → Met l y (.codeWith y bytes maxL ret hs :: xT) R (xPT D cT w sz as) (xQ D cT w sz r) R.cells R.slots (xA w sz)
theorem xmw_of {l : Launch} {y : MethodName} {bytes cc : ByteArray} {maxL : Nat} {ret : Option FieldType} {hs : List (Nat × Nat × Nat × Nat)} {R : Room} {D : va_G} {cT : Nat → ClassId} {as : List Value} {w : xw} {sz : Nat} {r : xR} (hb : bytes = cc) (hp : plainName y.cls = true) (hn : Nat.ble (lg_sl as).length maxL = true)
    (h : l.stackTraces = false → ∀ (p : Program) (e : Env) (s : State) (m : MethodId) (below : List Frame) (meth : Method) (c : Code) (H : Heap) (locs : List Loc) (ls : Array Slot),
      xZ p s m c cc as.toArray y.cls D cT → c.maxLocals = maxL → meth.name = y.name → meth.sig.returnType = ret → meth.locks = false → xTF (xA w sz) s s.heap → c.exceptionTable.toList.map (fun h => (h.startPc, h.endPc, h.handlerPc, h.catchType)) = hs → xJ D cT (xA w sz) s.heap w sz H locs → lv_has ls maxL (lv_args 0 as) →
      W p l e R s m as.toArray below meth c H locs 0 0 (MQ below (xQ D cT w sz r) as.toArray s R.cells R.slots (xA w sz)) (F0 m 0 ls [])) : xMW l y bytes maxL ret hs R D cT as w sz r := by
  intro htr
  refine MetFree.of_bodySF (code := bytes) (maxLocals := maxL) (ret := ret) (plainFor_of_name hp) ?_ ?_
  · intro args s m h hn
    obtain ⟨m', meth, c, h0, h1, h2, h3, h4, -, h5, h6, -⟩ := Cond.codeWith_spec (atoms_spec (ws := .codeWith y bytes maxL ret hs :: xT) h _ List.mem_cons_self)
    cases Option.some.inj (hn.symm.trans h0)
    exact ⟨meth, c, h1, h2, h3, h4, h5, h6⟩
  · intro p e s m args below meth c s₁ B hml hP _
    obtain ⟨rfl, ⟨h1, h2, h3, h4⟩, h5⟩ := hP
    have hts := atoms_spec (ws := .codeWith y bytes maxL ret hs :: xT) B.pre
    have X0 := Stand.of_body B
    have hex : c.exceptionTable.toList.map (fun h => (h.startPc, h.endPc, h.handlerPc, h.catchType)) = hs := by
      obtain ⟨m', meth', c', q0, q1, q2, -, -, q3, -⟩ := Cond.codeWith_spec (hts _ List.mem_cons_self)
      cases Option.some.inj (B.named.symm.trans q0)
      cases Option.some.inj (B.method.symm.trans q1)
      cases Option.some.inj (X0.code.symm.trans q2)
      exact q3
    have hh0 : s₁.heap = s.heap := by rw [B.state]; rfl
    obtain ⟨t, a1, o, b1, b2, b3⟩ := h htr p e s m below meth c s.heap [] (entryFrame m as.toArray maxL).locals ⟨B.exec, B.bytes.trans hb, findClass_of_methodNamed B.named, fun x hx => hts x (List.mem_cons_of_mem _ hx), h3, h4⟩ hml (name_of_methodNamed B.named B.method).1 B.returns B.notSynchronized h5 hex ⟨h1, va_S.rf, fun a ha => Or.inl ha, h2, fun q hq => Or.inr (by rw [← h2]; exact hq)⟩ (by rw [lg_entry_eq]; exact lv_entry as (Nat.le_of_ble_eq_true hn)) s₁ hh0 X0
    refine ⟨t, o, ?_, b1, b2, b3⟩
    have e0 : entryFrame m as.toArray maxL = F0 m 0 (entryFrame m as.toArray maxL).locals [] := by rw [lg_entry_eq]
    rw [e0]
    exact a1
def f_L_run (w : xw) (sz : Nat) (l0 : Nat) (l1 : Int32) (l2 : Nat) : Option (Int32 × xw × Nat) :=
  (xck w l0 0).bind fun _ => match f_G_run w l0 l1 with
    | some q => (xsL q.2 l2 (0 : Int32) q.1.toInt64).bind fun w2 => some ((0 : Int32), w2, sz)
    | none => (th_G_run w l0 l1).bind fun t => if t.1 = "java/lang/IllegalStateException" then some ((1 : Int32), t.2, sz + 1) else if t.1 = "java/lang/ArithmeticException" then some ((2 : Int32), t.2, sz + 1) else if t.1 = "java/lang/IndexOutOfBoundsException" then some ((3 : Int32), t.2, sz + 1) else none
theorem xo_retIB {cc : ByteArray} {nL : Nat} {own nm : String} {ret : Option FieldType} {R : Room} {X : xX} {lv : List (Nat × Value)} {w : xw} {sz bc bs pc pc' : Nat} {v : Int32} {ro : Int32 × xw × Nat} (hd : xD cc pc .ireturn 1 pc') (hret : ret = some .int) (h : some (v, w, sz) = some ro) : xK cc nL own nm ret R X lv [.int v] w sz (R.cells - bc) (R.slots - bs) pc (some (.int ro.1), ro.2.1, ro.2.2) := by
  cases h
  exact fun p e s m below meth c H locs ls Z hm hn hr hk J hl => W.widen (Nat.sub_le _ _) (Nat.sub_le _ _) (W.iret Z.1 Z.2.1 (hr.trans hret) (fun t ht hW => ⟨rfl, by rw [ht]; exact J.1, by rw [ht]; exact J.2.2.2.1, J.2.2.1, J.2.1.F ht⟩) J.2.1.2.2 hd.1 hk)
theorem lr_three {α β : Type} {f : α → β} {l : List α} {a b c : β} (h : l.map f = [a, b, c]) : ∃ x y z, l = [x, y, z] ∧ f x = a ∧ f y = b ∧ f z = c := by
  match l, h with
  | [x, y, z], h =>
    simp only [List.map_cons, List.map_nil, List.cons.injEq, and_true] at h
    exact ⟨x, y, z, rfl, h.1, h.2.1, h.2.2⟩
section LR
variable {p : Program} {l : Launch} {e : Env} {R : Room} {s : State} {m : MethodId} {args : Array Value} {below : List Frame} {meth : Method} {c : Code} {T : State} {locs : List Loc} {cells slots : Nat}
theorem lr_pass (X : Stand p l e R s m args below meth c T locs cells slots) {own K N : String} (hown : s.vm.findClass own = some m.cls) {x : ExceptionTableEntry} {ct pc : Nat} {thrown : ClassId} (hct : x.catchType = ct) (h0 : ct ≠ 0) (hl : (Cond.classLink own ct N).before args s = true) (hK : s.vm.findClass K = some thrown) (hno : ∃ c t, s.vm.findClass K = some c ∧ s.vm.findClass N = some t ∧ s.vm.assignable c t = false) : RowPassed e.platform s m.cls pc thrown x := by
  have hpl : e.platform.magicAccessors = ({} : Platform).magicAccessors := by rw [X.admits.platform]
  subst hct
  obtain ⟨c', hc', hcl⟩ := Cond.classLink_spec hown hl e.platform hpl
  obtain ⟨a, t, h1, h2, h3⟩ := hno
  cases hK.symm.trans h1
  cases hc'.symm.trans h2
  exact Or.inr ⟨h0, c', hcl, h3⟩
theorem lr_catch (X : Stand p l e R s m args below meth c T locs cells slots) {own K : String} (hown : s.vm.findClass own = some m.cls) {x : ExceptionTableEntry} {ct : Nat} {thrown : ClassId} (hct : x.catchType = ct) (h0 : ct ≠ 0) (hl : (Cond.classLink own ct K).before args s = true) (hK : s.vm.findClass K = some thrown) (hc : (Cond.castable K K).before #[] s = true) : RowCatches e.platform s m.cls thrown x ∧ ∃ k, s.vm.classes[thrown]? = some k := by
  subst hct
  obtain ⟨a, t, h1, h2, h3⟩ := Cond.castable_spec hc
  cases hK.symm.trans h1
  cases h1.symm.trans h2
  exact X.catches_of_link hown h0 hl hK h3
end LR
theorem c_L_run (l : Launch) (D : va_G) (cT : Nat → ClassId) (sz : Nat) (w : xw) (l0 : Nat) (l1 : Int32) (l2 : Nat) (ro : Int32 × xw × Nat) (h : f_L_run w sz l0 l1 l2 = some ro) : xMW l y_L_run b_L_run 4 t_L_run hs_L_run R_L_run D cT [.ref l0, .int l1, .ref l2] w sz (some (.int ro.1), ro.2.1, ro.2.2) := by
  refine xmw_of bl_L_run rfl rfl ?_
  intro htr p e s m below meth c H locs ls Z hm hn hr hk hTF hex J hl
  have hl : lv_has ls 4 [(0, .ref l0), (1, .int l1), (2, .ref l2)] := hl
  refine lv_aload_n Z.1 Z.2.1 d_L_run_0.1 rfl (lv_at hl 2 rfl) ?_
  refine lv_iconst Z.1 Z.2.1 d_L_run_1.1 xic_0 ?_
  refine lv_aload_n Z.1 Z.2.1 d_L_run_2.1 rfl (lv_at hl 0 rfl) ?_
  refine lv_iload_n Z.1 Z.2.1 d_L_run_3.1 rfl (lv_at hl 1 rfl) ?_
  unfold f_L_run at h
  obtain ⟨u, hu, h⟩ := xb h
  cases hg : f_G_run w l0 l1 with
  | some q =>
    rw [hg] at h
    have k : xK lb_L_run 4 "ProgramGateLaw" "run" t_L_run R_L_run (l, D, cT, [.ref l0, .int l1, .ref l2], w, sz) [(0, .ref l0), (1, .int l1), (2, .ref l2)] [.int l1, .ref l0, .int 0, .ref l2] w sz (R_L_run.cells - 1) (R_L_run.slots - 6) 4 (some (.int ro.1), ro.2.1, ro.2.2) := by
      obtain ⟨w2, hw2, h⟩ := xb h
      refine xc_V (As := [.int l1]) (rest := [.int 0, .ref l2]) (r' := (some (.int q.1), q.2, sz)) d_L_run_4 tw_lr4 yw_G_run xc_0 hu (c_G_run _ _ _ _ _ _ _ q hg) rfl rfl rfl rfl ?_
      show xK lb_L_run 4 "ProgramGateLaw" "run" t_L_run R_L_run (l, D, cT, [.ref l0, .int l1, .ref l2], w, sz) [(0, .ref l0), (1, .int l1), (2, .ref l2)] [.int q.1, .int 0, .ref l2] q.2 sz (R_L_run.cells - 1) (R_L_run.slots - 6) 7 (some (.int ro.1), ro.2.1, ro.2.2)
      refine xo_i2l d_L_run_7 ?_
      refine xo_astL (g := fun w2 => some ((0 : Int32), w2, sz)) (ro := ro) d_L_run_8 (by rw [hw2]; exact h) (fun w3 h3 => ?_)
      refine xo_goto d_L_run_9 ?_
      refine xo_iconst d_L_run_21 xic_0 ?_
      exact xo_retIB d_L_run_22 rfl h3
    exact k p e s m below meth c H locs ls Z hm hn hr hk J hl
  | none =>
    rw [hg] at h
    obtain ⟨t0, ht0, h⟩ := xb h
    have hrun := xt_runV (e := e) (below := below) (meth := meth) (As := [.int l1]) (rest := [.int 0, .ref l2]) (R := R_L_run) (cl := 0) (sl := 0) (st0 := [.int l1, .ref l0, .int 0, .ref l2]) Z hm htr hTF J hl.1 d_L_run_4.1 tw_lr4 yw_G_run xc_0 hu (ct_G_run _ _ _ _ _ _ _ t0 ht0) rfl rfl rfl rfl
    intro T hT X
    obtain ⟨v, st₀, t, T', L, q0, hW0, X', hL, e1, e2, ⟨⟨x, ce, hx, hce, hcls, hvm⟩, hH, hsz, hdom, hz, hkk⟩, st⟩ := hrun T hT X
    cases hx
    rw [hW0.alike.findClass] at hcls
    have hin := xt_in J
    rw [q0] at hz hkk
    have hS := J.2.1
    have J' : xJ D cT (xA w sz) s.heap t0.2 (sz + 1) T'.heap (locs ++ L) := ⟨by rw [e1]; exact hH, ⟨Nat.le_trans hS.1 (by rw [e1]; exact hz), fun q h1 h2 => by
        rw [e1, hkk q (Nat.lt_of_lt_of_le h1 hS.1) (fun z => h2 (hin q z))]; exact hS.2.1 q h1 h2, fun q hq => by
        rcases List.mem_append.mp hq with h | h
        · exact hS.2.2 q h
        · exact hin _ (hL q h)⟩, fun a h => hin a (hdom a h), by rw [e1]; exact hsz, J.2.2.2.2⟩
    obtain ⟨x1, x2, x3, hxs, g1, g2, g3⟩ := lr_three hex
    simp only [Prod.mk.injEq] at g1 g2 g3
    have hcell : T'.heap[v]? = some ce := by rw [e1]; exact hce
    have hobj : ce.vm.isStatics = false := by rw [hvm]; rfl
    have c1 : covers x1 4 = true := by simp [covers, g1.1, g1.2.1]
    have c2 : covers x2 4 = true := by simp [covers, g2.1, g2.2.1]
    have c3 : covers x3 4 = true := by simp [covers, g3.1, g3.2.1]
    have hD := hTF.2.2.2.2
    have fin : ∀ (hpc : Nat) (k : Int32), (∃ vm', Stand p l e R_L_run s m ([.ref l0, .int l1, .ref l2] : List Value).toArray below meth c (T'.setVm vm') (locs ++ L) (0 + Rt_G_run.cells) (0 + Rt_G_run.slots) ∧ Steps p.tables e below (T.setTop (F0 m 4 ls [.int l1, .ref l0, .int 0, .ref l2])) ((T'.setVm vm').setTop { (F0 m 4 ls [.int l1, .ref l0, .int 0, .ref l2]) with pc := hpc, stack := [.ref v] })) → xK lb_L_run 4 "ProgramGateLaw" "run" t_L_run R_L_run (l, D, cT, [.ref l0, .int l1, .ref l2], w, sz) [(0, .ref l0), (1, .int l1), (2, .ref l2)] [.ref v] t0.2 (sz + 1) (R_L_run.cells - 0) (R_L_run.slots - 0) hpc (some (.int ro.1), ro.2.1, ro.2.2) → ∃ t2, Steps p.tables e below (T.setTop (F0 m 4 ls [.int l1, .ref l0, .int 0, .ref l2])) t2 ∧ MQ below (xQ D cT w sz (some (.int ro.1), ro.2.1, ro.2.2)) ([.ref l0, .int l1, .ref l2] : List Value).toArray s R_L_run.cells R_L_run.slots (xA w sz) t2 := fun hpc k ⟨vm', XV, stV⟩ hK => by
      obtain ⟨t2, a1, b1⟩ := hK p e s m below meth c T'.heap (locs ++ L) ls Z hm hn hr hk J' hl (T'.setVm vm') rfl XV
      exact ⟨t2, stV.trans a1, b1⟩
    by_cases k1 : t0.1 = "java/lang/IllegalStateException"
    · rw [if_pos k1] at h
      rw [k1] at hcls
      obtain ⟨hend, hk0⟩ := lr_catch X' Z.2.2.1 g1.2.2.2 (by decide) (Z.2.2.2.1 _ tw_lr1) hcls (hD.1 _ (List.mem_of_getElem? (i := 3) rfl))
      have hC := X'.thenCaughtThrough v (g := { (F0 m 4 ls [.int l1, .ref l0, .int 0, .ref l2]) with stack := [.int 0, .ref l2] }) rfl st hcell hobj hk0 [] x1 [x2, x3] hxs (fun y hy => by cases hy) c1 hend
      rw [g1.2.2.1] at hC
      refine fin 12 1 hC ?_
      refine xo_astore_n [(3, .ref v), (0, .ref l0), (1, .int l1), (2, .ref l2)] d_L_run_12 rfl rfl rfl ?_
      refine xo_iconst d_L_run_13 xic_1 ?_
      exact xo_retIB d_L_run_14 rfl h
    rw [if_neg k1] at h
    by_cases k2 : t0.1 = "java/lang/ArithmeticException"
    · rw [if_pos k2] at h
      rw [k2] at hcls
      obtain ⟨hend, hk0⟩ := lr_catch X' Z.2.2.1 g2.2.2.2 (by decide) (Z.2.2.2.1 _ tw_lr2) hcls (hD.1 _ (List.mem_of_getElem? (i := 4) rfl))
      have hC := X'.thenCaughtThrough v (g := { (F0 m 4 ls [.int l1, .ref l0, .int 0, .ref l2]) with stack := [.int 0, .ref l2] }) rfl st hcell hobj hk0 [x1] x2 [x3] hxs (fun y hy => by
        cases List.mem_singleton.mp hy
        exact lr_pass X' Z.2.2.1 g1.2.2.2 (by decide) (Z.2.2.2.1 _ tw_lr1) hcls (hD.2 _ (List.mem_of_getElem? (i := 0) rfl))) c2 hend
      rw [g2.2.2.1] at hC
      refine fin 15 2 hC ?_
      refine xo_astore_n [(3, .ref v), (0, .ref l0), (1, .int l1), (2, .ref l2)] d_L_run_15 rfl rfl rfl ?_
      refine xo_iconst d_L_run_16 xic_2 ?_
      exact xo_retIB d_L_run_17 rfl h
    rw [if_neg k2] at h
    by_cases k3 : t0.1 = "java/lang/IndexOutOfBoundsException"
    · rw [if_pos k3] at h
      rw [k3] at hcls
      obtain ⟨hend, hk0⟩ := lr_catch X' Z.2.2.1 g3.2.2.2 (by decide) (Z.2.2.2.1 _ tw_lr3) hcls (hD.1 _ (List.mem_of_getElem? (i := 5) rfl))
      have hC := X'.thenCaughtThrough v (g := { (F0 m 4 ls [.int l1, .ref l0, .int 0, .ref l2]) with stack := [.int 0, .ref l2] }) rfl st hcell hobj hk0 [x1, x2] x3 [] hxs (fun y hy => by
        rcases List.mem_cons.mp hy with rfl | hy
        · exact lr_pass X' Z.2.2.1 g1.2.2.2 (by decide) (Z.2.2.2.1 _ tw_lr1) hcls (hD.2 _ (List.mem_of_getElem? (i := 1) rfl))
        · cases List.mem_singleton.mp hy
          exact lr_pass X' Z.2.2.1 g2.2.2.2 (by decide) (Z.2.2.2.1 _ tw_lr2) hcls (hD.2 _ (List.mem_of_getElem? (i := 2) rfl))) c3 hend
      rw [g3.2.2.1] at hC
      refine fin 18 3 hC ?_
      refine xo_astore_n [(3, .ref v), (0, .ref l0), (1, .int l1), (2, .ref l2)] d_L_run_18 rfl rfl rfl ?_
      refine xo_iconst d_L_run_19 xic_3 ?_
      exact xo_retIB d_L_run_20 rfl h
    · rw [if_neg k3] at h
      cases h
