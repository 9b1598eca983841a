/-! The law's start. -/
theorem yin_1 {w : Cond} {i : Nat} (h : tables_1_1[i]? = some w) : w ∈ lw_tbl := by
  have h := List.mem_of_getElem? h
  have h : w ∈ tables_1 := List.mem_append_left _ h
  exact List.mem_append_right _ h
theorem yin_2 {w : Cond} {i : Nat} (h : tables_1_2[i]? = some w) : w ∈ lw_tbl := by
  have h := List.mem_of_getElem? h
  have h : w ∈ tables_1 := List.mem_append_right _ (List.mem_append_left _ h)
  exact List.mem_append_right _ h
theorem yin_3 {w : Cond} {i : Nat} (h : tables_1_3[i]? = some w) : w ∈ lw_tbl := by
  have h := List.mem_of_getElem? h
  have h : w ∈ tables_1 := List.mem_append_right _ (List.mem_append_right _ (List.mem_append_left _ h))
  exact List.mem_append_right _ h
theorem yin_4 {w : Cond} {i : Nat} (h : tables_1_4[i]? = some w) : w ∈ lw_tbl := by
  have h := List.mem_of_getElem? h
  have h : w ∈ tables_1 := List.mem_append_right _ (List.mem_append_right _ (List.mem_append_right _ (h)))
  exact List.mem_append_right _ h
section ST
variable {s : State} {args : Array Value}
theorem e_start (hts : ∀ w ∈ lw_tbl, w.before args s = true) : xE s := by
  refine ⟨?_, ?_⟩
  · exact List.forall_mem_cons.mpr ⟨va_Nw.of rfl (hts (.methodLinkNest "ProgramGate$Program" 17 (⟨"ProgramGate$Instruction", "<init>", "()V"⟩ : MethodName) "ProgramGate") (yin_1 (i := 37) rfl)), List.forall_mem_cons.mpr ⟨va_Nw.of rfl (hts (.methodLinkNest "ProgramGate" 18 (⟨"ProgramGate$Packet", "<init>", "()V"⟩ : MethodName) "ProgramGate") (yin_1 (i := 81) rfl)), List.forall_mem_cons.mpr ⟨va_Nw.of rfl (hts (.methodLinkNest "ProgramGate$State" 20 (⟨"ProgramGate$Known", "<init>", "()V"⟩ : MethodName) "ProgramGate") (yin_1 (i := 110) rfl)), List.forall_mem_cons.mpr ⟨va_Nw.of rfl (hts (.methodLinkNest "ProgramGate$Walker" 28 (⟨"ProgramGate$Known", "<init>", "()V"⟩ : MethodName) "ProgramGate") (yin_1 (i := 165) rfl)), List.forall_mem_cons.mpr ⟨va_Nw.of rfl (hts (.methodLinkNest "ProgramGate$Known" 49 (⟨"ProgramGate", "unsigned", "(I)J"⟩ : MethodName) "ProgramGate") (yin_2 (i := 63) rfl)), List.forall_mem_cons.mpr ⟨va_Nw.of rfl (hts (.methodLinkNest "ProgramGate$Operation" 76 (⟨"ProgramGate", "isInt", "(J)Z"⟩ : MethodName) "ProgramGate") (yin_2 (i := 198) rfl)), List.forall_mem_cons.mpr ⟨va_Nw.of rfl (hts (.methodLinkNest "ProgramGate$Machine" 80 (⟨"ProgramGate", "unsigned", "(I)J"⟩ : MethodName) "ProgramGate") (yin_3 (i := 41) rfl)), fun _ h => absurd h List.not_mem_nil⟩⟩⟩⟩⟩⟩⟩
  · exact List.forall_mem_cons.mpr ⟨va_AO.of (hts (.arrayOver (.object "ProgramGate$Known")) (yin_1 (i := 108) rfl)), List.forall_mem_cons.mpr ⟨va_AO.of (hts (.arrayOver (.object "ProgramGate$State")) (yin_1 (i := 163) rfl)), List.forall_mem_cons.mpr ⟨va_AO.of (hts (.arrayOver (.object "ProgramGate$Instruction")) (yin_1 (i := 35) rfl)), fun _ h => absurd h List.not_mem_nil⟩⟩⟩
theorem ar_p {t : FieldType} (h : (Cond.arrayClass t).before args s = true) (hr : ∀ cA : ClassId, s.vm.findClass ("[" ++ t.toString) = some cA → va_RA s cA t) : ∃ cA, ArrOfT s cA t ∧ va_RA s cA t := by
  obtain ⟨cA, kA, comp, h1, h2, h3⟩ := Cond.arrayClass_spec h
  exact ⟨cA, fun N z => ⟨(fun k h => by cases h), kA, h2, comp, h3⟩, hr cA h1⟩
theorem ar_o {C : String} (h : (Cond.arrayOver (.object C)).before args s = true) : ∃ cA, ArrOfT s cA (.object C) ∧ va_RA s cA (.object C) := by
  obtain ⟨comp, cA, kA, h1, -, h3, h4, h5⟩ := Cond.arrayOver_spec h
  exact ⟨cA, fun N z => ⟨(fun k h => by cases h), kA, h3, comp, h4⟩, kA, comp, h3, h4, h1, h5⟩
theorem k_start (hts : ∀ w ∈ lw_tbl, w.before args s = true) : ∃ (D : va_G) (cT : Nat → ClassId), va_K D xcl (xtys cT) s := by
  have hx : ∀ w ∈ xT, w.before args s = true := fun w hw => hts w (List.mem_filter.mp hw).1
  obtain ⟨c0, i0, k0⟩ := u_known (C := R_0) (T := T_0) (N := 4) hx xc_0.2.1 (hts (.instantiable "ProgramGate" 4) (yin_1 (i := 21) rfl))
  obtain ⟨c1, i1, k1⟩ := u_known (C := R_1) (T := T_1) (N := 5) hx xc_1.2.1 (hts (.instantiable "ProgramGate$Instruction" 5) (yin_1 (i := 36) rfl))
  obtain ⟨c2, i2, k2⟩ := u_known (C := R_2) (T := T_2) (N := 8) hx xc_2.2.1 (hts (.instantiable "ProgramGate$Known" 8) (yin_1 (i := 109) rfl))
  obtain ⟨c3, i3, k3⟩ := u_known (C := R_3) (T := T_3) (N := 5) hx xc_3.2.1 (hts (.instantiable "ProgramGate$Machine" 5) (yin_1 (i := 202) rfl))
  obtain ⟨c4, i4, k4⟩ := u_known (C := R_4) (T := T_4) (N := 2) hx xc_4.2.1 (hts (.instantiable "ProgramGate$Packet" 2) (yin_1 (i := 80) rfl))
  obtain ⟨c5, i5, k5⟩ := u_known (C := R_5) (T := T_5) (N := 2) hx xc_5.2.1 (hts (.instantiable "ProgramGate$Program" 2) (yin_1 (i := 29) rfl))
  obtain ⟨c6, i6, k6⟩ := u_known (C := R_6) (T := T_6) (N := 2) hx xc_6.2.1 (hts (.instantiable "ProgramGate$State" 2) (yin_1 (i := 102) rfl))
  obtain ⟨c7, i7, k7⟩ := u_known (C := R_7) (T := T_7) (N := 10) hx xc_7.2.1 (hts (.instantiable "ProgramGate$Walker" 10) (yin_1 (i := 96) rfl))
  obtain ⟨c8, i8, k8⟩ := u_known (C := R_8) (T := T_8) (N := 25) hx xc_8.2.1 (hts (.instantiable "ProgramGateModel" 25) (yin_3 (i := 158) rfl))
  obtain ⟨a0, r0⟩ := ar_p (hts (.arrayClass .int) (yin_1 (i := 94) rfl)) (fun cA h => h)
  obtain ⟨a1, r1⟩ := ar_p (hts (.arrayClass .long) (yin_3 (i := 239) rfl)) (fun cA h => h)
  obtain ⟨a2, r2⟩ := ar_p (hts (.arrayClass .boolean) (yin_1 (i := 200) rfl)) (fun cA h => h)
  obtain ⟨a3, r3⟩ := ar_o (hts (.arrayOver (.object "ProgramGate$Known")) (yin_1 (i := 108) rfl))
  obtain ⟨a4, r4⟩ := ar_o (hts (.arrayOver (.object "ProgramGate$State")) (yin_1 (i := 163) rfl))
  obtain ⟨a5, r5⟩ := ar_o (hts (.arrayOver (.object "ProgramGate$Instruction")) (yin_1 (i := 35) rfl))
  refine ⟨((fun i => match i with | 0 => c0 | 1 => c1 | 2 => c2 | 3 => c3 | 4 => c4 | 5 => c5 | 6 => c6 | 7 => c7 | _ => c8), (fun i => match i with | 0 => i0 | 1 => i1 | 2 => i2 | 3 => i3 | 4 => i4 | 5 => i5 | 6 => i6 | 7 => i7 | _ => i8)), (fun i => match i with | 0 => a0 | 1 => a1 | 2 => a2 | 3 => a3 | 4 => a4 | _ => a5), ?_, ?_⟩
  · intro c q hq
    match c, hq with
    | 0, hq => cases Option.some.inj hq; exact k0
    | 1, hq => cases Option.some.inj hq; exact k1
    | 2, hq => cases Option.some.inj hq; exact k2
    | 3, hq => cases Option.some.inj hq; exact k3
    | 4, hq => cases Option.some.inj hq; exact k4
    | 5, hq => cases Option.some.inj hq; exact k5
    | 6, hq => cases Option.some.inj hq; exact k6
    | 7, hq => cases Option.some.inj hq; exact k7
    | 8, hq => cases Option.some.inj hq; exact k8
    | n + 9, hq => cases hq
  · intro k q hq
    match k, hq with
    | 0, hq => cases Option.some.inj hq; exact r0
    | 1, hq => cases Option.some.inj hq; exact r1
    | 2, hq => cases Option.some.inj hq; exact r2
    | 3, hq => cases Option.some.inj hq; exact r3
    | 4, hq => cases Option.some.inj hq; exact r4
    | 5, hq => cases Option.some.inj hq; exact r5
    | n + 6, hq => cases hq
theorem str_p {own tx : String} {k n : Nat} (h : (Cond.stringRef own k tx).before args s = true) (hi : (Cond.instantiable own n).before args s = true) : ∃ q, vk_R own k tx q s := by
  obtain ⟨cC, kC, hfc, -⟩ := Cond.instantiable_spec hi
  obtain ⟨-, -, -, a, -, -, -, -, -, hev⟩ := Cond.stringRef_spec hfc h
  exact ⟨a, vk_R.of h hev⟩
theorem nc_p {K N : String} (hn : (Cond.not (.castable K N)).before args s = true) (hK : (Cond.castable K K).before args s = true) (hN : (Cond.castable N N).before args s = true) : ∃ c t, s.vm.findClass K = some c ∧ s.vm.findClass N = some t ∧ s.vm.assignable c t = false := by
  obtain ⟨c, -, hc, -, -⟩ := Cond.castable_spec hK
  obtain ⟨t, -, ht, -, -⟩ := Cond.castable_spec hN
  have hv := Cond.holds_not_iff.mp hn
  simp only [Cond.value, hc, ht] at hv
  exact ⟨c, t, hc, ht, Option.some.inj hv⟩
theorem tf_start (hts : ∀ w ∈ lw_tbl, w.before args s = true) (hgv : (Jvm.Cond.and given_1 narrow_1).before args s = true) {B : Nat → Prop} (hB : ∀ a : Nat, a < s.heap.size → ¬ B a) : xTF B s s.heap := by
  have hs := flat_of_before _ hgv
  have lu : (Cond.laysStatic Bundle.tN "UNASSIGNED_STACK" Bundle.steD).before args s = true := hts _ (yin_3 (i := 73) rfl)
  have ru : (Cond.isRef (.static Bundle.tN "UNASSIGNED_STACK" Bundle.steD)).before args s = true := hs (Cond.isRef (.static "java/lang/Throwable" "UNASSIGNED_STACK" "[Ljava/lang/StackTraceElement;")) (by decide +kernel)
  have lv : (Cond.laysStatic Bundle.tN "SUPPRESSED_SENTINEL" Bundle.listD).before args s = true := hts _ (yin_3 (i := 75) rfl)
  have rv : (Cond.isRef (.static Bundle.tN "SUPPRESSED_SENTINEL" Bundle.listD)).before args s = true := hs (Cond.isRef (.static "java/lang/Throwable" "SUPPRESSED_SENTINEL" "Ljava/util/List;")) (by decide +kernel)
  have ti : (Cond.initialized Bundle.tN).before args s = true := hts _ (yin_1 (i := 14) rfl)
  have mi : (Cond.instantiable "ProgramGate$Machine" 5).before args s = true := hts _ (yin_1 (i := 202) rfl)
  have ki : (Cond.castable "java/lang/IllegalStateException" "java/lang/IllegalStateException").before args s = true := hts _ (yin_3 (i := 143) rfl)
  have ka : (Cond.castable "java/lang/ArithmeticException" "java/lang/ArithmeticException").before args s = true := hts _ (yin_3 (i := 127) rfl)
  have kx : (Cond.castable "java/lang/IndexOutOfBoundsException" "java/lang/IndexOutOfBoundsException").before args s = true := hts _ (yin_3 (i := 48) rfl)
  refine ⟨va_Zqof lu ti ru hB, va_Zqof lv ti rv hB, ⟨xLS.of lu hB, xLS.of lv hB⟩, ?_, ?_, ?_⟩
  · exact List.forall_mem_cons.mpr ⟨str_p (own := "ProgramGate$Machine") (k := 98) (tx := "the stack has no such place") (hts _ (yin_3 (i := 87) rfl)) mi, List.forall_mem_cons.mpr ⟨str_p (own := "ProgramGate$Machine") (k := 101) (tx := "the packet has no such byte") (hts _ (yin_3 (i := 118) rfl)) mi, List.forall_mem_cons.mpr ⟨str_p (own := "ProgramGate$Machine") (k := 111) (tx := "it divides by 0") (hts _ (yin_3 (i := 134) rfl)) mi, List.forall_mem_cons.mpr ⟨str_p (own := "ProgramGate$Machine") (k := 57) (tx := "the program's end is passed") (hts _ (yin_3 (i := 150) rfl)) mi, fun _ h => absurd h List.not_mem_nil⟩⟩⟩⟩
  · exact List.forall_mem_cons.mpr ⟨va_any rfl (hts (.declares (Bundle.initS "java/lang/RuntimeException")) (yin_3 (i := 50) rfl)), List.forall_mem_cons.mpr ⟨va_any rfl (hts (.declares (Bundle.initS "java/lang/Exception")) (yin_3 (i := 52) rfl)), List.forall_mem_cons.mpr ⟨va_any rfl (hts (.declares (Bundle.initS Bundle.tN)) (yin_3 (i := 54) rfl)), List.forall_mem_cons.mpr ⟨va_any rfl ki, List.forall_mem_cons.mpr ⟨va_any rfl ka, List.forall_mem_cons.mpr ⟨va_any rfl kx, fun _ h => absurd h List.not_mem_nil⟩⟩⟩⟩⟩⟩
  · exact List.forall_mem_cons.mpr ⟨nc_p (hs (Cond.not (.castable "java/lang/ArithmeticException" "java/lang/IllegalStateException")) (by decide +kernel)) ka ki, List.forall_mem_cons.mpr ⟨nc_p (hs (Cond.not (.castable "java/lang/IndexOutOfBoundsException" "java/lang/IllegalStateException")) (by decide +kernel)) kx ki, List.forall_mem_cons.mpr ⟨nc_p (hs (Cond.not (.castable "java/lang/IndexOutOfBoundsException" "java/lang/ArithmeticException")) (by decide +kernel)) kx ka, fun _ h => absurd h List.not_mem_nil⟩⟩⟩
end ST
theorem whole_start {p : Program} {e : Env} {s : State} {m : MethodId} {below : List Frame} {meth : Method} {c : Code} (l : Launch) (htr : l.stackTraces = false) {b L : Nat} {xs : Nat → Int32} (hL : L ≤ 3072) (C0 : lw_At p s m meth c b L xs) : W p l e room_1 s m #[Value.ref b] below meth c s.heap [] 0 0 (lw_Z below #[Value.ref b] s) (entryFrame m ([Value.ref b] : List Value).toArray 7) := by
  obtain ⟨hexec, hcode, hret, hml, hown, hts, hX, hbl, hlock, hgv⟩ := C0
  obtain ⟨D, cT, hK⟩ := k_start hts
  have hA : ∀ q, xA (fun _ => none) s.heap.size q → s.heap.size ≤ q := fun q h => h.elim (fun z => by cases z) (fun z => z)
  have hTF : xTF (xA (fun _ => none) s.heap.size) s s.heap := tf_start hts hgv (fun a ha q => absurd (hA a q) (Nat.not_le.mpr ha))
  have h := vb_L_law_0 meth.name l D cT (fun _ => none) s.heap.size b L xs (fun _ => none) s.heap.size 601024 7293034 (law_true hL) ⟨Nat.le_refl _, Nat.le_refl _⟩
  rw [lg_entry_eq]
  exact h p e s m below meth c s.heap [] _ ⟨hexec, hcode.trans bl_L_law, hown, fun x hx => hts x (List.mem_filter.mp hx).1, hK, e_start hts⟩ hml rfl hret ⟨hlock, hTF, ⟨hX, hbl, fun q => absurd (hA b q) (Nat.not_le.mpr hbl)⟩, htr, hA⟩ ⟨(fun a x hx => by cases hx), va_S.rf, (fun a ha => by cases ha), rfl, fun q hq => Or.inr hq⟩ (lv_entry [.ref b] (Nat.le_of_ble_eq_true rfl))
