/-! Methods that may throw: their throws. -/
theorem xat_of {l : List Cond} (h : l.all (fun a => decide (a ∈ xT) || (decide (a = .isRef (.static Bundle.tN "UNASSIGNED_STACK" Bundle.steD)) || (decide (a = .isRef (.static Bundle.tN "SUPPRESSED_SENTINEL" Bundle.listD)) || (decide (a = .laysStatic Bundle.tN "UNASSIGNED_STACK" Bundle.steD) || (decide (a = .laysStatic Bundle.tN "SUPPRESSED_SENTINEL" Bundle.listD) || decide (a ∈ xDc)))))) = true) : ∀ a ∈ l, a ∈ xT ∨ a = .isRef (.static Bundle.tN "UNASSIGNED_STACK" Bundle.steD) ∨ a = .isRef (.static Bundle.tN "SUPPRESSED_SENTINEL" Bundle.listD) ∨ a = .laysStatic Bundle.tN "UNASSIGNED_STACK" Bundle.steD ∨ a = .laysStatic Bundle.tN "SUPPRESSED_SENTINEL" Bundle.listD ∨ a ∈ xDc := fun a ha => by
  have := List.all_eq_true.mp h a ha
  simpa only [Bool.or_eq_true, decide_eq_true_eq] using this
theorem hat_IndexOutOfBoundsException : ∀ a ∈ Bundle.ownAtoms "ProgramGate$Machine" 100 "java/lang/IndexOutOfBoundsException" ["java/lang/RuntimeException", "java/lang/Exception"], a ∈ xT ∨ a = .isRef (.static Bundle.tN "UNASSIGNED_STACK" Bundle.steD) ∨ a = .isRef (.static Bundle.tN "SUPPRESSED_SENTINEL" Bundle.listD) ∨ a = .laysStatic Bundle.tN "UNASSIGNED_STACK" Bundle.steD ∨ a = .laysStatic Bundle.tN "SUPPRESSED_SENTINEL" Bundle.listD ∨ a ∈ xDc := xat_of (by decide +kernel)
theorem hat_ArithmeticException : ∀ a ∈ Bundle.ownAtoms "ProgramGate$Machine" 113 "java/lang/ArithmeticException" ["java/lang/RuntimeException", "java/lang/Exception"], a ∈ xT ∨ a = .isRef (.static Bundle.tN "UNASSIGNED_STACK" Bundle.steD) ∨ a = .isRef (.static Bundle.tN "SUPPRESSED_SENTINEL" Bundle.listD) ∨ a = .laysStatic Bundle.tN "UNASSIGNED_STACK" Bundle.steD ∨ a = .laysStatic Bundle.tN "SUPPRESSED_SENTINEL" Bundle.listD ∨ a ∈ xDc := xat_of (by decide +kernel)
theorem hat_IllegalStateException : ∀ a ∈ Bundle.ownAtoms "ProgramGate$Machine" 59 "java/lang/IllegalStateException" ["java/lang/RuntimeException", "java/lang/Exception"], a ∈ xT ∨ a = .isRef (.static Bundle.tN "UNASSIGNED_STACK" Bundle.steD) ∨ a = .isRef (.static Bundle.tN "SUPPRESSED_SENTINEL" Bundle.listD) ∨ a = .laysStatic Bundle.tN "UNASSIGNED_STACK" Bundle.steD ∨ a = .laysStatic Bundle.tN "SUPPRESSED_SENTINEL" Bundle.listD ∨ a ∈ xDc := xat_of (by decide +kernel)
abbrev Rt_M_checkedPlace : Room := { frames := 6, cells := 1, slots := 6, locals := 82 }
abbrev ku_M_checkedPlace : xX → List (Nat × Value) → List Value → xw → Nat → Nat → Nat → Nat → xV → Prop := xU lb_M_checkedPlace 2 "ProgramGate$Machine" "checkedPlace" t_M_checkedPlace Rt_M_checkedPlace
abbrev Rt_M_load : Room := { frames := 6, cells := 1, slots := 6, locals := 82 }
abbrev ku_M_load : xX → List (Nat × Value) → List Value → xw → Nat → Nat → Nat → Nat → xV → Prop := xU lb_M_load 6 "ProgramGate$Machine" "load" t_M_load Rt_M_load
abbrev Rt_M_checkedDivisor : Room := { frames := 6, cells := 1, slots := 6, locals := 82 }
abbrev ku_M_checkedDivisor : xX → List (Nat × Value) → List Value → xw → Nat → Nat → Nat → Nat → xV → Prop := xU lb_M_checkedDivisor 1 "ProgramGate$Machine" "checkedDivisor" t_M_checkedDivisor Rt_M_checkedDivisor
abbrev Rt_M_compute : Room := { frames := 7, cells := 1, slots := 6, locals := 102 }
abbrev ku_M_compute : xX → List (Nat × Value) → List Value → xw → Nat → Nat → Nat → Nat → xV → Prop := xU lb_M_compute 3 "ProgramGate$Machine" "compute" t_M_compute Rt_M_compute
abbrev Rt_M_make : Room := { frames := 8, cells := 1, slots := 6, locals := 124 }
abbrev ku_M_make : xX → List (Nat × Value) → List Value → xw → Nat → Nat → Nat → Nat → xV → Prop := xU lb_M_make 3 "ProgramGate$Machine" "make" t_M_make Rt_M_make
abbrev Rt_M_answer : Room := { frames := 9, cells := 1, slots := 6, locals := 146 }
abbrev ku_M_answer : xX → List (Nat × Value) → List Value → xw → Nat → Nat → Nat → Nat → xV → Prop := xU lb_M_answer 5 "ProgramGate$Machine" "answer" t_M_answer Rt_M_answer
abbrev Rt_G_run : Room := { frames := 10, cells := 1, slots := 6, locals := 170 }
abbrev ku_G_run : xX → List (Nat × Value) → List Value → xw → Nat → Nat → Nat → Nat → xV → Prop := xU lb_G_run 2 "ProgramGate" "run" t_G_run Rt_G_run
def th_M_checkedPlace_b9 (w : xw) : Option (String × xw) :=
  some ("java/lang/IndexOutOfBoundsException", w)
def th_M_checkedPlace (w : xw) (l0 : Nat) (l1 : Int32) : Option (String × xw) :=
  if l1 < 0 then
  th_M_checkedPlace_b9 w
  else
  if l1 < (4 : Int32) then
    none
    else
    th_M_checkedPlace_b9 w
def th_M_load_s32 (r32 : (xw → Nat → Int64 → Int32 → Int32 → Int32 → Option (String × xw))) (w : xw) (l0 : Nat) (l1 : Int64) (l3 : Int32) (l4 : Int32) (l5 : Int32) : Option (String × xw) :=
  if l3 ≤ l5 then
  none
  else
  (xfR w l0 3 1).bind fun a1 =>
    (xfR w a1 4 0).bind fun a2 =>
    (xaI w a2 (l1.toInt32 + l5)).bind fun x3 =>
    (some (l4 ||| (x3 <<< (((8 : Int32) * l5) &&& 31)))).bind fun x4 =>
    (some (l5 + (1 : Int32))).bind fun x5 =>
    r32 w l0 l1 l3 x4 x5
def th_M_load_b32 (n : Nat) : xw → Nat → Int64 → Int32 → Int32 → Int32 → Option (String × xw) := xfix (fun _ _ _ _ _ _ => none) (th_M_load_s32) n
def th_M_load (w : xw) (l0 : Nat) (l1 : Int64) (l3 : Int32) : Option (String × xw) :=
  (xfR w l0 3 1).bind fun a1 =>
  (xfI w a1 4 1).bind fun x2 =>
  if (l1 + l3.toInt64) ≤ x2.toInt64 then
  (some (0 : Int32)).bind fun x3 =>
    (some (0 : Int32)).bind fun x4 =>
    th_M_load_b32 4000 w l0 l1 l3 x3 x4
  else
  some ("java/lang/IndexOutOfBoundsException", w)
def th_M_checkedDivisor (w : xw) (l0 : Int32) : Option (String × xw) :=
  if ¬ l0 = 0 then
  (f_G_unsigned l0).bind fun q1 =>
    none
  else
  some ("java/lang/ArithmeticException", w)
def th_M_compute (w : xw) (l0 : Int32) (l1 : Int32) (l2 : Int32) : Option (String × xw) :=
  if l0 = (1 : Int32) then
  none
  else if l0 = (2 : Int32) then
  none
  else if l0 = (3 : Int32) then
  none
  else if l0 = (4 : Int32) then
  none
  else if l0 = (5 : Int32) then
  none
  else if l0 = (6 : Int32) then
  none
  else if l0 = (7 : Int32) then
  none
  else if l0 = (8 : Int32) then
  none
  else if l0 = (9 : Int32) then
  none
  else if l0 = (10 : Int32) then
  (f_G_unsigned l1).bind fun q1 =>
    xor2 (f_M_checkedDivisor w l2) (th_M_checkedDivisor w l2) fun q2 =>
    if q2.1 = 0 then none else
    none
  else if l0 = (11 : Int32) then
  (f_G_unsigned l1).bind fun q3 =>
    xor2 (f_M_checkedDivisor w l2) (th_M_checkedDivisor w l2) fun q4 =>
    if q4.1 = 0 then none else
    none
  else none
def th_M_make_b227 (w : xw) : Option (String × xw) :=
  none
def th_M_make_b99 (w : xw) (s0 : Int32) : Option (String × xw) :=
  none
def th_M_make_b24 (w : xw) (l0 : Nat) (l1 : Nat) (s0 : Int32) : Option (String × xw) :=
  (xfI w l1 1 0).bind fun x1 =>
  if ¬ x1 = (22 : Int32) then
  (xfI w l1 1 0).bind fun x2 =>
    if x2 < (16 : Int32) then
    (xfI w l1 1 0).bind fun x3 =>
      if ¬ x3 = (15 : Int32) then
      (xfI w l1 1 0).bind fun x4 =>
        if ¬ x4 = (13 : Int32) then
        (xfI w l1 1 0).bind fun x5 =>
          if ¬ x5 = (12 : Int32) then
          (xfI w l1 1 0).bind fun x6 =>
            if ¬ x6 = (14 : Int32) then
            (xfR w l0 3 2).bind fun a7 =>
              (xfI w l1 1 1).bind fun x8 =>
              (xfI w l1 1 0).bind fun x9 =>
              (xfR w l0 3 2).bind fun a10 =>
              (xfI w l1 1 1).bind fun x11 =>
              (xaI w a10 x11).bind fun x12 =>
              xor2 (f_M_compute w x9 x12 s0) (th_M_compute w x9 x12 s0) fun q13 =>
              (xsI q13.2 a7 x8 q13.1).bind fun w14 =>
              th_M_make_b227 w14
            else
            (xfR w l0 3 2).bind fun a15 =>
              (xfI w l1 1 1).bind fun x16 =>
              (f_G_unsigned s0).bind fun q17 =>
              (xfI w l1 1 3).bind fun x18 =>
              (xfI w l1 1 4).bind fun x19 =>
              (xck w l0 3).bind fun _ =>
              xor2 (f_M_load w l0 (q17 + x18.toInt64) x19) (th_M_load w l0 (q17 + x18.toInt64) x19) fun q20 =>
              (xsI q20.2 a15 x16 q20.1).bind fun w21 =>
              th_M_make_b227 w21
          else
          (xfR w l0 3 2).bind fun a22 =>
            (xfI w l1 1 1).bind fun x23 =>
            (xfR w l0 3 3).bind fun a24 =>
            (xck w l0 3).bind fun _ =>
            xor2 (f_M_checkedPlace w l0 s0) (th_M_checkedPlace w l0 s0) fun q25 =>
            (xaI q25.2 a24 q25.1).bind fun x26 =>
            (xsI q25.2 a22 x23 x26).bind fun w27 =>
            th_M_make_b227 w27
        else
        (xfR w l0 3 3).bind fun a28 =>
          (xck w l0 3).bind fun _ =>
          xor2 (f_M_checkedPlace w l0 s0) (th_M_checkedPlace w l0 s0) fun q29 =>
          (xfR q29.2 l0 3 2).bind fun a30 =>
          (xfI q29.2 l1 1 1).bind fun x31 =>
          (xaI q29.2 a30 x31).bind fun x32 =>
          (xsI q29.2 a28 q29.1 x32).bind fun w33 =>
          th_M_make_b227 w33
      else
      (f_G_unsigned s0).bind fun q34 =>
        (xfI w l1 1 3).bind fun x35 =>
        (xfR w l0 3 1).bind fun a36 =>
        (xfI w a36 4 1).bind fun x37 =>
        if (q34 + x35.toInt64) ≤ x37.toInt64 then
        th_M_make_b99 w ((0 : Int32))
        else
        th_M_make_b99 w ((1 : Int32))
    else
    (xfI w l1 1 0).bind fun x38 =>
      (xfR w l0 3 2).bind fun a39 =>
      (xfI w l1 1 1).bind fun x40 =>
      (xaI w a39 x40).bind fun x41 =>
      (f_M_holds x38 x41 s0).bind fun q42 =>
      none
  else
  none
def th_M_make (w : xw) (l0 : Nat) (l1 : Nat) : Option (String × xw) :=
  (xfI w l1 1 2).bind fun x1 =>
  if ¬ x1 = (-1 : Int32) then
  (xfR w l0 3 2).bind fun a2 =>
    (xfI w l1 1 2).bind fun x3 =>
    (xaI w a2 x3).bind fun x4 =>
    th_M_make_b24 w l0 l1 x4
  else
  (xfI w l1 1 3).bind fun x5 =>
    th_M_make_b24 w l0 l1 x5
def th_M_answer_b92 (w : xw) : Option (String × xw) :=
  some ("java/lang/IllegalStateException", w)
def th_M_answer_b84 (r10 : (xw → Nat → Int32 → Int32 → Option (String × xw))) (w : xw) (l0 : Nat) (l3 : Int32) (s0 : Int32) (s1 : Int32) : Option (String × xw) :=
  (some (s0 + s1)).bind fun x1 =>
  (some (l3 + (-1 : Int32))).bind fun x2 =>
  r10 w l0 x1 x2
def th_M_answer_s10 (r10 : (xw → Nat → Int32 → Int32 → Option (String × xw))) (w : xw) (l0 : Nat) (l2 : Int32) (l3 : Int32) : Option (String × xw) :=
  if l3 ≤ 0 then
  th_M_answer_b92 w
  else
  (xfR w l0 3 0).bind fun a1 =>
    (xfI w a1 5 1).bind fun x2 =>
    if x2 ≤ l2 then
    th_M_answer_b92 w
    else
    (xfR w l0 3 0).bind fun a3 =>
      (xfR w a3 5 0).bind fun a4 =>
      (xaR w a4 l2).bind fun a5 =>
      (xfI w l0 3 4).bind fun x6 =>
      (xpI w l0 3 4 (x6 + (1 : Int32))).bind fun w7 =>
      (xfI w7 a5 1 0).bind fun x8 =>
      if ¬ x8 = (23 : Int32) then
      (xck w7 l0 3).bind fun _ =>
        xor2 (f_M_make w7 l0 a5) (th_M_make w7 l0 a5) fun q9 =>
        if q9.1 = 0 then
        th_M_answer_b84 r10 q9.2 l0 l3 l2 ((1 : Int32))
        else
        (xfI q9.2 a5 1 4).bind fun x10 =>
          th_M_answer_b84 r10 q9.2 l0 l3 l2 ((1 : Int32) + x10)
      else
      (xfR w7 l0 3 2).bind fun a11 =>
        (xaI w7 a11 (0 : Int32)).bind fun x12 =>
        none
def th_M_answer_b10 (n : Nat) : xw → Nat → Int32 → Int32 → Option (String × xw) := xfix (fun _ _ _ _ => none) (th_M_answer_s10) n
def th_M_answer (w : xw) (l0 : Nat) (l1 : Int32) : Option (String × xw) :=
  (xck w l0 3).bind fun _ =>
  (f_M_begin w l0 l1).bind fun q1 =>
  (some (0 : Int32)).bind fun x2 =>
  (some (24 : Int32)).bind fun x3 =>
  th_M_answer_b10 4000 q1.2 l0 x2 x3
def th_G_run (w : xw) (l0 : Nat) (l1 : Int32) : Option (String × xw) :=
  (xfR w l0 0 3).bind fun a1 =>
  (xck w a1 3).bind fun _ =>
  xor2 (f_M_answer w a1 l1) (th_M_answer w a1 l1) fun q2 =>
  none
theorem ub_M_checkedPlace_9 (X : xX) (sz : Nat) (ro : String × xw) (w : xw) (h : th_M_checkedPlace_b9 w = some ro) : ku_M_checkedPlace X [] [] w sz 0 0 9 (ro.1, ro.2, sz + 1) := by
  unfold th_M_checkedPlace_b9 at h
  exact uo_leaf ["java/lang/RuntimeException", "java/lang/Exception"] d_M_checkedPlace_9 d_M_checkedPlace_12 d_M_checkedPlace_13 d_M_checkedPlace_15 d_M_checkedPlace_18 (List.mem_of_getElem? (i := 0) rfl) tw_526 tw_527 tw_17 hat_IndexOutOfBoundsException (by decide +kernel) (by decide +kernel) rfl rfl rfl rfl h
theorem ub_M_checkedPlace_0 (X : xX) (sz : Nat) (ro : String × xw) (w : xw) (l0 : Nat) (l1 : Int32) (h : th_M_checkedPlace w l0 l1 = some ro) : ku_M_checkedPlace X [(0, .ref l0), (1, .int l1)] [] w sz 0 0 0 (ro.1, ro.2, sz + 1) := by
  unfold th_M_checkedPlace at h
  refine uxo_iload_n 1 d_M_checkedPlace_0 rfl rfl ?_
  refine uxo_if_lt d_M_checkedPlace_1 h (fun h => ?_) (fun h => ?_)
  · exact uxo_sub [] [] rfl (ub_M_checkedPlace_9 X sz ro _ h)
  · refine uxo_iload_n 1 d_M_checkedPlace_4 rfl rfl ?_
    refine uxo_iconst d_M_checkedPlace_5 xic_4 ?_
    refine uxo_icmp_lt d_M_checkedPlace_6 h (fun h => ?_) (fun h => ?_)
    · refine uxo_iload_n 1 d_M_checkedPlace_19 rfl rfl ?_
      cases h
    · exact uxo_sub [] [] rfl (ub_M_checkedPlace_9 X sz ro _ h)
theorem ct_M_checkedPlace (l : Launch) (D : va_G) (cT : Nat → ClassId) (sz : Nat) (w : xw) (l0 : Nat) (l1 : Int32) (ro : String × xw) (h : th_M_checkedPlace w l0 l1 = some ro) : xN l y_M_checkedPlace b_M_checkedPlace 2 t_M_checkedPlace Rt_M_checkedPlace D cT [.ref l0, .int l1] w sz (ro.1, ro.2, sz + 1) :=
  xu_of bl_M_checkedPlace rfl rfl (ub_M_checkedPlace_0 (l, D, cT, [.ref l0, .int l1], w, sz) sz ro w l0 l1 h)
theorem us_M_load_32 (X : xX) (sz : Nat) (ro : String × xw) (r32 : xw → Nat → Int64 → Int32 → Int32 → Int32 → Option (String × xw)) (R32 : ∀ (w : xw) (l0 : Nat) (l1 : Int64) (l3 : Int32) (l4 : Int32) (l5 : Int32), r32 w l0 l1 l3 l4 l5 = some ro → ku_M_load X [(0, .ref l0), (1, .long l1), (3, .int l3), (4, .int l4), (5, .int l5)] [] w sz 0 0 32 (ro.1, ro.2, sz + 1)) (w : xw) (l0 : Nat) (l1 : Int64) (l3 : Int32) (l4 : Int32) (l5 : Int32) (h : th_M_load_s32 r32 w l0 l1 l3 l4 l5 = some ro) : ku_M_load X [(0, .ref l0), (1, .long l1), (3, .int l3), (4, .int l4), (5, .int l5)] [] w sz 0 0 32 (ro.1, ro.2, sz + 1) := by
  unfold th_M_load_s32 at h
  refine uxo_iload 4 d_M_load_32 rfl ?_
  refine uxo_iload_n 2 d_M_load_34 rfl rfl ?_
  refine uxo_icmp_ge d_M_load_35 h (fun h => ?_) (fun h => ?_)
  · refine uxo_iload 3 d_M_load_68 rfl ?_
    cases h
  · refine uxo_iload 3 d_M_load_38 rfl ?_
    refine uxo_aload_n 0 d_M_load_40 rfl rfl ?_
    refine uxo_getR 1 d_M_load_41 xc_3 rfl tw_208 rfl h (fun a1 h => ?_)
    refine uxo_getR 0 d_M_load_44 xc_4 rfl tw_86 rfl h (fun a2 h => ?_)
    refine uxo_lload_n 1 d_M_load_47 rfl rfl ?_
    refine uxo_l2i d_M_load_48 ?_
    refine uxo_iload 4 d_M_load_49 rfl ?_
    refine uxo_iadd d_M_load_51 ?_
    refine uxo_aldI d_M_load_52 h (fun x3 h => ?_)
    refine uxo_bipush d_M_load_53 xbp_8 ?_
    refine uxo_iload 4 d_M_load_55 rfl ?_
    refine uxo_imul d_M_load_57 ?_
    refine uxo_ishl d_M_load_58 ?_
    refine uxo_ior d_M_load_59 ?_
    refine uxo_nmI h (fun x4 h => ?_)
    refine uxo_istore [(4, .int x4), (0, .ref l0), (1, .long l1), (3, .int l3), (5, .int l5)] d_M_load_60 rfl rfl ?_
    refine uxo_iinc 4 (fun x5 => [(5, .int x5), (4, .int x4), (0, .ref l0), (1, .long l1), (3, .int l3)]) d_M_load_62 rfl rfl xic_1 (fun _ => rfl) h (fun x5 h => ?_)
    refine uxo_goto d_M_load_65 ?_
    exact uxo_sub [2, 3, 4, 1, 0] [(0, .ref l0), (1, .long l1), (3, .int l3), (4, .int x4), (5, .int x5)] rfl (R32 _ _ _ _ _ _ h)
theorem ub_M_load_32 (X : xX) (sz : Nat) (ro : String × xw) (n : Nat) : ∀ (w : xw) (l0 : Nat) (l1 : Int64) (l3 : Int32) (l4 : Int32) (l5 : Int32), th_M_load_b32 n w l0 l1 l3 l4 l5 = some ro → ku_M_load X [(0, .ref l0), (1, .long l1), (3, .int l3), (4, .int l4), (5, .int l5)] [] w sz 0 0 32 (ro.1, ro.2, sz + 1) := by
  unfold th_M_load_b32
  refine xfix_ind (P := fun (r32 : xw → Nat → Int64 → Int32 → Int32 → Int32 → Option (String × xw)) => ∀ (w : xw) (l0 : Nat) (l1 : Int64) (l3 : Int32) (l4 : Int32) (l5 : Int32), r32 w l0 l1 l3 l4 l5 = some ro → ku_M_load X [(0, .ref l0), (1, .long l1), (3, .int l3), (4, .int l4), (5, .int l5)] [] w sz 0 0 32 (ro.1, ro.2, sz + 1)) ?_ ?_ n
  · intro _ _ _ _ _ _ h
    cases h
  · intro r R w l0 l1 l3 l4 l5 h
    exact us_M_load_32 X sz ro r R _ _ _ _ _ _ h
theorem ub_M_load_0 (X : xX) (sz : Nat) (ro : String × xw) (w : xw) (l0 : Nat) (l1 : Int64) (l3 : Int32) (h : th_M_load w l0 l1 l3 = some ro) : ku_M_load X [(0, .ref l0), (1, .long l1), (3, .int l3)] [] w sz 0 0 0 (ro.1, ro.2, sz + 1) := by
  unfold th_M_load at h
  refine uxo_lload_n 1 d_M_load_0 rfl rfl ?_
  refine uxo_iload_n 2 d_M_load_1 rfl rfl ?_
  refine uxo_i2l d_M_load_2 ?_
  refine uxo_ladd d_M_load_3 ?_
  refine uxo_aload_n 0 d_M_load_4 rfl rfl ?_
  refine uxo_getR 1 d_M_load_5 xc_3 rfl tw_208 rfl h (fun a1 h => ?_)
  refine uxo_getI 1 d_M_load_8 xc_4 rfl tw_88 rfl h (fun x2 h => ?_)
  refine uxo_i2l d_M_load_11 ?_
  refine uxo_lcle d_M_load_12 d_M_load_13 h (fun h => ?_) (fun h => ?_)
  · refine uxo_iconst d_M_load_26 xic_0 ?_
    refine uxo_nmI h (fun x3 h => ?_)
    refine uxo_istore [(4, .int x3), (0, .ref l0), (1, .long l1), (3, .int l3)] d_M_load_27 rfl rfl ?_
    refine uxo_iconst d_M_load_29 xic_0 ?_
    refine uxo_nmI h (fun x4 h => ?_)
    refine uxo_istore [(5, .int x4), (4, .int x3), (0, .ref l0), (1, .long l1), (3, .int l3)] d_M_load_30 rfl rfl ?_
    exact uxo_sub [2, 3, 4, 1, 0] [(0, .ref l0), (1, .long l1), (3, .int l3), (4, .int x3), (5, .int x4)] rfl (ub_M_load_32 X sz ro _ _ _ _ _ _ _ h)
  · exact uo_leaf ["java/lang/RuntimeException", "java/lang/Exception"] d_M_load_16 d_M_load_19 d_M_load_20 d_M_load_22 d_M_load_25 (List.mem_of_getElem? (i := 1) rfl) tw_526 tw_527 tw_17 hat_IndexOutOfBoundsException (by decide +kernel) (by decide +kernel) rfl rfl rfl rfl h
theorem ct_M_load (l : Launch) (D : va_G) (cT : Nat → ClassId) (sz : Nat) (w : xw) (l0 : Nat) (l1 : Int64) (l3 : Int32) (ro : String × xw) (h : th_M_load w l0 l1 l3 = some ro) : xN l y_M_load b_M_load 6 t_M_load Rt_M_load D cT [.ref l0, .long l1, .int l3] w sz (ro.1, ro.2, sz + 1) :=
  xu_of bl_M_load rfl rfl (ub_M_load_0 (l, D, cT, [.ref l0, .long l1, .int l3], w, sz) sz ro w l0 l1 l3 h)
theorem ub_M_checkedDivisor_0 (X : xX) (sz : Nat) (ro : String × xw) (w : xw) (l0 : Int32) (h : th_M_checkedDivisor w l0 = some ro) : ku_M_checkedDivisor X [(0, .int l0)] [] w sz 0 0 0 (ro.1, ro.2, sz + 1) := by
  unfold th_M_checkedDivisor at h
  refine uxo_iload_n 0 d_M_checkedDivisor_0 rfl rfl ?_
  refine uxo_if_ne d_M_checkedDivisor_1 h (fun h => ?_) (fun h => ?_)
  · refine uxo_iload_n 0 d_M_checkedDivisor_14 rfl rfl ?_
    refine uxo_SN_L0 (rest := []) [.int l0] d_M_checkedDivisor_15 nw_6 yw_G_unsigned h (fun z e => c_G_unsigned _ _ _ _ _ _ z e) rfl ⟨rfl, rfl⟩ rfl rfl rfl (fun q1 h => ?_)
    cases h
  · exact uo_leaf ["java/lang/RuntimeException", "java/lang/Exception"] d_M_checkedDivisor_4 d_M_checkedDivisor_7 d_M_checkedDivisor_8 d_M_checkedDivisor_10 d_M_checkedDivisor_13 (List.mem_of_getElem? (i := 2) rfl) tw_605 tw_606 tw_18 hat_ArithmeticException (by decide +kernel) (by decide +kernel) rfl rfl rfl rfl h
theorem ct_M_checkedDivisor (l : Launch) (D : va_G) (cT : Nat → ClassId) (sz : Nat) (w : xw) (l0 : Int32) (ro : String × xw) (h : th_M_checkedDivisor w l0 = some ro) : xN l y_M_checkedDivisor b_M_checkedDivisor 1 t_M_checkedDivisor Rt_M_checkedDivisor D cT [.int l0] w sz (ro.1, ro.2, sz + 1) :=
  xu_of bl_M_checkedDivisor rfl rfl (ub_M_checkedDivisor_0 (l, D, cT, [.int l0], w, sz) sz ro w l0 h)
theorem ub_M_compute_0 (X : xX) (sz : Nat) (ro : String × xw) (w : xw) (l0 : Int32) (l1 : Int32) (l2 : Int32) (h : th_M_compute w l0 l1 l2 = some ro) : ku_M_compute X [(0, .int l0), (1, .int l1), (2, .int l2)] [] w sz 0 0 0 (ro.1, ro.2, sz + 1) := by
  unfold th_M_compute at h
  refine uxo_iload_n 0 d_M_compute_0 rfl rfl ?_
  rcases xif h with ⟨hc0, h⟩ | ⟨hc0, h⟩
  · refine uxo_tableIn 59 60 d_M_compute_1 (by rw [hc0]; decide) (by rw [hc0]; decide) (by rw [hc0]; decide) (by decide) ?_
    refine uxo_iload_n 1 d_M_compute_60 rfl rfl ?_
    refine uxo_iload_n 2 d_M_compute_61 rfl rfl ?_
    refine uxo_iadd d_M_compute_62 ?_
    cases h
  rcases xif h with ⟨hc1, h⟩ | ⟨hc1, h⟩
  · refine uxo_tableIn 63 64 d_M_compute_1 (by rw [hc1]; decide) (by rw [hc1]; decide) (by rw [hc1]; decide) (by decide) ?_
    refine uxo_iload_n 1 d_M_compute_64 rfl rfl ?_
    refine uxo_iload_n 2 d_M_compute_65 rfl rfl ?_
    refine uxo_isub d_M_compute_66 ?_
    cases h
  rcases xif h with ⟨hc2, h⟩ | ⟨hc2, h⟩
  · refine uxo_tableIn 67 68 d_M_compute_1 (by rw [hc2]; decide) (by rw [hc2]; decide) (by rw [hc2]; decide) (by decide) ?_
    refine uxo_iload_n 1 d_M_compute_68 rfl rfl ?_
    refine uxo_iload_n 2 d_M_compute_69 rfl rfl ?_
    refine uxo_imul d_M_compute_70 ?_
    cases h
  rcases xif h with ⟨hc3, h⟩ | ⟨hc3, h⟩
  · refine uxo_tableIn 71 72 d_M_compute_1 (by rw [hc3]; decide) (by rw [hc3]; decide) (by rw [hc3]; decide) (by decide) ?_
    refine uxo_iload_n 1 d_M_compute_72 rfl rfl ?_
    refine uxo_iload_n 2 d_M_compute_73 rfl rfl ?_
    refine uxo_iand d_M_compute_74 ?_
    cases h
  rcases xif h with ⟨hc4, h⟩ | ⟨hc4, h⟩
  · refine uxo_tableIn 75 76 d_M_compute_1 (by rw [hc4]; decide) (by rw [hc4]; decide) (by rw [hc4]; decide) (by decide) ?_
    refine uxo_iload_n 1 d_M_compute_76 rfl rfl ?_
    refine uxo_iload_n 2 d_M_compute_77 rfl rfl ?_
    refine uxo_ior d_M_compute_78 ?_
    cases h
  rcases xif h with ⟨hc5, h⟩ | ⟨hc5, h⟩
  · refine uxo_tableIn 79 80 d_M_compute_1 (by rw [hc5]; decide) (by rw [hc5]; decide) (by rw [hc5]; decide) (by decide) ?_
    refine uxo_iload_n 1 d_M_compute_80 rfl rfl ?_
    refine uxo_iload_n 2 d_M_compute_81 rfl rfl ?_
    refine uxo_ixor d_M_compute_82 ?_
    cases h
  rcases xif h with ⟨hc6, h⟩ | ⟨hc6, h⟩
  · refine uxo_tableIn 83 84 d_M_compute_1 (by rw [hc6]; decide) (by rw [hc6]; decide) (by rw [hc6]; decide) (by decide) ?_
    refine uxo_iload_n 1 d_M_compute_84 rfl rfl ?_
    refine uxo_iload_n 2 d_M_compute_85 rfl rfl ?_
    refine uxo_bipush d_M_compute_86 xbp_31 ?_
    refine uxo_iand d_M_compute_88 ?_
    refine uxo_ishl d_M_compute_89 ?_
    cases h
  rcases xif h with ⟨hc7, h⟩ | ⟨hc7, h⟩
  · refine uxo_tableIn 90 91 d_M_compute_1 (by rw [hc7]; decide) (by rw [hc7]; decide) (by rw [hc7]; decide) (by decide) ?_
    refine uxo_iload_n 1 d_M_compute_91 rfl rfl ?_
    refine uxo_iload_n 2 d_M_compute_92 rfl rfl ?_
    refine uxo_bipush d_M_compute_93 xbp_31 ?_
    refine uxo_iand d_M_compute_95 ?_
    refine uxo_iushr d_M_compute_96 ?_
    cases h
  rcases xif h with ⟨hc8, h⟩ | ⟨hc8, h⟩
  · refine uxo_tableIn 97 98 d_M_compute_1 (by rw [hc8]; decide) (by rw [hc8]; decide) (by rw [hc8]; decide) (by decide) ?_
    refine uxo_iload_n 1 d_M_compute_98 rfl rfl ?_
    refine uxo_iload_n 2 d_M_compute_99 rfl rfl ?_
    refine uxo_bipush d_M_compute_100 xbp_31 ?_
    refine uxo_iand d_M_compute_102 ?_
    refine uxo_ishr d_M_compute_103 ?_
    cases h
  rcases xif h with ⟨hc9, h⟩ | ⟨hc9, h⟩
  · refine uxo_tableIn 104 105 d_M_compute_1 (by rw [hc9]; decide) (by rw [hc9]; decide) (by rw [hc9]; decide) (by decide) ?_
    refine uxo_iload_n 1 d_M_compute_105 rfl rfl ?_
    refine uxo_SN_L0 (rest := []) [.int l1] d_M_compute_106 nw_6 yw_G_unsigned h (fun z e => c_G_unsigned _ _ _ _ _ _ z e) rfl ⟨rfl, rfl⟩ rfl rfl rfl (fun q1 h => ?_)
    refine uxo_iload_n 2 d_M_compute_109 rfl rfl ?_
    refine uo_ST_L (rest := [.long q1]) [.int l2] d_M_compute_110 tw_602 yw_M_checkedDivisor h (fun z e => c_M_checkedDivisor _ _ _ _ _ _ z e) (fun z e => ct_M_checkedDivisor _ _ _ _ _ _ z e) rfl rfl ⟨rfl, rfl⟩ rfl rfl rfl (fun q2 h => ?_)
    refine uxo_ldiv d_M_compute_113 h (fun h => ?_)
    refine uxo_l2i d_M_compute_114 ?_
    cases h
  rcases xif h with ⟨hc10, h⟩ | ⟨hc10, h⟩
  · refine uxo_tableIn 115 116 d_M_compute_1 (by rw [hc10]; decide) (by rw [hc10]; decide) (by rw [hc10]; decide) (by decide) ?_
    refine uxo_iload_n 1 d_M_compute_116 rfl rfl ?_
    refine uxo_SN_L0 (rest := []) [.int l1] d_M_compute_117 nw_6 yw_G_unsigned h (fun z e => c_G_unsigned _ _ _ _ _ _ z e) rfl ⟨rfl, rfl⟩ rfl rfl rfl (fun q3 h => ?_)
    refine uxo_iload_n 2 d_M_compute_120 rfl rfl ?_
    refine uo_ST_L (rest := [.long q3]) [.int l2] d_M_compute_121 tw_602 yw_M_checkedDivisor h (fun z e => c_M_checkedDivisor _ _ _ _ _ _ z e) (fun z e => ct_M_checkedDivisor _ _ _ _ _ _ z e) rfl rfl ⟨rfl, rfl⟩ rfl rfl rfl (fun q4 h => ?_)
    refine uxo_lrem d_M_compute_124 h (fun h => ?_)
    refine uxo_l2i d_M_compute_125 ?_
    cases h
  refine uxo_tableOut 127 d_M_compute_1 (by have n0 := lv_neT hc0 (a := 1) (by decide); have n1 := lv_neT hc1 (a := 2) (by decide); have n2 := lv_neT hc2 (a := 3) (by decide); have n3 := lv_neT hc3 (a := 4) (by decide); have n4 := lv_neT hc4 (a := 5) (by decide); have n5 := lv_neT hc5 (a := 6) (by decide); have n6 := lv_neT hc6 (a := 7) (by decide); have n7 := lv_neT hc7 (a := 8) (by decide); have n8 := lv_neT hc8 (a := 9) (by decide); have n9 := lv_neT hc9 (a := 10) (by decide); have n10 := lv_neT hc10 (a := 11) (by decide); omega) (by decide) ?_
  refine uxo_iload_n 2 d_M_compute_127 rfl rfl ?_
  cases h
theorem ct_M_compute (l : Launch) (D : va_G) (cT : Nat → ClassId) (sz : Nat) (w : xw) (l0 : Int32) (l1 : Int32) (l2 : Int32) (ro : String × xw) (h : th_M_compute w l0 l1 l2 = some ro) : xN l y_M_compute b_M_compute 3 t_M_compute Rt_M_compute D cT [.int l0, .int l1, .int l2] w sz (ro.1, ro.2, sz + 1) :=
  xu_of bl_M_compute rfl rfl (ub_M_compute_0 (l, D, cT, [.int l0, .int l1, .int l2], w, sz) sz ro w l0 l1 l2 h)
theorem ub_M_make_227 (X : xX) (sz : Nat) (ro : String × xw) (w : xw) (h : th_M_make_b227 w = some ro) : ku_M_make X [] [] w sz 0 0 227 (ro.1, ro.2, sz + 1) := by
  unfold th_M_make_b227 at h
  refine uxo_iconst d_M_make_227 xic_0 ?_
  cases h
theorem ub_M_make_99 (X : xX) (sz : Nat) (ro : String × xw) (w : xw) (s0 : Int32) (h : th_M_make_b99 w s0 = some ro) : ku_M_make X [] [.int s0] w sz 0 0 99 (ro.1, ro.2, sz + 1) := by
  unfold th_M_make_b99 at h
  cases h
theorem ub_M_make_24 (X : xX) (sz : Nat) (ro : String × xw) (w : xw) (l0 : Nat) (l1 : Nat) (s0 : Int32) (h : th_M_make_b24 w l0 l1 s0 = some ro) : ku_M_make X [(0, .ref l0), (1, .ref l1)] [.int s0] w sz 0 0 24 (ro.1, ro.2, sz + 1) := by
  unfold th_M_make_b24 at h
  refine uxo_istore_n [(2, .int s0), (0, .ref l0), (1, .ref l1)] d_M_make_24 rfl rfl rfl ?_
  refine uxo_aload_n 2 d_M_make_25 rfl rfl ?_
  refine uxo_getI 0 d_M_make_26 xc_1 rfl tw_41 rfl h (fun x1 h => ?_)
  refine uxo_bipush d_M_make_29 xbp_22 ?_
  refine uxo_icmp_ne d_M_make_31 h (fun h => ?_) (fun h => ?_)
  · refine uxo_aload_n 2 d_M_make_36 rfl rfl ?_
    refine uxo_getI 0 d_M_make_37 xc_1 rfl tw_41 rfl h (fun x2 h => ?_)
    refine uxo_bipush d_M_make_40 xbp_16 ?_
    refine uxo_icmp_lt d_M_make_42 h (fun h => ?_) (fun h => ?_)
    · refine uxo_aload_n 2 d_M_make_63 rfl rfl ?_
      refine uxo_getI 0 d_M_make_64 xc_1 rfl tw_41 rfl h (fun x3 h => ?_)
      refine uxo_bipush d_M_make_67 xbp_15 ?_
      refine uxo_icmp_ne d_M_make_69 h (fun h => ?_) (fun h => ?_)
      · refine uxo_aload_n 2 d_M_make_100 rfl rfl ?_
        refine uxo_getI 0 d_M_make_101 xc_1 rfl tw_41 rfl h (fun x4 h => ?_)
        refine uxo_bipush d_M_make_104 xbp_13 ?_
        refine uxo_icmp_ne d_M_make_106 h (fun h => ?_) (fun h => ?_)
        · refine uxo_aload_n 2 d_M_make_131 rfl rfl ?_
          refine uxo_getI 0 d_M_make_132 xc_1 rfl tw_41 rfl h (fun x5 h => ?_)
          refine uxo_bipush d_M_make_135 xbp_12 ?_
          refine uxo_icmp_ne d_M_make_137 h (fun h => ?_) (fun h => ?_)
          · refine uxo_aload_n 2 d_M_make_162 rfl rfl ?_
            refine uxo_getI 0 d_M_make_163 xc_1 rfl tw_41 rfl h (fun x6 h => ?_)
            refine uxo_bipush d_M_make_166 xbp_14 ?_
            refine uxo_icmp_ne d_M_make_168 h (fun h => ?_) (fun h => ?_)
            · refine uxo_aload_n 1 d_M_make_201 rfl rfl ?_
              refine uxo_getR 2 d_M_make_202 xc_3 rfl tw_209 rfl h (fun a7 h => ?_)
              refine uxo_aload_n 2 d_M_make_205 rfl rfl ?_
              refine uxo_getI 1 d_M_make_206 xc_1 rfl tw_45 rfl h (fun x8 h => ?_)
              refine uxo_aload_n 2 d_M_make_209 rfl rfl ?_
              refine uxo_getI 0 d_M_make_210 xc_1 rfl tw_41 rfl h (fun x9 h => ?_)
              refine uxo_aload_n 1 d_M_make_213 rfl rfl ?_
              refine uxo_getR 2 d_M_make_214 xc_3 rfl tw_209 rfl h (fun a10 h => ?_)
              refine uxo_aload_n 2 d_M_make_217 rfl rfl ?_
              refine uxo_getI 1 d_M_make_218 xc_1 rfl tw_45 rfl h (fun x11 h => ?_)
              refine uxo_aldI d_M_make_221 h (fun x12 h => ?_)
              refine uxo_iload_n 0 d_M_make_222 rfl rfl ?_
              refine uo_ST_I (rest := [.int x8, .ref a7]) [.int x9, .int x12, .int s0] d_M_make_223 tw_599 yw_M_compute h (fun z e => c_M_compute _ _ _ _ _ _ _ _ z e) (fun z e => ct_M_compute _ _ _ _ _ _ _ _ z e) rfl rfl ⟨rfl, rfl⟩ rfl rfl rfl (fun q13 h => ?_)
              refine uxo_astI d_M_make_226 h (fun w14 h => ?_)
              exact uxo_sub [] [] rfl (ub_M_make_227 X sz ro _ h)
            · refine uxo_aload_n 1 d_M_make_171 rfl rfl ?_
              refine uxo_getR 2 d_M_make_172 xc_3 rfl tw_209 rfl h (fun a15 h => ?_)
              refine uxo_aload_n 2 d_M_make_175 rfl rfl ?_
              refine uxo_getI 1 d_M_make_176 xc_1 rfl tw_45 rfl h (fun x16 h => ?_)
              refine uxo_aload_n 1 d_M_make_179 rfl rfl ?_
              refine uxo_iload_n 0 d_M_make_180 rfl rfl ?_
              refine uxo_SN_L0 (rest := [.ref l0, .int x16, .ref a15]) [.int s0] d_M_make_181 nw_6 yw_G_unsigned h (fun z e => c_G_unsigned _ _ _ _ _ _ z e) rfl ⟨rfl, rfl⟩ rfl rfl rfl (fun q17 h => ?_)
              refine uxo_aload_n 2 d_M_make_184 rfl rfl ?_
              refine uxo_getI 3 d_M_make_185 xc_1 rfl tw_51 rfl h (fun x18 h => ?_)
              refine uxo_i2l d_M_make_188 ?_
              refine uxo_ladd d_M_make_189 ?_
              refine uxo_aload_n 2 d_M_make_190 rfl rfl ?_
              refine uxo_getI 4 d_M_make_191 xc_1 rfl tw_53 rfl h (fun x19 h => ?_)
              refine uo_VT_I (rest := [.int x16, .ref a15]) [.long (q17 + x18.toInt64), .int x19] d_M_make_194 tw_594 yw_M_load h xc_3 (fun z e => c_M_load _ _ _ _ _ _ _ _ z e) (fun z e => ct_M_load _ _ _ _ _ _ _ _ z e) rfl rfl ⟨rfl, rfl⟩ rfl rfl rfl (fun q20 h => ?_)
              refine uxo_astI d_M_make_197 h (fun w21 h => ?_)
              refine uxo_goto d_M_make_198 ?_
              exact uxo_sub [] [] rfl (ub_M_make_227 X sz ro _ h)
          · refine uxo_aload_n 1 d_M_make_140 rfl rfl ?_
            refine uxo_getR 2 d_M_make_141 xc_3 rfl tw_209 rfl h (fun a22 h => ?_)
            refine uxo_aload_n 2 d_M_make_144 rfl rfl ?_
            refine uxo_getI 1 d_M_make_145 xc_1 rfl tw_45 rfl h (fun x23 h => ?_)
            refine uxo_aload_n 1 d_M_make_148 rfl rfl ?_
            refine uxo_getR 3 d_M_make_149 xc_3 rfl tw_210 rfl h (fun a24 h => ?_)
            refine uxo_aload_n 1 d_M_make_152 rfl rfl ?_
            refine uxo_iload_n 0 d_M_make_153 rfl rfl ?_
            refine uo_VT_I (rest := [.ref a24, .int x23, .ref a22]) [.int s0] d_M_make_154 tw_522 yw_M_checkedPlace h xc_3 (fun z e => c_M_checkedPlace _ _ _ _ _ _ _ z e) (fun z e => ct_M_checkedPlace _ _ _ _ _ _ _ z e) rfl rfl ⟨rfl, rfl⟩ rfl rfl rfl (fun q25 h => ?_)
            refine uxo_aldI d_M_make_157 h (fun x26 h => ?_)
            refine uxo_astI d_M_make_158 h (fun w27 h => ?_)
            refine uxo_goto d_M_make_159 ?_
            exact uxo_sub [] [] rfl (ub_M_make_227 X sz ro _ h)
        · refine uxo_aload_n 1 d_M_make_109 rfl rfl ?_
          refine uxo_getR 3 d_M_make_110 xc_3 rfl tw_210 rfl h (fun a28 h => ?_)
          refine uxo_aload_n 1 d_M_make_113 rfl rfl ?_
          refine uxo_iload_n 0 d_M_make_114 rfl rfl ?_
          refine uo_VT_I (rest := [.ref a28]) [.int s0] d_M_make_115 tw_522 yw_M_checkedPlace h xc_3 (fun z e => c_M_checkedPlace _ _ _ _ _ _ _ z e) (fun z e => ct_M_checkedPlace _ _ _ _ _ _ _ z e) rfl rfl ⟨rfl, rfl⟩ rfl rfl rfl (fun q29 h => ?_)
          refine uxo_aload_n 1 d_M_make_118 rfl rfl ?_
          refine uxo_getR 2 d_M_make_119 xc_3 rfl tw_209 rfl h (fun a30 h => ?_)
          refine uxo_aload_n 2 d_M_make_122 rfl rfl ?_
          refine uxo_getI 1 d_M_make_123 xc_1 rfl tw_45 rfl h (fun x31 h => ?_)
          refine uxo_aldI d_M_make_126 h (fun x32 h => ?_)
          refine uxo_astI d_M_make_127 h (fun w33 h => ?_)
          refine uxo_goto d_M_make_128 ?_
          exact uxo_sub [] [] rfl (ub_M_make_227 X sz ro _ h)
      · refine uxo_iload_n 0 d_M_make_72 rfl rfl ?_
        refine uxo_SN_L0 (rest := []) [.int s0] d_M_make_73 nw_6 yw_G_unsigned h (fun z e => c_G_unsigned _ _ _ _ _ _ z e) rfl ⟨rfl, rfl⟩ rfl rfl rfl (fun q34 h => ?_)
        refine uxo_aload_n 2 d_M_make_76 rfl rfl ?_
        refine uxo_getI 3 d_M_make_77 xc_1 rfl tw_51 rfl h (fun x35 h => ?_)
        refine uxo_i2l d_M_make_80 ?_
        refine uxo_ladd d_M_make_81 ?_
        refine uxo_aload_n 1 d_M_make_82 rfl rfl ?_
        refine uxo_getR 1 d_M_make_83 xc_3 rfl tw_208 rfl h (fun a36 h => ?_)
        refine uxo_getI 1 d_M_make_86 xc_4 rfl tw_88 rfl h (fun x37 h => ?_)
        refine uxo_i2l d_M_make_89 ?_
        refine uxo_lcle d_M_make_90 d_M_make_91 h (fun h => ?_) (fun h => ?_)
        · refine uxo_iconst d_M_make_98 xic_0 ?_
          exact uxo_sub [] [] rfl (ub_M_make_99 X sz ro _ _ h)
        · refine uxo_iconst d_M_make_94 xic_1 ?_
          refine uxo_goto d_M_make_95 ?_
          exact uxo_sub [] [] rfl (ub_M_make_99 X sz ro _ _ h)
    · refine uxo_aload_n 2 d_M_make_45 rfl rfl ?_
      refine uxo_getI 0 d_M_make_46 xc_1 rfl tw_41 rfl h (fun x38 h => ?_)
      refine uxo_aload_n 1 d_M_make_49 rfl rfl ?_
      refine uxo_getR 2 d_M_make_50 xc_3 rfl tw_209 rfl h (fun a39 h => ?_)
      refine uxo_aload_n 2 d_M_make_53 rfl rfl ?_
      refine uxo_getI 1 d_M_make_54 xc_1 rfl tw_45 rfl h (fun x40 h => ?_)
      refine uxo_aldI d_M_make_57 h (fun x41 h => ?_)
      refine uxo_iload_n 0 d_M_make_58 rfl rfl ?_
      refine uxo_S_I0 (rest := []) [.int x38, .int x41, .int s0] d_M_make_59 tw_518 yw_M_holds h (fun z e => c_M_holds _ _ _ _ _ _ _ _ z e) rfl ⟨rfl, rfl⟩ rfl rfl rfl (fun q42 h => ?_)
      cases h
  · refine uxo_iconst d_M_make_34 xic_1 ?_
    cases h
theorem ub_M_make_0 (X : xX) (sz : Nat) (ro : String × xw) (w : xw) (l0 : Nat) (l1 : Nat) (h : th_M_make w l0 l1 = some ro) : ku_M_make X [(0, .ref l0), (1, .ref l1)] [] w sz 0 0 0 (ro.1, ro.2, sz + 1) := by
  unfold th_M_make at h
  refine uxo_aload_n 1 d_M_make_0 rfl rfl ?_
  refine uxo_getI 2 d_M_make_1 xc_1 rfl tw_48 rfl h (fun x1 h => ?_)
  refine uxo_iconst d_M_make_4 xic_m1 ?_
  refine uxo_icmp_ne d_M_make_5 h (fun h => ?_) (fun h => ?_)
  · refine uxo_aload_n 0 d_M_make_15 rfl rfl ?_
    refine uxo_getR 2 d_M_make_16 xc_3 rfl tw_209 rfl h (fun a2 h => ?_)
    refine uxo_aload_n 1 d_M_make_19 rfl rfl ?_
    refine uxo_getI 2 d_M_make_20 xc_1 rfl tw_48 rfl h (fun x3 h => ?_)
    refine uxo_aldI d_M_make_23 h (fun x4 h => ?_)
    exact uxo_sub [0, 1] [(0, .ref l0), (1, .ref l1)] rfl (ub_M_make_24 X sz ro _ _ _ _ h)
  · refine uxo_aload_n 1 d_M_make_8 rfl rfl ?_
    refine uxo_getI 3 d_M_make_9 xc_1 rfl tw_51 rfl h (fun x5 h => ?_)
    refine uxo_goto d_M_make_12 ?_
    exact uxo_sub [0, 1] [(0, .ref l0), (1, .ref l1)] rfl (ub_M_make_24 X sz ro _ _ _ _ h)
theorem ct_M_make (l : Launch) (D : va_G) (cT : Nat → ClassId) (sz : Nat) (w : xw) (l0 : Nat) (l1 : Nat) (ro : String × xw) (h : th_M_make w l0 l1 = some ro) : xN l y_M_make b_M_make 3 t_M_make Rt_M_make D cT [.ref l0, .ref l1] w sz (ro.1, ro.2, sz + 1) :=
  xu_of bl_M_make rfl rfl (ub_M_make_0 (l, D, cT, [.ref l0, .ref l1], w, sz) sz ro w l0 l1 h)
theorem ub_M_answer_92 (X : xX) (sz : Nat) (ro : String × xw) (w : xw) (h : th_M_answer_b92 w = some ro) : ku_M_answer X [] [] w sz 0 0 92 (ro.1, ro.2, sz + 1) := by
  unfold th_M_answer_b92 at h
  exact uo_leaf ["java/lang/RuntimeException", "java/lang/Exception"] d_M_answer_92 d_M_answer_95 d_M_answer_96 d_M_answer_98 d_M_answer_101 (List.mem_of_getElem? (i := 3) rfl) tw_621 tw_622 tw_19 hat_IllegalStateException (by decide +kernel) (by decide +kernel) rfl rfl rfl rfl h
theorem ub_M_answer_84 (X : xX) (sz : Nat) (ro : String × xw) (r10 : xw → Nat → Int32 → Int32 → Option (String × xw)) (R10 : ∀ (w : xw) (l0 : Nat) (l2 : Int32) (l3 : Int32), r10 w l0 l2 l3 = some ro → ku_M_answer X [(0, .ref l0), (2, .int l2), (3, .int l3)] [] w sz 0 0 10 (ro.1, ro.2, sz + 1)) (w : xw) (l0 : Nat) (l3 : Int32) (s0 : Int32) (s1 : Int32) (h : th_M_answer_b84 r10 w l0 l3 s0 s1 = some ro) : ku_M_answer X [(0, .ref l0), (3, .int l3)] [.int s1, .int s0] w sz 0 0 84 (ro.1, ro.2, sz + 1) := by
  unfold th_M_answer_b84 at h
  refine uxo_iadd d_M_answer_84 ?_
  refine uxo_nmI h (fun x1 h => ?_)
  refine uxo_istore_n [(2, .int x1), (0, .ref l0), (3, .int l3)] d_M_answer_85 rfl rfl rfl ?_
  refine uxo_iinc 2 (fun x2 => [(3, .int x2), (2, .int x1), (0, .ref l0)]) d_M_answer_86 rfl rfl xic_m1 (fun _ => rfl) h (fun x2 h => ?_)
  refine uxo_goto d_M_answer_89 ?_
  exact uxo_sub [2, 1, 0] [(0, .ref l0), (2, .int x1), (3, .int x2)] rfl (R10 _ _ _ _ h)
theorem us_M_answer_10 (X : xX) (sz : Nat) (ro : String × xw) (r10 : xw → Nat → Int32 → Int32 → Option (String × xw)) (R10 : ∀ (w : xw) (l0 : Nat) (l2 : Int32) (l3 : Int32), r10 w l0 l2 l3 = some ro → ku_M_answer X [(0, .ref l0), (2, .int l2), (3, .int l3)] [] w sz 0 0 10 (ro.1, ro.2, sz + 1)) (w : xw) (l0 : Nat) (l2 : Int32) (l3 : Int32) (h : th_M_answer_s10 r10 w l0 l2 l3 = some ro) : ku_M_answer X [(0, .ref l0), (2, .int l2), (3, .int l3)] [] w sz 0 0 10 (ro.1, ro.2, sz + 1) := by
  unfold th_M_answer_s10 at h
  refine uxo_iload_n 2 d_M_answer_10 rfl rfl ?_
  refine uxo_if_le d_M_answer_11 h (fun h => ?_) (fun h => ?_)
  · exact uxo_sub [] [] rfl (ub_M_answer_92 X sz ro _ h)
  · refine uxo_iload_n 1 d_M_answer_14 rfl rfl ?_
    refine uxo_aload_n 0 d_M_answer_15 rfl rfl ?_
    refine uxo_getR 0 d_M_answer_16 xc_3 rfl tw_207 rfl h (fun a1 h => ?_)
    refine uxo_getI 1 d_M_answer_19 xc_5 rfl tw_72 rfl h (fun x2 h => ?_)
    refine uxo_icmp_ge d_M_answer_22 h (fun h => ?_) (fun h => ?_)
    · exact uxo_sub [] [] rfl (ub_M_answer_92 X sz ro _ h)
    · refine uxo_aload_n 0 d_M_answer_25 rfl rfl ?_
      refine uxo_getR 0 d_M_answer_26 xc_3 rfl tw_207 rfl h (fun a3 h => ?_)
      refine uxo_getR 0 d_M_answer_29 xc_5 rfl tw_68 rfl h (fun a4 h => ?_)
      refine uxo_iload_n 1 d_M_answer_32 rfl rfl ?_
      refine uxo_aldR d_M_answer_33 h (fun a5 h => ?_)
      refine uxo_astore [(4, .ref a5), (0, .ref l0), (2, .int l2), (3, .int l3)] d_M_answer_34 rfl rfl ?_
      refine uxo_aload_n 1 d_M_answer_36 rfl rfl ?_
      refine uxo_dup d_M_answer_37 rfl ?_
      refine uxo_getI 4 d_M_answer_38 xc_3 rfl tw_211 rfl h (fun x6 h => ?_)
      refine uxo_iconst d_M_answer_41 xic_1 ?_
      refine uxo_iadd d_M_answer_42 ?_
      refine uxo_putI 4 d_M_answer_43 xc_3 rfl tw_211 rfl rfl rfl rfl h (fun w7 h => ?_)
      refine uxo_aload 0 d_M_answer_46 rfl ?_
      refine uxo_getI 0 d_M_answer_48 xc_1 rfl tw_41 rfl h (fun x8 h => ?_)
      refine uxo_bipush d_M_answer_51 xbp_23 ?_
      refine uxo_icmp_ne d_M_answer_53 h (fun h => ?_) (fun h => ?_)
      · refine uxo_iload_n 2 d_M_answer_63 rfl rfl ?_
        refine uxo_aload_n 1 d_M_answer_64 rfl rfl ?_
        refine uxo_aload 0 d_M_answer_65 rfl ?_
        refine uo_VT_I (rest := [.int l2]) [.ref a5] d_M_answer_67 tw_514 yw_M_make h xc_3 (fun z e => c_M_make _ _ _ _ _ _ _ z e) (fun z e => ct_M_make _ _ _ _ _ _ _ z e) rfl rfl ⟨rfl, rfl⟩ rfl rfl rfl (fun q9 h => ?_)
        refine uxo_if_eq d_M_answer_70 h (fun h => ?_) (fun h => ?_)
        · refine uxo_iconst d_M_answer_83 xic_1 ?_
          exact uxo_sub [1, 3] [(0, .ref l0), (3, .int l3)] rfl (ub_M_answer_84 X sz ro _ R10 _ _ _ _ _ h)
        · refine uxo_iconst d_M_answer_73 xic_1 ?_
          refine uxo_aload 0 d_M_answer_74 rfl ?_
          refine uxo_getI 4 d_M_answer_76 xc_1 rfl tw_53 rfl h (fun x10 h => ?_)
          refine uxo_iadd d_M_answer_79 ?_
          refine uxo_goto d_M_answer_80 ?_
          exact uxo_sub [1, 3] [(0, .ref l0), (3, .int l3)] rfl (ub_M_answer_84 X sz ro _ R10 _ _ _ _ _ h)
      · refine uxo_aload_n 1 d_M_answer_56 rfl rfl ?_
        refine uxo_getR 2 d_M_answer_57 xc_3 rfl tw_209 rfl h (fun a11 h => ?_)
        refine uxo_iconst d_M_answer_60 xic_0 ?_
        refine uxo_aldI d_M_answer_61 h (fun x12 h => ?_)
        cases h
theorem ub_M_answer_10 (X : xX) (sz : Nat) (ro : String × xw) (n : Nat) : ∀ (w : xw) (l0 : Nat) (l2 : Int32) (l3 : Int32), th_M_answer_b10 n w l0 l2 l3 = some ro → ku_M_answer X [(0, .ref l0), (2, .int l2), (3, .int l3)] [] w sz 0 0 10 (ro.1, ro.2, sz + 1) := by
  unfold th_M_answer_b10
  refine xfix_ind (P := fun (r10 : xw → Nat → Int32 → Int32 → Option (String × xw)) => ∀ (w : xw) (l0 : Nat) (l2 : Int32) (l3 : Int32), r10 w l0 l2 l3 = some ro → ku_M_answer X [(0, .ref l0), (2, .int l2), (3, .int l3)] [] w sz 0 0 10 (ro.1, ro.2, sz + 1)) ?_ ?_ n
  · intro _ _ _ _ h
    cases h
  · intro r R w l0 l2 l3 h
    exact us_M_answer_10 X sz ro r R _ _ _ _ h
theorem ub_M_answer_0 (X : xX) (sz : Nat) (ro : String × xw) (w : xw) (l0 : Nat) (l1 : Int32) (h : th_M_answer w l0 l1 = some ro) : ku_M_answer X [(0, .ref l0), (1, .int l1)] [] w sz 0 0 0 (ro.1, ro.2, sz + 1) := by
  unfold th_M_answer at h
  refine uxo_aload_n 0 d_M_answer_0 rfl rfl ?_
  refine uxo_iload_n 1 d_M_answer_1 rfl rfl ?_
  refine uxo_V_VH (rest := []) [.int l1] d_M_answer_2 tw_510 yw_M_begin h xc_3 (fun z e => c_M_begin _ _ _ _ _ _ _ z e) rfl ⟨rfl, rfl⟩ rfl rfl rfl (fun q1 h => ?_)
  refine uxo_iconst d_M_answer_5 xic_0 ?_
  refine uxo_nmI h (fun x2 h => ?_)
  refine uxo_istore_n [(2, .int x2), (0, .ref l0), (1, .int l1)] d_M_answer_6 rfl rfl rfl ?_
  refine uxo_bipush d_M_answer_7 xbp_24 ?_
  refine uxo_nmI h (fun x3 h => ?_)
  refine uxo_istore_n [(3, .int x3), (2, .int x2), (0, .ref l0), (1, .int l1)] d_M_answer_9 rfl rfl rfl ?_
  exact uxo_sub [2, 1, 0] [(0, .ref l0), (2, .int x2), (3, .int x3)] rfl (ub_M_answer_10 X sz ro _ _ _ _ _ h)
theorem ct_M_answer (l : Launch) (D : va_G) (cT : Nat → ClassId) (sz : Nat) (w : xw) (l0 : Nat) (l1 : Int32) (ro : String × xw) (h : th_M_answer w l0 l1 = some ro) : xN l y_M_answer b_M_answer 5 t_M_answer Rt_M_answer D cT [.ref l0, .int l1] w sz (ro.1, ro.2, sz + 1) :=
  xu_of bl_M_answer rfl rfl (ub_M_answer_0 (l, D, cT, [.ref l0, .int l1], w, sz) sz ro w l0 l1 h)
theorem ub_G_run_0 (X : xX) (sz : Nat) (ro : String × xw) (w : xw) (l0 : Nat) (l1 : Int32) (h : th_G_run w l0 l1 = some ro) : ku_G_run X [(0, .ref l0), (1, .int l1)] [] w sz 0 0 0 (ro.1, ro.2, sz + 1) := by
  unfold th_G_run at h
  refine uxo_aload_n 0 d_G_run_0 rfl rfl ?_
  refine uxo_getR 3 d_G_run_1 xc_0 rfl tw_227 rfl h (fun a1 h => ?_)
  refine uxo_iload_n 1 d_G_run_4 rfl rfl ?_
  refine uo_VT_I (rest := []) [.int l1] d_G_run_5 tw_506 yw_M_answer h xc_3 (fun z e => c_M_answer _ _ _ _ _ _ _ z e) (fun z e => ct_M_answer _ _ _ _ _ _ _ z e) rfl rfl ⟨rfl, rfl⟩ rfl rfl rfl (fun q2 h => ?_)
  cases h
theorem ct_G_run (l : Launch) (D : va_G) (cT : Nat → ClassId) (sz : Nat) (w : xw) (l0 : Nat) (l1 : Int32) (ro : String × xw) (h : th_G_run w l0 l1 = some ro) : xN l y_G_run b_G_run 2 t_G_run Rt_G_run D cT [.ref l0, .int l1] w sz (ro.1, ro.2, sz + 1) :=
  xu_of bl_G_run rfl rfl (ub_G_run_0 (l, D, cT, [.ref l0, .int l1], w, sz) sz ro w l0 l1 h)
