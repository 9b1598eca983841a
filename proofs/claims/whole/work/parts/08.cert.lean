theorem kb_I_init_0 (X : xX) (sz : Nat) (ro : Unit) (w : xw) (l0 : Nat) (h : f_I_init l0 = some ro) : k_I_init X [(0, .ref l0)] [] w sz 0 0 0 (none, w, sz) := by
  unfold f_I_init at h
  refine xo_aload_n 0 d_I_init_0 rfl rfl ?_
  refine xo_obj d_I_init_1 tw_40 rfl rfl ?_
  exact xo_retV0 d_I_init_4 rfl rfl rfl h
theorem c_I_init (l : Launch) (D : va_G) (cT : Nat → ClassId) (sz : Nat) (w : xw) (l0 : Nat) (ro : Unit) (h : f_I_init l0 = some ro) : xM l y_I_init b_I_init 1 t_I_init R_I_init D cT [.ref l0] w sz (none, w, sz) :=
  xm_of bl_I_init rfl rfl (kb_I_init_0 (l, D, cT, [.ref l0], w, sz) sz ro w l0 h)
theorem kb_K_init_0 (X : xX) (sz : Nat) (ro : Unit) (w : xw) (l0 : Nat) (h : f_K_init l0 = some ro) : k_K_init X [(0, .ref l0)] [] w sz 0 0 0 (none, w, sz) := by
  unfold f_K_init at h
  refine xo_aload_n 0 d_K_init_0 rfl rfl ?_
  refine xo_obj d_K_init_1 tw_113 rfl rfl ?_
  exact xo_retV0 d_K_init_4 rfl rfl rfl h
theorem c_K_init (l : Launch) (D : va_G) (cT : Nat → ClassId) (sz : Nat) (w : xw) (l0 : Nat) (ro : Unit) (h : f_K_init l0 = some ro) : xM l y_K_init b_K_init 1 t_K_init R_K_init D cT [.ref l0] w sz (none, w, sz) :=
  xm_of bl_K_init rfl rfl (kb_K_init_0 (l, D, cT, [.ref l0], w, sz) sz ro w l0 h)
theorem kb_I_allowed_134 (X : xX) (sz : Nat) (ro : Int32) (w : xw) (s0 : Int32) (h : f_I_allowed_b134 s0 = some ro) : k_I_allowed X [] [.int s0] w sz 0 0 134 (some (.int ro), w, sz) := by
  unfold f_I_allowed_b134 at h
  exact xo_retZ0 d_I_allowed_134 rfl rfl rfl h
theorem kb_I_allowed_133 (X : xX) (sz : Nat) (ro : Int32) (w : xw) (h : f_I_allowed_b133 = some ro) : k_I_allowed X [] [] w sz 0 0 133 (some (.int ro), w, sz) := by
  unfold f_I_allowed_b133 at h
  refine xo_iconst d_I_allowed_133 xic_0 ?_
  exact xo_sub [] [] rfl (kb_I_allowed_134 X sz ro w _ h)
theorem kb_I_allowed_129 (X : xX) (sz : Nat) (ro : Int32) (w : xw) (h : f_I_allowed_b129 = some ro) : k_I_allowed X [] [] w sz 0 0 129 (some (.int ro), w, sz) := by
  unfold f_I_allowed_b129 at h
  refine xo_iconst d_I_allowed_129 xic_1 ?_
  refine xo_goto d_I_allowed_130 ?_
  exact xo_sub [] [] rfl (kb_I_allowed_134 X sz ro w _ h)
theorem kb_I_allowed_109 (X : xX) (sz : Nat) (ro : Int32) (w : xw) (l4 : Int32) (s0 : Int32) (h : f_I_allowed_b109 l4 s0 = some ro) : k_I_allowed X [(4, .int l4)] [.int s0] w sz 0 0 109 (some (.int ro), w, sz) := by
  unfold f_I_allowed_b109 at h
  refine xo_istore [(5, .int s0), (4, .int l4)] d_I_allowed_109 rfl rfl ?_
  refine xo_iload 0 d_I_allowed_111 rfl ?_
  refine xo_if_eq d_I_allowed_113 h (fun h => ?_) (fun h => ?_)
  · exact xo_sub [] [] rfl (kb_I_allowed_129 X sz ro w h)
  · refine xo_iload 1 d_I_allowed_116 rfl ?_
    refine xo_iconst d_I_allowed_118 xic_1 ?_
    refine xo_icmp_lt d_I_allowed_119 h (fun h => ?_) (fun h => ?_)
    · exact xo_sub [] [] rfl (kb_I_allowed_133 X sz ro w h)
    · refine xo_iload 1 d_I_allowed_122 rfl ?_
      refine xo_bipush d_I_allowed_124 xbp_23 ?_
      refine xo_icmp_gt d_I_allowed_126 h (fun h => ?_) (fun h => ?_)
      · exact xo_sub [] [] rfl (kb_I_allowed_133 X sz ro w h)
      · exact xo_sub [] [] rfl (kb_I_allowed_129 X sz ro w h)
theorem kb_I_allowed_108 (X : xX) (sz : Nat) (ro : Int32) (w : xw) (l4 : Int32) (h : f_I_allowed_b108 l4 = some ro) : k_I_allowed X [(4, .int l4)] [] w sz 0 0 108 (some (.int ro), w, sz) := by
  unfold f_I_allowed_b108 at h
  refine xo_iconst d_I_allowed_108 xic_0 ?_
  exact xo_sub [0] [(4, .int l4)] rfl (kb_I_allowed_109 X sz ro w _ _ h)
theorem kb_I_allowed_91 (X : xX) (sz : Nat) (ro : Int32) (w : xw) (s0 : Int32) (h : f_I_allowed_b91 s0 = some ro) : k_I_allowed X [] [.int s0] w sz 0 0 91 (some (.int ro), w, sz) := by
  unfold f_I_allowed_b91 at h
  exact xo_retZ0 d_I_allowed_91 rfl rfl rfl h
theorem kb_I_allowed_86 (X : xX) (sz : Nat) (ro : Int32) (w : xw) (h : f_I_allowed_b86 = some ro) : k_I_allowed X [] [] w sz 0 0 86 (some (.int ro), w, sz) := by
  unfold f_I_allowed_b86 at h
  refine xo_iconst d_I_allowed_86 xic_1 ?_
  refine xo_goto d_I_allowed_87 ?_
  exact xo_sub [] [] rfl (kb_I_allowed_91 X sz ro w _ h)
theorem kb_I_allowed_62 (X : xX) (sz : Nat) (ro : Int32) (w : xw) (l0 : Int32) (l4 : Int32) (h : f_I_allowed_b62 l0 l4 = some ro) : k_I_allowed X [(0, .int l0), (4, .int l4)] [] w sz 0 0 62 (some (.int ro), w, sz) := by
  unfold f_I_allowed_b62 at h
  refine xo_iload_n 0 d_I_allowed_62 rfl rfl ?_
  refine xo_bipush d_I_allowed_63 xbp_14 ?_
  refine xo_icmp_ne d_I_allowed_65 h (fun h => ?_) (fun h => ?_)
  · refine xo_iload_n 0 d_I_allowed_92 rfl rfl ?_
    refine xo_bipush d_I_allowed_93 xbp_15 ?_
    refine xo_icmp_lt d_I_allowed_95 h (fun h => ?_) (fun h => ?_)
    · exact xo_sub [1] [(4, .int l4)] rfl (kb_I_allowed_108 X sz ro w _ h)
    · refine xo_iload_n 0 d_I_allowed_98 rfl rfl ?_
      refine xo_bipush d_I_allowed_99 xbp_22 ?_
      refine xo_icmp_gt d_I_allowed_101 h (fun h => ?_) (fun h => ?_)
      · exact xo_sub [1] [(4, .int l4)] rfl (kb_I_allowed_108 X sz ro w _ h)
      · refine xo_iconst d_I_allowed_104 xic_1 ?_
        refine xo_goto d_I_allowed_105 ?_
        exact xo_sub [1] [(4, .int l4)] rfl (kb_I_allowed_109 X sz ro w _ _ h)
  · refine xo_iload 1 d_I_allowed_68 rfl ?_
    refine xo_iconst d_I_allowed_70 xic_1 ?_
    refine xo_icmp_eq d_I_allowed_71 h (fun h => ?_) (fun h => ?_)
    · exact xo_sub [] [] rfl (kb_I_allowed_86 X sz ro w h)
    · refine xo_iload 1 d_I_allowed_74 rfl ?_
      refine xo_iconst d_I_allowed_76 xic_2 ?_
      refine xo_icmp_eq d_I_allowed_77 h (fun h => ?_) (fun h => ?_)
      · exact xo_sub [] [] rfl (kb_I_allowed_86 X sz ro w h)
      · refine xo_iload 1 d_I_allowed_80 rfl ?_
        refine xo_iconst d_I_allowed_82 xic_4 ?_
        refine xo_icmp_ne d_I_allowed_83 h (fun h => ?_) (fun h => ?_)
        · refine xo_iconst d_I_allowed_90 xic_0 ?_
          exact xo_sub [] [] rfl (kb_I_allowed_91 X sz ro w _ h)
        · exact xo_sub [] [] rfl (kb_I_allowed_86 X sz ro w h)
theorem kb_I_allowed_60 (X : xX) (sz : Nat) (ro : Int32) (w : xw) (h : f_I_allowed_b60 = some ro) : k_I_allowed X [] [] w sz 0 0 60 (some (.int ro), w, sz) := by
  unfold f_I_allowed_b60 at h
  refine xo_iconst d_I_allowed_60 xic_0 ?_
  exact xo_retZ0 d_I_allowed_61 rfl rfl rfl h
theorem kb_I_allowed_45 (X : xX) (sz : Nat) (ro : Int32) (w : xw) (l0 : Int32) (l2 : Int32) (l3 : Int32) (l4 : Int32) (h : f_I_allowed_b45 l0 l2 l3 l4 = some ro) : k_I_allowed X [(0, .int l0), (2, .int l2), (3, .int l3), (4, .int l4)] [] w sz 0 0 45 (some (.int ro), w, sz) := by
  unfold f_I_allowed_b45 at h
  refine xo_iload_n 1 d_I_allowed_45 rfl rfl ?_
  refine xo_iconst d_I_allowed_46 xic_m1 ?_
  refine xo_icmp_eq d_I_allowed_47 h (fun h => ?_) (fun h => ?_)
  · exact xo_sub [] [] rfl (kb_I_allowed_60 X sz ro w h)
  · refine xo_iload_n 2 d_I_allowed_50 rfl rfl ?_
    refine xo_if_lt d_I_allowed_51 h (fun h => ?_) (fun h => ?_)
    · exact xo_sub [] [] rfl (kb_I_allowed_60 X sz ro w h)
    · refine xo_iload_n 2 d_I_allowed_54 rfl rfl ?_
      refine xo_bipush d_I_allowed_55 xbp_16 ?_
      refine xo_icmp_le d_I_allowed_57 h (fun h => ?_) (fun h => ?_)
      · exact xo_sub [0, 3] [(0, .int l0), (4, .int l4)] rfl (kb_I_allowed_62 X sz ro w _ _ h)
      · exact xo_sub [] [] rfl (kb_I_allowed_60 X sz ro w h)
theorem kb_I_allowed_31 (X : xX) (sz : Nat) (ro : Int32) (w : xw) (h : f_I_allowed_b31 = some ro) : k_I_allowed X [] [] w sz 0 0 31 (some (.int ro), w, sz) := by
  unfold f_I_allowed_b31 at h
  refine xo_iconst d_I_allowed_31 xic_0 ?_
  exact xo_retZ0 d_I_allowed_32 rfl rfl rfl h
theorem kb_I_allowed_0 (X : xX) (sz : Nat) (ro : Int32) (w : xw) (l0 : Int32) (l1 : Int32) (l2 : Int32) (l3 : Int32) (l4 : Int32) (h : f_I_allowed l0 l1 l2 l3 l4 = some ro) : k_I_allowed X [(0, .int l0), (1, .int l1), (2, .int l2), (3, .int l3), (4, .int l4)] [] w sz 0 0 0 (some (.int ro), w, sz) := by
  unfold f_I_allowed at h
  refine xo_iload_n 0 d_I_allowed_0 rfl rfl ?_
  refine xo_if_lt d_I_allowed_1 h (fun h => ?_) (fun h => ?_)
  · exact xo_sub [] [] rfl (kb_I_allowed_31 X sz ro w h)
  · refine xo_iload_n 0 d_I_allowed_4 rfl rfl ?_
    refine xo_bipush d_I_allowed_5 xbp_23 ?_
    refine xo_icmp_gt d_I_allowed_7 h (fun h => ?_) (fun h => ?_)
    · exact xo_sub [] [] rfl (kb_I_allowed_31 X sz ro w h)
    · refine xo_iload_n 1 d_I_allowed_10 rfl rfl ?_
      refine xo_if_lt d_I_allowed_11 h (fun h => ?_) (fun h => ?_)
      · exact xo_sub [] [] rfl (kb_I_allowed_31 X sz ro w h)
      · refine xo_iload_n 1 d_I_allowed_14 rfl rfl ?_
        refine xo_bipush d_I_allowed_15 xbp_6 ?_
        refine xo_icmp_ge d_I_allowed_17 h (fun h => ?_) (fun h => ?_)
        · exact xo_sub [] [] rfl (kb_I_allowed_31 X sz ro w h)
        · refine xo_iload_n 2 d_I_allowed_20 rfl rfl ?_
          refine xo_iconst d_I_allowed_21 xic_m1 ?_
          refine xo_icmp_lt d_I_allowed_22 h (fun h => ?_) (fun h => ?_)
          · exact xo_sub [] [] rfl (kb_I_allowed_31 X sz ro w h)
          · refine xo_iload_n 2 d_I_allowed_25 rfl rfl ?_
            refine xo_bipush d_I_allowed_26 xbp_6 ?_
            refine xo_icmp_lt d_I_allowed_28 h (fun h => ?_) (fun h => ?_)
            · refine xo_iload_n 0 d_I_allowed_33 rfl rfl ?_
              refine xo_bipush d_I_allowed_34 xbp_14 ?_
              refine xo_icmp_eq d_I_allowed_36 h (fun h => ?_) (fun h => ?_)
              · exact xo_sub [0, 2, 3, 4] [(0, .int l0), (2, .int l2), (3, .int l3), (4, .int l4)] rfl (kb_I_allowed_45 X sz ro w _ _ _ _ h)
              · refine xo_iload_n 0 d_I_allowed_39 rfl rfl ?_
                refine xo_bipush d_I_allowed_40 xbp_15 ?_
                refine xo_icmp_ne d_I_allowed_42 h (fun h => ?_) (fun h => ?_)
                · exact xo_sub [0, 4] [(0, .int l0), (4, .int l4)] rfl (kb_I_allowed_62 X sz ro w _ _ h)
                · exact xo_sub [0, 2, 3, 4] [(0, .int l0), (2, .int l2), (3, .int l3), (4, .int l4)] rfl (kb_I_allowed_45 X sz ro w _ _ _ _ h)
            · exact xo_sub [] [] rfl (kb_I_allowed_31 X sz ro w h)
theorem c_I_allowed (l : Launch) (D : va_G) (cT : Nat → ClassId) (sz : Nat) (w : xw) (l0 : Int32) (l1 : Int32) (l2 : Int32) (l3 : Int32) (l4 : Int32) (ro : Int32) (h : f_I_allowed l0 l1 l2 l3 l4 = some ro) : xM l y_I_allowed b_I_allowed 6 t_I_allowed R_I_allowed D cT [.int l0, .int l1, .int l2, .int l3, .int l4] w sz (some (.int ro), w, sz) :=
  xm_of bl_I_allowed rfl rfl (kb_I_allowed_0 (l, D, cT, [.int l0, .int l1, .int l2, .int l3, .int l4], w, sz) sz ro w l0 l1 l2 l3 l4 h)
theorem kb_I_become_0 (X : xX) (sz : Nat) (ro : Unit × xw) (w : xw) (l0 : Nat) (l1 : Int32) (l2 : Int32) (l3 : Int32) (l4 : Int32) (l5 : Int32) (h : f_I_become w l0 l1 l2 l3 l4 l5 = some ro) : k_I_become X [(0, .ref l0), (1, .int l1), (2, .int l2), (3, .int l3), (4, .int l4), (5, .int l5)] [] w sz 0 0 0 (none, ro.2, sz) := by
  unfold f_I_become at h
  refine xo_aload_n 0 d_I_become_0 rfl rfl ?_
  refine xo_iload_n 1 d_I_become_1 rfl rfl ?_
  refine xo_putI 0 d_I_become_2 xc_1 rfl tw_42 rfl rfl rfl rfl h (fun w1 h => ?_)
  refine xo_aload_n 0 d_I_become_5 rfl rfl ?_
  refine xo_iload_n 2 d_I_become_6 rfl rfl ?_
  refine xo_putI 1 d_I_become_7 xc_1 rfl tw_44 rfl rfl rfl rfl h (fun w2 h => ?_)
  refine xo_aload_n 0 d_I_become_10 rfl rfl ?_
  refine xo_iload_n 3 d_I_become_11 rfl rfl ?_
  refine xo_putI 2 d_I_become_12 xc_1 rfl tw_47 rfl rfl rfl rfl h (fun w3 h => ?_)
  refine xo_aload_n 0 d_I_become_15 rfl rfl ?_
  refine xo_iload 4 d_I_become_16 rfl ?_
  refine xo_putI 3 d_I_become_18 xc_1 rfl tw_50 rfl rfl rfl rfl h (fun w4 h => ?_)
  refine xo_aload_n 0 d_I_become_21 rfl rfl ?_
  refine xo_iload 5 d_I_become_22 rfl ?_
  refine xo_putI 4 d_I_become_24 xc_1 rfl tw_54 rfl rfl rfl rfl h (fun w5 h => ?_)
  exact xo_retVH d_I_become_27 rfl rfl rfl h
theorem c_I_become (l : Launch) (D : va_G) (cT : Nat → ClassId) (sz : Nat) (w : xw) (l0 : Nat) (l1 : Int32) (l2 : Int32) (l3 : Int32) (l4 : Int32) (l5 : Int32) (ro : Unit × xw) (h : f_I_become w l0 l1 l2 l3 l4 l5 = some ro) : xM l y_I_become b_I_become 6 t_I_become R_I_become D cT [.ref l0, .int l1, .int l2, .int l3, .int l4, .int l5] w sz (none, ro.2, sz) :=
  xm_of bl_I_become rfl rfl (kb_I_become_0 (l, D, cT, [.ref l0, .int l1, .int l2, .int l3, .int l4, .int l5], w, sz) sz ro w l0 l1 l2 l3 l4 l5 h)
theorem kb_G_add_25 (X : xX) (sz : Nat) (ro : Int32 × xw) (w : xw) (h : f_G_add_b25 w = some ro) : k_G_add X [] [] w sz 0 0 25 (some (.int ro.1), ro.2, sz) := by
  unfold f_G_add_b25 at h
  refine xo_iconst d_G_add_25 xic_m1 ?_
  exact xo_retIH d_G_add_26 rfl rfl rfl h
theorem kb_G_add_0 (X : xX) (sz : Nat) (ro : Int32 × xw) (w : xw) (l0 : Nat) (l1 : Int32) (l2 : Int32) (l3 : Int32) (l4 : Int32) (l5 : Int32) (h : f_G_add w l0 l1 l2 l3 l4 l5 = some ro) : k_G_add X [(0, .ref l0), (1, .int l1), (2, .int l2), (3, .int l3), (4, .int l4), (5, .int l5)] [] w sz 0 0 0 (some (.int ro.1), ro.2, sz) := by
  unfold f_G_add at h
  refine xo_aload_n 0 d_G_add_0 rfl rfl ?_
  refine xo_getR 0 d_G_add_1 xc_0 rfl tw_224 rfl h (fun a1 h => ?_)
  refine xo_getI 1 d_G_add_4 xc_5 rfl tw_71 rfl h (fun x2 h => ?_)
  refine xo_bipush d_G_add_7 xbp_24 ?_
  refine xo_icmp_ge d_G_add_9 h (fun h => ?_) (fun h => ?_)
  · exact xo_sub [] [] rfl (kb_G_add_25 X sz ro _ h)
  · refine xo_iload_n 1 d_G_add_12 rfl rfl ?_
    refine xo_iload_n 2 d_G_add_13 rfl rfl ?_
    refine xo_iload_n 3 d_G_add_14 rfl rfl ?_
    refine xo_iload 4 d_G_add_15 rfl ?_
    refine xo_iload 5 d_G_add_17 rfl ?_
    refine xo_S_I0 (rest := []) [.int l1, .int l2, .int l3, .int l4, .int l5] d_G_add_19 tw_241 yw_I_allowed h (fun z e => c_I_allowed _ _ _ _ _ _ _ _ _ _ z e) rfl ⟨rfl, rfl⟩ rfl rfl rfl (fun q3 h => ?_)
    refine xo_if_ne d_G_add_22 h (fun h => ?_) (fun h => ?_)
    · refine xo_aload_n 0 d_G_add_27 rfl rfl ?_
      refine xo_getR 0 d_G_add_28 xc_0 rfl tw_224 rfl h (fun a4 h => ?_)
      refine xo_getR 0 d_G_add_31 xc_5 rfl tw_69 rfl h (fun a5 h => ?_)
      refine xo_aload_n 0 d_G_add_34 rfl rfl ?_
      refine xo_getR 0 d_G_add_35 xc_0 rfl tw_224 rfl h (fun a6 h => ?_)
      refine xo_getI 1 d_G_add_38 xc_5 rfl tw_71 rfl h (fun x7 h => ?_)
      refine xo_aldR d_G_add_41 h (fun a8 h => ?_)
      refine xo_iload_n 1 d_G_add_42 rfl rfl ?_
      refine xo_iload_n 2 d_G_add_43 rfl rfl ?_
      refine xo_iload_n 3 d_G_add_44 rfl rfl ?_
      refine xo_iload 4 d_G_add_45 rfl ?_
      refine xo_iload 5 d_G_add_47 rfl ?_
      refine xo_V_VH (rest := []) [.int l1, .int l2, .int l3, .int l4, .int l5] d_G_add_49 tw_244 yw_I_become h xc_1 (fun z e => c_I_become _ _ _ _ _ _ _ _ _ _ _ z e) rfl ⟨rfl, rfl⟩ rfl rfl rfl (fun q9 h => ?_)
      refine xo_aload_n 0 d_G_add_52 rfl rfl ?_
      refine xo_getR 0 d_G_add_53 xc_0 rfl tw_224 rfl h (fun a10 h => ?_)
      refine xo_dup d_G_add_56 rfl ?_
      refine xo_getI 1 d_G_add_57 xc_5 rfl tw_71 rfl h (fun x11 h => ?_)
      refine xo_iconst d_G_add_60 xic_1 ?_
      refine xo_iadd d_G_add_61 ?_
      refine xo_putI 1 d_G_add_62 xc_5 rfl tw_71 rfl rfl rfl rfl h (fun w12 h => ?_)
      refine xo_aload_n 0 d_G_add_65 rfl rfl ?_
      refine xo_getR 0 d_G_add_66 xc_0 rfl tw_224 rfl h (fun a13 h => ?_)
      refine xo_getI 1 d_G_add_69 xc_5 rfl tw_71 rfl h (fun x14 h => ?_)
      exact xo_retIH d_G_add_72 rfl rfl rfl h
    · exact xo_sub [] [] rfl (kb_G_add_25 X sz ro _ h)
theorem c_G_add (l : Launch) (D : va_G) (cT : Nat → ClassId) (sz : Nat) (w : xw) (l0 : Nat) (l1 : Int32) (l2 : Int32) (l3 : Int32) (l4 : Int32) (l5 : Int32) (ro : Int32 × xw) (h : f_G_add w l0 l1 l2 l3 l4 l5 = some ro) : xM l y_G_add b_G_add 6 t_G_add R_G_add D cT [.ref l0, .int l1, .int l2, .int l3, .int l4, .int l5] w sz (some (.int ro.1), ro.2, sz) :=
  xm_of bl_G_add rfl rfl (kb_G_add_0 (l, D, cT, [.ref l0, .int l1, .int l2, .int l3, .int l4, .int l5], w, sz) sz ro w l0 l1 l2 l3 l4 l5 h)
theorem kb_G_clear_0 (X : xX) (sz : Nat) (ro : Int32 × xw) (w : xw) (l0 : Nat) (h : f_G_clear w l0 = some ro) : k_G_clear X [(0, .ref l0)] [] w sz 0 0 0 (some (.int ro.1), ro.2, sz) := by
  unfold f_G_clear at h
  refine xo_aload_n 0 d_G_clear_0 rfl rfl ?_
  refine xo_getR 0 d_G_clear_1 xc_0 rfl tw_224 rfl h (fun a1 h => ?_)
  refine xo_getI 1 d_G_clear_4 xc_5 rfl tw_71 rfl h (fun x2 h => ?_)
  refine xo_istore_n [(1, .int x2), (0, .ref l0)] d_G_clear_7 rfl rfl rfl ?_
  refine xo_aload_n 1 d_G_clear_8 rfl rfl ?_
  refine xo_getR 0 d_G_clear_9 xc_0 rfl tw_224 rfl h (fun a3 h => ?_)
  refine xo_iconst d_G_clear_12 xic_0 ?_
  refine xo_putI 1 d_G_clear_13 xc_5 rfl tw_71 rfl rfl rfl rfl h (fun w4 h => ?_)
  refine xo_iload_n 0 d_G_clear_16 rfl rfl ?_
  exact xo_retIH d_G_clear_17 rfl rfl rfl h
theorem c_G_clear (l : Launch) (D : va_G) (cT : Nat → ClassId) (sz : Nat) (w : xw) (l0 : Nat) (ro : Int32 × xw) (h : f_G_clear w l0 = some ro) : xM l y_G_clear b_G_clear 2 t_G_clear R_G_clear D cT [.ref l0] w sz (some (.int ro.1), ro.2, sz) :=
  xm_of bl_G_clear rfl rfl (kb_G_clear_0 (l, D, cT, [.ref l0], w, sz) sz ro w l0 h)
theorem kb_G_size_0 (X : xX) (sz : Nat) (ro : Int32 × xw) (w : xw) (l0 : Nat) (h : f_G_size w l0 = some ro) : k_G_size X [(0, .ref l0)] [] w sz 0 0 0 (some (.int ro.1), ro.2, sz) := by
  unfold f_G_size at h
  refine xo_aload_n 0 d_G_size_0 rfl rfl ?_
  refine xo_getR 0 d_G_size_1 xc_0 rfl tw_224 rfl h (fun a1 h => ?_)
  refine xo_getI 1 d_G_size_4 xc_5 rfl tw_71 rfl h (fun x2 h => ?_)
  exact xo_retIH d_G_size_7 rfl rfl rfl h
theorem c_G_size (l : Launch) (D : va_G) (cT : Nat → ClassId) (sz : Nat) (w : xw) (l0 : Nat) (ro : Int32 × xw) (h : f_G_size w l0 = some ro) : xM l y_G_size b_G_size 1 t_G_size R_G_size D cT [.ref l0] w sz (some (.int ro.1), ro.2, sz) :=
  xm_of bl_G_size rfl rfl (kb_G_size_0 (l, D, cT, [.ref l0], w, sz) sz ro w l0 h)
theorem kb_P_become_28 (X : xX) (sz : Nat) (ro : Unit × xw) (r9 : xw → Nat → Int64 → Int64 → Int32 → Int32 → Option (Unit × xw)) (R9 : ∀ (w : xw) (l0 : Nat) (l1 : Int64) (l3 : Int64) (l5 : Int32) (l6 : Int32), r9 w l0 l1 l3 l5 l6 = some ro → k_P_become X [(0, .ref l0), (1, .long l1), (3, .long l3), (5, .int l5), (6, .int l6)] [] w sz 0 0 9 (none, ro.2, sz)) (w : xw) (l0 : Nat) (l1 : Int64) (l3 : Int64) (l5 : Int32) (l6 : Int32) (s0 : Int64) (h : f_P_become_b28 r9 w l0 l1 l3 l5 l6 s0 = some ro) : k_P_become X [(0, .ref l0), (1, .long l1), (3, .long l3), (5, .int l5), (6, .int l6)] [.long s0] w sz 0 0 28 (none, ro.2, sz) := by
  unfold f_P_become_b28 at h
  refine xo_lstore [(7, .long s0), (0, .ref l0), (1, .long l1), (3, .long l3), (5, .int l5), (6, .int l6)] d_P_become_28 rfl rfl ?_
  refine xo_aload_n 1 d_P_become_30 rfl rfl ?_
  refine xo_getR 0 d_P_become_31 xc_4 rfl tw_85 rfl h (fun a1 h => ?_)
  refine xo_iload 5 d_P_become_34 rfl ?_
  refine xo_lload 0 d_P_become_36 rfl ?_
  refine xo_bipush d_P_become_38 xbp_8 ?_
  refine xo_iload 5 d_P_become_40 rfl ?_
  refine xo_bipush d_P_become_42 xbp_8 ?_
  refine xo_irem d_P_become_44 h (fun h => ?_)
  refine xo_imul d_P_become_45 ?_
  refine xo_lushr d_P_become_46 ?_
  refine xo_l2i d_P_become_47 ?_
  refine xo_sipush d_P_become_48 xsp_255 ?_
  refine xo_iand d_P_become_51 ?_
  refine xo_astI d_P_become_52 h (fun w2 h => ?_)
  refine xo_iinc 5 (fun x3 => [(6, .int x3), (7, .long s0), (0, .ref l0), (1, .long l1), (3, .long l3), (5, .int l5)]) d_P_become_53 rfl rfl xic_1 (fun _ => rfl) h (fun x3 h => ?_)
  refine xo_goto d_P_become_56 ?_
  exact xo_sub [2, 3, 4, 5, 0] [(0, .ref l0), (1, .long l1), (3, .long l3), (5, .int l5), (6, .int x3)] rfl (R9 _ _ _ _ _ _ h)
theorem ks_P_become_9 (X : xX) (sz : Nat) (ro : Unit × xw) (r9 : xw → Nat → Int64 → Int64 → Int32 → Int32 → Option (Unit × xw)) (R9 : ∀ (w : xw) (l0 : Nat) (l1 : Int64) (l3 : Int64) (l5 : Int32) (l6 : Int32), r9 w l0 l1 l3 l5 l6 = some ro → k_P_become X [(0, .ref l0), (1, .long l1), (3, .long l3), (5, .int l5), (6, .int l6)] [] w sz 0 0 9 (none, ro.2, sz)) (w : xw) (l0 : Nat) (l1 : Int64) (l3 : Int64) (l5 : Int32) (l6 : Int32) (h : f_P_become_s9 r9 w l0 l1 l3 l5 l6 = some ro) : k_P_become X [(0, .ref l0), (1, .long l1), (3, .long l3), (5, .int l5), (6, .int l6)] [] w sz 0 0 9 (none, ro.2, sz) := by
  unfold f_P_become_s9 at h
  refine xo_iload 4 d_P_become_9 rfl ?_
  refine xo_iload 3 d_P_become_11 rfl ?_
  refine xo_icmp_ge d_P_become_13 h (fun h => ?_) (fun h => ?_)
  · exact xo_retVH d_P_become_59 rfl rfl rfl h
  · refine xo_iload 4 d_P_become_16 rfl ?_
    refine xo_bipush d_P_become_18 xbp_8 ?_
    refine xo_icmp_ge d_P_become_20 h (fun h => ?_) (fun h => ?_)
    · refine xo_lload_n 2 d_P_become_27 rfl rfl ?_
      exact xo_sub [0, 1, 2, 3, 4] [(0, .ref l0), (1, .long l1), (3, .long l3), (5, .int l5), (6, .int l6)] rfl (kb_P_become_28 X sz ro _ R9 _ _ _ _ _ _ _ h)
    · refine xo_lload_n 1 d_P_become_23 rfl rfl ?_
      refine xo_goto d_P_become_24 ?_
      exact xo_sub [0, 1, 2, 3, 4] [(0, .ref l0), (1, .long l1), (3, .long l3), (5, .int l5), (6, .int l6)] rfl (kb_P_become_28 X sz ro _ R9 _ _ _ _ _ _ _ h)
theorem kb_P_become_9 (X : xX) (sz : Nat) (ro : Unit × xw) (n : Nat) : ∀ (w : xw) (l0 : Nat) (l1 : Int64) (l3 : Int64) (l5 : Int32) (l6 : Int32), f_P_become_b9 n w l0 l1 l3 l5 l6 = some ro → k_P_become X [(0, .ref l0), (1, .long l1), (3, .long l3), (5, .int l5), (6, .int l6)] [] w sz 0 0 9 (none, ro.2, sz) := by
  unfold f_P_become_b9
  refine xfix_ind (P := fun (r9 : xw → Nat → Int64 → Int64 → Int32 → Int32 → Option (Unit × xw)) => ∀ (w : xw) (l0 : Nat) (l1 : Int64) (l3 : Int64) (l5 : Int32) (l6 : Int32), r9 w l0 l1 l3 l5 l6 = some ro → k_P_become X [(0, .ref l0), (1, .long l1), (3, .long l3), (5, .int l5), (6, .int l6)] [] w sz 0 0 9 (none, ro.2, sz)) ?_ ?_ n
  · intro _ _ _ _ _ _ h
    cases h
  · intro r R w l0 l1 l3 l5 l6 h
    exact ks_P_become_9 X sz ro r R _ _ _ _ _ _ h
theorem kb_P_become_0 (X : xX) (sz : Nat) (ro : Unit × xw) (w : xw) (l0 : Nat) (l1 : Int64) (l3 : Int64) (l5 : Int32) (h : f_P_become w l0 l1 l3 l5 = some ro) : k_P_become X [(0, .ref l0), (1, .long l1), (3, .long l3), (5, .int l5)] [] w sz 0 0 0 (none, ro.2, sz) := by
  unfold f_P_become at h
  refine xo_aload_n 0 d_P_become_0 rfl rfl ?_
  refine xo_iload 3 d_P_become_1 rfl ?_
  refine xo_putI 1 d_P_become_3 xc_4 rfl tw_87 rfl rfl rfl rfl h (fun w1 h => ?_)
  refine xo_iconst d_P_become_6 xic_0 ?_
  refine xo_nmI h (fun x2 h => ?_)
  refine xo_istore [(6, .int x2), (0, .ref l0), (1, .long l1), (3, .long l3), (5, .int l5)] d_P_become_7 rfl rfl ?_
  exact xo_sub [1, 2, 3, 4, 0] [(0, .ref l0), (1, .long l1), (3, .long l3), (5, .int l5), (6, .int x2)] rfl (kb_P_become_9 X sz ro _ _ _ _ _ _ _ h)
theorem c_P_become (l : Launch) (D : va_G) (cT : Nat → ClassId) (sz : Nat) (w : xw) (l0 : Nat) (l1 : Int64) (l3 : Int64) (l5 : Int32) (ro : Unit × xw) (h : f_P_become w l0 l1 l3 l5 = some ro) : xM l y_P_become b_P_become 9 t_P_become R_P_become D cT [.ref l0, .long l1, .long l3, .int l5] w sz (none, ro.2, sz) :=
  xm_of bl_P_become rfl rfl (kb_P_become_0 (l, D, cT, [.ref l0, .long l1, .long l3, .int l5], w, sz) sz ro w l0 l1 l3 l5 h)
theorem kb_G_packet_12 (X : xX) (sz : Nat) (ro : Int32 × xw) (w : xw) (h : f_G_packet_b12 w = some ro) : k_G_packet X [] [] w sz 0 0 12 (some (.int ro.1), ro.2, sz) := by
  unfold f_G_packet_b12 at h
  refine xo_iconst d_G_packet_12 xic_0 ?_
  exact xo_retZH d_G_packet_13 rfl rfl rfl h
theorem kb_G_packet_0 (X : xX) (sz : Nat) (ro : Int32 × xw) (w : xw) (l0 : Nat) (l1 : Int64) (l3 : Int64) (l5 : Int32) (h : f_G_packet w l0 l1 l3 l5 = some ro) : k_G_packet X [(0, .ref l0), (1, .long l1), (3, .long l3), (5, .int l5)] [] w sz 0 0 0 (some (.int ro.1), ro.2, sz) := by
  unfold f_G_packet at h
  refine xo_iload 3 d_G_packet_0 rfl ?_
  refine xo_if_lt d_G_packet_2 h (fun h => ?_) (fun h => ?_)
  · exact xo_sub [] [] rfl (kb_G_packet_12 X sz ro _ h)
  · refine xo_iload 3 d_G_packet_5 rfl ?_
    refine xo_bipush d_G_packet_7 xbp_16 ?_
    refine xo_icmp_le d_G_packet_9 h (fun h => ?_) (fun h => ?_)
    · refine xo_aload_n 0 d_G_packet_14 rfl rfl ?_
      refine xo_getR 1 d_G_packet_15 xc_0 rfl tw_225 rfl h (fun a1 h => ?_)
      refine xo_lload_n 1 d_G_packet_18 rfl rfl ?_
      refine xo_lload_n 2 d_G_packet_19 rfl rfl ?_
      refine xo_iload 3 d_G_packet_20 rfl ?_
      refine xo_V_VH (rest := []) [.long l1, .long l3, .int l5] d_G_packet_22 tw_260 yw_P_become h xc_4 (fun z e => c_P_become _ _ _ _ _ _ _ _ _ z e) rfl ⟨rfl, rfl⟩ rfl rfl rfl (fun q2 h => ?_)
      refine xo_iconst d_G_packet_25 xic_1 ?_
      exact xo_retZH d_G_packet_26 rfl rfl rfl h
    · exact xo_sub [] [] rfl (kb_G_packet_12 X sz ro _ h)
theorem c_G_packet (l : Launch) (D : va_G) (cT : Nat → ClassId) (sz : Nat) (w : xw) (l0 : Nat) (l1 : Int64) (l3 : Int64) (l5 : Int32) (ro : Int32 × xw) (h : f_G_packet w l0 l1 l3 l5 = some ro) : xM l y_G_packet b_G_packet 6 t_G_packet R_G_packet D cT [.ref l0, .long l1, .long l3, .int l5] w sz (some (.int ro.1), ro.2, sz) :=
  xm_of bl_G_packet rfl rfl (kb_G_packet_0 (l, D, cT, [.ref l0, .long l1, .long l3, .int l5], w, sz) sz ro w l0 l1 l3 l5 h)
theorem kb_K_becomeNothing_0 (X : xX) (sz : Nat) (ro : Unit × xw) (w : xw) (l0 : Nat) (h : f_K_becomeNothing w l0 = some ro) : k_K_becomeNothing X [(0, .ref l0)] [] w sz 0 0 0 (none, ro.2, sz) := by
  unfold f_K_becomeNothing at h
  refine xo_aload_n 0 d_K_becomeNothing_0 rfl rfl ?_
  refine xo_iconst d_K_becomeNothing_1 xic_1 ?_
  refine xo_putZ 0 d_K_becomeNothing_2 xc_2 rfl tw_114 rfl rfl rfl h (fun w1 h => ?_)
  refine xo_aload_n 0 d_K_becomeNothing_5 rfl rfl ?_
  refine xo_iconst d_K_becomeNothing_6 xic_0 ?_
  refine xo_putI 1 d_K_becomeNothing_7 xc_2 rfl tw_117 rfl rfl rfl rfl h (fun w2 h => ?_)
  refine xo_aload_n 0 d_K_becomeNothing_10 rfl rfl ?_
  refine xo_iconst d_K_becomeNothing_11 xic_0 ?_
  refine xo_putI 2 d_K_becomeNothing_12 xc_2 rfl tw_119 rfl rfl rfl rfl h (fun w3 h => ?_)
  refine xo_aload_n 0 d_K_becomeNothing_15 rfl rfl ?_
  refine xo_lconst d_K_becomeNothing_16 xlc_0 ?_
  refine xo_putL 3 d_K_becomeNothing_17 xc_2 rfl tw_121 rfl rfl rfl rfl h (fun w4 h => ?_)
  refine xo_aload_n 0 d_K_becomeNothing_20 rfl rfl ?_
  refine xo_ldc2 d_K_becomeNothing_21 tw_288 ?_
  refine xo_putL 4 d_K_becomeNothing_24 xc_2 rfl tw_124 rfl rfl rfl rfl h (fun w5 h => ?_)
  refine xo_aload_n 0 d_K_becomeNothing_27 rfl rfl ?_
  refine xo_ldc2 d_K_becomeNothing_28 tw_289 ?_
  refine xo_putL 5 d_K_becomeNothing_31 xc_2 rfl tw_127 rfl rfl rfl rfl h (fun w6 h => ?_)
  refine xo_aload_n 0 d_K_becomeNothing_34 rfl rfl ?_
  refine xo_ldc2 d_K_becomeNothing_35 tw_290 ?_
  refine xo_putL 6 d_K_becomeNothing_38 xc_2 rfl tw_130 rfl rfl rfl rfl h (fun w7 h => ?_)
  refine xo_aload_n 0 d_K_becomeNothing_41 rfl rfl ?_
  refine xo_iconst d_K_becomeNothing_42 xic_0 ?_
  refine xo_putI 7 d_K_becomeNothing_43 xc_2 rfl tw_133 rfl rfl rfl rfl h (fun w8 h => ?_)
  exact xo_retVH d_K_becomeNothing_46 rfl rfl rfl h
theorem c_K_becomeNothing (l : Launch) (D : va_G) (cT : Nat → ClassId) (sz : Nat) (w : xw) (l0 : Nat) (ro : Unit × xw) (h : f_K_becomeNothing w l0 = some ro) : xM l y_K_becomeNothing b_K_becomeNothing 1 t_K_becomeNothing R_K_becomeNothing D cT [.ref l0] w sz (none, ro.2, sz) :=
  xm_of bl_K_becomeNothing rfl rfl (kb_K_becomeNothing_0 (l, D, cT, [.ref l0], w, sz) sz ro w l0 h)
theorem kb_K_boundUnsigned_0 (X : xX) (sz : Nat) (ro : Unit × xw) (w : xw) (l0 : Nat) (l1 : Int64) (l3 : Int64) (h : f_K_boundUnsigned w l0 l1 l3 = some ro) : k_K_boundUnsigned X [(0, .ref l0), (1, .long l1), (3, .long l3)] [] w sz 0 0 0 (none, ro.2, sz) := by
  unfold f_K_boundUnsigned at h
  refine xo_aload_n 0 d_K_boundUnsigned_0 rfl rfl ?_
  refine xo_lload_n 1 d_K_boundUnsigned_1 rfl rfl ?_
  refine xo_putL 3 d_K_boundUnsigned_2 xc_2 rfl tw_121 rfl rfl rfl rfl h (fun w1 h => ?_)
  refine xo_aload_n 0 d_K_boundUnsigned_5 rfl rfl ?_
  refine xo_lload_n 2 d_K_boundUnsigned_6 rfl rfl ?_
  refine xo_putL 4 d_K_boundUnsigned_7 xc_2 rfl tw_124 rfl rfl rfl rfl h (fun w2 h => ?_)
  exact xo_retVH d_K_boundUnsigned_10 rfl rfl rfl h
theorem c_K_boundUnsigned (l : Launch) (D : va_G) (cT : Nat → ClassId) (sz : Nat) (w : xw) (l0 : Nat) (l1 : Int64) (l3 : Int64) (ro : Unit × xw) (h : f_K_boundUnsigned w l0 l1 l3 = some ro) : xM l y_K_boundUnsigned b_K_boundUnsigned 5 t_K_boundUnsigned R_K_boundUnsigned D cT [.ref l0, .long l1, .long l3] w sz (none, ro.2, sz) :=
  xm_of bl_K_boundUnsigned rfl rfl (kb_K_boundUnsigned_0 (l, D, cT, [.ref l0, .long l1, .long l3], w, sz) sz ro w l0 l1 l3 h)
theorem kb_K_boundSigned_0 (X : xX) (sz : Nat) (ro : Unit × xw) (w : xw) (l0 : Nat) (l1 : Int64) (l3 : Int64) (h : f_K_boundSigned w l0 l1 l3 = some ro) : k_K_boundSigned X [(0, .ref l0), (1, .long l1), (3, .long l3)] [] w sz 0 0 0 (none, ro.2, sz) := by
  unfold f_K_boundSigned at h
  refine xo_aload_n 0 d_K_boundSigned_0 rfl rfl ?_
  refine xo_lload_n 1 d_K_boundSigned_1 rfl rfl ?_
  refine xo_putL 5 d_K_boundSigned_2 xc_2 rfl tw_127 rfl rfl rfl rfl h (fun w1 h => ?_)
  refine xo_aload_n 0 d_K_boundSigned_5 rfl rfl ?_
  refine xo_lload_n 2 d_K_boundSigned_6 rfl rfl ?_
  refine xo_putL 6 d_K_boundSigned_7 xc_2 rfl tw_130 rfl rfl rfl rfl h (fun w2 h => ?_)
  exact xo_retVH d_K_boundSigned_10 rfl rfl rfl h
theorem c_K_boundSigned (l : Launch) (D : va_G) (cT : Nat → ClassId) (sz : Nat) (w : xw) (l0 : Nat) (l1 : Int64) (l3 : Int64) (ro : Unit × xw) (h : f_K_boundSigned w l0 l1 l3 = some ro) : xM l y_K_boundSigned b_K_boundSigned 5 t_K_boundSigned R_K_boundSigned D cT [.ref l0, .long l1, .long l3] w sz (none, ro.2, sz) :=
  xm_of bl_K_boundSigned rfl rfl (kb_K_boundSigned_0 (l, D, cT, [.ref l0, .long l1, .long l3], w, sz) sz ro w l0 l1 l3 h)
theorem kb_G_unsigned_0 (X : xX) (sz : Nat) (ro : Int64) (w : xw) (l0 : Int32) (h : f_G_unsigned l0 = some ro) : k_G_unsigned X [(0, .int l0)] [] w sz 0 0 0 (some (.long ro), w, sz) := by
  unfold f_G_unsigned at h
  refine xo_iload_n 0 d_G_unsigned_0 rfl rfl ?_
  refine xo_i2l d_G_unsigned_1 ?_
  refine xo_ldc2 d_G_unsigned_2 tw_306 ?_
  refine xo_land d_G_unsigned_5 ?_
  exact xo_retL0 d_G_unsigned_6 rfl rfl rfl h
theorem c_G_unsigned (l : Launch) (D : va_G) (cT : Nat → ClassId) (sz : Nat) (w : xw) (l0 : Int32) (ro : Int64) (h : f_G_unsigned l0 = some ro) : xM l y_G_unsigned b_G_unsigned 1 t_G_unsigned R_G_unsigned D cT [.int l0] w sz (some (.long ro), w, sz) :=
  xm_of bl_G_unsigned rfl rfl (kb_G_unsigned_0 (l, D, cT, [.int l0], w, sz) sz ro w l0 h)
theorem kb_jI_numberOfLeadingZeros_73 (X : xX) (sz : Nat) (ro : Int32) (w : xw) (l0 : Int32) (l1 : Int32) (h : f_jI_numberOfLeadingZeros_b73 l0 l1 = some ro) : k_jI_numberOfLeadingZeros X [(0, .int l0), (1, .int l1)] [] w sz 0 0 73 (some (.int ro), w, sz) := by
  unfold f_jI_numberOfLeadingZeros_b73 at h
  refine xo_iload_n 1 d_jI_numberOfLeadingZeros_73 rfl rfl ?_
  refine xo_iload_n 0 d_jI_numberOfLeadingZeros_74 rfl rfl ?_
  refine xo_iconst d_jI_numberOfLeadingZeros_75 xic_1 ?_
  refine xo_iushr d_jI_numberOfLeadingZeros_76 ?_
  refine xo_isub d_jI_numberOfLeadingZeros_77 ?_
  exact xo_retI0 d_jI_numberOfLeadingZeros_78 rfl rfl rfl h
theorem kb_jI_numberOfLeadingZeros_61 (X : xX) (sz : Nat) (ro : Int32) (w : xw) (l0 : Int32) (l1 : Int32) (h : f_jI_numberOfLeadingZeros_b61 l0 l1 = some ro) : k_jI_numberOfLeadingZeros X [(0, .int l0), (1, .int l1)] [] w sz 0 0 61 (some (.int ro), w, sz) := by
  unfold f_jI_numberOfLeadingZeros_b61 at h
  refine xo_iload_n 0 d_jI_numberOfLeadingZeros_61 rfl rfl ?_
  refine xo_iconst d_jI_numberOfLeadingZeros_62 xic_4 ?_
  refine xo_icmp_lt d_jI_numberOfLeadingZeros_63 h (fun h => ?_) (fun h => ?_)
  · exact xo_sub [0, 1] [(0, .int l0), (1, .int l1)] rfl (kb_jI_numberOfLeadingZeros_73 X sz ro w _ _ h)
  · refine xo_iinc 1 (fun x1 => [(1, .int x1), (0, .int l0)]) d_jI_numberOfLeadingZeros_66 rfl rfl xic_m2 (fun _ => rfl) h (fun x1 h => ?_)
    refine xo_iload_n 1 d_jI_numberOfLeadingZeros_69 rfl rfl ?_
    refine xo_iconst d_jI_numberOfLeadingZeros_70 xic_2 ?_
    refine xo_iushr d_jI_numberOfLeadingZeros_71 ?_
    refine xo_nmI h (fun x2 h => ?_)
    refine xo_istore_n [(0, .int x2), (1, .int x1)] d_jI_numberOfLeadingZeros_72 rfl rfl rfl ?_
    exact xo_sub [0, 1] [(0, .int x2), (1, .int x1)] rfl (kb_jI_numberOfLeadingZeros_73 X sz ro w _ _ h)
theorem kb_jI_numberOfLeadingZeros_48 (X : xX) (sz : Nat) (ro : Int32) (w : xw) (l0 : Int32) (l1 : Int32) (h : f_jI_numberOfLeadingZeros_b48 l0 l1 = some ro) : k_jI_numberOfLeadingZeros X [(0, .int l0), (1, .int l1)] [] w sz 0 0 48 (some (.int ro), w, sz) := by
  unfold f_jI_numberOfLeadingZeros_b48 at h
  refine xo_iload_n 0 d_jI_numberOfLeadingZeros_48 rfl rfl ?_
  refine xo_bipush d_jI_numberOfLeadingZeros_49 xbp_16 ?_
  refine xo_icmp_lt d_jI_numberOfLeadingZeros_51 h (fun h => ?_) (fun h => ?_)
  · exact xo_sub [0, 1] [(0, .int l0), (1, .int l1)] rfl (kb_jI_numberOfLeadingZeros_61 X sz ro w _ _ h)
  · refine xo_iinc 1 (fun x1 => [(1, .int x1), (0, .int l0)]) d_jI_numberOfLeadingZeros_54 rfl rfl xic_m4 (fun _ => rfl) h (fun x1 h => ?_)
    refine xo_iload_n 1 d_jI_numberOfLeadingZeros_57 rfl rfl ?_
    refine xo_iconst d_jI_numberOfLeadingZeros_58 xic_4 ?_
    refine xo_iushr d_jI_numberOfLeadingZeros_59 ?_
    refine xo_nmI h (fun x2 h => ?_)
    refine xo_istore_n [(0, .int x2), (1, .int x1)] d_jI_numberOfLeadingZeros_60 rfl rfl rfl ?_
    exact xo_sub [0, 1] [(0, .int x2), (1, .int x1)] rfl (kb_jI_numberOfLeadingZeros_61 X sz ro w _ _ h)
theorem kb_jI_numberOfLeadingZeros_33 (X : xX) (sz : Nat) (ro : Int32) (w : xw) (l0 : Int32) (l1 : Int32) (h : f_jI_numberOfLeadingZeros_b33 l0 l1 = some ro) : k_jI_numberOfLeadingZeros X [(0, .int l0), (1, .int l1)] [] w sz 0 0 33 (some (.int ro), w, sz) := by
  unfold f_jI_numberOfLeadingZeros_b33 at h
  refine xo_iload_n 0 d_jI_numberOfLeadingZeros_33 rfl rfl ?_
  refine xo_sipush d_jI_numberOfLeadingZeros_34 xsp_256 ?_
  refine xo_icmp_lt d_jI_numberOfLeadingZeros_37 h (fun h => ?_) (fun h => ?_)
  · exact xo_sub [0, 1] [(0, .int l0), (1, .int l1)] rfl (kb_jI_numberOfLeadingZeros_48 X sz ro w _ _ h)
  · refine xo_iinc 1 (fun x1 => [(1, .int x1), (0, .int l0)]) d_jI_numberOfLeadingZeros_40 rfl rfl xic_m8 (fun _ => rfl) h (fun x1 h => ?_)
    refine xo_iload_n 1 d_jI_numberOfLeadingZeros_43 rfl rfl ?_
    refine xo_bipush d_jI_numberOfLeadingZeros_44 xbp_8 ?_
    refine xo_iushr d_jI_numberOfLeadingZeros_46 ?_
    refine xo_nmI h (fun x2 h => ?_)
    refine xo_istore_n [(0, .int x2), (1, .int x1)] d_jI_numberOfLeadingZeros_47 rfl rfl rfl ?_
    exact xo_sub [0, 1] [(0, .int x2), (1, .int x1)] rfl (kb_jI_numberOfLeadingZeros_48 X sz ro w _ _ h)
theorem kb_jI_numberOfLeadingZeros_14 (X : xX) (sz : Nat) (ro : Int32) (w : xw) (s0 : Int32) (h : f_jI_numberOfLeadingZeros_b14 s0 = some ro) : k_jI_numberOfLeadingZeros X [] [.int s0] w sz 0 0 14 (some (.int ro), w, sz) := by
  unfold f_jI_numberOfLeadingZeros_b14 at h
  exact xo_retI0 d_jI_numberOfLeadingZeros_14 rfl rfl rfl h
theorem kb_jI_numberOfLeadingZeros_0 (X : xX) (sz : Nat) (ro : Int32) (w : xw) (l0 : Int32) (h : f_jI_numberOfLeadingZeros l0 = some ro) : k_jI_numberOfLeadingZeros X [(0, .int l0)] [] w sz 0 0 0 (some (.int ro), w, sz) := by
  unfold f_jI_numberOfLeadingZeros at h
  refine xo_iload_n 0 d_jI_numberOfLeadingZeros_0 rfl rfl ?_
  refine xo_if_gt d_jI_numberOfLeadingZeros_1 h (fun h => ?_) (fun h => ?_)
  · refine xo_bipush d_jI_numberOfLeadingZeros_15 xbp_31 ?_
    refine xo_nmI h (fun x1 h => ?_)
    refine xo_istore_n [(1, .int x1), (0, .int l0)] d_jI_numberOfLeadingZeros_17 rfl rfl rfl ?_
    refine xo_iload_n 1 d_jI_numberOfLeadingZeros_18 rfl rfl ?_
    refine xo_ldcw d_jI_numberOfLeadingZeros_19 tw_321 ?_
    refine xo_icmp_lt d_jI_numberOfLeadingZeros_22 h (fun h => ?_) (fun h => ?_)
    · exact xo_sub [1, 0] [(0, .int l0), (1, .int x1)] rfl (kb_jI_numberOfLeadingZeros_33 X sz ro w _ _ h)
    · refine xo_iinc 0 (fun x2 => [(1, .int x2), (0, .int l0)]) d_jI_numberOfLeadingZeros_25 rfl rfl xic_m16 (fun _ => rfl) h (fun x2 h => ?_)
      refine xo_iload_n 1 d_jI_numberOfLeadingZeros_28 rfl rfl ?_
      refine xo_bipush d_jI_numberOfLeadingZeros_29 xbp_16 ?_
      refine xo_iushr d_jI_numberOfLeadingZeros_31 ?_
      refine xo_nmI h (fun x3 h => ?_)
      refine xo_istore_n [(0, .int x3), (1, .int x2)] d_jI_numberOfLeadingZeros_32 rfl rfl rfl ?_
      exact xo_sub [0, 1] [(0, .int x3), (1, .int x2)] rfl (kb_jI_numberOfLeadingZeros_33 X sz ro w _ _ h)
  · refine xo_iload_n 0 d_jI_numberOfLeadingZeros_4 rfl rfl ?_
    refine xo_if_ne d_jI_numberOfLeadingZeros_5 h (fun h => ?_) (fun h => ?_)
    · refine xo_iconst d_jI_numberOfLeadingZeros_13 xic_0 ?_
      exact xo_sub [] [] rfl (kb_jI_numberOfLeadingZeros_14 X sz ro w _ h)
    · refine xo_bipush d_jI_numberOfLeadingZeros_8 xbp_32 ?_
      refine xo_goto d_jI_numberOfLeadingZeros_10 ?_
      exact xo_sub [] [] rfl (kb_jI_numberOfLeadingZeros_14 X sz ro w _ h)
theorem c_jI_numberOfLeadingZeros (l : Launch) (D : va_G) (cT : Nat → ClassId) (sz : Nat) (w : xw) (l0 : Int32) (ro : Int32) (h : f_jI_numberOfLeadingZeros l0 = some ro) : xM l y_jI_numberOfLeadingZeros b_jI_numberOfLeadingZeros 2 t_jI_numberOfLeadingZeros R_jI_numberOfLeadingZeros D cT [.int l0] w sz (some (.int ro), w, sz) :=
  xm_of bl_jI_numberOfLeadingZeros rfl rfl (kb_jI_numberOfLeadingZeros_0 (l, D, cT, [.int l0], w, sz) sz ro w l0 h)
theorem kb_jL_numberOfLeadingZeros_25 (X : xX) (sz : Nat) (ro : Int32) (w : xw) (s0 : Int32) (h : f_jL_numberOfLeadingZeros_b25 s0 = some ro) : k_jL_numberOfLeadingZeros X [] [.int s0] w sz 0 0 25 (some (.int ro), w, sz) := by
  unfold f_jL_numberOfLeadingZeros_b25 at h
  exact xo_retI0 d_jL_numberOfLeadingZeros_25 rfl rfl rfl h
theorem kb_jL_numberOfLeadingZeros_0 (X : xX) (sz : Nat) (ro : Int32) (w : xw) (l0 : Int64) (h : f_jL_numberOfLeadingZeros l0 = some ro) : k_jL_numberOfLeadingZeros X [(0, .long l0)] [] w sz 0 0 0 (some (.int ro), w, sz) := by
  unfold f_jL_numberOfLeadingZeros at h
  refine xo_lload_n 0 d_jL_numberOfLeadingZeros_0 rfl rfl ?_
  refine xo_bipush d_jL_numberOfLeadingZeros_1 xbp_32 ?_
  refine xo_lushr d_jL_numberOfLeadingZeros_3 ?_
  refine xo_l2i d_jL_numberOfLeadingZeros_4 ?_
  refine xo_nmI h (fun x1 h => ?_)
  refine xo_istore_n [(2, .int x1), (0, .long l0)] d_jL_numberOfLeadingZeros_5 rfl rfl rfl ?_
  refine xo_iload_n 0 d_jL_numberOfLeadingZeros_6 rfl rfl ?_
  refine xo_if_ne d_jL_numberOfLeadingZeros_7 h (fun h => ?_) (fun h => ?_)
  · refine xo_iload_n 0 d_jL_numberOfLeadingZeros_21 rfl rfl ?_
    refine xo_S_I0 (rest := []) [.int x1] d_jL_numberOfLeadingZeros_22 tw_318 yw_jI_numberOfLeadingZeros h (fun z e => c_jI_numberOfLeadingZeros _ _ _ _ _ _ z e) rfl ⟨rfl, rfl⟩ rfl rfl rfl (fun q2 h => ?_)
    exact xo_sub [] [] rfl (kb_jL_numberOfLeadingZeros_25 X sz ro w _ h)
  · refine xo_bipush d_jL_numberOfLeadingZeros_10 xbp_32 ?_
    refine xo_lload_n 1 d_jL_numberOfLeadingZeros_12 rfl rfl ?_
    refine xo_l2i d_jL_numberOfLeadingZeros_13 ?_
    refine xo_S_I0 (rest := [.int (32 : Int32)]) [.int l0.toInt32] d_jL_numberOfLeadingZeros_14 tw_318 yw_jI_numberOfLeadingZeros h (fun z e => c_jI_numberOfLeadingZeros _ _ _ _ _ _ z e) rfl ⟨rfl, rfl⟩ rfl rfl rfl (fun q3 h => ?_)
    refine xo_iadd d_jL_numberOfLeadingZeros_17 ?_
    refine xo_goto d_jL_numberOfLeadingZeros_18 ?_
    exact xo_sub [] [] rfl (kb_jL_numberOfLeadingZeros_25 X sz ro w _ h)
theorem c_jL_numberOfLeadingZeros (l : Launch) (D : va_G) (cT : Nat → ClassId) (sz : Nat) (w : xw) (l0 : Int64) (ro : Int32) (h : f_jL_numberOfLeadingZeros l0 = some ro) : xM l y_jL_numberOfLeadingZeros b_jL_numberOfLeadingZeros 3 t_jL_numberOfLeadingZeros R_jL_numberOfLeadingZeros D cT [.long l0] w sz (some (.int ro), w, sz) :=
  xm_of bl_jL_numberOfLeadingZeros rfl rfl (kb_jL_numberOfLeadingZeros_0 (l, D, cT, [.long l0], w, sz) sz ro w l0 h)
theorem kb_K_contradicts_21 (X : xX) (sz : Nat) (ro : Int32 × xw) (w : xw) (s0 : Int32) (h : f_K_contradicts_b21 w s0 = some ro) : k_K_contradicts X [] [.int s0] w sz 0 0 21 (some (.int ro.1), ro.2, sz) := by
  unfold f_K_contradicts_b21 at h
  exact xo_retZH d_K_contradicts_21 rfl rfl rfl h
theorem kb_K_contradicts_0 (X : xX) (sz : Nat) (ro : Int32 × xw) (w : xw) (l0 : Nat) (l1 : Int32) (l2 : Int32) (h : f_K_contradicts w l0 l1 l2 = some ro) : k_K_contradicts X [(0, .ref l0), (1, .int l1), (2, .int l2)] [] w sz 0 0 0 (some (.int ro.1), ro.2, sz) := by
  unfold f_K_contradicts at h
  refine xo_aload_n 0 d_K_contradicts_0 rfl rfl ?_
  refine xo_getI 1 d_K_contradicts_1 xc_2 rfl tw_117 rfl h (fun x1 h => ?_)
  refine xo_iload_n 1 d_K_contradicts_4 rfl rfl ?_
  refine xo_iand d_K_contradicts_5 ?_
  refine xo_aload_n 0 d_K_contradicts_6 rfl rfl ?_
  refine xo_getI 2 d_K_contradicts_7 xc_2 rfl tw_119 rfl h (fun x2 h => ?_)
  refine xo_iload_n 2 d_K_contradicts_10 rfl rfl ?_
  refine xo_ixor d_K_contradicts_11 ?_
  refine xo_iand d_K_contradicts_12 ?_
  refine xo_if_eq d_K_contradicts_13 h (fun h => ?_) (fun h => ?_)
  · refine xo_iconst d_K_contradicts_20 xic_0 ?_
    exact xo_sub [] [] rfl (kb_K_contradicts_21 X sz ro _ _ h)
  · refine xo_iconst d_K_contradicts_16 xic_1 ?_
    refine xo_goto d_K_contradicts_17 ?_
    exact xo_sub [] [] rfl (kb_K_contradicts_21 X sz ro _ _ h)
theorem c_K_contradicts (l : Launch) (D : va_G) (cT : Nat → ClassId) (sz : Nat) (w : xw) (l0 : Nat) (l1 : Int32) (l2 : Int32) (ro : Int32 × xw) (h : f_K_contradicts w l0 l1 l2 = some ro) : xM l y_K_contradicts b_K_contradicts 3 t_K_contradicts R_K_contradicts D cT [.ref l0, .int l1, .int l2] w sz (some (.int ro.1), ro.2, sz) :=
  xm_of bl_K_contradicts rfl rfl (kb_K_contradicts_0 (l, D, cT, [.ref l0, .int l1, .int l2], w, sz) sz ro w l0 l1 l2 h)
theorem kb_K_tighten_239 (X : xX) (sz : Nat) (ro : Int32 × xw) (w : xw) (h : f_K_tighten_b239 w = some ro) : k_K_tighten X [] [] w sz 0 0 239 (some (.int ro.1), ro.2, sz) := by
  unfold f_K_tighten_b239 at h
  refine xo_iconst d_K_tighten_239 xic_0 ?_
  exact xo_retZH d_K_tighten_240 rfl rfl rfl h
theorem kb_K_tighten_181 (X : xX) (sz : Nat) (ro : Int32 × xw) (w : xw) (l0 : Nat) (h : f_K_tighten_b181 w l0 = some ro) : k_K_tighten X [(0, .ref l0)] [] w sz 0 0 181 (some (.int ro.1), ro.2, sz) := by
  unfold f_K_tighten_b181 at h
  refine xo_ldc2 d_K_tighten_181 tw_314 ?_
  refine xo_bipush d_K_tighten_184 xbp_64 ?_
  refine xo_aload_n 0 d_K_tighten_186 rfl rfl ?_
  refine xo_getL 3 d_K_tighten_187 xc_2 rfl tw_121 rfl h (fun x1 h => ?_)
  refine xo_aload_n 0 d_K_tighten_190 rfl rfl ?_
  refine xo_getL 4 d_K_tighten_191 xc_2 rfl tw_124 rfl h (fun x2 h => ?_)
  refine xo_lxor d_K_tighten_194 ?_
  refine xo_S_I0 (rest := [.int (64 : Int32), .long (-1 : Int64)]) [.long (x1 ^^^ x2)] d_K_tighten_195 tw_315 yw_jL_numberOfLeadingZeros h (fun z e => c_jL_numberOfLeadingZeros _ _ _ _ _ _ z e) rfl ⟨rfl, rfl⟩ rfl rfl rfl (fun q3 h => ?_)
  refine xo_isub d_K_tighten_198 ?_
  refine xo_lshl d_K_tighten_199 ?_
  refine xo_l2i d_K_tighten_200 ?_
  refine xo_nmI h (fun x4 h => ?_)
  refine xo_istore_n [(1, .int x4), (0, .ref l0)] d_K_tighten_201 rfl rfl rfl ?_
  refine xo_aload_n 1 d_K_tighten_202 rfl rfl ?_
  refine xo_getL 3 d_K_tighten_203 xc_2 rfl tw_121 rfl h (fun x5 h => ?_)
  refine xo_aload_n 1 d_K_tighten_206 rfl rfl ?_
  refine xo_getL 4 d_K_tighten_207 xc_2 rfl tw_124 rfl h (fun x6 h => ?_)
  refine xo_lcgt d_K_tighten_210 d_K_tighten_211 h (fun h => ?_) (fun h => ?_)
  · exact xo_sub [] [] rfl (kb_K_tighten_239 X sz ro _ h)
  · refine xo_aload_n 1 d_K_tighten_214 rfl rfl ?_
    refine xo_getL 5 d_K_tighten_215 xc_2 rfl tw_127 rfl h (fun x7 h => ?_)
    refine xo_aload_n 1 d_K_tighten_218 rfl rfl ?_
    refine xo_getL 6 d_K_tighten_219 xc_2 rfl tw_130 rfl h (fun x8 h => ?_)
    refine xo_lcgt d_K_tighten_222 d_K_tighten_223 h (fun h => ?_) (fun h => ?_)
    · exact xo_sub [] [] rfl (kb_K_tighten_239 X sz ro _ h)
    · refine xo_aload_n 1 d_K_tighten_226 rfl rfl ?_
      refine xo_iload_n 0 d_K_tighten_227 rfl rfl ?_
      refine xo_aload_n 1 d_K_tighten_228 rfl rfl ?_
      refine xo_getL 3 d_K_tighten_229 xc_2 rfl tw_121 rfl h (fun x9 h => ?_)
      refine xo_l2i d_K_tighten_232 ?_
      refine xo_V_IH (rest := []) [.int x4, .int x9.toInt32] d_K_tighten_233 tw_322 yw_K_contradicts h xc_2 (fun z e => c_K_contradicts _ _ _ _ _ _ _ _ z e) rfl ⟨rfl, rfl⟩ rfl rfl rfl (fun q10 h => ?_)
      refine xo_if_eq d_K_tighten_236 h (fun h => ?_) (fun h => ?_)
      · refine xo_aload_n 1 d_K_tighten_241 rfl rfl ?_
        refine xo_dup d_K_tighten_242 rfl ?_
        refine xo_getI 1 d_K_tighten_243 xc_2 rfl tw_117 rfl h (fun x11 h => ?_)
        refine xo_iload_n 0 d_K_tighten_246 rfl rfl ?_
        refine xo_ior d_K_tighten_247 ?_
        refine xo_putI 1 d_K_tighten_248 xc_2 rfl tw_117 rfl rfl rfl rfl h (fun w12 h => ?_)
        refine xo_aload_n 1 d_K_tighten_251 rfl rfl ?_
        refine xo_dup d_K_tighten_252 rfl ?_
        refine xo_getI 2 d_K_tighten_253 xc_2 rfl tw_119 rfl h (fun x13 h => ?_)
        refine xo_aload_n 1 d_K_tighten_256 rfl rfl ?_
        refine xo_getL 3 d_K_tighten_257 xc_2 rfl tw_121 rfl h (fun x14 h => ?_)
        refine xo_l2i d_K_tighten_260 ?_
        refine xo_iload_n 0 d_K_tighten_261 rfl rfl ?_
        refine xo_iand d_K_tighten_262 ?_
        refine xo_ior d_K_tighten_263 ?_
        refine xo_putI 2 d_K_tighten_264 xc_2 rfl tw_119 rfl rfl rfl rfl h (fun w15 h => ?_)
        refine xo_iconst d_K_tighten_267 xic_1 ?_
        exact xo_retZH d_K_tighten_268 rfl rfl rfl h
      · exact xo_sub [] [] rfl (kb_K_tighten_239 X sz ro _ h)
theorem kb_K_tighten_140 (X : xX) (sz : Nat) (ro : Int32 × xw) (w : xw) (l0 : Nat) (s0 : Int32) (s1 : Int32) (h : f_K_tighten_b140 w l0 s0 s1 = some ro) : k_K_tighten X [(0, .ref l0)] [.int s1, .int s0] w sz 0 0 140 (some (.int ro.1), ro.2, sz) := by
  unfold f_K_tighten_b140 at h
  refine xo_icmp_ne d_K_tighten_140 h (fun h => ?_) (fun h => ?_)
  · exact xo_sub [0] [(0, .ref l0)] rfl (kb_K_tighten_181 X sz ro _ _ h)
  · refine xo_aload_n 0 d_K_tighten_143 rfl rfl ?_
    refine xo_aload_n 0 d_K_tighten_144 rfl rfl ?_
    refine xo_getL 3 d_K_tighten_145 xc_2 rfl tw_121 rfl h (fun x1 h => ?_)
    refine xo_aload_n 0 d_K_tighten_148 rfl rfl ?_
    refine xo_getL 5 d_K_tighten_149 xc_2 rfl tw_127 rfl h (fun x2 h => ?_)
    refine xo_l2i d_K_tighten_152 ?_
    refine xo_SN_L0 (rest := [.long x1, .ref l0]) [.int x2.toInt32] d_K_tighten_153 nw_4 yw_G_unsigned h (fun z e => c_G_unsigned _ _ _ _ _ _ z e) rfl ⟨rfl, rfl⟩ rfl rfl rfl (fun q3 h => ?_)
    refine xo_mmaxL d_K_tighten_156 tw_307 rfl rfl rfl rfl h (fun q4 h => ?_)
    refine xo_putL 3 d_K_tighten_159 xc_2 rfl tw_121 rfl rfl rfl rfl h (fun w5 h => ?_)
    refine xo_aload_n 0 d_K_tighten_162 rfl rfl ?_
    refine xo_aload_n 0 d_K_tighten_163 rfl rfl ?_
    refine xo_getL 4 d_K_tighten_164 xc_2 rfl tw_124 rfl h (fun x6 h => ?_)
    refine xo_aload_n 0 d_K_tighten_167 rfl rfl ?_
    refine xo_getL 6 d_K_tighten_168 xc_2 rfl tw_130 rfl h (fun x7 h => ?_)
    refine xo_l2i d_K_tighten_171 ?_
    refine xo_SN_L0 (rest := [.long x6, .ref l0]) [.int x7.toInt32] d_K_tighten_172 nw_4 yw_G_unsigned h (fun z e => c_G_unsigned _ _ _ _ _ _ z e) rfl ⟨rfl, rfl⟩ rfl rfl rfl (fun q8 h => ?_)
    refine xo_mminL d_K_tighten_175 tw_310 rfl rfl rfl rfl h (fun q9 h => ?_)
    refine xo_putL 4 d_K_tighten_178 xc_2 rfl tw_124 rfl rfl rfl rfl h (fun w10 h => ?_)
    exact xo_sub [0] [(0, .ref l0)] rfl (kb_K_tighten_181 X sz ro _ _ h)
theorem kb_K_tighten_126 (X : xX) (sz : Nat) (ro : Int32 × xw) (w : xw) (l0 : Nat) (s0 : Int32) (h : f_K_tighten_b126 w l0 s0 = some ro) : k_K_tighten X [(0, .ref l0)] [.int s0] w sz 0 0 126 (some (.int ro.1), ro.2, sz) := by
  unfold f_K_tighten_b126 at h
  refine xo_aload_n 0 d_K_tighten_126 rfl rfl ?_
  refine xo_getL 6 d_K_tighten_127 xc_2 rfl tw_130 rfl h (fun x1 h => ?_)
  refine xo_lconst d_K_tighten_130 xlc_0 ?_
  refine xo_lcge d_K_tighten_131 d_K_tighten_132 h (fun h => ?_) (fun h => ?_)
  · refine xo_iconst d_K_tighten_139 xic_0 ?_
    exact xo_sub [0] [(0, .ref l0)] rfl (kb_K_tighten_140 X sz ro _ _ _ _ h)
  · refine xo_iconst d_K_tighten_135 xic_1 ?_
    refine xo_goto d_K_tighten_136 ?_
    exact xo_sub [0] [(0, .ref l0)] rfl (kb_K_tighten_140 X sz ro _ _ _ _ h)
theorem kb_K_tighten_112 (X : xX) (sz : Nat) (ro : Int32 × xw) (w : xw) (l0 : Nat) (h : f_K_tighten_b112 w l0 = some ro) : k_K_tighten X [(0, .ref l0)] [] w sz 0 0 112 (some (.int ro.1), ro.2, sz) := by
  unfold f_K_tighten_b112 at h
  refine xo_aload_n 0 d_K_tighten_112 rfl rfl ?_
  refine xo_getL 5 d_K_tighten_113 xc_2 rfl tw_127 rfl h (fun x1 h => ?_)
  refine xo_lconst d_K_tighten_116 xlc_0 ?_
  refine xo_lcge d_K_tighten_117 d_K_tighten_118 h (fun h => ?_) (fun h => ?_)
  · refine xo_iconst d_K_tighten_125 xic_0 ?_
    exact xo_sub [0] [(0, .ref l0)] rfl (kb_K_tighten_126 X sz ro _ _ _ h)
  · refine xo_iconst d_K_tighten_121 xic_1 ?_
    refine xo_goto d_K_tighten_122 ?_
    exact xo_sub [0] [(0, .ref l0)] rfl (kb_K_tighten_126 X sz ro _ _ _ h)
theorem kb_K_tighten_75 (X : xX) (sz : Nat) (ro : Int32 × xw) (w : xw) (l0 : Nat) (s0 : Int32) (s1 : Int32) (h : f_K_tighten_b75 w l0 s0 s1 = some ro) : k_K_tighten X [(0, .ref l0)] [.int s1, .int s0] w sz 0 0 75 (some (.int ro.1), ro.2, sz) := by
  unfold f_K_tighten_b75 at h
  refine xo_icmp_ne d_K_tighten_75 h (fun h => ?_) (fun h => ?_)
  · exact xo_sub [0] [(0, .ref l0)] rfl (kb_K_tighten_112 X sz ro _ _ h)
  · refine xo_aload_n 0 d_K_tighten_78 rfl rfl ?_
    refine xo_aload_n 0 d_K_tighten_79 rfl rfl ?_
    refine xo_getL 5 d_K_tighten_80 xc_2 rfl tw_127 rfl h (fun x1 h => ?_)
    refine xo_aload_n 0 d_K_tighten_83 rfl rfl ?_
    refine xo_getL 3 d_K_tighten_84 xc_2 rfl tw_121 rfl h (fun x2 h => ?_)
    refine xo_l2i d_K_tighten_87 ?_
    refine xo_i2l d_K_tighten_88 ?_
    refine xo_mmaxL d_K_tighten_89 tw_307 rfl rfl rfl rfl h (fun q3 h => ?_)
    refine xo_putL 5 d_K_tighten_92 xc_2 rfl tw_127 rfl rfl rfl rfl h (fun w4 h => ?_)
    refine xo_aload_n 0 d_K_tighten_95 rfl rfl ?_
    refine xo_aload_n 0 d_K_tighten_96 rfl rfl ?_
    refine xo_getL 6 d_K_tighten_97 xc_2 rfl tw_130 rfl h (fun x5 h => ?_)
    refine xo_aload_n 0 d_K_tighten_100 rfl rfl ?_
    refine xo_getL 4 d_K_tighten_101 xc_2 rfl tw_124 rfl h (fun x6 h => ?_)
    refine xo_l2i d_K_tighten_104 ?_
    refine xo_i2l d_K_tighten_105 ?_
    refine xo_mminL d_K_tighten_106 tw_310 rfl rfl rfl rfl h (fun q7 h => ?_)
    refine xo_putL 6 d_K_tighten_109 xc_2 rfl tw_130 rfl rfl rfl rfl h (fun w8 h => ?_)
    exact xo_sub [0] [(0, .ref l0)] rfl (kb_K_tighten_112 X sz ro _ _ h)
theorem kb_K_tighten_59 (X : xX) (sz : Nat) (ro : Int32 × xw) (w : xw) (l0 : Nat) (s0 : Int32) (h : f_K_tighten_b59 w l0 s0 = some ro) : k_K_tighten X [(0, .ref l0)] [.int s0] w sz 0 0 59 (some (.int ro.1), ro.2, sz) := by
  unfold f_K_tighten_b59 at h
  refine xo_aload_n 0 d_K_tighten_59 rfl rfl ?_
  refine xo_getL 4 d_K_tighten_60 xc_2 rfl tw_124 rfl h (fun x1 h => ?_)
  refine xo_ldc2 d_K_tighten_63 tw_313 ?_
  refine xo_lcge d_K_tighten_66 d_K_tighten_67 h (fun h => ?_) (fun h => ?_)
  · refine xo_iconst d_K_tighten_74 xic_0 ?_
    exact xo_sub [0] [(0, .ref l0)] rfl (kb_K_tighten_75 X sz ro _ _ _ _ h)
  · refine xo_iconst d_K_tighten_70 xic_1 ?_
    refine xo_goto d_K_tighten_71 ?_
    exact xo_sub [0] [(0, .ref l0)] rfl (kb_K_tighten_75 X sz ro _ _ _ _ h)
theorem kb_K_tighten_0 (X : xX) (sz : Nat) (ro : Int32 × xw) (w : xw) (l0 : Nat) (h : f_K_tighten w l0 = some ro) : k_K_tighten X [(0, .ref l0)] [] w sz 0 0 0 (some (.int ro.1), ro.2, sz) := by
  unfold f_K_tighten at h
  refine xo_aload_n 0 d_K_tighten_0 rfl rfl ?_
  refine xo_aload_n 0 d_K_tighten_1 rfl rfl ?_
  refine xo_getL 3 d_K_tighten_2 xc_2 rfl tw_121 rfl h (fun x1 h => ?_)
  refine xo_aload_n 0 d_K_tighten_5 rfl rfl ?_
  refine xo_getI 2 d_K_tighten_6 xc_2 rfl tw_119 rfl h (fun x2 h => ?_)
  refine xo_SN_L0 (rest := [.long x1, .ref l0]) [.int x2] d_K_tighten_9 nw_4 yw_G_unsigned h (fun z e => c_G_unsigned _ _ _ _ _ _ z e) rfl ⟨rfl, rfl⟩ rfl rfl rfl (fun q3 h => ?_)
  refine xo_mmaxL d_K_tighten_12 tw_307 rfl rfl rfl rfl h (fun q4 h => ?_)
  refine xo_putL 3 d_K_tighten_15 xc_2 rfl tw_121 rfl rfl rfl rfl h (fun w5 h => ?_)
  refine xo_aload_n 0 d_K_tighten_18 rfl rfl ?_
  refine xo_aload_n 0 d_K_tighten_19 rfl rfl ?_
  refine xo_getL 4 d_K_tighten_20 xc_2 rfl tw_124 rfl h (fun x6 h => ?_)
  refine xo_aload_n 0 d_K_tighten_23 rfl rfl ?_
  refine xo_getI 2 d_K_tighten_24 xc_2 rfl tw_119 rfl h (fun x7 h => ?_)
  refine xo_aload_n 0 d_K_tighten_27 rfl rfl ?_
  refine xo_getI 1 d_K_tighten_28 xc_2 rfl tw_117 rfl h (fun x8 h => ?_)
  refine xo_iconst d_K_tighten_31 xic_m1 ?_
  refine xo_ixor d_K_tighten_32 ?_
  refine xo_ior d_K_tighten_33 ?_
  refine xo_SN_L0 (rest := [.long x6, .ref l0]) [.int (x7 ||| (x8 ^^^ (-1 : Int32)))] d_K_tighten_34 nw_4 yw_G_unsigned h (fun z e => c_G_unsigned _ _ _ _ _ _ z e) rfl ⟨rfl, rfl⟩ rfl rfl rfl (fun q9 h => ?_)
  refine xo_mminL d_K_tighten_37 tw_310 rfl rfl rfl rfl h (fun q10 h => ?_)
  refine xo_putL 4 d_K_tighten_40 xc_2 rfl tw_124 rfl rfl rfl rfl h (fun w11 h => ?_)
  refine xo_aload_n 0 d_K_tighten_43 rfl rfl ?_
  refine xo_getL 3 d_K_tighten_44 xc_2 rfl tw_121 rfl h (fun x12 h => ?_)
  refine xo_ldc2 d_K_tighten_47 tw_313 ?_
  refine xo_lcge d_K_tighten_50 d_K_tighten_51 h (fun h => ?_) (fun h => ?_)
  · refine xo_iconst d_K_tighten_58 xic_0 ?_
    exact xo_sub [0] [(0, .ref l0)] rfl (kb_K_tighten_59 X sz ro _ _ _ h)
  · refine xo_iconst d_K_tighten_54 xic_1 ?_
    refine xo_goto d_K_tighten_55 ?_
    exact xo_sub [0] [(0, .ref l0)] rfl (kb_K_tighten_59 X sz ro _ _ _ h)
theorem c_K_tighten (l : Launch) (D : va_G) (cT : Nat → ClassId) (sz : Nat) (w : xw) (l0 : Nat) (ro : Int32 × xw) (h : f_K_tighten w l0 = some ro) : xM l y_K_tighten b_K_tighten 2 t_K_tighten R_K_tighten D cT [.ref l0] w sz (some (.int ro.1), ro.2, sz) :=
  xm_of bl_K_tighten rfl rfl (kb_K_tighten_0 (l, D, cT, [.ref l0], w, sz) sz ro w l0 h)
theorem kb_K_becomeUpTo_0 (X : xX) (sz : Nat) (ro : Unit × xw) (w : xw) (l0 : Nat) (l1 : Int32) (h : f_K_becomeUpTo w l0 l1 = some ro) : k_K_becomeUpTo X [(0, .ref l0), (1, .int l1)] [] w sz 0 0 0 (none, ro.2, sz) := by
  unfold f_K_becomeUpTo at h
  refine xo_aload_n 0 d_K_becomeUpTo_0 rfl rfl ?_
  refine xo_V_VH (rest := []) [] d_K_becomeUpTo_1 tw_284 yw_K_becomeNothing h xc_2 (fun z e => c_K_becomeNothing _ _ _ _ _ _ z e) rfl ⟨rfl, rfl⟩ rfl rfl rfl (fun q1 h => ?_)
  refine xo_aload_n 0 d_K_becomeUpTo_4 rfl rfl ?_
  refine xo_lconst d_K_becomeUpTo_5 xlc_0 ?_
  refine xo_iload_n 1 d_K_becomeUpTo_6 rfl rfl ?_
  refine xo_i2l d_K_becomeUpTo_7 ?_
  refine xo_V_VH (rest := []) [.long (0 : Int64), .long l1.toInt64] d_K_becomeUpTo_8 tw_291 yw_K_boundUnsigned h xc_2 (fun z e => c_K_boundUnsigned _ _ _ _ _ _ _ _ z e) rfl ⟨rfl, rfl⟩ rfl rfl rfl (fun q2 h => ?_)
  refine xo_aload_n 0 d_K_becomeUpTo_11 rfl rfl ?_
  refine xo_lconst d_K_becomeUpTo_12 xlc_0 ?_
  refine xo_iload_n 1 d_K_becomeUpTo_13 rfl rfl ?_
  refine xo_i2l d_K_becomeUpTo_14 ?_
  refine xo_V_VH (rest := []) [.long (0 : Int64), .long l1.toInt64] d_K_becomeUpTo_15 tw_295 yw_K_boundSigned h xc_2 (fun z e => c_K_boundSigned _ _ _ _ _ _ _ _ z e) rfl ⟨rfl, rfl⟩ rfl rfl rfl (fun q3 h => ?_)
  refine xo_aload_n 0 d_K_becomeUpTo_18 rfl rfl ?_
  refine xo_V_IH (rest := []) [] d_K_becomeUpTo_19 tw_299 yw_K_tighten h xc_2 (fun z e => c_K_tighten _ _ _ _ _ _ z e) rfl ⟨rfl, rfl⟩ rfl rfl rfl (fun q4 h => ?_)
  refine xo_pop d_K_becomeUpTo_22 rfl ?_
  exact xo_retVH d_K_becomeUpTo_23 rfl rfl rfl h
theorem c_K_becomeUpTo (l : Launch) (D : va_G) (cT : Nat → ClassId) (sz : Nat) (w : xw) (l0 : Nat) (l1 : Int32) (ro : Unit × xw) (h : f_K_becomeUpTo w l0 l1 = some ro) : xM l y_K_becomeUpTo b_K_becomeUpTo 2 t_K_becomeUpTo R_K_becomeUpTo D cT [.ref l0, .int l1] w sz (none, ro.2, sz) :=
  xm_of bl_K_becomeUpTo rfl rfl (kb_K_becomeUpTo_0 (l, D, cT, [.ref l0, .int l1], w, sz) sz ro w l0 l1 h)
theorem ks_S_begin_26 (X : xX) (sz : Nat) (ro : Unit × xw) (r26 : xw → Nat → Int32 → Option (Unit × xw)) (R26 : ∀ (w : xw) (l0 : Nat) (l1 : Int32), r26 w l0 l1 = some ro → k_S_begin X [(0, .ref l0), (1, .int l1)] [] w sz 0 0 26 (none, ro.2, sz)) (w : xw) (l0 : Nat) (l1 : Int32) (h : f_S_begin_s26 r26 w l0 l1 = some ro) : k_S_begin X [(0, .ref l0), (1, .int l1)] [] w sz 0 0 26 (none, ro.2, sz) := by
  unfold f_S_begin_s26 at h
  refine xo_iload_n 1 d_S_begin_26 rfl rfl ?_
  refine xo_iconst d_S_begin_27 xic_4 ?_
  refine xo_icmp_ge d_S_begin_28 h (fun h => ?_) (fun h => ?_)
  · refine xo_aload_n 0 d_S_begin_47 rfl rfl ?_
    refine xo_getR 0 d_S_begin_48 xc_6 rfl tw_153 rfl h (fun a1 h => ?_)
    refine xo_iconst d_S_begin_51 xic_1 ?_
    refine xo_aldR d_S_begin_52 h (fun a2 h => ?_)
    refine xo_bipush d_S_begin_53 xbp_16 ?_
    refine xo_V_VH (rest := []) [.int (16 : Int32)] d_S_begin_55 tw_280 yw_K_becomeUpTo h xc_2 (fun z e => c_K_becomeUpTo _ _ _ _ _ _ _ z e) rfl ⟨rfl, rfl⟩ rfl rfl rfl (fun q3 h => ?_)
    refine xo_aload_n 0 d_S_begin_58 rfl rfl ?_
    refine xo_getR 0 d_S_begin_59 xc_6 rfl tw_153 rfl h (fun a4 h => ?_)
    refine xo_iconst d_S_begin_62 xic_2 ?_
    refine xo_aldR d_S_begin_63 h (fun a5 h => ?_)
    refine xo_V_VH (rest := []) [] d_S_begin_64 tw_326 yw_K_becomeNothing h xc_2 (fun z e => c_K_becomeNothing _ _ _ _ _ _ z e) rfl ⟨rfl, rfl⟩ rfl rfl rfl (fun q6 h => ?_)
    exact xo_retVH d_S_begin_67 rfl rfl rfl h
  · refine xo_aload_n 0 d_S_begin_31 rfl rfl ?_
    refine xo_getR 1 d_S_begin_32 xc_6 rfl tw_156 rfl h (fun a7 h => ?_)
    refine xo_iload_n 1 d_S_begin_35 rfl rfl ?_
    refine xo_aldR d_S_begin_36 h (fun a8 h => ?_)
    refine xo_iconst d_S_begin_37 xic_0 ?_
    refine xo_putZ 0 d_S_begin_38 xc_2 rfl tw_115 rfl rfl rfl h (fun w9 h => ?_)
    refine xo_iinc 1 (fun x10 => [(1, .int x10), (0, .ref l0)]) d_S_begin_41 rfl rfl xic_1 (fun _ => rfl) h (fun x10 h => ?_)
    refine xo_goto d_S_begin_44 ?_
    exact xo_sub [1, 0] [(0, .ref l0), (1, .int x10)] rfl (R26 _ _ _ h)
theorem kb_S_begin_26 (X : xX) (sz : Nat) (ro : Unit × xw) (n : Nat) : ∀ (w : xw) (l0 : Nat) (l1 : Int32), f_S_begin_b26 n w l0 l1 = some ro → k_S_begin X [(0, .ref l0), (1, .int l1)] [] w sz 0 0 26 (none, ro.2, sz) := by
  unfold f_S_begin_b26
  refine xfix_ind (P := fun (r26 : xw → Nat → Int32 → Option (Unit × xw)) => ∀ (w : xw) (l0 : Nat) (l1 : Int32), r26 w l0 l1 = some ro → k_S_begin X [(0, .ref l0), (1, .int l1)] [] w sz 0 0 26 (none, ro.2, sz)) ?_ ?_ n
  · intro _ _ _ h
    cases h
  · intro r R w l0 l1 h
    exact ks_S_begin_26 X sz ro r R _ _ _ h
theorem ks_S_begin_2 (X : xX) (sz : Nat) (ro : Unit × xw) (r2 : xw → Nat → Int32 → Option (Unit × xw)) (R2 : ∀ (w : xw) (l0 : Nat) (l1 : Int32), r2 w l0 l1 = some ro → k_S_begin X [(0, .ref l0), (1, .int l1)] [] w sz 0 0 2 (none, ro.2, sz)) (w : xw) (l0 : Nat) (l1 : Int32) (h : f_S_begin_s2 r2 w l0 l1 = some ro) : k_S_begin X [(0, .ref l0), (1, .int l1)] [] w sz 0 0 2 (none, ro.2, sz) := by
  unfold f_S_begin_s2 at h
  refine xo_iload_n 1 d_S_begin_2 rfl rfl ?_
  refine xo_bipush d_S_begin_3 xbp_6 ?_
  refine xo_icmp_ge d_S_begin_5 h (fun h => ?_) (fun h => ?_)
  · refine xo_iconst d_S_begin_24 xic_0 ?_
    refine xo_nmI h (fun x1 h => ?_)
    refine xo_istore_n [(1, .int x1), (0, .ref l0)] d_S_begin_25 rfl rfl rfl ?_
    exact xo_sub [1, 0] [(0, .ref l0), (1, .int x1)] rfl (kb_S_begin_26 X sz ro _ _ _ _ h)
  · refine xo_aload_n 0 d_S_begin_8 rfl rfl ?_
    refine xo_getR 0 d_S_begin_9 xc_6 rfl tw_153 rfl h (fun a2 h => ?_)
    refine xo_iload_n 1 d_S_begin_12 rfl rfl ?_
    refine xo_aldR d_S_begin_13 h (fun a3 h => ?_)
    refine xo_iconst d_S_begin_14 xic_0 ?_
    refine xo_putZ 0 d_S_begin_15 xc_2 rfl tw_115 rfl rfl rfl h (fun w4 h => ?_)
    refine xo_iinc 1 (fun x5 => [(1, .int x5), (0, .ref l0)]) d_S_begin_18 rfl rfl xic_1 (fun _ => rfl) h (fun x5 h => ?_)
    refine xo_goto d_S_begin_21 ?_
    exact xo_sub [1, 0] [(0, .ref l0), (1, .int x5)] rfl (R2 _ _ _ h)
theorem kb_S_begin_2 (X : xX) (sz : Nat) (ro : Unit × xw) (n : Nat) : ∀ (w : xw) (l0 : Nat) (l1 : Int32), f_S_begin_b2 n w l0 l1 = some ro → k_S_begin X [(0, .ref l0), (1, .int l1)] [] w sz 0 0 2 (none, ro.2, sz) := by
  unfold f_S_begin_b2
  refine xfix_ind (P := fun (r2 : xw → Nat → Int32 → Option (Unit × xw)) => ∀ (w : xw) (l0 : Nat) (l1 : Int32), r2 w l0 l1 = some ro → k_S_begin X [(0, .ref l0), (1, .int l1)] [] w sz 0 0 2 (none, ro.2, sz)) ?_ ?_ n
  · intro _ _ _ h
    cases h
  · intro r R w l0 l1 h
    exact ks_S_begin_2 X sz ro r R _ _ _ h
theorem kb_S_begin_0 (X : xX) (sz : Nat) (ro : Unit × xw) (w : xw) (l0 : Nat) (h : f_S_begin w l0 = some ro) : k_S_begin X [(0, .ref l0)] [] w sz 0 0 0 (none, ro.2, sz) := by
  unfold f_S_begin at h
  refine xo_iconst d_S_begin_0 xic_0 ?_
  refine xo_nmI h (fun x1 h => ?_)
  refine xo_istore_n [(1, .int x1), (0, .ref l0)] d_S_begin_1 rfl rfl rfl ?_
  exact xo_sub [1, 0] [(0, .ref l0), (1, .int x1)] rfl (kb_S_begin_2 X sz ro _ _ _ _ h)
theorem c_S_begin (l : Launch) (D : va_G) (cT : Nat → ClassId) (sz : Nat) (w : xw) (l0 : Nat) (ro : Unit × xw) (h : f_S_begin w l0 = some ro) : xM l y_S_begin b_S_begin 2 t_S_begin R_S_begin D cT [.ref l0] w sz (none, ro.2, sz) :=
  xm_of bl_S_begin rfl rfl (kb_S_begin_0 (l, D, cT, [.ref l0], w, sz) sz ro w l0 h)
theorem ks_W_begin_19 (X : xX) (sz : Nat) (ro : Unit × xw) (r19 : xw → Nat → Int32 → Option (Unit × xw)) (R19 : ∀ (w : xw) (l0 : Nat) (l1 : Int32), r19 w l0 l1 = some ro → k_W_begin X [(0, .ref l0), (1, .int l1)] [] w sz 0 0 19 (none, ro.2, sz)) (w : xw) (l0 : Nat) (l1 : Int32) (h : f_W_begin_s19 r19 w l0 l1 = some ro) : k_W_begin X [(0, .ref l0), (1, .int l1)] [] w sz 0 0 19 (none, ro.2, sz) := by
  unfold f_W_begin_s19 at h
  refine xo_iload_n 1 d_W_begin_19 rfl rfl ?_
  refine xo_bipush d_W_begin_20 xbp_24 ?_
  refine xo_icmp_ge d_W_begin_22 h (fun h => ?_) (fun h => ?_)
  · exact xo_retVH d_W_begin_38 rfl rfl rfl h
  · refine xo_aload_n 0 d_W_begin_25 rfl rfl ?_
    refine xo_getR 3 d_W_begin_26 xc_7 rfl tw_169 rfl h (fun a1 h => ?_)
    refine xo_iload_n 1 d_W_begin_29 rfl rfl ?_
    refine xo_iconst d_W_begin_30 xic_0 ?_
    refine xo_astZ d_W_begin_31 h (fun w2 h => ?_)
    refine xo_iinc 1 (fun x3 => [(1, .int x3), (0, .ref l0)]) d_W_begin_32 rfl rfl xic_1 (fun _ => rfl) h (fun x3 h => ?_)
    refine xo_goto d_W_begin_35 ?_
    exact xo_sub [1, 0] [(0, .ref l0), (1, .int x3)] rfl (R19 _ _ _ h)
theorem kb_W_begin_19 (X : xX) (sz : Nat) (ro : Unit × xw) (n : Nat) : ∀ (w : xw) (l0 : Nat) (l1 : Int32), f_W_begin_b19 n w l0 l1 = some ro → k_W_begin X [(0, .ref l0), (1, .int l1)] [] w sz 0 0 19 (none, ro.2, sz) := by
  unfold f_W_begin_b19
  refine xfix_ind (P := fun (r19 : xw → Nat → Int32 → Option (Unit × xw)) => ∀ (w : xw) (l0 : Nat) (l1 : Int32), r19 w l0 l1 = some ro → k_W_begin X [(0, .ref l0), (1, .int l1)] [] w sz 0 0 19 (none, ro.2, sz)) ?_ ?_ n
  · intro _ _ _ h
    cases h
  · intro r R w l0 l1 h
    exact ks_W_begin_19 X sz ro r R _ _ _ h
theorem kb_W_begin_0 (X : xX) (sz : Nat) (ro : Unit × xw) (w : xw) (l0 : Nat) (h : f_W_begin w l0 = some ro) : k_W_begin X [(0, .ref l0)] [] w sz 0 0 0 (none, ro.2, sz) := by
  unfold f_W_begin at h
  refine xo_aload_n 0 d_W_begin_0 rfl rfl ?_
  refine xo_iconst d_W_begin_1 xic_0 ?_
  refine xo_putI 9 d_W_begin_2 xc_7 rfl tw_177 rfl rfl rfl rfl h (fun w1 h => ?_)
  refine xo_aload_n 0 d_W_begin_5 rfl rfl ?_
  refine xo_iconst d_W_begin_6 xic_0 ?_
  refine xo_putZ 8 d_W_begin_7 xc_7 rfl tw_175 rfl rfl rfl h (fun w2 h => ?_)
  refine xo_aload_n 0 d_W_begin_10 rfl rfl ?_
  refine xo_getR 1 d_W_begin_11 xc_7 rfl tw_167 rfl h (fun a3 h => ?_)
  refine xo_V_VH (rest := []) [] d_W_begin_14 tw_276 yw_S_begin h xc_6 (fun z e => c_S_begin _ _ _ _ _ _ z e) rfl ⟨rfl, rfl⟩ rfl rfl rfl (fun q4 h => ?_)
  refine xo_iconst d_W_begin_17 xic_0 ?_
  refine xo_nmI h (fun x5 h => ?_)
  refine xo_istore_n [(1, .int x5), (0, .ref l0)] d_W_begin_18 rfl rfl rfl ?_
  exact xo_sub [1, 0] [(0, .ref l0), (1, .int x5)] rfl (kb_W_begin_19 X sz ro _ _ _ _ h)
theorem c_W_begin (l : Launch) (D : va_G) (cT : Nat → ClassId) (sz : Nat) (w : xw) (l0 : Nat) (ro : Unit × xw) (h : f_W_begin w l0 = some ro) : xM l y_W_begin b_W_begin 2 t_W_begin R_W_begin D cT [.ref l0] w sz (none, ro.2, sz) :=
  xm_of bl_W_begin rfl rfl (kb_W_begin_0 (l, D, cT, [.ref l0], w, sz) sz ro w l0 h)
theorem kb_I_readsA_49 (X : xX) (sz : Nat) (ro : Int32 × xw) (w : xw) (s0 : Int32) (h : f_I_readsA_b49 w s0 = some ro) : k_I_readsA X [] [.int s0] w sz 0 0 49 (some (.int ro.1), ro.2, sz) := by
  unfold f_I_readsA_b49 at h
  exact xo_retZH d_I_readsA_49 rfl rfl rfl h
theorem kb_I_readsA_48 (X : xX) (sz : Nat) (ro : Int32 × xw) (w : xw) (h : f_I_readsA_b48 w = some ro) : k_I_readsA X [] [] w sz 0 0 48 (some (.int ro.1), ro.2, sz) := by
  unfold f_I_readsA_b48 at h
  refine xo_iconst d_I_readsA_48 xic_0 ?_
  exact xo_sub [] [] rfl (kb_I_readsA_49 X sz ro _ _ h)
theorem kb_I_readsA_44 (X : xX) (sz : Nat) (ro : Int32 × xw) (w : xw) (h : f_I_readsA_b44 w = some ro) : k_I_readsA X [] [] w sz 0 0 44 (some (.int ro.1), ro.2, sz) := by
  unfold f_I_readsA_b44 at h
  refine xo_iconst d_I_readsA_44 xic_1 ?_
  refine xo_goto d_I_readsA_45 ?_
  exact xo_sub [] [] rfl (kb_I_readsA_49 X sz ro _ _ h)
theorem kb_I_readsA_17 (X : xX) (sz : Nat) (ro : Int32 × xw) (w : xw) (l0 : Nat) (h : f_I_readsA_b17 w l0 = some ro) : k_I_readsA X [(0, .ref l0)] [] w sz 0 0 17 (some (.int ro.1), ro.2, sz) := by
  unfold f_I_readsA_b17 at h
  refine xo_aload_n 0 d_I_readsA_17 rfl rfl ?_
  refine xo_getI 0 d_I_readsA_18 xc_1 rfl tw_42 rfl h (fun x1 h => ?_)
  refine xo_bipush d_I_readsA_21 xbp_13 ?_
  refine xo_icmp_eq d_I_readsA_23 h (fun h => ?_) (fun h => ?_)
  · exact xo_sub [] [] rfl (kb_I_readsA_44 X sz ro _ h)
  · refine xo_aload_n 0 d_I_readsA_26 rfl rfl ?_
    refine xo_getI 0 d_I_readsA_27 xc_1 rfl tw_42 rfl h (fun x2 h => ?_)
    refine xo_bipush d_I_readsA_30 xbp_16 ?_
    refine xo_icmp_lt d_I_readsA_32 h (fun h => ?_) (fun h => ?_)
    · exact xo_sub [] [] rfl (kb_I_readsA_48 X sz ro _ h)
    · refine xo_aload_n 0 d_I_readsA_35 rfl rfl ?_
      refine xo_getI 0 d_I_readsA_36 xc_1 rfl tw_42 rfl h (fun x3 h => ?_)
      refine xo_bipush d_I_readsA_39 xbp_21 ?_
      refine xo_icmp_gt d_I_readsA_41 h (fun h => ?_) (fun h => ?_)
      · exact xo_sub [] [] rfl (kb_I_readsA_48 X sz ro _ h)
      · exact xo_sub [] [] rfl (kb_I_readsA_44 X sz ro _ h)
theorem kb_I_readsA_0 (X : xX) (sz : Nat) (ro : Int32 × xw) (w : xw) (l0 : Nat) (h : f_I_readsA w l0 = some ro) : k_I_readsA X [(0, .ref l0)] [] w sz 0 0 0 (some (.int ro.1), ro.2, sz) := by
  unfold f_I_readsA at h
  refine xo_aload_n 0 d_I_readsA_0 rfl rfl ?_
  refine xo_getI 0 d_I_readsA_1 xc_1 rfl tw_42 rfl h (fun x1 h => ?_)
  refine xo_iconst d_I_readsA_4 xic_1 ?_
  refine xo_icmp_lt d_I_readsA_5 h (fun h => ?_) (fun h => ?_)
  · exact xo_sub [0] [(0, .ref l0)] rfl (kb_I_readsA_17 X sz ro _ _ h)
  · refine xo_aload_n 0 d_I_readsA_8 rfl rfl ?_
    refine xo_getI 0 d_I_readsA_9 xc_1 rfl tw_42 rfl h (fun x2 h => ?_)
    refine xo_bipush d_I_readsA_12 xbp_11 ?_
    refine xo_icmp_le d_I_readsA_14 h (fun h => ?_) (fun h => ?_)
    · exact xo_sub [] [] rfl (kb_I_readsA_44 X sz ro _ h)
    · exact xo_sub [0] [(0, .ref l0)] rfl (kb_I_readsA_17 X sz ro _ _ h)
theorem c_I_readsA (l : Launch) (D : va_G) (cT : Nat → ClassId) (sz : Nat) (w : xw) (l0 : Nat) (ro : Int32 × xw) (h : f_I_readsA w l0 = some ro) : xM l y_I_readsA b_I_readsA 1 t_I_readsA R_I_readsA D cT [.ref l0] w sz (some (.int ro.1), ro.2, sz) :=
  xm_of bl_I_readsA rfl rfl (kb_I_readsA_0 (l, D, cT, [.ref l0], w, sz) sz ro w l0 h)
theorem kb_I_readsB_22 (X : xX) (sz : Nat) (ro : Int32 × xw) (w : xw) (s0 : Int32) (h : f_I_readsB_b22 w s0 = some ro) : k_I_readsB X [] [.int s0] w sz 0 0 22 (some (.int ro.1), ro.2, sz) := by
  unfold f_I_readsB_b22 at h
  exact xo_retZH d_I_readsB_22 rfl rfl rfl h
theorem kb_I_readsB_21 (X : xX) (sz : Nat) (ro : Int32 × xw) (w : xw) (h : f_I_readsB_b21 w = some ro) : k_I_readsB X [] [] w sz 0 0 21 (some (.int ro.1), ro.2, sz) := by
  unfold f_I_readsB_b21 at h
  refine xo_iconst d_I_readsB_21 xic_0 ?_
  exact xo_sub [] [] rfl (kb_I_readsB_22 X sz ro _ _ h)
theorem kb_I_readsB_0 (X : xX) (sz : Nat) (ro : Int32 × xw) (w : xw) (l0 : Nat) (h : f_I_readsB w l0 = some ro) : k_I_readsB X [(0, .ref l0)] [] w sz 0 0 0 (some (.int ro.1), ro.2, sz) := by
  unfold f_I_readsB at h
  refine xo_aload_n 0 d_I_readsB_0 rfl rfl ?_
  refine xo_getI 2 d_I_readsB_1 xc_1 rfl tw_47 rfl h (fun x1 h => ?_)
  refine xo_iconst d_I_readsB_4 xic_m1 ?_
  refine xo_icmp_eq d_I_readsB_5 h (fun h => ?_) (fun h => ?_)
  · exact xo_sub [] [] rfl (kb_I_readsB_21 X sz ro _ h)
  · refine xo_aload_n 0 d_I_readsB_8 rfl rfl ?_
    refine xo_getI 0 d_I_readsB_9 xc_1 rfl tw_42 rfl h (fun x2 h => ?_)
    refine xo_bipush d_I_readsB_12 xbp_21 ?_
    refine xo_icmp_gt d_I_readsB_14 h (fun h => ?_) (fun h => ?_)
    · exact xo_sub [] [] rfl (kb_I_readsB_21 X sz ro _ h)
    · refine xo_iconst d_I_readsB_17 xic_1 ?_
      refine xo_goto d_I_readsB_18 ?_
      exact xo_sub [] [] rfl (kb_I_readsB_22 X sz ro _ _ h)
theorem c_I_readsB (l : Launch) (D : va_G) (cT : Nat → ClassId) (sz : Nat) (w : xw) (l0 : Nat) (ro : Int32 × xw) (h : f_I_readsB w l0 = some ro) : xM l y_I_readsB b_I_readsB 1 t_I_readsB R_I_readsB D cT [.ref l0] w sz (some (.int ro.1), ro.2, sz) :=
  xm_of bl_I_readsB rfl rfl (kb_I_readsB_0 (l, D, cT, [.ref l0], w, sz) sz ro w l0 h)
theorem kb_W_readsUnset_85 (X : xX) (sz : Nat) (ro : Int32 × xw) (w : xw) (s0 : Int32) (h : f_W_readsUnset_b85 w s0 = some ro) : k_W_readsUnset X [] [.int s0] w sz 0 0 85 (some (.int ro.1), ro.2, sz) := by
  unfold f_W_readsUnset_b85 at h
  exact xo_retZH d_W_readsUnset_85 rfl rfl rfl h
theorem kb_W_readsUnset_84 (X : xX) (sz : Nat) (ro : Int32 × xw) (w : xw) (h : f_W_readsUnset_b84 w = some ro) : k_W_readsUnset X [] [] w sz 0 0 84 (some (.int ro.1), ro.2, sz) := by
  unfold f_W_readsUnset_b84 at h
  refine xo_iconst d_W_readsUnset_84 xic_0 ?_
  exact xo_sub [] [] rfl (kb_W_readsUnset_85 X sz ro _ _ h)
theorem kb_W_readsUnset_80 (X : xX) (sz : Nat) (ro : Int32 × xw) (w : xw) (h : f_W_readsUnset_b80 w = some ro) : k_W_readsUnset X [] [] w sz 0 0 80 (some (.int ro.1), ro.2, sz) := by
  unfold f_W_readsUnset_b80 at h
  refine xo_iconst d_W_readsUnset_80 xic_1 ?_
  refine xo_goto d_W_readsUnset_81 ?_
  exact xo_sub [] [] rfl (kb_W_readsUnset_85 X sz ro _ _ h)
theorem kb_W_readsUnset_55 (X : xX) (sz : Nat) (ro : Int32 × xw) (w : xw) (l0 : Nat) (l1 : Nat) (h : f_W_readsUnset_b55 w l0 l1 = some ro) : k_W_readsUnset X [(0, .ref l0), (1, .ref l1)] [] w sz 0 0 55 (some (.int ro.1), ro.2, sz) := by
  unfold f_W_readsUnset_b55 at h
  refine xo_aload_n 1 d_W_readsUnset_55 rfl rfl ?_
  refine xo_V_IH (rest := []) [] d_W_readsUnset_56 tw_339 yw_I_readsB h xc_1 (fun z e => c_I_readsB _ _ _ _ _ _ z e) rfl ⟨rfl, rfl⟩ rfl rfl rfl (fun q1 h => ?_)
  refine xo_if_eq d_W_readsUnset_59 h (fun h => ?_) (fun h => ?_)
  · exact xo_sub [] [] rfl (kb_W_readsUnset_84 X sz ro _ h)
  · refine xo_aload_n 0 d_W_readsUnset_62 rfl rfl ?_
    refine xo_getR 1 d_W_readsUnset_63 xc_7 rfl tw_167 rfl h (fun a2 h => ?_)
    refine xo_getR 0 d_W_readsUnset_66 xc_6 rfl tw_154 rfl h (fun a3 h => ?_)
    refine xo_aload_n 1 d_W_readsUnset_69 rfl rfl ?_
    refine xo_getI 2 d_W_readsUnset_70 xc_1 rfl tw_49 rfl h (fun x4 h => ?_)
    refine xo_aldR d_W_readsUnset_73 h (fun a5 h => ?_)
    refine xo_getI 0 d_W_readsUnset_74 xc_2 rfl tw_116 rfl h (fun x6 h => ?_)
    refine xo_if_ne d_W_readsUnset_77 h (fun h => ?_) (fun h => ?_)
    · exact xo_sub [] [] rfl (kb_W_readsUnset_84 X sz ro _ h)
    · exact xo_sub [] [] rfl (kb_W_readsUnset_80 X sz ro _ h)
theorem kb_W_readsUnset_29 (X : xX) (sz : Nat) (ro : Int32 × xw) (w : xw) (s0 : Int32) (h : f_W_readsUnset_b29 w s0 = some ro) : k_W_readsUnset X [] [.int s0] w sz 0 0 29 (some (.int ro.1), ro.2, sz) := by
  unfold f_W_readsUnset_b29 at h
  exact xo_retZH d_W_readsUnset_29 rfl rfl rfl h
theorem kb_W_readsUnset_0 (X : xX) (sz : Nat) (ro : Int32 × xw) (w : xw) (l0 : Nat) (l1 : Nat) (h : f_W_readsUnset w l0 l1 = some ro) : k_W_readsUnset X [(0, .ref l0), (1, .ref l1)] [] w sz 0 0 0 (some (.int ro.1), ro.2, sz) := by
  unfold f_W_readsUnset at h
  refine xo_aload_n 1 d_W_readsUnset_0 rfl rfl ?_
  refine xo_getI 0 d_W_readsUnset_1 xc_1 rfl tw_43 rfl h (fun x1 h => ?_)
  refine xo_bipush d_W_readsUnset_4 xbp_23 ?_
  refine xo_icmp_ne d_W_readsUnset_6 h (fun h => ?_) (fun h => ?_)
  · refine xo_aload_n 1 d_W_readsUnset_30 rfl rfl ?_
    refine xo_V_IH (rest := []) [] d_W_readsUnset_31 tw_335 yw_I_readsA h xc_1 (fun z e => c_I_readsA _ _ _ _ _ _ z e) rfl ⟨rfl, rfl⟩ rfl rfl rfl (fun q2 h => ?_)
    refine xo_if_eq d_W_readsUnset_34 h (fun h => ?_) (fun h => ?_)
    · exact xo_sub [0, 1] [(0, .ref l0), (1, .ref l1)] rfl (kb_W_readsUnset_55 X sz ro _ _ _ h)
    · refine xo_aload_n 0 d_W_readsUnset_37 rfl rfl ?_
      refine xo_getR 1 d_W_readsUnset_38 xc_7 rfl tw_167 rfl h (fun a3 h => ?_)
      refine xo_getR 0 d_W_readsUnset_41 xc_6 rfl tw_154 rfl h (fun a4 h => ?_)
      refine xo_aload_n 1 d_W_readsUnset_44 rfl rfl ?_
      refine xo_getI 1 d_W_readsUnset_45 xc_1 rfl tw_46 rfl h (fun x5 h => ?_)
      refine xo_aldR d_W_readsUnset_48 h (fun a6 h => ?_)
      refine xo_getI 0 d_W_readsUnset_49 xc_2 rfl tw_116 rfl h (fun x7 h => ?_)
      refine xo_if_eq d_W_readsUnset_52 h (fun h => ?_) (fun h => ?_)
      · exact xo_sub [] [] rfl (kb_W_readsUnset_80 X sz ro _ h)
      · exact xo_sub [0, 1] [(0, .ref l0), (1, .ref l1)] rfl (kb_W_readsUnset_55 X sz ro _ _ _ h)
  · refine xo_aload_n 0 d_W_readsUnset_9 rfl rfl ?_
    refine xo_getR 1 d_W_readsUnset_10 xc_7 rfl tw_167 rfl h (fun a8 h => ?_)
    refine xo_getR 0 d_W_readsUnset_13 xc_6 rfl tw_154 rfl h (fun a9 h => ?_)
    refine xo_iconst d_W_readsUnset_16 xic_0 ?_
    refine xo_aldR d_W_readsUnset_17 h (fun a10 h => ?_)
    refine xo_getI 0 d_W_readsUnset_18 xc_2 rfl tw_116 rfl h (fun x11 h => ?_)
    refine xo_if_ne d_W_readsUnset_21 h (fun h => ?_) (fun h => ?_)
    · refine xo_iconst d_W_readsUnset_28 xic_0 ?_
      exact xo_sub [] [] rfl (kb_W_readsUnset_29 X sz ro _ _ h)
    · refine xo_iconst d_W_readsUnset_24 xic_1 ?_
      refine xo_goto d_W_readsUnset_25 ?_
      exact xo_sub [] [] rfl (kb_W_readsUnset_29 X sz ro _ _ h)
theorem c_W_readsUnset (l : Launch) (D : va_G) (cT : Nat → ClassId) (sz : Nat) (w : xw) (l0 : Nat) (l1 : Nat) (ro : Int32 × xw) (h : f_W_readsUnset w l0 l1 = some ro) : xM l y_W_readsUnset b_W_readsUnset 2 t_W_readsUnset R_W_readsUnset D cT [.ref l0, .ref l1] w sz (some (.int ro.1), ro.2, sz) :=
  xm_of bl_W_readsUnset rfl rfl (kb_W_readsUnset_0 (l, D, cT, [.ref l0, .ref l1], w, sz) sz ro w l0 l1 h)
theorem kb_K_becomeNumber_0 (X : xX) (sz : Nat) (ro : Unit × xw) (w : xw) (l0 : Nat) (l1 : Int32) (h : f_K_becomeNumber w l0 l1 = some ro) : k_K_becomeNumber X [(0, .ref l0), (1, .int l1)] [] w sz 0 0 0 (none, ro.2, sz) := by
  unfold f_K_becomeNumber at h
  refine xo_aload_n 0 d_K_becomeNumber_0 rfl rfl ?_
  refine xo_V_VH (rest := []) [] d_K_becomeNumber_1 tw_284 yw_K_becomeNothing h xc_2 (fun z e => c_K_becomeNothing _ _ _ _ _ _ z e) rfl ⟨rfl, rfl⟩ rfl rfl rfl (fun q1 h => ?_)
  refine xo_aload_n 0 d_K_becomeNumber_4 rfl rfl ?_
  refine xo_iconst d_K_becomeNumber_5 xic_m1 ?_
  refine xo_putI 1 d_K_becomeNumber_6 xc_2 rfl tw_117 rfl rfl rfl rfl h (fun w2 h => ?_)
  refine xo_aload_n 0 d_K_becomeNumber_9 rfl rfl ?_
  refine xo_iload_n 1 d_K_becomeNumber_10 rfl rfl ?_
  refine xo_putI 2 d_K_becomeNumber_11 xc_2 rfl tw_119 rfl rfl rfl rfl h (fun w3 h => ?_)
  refine xo_aload_n 0 d_K_becomeNumber_14 rfl rfl ?_
  refine xo_iload_n 1 d_K_becomeNumber_15 rfl rfl ?_
  refine xo_SN_L0 (rest := [.ref l0]) [.int l1] d_K_becomeNumber_16 nw_4 yw_G_unsigned h (fun z e => c_G_unsigned _ _ _ _ _ _ z e) rfl ⟨rfl, rfl⟩ rfl rfl rfl (fun q4 h => ?_)
  refine xo_iload_n 1 d_K_becomeNumber_19 rfl rfl ?_
  refine xo_SN_L0 (rest := [.long q4, .ref l0]) [.int l1] d_K_becomeNumber_20 nw_4 yw_G_unsigned h (fun z e => c_G_unsigned _ _ _ _ _ _ z e) rfl ⟨rfl, rfl⟩ rfl rfl rfl (fun q5 h => ?_)
  refine xo_V_VH (rest := []) [.long q4, .long q5] d_K_becomeNumber_23 tw_291 yw_K_boundUnsigned h xc_2 (fun z e => c_K_boundUnsigned _ _ _ _ _ _ _ _ z e) rfl ⟨rfl, rfl⟩ rfl rfl rfl (fun q6 h => ?_)
  refine xo_aload_n 0 d_K_becomeNumber_26 rfl rfl ?_
  refine xo_iload_n 1 d_K_becomeNumber_27 rfl rfl ?_
  refine xo_i2l d_K_becomeNumber_28 ?_
  refine xo_iload_n 1 d_K_becomeNumber_29 rfl rfl ?_
  refine xo_i2l d_K_becomeNumber_30 ?_
  refine xo_V_VH (rest := []) [.long l1.toInt64, .long l1.toInt64] d_K_becomeNumber_31 tw_295 yw_K_boundSigned h xc_2 (fun z e => c_K_boundSigned _ _ _ _ _ _ _ _ z e) rfl ⟨rfl, rfl⟩ rfl rfl rfl (fun q7 h => ?_)
  exact xo_retVH d_K_becomeNumber_34 rfl rfl rfl h
theorem c_K_becomeNumber (l : Launch) (D : va_G) (cT : Nat → ClassId) (sz : Nat) (w : xw) (l0 : Nat) (l1 : Int32) (ro : Unit × xw) (h : f_K_becomeNumber w l0 l1 = some ro) : xM l y_K_becomeNumber b_K_becomeNumber 2 t_K_becomeNumber R_K_becomeNumber D cT [.ref l0, .int l1] w sz (none, ro.2, sz) :=
  xm_of bl_K_becomeNumber rfl rfl (kb_K_becomeNumber_0 (l, D, cT, [.ref l0, .int l1], w, sz) sz ro w l0 l1 h)
theorem kb_W_knownOfY_0 (X : xX) (sz : Nat) (ro : Nat × xw) (w : xw) (l0 : Nat) (l1 : Nat) (h : f_W_knownOfY w l0 l1 = some ro) : k_W_knownOfY X [(0, .ref l0), (1, .ref l1)] [] w sz 0 0 0 (some (.ref ro.1), ro.2, sz) := by
  unfold f_W_knownOfY at h
  refine xo_aload_n 1 d_W_knownOfY_0 rfl rfl ?_
  refine xo_getI 2 d_W_knownOfY_1 xc_1 rfl tw_49 rfl h (fun x1 h => ?_)
  refine xo_iconst d_W_knownOfY_4 xic_m1 ?_
  refine xo_icmp_eq d_W_knownOfY_5 h (fun h => ?_) (fun h => ?_)
  · refine xo_aload_n 0 d_W_knownOfY_21 rfl rfl ?_
    refine xo_getR 4 d_W_knownOfY_22 xc_7 rfl tw_170 rfl h (fun a2 h => ?_)
    refine xo_aload_n 1 d_W_knownOfY_25 rfl rfl ?_
    refine xo_getI 3 d_W_knownOfY_26 xc_1 rfl tw_52 rfl h (fun x3 h => ?_)
    refine xo_V_VH (rest := []) [.int x3] d_W_knownOfY_29 tw_347 yw_K_becomeNumber h xc_2 (fun z e => c_K_becomeNumber _ _ _ _ _ _ _ z e) rfl ⟨rfl, rfl⟩ rfl rfl rfl (fun q4 h => ?_)
    refine xo_aload_n 0 d_W_knownOfY_32 rfl rfl ?_
    refine xo_getR 4 d_W_knownOfY_33 xc_7 rfl tw_170 rfl h (fun a5 h => ?_)
    exact xo_retRH d_W_knownOfY_36 (Or.inl ⟨_, rfl⟩) rfl rfl rfl h
  · refine xo_aload_n 0 d_W_knownOfY_8 rfl rfl ?_
    refine xo_getR 1 d_W_knownOfY_9 xc_7 rfl tw_167 rfl h (fun a6 h => ?_)
    refine xo_getR 0 d_W_knownOfY_12 xc_6 rfl tw_154 rfl h (fun a7 h => ?_)
    refine xo_aload_n 1 d_W_knownOfY_15 rfl rfl ?_
    refine xo_getI 2 d_W_knownOfY_16 xc_1 rfl tw_49 rfl h (fun x8 h => ?_)
    refine xo_aldR d_W_knownOfY_19 h (fun a9 h => ?_)
    exact xo_retRH d_W_knownOfY_20 (Or.inl ⟨_, rfl⟩) rfl rfl rfl h
theorem c_W_knownOfY (l : Launch) (D : va_G) (cT : Nat → ClassId) (sz : Nat) (w : xw) (l0 : Nat) (l1 : Nat) (ro : Nat × xw) (h : f_W_knownOfY w l0 l1 = some ro) : xM l y_W_knownOfY b_W_knownOfY 2 t_W_knownOfY R_W_knownOfY D cT [.ref l0, .ref l1] w sz (some (.ref ro.1), ro.2, sz) :=
  xm_of bl_W_knownOfY rfl rfl (kb_W_knownOfY_0 (l, D, cT, [.ref l0, .ref l1], w, sz) sz ro w l0 l1 h)
theorem kb_W_alarmOfPlaces_59 (X : xX) (sz : Nat) (ro : Int32 × xw) (w : xw) (h : f_W_alarmOfPlaces_b59 w = some ro) : k_W_alarmOfPlaces X [] [] w sz 0 0 59 (some (.int ro.1), ro.2, sz) := by
  unfold f_W_alarmOfPlaces_b59 at h
  refine xo_iconst d_W_alarmOfPlaces_59 xic_0 ?_
  exact xo_retIH d_W_alarmOfPlaces_60 rfl rfl rfl h
theorem ks_W_alarmOfPlaces_19 (X : xX) (sz : Nat) (ro : Int32 × xw) (r19 : xw → Nat → Int32 → Nat → Int32 → Option (Int32 × xw)) (R19 : ∀ (w : xw) (l0 : Nat) (l1 : Int32) (l2 : Nat) (l3 : Int32), r19 w l0 l1 l2 l3 = some ro → k_W_alarmOfPlaces X [(0, .ref l0), (1, .int l1), (2, .ref l2), (3, .int l3)] [] w sz 0 0 19 (some (.int ro.1), ro.2, sz)) (w : xw) (l0 : Nat) (l1 : Int32) (l2 : Nat) (l3 : Int32) (h : f_W_alarmOfPlaces_s19 r19 w l0 l1 l2 l3 = some ro) : k_W_alarmOfPlaces X [(0, .ref l0), (1, .int l1), (2, .ref l2), (3, .int l3)] [] w sz 0 0 19 (some (.int ro.1), ro.2, sz) := by
  unfold f_W_alarmOfPlaces_s19 at h
  refine xo_iload_n 1 d_W_alarmOfPlaces_19 rfl rfl ?_
  refine xo_bipush d_W_alarmOfPlaces_20 xbp_12 ?_
  refine xo_icmp_ne d_W_alarmOfPlaces_22 h (fun h => ?_) (fun h => ?_)
  · exact xo_sub [] [] rfl (kb_W_alarmOfPlaces_59 X sz ro _ h)
  · refine xo_iload_n 3 d_W_alarmOfPlaces_25 rfl rfl ?_
    refine xo_i2l d_W_alarmOfPlaces_26 ?_
    refine xo_aload_n 2 d_W_alarmOfPlaces_27 rfl rfl ?_
    refine xo_getL 4 d_W_alarmOfPlaces_28 xc_2 rfl tw_126 rfl h (fun x1 h => ?_)
    refine xo_lcgt d_W_alarmOfPlaces_31 d_W_alarmOfPlaces_32 h (fun h => ?_) (fun h => ?_)
    · exact xo_sub [] [] rfl (kb_W_alarmOfPlaces_59 X sz ro _ h)
    · refine xo_aload_n 0 d_W_alarmOfPlaces_35 rfl rfl ?_
      refine xo_getR 1 d_W_alarmOfPlaces_36 xc_7 rfl tw_167 rfl h (fun a2 h => ?_)
      refine xo_getR 1 d_W_alarmOfPlaces_39 xc_6 rfl tw_157 rfl h (fun a3 h => ?_)
      refine xo_iload_n 3 d_W_alarmOfPlaces_42 rfl rfl ?_
      refine xo_aldR d_W_alarmOfPlaces_43 h (fun a4 h => ?_)
      refine xo_getI 0 d_W_alarmOfPlaces_44 xc_2 rfl tw_116 rfl h (fun x5 h => ?_)
      refine xo_if_ne d_W_alarmOfPlaces_47 h (fun h => ?_) (fun h => ?_)
      · refine xo_iinc 3 (fun x6 => [(3, .int x6), (0, .ref l0), (1, .int l1), (2, .ref l2)]) d_W_alarmOfPlaces_53 rfl rfl xic_1 (fun _ => rfl) h (fun x6 h => ?_)
        refine xo_goto d_W_alarmOfPlaces_56 ?_
        exact xo_sub [1, 2, 3, 0] [(0, .ref l0), (1, .int l1), (2, .ref l2), (3, .int x6)] rfl (R19 _ _ _ _ _ h)
      · refine xo_bipush d_W_alarmOfPlaces_50 xbp_6 ?_
        exact xo_retIH d_W_alarmOfPlaces_52 rfl rfl rfl h
theorem kb_W_alarmOfPlaces_19 (X : xX) (sz : Nat) (ro : Int32 × xw) (n : Nat) : ∀ (w : xw) (l0 : Nat) (l1 : Int32) (l2 : Nat) (l3 : Int32), f_W_alarmOfPlaces_b19 n w l0 l1 l2 l3 = some ro → k_W_alarmOfPlaces X [(0, .ref l0), (1, .int l1), (2, .ref l2), (3, .int l3)] [] w sz 0 0 19 (some (.int ro.1), ro.2, sz) := by
  unfold f_W_alarmOfPlaces_b19
  refine xfix_ind (P := fun (r19 : xw → Nat → Int32 → Nat → Int32 → Option (Int32 × xw)) => ∀ (w : xw) (l0 : Nat) (l1 : Int32) (l2 : Nat) (l3 : Int32), r19 w l0 l1 l2 l3 = some ro → k_W_alarmOfPlaces X [(0, .ref l0), (1, .int l1), (2, .ref l2), (3, .int l3)] [] w sz 0 0 19 (some (.int ro.1), ro.2, sz)) ?_ ?_ n
  · intro _ _ _ _ _ h
    cases h
  · intro r R w l0 l1 l2 l3 h
    exact ks_W_alarmOfPlaces_19 X sz ro r R _ _ _ _ _ h
theorem kb_W_alarmOfPlaces_0 (X : xX) (sz : Nat) (ro : Int32 × xw) (w : xw) (l0 : Nat) (l1 : Int32) (l2 : Nat) (h : f_W_alarmOfPlaces w l0 l1 l2 = some ro) : k_W_alarmOfPlaces X [(0, .ref l0), (1, .int l1), (2, .ref l2)] [] w sz 0 0 0 (some (.int ro.1), ro.2, sz) := by
  unfold f_W_alarmOfPlaces at h
  refine xo_aload_n 2 d_W_alarmOfPlaces_0 rfl rfl ?_
  refine xo_getL 4 d_W_alarmOfPlaces_1 xc_2 rfl tw_126 rfl h (fun x1 h => ?_)
  refine xo_ldc2 d_W_alarmOfPlaces_4 tw_355 ?_
  refine xo_lclt d_W_alarmOfPlaces_7 d_W_alarmOfPlaces_8 h (fun h => ?_) (fun h => ?_)
  · refine xo_aload_n 2 d_W_alarmOfPlaces_13 rfl rfl ?_
    refine xo_getL 3 d_W_alarmOfPlaces_14 xc_2 rfl tw_123 rfl h (fun x2 h => ?_)
    refine xo_l2i d_W_alarmOfPlaces_17 ?_
    refine xo_istore_n [(3, .int x2.toInt32), (0, .ref l0), (1, .int l1), (2, .ref l2)] d_W_alarmOfPlaces_18 rfl rfl rfl ?_
    exact xo_sub [1, 2, 3, 0] [(0, .ref l0), (1, .int l1), (2, .ref l2), (3, .int x2.toInt32)] rfl (kb_W_alarmOfPlaces_19 X sz ro _ _ _ _ _ _ h)
  · refine xo_iconst d_W_alarmOfPlaces_11 xic_5 ?_
    exact xo_retIH d_W_alarmOfPlaces_12 rfl rfl rfl h
theorem c_W_alarmOfPlaces (l : Launch) (D : va_G) (cT : Nat → ClassId) (sz : Nat) (w : xw) (l0 : Nat) (l1 : Int32) (l2 : Nat) (ro : Int32 × xw) (h : f_W_alarmOfPlaces w l0 l1 l2 = some ro) : xM l y_W_alarmOfPlaces b_W_alarmOfPlaces 4 t_W_alarmOfPlaces R_W_alarmOfPlaces D cT [.ref l0, .int l1, .ref l2] w sz (some (.int ro.1), ro.2, sz) :=
  xm_of bl_W_alarmOfPlaces rfl rfl (kb_W_alarmOfPlaces_0 (l, D, cT, [.ref l0, .int l1, .ref l2], w, sz) sz ro w l0 l1 l2 h)
theorem kb_W_alarmAt_150 (X : xX) (sz : Nat) (ro : Int32 × xw) (w : xw) (s0 : Int32) (h : f_W_alarmAt_b150 w s0 = some ro) : k_W_alarmAt X [] [.int s0] w sz 0 0 150 (some (.int ro.1), ro.2, sz) := by
  unfold f_W_alarmAt_b150 at h
  exact xo_retIH d_W_alarmAt_150 rfl rfl rfl h
theorem kb_W_alarmAt_103 (X : xX) (sz : Nat) (ro : Int32 × xw) (w : xw) (l0 : Nat) (l2 : Nat) (h : f_W_alarmAt_b103 w l0 l2 = some ro) : k_W_alarmAt X [(0, .ref l0), (2, .ref l2)] [] w sz 0 0 103 (some (.int ro.1), ro.2, sz) := by
  unfold f_W_alarmAt_b103 at h
  refine xo_aload_n 0 d_W_alarmAt_103 rfl rfl ?_
  refine xo_aload_n 1 d_W_alarmAt_104 rfl rfl ?_
  refine xo_getI 0 d_W_alarmAt_105 xc_1 rfl tw_43 rfl h (fun x1 h => ?_)
  refine xo_aload_n 0 d_W_alarmAt_108 rfl rfl ?_
  refine xo_aload_n 1 d_W_alarmAt_109 rfl rfl ?_
  refine xo_V_RH (rest := [.int x1, .ref l0]) [.ref l2] d_W_alarmAt_110 tw_343 yw_W_knownOfY h xc_7 (fun z e => c_W_knownOfY _ _ _ _ _ _ _ z e) rfl ⟨rfl, rfl⟩ rfl rfl rfl (fun q2 h => ?_)
  refine xo_V_IH (rest := []) [.int x1, .ref q2.1] d_W_alarmAt_113 tw_351 yw_W_alarmOfPlaces h xc_7 (fun z e => c_W_alarmOfPlaces _ _ _ _ _ _ _ _ z e) rfl ⟨rfl, rfl⟩ rfl rfl rfl (fun q3 h => ?_)
  exact xo_retIH d_W_alarmAt_116 rfl rfl rfl h
theorem kb_W_alarmAt_102 (X : xX) (sz : Nat) (ro : Int32 × xw) (w : xw) (s0 : Int32) (h : f_W_alarmAt_b102 w s0 = some ro) : k_W_alarmAt X [] [.int s0] w sz 0 0 102 (some (.int ro.1), ro.2, sz) := by
  unfold f_W_alarmAt_b102 at h
  exact xo_retIH d_W_alarmAt_102 rfl rfl rfl h
theorem kb_W_alarmAt_84 (X : xX) (sz : Nat) (ro : Int32 × xw) (w : xw) (l0 : Nat) (l2 : Nat) (h : f_W_alarmAt_b84 w l0 l2 = some ro) : k_W_alarmAt X [(0, .ref l0), (2, .ref l2)] [] w sz 0 0 84 (some (.int ro.1), ro.2, sz) := by
  unfold f_W_alarmAt_b84 at h
  refine xo_aload_n 0 d_W_alarmAt_84 rfl rfl ?_
  refine xo_aload_n 1 d_W_alarmAt_85 rfl rfl ?_
  refine xo_V_RH (rest := []) [.ref l2] d_W_alarmAt_86 tw_343 yw_W_knownOfY h xc_7 (fun z e => c_W_knownOfY _ _ _ _ _ _ _ z e) rfl ⟨rfl, rfl⟩ rfl rfl rfl (fun q1 h => ?_)
  refine xo_getL 3 d_W_alarmAt_89 xc_2 rfl tw_123 rfl h (fun x2 h => ?_)
  refine xo_lconst d_W_alarmAt_92 xlc_0 ?_
  refine xo_lcne d_W_alarmAt_93 d_W_alarmAt_94 h (fun h => ?_) (fun h => ?_)
  · refine xo_iconst d_W_alarmAt_101 xic_0 ?_
    exact xo_sub [] [] rfl (kb_W_alarmAt_102 X sz ro _ _ h)
  · refine xo_iconst d_W_alarmAt_97 xic_4 ?_
    refine xo_goto d_W_alarmAt_98 ?_
    exact xo_sub [] [] rfl (kb_W_alarmAt_102 X sz ro _ _ h)
theorem kb_W_alarmAt_0 (X : xX) (sz : Nat) (ro : Int32 × xw) (w : xw) (l0 : Nat) (l1 : Int32) (h : f_W_alarmAt w l0 l1 = some ro) : k_W_alarmAt X [(0, .ref l0), (1, .int l1)] [] w sz 0 0 0 (some (.int ro.1), ro.2, sz) := by
  unfold f_W_alarmAt at h
  refine xo_iload_n 1 d_W_alarmAt_0 rfl rfl ?_
  refine xo_aload_n 0 d_W_alarmAt_1 rfl rfl ?_
  refine xo_getR 0 d_W_alarmAt_2 xc_7 rfl tw_166 rfl h (fun a1 h => ?_)
  refine xo_getI 1 d_W_alarmAt_5 xc_5 rfl tw_73 rfl h (fun x2 h => ?_)
  refine xo_icmp_lt d_W_alarmAt_8 h (fun h => ?_) (fun h => ?_)
  · refine xo_aload_n 0 d_W_alarmAt_13 rfl rfl ?_
    refine xo_getI 9 d_W_alarmAt_14 xc_7 rfl tw_177 rfl h (fun x3 h => ?_)
    refine xo_sipush d_W_alarmAt_17 xsp_300 ?_
    refine xo_icmp_le d_W_alarmAt_20 h (fun h => ?_) (fun h => ?_)
    · refine xo_aload_n 0 d_W_alarmAt_25 rfl rfl ?_
      refine xo_getR 0 d_W_alarmAt_26 xc_7 rfl tw_166 rfl h (fun a4 h => ?_)
      refine xo_getR 0 d_W_alarmAt_29 xc_5 rfl tw_70 rfl h (fun a5 h => ?_)
      refine xo_iload_n 1 d_W_alarmAt_32 rfl rfl ?_
      refine xo_aldR d_W_alarmAt_33 h (fun a6 h => ?_)
      refine xo_astore_n [(2, .ref a6), (0, .ref l0), (1, .int l1)] d_W_alarmAt_34 rfl rfl rfl ?_
      refine xo_aload_n 1 d_W_alarmAt_35 rfl rfl ?_
      refine xo_aload_n 0 d_W_alarmAt_36 rfl rfl ?_
      refine xo_V_IH (rest := []) [.ref a6] d_W_alarmAt_37 tw_331 yw_W_readsUnset h xc_7 (fun z e => c_W_readsUnset _ _ _ _ _ _ _ z e) rfl ⟨rfl, rfl⟩ rfl rfl rfl (fun q7 h => ?_)
      refine xo_if_eq d_W_alarmAt_40 h (fun h => ?_) (fun h => ?_)
      · refine xo_aload_n 0 d_W_alarmAt_45 rfl rfl ?_
        refine xo_getI 0 d_W_alarmAt_46 xc_1 rfl tw_43 rfl h (fun x8 h => ?_)
        rcases xif h with ⟨hc0, h⟩ | ⟨hc0, h⟩
        · refine xo_tableIn 35 84 d_W_alarmAt_49 (by rw [hc0]; decide) (by rw [hc0]; decide) (by rw [hc0]; decide) (by decide) ?_
          exact xo_sub [1, 0] [(0, .ref l0), (2, .ref a6)] rfl (kb_W_alarmAt_84 X sz ro _ _ _ h)
        rcases xif h with ⟨hc1, h⟩ | ⟨hc1, h⟩
        · refine xo_tableIn 35 84 d_W_alarmAt_49 (by rw [hc1]; decide) (by rw [hc1]; decide) (by rw [hc1]; decide) (by decide) ?_
          exact xo_sub [1, 0] [(0, .ref l0), (2, .ref a6)] rfl (kb_W_alarmAt_84 X sz ro _ _ _ h)
        rcases xif h with ⟨hc2, h⟩ | ⟨hc2, h⟩
        · refine xo_tableIn 54 103 d_W_alarmAt_49 (by rw [hc2]; decide) (by rw [hc2]; decide) (by rw [hc2]; decide) (by decide) ?_
          exact xo_sub [1, 0] [(0, .ref l0), (2, .ref a6)] rfl (kb_W_alarmAt_103 X sz ro _ _ _ h)
        rcases xif h with ⟨hc3, h⟩ | ⟨hc3, h⟩
        · refine xo_tableIn 54 103 d_W_alarmAt_49 (by rw [hc3]; decide) (by rw [hc3]; decide) (by rw [hc3]; decide) (by decide) ?_
          exact xo_sub [1, 0] [(0, .ref l0), (2, .ref a6)] rfl (kb_W_alarmAt_103 X sz ro _ _ _ h)
        rcases xif h with ⟨hc4, h⟩ | ⟨hc4, h⟩
        · refine xo_tableIn 68 117 d_W_alarmAt_49 (by rw [hc4]; decide) (by rw [hc4]; decide) (by rw [hc4]; decide) (by decide) ?_
          refine xo_aload_n 0 d_W_alarmAt_117 rfl rfl ?_
          refine xo_getI 3 d_W_alarmAt_118 xc_1 rfl tw_52 rfl h (fun x9 h => ?_)
          refine xo_aload_n 0 d_W_alarmAt_121 rfl rfl ?_
          refine xo_getI 4 d_W_alarmAt_122 xc_1 rfl tw_55 rfl h (fun x10 h => ?_)
          refine xo_iadd d_W_alarmAt_125 ?_
          refine xo_aload_n 1 d_W_alarmAt_126 rfl rfl ?_
          refine xo_getR 1 d_W_alarmAt_127 xc_7 rfl tw_167 rfl h (fun a11 h => ?_)
          refine xo_getR 0 d_W_alarmAt_130 xc_6 rfl tw_154 rfl h (fun a12 h => ?_)
          refine xo_aload_n 0 d_W_alarmAt_133 rfl rfl ?_
          refine xo_getI 2 d_W_alarmAt_134 xc_1 rfl tw_49 rfl h (fun x13 h => ?_)
          refine xo_aldR d_W_alarmAt_137 h (fun a14 h => ?_)
          refine xo_getI 7 d_W_alarmAt_138 xc_2 rfl tw_134 rfl h (fun x15 h => ?_)
          refine xo_icmp_le d_W_alarmAt_141 h (fun h => ?_) (fun h => ?_)
          · refine xo_iconst d_W_alarmAt_149 xic_0 ?_
            exact xo_sub [] [] rfl (kb_W_alarmAt_150 X sz ro _ _ h)
          · refine xo_bipush d_W_alarmAt_144 xbp_7 ?_
            refine xo_goto d_W_alarmAt_146 ?_
            exact xo_sub [] [] rfl (kb_W_alarmAt_150 X sz ro _ _ h)
        refine xo_tableOut 151 d_W_alarmAt_49 (by have n0 := lv_neT hc0 (a := 10) (by decide); have n1 := lv_neT hc1 (a := 11) (by decide); have n2 := lv_neT hc2 (a := 12) (by decide); have n3 := lv_neT hc3 (a := 13) (by decide); have n4 := lv_neT hc4 (a := 14) (by decide); omega) (by decide) ?_
        refine xo_iconst d_W_alarmAt_151 xic_0 ?_
        exact xo_retIH d_W_alarmAt_152 rfl rfl rfl h
      · refine xo_iconst d_W_alarmAt_43 xic_3 ?_
        exact xo_retIH d_W_alarmAt_44 rfl rfl rfl h
    · refine xo_iconst d_W_alarmAt_23 xic_2 ?_
      exact xo_retIH d_W_alarmAt_24 rfl rfl rfl h
  · refine xo_iconst d_W_alarmAt_11 xic_1 ?_
    exact xo_retIH d_W_alarmAt_12 rfl rfl rfl h
theorem c_W_alarmAt (l : Launch) (D : va_G) (cT : Nat → ClassId) (sz : Nat) (w : xw) (l0 : Nat) (l1 : Int32) (ro : Int32 × xw) (h : f_W_alarmAt w l0 l1 = some ro) : xM l y_W_alarmAt b_W_alarmAt 3 t_W_alarmAt R_W_alarmAt D cT [.ref l0, .int l1] w sz (some (.int ro.1), ro.2, sz) :=
  xm_of bl_W_alarmAt rfl rfl (kb_W_alarmAt_0 (l, D, cT, [.ref l0, .int l1], w, sz) sz ro w l0 l1 h)
theorem kb_K_take_0 (X : xX) (sz : Nat) (ro : Unit × xw) (w : xw) (l0 : Nat) (l1 : Nat) (h : f_K_take w l0 l1 = some ro) : k_K_take X [(0, .ref l0), (1, .ref l1)] [] w sz 0 0 0 (none, ro.2, sz) := by
  unfold f_K_take at h
  refine xo_aload_n 0 d_K_take_0 rfl rfl ?_
  refine xo_aload_n 1 d_K_take_1 rfl rfl ?_
  refine xo_getI 0 d_K_take_2 xc_2 rfl tw_114 rfl h (fun x1 h => ?_)
  refine xo_putZ 0 d_K_take_5 xc_2 rfl tw_114 rfl rfl rfl h (fun w2 h => ?_)
  refine xo_aload_n 0 d_K_take_8 rfl rfl ?_
  refine xo_aload_n 1 d_K_take_9 rfl rfl ?_
  refine xo_getI 1 d_K_take_10 xc_2 rfl tw_117 rfl h (fun x3 h => ?_)
  refine xo_putI 1 d_K_take_13 xc_2 rfl tw_117 rfl rfl rfl rfl h (fun w4 h => ?_)
  refine xo_aload_n 0 d_K_take_16 rfl rfl ?_
  refine xo_aload_n 1 d_K_take_17 rfl rfl ?_
  refine xo_getI 2 d_K_take_18 xc_2 rfl tw_119 rfl h (fun x5 h => ?_)
  refine xo_putI 2 d_K_take_21 xc_2 rfl tw_119 rfl rfl rfl rfl h (fun w6 h => ?_)
  refine xo_aload_n 0 d_K_take_24 rfl rfl ?_
  refine xo_aload_n 1 d_K_take_25 rfl rfl ?_
  refine xo_getL 3 d_K_take_26 xc_2 rfl tw_121 rfl h (fun x7 h => ?_)
  refine xo_aload_n 1 d_K_take_29 rfl rfl ?_
  refine xo_getL 4 d_K_take_30 xc_2 rfl tw_124 rfl h (fun x8 h => ?_)
  refine xo_V_VH (rest := []) [.long x7, .long x8] d_K_take_33 tw_291 yw_K_boundUnsigned h xc_2 (fun z e => c_K_boundUnsigned _ _ _ _ _ _ _ _ z e) rfl ⟨rfl, rfl⟩ rfl rfl rfl (fun q9 h => ?_)
  refine xo_aload_n 0 d_K_take_36 rfl rfl ?_
  refine xo_aload_n 1 d_K_take_37 rfl rfl ?_
  refine xo_getL 5 d_K_take_38 xc_2 rfl tw_127 rfl h (fun x10 h => ?_)
  refine xo_aload_n 1 d_K_take_41 rfl rfl ?_
  refine xo_getL 6 d_K_take_42 xc_2 rfl tw_130 rfl h (fun x11 h => ?_)
  refine xo_V_VH (rest := []) [.long x10, .long x11] d_K_take_45 tw_295 yw_K_boundSigned h xc_2 (fun z e => c_K_boundSigned _ _ _ _ _ _ _ _ z e) rfl ⟨rfl, rfl⟩ rfl rfl rfl (fun q12 h => ?_)
  refine xo_aload_n 0 d_K_take_48 rfl rfl ?_
  refine xo_aload_n 1 d_K_take_49 rfl rfl ?_
  refine xo_getI 7 d_K_take_50 xc_2 rfl tw_133 rfl h (fun x13 h => ?_)
  refine xo_putI 7 d_K_take_53 xc_2 rfl tw_133 rfl rfl rfl rfl h (fun w14 h => ?_)
  exact xo_retVH d_K_take_56 rfl rfl rfl h
theorem c_K_take (l : Launch) (D : va_G) (cT : Nat → ClassId) (sz : Nat) (w : xw) (l0 : Nat) (l1 : Nat) (ro : Unit × xw) (h : f_K_take w l0 l1 = some ro) : xM l y_K_take b_K_take 2 t_K_take R_K_take D cT [.ref l0, .ref l1] w sz (none, ro.2, sz) :=
  xm_of bl_K_take rfl rfl (kb_K_take_0 (l, D, cT, [.ref l0, .ref l1], w, sz) sz ro w l0 l1 h)
theorem ks_S_take_31 (X : xX) (sz : Nat) (ro : Unit × xw) (r31 : xw → Nat → Nat → Int32 → Option (Unit × xw)) (R31 : ∀ (w : xw) (l0 : Nat) (l1 : Nat) (l2 : Int32), r31 w l0 l1 l2 = some ro → k_S_take X [(0, .ref l0), (1, .ref l1), (2, .int l2)] [] w sz 0 0 31 (none, ro.2, sz)) (w : xw) (l0 : Nat) (l1 : Nat) (l2 : Int32) (h : f_S_take_s31 r31 w l0 l1 l2 = some ro) : k_S_take X [(0, .ref l0), (1, .ref l1), (2, .int l2)] [] w sz 0 0 31 (none, ro.2, sz) := by
  unfold f_S_take_s31 at h
  refine xo_iload_n 2 d_S_take_31 rfl rfl ?_
  refine xo_iconst d_S_take_32 xic_4 ?_
  refine xo_icmp_ge d_S_take_33 h (fun h => ?_) (fun h => ?_)
  · exact xo_retVH d_S_take_57 rfl rfl rfl h
  · refine xo_aload_n 0 d_S_take_36 rfl rfl ?_
    refine xo_getR 1 d_S_take_37 xc_6 rfl tw_156 rfl h (fun a1 h => ?_)
    refine xo_iload_n 2 d_S_take_40 rfl rfl ?_
    refine xo_aldR d_S_take_41 h (fun a2 h => ?_)
    refine xo_aload_n 1 d_S_take_42 rfl rfl ?_
    refine xo_getR 1 d_S_take_43 xc_6 rfl tw_156 rfl h (fun a3 h => ?_)
    refine xo_iload_n 2 d_S_take_46 rfl rfl ?_
    refine xo_aldR d_S_take_47 h (fun a4 h => ?_)
    refine xo_V_VH (rest := []) [.ref a4] d_S_take_48 tw_364 yw_K_take h xc_2 (fun z e => c_K_take _ _ _ _ _ _ _ z e) rfl ⟨rfl, rfl⟩ rfl rfl rfl (fun q5 h => ?_)
    refine xo_iinc 2 (fun x6 => [(2, .int x6), (0, .ref l0), (1, .ref l1)]) d_S_take_51 rfl rfl xic_1 (fun _ => rfl) h (fun x6 h => ?_)
    refine xo_goto d_S_take_54 ?_
    exact xo_sub [1, 2, 0] [(0, .ref l0), (1, .ref l1), (2, .int x6)] rfl (R31 _ _ _ _ h)
theorem kb_S_take_31 (X : xX) (sz : Nat) (ro : Unit × xw) (n : Nat) : ∀ (w : xw) (l0 : Nat) (l1 : Nat) (l2 : Int32), f_S_take_b31 n w l0 l1 l2 = some ro → k_S_take X [(0, .ref l0), (1, .ref l1), (2, .int l2)] [] w sz 0 0 31 (none, ro.2, sz) := by
  unfold f_S_take_b31
  refine xfix_ind (P := fun (r31 : xw → Nat → Nat → Int32 → Option (Unit × xw)) => ∀ (w : xw) (l0 : Nat) (l1 : Nat) (l2 : Int32), r31 w l0 l1 l2 = some ro → k_S_take X [(0, .ref l0), (1, .ref l1), (2, .int l2)] [] w sz 0 0 31 (none, ro.2, sz)) ?_ ?_ n
  · intro _ _ _ _ h
    cases h
  · intro r R w l0 l1 l2 h
    exact ks_S_take_31 X sz ro r R _ _ _ _ h
theorem ks_S_take_2 (X : xX) (sz : Nat) (ro : Unit × xw) (r2 : xw → Nat → Nat → Int32 → Option (Unit × xw)) (R2 : ∀ (w : xw) (l0 : Nat) (l1 : Nat) (l2 : Int32), r2 w l0 l1 l2 = some ro → k_S_take X [(0, .ref l0), (1, .ref l1), (2, .int l2)] [] w sz 0 0 2 (none, ro.2, sz)) (w : xw) (l0 : Nat) (l1 : Nat) (l2 : Int32) (h : f_S_take_s2 r2 w l0 l1 l2 = some ro) : k_S_take X [(0, .ref l0), (1, .ref l1), (2, .int l2)] [] w sz 0 0 2 (none, ro.2, sz) := by
  unfold f_S_take_s2 at h
  refine xo_iload_n 2 d_S_take_2 rfl rfl ?_
  refine xo_bipush d_S_take_3 xbp_6 ?_
  refine xo_icmp_ge d_S_take_5 h (fun h => ?_) (fun h => ?_)
  · refine xo_iconst d_S_take_29 xic_0 ?_
    refine xo_nmI h (fun x1 h => ?_)
    refine xo_istore_n [(2, .int x1), (0, .ref l0), (1, .ref l1)] d_S_take_30 rfl rfl rfl ?_
    exact xo_sub [1, 2, 0] [(0, .ref l0), (1, .ref l1), (2, .int x1)] rfl (kb_S_take_31 X sz ro _ _ _ _ _ h)
  · refine xo_aload_n 0 d_S_take_8 rfl rfl ?_
    refine xo_getR 0 d_S_take_9 xc_6 rfl tw_153 rfl h (fun a2 h => ?_)
    refine xo_iload_n 2 d_S_take_12 rfl rfl ?_
    refine xo_aldR d_S_take_13 h (fun a3 h => ?_)
    refine xo_aload_n 1 d_S_take_14 rfl rfl ?_
    refine xo_getR 0 d_S_take_15 xc_6 rfl tw_153 rfl h (fun a4 h => ?_)
    refine xo_iload_n 2 d_S_take_18 rfl rfl ?_
    refine xo_aldR d_S_take_19 h (fun a5 h => ?_)
    refine xo_V_VH (rest := []) [.ref a5] d_S_take_20 tw_364 yw_K_take h xc_2 (fun z e => c_K_take _ _ _ _ _ _ _ z e) rfl ⟨rfl, rfl⟩ rfl rfl rfl (fun q6 h => ?_)
    refine xo_iinc 2 (fun x7 => [(2, .int x7), (0, .ref l0), (1, .ref l1)]) d_S_take_23 rfl rfl xic_1 (fun _ => rfl) h (fun x7 h => ?_)
    refine xo_goto d_S_take_26 ?_
    exact xo_sub [1, 2, 0] [(0, .ref l0), (1, .ref l1), (2, .int x7)] rfl (R2 _ _ _ _ h)
theorem kb_S_take_2 (X : xX) (sz : Nat) (ro : Unit × xw) (n : Nat) : ∀ (w : xw) (l0 : Nat) (l1 : Nat) (l2 : Int32), f_S_take_b2 n w l0 l1 l2 = some ro → k_S_take X [(0, .ref l0), (1, .ref l1), (2, .int l2)] [] w sz 0 0 2 (none, ro.2, sz) := by
  unfold f_S_take_b2
  refine xfix_ind (P := fun (r2 : xw → Nat → Nat → Int32 → Option (Unit × xw)) => ∀ (w : xw) (l0 : Nat) (l1 : Nat) (l2 : Int32), r2 w l0 l1 l2 = some ro → k_S_take X [(0, .ref l0), (1, .ref l1), (2, .int l2)] [] w sz 0 0 2 (none, ro.2, sz)) ?_ ?_ n
  · intro _ _ _ _ h
    cases h
  · intro r R w l0 l1 l2 h
    exact ks_S_take_2 X sz ro r R _ _ _ _ h
theorem kb_S_take_0 (X : xX) (sz : Nat) (ro : Unit × xw) (w : xw) (l0 : Nat) (l1 : Nat) (h : f_S_take w l0 l1 = some ro) : k_S_take X [(0, .ref l0), (1, .ref l1)] [] w sz 0 0 0 (none, ro.2, sz) := by
  unfold f_S_take at h
  refine xo_iconst d_S_take_0 xic_0 ?_
  refine xo_nmI h (fun x1 h => ?_)
  refine xo_istore_n [(2, .int x1), (0, .ref l0), (1, .ref l1)] d_S_take_1 rfl rfl rfl ?_
  exact xo_sub [1, 2, 0] [(0, .ref l0), (1, .ref l1), (2, .int x1)] rfl (kb_S_take_2 X sz ro _ _ _ _ _ h)
theorem c_S_take (l : Launch) (D : va_G) (cT : Nat → ClassId) (sz : Nat) (w : xw) (l0 : Nat) (l1 : Nat) (ro : Unit × xw) (h : f_S_take w l0 l1 = some ro) : xM l y_S_take b_S_take 3 t_S_take R_S_take D cT [.ref l0, .ref l1] w sz (none, ro.2, sz) :=
  xm_of bl_S_take rfl rfl (kb_S_take_0 (l, D, cT, [.ref l0, .ref l1], w, sz) sz ro w l0 l1 h)
theorem ks_W_resume_3 (X : xX) (sz : Nat) (ro : Int32 × xw) (r3 : xw → Nat → Int32 → Option (Int32 × xw)) (R3 : ∀ (w : xw) (l0 : Nat) (l1 : Int32), r3 w l0 l1 = some ro → k_W_resume X [(0, .ref l0), (1, .int l1)] [] w sz 0 0 3 (some (.int ro.1), ro.2, sz)) (w : xw) (l0 : Nat) (l1 : Int32) (h : f_W_resume_s3 r3 w l0 l1 = some ro) : k_W_resume X [(0, .ref l0), (1, .int l1)] [] w sz 0 0 3 (some (.int ro.1), ro.2, sz) := by
  unfold f_W_resume_s3 at h
  refine xo_iload_n 1 d_W_resume_3 rfl rfl ?_
  refine xo_if_lt d_W_resume_4 h (fun h => ?_) (fun h => ?_)
  · refine xo_iconst d_W_resume_59 xic_m1 ?_
    exact xo_retIH d_W_resume_60 rfl rfl rfl h
  · refine xo_aload_n 0 d_W_resume_7 rfl rfl ?_
    refine xo_getR 3 d_W_resume_8 xc_7 rfl tw_169 rfl h (fun a1 h => ?_)
    refine xo_iload_n 1 d_W_resume_11 rfl rfl ?_
    refine xo_aldZ d_W_resume_12 h (fun x2 h => ?_)
    refine xo_if_eq d_W_resume_13 h (fun h => ?_) (fun h => ?_)
    · refine xo_iinc 1 (fun x3 => [(1, .int x3), (0, .ref l0)]) d_W_resume_53 rfl rfl xic_m1 (fun _ => rfl) h (fun x3 h => ?_)
      refine xo_goto d_W_resume_56 ?_
      exact xo_sub [1, 0] [(0, .ref l0), (1, .int x3)] rfl (R3 _ _ _ h)
    · refine xo_aload_n 0 d_W_resume_16 rfl rfl ?_
      refine xo_getR 3 d_W_resume_17 xc_7 rfl tw_169 rfl h (fun a4 h => ?_)
      refine xo_iload_n 1 d_W_resume_20 rfl rfl ?_
      refine xo_iconst d_W_resume_21 xic_0 ?_
      refine xo_astZ d_W_resume_22 h (fun w5 h => ?_)
      refine xo_aload_n 0 d_W_resume_23 rfl rfl ?_
      refine xo_getR 1 d_W_resume_24 xc_7 rfl tw_167 rfl h (fun a6 h => ?_)
      refine xo_aload_n 0 d_W_resume_27 rfl rfl ?_
      refine xo_getR 2 d_W_resume_28 xc_7 rfl tw_168 rfl h (fun a7 h => ?_)
      refine xo_iload_n 1 d_W_resume_31 rfl rfl ?_
      refine xo_aldR d_W_resume_32 h (fun a8 h => ?_)
      refine xo_V_VH (rest := []) [.ref a8] d_W_resume_33 tw_360 yw_S_take h xc_6 (fun z e => c_S_take _ _ _ _ _ _ _ z e) rfl ⟨rfl, rfl⟩ rfl rfl rfl (fun q9 h => ?_)
      refine xo_iload_n 1 d_W_resume_36 rfl rfl ?_
      refine xo_iconst d_W_resume_37 xic_1 ?_
      refine xo_iadd d_W_resume_38 ?_
      refine xo_aload_n 0 d_W_resume_39 rfl rfl ?_
      refine xo_getR 0 d_W_resume_40 xc_7 rfl tw_166 rfl h (fun a10 h => ?_)
      refine xo_getR 0 d_W_resume_43 xc_5 rfl tw_70 rfl h (fun a11 h => ?_)
      refine xo_iload_n 1 d_W_resume_46 rfl rfl ?_
      refine xo_aldR d_W_resume_47 h (fun a12 h => ?_)
      refine xo_getI 4 d_W_resume_48 xc_1 rfl tw_55 rfl h (fun x13 h => ?_)
      refine xo_iadd d_W_resume_51 ?_
      exact xo_retIH d_W_resume_52 rfl rfl rfl h
theorem kb_W_resume_3 (X : xX) (sz : Nat) (ro : Int32 × xw) (n : Nat) : ∀ (w : xw) (l0 : Nat) (l1 : Int32), f_W_resume_b3 n w l0 l1 = some ro → k_W_resume X [(0, .ref l0), (1, .int l1)] [] w sz 0 0 3 (some (.int ro.1), ro.2, sz) := by
  unfold f_W_resume_b3
  refine xfix_ind (P := fun (r3 : xw → Nat → Int32 → Option (Int32 × xw)) => ∀ (w : xw) (l0 : Nat) (l1 : Int32), r3 w l0 l1 = some ro → k_W_resume X [(0, .ref l0), (1, .int l1)] [] w sz 0 0 3 (some (.int ro.1), ro.2, sz)) ?_ ?_ n
  · intro _ _ _ h
    cases h
  · intro r R w l0 l1 h
    exact ks_W_resume_3 X sz ro r R _ _ _ h
theorem kb_W_resume_0 (X : xX) (sz : Nat) (ro : Int32 × xw) (w : xw) (l0 : Nat) (h : f_W_resume w l0 = some ro) : k_W_resume X [(0, .ref l0)] [] w sz 0 0 0 (some (.int ro.1), ro.2, sz) := by
  unfold f_W_resume at h
  refine xo_bipush d_W_resume_0 xbp_23 ?_
  refine xo_nmI h (fun x1 h => ?_)
  refine xo_istore_n [(1, .int x1), (0, .ref l0)] d_W_resume_2 rfl rfl rfl ?_
  exact xo_sub [1, 0] [(0, .ref l0), (1, .int x1)] rfl (kb_W_resume_3 X sz ro _ _ _ _ h)
theorem c_W_resume (l : Launch) (D : va_G) (cT : Nat → ClassId) (sz : Nat) (w : xw) (l0 : Nat) (ro : Int32 × xw) (h : f_W_resume w l0 = some ro) : xM l y_W_resume b_W_resume 2 t_W_resume R_W_resume D cT [.ref l0] w sz (some (.int ro.1), ro.2, sz) :=
  xm_of bl_W_resume rfl rfl (kb_W_resume_0 (l, D, cT, [.ref l0], w, sz) sz ro w l0 h)
theorem kb_W_takePair_0 (X : xX) (sz : Nat) (ro : Unit × xw) (w : xw) (l0 : Nat) (l1 : Nat) (h : f_W_takePair w l0 l1 = some ro) : k_W_takePair X [(0, .ref l0), (1, .ref l1)] [] w sz 0 0 0 (none, ro.2, sz) := by
  unfold f_W_takePair at h
  refine xo_aload_n 0 d_W_takePair_0 rfl rfl ?_
  refine xo_getR 5 d_W_takePair_1 xc_7 rfl tw_171 rfl h (fun a1 h => ?_)
  refine xo_aload_n 0 d_W_takePair_4 rfl rfl ?_
  refine xo_getR 1 d_W_takePair_5 xc_7 rfl tw_167 rfl h (fun a2 h => ?_)
  refine xo_getR 0 d_W_takePair_8 xc_6 rfl tw_154 rfl h (fun a3 h => ?_)
  refine xo_aload_n 1 d_W_takePair_11 rfl rfl ?_
  refine xo_getI 1 d_W_takePair_12 xc_1 rfl tw_46 rfl h (fun x4 h => ?_)
  refine xo_aldR d_W_takePair_15 h (fun a5 h => ?_)
  refine xo_V_VH (rest := []) [.ref a5] d_W_takePair_16 tw_383 yw_K_take h xc_2 (fun z e => c_K_take _ _ _ _ _ _ _ z e) rfl ⟨rfl, rfl⟩ rfl rfl rfl (fun q6 h => ?_)
  refine xo_aload_n 0 d_W_takePair_19 rfl rfl ?_
  refine xo_getR 6 d_W_takePair_20 xc_7 rfl tw_172 rfl h (fun a7 h => ?_)
  refine xo_aload_n 0 d_W_takePair_23 rfl rfl ?_
  refine xo_aload_n 1 d_W_takePair_24 rfl rfl ?_
  refine xo_V_RH (rest := [.ref a7]) [.ref l1] d_W_takePair_25 tw_343 yw_W_knownOfY h xc_7 (fun z e => c_W_knownOfY _ _ _ _ _ _ _ z e) rfl ⟨rfl, rfl⟩ rfl rfl rfl (fun q8 h => ?_)
  refine xo_V_VH (rest := []) [.ref q8.1] d_W_takePair_28 tw_383 yw_K_take h xc_2 (fun z e => c_K_take _ _ _ _ _ _ _ z e) rfl ⟨rfl, rfl⟩ rfl rfl rfl (fun q9 h => ?_)
  exact xo_retVH d_W_takePair_31 rfl rfl rfl h
theorem c_W_takePair (l : Launch) (D : va_G) (cT : Nat → ClassId) (sz : Nat) (w : xw) (l0 : Nat) (l1 : Nat) (ro : Unit × xw) (h : f_W_takePair w l0 l1 = some ro) : xM l y_W_takePair b_W_takePair 2 t_W_takePair R_W_takePair D cT [.ref l0, .ref l1] w sz (none, ro.2, sz) :=
  xm_of bl_W_takePair rfl rfl (kb_W_takePair_0 (l, D, cT, [.ref l0, .ref l1], w, sz) sz ro w l0 l1 h)
theorem kb_K_join_0 (X : xX) (sz : Nat) (ro : Int32 × xw) (w : xw) (l0 : Nat) (l1 : Nat) (h : f_K_join w l0 l1 = some ro) : k_K_join X [(0, .ref l0), (1, .ref l1)] [] w sz 0 0 0 (some (.int ro.1), ro.2, sz) := by
  unfold f_K_join at h
  refine xo_aload_n 0 d_K_join_0 rfl rfl ?_
  refine xo_aload_n 1 d_K_join_1 rfl rfl ?_
  refine xo_getI 1 d_K_join_2 xc_2 rfl tw_117 rfl h (fun x1 h => ?_)
  refine xo_aload_n 1 d_K_join_5 rfl rfl ?_
  refine xo_getI 2 d_K_join_6 xc_2 rfl tw_119 rfl h (fun x2 h => ?_)
  refine xo_V_IH (rest := []) [.int x1, .int x2] d_K_join_9 tw_322 yw_K_contradicts h xc_2 (fun z e => c_K_contradicts _ _ _ _ _ _ _ _ z e) rfl ⟨rfl, rfl⟩ rfl rfl rfl (fun q3 h => ?_)
  refine xo_if_eq d_K_join_12 h (fun h => ?_) (fun h => ?_)
  · refine xo_aload_n 0 d_K_join_17 rfl rfl ?_
    refine xo_dup d_K_join_18 rfl ?_
    refine xo_getI 1 d_K_join_19 xc_2 rfl tw_117 rfl h (fun x4 h => ?_)
    refine xo_aload_n 1 d_K_join_22 rfl rfl ?_
    refine xo_getI 1 d_K_join_23 xc_2 rfl tw_117 rfl h (fun x5 h => ?_)
    refine xo_ior d_K_join_26 ?_
    refine xo_putI 1 d_K_join_27 xc_2 rfl tw_117 rfl rfl rfl rfl h (fun w6 h => ?_)
    refine xo_aload_n 0 d_K_join_30 rfl rfl ?_
    refine xo_dup d_K_join_31 rfl ?_
    refine xo_getI 2 d_K_join_32 xc_2 rfl tw_119 rfl h (fun x7 h => ?_)
    refine xo_aload_n 1 d_K_join_35 rfl rfl ?_
    refine xo_getI 2 d_K_join_36 xc_2 rfl tw_119 rfl h (fun x8 h => ?_)
    refine xo_ior d_K_join_39 ?_
    refine xo_putI 2 d_K_join_40 xc_2 rfl tw_119 rfl rfl rfl rfl h (fun w9 h => ?_)
    refine xo_aload_n 0 d_K_join_43 rfl rfl ?_
    refine xo_aload_n 0 d_K_join_44 rfl rfl ?_
    refine xo_getL 3 d_K_join_45 xc_2 rfl tw_121 rfl h (fun x10 h => ?_)
    refine xo_aload_n 1 d_K_join_48 rfl rfl ?_
    refine xo_getL 3 d_K_join_49 xc_2 rfl tw_121 rfl h (fun x11 h => ?_)
    refine xo_mmaxL d_K_join_52 tw_307 rfl rfl rfl rfl h (fun q12 h => ?_)
    refine xo_aload_n 0 d_K_join_55 rfl rfl ?_
    refine xo_getL 4 d_K_join_56 xc_2 rfl tw_124 rfl h (fun x13 h => ?_)
    refine xo_aload_n 1 d_K_join_59 rfl rfl ?_
    refine xo_getL 4 d_K_join_60 xc_2 rfl tw_124 rfl h (fun x14 h => ?_)
    refine xo_mminL d_K_join_63 tw_310 rfl rfl rfl rfl h (fun q15 h => ?_)
    refine xo_V_VH (rest := []) [.long q12, .long q15] d_K_join_66 tw_291 yw_K_boundUnsigned h xc_2 (fun z e => c_K_boundUnsigned _ _ _ _ _ _ _ _ z e) rfl ⟨rfl, rfl⟩ rfl rfl rfl (fun q16 h => ?_)
    refine xo_aload_n 0 d_K_join_69 rfl rfl ?_
    refine xo_aload_n 0 d_K_join_70 rfl rfl ?_
    refine xo_getL 5 d_K_join_71 xc_2 rfl tw_127 rfl h (fun x17 h => ?_)
    refine xo_aload_n 1 d_K_join_74 rfl rfl ?_
    refine xo_getL 5 d_K_join_75 xc_2 rfl tw_127 rfl h (fun x18 h => ?_)
    refine xo_mmaxL d_K_join_78 tw_307 rfl rfl rfl rfl h (fun q19 h => ?_)
    refine xo_aload_n 0 d_K_join_81 rfl rfl ?_
    refine xo_getL 6 d_K_join_82 xc_2 rfl tw_130 rfl h (fun x20 h => ?_)
    refine xo_aload_n 1 d_K_join_85 rfl rfl ?_
    refine xo_getL 6 d_K_join_86 xc_2 rfl tw_130 rfl h (fun x21 h => ?_)
    refine xo_mminL d_K_join_89 tw_310 rfl rfl rfl rfl h (fun q22 h => ?_)
    refine xo_V_VH (rest := []) [.long q19, .long q22] d_K_join_92 tw_295 yw_K_boundSigned h xc_2 (fun z e => c_K_boundSigned _ _ _ _ _ _ _ _ z e) rfl ⟨rfl, rfl⟩ rfl rfl rfl (fun q23 h => ?_)
    refine xo_aload_n 0 d_K_join_95 rfl rfl ?_
    refine xo_aload_n 0 d_K_join_96 rfl rfl ?_
    refine xo_getI 7 d_K_join_97 xc_2 rfl tw_133 rfl h (fun x24 h => ?_)
    refine xo_aload_n 1 d_K_join_100 rfl rfl ?_
    refine xo_getI 7 d_K_join_101 xc_2 rfl tw_133 rfl h (fun x25 h => ?_)
    refine xo_mmaxI d_K_join_104 tw_392 rfl rfl rfl rfl h (fun q26 h => ?_)
    refine xo_putI 7 d_K_join_107 xc_2 rfl tw_133 rfl rfl rfl rfl h (fun w27 h => ?_)
    refine xo_iconst d_K_join_110 xic_1 ?_
    exact xo_retZH d_K_join_111 rfl rfl rfl h
  · refine xo_iconst d_K_join_15 xic_0 ?_
    exact xo_retZH d_K_join_16 rfl rfl rfl h
theorem c_K_join (l : Launch) (D : va_G) (cT : Nat → ClassId) (sz : Nat) (w : xw) (l0 : Nat) (l1 : Nat) (ro : Int32 × xw) (h : f_K_join w l0 l1 = some ro) : xM l y_K_join b_K_join 2 t_K_join R_K_join D cT [.ref l0, .ref l1] w sz (some (.int ro.1), ro.2, sz) :=
  xm_of bl_K_join rfl rfl (kb_K_join_0 (l, D, cT, [.ref l0, .ref l1], w, sz) sz ro w l0 l1 h)
theorem kb_K_isExact_17 (X : xX) (sz : Nat) (ro : Int32 × xw) (w : xw) (s0 : Int32) (h : f_K_isExact_b17 w s0 = some ro) : k_K_isExact X [] [.int s0] w sz 0 0 17 (some (.int ro.1), ro.2, sz) := by
  unfold f_K_isExact_b17 at h
  exact xo_retZH d_K_isExact_17 rfl rfl rfl h
theorem kb_K_isExact_0 (X : xX) (sz : Nat) (ro : Int32 × xw) (w : xw) (l0 : Nat) (h : f_K_isExact w l0 = some ro) : k_K_isExact X [(0, .ref l0)] [] w sz 0 0 0 (some (.int ro.1), ro.2, sz) := by
  unfold f_K_isExact at h
  refine xo_aload_n 0 d_K_isExact_0 rfl rfl ?_
  refine xo_getL 3 d_K_isExact_1 xc_2 rfl tw_121 rfl h (fun x1 h => ?_)
  refine xo_aload_n 0 d_K_isExact_4 rfl rfl ?_
  refine xo_getL 4 d_K_isExact_5 xc_2 rfl tw_124 rfl h (fun x2 h => ?_)
  refine xo_lcne d_K_isExact_8 d_K_isExact_9 h (fun h => ?_) (fun h => ?_)
  · refine xo_iconst d_K_isExact_16 xic_0 ?_
    exact xo_sub [] [] rfl (kb_K_isExact_17 X sz ro _ _ h)
  · refine xo_iconst d_K_isExact_12 xic_1 ?_
    refine xo_goto d_K_isExact_13 ?_
    exact xo_sub [] [] rfl (kb_K_isExact_17 X sz ro _ _ h)
theorem c_K_isExact (l : Launch) (D : va_G) (cT : Nat → ClassId) (sz : Nat) (w : xw) (l0 : Nat) (ro : Int32 × xw) (h : f_K_isExact w l0 = some ro) : xM l y_K_isExact b_K_isExact 1 t_K_isExact R_K_isExact D cT [.ref l0] w sz (some (.int ro.1), ro.2, sz) :=
  xm_of bl_K_isExact rfl rfl (kb_K_isExact_0 (l, D, cT, [.ref l0], w, sz) sz ro w l0 h)
theorem kb_W_relate_344 (X : xX) (sz : Nat) (ro : Int32 × xw) (w : xw) (s0 : Int32) (h : f_W_relate_b344 w s0 = some ro) : k_W_relate X [] [.int s0] w sz 0 0 344 (some (.int ro.1), ro.2, sz) := by
  unfold f_W_relate_b344 at h
  exact xo_retZH d_W_relate_344 rfl rfl rfl h
theorem kb_W_relate_343 (X : xX) (sz : Nat) (ro : Int32 × xw) (w : xw) (h : f_W_relate_b343 w = some ro) : k_W_relate X [] [] w sz 0 0 343 (some (.int ro.1), ro.2, sz) := by
  unfold f_W_relate_b343 at h
  refine xo_iconst d_W_relate_343 xic_0 ?_
  exact xo_sub [] [] rfl (kb_W_relate_344 X sz ro _ _ h)
theorem kb_W_relate_319 (X : xX) (sz : Nat) (ro : Int32 × xw) (w : xw) (l0 : Nat) (h : f_W_relate_b319 w l0 = some ro) : k_W_relate X [(0, .ref l0)] [] w sz 0 0 319 (some (.int ro.1), ro.2, sz) := by
  unfold f_W_relate_b319 at h
  refine xo_aload_n 0 d_W_relate_319 rfl rfl ?_
  refine xo_getR 5 d_W_relate_320 xc_7 rfl tw_171 rfl h (fun a1 h => ?_)
  refine xo_V_IH (rest := []) [] d_W_relate_323 tw_399 yw_K_tighten h xc_2 (fun z e => c_K_tighten _ _ _ _ _ _ z e) rfl ⟨rfl, rfl⟩ rfl rfl rfl (fun q2 h => ?_)
  refine xo_if_eq d_W_relate_326 h (fun h => ?_) (fun h => ?_)
  · exact xo_sub [] [] rfl (kb_W_relate_343 X sz ro _ h)
  · refine xo_aload_n 0 d_W_relate_329 rfl rfl ?_
    refine xo_getR 6 d_W_relate_330 xc_7 rfl tw_172 rfl h (fun a3 h => ?_)
    refine xo_V_IH (rest := []) [] d_W_relate_333 tw_399 yw_K_tighten h xc_2 (fun z e => c_K_tighten _ _ _ _ _ _ z e) rfl ⟨rfl, rfl⟩ rfl rfl rfl (fun q4 h => ?_)
    refine xo_if_eq d_W_relate_336 h (fun h => ?_) (fun h => ?_)
    · exact xo_sub [] [] rfl (kb_W_relate_343 X sz ro _ h)
    · refine xo_iconst d_W_relate_339 xic_1 ?_
      refine xo_goto d_W_relate_340 ?_
      exact xo_sub [] [] rfl (kb_W_relate_344 X sz ro _ _ h)
theorem kb_W_relate_109 (X : xX) (sz : Nat) (ro : Int32 × xw) (w : xw) (s0 : Int32) (h : f_W_relate_b109 w s0 = some ro) : k_W_relate X [] [.int s0] w sz 0 0 109 (some (.int ro.1), ro.2, sz) := by
  unfold f_W_relate_b109 at h
  exact xo_retZH d_W_relate_109 rfl rfl rfl h
theorem kb_W_relate_104 (X : xX) (sz : Nat) (ro : Int32 × xw) (w : xw) (h : f_W_relate_b104 w = some ro) : k_W_relate X [] [] w sz 0 0 104 (some (.int ro.1), ro.2, sz) := by
  unfold f_W_relate_b104 at h
  refine xo_iconst d_W_relate_104 xic_1 ?_
  refine xo_goto d_W_relate_105 ?_
  exact xo_sub [] [] rfl (kb_W_relate_109 X sz ro _ _ h)
theorem kb_W_relate_0 (X : xX) (sz : Nat) (ro : Int32 × xw) (w : xw) (l0 : Nat) (l1 : Int32) (h : f_W_relate w l0 l1 = some ro) : k_W_relate X [(0, .ref l0), (1, .int l1)] [] w sz 0 0 0 (some (.int ro.1), ro.2, sz) := by
  unfold f_W_relate at h
  refine xo_iload_n 1 d_W_relate_0 rfl rfl ?_
  rcases xif h with ⟨hc0, h⟩ | ⟨hc0, h⟩
  · refine xo_tableIn 35 36 d_W_relate_1 (by rw [hc0]; decide) (by rw [hc0]; decide) (by rw [hc0]; decide) (by decide) ?_
    refine xo_aload_n 0 d_W_relate_36 rfl rfl ?_
    refine xo_getR 5 d_W_relate_37 xc_7 rfl tw_171 rfl h (fun a1 h => ?_)
    refine xo_aload_n 0 d_W_relate_40 rfl rfl ?_
    refine xo_getR 6 d_W_relate_41 xc_7 rfl tw_172 rfl h (fun a2 h => ?_)
    refine xo_V_IH (rest := []) [.ref a2] d_W_relate_44 tw_388 yw_K_join h xc_2 (fun z e => c_K_join _ _ _ _ _ _ _ z e) rfl ⟨rfl, rfl⟩ rfl rfl rfl (fun q3 h => ?_)
    refine xo_if_ne d_W_relate_47 h (fun h => ?_) (fun h => ?_)
    · refine xo_aload_n 0 d_W_relate_52 rfl rfl ?_
      refine xo_getR 6 d_W_relate_53 xc_7 rfl tw_172 rfl h (fun a4 h => ?_)
      refine xo_aload_n 0 d_W_relate_56 rfl rfl ?_
      refine xo_getR 5 d_W_relate_57 xc_7 rfl tw_171 rfl h (fun a5 h => ?_)
      refine xo_V_VH (rest := []) [.ref a5] d_W_relate_60 tw_383 yw_K_take h xc_2 (fun z e => c_K_take _ _ _ _ _ _ _ z e) rfl ⟨rfl, rfl⟩ rfl rfl rfl (fun q6 h => ?_)
      refine xo_goto d_W_relate_63 ?_
      exact xo_sub [0] [(0, .ref l0)] rfl (kb_W_relate_319 X sz ro _ _ h)
    · refine xo_iconst d_W_relate_50 xic_0 ?_
      exact xo_retZH d_W_relate_51 rfl rfl rfl h
  rcases xif h with ⟨hc1, h⟩ | ⟨hc1, h⟩
  · refine xo_tableIn 65 66 d_W_relate_1 (by rw [hc1]; decide) (by rw [hc1]; decide) (by rw [hc1]; decide) (by decide) ?_
    refine xo_aload_n 0 d_W_relate_66 rfl rfl ?_
    refine xo_getR 5 d_W_relate_67 xc_7 rfl tw_171 rfl h (fun a7 h => ?_)
    refine xo_V_IH (rest := []) [] d_W_relate_70 tw_393 yw_K_isExact h xc_2 (fun z e => c_K_isExact _ _ _ _ _ _ z e) rfl ⟨rfl, rfl⟩ rfl rfl rfl (fun q8 h => ?_)
    refine xo_if_eq d_W_relate_73 h (fun h => ?_) (fun h => ?_)
    · exact xo_sub [] [] rfl (kb_W_relate_104 X sz ro _ h)
    · refine xo_aload_n 0 d_W_relate_76 rfl rfl ?_
      refine xo_getR 6 d_W_relate_77 xc_7 rfl tw_172 rfl h (fun a9 h => ?_)
      refine xo_V_IH (rest := []) [] d_W_relate_80 tw_393 yw_K_isExact h xc_2 (fun z e => c_K_isExact _ _ _ _ _ _ z e) rfl ⟨rfl, rfl⟩ rfl rfl rfl (fun q10 h => ?_)
      refine xo_if_eq d_W_relate_83 h (fun h => ?_) (fun h => ?_)
      · exact xo_sub [] [] rfl (kb_W_relate_104 X sz ro _ h)
      · refine xo_aload_n 0 d_W_relate_86 rfl rfl ?_
        refine xo_getR 5 d_W_relate_87 xc_7 rfl tw_171 rfl h (fun a11 h => ?_)
        refine xo_getL 3 d_W_relate_90 xc_2 rfl tw_123 rfl h (fun x12 h => ?_)
        refine xo_aload_n 0 d_W_relate_93 rfl rfl ?_
        refine xo_getR 6 d_W_relate_94 xc_7 rfl tw_172 rfl h (fun a13 h => ?_)
        refine xo_getL 3 d_W_relate_97 xc_2 rfl tw_123 rfl h (fun x14 h => ?_)
        refine xo_lceq d_W_relate_100 d_W_relate_101 h (fun h => ?_) (fun h => ?_)
        · refine xo_iconst d_W_relate_108 xic_0 ?_
          exact xo_sub [] [] rfl (kb_W_relate_109 X sz ro _ _ h)
        · exact xo_sub [] [] rfl (kb_W_relate_104 X sz ro _ h)
  rcases xif h with ⟨hc2, h⟩ | ⟨hc2, h⟩
  · refine xo_tableIn 109 110 d_W_relate_1 (by rw [hc2]; decide) (by rw [hc2]; decide) (by rw [hc2]; decide) (by decide) ?_
    refine xo_aload_n 0 d_W_relate_110 rfl rfl ?_
    refine xo_getR 5 d_W_relate_111 xc_7 rfl tw_171 rfl h (fun a15 h => ?_)
    refine xo_aload_n 0 d_W_relate_114 rfl rfl ?_
    refine xo_getR 5 d_W_relate_115 xc_7 rfl tw_171 rfl h (fun a16 h => ?_)
    refine xo_getL 4 d_W_relate_118 xc_2 rfl tw_126 rfl h (fun x17 h => ?_)
    refine xo_aload_n 0 d_W_relate_121 rfl rfl ?_
    refine xo_getR 6 d_W_relate_122 xc_7 rfl tw_172 rfl h (fun a18 h => ?_)
    refine xo_getL 4 d_W_relate_125 xc_2 rfl tw_126 rfl h (fun x19 h => ?_)
    refine xo_lconst d_W_relate_128 xlc_1 ?_
    refine xo_lsub d_W_relate_129 ?_
    refine xo_mminL d_W_relate_130 tw_397 rfl rfl rfl rfl h (fun q20 h => ?_)
    refine xo_putL 4 d_W_relate_133 xc_2 rfl tw_126 rfl rfl rfl rfl h (fun w21 h => ?_)
    refine xo_aload_n 0 d_W_relate_136 rfl rfl ?_
    refine xo_getR 6 d_W_relate_137 xc_7 rfl tw_172 rfl h (fun a22 h => ?_)
    refine xo_aload_n 0 d_W_relate_140 rfl rfl ?_
    refine xo_getR 6 d_W_relate_141 xc_7 rfl tw_172 rfl h (fun a23 h => ?_)
    refine xo_getL 3 d_W_relate_144 xc_2 rfl tw_123 rfl h (fun x24 h => ?_)
    refine xo_aload_n 0 d_W_relate_147 rfl rfl ?_
    refine xo_getR 5 d_W_relate_148 xc_7 rfl tw_171 rfl h (fun a25 h => ?_)
    refine xo_getL 3 d_W_relate_151 xc_2 rfl tw_123 rfl h (fun x26 h => ?_)
    refine xo_lconst d_W_relate_154 xlc_1 ?_
    refine xo_ladd d_W_relate_155 ?_
    refine xo_mmaxL d_W_relate_156 tw_398 rfl rfl rfl rfl h (fun q27 h => ?_)
    refine xo_putL 3 d_W_relate_159 xc_2 rfl tw_123 rfl rfl rfl rfl h (fun w28 h => ?_)
    refine xo_goto d_W_relate_162 ?_
    exact xo_sub [0] [(0, .ref l0)] rfl (kb_W_relate_319 X sz ro _ _ h)
  rcases xif h with ⟨hc3, h⟩ | ⟨hc3, h⟩
  · refine xo_tableIn 164 165 d_W_relate_1 (by rw [hc3]; decide) (by rw [hc3]; decide) (by rw [hc3]; decide) (by decide) ?_
    refine xo_aload_n 0 d_W_relate_165 rfl rfl ?_
    refine xo_getR 5 d_W_relate_166 xc_7 rfl tw_171 rfl h (fun a29 h => ?_)
    refine xo_aload_n 0 d_W_relate_169 rfl rfl ?_
    refine xo_getR 5 d_W_relate_170 xc_7 rfl tw_171 rfl h (fun a30 h => ?_)
    refine xo_getL 3 d_W_relate_173 xc_2 rfl tw_123 rfl h (fun x31 h => ?_)
    refine xo_aload_n 0 d_W_relate_176 rfl rfl ?_
    refine xo_getR 6 d_W_relate_177 xc_7 rfl tw_172 rfl h (fun a32 h => ?_)
    refine xo_getL 3 d_W_relate_180 xc_2 rfl tw_123 rfl h (fun x33 h => ?_)
    refine xo_mmaxL d_W_relate_183 tw_398 rfl rfl rfl rfl h (fun q34 h => ?_)
    refine xo_putL 3 d_W_relate_186 xc_2 rfl tw_123 rfl rfl rfl rfl h (fun w35 h => ?_)
    refine xo_aload_n 0 d_W_relate_189 rfl rfl ?_
    refine xo_getR 6 d_W_relate_190 xc_7 rfl tw_172 rfl h (fun a36 h => ?_)
    refine xo_aload_n 0 d_W_relate_193 rfl rfl ?_
    refine xo_getR 6 d_W_relate_194 xc_7 rfl tw_172 rfl h (fun a37 h => ?_)
    refine xo_getL 4 d_W_relate_197 xc_2 rfl tw_126 rfl h (fun x38 h => ?_)
    refine xo_aload_n 0 d_W_relate_200 rfl rfl ?_
    refine xo_getR 5 d_W_relate_201 xc_7 rfl tw_171 rfl h (fun a39 h => ?_)
    refine xo_getL 4 d_W_relate_204 xc_2 rfl tw_126 rfl h (fun x40 h => ?_)
    refine xo_mminL d_W_relate_207 tw_397 rfl rfl rfl rfl h (fun q41 h => ?_)
    refine xo_putL 4 d_W_relate_210 xc_2 rfl tw_126 rfl rfl rfl rfl h (fun w42 h => ?_)
    refine xo_goto d_W_relate_213 ?_
    exact xo_sub [0] [(0, .ref l0)] rfl (kb_W_relate_319 X sz ro _ _ h)
  rcases xif h with ⟨hc4, h⟩ | ⟨hc4, h⟩
  · refine xo_tableIn 215 216 d_W_relate_1 (by rw [hc4]; decide) (by rw [hc4]; decide) (by rw [hc4]; decide) (by decide) ?_
    refine xo_aload_n 0 d_W_relate_216 rfl rfl ?_
    refine xo_getR 5 d_W_relate_217 xc_7 rfl tw_171 rfl h (fun a43 h => ?_)
    refine xo_aload_n 0 d_W_relate_220 rfl rfl ?_
    refine xo_getR 5 d_W_relate_221 xc_7 rfl tw_171 rfl h (fun a44 h => ?_)
    refine xo_getL 6 d_W_relate_224 xc_2 rfl tw_132 rfl h (fun x45 h => ?_)
    refine xo_aload_n 0 d_W_relate_227 rfl rfl ?_
    refine xo_getR 6 d_W_relate_228 xc_7 rfl tw_172 rfl h (fun a46 h => ?_)
    refine xo_getL 6 d_W_relate_231 xc_2 rfl tw_132 rfl h (fun x47 h => ?_)
    refine xo_lconst d_W_relate_234 xlc_1 ?_
    refine xo_lsub d_W_relate_235 ?_
    refine xo_mminL d_W_relate_236 tw_397 rfl rfl rfl rfl h (fun q48 h => ?_)
    refine xo_putL 6 d_W_relate_239 xc_2 rfl tw_132 rfl rfl rfl rfl h (fun w49 h => ?_)
    refine xo_aload_n 0 d_W_relate_242 rfl rfl ?_
    refine xo_getR 6 d_W_relate_243 xc_7 rfl tw_172 rfl h (fun a50 h => ?_)
    refine xo_aload_n 0 d_W_relate_246 rfl rfl ?_
    refine xo_getR 6 d_W_relate_247 xc_7 rfl tw_172 rfl h (fun a51 h => ?_)
    refine xo_getL 5 d_W_relate_250 xc_2 rfl tw_129 rfl h (fun x52 h => ?_)
    refine xo_aload_n 0 d_W_relate_253 rfl rfl ?_
    refine xo_getR 5 d_W_relate_254 xc_7 rfl tw_171 rfl h (fun a53 h => ?_)
    refine xo_getL 5 d_W_relate_257 xc_2 rfl tw_129 rfl h (fun x54 h => ?_)
    refine xo_lconst d_W_relate_260 xlc_1 ?_
    refine xo_ladd d_W_relate_261 ?_
    refine xo_mmaxL d_W_relate_262 tw_398 rfl rfl rfl rfl h (fun q55 h => ?_)
    refine xo_putL 5 d_W_relate_265 xc_2 rfl tw_129 rfl rfl rfl rfl h (fun w56 h => ?_)
    refine xo_goto d_W_relate_268 ?_
    exact xo_sub [0] [(0, .ref l0)] rfl (kb_W_relate_319 X sz ro _ _ h)
  refine xo_tableOut 271 d_W_relate_1 (by have n0 := lv_neT hc0 (a := 16) (by decide); have n1 := lv_neT hc1 (a := 17) (by decide); have n2 := lv_neT hc2 (a := 18) (by decide); have n3 := lv_neT hc3 (a := 19) (by decide); have n4 := lv_neT hc4 (a := 20) (by decide); omega) (by decide) ?_
  refine xo_aload_n 0 d_W_relate_271 rfl rfl ?_
  refine xo_getR 5 d_W_relate_272 xc_7 rfl tw_171 rfl h (fun a57 h => ?_)
  refine xo_aload_n 0 d_W_relate_275 rfl rfl ?_
  refine xo_getR 5 d_W_relate_276 xc_7 rfl tw_171 rfl h (fun a58 h => ?_)
  refine xo_getL 5 d_W_relate_279 xc_2 rfl tw_129 rfl h (fun x59 h => ?_)
  refine xo_aload_n 0 d_W_relate_282 rfl rfl ?_
  refine xo_getR 6 d_W_relate_283 xc_7 rfl tw_172 rfl h (fun a60 h => ?_)
  refine xo_getL 5 d_W_relate_286 xc_2 rfl tw_129 rfl h (fun x61 h => ?_)
  refine xo_mmaxL d_W_relate_289 tw_398 rfl rfl rfl rfl h (fun q62 h => ?_)
  refine xo_putL 5 d_W_relate_292 xc_2 rfl tw_129 rfl rfl rfl rfl h (fun w63 h => ?_)
  refine xo_aload_n 0 d_W_relate_295 rfl rfl ?_
  refine xo_getR 6 d_W_relate_296 xc_7 rfl tw_172 rfl h (fun a64 h => ?_)
  refine xo_aload_n 0 d_W_relate_299 rfl rfl ?_
  refine xo_getR 6 d_W_relate_300 xc_7 rfl tw_172 rfl h (fun a65 h => ?_)
  refine xo_getL 6 d_W_relate_303 xc_2 rfl tw_132 rfl h (fun x66 h => ?_)
  refine xo_aload_n 0 d_W_relate_306 rfl rfl ?_
  refine xo_getR 5 d_W_relate_307 xc_7 rfl tw_171 rfl h (fun a67 h => ?_)
  refine xo_getL 6 d_W_relate_310 xc_2 rfl tw_132 rfl h (fun x68 h => ?_)
  refine xo_mminL d_W_relate_313 tw_397 rfl rfl rfl rfl h (fun q69 h => ?_)
  refine xo_putL 6 d_W_relate_316 xc_2 rfl tw_132 rfl rfl rfl rfl h (fun w70 h => ?_)
  exact xo_sub [0] [(0, .ref l0)] rfl (kb_W_relate_319 X sz ro _ _ h)
theorem c_W_relate (l : Launch) (D : va_G) (cT : Nat → ClassId) (sz : Nat) (w : xw) (l0 : Nat) (l1 : Int32) (ro : Int32 × xw) (h : f_W_relate w l0 l1 = some ro) : xM l y_W_relate b_W_relate 2 t_W_relate R_W_relate D cT [.ref l0, .int l1] w sz (some (.int ro.1), ro.2, sz) :=
  xm_of bl_W_relate rfl rfl (kb_W_relate_0 (l, D, cT, [.ref l0, .int l1], w, sz) sz ro w l0 l1 h)
theorem kb_W_givePair_40 (X : xX) (sz : Nat) (ro : Unit × xw) (w : xw) (h : f_W_givePair_b40 w = some ro) : k_W_givePair X [] [] w sz 0 0 40 (none, ro.2, sz) := by
  unfold f_W_givePair_b40 at h
  exact xo_retVH d_W_givePair_40 rfl rfl rfl h
theorem kb_W_givePair_0 (X : xX) (sz : Nat) (ro : Unit × xw) (w : xw) (l0 : Nat) (l1 : Nat) (l2 : Nat) (h : f_W_givePair w l0 l1 l2 = some ro) : k_W_givePair X [(0, .ref l0), (1, .ref l1), (2, .ref l2)] [] w sz 0 0 0 (none, ro.2, sz) := by
  unfold f_W_givePair at h
  refine xo_aload_n 2 d_W_givePair_0 rfl rfl ?_
  refine xo_getR 0 d_W_givePair_1 xc_6 rfl tw_154 rfl h (fun a1 h => ?_)
  refine xo_aload_n 1 d_W_givePair_4 rfl rfl ?_
  refine xo_getI 1 d_W_givePair_5 xc_1 rfl tw_46 rfl h (fun x2 h => ?_)
  refine xo_aldR d_W_givePair_8 h (fun a3 h => ?_)
  refine xo_aload_n 0 d_W_givePair_9 rfl rfl ?_
  refine xo_getR 5 d_W_givePair_10 xc_7 rfl tw_171 rfl h (fun a4 h => ?_)
  refine xo_V_VH (rest := []) [.ref a4] d_W_givePair_13 tw_383 yw_K_take h xc_2 (fun z e => c_K_take _ _ _ _ _ _ _ z e) rfl ⟨rfl, rfl⟩ rfl rfl rfl (fun q5 h => ?_)
  refine xo_aload_n 1 d_W_givePair_16 rfl rfl ?_
  refine xo_getI 2 d_W_givePair_17 xc_1 rfl tw_49 rfl h (fun x6 h => ?_)
  refine xo_iconst d_W_givePair_20 xic_m1 ?_
  refine xo_icmp_eq d_W_givePair_21 h (fun h => ?_) (fun h => ?_)
  · exact xo_sub [] [] rfl (kb_W_givePair_40 X sz ro _ h)
  · refine xo_aload_n 2 d_W_givePair_24 rfl rfl ?_
    refine xo_getR 0 d_W_givePair_25 xc_6 rfl tw_154 rfl h (fun a7 h => ?_)
    refine xo_aload_n 1 d_W_givePair_28 rfl rfl ?_
    refine xo_getI 2 d_W_givePair_29 xc_1 rfl tw_49 rfl h (fun x8 h => ?_)
    refine xo_aldR d_W_givePair_32 h (fun a9 h => ?_)
    refine xo_aload_n 0 d_W_givePair_33 rfl rfl ?_
    refine xo_getR 6 d_W_givePair_34 xc_7 rfl tw_172 rfl h (fun a10 h => ?_)
    refine xo_V_VH (rest := []) [.ref a10] d_W_givePair_37 tw_383 yw_K_take h xc_2 (fun z e => c_K_take _ _ _ _ _ _ _ z e) rfl ⟨rfl, rfl⟩ rfl rfl rfl (fun q11 h => ?_)
    exact xo_sub [] [] rfl (kb_W_givePair_40 X sz ro _ h)
theorem c_W_givePair (l : Launch) (D : va_G) (cT : Nat → ClassId) (sz : Nat) (w : xw) (l0 : Nat) (l1 : Nat) (l2 : Nat) (ro : Unit × xw) (h : f_W_givePair w l0 l1 l2 = some ro) : xM l y_W_givePair b_W_givePair 3 t_W_givePair R_W_givePair D cT [.ref l0, .ref l1, .ref l2] w sz (none, ro.2, sz) :=
  xm_of bl_W_givePair rfl rfl (kb_W_givePair_0 (l, D, cT, [.ref l0, .ref l1, .ref l2], w, sz) sz ro w l0 l1 l2 h)
theorem kb_W_part_0 (X : xX) (sz : Nat) (ro : Int32 × xw) (w : xw) (l0 : Nat) (l1 : Nat) (l2 : Int32) (h : f_W_part w l0 l1 l2 = some ro) : k_W_part X [(0, .ref l0), (1, .ref l1), (2, .int l2)] [] w sz 0 0 0 (some (.int ro.1), ro.2, sz) := by
  unfold f_W_part at h
  refine xo_aload_n 0 d_W_part_0 rfl rfl ?_
  refine xo_getR 2 d_W_part_1 xc_7 rfl tw_168 rfl h (fun a1 h => ?_)
  refine xo_iload_n 2 d_W_part_4 rfl rfl ?_
  refine xo_aldR d_W_part_5 h (fun a2 h => ?_)
  refine xo_aload_n 0 d_W_part_6 rfl rfl ?_
  refine xo_getR 1 d_W_part_7 xc_7 rfl tw_167 rfl h (fun a3 h => ?_)
  refine xo_V_VH (rest := []) [.ref a3] d_W_part_10 tw_360 yw_S_take h xc_6 (fun z e => c_S_take _ _ _ _ _ _ _ z e) rfl ⟨rfl, rfl⟩ rfl rfl rfl (fun q4 h => ?_)
  refine xo_aload_n 1 d_W_part_13 rfl rfl ?_
  refine xo_getI 0 d_W_part_14 xc_1 rfl tw_43 rfl h (fun x5 h => ?_)
  refine xo_bipush d_W_part_17 xbp_15 ?_
  refine xo_icmp_ne d_W_part_19 h (fun h => ?_) (fun h => ?_)
  · refine xo_aload_n 0 d_W_part_59 rfl rfl ?_
    refine xo_aload_n 1 d_W_part_60 rfl rfl ?_
    refine xo_V_VH (rest := []) [.ref l1] d_W_part_61 tw_379 yw_W_takePair h xc_7 (fun z e => c_W_takePair _ _ _ _ _ _ _ z e) rfl ⟨rfl, rfl⟩ rfl rfl rfl (fun q6 h => ?_)
    refine xo_aload_n 0 d_W_part_64 rfl rfl ?_
    refine xo_getR 3 d_W_part_65 xc_7 rfl tw_169 rfl h (fun a7 h => ?_)
    refine xo_iload_n 2 d_W_part_68 rfl rfl ?_
    refine xo_aload_n 0 d_W_part_69 rfl rfl ?_
    refine xo_aload_n 1 d_W_part_70 rfl rfl ?_
    refine xo_getI 0 d_W_part_71 xc_1 rfl tw_43 rfl h (fun x8 h => ?_)
    refine xo_V_IH (rest := [.int l2, .ref a7]) [.int x8] d_W_part_74 tw_384 yw_W_relate h xc_7 (fun z e => c_W_relate _ _ _ _ _ _ _ z e) rfl ⟨rfl, rfl⟩ rfl rfl rfl (fun q9 h => ?_)
    refine xo_astZ d_W_part_77 h (fun w10 h => ?_)
    refine xo_aload_n 0 d_W_part_78 rfl rfl ?_
    refine xo_aload_n 1 d_W_part_79 rfl rfl ?_
    refine xo_aload_n 0 d_W_part_80 rfl rfl ?_
    refine xo_getR 2 d_W_part_81 xc_7 rfl tw_168 rfl h (fun a11 h => ?_)
    refine xo_iload_n 2 d_W_part_84 rfl rfl ?_
    refine xo_aldR d_W_part_85 h (fun a12 h => ?_)
    refine xo_V_VH (rest := []) [.ref l1, .ref a12] d_W_part_86 tw_400 yw_W_givePair h xc_7 (fun z e => c_W_givePair _ _ _ _ _ _ _ _ z e) rfl ⟨rfl, rfl⟩ rfl rfl rfl (fun q13 h => ?_)
    refine xo_aload_n 0 d_W_part_89 rfl rfl ?_
    refine xo_aload_n 1 d_W_part_90 rfl rfl ?_
    refine xo_V_VH (rest := []) [.ref l1] d_W_part_91 tw_379 yw_W_takePair h xc_7 (fun z e => c_W_takePair _ _ _ _ _ _ _ z e) rfl ⟨rfl, rfl⟩ rfl rfl rfl (fun q14 h => ?_)
    refine xo_aload_n 0 d_W_part_94 rfl rfl ?_
    refine xo_aload_n 1 d_W_part_95 rfl rfl ?_
    refine xo_getI 0 d_W_part_96 xc_1 rfl tw_43 rfl h (fun x15 h => ?_)
    refine xo_iconst d_W_part_99 xic_1 ?_
    refine xo_ixor d_W_part_100 ?_
    refine xo_V_IH (rest := []) [.int (x15 ^^^ (1 : Int32))] d_W_part_101 tw_384 yw_W_relate h xc_7 (fun z e => c_W_relate _ _ _ _ _ _ _ z e) rfl ⟨rfl, rfl⟩ rfl rfl rfl (fun q16 h => ?_)
    refine xo_istore_n [(3, .int q16.1), (0, .ref l0), (1, .ref l1), (2, .int l2)] d_W_part_104 rfl rfl rfl ?_
    refine xo_aload_n 1 d_W_part_105 rfl rfl ?_
    refine xo_aload_n 2 d_W_part_106 rfl rfl ?_
    refine xo_aload_n 1 d_W_part_107 rfl rfl ?_
    refine xo_getR 1 d_W_part_108 xc_7 rfl tw_167 rfl h (fun a17 h => ?_)
    refine xo_V_VH (rest := []) [.ref l1, .ref a17] d_W_part_111 tw_400 yw_W_givePair h xc_7 (fun z e => c_W_givePair _ _ _ _ _ _ _ _ z e) rfl ⟨rfl, rfl⟩ rfl rfl rfl (fun q18 h => ?_)
    refine xo_iload_n 0 d_W_part_114 rfl rfl ?_
    exact xo_retZH d_W_part_115 rfl rfl rfl h
  · refine xo_aload_n 0 d_W_part_22 rfl rfl ?_
    refine xo_getR 3 d_W_part_23 xc_7 rfl tw_169 rfl h (fun a19 h => ?_)
    refine xo_iload_n 2 d_W_part_26 rfl rfl ?_
    refine xo_iconst d_W_part_27 xic_1 ?_
    refine xo_astZ d_W_part_28 h (fun w20 h => ?_)
    refine xo_aload_n 0 d_W_part_29 rfl rfl ?_
    refine xo_getR 1 d_W_part_30 xc_7 rfl tw_167 rfl h (fun a21 h => ?_)
    refine xo_getR 0 d_W_part_33 xc_6 rfl tw_154 rfl h (fun a22 h => ?_)
    refine xo_aload_n 1 d_W_part_36 rfl rfl ?_
    refine xo_getI 2 d_W_part_37 xc_1 rfl tw_49 rfl h (fun x23 h => ?_)
    refine xo_aldR d_W_part_40 h (fun a24 h => ?_)
    refine xo_astore_n [(3, .ref a24), (0, .ref l0), (1, .ref l1), (2, .int l2)] d_W_part_41 rfl rfl rfl ?_
    refine xo_aload_n 0 d_W_part_42 rfl rfl ?_
    refine xo_aload_n 0 d_W_part_43 rfl rfl ?_
    refine xo_getI 7 d_W_part_44 xc_2 rfl tw_134 rfl h (fun x25 h => ?_)
    refine xo_aload_n 2 d_W_part_47 rfl rfl ?_
    refine xo_getI 3 d_W_part_48 xc_1 rfl tw_52 rfl h (fun x26 h => ?_)
    refine xo_mmaxI d_W_part_51 tw_376 rfl rfl rfl rfl h (fun q27 h => ?_)
    refine xo_putI 7 d_W_part_54 xc_2 rfl tw_134 rfl rfl rfl rfl h (fun w28 h => ?_)
    refine xo_iconst d_W_part_57 xic_1 ?_
    exact xo_retZH d_W_part_58 rfl rfl rfl h
theorem c_W_part (l : Launch) (D : va_G) (cT : Nat → ClassId) (sz : Nat) (w : xw) (l0 : Nat) (l1 : Nat) (l2 : Int32) (ro : Int32 × xw) (h : f_W_part w l0 l1 l2 = some ro) : xM l y_W_part b_W_part 4 t_W_part R_W_part D cT [.ref l0, .ref l1, .int l2] w sz (some (.int ro.1), ro.2, sz) :=
  xm_of bl_W_part rfl rfl (kb_W_part_0 (l, D, cT, [.ref l0, .ref l1, .int l2], w, sz) sz ro w l0 l1 l2 h)
theorem kb_K_meet_0 (X : xX) (sz : Nat) (ro : Unit × xw) (w : xw) (l0 : Nat) (l1 : Nat) (h : f_K_meet w l0 l1 = some ro) : k_K_meet X [(0, .ref l0), (1, .ref l1)] [] w sz 0 0 0 (none, ro.2, sz) := by
  unfold f_K_meet at h
  refine xo_aload_n 0 d_K_meet_0 rfl rfl ?_
  refine xo_aload_n 0 d_K_meet_1 rfl rfl ?_
  refine xo_getI 1 d_K_meet_2 xc_2 rfl tw_117 rfl h (fun x1 h => ?_)
  refine xo_aload_n 1 d_K_meet_5 rfl rfl ?_
  refine xo_getI 1 d_K_meet_6 xc_2 rfl tw_117 rfl h (fun x2 h => ?_)
  refine xo_iand d_K_meet_9 ?_
  refine xo_aload_n 0 d_K_meet_10 rfl rfl ?_
  refine xo_getI 2 d_K_meet_11 xc_2 rfl tw_119 rfl h (fun x3 h => ?_)
  refine xo_aload_n 1 d_K_meet_14 rfl rfl ?_
  refine xo_getI 2 d_K_meet_15 xc_2 rfl tw_119 rfl h (fun x4 h => ?_)
  refine xo_ixor d_K_meet_18 ?_
  refine xo_iconst d_K_meet_19 xic_m1 ?_
  refine xo_ixor d_K_meet_20 ?_
  refine xo_iand d_K_meet_21 ?_
  refine xo_putI 1 d_K_meet_22 xc_2 rfl tw_117 rfl rfl rfl rfl h (fun w5 h => ?_)
  refine xo_aload_n 0 d_K_meet_25 rfl rfl ?_
  refine xo_dup d_K_meet_26 rfl ?_
  refine xo_getI 2 d_K_meet_27 xc_2 rfl tw_119 rfl h (fun x6 h => ?_)
  refine xo_aload_n 0 d_K_meet_30 rfl rfl ?_
  refine xo_getI 1 d_K_meet_31 xc_2 rfl tw_117 rfl h (fun x7 h => ?_)
  refine xo_iand d_K_meet_34 ?_
  refine xo_putI 2 d_K_meet_35 xc_2 rfl tw_119 rfl rfl rfl rfl h (fun w8 h => ?_)
  refine xo_aload_n 0 d_K_meet_38 rfl rfl ?_
  refine xo_aload_n 0 d_K_meet_39 rfl rfl ?_
  refine xo_getL 3 d_K_meet_40 xc_2 rfl tw_121 rfl h (fun x9 h => ?_)
  refine xo_aload_n 1 d_K_meet_43 rfl rfl ?_
  refine xo_getL 3 d_K_meet_44 xc_2 rfl tw_121 rfl h (fun x10 h => ?_)
  refine xo_mminL d_K_meet_47 tw_310 rfl rfl rfl rfl h (fun q11 h => ?_)
  refine xo_aload_n 0 d_K_meet_50 rfl rfl ?_
  refine xo_getL 4 d_K_meet_51 xc_2 rfl tw_124 rfl h (fun x12 h => ?_)
  refine xo_aload_n 1 d_K_meet_54 rfl rfl ?_
  refine xo_getL 4 d_K_meet_55 xc_2 rfl tw_124 rfl h (fun x13 h => ?_)
  refine xo_mmaxL d_K_meet_58 tw_307 rfl rfl rfl rfl h (fun q14 h => ?_)
  refine xo_V_VH (rest := []) [.long q11, .long q14] d_K_meet_61 tw_291 yw_K_boundUnsigned h xc_2 (fun z e => c_K_boundUnsigned _ _ _ _ _ _ _ _ z e) rfl ⟨rfl, rfl⟩ rfl rfl rfl (fun q15 h => ?_)
  refine xo_aload_n 0 d_K_meet_64 rfl rfl ?_
  refine xo_aload_n 0 d_K_meet_65 rfl rfl ?_
  refine xo_getL 5 d_K_meet_66 xc_2 rfl tw_127 rfl h (fun x16 h => ?_)
  refine xo_aload_n 1 d_K_meet_69 rfl rfl ?_
  refine xo_getL 5 d_K_meet_70 xc_2 rfl tw_127 rfl h (fun x17 h => ?_)
  refine xo_mminL d_K_meet_73 tw_310 rfl rfl rfl rfl h (fun q18 h => ?_)
  refine xo_aload_n 0 d_K_meet_76 rfl rfl ?_
  refine xo_getL 6 d_K_meet_77 xc_2 rfl tw_130 rfl h (fun x19 h => ?_)
  refine xo_aload_n 1 d_K_meet_80 rfl rfl ?_
  refine xo_getL 6 d_K_meet_81 xc_2 rfl tw_130 rfl h (fun x20 h => ?_)
  refine xo_mmaxL d_K_meet_84 tw_307 rfl rfl rfl rfl h (fun q21 h => ?_)
  refine xo_V_VH (rest := []) [.long q18, .long q21] d_K_meet_87 tw_295 yw_K_boundSigned h xc_2 (fun z e => c_K_boundSigned _ _ _ _ _ _ _ _ z e) rfl ⟨rfl, rfl⟩ rfl rfl rfl (fun q22 h => ?_)
  refine xo_aload_n 0 d_K_meet_90 rfl rfl ?_
  refine xo_aload_n 0 d_K_meet_91 rfl rfl ?_
  refine xo_getI 7 d_K_meet_92 xc_2 rfl tw_133 rfl h (fun x23 h => ?_)
  refine xo_aload_n 1 d_K_meet_95 rfl rfl ?_
  refine xo_getI 7 d_K_meet_96 xc_2 rfl tw_133 rfl h (fun x24 h => ?_)
  refine xo_mminI d_K_meet_99 tw_416 rfl rfl rfl rfl h (fun q25 h => ?_)
  refine xo_putI 7 d_K_meet_102 xc_2 rfl tw_133 rfl rfl rfl rfl h (fun w26 h => ?_)
  exact xo_retVH d_K_meet_105 rfl rfl rfl h
theorem c_K_meet (l : Launch) (D : va_G) (cT : Nat → ClassId) (sz : Nat) (w : xw) (l0 : Nat) (l1 : Nat) (ro : Unit × xw) (h : f_K_meet w l0 l1 = some ro) : xM l y_K_meet b_K_meet 2 t_K_meet R_K_meet D cT [.ref l0, .ref l1] w sz (none, ro.2, sz) :=
  xm_of bl_K_meet rfl rfl (kb_K_meet_0 (l, D, cT, [.ref l0, .ref l1], w, sz) sz ro w l0 l1 h)
theorem ks_W_fetch_31 (X : xX) (sz : Nat) (ro : Unit × xw) (r31 : xw → Nat → Nat → Int32 → Int32 → Option (Unit × xw)) (R31 : ∀ (w : xw) (l0 : Nat) (l1 : Nat) (l4 : Int32) (l5 : Int32), r31 w l0 l1 l4 l5 = some ro → k_W_fetch X [(0, .ref l0), (1, .ref l1), (4, .int l4), (5, .int l5)] [] w sz 0 0 31 (none, ro.2, sz)) (w : xw) (l0 : Nat) (l1 : Nat) (l4 : Int32) (l5 : Int32) (h : f_W_fetch_s31 r31 w l0 l1 l4 l5 = some ro) : k_W_fetch X [(0, .ref l0), (1, .ref l1), (4, .int l4), (5, .int l5)] [] w sz 0 0 31 (none, ro.2, sz) := by
  unfold f_W_fetch_s31 at h
  refine xo_iload 3 d_W_fetch_31 rfl ?_
  refine xo_iload 2 d_W_fetch_33 rfl ?_
  refine xo_icmp_gt d_W_fetch_35 h (fun h => ?_) (fun h => ?_)
  · exact xo_retVH d_W_fetch_58 rfl rfl rfl h
  · refine xo_aload_n 1 d_W_fetch_38 rfl rfl ?_
    refine xo_aload_n 0 d_W_fetch_39 rfl rfl ?_
    refine xo_getR 1 d_W_fetch_40 xc_7 rfl tw_167 rfl h (fun a1 h => ?_)
    refine xo_getR 1 d_W_fetch_43 xc_6 rfl tw_157 rfl h (fun a2 h => ?_)
    refine xo_iload 3 d_W_fetch_46 rfl ?_
    refine xo_aldR d_W_fetch_48 h (fun a3 h => ?_)
    refine xo_V_VH (rest := []) [.ref a3] d_W_fetch_49 tw_412 yw_K_meet h xc_2 (fun z e => c_K_meet _ _ _ _ _ _ _ z e) rfl ⟨rfl, rfl⟩ rfl rfl rfl (fun q4 h => ?_)
    refine xo_iinc 3 (fun x5 => [(5, .int x5), (0, .ref l0), (1, .ref l1), (4, .int l4)]) d_W_fetch_52 rfl rfl xic_1 (fun _ => rfl) h (fun x5 h => ?_)
    refine xo_goto d_W_fetch_55 ?_
    exact xo_sub [1, 2, 3, 0] [(0, .ref l0), (1, .ref l1), (4, .int l4), (5, .int x5)] rfl (R31 _ _ _ _ _ h)
theorem kb_W_fetch_31 (X : xX) (sz : Nat) (ro : Unit × xw) (n : Nat) : ∀ (w : xw) (l0 : Nat) (l1 : Nat) (l4 : Int32) (l5 : Int32), f_W_fetch_b31 n w l0 l1 l4 l5 = some ro → k_W_fetch X [(0, .ref l0), (1, .ref l1), (4, .int l4), (5, .int l5)] [] w sz 0 0 31 (none, ro.2, sz) := by
  unfold f_W_fetch_b31
  refine xfix_ind (P := fun (r31 : xw → Nat → Nat → Int32 → Int32 → Option (Unit × xw)) => ∀ (w : xw) (l0 : Nat) (l1 : Nat) (l4 : Int32) (l5 : Int32), r31 w l0 l1 l4 l5 = some ro → k_W_fetch X [(0, .ref l0), (1, .ref l1), (4, .int l4), (5, .int l5)] [] w sz 0 0 31 (none, ro.2, sz)) ?_ ?_ n
  · intro _ _ _ _ _ h
    cases h
  · intro r R w l0 l1 l4 l5 h
    exact ks_W_fetch_31 X sz ro r R _ _ _ _ _ h
theorem kb_W_fetch_0 (X : xX) (sz : Nat) (ro : Unit × xw) (w : xw) (l0 : Nat) (l1 : Nat) (l2 : Nat) (h : f_W_fetch w l0 l1 l2 = some ro) : k_W_fetch X [(0, .ref l0), (1, .ref l1), (2, .ref l2)] [] w sz 0 0 0 (none, ro.2, sz) := by
  unfold f_W_fetch at h
  refine xo_aload_n 2 d_W_fetch_0 rfl rfl ?_
  refine xo_getL 3 d_W_fetch_1 xc_2 rfl tw_123 rfl h (fun x1 h => ?_)
  refine xo_l2i d_W_fetch_4 ?_
  refine xo_istore_n [(3, .int x1.toInt32), (0, .ref l0), (1, .ref l1), (2, .ref l2)] d_W_fetch_5 rfl rfl rfl ?_
  refine xo_aload_n 3 d_W_fetch_6 rfl rfl ?_
  refine xo_getL 4 d_W_fetch_7 xc_2 rfl tw_126 rfl h (fun x2 h => ?_)
  refine xo_l2i d_W_fetch_10 ?_
  refine xo_istore [(4, .int x2.toInt32), (3, .int x1.toInt32), (0, .ref l0), (1, .ref l1), (2, .ref l2)] d_W_fetch_11 rfl rfl ?_
  refine xo_aload_n 3 d_W_fetch_13 rfl rfl ?_
  refine xo_aload_n 2 d_W_fetch_14 rfl rfl ?_
  refine xo_getR 1 d_W_fetch_15 xc_7 rfl tw_167 rfl h (fun a3 h => ?_)
  refine xo_getR 1 d_W_fetch_18 xc_6 rfl tw_157 rfl h (fun a4 h => ?_)
  refine xo_iload_n 1 d_W_fetch_21 rfl rfl ?_
  refine xo_aldR d_W_fetch_22 h (fun a5 h => ?_)
  refine xo_V_VH (rest := []) [.ref a5] d_W_fetch_23 tw_383 yw_K_take h xc_2 (fun z e => c_K_take _ _ _ _ _ _ _ z e) rfl ⟨rfl, rfl⟩ rfl rfl rfl (fun q6 h => ?_)
  refine xo_iload_n 1 d_W_fetch_26 rfl rfl ?_
  refine xo_iconst d_W_fetch_27 xic_1 ?_
  refine xo_iadd d_W_fetch_28 ?_
  refine xo_nmI h (fun x7 h => ?_)
  refine xo_istore [(5, .int x7), (4, .int x2.toInt32), (3, .int x1.toInt32), (0, .ref l0), (1, .ref l1), (2, .ref l2)] d_W_fetch_29 rfl rfl ?_
  exact xo_sub [3, 4, 1, 0] [(0, .ref l0), (1, .ref l1), (4, .int x2.toInt32), (5, .int x7)] rfl (kb_W_fetch_31 X sz ro _ _ _ _ _ _ h)
theorem c_W_fetch (l : Launch) (D : va_G) (cT : Nat → ClassId) (sz : Nat) (w : xw) (l0 : Nat) (l1 : Nat) (l2 : Nat) (ro : Unit × xw) (h : f_W_fetch w l0 l1 l2 = some ro) : xM l y_W_fetch b_W_fetch 6 t_W_fetch R_W_fetch D cT [.ref l0, .ref l1, .ref l2] w sz (none, ro.2, sz) :=
  xm_of bl_W_fetch rfl rfl (kb_W_fetch_0 (l, D, cT, [.ref l0, .ref l1, .ref l2], w, sz) sz ro w l0 l1 l2 h)
theorem kb_W_store_69 (X : xX) (sz : Nat) (ro : Unit × xw) (r31 : xw → Nat → Nat → Nat → Int32 → Option (Unit × xw)) (R31 : ∀ (w : xw) (l0 : Nat) (l1 : Nat) (l2 : Nat) (l3 : Int32), r31 w l0 l1 l2 l3 = some ro → k_W_store X [(0, .ref l0), (1, .ref l1), (2, .ref l2), (3, .int l3)] [] w sz 0 0 31 (none, ro.2, sz)) (w : xw) (l0 : Nat) (l1 : Nat) (l2 : Nat) (l3 : Int32) (h : f_W_store_b69 r31 w l0 l1 l2 l3 = some ro) : k_W_store X [(0, .ref l0), (1, .ref l1), (2, .ref l2), (3, .int l3)] [] w sz 0 0 69 (none, ro.2, sz) := by
  unfold f_W_store_b69 at h
  refine xo_iinc 3 (fun x1 => [(3, .int x1), (0, .ref l0), (1, .ref l1), (2, .ref l2)]) d_W_store_69 rfl rfl xic_1 (fun _ => rfl) h (fun x1 h => ?_)
  refine xo_goto d_W_store_72 ?_
  exact xo_sub [1, 2, 3, 0] [(0, .ref l0), (1, .ref l1), (2, .ref l2), (3, .int x1)] rfl (R31 _ _ _ _ _ h)
theorem ks_W_store_31 (X : xX) (sz : Nat) (ro : Unit × xw) (r31 : xw → Nat → Nat → Nat → Int32 → Option (Unit × xw)) (R31 : ∀ (w : xw) (l0 : Nat) (l1 : Nat) (l2 : Nat) (l3 : Int32), r31 w l0 l1 l2 l3 = some ro → k_W_store X [(0, .ref l0), (1, .ref l1), (2, .ref l2), (3, .int l3)] [] w sz 0 0 31 (none, ro.2, sz)) (w : xw) (l0 : Nat) (l1 : Nat) (l2 : Nat) (l3 : Int32) (h : f_W_store_s31 r31 w l0 l1 l2 l3 = some ro) : k_W_store X [(0, .ref l0), (1, .ref l1), (2, .ref l2), (3, .int l3)] [] w sz 0 0 31 (none, ro.2, sz) := by
  unfold f_W_store_s31 at h
  refine xo_iload_n 3 d_W_store_31 rfl rfl ?_
  refine xo_i2l d_W_store_32 ?_
  refine xo_aload_n 2 d_W_store_33 rfl rfl ?_
  refine xo_getL 4 d_W_store_34 xc_2 rfl tw_126 rfl h (fun x1 h => ?_)
  refine xo_lcgt d_W_store_37 d_W_store_38 h (fun h => ?_) (fun h => ?_)
  · exact xo_retVH d_W_store_75 rfl rfl rfl h
  · refine xo_aload_n 0 d_W_store_41 rfl rfl ?_
    refine xo_getR 1 d_W_store_42 xc_7 rfl tw_167 rfl h (fun a2 h => ?_)
    refine xo_getR 1 d_W_store_45 xc_6 rfl tw_157 rfl h (fun a3 h => ?_)
    refine xo_iload_n 3 d_W_store_48 rfl rfl ?_
    refine xo_aldR d_W_store_49 h (fun a4 h => ?_)
    refine xo_getI 0 d_W_store_50 xc_2 rfl tw_116 rfl h (fun x5 h => ?_)
    refine xo_if_eq d_W_store_53 h (fun h => ?_) (fun h => ?_)
    · exact xo_sub [0, 1, 2, 3] [(0, .ref l0), (1, .ref l1), (2, .ref l2), (3, .int l3)] rfl (kb_W_store_69 X sz ro _ R31 _ _ _ _ _ h)
    · refine xo_aload_n 0 d_W_store_56 rfl rfl ?_
      refine xo_getR 1 d_W_store_57 xc_7 rfl tw_167 rfl h (fun a6 h => ?_)
      refine xo_getR 1 d_W_store_60 xc_6 rfl tw_157 rfl h (fun a7 h => ?_)
      refine xo_iload_n 3 d_W_store_63 rfl rfl ?_
      refine xo_aldR d_W_store_64 h (fun a8 h => ?_)
      refine xo_aload_n 1 d_W_store_65 rfl rfl ?_
      refine xo_V_VH (rest := []) [.ref l1] d_W_store_66 tw_412 yw_K_meet h xc_2 (fun z e => c_K_meet _ _ _ _ _ _ _ z e) rfl ⟨rfl, rfl⟩ rfl rfl rfl (fun q9 h => ?_)
      exact xo_sub [0, 1, 2, 3] [(0, .ref l0), (1, .ref l1), (2, .ref l2), (3, .int l3)] rfl (kb_W_store_69 X sz ro _ R31 _ _ _ _ _ h)
theorem kb_W_store_31 (X : xX) (sz : Nat) (ro : Unit × xw) (n : Nat) : ∀ (w : xw) (l0 : Nat) (l1 : Nat) (l2 : Nat) (l3 : Int32), f_W_store_b31 n w l0 l1 l2 l3 = some ro → k_W_store X [(0, .ref l0), (1, .ref l1), (2, .ref l2), (3, .int l3)] [] w sz 0 0 31 (none, ro.2, sz) := by
  unfold f_W_store_b31
  refine xfix_ind (P := fun (r31 : xw → Nat → Nat → Nat → Int32 → Option (Unit × xw)) => ∀ (w : xw) (l0 : Nat) (l1 : Nat) (l2 : Nat) (l3 : Int32), r31 w l0 l1 l2 l3 = some ro → k_W_store X [(0, .ref l0), (1, .ref l1), (2, .ref l2), (3, .int l3)] [] w sz 0 0 31 (none, ro.2, sz)) ?_ ?_ n
  · intro _ _ _ _ _ h
    cases h
  · intro r R w l0 l1 l2 l3 h
    exact ks_W_store_31 X sz ro r R _ _ _ _ _ h
theorem kb_W_store_0 (X : xX) (sz : Nat) (ro : Unit × xw) (w : xw) (l0 : Nat) (l1 : Nat) (l2 : Nat) (h : f_W_store w l0 l1 l2 = some ro) : k_W_store X [(0, .ref l0), (1, .ref l1), (2, .ref l2)] [] w sz 0 0 0 (none, ro.2, sz) := by
  unfold f_W_store at h
  refine xo_aload_n 2 d_W_store_0 rfl rfl ?_
  refine xo_V_IH (rest := []) [] d_W_store_1 tw_393 yw_K_isExact h xc_2 (fun z e => c_K_isExact _ _ _ _ _ _ z e) rfl ⟨rfl, rfl⟩ rfl rfl rfl (fun q1 h => ?_)
  refine xo_if_eq d_W_store_4 h (fun h => ?_) (fun h => ?_)
  · refine xo_aload_n 2 d_W_store_25 rfl rfl ?_
    refine xo_getL 3 d_W_store_26 xc_2 rfl tw_123 rfl h (fun x2 h => ?_)
    refine xo_l2i d_W_store_29 ?_
    refine xo_istore_n [(3, .int x2.toInt32), (0, .ref l0), (1, .ref l1), (2, .ref l2)] d_W_store_30 rfl rfl rfl ?_
    exact xo_sub [1, 2, 3, 0] [(0, .ref l0), (1, .ref l1), (2, .ref l2), (3, .int x2.toInt32)] rfl (kb_W_store_31 X sz ro _ _ _ _ _ _ h)
  · refine xo_aload_n 0 d_W_store_7 rfl rfl ?_
    refine xo_getR 1 d_W_store_8 xc_7 rfl tw_167 rfl h (fun a3 h => ?_)
    refine xo_getR 1 d_W_store_11 xc_6 rfl tw_157 rfl h (fun a4 h => ?_)
    refine xo_aload_n 2 d_W_store_14 rfl rfl ?_
    refine xo_getL 3 d_W_store_15 xc_2 rfl tw_123 rfl h (fun x5 h => ?_)
    refine xo_l2i d_W_store_18 ?_
    refine xo_aldR d_W_store_19 h (fun a6 h => ?_)
    refine xo_aload_n 1 d_W_store_20 rfl rfl ?_
    refine xo_V_VH (rest := []) [.ref l1] d_W_store_21 tw_383 yw_K_take h xc_2 (fun z e => c_K_take _ _ _ _ _ _ _ z e) rfl ⟨rfl, rfl⟩ rfl rfl rfl (fun q7 h => ?_)
    exact xo_retVH d_W_store_24 rfl rfl rfl h
theorem c_W_store (l : Launch) (D : va_G) (cT : Nat → ClassId) (sz : Nat) (w : xw) (l0 : Nat) (l1 : Nat) (l2 : Nat) (ro : Unit × xw) (h : f_W_store w l0 l1 l2 = some ro) : xM l y_W_store b_W_store 4 t_W_store R_W_store D cT [.ref l0, .ref l1, .ref l2] w sz (none, ro.2, sz) :=
  xm_of bl_W_store rfl rfl (kb_W_store_0 (l, D, cT, [.ref l0, .ref l1, .ref l2], w, sz) sz ro w l0 l1 l2 h)
theorem kb_O_lowestBits_0 (X : xX) (sz : Nat) (ro : Int32 × xw) (w : xw) (l0 : Nat) (l1 : Nat) (h : f_O_lowestBits w l0 l1 = some ro) : k_O_lowestBits X [(0, .ref l0), (1, .ref l1)] [] w sz 0 0 0 (some (.int ro.1), ro.2, sz) := by
  unfold f_O_lowestBits at h
  refine xo_aload_n 0 d_O_lowestBits_0 rfl rfl ?_
  refine xo_getI 1 d_O_lowestBits_1 xc_2 rfl tw_118 rfl h (fun x1 h => ?_)
  refine xo_aload_n 1 d_O_lowestBits_4 rfl rfl ?_
  refine xo_getI 1 d_O_lowestBits_5 xc_2 rfl tw_118 rfl h (fun x2 h => ?_)
  refine xo_iand d_O_lowestBits_8 ?_
  refine xo_iconst d_O_lowestBits_9 xic_m1 ?_
  refine xo_ixor d_O_lowestBits_10 ?_
  refine xo_nmI h (fun x3 h => ?_)
  refine xo_istore_n [(2, .int x3), (0, .ref l0), (1, .ref l1)] d_O_lowestBits_11 rfl rfl rfl ?_
  refine xo_iload_n 0 d_O_lowestBits_12 rfl rfl ?_
  refine xo_iload_n 0 d_O_lowestBits_13 rfl rfl ?_
  refine xo_ineg d_O_lowestBits_14 ?_
  refine xo_iand d_O_lowestBits_15 ?_
  refine xo_iconst d_O_lowestBits_16 xic_1 ?_
  refine xo_isub d_O_lowestBits_17 ?_
  exact xo_retIH d_O_lowestBits_18 rfl rfl rfl h
theorem c_O_lowestBits (l : Launch) (D : va_G) (cT : Nat → ClassId) (sz : Nat) (w : xw) (l0 : Nat) (l1 : Nat) (ro : Int32 × xw) (h : f_O_lowestBits w l0 l1 = some ro) : xM l y_O_lowestBits b_O_lowestBits 3 t_O_lowestBits R_O_lowestBits D cT [.ref l0, .ref l1] w sz (some (.int ro.1), ro.2, sz) :=
  xm_of bl_O_lowestBits rfl rfl (kb_O_lowestBits_0 (l, D, cT, [.ref l0, .ref l1], w, sz) sz ro w l0 l1 h)
theorem kb_G_isInt_21 (X : xX) (sz : Nat) (ro : Int32) (w : xw) (s0 : Int32) (h : f_G_isInt_b21 s0 = some ro) : k_G_isInt X [] [.int s0] w sz 0 0 21 (some (.int ro), w, sz) := by
  unfold f_G_isInt_b21 at h
  exact xo_retZ0 d_G_isInt_21 rfl rfl rfl h
theorem kb_G_isInt_20 (X : xX) (sz : Nat) (ro : Int32) (w : xw) (h : f_G_isInt_b20 = some ro) : k_G_isInt X [] [] w sz 0 0 20 (some (.int ro), w, sz) := by
  unfold f_G_isInt_b20 at h
  refine xo_iconst d_G_isInt_20 xic_0 ?_
  exact xo_sub [] [] rfl (kb_G_isInt_21 X sz ro w _ h)
theorem kb_G_isInt_0 (X : xX) (sz : Nat) (ro : Int32) (w : xw) (l0 : Int64) (h : f_G_isInt l0 = some ro) : k_G_isInt X [(0, .long l0)] [] w sz 0 0 0 (some (.int ro), w, sz) := by
  unfold f_G_isInt at h
  refine xo_lload_n 0 d_G_isInt_0 rfl rfl ?_
  refine xo_ldc2 d_G_isInt_1 tw_441 ?_
  refine xo_lclt d_G_isInt_4 d_G_isInt_5 h (fun h => ?_) (fun h => ?_)
  · exact xo_sub [] [] rfl (kb_G_isInt_20 X sz ro w h)
  · refine xo_lload_n 0 d_G_isInt_8 rfl rfl ?_
    refine xo_ldc2 d_G_isInt_9 tw_442 ?_
    refine xo_lcgt d_G_isInt_12 d_G_isInt_13 h (fun h => ?_) (fun h => ?_)
    · exact xo_sub [] [] rfl (kb_G_isInt_20 X sz ro w h)
    · refine xo_iconst d_G_isInt_16 xic_1 ?_
      refine xo_goto d_G_isInt_17 ?_
      exact xo_sub [] [] rfl (kb_G_isInt_21 X sz ro w _ h)
theorem c_G_isInt (l : Launch) (D : va_G) (cT : Nat → ClassId) (sz : Nat) (w : xw) (l0 : Int64) (ro : Int32) (h : f_G_isInt l0 = some ro) : xM l y_G_isInt b_G_isInt 2 t_G_isInt R_G_isInt D cT [.long l0] w sz (some (.int ro), w, sz) :=
  xm_of bl_G_isInt rfl rfl (kb_G_isInt_0 (l, D, cT, [.long l0], w, sz) sz ro w l0 h)
theorem kb_O_sum_169 (X : xX) (sz : Nat) (ro : Unit × xw) (w : xw) (h : f_O_sum_b169 w = some ro) : k_O_sum X [] [] w sz 0 0 169 (none, ro.2, sz) := by
  unfold f_O_sum_b169 at h
  exact xo_retVH d_O_sum_169 rfl rfl rfl h
theorem kb_O_sum_117 (X : xX) (sz : Nat) (ro : Unit × xw) (w : xw) (l0 : Nat) (l1 : Nat) (l2 : Nat) (h : f_O_sum_b117 w l0 l1 l2 = some ro) : k_O_sum X [(0, .ref l0), (1, .ref l1), (2, .ref l2)] [] w sz 0 0 117 (none, ro.2, sz) := by
  unfold f_O_sum_b117 at h
  refine xo_aload_n 1 d_O_sum_117 rfl rfl ?_
  refine xo_V_IH (rest := []) [] d_O_sum_118 tw_444 yw_K_isExact h xc_2 (fun z e => c_K_isExact _ _ _ _ _ _ z e) rfl ⟨rfl, rfl⟩ rfl rfl rfl (fun q1 h => ?_)
  refine xo_if_eq d_O_sum_121 h (fun h => ?_) (fun h => ?_)
  · exact xo_sub [] [] rfl (kb_O_sum_169 X sz ro _ h)
  · refine xo_aload_n 1 d_O_sum_124 rfl rfl ?_
    refine xo_getL 3 d_O_sum_125 xc_2 rfl tw_122 rfl h (fun x2 h => ?_)
    refine xo_ldc2 d_O_sum_128 tw_445 ?_
    refine xo_lcgt d_O_sum_131 d_O_sum_132 h (fun h => ?_) (fun h => ?_)
    · exact xo_sub [] [] rfl (kb_O_sum_169 X sz ro _ h)
    · refine xo_aload_n 0 d_O_sum_135 rfl rfl ?_
      refine xo_getL 4 d_O_sum_136 xc_2 rfl tw_125 rfl h (fun x3 h => ?_)
      refine xo_aload_n 1 d_O_sum_139 rfl rfl ?_
      refine xo_getL 3 d_O_sum_140 xc_2 rfl tw_122 rfl h (fun x4 h => ?_)
      refine xo_ladd d_O_sum_143 ?_
      refine xo_ldc2 d_O_sum_144 tw_436 ?_
      refine xo_lcgt d_O_sum_147 d_O_sum_148 h (fun h => ?_) (fun h => ?_)
      · exact xo_sub [] [] rfl (kb_O_sum_169 X sz ro _ h)
      · refine xo_aload_n 2 d_O_sum_151 rfl rfl ?_
        refine xo_aload_n 0 d_O_sum_152 rfl rfl ?_
        refine xo_getI 7 d_O_sum_153 xc_2 rfl tw_135 rfl h (fun x5 h => ?_)
        refine xo_aload_n 1 d_O_sum_156 rfl rfl ?_
        refine xo_getL 3 d_O_sum_157 xc_2 rfl tw_122 rfl h (fun x6 h => ?_)
        refine xo_l2i d_O_sum_160 ?_
        refine xo_isub d_O_sum_161 ?_
        refine xo_iconst d_O_sum_162 xic_0 ?_
        refine xo_mmaxI d_O_sum_163 tw_446 rfl rfl rfl rfl h (fun q7 h => ?_)
        refine xo_putI 7 d_O_sum_166 xc_2 rfl tw_135 rfl rfl rfl rfl h (fun w8 h => ?_)
        exact xo_sub [] [] rfl (kb_O_sum_169 X sz ro _ h)
theorem kb_O_sum_65 (X : xX) (sz : Nat) (ro : Unit × xw) (w : xw) (l0 : Nat) (l1 : Nat) (l2 : Nat) (h : f_O_sum_b65 w l0 l1 l2 = some ro) : k_O_sum X [(0, .ref l0), (1, .ref l1), (2, .ref l2)] [] w sz 0 0 65 (none, ro.2, sz) := by
  unfold f_O_sum_b65 at h
  refine xo_aload_n 0 d_O_sum_65 rfl rfl ?_
  refine xo_getL 5 d_O_sum_66 xc_2 rfl tw_128 rfl h (fun x1 h => ?_)
  refine xo_aload_n 1 d_O_sum_69 rfl rfl ?_
  refine xo_getL 5 d_O_sum_70 xc_2 rfl tw_128 rfl h (fun x2 h => ?_)
  refine xo_ladd d_O_sum_73 ?_
  refine xo_SN_I0 (rest := []) [.long (x1 + x2)] d_O_sum_74 nw_5 yw_G_isInt h (fun z e => c_G_isInt _ _ _ _ _ _ z e) rfl ⟨rfl, rfl⟩ rfl rfl rfl (fun q3 h => ?_)
  refine xo_if_eq d_O_sum_77 h (fun h => ?_) (fun h => ?_)
  · exact xo_sub [0, 1, 2] [(0, .ref l0), (1, .ref l1), (2, .ref l2)] rfl (kb_O_sum_117 X sz ro _ _ _ _ h)
  · refine xo_aload_n 0 d_O_sum_80 rfl rfl ?_
    refine xo_getL 6 d_O_sum_81 xc_2 rfl tw_131 rfl h (fun x4 h => ?_)
    refine xo_aload_n 1 d_O_sum_84 rfl rfl ?_
    refine xo_getL 6 d_O_sum_85 xc_2 rfl tw_131 rfl h (fun x5 h => ?_)
    refine xo_ladd d_O_sum_88 ?_
    refine xo_SN_I0 (rest := []) [.long (x4 + x5)] d_O_sum_89 nw_5 yw_G_isInt h (fun z e => c_G_isInt _ _ _ _ _ _ z e) rfl ⟨rfl, rfl⟩ rfl rfl rfl (fun q6 h => ?_)
    refine xo_if_eq d_O_sum_92 h (fun h => ?_) (fun h => ?_)
    · exact xo_sub [0, 1, 2] [(0, .ref l0), (1, .ref l1), (2, .ref l2)] rfl (kb_O_sum_117 X sz ro _ _ _ _ h)
    · refine xo_aload_n 2 d_O_sum_95 rfl rfl ?_
      refine xo_aload_n 0 d_O_sum_96 rfl rfl ?_
      refine xo_getL 5 d_O_sum_97 xc_2 rfl tw_128 rfl h (fun x7 h => ?_)
      refine xo_aload_n 1 d_O_sum_100 rfl rfl ?_
      refine xo_getL 5 d_O_sum_101 xc_2 rfl tw_128 rfl h (fun x8 h => ?_)
      refine xo_ladd d_O_sum_104 ?_
      refine xo_aload_n 0 d_O_sum_105 rfl rfl ?_
      refine xo_getL 6 d_O_sum_106 xc_2 rfl tw_131 rfl h (fun x9 h => ?_)
      refine xo_aload_n 1 d_O_sum_109 rfl rfl ?_
      refine xo_getL 6 d_O_sum_110 xc_2 rfl tw_131 rfl h (fun x10 h => ?_)
      refine xo_ladd d_O_sum_113 ?_
      refine xo_V_VH (rest := []) [.long (x7 + x8), .long (x9 + x10)] d_O_sum_114 tw_443 yw_K_boundSigned h xc_2 (fun z e => c_K_boundSigned _ _ _ _ _ _ _ _ z e) rfl ⟨rfl, rfl⟩ rfl rfl rfl (fun q11 h => ?_)
      exact xo_sub [0, 1, 2] [(0, .ref l0), (1, .ref l1), (2, .ref l2)] rfl (kb_O_sum_117 X sz ro _ _ _ _ h)
theorem kb_O_sum_0 (X : xX) (sz : Nat) (ro : Unit × xw) (w : xw) (l0 : Nat) (l1 : Nat) (l2 : Nat) (h : f_O_sum w l0 l1 l2 = some ro) : k_O_sum X [(0, .ref l0), (1, .ref l1), (2, .ref l2)] [] w sz 0 0 0 (none, ro.2, sz) := by
  unfold f_O_sum at h
  refine xo_aload_n 2 d_O_sum_0 rfl rfl ?_
  refine xo_aload_n 0 d_O_sum_1 rfl rfl ?_
  refine xo_aload_n 1 d_O_sum_2 rfl rfl ?_
  refine xo_S_IH (rest := [.ref l2]) [.ref l0, .ref l1] d_O_sum_3 tw_433 yw_O_lowestBits h (fun z e => c_O_lowestBits _ _ _ _ _ _ _ z e) rfl ⟨rfl, rfl⟩ rfl rfl rfl (fun q1 h => ?_)
  refine xo_putI 1 d_O_sum_6 xc_2 rfl tw_118 rfl rfl rfl rfl h (fun w2 h => ?_)
  refine xo_aload_n 2 d_O_sum_9 rfl rfl ?_
  refine xo_aload_n 0 d_O_sum_10 rfl rfl ?_
  refine xo_getI 2 d_O_sum_11 xc_2 rfl tw_120 rfl h (fun x3 h => ?_)
  refine xo_aload_n 1 d_O_sum_14 rfl rfl ?_
  refine xo_getI 2 d_O_sum_15 xc_2 rfl tw_120 rfl h (fun x4 h => ?_)
  refine xo_iadd d_O_sum_18 ?_
  refine xo_aload_n 2 d_O_sum_19 rfl rfl ?_
  refine xo_getI 1 d_O_sum_20 xc_2 rfl tw_118 rfl h (fun x5 h => ?_)
  refine xo_iand d_O_sum_23 ?_
  refine xo_putI 2 d_O_sum_24 xc_2 rfl tw_120 rfl rfl rfl rfl h (fun w6 h => ?_)
  refine xo_aload_n 0 d_O_sum_27 rfl rfl ?_
  refine xo_getL 4 d_O_sum_28 xc_2 rfl tw_125 rfl h (fun x7 h => ?_)
  refine xo_aload_n 1 d_O_sum_31 rfl rfl ?_
  refine xo_getL 4 d_O_sum_32 xc_2 rfl tw_125 rfl h (fun x8 h => ?_)
  refine xo_ladd d_O_sum_35 ?_
  refine xo_ldc2 d_O_sum_36 tw_436 ?_
  refine xo_lcgt d_O_sum_39 d_O_sum_40 h (fun h => ?_) (fun h => ?_)
  · exact xo_sub [0, 1, 2] [(0, .ref l0), (1, .ref l1), (2, .ref l2)] rfl (kb_O_sum_65 X sz ro _ _ _ _ h)
  · refine xo_aload_n 2 d_O_sum_43 rfl rfl ?_
    refine xo_aload_n 0 d_O_sum_44 rfl rfl ?_
    refine xo_getL 3 d_O_sum_45 xc_2 rfl tw_122 rfl h (fun x9 h => ?_)
    refine xo_aload_n 1 d_O_sum_48 rfl rfl ?_
    refine xo_getL 3 d_O_sum_49 xc_2 rfl tw_122 rfl h (fun x10 h => ?_)
    refine xo_ladd d_O_sum_52 ?_
    refine xo_aload_n 0 d_O_sum_53 rfl rfl ?_
    refine xo_getL 4 d_O_sum_54 xc_2 rfl tw_125 rfl h (fun x11 h => ?_)
    refine xo_aload_n 1 d_O_sum_57 rfl rfl ?_
    refine xo_getL 4 d_O_sum_58 xc_2 rfl tw_125 rfl h (fun x12 h => ?_)
    refine xo_ladd d_O_sum_61 ?_
    refine xo_V_VH (rest := []) [.long (x9 + x10), .long (x11 + x12)] d_O_sum_62 tw_437 yw_K_boundUnsigned h xc_2 (fun z e => c_K_boundUnsigned _ _ _ _ _ _ _ _ z e) rfl ⟨rfl, rfl⟩ rfl rfl rfl (fun q13 h => ?_)
    exact xo_sub [0, 1, 2] [(0, .ref l0), (1, .ref l1), (2, .ref l2)] rfl (kb_O_sum_65 X sz ro _ _ _ _ h)
theorem c_O_sum (l : Launch) (D : va_G) (cT : Nat → ClassId) (sz : Nat) (w : xw) (l0 : Nat) (l1 : Nat) (l2 : Nat) (ro : Unit × xw) (h : f_O_sum w l0 l1 l2 = some ro) : xM l y_O_sum b_O_sum 3 t_O_sum R_O_sum D cT [.ref l0, .ref l1, .ref l2] w sz (none, ro.2, sz) :=
  xm_of bl_O_sum rfl rfl (kb_O_sum_0 (l, D, cT, [.ref l0, .ref l1, .ref l2], w, sz) sz ro w l0 l1 l2 h)
theorem kb_O_difference_115 (X : xX) (sz : Nat) (ro : Unit × xw) (w : xw) (h : f_O_difference_b115 w = some ro) : k_O_difference X [] [] w sz 0 0 115 (none, ro.2, sz) := by
  unfold f_O_difference_b115 at h
  exact xo_retVH d_O_difference_115 rfl rfl rfl h
theorem kb_O_difference_63 (X : xX) (sz : Nat) (ro : Unit × xw) (w : xw) (l0 : Nat) (l1 : Nat) (l2 : Nat) (h : f_O_difference_b63 w l0 l1 l2 = some ro) : k_O_difference X [(0, .ref l0), (1, .ref l1), (2, .ref l2)] [] w sz 0 0 63 (none, ro.2, sz) := by
  unfold f_O_difference_b63 at h
  refine xo_aload_n 0 d_O_difference_63 rfl rfl ?_
  refine xo_getL 5 d_O_difference_64 xc_2 rfl tw_128 rfl h (fun x1 h => ?_)
  refine xo_aload_n 1 d_O_difference_67 rfl rfl ?_
  refine xo_getL 6 d_O_difference_68 xc_2 rfl tw_131 rfl h (fun x2 h => ?_)
  refine xo_lsub d_O_difference_71 ?_
  refine xo_SN_I0 (rest := []) [.long (x1 - x2)] d_O_difference_72 nw_5 yw_G_isInt h (fun z e => c_G_isInt _ _ _ _ _ _ z e) rfl ⟨rfl, rfl⟩ rfl rfl rfl (fun q3 h => ?_)
  refine xo_if_eq d_O_difference_75 h (fun h => ?_) (fun h => ?_)
  · exact xo_sub [] [] rfl (kb_O_difference_115 X sz ro _ h)
  · refine xo_aload_n 0 d_O_difference_78 rfl rfl ?_
    refine xo_getL 6 d_O_difference_79 xc_2 rfl tw_131 rfl h (fun x4 h => ?_)
    refine xo_aload_n 1 d_O_difference_82 rfl rfl ?_
    refine xo_getL 5 d_O_difference_83 xc_2 rfl tw_128 rfl h (fun x5 h => ?_)
    refine xo_lsub d_O_difference_86 ?_
    refine xo_SN_I0 (rest := []) [.long (x4 - x5)] d_O_difference_87 nw_5 yw_G_isInt h (fun z e => c_G_isInt _ _ _ _ _ _ z e) rfl ⟨rfl, rfl⟩ rfl rfl rfl (fun q6 h => ?_)
    refine xo_if_eq d_O_difference_90 h (fun h => ?_) (fun h => ?_)
    · exact xo_sub [] [] rfl (kb_O_difference_115 X sz ro _ h)
    · refine xo_aload_n 2 d_O_difference_93 rfl rfl ?_
      refine xo_aload_n 0 d_O_difference_94 rfl rfl ?_
      refine xo_getL 5 d_O_difference_95 xc_2 rfl tw_128 rfl h (fun x7 h => ?_)
      refine xo_aload_n 1 d_O_difference_98 rfl rfl ?_
      refine xo_getL 6 d_O_difference_99 xc_2 rfl tw_131 rfl h (fun x8 h => ?_)
      refine xo_lsub d_O_difference_102 ?_
      refine xo_aload_n 0 d_O_difference_103 rfl rfl ?_
      refine xo_getL 6 d_O_difference_104 xc_2 rfl tw_131 rfl h (fun x9 h => ?_)
      refine xo_aload_n 1 d_O_difference_107 rfl rfl ?_
      refine xo_getL 5 d_O_difference_108 xc_2 rfl tw_128 rfl h (fun x10 h => ?_)
      refine xo_lsub d_O_difference_111 ?_
      refine xo_V_VH (rest := []) [.long (x7 - x8), .long (x9 - x10)] d_O_difference_112 tw_443 yw_K_boundSigned h xc_2 (fun z e => c_K_boundSigned _ _ _ _ _ _ _ _ z e) rfl ⟨rfl, rfl⟩ rfl rfl rfl (fun q11 h => ?_)
      exact xo_sub [] [] rfl (kb_O_difference_115 X sz ro _ h)
theorem kb_O_difference_0 (X : xX) (sz : Nat) (ro : Unit × xw) (w : xw) (l0 : Nat) (l1 : Nat) (l2 : Nat) (h : f_O_difference w l0 l1 l2 = some ro) : k_O_difference X [(0, .ref l0), (1, .ref l1), (2, .ref l2)] [] w sz 0 0 0 (none, ro.2, sz) := by
  unfold f_O_difference at h
  refine xo_aload_n 2 d_O_difference_0 rfl rfl ?_
  refine xo_aload_n 0 d_O_difference_1 rfl rfl ?_
  refine xo_aload_n 1 d_O_difference_2 rfl rfl ?_
  refine xo_S_IH (rest := [.ref l2]) [.ref l0, .ref l1] d_O_difference_3 tw_433 yw_O_lowestBits h (fun z e => c_O_lowestBits _ _ _ _ _ _ _ z e) rfl ⟨rfl, rfl⟩ rfl rfl rfl (fun q1 h => ?_)
  refine xo_putI 1 d_O_difference_6 xc_2 rfl tw_118 rfl rfl rfl rfl h (fun w2 h => ?_)
  refine xo_aload_n 2 d_O_difference_9 rfl rfl ?_
  refine xo_aload_n 0 d_O_difference_10 rfl rfl ?_
  refine xo_getI 2 d_O_difference_11 xc_2 rfl tw_120 rfl h (fun x3 h => ?_)
  refine xo_aload_n 1 d_O_difference_14 rfl rfl ?_
  refine xo_getI 2 d_O_difference_15 xc_2 rfl tw_120 rfl h (fun x4 h => ?_)
  refine xo_isub d_O_difference_18 ?_
  refine xo_aload_n 2 d_O_difference_19 rfl rfl ?_
  refine xo_getI 1 d_O_difference_20 xc_2 rfl tw_118 rfl h (fun x5 h => ?_)
  refine xo_iand d_O_difference_23 ?_
  refine xo_putI 2 d_O_difference_24 xc_2 rfl tw_120 rfl rfl rfl rfl h (fun w6 h => ?_)
  refine xo_aload_n 0 d_O_difference_27 rfl rfl ?_
  refine xo_getL 3 d_O_difference_28 xc_2 rfl tw_122 rfl h (fun x7 h => ?_)
  refine xo_aload_n 1 d_O_difference_31 rfl rfl ?_
  refine xo_getL 4 d_O_difference_32 xc_2 rfl tw_125 rfl h (fun x8 h => ?_)
  refine xo_lsub d_O_difference_35 ?_
  refine xo_lconst d_O_difference_36 xlc_0 ?_
  refine xo_lclt d_O_difference_37 d_O_difference_38 h (fun h => ?_) (fun h => ?_)
  · exact xo_sub [0, 1, 2] [(0, .ref l0), (1, .ref l1), (2, .ref l2)] rfl (kb_O_difference_63 X sz ro _ _ _ _ h)
  · refine xo_aload_n 2 d_O_difference_41 rfl rfl ?_
    refine xo_aload_n 0 d_O_difference_42 rfl rfl ?_
    refine xo_getL 3 d_O_difference_43 xc_2 rfl tw_122 rfl h (fun x9 h => ?_)
    refine xo_aload_n 1 d_O_difference_46 rfl rfl ?_
    refine xo_getL 4 d_O_difference_47 xc_2 rfl tw_125 rfl h (fun x10 h => ?_)
    refine xo_lsub d_O_difference_50 ?_
    refine xo_aload_n 0 d_O_difference_51 rfl rfl ?_
    refine xo_getL 4 d_O_difference_52 xc_2 rfl tw_125 rfl h (fun x11 h => ?_)
    refine xo_aload_n 1 d_O_difference_55 rfl rfl ?_
    refine xo_getL 3 d_O_difference_56 xc_2 rfl tw_122 rfl h (fun x12 h => ?_)
    refine xo_lsub d_O_difference_59 ?_
    refine xo_V_VH (rest := []) [.long (x9 - x10), .long (x11 - x12)] d_O_difference_60 tw_437 yw_K_boundUnsigned h xc_2 (fun z e => c_K_boundUnsigned _ _ _ _ _ _ _ _ z e) rfl ⟨rfl, rfl⟩ rfl rfl rfl (fun q13 h => ?_)
    exact xo_sub [0, 1, 2] [(0, .ref l0), (1, .ref l1), (2, .ref l2)] rfl (kb_O_difference_63 X sz ro _ _ _ _ h)
theorem c_O_difference (l : Launch) (D : va_G) (cT : Nat → ClassId) (sz : Nat) (w : xw) (l0 : Nat) (l1 : Nat) (l2 : Nat) (ro : Unit × xw) (h : f_O_difference w l0 l1 l2 = some ro) : xM l y_O_difference b_O_difference 3 t_O_difference R_O_difference D cT [.ref l0, .ref l1, .ref l2] w sz (none, ro.2, sz) :=
  xm_of bl_O_difference rfl rfl (kb_O_difference_0 (l, D, cT, [.ref l0, .ref l1, .ref l2], w, sz) sz ro w l0 l1 l2 h)
theorem kb_O_product_66 (X : xX) (sz : Nat) (ro : Unit × xw) (w : xw) (h : f_O_product_b66 w = some ro) : k_O_product X [] [] w sz 0 0 66 (none, ro.2, sz) := by
  unfold f_O_product_b66 at h
  exact xo_retVH d_O_product_66 rfl rfl rfl h
theorem kb_O_product_0 (X : xX) (sz : Nat) (ro : Unit × xw) (w : xw) (l0 : Nat) (l1 : Nat) (l2 : Nat) (h : f_O_product w l0 l1 l2 = some ro) : k_O_product X [(0, .ref l0), (1, .ref l1), (2, .ref l2)] [] w sz 0 0 0 (none, ro.2, sz) := by
  unfold f_O_product at h
  refine xo_aload_n 2 d_O_product_0 rfl rfl ?_
  refine xo_aload_n 0 d_O_product_1 rfl rfl ?_
  refine xo_aload_n 1 d_O_product_2 rfl rfl ?_
  refine xo_S_IH (rest := [.ref l2]) [.ref l0, .ref l1] d_O_product_3 tw_433 yw_O_lowestBits h (fun z e => c_O_lowestBits _ _ _ _ _ _ _ z e) rfl ⟨rfl, rfl⟩ rfl rfl rfl (fun q1 h => ?_)
  refine xo_putI 1 d_O_product_6 xc_2 rfl tw_118 rfl rfl rfl rfl h (fun w2 h => ?_)
  refine xo_aload_n 2 d_O_product_9 rfl rfl ?_
  refine xo_aload_n 0 d_O_product_10 rfl rfl ?_
  refine xo_getI 2 d_O_product_11 xc_2 rfl tw_120 rfl h (fun x3 h => ?_)
  refine xo_aload_n 1 d_O_product_14 rfl rfl ?_
  refine xo_getI 2 d_O_product_15 xc_2 rfl tw_120 rfl h (fun x4 h => ?_)
  refine xo_imul d_O_product_18 ?_
  refine xo_aload_n 2 d_O_product_19 rfl rfl ?_
  refine xo_getI 1 d_O_product_20 xc_2 rfl tw_118 rfl h (fun x5 h => ?_)
  refine xo_iand d_O_product_23 ?_
  refine xo_putI 2 d_O_product_24 xc_2 rfl tw_120 rfl rfl rfl rfl h (fun w6 h => ?_)
  refine xo_aload_n 0 d_O_product_27 rfl rfl ?_
  refine xo_getL 4 d_O_product_28 xc_2 rfl tw_125 rfl h (fun x7 h => ?_)
  refine xo_aload_n 1 d_O_product_31 rfl rfl ?_
  refine xo_getL 4 d_O_product_32 xc_2 rfl tw_125 rfl h (fun x8 h => ?_)
  refine xo_lmul d_O_product_35 ?_
  refine xo_bipush d_O_product_36 xbp_32 ?_
  refine xo_lushr d_O_product_38 ?_
  refine xo_lconst d_O_product_39 xlc_0 ?_
  refine xo_lcne d_O_product_40 d_O_product_41 h (fun h => ?_) (fun h => ?_)
  · exact xo_sub [] [] rfl (kb_O_product_66 X sz ro _ h)
  · refine xo_aload_n 2 d_O_product_44 rfl rfl ?_
    refine xo_aload_n 0 d_O_product_45 rfl rfl ?_
    refine xo_getL 3 d_O_product_46 xc_2 rfl tw_122 rfl h (fun x9 h => ?_)
    refine xo_aload_n 1 d_O_product_49 rfl rfl ?_
    refine xo_getL 3 d_O_product_50 xc_2 rfl tw_122 rfl h (fun x10 h => ?_)
    refine xo_lmul d_O_product_53 ?_
    refine xo_aload_n 0 d_O_product_54 rfl rfl ?_
    refine xo_getL 4 d_O_product_55 xc_2 rfl tw_125 rfl h (fun x11 h => ?_)
    refine xo_aload_n 1 d_O_product_58 rfl rfl ?_
    refine xo_getL 4 d_O_product_59 xc_2 rfl tw_125 rfl h (fun x12 h => ?_)
    refine xo_lmul d_O_product_62 ?_
    refine xo_V_VH (rest := []) [.long (x9 * x10), .long (x11 * x12)] d_O_product_63 tw_437 yw_K_boundUnsigned h xc_2 (fun z e => c_K_boundUnsigned _ _ _ _ _ _ _ _ z e) rfl ⟨rfl, rfl⟩ rfl rfl rfl (fun q13 h => ?_)
    exact xo_sub [] [] rfl (kb_O_product_66 X sz ro _ h)
theorem c_O_product (l : Launch) (D : va_G) (cT : Nat → ClassId) (sz : Nat) (w : xw) (l0 : Nat) (l1 : Nat) (l2 : Nat) (ro : Unit × xw) (h : f_O_product w l0 l1 l2 = some ro) : xM l y_O_product b_O_product 3 t_O_product R_O_product D cT [.ref l0, .ref l1, .ref l2] w sz (none, ro.2, sz) :=
  xm_of bl_O_product rfl rfl (kb_O_product_0 (l, D, cT, [.ref l0, .ref l1, .ref l2], w, sz) sz ro w l0 l1 l2 h)
theorem kb_K_zeros_0 (X : xX) (sz : Nat) (ro : Int32 × xw) (w : xw) (l0 : Nat) (h : f_K_zeros w l0 = some ro) : k_K_zeros X [(0, .ref l0)] [] w sz 0 0 0 (some (.int ro.1), ro.2, sz) := by
  unfold f_K_zeros at h
  refine xo_aload_n 0 d_K_zeros_0 rfl rfl ?_
  refine xo_getI 1 d_K_zeros_1 xc_2 rfl tw_117 rfl h (fun x1 h => ?_)
  refine xo_aload_n 0 d_K_zeros_4 rfl rfl ?_
  refine xo_getI 2 d_K_zeros_5 xc_2 rfl tw_119 rfl h (fun x2 h => ?_)
  refine xo_iconst d_K_zeros_8 xic_m1 ?_
  refine xo_ixor d_K_zeros_9 ?_
  refine xo_iand d_K_zeros_10 ?_
  exact xo_retIH d_K_zeros_11 rfl rfl rfl h
theorem c_K_zeros (l : Launch) (D : va_G) (cT : Nat → ClassId) (sz : Nat) (w : xw) (l0 : Nat) (ro : Int32 × xw) (h : f_K_zeros w l0 = some ro) : xM l y_K_zeros b_K_zeros 1 t_K_zeros R_K_zeros D cT [.ref l0] w sz (some (.int ro.1), ro.2, sz) :=
  xm_of bl_K_zeros rfl rfl (kb_K_zeros_0 (l, D, cT, [.ref l0], w, sz) sz ro w l0 h)
theorem kb_O_bothOnes_0 (X : xX) (sz : Nat) (ro : Unit × xw) (w : xw) (l0 : Nat) (l1 : Nat) (l2 : Nat) (h : f_O_bothOnes w l0 l1 l2 = some ro) : k_O_bothOnes X [(0, .ref l0), (1, .ref l1), (2, .ref l2)] [] w sz 0 0 0 (none, ro.2, sz) := by
  unfold f_O_bothOnes at h
  refine xo_aload_n 2 d_O_bothOnes_0 rfl rfl ?_
  refine xo_aload_n 0 d_O_bothOnes_1 rfl rfl ?_
  refine xo_getI 2 d_O_bothOnes_2 xc_2 rfl tw_120 rfl h (fun x1 h => ?_)
  refine xo_aload_n 1 d_O_bothOnes_5 rfl rfl ?_
  refine xo_getI 2 d_O_bothOnes_6 xc_2 rfl tw_120 rfl h (fun x2 h => ?_)
  refine xo_iand d_O_bothOnes_9 ?_
  refine xo_putI 2 d_O_bothOnes_10 xc_2 rfl tw_120 rfl rfl rfl rfl h (fun w3 h => ?_)
  refine xo_aload_n 2 d_O_bothOnes_13 rfl rfl ?_
  refine xo_aload_n 2 d_O_bothOnes_14 rfl rfl ?_
  refine xo_getI 2 d_O_bothOnes_15 xc_2 rfl tw_120 rfl h (fun x4 h => ?_)
  refine xo_aload_n 0 d_O_bothOnes_18 rfl rfl ?_
  refine xo_V_IH (rest := [.int x4, .ref l2]) [] d_O_bothOnes_19 tw_456 yw_K_zeros h xc_2 (fun z e => c_K_zeros _ _ _ _ _ _ z e) rfl ⟨rfl, rfl⟩ rfl rfl rfl (fun q5 h => ?_)
  refine xo_ior d_O_bothOnes_22 ?_
  refine xo_aload_n 1 d_O_bothOnes_23 rfl rfl ?_
  refine xo_V_IH (rest := [.int (x4 ||| q5.1), .ref l2]) [] d_O_bothOnes_24 tw_456 yw_K_zeros h xc_2 (fun z e => c_K_zeros _ _ _ _ _ _ z e) rfl ⟨rfl, rfl⟩ rfl rfl rfl (fun q6 h => ?_)
  refine xo_ior d_O_bothOnes_27 ?_
  refine xo_putI 1 d_O_bothOnes_28 xc_2 rfl tw_118 rfl rfl rfl rfl h (fun w7 h => ?_)
  refine xo_aload_n 2 d_O_bothOnes_31 rfl rfl ?_
  refine xo_aload_n 0 d_O_bothOnes_32 rfl rfl ?_
  refine xo_getL 4 d_O_bothOnes_33 xc_2 rfl tw_125 rfl h (fun x8 h => ?_)
  refine xo_aload_n 1 d_O_bothOnes_36 rfl rfl ?_
  refine xo_getL 4 d_O_bothOnes_37 xc_2 rfl tw_125 rfl h (fun x9 h => ?_)
  refine xo_mminL d_O_bothOnes_40 tw_460 rfl rfl rfl rfl h (fun q10 h => ?_)
  refine xo_putL 4 d_O_bothOnes_43 xc_2 rfl tw_125 rfl rfl rfl rfl h (fun w11 h => ?_)
  exact xo_retVH d_O_bothOnes_46 rfl rfl rfl h
theorem c_O_bothOnes (l : Launch) (D : va_G) (cT : Nat → ClassId) (sz : Nat) (w : xw) (l0 : Nat) (l1 : Nat) (l2 : Nat) (ro : Unit × xw) (h : f_O_bothOnes w l0 l1 l2 = some ro) : xM l y_O_bothOnes b_O_bothOnes 3 t_O_bothOnes R_O_bothOnes D cT [.ref l0, .ref l1, .ref l2] w sz (none, ro.2, sz) :=
  xm_of bl_O_bothOnes rfl rfl (kb_O_bothOnes_0 (l, D, cT, [.ref l0, .ref l1, .ref l2], w, sz) sz ro w l0 l1 l2 h)
theorem kb_O_eitherOne_0 (X : xX) (sz : Nat) (ro : Unit × xw) (w : xw) (l0 : Nat) (l1 : Nat) (l2 : Nat) (h : f_O_eitherOne w l0 l1 l2 = some ro) : k_O_eitherOne X [(0, .ref l0), (1, .ref l1), (2, .ref l2)] [] w sz 0 0 0 (none, ro.2, sz) := by
  unfold f_O_eitherOne at h
  refine xo_aload_n 2 d_O_eitherOne_0 rfl rfl ?_
  refine xo_aload_n 0 d_O_eitherOne_1 rfl rfl ?_
  refine xo_getI 2 d_O_eitherOne_2 xc_2 rfl tw_120 rfl h (fun x1 h => ?_)
  refine xo_aload_n 1 d_O_eitherOne_5 rfl rfl ?_
  refine xo_getI 2 d_O_eitherOne_6 xc_2 rfl tw_120 rfl h (fun x2 h => ?_)
  refine xo_ior d_O_eitherOne_9 ?_
  refine xo_putI 2 d_O_eitherOne_10 xc_2 rfl tw_120 rfl rfl rfl rfl h (fun w3 h => ?_)
  refine xo_aload_n 2 d_O_eitherOne_13 rfl rfl ?_
  refine xo_aload_n 2 d_O_eitherOne_14 rfl rfl ?_
  refine xo_getI 2 d_O_eitherOne_15 xc_2 rfl tw_120 rfl h (fun x4 h => ?_)
  refine xo_aload_n 0 d_O_eitherOne_18 rfl rfl ?_
  refine xo_V_IH (rest := [.int x4, .ref l2]) [] d_O_eitherOne_19 tw_456 yw_K_zeros h xc_2 (fun z e => c_K_zeros _ _ _ _ _ _ z e) rfl ⟨rfl, rfl⟩ rfl rfl rfl (fun q5 h => ?_)
  refine xo_aload_n 1 d_O_eitherOne_22 rfl rfl ?_
  refine xo_V_IH (rest := [.int q5.1, .int x4, .ref l2]) [] d_O_eitherOne_23 tw_456 yw_K_zeros h xc_2 (fun z e => c_K_zeros _ _ _ _ _ _ z e) rfl ⟨rfl, rfl⟩ rfl rfl rfl (fun q6 h => ?_)
  refine xo_iand d_O_eitherOne_26 ?_
  refine xo_ior d_O_eitherOne_27 ?_
  refine xo_putI 1 d_O_eitherOne_28 xc_2 rfl tw_118 rfl rfl rfl rfl h (fun w7 h => ?_)
  refine xo_aload_n 2 d_O_eitherOne_31 rfl rfl ?_
  refine xo_aload_n 0 d_O_eitherOne_32 rfl rfl ?_
  refine xo_getL 3 d_O_eitherOne_33 xc_2 rfl tw_122 rfl h (fun x8 h => ?_)
  refine xo_aload_n 1 d_O_eitherOne_36 rfl rfl ?_
  refine xo_getL 3 d_O_eitherOne_37 xc_2 rfl tw_122 rfl h (fun x9 h => ?_)
  refine xo_mmaxL d_O_eitherOne_40 tw_464 rfl rfl rfl rfl h (fun q10 h => ?_)
  refine xo_putL 3 d_O_eitherOne_43 xc_2 rfl tw_122 rfl rfl rfl rfl h (fun w11 h => ?_)
  exact xo_retVH d_O_eitherOne_46 rfl rfl rfl h
theorem c_O_eitherOne (l : Launch) (D : va_G) (cT : Nat → ClassId) (sz : Nat) (w : xw) (l0 : Nat) (l1 : Nat) (l2 : Nat) (ro : Unit × xw) (h : f_O_eitherOne w l0 l1 l2 = some ro) : xM l y_O_eitherOne b_O_eitherOne 3 t_O_eitherOne R_O_eitherOne D cT [.ref l0, .ref l1, .ref l2] w sz (none, ro.2, sz) :=
  xm_of bl_O_eitherOne rfl rfl (kb_O_eitherOne_0 (l, D, cT, [.ref l0, .ref l1, .ref l2], w, sz) sz ro w l0 l1 l2 h)
theorem kb_O_unlikeBits_0 (X : xX) (sz : Nat) (ro : Unit × xw) (w : xw) (l0 : Nat) (l1 : Nat) (l2 : Nat) (h : f_O_unlikeBits w l0 l1 l2 = some ro) : k_O_unlikeBits X [(0, .ref l0), (1, .ref l1), (2, .ref l2)] [] w sz 0 0 0 (none, ro.2, sz) := by
  unfold f_O_unlikeBits at h
  refine xo_aload_n 2 d_O_unlikeBits_0 rfl rfl ?_
  refine xo_aload_n 0 d_O_unlikeBits_1 rfl rfl ?_
  refine xo_getI 1 d_O_unlikeBits_2 xc_2 rfl tw_118 rfl h (fun x1 h => ?_)
  refine xo_aload_n 1 d_O_unlikeBits_5 rfl rfl ?_
  refine xo_getI 1 d_O_unlikeBits_6 xc_2 rfl tw_118 rfl h (fun x2 h => ?_)
  refine xo_iand d_O_unlikeBits_9 ?_
  refine xo_putI 1 d_O_unlikeBits_10 xc_2 rfl tw_118 rfl rfl rfl rfl h (fun w3 h => ?_)
  refine xo_aload_n 2 d_O_unlikeBits_13 rfl rfl ?_
  refine xo_aload_n 0 d_O_unlikeBits_14 rfl rfl ?_
  refine xo_getI 2 d_O_unlikeBits_15 xc_2 rfl tw_120 rfl h (fun x4 h => ?_)
  refine xo_aload_n 1 d_O_unlikeBits_18 rfl rfl ?_
  refine xo_getI 2 d_O_unlikeBits_19 xc_2 rfl tw_120 rfl h (fun x5 h => ?_)
  refine xo_ixor d_O_unlikeBits_22 ?_
  refine xo_aload_n 2 d_O_unlikeBits_23 rfl rfl ?_
  refine xo_getI 1 d_O_unlikeBits_24 xc_2 rfl tw_118 rfl h (fun x6 h => ?_)
  refine xo_iand d_O_unlikeBits_27 ?_
  refine xo_putI 2 d_O_unlikeBits_28 xc_2 rfl tw_120 rfl rfl rfl rfl h (fun w7 h => ?_)
  exact xo_retVH d_O_unlikeBits_31 rfl rfl rfl h
theorem c_O_unlikeBits (l : Launch) (D : va_G) (cT : Nat → ClassId) (sz : Nat) (w : xw) (l0 : Nat) (l1 : Nat) (l2 : Nat) (ro : Unit × xw) (h : f_O_unlikeBits w l0 l1 l2 = some ro) : xM l y_O_unlikeBits b_O_unlikeBits 3 t_O_unlikeBits R_O_unlikeBits D cT [.ref l0, .ref l1, .ref l2] w sz (none, ro.2, sz) :=
  xm_of bl_O_unlikeBits rfl rfl (kb_O_unlikeBits_0 (l, D, cT, [.ref l0, .ref l1, .ref l2], w, sz) sz ro w l0 l1 l2 h)
theorem kb_O_quotient_40 (X : xX) (sz : Nat) (ro : Unit × xw) (w : xw) (h : f_O_quotient_b40 w = some ro) : k_O_quotient X [] [] w sz 0 0 40 (none, ro.2, sz) := by
  unfold f_O_quotient_b40 at h
  exact xo_retVH d_O_quotient_40 rfl rfl rfl h
theorem kb_O_quotient_0 (X : xX) (sz : Nat) (ro : Unit × xw) (w : xw) (l0 : Nat) (l1 : Nat) (l2 : Nat) (h : f_O_quotient w l0 l1 l2 = some ro) : k_O_quotient X [(0, .ref l0), (1, .ref l1), (2, .ref l2)] [] w sz 0 0 0 (none, ro.2, sz) := by
  unfold f_O_quotient at h
  refine xo_aload_n 1 d_O_quotient_0 rfl rfl ?_
  refine xo_getL 3 d_O_quotient_1 xc_2 rfl tw_122 rfl h (fun x1 h => ?_)
  refine xo_lconst d_O_quotient_4 xlc_0 ?_
  refine xo_lcle d_O_quotient_5 d_O_quotient_6 h (fun h => ?_) (fun h => ?_)
  · exact xo_sub [] [] rfl (kb_O_quotient_40 X sz ro _ h)
  · refine xo_aload_n 1 d_O_quotient_9 rfl rfl ?_
    refine xo_getL 4 d_O_quotient_10 xc_2 rfl tw_125 rfl h (fun x2 h => ?_)
    refine xo_lconst d_O_quotient_13 xlc_0 ?_
    refine xo_lcle d_O_quotient_14 d_O_quotient_15 h (fun h => ?_) (fun h => ?_)
    · exact xo_sub [] [] rfl (kb_O_quotient_40 X sz ro _ h)
    · refine xo_aload_n 2 d_O_quotient_18 rfl rfl ?_
      refine xo_aload_n 0 d_O_quotient_19 rfl rfl ?_
      refine xo_getL 3 d_O_quotient_20 xc_2 rfl tw_122 rfl h (fun x3 h => ?_)
      refine xo_aload_n 1 d_O_quotient_23 rfl rfl ?_
      refine xo_getL 4 d_O_quotient_24 xc_2 rfl tw_125 rfl h (fun x4 h => ?_)
      refine xo_ldiv d_O_quotient_27 h (fun h => ?_)
      refine xo_aload_n 0 d_O_quotient_28 rfl rfl ?_
      refine xo_getL 4 d_O_quotient_29 xc_2 rfl tw_125 rfl h (fun x5 h => ?_)
      refine xo_aload_n 1 d_O_quotient_32 rfl rfl ?_
      refine xo_getL 3 d_O_quotient_33 xc_2 rfl tw_122 rfl h (fun x6 h => ?_)
      refine xo_ldiv d_O_quotient_36 h (fun h => ?_)
      refine xo_V_VH (rest := []) [.long (x3 / x4), .long (x5 / x6)] d_O_quotient_37 tw_437 yw_K_boundUnsigned h xc_2 (fun z e => c_K_boundUnsigned _ _ _ _ _ _ _ _ z e) rfl ⟨rfl, rfl⟩ rfl rfl rfl (fun q7 h => ?_)
      exact xo_sub [] [] rfl (kb_O_quotient_40 X sz ro _ h)
theorem c_O_quotient (l : Launch) (D : va_G) (cT : Nat → ClassId) (sz : Nat) (w : xw) (l0 : Nat) (l1 : Nat) (l2 : Nat) (ro : Unit × xw) (h : f_O_quotient w l0 l1 l2 = some ro) : xM l y_O_quotient b_O_quotient 3 t_O_quotient R_O_quotient D cT [.ref l0, .ref l1, .ref l2] w sz (none, ro.2, sz) :=
  xm_of bl_O_quotient rfl rfl (kb_O_quotient_0 (l, D, cT, [.ref l0, .ref l1, .ref l2], w, sz) sz ro w l0 l1 l2 h)
theorem kb_O_rest_27 (X : xX) (sz : Nat) (ro : Unit × xw) (w : xw) (h : f_O_rest_b27 w = some ro) : k_O_rest X [] [] w sz 0 0 27 (none, ro.2, sz) := by
  unfold f_O_rest_b27 at h
  exact xo_retVH d_O_rest_27 rfl rfl rfl h
theorem kb_O_rest_0 (X : xX) (sz : Nat) (ro : Unit × xw) (w : xw) (l0 : Nat) (l1 : Nat) (l2 : Nat) (h : f_O_rest w l0 l1 l2 = some ro) : k_O_rest X [(0, .ref l0), (1, .ref l1), (2, .ref l2)] [] w sz 0 0 0 (none, ro.2, sz) := by
  unfold f_O_rest at h
  refine xo_aload_n 1 d_O_rest_0 rfl rfl ?_
  refine xo_getL 3 d_O_rest_1 xc_2 rfl tw_122 rfl h (fun x1 h => ?_)
  refine xo_lconst d_O_rest_4 xlc_0 ?_
  refine xo_lcle d_O_rest_5 d_O_rest_6 h (fun h => ?_) (fun h => ?_)
  · exact xo_sub [] [] rfl (kb_O_rest_27 X sz ro _ h)
  · refine xo_aload_n 2 d_O_rest_9 rfl rfl ?_
    refine xo_lconst d_O_rest_10 xlc_0 ?_
    refine xo_aload_n 0 d_O_rest_11 rfl rfl ?_
    refine xo_getL 4 d_O_rest_12 xc_2 rfl tw_125 rfl h (fun x2 h => ?_)
    refine xo_aload_n 1 d_O_rest_15 rfl rfl ?_
    refine xo_getL 4 d_O_rest_16 xc_2 rfl tw_125 rfl h (fun x3 h => ?_)
    refine xo_lconst d_O_rest_19 xlc_1 ?_
    refine xo_lsub d_O_rest_20 ?_
    refine xo_mminL d_O_rest_21 tw_460 rfl rfl rfl rfl h (fun q4 h => ?_)
    refine xo_V_VH (rest := []) [.long (0 : Int64), .long q4] d_O_rest_24 tw_437 yw_K_boundUnsigned h xc_2 (fun z e => c_K_boundUnsigned _ _ _ _ _ _ _ _ z e) rfl ⟨rfl, rfl⟩ rfl rfl rfl (fun q5 h => ?_)
    exact xo_sub [] [] rfl (kb_O_rest_27 X sz ro _ h)
theorem c_O_rest (l : Launch) (D : va_G) (cT : Nat → ClassId) (sz : Nat) (w : xw) (l0 : Nat) (l1 : Nat) (l2 : Nat) (ro : Unit × xw) (h : f_O_rest w l0 l1 l2 = some ro) : xM l y_O_rest b_O_rest 3 t_O_rest R_O_rest D cT [.ref l0, .ref l1, .ref l2] w sz (none, ro.2, sz) :=
  xm_of bl_O_rest rfl rfl (kb_O_rest_0 (l, D, cT, [.ref l0, .ref l1, .ref l2], w, sz) sz ro w l0 l1 l2 h)
theorem kb_O_shifted_152 (X : xX) (sz : Nat) (ro : Unit × xw) (w : xw) (h : f_O_shifted_b152 w = some ro) : k_O_shifted X [] [] w sz 0 0 152 (none, ro.2, sz) := by
  unfold f_O_shifted_b152 at h
  exact xo_retVH d_O_shifted_152 rfl rfl rfl h
theorem kb_O_shifted_0 (X : xX) (sz : Nat) (ro : Unit × xw) (w : xw) (l0 : Int32) (l1 : Nat) (l2 : Nat) (l3 : Nat) (h : f_O_shifted w l0 l1 l2 l3 = some ro) : k_O_shifted X [(0, .int l0), (1, .ref l1), (2, .ref l2), (3, .ref l3)] [] w sz 0 0 0 (none, ro.2, sz) := by
  unfold f_O_shifted at h
  refine xo_aload_n 2 d_O_shifted_0 rfl rfl ?_
  refine xo_V_IH (rest := []) [] d_O_shifted_1 tw_444 yw_K_isExact h xc_2 (fun z e => c_K_isExact _ _ _ _ _ _ z e) rfl ⟨rfl, rfl⟩ rfl rfl rfl (fun q1 h => ?_)
  refine xo_if_ne d_O_shifted_4 h (fun h => ?_) (fun h => ?_)
  · refine xo_aload_n 2 d_O_shifted_8 rfl rfl ?_
    refine xo_getL 3 d_O_shifted_9 xc_2 rfl tw_122 rfl h (fun x2 h => ?_)
    refine xo_l2i d_O_shifted_12 ?_
    refine xo_bipush d_O_shifted_13 xbp_31 ?_
    refine xo_iand d_O_shifted_15 ?_
    refine xo_nmI h (fun x3 h => ?_)
    refine xo_istore [(4, .int x3), (0, .int l0), (1, .ref l1), (2, .ref l2), (3, .ref l3)] d_O_shifted_16 rfl rfl ?_
    refine xo_iload_n 1 d_O_shifted_18 rfl rfl ?_
    refine xo_bipush d_O_shifted_19 xbp_7 ?_
    refine xo_icmp_ne d_O_shifted_21 h (fun h => ?_) (fun h => ?_)
    · refine xo_iload_n 1 d_O_shifted_56 rfl rfl ?_
      refine xo_bipush d_O_shifted_57 xbp_8 ?_
      refine xo_icmp_ne d_O_shifted_59 h (fun h => ?_) (fun h => ?_)
      · refine xo_aload_n 4 d_O_shifted_112 rfl rfl ?_
        refine xo_aload_n 2 d_O_shifted_113 rfl rfl ?_
        refine xo_getI 1 d_O_shifted_114 xc_2 rfl tw_118 rfl h (fun x4 h => ?_)
        refine xo_iload 0 d_O_shifted_117 rfl ?_
        refine xo_ishr d_O_shifted_119 ?_
        refine xo_putI 1 d_O_shifted_120 xc_2 rfl tw_118 rfl rfl rfl rfl h (fun w5 h => ?_)
        refine xo_aload_n 4 d_O_shifted_123 rfl rfl ?_
        refine xo_aload_n 2 d_O_shifted_124 rfl rfl ?_
        refine xo_getI 2 d_O_shifted_125 xc_2 rfl tw_120 rfl h (fun x6 h => ?_)
        refine xo_iload 0 d_O_shifted_128 rfl ?_
        refine xo_ishr d_O_shifted_130 ?_
        refine xo_putI 2 d_O_shifted_131 xc_2 rfl tw_120 rfl rfl rfl rfl h (fun w7 h => ?_)
        refine xo_aload_n 4 d_O_shifted_134 rfl rfl ?_
        refine xo_aload_n 2 d_O_shifted_135 rfl rfl ?_
        refine xo_getL 5 d_O_shifted_136 xc_2 rfl tw_128 rfl h (fun x8 h => ?_)
        refine xo_iload 0 d_O_shifted_139 rfl ?_
        refine xo_lshr d_O_shifted_141 ?_
        refine xo_aload_n 2 d_O_shifted_142 rfl rfl ?_
        refine xo_getL 6 d_O_shifted_143 xc_2 rfl tw_131 rfl h (fun x9 h => ?_)
        refine xo_iload 0 d_O_shifted_146 rfl ?_
        refine xo_lshr d_O_shifted_148 ?_
        refine xo_V_VH (rest := []) [.long (x8 >>> (x3.toInt64 &&& 63)), .long (x9 >>> (x3.toInt64 &&& 63))] d_O_shifted_149 tw_443 yw_K_boundSigned h xc_2 (fun z e => c_K_boundSigned _ _ _ _ _ _ _ _ z e) rfl ⟨rfl, rfl⟩ rfl rfl rfl (fun q10 h => ?_)
        exact xo_sub [] [] rfl (kb_O_shifted_152 X sz ro _ h)
      · refine xo_aload_n 4 d_O_shifted_62 rfl rfl ?_
        refine xo_aload_n 2 d_O_shifted_63 rfl rfl ?_
        refine xo_getI 1 d_O_shifted_64 xc_2 rfl tw_118 rfl h (fun x11 h => ?_)
        refine xo_iload 0 d_O_shifted_67 rfl ?_
        refine xo_iushr d_O_shifted_69 ?_
        refine xo_iconst d_O_shifted_70 xic_m1 ?_
        refine xo_iload 0 d_O_shifted_71 rfl ?_
        refine xo_iushr d_O_shifted_73 ?_
        refine xo_iconst d_O_shifted_74 xic_m1 ?_
        refine xo_ixor d_O_shifted_75 ?_
        refine xo_ior d_O_shifted_76 ?_
        refine xo_putI 1 d_O_shifted_77 xc_2 rfl tw_118 rfl rfl rfl rfl h (fun w12 h => ?_)
        refine xo_aload_n 4 d_O_shifted_80 rfl rfl ?_
        refine xo_aload_n 2 d_O_shifted_81 rfl rfl ?_
        refine xo_getI 2 d_O_shifted_82 xc_2 rfl tw_120 rfl h (fun x13 h => ?_)
        refine xo_iload 0 d_O_shifted_85 rfl ?_
        refine xo_iushr d_O_shifted_87 ?_
        refine xo_putI 2 d_O_shifted_88 xc_2 rfl tw_120 rfl rfl rfl rfl h (fun w14 h => ?_)
        refine xo_aload_n 4 d_O_shifted_91 rfl rfl ?_
        refine xo_aload_n 2 d_O_shifted_92 rfl rfl ?_
        refine xo_getL 3 d_O_shifted_93 xc_2 rfl tw_122 rfl h (fun x15 h => ?_)
        refine xo_iload 0 d_O_shifted_96 rfl ?_
        refine xo_lushr d_O_shifted_98 ?_
        refine xo_aload_n 2 d_O_shifted_99 rfl rfl ?_
        refine xo_getL 4 d_O_shifted_100 xc_2 rfl tw_125 rfl h (fun x16 h => ?_)
        refine xo_iload 0 d_O_shifted_103 rfl ?_
        refine xo_lushr d_O_shifted_105 ?_
        refine xo_V_VH (rest := []) [.long ((x15.toUInt64 >>> (x3.toInt64.toUInt64 &&& Int64.toUInt64 63)).toInt64), .long ((x16.toUInt64 >>> (x3.toInt64.toUInt64 &&& Int64.toUInt64 63)).toInt64)] d_O_shifted_106 tw_437 yw_K_boundUnsigned h xc_2 (fun z e => c_K_boundUnsigned _ _ _ _ _ _ _ _ z e) rfl ⟨rfl, rfl⟩ rfl rfl rfl (fun q17 h => ?_)
        refine xo_goto d_O_shifted_109 ?_
        exact xo_sub [] [] rfl (kb_O_shifted_152 X sz ro _ h)
    · refine xo_aload_n 4 d_O_shifted_24 rfl rfl ?_
      refine xo_aload_n 2 d_O_shifted_25 rfl rfl ?_
      refine xo_getI 1 d_O_shifted_26 xc_2 rfl tw_118 rfl h (fun x18 h => ?_)
      refine xo_iload 0 d_O_shifted_29 rfl ?_
      refine xo_ishl d_O_shifted_31 ?_
      refine xo_iconst d_O_shifted_32 xic_m1 ?_
      refine xo_iload 0 d_O_shifted_33 rfl ?_
      refine xo_ishl d_O_shifted_35 ?_
      refine xo_iconst d_O_shifted_36 xic_m1 ?_
      refine xo_ixor d_O_shifted_37 ?_
      refine xo_ior d_O_shifted_38 ?_
      refine xo_putI 1 d_O_shifted_39 xc_2 rfl tw_118 rfl rfl rfl rfl h (fun w19 h => ?_)
      refine xo_aload_n 4 d_O_shifted_42 rfl rfl ?_
      refine xo_aload_n 2 d_O_shifted_43 rfl rfl ?_
      refine xo_getI 2 d_O_shifted_44 xc_2 rfl tw_120 rfl h (fun x20 h => ?_)
      refine xo_iload 0 d_O_shifted_47 rfl ?_
      refine xo_ishl d_O_shifted_49 ?_
      refine xo_putI 2 d_O_shifted_50 xc_2 rfl tw_120 rfl rfl rfl rfl h (fun w21 h => ?_)
      refine xo_goto d_O_shifted_53 ?_
      exact xo_sub [] [] rfl (kb_O_shifted_152 X sz ro _ h)
  · exact xo_retVH d_O_shifted_7 rfl rfl rfl h
theorem c_O_shifted (l : Launch) (D : va_G) (cT : Nat → ClassId) (sz : Nat) (w : xw) (l0 : Int32) (l1 : Nat) (l2 : Nat) (l3 : Nat) (ro : Unit × xw) (h : f_O_shifted w l0 l1 l2 l3 = some ro) : xM l y_O_shifted b_O_shifted 5 t_O_shifted R_O_shifted D cT [.int l0, .ref l1, .ref l2, .ref l3] w sz (none, ro.2, sz) :=
  xm_of bl_O_shifted rfl rfl (kb_O_shifted_0 (l, D, cT, [.int l0, .ref l1, .ref l2, .ref l3], w, sz) sz ro w l0 l1 l2 l3 h)
theorem kb_O_outcome_143 (X : xX) (sz : Nat) (ro : Int32 × xw) (w : xw) (l3 : Nat) (h : f_O_outcome_b143 w l3 = some ro) : k_O_outcome X [(3, .ref l3)] [] w sz 0 0 143 (some (.int ro.1), ro.2, sz) := by
  unfold f_O_outcome_b143 at h
  refine xo_aload_n 0 d_O_outcome_143 rfl rfl ?_
  refine xo_V_IH (rest := []) [] d_O_outcome_144 tw_477 yw_K_tighten h xc_2 (fun z e => c_K_tighten _ _ _ _ _ _ z e) rfl ⟨rfl, rfl⟩ rfl rfl rfl (fun q1 h => ?_)
  exact xo_retZH d_O_outcome_147 rfl rfl rfl h
theorem kb_O_outcome_136 (X : xX) (sz : Nat) (ro : Int32 × xw) (w : xw) (l0 : Int32) (l1 : Nat) (l2 : Nat) (l3 : Nat) (h : f_O_outcome_b136 w l0 l1 l2 l3 = some ro) : k_O_outcome X [(0, .int l0), (1, .ref l1), (2, .ref l2), (3, .ref l3)] [] w sz 0 0 136 (some (.int ro.1), ro.2, sz) := by
  unfold f_O_outcome_b136 at h
  refine xo_iload_n 0 d_O_outcome_136 rfl rfl ?_
  refine xo_aload_n 1 d_O_outcome_137 rfl rfl ?_
  refine xo_aload_n 2 d_O_outcome_138 rfl rfl ?_
  refine xo_aload_n 3 d_O_outcome_139 rfl rfl ?_
  refine xo_S_VH (rest := []) [.int l0, .ref l1, .ref l2, .ref l3] d_O_outcome_140 tw_474 yw_O_shifted h (fun z e => c_O_shifted _ _ _ _ _ _ _ _ _ z e) rfl ⟨rfl, rfl⟩ rfl rfl rfl (fun q1 h => ?_)
  exact xo_sub [3] [(3, .ref l3)] rfl (kb_O_outcome_143 X sz ro _ _ h)
theorem kb_O_outcome_0 (X : xX) (sz : Nat) (ro : Int32 × xw) (w : xw) (l0 : Int32) (l1 : Nat) (l2 : Nat) (l3 : Nat) (h : f_O_outcome w l0 l1 l2 l3 = some ro) : k_O_outcome X [(0, .int l0), (1, .ref l1), (2, .ref l2), (3, .ref l3)] [] w sz 0 0 0 (some (.int ro.1), ro.2, sz) := by
  unfold f_O_outcome at h
  refine xo_aload_n 3 d_O_outcome_0 rfl rfl ?_
  refine xo_V_VH (rest := []) [] d_O_outcome_1 tw_429 yw_K_becomeNothing h xc_2 (fun z e => c_K_becomeNothing _ _ _ _ _ _ z e) rfl ⟨rfl, rfl⟩ rfl rfl rfl (fun q1 h => ?_)
  refine xo_iload_n 0 d_O_outcome_4 rfl rfl ?_
  rcases xif h with ⟨hc0, h⟩ | ⟨hc0, h⟩
  · refine xo_tableIn 59 64 d_O_outcome_5 (by rw [hc0]; decide) (by rw [hc0]; decide) (by rw [hc0]; decide) (by decide) ?_
    refine xo_aload_n 1 d_O_outcome_64 rfl rfl ?_
    refine xo_aload_n 2 d_O_outcome_65 rfl rfl ?_
    refine xo_aload_n 3 d_O_outcome_66 rfl rfl ?_
    refine xo_S_VH (rest := []) [.ref l1, .ref l2, .ref l3] d_O_outcome_67 tw_430 yw_O_sum h (fun z e => c_O_sum _ _ _ _ _ _ _ _ z e) rfl ⟨rfl, rfl⟩ rfl rfl rfl (fun q2 h => ?_)
    refine xo_goto d_O_outcome_70 ?_
    exact xo_sub [3] [(3, .ref l3)] rfl (kb_O_outcome_143 X sz ro _ _ h)
  rcases xif h with ⟨hc1, h⟩ | ⟨hc1, h⟩
  · refine xo_tableIn 68 73 d_O_outcome_5 (by rw [hc1]; decide) (by rw [hc1]; decide) (by rw [hc1]; decide) (by decide) ?_
    refine xo_aload_n 1 d_O_outcome_73 rfl rfl ?_
    refine xo_aload_n 2 d_O_outcome_74 rfl rfl ?_
    refine xo_aload_n 3 d_O_outcome_75 rfl rfl ?_
    refine xo_S_VH (rest := []) [.ref l1, .ref l2, .ref l3] d_O_outcome_76 tw_447 yw_O_difference h (fun z e => c_O_difference _ _ _ _ _ _ _ _ z e) rfl ⟨rfl, rfl⟩ rfl rfl rfl (fun q3 h => ?_)
    refine xo_goto d_O_outcome_79 ?_
    exact xo_sub [3] [(3, .ref l3)] rfl (kb_O_outcome_143 X sz ro _ _ h)
  rcases xif h with ⟨hc2, h⟩ | ⟨hc2, h⟩
  · refine xo_tableIn 77 82 d_O_outcome_5 (by rw [hc2]; decide) (by rw [hc2]; decide) (by rw [hc2]; decide) (by decide) ?_
    refine xo_aload_n 1 d_O_outcome_82 rfl rfl ?_
    refine xo_aload_n 2 d_O_outcome_83 rfl rfl ?_
    refine xo_aload_n 3 d_O_outcome_84 rfl rfl ?_
    refine xo_S_VH (rest := []) [.ref l1, .ref l2, .ref l3] d_O_outcome_85 tw_450 yw_O_product h (fun z e => c_O_product _ _ _ _ _ _ _ _ z e) rfl ⟨rfl, rfl⟩ rfl rfl rfl (fun q4 h => ?_)
    refine xo_goto d_O_outcome_88 ?_
    exact xo_sub [3] [(3, .ref l3)] rfl (kb_O_outcome_143 X sz ro _ _ h)
  rcases xif h with ⟨hc3, h⟩ | ⟨hc3, h⟩
  · refine xo_tableIn 86 91 d_O_outcome_5 (by rw [hc3]; decide) (by rw [hc3]; decide) (by rw [hc3]; decide) (by decide) ?_
    refine xo_aload_n 1 d_O_outcome_91 rfl rfl ?_
    refine xo_aload_n 2 d_O_outcome_92 rfl rfl ?_
    refine xo_aload_n 3 d_O_outcome_93 rfl rfl ?_
    refine xo_S_VH (rest := []) [.ref l1, .ref l2, .ref l3] d_O_outcome_94 tw_453 yw_O_bothOnes h (fun z e => c_O_bothOnes _ _ _ _ _ _ _ _ z e) rfl ⟨rfl, rfl⟩ rfl rfl rfl (fun q5 h => ?_)
    refine xo_goto d_O_outcome_97 ?_
    exact xo_sub [3] [(3, .ref l3)] rfl (kb_O_outcome_143 X sz ro _ _ h)
  rcases xif h with ⟨hc4, h⟩ | ⟨hc4, h⟩
  · refine xo_tableIn 95 100 d_O_outcome_5 (by rw [hc4]; decide) (by rw [hc4]; decide) (by rw [hc4]; decide) (by decide) ?_
    refine xo_aload_n 1 d_O_outcome_100 rfl rfl ?_
    refine xo_aload_n 2 d_O_outcome_101 rfl rfl ?_
    refine xo_aload_n 3 d_O_outcome_102 rfl rfl ?_
    refine xo_S_VH (rest := []) [.ref l1, .ref l2, .ref l3] d_O_outcome_103 tw_461 yw_O_eitherOne h (fun z e => c_O_eitherOne _ _ _ _ _ _ _ _ z e) rfl ⟨rfl, rfl⟩ rfl rfl rfl (fun q6 h => ?_)
    refine xo_goto d_O_outcome_106 ?_
    exact xo_sub [3] [(3, .ref l3)] rfl (kb_O_outcome_143 X sz ro _ _ h)
  rcases xif h with ⟨hc5, h⟩ | ⟨hc5, h⟩
  · refine xo_tableIn 104 109 d_O_outcome_5 (by rw [hc5]; decide) (by rw [hc5]; decide) (by rw [hc5]; decide) (by decide) ?_
    refine xo_aload_n 1 d_O_outcome_109 rfl rfl ?_
    refine xo_aload_n 2 d_O_outcome_110 rfl rfl ?_
    refine xo_aload_n 3 d_O_outcome_111 rfl rfl ?_
    refine xo_S_VH (rest := []) [.ref l1, .ref l2, .ref l3] d_O_outcome_112 tw_465 yw_O_unlikeBits h (fun z e => c_O_unlikeBits _ _ _ _ _ _ _ _ z e) rfl ⟨rfl, rfl⟩ rfl rfl rfl (fun q7 h => ?_)
    refine xo_goto d_O_outcome_115 ?_
    exact xo_sub [3] [(3, .ref l3)] rfl (kb_O_outcome_143 X sz ro _ _ h)
  rcases xif h with ⟨hc6, h⟩ | ⟨hc6, h⟩
  · refine xo_tableIn 131 136 d_O_outcome_5 (by rw [hc6]; decide) (by rw [hc6]; decide) (by rw [hc6]; decide) (by decide) ?_
    exact xo_sub [0, 1, 2, 3] [(0, .int l0), (1, .ref l1), (2, .ref l2), (3, .ref l3)] rfl (kb_O_outcome_136 X sz ro _ _ _ _ _ h)
  rcases xif h with ⟨hc7, h⟩ | ⟨hc7, h⟩
  · refine xo_tableIn 131 136 d_O_outcome_5 (by rw [hc7]; decide) (by rw [hc7]; decide) (by rw [hc7]; decide) (by decide) ?_
    exact xo_sub [0, 1, 2, 3] [(0, .int l0), (1, .ref l1), (2, .ref l2), (3, .ref l3)] rfl (kb_O_outcome_136 X sz ro _ _ _ _ _ h)
  rcases xif h with ⟨hc8, h⟩ | ⟨hc8, h⟩
  · refine xo_tableIn 131 136 d_O_outcome_5 (by rw [hc8]; decide) (by rw [hc8]; decide) (by rw [hc8]; decide) (by decide) ?_
    exact xo_sub [0, 1, 2, 3] [(0, .int l0), (1, .ref l1), (2, .ref l2), (3, .ref l3)] rfl (kb_O_outcome_136 X sz ro _ _ _ _ _ h)
  rcases xif h with ⟨hc9, h⟩ | ⟨hc9, h⟩
  · refine xo_tableIn 113 118 d_O_outcome_5 (by rw [hc9]; decide) (by rw [hc9]; decide) (by rw [hc9]; decide) (by decide) ?_
    refine xo_aload_n 1 d_O_outcome_118 rfl rfl ?_
    refine xo_aload_n 2 d_O_outcome_119 rfl rfl ?_
    refine xo_aload_n 3 d_O_outcome_120 rfl rfl ?_
    refine xo_S_VH (rest := []) [.ref l1, .ref l2, .ref l3] d_O_outcome_121 tw_468 yw_O_quotient h (fun z e => c_O_quotient _ _ _ _ _ _ _ _ z e) rfl ⟨rfl, rfl⟩ rfl rfl rfl (fun q8 h => ?_)
    refine xo_goto d_O_outcome_124 ?_
    exact xo_sub [3] [(3, .ref l3)] rfl (kb_O_outcome_143 X sz ro _ _ h)
  rcases xif h with ⟨hc10, h⟩ | ⟨hc10, h⟩
  · refine xo_tableIn 122 127 d_O_outcome_5 (by rw [hc10]; decide) (by rw [hc10]; decide) (by rw [hc10]; decide) (by decide) ?_
    refine xo_aload_n 1 d_O_outcome_127 rfl rfl ?_
    refine xo_aload_n 2 d_O_outcome_128 rfl rfl ?_
    refine xo_aload_n 3 d_O_outcome_129 rfl rfl ?_
    refine xo_S_VH (rest := []) [.ref l1, .ref l2, .ref l3] d_O_outcome_130 tw_471 yw_O_rest h (fun z e => c_O_rest _ _ _ _ _ _ _ _ z e) rfl ⟨rfl, rfl⟩ rfl rfl rfl (fun q9 h => ?_)
    refine xo_goto d_O_outcome_133 ?_
    exact xo_sub [3] [(3, .ref l3)] rfl (kb_O_outcome_143 X sz ro _ _ h)
  refine xo_tableOut 136 d_O_outcome_5 (by have n0 := lv_neT hc0 (a := 1) (by decide); have n1 := lv_neT hc1 (a := 2) (by decide); have n2 := lv_neT hc2 (a := 3) (by decide); have n3 := lv_neT hc3 (a := 4) (by decide); have n4 := lv_neT hc4 (a := 5) (by decide); have n5 := lv_neT hc5 (a := 6) (by decide); have n6 := lv_neT hc6 (a := 7) (by decide); have n7 := lv_neT hc7 (a := 8) (by decide); have n8 := lv_neT hc8 (a := 9) (by decide); have n9 := lv_neT hc9 (a := 10) (by decide); have n10 := lv_neT hc10 (a := 11) (by decide); omega) (by decide) ?_
  exact xo_sub [0, 1, 2, 3] [(0, .int l0), (1, .ref l1), (2, .ref l2), (3, .ref l3)] rfl (kb_O_outcome_136 X sz ro _ _ _ _ _ h)
theorem c_O_outcome (l : Launch) (D : va_G) (cT : Nat → ClassId) (sz : Nat) (w : xw) (l0 : Int32) (l1 : Nat) (l2 : Nat) (l3 : Nat) (ro : Int32 × xw) (h : f_O_outcome w l0 l1 l2 l3 = some ro) : xM l y_O_outcome b_O_outcome 4 t_O_outcome R_O_outcome D cT [.int l0, .ref l1, .ref l2, .ref l3] w sz (some (.int ro.1), ro.2, sz) :=
  xm_of bl_O_outcome rfl rfl (kb_O_outcome_0 (l, D, cT, [.int l0, .ref l1, .ref l2, .ref l3], w, sz) sz ro w l0 l1 l2 l3 h)
theorem kb_W_change_122 (X : xX) (sz : Nat) (ro : Int32 × xw) (w : xw) (h : f_W_change_b122 w = some ro) : k_W_change X [] [] w sz 0 0 122 (some (.int ro.1), ro.2, sz) := by
  unfold f_W_change_b122 at h
  refine xo_iconst d_W_change_122 xic_1 ?_
  exact xo_retZH d_W_change_123 rfl rfl rfl h
theorem kb_W_change_119 (X : xX) (sz : Nat) (ro : Int32 × xw) (w : xw) (s0 : Nat) (s1 : Int32) (h : f_W_change_b119 w s0 s1 = some ro) : k_W_change X [] [.int s1, .ref s0] w sz 0 0 119 (some (.int ro.1), ro.2, sz) := by
  unfold f_W_change_b119 at h
  refine xo_V_VH (rest := []) [.int s1] d_W_change_119 tw_425 yw_K_becomeUpTo h xc_2 (fun z e => c_K_becomeUpTo _ _ _ _ _ _ _ z e) rfl ⟨rfl, rfl⟩ rfl rfl rfl (fun q1 h => ?_)
  exact xo_sub [] [] rfl (kb_W_change_122 X sz ro _ h)
theorem kb_W_change_0 (X : xX) (sz : Nat) (ro : Int32 × xw) (w : xw) (l0 : Nat) (l1 : Nat) (h : f_W_change w l0 l1 = some ro) : k_W_change X [(0, .ref l0), (1, .ref l1)] [] w sz 0 0 0 (some (.int ro.1), ro.2, sz) := by
  unfold f_W_change at h
  refine xo_aload_n 0 d_W_change_0 rfl rfl ?_
  refine xo_getR 1 d_W_change_1 xc_7 rfl tw_167 rfl h (fun a1 h => ?_)
  refine xo_getR 0 d_W_change_4 xc_6 rfl tw_154 rfl h (fun a2 h => ?_)
  refine xo_aload_n 1 d_W_change_7 rfl rfl ?_
  refine xo_getI 1 d_W_change_8 xc_1 rfl tw_46 rfl h (fun x3 h => ?_)
  refine xo_aldR d_W_change_11 h (fun a4 h => ?_)
  refine xo_astore_n [(2, .ref a4), (0, .ref l0), (1, .ref l1)] d_W_change_12 rfl rfl rfl ?_
  refine xo_aload_n 1 d_W_change_13 rfl rfl ?_
  refine xo_aload_n 2 d_W_change_14 rfl rfl ?_
  refine xo_V_RH (rest := []) [.ref l1] d_W_change_15 tw_343 yw_W_knownOfY h xc_7 (fun z e => c_W_knownOfY _ _ _ _ _ _ _ z e) rfl ⟨rfl, rfl⟩ rfl rfl rfl (fun q5 h => ?_)
  refine xo_astore_n [(3, .ref q5.1), (2, .ref a4), (0, .ref l0), (1, .ref l1)] d_W_change_18 rfl rfl rfl ?_
  refine xo_aload_n 3 d_W_change_19 rfl rfl ?_
  refine xo_getI 0 d_W_change_20 xc_1 rfl tw_43 rfl h (fun x6 h => ?_)
  rcases xif h with ⟨hc0, h⟩ | ⟨hc0, h⟩
  · refine xo_lookup 41 64 d_W_change_23 (by decide) (by rw [hc0]; decide) (by decide) ?_
    refine xo_aload_n 1 d_W_change_64 rfl rfl ?_
    refine xo_aload_n 0 d_W_change_65 rfl rfl ?_
    refine xo_V_VH (rest := []) [.ref q5.1] d_W_change_66 tw_383 yw_K_take h xc_2 (fun z e => c_K_take _ _ _ _ _ _ _ z e) rfl ⟨rfl, rfl⟩ rfl rfl rfl (fun q7 h => ?_)
    refine xo_iconst d_W_change_69 xic_1 ?_
    exact xo_retZH d_W_change_70 rfl rfl rfl h
  rcases xif h with ⟨hc1, h⟩ | ⟨hc1, h⟩
  · refine xo_lookup 48 71 d_W_change_23 (by decide) (by rw [hc1]; decide) (by decide) ?_
    refine xo_aload_n 2 d_W_change_71 rfl rfl ?_
    refine xo_aload_n 1 d_W_change_72 rfl rfl ?_
    refine xo_aload_n 0 d_W_change_73 rfl rfl ?_
    refine xo_V_VH (rest := []) [.ref a4, .ref q5.1] d_W_change_74 tw_408 yw_W_fetch h xc_7 (fun z e => c_W_fetch _ _ _ _ _ _ _ _ z e) rfl ⟨rfl, rfl⟩ rfl rfl rfl (fun q8 h => ?_)
    refine xo_iconst d_W_change_77 xic_1 ?_
    exact xo_retZH d_W_change_78 rfl rfl rfl h
  rcases xif h with ⟨hc2, h⟩ | ⟨hc2, h⟩
  · refine xo_lookup 56 79 d_W_change_23 (by decide) (by rw [hc2]; decide) (by decide) ?_
    refine xo_aload_n 2 d_W_change_79 rfl rfl ?_
    refine xo_aload_n 1 d_W_change_80 rfl rfl ?_
    refine xo_aload_n 0 d_W_change_81 rfl rfl ?_
    refine xo_V_VH (rest := []) [.ref a4, .ref q5.1] d_W_change_82 tw_419 yw_W_store h xc_7 (fun z e => c_W_store _ _ _ _ _ _ _ _ z e) rfl ⟨rfl, rfl⟩ rfl rfl rfl (fun q9 h => ?_)
    refine xo_iconst d_W_change_85 xic_1 ?_
    exact xo_retZH d_W_change_86 rfl rfl rfl h
  rcases xif h with ⟨hc3, h⟩ | ⟨hc3, h⟩
  · refine xo_lookup 64 87 d_W_change_23 (by decide) (by rw [hc3]; decide) (by decide) ?_
    refine xo_aload_n 3 d_W_change_87 rfl rfl ?_
    refine xo_getI 4 d_W_change_88 xc_1 rfl tw_55 rfl h (fun x10 h => ?_)
    refine xo_iconst d_W_change_91 xic_4 ?_
    refine xo_icmp_ne d_W_change_92 h (fun h => ?_) (fun h => ?_)
    · refine xo_aload_n 1 d_W_change_102 rfl rfl ?_
      refine xo_aload_n 3 d_W_change_103 rfl rfl ?_
      refine xo_getI 4 d_W_change_104 xc_1 rfl tw_55 rfl h (fun x11 h => ?_)
      refine xo_iconst d_W_change_107 xic_1 ?_
      refine xo_icmp_ne d_W_change_108 h (fun h => ?_) (fun h => ?_)
      · refine xo_ldc d_W_change_117 tw_424 ?_
        exact xo_sub [] [] rfl (kb_W_change_119 X sz ro _ _ _ h)
      · refine xo_sipush d_W_change_111 xsp_255 ?_
        refine xo_goto d_W_change_114 ?_
        exact xo_sub [] [] rfl (kb_W_change_119 X sz ro _ _ _ h)
    · refine xo_aload_n 1 d_W_change_95 rfl rfl ?_
      refine xo_V_VH (rest := []) [] d_W_change_96 tw_423 yw_K_becomeNothing h xc_2 (fun z e => c_K_becomeNothing _ _ _ _ _ _ z e) rfl ⟨rfl, rfl⟩ rfl rfl rfl (fun q12 h => ?_)
      refine xo_goto d_W_change_99 ?_
      exact xo_sub [] [] rfl (kb_W_change_122 X sz ro _ h)
  refine xo_lookup 101 124 d_W_change_23 (by decide) (by show Op.lookupswitch.offset [(0, 41), (12, 48), (13, 56), (14, 64)] _ _ = _; rw [lv_osw hc0 (by decide), lv_osw hc1 (by decide), lv_osw hc2 (by decide), lv_osw hc3 (by decide)]; rfl) (by decide) ?_
  refine xo_aload_n 3 d_W_change_124 rfl rfl ?_
  refine xo_getI 0 d_W_change_125 xc_1 rfl tw_43 rfl h (fun x13 h => ?_)
  refine xo_aload_n 1 d_W_change_128 rfl rfl ?_
  refine xo_aload_n 0 d_W_change_129 rfl rfl ?_
  refine xo_aload_n 2 d_W_change_130 rfl rfl ?_
  refine xo_getR 5 d_W_change_131 xc_7 rfl tw_171 rfl h (fun a14 h => ?_)
  refine xo_S_IH (rest := []) [.int x13, .ref a4, .ref q5.1, .ref a14] d_W_change_134 tw_426 yw_O_outcome h (fun z e => c_O_outcome _ _ _ _ _ _ _ _ _ z e) rfl ⟨rfl, rfl⟩ rfl rfl rfl (fun q15 h => ?_)
  refine xo_istore [(4, .int q15.1), (3, .ref q5.1), (2, .ref a4), (0, .ref l0), (1, .ref l1)] d_W_change_137 rfl rfl ?_
  refine xo_aload_n 2 d_W_change_139 rfl rfl ?_
  refine xo_aload_n 3 d_W_change_140 rfl rfl ?_
  refine xo_getR 5 d_W_change_141 xc_7 rfl tw_171 rfl h (fun a16 h => ?_)
  refine xo_V_VH (rest := []) [.ref a16] d_W_change_144 tw_383 yw_K_take h xc_2 (fun z e => c_K_take _ _ _ _ _ _ _ z e) rfl ⟨rfl, rfl⟩ rfl rfl rfl (fun q17 h => ?_)
  refine xo_iload 0 d_W_change_147 rfl ?_
  exact xo_retZH d_W_change_149 rfl rfl rfl h
theorem c_W_change (l : Launch) (D : va_G) (cT : Nat → ClassId) (sz : Nat) (w : xw) (l0 : Nat) (l1 : Nat) (ro : Int32 × xw) (h : f_W_change w l0 l1 = some ro) : xM l y_W_change b_W_change 5 t_W_change R_W_change D cT [.ref l0, .ref l1] w sz (some (.int ro.1), ro.2, sz) :=
  xm_of bl_W_change rfl rfl (kb_W_change_0 (l, D, cT, [.ref l0, .ref l1], w, sz) sz ro w l0 l1 h)
theorem kb_W_placeAfter_96 (X : xX) (sz : Nat) (ro : Int32 × xw) (w : xw) (s0 : Int32) (h : f_W_placeAfter_b96 w s0 = some ro) : k_W_placeAfter X [] [.int s0] w sz 0 0 96 (some (.int ro.1), ro.2, sz) := by
  unfold f_W_placeAfter_b96 at h
  exact xo_retIH d_W_placeAfter_96 rfl rfl rfl h
theorem kb_W_placeAfter_81 (X : xX) (sz : Nat) (ro : Int32 × xw) (w : xw) (l0 : Nat) (l1 : Int32) (s0 : Int32) (h : f_W_placeAfter_b81 w l0 l1 s0 = some ro) : k_W_placeAfter X [(0, .ref l0), (1, .int l1)] [.int s0] w sz 0 0 81 (some (.int ro.1), ro.2, sz) := by
  unfold f_W_placeAfter_b81 at h
  refine xo_istore_n [(3, .int s0), (0, .ref l0), (1, .int l1)] d_W_placeAfter_81 rfl rfl rfl ?_
  refine xo_iload_n 0 d_W_placeAfter_82 rfl rfl ?_
  refine xo_if_eq d_W_placeAfter_83 h (fun h => ?_) (fun h => ?_)
  · refine xo_aload_n 1 d_W_placeAfter_92 rfl rfl ?_
    refine xo_V_IH (rest := []) [] d_W_placeAfter_93 tw_368 yw_W_resume h xc_7 (fun z e => c_W_resume _ _ _ _ _ _ z e) rfl ⟨rfl, rfl⟩ rfl rfl rfl (fun q1 h => ?_)
    exact xo_sub [] [] rfl (kb_W_placeAfter_96 X sz ro _ _ h)
  · refine xo_iload_n 2 d_W_placeAfter_86 rfl rfl ?_
    refine xo_iconst d_W_placeAfter_87 xic_1 ?_
    refine xo_iadd d_W_placeAfter_88 ?_
    refine xo_goto d_W_placeAfter_89 ?_
    exact xo_sub [] [] rfl (kb_W_placeAfter_96 X sz ro _ _ h)
theorem kb_W_placeAfter_0 (X : xX) (sz : Nat) (ro : Int32 × xw) (w : xw) (l0 : Nat) (l1 : Int32) (h : f_W_placeAfter w l0 l1 = some ro) : k_W_placeAfter X [(0, .ref l0), (1, .int l1)] [] w sz 0 0 0 (some (.int ro.1), ro.2, sz) := by
  unfold f_W_placeAfter at h
  refine xo_aload_n 0 d_W_placeAfter_0 rfl rfl ?_
  refine xo_getR 0 d_W_placeAfter_1 xc_7 rfl tw_166 rfl h (fun a1 h => ?_)
  refine xo_getR 0 d_W_placeAfter_4 xc_5 rfl tw_70 rfl h (fun a2 h => ?_)
  refine xo_iload_n 1 d_W_placeAfter_7 rfl rfl ?_
  refine xo_aldR d_W_placeAfter_8 h (fun a3 h => ?_)
  refine xo_astore_n [(2, .ref a3), (0, .ref l0), (1, .int l1)] d_W_placeAfter_9 rfl rfl rfl ?_
  refine xo_aload_n 0 d_W_placeAfter_10 rfl rfl ?_
  refine xo_getI 0 d_W_placeAfter_11 xc_1 rfl tw_43 rfl h (fun x4 h => ?_)
  refine xo_bipush d_W_placeAfter_14 xbp_23 ?_
  refine xo_icmp_ne d_W_placeAfter_16 h (fun h => ?_) (fun h => ?_)
  · refine xo_aload_n 0 d_W_placeAfter_40 rfl rfl ?_
    refine xo_getI 0 d_W_placeAfter_41 xc_1 rfl tw_43 rfl h (fun x5 h => ?_)
    refine xo_bipush d_W_placeAfter_44 xbp_22 ?_
    refine xo_icmp_ne d_W_placeAfter_46 h (fun h => ?_) (fun h => ?_)
    · refine xo_aload_n 0 d_W_placeAfter_58 rfl rfl ?_
      refine xo_getI 0 d_W_placeAfter_59 xc_1 rfl tw_43 rfl h (fun x6 h => ?_)
      refine xo_bipush d_W_placeAfter_62 xbp_15 ?_
      refine xo_icmp_lt d_W_placeAfter_64 h (fun h => ?_) (fun h => ?_)
      · refine xo_aload_n 1 d_W_placeAfter_76 rfl rfl ?_
        refine xo_aload_n 0 d_W_placeAfter_77 rfl rfl ?_
        refine xo_V_IH (rest := []) [.ref a3] d_W_placeAfter_78 tw_404 yw_W_change h xc_7 (fun z e => c_W_change _ _ _ _ _ _ _ z e) rfl ⟨rfl, rfl⟩ rfl rfl rfl (fun q7 h => ?_)
        exact xo_sub [1, 2] [(0, .ref l0), (1, .int l1)] rfl (kb_W_placeAfter_81 X sz ro _ _ _ _ h)
      · refine xo_aload_n 1 d_W_placeAfter_67 rfl rfl ?_
        refine xo_aload_n 0 d_W_placeAfter_68 rfl rfl ?_
        refine xo_iload_n 2 d_W_placeAfter_69 rfl rfl ?_
        refine xo_V_IH (rest := []) [.ref a3, .int l1] d_W_placeAfter_70 tw_372 yw_W_part h xc_7 (fun z e => c_W_part _ _ _ _ _ _ _ _ z e) rfl ⟨rfl, rfl⟩ rfl rfl rfl (fun q8 h => ?_)
        refine xo_goto d_W_placeAfter_73 ?_
        exact xo_sub [1, 2] [(0, .ref l0), (1, .int l1)] rfl (kb_W_placeAfter_81 X sz ro _ _ _ _ h)
    · refine xo_iload_n 2 d_W_placeAfter_49 rfl rfl ?_
      refine xo_iconst d_W_placeAfter_50 xic_1 ?_
      refine xo_iadd d_W_placeAfter_51 ?_
      refine xo_aload_n 0 d_W_placeAfter_52 rfl rfl ?_
      refine xo_getI 4 d_W_placeAfter_53 xc_1 rfl tw_55 rfl h (fun x9 h => ?_)
      refine xo_iadd d_W_placeAfter_56 ?_
      exact xo_retIH d_W_placeAfter_57 rfl rfl rfl h
  · refine xo_aload_n 1 d_W_placeAfter_19 rfl rfl ?_
    refine xo_getR 7 d_W_placeAfter_20 xc_7 rfl tw_173 rfl h (fun a10 h => ?_)
    refine xo_aload_n 1 d_W_placeAfter_23 rfl rfl ?_
    refine xo_getR 1 d_W_placeAfter_24 xc_7 rfl tw_167 rfl h (fun a11 h => ?_)
    refine xo_V_VH (rest := []) [.ref a11] d_W_placeAfter_27 tw_360 yw_S_take h xc_6 (fun z e => c_S_take _ _ _ _ _ _ _ z e) rfl ⟨rfl, rfl⟩ rfl rfl rfl (fun q12 h => ?_)
    refine xo_aload_n 1 d_W_placeAfter_30 rfl rfl ?_
    refine xo_iconst d_W_placeAfter_31 xic_1 ?_
    refine xo_putZ 8 d_W_placeAfter_32 xc_7 rfl tw_175 rfl rfl rfl h (fun w13 h => ?_)
    refine xo_aload_n 1 d_W_placeAfter_35 rfl rfl ?_
    refine xo_V_IH (rest := []) [] d_W_placeAfter_36 tw_368 yw_W_resume h xc_7 (fun z e => c_W_resume _ _ _ _ _ _ z e) rfl ⟨rfl, rfl⟩ rfl rfl rfl (fun q14 h => ?_)
    exact xo_retIH d_W_placeAfter_39 rfl rfl rfl h
theorem c_W_placeAfter (l : Launch) (D : va_G) (cT : Nat → ClassId) (sz : Nat) (w : xw) (l0 : Nat) (l1 : Int32) (ro : Int32 × xw) (h : f_W_placeAfter w l0 l1 = some ro) : xM l y_W_placeAfter b_W_placeAfter 4 t_W_placeAfter R_W_placeAfter D cT [.ref l0, .int l1] w sz (some (.int ro.1), ro.2, sz) :=
  xm_of bl_W_placeAfter rfl rfl (kb_W_placeAfter_0 (l, D, cT, [.ref l0, .int l1], w, sz) sz ro w l0 l1 h)
theorem kb_W_judge_70 (X : xX) (sz : Nat) (ro : Int32 × xw) (w : xw) (s0 : Int32) (h : f_W_judge_b70 w s0 = some ro) : k_W_judge X [] [.int s0] w sz 0 0 70 (some (.int ro.1), ro.2, sz) := by
  unfold f_W_judge_b70 at h
  exact xo_retIH d_W_judge_70 rfl rfl rfl h
theorem kb_W_judge_56 (X : xX) (sz : Nat) (ro : Int32 × xw) (w : xw) (l1 : Int32) (l2 : Int32) (h : f_W_judge_b56 w l1 l2 = some ro) : k_W_judge X [(1, .int l1), (2, .int l2)] [] w sz 0 0 56 (some (.int ro.1), ro.2, sz) := by
  unfold f_W_judge_b56 at h
  refine xo_iload_n 1 d_W_judge_56 rfl rfl ?_
  refine xo_if_ne d_W_judge_57 h (fun h => ?_) (fun h => ?_)
  · refine xo_bipush d_W_judge_64 xbp_100 ?_
    refine xo_iload_n 1 d_W_judge_66 rfl rfl ?_
    refine xo_imul d_W_judge_67 ?_
    refine xo_iload_n 0 d_W_judge_68 rfl rfl ?_
    refine xo_iadd d_W_judge_69 ?_
    exact xo_sub [] [] rfl (kb_W_judge_70 X sz ro _ _ h)
  · refine xo_iconst d_W_judge_60 xic_0 ?_
    refine xo_goto d_W_judge_61 ?_
    exact xo_sub [] [] rfl (kb_W_judge_70 X sz ro _ _ h)
theorem ks_W_judge_8 (X : xX) (sz : Nat) (ro : Int32 × xw) (r8 : xw → Nat → Int32 → Int32 → Option (Int32 × xw)) (R8 : ∀ (w : xw) (l0 : Nat) (l1 : Int32) (l2 : Int32), r8 w l0 l1 l2 = some ro → k_W_judge X [(0, .ref l0), (1, .int l1), (2, .int l2)] [] w sz 0 0 8 (some (.int ro.1), ro.2, sz)) (w : xw) (l0 : Nat) (l1 : Int32) (l2 : Int32) (h : f_W_judge_s8 r8 w l0 l1 l2 = some ro) : k_W_judge X [(0, .ref l0), (1, .int l1), (2, .int l2)] [] w sz 0 0 8 (some (.int ro.1), ro.2, sz) := by
  unfold f_W_judge_s8 at h
  refine xo_iload_n 1 d_W_judge_8 rfl rfl ?_
  refine xo_iconst d_W_judge_9 xic_m1 ?_
  refine xo_icmp_eq d_W_judge_10 h (fun h => ?_) (fun h => ?_)
  · exact xo_sub [1, 2] [(1, .int l1), (2, .int l2)] rfl (kb_W_judge_56 X sz ro _ _ _ h)
  · refine xo_iload_n 2 d_W_judge_13 rfl rfl ?_
    refine xo_if_ne d_W_judge_14 h (fun h => ?_) (fun h => ?_)
    · exact xo_sub [1, 2] [(1, .int l1), (2, .int l2)] rfl (kb_W_judge_56 X sz ro _ _ _ h)
    · refine xo_aload_n 0 d_W_judge_17 rfl rfl ?_
      refine xo_getI 9 d_W_judge_18 xc_7 rfl tw_177 rfl h (fun x1 h => ?_)
      refine xo_sipush d_W_judge_21 xsp_300 ?_
      refine xo_icmp_gt d_W_judge_24 h (fun h => ?_) (fun h => ?_)
      · exact xo_sub [1, 2] [(1, .int l1), (2, .int l2)] rfl (kb_W_judge_56 X sz ro _ _ _ h)
      · refine xo_aload_n 0 d_W_judge_27 rfl rfl ?_
        refine xo_dup d_W_judge_28 rfl ?_
        refine xo_getI 9 d_W_judge_29 xc_7 rfl tw_177 rfl h (fun x2 h => ?_)
        refine xo_iconst d_W_judge_32 xic_1 ?_
        refine xo_iadd d_W_judge_33 ?_
        refine xo_putI 9 d_W_judge_34 xc_7 rfl tw_177 rfl rfl rfl rfl h (fun w3 h => ?_)
        refine xo_aload_n 0 d_W_judge_37 rfl rfl ?_
        refine xo_iload_n 1 d_W_judge_38 rfl rfl ?_
        refine xo_V_IH (rest := []) [.int l1] d_W_judge_39 tw_327 yw_W_alarmAt h xc_7 (fun z e => c_W_alarmAt _ _ _ _ _ _ _ z e) rfl ⟨rfl, rfl⟩ rfl rfl rfl (fun q4 h => ?_)
        refine xo_istore_n [(2, .int q4.1), (0, .ref l0), (1, .int l1)] d_W_judge_42 rfl rfl rfl ?_
        refine xo_iload_n 0 d_W_judge_43 rfl rfl ?_
        refine xo_if_ne d_W_judge_44 h (fun h => ?_) (fun h => ?_)
        · exact xo_sub [1, 2, 0] [(0, .ref l0), (1, .int l1), (2, .int q4.1)] rfl (R8 _ _ _ _ h)
        · refine xo_aload_n 1 d_W_judge_47 rfl rfl ?_
          refine xo_iload_n 2 d_W_judge_48 rfl rfl ?_
          refine xo_V_IH (rest := []) [.int l1] d_W_judge_49 tw_356 yw_W_placeAfter h xc_7 (fun z e => c_W_placeAfter _ _ _ _ _ _ _ z e) rfl ⟨rfl, rfl⟩ rfl rfl rfl (fun q5 h => ?_)
          refine xo_istore_n [(1, .int q5.1), (2, .int q4.1), (0, .ref l0)] d_W_judge_52 rfl rfl rfl ?_
          refine xo_goto d_W_judge_53 ?_
          exact xo_sub [2, 0, 1] [(0, .ref l0), (1, .int q5.1), (2, .int q4.1)] rfl (R8 _ _ _ _ h)
theorem kb_W_judge_8 (X : xX) (sz : Nat) (ro : Int32 × xw) (n : Nat) : ∀ (w : xw) (l0 : Nat) (l1 : Int32) (l2 : Int32), f_W_judge_b8 n w l0 l1 l2 = some ro → k_W_judge X [(0, .ref l0), (1, .int l1), (2, .int l2)] [] w sz 0 0 8 (some (.int ro.1), ro.2, sz) := by
  unfold f_W_judge_b8
  refine xfix_ind (P := fun (r8 : xw → Nat → Int32 → Int32 → Option (Int32 × xw)) => ∀ (w : xw) (l0 : Nat) (l1 : Int32) (l2 : Int32), r8 w l0 l1 l2 = some ro → k_W_judge X [(0, .ref l0), (1, .int l1), (2, .int l2)] [] w sz 0 0 8 (some (.int ro.1), ro.2, sz)) ?_ ?_ n
  · intro _ _ _ _ h
    cases h
  · intro r R w l0 l1 l2 h
    exact ks_W_judge_8 X sz ro r R _ _ _ _ h
theorem kb_W_judge_0 (X : xX) (sz : Nat) (ro : Int32 × xw) (w : xw) (l0 : Nat) (h : f_W_judge w l0 = some ro) : k_W_judge X [(0, .ref l0)] [] w sz 0 0 0 (some (.int ro.1), ro.2, sz) := by
  unfold f_W_judge at h
  refine xo_aload_n 0 d_W_judge_0 rfl rfl ?_
  refine xo_V_VH (rest := []) [] d_W_judge_1 tw_272 yw_W_begin h xc_7 (fun z e => c_W_begin _ _ _ _ _ _ z e) rfl ⟨rfl, rfl⟩ rfl rfl rfl (fun q1 h => ?_)
  refine xo_iconst d_W_judge_4 xic_0 ?_
  refine xo_nmI h (fun x2 h => ?_)
  refine xo_istore_n [(1, .int x2), (0, .ref l0)] d_W_judge_5 rfl rfl rfl ?_
  refine xo_iconst d_W_judge_6 xic_0 ?_
  refine xo_nmI h (fun x3 h => ?_)
  refine xo_istore_n [(2, .int x3), (1, .int x2), (0, .ref l0)] d_W_judge_7 rfl rfl rfl ?_
  exact xo_sub [2, 1, 0] [(0, .ref l0), (1, .int x2), (2, .int x3)] rfl (kb_W_judge_8 X sz ro _ _ _ _ _ h)
theorem c_W_judge (l : Launch) (D : va_G) (cT : Nat → ClassId) (sz : Nat) (w : xw) (l0 : Nat) (ro : Int32 × xw) (h : f_W_judge w l0 = some ro) : xM l y_W_judge b_W_judge 3 t_W_judge R_W_judge D cT [.ref l0] w sz (some (.int ro.1), ro.2, sz) :=
  xm_of bl_W_judge rfl rfl (kb_W_judge_0 (l, D, cT, [.ref l0], w, sz) sz ro w l0 h)
theorem kb_G_walk_0 (X : xX) (sz : Nat) (ro : Int32 × xw) (w : xw) (l0 : Nat) (h : f_G_walk w l0 = some ro) : k_G_walk X [(0, .ref l0)] [] w sz 0 0 0 (some (.int ro.1), ro.2, sz) := by
  unfold f_G_walk at h
  refine xo_aload_n 0 d_G_walk_0 rfl rfl ?_
  refine xo_getR 2 d_G_walk_1 xc_0 rfl tw_226 rfl h (fun a1 h => ?_)
  refine xo_V_IH (rest := []) [] d_G_walk_4 tw_268 yw_W_judge h xc_7 (fun z e => c_W_judge _ _ _ _ _ _ z e) rfl ⟨rfl, rfl⟩ rfl rfl rfl (fun q2 h => ?_)
  exact xo_retIH d_G_walk_7 rfl rfl rfl h
theorem c_G_walk (l : Launch) (D : va_G) (cT : Nat → ClassId) (sz : Nat) (w : xw) (l0 : Nat) (ro : Int32 × xw) (h : f_G_walk w l0 = some ro) : xM l y_G_walk b_G_walk 1 t_G_walk R_G_walk D cT [.ref l0] w sz (some (.int ro.1), ro.2, sz) :=
  xm_of bl_G_walk rfl rfl (kb_G_walk_0 (l, D, cT, [.ref l0], w, sz) sz ro w l0 h)
theorem kb_G_steps_0 (X : xX) (sz : Nat) (ro : Int32 × xw) (w : xw) (l0 : Nat) (h : f_G_steps w l0 = some ro) : k_G_steps X [(0, .ref l0)] [] w sz 0 0 0 (some (.int ro.1), ro.2, sz) := by
  unfold f_G_steps at h
  refine xo_aload_n 0 d_G_steps_0 rfl rfl ?_
  refine xo_getR 2 d_G_steps_1 xc_0 rfl tw_226 rfl h (fun a1 h => ?_)
  refine xo_getI 9 d_G_steps_4 xc_7 rfl tw_178 rfl h (fun x2 h => ?_)
  exact xo_retIH d_G_steps_7 rfl rfl rfl h
theorem c_G_steps (l : Launch) (D : va_G) (cT : Nat → ClassId) (sz : Nat) (w : xw) (l0 : Nat) (ro : Int32 × xw) (h : f_G_steps w l0 = some ro) : xM l y_G_steps b_G_steps 1 t_G_steps R_G_steps D cT [.ref l0] w sz (some (.int ro.1), ro.2, sz) :=
  xm_of bl_G_steps rfl rfl (kb_G_steps_0 (l, D, cT, [.ref l0], w, sz) sz ro w l0 h)
theorem kb_G_ran_0 (X : xX) (sz : Nat) (ro : Int32 × xw) (w : xw) (l0 : Nat) (h : f_G_ran w l0 = some ro) : k_G_ran X [(0, .ref l0)] [] w sz 0 0 0 (some (.int ro.1), ro.2, sz) := by
  unfold f_G_ran at h
  refine xo_aload_n 0 d_G_ran_0 rfl rfl ?_
  refine xo_getR 3 d_G_ran_1 xc_0 rfl tw_227 rfl h (fun a1 h => ?_)
  refine xo_getI 4 d_G_ran_4 xc_3 rfl tw_212 rfl h (fun x2 h => ?_)
  exact xo_retIH d_G_ran_7 rfl rfl rfl h
theorem c_G_ran (l : Launch) (D : va_G) (cT : Nat → ClassId) (sz : Nat) (w : xw) (l0 : Nat) (ro : Int32 × xw) (h : f_G_ran w l0 = some ro) : xM l y_G_ran b_G_ran 1 t_G_ran R_G_ran D cT [.ref l0] w sz (some (.int ro.1), ro.2, sz) :=
  xm_of bl_G_ran rfl rfl (kb_G_ran_0 (l, D, cT, [.ref l0], w, sz) sz ro w l0 h)
theorem kb_K_told_0 (X : xX) (sz : Nat) (ro : Int64 × xw) (w : xw) (l0 : Nat) (l1 : Int32) (h : f_K_told w l0 l1 = some ro) : k_K_told X [(0, .ref l0), (1, .int l1)] [] w sz 0 0 0 (some (.long ro.1), ro.2, sz) := by
  unfold f_K_told at h
  refine xo_aload_n 0 d_K_told_0 rfl rfl ?_
  refine xo_getI 0 d_K_told_1 xc_2 rfl tw_114 rfl h (fun x1 h => ?_)
  refine xo_if_ne d_K_told_4 h (fun h => ?_) (fun h => ?_)
  · refine xo_iload_n 1 d_K_told_11 rfl rfl ?_
    rcases xif h with ⟨hc0, h⟩ | ⟨hc0, h⟩
    · refine xo_tableIn 44 56 d_K_told_12 (by rw [hc0]; decide) (by rw [hc0]; decide) (by rw [hc0]; decide) (by decide) ?_
      refine xo_aload_n 0 d_K_told_56 rfl rfl ?_
      refine xo_getI 1 d_K_told_57 xc_2 rfl tw_117 rfl h (fun x2 h => ?_)
      refine xo_SN_L0 (rest := []) [.int x2] d_K_told_60 nw_4 yw_G_unsigned h (fun z e => c_G_unsigned _ _ _ _ _ _ z e) rfl ⟨rfl, rfl⟩ rfl rfl rfl (fun q3 h => ?_)
      exact xo_retLH d_K_told_63 rfl rfl rfl h
    rcases xif h with ⟨hc1, h⟩ | ⟨hc1, h⟩
    · refine xo_tableIn 52 64 d_K_told_12 (by rw [hc1]; decide) (by rw [hc1]; decide) (by rw [hc1]; decide) (by decide) ?_
      refine xo_aload_n 0 d_K_told_64 rfl rfl ?_
      refine xo_getI 2 d_K_told_65 xc_2 rfl tw_119 rfl h (fun x4 h => ?_)
      refine xo_SN_L0 (rest := []) [.int x4] d_K_told_68 nw_4 yw_G_unsigned h (fun z e => c_G_unsigned _ _ _ _ _ _ z e) rfl ⟨rfl, rfl⟩ rfl rfl rfl (fun q5 h => ?_)
      exact xo_retLH d_K_told_71 rfl rfl rfl h
    rcases xif h with ⟨hc2, h⟩ | ⟨hc2, h⟩
    · refine xo_tableIn 60 72 d_K_told_12 (by rw [hc2]; decide) (by rw [hc2]; decide) (by rw [hc2]; decide) (by decide) ?_
      refine xo_aload_n 0 d_K_told_72 rfl rfl ?_
      refine xo_getL 3 d_K_told_73 xc_2 rfl tw_121 rfl h (fun x6 h => ?_)
      exact xo_retLH d_K_told_76 rfl rfl rfl h
    rcases xif h with ⟨hc3, h⟩ | ⟨hc3, h⟩
    · refine xo_tableIn 65 77 d_K_told_12 (by rw [hc3]; decide) (by rw [hc3]; decide) (by rw [hc3]; decide) (by decide) ?_
      refine xo_aload_n 0 d_K_told_77 rfl rfl ?_
      refine xo_getL 4 d_K_told_78 xc_2 rfl tw_124 rfl h (fun x7 h => ?_)
      exact xo_retLH d_K_told_81 rfl rfl rfl h
    rcases xif h with ⟨hc4, h⟩ | ⟨hc4, h⟩
    · refine xo_tableIn 70 82 d_K_told_12 (by rw [hc4]; decide) (by rw [hc4]; decide) (by rw [hc4]; decide) (by decide) ?_
      refine xo_aload_n 0 d_K_told_82 rfl rfl ?_
      refine xo_getL 5 d_K_told_83 xc_2 rfl tw_127 rfl h (fun x8 h => ?_)
      exact xo_retLH d_K_told_86 rfl rfl rfl h
    rcases xif h with ⟨hc5, h⟩ | ⟨hc5, h⟩
    · refine xo_tableIn 75 87 d_K_told_12 (by rw [hc5]; decide) (by rw [hc5]; decide) (by rw [hc5]; decide) (by decide) ?_
      refine xo_aload_n 0 d_K_told_87 rfl rfl ?_
      refine xo_getL 6 d_K_told_88 xc_2 rfl tw_130 rfl h (fun x9 h => ?_)
      exact xo_retLH d_K_told_91 rfl rfl rfl h
    rcases xif h with ⟨hc6, h⟩ | ⟨hc6, h⟩
    · refine xo_tableIn 80 92 d_K_told_12 (by rw [hc6]; decide) (by rw [hc6]; decide) (by rw [hc6]; decide) (by decide) ?_
      refine xo_aload_n 0 d_K_told_92 rfl rfl ?_
      refine xo_getI 7 d_K_told_93 xc_2 rfl tw_133 rfl h (fun x10 h => ?_)
      refine xo_i2l d_K_told_96 ?_
      exact xo_retLH d_K_told_97 rfl rfl rfl h
    refine xo_tableOut 98 d_K_told_12 (by have n0 := lv_neT hc0 (a := 0) (by decide); have n1 := lv_neT hc1 (a := 1) (by decide); have n2 := lv_neT hc2 (a := 2) (by decide); have n3 := lv_neT hc3 (a := 3) (by decide); have n4 := lv_neT hc4 (a := 4) (by decide); have n5 := lv_neT hc5 (a := 5) (by decide); have n6 := lv_neT hc6 (a := 6) (by decide); omega) (by decide) ?_
    refine xo_ldc2 d_K_told_98 tw_495 ?_
    exact xo_retLH d_K_told_101 rfl rfl rfl h
  · refine xo_ldc2 d_K_told_7 tw_495 ?_
    exact xo_retLH d_K_told_10 rfl rfl rfl h
theorem c_K_told (l : Launch) (D : va_G) (cT : Nat → ClassId) (sz : Nat) (w : xw) (l0 : Nat) (l1 : Int32) (ro : Int64 × xw) (h : f_K_told w l0 l1 = some ro) : xM l y_K_told b_K_told 2 t_K_told R_K_told D cT [.ref l0, .int l1] w sz (some (.long ro.1), ro.2, sz) :=
  xm_of bl_K_told rfl rfl (kb_K_told_0 (l, D, cT, [.ref l0, .int l1], w, sz) sz ro w l0 l1 h)
theorem kb_G_known_20 (X : xX) (sz : Nat) (ro : Int64 × xw) (w : xw) (h : f_G_known_b20 w = some ro) : k_G_known X [] [] w sz 0 0 20 (some (.long ro.1), ro.2, sz) := by
  unfold f_G_known_b20 at h
  refine xo_ldc2 d_G_known_20 tw_490 ?_
  exact xo_retLH d_G_known_23 rfl rfl rfl h
theorem kb_G_known_0 (X : xX) (sz : Nat) (ro : Int64 × xw) (w : xw) (l0 : Nat) (l1 : Int32) (l2 : Int32) (h : f_G_known w l0 l1 l2 = some ro) : k_G_known X [(0, .ref l0), (1, .int l1), (2, .int l2)] [] w sz 0 0 0 (some (.long ro.1), ro.2, sz) := by
  unfold f_G_known at h
  refine xo_iload_n 1 d_G_known_0 rfl rfl ?_
  refine xo_if_lt d_G_known_1 h (fun h => ?_) (fun h => ?_)
  · exact xo_sub [] [] rfl (kb_G_known_20 X sz ro _ h)
  · refine xo_iload_n 1 d_G_known_4 rfl rfl ?_
    refine xo_bipush d_G_known_5 xbp_6 ?_
    refine xo_icmp_ge d_G_known_7 h (fun h => ?_) (fun h => ?_)
    · exact xo_sub [] [] rfl (kb_G_known_20 X sz ro _ h)
    · refine xo_aload_n 0 d_G_known_10 rfl rfl ?_
      refine xo_getR 2 d_G_known_11 xc_0 rfl tw_226 rfl h (fun a1 h => ?_)
      refine xo_getI 8 d_G_known_14 xc_7 rfl tw_176 rfl h (fun x2 h => ?_)
      refine xo_if_ne d_G_known_17 h (fun h => ?_) (fun h => ?_)
      · refine xo_aload_n 0 d_G_known_24 rfl rfl ?_
        refine xo_getR 2 d_G_known_25 xc_0 rfl tw_226 rfl h (fun a3 h => ?_)
        refine xo_getR 7 d_G_known_28 xc_7 rfl tw_174 rfl h (fun a4 h => ?_)
        refine xo_getR 0 d_G_known_31 xc_6 rfl tw_155 rfl h (fun a5 h => ?_)
        refine xo_iload_n 1 d_G_known_34 rfl rfl ?_
        refine xo_aldR d_G_known_35 h (fun a6 h => ?_)
        refine xo_iload_n 2 d_G_known_36 rfl rfl ?_
        refine xo_V_LH (rest := []) [.int l2] d_G_known_37 tw_491 yw_K_told h xc_2 (fun z e => c_K_told _ _ _ _ _ _ _ z e) rfl ⟨rfl, rfl⟩ rfl rfl rfl (fun q7 h => ?_)
        exact xo_retLH d_G_known_40 rfl rfl rfl h
      · exact xo_sub [] [] rfl (kb_G_known_20 X sz ro _ h)
theorem c_G_known (l : Launch) (D : va_G) (cT : Nat → ClassId) (sz : Nat) (w : xw) (l0 : Nat) (l1 : Int32) (l2 : Int32) (ro : Int64 × xw) (h : f_G_known w l0 l1 l2 = some ro) : xM l y_G_known b_G_known 3 t_G_known R_G_known D cT [.ref l0, .int l1, .int l2] w sz (some (.long ro.1), ro.2, sz) :=
  xm_of bl_G_known rfl rfl (kb_G_known_0 (l, D, cT, [.ref l0, .int l1, .int l2], w, sz) sz ro w l0 l1 l2 h)
theorem ks_M_begin_28 (X : xX) (sz : Nat) (ro : Unit × xw) (r28 : xw → Nat → Int32 → Int32 → Option (Unit × xw)) (R28 : ∀ (w : xw) (l0 : Nat) (l1 : Int32) (l2 : Int32), r28 w l0 l1 l2 = some ro → k_M_begin X [(0, .ref l0), (1, .int l1), (2, .int l2)] [] w sz 0 0 28 (none, ro.2, sz)) (w : xw) (l0 : Nat) (l1 : Int32) (l2 : Int32) (h : f_M_begin_s28 r28 w l0 l1 l2 = some ro) : k_M_begin X [(0, .ref l0), (1, .int l1), (2, .int l2)] [] w sz 0 0 28 (none, ro.2, sz) := by
  unfold f_M_begin_s28 at h
  refine xo_iload_n 2 d_M_begin_28 rfl rfl ?_
  refine xo_iconst d_M_begin_29 xic_4 ?_
  refine xo_icmp_ge d_M_begin_30 h (fun h => ?_) (fun h => ?_)
  · refine xo_aload_n 0 d_M_begin_46 rfl rfl ?_
    refine xo_getR 2 d_M_begin_47 xc_3 rfl tw_209 rfl h (fun a1 h => ?_)
    refine xo_iconst d_M_begin_50 xic_1 ?_
    refine xo_aload_n 0 d_M_begin_51 rfl rfl ?_
    refine xo_getR 1 d_M_begin_52 xc_3 rfl tw_208 rfl h (fun a2 h => ?_)
    refine xo_getI 1 d_M_begin_55 xc_4 rfl tw_88 rfl h (fun x3 h => ?_)
    refine xo_astI d_M_begin_58 h (fun w4 h => ?_)
    refine xo_aload_n 0 d_M_begin_59 rfl rfl ?_
    refine xo_getR 2 d_M_begin_60 xc_3 rfl tw_209 rfl h (fun a5 h => ?_)
    refine xo_iconst d_M_begin_63 xic_2 ?_
    refine xo_iload_n 1 d_M_begin_64 rfl rfl ?_
    refine xo_astI d_M_begin_65 h (fun w6 h => ?_)
    exact xo_retVH d_M_begin_66 rfl rfl rfl h
  · refine xo_aload_n 0 d_M_begin_33 rfl rfl ?_
    refine xo_getR 3 d_M_begin_34 xc_3 rfl tw_210 rfl h (fun a7 h => ?_)
    refine xo_iload_n 2 d_M_begin_37 rfl rfl ?_
    refine xo_iconst d_M_begin_38 xic_0 ?_
    refine xo_astI d_M_begin_39 h (fun w8 h => ?_)
    refine xo_iinc 2 (fun x9 => [(2, .int x9), (0, .ref l0), (1, .int l1)]) d_M_begin_40 rfl rfl xic_1 (fun _ => rfl) h (fun x9 h => ?_)
    refine xo_goto d_M_begin_43 ?_
    exact xo_sub [1, 2, 0] [(0, .ref l0), (1, .int l1), (2, .int x9)] rfl (R28 _ _ _ _ h)
theorem kb_M_begin_28 (X : xX) (sz : Nat) (ro : Unit × xw) (n : Nat) : ∀ (w : xw) (l0 : Nat) (l1 : Int32) (l2 : Int32), f_M_begin_b28 n w l0 l1 l2 = some ro → k_M_begin X [(0, .ref l0), (1, .int l1), (2, .int l2)] [] w sz 0 0 28 (none, ro.2, sz) := by
  unfold f_M_begin_b28
  refine xfix_ind (P := fun (r28 : xw → Nat → Int32 → Int32 → Option (Unit × xw)) => ∀ (w : xw) (l0 : Nat) (l1 : Int32) (l2 : Int32), r28 w l0 l1 l2 = some ro → k_M_begin X [(0, .ref l0), (1, .int l1), (2, .int l2)] [] w sz 0 0 28 (none, ro.2, sz)) ?_ ?_ n
  · intro _ _ _ _ h
    cases h
  · intro r R w l0 l1 l2 h
    exact ks_M_begin_28 X sz ro r R _ _ _ _ h
theorem ks_M_begin_7 (X : xX) (sz : Nat) (ro : Unit × xw) (r7 : xw → Nat → Int32 → Int32 → Option (Unit × xw)) (R7 : ∀ (w : xw) (l0 : Nat) (l1 : Int32) (l2 : Int32), r7 w l0 l1 l2 = some ro → k_M_begin X [(0, .ref l0), (1, .int l1), (2, .int l2)] [] w sz 0 0 7 (none, ro.2, sz)) (w : xw) (l0 : Nat) (l1 : Int32) (l2 : Int32) (h : f_M_begin_s7 r7 w l0 l1 l2 = some ro) : k_M_begin X [(0, .ref l0), (1, .int l1), (2, .int l2)] [] w sz 0 0 7 (none, ro.2, sz) := by
  unfold f_M_begin_s7 at h
  refine xo_iload_n 2 d_M_begin_7 rfl rfl ?_
  refine xo_bipush d_M_begin_8 xbp_6 ?_
  refine xo_icmp_ge d_M_begin_10 h (fun h => ?_) (fun h => ?_)
  · refine xo_iconst d_M_begin_26 xic_0 ?_
    refine xo_nmI h (fun x1 h => ?_)
    refine xo_istore_n [(2, .int x1), (0, .ref l0), (1, .int l1)] d_M_begin_27 rfl rfl rfl ?_
    exact xo_sub [1, 2, 0] [(0, .ref l0), (1, .int l1), (2, .int x1)] rfl (kb_M_begin_28 X sz ro _ _ _ _ _ h)
  · refine xo_aload_n 0 d_M_begin_13 rfl rfl ?_
    refine xo_getR 2 d_M_begin_14 xc_3 rfl tw_209 rfl h (fun a2 h => ?_)
    refine xo_iload_n 2 d_M_begin_17 rfl rfl ?_
    refine xo_iconst d_M_begin_18 xic_0 ?_
    refine xo_astI d_M_begin_19 h (fun w3 h => ?_)
    refine xo_iinc 2 (fun x4 => [(2, .int x4), (0, .ref l0), (1, .int l1)]) d_M_begin_20 rfl rfl xic_1 (fun _ => rfl) h (fun x4 h => ?_)
    refine xo_goto d_M_begin_23 ?_
    exact xo_sub [1, 2, 0] [(0, .ref l0), (1, .int l1), (2, .int x4)] rfl (R7 _ _ _ _ h)
theorem kb_M_begin_7 (X : xX) (sz : Nat) (ro : Unit × xw) (n : Nat) : ∀ (w : xw) (l0 : Nat) (l1 : Int32) (l2 : Int32), f_M_begin_b7 n w l0 l1 l2 = some ro → k_M_begin X [(0, .ref l0), (1, .int l1), (2, .int l2)] [] w sz 0 0 7 (none, ro.2, sz) := by
  unfold f_M_begin_b7
  refine xfix_ind (P := fun (r7 : xw → Nat → Int32 → Int32 → Option (Unit × xw)) => ∀ (w : xw) (l0 : Nat) (l1 : Int32) (l2 : Int32), r7 w l0 l1 l2 = some ro → k_M_begin X [(0, .ref l0), (1, .int l1), (2, .int l2)] [] w sz 0 0 7 (none, ro.2, sz)) ?_ ?_ n
  · intro _ _ _ _ h
    cases h
  · intro r R w l0 l1 l2 h
    exact ks_M_begin_7 X sz ro r R _ _ _ _ h
theorem kb_M_begin_0 (X : xX) (sz : Nat) (ro : Unit × xw) (w : xw) (l0 : Nat) (l1 : Int32) (h : f_M_begin w l0 l1 = some ro) : k_M_begin X [(0, .ref l0), (1, .int l1)] [] w sz 0 0 0 (none, ro.2, sz) := by
  unfold f_M_begin at h
  refine xo_aload_n 0 d_M_begin_0 rfl rfl ?_
  refine xo_iconst d_M_begin_1 xic_0 ?_
  refine xo_putI 4 d_M_begin_2 xc_3 rfl tw_211 rfl rfl rfl rfl h (fun w1 h => ?_)
  refine xo_iconst d_M_begin_5 xic_0 ?_
  refine xo_nmI h (fun x2 h => ?_)
  refine xo_istore_n [(2, .int x2), (0, .ref l0), (1, .int l1)] d_M_begin_6 rfl rfl rfl ?_
  exact xo_sub [1, 2, 0] [(0, .ref l0), (1, .int l1), (2, .int x2)] rfl (kb_M_begin_7 X sz ro _ _ _ _ _ h)
theorem c_M_begin (l : Launch) (D : va_G) (cT : Nat → ClassId) (sz : Nat) (w : xw) (l0 : Nat) (l1 : Int32) (ro : Unit × xw) (h : f_M_begin w l0 l1 = some ro) : xM l y_M_begin b_M_begin 3 t_M_begin R_M_begin D cT [.ref l0, .int l1] w sz (none, ro.2, sz) :=
  xm_of bl_M_begin rfl rfl (kb_M_begin_0 (l, D, cT, [.ref l0, .int l1], w, sz) sz ro w l0 l1 h)
theorem kb_M_holds_115 (X : xX) (sz : Nat) (ro : Int32) (w : xw) (s0 : Int32) (h : f_M_holds_b115 s0 = some ro) : k_M_holds X [] [.int s0] w sz 0 0 115 (some (.int ro), w, sz) := by
  unfold f_M_holds_b115 at h
  exact xo_retZ0 d_M_holds_115 rfl rfl rfl h
theorem kb_M_holds_104 (X : xX) (sz : Nat) (ro : Int32) (w : xw) (s0 : Int32) (h : f_M_holds_b104 s0 = some ro) : k_M_holds X [] [.int s0] w sz 0 0 104 (some (.int ro), w, sz) := by
  unfold f_M_holds_b104 at h
  exact xo_retZ0 d_M_holds_104 rfl rfl rfl h
theorem kb_M_holds_93 (X : xX) (sz : Nat) (ro : Int32) (w : xw) (s0 : Int32) (h : f_M_holds_b93 s0 = some ro) : k_M_holds X [] [.int s0] w sz 0 0 93 (some (.int ro), w, sz) := by
  unfold f_M_holds_b93 at h
  exact xo_retZ0 d_M_holds_93 rfl rfl rfl h
theorem kb_M_holds_75 (X : xX) (sz : Nat) (ro : Int32) (w : xw) (s0 : Int32) (h : f_M_holds_b75 s0 = some ro) : k_M_holds X [] [.int s0] w sz 0 0 75 (some (.int ro), w, sz) := by
  unfold f_M_holds_b75 at h
  exact xo_retZ0 d_M_holds_75 rfl rfl rfl h
theorem kb_M_holds_57 (X : xX) (sz : Nat) (ro : Int32) (w : xw) (s0 : Int32) (h : f_M_holds_b57 s0 = some ro) : k_M_holds X [] [.int s0] w sz 0 0 57 (some (.int ro), w, sz) := by
  unfold f_M_holds_b57 at h
  exact xo_retZ0 d_M_holds_57 rfl rfl rfl h
theorem kb_M_holds_46 (X : xX) (sz : Nat) (ro : Int32) (w : xw) (s0 : Int32) (h : f_M_holds_b46 s0 = some ro) : k_M_holds X [] [.int s0] w sz 0 0 46 (some (.int ro), w, sz) := by
  unfold f_M_holds_b46 at h
  exact xo_retZ0 d_M_holds_46 rfl rfl rfl h
theorem kb_M_holds_0 (X : xX) (sz : Nat) (ro : Int32) (w : xw) (l0 : Int32) (l1 : Int32) (l2 : Int32) (h : f_M_holds l0 l1 l2 = some ro) : k_M_holds X [(0, .int l0), (1, .int l1), (2, .int l2)] [] w sz 0 0 0 (some (.int ro), w, sz) := by
  unfold f_M_holds at h
  refine xo_iload_n 0 d_M_holds_0 rfl rfl ?_
  rcases xif h with ⟨hc0, h⟩ | ⟨hc0, h⟩
  · refine xo_tableIn 35 36 d_M_holds_1 (by rw [hc0]; decide) (by rw [hc0]; decide) (by rw [hc0]; decide) (by decide) ?_
    refine xo_iload_n 1 d_M_holds_36 rfl rfl ?_
    refine xo_iload_n 2 d_M_holds_37 rfl rfl ?_
    refine xo_icmp_ne d_M_holds_38 h (fun h => ?_) (fun h => ?_)
    · refine xo_iconst d_M_holds_45 xic_0 ?_
      exact xo_sub [] [] rfl (kb_M_holds_46 X sz ro w _ h)
    · refine xo_iconst d_M_holds_41 xic_1 ?_
      refine xo_goto d_M_holds_42 ?_
      exact xo_sub [] [] rfl (kb_M_holds_46 X sz ro w _ h)
  rcases xif h with ⟨hc1, h⟩ | ⟨hc1, h⟩
  · refine xo_tableIn 46 47 d_M_holds_1 (by rw [hc1]; decide) (by rw [hc1]; decide) (by rw [hc1]; decide) (by decide) ?_
    refine xo_iload_n 1 d_M_holds_47 rfl rfl ?_
    refine xo_iload_n 2 d_M_holds_48 rfl rfl ?_
    refine xo_icmp_eq d_M_holds_49 h (fun h => ?_) (fun h => ?_)
    · refine xo_iconst d_M_holds_56 xic_0 ?_
      exact xo_sub [] [] rfl (kb_M_holds_57 X sz ro w _ h)
    · refine xo_iconst d_M_holds_52 xic_1 ?_
      refine xo_goto d_M_holds_53 ?_
      exact xo_sub [] [] rfl (kb_M_holds_57 X sz ro w _ h)
  rcases xif h with ⟨hc2, h⟩ | ⟨hc2, h⟩
  · refine xo_tableIn 57 58 d_M_holds_1 (by rw [hc2]; decide) (by rw [hc2]; decide) (by rw [hc2]; decide) (by decide) ?_
    refine xo_iload_n 1 d_M_holds_58 rfl rfl ?_
    refine xo_SN_L0 (rest := []) [.int l1] d_M_holds_59 nw_6 yw_G_unsigned h (fun z e => c_G_unsigned _ _ _ _ _ _ z e) rfl ⟨rfl, rfl⟩ rfl rfl rfl (fun q1 h => ?_)
    refine xo_iload_n 2 d_M_holds_62 rfl rfl ?_
    refine xo_SN_L0 (rest := [.long q1]) [.int l2] d_M_holds_63 nw_6 yw_G_unsigned h (fun z e => c_G_unsigned _ _ _ _ _ _ z e) rfl ⟨rfl, rfl⟩ rfl rfl rfl (fun q2 h => ?_)
    refine xo_lcge d_M_holds_66 d_M_holds_67 h (fun h => ?_) (fun h => ?_)
    · refine xo_iconst d_M_holds_74 xic_0 ?_
      exact xo_sub [] [] rfl (kb_M_holds_75 X sz ro w _ h)
    · refine xo_iconst d_M_holds_70 xic_1 ?_
      refine xo_goto d_M_holds_71 ?_
      exact xo_sub [] [] rfl (kb_M_holds_75 X sz ro w _ h)
  rcases xif h with ⟨hc3, h⟩ | ⟨hc3, h⟩
  · refine xo_tableIn 75 76 d_M_holds_1 (by rw [hc3]; decide) (by rw [hc3]; decide) (by rw [hc3]; decide) (by decide) ?_
    refine xo_iload_n 1 d_M_holds_76 rfl rfl ?_
    refine xo_SN_L0 (rest := []) [.int l1] d_M_holds_77 nw_6 yw_G_unsigned h (fun z e => c_G_unsigned _ _ _ _ _ _ z e) rfl ⟨rfl, rfl⟩ rfl rfl rfl (fun q3 h => ?_)
    refine xo_iload_n 2 d_M_holds_80 rfl rfl ?_
    refine xo_SN_L0 (rest := [.long q3]) [.int l2] d_M_holds_81 nw_6 yw_G_unsigned h (fun z e => c_G_unsigned _ _ _ _ _ _ z e) rfl ⟨rfl, rfl⟩ rfl rfl rfl (fun q4 h => ?_)
    refine xo_lclt d_M_holds_84 d_M_holds_85 h (fun h => ?_) (fun h => ?_)
    · refine xo_iconst d_M_holds_92 xic_0 ?_
      exact xo_sub [] [] rfl (kb_M_holds_93 X sz ro w _ h)
    · refine xo_iconst d_M_holds_88 xic_1 ?_
      refine xo_goto d_M_holds_89 ?_
      exact xo_sub [] [] rfl (kb_M_holds_93 X sz ro w _ h)
  rcases xif h with ⟨hc4, h⟩ | ⟨hc4, h⟩
  · refine xo_tableIn 93 94 d_M_holds_1 (by rw [hc4]; decide) (by rw [hc4]; decide) (by rw [hc4]; decide) (by decide) ?_
    refine xo_iload_n 1 d_M_holds_94 rfl rfl ?_
    refine xo_iload_n 2 d_M_holds_95 rfl rfl ?_
    refine xo_icmp_ge d_M_holds_96 h (fun h => ?_) (fun h => ?_)
    · refine xo_iconst d_M_holds_103 xic_0 ?_
      exact xo_sub [] [] rfl (kb_M_holds_104 X sz ro w _ h)
    · refine xo_iconst d_M_holds_99 xic_1 ?_
      refine xo_goto d_M_holds_100 ?_
      exact xo_sub [] [] rfl (kb_M_holds_104 X sz ro w _ h)
  refine xo_tableOut 105 d_M_holds_1 (by have n0 := lv_neT hc0 (a := 16) (by decide); have n1 := lv_neT hc1 (a := 17) (by decide); have n2 := lv_neT hc2 (a := 18) (by decide); have n3 := lv_neT hc3 (a := 19) (by decide); have n4 := lv_neT hc4 (a := 20) (by decide); omega) (by decide) ?_
  refine xo_iload_n 1 d_M_holds_105 rfl rfl ?_
  refine xo_iload_n 2 d_M_holds_106 rfl rfl ?_
  refine xo_icmp_lt d_M_holds_107 h (fun h => ?_) (fun h => ?_)
  · refine xo_iconst d_M_holds_114 xic_0 ?_
    exact xo_sub [] [] rfl (kb_M_holds_115 X sz ro w _ h)
  · refine xo_iconst d_M_holds_110 xic_1 ?_
    refine xo_goto d_M_holds_111 ?_
    exact xo_sub [] [] rfl (kb_M_holds_115 X sz ro w _ h)
theorem c_M_holds (l : Launch) (D : va_G) (cT : Nat → ClassId) (sz : Nat) (w : xw) (l0 : Int32) (l1 : Int32) (l2 : Int32) (ro : Int32) (h : f_M_holds l0 l1 l2 = some ro) : xM l y_M_holds b_M_holds 3 t_M_holds R_M_holds D cT [.int l0, .int l1, .int l2] w sz (some (.int ro), w, sz) :=
  xm_of bl_M_holds rfl rfl (kb_M_holds_0 (l, D, cT, [.int l0, .int l1, .int l2], w, sz) sz ro w l0 l1 l2 h)
theorem kb_R_thrown_0 (X : xX) (sz : Nat) (ro : Int32 × xw) (w : xw) (l0 : Nat) (h : f_R_thrown w l0 = some ro) : k_R_thrown X [(0, .ref l0)] [] w sz 0 0 0 (some (.int ro.1), ro.2, sz) := by
  unfold f_R_thrown at h
  refine xo_aload_n 0 d_R_thrown_0 rfl rfl ?_
  refine xo_getI 0 d_R_thrown_1 xc_8 rfl tw_643 rfl h (fun x1 h => ?_)
  exact xo_retIH d_R_thrown_4 rfl rfl rfl h
theorem c_R_thrown (l : Launch) (D : va_G) (cT : Nat → ClassId) (sz : Nat) (w : xw) (l0 : Nat) (ro : Int32 × xw) (h : f_R_thrown w l0 = some ro) : xM l y_R_thrown b_R_thrown 1 t_R_thrown R_R_thrown D cT [.ref l0] w sz (some (.int ro.1), ro.2, sz) :=
  xm_of bl_R_thrown rfl rfl (kb_R_thrown_0 (l, D, cT, [.ref l0], w, sz) sz ro w l0 h)
theorem kb_R_within_15 (X : xX) (sz : Nat) (ro : Int32) (w : xw) (s0 : Int32) (h : f_R_within_b15 s0 = some ro) : k_R_within X [] [.int s0] w sz 0 0 15 (some (.int ro), w, sz) := by
  unfold f_R_within_b15 at h
  exact xo_retZ0 d_R_within_15 rfl rfl rfl h
theorem kb_R_within_14 (X : xX) (sz : Nat) (ro : Int32) (w : xw) (h : f_R_within_b14 = some ro) : k_R_within X [] [] w sz 0 0 14 (some (.int ro), w, sz) := by
  unfold f_R_within_b14 at h
  refine xo_iconst d_R_within_14 xic_0 ?_
  exact xo_sub [] [] rfl (kb_R_within_15 X sz ro w _ h)
theorem kb_R_within_0 (X : xX) (sz : Nat) (ro : Int32) (w : xw) (l0 : Int32) (l1 : Int32) (l2 : Int32) (h : f_R_within l0 l1 l2 = some ro) : k_R_within X [(0, .int l0), (1, .int l1), (2, .int l2)] [] w sz 0 0 0 (some (.int ro), w, sz) := by
  unfold f_R_within at h
  refine xo_iload_n 0 d_R_within_0 rfl rfl ?_
  refine xo_iload_n 1 d_R_within_1 rfl rfl ?_
  refine xo_icmp_lt d_R_within_2 h (fun h => ?_) (fun h => ?_)
  · exact xo_sub [] [] rfl (kb_R_within_14 X sz ro w h)
  · refine xo_iload_n 0 d_R_within_5 rfl rfl ?_
    refine xo_iload_n 2 d_R_within_6 rfl rfl ?_
    refine xo_icmp_gt d_R_within_7 h (fun h => ?_) (fun h => ?_)
    · exact xo_sub [] [] rfl (kb_R_within_14 X sz ro w h)
    · refine xo_iconst d_R_within_10 xic_1 ?_
      refine xo_goto d_R_within_11 ?_
      exact xo_sub [] [] rfl (kb_R_within_15 X sz ro w _ h)
theorem c_R_within (l : Launch) (D : va_G) (cT : Nat → ClassId) (sz : Nat) (w : xw) (l0 : Int32) (l1 : Int32) (l2 : Int32) (ro : Int32) (h : f_R_within l0 l1 l2 = some ro) : xM l y_R_within b_R_within 3 t_R_within R_R_within D cT [.int l0, .int l1, .int l2] w sz (some (.int ro), w, sz) :=
  xm_of bl_R_within rfl rfl (kb_R_within_0 (l, D, cT, [.int l0, .int l1, .int l2], w, sz) sz ro w l0 l1 l2 h)
theorem kb_R_add_162 (X : xX) (sz : Nat) (ro : Int32 × xw) (w : xw) (l0 : Nat) (l1 : Int32) (l2 : Int32) (l3 : Int32) (l4 : Int32) (l5 : Int32) (l6 : Int32) (h : f_R_add_b162 w l0 l1 l2 l3 l4 l5 l6 = some ro) : k_R_add X [(0, .ref l0), (1, .int l1), (2, .int l2), (3, .int l3), (4, .int l4), (5, .int l5), (6, .int l6)] [] w sz 0 0 162 (some (.int ro.1), ro.2, sz) := by
  unfold f_R_add_b162 at h
  refine xo_iload 6 d_R_add_162 rfl ?_
  refine xo_if_ne d_R_add_164 h (fun h => ?_) (fun h => ?_)
  · refine xo_aload_n 0 d_R_add_169 rfl rfl ?_
    refine xo_getR 2 d_R_add_170 xc_8 rfl tw_645 rfl h (fun a1 h => ?_)
    refine xo_aload_n 0 d_R_add_173 rfl rfl ?_
    refine xo_getI 1 d_R_add_174 xc_8 rfl tw_644 rfl h (fun x2 h => ?_)
    refine xo_iload_n 1 d_R_add_177 rfl rfl ?_
    refine xo_astI d_R_add_178 h (fun w3 h => ?_)
    refine xo_aload_n 0 d_R_add_179 rfl rfl ?_
    refine xo_getR 3 d_R_add_180 xc_8 rfl tw_646 rfl h (fun a4 h => ?_)
    refine xo_aload_n 0 d_R_add_183 rfl rfl ?_
    refine xo_getI 1 d_R_add_184 xc_8 rfl tw_644 rfl h (fun x5 h => ?_)
    refine xo_iload_n 2 d_R_add_187 rfl rfl ?_
    refine xo_astI d_R_add_188 h (fun w6 h => ?_)
    refine xo_aload_n 0 d_R_add_189 rfl rfl ?_
    refine xo_getR 4 d_R_add_190 xc_8 rfl tw_647 rfl h (fun a7 h => ?_)
    refine xo_aload_n 0 d_R_add_193 rfl rfl ?_
    refine xo_getI 1 d_R_add_194 xc_8 rfl tw_644 rfl h (fun x8 h => ?_)
    refine xo_iload_n 3 d_R_add_197 rfl rfl ?_
    refine xo_astI d_R_add_198 h (fun w9 h => ?_)
    refine xo_aload_n 0 d_R_add_199 rfl rfl ?_
    refine xo_getR 5 d_R_add_200 xc_8 rfl tw_648 rfl h (fun a10 h => ?_)
    refine xo_aload_n 0 d_R_add_203 rfl rfl ?_
    refine xo_getI 1 d_R_add_204 xc_8 rfl tw_644 rfl h (fun x11 h => ?_)
    refine xo_iload 4 d_R_add_207 rfl ?_
    refine xo_astI d_R_add_209 h (fun w12 h => ?_)
    refine xo_aload_n 0 d_R_add_210 rfl rfl ?_
    refine xo_getR 6 d_R_add_211 xc_8 rfl tw_649 rfl h (fun a13 h => ?_)
    refine xo_aload_n 0 d_R_add_214 rfl rfl ?_
    refine xo_getI 1 d_R_add_215 xc_8 rfl tw_644 rfl h (fun x14 h => ?_)
    refine xo_iload 5 d_R_add_218 rfl ?_
    refine xo_astI d_R_add_220 h (fun w15 h => ?_)
    refine xo_aload_n 0 d_R_add_221 rfl rfl ?_
    refine xo_dup d_R_add_222 rfl ?_
    refine xo_getI 1 d_R_add_223 xc_8 rfl tw_644 rfl h (fun x16 h => ?_)
    refine xo_iconst d_R_add_226 xic_1 ?_
    refine xo_iadd d_R_add_227 ?_
    refine xo_putI 1 d_R_add_228 xc_8 rfl tw_644 rfl rfl rfl rfl h (fun w17 h => ?_)
    refine xo_aload_n 0 d_R_add_231 rfl rfl ?_
    refine xo_getI 1 d_R_add_232 xc_8 rfl tw_644 rfl h (fun x18 h => ?_)
    exact xo_retIH d_R_add_235 rfl rfl rfl h
  · refine xo_iconst d_R_add_167 xic_m1 ?_
    exact xo_retIH d_R_add_168 rfl rfl rfl h
theorem kb_R_add_160 (X : xX) (sz : Nat) (ro : Int32 × xw) (w : xw) (l0 : Nat) (l1 : Int32) (l2 : Int32) (l3 : Int32) (l4 : Int32) (l5 : Int32) (s0 : Int32) (h : f_R_add_b160 w l0 l1 l2 l3 l4 l5 s0 = some ro) : k_R_add X [(0, .ref l0), (1, .int l1), (2, .int l2), (3, .int l3), (4, .int l4), (5, .int l5)] [.int s0] w sz 0 0 160 (some (.int ro.1), ro.2, sz) := by
  unfold f_R_add_b160 at h
  refine xo_istore [(6, .int s0), (0, .ref l0), (1, .int l1), (2, .int l2), (3, .int l3), (4, .int l4), (5, .int l5)] d_R_add_160 rfl rfl ?_
  exact xo_sub [1, 2, 3, 4, 5, 6, 0] [(0, .ref l0), (1, .int l1), (2, .int l2), (3, .int l3), (4, .int l4), (5, .int l5), (6, .int s0)] rfl (kb_R_add_162 X sz ro _ _ _ _ _ _ _ _ h)
theorem kb_R_add_159 (X : xX) (sz : Nat) (ro : Int32 × xw) (w : xw) (l0 : Nat) (l1 : Int32) (l2 : Int32) (l3 : Int32) (l4 : Int32) (l5 : Int32) (h : f_R_add_b159 w l0 l1 l2 l3 l4 l5 = some ro) : k_R_add X [(0, .ref l0), (1, .int l1), (2, .int l2), (3, .int l3), (4, .int l4), (5, .int l5)] [] w sz 0 0 159 (some (.int ro.1), ro.2, sz) := by
  unfold f_R_add_b159 at h
  refine xo_iconst d_R_add_159 xic_0 ?_
  exact xo_sub [0, 1, 2, 3, 4, 5] [(0, .ref l0), (1, .int l1), (2, .int l2), (3, .int l3), (4, .int l4), (5, .int l5)] rfl (kb_R_add_160 X sz ro _ _ _ _ _ _ _ _ h)
theorem kb_R_add_122 (X : xX) (sz : Nat) (ro : Int32 × xw) (w : xw) (l0 : Nat) (l1 : Int32) (l2 : Int32) (l3 : Int32) (l4 : Int32) (l5 : Int32) (s0 : Int32) (h : f_R_add_b122 w l0 l1 l2 l3 l4 l5 s0 = some ro) : k_R_add X [(0, .ref l0), (1, .int l1), (2, .int l2), (3, .int l3), (4, .int l4), (5, .int l5)] [.int s0] w sz 0 0 122 (some (.int ro.1), ro.2, sz) := by
  unfold f_R_add_b122 at h
  refine xo_istore [(6, .int s0), (0, .ref l0), (1, .int l1), (2, .int l2), (3, .int l3), (4, .int l4), (5, .int l5)] d_R_add_122 rfl rfl ?_
  refine xo_goto d_R_add_124 ?_
  exact xo_sub [1, 2, 3, 4, 5, 6, 0] [(0, .ref l0), (1, .int l1), (2, .int l2), (3, .int l3), (4, .int l4), (5, .int l5), (6, .int s0)] rfl (kb_R_add_162 X sz ro _ _ _ _ _ _ _ _ h)
theorem kb_R_add_121 (X : xX) (sz : Nat) (ro : Int32 × xw) (w : xw) (l0 : Nat) (l1 : Int32) (l2 : Int32) (l3 : Int32) (l4 : Int32) (l5 : Int32) (h : f_R_add_b121 w l0 l1 l2 l3 l4 l5 = some ro) : k_R_add X [(0, .ref l0), (1, .int l1), (2, .int l2), (3, .int l3), (4, .int l4), (5, .int l5)] [] w sz 0 0 121 (some (.int ro.1), ro.2, sz) := by
  unfold f_R_add_b121 at h
  refine xo_iconst d_R_add_121 xic_0 ?_
  exact xo_sub [0, 1, 2, 3, 4, 5] [(0, .ref l0), (1, .int l1), (2, .int l2), (3, .int l3), (4, .int l4), (5, .int l5)] rfl (kb_R_add_122 X sz ro _ _ _ _ _ _ _ _ h)
theorem kb_R_add_117 (X : xX) (sz : Nat) (ro : Int32 × xw) (w : xw) (l0 : Nat) (l1 : Int32) (l2 : Int32) (l3 : Int32) (l4 : Int32) (l5 : Int32) (h : f_R_add_b117 w l0 l1 l2 l3 l4 l5 = some ro) : k_R_add X [(0, .ref l0), (1, .int l1), (2, .int l2), (3, .int l3), (4, .int l4), (5, .int l5)] [] w sz 0 0 117 (some (.int ro.1), ro.2, sz) := by
  unfold f_R_add_b117 at h
  refine xo_iconst d_R_add_117 xic_1 ?_
  refine xo_goto d_R_add_118 ?_
  exact xo_sub [0, 1, 2, 3, 4, 5] [(0, .ref l0), (1, .int l1), (2, .int l2), (3, .int l3), (4, .int l4), (5, .int l5)] rfl (kb_R_add_122 X sz ro _ _ _ _ _ _ _ _ h)
theorem kb_R_add_88 (X : xX) (sz : Nat) (ro : Int32 × xw) (w : xw) (l0 : Nat) (l1 : Int32) (l2 : Int32) (l3 : Int32) (l4 : Int32) (l5 : Int32) (l6 : Int32) (h : f_R_add_b88 w l0 l1 l2 l3 l4 l5 l6 = some ro) : k_R_add X [(0, .ref l0), (1, .int l1), (2, .int l2), (3, .int l3), (4, .int l4), (5, .int l5), (6, .int l6)] [] w sz 0 0 88 (some (.int ro.1), ro.2, sz) := by
  unfold f_R_add_b88 at h
  refine xo_iload_n 1 d_R_add_88 rfl rfl ?_
  refine xo_bipush d_R_add_89 xbp_14 ?_
  refine xo_icmp_ne d_R_add_91 h (fun h => ?_) (fun h => ?_)
  · refine xo_iload_n 1 d_R_add_127 rfl rfl ?_
    refine xo_bipush d_R_add_128 xbp_15 ?_
    refine xo_icmp_lt d_R_add_130 h (fun h => ?_) (fun h => ?_)
    · exact xo_sub [0, 1, 2, 3, 4, 5, 6] [(0, .ref l0), (1, .int l1), (2, .int l2), (3, .int l3), (4, .int l4), (5, .int l5), (6, .int l6)] rfl (kb_R_add_162 X sz ro _ _ _ _ _ _ _ _ h)
    · refine xo_iload_n 1 d_R_add_133 rfl rfl ?_
      refine xo_bipush d_R_add_134 xbp_22 ?_
      refine xo_icmp_gt d_R_add_136 h (fun h => ?_) (fun h => ?_)
      · exact xo_sub [0, 1, 2, 3, 4, 5, 6] [(0, .ref l0), (1, .int l1), (2, .int l2), (3, .int l3), (4, .int l4), (5, .int l5), (6, .int l6)] rfl (kb_R_add_162 X sz ro _ _ _ _ _ _ _ _ h)
      · refine xo_iload 6 d_R_add_139 rfl ?_
        refine xo_if_eq d_R_add_141 h (fun h => ?_) (fun h => ?_)
        · exact xo_sub [0, 1, 2, 3, 4, 5] [(0, .ref l0), (1, .int l1), (2, .int l2), (3, .int l3), (4, .int l4), (5, .int l5)] rfl (kb_R_add_159 X sz ro _ _ _ _ _ _ _ h)
        · refine xo_iload 5 d_R_add_144 rfl ?_
          refine xo_iconst d_R_add_146 xic_1 ?_
          refine xo_bipush d_R_add_147 xbp_23 ?_
          refine xo_S_I0 (rest := []) [.int l5, .int (1 : Int32), .int (23 : Int32)] d_R_add_149 tw_728 yw_R_within h (fun z e => c_R_within _ _ _ _ _ _ _ _ z e) rfl ⟨rfl, rfl⟩ rfl rfl rfl (fun q1 h => ?_)
          refine xo_if_eq d_R_add_152 h (fun h => ?_) (fun h => ?_)
          · exact xo_sub [0, 1, 2, 3, 4, 5] [(0, .ref l0), (1, .int l1), (2, .int l2), (3, .int l3), (4, .int l4), (5, .int l5)] rfl (kb_R_add_159 X sz ro _ _ _ _ _ _ _ h)
          · refine xo_iconst d_R_add_155 xic_1 ?_
            refine xo_goto d_R_add_156 ?_
            exact xo_sub [0, 1, 2, 3, 4, 5] [(0, .ref l0), (1, .int l1), (2, .int l2), (3, .int l3), (4, .int l4), (5, .int l5)] rfl (kb_R_add_160 X sz ro _ _ _ _ _ _ _ _ h)
  · refine xo_iload 6 d_R_add_94 rfl ?_
    refine xo_if_eq d_R_add_96 h (fun h => ?_) (fun h => ?_)
    · exact xo_sub [0, 1, 2, 3, 4, 5] [(0, .ref l0), (1, .int l1), (2, .int l2), (3, .int l3), (4, .int l4), (5, .int l5)] rfl (kb_R_add_121 X sz ro _ _ _ _ _ _ _ h)
    · refine xo_iload 5 d_R_add_99 rfl ?_
      refine xo_iconst d_R_add_101 xic_1 ?_
      refine xo_icmp_eq d_R_add_102 h (fun h => ?_) (fun h => ?_)
      · exact xo_sub [0, 1, 2, 3, 4, 5] [(0, .ref l0), (1, .int l1), (2, .int l2), (3, .int l3), (4, .int l4), (5, .int l5)] rfl (kb_R_add_117 X sz ro _ _ _ _ _ _ _ h)
      · refine xo_iload 5 d_R_add_105 rfl ?_
        refine xo_iconst d_R_add_107 xic_2 ?_
        refine xo_icmp_eq d_R_add_108 h (fun h => ?_) (fun h => ?_)
        · exact xo_sub [0, 1, 2, 3, 4, 5] [(0, .ref l0), (1, .int l1), (2, .int l2), (3, .int l3), (4, .int l4), (5, .int l5)] rfl (kb_R_add_117 X sz ro _ _ _ _ _ _ _ h)
        · refine xo_iload 5 d_R_add_111 rfl ?_
          refine xo_iconst d_R_add_113 xic_4 ?_
          refine xo_icmp_ne d_R_add_114 h (fun h => ?_) (fun h => ?_)
          · exact xo_sub [0, 1, 2, 3, 4, 5] [(0, .ref l0), (1, .int l1), (2, .int l2), (3, .int l3), (4, .int l4), (5, .int l5)] rfl (kb_R_add_121 X sz ro _ _ _ _ _ _ _ h)
          · exact xo_sub [0, 1, 2, 3, 4, 5] [(0, .ref l0), (1, .int l1), (2, .int l2), (3, .int l3), (4, .int l4), (5, .int l5)] rfl (kb_R_add_117 X sz ro _ _ _ _ _ _ _ h)
theorem kb_R_add_86 (X : xX) (sz : Nat) (ro : Int32 × xw) (w : xw) (l0 : Nat) (l1 : Int32) (l2 : Int32) (l3 : Int32) (l4 : Int32) (l5 : Int32) (s0 : Int32) (h : f_R_add_b86 w l0 l1 l2 l3 l4 l5 s0 = some ro) : k_R_add X [(0, .ref l0), (1, .int l1), (2, .int l2), (3, .int l3), (4, .int l4), (5, .int l5)] [.int s0] w sz 0 0 86 (some (.int ro.1), ro.2, sz) := by
  unfold f_R_add_b86 at h
  refine xo_istore [(6, .int s0), (0, .ref l0), (1, .int l1), (2, .int l2), (3, .int l3), (4, .int l4), (5, .int l5)] d_R_add_86 rfl rfl ?_
  exact xo_sub [1, 2, 3, 4, 5, 6, 0] [(0, .ref l0), (1, .int l1), (2, .int l2), (3, .int l3), (4, .int l4), (5, .int l5), (6, .int s0)] rfl (kb_R_add_88 X sz ro _ _ _ _ _ _ _ _ h)
theorem kb_R_add_85 (X : xX) (sz : Nat) (ro : Int32 × xw) (w : xw) (l0 : Nat) (l1 : Int32) (l2 : Int32) (l3 : Int32) (l4 : Int32) (l5 : Int32) (h : f_R_add_b85 w l0 l1 l2 l3 l4 l5 = some ro) : k_R_add X [(0, .ref l0), (1, .int l1), (2, .int l2), (3, .int l3), (4, .int l4), (5, .int l5)] [] w sz 0 0 85 (some (.int ro.1), ro.2, sz) := by
  unfold f_R_add_b85 at h
  refine xo_iconst d_R_add_85 xic_0 ?_
  exact xo_sub [0, 1, 2, 3, 4, 5] [(0, .ref l0), (1, .int l1), (2, .int l2), (3, .int l3), (4, .int l4), (5, .int l5)] rfl (kb_R_add_86 X sz ro _ _ _ _ _ _ _ _ h)
theorem kb_R_add_61 (X : xX) (sz : Nat) (ro : Int32 × xw) (w : xw) (l0 : Nat) (l1 : Int32) (l2 : Int32) (l3 : Int32) (l4 : Int32) (l5 : Int32) (l6 : Int32) (h : f_R_add_b61 w l0 l1 l2 l3 l4 l5 l6 = some ro) : k_R_add X [(0, .ref l0), (1, .int l1), (2, .int l2), (3, .int l3), (4, .int l4), (5, .int l5), (6, .int l6)] [] w sz 0 0 61 (some (.int ro.1), ro.2, sz) := by
  unfold f_R_add_b61 at h
  refine xo_iload 6 d_R_add_61 rfl ?_
  refine xo_if_eq d_R_add_63 h (fun h => ?_) (fun h => ?_)
  · exact xo_sub [0, 1, 2, 3, 4, 5] [(0, .ref l0), (1, .int l1), (2, .int l2), (3, .int l3), (4, .int l4), (5, .int l5)] rfl (kb_R_add_85 X sz ro _ _ _ _ _ _ _ h)
  · refine xo_iload_n 3 d_R_add_66 rfl rfl ?_
    refine xo_if_lt d_R_add_67 h (fun h => ?_) (fun h => ?_)
    · exact xo_sub [0, 1, 2, 3, 4, 5] [(0, .ref l0), (1, .int l1), (2, .int l2), (3, .int l3), (4, .int l4), (5, .int l5)] rfl (kb_R_add_85 X sz ro _ _ _ _ _ _ _ h)
    · refine xo_iload 4 d_R_add_70 rfl ?_
      refine xo_iconst d_R_add_72 xic_0 ?_
      refine xo_bipush d_R_add_73 xbp_16 ?_
      refine xo_S_I0 (rest := []) [.int l4, .int (0 : Int32), .int (16 : Int32)] d_R_add_75 tw_728 yw_R_within h (fun z e => c_R_within _ _ _ _ _ _ _ _ z e) rfl ⟨rfl, rfl⟩ rfl rfl rfl (fun q1 h => ?_)
      refine xo_if_eq d_R_add_78 h (fun h => ?_) (fun h => ?_)
      · exact xo_sub [0, 1, 2, 3, 4, 5] [(0, .ref l0), (1, .int l1), (2, .int l2), (3, .int l3), (4, .int l4), (5, .int l5)] rfl (kb_R_add_85 X sz ro _ _ _ _ _ _ _ h)
      · refine xo_iconst d_R_add_81 xic_1 ?_
        refine xo_goto d_R_add_82 ?_
        exact xo_sub [0, 1, 2, 3, 4, 5] [(0, .ref l0), (1, .int l1), (2, .int l2), (3, .int l3), (4, .int l4), (5, .int l5)] rfl (kb_R_add_86 X sz ro _ _ _ _ _ _ _ _ h)
theorem kb_R_add_47 (X : xX) (sz : Nat) (ro : Int32 × xw) (w : xw) (l0 : Nat) (l1 : Int32) (l2 : Int32) (l3 : Int32) (l4 : Int32) (l5 : Int32) (s0 : Int32) (h : f_R_add_b47 w l0 l1 l2 l3 l4 l5 s0 = some ro) : k_R_add X [(0, .ref l0), (1, .int l1), (2, .int l2), (3, .int l3), (4, .int l4), (5, .int l5)] [.int s0] w sz 0 0 47 (some (.int ro.1), ro.2, sz) := by
  unfold f_R_add_b47 at h
  refine xo_istore [(6, .int s0), (0, .ref l0), (1, .int l1), (2, .int l2), (3, .int l3), (4, .int l4), (5, .int l5)] d_R_add_47 rfl rfl ?_
  refine xo_iload_n 2 d_R_add_49 rfl rfl ?_
  refine xo_bipush d_R_add_50 xbp_14 ?_
  refine xo_icmp_eq d_R_add_52 h (fun h => ?_) (fun h => ?_)
  · exact xo_sub [1, 2, 3, 4, 5, 6, 0] [(0, .ref l0), (1, .int l1), (2, .int l2), (3, .int l3), (4, .int l4), (5, .int l5), (6, .int s0)] rfl (kb_R_add_61 X sz ro _ _ _ _ _ _ _ _ h)
  · refine xo_iload_n 2 d_R_add_55 rfl rfl ?_
    refine xo_bipush d_R_add_56 xbp_15 ?_
    refine xo_icmp_ne d_R_add_58 h (fun h => ?_) (fun h => ?_)
    · exact xo_sub [1, 2, 3, 4, 5, 6, 0] [(0, .ref l0), (1, .int l1), (2, .int l2), (3, .int l3), (4, .int l4), (5, .int l5), (6, .int s0)] rfl (kb_R_add_88 X sz ro _ _ _ _ _ _ _ _ h)
    · exact xo_sub [1, 2, 3, 4, 5, 6, 0] [(0, .ref l0), (1, .int l1), (2, .int l2), (3, .int l3), (4, .int l4), (5, .int l5), (6, .int s0)] rfl (kb_R_add_61 X sz ro _ _ _ _ _ _ _ _ h)
theorem kb_R_add_46 (X : xX) (sz : Nat) (ro : Int32 × xw) (w : xw) (l0 : Nat) (l1 : Int32) (l2 : Int32) (l3 : Int32) (l4 : Int32) (l5 : Int32) (h : f_R_add_b46 w l0 l1 l2 l3 l4 l5 = some ro) : k_R_add X [(0, .ref l0), (1, .int l1), (2, .int l2), (3, .int l3), (4, .int l4), (5, .int l5)] [] w sz 0 0 46 (some (.int ro.1), ro.2, sz) := by
  unfold f_R_add_b46 at h
  refine xo_iconst d_R_add_46 xic_0 ?_
  exact xo_sub [0, 1, 2, 3, 4, 5] [(0, .ref l0), (1, .int l1), (2, .int l2), (3, .int l3), (4, .int l4), (5, .int l5)] rfl (kb_R_add_47 X sz ro _ _ _ _ _ _ _ _ h)
theorem kb_R_add_0 (X : xX) (sz : Nat) (ro : Int32 × xw) (w : xw) (l0 : Nat) (l1 : Int32) (l2 : Int32) (l3 : Int32) (l4 : Int32) (l5 : Int32) (h : f_R_add w l0 l1 l2 l3 l4 l5 = some ro) : k_R_add X [(0, .ref l0), (1, .int l1), (2, .int l2), (3, .int l3), (4, .int l4), (5, .int l5)] [] w sz 0 0 0 (some (.int ro.1), ro.2, sz) := by
  unfold f_R_add at h
  refine xo_aload_n 0 d_R_add_0 rfl rfl ?_
  refine xo_iconst d_R_add_1 xic_0 ?_
  refine xo_putI 0 d_R_add_2 xc_8 rfl tw_643 rfl rfl rfl rfl h (fun w1 h => ?_)
  refine xo_aload_n 0 d_R_add_5 rfl rfl ?_
  refine xo_getI 1 d_R_add_6 xc_8 rfl tw_644 rfl h (fun x2 h => ?_)
  refine xo_bipush d_R_add_9 xbp_24 ?_
  refine xo_icmp_ge d_R_add_11 h (fun h => ?_) (fun h => ?_)
  · exact xo_sub [0, 1, 2, 3, 4, 5] [(0, .ref l0), (1, .int l1), (2, .int l2), (3, .int l3), (4, .int l4), (5, .int l5)] rfl (kb_R_add_46 X sz ro _ _ _ _ _ _ _ h)
  · refine xo_iload_n 1 d_R_add_14 rfl rfl ?_
    refine xo_iconst d_R_add_15 xic_0 ?_
    refine xo_bipush d_R_add_16 xbp_23 ?_
    refine xo_S_I0 (rest := []) [.int l1, .int (0 : Int32), .int (23 : Int32)] d_R_add_18 tw_728 yw_R_within h (fun z e => c_R_within _ _ _ _ _ _ _ _ z e) rfl ⟨rfl, rfl⟩ rfl rfl rfl (fun q3 h => ?_)
    refine xo_if_eq d_R_add_21 h (fun h => ?_) (fun h => ?_)
    · exact xo_sub [0, 1, 2, 3, 4, 5] [(0, .ref l0), (1, .int l1), (2, .int l2), (3, .int l3), (4, .int l4), (5, .int l5)] rfl (kb_R_add_46 X sz ro _ _ _ _ _ _ _ h)
    · refine xo_iload_n 2 d_R_add_24 rfl rfl ?_
      refine xo_iconst d_R_add_25 xic_0 ?_
      refine xo_iconst d_R_add_26 xic_5 ?_
      refine xo_S_I0 (rest := []) [.int l2, .int (0 : Int32), .int (5 : Int32)] d_R_add_27 tw_728 yw_R_within h (fun z e => c_R_within _ _ _ _ _ _ _ _ z e) rfl ⟨rfl, rfl⟩ rfl rfl rfl (fun q4 h => ?_)
      refine xo_if_eq d_R_add_30 h (fun h => ?_) (fun h => ?_)
      · exact xo_sub [0, 1, 2, 3, 4, 5] [(0, .ref l0), (1, .int l1), (2, .int l2), (3, .int l3), (4, .int l4), (5, .int l5)] rfl (kb_R_add_46 X sz ro _ _ _ _ _ _ _ h)
      · refine xo_iload_n 3 d_R_add_33 rfl rfl ?_
        refine xo_iconst d_R_add_34 xic_m1 ?_
        refine xo_iconst d_R_add_35 xic_5 ?_
        refine xo_S_I0 (rest := []) [.int l3, .int (-1 : Int32), .int (5 : Int32)] d_R_add_36 tw_728 yw_R_within h (fun z e => c_R_within _ _ _ _ _ _ _ _ z e) rfl ⟨rfl, rfl⟩ rfl rfl rfl (fun q5 h => ?_)
        refine xo_if_eq d_R_add_39 h (fun h => ?_) (fun h => ?_)
        · exact xo_sub [0, 1, 2, 3, 4, 5] [(0, .ref l0), (1, .int l1), (2, .int l2), (3, .int l3), (4, .int l4), (5, .int l5)] rfl (kb_R_add_46 X sz ro _ _ _ _ _ _ _ h)
        · refine xo_iconst d_R_add_42 xic_1 ?_
          refine xo_goto d_R_add_43 ?_
          exact xo_sub [0, 1, 2, 3, 4, 5] [(0, .ref l0), (1, .int l1), (2, .int l2), (3, .int l3), (4, .int l4), (5, .int l5)] rfl (kb_R_add_47 X sz ro _ _ _ _ _ _ _ _ h)
theorem c_R_add (l : Launch) (D : va_G) (cT : Nat → ClassId) (sz : Nat) (w : xw) (l0 : Nat) (l1 : Int32) (l2 : Int32) (l3 : Int32) (l4 : Int32) (l5 : Int32) (ro : Int32 × xw) (h : f_R_add w l0 l1 l2 l3 l4 l5 = some ro) : xM l y_R_add b_R_add 7 t_R_add R_R_add D cT [.ref l0, .int l1, .int l2, .int l3, .int l4, .int l5] w sz (some (.int ro.1), ro.2, sz) :=
  xm_of bl_R_add rfl rfl (kb_R_add_0 (l, D, cT, [.ref l0, .int l1, .int l2, .int l3, .int l4, .int l5], w, sz) sz ro w l0 l1 l2 l3 l4 l5 h)
theorem kb_R_clear_0 (X : xX) (sz : Nat) (ro : Int32 × xw) (w : xw) (l0 : Nat) (h : f_R_clear w l0 = some ro) : k_R_clear X [(0, .ref l0)] [] w sz 0 0 0 (some (.int ro.1), ro.2, sz) := by
  unfold f_R_clear at h
  refine xo_aload_n 0 d_R_clear_0 rfl rfl ?_
  refine xo_iconst d_R_clear_1 xic_0 ?_
  refine xo_putI 0 d_R_clear_2 xc_8 rfl tw_643 rfl rfl rfl rfl h (fun w1 h => ?_)
  refine xo_aload_n 0 d_R_clear_5 rfl rfl ?_
  refine xo_getI 1 d_R_clear_6 xc_8 rfl tw_644 rfl h (fun x2 h => ?_)
  refine xo_istore_n [(1, .int x2), (0, .ref l0)] d_R_clear_9 rfl rfl rfl ?_
  refine xo_aload_n 1 d_R_clear_10 rfl rfl ?_
  refine xo_iconst d_R_clear_11 xic_0 ?_
  refine xo_putI 1 d_R_clear_12 xc_8 rfl tw_644 rfl rfl rfl rfl h (fun w3 h => ?_)
  refine xo_iload_n 0 d_R_clear_15 rfl rfl ?_
  exact xo_retIH d_R_clear_16 rfl rfl rfl h
theorem c_R_clear (l : Launch) (D : va_G) (cT : Nat → ClassId) (sz : Nat) (w : xw) (l0 : Nat) (ro : Int32 × xw) (h : f_R_clear w l0 = some ro) : xM l y_R_clear b_R_clear 2 t_R_clear R_R_clear D cT [.ref l0] w sz (some (.int ro.1), ro.2, sz) :=
  xm_of bl_R_clear rfl rfl (kb_R_clear_0 (l, D, cT, [.ref l0], w, sz) sz ro w l0 h)
theorem kb_R_size_0 (X : xX) (sz : Nat) (ro : Int32 × xw) (w : xw) (l0 : Nat) (h : f_R_size w l0 = some ro) : k_R_size X [(0, .ref l0)] [] w sz 0 0 0 (some (.int ro.1), ro.2, sz) := by
  unfold f_R_size at h
  refine xo_aload_n 0 d_R_size_0 rfl rfl ?_
  refine xo_iconst d_R_size_1 xic_0 ?_
  refine xo_putI 0 d_R_size_2 xc_8 rfl tw_643 rfl rfl rfl rfl h (fun w1 h => ?_)
  refine xo_aload_n 0 d_R_size_5 rfl rfl ?_
  refine xo_getI 1 d_R_size_6 xc_8 rfl tw_644 rfl h (fun x2 h => ?_)
  exact xo_retIH d_R_size_9 rfl rfl rfl h
theorem c_R_size (l : Launch) (D : va_G) (cT : Nat → ClassId) (sz : Nat) (w : xw) (l0 : Nat) (ro : Int32 × xw) (h : f_R_size w l0 = some ro) : xM l y_R_size b_R_size 1 t_R_size R_R_size D cT [.ref l0] w sz (some (.int ro.1), ro.2, sz) :=
  xm_of bl_R_size rfl rfl (kb_R_size_0 (l, D, cT, [.ref l0], w, sz) sz ro w l0 h)
theorem kb_R_packet_67 (X : xX) (sz : Nat) (ro : Int32 × xw) (r27 : xw → Nat → Int64 → Int64 → Int32 → Int32 → Option (Int32 × xw)) (R27 : ∀ (w : xw) (l0 : Nat) (l1 : Int64) (l3 : Int64) (l5 : Int32) (l6 : Int32), r27 w l0 l1 l3 l5 l6 = some ro → k_R_packet X [(0, .ref l0), (1, .long l1), (3, .long l3), (5, .int l5), (6, .int l6)] [] w sz 0 0 27 (some (.int ro.1), ro.2, sz)) (w : xw) (l0 : Nat) (l1 : Int64) (l3 : Int64) (l5 : Int32) (l6 : Int32) (s0 : Nat) (s1 : Int32) (s2 : Int64) (h : f_R_packet_b67 r27 w l0 l1 l3 l5 l6 s0 s1 s2 = some ro) : k_R_packet X [(0, .ref l0), (1, .long l1), (3, .long l3), (5, .int l5), (6, .int l6)] [.long s2, .int s1, .ref s0] w sz 0 0 67 (some (.int ro.1), ro.2, sz) := by
  unfold f_R_packet_b67 at h
  refine xo_ldc2 d_R_packet_67 tw_743 ?_
  refine xo_land d_R_packet_70 ?_
  refine xo_l2i d_R_packet_71 ?_
  refine xo_astI d_R_packet_72 h (fun w1 h => ?_)
  refine xo_iinc 4 (fun x2 => [(6, .int x2), (0, .ref l0), (1, .long l1), (3, .long l3), (5, .int l5)]) d_R_packet_73 rfl rfl xic_1 (fun _ => rfl) h (fun x2 h => ?_)
  refine xo_goto d_R_packet_76 ?_
  exact xo_sub [1, 2, 3, 4, 0] [(0, .ref l0), (1, .long l1), (3, .long l3), (5, .int l5), (6, .int x2)] rfl (R27 _ _ _ _ _ _ h)
theorem ks_R_packet_27 (X : xX) (sz : Nat) (ro : Int32 × xw) (r27 : xw → Nat → Int64 → Int64 → Int32 → Int32 → Option (Int32 × xw)) (R27 : ∀ (w : xw) (l0 : Nat) (l1 : Int64) (l3 : Int64) (l5 : Int32) (l6 : Int32), r27 w l0 l1 l3 l5 l6 = some ro → k_R_packet X [(0, .ref l0), (1, .long l1), (3, .long l3), (5, .int l5), (6, .int l6)] [] w sz 0 0 27 (some (.int ro.1), ro.2, sz)) (w : xw) (l0 : Nat) (l1 : Int64) (l3 : Int64) (l5 : Int32) (l6 : Int32) (h : f_R_packet_s27 r27 w l0 l1 l3 l5 l6 = some ro) : k_R_packet X [(0, .ref l0), (1, .long l1), (3, .long l3), (5, .int l5), (6, .int l6)] [] w sz 0 0 27 (some (.int ro.1), ro.2, sz) := by
  unfold f_R_packet_s27 at h
  refine xo_iload 4 d_R_packet_27 rfl ?_
  refine xo_iload 3 d_R_packet_29 rfl ?_
  refine xo_icmp_ge d_R_packet_31 h (fun h => ?_) (fun h => ?_)
  · refine xo_iconst d_R_packet_79 xic_1 ?_
    exact xo_retZH d_R_packet_80 rfl rfl rfl h
  · refine xo_aload_n 0 d_R_packet_34 rfl rfl ?_
    refine xo_getR 8 d_R_packet_35 xc_8 rfl tw_651 rfl h (fun a1 h => ?_)
    refine xo_iload 4 d_R_packet_38 rfl ?_
    refine xo_iload 4 d_R_packet_40 rfl ?_
    refine xo_bipush d_R_packet_42 xbp_8 ?_
    refine xo_icmp_ge d_R_packet_44 h (fun h => ?_) (fun h => ?_)
    · refine xo_lload_n 2 d_R_packet_57 rfl rfl ?_
      refine xo_bipush d_R_packet_58 xbp_8 ?_
      refine xo_iload 4 d_R_packet_60 rfl ?_
      refine xo_bipush d_R_packet_62 xbp_8 ?_
      refine xo_isub d_R_packet_64 ?_
      refine xo_imul d_R_packet_65 ?_
      refine xo_lshr d_R_packet_66 ?_
      exact xo_sub [0, 1, 2, 3, 4] [(0, .ref l0), (1, .long l1), (3, .long l3), (5, .int l5), (6, .int l6)] rfl (kb_R_packet_67 X sz ro _ R27 _ _ _ _ _ _ _ _ _ h)
    · refine xo_lload_n 1 d_R_packet_47 rfl rfl ?_
      refine xo_bipush d_R_packet_48 xbp_8 ?_
      refine xo_iload 4 d_R_packet_50 rfl ?_
      refine xo_imul d_R_packet_52 ?_
      refine xo_lshr d_R_packet_53 ?_
      refine xo_goto d_R_packet_54 ?_
      exact xo_sub [0, 1, 2, 3, 4] [(0, .ref l0), (1, .long l1), (3, .long l3), (5, .int l5), (6, .int l6)] rfl (kb_R_packet_67 X sz ro _ R27 _ _ _ _ _ _ _ _ _ h)
theorem kb_R_packet_27 (X : xX) (sz : Nat) (ro : Int32 × xw) (n : Nat) : ∀ (w : xw) (l0 : Nat) (l1 : Int64) (l3 : Int64) (l5 : Int32) (l6 : Int32), f_R_packet_b27 n w l0 l1 l3 l5 l6 = some ro → k_R_packet X [(0, .ref l0), (1, .long l1), (3, .long l3), (5, .int l5), (6, .int l6)] [] w sz 0 0 27 (some (.int ro.1), ro.2, sz) := by
  unfold f_R_packet_b27
  refine xfix_ind (P := fun (r27 : xw → Nat → Int64 → Int64 → Int32 → Int32 → Option (Int32 × xw)) => ∀ (w : xw) (l0 : Nat) (l1 : Int64) (l3 : Int64) (l5 : Int32) (l6 : Int32), r27 w l0 l1 l3 l5 l6 = some ro → k_R_packet X [(0, .ref l0), (1, .long l1), (3, .long l3), (5, .int l5), (6, .int l6)] [] w sz 0 0 27 (some (.int ro.1), ro.2, sz)) ?_ ?_ n
  · intro _ _ _ _ _ _ h
    cases h
  · intro r R w l0 l1 l3 l5 l6 h
    exact ks_R_packet_27 X sz ro r R _ _ _ _ _ _ h
theorem kb_R_packet_0 (X : xX) (sz : Nat) (ro : Int32 × xw) (w : xw) (l0 : Nat) (l1 : Int64) (l3 : Int64) (l5 : Int32) (h : f_R_packet w l0 l1 l3 l5 = some ro) : k_R_packet X [(0, .ref l0), (1, .long l1), (3, .long l3), (5, .int l5)] [] w sz 0 0 0 (some (.int ro.1), ro.2, sz) := by
  unfold f_R_packet at h
  refine xo_aload_n 0 d_R_packet_0 rfl rfl ?_
  refine xo_iconst d_R_packet_1 xic_0 ?_
  refine xo_putI 0 d_R_packet_2 xc_8 rfl tw_643 rfl rfl rfl rfl h (fun w1 h => ?_)
  refine xo_iload 3 d_R_packet_5 rfl ?_
  refine xo_iconst d_R_packet_7 xic_0 ?_
  refine xo_bipush d_R_packet_8 xbp_16 ?_
  refine xo_S_I0 (rest := []) [.int l5, .int (0 : Int32), .int (16 : Int32)] d_R_packet_10 tw_728 yw_R_within h (fun z e => c_R_within _ _ _ _ _ _ _ _ z e) rfl ⟨rfl, rfl⟩ rfl rfl rfl (fun q2 h => ?_)
  refine xo_if_ne d_R_packet_13 h (fun h => ?_) (fun h => ?_)
  · refine xo_aload_n 0 d_R_packet_18 rfl rfl ?_
    refine xo_iload 3 d_R_packet_19 rfl ?_
    refine xo_putI 7 d_R_packet_21 xc_8 rfl tw_650 rfl rfl rfl rfl h (fun w3 h => ?_)
    refine xo_iconst d_R_packet_24 xic_0 ?_
    refine xo_nmI h (fun x4 h => ?_)
    refine xo_istore [(6, .int x4), (0, .ref l0), (1, .long l1), (3, .long l3), (5, .int l5)] d_R_packet_25 rfl rfl ?_
    exact xo_sub [1, 2, 3, 4, 0] [(0, .ref l0), (1, .long l1), (3, .long l3), (5, .int l5), (6, .int x4)] rfl (kb_R_packet_27 X sz ro _ _ _ _ _ _ _ h)
  · refine xo_iconst d_R_packet_16 xic_0 ?_
    exact xo_retZH d_R_packet_17 rfl rfl rfl h
theorem c_R_packet (l : Launch) (D : va_G) (cT : Nat → ClassId) (sz : Nat) (w : xw) (l0 : Nat) (l1 : Int64) (l3 : Int64) (l5 : Int32) (ro : Int32 × xw) (h : f_R_packet w l0 l1 l3 l5 = some ro) : xM l y_R_packet b_R_packet 7 t_R_packet R_R_packet D cT [.ref l0, .long l1, .long l3, .int l5] w sz (some (.int ro.1), ro.2, sz) :=
  xm_of bl_R_packet rfl rfl (kb_R_packet_0 (l, D, cT, [.ref l0, .long l1, .long l3, .int l5], w, sz) sz ro w l0 l1 l3 l5 h)
theorem kb_R_nothing_0 (X : xX) (sz : Nat) (ro : Unit × xw) (w : xw) (l0 : Nat) (l1 : Int32) (h : f_R_nothing w l0 l1 = some ro) : k_R_nothing X [(0, .ref l0), (1, .int l1)] [] w sz 0 0 0 (none, ro.2, sz) := by
  unfold f_R_nothing at h
  refine xo_aload_n 0 d_R_nothing_0 rfl rfl ?_
  refine xo_getR 9 d_R_nothing_1 xc_8 rfl tw_652 rfl h (fun a1 h => ?_)
  refine xo_iload_n 1 d_R_nothing_4 rfl rfl ?_
  refine xo_iconst d_R_nothing_5 xic_1 ?_
  refine xo_astZ d_R_nothing_6 h (fun w2 h => ?_)
  refine xo_aload_n 0 d_R_nothing_7 rfl rfl ?_
  refine xo_getR 10 d_R_nothing_8 xc_8 rfl tw_653 rfl h (fun a3 h => ?_)
  refine xo_iload_n 1 d_R_nothing_11 rfl rfl ?_
  refine xo_iconst d_R_nothing_12 xic_0 ?_
  refine xo_astI d_R_nothing_13 h (fun w4 h => ?_)
  refine xo_aload_n 0 d_R_nothing_14 rfl rfl ?_
  refine xo_getR 11 d_R_nothing_15 xc_8 rfl tw_654 rfl h (fun a5 h => ?_)
  refine xo_iload_n 1 d_R_nothing_18 rfl rfl ?_
  refine xo_iconst d_R_nothing_19 xic_0 ?_
  refine xo_astI d_R_nothing_20 h (fun w6 h => ?_)
  refine xo_aload_n 0 d_R_nothing_21 rfl rfl ?_
  refine xo_getR 12 d_R_nothing_22 xc_8 rfl tw_655 rfl h (fun a7 h => ?_)
  refine xo_iload_n 1 d_R_nothing_25 rfl rfl ?_
  refine xo_lconst d_R_nothing_26 xlc_0 ?_
  refine xo_astL d_R_nothing_27 h (fun w8 h => ?_)
  refine xo_aload_n 0 d_R_nothing_28 rfl rfl ?_
  refine xo_getR 13 d_R_nothing_29 xc_8 rfl tw_656 rfl h (fun a9 h => ?_)
  refine xo_iload_n 1 d_R_nothing_32 rfl rfl ?_
  refine xo_ldc2 d_R_nothing_33 tw_756 ?_
  refine xo_astL d_R_nothing_36 h (fun w10 h => ?_)
  refine xo_aload_n 0 d_R_nothing_37 rfl rfl ?_
  refine xo_getR 14 d_R_nothing_38 xc_8 rfl tw_657 rfl h (fun a11 h => ?_)
  refine xo_iload_n 1 d_R_nothing_41 rfl rfl ?_
  refine xo_ldc2 d_R_nothing_42 tw_757 ?_
  refine xo_astL d_R_nothing_45 h (fun w12 h => ?_)
  refine xo_aload_n 0 d_R_nothing_46 rfl rfl ?_
  refine xo_getR 15 d_R_nothing_47 xc_8 rfl tw_658 rfl h (fun a13 h => ?_)
  refine xo_iload_n 1 d_R_nothing_50 rfl rfl ?_
  refine xo_ldc2 d_R_nothing_51 tw_758 ?_
  refine xo_astL d_R_nothing_54 h (fun w14 h => ?_)
  refine xo_aload_n 0 d_R_nothing_55 rfl rfl ?_
  refine xo_getR 16 d_R_nothing_56 xc_8 rfl tw_659 rfl h (fun a15 h => ?_)
  refine xo_iload_n 1 d_R_nothing_59 rfl rfl ?_
  refine xo_iconst d_R_nothing_60 xic_0 ?_
  refine xo_astI d_R_nothing_61 h (fun w16 h => ?_)
  exact xo_retVH d_R_nothing_62 rfl rfl rfl h
theorem c_R_nothing (l : Launch) (D : va_G) (cT : Nat → ClassId) (sz : Nat) (w : xw) (l0 : Nat) (l1 : Int32) (ro : Unit × xw) (h : f_R_nothing w l0 l1 = some ro) : xM l y_R_nothing b_R_nothing 2 t_R_nothing R_R_nothing D cT [.ref l0, .int l1] w sz (none, ro.2, sz) :=
  xm_of bl_R_nothing rfl rfl (kb_R_nothing_0 (l, D, cT, [.ref l0, .int l1], w, sz) sz ro w l0 l1 h)
theorem kb_R_greater_11 (X : xX) (sz : Nat) (ro : Int64) (w : xw) (s0 : Int64) (h : f_R_greater_b11 s0 = some ro) : k_R_greater X [] [.long s0] w sz 0 0 11 (some (.long ro), w, sz) := by
  unfold f_R_greater_b11 at h
  exact xo_retL0 d_R_greater_11 rfl rfl rfl h
theorem kb_R_greater_0 (X : xX) (sz : Nat) (ro : Int64) (w : xw) (l0 : Int64) (l2 : Int64) (h : f_R_greater l0 l2 = some ro) : k_R_greater X [(0, .long l0), (2, .long l2)] [] w sz 0 0 0 (some (.long ro), w, sz) := by
  unfold f_R_greater at h
  refine xo_lload_n 0 d_R_greater_0 rfl rfl ?_
  refine xo_lload_n 1 d_R_greater_1 rfl rfl ?_
  refine xo_lcle d_R_greater_2 d_R_greater_3 h (fun h => ?_) (fun h => ?_)
  · refine xo_lload_n 1 d_R_greater_10 rfl rfl ?_
    exact xo_sub [] [] rfl (kb_R_greater_11 X sz ro w _ h)
  · refine xo_lload_n 0 d_R_greater_6 rfl rfl ?_
    refine xo_goto d_R_greater_7 ?_
    exact xo_sub [] [] rfl (kb_R_greater_11 X sz ro w _ h)
theorem c_R_greater (l : Launch) (D : va_G) (cT : Nat → ClassId) (sz : Nat) (w : xw) (l0 : Int64) (l2 : Int64) (ro : Int64) (h : f_R_greater l0 l2 = some ro) : xM l y_R_greater b_R_greater 4 t_R_greater R_R_greater D cT [.long l0, .long l2] w sz (some (.long ro), w, sz) :=
  xm_of bl_R_greater rfl rfl (kb_R_greater_0 (l, D, cT, [.long l0, .long l2], w, sz) sz ro w l0 l2 h)
theorem kb_R_lesser_11 (X : xX) (sz : Nat) (ro : Int64) (w : xw) (s0 : Int64) (h : f_R_lesser_b11 s0 = some ro) : k_R_lesser X [] [.long s0] w sz 0 0 11 (some (.long ro), w, sz) := by
  unfold f_R_lesser_b11 at h
  exact xo_retL0 d_R_lesser_11 rfl rfl rfl h
theorem kb_R_lesser_0 (X : xX) (sz : Nat) (ro : Int64) (w : xw) (l0 : Int64) (l2 : Int64) (h : f_R_lesser l0 l2 = some ro) : k_R_lesser X [(0, .long l0), (2, .long l2)] [] w sz 0 0 0 (some (.long ro), w, sz) := by
  unfold f_R_lesser at h
  refine xo_lload_n 0 d_R_lesser_0 rfl rfl ?_
  refine xo_lload_n 1 d_R_lesser_1 rfl rfl ?_
  refine xo_lcge d_R_lesser_2 d_R_lesser_3 h (fun h => ?_) (fun h => ?_)
  · refine xo_lload_n 1 d_R_lesser_10 rfl rfl ?_
    exact xo_sub [] [] rfl (kb_R_lesser_11 X sz ro w _ h)
  · refine xo_lload_n 0 d_R_lesser_6 rfl rfl ?_
    refine xo_goto d_R_lesser_7 ?_
    exact xo_sub [] [] rfl (kb_R_lesser_11 X sz ro w _ h)
theorem c_R_lesser (l : Launch) (D : va_G) (cT : Nat → ClassId) (sz : Nat) (w : xw) (l0 : Int64) (l2 : Int64) (ro : Int64) (h : f_R_lesser l0 l2 = some ro) : xM l y_R_lesser b_R_lesser 4 t_R_lesser R_R_lesser D cT [.long l0, .long l2] w sz (some (.long ro), w, sz) :=
  xm_of bl_R_lesser rfl rfl (kb_R_lesser_0 (l, D, cT, [.long l0, .long l2], w, sz) sz ro w l0 l2 h)
theorem kb_R_tighten_375 (X : xX) (sz : Nat) (ro : Int32 × xw) (w : xw) (s0 : Int32) (h : f_R_tighten_b375 w s0 = some ro) : k_R_tighten X [] [.int s0] w sz 0 0 375 (some (.int ro.1), ro.2, sz) := by
  unfold f_R_tighten_b375 at h
  exact xo_retZH d_R_tighten_375 rfl rfl rfl h
theorem kb_R_tighten_374 (X : xX) (sz : Nat) (ro : Int32 × xw) (w : xw) (h : f_R_tighten_b374 w = some ro) : k_R_tighten X [] [] w sz 0 0 374 (some (.int ro.1), ro.2, sz) := by
  unfold f_R_tighten_b374 at h
  refine xo_iconst d_R_tighten_374 xic_0 ?_
  exact xo_sub [] [] rfl (kb_R_tighten_375 X sz ro _ _ h)
theorem kb_R_tighten_296 (X : xX) (sz : Nat) (ro : Int32 × xw) (w : xw) (l0 : Nat) (l1 : Int32) (l3 : Int32) (l4 : Int32) (s0 : Int32) (h : f_R_tighten_b296 w l0 l1 l3 l4 s0 = some ro) : k_R_tighten X [(0, .ref l0), (1, .int l1), (3, .int l3), (4, .int l4)] [.int s0] w sz 0 0 296 (some (.int ro.1), ro.2, sz) := by
  unfold f_R_tighten_b296 at h
  refine xo_istore [(5, .int s0), (0, .ref l0), (1, .int l1), (3, .int l3), (4, .int l4)] d_R_tighten_296 rfl rfl ?_
  refine xo_aload_n 1 d_R_tighten_298 rfl rfl ?_
  refine xo_getR 10 d_R_tighten_299 xc_8 rfl tw_653 rfl h (fun a1 h => ?_)
  refine xo_iload_n 2 d_R_tighten_302 rfl rfl ?_
  refine xo_aload_n 1 d_R_tighten_303 rfl rfl ?_
  refine xo_getR 10 d_R_tighten_304 xc_8 rfl tw_653 rfl h (fun a2 h => ?_)
  refine xo_iload_n 2 d_R_tighten_307 rfl rfl ?_
  refine xo_aldI d_R_tighten_308 h (fun x3 h => ?_)
  refine xo_iload_n 3 d_R_tighten_309 rfl rfl ?_
  refine xo_ior d_R_tighten_310 ?_
  refine xo_astI d_R_tighten_311 h (fun w4 h => ?_)
  refine xo_aload_n 1 d_R_tighten_312 rfl rfl ?_
  refine xo_getR 11 d_R_tighten_313 xc_8 rfl tw_654 rfl h (fun a5 h => ?_)
  refine xo_iload_n 2 d_R_tighten_316 rfl rfl ?_
  refine xo_aload_n 1 d_R_tighten_317 rfl rfl ?_
  refine xo_getR 11 d_R_tighten_318 xc_8 rfl tw_654 rfl h (fun a6 h => ?_)
  refine xo_iload_n 2 d_R_tighten_321 rfl rfl ?_
  refine xo_aldI d_R_tighten_322 h (fun x7 h => ?_)
  refine xo_iload_n 3 d_R_tighten_323 rfl rfl ?_
  refine xo_iconst d_R_tighten_324 xic_m1 ?_
  refine xo_ixor d_R_tighten_325 ?_
  refine xo_iand d_R_tighten_326 ?_
  refine xo_iload 4 d_R_tighten_327 rfl ?_
  refine xo_iload_n 3 d_R_tighten_329 rfl rfl ?_
  refine xo_iand d_R_tighten_330 ?_
  refine xo_ior d_R_tighten_331 ?_
  refine xo_astI d_R_tighten_332 h (fun w8 h => ?_)
  refine xo_iload 0 d_R_tighten_333 rfl ?_
  refine xo_if_eq d_R_tighten_335 h (fun h => ?_) (fun h => ?_)
  · exact xo_sub [] [] rfl (kb_R_tighten_374 X sz ro _ h)
  · refine xo_aload_n 1 d_R_tighten_338 rfl rfl ?_
    refine xo_getR 12 d_R_tighten_339 xc_8 rfl tw_655 rfl h (fun a9 h => ?_)
    refine xo_iload_n 2 d_R_tighten_342 rfl rfl ?_
    refine xo_aldL d_R_tighten_343 h (fun x10 h => ?_)
    refine xo_aload_n 1 d_R_tighten_344 rfl rfl ?_
    refine xo_getR 13 d_R_tighten_345 xc_8 rfl tw_656 rfl h (fun a11 h => ?_)
    refine xo_iload_n 2 d_R_tighten_348 rfl rfl ?_
    refine xo_aldL d_R_tighten_349 h (fun x12 h => ?_)
    refine xo_lcgt d_R_tighten_350 d_R_tighten_351 h (fun h => ?_) (fun h => ?_)
    · exact xo_sub [] [] rfl (kb_R_tighten_374 X sz ro _ h)
    · refine xo_aload_n 1 d_R_tighten_354 rfl rfl ?_
      refine xo_getR 14 d_R_tighten_355 xc_8 rfl tw_657 rfl h (fun a13 h => ?_)
      refine xo_iload_n 2 d_R_tighten_358 rfl rfl ?_
      refine xo_aldL d_R_tighten_359 h (fun x14 h => ?_)
      refine xo_aload_n 1 d_R_tighten_360 rfl rfl ?_
      refine xo_getR 15 d_R_tighten_361 xc_8 rfl tw_658 rfl h (fun a15 h => ?_)
      refine xo_iload_n 2 d_R_tighten_364 rfl rfl ?_
      refine xo_aldL d_R_tighten_365 h (fun x16 h => ?_)
      refine xo_lcgt d_R_tighten_366 d_R_tighten_367 h (fun h => ?_) (fun h => ?_)
      · exact xo_sub [] [] rfl (kb_R_tighten_374 X sz ro _ h)
      · refine xo_iconst d_R_tighten_370 xic_1 ?_
        refine xo_goto d_R_tighten_371 ?_
        exact xo_sub [] [] rfl (kb_R_tighten_375 X sz ro _ _ h)
theorem ks_R_tighten_248 (X : xX) (sz : Nat) (ro : Int32 × xw) (r248 : xw → Nat → Int32 → Int32 → Int32 → Option (Int32 × xw)) (R248 : ∀ (w : xw) (l0 : Nat) (l1 : Int32) (l2 : Int32) (l3 : Int32), r248 w l0 l1 l2 l3 = some ro → k_R_tighten X [(0, .ref l0), (1, .int l1), (2, .int l2), (3, .int l3)] [] w sz 0 0 248 (some (.int ro.1), ro.2, sz)) (w : xw) (l0 : Nat) (l1 : Int32) (l2 : Int32) (l3 : Int32) (h : f_R_tighten_s248 r248 w l0 l1 l2 l3 = some ro) : k_R_tighten X [(0, .ref l0), (1, .int l1), (2, .int l2), (3, .int l3)] [] w sz 0 0 248 (some (.int ro.1), ro.2, sz) := by
  unfold f_R_tighten_s248 at h
  refine xo_iload_n 2 d_R_tighten_248 rfl rfl ?_
  refine xo_iload_n 3 d_R_tighten_249 rfl rfl ?_
  refine xo_iand d_R_tighten_250 ?_
  refine xo_if_eq d_R_tighten_251 h (fun h => ?_) (fun h => ?_)
  · refine xo_aload_n 0 d_R_tighten_261 rfl rfl ?_
    refine xo_getR 12 d_R_tighten_262 xc_8 rfl tw_655 rfl h (fun a1 h => ?_)
    refine xo_iload_n 1 d_R_tighten_265 rfl rfl ?_
    refine xo_aldL d_R_tighten_266 h (fun x2 h => ?_)
    refine xo_l2i d_R_tighten_267 ?_
    refine xo_istore [(4, .int x2.toInt32), (0, .ref l0), (1, .int l1), (2, .int l2), (3, .int l3)] d_R_tighten_268 rfl rfl ?_
    refine xo_aload_n 1 d_R_tighten_270 rfl rfl ?_
    refine xo_getR 10 d_R_tighten_271 xc_8 rfl tw_653 rfl h (fun a3 h => ?_)
    refine xo_iload_n 2 d_R_tighten_274 rfl rfl ?_
    refine xo_aldI d_R_tighten_275 h (fun x4 h => ?_)
    refine xo_iload_n 4 d_R_tighten_276 rfl rfl ?_
    refine xo_iand d_R_tighten_277 ?_
    refine xo_aload_n 1 d_R_tighten_278 rfl rfl ?_
    refine xo_getR 11 d_R_tighten_279 xc_8 rfl tw_654 rfl h (fun a5 h => ?_)
    refine xo_iload_n 2 d_R_tighten_282 rfl rfl ?_
    refine xo_aldI d_R_tighten_283 h (fun x6 h => ?_)
    refine xo_iload 0 d_R_tighten_284 rfl ?_
    refine xo_ixor d_R_tighten_286 ?_
    refine xo_iand d_R_tighten_287 ?_
    refine xo_if_ne d_R_tighten_288 h (fun h => ?_) (fun h => ?_)
    · refine xo_iconst d_R_tighten_295 xic_0 ?_
      exact xo_sub [1, 2, 4, 0] [(0, .ref l0), (1, .int l1), (3, .int l3), (4, .int x2.toInt32)] rfl (kb_R_tighten_296 X sz ro _ _ _ _ _ _ h)
    · refine xo_iconst d_R_tighten_291 xic_1 ?_
      refine xo_goto d_R_tighten_292 ?_
      exact xo_sub [1, 2, 4, 0] [(0, .ref l0), (1, .int l1), (3, .int l3), (4, .int x2.toInt32)] rfl (kb_R_tighten_296 X sz ro _ _ _ _ _ _ h)
  · refine xo_iload_n 3 d_R_tighten_254 rfl rfl ?_
    refine xo_iconst d_R_tighten_255 xic_1 ?_
    refine xo_ishl d_R_tighten_256 ?_
    refine xo_nmI h (fun x7 h => ?_)
    refine xo_istore_n [(3, .int x7), (0, .ref l0), (1, .int l1), (2, .int l2)] d_R_tighten_257 rfl rfl rfl ?_
    refine xo_goto d_R_tighten_258 ?_
    exact xo_sub [1, 2, 3, 0] [(0, .ref l0), (1, .int l1), (2, .int l2), (3, .int x7)] rfl (R248 _ _ _ _ _ h)
theorem kb_R_tighten_248 (X : xX) (sz : Nat) (ro : Int32 × xw) (n : Nat) : ∀ (w : xw) (l0 : Nat) (l1 : Int32) (l2 : Int32) (l3 : Int32), f_R_tighten_b248 n w l0 l1 l2 l3 = some ro → k_R_tighten X [(0, .ref l0), (1, .int l1), (2, .int l2), (3, .int l3)] [] w sz 0 0 248 (some (.int ro.1), ro.2, sz) := by
  unfold f_R_tighten_b248
  refine xfix_ind (P := fun (r248 : xw → Nat → Int32 → Int32 → Int32 → Option (Int32 × xw)) => ∀ (w : xw) (l0 : Nat) (l1 : Int32) (l2 : Int32) (l3 : Int32), r248 w l0 l1 l2 l3 = some ro → k_R_tighten X [(0, .ref l0), (1, .int l1), (2, .int l2), (3, .int l3)] [] w sz 0 0 248 (some (.int ro.1), ro.2, sz)) ?_ ?_ n
  · intro _ _ _ _ _ h
    cases h
  · intro r R w l0 l1 l2 l3 h
    exact ks_R_tighten_248 X sz ro r R _ _ _ _ _ h
theorem kb_R_tighten_231 (X : xX) (sz : Nat) (ro : Int32 × xw) (w : xw) (l0 : Nat) (l1 : Int32) (h : f_R_tighten_b231 w l0 l1 = some ro) : k_R_tighten X [(0, .ref l0), (1, .int l1)] [] w sz 0 0 231 (some (.int ro.1), ro.2, sz) := by
  unfold f_R_tighten_b231 at h
  refine xo_aload_n 0 d_R_tighten_231 rfl rfl ?_
  refine xo_getR 12 d_R_tighten_232 xc_8 rfl tw_655 rfl h (fun a1 h => ?_)
  refine xo_iload_n 1 d_R_tighten_235 rfl rfl ?_
  refine xo_aldL d_R_tighten_236 h (fun x2 h => ?_)
  refine xo_aload_n 0 d_R_tighten_237 rfl rfl ?_
  refine xo_getR 13 d_R_tighten_238 xc_8 rfl tw_656 rfl h (fun a3 h => ?_)
  refine xo_iload_n 1 d_R_tighten_241 rfl rfl ?_
  refine xo_aldL d_R_tighten_242 h (fun x4 h => ?_)
  refine xo_lxor d_R_tighten_243 ?_
  refine xo_l2i d_R_tighten_244 ?_
  refine xo_nmI h (fun x5 h => ?_)
  refine xo_istore_n [(2, .int x5), (0, .ref l0), (1, .int l1)] d_R_tighten_245 rfl rfl rfl ?_
  refine xo_iconst d_R_tighten_246 xic_m1 ?_
  refine xo_nmI h (fun x6 h => ?_)
  refine xo_istore_n [(3, .int x6), (2, .int x5), (0, .ref l0), (1, .int l1)] d_R_tighten_247 rfl rfl rfl ?_
  exact xo_sub [2, 3, 1, 0] [(0, .ref l0), (1, .int l1), (2, .int x5), (3, .int x6)] rfl (kb_R_tighten_248 X sz ro _ _ _ _ _ _ h)
theorem kb_R_tighten_178 (X : xX) (sz : Nat) (ro : Int32 × xw) (w : xw) (l0 : Nat) (l1 : Int32) (s0 : Int32) (s1 : Int32) (h : f_R_tighten_b178 w l0 l1 s0 s1 = some ro) : k_R_tighten X [(0, .ref l0), (1, .int l1)] [.int s1, .int s0] w sz 0 0 178 (some (.int ro.1), ro.2, sz) := by
  unfold f_R_tighten_b178 at h
  refine xo_icmp_ne d_R_tighten_178 h (fun h => ?_) (fun h => ?_)
  · exact xo_sub [0, 1] [(0, .ref l0), (1, .int l1)] rfl (kb_R_tighten_231 X sz ro _ _ _ h)
  · refine xo_aload_n 0 d_R_tighten_181 rfl rfl ?_
    refine xo_getR 12 d_R_tighten_182 xc_8 rfl tw_655 rfl h (fun a1 h => ?_)
    refine xo_iload_n 1 d_R_tighten_185 rfl rfl ?_
    refine xo_aload_n 0 d_R_tighten_186 rfl rfl ?_
    refine xo_getR 12 d_R_tighten_187 xc_8 rfl tw_655 rfl h (fun a2 h => ?_)
    refine xo_iload_n 1 d_R_tighten_190 rfl rfl ?_
    refine xo_aldL d_R_tighten_191 h (fun x3 h => ?_)
    refine xo_aload_n 0 d_R_tighten_192 rfl rfl ?_
    refine xo_getR 14 d_R_tighten_193 xc_8 rfl tw_657 rfl h (fun a4 h => ?_)
    refine xo_iload_n 1 d_R_tighten_196 rfl rfl ?_
    refine xo_aldL d_R_tighten_197 h (fun x5 h => ?_)
    refine xo_ldc2 d_R_tighten_198 tw_756 ?_
    refine xo_land d_R_tighten_201 ?_
    refine xo_S_L0 (rest := [.int l1, .ref a1]) [.long x3, .long (x5 &&& (4294967295 : Int64))] d_R_tighten_202 tw_764 yw_R_greater h (fun z e => c_R_greater _ _ _ _ _ _ _ z e) rfl ⟨rfl, rfl⟩ rfl rfl rfl (fun q6 h => ?_)
    refine xo_astL d_R_tighten_205 h (fun w7 h => ?_)
    refine xo_aload_n 0 d_R_tighten_206 rfl rfl ?_
    refine xo_getR 13 d_R_tighten_207 xc_8 rfl tw_656 rfl h (fun a8 h => ?_)
    refine xo_iload_n 1 d_R_tighten_210 rfl rfl ?_
    refine xo_aload_n 0 d_R_tighten_211 rfl rfl ?_
    refine xo_getR 13 d_R_tighten_212 xc_8 rfl tw_656 rfl h (fun a9 h => ?_)
    refine xo_iload_n 1 d_R_tighten_215 rfl rfl ?_
    refine xo_aldL d_R_tighten_216 h (fun x10 h => ?_)
    refine xo_aload_n 0 d_R_tighten_217 rfl rfl ?_
    refine xo_getR 15 d_R_tighten_218 xc_8 rfl tw_658 rfl h (fun a11 h => ?_)
    refine xo_iload_n 1 d_R_tighten_221 rfl rfl ?_
    refine xo_aldL d_R_tighten_222 h (fun x12 h => ?_)
    refine xo_ldc2 d_R_tighten_223 tw_756 ?_
    refine xo_land d_R_tighten_226 ?_
    refine xo_S_L0 (rest := [.int l1, .ref a8]) [.long x10, .long (x12 &&& (4294967295 : Int64))] d_R_tighten_227 tw_767 yw_R_lesser h (fun z e => c_R_lesser _ _ _ _ _ _ _ z e) rfl ⟨rfl, rfl⟩ rfl rfl rfl (fun q13 h => ?_)
    refine xo_astL d_R_tighten_230 h (fun w14 h => ?_)
    exact xo_sub [0, 1] [(0, .ref l0), (1, .int l1)] rfl (kb_R_tighten_231 X sz ro _ _ _ h)
theorem kb_R_tighten_162 (X : xX) (sz : Nat) (ro : Int32 × xw) (w : xw) (l0 : Nat) (l1 : Int32) (s0 : Int32) (h : f_R_tighten_b162 w l0 l1 s0 = some ro) : k_R_tighten X [(0, .ref l0), (1, .int l1)] [.int s0] w sz 0 0 162 (some (.int ro.1), ro.2, sz) := by
  unfold f_R_tighten_b162 at h
  refine xo_aload_n 0 d_R_tighten_162 rfl rfl ?_
  refine xo_getR 15 d_R_tighten_163 xc_8 rfl tw_658 rfl h (fun a1 h => ?_)
  refine xo_iload_n 1 d_R_tighten_166 rfl rfl ?_
  refine xo_aldL d_R_tighten_167 h (fun x2 h => ?_)
  refine xo_lconst d_R_tighten_168 xlc_0 ?_
  refine xo_lcge d_R_tighten_169 d_R_tighten_170 h (fun h => ?_) (fun h => ?_)
  · refine xo_iconst d_R_tighten_177 xic_0 ?_
    exact xo_sub [0, 1] [(0, .ref l0), (1, .int l1)] rfl (kb_R_tighten_178 X sz ro _ _ _ _ _ h)
  · refine xo_iconst d_R_tighten_173 xic_1 ?_
    refine xo_goto d_R_tighten_174 ?_
    exact xo_sub [0, 1] [(0, .ref l0), (1, .int l1)] rfl (kb_R_tighten_178 X sz ro _ _ _ _ _ h)
theorem kb_R_tighten_146 (X : xX) (sz : Nat) (ro : Int32 × xw) (w : xw) (l0 : Nat) (l1 : Int32) (h : f_R_tighten_b146 w l0 l1 = some ro) : k_R_tighten X [(0, .ref l0), (1, .int l1)] [] w sz 0 0 146 (some (.int ro.1), ro.2, sz) := by
  unfold f_R_tighten_b146 at h
  refine xo_aload_n 0 d_R_tighten_146 rfl rfl ?_
  refine xo_getR 14 d_R_tighten_147 xc_8 rfl tw_657 rfl h (fun a1 h => ?_)
  refine xo_iload_n 1 d_R_tighten_150 rfl rfl ?_
  refine xo_aldL d_R_tighten_151 h (fun x2 h => ?_)
  refine xo_lconst d_R_tighten_152 xlc_0 ?_
  refine xo_lcge d_R_tighten_153 d_R_tighten_154 h (fun h => ?_) (fun h => ?_)
  · refine xo_iconst d_R_tighten_161 xic_0 ?_
    exact xo_sub [0, 1] [(0, .ref l0), (1, .int l1)] rfl (kb_R_tighten_162 X sz ro _ _ _ _ h)
  · refine xo_iconst d_R_tighten_157 xic_1 ?_
    refine xo_goto d_R_tighten_158 ?_
    exact xo_sub [0, 1] [(0, .ref l0), (1, .int l1)] rfl (kb_R_tighten_162 X sz ro _ _ _ _ h)
theorem kb_R_tighten_97 (X : xX) (sz : Nat) (ro : Int32 × xw) (w : xw) (l0 : Nat) (l1 : Int32) (s0 : Int32) (s1 : Int32) (h : f_R_tighten_b97 w l0 l1 s0 s1 = some ro) : k_R_tighten X [(0, .ref l0), (1, .int l1)] [.int s1, .int s0] w sz 0 0 97 (some (.int ro.1), ro.2, sz) := by
  unfold f_R_tighten_b97 at h
  refine xo_icmp_ne d_R_tighten_97 h (fun h => ?_) (fun h => ?_)
  · exact xo_sub [0, 1] [(0, .ref l0), (1, .int l1)] rfl (kb_R_tighten_146 X sz ro _ _ _ h)
  · refine xo_aload_n 0 d_R_tighten_100 rfl rfl ?_
    refine xo_getR 14 d_R_tighten_101 xc_8 rfl tw_657 rfl h (fun a1 h => ?_)
    refine xo_iload_n 1 d_R_tighten_104 rfl rfl ?_
    refine xo_aload_n 0 d_R_tighten_105 rfl rfl ?_
    refine xo_getR 14 d_R_tighten_106 xc_8 rfl tw_657 rfl h (fun a2 h => ?_)
    refine xo_iload_n 1 d_R_tighten_109 rfl rfl ?_
    refine xo_aldL d_R_tighten_110 h (fun x3 h => ?_)
    refine xo_aload_n 0 d_R_tighten_111 rfl rfl ?_
    refine xo_getR 12 d_R_tighten_112 xc_8 rfl tw_655 rfl h (fun a4 h => ?_)
    refine xo_iload_n 1 d_R_tighten_115 rfl rfl ?_
    refine xo_aldL d_R_tighten_116 h (fun x5 h => ?_)
    refine xo_l2i d_R_tighten_117 ?_
    refine xo_i2l d_R_tighten_118 ?_
    refine xo_S_L0 (rest := [.int l1, .ref a1]) [.long x3, .long x5.toInt32.toInt64] d_R_tighten_119 tw_764 yw_R_greater h (fun z e => c_R_greater _ _ _ _ _ _ _ z e) rfl ⟨rfl, rfl⟩ rfl rfl rfl (fun q6 h => ?_)
    refine xo_astL d_R_tighten_122 h (fun w7 h => ?_)
    refine xo_aload_n 0 d_R_tighten_123 rfl rfl ?_
    refine xo_getR 15 d_R_tighten_124 xc_8 rfl tw_658 rfl h (fun a8 h => ?_)
    refine xo_iload_n 1 d_R_tighten_127 rfl rfl ?_
    refine xo_aload_n 0 d_R_tighten_128 rfl rfl ?_
    refine xo_getR 15 d_R_tighten_129 xc_8 rfl tw_658 rfl h (fun a9 h => ?_)
    refine xo_iload_n 1 d_R_tighten_132 rfl rfl ?_
    refine xo_aldL d_R_tighten_133 h (fun x10 h => ?_)
    refine xo_aload_n 0 d_R_tighten_134 rfl rfl ?_
    refine xo_getR 13 d_R_tighten_135 xc_8 rfl tw_656 rfl h (fun a11 h => ?_)
    refine xo_iload_n 1 d_R_tighten_138 rfl rfl ?_
    refine xo_aldL d_R_tighten_139 h (fun x12 h => ?_)
    refine xo_l2i d_R_tighten_140 ?_
    refine xo_i2l d_R_tighten_141 ?_
    refine xo_S_L0 (rest := [.int l1, .ref a8]) [.long x10, .long x12.toInt32.toInt64] d_R_tighten_142 tw_767 yw_R_lesser h (fun z e => c_R_lesser _ _ _ _ _ _ _ z e) rfl ⟨rfl, rfl⟩ rfl rfl rfl (fun q13 h => ?_)
    refine xo_astL d_R_tighten_145 h (fun w14 h => ?_)
    exact xo_sub [0, 1] [(0, .ref l0), (1, .int l1)] rfl (kb_R_tighten_146 X sz ro _ _ _ h)
theorem kb_R_tighten_79 (X : xX) (sz : Nat) (ro : Int32 × xw) (w : xw) (l0 : Nat) (l1 : Int32) (s0 : Int32) (h : f_R_tighten_b79 w l0 l1 s0 = some ro) : k_R_tighten X [(0, .ref l0), (1, .int l1)] [.int s0] w sz 0 0 79 (some (.int ro.1), ro.2, sz) := by
  unfold f_R_tighten_b79 at h
  refine xo_aload_n 0 d_R_tighten_79 rfl rfl ?_
  refine xo_getR 13 d_R_tighten_80 xc_8 rfl tw_656 rfl h (fun a1 h => ?_)
  refine xo_iload_n 1 d_R_tighten_83 rfl rfl ?_
  refine xo_aldL d_R_tighten_84 h (fun x2 h => ?_)
  refine xo_ldc2 d_R_tighten_85 tw_770 ?_
  refine xo_lcge d_R_tighten_88 d_R_tighten_89 h (fun h => ?_) (fun h => ?_)
  · refine xo_iconst d_R_tighten_96 xic_0 ?_
    exact xo_sub [0, 1] [(0, .ref l0), (1, .int l1)] rfl (kb_R_tighten_97 X sz ro _ _ _ _ _ h)
  · refine xo_iconst d_R_tighten_92 xic_1 ?_
    refine xo_goto d_R_tighten_93 ?_
    exact xo_sub [0, 1] [(0, .ref l0), (1, .int l1)] rfl (kb_R_tighten_97 X sz ro _ _ _ _ _ h)
theorem kb_R_tighten_0 (X : xX) (sz : Nat) (ro : Int32 × xw) (w : xw) (l0 : Nat) (l1 : Int32) (h : f_R_tighten w l0 l1 = some ro) : k_R_tighten X [(0, .ref l0), (1, .int l1)] [] w sz 0 0 0 (some (.int ro.1), ro.2, sz) := by
  unfold f_R_tighten at h
  refine xo_aload_n 0 d_R_tighten_0 rfl rfl ?_
  refine xo_getR 12 d_R_tighten_1 xc_8 rfl tw_655 rfl h (fun a1 h => ?_)
  refine xo_iload_n 1 d_R_tighten_4 rfl rfl ?_
  refine xo_aload_n 0 d_R_tighten_5 rfl rfl ?_
  refine xo_getR 12 d_R_tighten_6 xc_8 rfl tw_655 rfl h (fun a2 h => ?_)
  refine xo_iload_n 1 d_R_tighten_9 rfl rfl ?_
  refine xo_aldL d_R_tighten_10 h (fun x3 h => ?_)
  refine xo_aload_n 0 d_R_tighten_11 rfl rfl ?_
  refine xo_getR 11 d_R_tighten_12 xc_8 rfl tw_654 rfl h (fun a4 h => ?_)
  refine xo_iload_n 1 d_R_tighten_15 rfl rfl ?_
  refine xo_aldI d_R_tighten_16 h (fun x5 h => ?_)
  refine xo_i2l d_R_tighten_17 ?_
  refine xo_ldc2 d_R_tighten_18 tw_756 ?_
  refine xo_land d_R_tighten_21 ?_
  refine xo_S_L0 (rest := [.int l1, .ref a1]) [.long x3, .long (x5.toInt64 &&& (4294967295 : Int64))] d_R_tighten_22 tw_764 yw_R_greater h (fun z e => c_R_greater _ _ _ _ _ _ _ z e) rfl ⟨rfl, rfl⟩ rfl rfl rfl (fun q6 h => ?_)
  refine xo_astL d_R_tighten_25 h (fun w7 h => ?_)
  refine xo_aload_n 0 d_R_tighten_26 rfl rfl ?_
  refine xo_getR 13 d_R_tighten_27 xc_8 rfl tw_656 rfl h (fun a8 h => ?_)
  refine xo_iload_n 1 d_R_tighten_30 rfl rfl ?_
  refine xo_aload_n 0 d_R_tighten_31 rfl rfl ?_
  refine xo_getR 13 d_R_tighten_32 xc_8 rfl tw_656 rfl h (fun a9 h => ?_)
  refine xo_iload_n 1 d_R_tighten_35 rfl rfl ?_
  refine xo_aldL d_R_tighten_36 h (fun x10 h => ?_)
  refine xo_aload_n 0 d_R_tighten_37 rfl rfl ?_
  refine xo_getR 11 d_R_tighten_38 xc_8 rfl tw_654 rfl h (fun a11 h => ?_)
  refine xo_iload_n 1 d_R_tighten_41 rfl rfl ?_
  refine xo_aldI d_R_tighten_42 h (fun x12 h => ?_)
  refine xo_aload_n 0 d_R_tighten_43 rfl rfl ?_
  refine xo_getR 10 d_R_tighten_44 xc_8 rfl tw_653 rfl h (fun a13 h => ?_)
  refine xo_iload_n 1 d_R_tighten_47 rfl rfl ?_
  refine xo_aldI d_R_tighten_48 h (fun x14 h => ?_)
  refine xo_iconst d_R_tighten_49 xic_m1 ?_
  refine xo_ixor d_R_tighten_50 ?_
  refine xo_ior d_R_tighten_51 ?_
  refine xo_i2l d_R_tighten_52 ?_
  refine xo_ldc2 d_R_tighten_53 tw_756 ?_
  refine xo_land d_R_tighten_56 ?_
  refine xo_S_L0 (rest := [.int l1, .ref a8]) [.long x10, .long (((x12 ||| (x14 ^^^ (-1 : Int32))).toInt64) &&& (4294967295 : Int64))] d_R_tighten_57 tw_767 yw_R_lesser h (fun z e => c_R_lesser _ _ _ _ _ _ _ z e) rfl ⟨rfl, rfl⟩ rfl rfl rfl (fun q15 h => ?_)
  refine xo_astL d_R_tighten_60 h (fun w16 h => ?_)
  refine xo_aload_n 0 d_R_tighten_61 rfl rfl ?_
  refine xo_getR 12 d_R_tighten_62 xc_8 rfl tw_655 rfl h (fun a17 h => ?_)
  refine xo_iload_n 1 d_R_tighten_65 rfl rfl ?_
  refine xo_aldL d_R_tighten_66 h (fun x18 h => ?_)
  refine xo_ldc2 d_R_tighten_67 tw_770 ?_
  refine xo_lcge d_R_tighten_70 d_R_tighten_71 h (fun h => ?_) (fun h => ?_)
  · refine xo_iconst d_R_tighten_78 xic_0 ?_
    exact xo_sub [0, 1] [(0, .ref l0), (1, .int l1)] rfl (kb_R_tighten_79 X sz ro _ _ _ _ h)
  · refine xo_iconst d_R_tighten_74 xic_1 ?_
    refine xo_goto d_R_tighten_75 ?_
    exact xo_sub [0, 1] [(0, .ref l0), (1, .int l1)] rfl (kb_R_tighten_79 X sz ro _ _ _ _ h)
theorem c_R_tighten (l : Launch) (D : va_G) (cT : Nat → ClassId) (sz : Nat) (w : xw) (l0 : Nat) (l1 : Int32) (ro : Int32 × xw) (h : f_R_tighten w l0 l1 = some ro) : xM l y_R_tighten b_R_tighten 6 t_R_tighten R_R_tighten D cT [.ref l0, .int l1] w sz (some (.int ro.1), ro.2, sz) :=
  xm_of bl_R_tighten rfl rfl (kb_R_tighten_0 (l, D, cT, [.ref l0, .int l1], w, sz) sz ro w l0 l1 h)
theorem ks_R_setUp_2 (X : xX) (sz : Nat) (ro : Unit × xw) (r2 : xw → Nat → Int32 → Option (Unit × xw)) (R2 : ∀ (w : xw) (l0 : Nat) (l1 : Int32), r2 w l0 l1 = some ro → k_R_setUp X [(0, .ref l0), (1, .int l1)] [] w sz 0 0 2 (none, ro.2, sz)) (w : xw) (l0 : Nat) (l1 : Int32) (h : f_R_setUp_s2 r2 w l0 l1 = some ro) : k_R_setUp X [(0, .ref l0), (1, .int l1)] [] w sz 0 0 2 (none, ro.2, sz) := by
  unfold f_R_setUp_s2 at h
  refine xo_iload_n 1 d_R_setUp_2 rfl rfl ?_
  refine xo_sipush d_R_setUp_3 xsp_256 ?_
  refine xo_icmp_ge d_R_setUp_6 h (fun h => ?_) (fun h => ?_)
  · refine xo_aload_n 0 d_R_setUp_22 rfl rfl ?_
    refine xo_iconst d_R_setUp_23 xic_1 ?_
    refine xo_V_VH (rest := []) [.int (1 : Int32)] d_R_setUp_24 tw_752 yw_R_nothing h xc_8 (fun z e => c_R_nothing _ _ _ _ _ _ _ z e) rfl ⟨rfl, rfl⟩ rfl rfl rfl (fun q1 h => ?_)
    refine xo_aload_n 0 d_R_setUp_27 rfl rfl ?_
    refine xo_getR 13 d_R_setUp_28 xc_8 rfl tw_656 rfl h (fun a2 h => ?_)
    refine xo_iconst d_R_setUp_31 xic_1 ?_
    refine xo_ldc2 d_R_setUp_32 tw_759 ?_
    refine xo_astL d_R_setUp_35 h (fun w3 h => ?_)
    refine xo_aload_n 0 d_R_setUp_36 rfl rfl ?_
    refine xo_getR 14 d_R_setUp_37 xc_8 rfl tw_657 rfl h (fun a4 h => ?_)
    refine xo_iconst d_R_setUp_40 xic_1 ?_
    refine xo_lconst d_R_setUp_41 xlc_0 ?_
    refine xo_astL d_R_setUp_42 h (fun w5 h => ?_)
    refine xo_aload_n 0 d_R_setUp_43 rfl rfl ?_
    refine xo_getR 15 d_R_setUp_44 xc_8 rfl tw_658 rfl h (fun a6 h => ?_)
    refine xo_iconst d_R_setUp_47 xic_1 ?_
    refine xo_ldc2 d_R_setUp_48 tw_759 ?_
    refine xo_astL d_R_setUp_51 h (fun w7 h => ?_)
    refine xo_aload_n 0 d_R_setUp_52 rfl rfl ?_
    refine xo_iconst d_R_setUp_53 xic_1 ?_
    refine xo_V_IH (rest := []) [.int (1 : Int32)] d_R_setUp_54 tw_760 yw_R_tighten h xc_8 (fun z e => c_R_tighten _ _ _ _ _ _ _ z e) rfl ⟨rfl, rfl⟩ rfl rfl rfl (fun q8 h => ?_)
    refine xo_istore_n [(1, .int q8.1), (0, .ref l0)] d_R_setUp_57 rfl rfl rfl ?_
    refine xo_aload_n 1 d_R_setUp_58 rfl rfl ?_
    refine xo_getR 9 d_R_setUp_59 xc_8 rfl tw_652 rfl h (fun a9 h => ?_)
    refine xo_iconst d_R_setUp_62 xic_2 ?_
    refine xo_iload_n 0 d_R_setUp_63 rfl rfl ?_
    refine xo_astZ d_R_setUp_64 h (fun w10 h => ?_)
    refine xo_aload_n 1 d_R_setUp_65 rfl rfl ?_
    refine xo_iconst d_R_setUp_66 xic_2 ?_
    refine xo_V_VH (rest := []) [.int (2 : Int32)] d_R_setUp_67 tw_752 yw_R_nothing h xc_8 (fun z e => c_R_nothing _ _ _ _ _ _ _ z e) rfl ⟨rfl, rfl⟩ rfl rfl rfl (fun q11 h => ?_)
    exact xo_retVH d_R_setUp_70 rfl rfl rfl h
  · refine xo_aload_n 0 d_R_setUp_9 rfl rfl ?_
    refine xo_getR 9 d_R_setUp_10 xc_8 rfl tw_652 rfl h (fun a12 h => ?_)
    refine xo_iload_n 1 d_R_setUp_13 rfl rfl ?_
    refine xo_iconst d_R_setUp_14 xic_0 ?_
    refine xo_astZ d_R_setUp_15 h (fun w13 h => ?_)
    refine xo_iinc 1 (fun x14 => [(1, .int x14), (0, .ref l0)]) d_R_setUp_16 rfl rfl xic_1 (fun _ => rfl) h (fun x14 h => ?_)
    refine xo_goto d_R_setUp_19 ?_
    exact xo_sub [1, 0] [(0, .ref l0), (1, .int x14)] rfl (R2 _ _ _ h)
theorem kb_R_setUp_2 (X : xX) (sz : Nat) (ro : Unit × xw) (n : Nat) : ∀ (w : xw) (l0 : Nat) (l1 : Int32), f_R_setUp_b2 n w l0 l1 = some ro → k_R_setUp X [(0, .ref l0), (1, .int l1)] [] w sz 0 0 2 (none, ro.2, sz) := by
  unfold f_R_setUp_b2
  refine xfix_ind (P := fun (r2 : xw → Nat → Int32 → Option (Unit × xw)) => ∀ (w : xw) (l0 : Nat) (l1 : Int32), r2 w l0 l1 = some ro → k_R_setUp X [(0, .ref l0), (1, .int l1)] [] w sz 0 0 2 (none, ro.2, sz)) ?_ ?_ n
  · intro _ _ _ h
    cases h
  · intro r R w l0 l1 h
    exact ks_R_setUp_2 X sz ro r R _ _ _ h
theorem kb_R_setUp_0 (X : xX) (sz : Nat) (ro : Unit × xw) (w : xw) (l0 : Nat) (h : f_R_setUp w l0 = some ro) : k_R_setUp X [(0, .ref l0)] [] w sz 0 0 0 (none, ro.2, sz) := by
  unfold f_R_setUp at h
  refine xo_iconst d_R_setUp_0 xic_0 ?_
  refine xo_nmI h (fun x1 h => ?_)
  refine xo_istore_n [(1, .int x1), (0, .ref l0)] d_R_setUp_1 rfl rfl rfl ?_
  exact xo_sub [1, 0] [(0, .ref l0), (1, .int x1)] rfl (kb_R_setUp_2 X sz ro _ _ _ _ h)
theorem c_R_setUp (l : Launch) (D : va_G) (cT : Nat → ClassId) (sz : Nat) (w : xw) (l0 : Nat) (ro : Unit × xw) (h : f_R_setUp w l0 = some ro) : xM l y_R_setUp b_R_setUp 2 t_R_setUp R_R_setUp D cT [.ref l0] w sz (none, ro.2, sz) :=
  xm_of bl_R_setUp rfl rfl (kb_R_setUp_0 (l, D, cT, [.ref l0], w, sz) sz ro w l0 h)
theorem kb_R_readsA_34 (X : xX) (sz : Nat) (ro : Int32) (w : xw) (s0 : Int32) (h : f_R_readsA_b34 s0 = some ro) : k_R_readsA X [] [.int s0] w sz 0 0 34 (some (.int ro), w, sz) := by
  unfold f_R_readsA_b34 at h
  exact xo_retZ0 d_R_readsA_34 rfl rfl rfl h
theorem kb_R_readsA_33 (X : xX) (sz : Nat) (ro : Int32) (w : xw) (h : f_R_readsA_b33 = some ro) : k_R_readsA X [] [] w sz 0 0 33 (some (.int ro), w, sz) := by
  unfold f_R_readsA_b33 at h
  refine xo_iconst d_R_readsA_33 xic_0 ?_
  exact xo_sub [] [] rfl (kb_R_readsA_34 X sz ro w _ h)
theorem kb_R_readsA_29 (X : xX) (sz : Nat) (ro : Int32) (w : xw) (h : f_R_readsA_b29 = some ro) : k_R_readsA X [] [] w sz 0 0 29 (some (.int ro), w, sz) := by
  unfold f_R_readsA_b29 at h
  refine xo_iconst d_R_readsA_29 xic_1 ?_
  refine xo_goto d_R_readsA_30 ?_
  exact xo_sub [] [] rfl (kb_R_readsA_34 X sz ro w _ h)
theorem kb_R_readsA_11 (X : xX) (sz : Nat) (ro : Int32) (w : xw) (l0 : Int32) (h : f_R_readsA_b11 l0 = some ro) : k_R_readsA X [(0, .int l0)] [] w sz 0 0 11 (some (.int ro), w, sz) := by
  unfold f_R_readsA_b11 at h
  refine xo_iload_n 0 d_R_readsA_11 rfl rfl ?_
  refine xo_bipush d_R_readsA_12 xbp_13 ?_
  refine xo_icmp_eq d_R_readsA_14 h (fun h => ?_) (fun h => ?_)
  · exact xo_sub [] [] rfl (kb_R_readsA_29 X sz ro w h)
  · refine xo_iload_n 0 d_R_readsA_17 rfl rfl ?_
    refine xo_bipush d_R_readsA_18 xbp_16 ?_
    refine xo_icmp_lt d_R_readsA_20 h (fun h => ?_) (fun h => ?_)
    · exact xo_sub [] [] rfl (kb_R_readsA_33 X sz ro w h)
    · refine xo_iload_n 0 d_R_readsA_23 rfl rfl ?_
      refine xo_bipush d_R_readsA_24 xbp_21 ?_
      refine xo_icmp_gt d_R_readsA_26 h (fun h => ?_) (fun h => ?_)
      · exact xo_sub [] [] rfl (kb_R_readsA_33 X sz ro w h)
      · exact xo_sub [] [] rfl (kb_R_readsA_29 X sz ro w h)
theorem kb_R_readsA_0 (X : xX) (sz : Nat) (ro : Int32) (w : xw) (l0 : Int32) (h : f_R_readsA l0 = some ro) : k_R_readsA X [(0, .int l0)] [] w sz 0 0 0 (some (.int ro), w, sz) := by
  unfold f_R_readsA at h
  refine xo_iload_n 0 d_R_readsA_0 rfl rfl ?_
  refine xo_iconst d_R_readsA_1 xic_1 ?_
  refine xo_icmp_lt d_R_readsA_2 h (fun h => ?_) (fun h => ?_)
  · exact xo_sub [0] [(0, .int l0)] rfl (kb_R_readsA_11 X sz ro w _ h)
  · refine xo_iload_n 0 d_R_readsA_5 rfl rfl ?_
    refine xo_bipush d_R_readsA_6 xbp_11 ?_
    refine xo_icmp_le d_R_readsA_8 h (fun h => ?_) (fun h => ?_)
    · exact xo_sub [] [] rfl (kb_R_readsA_29 X sz ro w h)
    · exact xo_sub [0] [(0, .int l0)] rfl (kb_R_readsA_11 X sz ro w _ h)
theorem c_R_readsA (l : Launch) (D : va_G) (cT : Nat → ClassId) (sz : Nat) (w : xw) (l0 : Int32) (ro : Int32) (h : f_R_readsA l0 = some ro) : xM l y_R_readsA b_R_readsA 1 t_R_readsA R_R_readsA D cT [.int l0] w sz (some (.int ro), w, sz) :=
  xm_of bl_R_readsA rfl rfl (kb_R_readsA_0 (l, D, cT, [.int l0], w, sz) sz ro w l0 h)
theorem kb_R_readsB_11 (X : xX) (sz : Nat) (ro : Int32) (w : xw) (s0 : Int32) (h : f_R_readsB_b11 s0 = some ro) : k_R_readsB X [] [.int s0] w sz 0 0 11 (some (.int ro), w, sz) := by
  unfold f_R_readsB_b11 at h
  exact xo_retZ0 d_R_readsB_11 rfl rfl rfl h
theorem kb_R_readsB_0 (X : xX) (sz : Nat) (ro : Int32) (w : xw) (l0 : Int32) (h : f_R_readsB l0 = some ro) : k_R_readsB X [(0, .int l0)] [] w sz 0 0 0 (some (.int ro), w, sz) := by
  unfold f_R_readsB at h
  refine xo_iload_n 0 d_R_readsB_0 rfl rfl ?_
  refine xo_bipush d_R_readsB_1 xbp_21 ?_
  refine xo_icmp_gt d_R_readsB_3 h (fun h => ?_) (fun h => ?_)
  · refine xo_iconst d_R_readsB_10 xic_0 ?_
    exact xo_sub [] [] rfl (kb_R_readsB_11 X sz ro w _ h)
  · refine xo_iconst d_R_readsB_6 xic_1 ?_
    refine xo_goto d_R_readsB_7 ?_
    exact xo_sub [] [] rfl (kb_R_readsB_11 X sz ro w _ h)
theorem c_R_readsB (l : Launch) (D : va_G) (cT : Nat → ClassId) (sz : Nat) (w : xw) (l0 : Int32) (ro : Int32) (h : f_R_readsB l0 = some ro) : xM l y_R_readsB b_R_readsB 1 t_R_readsB R_R_readsB D cT [.int l0] w sz (some (.int ro), w, sz) :=
  xm_of bl_R_readsB rfl rfl (kb_R_readsB_0 (l, D, cT, [.int l0], w, sz) sz ro w l0 h)
theorem kb_R_copy_0 (X : xX) (sz : Nat) (ro : Unit × xw) (w : xw) (l0 : Nat) (l1 : Int32) (l2 : Int32) (h : f_R_copy w l0 l1 l2 = some ro) : k_R_copy X [(0, .ref l0), (1, .int l1), (2, .int l2)] [] w sz 0 0 0 (none, ro.2, sz) := by
  unfold f_R_copy at h
  refine xo_aload_n 0 d_R_copy_0 rfl rfl ?_
  refine xo_getR 9 d_R_copy_1 xc_8 rfl tw_652 rfl h (fun a1 h => ?_)
  refine xo_iload_n 2 d_R_copy_4 rfl rfl ?_
  refine xo_aload_n 0 d_R_copy_5 rfl rfl ?_
  refine xo_getR 9 d_R_copy_6 xc_8 rfl tw_652 rfl h (fun a2 h => ?_)
  refine xo_iload_n 1 d_R_copy_9 rfl rfl ?_
  refine xo_aldZ d_R_copy_10 h (fun x3 h => ?_)
  refine xo_astZ d_R_copy_11 h (fun w4 h => ?_)
  refine xo_aload_n 0 d_R_copy_12 rfl rfl ?_
  refine xo_getR 10 d_R_copy_13 xc_8 rfl tw_653 rfl h (fun a5 h => ?_)
  refine xo_iload_n 2 d_R_copy_16 rfl rfl ?_
  refine xo_aload_n 0 d_R_copy_17 rfl rfl ?_
  refine xo_getR 10 d_R_copy_18 xc_8 rfl tw_653 rfl h (fun a6 h => ?_)
  refine xo_iload_n 1 d_R_copy_21 rfl rfl ?_
  refine xo_aldI d_R_copy_22 h (fun x7 h => ?_)
  refine xo_astI d_R_copy_23 h (fun w8 h => ?_)
  refine xo_aload_n 0 d_R_copy_24 rfl rfl ?_
  refine xo_getR 11 d_R_copy_25 xc_8 rfl tw_654 rfl h (fun a9 h => ?_)
  refine xo_iload_n 2 d_R_copy_28 rfl rfl ?_
  refine xo_aload_n 0 d_R_copy_29 rfl rfl ?_
  refine xo_getR 11 d_R_copy_30 xc_8 rfl tw_654 rfl h (fun a10 h => ?_)
  refine xo_iload_n 1 d_R_copy_33 rfl rfl ?_
  refine xo_aldI d_R_copy_34 h (fun x11 h => ?_)
  refine xo_astI d_R_copy_35 h (fun w12 h => ?_)
  refine xo_aload_n 0 d_R_copy_36 rfl rfl ?_
  refine xo_getR 12 d_R_copy_37 xc_8 rfl tw_655 rfl h (fun a13 h => ?_)
  refine xo_iload_n 2 d_R_copy_40 rfl rfl ?_
  refine xo_aload_n 0 d_R_copy_41 rfl rfl ?_
  refine xo_getR 12 d_R_copy_42 xc_8 rfl tw_655 rfl h (fun a14 h => ?_)
  refine xo_iload_n 1 d_R_copy_45 rfl rfl ?_
  refine xo_aldL d_R_copy_46 h (fun x15 h => ?_)
  refine xo_astL d_R_copy_47 h (fun w16 h => ?_)
  refine xo_aload_n 0 d_R_copy_48 rfl rfl ?_
  refine xo_getR 13 d_R_copy_49 xc_8 rfl tw_656 rfl h (fun a17 h => ?_)
  refine xo_iload_n 2 d_R_copy_52 rfl rfl ?_
  refine xo_aload_n 0 d_R_copy_53 rfl rfl ?_
  refine xo_getR 13 d_R_copy_54 xc_8 rfl tw_656 rfl h (fun a18 h => ?_)
  refine xo_iload_n 1 d_R_copy_57 rfl rfl ?_
  refine xo_aldL d_R_copy_58 h (fun x19 h => ?_)
  refine xo_astL d_R_copy_59 h (fun w20 h => ?_)
  refine xo_aload_n 0 d_R_copy_60 rfl rfl ?_
  refine xo_getR 14 d_R_copy_61 xc_8 rfl tw_657 rfl h (fun a21 h => ?_)
  refine xo_iload_n 2 d_R_copy_64 rfl rfl ?_
  refine xo_aload_n 0 d_R_copy_65 rfl rfl ?_
  refine xo_getR 14 d_R_copy_66 xc_8 rfl tw_657 rfl h (fun a22 h => ?_)
  refine xo_iload_n 1 d_R_copy_69 rfl rfl ?_
  refine xo_aldL d_R_copy_70 h (fun x23 h => ?_)
  refine xo_astL d_R_copy_71 h (fun w24 h => ?_)
  refine xo_aload_n 0 d_R_copy_72 rfl rfl ?_
  refine xo_getR 15 d_R_copy_73 xc_8 rfl tw_658 rfl h (fun a25 h => ?_)
  refine xo_iload_n 2 d_R_copy_76 rfl rfl ?_
  refine xo_aload_n 0 d_R_copy_77 rfl rfl ?_
  refine xo_getR 15 d_R_copy_78 xc_8 rfl tw_658 rfl h (fun a26 h => ?_)
  refine xo_iload_n 1 d_R_copy_81 rfl rfl ?_
  refine xo_aldL d_R_copy_82 h (fun x27 h => ?_)
  refine xo_astL d_R_copy_83 h (fun w28 h => ?_)
  refine xo_aload_n 0 d_R_copy_84 rfl rfl ?_
  refine xo_getR 16 d_R_copy_85 xc_8 rfl tw_659 rfl h (fun a29 h => ?_)
  refine xo_iload_n 2 d_R_copy_88 rfl rfl ?_
  refine xo_aload_n 0 d_R_copy_89 rfl rfl ?_
  refine xo_getR 16 d_R_copy_90 xc_8 rfl tw_659 rfl h (fun a30 h => ?_)
  refine xo_iload_n 1 d_R_copy_93 rfl rfl ?_
  refine xo_aldI d_R_copy_94 h (fun x31 h => ?_)
  refine xo_astI d_R_copy_95 h (fun w32 h => ?_)
  exact xo_retVH d_R_copy_96 rfl rfl rfl h
theorem c_R_copy (l : Launch) (D : va_G) (cT : Nat → ClassId) (sz : Nat) (w : xw) (l0 : Nat) (l1 : Int32) (l2 : Int32) (ro : Unit × xw) (h : f_R_copy w l0 l1 l2 = some ro) : xM l y_R_copy b_R_copy 3 t_R_copy R_R_copy D cT [.ref l0, .int l1, .int l2] w sz (none, ro.2, sz) :=
  xm_of bl_R_copy rfl rfl (kb_R_copy_0 (l, D, cT, [.ref l0, .int l1, .int l2], w, sz) sz ro w l0 l1 l2 h)
theorem kb_R_number_0 (X : xX) (sz : Nat) (ro : Unit × xw) (w : xw) (l0 : Nat) (l1 : Int32) (l2 : Int32) (h : f_R_number w l0 l1 l2 = some ro) : k_R_number X [(0, .ref l0), (1, .int l1), (2, .int l2)] [] w sz 0 0 0 (none, ro.2, sz) := by
  unfold f_R_number at h
  refine xo_aload_n 0 d_R_number_0 rfl rfl ?_
  refine xo_iload_n 1 d_R_number_1 rfl rfl ?_
  refine xo_V_VH (rest := []) [.int l1] d_R_number_2 tw_752 yw_R_nothing h xc_8 (fun z e => c_R_nothing _ _ _ _ _ _ _ z e) rfl ⟨rfl, rfl⟩ rfl rfl rfl (fun q1 h => ?_)
  refine xo_aload_n 0 d_R_number_5 rfl rfl ?_
  refine xo_getR 10 d_R_number_6 xc_8 rfl tw_653 rfl h (fun a2 h => ?_)
  refine xo_iload_n 1 d_R_number_9 rfl rfl ?_
  refine xo_iconst d_R_number_10 xic_m1 ?_
  refine xo_astI d_R_number_11 h (fun w3 h => ?_)
  refine xo_aload_n 0 d_R_number_12 rfl rfl ?_
  refine xo_getR 11 d_R_number_13 xc_8 rfl tw_654 rfl h (fun a4 h => ?_)
  refine xo_iload_n 1 d_R_number_16 rfl rfl ?_
  refine xo_iload_n 2 d_R_number_17 rfl rfl ?_
  refine xo_astI d_R_number_18 h (fun w5 h => ?_)
  refine xo_aload_n 0 d_R_number_19 rfl rfl ?_
  refine xo_getR 12 d_R_number_20 xc_8 rfl tw_655 rfl h (fun a6 h => ?_)
  refine xo_iload_n 1 d_R_number_23 rfl rfl ?_
  refine xo_iload_n 2 d_R_number_24 rfl rfl ?_
  refine xo_i2l d_R_number_25 ?_
  refine xo_ldc2 d_R_number_26 tw_756 ?_
  refine xo_land d_R_number_29 ?_
  refine xo_astL d_R_number_30 h (fun w7 h => ?_)
  refine xo_aload_n 0 d_R_number_31 rfl rfl ?_
  refine xo_getR 13 d_R_number_32 xc_8 rfl tw_656 rfl h (fun a8 h => ?_)
  refine xo_iload_n 1 d_R_number_35 rfl rfl ?_
  refine xo_iload_n 2 d_R_number_36 rfl rfl ?_
  refine xo_i2l d_R_number_37 ?_
  refine xo_ldc2 d_R_number_38 tw_756 ?_
  refine xo_land d_R_number_41 ?_
  refine xo_astL d_R_number_42 h (fun w9 h => ?_)
  refine xo_aload_n 0 d_R_number_43 rfl rfl ?_
  refine xo_getR 14 d_R_number_44 xc_8 rfl tw_657 rfl h (fun a10 h => ?_)
  refine xo_iload_n 1 d_R_number_47 rfl rfl ?_
  refine xo_iload_n 2 d_R_number_48 rfl rfl ?_
  refine xo_i2l d_R_number_49 ?_
  refine xo_astL d_R_number_50 h (fun w11 h => ?_)
  refine xo_aload_n 0 d_R_number_51 rfl rfl ?_
  refine xo_getR 15 d_R_number_52 xc_8 rfl tw_658 rfl h (fun a12 h => ?_)
  refine xo_iload_n 1 d_R_number_55 rfl rfl ?_
  refine xo_iload_n 2 d_R_number_56 rfl rfl ?_
  refine xo_i2l d_R_number_57 ?_
  refine xo_astL d_R_number_58 h (fun w13 h => ?_)
  exact xo_retVH d_R_number_59 rfl rfl rfl h
theorem c_R_number (l : Launch) (D : va_G) (cT : Nat → ClassId) (sz : Nat) (w : xw) (l0 : Nat) (l1 : Int32) (l2 : Int32) (ro : Unit × xw) (h : f_R_number w l0 l1 l2 = some ro) : xM l y_R_number b_R_number 3 t_R_number R_R_number D cT [.ref l0, .int l1, .int l2] w sz (none, ro.2, sz) :=
  xm_of bl_R_number rfl rfl (kb_R_number_0 (l, D, cT, [.ref l0, .int l1, .int l2], w, sz) sz ro w l0 l1 l2 h)
theorem kb_R_alarm_312 (X : xX) (sz : Nat) (ro : Int32 × xw) (w : xw) (s0 : Int32) (h : f_R_alarm_b312 w s0 = some ro) : k_R_alarm X [] [.int s0] w sz 0 0 312 (some (.int ro.1), ro.2, sz) := by
  unfold f_R_alarm_b312 at h
  exact xo_retIH d_R_alarm_312 rfl rfl rfl h
theorem kb_R_alarm_311 (X : xX) (sz : Nat) (ro : Int32 × xw) (w : xw) (h : f_R_alarm_b311 w = some ro) : k_R_alarm X [] [] w sz 0 0 311 (some (.int ro.1), ro.2, sz) := by
  unfold f_R_alarm_b311 at h
  refine xo_iconst d_R_alarm_311 xic_0 ?_
  exact xo_sub [] [] rfl (kb_R_alarm_312 X sz ro _ _ h)
theorem kb_R_alarm_270 (X : xX) (sz : Nat) (ro : Int32 × xw) (w : xw) (l0 : Nat) (l1 : Int32) (h : f_R_alarm_b270 w l0 l1 = some ro) : k_R_alarm X [(0, .ref l0), (1, .int l1)] [] w sz 0 0 270 (some (.int ro.1), ro.2, sz) := by
  unfold f_R_alarm_b270 at h
  refine xo_iload_n 1 d_R_alarm_270 rfl rfl ?_
  refine xo_bipush d_R_alarm_271 xbp_14 ?_
  refine xo_icmp_ne d_R_alarm_273 h (fun h => ?_) (fun h => ?_)
  · exact xo_sub [] [] rfl (kb_R_alarm_311 X sz ro _ h)
  · refine xo_aload_n 0 d_R_alarm_276 rfl rfl ?_
    refine xo_getR 5 d_R_alarm_277 xc_8 rfl tw_648 rfl h (fun a1 h => ?_)
    refine xo_aload_n 0 d_R_alarm_280 rfl rfl ?_
    refine xo_getI 17 d_R_alarm_281 xc_8 rfl tw_660 rfl h (fun x2 h => ?_)
    refine xo_aldI d_R_alarm_284 h (fun x3 h => ?_)
    refine xo_aload_n 0 d_R_alarm_285 rfl rfl ?_
    refine xo_getR 6 d_R_alarm_286 xc_8 rfl tw_649 rfl h (fun a4 h => ?_)
    refine xo_aload_n 0 d_R_alarm_289 rfl rfl ?_
    refine xo_getI 17 d_R_alarm_290 xc_8 rfl tw_660 rfl h (fun x5 h => ?_)
    refine xo_aldI d_R_alarm_293 h (fun x6 h => ?_)
    refine xo_iadd d_R_alarm_294 ?_
    refine xo_aload_n 0 d_R_alarm_295 rfl rfl ?_
    refine xo_getR 16 d_R_alarm_296 xc_8 rfl tw_659 rfl h (fun a7 h => ?_)
    refine xo_sipush d_R_alarm_299 xsp_257 ?_
    refine xo_aldI d_R_alarm_302 h (fun x8 h => ?_)
    refine xo_icmp_le d_R_alarm_303 h (fun h => ?_) (fun h => ?_)
    · exact xo_sub [] [] rfl (kb_R_alarm_311 X sz ro _ h)
    · refine xo_bipush d_R_alarm_306 xbp_7 ?_
      refine xo_goto d_R_alarm_308 ?_
      exact xo_sub [] [] rfl (kb_R_alarm_312 X sz ro _ _ h)
theorem kb_R_alarm_264 (X : xX) (sz : Nat) (ro : Int32 × xw) (r206 : xw → Nat → Int32 → Int32 → Option (Int32 × xw)) (R206 : ∀ (w : xw) (l0 : Nat) (l1 : Int32) (l4 : Int32), r206 w l0 l1 l4 = some ro → k_R_alarm X [(0, .ref l0), (1, .int l1), (4, .int l4)] [] w sz 0 0 206 (some (.int ro.1), ro.2, sz)) (w : xw) (l0 : Nat) (l1 : Int32) (l4 : Int32) (h : f_R_alarm_b264 r206 w l0 l1 l4 = some ro) : k_R_alarm X [(0, .ref l0), (1, .int l1), (4, .int l4)] [] w sz 0 0 264 (some (.int ro.1), ro.2, sz) := by
  unfold f_R_alarm_b264 at h
  refine xo_iinc 2 (fun x1 => [(4, .int x1), (0, .ref l0), (1, .int l1)]) d_R_alarm_264 rfl rfl xic_1 (fun _ => rfl) h (fun x1 h => ?_)
  refine xo_goto d_R_alarm_267 ?_
  exact xo_sub [1, 2, 0] [(0, .ref l0), (1, .int l1), (4, .int x1)] rfl (R206 _ _ _ _ h)
theorem ks_R_alarm_206 (X : xX) (sz : Nat) (ro : Int32 × xw) (r206 : xw → Nat → Int32 → Int32 → Option (Int32 × xw)) (R206 : ∀ (w : xw) (l0 : Nat) (l1 : Int32) (l4 : Int32), r206 w l0 l1 l4 = some ro → k_R_alarm X [(0, .ref l0), (1, .int l1), (4, .int l4)] [] w sz 0 0 206 (some (.int ro.1), ro.2, sz)) (w : xw) (l0 : Nat) (l1 : Int32) (l4 : Int32) (h : f_R_alarm_s206 r206 w l0 l1 l4 = some ro) : k_R_alarm X [(0, .ref l0), (1, .int l1), (4, .int l4)] [] w sz 0 0 206 (some (.int ro.1), ro.2, sz) := by
  unfold f_R_alarm_s206 at h
  refine xo_iload 2 d_R_alarm_206 rfl ?_
  refine xo_iconst d_R_alarm_208 xic_4 ?_
  refine xo_icmp_ge d_R_alarm_209 h (fun h => ?_) (fun h => ?_)
  · exact xo_sub [0, 1] [(0, .ref l0), (1, .int l1)] rfl (kb_R_alarm_270 X sz ro _ _ _ h)
  · refine xo_iload_n 1 d_R_alarm_212 rfl rfl ?_
    refine xo_bipush d_R_alarm_213 xbp_12 ?_
    refine xo_icmp_ne d_R_alarm_215 h (fun h => ?_) (fun h => ?_)
    · exact xo_sub [0, 1] [(0, .ref l0), (1, .int l1)] rfl (kb_R_alarm_270 X sz ro _ _ _ h)
    · refine xo_iload 2 d_R_alarm_218 rfl ?_
      refine xo_i2l d_R_alarm_220 ?_
      refine xo_aload_n 0 d_R_alarm_221 rfl rfl ?_
      refine xo_getR 12 d_R_alarm_222 xc_8 rfl tw_655 rfl h (fun a1 h => ?_)
      refine xo_sipush d_R_alarm_225 xsp_257 ?_
      refine xo_aldL d_R_alarm_228 h (fun x2 h => ?_)
      refine xo_lclt d_R_alarm_229 d_R_alarm_230 h (fun h => ?_) (fun h => ?_)
      · exact xo_sub [0, 1, 2] [(0, .ref l0), (1, .int l1), (4, .int l4)] rfl (kb_R_alarm_264 X sz ro _ R206 _ _ _ _ h)
      · refine xo_iload 2 d_R_alarm_233 rfl ?_
        refine xo_i2l d_R_alarm_235 ?_
        refine xo_aload_n 0 d_R_alarm_236 rfl rfl ?_
        refine xo_getR 13 d_R_alarm_237 xc_8 rfl tw_656 rfl h (fun a3 h => ?_)
        refine xo_sipush d_R_alarm_240 xsp_257 ?_
        refine xo_aldL d_R_alarm_243 h (fun x4 h => ?_)
        refine xo_lcgt d_R_alarm_244 d_R_alarm_245 h (fun h => ?_) (fun h => ?_)
        · exact xo_sub [0, 1, 2] [(0, .ref l0), (1, .int l1), (4, .int l4)] rfl (kb_R_alarm_264 X sz ro _ R206 _ _ _ _ h)
        · refine xo_aload_n 0 d_R_alarm_248 rfl rfl ?_
          refine xo_getR 9 d_R_alarm_249 xc_8 rfl tw_652 rfl h (fun a5 h => ?_)
          refine xo_bipush d_R_alarm_252 xbp_6 ?_
          refine xo_iload 2 d_R_alarm_254 rfl ?_
          refine xo_iadd d_R_alarm_256 ?_
          refine xo_aldZ d_R_alarm_257 h (fun x6 h => ?_)
          refine xo_if_ne d_R_alarm_258 h (fun h => ?_) (fun h => ?_)
          · exact xo_sub [0, 1, 2] [(0, .ref l0), (1, .int l1), (4, .int l4)] rfl (kb_R_alarm_264 X sz ro _ R206 _ _ _ _ h)
          · refine xo_bipush d_R_alarm_261 xbp_6 ?_
            exact xo_retIH d_R_alarm_263 rfl rfl rfl h
theorem kb_R_alarm_206 (X : xX) (sz : Nat) (ro : Int32 × xw) (n : Nat) : ∀ (w : xw) (l0 : Nat) (l1 : Int32) (l4 : Int32), f_R_alarm_b206 n w l0 l1 l4 = some ro → k_R_alarm X [(0, .ref l0), (1, .int l1), (4, .int l4)] [] w sz 0 0 206 (some (.int ro.1), ro.2, sz) := by
  unfold f_R_alarm_b206
  refine xfix_ind (P := fun (r206 : xw → Nat → Int32 → Int32 → Option (Int32 × xw)) => ∀ (w : xw) (l0 : Nat) (l1 : Int32) (l4 : Int32), r206 w l0 l1 l4 = some ro → k_R_alarm X [(0, .ref l0), (1, .int l1), (4, .int l4)] [] w sz 0 0 206 (some (.int ro.1), ro.2, sz)) ?_ ?_ n
  · intro _ _ _ _ h
    cases h
  · intro r R w l0 l1 l4 h
    exact ks_R_alarm_206 X sz ro r R _ _ _ _ h
theorem kb_R_alarm_203 (X : xX) (sz : Nat) (ro : Int32 × xw) (w : xw) (l0 : Nat) (l1 : Int32) (h : f_R_alarm_b203 w l0 l1 = some ro) : k_R_alarm X [(0, .ref l0), (1, .int l1)] [] w sz 0 0 203 (some (.int ro.1), ro.2, sz) := by
  unfold f_R_alarm_b203 at h
  refine xo_iconst d_R_alarm_203 xic_0 ?_
  refine xo_nmI h (fun x1 h => ?_)
  refine xo_istore [(4, .int x1), (0, .ref l0), (1, .int l1)] d_R_alarm_204 rfl rfl ?_
  exact xo_sub [1, 2, 0] [(0, .ref l0), (1, .int l1), (4, .int x1)] rfl (kb_R_alarm_206 X sz ro _ _ _ _ _ h)
theorem kb_R_alarm_186 (X : xX) (sz : Nat) (ro : Int32 × xw) (w : xw) (l0 : Nat) (l1 : Int32) (h : f_R_alarm_b186 w l0 l1 = some ro) : k_R_alarm X [(0, .ref l0), (1, .int l1)] [] w sz 0 0 186 (some (.int ro.1), ro.2, sz) := by
  unfold f_R_alarm_b186 at h
  refine xo_aload_n 0 d_R_alarm_186 rfl rfl ?_
  refine xo_getR 13 d_R_alarm_187 xc_8 rfl tw_656 rfl h (fun a1 h => ?_)
  refine xo_sipush d_R_alarm_190 xsp_257 ?_
  refine xo_aldL d_R_alarm_193 h (fun x2 h => ?_)
  refine xo_ldc2 d_R_alarm_194 tw_789 ?_
  refine xo_lcle d_R_alarm_197 d_R_alarm_198 h (fun h => ?_) (fun h => ?_)
  · exact xo_sub [0, 1] [(0, .ref l0), (1, .int l1)] rfl (kb_R_alarm_203 X sz ro _ _ _ h)
  · refine xo_iconst d_R_alarm_201 xic_5 ?_
    exact xo_retIH d_R_alarm_202 rfl rfl rfl h
theorem kb_R_alarm_174 (X : xX) (sz : Nat) (ro : Int32 × xw) (w : xw) (l0 : Nat) (l1 : Int32) (h : f_R_alarm_b174 w l0 l1 = some ro) : k_R_alarm X [(0, .ref l0), (1, .int l1)] [] w sz 0 0 174 (some (.int ro.1), ro.2, sz) := by
  unfold f_R_alarm_b174 at h
  refine xo_iload_n 1 d_R_alarm_174 rfl rfl ?_
  refine xo_bipush d_R_alarm_175 xbp_12 ?_
  refine xo_icmp_eq d_R_alarm_177 h (fun h => ?_) (fun h => ?_)
  · exact xo_sub [0, 1] [(0, .ref l0), (1, .int l1)] rfl (kb_R_alarm_186 X sz ro _ _ _ h)
  · refine xo_iload_n 1 d_R_alarm_180 rfl rfl ?_
    refine xo_bipush d_R_alarm_181 xbp_13 ?_
    refine xo_icmp_ne d_R_alarm_183 h (fun h => ?_) (fun h => ?_)
    · exact xo_sub [0, 1] [(0, .ref l0), (1, .int l1)] rfl (kb_R_alarm_203 X sz ro _ _ _ h)
    · exact xo_sub [0, 1] [(0, .ref l0), (1, .int l1)] rfl (kb_R_alarm_186 X sz ro _ _ _ h)
theorem kb_R_alarm_159 (X : xX) (sz : Nat) (ro : Int32 × xw) (w : xw) (l0 : Nat) (l1 : Int32) (h : f_R_alarm_b159 w l0 l1 = some ro) : k_R_alarm X [(0, .ref l0), (1, .int l1)] [] w sz 0 0 159 (some (.int ro.1), ro.2, sz) := by
  unfold f_R_alarm_b159 at h
  refine xo_aload_n 0 d_R_alarm_159 rfl rfl ?_
  refine xo_getR 12 d_R_alarm_160 xc_8 rfl tw_655 rfl h (fun a1 h => ?_)
  refine xo_sipush d_R_alarm_163 xsp_257 ?_
  refine xo_aldL d_R_alarm_166 h (fun x2 h => ?_)
  refine xo_lconst d_R_alarm_167 xlc_0 ?_
  refine xo_lcne d_R_alarm_168 d_R_alarm_169 h (fun h => ?_) (fun h => ?_)
  · exact xo_sub [0, 1] [(0, .ref l0), (1, .int l1)] rfl (kb_R_alarm_174 X sz ro _ _ _ h)
  · refine xo_iconst d_R_alarm_172 xic_4 ?_
    exact xo_retIH d_R_alarm_173 rfl rfl rfl h
theorem kb_R_alarm_147 (X : xX) (sz : Nat) (ro : Int32 × xw) (w : xw) (l0 : Nat) (l1 : Int32) (h : f_R_alarm_b147 w l0 l1 = some ro) : k_R_alarm X [(0, .ref l0), (1, .int l1)] [] w sz 0 0 147 (some (.int ro.1), ro.2, sz) := by
  unfold f_R_alarm_b147 at h
  refine xo_iload_n 1 d_R_alarm_147 rfl rfl ?_
  refine xo_bipush d_R_alarm_148 xbp_10 ?_
  refine xo_icmp_eq d_R_alarm_150 h (fun h => ?_) (fun h => ?_)
  · exact xo_sub [0, 1] [(0, .ref l0), (1, .int l1)] rfl (kb_R_alarm_159 X sz ro _ _ _ h)
  · refine xo_iload_n 1 d_R_alarm_153 rfl rfl ?_
    refine xo_bipush d_R_alarm_154 xbp_11 ?_
    refine xo_icmp_ne d_R_alarm_156 h (fun h => ?_) (fun h => ?_)
    · exact xo_sub [0, 1] [(0, .ref l0), (1, .int l1)] rfl (kb_R_alarm_174 X sz ro _ _ _ h)
    · exact xo_sub [0, 1] [(0, .ref l0), (1, .int l1)] rfl (kb_R_alarm_159 X sz ro _ _ _ h)
theorem kb_R_alarm_108 (X : xX) (sz : Nat) (ro : Int32 × xw) (w : xw) (l0 : Nat) (l1 : Int32) (l2 : Int32) (l3 : Int32) (h : f_R_alarm_b108 w l0 l1 l2 l3 = some ro) : k_R_alarm X [(0, .ref l0), (1, .int l1), (2, .int l2), (3, .int l3)] [] w sz 0 0 108 (some (.int ro.1), ro.2, sz) := by
  unfold f_R_alarm_b108 at h
  refine xo_aload_n 0 d_R_alarm_108 rfl rfl ?_
  refine xo_iload_n 2 d_R_alarm_109 rfl rfl ?_
  refine xo_sipush d_R_alarm_110 xsp_256 ?_
  refine xo_V_VH (rest := []) [.int l2, .int (256 : Int32)] d_R_alarm_113 tw_781 yw_R_copy h xc_8 (fun z e => c_R_copy _ _ _ _ _ _ _ _ z e) rfl ⟨rfl, rfl⟩ rfl rfl rfl (fun q1 h => ?_)
  refine xo_iload_n 3 d_R_alarm_116 rfl rfl ?_
  refine xo_if_lt d_R_alarm_117 h (fun h => ?_) (fun h => ?_)
  · refine xo_aload_n 0 d_R_alarm_131 rfl rfl ?_
    refine xo_sipush d_R_alarm_132 xsp_257 ?_
    refine xo_aload_n 0 d_R_alarm_135 rfl rfl ?_
    refine xo_getR 5 d_R_alarm_136 xc_8 rfl tw_648 rfl h (fun a2 h => ?_)
    refine xo_aload_n 0 d_R_alarm_139 rfl rfl ?_
    refine xo_getI 17 d_R_alarm_140 xc_8 rfl tw_660 rfl h (fun x3 h => ?_)
    refine xo_aldI d_R_alarm_143 h (fun x4 h => ?_)
    refine xo_V_VH (rest := []) [.int (257 : Int32), .int x4] d_R_alarm_144 tw_785 yw_R_number h xc_8 (fun z e => c_R_number _ _ _ _ _ _ _ _ z e) rfl ⟨rfl, rfl⟩ rfl rfl rfl (fun q5 h => ?_)
    exact xo_sub [0, 1] [(0, .ref l0), (1, .int l1)] rfl (kb_R_alarm_147 X sz ro _ _ _ h)
  · refine xo_aload_n 0 d_R_alarm_120 rfl rfl ?_
    refine xo_iload_n 3 d_R_alarm_121 rfl rfl ?_
    refine xo_sipush d_R_alarm_122 xsp_257 ?_
    refine xo_V_VH (rest := []) [.int l3, .int (257 : Int32)] d_R_alarm_125 tw_781 yw_R_copy h xc_8 (fun z e => c_R_copy _ _ _ _ _ _ _ _ z e) rfl ⟨rfl, rfl⟩ rfl rfl rfl (fun q6 h => ?_)
    refine xo_goto d_R_alarm_128 ?_
    exact xo_sub [0, 1] [(0, .ref l0), (1, .int l1)] rfl (kb_R_alarm_147 X sz ro _ _ _ h)
theorem kb_R_alarm_106 (X : xX) (sz : Nat) (ro : Int32 × xw) (w : xw) (h : f_R_alarm_b106 w = some ro) : k_R_alarm X [] [] w sz 0 0 106 (some (.int ro.1), ro.2, sz) := by
  unfold f_R_alarm_b106 at h
  refine xo_iconst d_R_alarm_106 xic_3 ?_
  exact xo_retIH d_R_alarm_107 rfl rfl rfl h
theorem kb_R_alarm_91 (X : xX) (sz : Nat) (ro : Int32 × xw) (w : xw) (l0 : Nat) (l1 : Int32) (l2 : Int32) (l3 : Int32) (h : f_R_alarm_b91 w l0 l1 l2 l3 = some ro) : k_R_alarm X [(0, .ref l0), (1, .int l1), (2, .int l2), (3, .int l3)] [] w sz 0 0 91 (some (.int ro.1), ro.2, sz) := by
  unfold f_R_alarm_b91 at h
  refine xo_iload_n 1 d_R_alarm_91 rfl rfl ?_
  refine xo_bipush d_R_alarm_92 xbp_23 ?_
  refine xo_icmp_ne d_R_alarm_94 h (fun h => ?_) (fun h => ?_)
  · exact xo_sub [0, 1, 2, 3] [(0, .ref l0), (1, .int l1), (2, .int l2), (3, .int l3)] rfl (kb_R_alarm_108 X sz ro _ _ _ _ _ h)
  · refine xo_aload_n 0 d_R_alarm_97 rfl rfl ?_
    refine xo_getR 9 d_R_alarm_98 xc_8 rfl tw_652 rfl h (fun a1 h => ?_)
    refine xo_iconst d_R_alarm_101 xic_0 ?_
    refine xo_aldZ d_R_alarm_102 h (fun x2 h => ?_)
    refine xo_if_ne d_R_alarm_103 h (fun h => ?_) (fun h => ?_)
    · exact xo_sub [0, 1, 2, 3] [(0, .ref l0), (1, .int l1), (2, .int l2), (3, .int l3)] rfl (kb_R_alarm_108 X sz ro _ _ _ _ _ h)
    · exact xo_sub [] [] rfl (kb_R_alarm_106 X sz ro _ h)
theorem kb_R_alarm_71 (X : xX) (sz : Nat) (ro : Int32 × xw) (w : xw) (l0 : Nat) (l1 : Int32) (l2 : Int32) (l3 : Int32) (h : f_R_alarm_b71 w l0 l1 l2 l3 = some ro) : k_R_alarm X [(0, .ref l0), (1, .int l1), (2, .int l2), (3, .int l3)] [] w sz 0 0 71 (some (.int ro.1), ro.2, sz) := by
  unfold f_R_alarm_b71 at h
  refine xo_iload_n 1 d_R_alarm_71 rfl rfl ?_
  refine xo_S_I0 (rest := []) [.int l1] d_R_alarm_72 tw_778 yw_R_readsB h (fun z e => c_R_readsB _ _ _ _ _ _ z e) rfl ⟨rfl, rfl⟩ rfl rfl rfl (fun q1 h => ?_)
  refine xo_if_eq d_R_alarm_75 h (fun h => ?_) (fun h => ?_)
  · exact xo_sub [0, 1, 2, 3] [(0, .ref l0), (1, .int l1), (2, .int l2), (3, .int l3)] rfl (kb_R_alarm_91 X sz ro _ _ _ _ _ h)
  · refine xo_iload_n 3 d_R_alarm_78 rfl rfl ?_
    refine xo_if_lt d_R_alarm_79 h (fun h => ?_) (fun h => ?_)
    · exact xo_sub [0, 1, 2, 3] [(0, .ref l0), (1, .int l1), (2, .int l2), (3, .int l3)] rfl (kb_R_alarm_91 X sz ro _ _ _ _ _ h)
    · refine xo_aload_n 0 d_R_alarm_82 rfl rfl ?_
      refine xo_getR 9 d_R_alarm_83 xc_8 rfl tw_652 rfl h (fun a2 h => ?_)
      refine xo_iload_n 3 d_R_alarm_86 rfl rfl ?_
      refine xo_aldZ d_R_alarm_87 h (fun x3 h => ?_)
      refine xo_if_eq d_R_alarm_88 h (fun h => ?_) (fun h => ?_)
      · exact xo_sub [] [] rfl (kb_R_alarm_106 X sz ro _ h)
      · exact xo_sub [0, 1, 2, 3] [(0, .ref l0), (1, .int l1), (2, .int l2), (3, .int l3)] rfl (kb_R_alarm_91 X sz ro _ _ _ _ _ h)
theorem kb_R_alarm_0 (X : xX) (sz : Nat) (ro : Int32 × xw) (w : xw) (l0 : Nat) (h : f_R_alarm w l0 = some ro) : k_R_alarm X [(0, .ref l0)] [] w sz 0 0 0 (some (.int ro.1), ro.2, sz) := by
  unfold f_R_alarm at h
  refine xo_aload_n 0 d_R_alarm_0 rfl rfl ?_
  refine xo_getI 17 d_R_alarm_1 xc_8 rfl tw_660 rfl h (fun x1 h => ?_)
  refine xo_aload_n 0 d_R_alarm_4 rfl rfl ?_
  refine xo_getI 1 d_R_alarm_5 xc_8 rfl tw_644 rfl h (fun x2 h => ?_)
  refine xo_icmp_lt d_R_alarm_8 h (fun h => ?_) (fun h => ?_)
  · refine xo_aload_n 0 d_R_alarm_13 rfl rfl ?_
    refine xo_getI 18 d_R_alarm_14 xc_8 rfl tw_661 rfl h (fun x3 h => ?_)
    refine xo_sipush d_R_alarm_17 xsp_300 ?_
    refine xo_icmp_le d_R_alarm_20 h (fun h => ?_) (fun h => ?_)
    · refine xo_aload_n 0 d_R_alarm_25 rfl rfl ?_
      refine xo_getR 2 d_R_alarm_26 xc_8 rfl tw_645 rfl h (fun a4 h => ?_)
      refine xo_aload_n 0 d_R_alarm_29 rfl rfl ?_
      refine xo_getI 17 d_R_alarm_30 xc_8 rfl tw_660 rfl h (fun x5 h => ?_)
      refine xo_aldI d_R_alarm_33 h (fun x6 h => ?_)
      refine xo_istore_n [(1, .int x6), (0, .ref l0)] d_R_alarm_34 rfl rfl rfl ?_
      refine xo_aload_n 1 d_R_alarm_35 rfl rfl ?_
      refine xo_getR 3 d_R_alarm_36 xc_8 rfl tw_646 rfl h (fun a7 h => ?_)
      refine xo_aload_n 1 d_R_alarm_39 rfl rfl ?_
      refine xo_getI 17 d_R_alarm_40 xc_8 rfl tw_660 rfl h (fun x8 h => ?_)
      refine xo_aldI d_R_alarm_43 h (fun x9 h => ?_)
      refine xo_istore_n [(2, .int x9), (1, .int x6), (0, .ref l0)] d_R_alarm_44 rfl rfl rfl ?_
      refine xo_aload_n 2 d_R_alarm_45 rfl rfl ?_
      refine xo_getR 4 d_R_alarm_46 xc_8 rfl tw_647 rfl h (fun a10 h => ?_)
      refine xo_aload_n 2 d_R_alarm_49 rfl rfl ?_
      refine xo_getI 17 d_R_alarm_50 xc_8 rfl tw_660 rfl h (fun x11 h => ?_)
      refine xo_aldI d_R_alarm_53 h (fun x12 h => ?_)
      refine xo_istore_n [(3, .int x12), (2, .int x9), (1, .int x6), (0, .ref l0)] d_R_alarm_54 rfl rfl rfl ?_
      refine xo_iload_n 2 d_R_alarm_55 rfl rfl ?_
      refine xo_S_I0 (rest := []) [.int x6] d_R_alarm_56 tw_775 yw_R_readsA h (fun z e => c_R_readsA _ _ _ _ _ _ z e) rfl ⟨rfl, rfl⟩ rfl rfl rfl (fun q13 h => ?_)
      refine xo_if_eq d_R_alarm_59 h (fun h => ?_) (fun h => ?_)
      · exact xo_sub [3, 2, 1, 0] [(0, .ref l0), (1, .int x6), (2, .int x9), (3, .int x12)] rfl (kb_R_alarm_71 X sz ro _ _ _ _ _ h)
      · refine xo_aload_n 3 d_R_alarm_62 rfl rfl ?_
        refine xo_getR 9 d_R_alarm_63 xc_8 rfl tw_652 rfl h (fun a14 h => ?_)
        refine xo_iload_n 1 d_R_alarm_66 rfl rfl ?_
        refine xo_aldZ d_R_alarm_67 h (fun x15 h => ?_)
        refine xo_if_eq d_R_alarm_68 h (fun h => ?_) (fun h => ?_)
        · exact xo_sub [] [] rfl (kb_R_alarm_106 X sz ro _ h)
        · exact xo_sub [3, 2, 1, 0] [(0, .ref l0), (1, .int x6), (2, .int x9), (3, .int x12)] rfl (kb_R_alarm_71 X sz ro _ _ _ _ _ h)
    · refine xo_iconst d_R_alarm_23 xic_2 ?_
      exact xo_retIH d_R_alarm_24 rfl rfl rfl h
  · refine xo_iconst d_R_alarm_11 xic_1 ?_
    exact xo_retIH d_R_alarm_12 rfl rfl rfl h
theorem c_R_alarm (l : Launch) (D : va_G) (cT : Nat → ClassId) (sz : Nat) (w : xw) (l0 : Nat) (ro : Int32 × xw) (h : f_R_alarm w l0 = some ro) : xM l y_R_alarm b_R_alarm 5 t_R_alarm R_R_alarm D cT [.ref l0] w sz (some (.int ro.1), ro.2, sz) :=
  xm_of bl_R_alarm rfl rfl (kb_R_alarm_0 (l, D, cT, [.ref l0], w, sz) sz ro w l0 h)
theorem kb_R_alike_274 (X : xX) (sz : Nat) (ro : Int32 × xw) (w : xw) (l0 : Nat) (s0 : Int32) (h : f_R_alike_b274 w l0 s0 = some ro) : k_R_alike X [(0, .ref l0)] [.int s0] w sz 0 0 274 (some (.int ro.1), ro.2, sz) := by
  unfold f_R_alike_b274 at h
  refine xo_istore_n [(1, .int s0), (0, .ref l0)] d_R_alike_274 rfl rfl rfl ?_
  refine xo_aload_n 1 d_R_alike_275 rfl rfl ?_
  refine xo_sipush d_R_alike_276 xsp_258 ?_
  refine xo_sipush d_R_alike_279 xsp_259 ?_
  refine xo_V_VH (rest := []) [.int (258 : Int32), .int (259 : Int32)] d_R_alike_282 tw_781 yw_R_copy h xc_8 (fun z e => c_R_copy _ _ _ _ _ _ _ _ z e) rfl ⟨rfl, rfl⟩ rfl rfl rfl (fun q1 h => ?_)
  refine xo_iload_n 0 d_R_alike_285 rfl rfl ?_
  exact xo_retZH d_R_alike_286 rfl rfl rfl h
theorem kb_R_alike_273 (X : xX) (sz : Nat) (ro : Int32 × xw) (w : xw) (l0 : Nat) (h : f_R_alike_b273 w l0 = some ro) : k_R_alike X [(0, .ref l0)] [] w sz 0 0 273 (some (.int ro.1), ro.2, sz) := by
  unfold f_R_alike_b273 at h
  refine xo_iconst d_R_alike_273 xic_0 ?_
  exact xo_sub [0] [(0, .ref l0)] rfl (kb_R_alike_274 X sz ro _ _ _ h)
theorem kb_R_alike_254 (X : xX) (sz : Nat) (ro : Int32 × xw) (w : xw) (l0 : Nat) (l1 : Int32) (s0 : Nat) (s1 : Int32) (s2 : Int32) (h : f_R_alike_b254 w l0 l1 s0 s1 s2 = some ro) : k_R_alike X [(0, .ref l0), (1, .int l1)] [.int s2, .int s1, .ref s0] w sz 0 0 254 (some (.int ro.1), ro.2, sz) := by
  unfold f_R_alike_b254 at h
  refine xo_astI d_R_alike_254 h (fun w1 h => ?_)
  refine xo_iload_n 1 d_R_alike_255 rfl rfl ?_
  refine xo_if_eq d_R_alike_256 h (fun h => ?_) (fun h => ?_)
  · exact xo_sub [0] [(0, .ref l0)] rfl (kb_R_alike_273 X sz ro _ _ h)
  · refine xo_aload_n 0 d_R_alike_259 rfl rfl ?_
    refine xo_sipush d_R_alike_260 xsp_258 ?_
    refine xo_V_IH (rest := []) [.int (258 : Int32)] d_R_alike_263 tw_760 yw_R_tighten h xc_8 (fun z e => c_R_tighten _ _ _ _ _ _ _ z e) rfl ⟨rfl, rfl⟩ rfl rfl rfl (fun q2 h => ?_)
    refine xo_if_eq d_R_alike_266 h (fun h => ?_) (fun h => ?_)
    · exact xo_sub [0] [(0, .ref l0)] rfl (kb_R_alike_273 X sz ro _ _ h)
    · refine xo_iconst d_R_alike_269 xic_1 ?_
      refine xo_goto d_R_alike_270 ?_
      exact xo_sub [0] [(0, .ref l0)] rfl (kb_R_alike_274 X sz ro _ _ _ h)
theorem kb_R_alike_43 (X : xX) (sz : Nat) (ro : Int32 × xw) (w : xw) (l0 : Nat) (s0 : Int32) (h : f_R_alike_b43 w l0 s0 = some ro) : k_R_alike X [(0, .ref l0)] [.int s0] w sz 0 0 43 (some (.int ro.1), ro.2, sz) := by
  unfold f_R_alike_b43 at h
  refine xo_istore_n [(1, .int s0), (0, .ref l0)] d_R_alike_43 rfl rfl rfl ?_
  refine xo_aload_n 1 d_R_alike_44 rfl rfl ?_
  refine xo_sipush d_R_alike_45 xsp_258 ?_
  refine xo_V_VH (rest := []) [.int (258 : Int32)] d_R_alike_48 tw_752 yw_R_nothing h xc_8 (fun z e => c_R_nothing _ _ _ _ _ _ _ z e) rfl ⟨rfl, rfl⟩ rfl rfl rfl (fun q1 h => ?_)
  refine xo_aload_n 1 d_R_alike_51 rfl rfl ?_
  refine xo_getR 10 d_R_alike_52 xc_8 rfl tw_653 rfl h (fun a2 h => ?_)
  refine xo_sipush d_R_alike_55 xsp_258 ?_
  refine xo_aload_n 1 d_R_alike_58 rfl rfl ?_
  refine xo_getR 10 d_R_alike_59 xc_8 rfl tw_653 rfl h (fun a3 h => ?_)
  refine xo_sipush d_R_alike_62 xsp_256 ?_
  refine xo_aldI d_R_alike_65 h (fun x4 h => ?_)
  refine xo_aload_n 1 d_R_alike_66 rfl rfl ?_
  refine xo_getR 10 d_R_alike_67 xc_8 rfl tw_653 rfl h (fun a5 h => ?_)
  refine xo_sipush d_R_alike_70 xsp_257 ?_
  refine xo_aldI d_R_alike_73 h (fun x6 h => ?_)
  refine xo_ior d_R_alike_74 ?_
  refine xo_astI d_R_alike_75 h (fun w7 h => ?_)
  refine xo_aload_n 1 d_R_alike_76 rfl rfl ?_
  refine xo_getR 11 d_R_alike_77 xc_8 rfl tw_654 rfl h (fun a8 h => ?_)
  refine xo_sipush d_R_alike_80 xsp_258 ?_
  refine xo_aload_n 1 d_R_alike_83 rfl rfl ?_
  refine xo_getR 11 d_R_alike_84 xc_8 rfl tw_654 rfl h (fun a9 h => ?_)
  refine xo_sipush d_R_alike_87 xsp_256 ?_
  refine xo_aldI d_R_alike_90 h (fun x10 h => ?_)
  refine xo_aload_n 1 d_R_alike_91 rfl rfl ?_
  refine xo_getR 11 d_R_alike_92 xc_8 rfl tw_654 rfl h (fun a11 h => ?_)
  refine xo_sipush d_R_alike_95 xsp_257 ?_
  refine xo_aldI d_R_alike_98 h (fun x12 h => ?_)
  refine xo_ior d_R_alike_99 ?_
  refine xo_astI d_R_alike_100 h (fun w13 h => ?_)
  refine xo_aload_n 1 d_R_alike_101 rfl rfl ?_
  refine xo_getR 12 d_R_alike_102 xc_8 rfl tw_655 rfl h (fun a14 h => ?_)
  refine xo_sipush d_R_alike_105 xsp_258 ?_
  refine xo_aload_n 1 d_R_alike_108 rfl rfl ?_
  refine xo_getR 12 d_R_alike_109 xc_8 rfl tw_655 rfl h (fun a15 h => ?_)
  refine xo_sipush d_R_alike_112 xsp_256 ?_
  refine xo_aldL d_R_alike_115 h (fun x16 h => ?_)
  refine xo_aload_n 1 d_R_alike_116 rfl rfl ?_
  refine xo_getR 12 d_R_alike_117 xc_8 rfl tw_655 rfl h (fun a17 h => ?_)
  refine xo_sipush d_R_alike_120 xsp_257 ?_
  refine xo_aldL d_R_alike_123 h (fun x18 h => ?_)
  refine xo_S_L0 (rest := [.int (258 : Int32), .ref a14]) [.long x16, .long x18] d_R_alike_124 tw_764 yw_R_greater h (fun z e => c_R_greater _ _ _ _ _ _ _ z e) rfl ⟨rfl, rfl⟩ rfl rfl rfl (fun q19 h => ?_)
  refine xo_astL d_R_alike_127 h (fun w20 h => ?_)
  refine xo_aload_n 1 d_R_alike_128 rfl rfl ?_
  refine xo_getR 13 d_R_alike_129 xc_8 rfl tw_656 rfl h (fun a21 h => ?_)
  refine xo_sipush d_R_alike_132 xsp_258 ?_
  refine xo_aload_n 1 d_R_alike_135 rfl rfl ?_
  refine xo_getR 13 d_R_alike_136 xc_8 rfl tw_656 rfl h (fun a22 h => ?_)
  refine xo_sipush d_R_alike_139 xsp_256 ?_
  refine xo_aldL d_R_alike_142 h (fun x23 h => ?_)
  refine xo_aload_n 1 d_R_alike_143 rfl rfl ?_
  refine xo_getR 13 d_R_alike_144 xc_8 rfl tw_656 rfl h (fun a24 h => ?_)
  refine xo_sipush d_R_alike_147 xsp_257 ?_
  refine xo_aldL d_R_alike_150 h (fun x25 h => ?_)
  refine xo_S_L0 (rest := [.int (258 : Int32), .ref a21]) [.long x23, .long x25] d_R_alike_151 tw_767 yw_R_lesser h (fun z e => c_R_lesser _ _ _ _ _ _ _ z e) rfl ⟨rfl, rfl⟩ rfl rfl rfl (fun q26 h => ?_)
  refine xo_astL d_R_alike_154 h (fun w27 h => ?_)
  refine xo_aload_n 1 d_R_alike_155 rfl rfl ?_
  refine xo_getR 14 d_R_alike_156 xc_8 rfl tw_657 rfl h (fun a28 h => ?_)
  refine xo_sipush d_R_alike_159 xsp_258 ?_
  refine xo_aload_n 1 d_R_alike_162 rfl rfl ?_
  refine xo_getR 14 d_R_alike_163 xc_8 rfl tw_657 rfl h (fun a29 h => ?_)
  refine xo_sipush d_R_alike_166 xsp_256 ?_
  refine xo_aldL d_R_alike_169 h (fun x30 h => ?_)
  refine xo_aload_n 1 d_R_alike_170 rfl rfl ?_
  refine xo_getR 14 d_R_alike_171 xc_8 rfl tw_657 rfl h (fun a31 h => ?_)
  refine xo_sipush d_R_alike_174 xsp_257 ?_
  refine xo_aldL d_R_alike_177 h (fun x32 h => ?_)
  refine xo_S_L0 (rest := [.int (258 : Int32), .ref a28]) [.long x30, .long x32] d_R_alike_178 tw_764 yw_R_greater h (fun z e => c_R_greater _ _ _ _ _ _ _ z e) rfl ⟨rfl, rfl⟩ rfl rfl rfl (fun q33 h => ?_)
  refine xo_astL d_R_alike_181 h (fun w34 h => ?_)
  refine xo_aload_n 1 d_R_alike_182 rfl rfl ?_
  refine xo_getR 15 d_R_alike_183 xc_8 rfl tw_658 rfl h (fun a35 h => ?_)
  refine xo_sipush d_R_alike_186 xsp_258 ?_
  refine xo_aload_n 1 d_R_alike_189 rfl rfl ?_
  refine xo_getR 15 d_R_alike_190 xc_8 rfl tw_658 rfl h (fun a36 h => ?_)
  refine xo_sipush d_R_alike_193 xsp_256 ?_
  refine xo_aldL d_R_alike_196 h (fun x37 h => ?_)
  refine xo_aload_n 1 d_R_alike_197 rfl rfl ?_
  refine xo_getR 15 d_R_alike_198 xc_8 rfl tw_658 rfl h (fun a38 h => ?_)
  refine xo_sipush d_R_alike_201 xsp_257 ?_
  refine xo_aldL d_R_alike_204 h (fun x39 h => ?_)
  refine xo_S_L0 (rest := [.int (258 : Int32), .ref a35]) [.long x37, .long x39] d_R_alike_205 tw_767 yw_R_lesser h (fun z e => c_R_lesser _ _ _ _ _ _ _ z e) rfl ⟨rfl, rfl⟩ rfl rfl rfl (fun q40 h => ?_)
  refine xo_astL d_R_alike_208 h (fun w41 h => ?_)
  refine xo_aload_n 1 d_R_alike_209 rfl rfl ?_
  refine xo_getR 16 d_R_alike_210 xc_8 rfl tw_659 rfl h (fun a42 h => ?_)
  refine xo_sipush d_R_alike_213 xsp_258 ?_
  refine xo_aload_n 1 d_R_alike_216 rfl rfl ?_
  refine xo_getR 16 d_R_alike_217 xc_8 rfl tw_659 rfl h (fun a43 h => ?_)
  refine xo_sipush d_R_alike_220 xsp_256 ?_
  refine xo_aldI d_R_alike_223 h (fun x44 h => ?_)
  refine xo_aload_n 1 d_R_alike_224 rfl rfl ?_
  refine xo_getR 16 d_R_alike_225 xc_8 rfl tw_659 rfl h (fun a45 h => ?_)
  refine xo_sipush d_R_alike_228 xsp_257 ?_
  refine xo_aldI d_R_alike_231 h (fun x46 h => ?_)
  refine xo_icmp_le d_R_alike_232 h (fun h => ?_) (fun h => ?_)
  · refine xo_aload_n 1 d_R_alike_246 rfl rfl ?_
    refine xo_getR 16 d_R_alike_247 xc_8 rfl tw_659 rfl h (fun a47 h => ?_)
    refine xo_sipush d_R_alike_250 xsp_257 ?_
    refine xo_aldI d_R_alike_253 h (fun x48 h => ?_)
    exact xo_sub [1, 0] [(0, .ref l0), (1, .int s0)] rfl (kb_R_alike_254 X sz ro _ _ _ _ _ _ h)
  · refine xo_aload_n 1 d_R_alike_235 rfl rfl ?_
    refine xo_getR 16 d_R_alike_236 xc_8 rfl tw_659 rfl h (fun a49 h => ?_)
    refine xo_sipush d_R_alike_239 xsp_256 ?_
    refine xo_aldI d_R_alike_242 h (fun x50 h => ?_)
    refine xo_goto d_R_alike_243 ?_
    exact xo_sub [1, 0] [(0, .ref l0), (1, .int s0)] rfl (kb_R_alike_254 X sz ro _ _ _ _ _ _ h)
theorem kb_R_alike_0 (X : xX) (sz : Nat) (ro : Int32 × xw) (w : xw) (l0 : Nat) (h : f_R_alike w l0 = some ro) : k_R_alike X [(0, .ref l0)] [] w sz 0 0 0 (some (.int ro.1), ro.2, sz) := by
  unfold f_R_alike at h
  refine xo_aload_n 0 d_R_alike_0 rfl rfl ?_
  refine xo_getR 10 d_R_alike_1 xc_8 rfl tw_653 rfl h (fun a1 h => ?_)
  refine xo_sipush d_R_alike_4 xsp_256 ?_
  refine xo_aldI d_R_alike_7 h (fun x2 h => ?_)
  refine xo_aload_n 0 d_R_alike_8 rfl rfl ?_
  refine xo_getR 10 d_R_alike_9 xc_8 rfl tw_653 rfl h (fun a3 h => ?_)
  refine xo_sipush d_R_alike_12 xsp_257 ?_
  refine xo_aldI d_R_alike_15 h (fun x4 h => ?_)
  refine xo_iand d_R_alike_16 ?_
  refine xo_aload_n 0 d_R_alike_17 rfl rfl ?_
  refine xo_getR 11 d_R_alike_18 xc_8 rfl tw_654 rfl h (fun a5 h => ?_)
  refine xo_sipush d_R_alike_21 xsp_256 ?_
  refine xo_aldI d_R_alike_24 h (fun x6 h => ?_)
  refine xo_aload_n 0 d_R_alike_25 rfl rfl ?_
  refine xo_getR 11 d_R_alike_26 xc_8 rfl tw_654 rfl h (fun a7 h => ?_)
  refine xo_sipush d_R_alike_29 xsp_257 ?_
  refine xo_aldI d_R_alike_32 h (fun x8 h => ?_)
  refine xo_ixor d_R_alike_33 ?_
  refine xo_iand d_R_alike_34 ?_
  refine xo_if_ne d_R_alike_35 h (fun h => ?_) (fun h => ?_)
  · refine xo_iconst d_R_alike_42 xic_0 ?_
    exact xo_sub [0] [(0, .ref l0)] rfl (kb_R_alike_43 X sz ro _ _ _ h)
  · refine xo_iconst d_R_alike_38 xic_1 ?_
    refine xo_goto d_R_alike_39 ?_
    exact xo_sub [0] [(0, .ref l0)] rfl (kb_R_alike_43 X sz ro _ _ _ h)
theorem c_R_alike (l : Launch) (D : va_G) (cT : Nat → ClassId) (sz : Nat) (w : xw) (l0 : Nat) (ro : Int32 × xw) (h : f_R_alike w l0 = some ro) : xM l y_R_alike b_R_alike 2 t_R_alike R_R_alike D cT [.ref l0] w sz (some (.int ro.1), ro.2, sz) :=
  xm_of bl_R_alike rfl rfl (kb_R_alike_0 (l, D, cT, [.ref l0], w, sz) sz ro w l0 h)
theorem kb_R_isExact_21 (X : xX) (sz : Nat) (ro : Int32 × xw) (w : xw) (s0 : Int32) (h : f_R_isExact_b21 w s0 = some ro) : k_R_isExact X [] [.int s0] w sz 0 0 21 (some (.int ro.1), ro.2, sz) := by
  unfold f_R_isExact_b21 at h
  exact xo_retZH d_R_isExact_21 rfl rfl rfl h
theorem kb_R_isExact_0 (X : xX) (sz : Nat) (ro : Int32 × xw) (w : xw) (l0 : Nat) (l1 : Int32) (h : f_R_isExact w l0 l1 = some ro) : k_R_isExact X [(0, .ref l0), (1, .int l1)] [] w sz 0 0 0 (some (.int ro.1), ro.2, sz) := by
  unfold f_R_isExact at h
  refine xo_aload_n 0 d_R_isExact_0 rfl rfl ?_
  refine xo_getR 12 d_R_isExact_1 xc_8 rfl tw_655 rfl h (fun a1 h => ?_)
  refine xo_iload_n 1 d_R_isExact_4 rfl rfl ?_
  refine xo_aldL d_R_isExact_5 h (fun x2 h => ?_)
  refine xo_aload_n 0 d_R_isExact_6 rfl rfl ?_
  refine xo_getR 13 d_R_isExact_7 xc_8 rfl tw_656 rfl h (fun a3 h => ?_)
  refine xo_iload_n 1 d_R_isExact_10 rfl rfl ?_
  refine xo_aldL d_R_isExact_11 h (fun x4 h => ?_)
  refine xo_lcne d_R_isExact_12 d_R_isExact_13 h (fun h => ?_) (fun h => ?_)
  · refine xo_iconst d_R_isExact_20 xic_0 ?_
    exact xo_sub [] [] rfl (kb_R_isExact_21 X sz ro _ _ h)
  · refine xo_iconst d_R_isExact_16 xic_1 ?_
    refine xo_goto d_R_isExact_17 ?_
    exact xo_sub [] [] rfl (kb_R_isExact_21 X sz ro _ _ h)
theorem c_R_isExact (l : Launch) (D : va_G) (cT : Nat → ClassId) (sz : Nat) (w : xw) (l0 : Nat) (l1 : Int32) (ro : Int32 × xw) (h : f_R_isExact w l0 l1 = some ro) : xM l y_R_isExact b_R_isExact 2 t_R_isExact R_R_isExact D cT [.ref l0, .int l1] w sz (some (.int ro.1), ro.2, sz) :=
  xm_of bl_R_isExact rfl rfl (kb_R_isExact_0 (l, D, cT, [.ref l0, .int l1], w, sz) sz ro w l0 l1 h)
theorem kb_R_less_146 (X : xX) (sz : Nat) (ro : Int32 × xw) (w : xw) (s0 : Int32) (h : f_R_less_b146 w s0 = some ro) : k_R_less X [] [.int s0] w sz 0 0 146 (some (.int ro.1), ro.2, sz) := by
  unfold f_R_less_b146 at h
  exact xo_retZH d_R_less_146 rfl rfl rfl h
theorem kb_R_less_145 (X : xX) (sz : Nat) (ro : Int32 × xw) (w : xw) (h : f_R_less_b145 w = some ro) : k_R_less X [] [] w sz 0 0 145 (some (.int ro.1), ro.2, sz) := by
  unfold f_R_less_b145 at h
  refine xo_iconst d_R_less_145 xic_0 ?_
  exact xo_sub [] [] rfl (kb_R_less_146 X sz ro _ _ h)
theorem kb_R_less_119 (X : xX) (sz : Nat) (ro : Int32 × xw) (w : xw) (l0 : Nat) (h : f_R_less_b119 w l0 = some ro) : k_R_less X [(0, .ref l0)] [] w sz 0 0 119 (some (.int ro.1), ro.2, sz) := by
  unfold f_R_less_b119 at h
  refine xo_aload_n 0 d_R_less_119 rfl rfl ?_
  refine xo_sipush d_R_less_120 xsp_258 ?_
  refine xo_V_IH (rest := []) [.int (258 : Int32)] d_R_less_123 tw_760 yw_R_tighten h xc_8 (fun z e => c_R_tighten _ _ _ _ _ _ _ z e) rfl ⟨rfl, rfl⟩ rfl rfl rfl (fun q1 h => ?_)
  refine xo_istore_n [(2, .int q1.1), (0, .ref l0)] d_R_less_126 rfl rfl rfl ?_
  refine xo_aload_n 1 d_R_less_127 rfl rfl ?_
  refine xo_sipush d_R_less_128 xsp_259 ?_
  refine xo_V_IH (rest := []) [.int (259 : Int32)] d_R_less_131 tw_760 yw_R_tighten h xc_8 (fun z e => c_R_tighten _ _ _ _ _ _ _ z e) rfl ⟨rfl, rfl⟩ rfl rfl rfl (fun q2 h => ?_)
  refine xo_if_eq d_R_less_134 h (fun h => ?_) (fun h => ?_)
  · exact xo_sub [] [] rfl (kb_R_less_145 X sz ro _ h)
  · refine xo_iload_n 0 d_R_less_137 rfl rfl ?_
    refine xo_if_eq d_R_less_138 h (fun h => ?_) (fun h => ?_)
    · exact xo_sub [] [] rfl (kb_R_less_145 X sz ro _ h)
    · refine xo_iconst d_R_less_141 xic_1 ?_
      refine xo_goto d_R_less_142 ?_
      exact xo_sub [] [] rfl (kb_R_less_146 X sz ro _ _ h)
theorem kb_R_less_0 (X : xX) (sz : Nat) (ro : Int32 × xw) (w : xw) (l0 : Nat) (l1 : Int32) (h : f_R_less w l0 l1 = some ro) : k_R_less X [(0, .ref l0), (1, .int l1)] [] w sz 0 0 0 (some (.int ro.1), ro.2, sz) := by
  unfold f_R_less at h
  refine xo_iload_n 1 d_R_less_0 rfl rfl ?_
  refine xo_if_eq d_R_less_1 h (fun h => ?_) (fun h => ?_)
  · refine xo_aload_n 0 d_R_less_65 rfl rfl ?_
    refine xo_getR 12 d_R_less_66 xc_8 rfl tw_655 rfl h (fun a1 h => ?_)
    refine xo_sipush d_R_less_69 xsp_258 ?_
    refine xo_aload_n 0 d_R_less_72 rfl rfl ?_
    refine xo_getR 12 d_R_less_73 xc_8 rfl tw_655 rfl h (fun a2 h => ?_)
    refine xo_sipush d_R_less_76 xsp_256 ?_
    refine xo_aldL d_R_less_79 h (fun x3 h => ?_)
    refine xo_aload_n 0 d_R_less_80 rfl rfl ?_
    refine xo_getR 12 d_R_less_81 xc_8 rfl tw_655 rfl h (fun a4 h => ?_)
    refine xo_sipush d_R_less_84 xsp_257 ?_
    refine xo_aldL d_R_less_87 h (fun x5 h => ?_)
    refine xo_S_L0 (rest := [.int (258 : Int32), .ref a1]) [.long x3, .long x5] d_R_less_88 tw_764 yw_R_greater h (fun z e => c_R_greater _ _ _ _ _ _ _ z e) rfl ⟨rfl, rfl⟩ rfl rfl rfl (fun q6 h => ?_)
    refine xo_astL d_R_less_91 h (fun w7 h => ?_)
    refine xo_aload_n 0 d_R_less_92 rfl rfl ?_
    refine xo_getR 13 d_R_less_93 xc_8 rfl tw_656 rfl h (fun a8 h => ?_)
    refine xo_sipush d_R_less_96 xsp_259 ?_
    refine xo_aload_n 0 d_R_less_99 rfl rfl ?_
    refine xo_getR 13 d_R_less_100 xc_8 rfl tw_656 rfl h (fun a9 h => ?_)
    refine xo_sipush d_R_less_103 xsp_257 ?_
    refine xo_aldL d_R_less_106 h (fun x10 h => ?_)
    refine xo_aload_n 0 d_R_less_107 rfl rfl ?_
    refine xo_getR 13 d_R_less_108 xc_8 rfl tw_656 rfl h (fun a11 h => ?_)
    refine xo_sipush d_R_less_111 xsp_256 ?_
    refine xo_aldL d_R_less_114 h (fun x12 h => ?_)
    refine xo_S_L0 (rest := [.int (259 : Int32), .ref a8]) [.long x10, .long x12] d_R_less_115 tw_767 yw_R_lesser h (fun z e => c_R_lesser _ _ _ _ _ _ _ z e) rfl ⟨rfl, rfl⟩ rfl rfl rfl (fun q13 h => ?_)
    refine xo_astL d_R_less_118 h (fun w14 h => ?_)
    exact xo_sub [0] [(0, .ref l0)] rfl (kb_R_less_119 X sz ro _ _ h)
  · refine xo_aload_n 0 d_R_less_4 rfl rfl ?_
    refine xo_getR 13 d_R_less_5 xc_8 rfl tw_656 rfl h (fun a15 h => ?_)
    refine xo_sipush d_R_less_8 xsp_258 ?_
    refine xo_aload_n 0 d_R_less_11 rfl rfl ?_
    refine xo_getR 13 d_R_less_12 xc_8 rfl tw_656 rfl h (fun a16 h => ?_)
    refine xo_sipush d_R_less_15 xsp_256 ?_
    refine xo_aldL d_R_less_18 h (fun x17 h => ?_)
    refine xo_aload_n 0 d_R_less_19 rfl rfl ?_
    refine xo_getR 13 d_R_less_20 xc_8 rfl tw_656 rfl h (fun a18 h => ?_)
    refine xo_sipush d_R_less_23 xsp_257 ?_
    refine xo_aldL d_R_less_26 h (fun x19 h => ?_)
    refine xo_lconst d_R_less_27 xlc_1 ?_
    refine xo_lsub d_R_less_28 ?_
    refine xo_S_L0 (rest := [.int (258 : Int32), .ref a15]) [.long x17, .long (x19 - (1 : Int64))] d_R_less_29 tw_767 yw_R_lesser h (fun z e => c_R_lesser _ _ _ _ _ _ _ z e) rfl ⟨rfl, rfl⟩ rfl rfl rfl (fun q20 h => ?_)
    refine xo_astL d_R_less_32 h (fun w21 h => ?_)
    refine xo_aload_n 0 d_R_less_33 rfl rfl ?_
    refine xo_getR 12 d_R_less_34 xc_8 rfl tw_655 rfl h (fun a22 h => ?_)
    refine xo_sipush d_R_less_37 xsp_259 ?_
    refine xo_aload_n 0 d_R_less_40 rfl rfl ?_
    refine xo_getR 12 d_R_less_41 xc_8 rfl tw_655 rfl h (fun a23 h => ?_)
    refine xo_sipush d_R_less_44 xsp_257 ?_
    refine xo_aldL d_R_less_47 h (fun x24 h => ?_)
    refine xo_aload_n 0 d_R_less_48 rfl rfl ?_
    refine xo_getR 12 d_R_less_49 xc_8 rfl tw_655 rfl h (fun a25 h => ?_)
    refine xo_sipush d_R_less_52 xsp_256 ?_
    refine xo_aldL d_R_less_55 h (fun x26 h => ?_)
    refine xo_lconst d_R_less_56 xlc_1 ?_
    refine xo_ladd d_R_less_57 ?_
    refine xo_S_L0 (rest := [.int (259 : Int32), .ref a22]) [.long x24, .long (x26 + (1 : Int64))] d_R_less_58 tw_764 yw_R_greater h (fun z e => c_R_greater _ _ _ _ _ _ _ z e) rfl ⟨rfl, rfl⟩ rfl rfl rfl (fun q27 h => ?_)
    refine xo_astL d_R_less_61 h (fun w28 h => ?_)
    refine xo_goto d_R_less_62 ?_
    exact xo_sub [0] [(0, .ref l0)] rfl (kb_R_less_119 X sz ro _ _ h)
theorem c_R_less (l : Launch) (D : va_G) (cT : Nat → ClassId) (sz : Nat) (w : xw) (l0 : Nat) (l1 : Int32) (ro : Int32 × xw) (h : f_R_less w l0 l1 = some ro) : xM l y_R_less b_R_less 3 t_R_less R_R_less D cT [.ref l0, .int l1] w sz (some (.int ro.1), ro.2, sz) :=
  xm_of bl_R_less rfl rfl (kb_R_less_0 (l, D, cT, [.ref l0, .int l1], w, sz) sz ro w l0 l1 h)
theorem kb_R_lessSigned_146 (X : xX) (sz : Nat) (ro : Int32 × xw) (w : xw) (s0 : Int32) (h : f_R_lessSigned_b146 w s0 = some ro) : k_R_lessSigned X [] [.int s0] w sz 0 0 146 (some (.int ro.1), ro.2, sz) := by
  unfold f_R_lessSigned_b146 at h
  exact xo_retZH d_R_lessSigned_146 rfl rfl rfl h
theorem kb_R_lessSigned_145 (X : xX) (sz : Nat) (ro : Int32 × xw) (w : xw) (h : f_R_lessSigned_b145 w = some ro) : k_R_lessSigned X [] [] w sz 0 0 145 (some (.int ro.1), ro.2, sz) := by
  unfold f_R_lessSigned_b145 at h
  refine xo_iconst d_R_lessSigned_145 xic_0 ?_
  exact xo_sub [] [] rfl (kb_R_lessSigned_146 X sz ro _ _ h)
theorem kb_R_lessSigned_119 (X : xX) (sz : Nat) (ro : Int32 × xw) (w : xw) (l0 : Nat) (h : f_R_lessSigned_b119 w l0 = some ro) : k_R_lessSigned X [(0, .ref l0)] [] w sz 0 0 119 (some (.int ro.1), ro.2, sz) := by
  unfold f_R_lessSigned_b119 at h
  refine xo_aload_n 0 d_R_lessSigned_119 rfl rfl ?_
  refine xo_sipush d_R_lessSigned_120 xsp_258 ?_
  refine xo_V_IH (rest := []) [.int (258 : Int32)] d_R_lessSigned_123 tw_760 yw_R_tighten h xc_8 (fun z e => c_R_tighten _ _ _ _ _ _ _ z e) rfl ⟨rfl, rfl⟩ rfl rfl rfl (fun q1 h => ?_)
  refine xo_istore_n [(2, .int q1.1), (0, .ref l0)] d_R_lessSigned_126 rfl rfl rfl ?_
  refine xo_aload_n 1 d_R_lessSigned_127 rfl rfl ?_
  refine xo_sipush d_R_lessSigned_128 xsp_259 ?_
  refine xo_V_IH (rest := []) [.int (259 : Int32)] d_R_lessSigned_131 tw_760 yw_R_tighten h xc_8 (fun z e => c_R_tighten _ _ _ _ _ _ _ z e) rfl ⟨rfl, rfl⟩ rfl rfl rfl (fun q2 h => ?_)
  refine xo_if_eq d_R_lessSigned_134 h (fun h => ?_) (fun h => ?_)
  · exact xo_sub [] [] rfl (kb_R_lessSigned_145 X sz ro _ h)
  · refine xo_iload_n 0 d_R_lessSigned_137 rfl rfl ?_
    refine xo_if_eq d_R_lessSigned_138 h (fun h => ?_) (fun h => ?_)
    · exact xo_sub [] [] rfl (kb_R_lessSigned_145 X sz ro _ h)
    · refine xo_iconst d_R_lessSigned_141 xic_1 ?_
      refine xo_goto d_R_lessSigned_142 ?_
      exact xo_sub [] [] rfl (kb_R_lessSigned_146 X sz ro _ _ h)
theorem kb_R_lessSigned_0 (X : xX) (sz : Nat) (ro : Int32 × xw) (w : xw) (l0 : Nat) (l1 : Int32) (h : f_R_lessSigned w l0 l1 = some ro) : k_R_lessSigned X [(0, .ref l0), (1, .int l1)] [] w sz 0 0 0 (some (.int ro.1), ro.2, sz) := by
  unfold f_R_lessSigned at h
  refine xo_iload_n 1 d_R_lessSigned_0 rfl rfl ?_
  refine xo_if_eq d_R_lessSigned_1 h (fun h => ?_) (fun h => ?_)
  · refine xo_aload_n 0 d_R_lessSigned_65 rfl rfl ?_
    refine xo_getR 14 d_R_lessSigned_66 xc_8 rfl tw_657 rfl h (fun a1 h => ?_)
    refine xo_sipush d_R_lessSigned_69 xsp_258 ?_
    refine xo_aload_n 0 d_R_lessSigned_72 rfl rfl ?_
    refine xo_getR 14 d_R_lessSigned_73 xc_8 rfl tw_657 rfl h (fun a2 h => ?_)
    refine xo_sipush d_R_lessSigned_76 xsp_256 ?_
    refine xo_aldL d_R_lessSigned_79 h (fun x3 h => ?_)
    refine xo_aload_n 0 d_R_lessSigned_80 rfl rfl ?_
    refine xo_getR 14 d_R_lessSigned_81 xc_8 rfl tw_657 rfl h (fun a4 h => ?_)
    refine xo_sipush d_R_lessSigned_84 xsp_257 ?_
    refine xo_aldL d_R_lessSigned_87 h (fun x5 h => ?_)
    refine xo_S_L0 (rest := [.int (258 : Int32), .ref a1]) [.long x3, .long x5] d_R_lessSigned_88 tw_764 yw_R_greater h (fun z e => c_R_greater _ _ _ _ _ _ _ z e) rfl ⟨rfl, rfl⟩ rfl rfl rfl (fun q6 h => ?_)
    refine xo_astL d_R_lessSigned_91 h (fun w7 h => ?_)
    refine xo_aload_n 0 d_R_lessSigned_92 rfl rfl ?_
    refine xo_getR 15 d_R_lessSigned_93 xc_8 rfl tw_658 rfl h (fun a8 h => ?_)
    refine xo_sipush d_R_lessSigned_96 xsp_259 ?_
    refine xo_aload_n 0 d_R_lessSigned_99 rfl rfl ?_
    refine xo_getR 15 d_R_lessSigned_100 xc_8 rfl tw_658 rfl h (fun a9 h => ?_)
    refine xo_sipush d_R_lessSigned_103 xsp_257 ?_
    refine xo_aldL d_R_lessSigned_106 h (fun x10 h => ?_)
    refine xo_aload_n 0 d_R_lessSigned_107 rfl rfl ?_
    refine xo_getR 15 d_R_lessSigned_108 xc_8 rfl tw_658 rfl h (fun a11 h => ?_)
    refine xo_sipush d_R_lessSigned_111 xsp_256 ?_
    refine xo_aldL d_R_lessSigned_114 h (fun x12 h => ?_)
    refine xo_S_L0 (rest := [.int (259 : Int32), .ref a8]) [.long x10, .long x12] d_R_lessSigned_115 tw_767 yw_R_lesser h (fun z e => c_R_lesser _ _ _ _ _ _ _ z e) rfl ⟨rfl, rfl⟩ rfl rfl rfl (fun q13 h => ?_)
    refine xo_astL d_R_lessSigned_118 h (fun w14 h => ?_)
    exact xo_sub [0] [(0, .ref l0)] rfl (kb_R_lessSigned_119 X sz ro _ _ h)
  · refine xo_aload_n 0 d_R_lessSigned_4 rfl rfl ?_
    refine xo_getR 15 d_R_lessSigned_5 xc_8 rfl tw_658 rfl h (fun a15 h => ?_)
    refine xo_sipush d_R_lessSigned_8 xsp_258 ?_
    refine xo_aload_n 0 d_R_lessSigned_11 rfl rfl ?_
    refine xo_getR 15 d_R_lessSigned_12 xc_8 rfl tw_658 rfl h (fun a16 h => ?_)
    refine xo_sipush d_R_lessSigned_15 xsp_256 ?_
    refine xo_aldL d_R_lessSigned_18 h (fun x17 h => ?_)
    refine xo_aload_n 0 d_R_lessSigned_19 rfl rfl ?_
    refine xo_getR 15 d_R_lessSigned_20 xc_8 rfl tw_658 rfl h (fun a18 h => ?_)
    refine xo_sipush d_R_lessSigned_23 xsp_257 ?_
    refine xo_aldL d_R_lessSigned_26 h (fun x19 h => ?_)
    refine xo_lconst d_R_lessSigned_27 xlc_1 ?_
    refine xo_lsub d_R_lessSigned_28 ?_
    refine xo_S_L0 (rest := [.int (258 : Int32), .ref a15]) [.long x17, .long (x19 - (1 : Int64))] d_R_lessSigned_29 tw_767 yw_R_lesser h (fun z e => c_R_lesser _ _ _ _ _ _ _ z e) rfl ⟨rfl, rfl⟩ rfl rfl rfl (fun q20 h => ?_)
    refine xo_astL d_R_lessSigned_32 h (fun w21 h => ?_)
    refine xo_aload_n 0 d_R_lessSigned_33 rfl rfl ?_
    refine xo_getR 14 d_R_lessSigned_34 xc_8 rfl tw_657 rfl h (fun a22 h => ?_)
    refine xo_sipush d_R_lessSigned_37 xsp_259 ?_
    refine xo_aload_n 0 d_R_lessSigned_40 rfl rfl ?_
    refine xo_getR 14 d_R_lessSigned_41 xc_8 rfl tw_657 rfl h (fun a23 h => ?_)
    refine xo_sipush d_R_lessSigned_44 xsp_257 ?_
    refine xo_aldL d_R_lessSigned_47 h (fun x24 h => ?_)
    refine xo_aload_n 0 d_R_lessSigned_48 rfl rfl ?_
    refine xo_getR 14 d_R_lessSigned_49 xc_8 rfl tw_657 rfl h (fun a25 h => ?_)
    refine xo_sipush d_R_lessSigned_52 xsp_256 ?_
    refine xo_aldL d_R_lessSigned_55 h (fun x26 h => ?_)
    refine xo_lconst d_R_lessSigned_56 xlc_1 ?_
    refine xo_ladd d_R_lessSigned_57 ?_
    refine xo_S_L0 (rest := [.int (259 : Int32), .ref a22]) [.long x24, .long (x26 + (1 : Int64))] d_R_lessSigned_58 tw_764 yw_R_greater h (fun z e => c_R_greater _ _ _ _ _ _ _ z e) rfl ⟨rfl, rfl⟩ rfl rfl rfl (fun q27 h => ?_)
    refine xo_astL d_R_lessSigned_61 h (fun w28 h => ?_)
    refine xo_goto d_R_lessSigned_62 ?_
    exact xo_sub [0] [(0, .ref l0)] rfl (kb_R_lessSigned_119 X sz ro _ _ h)
theorem c_R_lessSigned (l : Launch) (D : va_G) (cT : Nat → ClassId) (sz : Nat) (w : xw) (l0 : Nat) (l1 : Int32) (ro : Int32 × xw) (h : f_R_lessSigned w l0 l1 = some ro) : xM l y_R_lessSigned b_R_lessSigned 3 t_R_lessSigned R_R_lessSigned D cT [.ref l0, .int l1] w sz (some (.int ro.1), ro.2, sz) :=
  xm_of bl_R_lessSigned rfl rfl (kb_R_lessSigned_0 (l, D, cT, [.ref l0, .int l1], w, sz) sz ro w l0 l1 h)
theorem kb_R_compare_102 (X : xX) (sz : Nat) (ro : Int32 × xw) (w : xw) (s0 : Int32) (h : f_R_compare_b102 w s0 = some ro) : k_R_compare X [] [.int s0] w sz 0 0 102 (some (.int ro.1), ro.2, sz) := by
  unfold f_R_compare_b102 at h
  exact xo_retZH d_R_compare_102 rfl rfl rfl h
theorem kb_R_compare_82 (X : xX) (sz : Nat) (ro : Int32 × xw) (w : xw) (s0 : Int32) (h : f_R_compare_b82 w s0 = some ro) : k_R_compare X [] [.int s0] w sz 0 0 82 (some (.int ro.1), ro.2, sz) := by
  unfold f_R_compare_b82 at h
  exact xo_retZH d_R_compare_82 rfl rfl rfl h
theorem kb_R_compare_77 (X : xX) (sz : Nat) (ro : Int32 × xw) (w : xw) (h : f_R_compare_b77 w = some ro) : k_R_compare X [] [] w sz 0 0 77 (some (.int ro.1), ro.2, sz) := by
  unfold f_R_compare_b77 at h
  refine xo_iconst d_R_compare_77 xic_1 ?_
  refine xo_goto d_R_compare_78 ?_
  exact xo_sub [] [] rfl (kb_R_compare_82 X sz ro _ _ h)
theorem kb_R_compare_0 (X : xX) (sz : Nat) (ro : Int32 × xw) (w : xw) (l0 : Nat) (l1 : Int32) (l2 : Int32) (h : f_R_compare w l0 l1 l2 = some ro) : k_R_compare X [(0, .ref l0), (1, .int l1), (2, .int l2)] [] w sz 0 0 0 (some (.int ro.1), ro.2, sz) := by
  unfold f_R_compare at h
  refine xo_aload_n 0 d_R_compare_0 rfl rfl ?_
  refine xo_sipush d_R_compare_1 xsp_256 ?_
  refine xo_sipush d_R_compare_4 xsp_258 ?_
  refine xo_V_VH (rest := []) [.int (256 : Int32), .int (258 : Int32)] d_R_compare_7 tw_781 yw_R_copy h xc_8 (fun z e => c_R_copy _ _ _ _ _ _ _ _ z e) rfl ⟨rfl, rfl⟩ rfl rfl rfl (fun q1 h => ?_)
  refine xo_aload_n 0 d_R_compare_10 rfl rfl ?_
  refine xo_sipush d_R_compare_11 xsp_257 ?_
  refine xo_sipush d_R_compare_14 xsp_259 ?_
  refine xo_V_VH (rest := []) [.int (257 : Int32), .int (259 : Int32)] d_R_compare_17 tw_781 yw_R_copy h xc_8 (fun z e => c_R_copy _ _ _ _ _ _ _ _ z e) rfl ⟨rfl, rfl⟩ rfl rfl rfl (fun q2 h => ?_)
  refine xo_iload_n 1 d_R_compare_20 rfl rfl ?_
  refine xo_bipush d_R_compare_21 xbp_18 ?_
  refine xo_icmp_ge d_R_compare_23 h (fun h => ?_) (fun h => ?_)
  · refine xo_iload_n 1 d_R_compare_83 rfl rfl ?_
    refine xo_bipush d_R_compare_84 xbp_20 ?_
    refine xo_icmp_ge d_R_compare_86 h (fun h => ?_) (fun h => ?_)
    · refine xo_aload_n 0 d_R_compare_97 rfl rfl ?_
      refine xo_iload_n 2 d_R_compare_98 rfl rfl ?_
      refine xo_V_IH (rest := []) [.int l2] d_R_compare_99 tw_814 yw_R_lessSigned h xc_8 (fun z e => c_R_lessSigned _ _ _ _ _ _ _ z e) rfl ⟨rfl, rfl⟩ rfl rfl rfl (fun q3 h => ?_)
      exact xo_sub [] [] rfl (kb_R_compare_102 X sz ro _ _ h)
    · refine xo_aload_n 0 d_R_compare_89 rfl rfl ?_
      refine xo_iload_n 2 d_R_compare_90 rfl rfl ?_
      refine xo_V_IH (rest := []) [.int l2] d_R_compare_91 tw_810 yw_R_less h xc_8 (fun z e => c_R_less _ _ _ _ _ _ _ z e) rfl ⟨rfl, rfl⟩ rfl rfl rfl (fun q4 h => ?_)
      refine xo_goto d_R_compare_94 ?_
      exact xo_sub [] [] rfl (kb_R_compare_102 X sz ro _ _ h)
  · refine xo_iload_n 2 d_R_compare_26 rfl rfl ?_
    refine xo_if_eq d_R_compare_27 h (fun h => ?_) (fun h => ?_)
    · refine xo_aload_n 0 d_R_compare_37 rfl rfl ?_
      refine xo_sipush d_R_compare_38 xsp_256 ?_
      refine xo_V_IH (rest := []) [.int (256 : Int32)] d_R_compare_41 tw_806 yw_R_isExact h xc_8 (fun z e => c_R_isExact _ _ _ _ _ _ _ z e) rfl ⟨rfl, rfl⟩ rfl rfl rfl (fun q5 h => ?_)
      refine xo_if_eq d_R_compare_44 h (fun h => ?_) (fun h => ?_)
      · exact xo_sub [] [] rfl (kb_R_compare_77 X sz ro _ h)
      · refine xo_aload_n 0 d_R_compare_47 rfl rfl ?_
        refine xo_sipush d_R_compare_48 xsp_257 ?_
        refine xo_V_IH (rest := []) [.int (257 : Int32)] d_R_compare_51 tw_806 yw_R_isExact h xc_8 (fun z e => c_R_isExact _ _ _ _ _ _ _ z e) rfl ⟨rfl, rfl⟩ rfl rfl rfl (fun q6 h => ?_)
        refine xo_if_eq d_R_compare_54 h (fun h => ?_) (fun h => ?_)
        · exact xo_sub [] [] rfl (kb_R_compare_77 X sz ro _ h)
        · refine xo_aload_n 0 d_R_compare_57 rfl rfl ?_
          refine xo_getR 12 d_R_compare_58 xc_8 rfl tw_655 rfl h (fun a7 h => ?_)
          refine xo_sipush d_R_compare_61 xsp_256 ?_
          refine xo_aldL d_R_compare_64 h (fun x8 h => ?_)
          refine xo_aload_n 0 d_R_compare_65 rfl rfl ?_
          refine xo_getR 12 d_R_compare_66 xc_8 rfl tw_655 rfl h (fun a9 h => ?_)
          refine xo_sipush d_R_compare_69 xsp_257 ?_
          refine xo_aldL d_R_compare_72 h (fun x10 h => ?_)
          refine xo_lceq d_R_compare_73 d_R_compare_74 h (fun h => ?_) (fun h => ?_)
          · refine xo_iconst d_R_compare_81 xic_0 ?_
            exact xo_sub [] [] rfl (kb_R_compare_82 X sz ro _ _ h)
          · exact xo_sub [] [] rfl (kb_R_compare_77 X sz ro _ h)
    · refine xo_aload_n 0 d_R_compare_30 rfl rfl ?_
      refine xo_V_IH (rest := []) [] d_R_compare_31 tw_802 yw_R_alike h xc_8 (fun z e => c_R_alike _ _ _ _ _ _ z e) rfl ⟨rfl, rfl⟩ rfl rfl rfl (fun q11 h => ?_)
      refine xo_goto d_R_compare_34 ?_
      exact xo_sub [] [] rfl (kb_R_compare_82 X sz ro _ _ h)
theorem c_R_compare (l : Launch) (D : va_G) (cT : Nat → ClassId) (sz : Nat) (w : xw) (l0 : Nat) (l1 : Int32) (l2 : Int32) (ro : Int32 × xw) (h : f_R_compare w l0 l1 l2 = some ro) : xM l y_R_compare b_R_compare 3 t_R_compare R_R_compare D cT [.ref l0, .int l1, .int l2] w sz (some (.int ro.1), ro.2, sz) :=
  xm_of bl_R_compare rfl rfl (kb_R_compare_0 (l, D, cT, [.ref l0, .int l1, .int l2], w, sz) sz ro w l0 l1 l2 h)
theorem kb_R_wait_92 (X : xX) (sz : Nat) (ro : Unit × xw) (w : xw) (h : f_R_wait_b92 w = some ro) : k_R_wait X [] [] w sz 0 0 92 (none, ro.2, sz) := by
  unfold f_R_wait_b92 at h
  exact xo_retVH d_R_wait_92 rfl rfl rfl h
theorem kb_R_wait_72 (X : xX) (sz : Nat) (ro : Unit × xw) (w : xw) (l0 : Nat) (l3 : Int32) (h : f_R_wait_b72 w l0 l3 = some ro) : k_R_wait X [(0, .ref l0), (3, .int l3)] [] w sz 0 0 72 (none, ro.2, sz) := by
  unfold f_R_wait_b72 at h
  refine xo_iload_n 1 d_R_wait_72 rfl rfl ?_
  refine xo_if_lt d_R_wait_73 h (fun h => ?_) (fun h => ?_)
  · exact xo_sub [] [] rfl (kb_R_wait_92 X sz ro _ h)
  · refine xo_aload_n 0 d_R_wait_76 rfl rfl ?_
    refine xo_sipush d_R_wait_77 xsp_259 ?_
    refine xo_bipush d_R_wait_80 xbp_10 ?_
    refine xo_aload_n 0 d_R_wait_82 rfl rfl ?_
    refine xo_getI 20 d_R_wait_83 xc_8 rfl tw_663 rfl h (fun x1 h => ?_)
    refine xo_imul d_R_wait_86 ?_
    refine xo_iload_n 1 d_R_wait_87 rfl rfl ?_
    refine xo_iadd d_R_wait_88 ?_
    refine xo_V_VH (rest := []) [.int (259 : Int32), .int (((10 : Int32) * x1) + l3)] d_R_wait_89 tw_781 yw_R_copy h xc_8 (fun z e => c_R_copy _ _ _ _ _ _ _ _ z e) rfl ⟨rfl, rfl⟩ rfl rfl rfl (fun q2 h => ?_)
    exact xo_sub [] [] rfl (kb_R_wait_92 X sz ro _ h)
theorem ks_R_wait_23 (X : xX) (sz : Nat) (ro : Unit × xw) (r23 : xw → Nat → Int32 → Int32 → Int32 → Option (Unit × xw)) (R23 : ∀ (w : xw) (l0 : Nat) (l2 : Int32) (l3 : Int32) (l4 : Int32), r23 w l0 l2 l3 l4 = some ro → k_R_wait X [(0, .ref l0), (2, .int l2), (3, .int l3), (4, .int l4)] [] w sz 0 0 23 (none, ro.2, sz)) (w : xw) (l0 : Nat) (l2 : Int32) (l3 : Int32) (l4 : Int32) (h : f_R_wait_s23 r23 w l0 l2 l3 l4 = some ro) : k_R_wait X [(0, .ref l0), (2, .int l2), (3, .int l3), (4, .int l4)] [] w sz 0 0 23 (none, ro.2, sz) := by
  unfold f_R_wait_s23 at h
  refine xo_iload 3 d_R_wait_23 rfl ?_
  refine xo_bipush d_R_wait_25 xbp_10 ?_
  refine xo_icmp_ge d_R_wait_27 h (fun h => ?_) (fun h => ?_)
  · refine xo_iload_n 1 d_R_wait_52 rfl rfl ?_
    refine xo_if_lt d_R_wait_53 h (fun h => ?_) (fun h => ?_)
    · exact xo_sub [0, 2] [(0, .ref l0), (3, .int l3)] rfl (kb_R_wait_72 X sz ro _ _ _ h)
    · refine xo_aload_n 0 d_R_wait_56 rfl rfl ?_
      refine xo_sipush d_R_wait_57 xsp_258 ?_
      refine xo_bipush d_R_wait_60 xbp_10 ?_
      refine xo_aload_n 0 d_R_wait_62 rfl rfl ?_
      refine xo_getI 20 d_R_wait_63 xc_8 rfl tw_663 rfl h (fun x1 h => ?_)
      refine xo_imul d_R_wait_66 ?_
      refine xo_iload_n 1 d_R_wait_67 rfl rfl ?_
      refine xo_iadd d_R_wait_68 ?_
      refine xo_V_VH (rest := []) [.int (258 : Int32), .int (((10 : Int32) * x1) + l2)] d_R_wait_69 tw_781 yw_R_copy h xc_8 (fun z e => c_R_copy _ _ _ _ _ _ _ _ z e) rfl ⟨rfl, rfl⟩ rfl rfl rfl (fun q2 h => ?_)
      exact xo_sub [0, 2] [(0, .ref l0), (3, .int l3)] rfl (kb_R_wait_72 X sz ro _ _ _ h)
  · refine xo_aload_n 0 d_R_wait_30 rfl rfl ?_
    refine xo_iload 3 d_R_wait_31 rfl ?_
    refine xo_bipush d_R_wait_33 xbp_10 ?_
    refine xo_aload_n 0 d_R_wait_35 rfl rfl ?_
    refine xo_getI 20 d_R_wait_36 xc_8 rfl tw_663 rfl h (fun x3 h => ?_)
    refine xo_imul d_R_wait_39 ?_
    refine xo_iload 3 d_R_wait_40 rfl ?_
    refine xo_iadd d_R_wait_42 ?_
    refine xo_V_VH (rest := []) [.int l4, .int (((10 : Int32) * x3) + l4)] d_R_wait_43 tw_781 yw_R_copy h xc_8 (fun z e => c_R_copy _ _ _ _ _ _ _ _ z e) rfl ⟨rfl, rfl⟩ rfl rfl rfl (fun q4 h => ?_)
    refine xo_iinc 3 (fun x5 => [(4, .int x5), (0, .ref l0), (2, .int l2), (3, .int l3)]) d_R_wait_46 rfl rfl xic_1 (fun _ => rfl) h (fun x5 h => ?_)
    refine xo_goto d_R_wait_49 ?_
    exact xo_sub [1, 2, 3, 0] [(0, .ref l0), (2, .int l2), (3, .int l3), (4, .int x5)] rfl (R23 _ _ _ _ _ h)
theorem kb_R_wait_23 (X : xX) (sz : Nat) (ro : Unit × xw) (n : Nat) : ∀ (w : xw) (l0 : Nat) (l2 : Int32) (l3 : Int32) (l4 : Int32), f_R_wait_b23 n w l0 l2 l3 l4 = some ro → k_R_wait X [(0, .ref l0), (2, .int l2), (3, .int l3), (4, .int l4)] [] w sz 0 0 23 (none, ro.2, sz) := by
  unfold f_R_wait_b23
  refine xfix_ind (P := fun (r23 : xw → Nat → Int32 → Int32 → Int32 → Option (Unit × xw)) => ∀ (w : xw) (l0 : Nat) (l2 : Int32) (l3 : Int32) (l4 : Int32), r23 w l0 l2 l3 l4 = some ro → k_R_wait X [(0, .ref l0), (2, .int l2), (3, .int l3), (4, .int l4)] [] w sz 0 0 23 (none, ro.2, sz)) ?_ ?_ n
  · intro _ _ _ _ _ h
    cases h
  · intro r R w l0 l2 l3 l4 h
    exact ks_R_wait_23 X sz ro r R _ _ _ _ _ h
theorem kb_R_wait_0 (X : xX) (sz : Nat) (ro : Unit × xw) (w : xw) (l0 : Nat) (l1 : Int32) (l2 : Int32) (l3 : Int32) (h : f_R_wait w l0 l1 l2 l3 = some ro) : k_R_wait X [(0, .ref l0), (1, .int l1), (2, .int l2), (3, .int l3)] [] w sz 0 0 0 (none, ro.2, sz) := by
  unfold f_R_wait at h
  refine xo_aload_n 0 d_R_wait_0 rfl rfl ?_
  refine xo_dup d_R_wait_1 rfl ?_
  refine xo_getI 20 d_R_wait_2 xc_8 rfl tw_663 rfl h (fun x1 h => ?_)
  refine xo_iconst d_R_wait_5 xic_1 ?_
  refine xo_iadd d_R_wait_6 ?_
  refine xo_putI 20 d_R_wait_7 xc_8 rfl tw_663 rfl rfl rfl rfl h (fun w2 h => ?_)
  refine xo_aload_n 0 d_R_wait_10 rfl rfl ?_
  refine xo_getR 21 d_R_wait_11 xc_8 rfl tw_664 rfl h (fun a3 h => ?_)
  refine xo_aload_n 0 d_R_wait_14 rfl rfl ?_
  refine xo_getI 20 d_R_wait_15 xc_8 rfl tw_663 rfl h (fun x4 h => ?_)
  refine xo_iload_n 1 d_R_wait_18 rfl rfl ?_
  refine xo_astI d_R_wait_19 h (fun w5 h => ?_)
  refine xo_iconst d_R_wait_20 xic_0 ?_
  refine xo_nmI h (fun x6 h => ?_)
  refine xo_istore [(4, .int x6), (0, .ref l0), (1, .int l1), (2, .int l2), (3, .int l3)] d_R_wait_21 rfl rfl ?_
  exact xo_sub [1, 3, 4, 0] [(0, .ref l0), (2, .int l2), (3, .int l3), (4, .int x6)] rfl (kb_R_wait_23 X sz ro _ _ _ _ _ _ h)
theorem c_R_wait (l : Launch) (D : va_G) (cT : Nat → ClassId) (sz : Nat) (w : xw) (l0 : Nat) (l1 : Int32) (l2 : Int32) (l3 : Int32) (ro : Unit × xw) (h : f_R_wait w l0 l1 l2 l3 = some ro) : xM l y_R_wait b_R_wait 5 t_R_wait R_R_wait D cT [.ref l0, .int l1, .int l2, .int l3] w sz (none, ro.2, sz) :=
  xm_of bl_R_wait rfl rfl (kb_R_wait_0 (l, D, cT, [.ref l0, .int l1, .int l2, .int l3], w, sz) sz ro w l0 l1 l2 l3 h)
theorem kb_R_part_71 (X : xX) (sz : Nat) (ro : Int32 × xw) (w : xw) (l0 : Nat) (h : f_R_part_b71 w l0 = some ro) : k_R_part X [(0, .ref l0)] [] w sz 0 0 71 (some (.int ro.1), ro.2, sz) := by
  unfold f_R_part_b71 at h
  refine xo_aload_n 0 d_R_part_71 rfl rfl ?_
  refine xo_dup d_R_part_72 rfl ?_
  refine xo_getI 17 d_R_part_73 xc_8 rfl tw_660 rfl h (fun x1 h => ?_)
  refine xo_iconst d_R_part_76 xic_1 ?_
  refine xo_iadd d_R_part_77 ?_
  refine xo_putI 17 d_R_part_78 xc_8 rfl tw_660 rfl rfl rfl rfl h (fun w2 h => ?_)
  refine xo_iconst d_R_part_81 xic_1 ?_
  exact xo_retZH d_R_part_82 rfl rfl rfl h
theorem kb_R_part_43 (X : xX) (sz : Nat) (ro : Int32 × xw) (w : xw) (l0 : Nat) (l2 : Int32) (l3 : Int32) (s0 : Nat) (s1 : Int32) (s2 : Int32) (h : f_R_part_b43 w l0 l2 l3 s0 s1 s2 = some ro) : k_R_part X [(0, .ref l0), (2, .int l2), (3, .int l3)] [.int s2, .int s1, .ref s0] w sz 0 0 43 (some (.int ro.1), ro.2, sz) := by
  unfold f_R_part_b43 at h
  refine xo_V_IH (rest := []) [.int s1, .int s2] d_R_part_43 tw_798 yw_R_compare h xc_8 (fun z e => c_R_compare _ _ _ _ _ _ _ _ z e) rfl ⟨rfl, rfl⟩ rfl rfl rfl (fun q1 h => ?_)
  refine xo_if_ne d_R_part_46 h (fun h => ?_) (fun h => ?_)
  · refine xo_aload_n 0 d_R_part_51 rfl rfl ?_
    refine xo_sipush d_R_part_52 xsp_258 ?_
    refine xo_iload_n 1 d_R_part_55 rfl rfl ?_
    refine xo_V_VH (rest := []) [.int (258 : Int32), .int l2] d_R_part_56 tw_781 yw_R_copy h xc_8 (fun z e => c_R_copy _ _ _ _ _ _ _ _ z e) rfl ⟨rfl, rfl⟩ rfl rfl rfl (fun q2 h => ?_)
    refine xo_iload_n 2 d_R_part_59 rfl rfl ?_
    refine xo_if_lt d_R_part_60 h (fun h => ?_) (fun h => ?_)
    · exact xo_sub [0] [(0, .ref l0)] rfl (kb_R_part_71 X sz ro _ _ h)
    · refine xo_aload_n 0 d_R_part_63 rfl rfl ?_
      refine xo_sipush d_R_part_64 xsp_259 ?_
      refine xo_iload_n 2 d_R_part_67 rfl rfl ?_
      refine xo_V_VH (rest := []) [.int (259 : Int32), .int l3] d_R_part_68 tw_781 yw_R_copy h xc_8 (fun z e => c_R_copy _ _ _ _ _ _ _ _ z e) rfl ⟨rfl, rfl⟩ rfl rfl rfl (fun q3 h => ?_)
      exact xo_sub [0] [(0, .ref l0)] rfl (kb_R_part_71 X sz ro _ _ h)
  · refine xo_iconst d_R_part_49 xic_0 ?_
    exact xo_retZH d_R_part_50 rfl rfl rfl h
theorem kb_R_part_31 (X : xX) (sz : Nat) (ro : Int32 × xw) (w : xw) (l0 : Nat) (l1 : Int32) (l2 : Int32) (l3 : Int32) (l5 : Int32) (h : f_R_part_b31 w l0 l1 l2 l3 l5 = some ro) : k_R_part X [(0, .ref l0), (1, .int l1), (2, .int l2), (3, .int l3), (5, .int l5)] [] w sz 0 0 31 (some (.int ro.1), ro.2, sz) := by
  unfold f_R_part_b31 at h
  refine xo_aload_n 0 d_R_part_31 rfl rfl ?_
  refine xo_iload_n 1 d_R_part_32 rfl rfl ?_
  refine xo_iload 4 d_R_part_33 rfl ?_
  refine xo_if_ne d_R_part_35 h (fun h => ?_) (fun h => ?_)
  · refine xo_iconst d_R_part_42 xic_0 ?_
    exact xo_sub [0, 2, 3] [(0, .ref l0), (2, .int l2), (3, .int l3)] rfl (kb_R_part_43 X sz ro _ _ _ _ _ _ _ h)
  · refine xo_iconst d_R_part_38 xic_1 ?_
    refine xo_goto d_R_part_39 ?_
    exact xo_sub [0, 2, 3] [(0, .ref l0), (2, .int l2), (3, .int l3)] rfl (kb_R_part_43 X sz ro _ _ _ _ _ _ _ h)
theorem kb_R_part_11 (X : xX) (sz : Nat) (ro : Int32 × xw) (w : xw) (l0 : Nat) (l1 : Int32) (l2 : Int32) (l3 : Int32) (l4 : Int32) (s0 : Int32) (h : f_R_part_b11 w l0 l1 l2 l3 l4 s0 = some ro) : k_R_part X [(0, .ref l0), (1, .int l1), (2, .int l2), (3, .int l3), (4, .int l4)] [.int s0] w sz 0 0 11 (some (.int ro.1), ro.2, sz) := by
  unfold f_R_part_b11 at h
  refine xo_istore [(5, .int s0), (0, .ref l0), (1, .int l1), (2, .int l2), (3, .int l3), (4, .int l4)] d_R_part_11 rfl rfl ?_
  refine xo_aload_n 1 d_R_part_13 rfl rfl ?_
  refine xo_iload_n 2 d_R_part_14 rfl rfl ?_
  refine xo_iload 0 d_R_part_15 rfl ?_
  refine xo_V_IH (rest := []) [.int l1, .int s0] d_R_part_17 tw_798 yw_R_compare h xc_8 (fun z e => c_R_compare _ _ _ _ _ _ _ _ z e) rfl ⟨rfl, rfl⟩ rfl rfl rfl (fun q1 h => ?_)
  refine xo_if_eq d_R_part_20 h (fun h => ?_) (fun h => ?_)
  · exact xo_sub [1, 2, 3, 4, 0] [(0, .ref l0), (1, .int l1), (2, .int l2), (3, .int l3), (5, .int s0)] rfl (kb_R_part_31 X sz ro _ _ _ _ _ _ h)
  · refine xo_aload_n 1 d_R_part_23 rfl rfl ?_
    refine xo_iload 5 d_R_part_24 rfl ?_
    refine xo_iload_n 3 d_R_part_26 rfl rfl ?_
    refine xo_iload_n 4 d_R_part_27 rfl rfl ?_
    refine xo_V_VH (rest := []) [.int l4, .int l2, .int l3] d_R_part_28 tw_818 yw_R_wait h xc_8 (fun z e => c_R_wait _ _ _ _ _ _ _ _ _ z e) rfl ⟨rfl, rfl⟩ rfl rfl rfl (fun q2 h => ?_)
    exact xo_sub [1, 2, 3, 4, 0] [(0, .ref l0), (1, .int l1), (2, .int l2), (3, .int l3), (5, .int s0)] rfl (kb_R_part_31 X sz ro _ _ _ _ _ _ h)
theorem kb_R_part_0 (X : xX) (sz : Nat) (ro : Int32 × xw) (w : xw) (l0 : Nat) (l1 : Int32) (l2 : Int32) (l3 : Int32) (l4 : Int32) (h : f_R_part w l0 l1 l2 l3 l4 = some ro) : k_R_part X [(0, .ref l0), (1, .int l1), (2, .int l2), (3, .int l3), (4, .int l4)] [] w sz 0 0 0 (some (.int ro.1), ro.2, sz) := by
  unfold f_R_part at h
  refine xo_iload_n 1 d_R_part_0 rfl rfl ?_
  refine xo_iconst d_R_part_1 xic_2 ?_
  refine xo_irem d_R_part_2 h (fun h => ?_)
  refine xo_if_ne d_R_part_3 h (fun h => ?_) (fun h => ?_)
  · refine xo_iconst d_R_part_10 xic_0 ?_
    exact xo_sub [0, 1, 2, 3, 4] [(0, .ref l0), (1, .int l1), (2, .int l2), (3, .int l3), (4, .int l4)] rfl (kb_R_part_11 X sz ro _ _ _ _ _ _ _ h)
  · refine xo_iconst d_R_part_6 xic_1 ?_
    refine xo_goto d_R_part_7 ?_
    exact xo_sub [0, 1, 2, 3, 4] [(0, .ref l0), (1, .int l1), (2, .int l2), (3, .int l3), (4, .int l4)] rfl (kb_R_part_11 X sz ro _ _ _ _ _ _ _ h)
theorem c_R_part (l : Launch) (D : va_G) (cT : Nat → ClassId) (sz : Nat) (w : xw) (l0 : Nat) (l1 : Int32) (l2 : Int32) (l3 : Int32) (l4 : Int32) (ro : Int32 × xw) (h : f_R_part w l0 l1 l2 l3 l4 = some ro) : xM l y_R_part b_R_part 6 t_R_part R_R_part D cT [.ref l0, .int l1, .int l2, .int l3, .int l4] w sz (some (.int ro.1), ro.2, sz) :=
  xm_of bl_R_part rfl rfl (kb_R_part_0 (l, D, cT, [.ref l0, .int l1, .int l2, .int l3, .int l4], w, sz) sz ro w l0 l1 l2 l3 l4 h)
theorem kb_R_lowest_49 (X : xX) (sz : Nat) (ro : Int32 × xw) (w : xw) (l2 : Int32) (h : f_R_lowest_b49 w l2 = some ro) : k_R_lowest X [(2, .int l2)] [] w sz 0 0 49 (some (.int ro.1), ro.2, sz) := by
  unfold f_R_lowest_b49 at h
  refine xo_iload_n 0 d_R_lowest_49 rfl rfl ?_
  exact xo_retIH d_R_lowest_50 rfl rfl rfl h
theorem ks_R_lowest_22 (X : xX) (sz : Nat) (ro : Int32 × xw) (r22 : xw → Int32 → Int32 → Int32 → Option (Int32 × xw)) (R22 : ∀ (w : xw) (l1 : Int32) (l2 : Int32) (l3 : Int32), r22 w l1 l2 l3 = some ro → k_R_lowest X [(1, .int l1), (2, .int l2), (3, .int l3)] [] w sz 0 0 22 (some (.int ro.1), ro.2, sz)) (w : xw) (l1 : Int32) (l2 : Int32) (l3 : Int32) (h : f_R_lowest_s22 r22 w l1 l2 l3 = some ro) : k_R_lowest X [(1, .int l1), (2, .int l2), (3, .int l3)] [] w sz 0 0 22 (some (.int ro.1), ro.2, sz) := by
  unfold f_R_lowest_s22 at h
  refine xo_iload_n 2 d_R_lowest_22 rfl rfl ?_
  refine xo_bipush d_R_lowest_23 xbp_32 ?_
  refine xo_icmp_ge d_R_lowest_25 h (fun h => ?_) (fun h => ?_)
  · exact xo_sub [1] [(2, .int l2)] rfl (kb_R_lowest_49 X sz ro _ _ h)
  · refine xo_iload_n 0 d_R_lowest_28 rfl rfl ?_
    refine xo_iload_n 2 d_R_lowest_29 rfl rfl ?_
    refine xo_ishr d_R_lowest_30 ?_
    refine xo_iconst d_R_lowest_31 xic_1 ?_
    refine xo_iand d_R_lowest_32 ?_
    refine xo_iconst d_R_lowest_33 xic_1 ?_
    refine xo_icmp_ne d_R_lowest_34 h (fun h => ?_) (fun h => ?_)
    · exact xo_sub [1] [(2, .int l2)] rfl (kb_R_lowest_49 X sz ro _ _ h)
    · refine xo_iload_n 1 d_R_lowest_37 rfl rfl ?_
      refine xo_iconst d_R_lowest_38 xic_1 ?_
      refine xo_iload_n 2 d_R_lowest_39 rfl rfl ?_
      refine xo_ishl d_R_lowest_40 ?_
      refine xo_ior d_R_lowest_41 ?_
      refine xo_nmI h (fun x1 h => ?_)
      refine xo_istore_n [(2, .int x1), (1, .int l1), (3, .int l3)] d_R_lowest_42 rfl rfl rfl ?_
      refine xo_iinc 2 (fun x2 => [(3, .int x2), (2, .int x1), (1, .int l1)]) d_R_lowest_43 rfl rfl xic_1 (fun _ => rfl) h (fun x2 h => ?_)
      refine xo_goto d_R_lowest_46 ?_
      exact xo_sub [2, 1, 0] [(1, .int l1), (2, .int x1), (3, .int x2)] rfl (R22 _ _ _ _ h)
theorem kb_R_lowest_22 (X : xX) (sz : Nat) (ro : Int32 × xw) (n : Nat) : ∀ (w : xw) (l1 : Int32) (l2 : Int32) (l3 : Int32), f_R_lowest_b22 n w l1 l2 l3 = some ro → k_R_lowest X [(1, .int l1), (2, .int l2), (3, .int l3)] [] w sz 0 0 22 (some (.int ro.1), ro.2, sz) := by
  unfold f_R_lowest_b22
  refine xfix_ind (P := fun (r22 : xw → Int32 → Int32 → Int32 → Option (Int32 × xw)) => ∀ (w : xw) (l1 : Int32) (l2 : Int32) (l3 : Int32), r22 w l1 l2 l3 = some ro → k_R_lowest X [(1, .int l1), (2, .int l2), (3, .int l3)] [] w sz 0 0 22 (some (.int ro.1), ro.2, sz)) ?_ ?_ n
  · intro _ _ _ _ h
    cases h
  · intro r R w l1 l2 l3 h
    exact ks_R_lowest_22 X sz ro r R _ _ _ _ h
theorem kb_R_lowest_0 (X : xX) (sz : Nat) (ro : Int32 × xw) (w : xw) (l0 : Nat) (h : f_R_lowest w l0 = some ro) : k_R_lowest X [(0, .ref l0)] [] w sz 0 0 0 (some (.int ro.1), ro.2, sz) := by
  unfold f_R_lowest at h
  refine xo_aload_n 0 d_R_lowest_0 rfl rfl ?_
  refine xo_getR 10 d_R_lowest_1 xc_8 rfl tw_653 rfl h (fun a1 h => ?_)
  refine xo_sipush d_R_lowest_4 xsp_256 ?_
  refine xo_aldI d_R_lowest_7 h (fun x2 h => ?_)
  refine xo_aload_n 0 d_R_lowest_8 rfl rfl ?_
  refine xo_getR 10 d_R_lowest_9 xc_8 rfl tw_653 rfl h (fun a3 h => ?_)
  refine xo_sipush d_R_lowest_12 xsp_257 ?_
  refine xo_aldI d_R_lowest_15 h (fun x4 h => ?_)
  refine xo_iand d_R_lowest_16 ?_
  refine xo_nmI h (fun x5 h => ?_)
  refine xo_istore_n [(1, .int x5), (0, .ref l0)] d_R_lowest_17 rfl rfl rfl ?_
  refine xo_iconst d_R_lowest_18 xic_0 ?_
  refine xo_nmI h (fun x6 h => ?_)
  refine xo_istore_n [(2, .int x6), (1, .int x5), (0, .ref l0)] d_R_lowest_19 rfl rfl rfl ?_
  refine xo_iconst d_R_lowest_20 xic_0 ?_
  refine xo_nmI h (fun x7 h => ?_)
  refine xo_istore_n [(3, .int x7), (2, .int x6), (1, .int x5), (0, .ref l0)] d_R_lowest_21 rfl rfl rfl ?_
  exact xo_sub [2, 1, 0] [(1, .int x5), (2, .int x6), (3, .int x7)] rfl (kb_R_lowest_22 X sz ro _ _ _ _ _ h)
theorem c_R_lowest (l : Launch) (D : va_G) (cT : Nat → ClassId) (sz : Nat) (w : xw) (l0 : Nat) (ro : Int32 × xw) (h : f_R_lowest w l0 = some ro) : xM l y_R_lowest b_R_lowest 4 t_R_lowest R_R_lowest D cT [.ref l0] w sz (some (.int ro.1), ro.2, sz) :=
  xm_of bl_R_lowest rfl rfl (kb_R_lowest_0 (l, D, cT, [.ref l0], w, sz) sz ro w l0 h)
theorem kb_R_knows_0 (X : xX) (sz : Nat) (ro : Unit × xw) (w : xw) (l0 : Nat) (l1 : Int32) (l2 : Int32) (h : f_R_knows w l0 l1 l2 = some ro) : k_R_knows X [(0, .ref l0), (1, .int l1), (2, .int l2)] [] w sz 0 0 0 (none, ro.2, sz) := by
  unfold f_R_knows at h
  refine xo_aload_n 0 d_R_knows_0 rfl rfl ?_
  refine xo_getR 10 d_R_knows_1 xc_8 rfl tw_653 rfl h (fun a1 h => ?_)
  refine xo_sipush d_R_knows_4 xsp_258 ?_
  refine xo_iload_n 1 d_R_knows_7 rfl rfl ?_
  refine xo_astI d_R_knows_8 h (fun w2 h => ?_)
  refine xo_aload_n 0 d_R_knows_9 rfl rfl ?_
  refine xo_getR 11 d_R_knows_10 xc_8 rfl tw_654 rfl h (fun a3 h => ?_)
  refine xo_sipush d_R_knows_13 xsp_258 ?_
  refine xo_iload_n 2 d_R_knows_16 rfl rfl ?_
  refine xo_iload_n 1 d_R_knows_17 rfl rfl ?_
  refine xo_iand d_R_knows_18 ?_
  refine xo_astI d_R_knows_19 h (fun w4 h => ?_)
  exact xo_retVH d_R_knows_20 rfl rfl rfl h
theorem c_R_knows (l : Launch) (D : va_G) (cT : Nat → ClassId) (sz : Nat) (w : xw) (l0 : Nat) (l1 : Int32) (l2 : Int32) (ro : Unit × xw) (h : f_R_knows w l0 l1 l2 = some ro) : xM l y_R_knows b_R_knows 3 t_R_knows R_R_knows D cT [.ref l0, .int l1, .int l2] w sz (none, ro.2, sz) :=
  xm_of bl_R_knows rfl rfl (kb_R_knows_0 (l, D, cT, [.ref l0, .int l1, .int l2], w, sz) sz ro w l0 l1 l2 h)
theorem kb_R_bitsOf_351 (X : xX) (sz : Nat) (ro : Unit × xw) (w : xw) (h : f_R_bitsOf_b351 w = some ro) : k_R_bitsOf X [] [] w sz 0 0 351 (none, ro.2, sz) := by
  unfold f_R_bitsOf_b351 at h
  exact xo_retVH d_R_bitsOf_351 rfl rfl rfl h
theorem kb_R_bitsOf_348 (X : xX) (sz : Nat) (ro : Unit × xw) (w : xw) (s0 : Nat) (s1 : Int32) (s2 : Int32) (h : f_R_bitsOf_b348 w s0 s1 s2 = some ro) : k_R_bitsOf X [] [.int s2, .int s1, .ref s0] w sz 0 0 348 (none, ro.2, sz) := by
  unfold f_R_bitsOf_b348 at h
  refine xo_V_VH (rest := []) [.int s1, .int s2] d_R_bitsOf_348 tw_834 yw_R_knows h xc_8 (fun z e => c_R_knows _ _ _ _ _ _ _ _ z e) rfl ⟨rfl, rfl⟩ rfl rfl rfl (fun q1 h => ?_)
  exact xo_sub [] [] rfl (kb_R_bitsOf_351 X sz ro _ h)
theorem kb_R_bitsOf_310 (X : xX) (sz : Nat) (ro : Unit × xw) (w : xw) (l0 : Nat) (l1 : Int32) (l2 : Int32) (l4 : Int32) (l5 : Int32) (s0 : Int32) (h : f_R_bitsOf_b310 w l0 l1 l2 l4 l5 s0 = some ro) : k_R_bitsOf X [(0, .ref l0), (1, .int l1), (2, .int l2), (4, .int l4), (5, .int l5)] [.int s0] w sz 0 0 310 (none, ro.2, sz) := by
  unfold f_R_bitsOf_b310 at h
  refine xo_istore [(6, .int s0), (0, .ref l0), (1, .int l1), (2, .int l2), (4, .int l4), (5, .int l5)] d_R_bitsOf_310 rfl rfl ?_
  refine xo_aload_n 1 d_R_bitsOf_312 rfl rfl ?_
  refine xo_iload 0 d_R_bitsOf_313 rfl ?_
  refine xo_iload 5 d_R_bitsOf_315 rfl ?_
  refine xo_ior d_R_bitsOf_317 ?_
  refine xo_iload_n 2 d_R_bitsOf_318 rfl rfl ?_
  refine xo_bipush d_R_bitsOf_319 xbp_7 ?_
  refine xo_icmp_ne d_R_bitsOf_321 h (fun h => ?_) (fun h => ?_)
  · refine xo_iload_n 2 d_R_bitsOf_331 rfl rfl ?_
    refine xo_bipush d_R_bitsOf_332 xbp_8 ?_
    refine xo_icmp_ne d_R_bitsOf_334 h (fun h => ?_) (fun h => ?_)
    · refine xo_iload_n 3 d_R_bitsOf_344 rfl rfl ?_
      refine xo_iload 4 d_R_bitsOf_345 rfl ?_
      refine xo_ishr d_R_bitsOf_347 ?_
      exact xo_sub [] [] rfl (kb_R_bitsOf_348 X sz ro _ _ _ _ h)
    · refine xo_iload_n 3 d_R_bitsOf_337 rfl rfl ?_
      refine xo_iload 4 d_R_bitsOf_338 rfl ?_
      refine xo_iushr d_R_bitsOf_340 ?_
      refine xo_goto d_R_bitsOf_341 ?_
      exact xo_sub [] [] rfl (kb_R_bitsOf_348 X sz ro _ _ _ _ h)
  · refine xo_iload_n 3 d_R_bitsOf_324 rfl rfl ?_
    refine xo_iload 4 d_R_bitsOf_325 rfl ?_
    refine xo_ishl d_R_bitsOf_327 ?_
    refine xo_goto d_R_bitsOf_328 ?_
    exact xo_sub [] [] rfl (kb_R_bitsOf_348 X sz ro _ _ _ _ h)
theorem kb_R_bitsOf_257 (X : xX) (sz : Nat) (ro : Unit × xw) (w : xw) (l0 : Nat) (l1 : Int32) (l2 : Int32) (l4 : Int32) (s0 : Int32) (h : f_R_bitsOf_b257 w l0 l1 l2 l4 s0 = some ro) : k_R_bitsOf X [(0, .ref l0), (1, .int l1), (2, .int l2), (4, .int l4)] [.int s0] w sz 0 0 257 (none, ro.2, sz) := by
  unfold f_R_bitsOf_b257 at h
  refine xo_istore [(5, .int s0), (0, .ref l0), (1, .int l1), (2, .int l2), (4, .int l4)] d_R_bitsOf_257 rfl rfl ?_
  refine xo_iload_n 2 d_R_bitsOf_259 rfl rfl ?_
  refine xo_bipush d_R_bitsOf_260 xbp_7 ?_
  refine xo_icmp_ne d_R_bitsOf_262 h (fun h => ?_) (fun h => ?_)
  · refine xo_iload_n 2 d_R_bitsOf_279 rfl rfl ?_
    refine xo_bipush d_R_bitsOf_280 xbp_8 ?_
    refine xo_icmp_ne d_R_bitsOf_282 h (fun h => ?_) (fun h => ?_)
    · refine xo_aload_n 1 d_R_bitsOf_299 rfl rfl ?_
      refine xo_getR 10 d_R_bitsOf_300 xc_8 rfl tw_653 rfl h (fun a1 h => ?_)
      refine xo_sipush d_R_bitsOf_303 xsp_256 ?_
      refine xo_aldI d_R_bitsOf_306 h (fun x2 h => ?_)
      refine xo_iload 4 d_R_bitsOf_307 rfl ?_
      refine xo_ishr d_R_bitsOf_309 ?_
      exact xo_sub [1, 2, 3, 4, 0] [(0, .ref l0), (1, .int l1), (2, .int l2), (4, .int l4), (5, .int s0)] rfl (kb_R_bitsOf_310 X sz ro _ _ _ _ _ _ _ h)
    · refine xo_aload_n 1 d_R_bitsOf_285 rfl rfl ?_
      refine xo_getR 10 d_R_bitsOf_286 xc_8 rfl tw_653 rfl h (fun a3 h => ?_)
      refine xo_sipush d_R_bitsOf_289 xsp_256 ?_
      refine xo_aldI d_R_bitsOf_292 h (fun x4 h => ?_)
      refine xo_iload 4 d_R_bitsOf_293 rfl ?_
      refine xo_iushr d_R_bitsOf_295 ?_
      refine xo_goto d_R_bitsOf_296 ?_
      exact xo_sub [1, 2, 3, 4, 0] [(0, .ref l0), (1, .int l1), (2, .int l2), (4, .int l4), (5, .int s0)] rfl (kb_R_bitsOf_310 X sz ro _ _ _ _ _ _ _ h)
  · refine xo_aload_n 1 d_R_bitsOf_265 rfl rfl ?_
    refine xo_getR 10 d_R_bitsOf_266 xc_8 rfl tw_653 rfl h (fun a5 h => ?_)
    refine xo_sipush d_R_bitsOf_269 xsp_256 ?_
    refine xo_aldI d_R_bitsOf_272 h (fun x6 h => ?_)
    refine xo_iload 4 d_R_bitsOf_273 rfl ?_
    refine xo_ishl d_R_bitsOf_275 ?_
    refine xo_goto d_R_bitsOf_276 ?_
    exact xo_sub [1, 2, 3, 4, 0] [(0, .ref l0), (1, .int l1), (2, .int l2), (4, .int l4), (5, .int s0)] rfl (kb_R_bitsOf_310 X sz ro _ _ _ _ _ _ _ h)
theorem kb_R_bitsOf_63 (X : xX) (sz : Nat) (ro : Unit × xw) (w : xw) (s0 : Nat) (s1 : Int32) (s2 : Int32) (h : f_R_bitsOf_b63 w s0 s1 s2 = some ro) : k_R_bitsOf X [] [.int s2, .int s1, .ref s0] w sz 0 0 63 (none, ro.2, sz) := by
  unfold f_R_bitsOf_b63 at h
  refine xo_V_VH (rest := []) [.int s1, .int s2] d_R_bitsOf_63 tw_834 yw_R_knows h xc_8 (fun z e => c_R_knows _ _ _ _ _ _ _ _ z e) rfl ⟨rfl, rfl⟩ rfl rfl rfl (fun q1 h => ?_)
  refine xo_goto d_R_bitsOf_66 ?_
  exact xo_sub [] [] rfl (kb_R_bitsOf_351 X sz ro _ h)
theorem kb_R_bitsOf_33 (X : xX) (sz : Nat) (ro : Unit × xw) (w : xw) (l0 : Nat) (l1 : Int32) (l2 : Int32) (l3 : Int32) (h : f_R_bitsOf_b33 w l0 l1 l2 l3 = some ro) : k_R_bitsOf X [(0, .ref l0), (1, .int l1), (2, .int l2), (3, .int l3)] [] w sz 0 0 33 (none, ro.2, sz) := by
  unfold f_R_bitsOf_b33 at h
  refine xo_aload_n 0 d_R_bitsOf_33 rfl rfl ?_
  refine xo_aload_n 0 d_R_bitsOf_34 rfl rfl ?_
  refine xo_V_IH (rest := [.ref l0]) [] d_R_bitsOf_35 tw_830 yw_R_lowest h xc_8 (fun z e => c_R_lowest _ _ _ _ _ _ z e) rfl ⟨rfl, rfl⟩ rfl rfl rfl (fun q1 h => ?_)
  refine xo_iload_n 1 d_R_bitsOf_38 rfl rfl ?_
  refine xo_iconst d_R_bitsOf_39 xic_1 ?_
  refine xo_icmp_ne d_R_bitsOf_40 h (fun h => ?_) (fun h => ?_)
  · refine xo_iload_n 1 d_R_bitsOf_49 rfl rfl ?_
    refine xo_iconst d_R_bitsOf_50 xic_2 ?_
    refine xo_icmp_ne d_R_bitsOf_51 h (fun h => ?_) (fun h => ?_)
    · refine xo_iload_n 2 d_R_bitsOf_60 rfl rfl ?_
      refine xo_iload_n 3 d_R_bitsOf_61 rfl rfl ?_
      refine xo_imul d_R_bitsOf_62 ?_
      exact xo_sub [] [] rfl (kb_R_bitsOf_63 X sz ro _ _ _ _ h)
    · refine xo_iload_n 2 d_R_bitsOf_54 rfl rfl ?_
      refine xo_iload_n 3 d_R_bitsOf_55 rfl rfl ?_
      refine xo_isub d_R_bitsOf_56 ?_
      refine xo_goto d_R_bitsOf_57 ?_
      exact xo_sub [] [] rfl (kb_R_bitsOf_63 X sz ro _ _ _ _ h)
  · refine xo_iload_n 2 d_R_bitsOf_43 rfl rfl ?_
    refine xo_iload_n 3 d_R_bitsOf_44 rfl rfl ?_
    refine xo_iadd d_R_bitsOf_45 ?_
    refine xo_goto d_R_bitsOf_46 ?_
    exact xo_sub [] [] rfl (kb_R_bitsOf_63 X sz ro _ _ _ _ h)
theorem kb_R_bitsOf_0 (X : xX) (sz : Nat) (ro : Unit × xw) (w : xw) (l0 : Nat) (l1 : Int32) (h : f_R_bitsOf w l0 l1 = some ro) : k_R_bitsOf X [(0, .ref l0), (1, .int l1)] [] w sz 0 0 0 (none, ro.2, sz) := by
  unfold f_R_bitsOf at h
  refine xo_aload_n 0 d_R_bitsOf_0 rfl rfl ?_
  refine xo_getR 11 d_R_bitsOf_1 xc_8 rfl tw_654 rfl h (fun a1 h => ?_)
  refine xo_sipush d_R_bitsOf_4 xsp_256 ?_
  refine xo_aldI d_R_bitsOf_7 h (fun x2 h => ?_)
  refine xo_istore_n [(2, .int x2), (0, .ref l0), (1, .int l1)] d_R_bitsOf_8 rfl rfl rfl ?_
  refine xo_aload_n 1 d_R_bitsOf_9 rfl rfl ?_
  refine xo_getR 11 d_R_bitsOf_10 xc_8 rfl tw_654 rfl h (fun a3 h => ?_)
  refine xo_sipush d_R_bitsOf_13 xsp_257 ?_
  refine xo_aldI d_R_bitsOf_16 h (fun x4 h => ?_)
  refine xo_istore_n [(3, .int x4), (2, .int x2), (0, .ref l0), (1, .int l1)] d_R_bitsOf_17 rfl rfl rfl ?_
  refine xo_iload_n 3 d_R_bitsOf_18 rfl rfl ?_
  refine xo_iconst d_R_bitsOf_19 xic_1 ?_
  refine xo_icmp_eq d_R_bitsOf_20 h (fun h => ?_) (fun h => ?_)
  · exact xo_sub [2, 3, 1, 0] [(0, .ref l0), (1, .int l1), (2, .int x2), (3, .int x4)] rfl (kb_R_bitsOf_33 X sz ro _ _ _ _ _ h)
  · refine xo_iload_n 3 d_R_bitsOf_23 rfl rfl ?_
    refine xo_iconst d_R_bitsOf_24 xic_2 ?_
    refine xo_icmp_eq d_R_bitsOf_25 h (fun h => ?_) (fun h => ?_)
    · exact xo_sub [2, 3, 1, 0] [(0, .ref l0), (1, .int l1), (2, .int x2), (3, .int x4)] rfl (kb_R_bitsOf_33 X sz ro _ _ _ _ _ h)
    · refine xo_iload_n 3 d_R_bitsOf_28 rfl rfl ?_
      refine xo_iconst d_R_bitsOf_29 xic_3 ?_
      refine xo_icmp_ne d_R_bitsOf_30 h (fun h => ?_) (fun h => ?_)
      · refine xo_iload_n 3 d_R_bitsOf_69 rfl rfl ?_
        refine xo_iconst d_R_bitsOf_70 xic_4 ?_
        refine xo_icmp_ne d_R_bitsOf_71 h (fun h => ?_) (fun h => ?_)
        · refine xo_iload_n 3 d_R_bitsOf_127 rfl rfl ?_
          refine xo_iconst d_R_bitsOf_128 xic_5 ?_
          refine xo_icmp_ne d_R_bitsOf_129 h (fun h => ?_) (fun h => ?_)
          · refine xo_iload_n 3 d_R_bitsOf_163 rfl rfl ?_
            refine xo_bipush d_R_bitsOf_164 xbp_6 ?_
            refine xo_icmp_ne d_R_bitsOf_166 h (fun h => ?_) (fun h => ?_)
            · refine xo_iload_n 3 d_R_bitsOf_196 rfl rfl ?_
              refine xo_bipush d_R_bitsOf_197 xbp_9 ?_
              refine xo_icmp_gt d_R_bitsOf_199 h (fun h => ?_) (fun h => ?_)
              · exact xo_sub [] [] rfl (kb_R_bitsOf_351 X sz ro _ h)
              · refine xo_aload_n 2 d_R_bitsOf_202 rfl rfl ?_
                refine xo_sipush d_R_bitsOf_203 xsp_257 ?_
                refine xo_V_IH (rest := []) [.int (257 : Int32)] d_R_bitsOf_206 tw_806 yw_R_isExact h xc_8 (fun z e => c_R_isExact _ _ _ _ _ _ _ z e) rfl ⟨rfl, rfl⟩ rfl rfl rfl (fun q5 h => ?_)
                refine xo_if_eq d_R_bitsOf_209 h (fun h => ?_) (fun h => ?_)
                · exact xo_sub [] [] rfl (kb_R_bitsOf_351 X sz ro _ h)
                · refine xo_aload_n 2 d_R_bitsOf_212 rfl rfl ?_
                  refine xo_getR 12 d_R_bitsOf_213 xc_8 rfl tw_655 rfl h (fun a6 h => ?_)
                  refine xo_sipush d_R_bitsOf_216 xsp_257 ?_
                  refine xo_aldL d_R_bitsOf_219 h (fun x7 h => ?_)
                  refine xo_l2i d_R_bitsOf_220 ?_
                  refine xo_bipush d_R_bitsOf_221 xbp_31 ?_
                  refine xo_iand d_R_bitsOf_223 ?_
                  refine xo_nmI h (fun x8 h => ?_)
                  refine xo_istore [(4, .int x8), (3, .int x4), (2, .int x2), (0, .ref l0), (1, .int l1)] d_R_bitsOf_224 rfl rfl ?_
                  refine xo_iload_n 4 d_R_bitsOf_226 rfl rfl ?_
                  refine xo_bipush d_R_bitsOf_227 xbp_7 ?_
                  refine xo_icmp_ne d_R_bitsOf_229 h (fun h => ?_) (fun h => ?_)
                  · refine xo_iload_n 4 d_R_bitsOf_241 rfl rfl ?_
                    refine xo_bipush d_R_bitsOf_242 xbp_8 ?_
                    refine xo_icmp_ne d_R_bitsOf_244 h (fun h => ?_) (fun h => ?_)
                    · refine xo_iconst d_R_bitsOf_256 xic_0 ?_
                      exact xo_sub [3, 4, 2, 0] [(0, .ref l0), (1, .int l1), (2, .int x2), (4, .int x8)] rfl (kb_R_bitsOf_257 X sz ro _ _ _ _ _ _ h)
                    · refine xo_iconst d_R_bitsOf_247 xic_m1 ?_
                      refine xo_iload 0 d_R_bitsOf_248 rfl ?_
                      refine xo_iushr d_R_bitsOf_250 ?_
                      refine xo_iconst d_R_bitsOf_251 xic_m1 ?_
                      refine xo_ixor d_R_bitsOf_252 ?_
                      refine xo_goto d_R_bitsOf_253 ?_
                      exact xo_sub [3, 4, 2, 0] [(0, .ref l0), (1, .int l1), (2, .int x2), (4, .int x8)] rfl (kb_R_bitsOf_257 X sz ro _ _ _ _ _ _ h)
                  · refine xo_iconst d_R_bitsOf_232 xic_m1 ?_
                    refine xo_iload 0 d_R_bitsOf_233 rfl ?_
                    refine xo_ishl d_R_bitsOf_235 ?_
                    refine xo_iconst d_R_bitsOf_236 xic_m1 ?_
                    refine xo_ixor d_R_bitsOf_237 ?_
                    refine xo_goto d_R_bitsOf_238 ?_
                    exact xo_sub [3, 4, 2, 0] [(0, .ref l0), (1, .int l1), (2, .int x2), (4, .int x8)] rfl (kb_R_bitsOf_257 X sz ro _ _ _ _ _ _ h)
            · refine xo_aload_n 2 d_R_bitsOf_169 rfl rfl ?_
              refine xo_aload_n 2 d_R_bitsOf_170 rfl rfl ?_
              refine xo_getR 10 d_R_bitsOf_171 xc_8 rfl tw_653 rfl h (fun a9 h => ?_)
              refine xo_sipush d_R_bitsOf_174 xsp_256 ?_
              refine xo_aldI d_R_bitsOf_177 h (fun x10 h => ?_)
              refine xo_aload_n 2 d_R_bitsOf_178 rfl rfl ?_
              refine xo_getR 10 d_R_bitsOf_179 xc_8 rfl tw_653 rfl h (fun a11 h => ?_)
              refine xo_sipush d_R_bitsOf_182 xsp_257 ?_
              refine xo_aldI d_R_bitsOf_185 h (fun x12 h => ?_)
              refine xo_iand d_R_bitsOf_186 ?_
              refine xo_iload_n 1 d_R_bitsOf_187 rfl rfl ?_
              refine xo_iload_n 0 d_R_bitsOf_188 rfl rfl ?_
              refine xo_ixor d_R_bitsOf_189 ?_
              refine xo_V_VH (rest := []) [.int (x10 &&& x12), .int (x2 ^^^ x4)] d_R_bitsOf_190 tw_834 yw_R_knows h xc_8 (fun z e => c_R_knows _ _ _ _ _ _ _ _ z e) rfl ⟨rfl, rfl⟩ rfl rfl rfl (fun q13 h => ?_)
              refine xo_goto d_R_bitsOf_193 ?_
              exact xo_sub [] [] rfl (kb_R_bitsOf_351 X sz ro _ h)
          · refine xo_aload_n 2 d_R_bitsOf_132 rfl rfl ?_
            refine xo_aload_n 2 d_R_bitsOf_133 rfl rfl ?_
            refine xo_getR 10 d_R_bitsOf_134 xc_8 rfl tw_653 rfl h (fun a14 h => ?_)
            refine xo_sipush d_R_bitsOf_137 xsp_256 ?_
            refine xo_aldI d_R_bitsOf_140 h (fun x15 h => ?_)
            refine xo_aload_n 2 d_R_bitsOf_141 rfl rfl ?_
            refine xo_getR 10 d_R_bitsOf_142 xc_8 rfl tw_653 rfl h (fun a16 h => ?_)
            refine xo_sipush d_R_bitsOf_145 xsp_257 ?_
            refine xo_aldI d_R_bitsOf_148 h (fun x17 h => ?_)
            refine xo_iand d_R_bitsOf_149 ?_
            refine xo_iload_n 1 d_R_bitsOf_150 rfl rfl ?_
            refine xo_ior d_R_bitsOf_151 ?_
            refine xo_iload_n 0 d_R_bitsOf_152 rfl rfl ?_
            refine xo_ior d_R_bitsOf_153 ?_
            refine xo_iload_n 1 d_R_bitsOf_154 rfl rfl ?_
            refine xo_iload_n 0 d_R_bitsOf_155 rfl rfl ?_
            refine xo_ior d_R_bitsOf_156 ?_
            refine xo_V_VH (rest := []) [.int (((x15 &&& x17) ||| x2) ||| x4), .int (x2 ||| x4)] d_R_bitsOf_157 tw_834 yw_R_knows h xc_8 (fun z e => c_R_knows _ _ _ _ _ _ _ _ z e) rfl ⟨rfl, rfl⟩ rfl rfl rfl (fun q18 h => ?_)
            refine xo_goto d_R_bitsOf_160 ?_
            exact xo_sub [] [] rfl (kb_R_bitsOf_351 X sz ro _ h)
        · refine xo_aload_n 2 d_R_bitsOf_74 rfl rfl ?_
          refine xo_aload_n 2 d_R_bitsOf_75 rfl rfl ?_
          refine xo_getR 10 d_R_bitsOf_76 xc_8 rfl tw_653 rfl h (fun a19 h => ?_)
          refine xo_sipush d_R_bitsOf_79 xsp_256 ?_
          refine xo_aldI d_R_bitsOf_82 h (fun x20 h => ?_)
          refine xo_aload_n 2 d_R_bitsOf_83 rfl rfl ?_
          refine xo_getR 10 d_R_bitsOf_84 xc_8 rfl tw_653 rfl h (fun a21 h => ?_)
          refine xo_sipush d_R_bitsOf_87 xsp_257 ?_
          refine xo_aldI d_R_bitsOf_90 h (fun x22 h => ?_)
          refine xo_iand d_R_bitsOf_91 ?_
          refine xo_aload_n 2 d_R_bitsOf_92 rfl rfl ?_
          refine xo_getR 10 d_R_bitsOf_93 xc_8 rfl tw_653 rfl h (fun a23 h => ?_)
          refine xo_sipush d_R_bitsOf_96 xsp_256 ?_
          refine xo_aldI d_R_bitsOf_99 h (fun x24 h => ?_)
          refine xo_iload_n 1 d_R_bitsOf_100 rfl rfl ?_
          refine xo_iconst d_R_bitsOf_101 xic_m1 ?_
          refine xo_ixor d_R_bitsOf_102 ?_
          refine xo_iand d_R_bitsOf_103 ?_
          refine xo_ior d_R_bitsOf_104 ?_
          refine xo_aload_n 2 d_R_bitsOf_105 rfl rfl ?_
          refine xo_getR 10 d_R_bitsOf_106 xc_8 rfl tw_653 rfl h (fun a25 h => ?_)
          refine xo_sipush d_R_bitsOf_109 xsp_257 ?_
          refine xo_aldI d_R_bitsOf_112 h (fun x26 h => ?_)
          refine xo_iload_n 0 d_R_bitsOf_113 rfl rfl ?_
          refine xo_iconst d_R_bitsOf_114 xic_m1 ?_
          refine xo_ixor d_R_bitsOf_115 ?_
          refine xo_iand d_R_bitsOf_116 ?_
          refine xo_ior d_R_bitsOf_117 ?_
          refine xo_iload_n 1 d_R_bitsOf_118 rfl rfl ?_
          refine xo_iload_n 0 d_R_bitsOf_119 rfl rfl ?_
          refine xo_iand d_R_bitsOf_120 ?_
          refine xo_V_VH (rest := []) [.int (((x20 &&& x22) ||| (x24 &&& (x2 ^^^ (-1 : Int32)))) ||| (x26 &&& (x4 ^^^ (-1 : Int32)))), .int (x2 &&& x4)] d_R_bitsOf_121 tw_834 yw_R_knows h xc_8 (fun z e => c_R_knows _ _ _ _ _ _ _ _ z e) rfl ⟨rfl, rfl⟩ rfl rfl rfl (fun q27 h => ?_)
          refine xo_goto d_R_bitsOf_124 ?_
          exact xo_sub [] [] rfl (kb_R_bitsOf_351 X sz ro _ h)
      · exact xo_sub [2, 3, 1, 0] [(0, .ref l0), (1, .int l1), (2, .int x2), (3, .int x4)] rfl (kb_R_bitsOf_33 X sz ro _ _ _ _ _ h)
theorem c_R_bitsOf (l : Launch) (D : va_G) (cT : Nat → ClassId) (sz : Nat) (w : xw) (l0 : Nat) (l1 : Int32) (ro : Unit × xw) (h : f_R_bitsOf w l0 l1 = some ro) : xM l y_R_bitsOf b_R_bitsOf 7 t_R_bitsOf R_R_bitsOf D cT [.ref l0, .int l1] w sz (none, ro.2, sz) :=
  xm_of bl_R_bitsOf rfl rfl (kb_R_bitsOf_0 (l, D, cT, [.ref l0, .int l1], w, sz) sz ro w l0 l1 h)
theorem kb_R_bound_0 (X : xX) (sz : Nat) (ro : Unit × xw) (w : xw) (l0 : Nat) (l1 : Int64) (l3 : Int64) (h : f_R_bound w l0 l1 l3 = some ro) : k_R_bound X [(0, .ref l0), (1, .long l1), (3, .long l3)] [] w sz 0 0 0 (none, ro.2, sz) := by
  unfold f_R_bound at h
  refine xo_aload_n 0 d_R_bound_0 rfl rfl ?_
  refine xo_getR 12 d_R_bound_1 xc_8 rfl tw_655 rfl h (fun a1 h => ?_)
  refine xo_sipush d_R_bound_4 xsp_258 ?_
  refine xo_lload_n 1 d_R_bound_7 rfl rfl ?_
  refine xo_astL d_R_bound_8 h (fun w2 h => ?_)
  refine xo_aload_n 0 d_R_bound_9 rfl rfl ?_
  refine xo_getR 13 d_R_bound_10 xc_8 rfl tw_656 rfl h (fun a3 h => ?_)
  refine xo_sipush d_R_bound_13 xsp_258 ?_
  refine xo_lload_n 2 d_R_bound_16 rfl rfl ?_
  refine xo_astL d_R_bound_17 h (fun w4 h => ?_)
  exact xo_retVH d_R_bound_18 rfl rfl rfl h
theorem c_R_bound (l : Launch) (D : va_G) (cT : Nat → ClassId) (sz : Nat) (w : xw) (l0 : Nat) (l1 : Int64) (l3 : Int64) (ro : Unit × xw) (h : f_R_bound w l0 l1 l3 = some ro) : xM l y_R_bound b_R_bound 5 t_R_bound R_R_bound D cT [.ref l0, .long l1, .long l3] w sz (none, ro.2, sz) :=
  xm_of bl_R_bound rfl rfl (kb_R_bound_0 (l, D, cT, [.ref l0, .long l1, .long l3], w, sz) sz ro w l0 l1 l3 h)
theorem kb_R_boundSigned_34 (X : xX) (sz : Nat) (ro : Unit × xw) (w : xw) (h : f_R_boundSigned_b34 w = some ro) : k_R_boundSigned X [] [] w sz 0 0 34 (none, ro.2, sz) := by
  unfold f_R_boundSigned_b34 at h
  exact xo_retVH d_R_boundSigned_34 rfl rfl rfl h
theorem kb_R_boundSigned_0 (X : xX) (sz : Nat) (ro : Unit × xw) (w : xw) (l0 : Nat) (l1 : Int64) (l3 : Int64) (h : f_R_boundSigned w l0 l1 l3 = some ro) : k_R_boundSigned X [(0, .ref l0), (1, .long l1), (3, .long l3)] [] w sz 0 0 0 (none, ro.2, sz) := by
  unfold f_R_boundSigned at h
  refine xo_lload_n 1 d_R_boundSigned_0 rfl rfl ?_
  refine xo_ldc2 d_R_boundSigned_1 tw_757 ?_
  refine xo_lclt d_R_boundSigned_4 d_R_boundSigned_5 h (fun h => ?_) (fun h => ?_)
  · exact xo_sub [] [] rfl (kb_R_boundSigned_34 X sz ro _ h)
  · refine xo_lload_n 2 d_R_boundSigned_8 rfl rfl ?_
    refine xo_ldc2 d_R_boundSigned_9 tw_770 ?_
    refine xo_lcge d_R_boundSigned_12 d_R_boundSigned_13 h (fun h => ?_) (fun h => ?_)
    · exact xo_sub [] [] rfl (kb_R_boundSigned_34 X sz ro _ h)
    · refine xo_aload_n 0 d_R_boundSigned_16 rfl rfl ?_
      refine xo_getR 14 d_R_boundSigned_17 xc_8 rfl tw_657 rfl h (fun a1 h => ?_)
      refine xo_sipush d_R_boundSigned_20 xsp_258 ?_
      refine xo_lload_n 1 d_R_boundSigned_23 rfl rfl ?_
      refine xo_astL d_R_boundSigned_24 h (fun w2 h => ?_)
      refine xo_aload_n 0 d_R_boundSigned_25 rfl rfl ?_
      refine xo_getR 15 d_R_boundSigned_26 xc_8 rfl tw_658 rfl h (fun a3 h => ?_)
      refine xo_sipush d_R_boundSigned_29 xsp_258 ?_
      refine xo_lload_n 2 d_R_boundSigned_32 rfl rfl ?_
      refine xo_astL d_R_boundSigned_33 h (fun w4 h => ?_)
      exact xo_sub [] [] rfl (kb_R_boundSigned_34 X sz ro _ h)
theorem c_R_boundSigned (l : Launch) (D : va_G) (cT : Nat → ClassId) (sz : Nat) (w : xw) (l0 : Nat) (l1 : Int64) (l3 : Int64) (ro : Unit × xw) (h : f_R_boundSigned w l0 l1 l3 = some ro) : xM l y_R_boundSigned b_R_boundSigned 5 t_R_boundSigned R_R_boundSigned D cT [.ref l0, .long l1, .long l3] w sz (none, ro.2, sz) :=
  xm_of bl_R_boundSigned rfl rfl (kb_R_boundSigned_0 (l, D, cT, [.ref l0, .long l1, .long l3], w, sz) sz ro w l0 l1 l3 h)
theorem kb_R_boundsOf_543 (X : xX) (sz : Nat) (ro : Unit × xw) (w : xw) (h : f_R_boundsOf_b543 w = some ro) : k_R_boundsOf X [] [] w sz 0 0 543 (none, ro.2, sz) := by
  unfold f_R_boundsOf_b543 at h
  exact xo_retVH d_R_boundsOf_543 rfl rfl rfl h
theorem kb_R_boundsOf_464 (X : xX) (sz : Nat) (ro : Unit × xw) (w : xw) (l0 : Nat) (l1 : Int32) (h : f_R_boundsOf_b464 w l0 l1 = some ro) : k_R_boundsOf X [(0, .ref l0), (1, .int l1)] [] w sz 0 0 464 (none, ro.2, sz) := by
  unfold f_R_boundsOf_b464 at h
  refine xo_iload_n 1 d_R_boundsOf_464 rfl rfl ?_
  refine xo_bipush d_R_boundsOf_465 xbp_10 ?_
  refine xo_icmp_ne d_R_boundsOf_467 h (fun h => ?_) (fun h => ?_)
  · refine xo_iload_n 1 d_R_boundsOf_511 rfl rfl ?_
    refine xo_bipush d_R_boundsOf_512 xbp_11 ?_
    refine xo_icmp_ne d_R_boundsOf_514 h (fun h => ?_) (fun h => ?_)
    · exact xo_sub [] [] rfl (kb_R_boundsOf_543 X sz ro _ h)
    · refine xo_aload_n 0 d_R_boundsOf_517 rfl rfl ?_
      refine xo_lconst d_R_boundsOf_518 xlc_0 ?_
      refine xo_aload_n 0 d_R_boundsOf_519 rfl rfl ?_
      refine xo_getR 13 d_R_boundsOf_520 xc_8 rfl tw_656 rfl h (fun a1 h => ?_)
      refine xo_sipush d_R_boundsOf_523 xsp_256 ?_
      refine xo_aldL d_R_boundsOf_526 h (fun x2 h => ?_)
      refine xo_aload_n 0 d_R_boundsOf_527 rfl rfl ?_
      refine xo_getR 13 d_R_boundsOf_528 xc_8 rfl tw_656 rfl h (fun a3 h => ?_)
      refine xo_sipush d_R_boundsOf_531 xsp_257 ?_
      refine xo_aldL d_R_boundsOf_534 h (fun x4 h => ?_)
      refine xo_lconst d_R_boundsOf_535 xlc_1 ?_
      refine xo_lsub d_R_boundsOf_536 ?_
      refine xo_S_L0 (rest := [.long (0 : Int64), .ref l0]) [.long x2, .long (x4 - (1 : Int64))] d_R_boundsOf_537 tw_767 yw_R_lesser h (fun z e => c_R_lesser _ _ _ _ _ _ _ z e) rfl ⟨rfl, rfl⟩ rfl rfl rfl (fun q5 h => ?_)
      refine xo_V_VH (rest := []) [.long (0 : Int64), .long q5] d_R_boundsOf_540 tw_842 yw_R_bound h xc_8 (fun z e => c_R_bound _ _ _ _ _ _ _ _ z e) rfl ⟨rfl, rfl⟩ rfl rfl rfl (fun q6 h => ?_)
      exact xo_sub [] [] rfl (kb_R_boundsOf_543 X sz ro _ h)
  · refine xo_aload_n 0 d_R_boundsOf_470 rfl rfl ?_
    refine xo_aload_n 0 d_R_boundsOf_471 rfl rfl ?_
    refine xo_getR 12 d_R_boundsOf_472 xc_8 rfl tw_655 rfl h (fun a7 h => ?_)
    refine xo_sipush d_R_boundsOf_475 xsp_256 ?_
    refine xo_aldL d_R_boundsOf_478 h (fun x8 h => ?_)
    refine xo_aload_n 0 d_R_boundsOf_479 rfl rfl ?_
    refine xo_getR 13 d_R_boundsOf_480 xc_8 rfl tw_656 rfl h (fun a9 h => ?_)
    refine xo_sipush d_R_boundsOf_483 xsp_257 ?_
    refine xo_aldL d_R_boundsOf_486 h (fun x10 h => ?_)
    refine xo_ldiv d_R_boundsOf_487 h (fun h => ?_)
    refine xo_aload_n 0 d_R_boundsOf_488 rfl rfl ?_
    refine xo_getR 13 d_R_boundsOf_489 xc_8 rfl tw_656 rfl h (fun a11 h => ?_)
    refine xo_sipush d_R_boundsOf_492 xsp_256 ?_
    refine xo_aldL d_R_boundsOf_495 h (fun x12 h => ?_)
    refine xo_aload_n 0 d_R_boundsOf_496 rfl rfl ?_
    refine xo_getR 12 d_R_boundsOf_497 xc_8 rfl tw_655 rfl h (fun a13 h => ?_)
    refine xo_sipush d_R_boundsOf_500 xsp_257 ?_
    refine xo_aldL d_R_boundsOf_503 h (fun x14 h => ?_)
    refine xo_ldiv d_R_boundsOf_504 h (fun h => ?_)
    refine xo_V_VH (rest := []) [.long (x8 / x10), .long (x12 / x14)] d_R_boundsOf_505 tw_842 yw_R_bound h xc_8 (fun z e => c_R_bound _ _ _ _ _ _ _ _ z e) rfl ⟨rfl, rfl⟩ rfl rfl rfl (fun q15 h => ?_)
    refine xo_goto d_R_boundsOf_508 ?_
    exact xo_sub [] [] rfl (kb_R_boundsOf_543 X sz ro _ h)
theorem kb_R_boundsOf_421 (X : xX) (sz : Nat) (ro : Unit × xw) (w : xw) (l0 : Nat) (l1 : Int32) (l2 : Int32) (h : f_R_boundsOf_b421 w l0 l1 l2 = some ro) : k_R_boundsOf X [(0, .ref l0), (1, .int l1), (2, .int l2)] [] w sz 0 0 421 (none, ro.2, sz) := by
  unfold f_R_boundsOf_b421 at h
  refine xo_iload_n 1 d_R_boundsOf_421 rfl rfl ?_
  refine xo_bipush d_R_boundsOf_422 xbp_9 ?_
  refine xo_icmp_ne d_R_boundsOf_424 h (fun h => ?_) (fun h => ?_)
  · exact xo_sub [0, 1] [(0, .ref l0), (1, .int l1)] rfl (kb_R_boundsOf_464 X sz ro _ _ _ h)
  · refine xo_aload_n 0 d_R_boundsOf_427 rfl rfl ?_
    refine xo_sipush d_R_boundsOf_428 xsp_257 ?_
    refine xo_V_IH (rest := []) [.int (257 : Int32)] d_R_boundsOf_431 tw_806 yw_R_isExact h xc_8 (fun z e => c_R_isExact _ _ _ _ _ _ _ z e) rfl ⟨rfl, rfl⟩ rfl rfl rfl (fun q1 h => ?_)
    refine xo_if_eq d_R_boundsOf_434 h (fun h => ?_) (fun h => ?_)
    · exact xo_sub [0, 1] [(0, .ref l0), (1, .int l1)] rfl (kb_R_boundsOf_464 X sz ro _ _ _ h)
    · refine xo_aload_n 0 d_R_boundsOf_437 rfl rfl ?_
      refine xo_aload_n 0 d_R_boundsOf_438 rfl rfl ?_
      refine xo_getR 14 d_R_boundsOf_439 xc_8 rfl tw_657 rfl h (fun a2 h => ?_)
      refine xo_sipush d_R_boundsOf_442 xsp_256 ?_
      refine xo_aldL d_R_boundsOf_445 h (fun x3 h => ?_)
      refine xo_iload_n 2 d_R_boundsOf_446 rfl rfl ?_
      refine xo_lshr d_R_boundsOf_447 ?_
      refine xo_aload_n 0 d_R_boundsOf_448 rfl rfl ?_
      refine xo_getR 15 d_R_boundsOf_449 xc_8 rfl tw_658 rfl h (fun a4 h => ?_)
      refine xo_sipush d_R_boundsOf_452 xsp_256 ?_
      refine xo_aldL d_R_boundsOf_455 h (fun x5 h => ?_)
      refine xo_iload_n 2 d_R_boundsOf_456 rfl rfl ?_
      refine xo_lshr d_R_boundsOf_457 ?_
      refine xo_V_VH (rest := []) [.long (x3 >>> (l2.toInt64 &&& 63)), .long (x5 >>> (l2.toInt64 &&& 63))] d_R_boundsOf_458 tw_846 yw_R_boundSigned h xc_8 (fun z e => c_R_boundSigned _ _ _ _ _ _ _ _ z e) rfl ⟨rfl, rfl⟩ rfl rfl rfl (fun q6 h => ?_)
      refine xo_goto d_R_boundsOf_461 ?_
      exact xo_sub [] [] rfl (kb_R_boundsOf_543 X sz ro _ h)
theorem kb_R_boundsOf_267 (X : xX) (sz : Nat) (ro : Unit × xw) (w : xw) (l0 : Nat) (h : f_R_boundsOf_b267 w l0 = some ro) : k_R_boundsOf X [(0, .ref l0)] [] w sz 0 0 267 (none, ro.2, sz) := by
  unfold f_R_boundsOf_b267 at h
  refine xo_aload_n 0 d_R_boundsOf_267 rfl rfl ?_
  refine xo_aload_n 0 d_R_boundsOf_268 rfl rfl ?_
  refine xo_getR 12 d_R_boundsOf_269 xc_8 rfl tw_655 rfl h (fun a1 h => ?_)
  refine xo_sipush d_R_boundsOf_272 xsp_256 ?_
  refine xo_aldL d_R_boundsOf_275 h (fun x2 h => ?_)
  refine xo_aload_n 0 d_R_boundsOf_276 rfl rfl ?_
  refine xo_getR 12 d_R_boundsOf_277 xc_8 rfl tw_655 rfl h (fun a3 h => ?_)
  refine xo_sipush d_R_boundsOf_280 xsp_257 ?_
  refine xo_aldL d_R_boundsOf_283 h (fun x4 h => ?_)
  refine xo_lmul d_R_boundsOf_284 ?_
  refine xo_aload_n 0 d_R_boundsOf_285 rfl rfl ?_
  refine xo_getR 13 d_R_boundsOf_286 xc_8 rfl tw_656 rfl h (fun a5 h => ?_)
  refine xo_sipush d_R_boundsOf_289 xsp_256 ?_
  refine xo_aldL d_R_boundsOf_292 h (fun x6 h => ?_)
  refine xo_aload_n 0 d_R_boundsOf_293 rfl rfl ?_
  refine xo_getR 13 d_R_boundsOf_294 xc_8 rfl tw_656 rfl h (fun a7 h => ?_)
  refine xo_sipush d_R_boundsOf_297 xsp_257 ?_
  refine xo_aldL d_R_boundsOf_300 h (fun x8 h => ?_)
  refine xo_lmul d_R_boundsOf_301 ?_
  refine xo_V_VH (rest := []) [.long (x2 * x4), .long (x6 * x8)] d_R_boundsOf_302 tw_842 yw_R_bound h xc_8 (fun z e => c_R_bound _ _ _ _ _ _ _ _ z e) rfl ⟨rfl, rfl⟩ rfl rfl rfl (fun q9 h => ?_)
  refine xo_goto d_R_boundsOf_305 ?_
  exact xo_sub [] [] rfl (kb_R_boundsOf_543 X sz ro _ h)
theorem kb_R_boundsOf_184 (X : xX) (sz : Nat) (ro : Unit × xw) (w : xw) (l0 : Nat) (h : f_R_boundsOf_b184 w l0 = some ro) : k_R_boundsOf X [(0, .ref l0)] [] w sz 0 0 184 (none, ro.2, sz) := by
  unfold f_R_boundsOf_b184 at h
  refine xo_aload_n 0 d_R_boundsOf_184 rfl rfl ?_
  refine xo_aload_n 0 d_R_boundsOf_185 rfl rfl ?_
  refine xo_getR 14 d_R_boundsOf_186 xc_8 rfl tw_657 rfl h (fun a1 h => ?_)
  refine xo_sipush d_R_boundsOf_189 xsp_256 ?_
  refine xo_aldL d_R_boundsOf_192 h (fun x2 h => ?_)
  refine xo_aload_n 0 d_R_boundsOf_193 rfl rfl ?_
  refine xo_getR 15 d_R_boundsOf_194 xc_8 rfl tw_658 rfl h (fun a3 h => ?_)
  refine xo_sipush d_R_boundsOf_197 xsp_257 ?_
  refine xo_aldL d_R_boundsOf_200 h (fun x4 h => ?_)
  refine xo_lsub d_R_boundsOf_201 ?_
  refine xo_aload_n 0 d_R_boundsOf_202 rfl rfl ?_
  refine xo_getR 15 d_R_boundsOf_203 xc_8 rfl tw_658 rfl h (fun a5 h => ?_)
  refine xo_sipush d_R_boundsOf_206 xsp_256 ?_
  refine xo_aldL d_R_boundsOf_209 h (fun x6 h => ?_)
  refine xo_aload_n 0 d_R_boundsOf_210 rfl rfl ?_
  refine xo_getR 14 d_R_boundsOf_211 xc_8 rfl tw_657 rfl h (fun a7 h => ?_)
  refine xo_sipush d_R_boundsOf_214 xsp_257 ?_
  refine xo_aldL d_R_boundsOf_217 h (fun x8 h => ?_)
  refine xo_lsub d_R_boundsOf_218 ?_
  refine xo_V_VH (rest := []) [.long (x2 - x4), .long (x6 - x8)] d_R_boundsOf_219 tw_846 yw_R_boundSigned h xc_8 (fun z e => c_R_boundSigned _ _ _ _ _ _ _ _ z e) rfl ⟨rfl, rfl⟩ rfl rfl rfl (fun q9 h => ?_)
  refine xo_goto d_R_boundsOf_222 ?_
  exact xo_sub [] [] rfl (kb_R_boundsOf_543 X sz ro _ h)
theorem kb_R_boundsOf_80 (X : xX) (sz : Nat) (ro : Unit × xw) (w : xw) (l0 : Nat) (h : f_R_boundsOf_b80 w l0 = some ro) : k_R_boundsOf X [(0, .ref l0)] [] w sz 0 0 80 (none, ro.2, sz) := by
  unfold f_R_boundsOf_b80 at h
  refine xo_aload_n 0 d_R_boundsOf_80 rfl rfl ?_
  refine xo_aload_n 0 d_R_boundsOf_81 rfl rfl ?_
  refine xo_getR 14 d_R_boundsOf_82 xc_8 rfl tw_657 rfl h (fun a1 h => ?_)
  refine xo_sipush d_R_boundsOf_85 xsp_256 ?_
  refine xo_aldL d_R_boundsOf_88 h (fun x2 h => ?_)
  refine xo_aload_n 0 d_R_boundsOf_89 rfl rfl ?_
  refine xo_getR 14 d_R_boundsOf_90 xc_8 rfl tw_657 rfl h (fun a3 h => ?_)
  refine xo_sipush d_R_boundsOf_93 xsp_257 ?_
  refine xo_aldL d_R_boundsOf_96 h (fun x4 h => ?_)
  refine xo_ladd d_R_boundsOf_97 ?_
  refine xo_aload_n 0 d_R_boundsOf_98 rfl rfl ?_
  refine xo_getR 15 d_R_boundsOf_99 xc_8 rfl tw_658 rfl h (fun a5 h => ?_)
  refine xo_sipush d_R_boundsOf_102 xsp_256 ?_
  refine xo_aldL d_R_boundsOf_105 h (fun x6 h => ?_)
  refine xo_aload_n 0 d_R_boundsOf_106 rfl rfl ?_
  refine xo_getR 15 d_R_boundsOf_107 xc_8 rfl tw_658 rfl h (fun a7 h => ?_)
  refine xo_sipush d_R_boundsOf_110 xsp_257 ?_
  refine xo_aldL d_R_boundsOf_113 h (fun x8 h => ?_)
  refine xo_ladd d_R_boundsOf_114 ?_
  refine xo_V_VH (rest := []) [.long (x2 + x4), .long (x6 + x8)] d_R_boundsOf_115 tw_846 yw_R_boundSigned h xc_8 (fun z e => c_R_boundSigned _ _ _ _ _ _ _ _ z e) rfl ⟨rfl, rfl⟩ rfl rfl rfl (fun q9 h => ?_)
  refine xo_goto d_R_boundsOf_118 ?_
  exact xo_sub [] [] rfl (kb_R_boundsOf_543 X sz ro _ h)
theorem kb_R_boundsOf_0 (X : xX) (sz : Nat) (ro : Unit × xw) (w : xw) (l0 : Nat) (l1 : Int32) (h : f_R_boundsOf w l0 l1 = some ro) : k_R_boundsOf X [(0, .ref l0), (1, .int l1)] [] w sz 0 0 0 (none, ro.2, sz) := by
  unfold f_R_boundsOf at h
  refine xo_aload_n 0 d_R_boundsOf_0 rfl rfl ?_
  refine xo_getR 12 d_R_boundsOf_1 xc_8 rfl tw_655 rfl h (fun a1 h => ?_)
  refine xo_sipush d_R_boundsOf_4 xsp_257 ?_
  refine xo_aldL d_R_boundsOf_7 h (fun x2 h => ?_)
  refine xo_l2i d_R_boundsOf_8 ?_
  refine xo_bipush d_R_boundsOf_9 xbp_31 ?_
  refine xo_iand d_R_boundsOf_11 ?_
  refine xo_nmI h (fun x3 h => ?_)
  refine xo_istore_n [(2, .int x3), (0, .ref l0), (1, .int l1)] d_R_boundsOf_12 rfl rfl rfl ?_
  refine xo_iload_n 2 d_R_boundsOf_13 rfl rfl ?_
  refine xo_iconst d_R_boundsOf_14 xic_1 ?_
  refine xo_icmp_ne d_R_boundsOf_15 h (fun h => ?_) (fun h => ?_)
  · refine xo_iload_n 2 d_R_boundsOf_121 rfl rfl ?_
    refine xo_iconst d_R_boundsOf_122 xic_2 ?_
    refine xo_icmp_ne d_R_boundsOf_123 h (fun h => ?_) (fun h => ?_)
    · refine xo_iload_n 2 d_R_boundsOf_225 rfl rfl ?_
      refine xo_iconst d_R_boundsOf_226 xic_3 ?_
      refine xo_icmp_ne d_R_boundsOf_227 h (fun h => ?_) (fun h => ?_)
      · refine xo_iload_n 2 d_R_boundsOf_308 rfl rfl ?_
        refine xo_iconst d_R_boundsOf_309 xic_4 ?_
        refine xo_icmp_ne d_R_boundsOf_310 h (fun h => ?_) (fun h => ?_)
        · refine xo_iload_n 2 d_R_boundsOf_343 rfl rfl ?_
          refine xo_iconst d_R_boundsOf_344 xic_5 ?_
          refine xo_icmp_ne d_R_boundsOf_345 h (fun h => ?_) (fun h => ?_)
          · refine xo_iload_n 2 d_R_boundsOf_378 rfl rfl ?_
            refine xo_bipush d_R_boundsOf_379 xbp_8 ?_
            refine xo_icmp_ne d_R_boundsOf_381 h (fun h => ?_) (fun h => ?_)
            · exact xo_sub [1, 2, 0] [(0, .ref l0), (1, .int l1), (2, .int x3)] rfl (kb_R_boundsOf_421 X sz ro _ _ _ _ h)
            · refine xo_aload_n 1 d_R_boundsOf_384 rfl rfl ?_
              refine xo_sipush d_R_boundsOf_385 xsp_257 ?_
              refine xo_V_IH (rest := []) [.int (257 : Int32)] d_R_boundsOf_388 tw_806 yw_R_isExact h xc_8 (fun z e => c_R_isExact _ _ _ _ _ _ _ z e) rfl ⟨rfl, rfl⟩ rfl rfl rfl (fun q4 h => ?_)
              refine xo_if_eq d_R_boundsOf_391 h (fun h => ?_) (fun h => ?_)
              · exact xo_sub [1, 2, 0] [(0, .ref l0), (1, .int l1), (2, .int x3)] rfl (kb_R_boundsOf_421 X sz ro _ _ _ _ h)
              · refine xo_aload_n 1 d_R_boundsOf_394 rfl rfl ?_
                refine xo_aload_n 1 d_R_boundsOf_395 rfl rfl ?_
                refine xo_getR 12 d_R_boundsOf_396 xc_8 rfl tw_655 rfl h (fun a5 h => ?_)
                refine xo_sipush d_R_boundsOf_399 xsp_256 ?_
                refine xo_aldL d_R_boundsOf_402 h (fun x6 h => ?_)
                refine xo_iload_n 0 d_R_boundsOf_403 rfl rfl ?_
                refine xo_lshr d_R_boundsOf_404 ?_
                refine xo_aload_n 1 d_R_boundsOf_405 rfl rfl ?_
                refine xo_getR 13 d_R_boundsOf_406 xc_8 rfl tw_656 rfl h (fun a7 h => ?_)
                refine xo_sipush d_R_boundsOf_409 xsp_256 ?_
                refine xo_aldL d_R_boundsOf_412 h (fun x8 h => ?_)
                refine xo_iload_n 0 d_R_boundsOf_413 rfl rfl ?_
                refine xo_lshr d_R_boundsOf_414 ?_
                refine xo_V_VH (rest := []) [.long (x6 >>> (x3.toInt64 &&& 63)), .long (x8 >>> (x3.toInt64 &&& 63))] d_R_boundsOf_415 tw_842 yw_R_bound h xc_8 (fun z e => c_R_bound _ _ _ _ _ _ _ _ z e) rfl ⟨rfl, rfl⟩ rfl rfl rfl (fun q9 h => ?_)
                refine xo_goto d_R_boundsOf_418 ?_
                exact xo_sub [] [] rfl (kb_R_boundsOf_543 X sz ro _ h)
          · refine xo_aload_n 1 d_R_boundsOf_348 rfl rfl ?_
            refine xo_getR 12 d_R_boundsOf_349 xc_8 rfl tw_655 rfl h (fun a10 h => ?_)
            refine xo_sipush d_R_boundsOf_352 xsp_258 ?_
            refine xo_aload_n 1 d_R_boundsOf_355 rfl rfl ?_
            refine xo_getR 12 d_R_boundsOf_356 xc_8 rfl tw_655 rfl h (fun a11 h => ?_)
            refine xo_sipush d_R_boundsOf_359 xsp_256 ?_
            refine xo_aldL d_R_boundsOf_362 h (fun x12 h => ?_)
            refine xo_aload_n 1 d_R_boundsOf_363 rfl rfl ?_
            refine xo_getR 12 d_R_boundsOf_364 xc_8 rfl tw_655 rfl h (fun a13 h => ?_)
            refine xo_sipush d_R_boundsOf_367 xsp_257 ?_
            refine xo_aldL d_R_boundsOf_370 h (fun x14 h => ?_)
            refine xo_S_L0 (rest := [.int (258 : Int32), .ref a10]) [.long x12, .long x14] d_R_boundsOf_371 tw_764 yw_R_greater h (fun z e => c_R_greater _ _ _ _ _ _ _ z e) rfl ⟨rfl, rfl⟩ rfl rfl rfl (fun q15 h => ?_)
            refine xo_astL d_R_boundsOf_374 h (fun w16 h => ?_)
            refine xo_goto d_R_boundsOf_375 ?_
            exact xo_sub [] [] rfl (kb_R_boundsOf_543 X sz ro _ h)
        · refine xo_aload_n 1 d_R_boundsOf_313 rfl rfl ?_
          refine xo_getR 13 d_R_boundsOf_314 xc_8 rfl tw_656 rfl h (fun a17 h => ?_)
          refine xo_sipush d_R_boundsOf_317 xsp_258 ?_
          refine xo_aload_n 1 d_R_boundsOf_320 rfl rfl ?_
          refine xo_getR 13 d_R_boundsOf_321 xc_8 rfl tw_656 rfl h (fun a18 h => ?_)
          refine xo_sipush d_R_boundsOf_324 xsp_256 ?_
          refine xo_aldL d_R_boundsOf_327 h (fun x19 h => ?_)
          refine xo_aload_n 1 d_R_boundsOf_328 rfl rfl ?_
          refine xo_getR 13 d_R_boundsOf_329 xc_8 rfl tw_656 rfl h (fun a20 h => ?_)
          refine xo_sipush d_R_boundsOf_332 xsp_257 ?_
          refine xo_aldL d_R_boundsOf_335 h (fun x21 h => ?_)
          refine xo_S_L0 (rest := [.int (258 : Int32), .ref a17]) [.long x19, .long x21] d_R_boundsOf_336 tw_767 yw_R_lesser h (fun z e => c_R_lesser _ _ _ _ _ _ _ z e) rfl ⟨rfl, rfl⟩ rfl rfl rfl (fun q22 h => ?_)
          refine xo_astL d_R_boundsOf_339 h (fun w23 h => ?_)
          refine xo_goto d_R_boundsOf_340 ?_
          exact xo_sub [] [] rfl (kb_R_boundsOf_543 X sz ro _ h)
      · refine xo_aload_n 1 d_R_boundsOf_230 rfl rfl ?_
        refine xo_getR 13 d_R_boundsOf_231 xc_8 rfl tw_656 rfl h (fun a24 h => ?_)
        refine xo_sipush d_R_boundsOf_234 xsp_256 ?_
        refine xo_aldL d_R_boundsOf_237 h (fun x25 h => ?_)
        refine xo_lconst d_R_boundsOf_238 xlc_0 ?_
        refine xo_lceq d_R_boundsOf_239 d_R_boundsOf_240 h (fun h => ?_) (fun h => ?_)
        · exact xo_sub [1] [(0, .ref l0)] rfl (kb_R_boundsOf_267 X sz ro _ _ h)
        · refine xo_aload_n 1 d_R_boundsOf_243 rfl rfl ?_
          refine xo_getR 13 d_R_boundsOf_244 xc_8 rfl tw_656 rfl h (fun a26 h => ?_)
          refine xo_sipush d_R_boundsOf_247 xsp_257 ?_
          refine xo_aldL d_R_boundsOf_250 h (fun x27 h => ?_)
          refine xo_ldc2 d_R_boundsOf_251 tw_756 ?_
          refine xo_aload_n 1 d_R_boundsOf_254 rfl rfl ?_
          refine xo_getR 13 d_R_boundsOf_255 xc_8 rfl tw_656 rfl h (fun a28 h => ?_)
          refine xo_sipush d_R_boundsOf_258 xsp_256 ?_
          refine xo_aldL d_R_boundsOf_261 h (fun x29 h => ?_)
          refine xo_ldiv d_R_boundsOf_262 h (fun h => ?_)
          refine xo_lcgt d_R_boundsOf_263 d_R_boundsOf_264 h (fun h => ?_) (fun h => ?_)
          · exact xo_sub [] [] rfl (kb_R_boundsOf_543 X sz ro _ h)
          · exact xo_sub [1] [(0, .ref l0)] rfl (kb_R_boundsOf_267 X sz ro _ _ h)
    · refine xo_aload_n 1 d_R_boundsOf_126 rfl rfl ?_
      refine xo_getR 12 d_R_boundsOf_127 xc_8 rfl tw_655 rfl h (fun a30 h => ?_)
      refine xo_sipush d_R_boundsOf_130 xsp_256 ?_
      refine xo_aldL d_R_boundsOf_133 h (fun x31 h => ?_)
      refine xo_aload_n 1 d_R_boundsOf_134 rfl rfl ?_
      refine xo_getR 13 d_R_boundsOf_135 xc_8 rfl tw_656 rfl h (fun a32 h => ?_)
      refine xo_sipush d_R_boundsOf_138 xsp_257 ?_
      refine xo_aldL d_R_boundsOf_141 h (fun x33 h => ?_)
      refine xo_lclt d_R_boundsOf_142 d_R_boundsOf_143 h (fun h => ?_) (fun h => ?_)
      · exact xo_sub [1] [(0, .ref l0)] rfl (kb_R_boundsOf_184 X sz ro _ _ h)
      · refine xo_aload_n 1 d_R_boundsOf_146 rfl rfl ?_
        refine xo_aload_n 1 d_R_boundsOf_147 rfl rfl ?_
        refine xo_getR 12 d_R_boundsOf_148 xc_8 rfl tw_655 rfl h (fun a34 h => ?_)
        refine xo_sipush d_R_boundsOf_151 xsp_256 ?_
        refine xo_aldL d_R_boundsOf_154 h (fun x35 h => ?_)
        refine xo_aload_n 1 d_R_boundsOf_155 rfl rfl ?_
        refine xo_getR 13 d_R_boundsOf_156 xc_8 rfl tw_656 rfl h (fun a36 h => ?_)
        refine xo_sipush d_R_boundsOf_159 xsp_257 ?_
        refine xo_aldL d_R_boundsOf_162 h (fun x37 h => ?_)
        refine xo_lsub d_R_boundsOf_163 ?_
        refine xo_aload_n 1 d_R_boundsOf_164 rfl rfl ?_
        refine xo_getR 13 d_R_boundsOf_165 xc_8 rfl tw_656 rfl h (fun a38 h => ?_)
        refine xo_sipush d_R_boundsOf_168 xsp_256 ?_
        refine xo_aldL d_R_boundsOf_171 h (fun x39 h => ?_)
        refine xo_aload_n 1 d_R_boundsOf_172 rfl rfl ?_
        refine xo_getR 12 d_R_boundsOf_173 xc_8 rfl tw_655 rfl h (fun a40 h => ?_)
        refine xo_sipush d_R_boundsOf_176 xsp_257 ?_
        refine xo_aldL d_R_boundsOf_179 h (fun x41 h => ?_)
        refine xo_lsub d_R_boundsOf_180 ?_
        refine xo_V_VH (rest := []) [.long (x35 - x37), .long (x39 - x41)] d_R_boundsOf_181 tw_842 yw_R_bound h xc_8 (fun z e => c_R_bound _ _ _ _ _ _ _ _ z e) rfl ⟨rfl, rfl⟩ rfl rfl rfl (fun q42 h => ?_)
        exact xo_sub [1] [(0, .ref l0)] rfl (kb_R_boundsOf_184 X sz ro _ _ h)
  · refine xo_aload_n 1 d_R_boundsOf_18 rfl rfl ?_
    refine xo_getR 13 d_R_boundsOf_19 xc_8 rfl tw_656 rfl h (fun a43 h => ?_)
    refine xo_sipush d_R_boundsOf_22 xsp_256 ?_
    refine xo_aldL d_R_boundsOf_25 h (fun x44 h => ?_)
    refine xo_aload_n 1 d_R_boundsOf_26 rfl rfl ?_
    refine xo_getR 13 d_R_boundsOf_27 xc_8 rfl tw_656 rfl h (fun a45 h => ?_)
    refine xo_sipush d_R_boundsOf_30 xsp_257 ?_
    refine xo_aldL d_R_boundsOf_33 h (fun x46 h => ?_)
    refine xo_ladd d_R_boundsOf_34 ?_
    refine xo_ldc2 d_R_boundsOf_35 tw_756 ?_
    refine xo_lcgt d_R_boundsOf_38 d_R_boundsOf_39 h (fun h => ?_) (fun h => ?_)
    · exact xo_sub [1] [(0, .ref l0)] rfl (kb_R_boundsOf_80 X sz ro _ _ h)
    · refine xo_aload_n 1 d_R_boundsOf_42 rfl rfl ?_
      refine xo_aload_n 1 d_R_boundsOf_43 rfl rfl ?_
      refine xo_getR 12 d_R_boundsOf_44 xc_8 rfl tw_655 rfl h (fun a47 h => ?_)
      refine xo_sipush d_R_boundsOf_47 xsp_256 ?_
      refine xo_aldL d_R_boundsOf_50 h (fun x48 h => ?_)
      refine xo_aload_n 1 d_R_boundsOf_51 rfl rfl ?_
      refine xo_getR 12 d_R_boundsOf_52 xc_8 rfl tw_655 rfl h (fun a49 h => ?_)
      refine xo_sipush d_R_boundsOf_55 xsp_257 ?_
      refine xo_aldL d_R_boundsOf_58 h (fun x50 h => ?_)
      refine xo_ladd d_R_boundsOf_59 ?_
      refine xo_aload_n 1 d_R_boundsOf_60 rfl rfl ?_
      refine xo_getR 13 d_R_boundsOf_61 xc_8 rfl tw_656 rfl h (fun a51 h => ?_)
      refine xo_sipush d_R_boundsOf_64 xsp_256 ?_
      refine xo_aldL d_R_boundsOf_67 h (fun x52 h => ?_)
      refine xo_aload_n 1 d_R_boundsOf_68 rfl rfl ?_
      refine xo_getR 13 d_R_boundsOf_69 xc_8 rfl tw_656 rfl h (fun a53 h => ?_)
      refine xo_sipush d_R_boundsOf_72 xsp_257 ?_
      refine xo_aldL d_R_boundsOf_75 h (fun x54 h => ?_)
      refine xo_ladd d_R_boundsOf_76 ?_
      refine xo_V_VH (rest := []) [.long (x48 + x50), .long (x52 + x54)] d_R_boundsOf_77 tw_842 yw_R_bound h xc_8 (fun z e => c_R_bound _ _ _ _ _ _ _ _ z e) rfl ⟨rfl, rfl⟩ rfl rfl rfl (fun q55 h => ?_)
      exact xo_sub [1] [(0, .ref l0)] rfl (kb_R_boundsOf_80 X sz ro _ _ h)
theorem c_R_boundsOf (l : Launch) (D : va_G) (cT : Nat → ClassId) (sz : Nat) (w : xw) (l0 : Nat) (l1 : Int32) (ro : Unit × xw) (h : f_R_boundsOf w l0 l1 = some ro) : xM l y_R_boundsOf b_R_boundsOf 3 t_R_boundsOf R_R_boundsOf D cT [.ref l0, .int l1] w sz (none, ro.2, sz) :=
  xm_of bl_R_boundsOf rfl rfl (kb_R_boundsOf_0 (l, D, cT, [.ref l0, .int l1], w, sz) sz ro w l0 l1 h)
theorem kb_R_operate_115 (X : xX) (sz : Nat) (ro : Int32 × xw) (w : xw) (l2 : Int32) (h : f_R_operate_b115 w l2 = some ro) : k_R_operate X [(2, .int l2)] [] w sz 0 0 115 (some (.int ro.1), ro.2, sz) := by
  unfold f_R_operate_b115 at h
  refine xo_iload_n 0 d_R_operate_115 rfl rfl ?_
  exact xo_retZH d_R_operate_116 rfl rfl rfl h
theorem kb_R_operate_114 (X : xX) (sz : Nat) (ro : Int32 × xw) (w : xw) (l2 : Int32) (s0 : Nat) (s1 : Int32) (s2 : Int32) (h : f_R_operate_b114 w l2 s0 s1 s2 = some ro) : k_R_operate X [(2, .int l2)] [.int s2, .int s1, .ref s0] w sz 0 0 114 (some (.int ro.1), ro.2, sz) := by
  unfold f_R_operate_b114 at h
  refine xo_astI d_R_operate_114 h (fun w1 h => ?_)
  exact xo_sub [0] [(2, .int l2)] rfl (kb_R_operate_115 X sz ro _ _ h)
theorem kb_R_operate_0 (X : xX) (sz : Nat) (ro : Int32 × xw) (w : xw) (l0 : Nat) (l1 : Int32) (h : f_R_operate w l0 l1 = some ro) : k_R_operate X [(0, .ref l0), (1, .int l1)] [] w sz 0 0 0 (some (.int ro.1), ro.2, sz) := by
  unfold f_R_operate at h
  refine xo_aload_n 0 d_R_operate_0 rfl rfl ?_
  refine xo_sipush d_R_operate_1 xsp_258 ?_
  refine xo_V_VH (rest := []) [.int (258 : Int32)] d_R_operate_4 tw_752 yw_R_nothing h xc_8 (fun z e => c_R_nothing _ _ _ _ _ _ _ z e) rfl ⟨rfl, rfl⟩ rfl rfl rfl (fun q1 h => ?_)
  refine xo_aload_n 0 d_R_operate_7 rfl rfl ?_
  refine xo_iload_n 1 d_R_operate_8 rfl rfl ?_
  refine xo_V_VH (rest := []) [.int l1] d_R_operate_9 tw_826 yw_R_bitsOf h xc_8 (fun z e => c_R_bitsOf _ _ _ _ _ _ _ z e) rfl ⟨rfl, rfl⟩ rfl rfl rfl (fun q2 h => ?_)
  refine xo_aload_n 0 d_R_operate_12 rfl rfl ?_
  refine xo_iload_n 1 d_R_operate_13 rfl rfl ?_
  refine xo_V_VH (rest := []) [.int l1] d_R_operate_14 tw_838 yw_R_boundsOf h xc_8 (fun z e => c_R_boundsOf _ _ _ _ _ _ _ z e) rfl ⟨rfl, rfl⟩ rfl rfl rfl (fun q3 h => ?_)
  refine xo_aload_n 0 d_R_operate_17 rfl rfl ?_
  refine xo_sipush d_R_operate_18 xsp_258 ?_
  refine xo_V_IH (rest := []) [.int (258 : Int32)] d_R_operate_21 tw_760 yw_R_tighten h xc_8 (fun z e => c_R_tighten _ _ _ _ _ _ _ z e) rfl ⟨rfl, rfl⟩ rfl rfl rfl (fun q4 h => ?_)
  refine xo_istore_n [(2, .int q4.1), (0, .ref l0), (1, .int l1)] d_R_operate_24 rfl rfl rfl ?_
  refine xo_iload_n 2 d_R_operate_25 rfl rfl ?_
  refine xo_iconst d_R_operate_26 xic_1 ?_
  refine xo_icmp_ne d_R_operate_27 h (fun h => ?_) (fun h => ?_)
  · exact xo_sub [0] [(2, .int q4.1)] rfl (kb_R_operate_115 X sz ro _ _ h)
  · refine xo_aload_n 1 d_R_operate_30 rfl rfl ?_
    refine xo_sipush d_R_operate_31 xsp_257 ?_
    refine xo_V_IH (rest := []) [.int (257 : Int32)] d_R_operate_34 tw_806 yw_R_isExact h xc_8 (fun z e => c_R_isExact _ _ _ _ _ _ _ z e) rfl ⟨rfl, rfl⟩ rfl rfl rfl (fun q5 h => ?_)
    refine xo_if_eq d_R_operate_37 h (fun h => ?_) (fun h => ?_)
    · exact xo_sub [0] [(2, .int q4.1)] rfl (kb_R_operate_115 X sz ro _ _ h)
    · refine xo_aload_n 1 d_R_operate_40 rfl rfl ?_
      refine xo_getR 12 d_R_operate_41 xc_8 rfl tw_655 rfl h (fun a6 h => ?_)
      refine xo_sipush d_R_operate_44 xsp_257 ?_
      refine xo_aldL d_R_operate_47 h (fun x7 h => ?_)
      refine xo_ldc2 d_R_operate_48 tw_850 ?_
      refine xo_lcgt d_R_operate_51 d_R_operate_52 h (fun h => ?_) (fun h => ?_)
      · exact xo_sub [0] [(2, .int q4.1)] rfl (kb_R_operate_115 X sz ro _ _ h)
      · refine xo_aload_n 1 d_R_operate_55 rfl rfl ?_
        refine xo_getR 13 d_R_operate_56 xc_8 rfl tw_656 rfl h (fun a8 h => ?_)
        refine xo_sipush d_R_operate_59 xsp_256 ?_
        refine xo_aldL d_R_operate_62 h (fun x9 h => ?_)
        refine xo_aload_n 1 d_R_operate_63 rfl rfl ?_
        refine xo_getR 12 d_R_operate_64 xc_8 rfl tw_655 rfl h (fun a10 h => ?_)
        refine xo_sipush d_R_operate_67 xsp_257 ?_
        refine xo_aldL d_R_operate_70 h (fun x11 h => ?_)
        refine xo_ladd d_R_operate_71 ?_
        refine xo_ldc2 d_R_operate_72 tw_756 ?_
        refine xo_lcgt d_R_operate_75 d_R_operate_76 h (fun h => ?_) (fun h => ?_)
        · exact xo_sub [0] [(2, .int q4.1)] rfl (kb_R_operate_115 X sz ro _ _ h)
        · refine xo_aload_n 1 d_R_operate_79 rfl rfl ?_
          refine xo_getR 16 d_R_operate_80 xc_8 rfl tw_659 rfl h (fun a12 h => ?_)
          refine xo_sipush d_R_operate_83 xsp_256 ?_
          refine xo_aldI d_R_operate_86 h (fun x13 h => ?_)
          refine xo_aload_n 1 d_R_operate_87 rfl rfl ?_
          refine xo_getR 12 d_R_operate_88 xc_8 rfl tw_655 rfl h (fun a14 h => ?_)
          refine xo_sipush d_R_operate_91 xsp_257 ?_
          refine xo_aldL d_R_operate_94 h (fun x15 h => ?_)
          refine xo_l2i d_R_operate_95 ?_
          refine xo_isub d_R_operate_96 ?_
          refine xo_nmI h (fun x16 h => ?_)
          refine xo_istore_n [(3, .int x16), (2, .int q4.1), (0, .ref l0), (1, .int l1)] d_R_operate_97 rfl rfl rfl ?_
          refine xo_aload_n 2 d_R_operate_98 rfl rfl ?_
          refine xo_getR 16 d_R_operate_99 xc_8 rfl tw_659 rfl h (fun a17 h => ?_)
          refine xo_sipush d_R_operate_102 xsp_258 ?_
          refine xo_iload_n 0 d_R_operate_105 rfl rfl ?_
          refine xo_if_le d_R_operate_106 h (fun h => ?_) (fun h => ?_)
          · refine xo_iconst d_R_operate_113 xic_0 ?_
            exact xo_sub [1] [(2, .int q4.1)] rfl (kb_R_operate_114 X sz ro _ _ _ _ _ h)
          · refine xo_iload_n 0 d_R_operate_109 rfl rfl ?_
            refine xo_goto d_R_operate_110 ?_
            exact xo_sub [1] [(2, .int q4.1)] rfl (kb_R_operate_114 X sz ro _ _ _ _ _ h)
theorem c_R_operate (l : Launch) (D : va_G) (cT : Nat → ClassId) (sz : Nat) (w : xw) (l0 : Nat) (l1 : Int32) (ro : Int32 × xw) (h : f_R_operate w l0 l1 = some ro) : xM l y_R_operate b_R_operate 4 t_R_operate R_R_operate D cT [.ref l0, .int l1] w sz (some (.int ro.1), ro.2, sz) :=
  xm_of bl_R_operate rfl rfl (kb_R_operate_0 (l, D, cT, [.ref l0, .int l1], w, sz) sz ro w l0 l1 h)
theorem kb_R_meet_173 (X : xX) (sz : Nat) (ro : Unit × xw) (w : xw) (s0 : Nat) (s1 : Int32) (s2 : Int32) (h : f_R_meet_b173 w s0 s1 s2 = some ro) : k_R_meet X [] [.int s2, .int s1, .ref s0] w sz 0 0 173 (none, ro.2, sz) := by
  unfold f_R_meet_b173 at h
  refine xo_astI d_R_meet_173 h (fun w1 h => ?_)
  exact xo_retVH d_R_meet_174 rfl rfl rfl h
theorem kb_R_meet_0 (X : xX) (sz : Nat) (ro : Unit × xw) (w : xw) (l0 : Nat) (l1 : Int32) (l2 : Int32) (h : f_R_meet w l0 l1 l2 = some ro) : k_R_meet X [(0, .ref l0), (1, .int l1), (2, .int l2)] [] w sz 0 0 0 (none, ro.2, sz) := by
  unfold f_R_meet at h
  refine xo_aload_n 0 d_R_meet_0 rfl rfl ?_
  refine xo_getR 10 d_R_meet_1 xc_8 rfl tw_653 rfl h (fun a1 h => ?_)
  refine xo_iload_n 1 d_R_meet_4 rfl rfl ?_
  refine xo_aload_n 0 d_R_meet_5 rfl rfl ?_
  refine xo_getR 10 d_R_meet_6 xc_8 rfl tw_653 rfl h (fun a2 h => ?_)
  refine xo_iload_n 1 d_R_meet_9 rfl rfl ?_
  refine xo_aldI d_R_meet_10 h (fun x3 h => ?_)
  refine xo_aload_n 0 d_R_meet_11 rfl rfl ?_
  refine xo_getR 10 d_R_meet_12 xc_8 rfl tw_653 rfl h (fun a4 h => ?_)
  refine xo_iload_n 2 d_R_meet_15 rfl rfl ?_
  refine xo_aldI d_R_meet_16 h (fun x5 h => ?_)
  refine xo_iand d_R_meet_17 ?_
  refine xo_aload_n 0 d_R_meet_18 rfl rfl ?_
  refine xo_getR 11 d_R_meet_19 xc_8 rfl tw_654 rfl h (fun a6 h => ?_)
  refine xo_iload_n 1 d_R_meet_22 rfl rfl ?_
  refine xo_aldI d_R_meet_23 h (fun x7 h => ?_)
  refine xo_aload_n 0 d_R_meet_24 rfl rfl ?_
  refine xo_getR 11 d_R_meet_25 xc_8 rfl tw_654 rfl h (fun a8 h => ?_)
  refine xo_iload_n 2 d_R_meet_28 rfl rfl ?_
  refine xo_aldI d_R_meet_29 h (fun x9 h => ?_)
  refine xo_ixor d_R_meet_30 ?_
  refine xo_iconst d_R_meet_31 xic_m1 ?_
  refine xo_ixor d_R_meet_32 ?_
  refine xo_iand d_R_meet_33 ?_
  refine xo_astI d_R_meet_34 h (fun w10 h => ?_)
  refine xo_aload_n 0 d_R_meet_35 rfl rfl ?_
  refine xo_getR 11 d_R_meet_36 xc_8 rfl tw_654 rfl h (fun a11 h => ?_)
  refine xo_iload_n 1 d_R_meet_39 rfl rfl ?_
  refine xo_aload_n 0 d_R_meet_40 rfl rfl ?_
  refine xo_getR 11 d_R_meet_41 xc_8 rfl tw_654 rfl h (fun a12 h => ?_)
  refine xo_iload_n 1 d_R_meet_44 rfl rfl ?_
  refine xo_aldI d_R_meet_45 h (fun x13 h => ?_)
  refine xo_aload_n 0 d_R_meet_46 rfl rfl ?_
  refine xo_getR 10 d_R_meet_47 xc_8 rfl tw_653 rfl h (fun a14 h => ?_)
  refine xo_iload_n 1 d_R_meet_50 rfl rfl ?_
  refine xo_aldI d_R_meet_51 h (fun x15 h => ?_)
  refine xo_iand d_R_meet_52 ?_
  refine xo_astI d_R_meet_53 h (fun w16 h => ?_)
  refine xo_aload_n 0 d_R_meet_54 rfl rfl ?_
  refine xo_getR 12 d_R_meet_55 xc_8 rfl tw_655 rfl h (fun a17 h => ?_)
  refine xo_iload_n 1 d_R_meet_58 rfl rfl ?_
  refine xo_aload_n 0 d_R_meet_59 rfl rfl ?_
  refine xo_getR 12 d_R_meet_60 xc_8 rfl tw_655 rfl h (fun a18 h => ?_)
  refine xo_iload_n 1 d_R_meet_63 rfl rfl ?_
  refine xo_aldL d_R_meet_64 h (fun x19 h => ?_)
  refine xo_aload_n 0 d_R_meet_65 rfl rfl ?_
  refine xo_getR 12 d_R_meet_66 xc_8 rfl tw_655 rfl h (fun a20 h => ?_)
  refine xo_iload_n 2 d_R_meet_69 rfl rfl ?_
  refine xo_aldL d_R_meet_70 h (fun x21 h => ?_)
  refine xo_S_L0 (rest := [.int l1, .ref a17]) [.long x19, .long x21] d_R_meet_71 tw_767 yw_R_lesser h (fun z e => c_R_lesser _ _ _ _ _ _ _ z e) rfl ⟨rfl, rfl⟩ rfl rfl rfl (fun q22 h => ?_)
  refine xo_astL d_R_meet_74 h (fun w23 h => ?_)
  refine xo_aload_n 0 d_R_meet_75 rfl rfl ?_
  refine xo_getR 13 d_R_meet_76 xc_8 rfl tw_656 rfl h (fun a24 h => ?_)
  refine xo_iload_n 1 d_R_meet_79 rfl rfl ?_
  refine xo_aload_n 0 d_R_meet_80 rfl rfl ?_
  refine xo_getR 13 d_R_meet_81 xc_8 rfl tw_656 rfl h (fun a25 h => ?_)
  refine xo_iload_n 1 d_R_meet_84 rfl rfl ?_
  refine xo_aldL d_R_meet_85 h (fun x26 h => ?_)
  refine xo_aload_n 0 d_R_meet_86 rfl rfl ?_
  refine xo_getR 13 d_R_meet_87 xc_8 rfl tw_656 rfl h (fun a27 h => ?_)
  refine xo_iload_n 2 d_R_meet_90 rfl rfl ?_
  refine xo_aldL d_R_meet_91 h (fun x28 h => ?_)
  refine xo_S_L0 (rest := [.int l1, .ref a24]) [.long x26, .long x28] d_R_meet_92 tw_764 yw_R_greater h (fun z e => c_R_greater _ _ _ _ _ _ _ z e) rfl ⟨rfl, rfl⟩ rfl rfl rfl (fun q29 h => ?_)
  refine xo_astL d_R_meet_95 h (fun w30 h => ?_)
  refine xo_aload_n 0 d_R_meet_96 rfl rfl ?_
  refine xo_getR 14 d_R_meet_97 xc_8 rfl tw_657 rfl h (fun a31 h => ?_)
  refine xo_iload_n 1 d_R_meet_100 rfl rfl ?_
  refine xo_aload_n 0 d_R_meet_101 rfl rfl ?_
  refine xo_getR 14 d_R_meet_102 xc_8 rfl tw_657 rfl h (fun a32 h => ?_)
  refine xo_iload_n 1 d_R_meet_105 rfl rfl ?_
  refine xo_aldL d_R_meet_106 h (fun x33 h => ?_)
  refine xo_aload_n 0 d_R_meet_107 rfl rfl ?_
  refine xo_getR 14 d_R_meet_108 xc_8 rfl tw_657 rfl h (fun a34 h => ?_)
  refine xo_iload_n 2 d_R_meet_111 rfl rfl ?_
  refine xo_aldL d_R_meet_112 h (fun x35 h => ?_)
  refine xo_S_L0 (rest := [.int l1, .ref a31]) [.long x33, .long x35] d_R_meet_113 tw_767 yw_R_lesser h (fun z e => c_R_lesser _ _ _ _ _ _ _ z e) rfl ⟨rfl, rfl⟩ rfl rfl rfl (fun q36 h => ?_)
  refine xo_astL d_R_meet_116 h (fun w37 h => ?_)
  refine xo_aload_n 0 d_R_meet_117 rfl rfl ?_
  refine xo_getR 15 d_R_meet_118 xc_8 rfl tw_658 rfl h (fun a38 h => ?_)
  refine xo_iload_n 1 d_R_meet_121 rfl rfl ?_
  refine xo_aload_n 0 d_R_meet_122 rfl rfl ?_
  refine xo_getR 15 d_R_meet_123 xc_8 rfl tw_658 rfl h (fun a39 h => ?_)
  refine xo_iload_n 1 d_R_meet_126 rfl rfl ?_
  refine xo_aldL d_R_meet_127 h (fun x40 h => ?_)
  refine xo_aload_n 0 d_R_meet_128 rfl rfl ?_
  refine xo_getR 15 d_R_meet_129 xc_8 rfl tw_658 rfl h (fun a41 h => ?_)
  refine xo_iload_n 2 d_R_meet_132 rfl rfl ?_
  refine xo_aldL d_R_meet_133 h (fun x42 h => ?_)
  refine xo_S_L0 (rest := [.int l1, .ref a38]) [.long x40, .long x42] d_R_meet_134 tw_764 yw_R_greater h (fun z e => c_R_greater _ _ _ _ _ _ _ z e) rfl ⟨rfl, rfl⟩ rfl rfl rfl (fun q43 h => ?_)
  refine xo_astL d_R_meet_137 h (fun w44 h => ?_)
  refine xo_aload_n 0 d_R_meet_138 rfl rfl ?_
  refine xo_getR 16 d_R_meet_139 xc_8 rfl tw_659 rfl h (fun a45 h => ?_)
  refine xo_iload_n 1 d_R_meet_142 rfl rfl ?_
  refine xo_aload_n 0 d_R_meet_143 rfl rfl ?_
  refine xo_getR 16 d_R_meet_144 xc_8 rfl tw_659 rfl h (fun a46 h => ?_)
  refine xo_iload_n 1 d_R_meet_147 rfl rfl ?_
  refine xo_aldI d_R_meet_148 h (fun x47 h => ?_)
  refine xo_aload_n 0 d_R_meet_149 rfl rfl ?_
  refine xo_getR 16 d_R_meet_150 xc_8 rfl tw_659 rfl h (fun a48 h => ?_)
  refine xo_iload_n 2 d_R_meet_153 rfl rfl ?_
  refine xo_aldI d_R_meet_154 h (fun x49 h => ?_)
  refine xo_icmp_ge d_R_meet_155 h (fun h => ?_) (fun h => ?_)
  · refine xo_aload_n 0 d_R_meet_167 rfl rfl ?_
    refine xo_getR 16 d_R_meet_168 xc_8 rfl tw_659 rfl h (fun a50 h => ?_)
    refine xo_iload_n 2 d_R_meet_171 rfl rfl ?_
    refine xo_aldI d_R_meet_172 h (fun x51 h => ?_)
    exact xo_sub [] [] rfl (kb_R_meet_173 X sz ro _ _ _ _ h)
  · refine xo_aload_n 0 d_R_meet_158 rfl rfl ?_
    refine xo_getR 16 d_R_meet_159 xc_8 rfl tw_659 rfl h (fun a52 h => ?_)
    refine xo_iload_n 1 d_R_meet_162 rfl rfl ?_
    refine xo_aldI d_R_meet_163 h (fun x53 h => ?_)
    refine xo_goto d_R_meet_164 ?_
    exact xo_sub [] [] rfl (kb_R_meet_173 X sz ro _ _ _ _ h)
theorem c_R_meet (l : Launch) (D : va_G) (cT : Nat → ClassId) (sz : Nat) (w : xw) (l0 : Nat) (l1 : Int32) (l2 : Int32) (ro : Unit × xw) (h : f_R_meet w l0 l1 l2 = some ro) : xM l y_R_meet b_R_meet 3 t_R_meet R_R_meet D cT [.ref l0, .int l1, .int l2] w sz (none, ro.2, sz) :=
  xm_of bl_R_meet rfl rfl (kb_R_meet_0 (l, D, cT, [.ref l0, .int l1, .int l2], w, sz) sz ro w l0 l1 l2 h)
theorem ks_R_get_31 (X : xX) (sz : Nat) (ro : Unit × xw) (r31 : xw → Nat → Int32 → Int32 → Option (Unit × xw)) (R31 : ∀ (w : xw) (l0 : Nat) (l1 : Int32) (l2 : Int32), r31 w l0 l1 l2 = some ro → k_R_get X [(0, .ref l0), (1, .int l1), (2, .int l2)] [] w sz 0 0 31 (none, ro.2, sz)) (w : xw) (l0 : Nat) (l1 : Int32) (l2 : Int32) (h : f_R_get_s31 r31 w l0 l1 l2 = some ro) : k_R_get X [(0, .ref l0), (1, .int l1), (2, .int l2)] [] w sz 0 0 31 (none, ro.2, sz) := by
  unfold f_R_get_s31 at h
  refine xo_iload_n 2 d_R_get_31 rfl rfl ?_
  refine xo_i2l d_R_get_32 ?_
  refine xo_aload_n 0 d_R_get_33 rfl rfl ?_
  refine xo_getR 13 d_R_get_34 xc_8 rfl tw_656 rfl h (fun a1 h => ?_)
  refine xo_sipush d_R_get_37 xsp_257 ?_
  refine xo_aldL d_R_get_40 h (fun x2 h => ?_)
  refine xo_lcgt d_R_get_41 d_R_get_42 h (fun h => ?_) (fun h => ?_)
  · refine xo_aload_n 0 d_R_get_62 rfl rfl ?_
    refine xo_sipush d_R_get_63 xsp_258 ?_
    refine xo_iload_n 1 d_R_get_66 rfl rfl ?_
    refine xo_V_VH (rest := []) [.int (258 : Int32), .int l1] d_R_get_67 tw_781 yw_R_copy h xc_8 (fun z e => c_R_copy _ _ _ _ _ _ _ _ z e) rfl ⟨rfl, rfl⟩ rfl rfl rfl (fun q3 h => ?_)
    exact xo_retVH d_R_get_70 rfl rfl rfl h
  · refine xo_aload_n 0 d_R_get_45 rfl rfl ?_
    refine xo_sipush d_R_get_46 xsp_258 ?_
    refine xo_bipush d_R_get_49 xbp_6 ?_
    refine xo_iload_n 2 d_R_get_51 rfl rfl ?_
    refine xo_iadd d_R_get_52 ?_
    refine xo_V_VH (rest := []) [.int (258 : Int32), .int ((6 : Int32) + l2)] d_R_get_53 tw_855 yw_R_meet h xc_8 (fun z e => c_R_meet _ _ _ _ _ _ _ _ z e) rfl ⟨rfl, rfl⟩ rfl rfl rfl (fun q4 h => ?_)
    refine xo_iinc 2 (fun x5 => [(2, .int x5), (0, .ref l0), (1, .int l1)]) d_R_get_56 rfl rfl xic_1 (fun _ => rfl) h (fun x5 h => ?_)
    refine xo_goto d_R_get_59 ?_
    exact xo_sub [1, 2, 0] [(0, .ref l0), (1, .int l1), (2, .int x5)] rfl (R31 _ _ _ _ h)
theorem kb_R_get_31 (X : xX) (sz : Nat) (ro : Unit × xw) (n : Nat) : ∀ (w : xw) (l0 : Nat) (l1 : Int32) (l2 : Int32), f_R_get_b31 n w l0 l1 l2 = some ro → k_R_get X [(0, .ref l0), (1, .int l1), (2, .int l2)] [] w sz 0 0 31 (none, ro.2, sz) := by
  unfold f_R_get_b31
  refine xfix_ind (P := fun (r31 : xw → Nat → Int32 → Int32 → Option (Unit × xw)) => ∀ (w : xw) (l0 : Nat) (l1 : Int32) (l2 : Int32), r31 w l0 l1 l2 = some ro → k_R_get X [(0, .ref l0), (1, .int l1), (2, .int l2)] [] w sz 0 0 31 (none, ro.2, sz)) ?_ ?_ n
  · intro _ _ _ _ h
    cases h
  · intro r R w l0 l1 l2 h
    exact ks_R_get_31 X sz ro r R _ _ _ _ h
theorem kb_R_get_0 (X : xX) (sz : Nat) (ro : Unit × xw) (w : xw) (l0 : Nat) (l1 : Int32) (h : f_R_get w l0 l1 = some ro) : k_R_get X [(0, .ref l0), (1, .int l1)] [] w sz 0 0 0 (none, ro.2, sz) := by
  unfold f_R_get at h
  refine xo_aload_n 0 d_R_get_0 rfl rfl ?_
  refine xo_bipush d_R_get_1 xbp_6 ?_
  refine xo_aload_n 0 d_R_get_3 rfl rfl ?_
  refine xo_getR 12 d_R_get_4 xc_8 rfl tw_655 rfl h (fun a1 h => ?_)
  refine xo_sipush d_R_get_7 xsp_257 ?_
  refine xo_aldL d_R_get_10 h (fun x2 h => ?_)
  refine xo_l2i d_R_get_11 ?_
  refine xo_iadd d_R_get_12 ?_
  refine xo_sipush d_R_get_13 xsp_258 ?_
  refine xo_V_VH (rest := []) [.int ((6 : Int32) + x2.toInt32), .int (258 : Int32)] d_R_get_16 tw_781 yw_R_copy h xc_8 (fun z e => c_R_copy _ _ _ _ _ _ _ _ z e) rfl ⟨rfl, rfl⟩ rfl rfl rfl (fun q3 h => ?_)
  refine xo_aload_n 0 d_R_get_19 rfl rfl ?_
  refine xo_getR 12 d_R_get_20 xc_8 rfl tw_655 rfl h (fun a4 h => ?_)
  refine xo_sipush d_R_get_23 xsp_257 ?_
  refine xo_aldL d_R_get_26 h (fun x5 h => ?_)
  refine xo_l2i d_R_get_27 ?_
  refine xo_iconst d_R_get_28 xic_1 ?_
  refine xo_iadd d_R_get_29 ?_
  refine xo_nmI h (fun x6 h => ?_)
  refine xo_istore_n [(2, .int x6), (0, .ref l0), (1, .int l1)] d_R_get_30 rfl rfl rfl ?_
  exact xo_sub [1, 2, 0] [(0, .ref l0), (1, .int l1), (2, .int x6)] rfl (kb_R_get_31 X sz ro _ _ _ _ _ h)
theorem c_R_get (l : Launch) (D : va_G) (cT : Nat → ClassId) (sz : Nat) (w : xw) (l0 : Nat) (l1 : Int32) (ro : Unit × xw) (h : f_R_get w l0 l1 = some ro) : xM l y_R_get b_R_get 3 t_R_get R_R_get D cT [.ref l0, .int l1] w sz (none, ro.2, sz) :=
  xm_of bl_R_get rfl rfl (kb_R_get_0 (l, D, cT, [.ref l0, .int l1], w, sz) sz ro w l0 l1 h)
theorem kb_R_put_77 (X : xX) (sz : Nat) (ro : Unit × xw) (r40 : xw → Nat → Int32 → Option (Unit × xw)) (R40 : ∀ (w : xw) (l0 : Nat) (l1 : Int32), r40 w l0 l1 = some ro → k_R_put X [(0, .ref l0), (1, .int l1)] [] w sz 0 0 40 (none, ro.2, sz)) (w : xw) (l0 : Nat) (l1 : Int32) (h : f_R_put_b77 r40 w l0 l1 = some ro) : k_R_put X [(0, .ref l0), (1, .int l1)] [] w sz 0 0 77 (none, ro.2, sz) := by
  unfold f_R_put_b77 at h
  refine xo_iinc 1 (fun x1 => [(1, .int x1), (0, .ref l0)]) d_R_put_77 rfl rfl xic_1 (fun _ => rfl) h (fun x1 h => ?_)
  refine xo_goto d_R_put_80 ?_
  exact xo_sub [1, 0] [(0, .ref l0), (1, .int x1)] rfl (R40 _ _ _ h)
theorem ks_R_put_40 (X : xX) (sz : Nat) (ro : Unit × xw) (r40 : xw → Nat → Int32 → Option (Unit × xw)) (R40 : ∀ (w : xw) (l0 : Nat) (l1 : Int32), r40 w l0 l1 = some ro → k_R_put X [(0, .ref l0), (1, .int l1)] [] w sz 0 0 40 (none, ro.2, sz)) (w : xw) (l0 : Nat) (l1 : Int32) (h : f_R_put_s40 r40 w l0 l1 = some ro) : k_R_put X [(0, .ref l0), (1, .int l1)] [] w sz 0 0 40 (none, ro.2, sz) := by
  unfold f_R_put_s40 at h
  refine xo_iload_n 1 d_R_put_40 rfl rfl ?_
  refine xo_i2l d_R_put_41 ?_
  refine xo_aload_n 0 d_R_put_42 rfl rfl ?_
  refine xo_getR 13 d_R_put_43 xc_8 rfl tw_656 rfl h (fun a1 h => ?_)
  refine xo_sipush d_R_put_46 xsp_257 ?_
  refine xo_aldL d_R_put_49 h (fun x2 h => ?_)
  refine xo_lcgt d_R_put_50 d_R_put_51 h (fun h => ?_) (fun h => ?_)
  · exact xo_retVH d_R_put_83 rfl rfl rfl h
  · refine xo_aload_n 0 d_R_put_54 rfl rfl ?_
    refine xo_getR 9 d_R_put_55 xc_8 rfl tw_652 rfl h (fun a3 h => ?_)
    refine xo_bipush d_R_put_58 xbp_6 ?_
    refine xo_iload_n 1 d_R_put_60 rfl rfl ?_
    refine xo_iadd d_R_put_61 ?_
    refine xo_aldZ d_R_put_62 h (fun x4 h => ?_)
    refine xo_if_eq d_R_put_63 h (fun h => ?_) (fun h => ?_)
    · exact xo_sub [0, 1] [(0, .ref l0), (1, .int l1)] rfl (kb_R_put_77 X sz ro _ R40 _ _ _ h)
    · refine xo_aload_n 0 d_R_put_66 rfl rfl ?_
      refine xo_bipush d_R_put_67 xbp_6 ?_
      refine xo_iload_n 1 d_R_put_69 rfl rfl ?_
      refine xo_iadd d_R_put_70 ?_
      refine xo_sipush d_R_put_71 xsp_256 ?_
      refine xo_V_VH (rest := []) [.int ((6 : Int32) + l1), .int (256 : Int32)] d_R_put_74 tw_855 yw_R_meet h xc_8 (fun z e => c_R_meet _ _ _ _ _ _ _ _ z e) rfl ⟨rfl, rfl⟩ rfl rfl rfl (fun q5 h => ?_)
      exact xo_sub [0, 1] [(0, .ref l0), (1, .int l1)] rfl (kb_R_put_77 X sz ro _ R40 _ _ _ h)
theorem kb_R_put_40 (X : xX) (sz : Nat) (ro : Unit × xw) (n : Nat) : ∀ (w : xw) (l0 : Nat) (l1 : Int32), f_R_put_b40 n w l0 l1 = some ro → k_R_put X [(0, .ref l0), (1, .int l1)] [] w sz 0 0 40 (none, ro.2, sz) := by
  unfold f_R_put_b40
  refine xfix_ind (P := fun (r40 : xw → Nat → Int32 → Option (Unit × xw)) => ∀ (w : xw) (l0 : Nat) (l1 : Int32), r40 w l0 l1 = some ro → k_R_put X [(0, .ref l0), (1, .int l1)] [] w sz 0 0 40 (none, ro.2, sz)) ?_ ?_ n
  · intro _ _ _ h
    cases h
  · intro r R w l0 l1 h
    exact ks_R_put_40 X sz ro r R _ _ _ h
theorem kb_R_put_0 (X : xX) (sz : Nat) (ro : Unit × xw) (w : xw) (l0 : Nat) (h : f_R_put w l0 = some ro) : k_R_put X [(0, .ref l0)] [] w sz 0 0 0 (none, ro.2, sz) := by
  unfold f_R_put at h
  refine xo_aload_n 0 d_R_put_0 rfl rfl ?_
  refine xo_sipush d_R_put_1 xsp_257 ?_
  refine xo_V_IH (rest := []) [.int (257 : Int32)] d_R_put_4 tw_806 yw_R_isExact h xc_8 (fun z e => c_R_isExact _ _ _ _ _ _ _ z e) rfl ⟨rfl, rfl⟩ rfl rfl rfl (fun q1 h => ?_)
  refine xo_if_eq d_R_put_7 h (fun h => ?_) (fun h => ?_)
  · refine xo_aload_n 0 d_R_put_30 rfl rfl ?_
    refine xo_getR 12 d_R_put_31 xc_8 rfl tw_655 rfl h (fun a2 h => ?_)
    refine xo_sipush d_R_put_34 xsp_257 ?_
    refine xo_aldL d_R_put_37 h (fun x3 h => ?_)
    refine xo_l2i d_R_put_38 ?_
    refine xo_istore_n [(1, .int x3.toInt32), (0, .ref l0)] d_R_put_39 rfl rfl rfl ?_
    exact xo_sub [1, 0] [(0, .ref l0), (1, .int x3.toInt32)] rfl (kb_R_put_40 X sz ro _ _ _ _ h)
  · refine xo_aload_n 0 d_R_put_10 rfl rfl ?_
    refine xo_sipush d_R_put_11 xsp_256 ?_
    refine xo_bipush d_R_put_14 xbp_6 ?_
    refine xo_aload_n 0 d_R_put_16 rfl rfl ?_
    refine xo_getR 12 d_R_put_17 xc_8 rfl tw_655 rfl h (fun a4 h => ?_)
    refine xo_sipush d_R_put_20 xsp_257 ?_
    refine xo_aldL d_R_put_23 h (fun x5 h => ?_)
    refine xo_l2i d_R_put_24 ?_
    refine xo_iadd d_R_put_25 ?_
    refine xo_V_VH (rest := []) [.int (256 : Int32), .int ((6 : Int32) + x5.toInt32)] d_R_put_26 tw_781 yw_R_copy h xc_8 (fun z e => c_R_copy _ _ _ _ _ _ _ _ z e) rfl ⟨rfl, rfl⟩ rfl rfl rfl (fun q6 h => ?_)
    exact xo_retVH d_R_put_29 rfl rfl rfl h
theorem c_R_put (l : Launch) (D : va_G) (cT : Nat → ClassId) (sz : Nat) (w : xw) (l0 : Nat) (ro : Unit × xw) (h : f_R_put w l0 = some ro) : xM l y_R_put b_R_put 2 t_R_put R_R_put D cT [.ref l0] w sz (none, ro.2, sz) :=
  xm_of bl_R_put rfl rfl (kb_R_put_0 (l, D, cT, [.ref l0], w, sz) sz ro w l0 h)
theorem kb_R_load_76 (X : xX) (sz : Nat) (ro : Unit × xw) (w : xw) (l0 : Nat) (l1 : Int32) (h : f_R_load_b76 w l0 l1 = some ro) : k_R_load X [(0, .ref l0), (1, .int l1)] [] w sz 0 0 76 (none, ro.2, sz) := by
  unfold f_R_load_b76 at h
  refine xo_aload_n 0 d_R_load_76 rfl rfl ?_
  refine xo_sipush d_R_load_77 xsp_258 ?_
  refine xo_iload_n 1 d_R_load_80 rfl rfl ?_
  refine xo_V_VH (rest := []) [.int (258 : Int32), .int l1] d_R_load_81 tw_781 yw_R_copy h xc_8 (fun z e => c_R_copy _ _ _ _ _ _ _ _ z e) rfl ⟨rfl, rfl⟩ rfl rfl rfl (fun q1 h => ?_)
  exact xo_retVH d_R_load_84 rfl rfl rfl h
theorem kb_R_load_33 (X : xX) (sz : Nat) (ro : Unit × xw) (w : xw) (l0 : Nat) (l1 : Int32) (s0 : Nat) (s1 : Int32) (s2 : Int64) (h : f_R_load_b33 w l0 l1 s0 s1 s2 = some ro) : k_R_load X [(0, .ref l0), (1, .int l1)] [.long s2, .int s1, .ref s0] w sz 0 0 33 (none, ro.2, sz) := by
  unfold f_R_load_b33 at h
  refine xo_astL d_R_load_33 h (fun w1 h => ?_)
  refine xo_aload_n 0 d_R_load_34 rfl rfl ?_
  refine xo_getR 14 d_R_load_35 xc_8 rfl tw_657 rfl h (fun a2 h => ?_)
  refine xo_sipush d_R_load_38 xsp_258 ?_
  refine xo_lconst d_R_load_41 xlc_0 ?_
  refine xo_astL d_R_load_42 h (fun w3 h => ?_)
  refine xo_aload_n 0 d_R_load_43 rfl rfl ?_
  refine xo_getR 15 d_R_load_44 xc_8 rfl tw_658 rfl h (fun a4 h => ?_)
  refine xo_sipush d_R_load_47 xsp_258 ?_
  refine xo_aload_n 0 d_R_load_50 rfl rfl ?_
  refine xo_getR 13 d_R_load_51 xc_8 rfl tw_656 rfl h (fun a5 h => ?_)
  refine xo_sipush d_R_load_54 xsp_258 ?_
  refine xo_aldL d_R_load_57 h (fun x6 h => ?_)
  refine xo_astL d_R_load_58 h (fun w7 h => ?_)
  refine xo_aload_n 0 d_R_load_59 rfl rfl ?_
  refine xo_sipush d_R_load_60 xsp_258 ?_
  refine xo_V_IH (rest := []) [.int (258 : Int32)] d_R_load_63 tw_760 yw_R_tighten h xc_8 (fun z e => c_R_tighten _ _ _ _ _ _ _ z e) rfl ⟨rfl, rfl⟩ rfl rfl rfl (fun q8 h => ?_)
  refine xo_istore_n [(3, .int q8.1), (0, .ref l0), (1, .int l1)] d_R_load_66 rfl rfl rfl ?_
  refine xo_aload_n 1 d_R_load_67 rfl rfl ?_
  refine xo_getR 9 d_R_load_68 xc_8 rfl tw_652 rfl h (fun a9 h => ?_)
  refine xo_sipush d_R_load_71 xsp_258 ?_
  refine xo_iload_n 0 d_R_load_74 rfl rfl ?_
  refine xo_astZ d_R_load_75 h (fun w10 h => ?_)
  exact xo_sub [1, 2] [(0, .ref l0), (1, .int l1)] rfl (kb_R_load_76 X sz ro _ _ _ h)
theorem kb_R_load_0 (X : xX) (sz : Nat) (ro : Unit × xw) (w : xw) (l0 : Nat) (l1 : Int32) (l2 : Int32) (h : f_R_load w l0 l1 l2 = some ro) : k_R_load X [(0, .ref l0), (1, .int l1), (2, .int l2)] [] w sz 0 0 0 (none, ro.2, sz) := by
  unfold f_R_load at h
  refine xo_aload_n 0 d_R_load_0 rfl rfl ?_
  refine xo_sipush d_R_load_1 xsp_258 ?_
  refine xo_V_VH (rest := []) [.int (258 : Int32)] d_R_load_4 tw_752 yw_R_nothing h xc_8 (fun z e => c_R_nothing _ _ _ _ _ _ _ z e) rfl ⟨rfl, rfl⟩ rfl rfl rfl (fun q1 h => ?_)
  refine xo_iload_n 2 d_R_load_7 rfl rfl ?_
  refine xo_iconst d_R_load_8 xic_4 ?_
  refine xo_icmp_ge d_R_load_9 h (fun h => ?_) (fun h => ?_)
  · exact xo_sub [0, 1] [(0, .ref l0), (1, .int l1)] rfl (kb_R_load_76 X sz ro _ _ _ h)
  · refine xo_aload_n 0 d_R_load_12 rfl rfl ?_
    refine xo_getR 13 d_R_load_13 xc_8 rfl tw_656 rfl h (fun a2 h => ?_)
    refine xo_sipush d_R_load_16 xsp_258 ?_
    refine xo_iload_n 2 d_R_load_19 rfl rfl ?_
    refine xo_iconst d_R_load_20 xic_1 ?_
    refine xo_icmp_ne d_R_load_21 h (fun h => ?_) (fun h => ?_)
    · refine xo_ldc2 d_R_load_30 tw_867 ?_
      exact xo_sub [0, 1] [(0, .ref l0), (1, .int l1)] rfl (kb_R_load_33 X sz ro _ _ _ _ _ _ h)
    · refine xo_ldc2 d_R_load_24 tw_743 ?_
      refine xo_goto d_R_load_27 ?_
      exact xo_sub [0, 1] [(0, .ref l0), (1, .int l1)] rfl (kb_R_load_33 X sz ro _ _ _ _ _ _ h)
theorem c_R_load (l : Launch) (D : va_G) (cT : Nat → ClassId) (sz : Nat) (w : xw) (l0 : Nat) (l1 : Int32) (l2 : Int32) (ro : Unit × xw) (h : f_R_load w l0 l1 l2 = some ro) : xM l y_R_load b_R_load 4 t_R_load R_R_load D cT [.ref l0, .int l1, .int l2] w sz (none, ro.2, sz) :=
  xm_of bl_R_load rfl rfl (kb_R_load_0 (l, D, cT, [.ref l0, .int l1, .int l2], w, sz) sz ro w l0 l1 l2 h)
theorem kb_R_pass_277 (X : xX) (sz : Nat) (ro : Int32 × xw) (w : xw) (l5 : Int32) (s0 : Nat) (s1 : Int32) (h : f_R_pass_b277 w l5 s0 s1 = some ro) : k_R_pass X [(5, .int l5)] [.int s1, .ref s0] w sz 0 0 277 (some (.int ro.1), ro.2, sz) := by
  unfold f_R_pass_b277 at h
  refine xo_putI 17 d_R_pass_277 xc_8 rfl tw_660 rfl rfl rfl rfl h (fun w1 h => ?_)
  refine xo_iload 0 d_R_pass_280 rfl ?_
  exact xo_retZH d_R_pass_282 rfl rfl rfl h
theorem kb_R_pass_259 (X : xX) (sz : Nat) (ro : Int32 × xw) (w : xw) (l0 : Nat) (l1 : Int32) (l4 : Int32) (l5 : Int32) (h : f_R_pass_b259 w l0 l1 l4 l5 = some ro) : k_R_pass X [(0, .ref l0), (1, .int l1), (4, .int l4), (5, .int l5)] [] w sz 0 0 259 (some (.int ro.1), ro.2, sz) := by
  unfold f_R_pass_b259 at h
  refine xo_aload_n 0 d_R_pass_259 rfl rfl ?_
  refine xo_iload_n 1 d_R_pass_260 rfl rfl ?_
  refine xo_bipush d_R_pass_261 xbp_22 ?_
  refine xo_icmp_ne d_R_pass_263 h (fun h => ?_) (fun h => ?_)
  · refine xo_aload_n 0 d_R_pass_271 rfl rfl ?_
    refine xo_getI 17 d_R_pass_272 xc_8 rfl tw_660 rfl h (fun x1 h => ?_)
    refine xo_iconst d_R_pass_275 xic_1 ?_
    refine xo_iadd d_R_pass_276 ?_
    exact xo_sub [3] [(5, .int l5)] rfl (kb_R_pass_277 X sz ro _ _ _ _ h)
  · refine xo_iload 2 d_R_pass_266 rfl ?_
    refine xo_goto d_R_pass_268 ?_
    exact xo_sub [3] [(5, .int l5)] rfl (kb_R_pass_277 X sz ro _ _ _ _ h)
theorem kb_R_pass_258 (X : xX) (sz : Nat) (ro : Int32 × xw) (w : xw) (l0 : Nat) (l1 : Int32) (l4 : Int32) (l5 : Int32) (s0 : Nat) (s1 : Int32) (s2 : Int32) (h : f_R_pass_b258 w l0 l1 l4 l5 s0 s1 s2 = some ro) : k_R_pass X [(0, .ref l0), (1, .int l1), (4, .int l4), (5, .int l5)] [.int s2, .int s1, .ref s0] w sz 0 0 258 (some (.int ro.1), ro.2, sz) := by
  unfold f_R_pass_b258 at h
  refine xo_astI d_R_pass_258 h (fun w1 h => ?_)
  exact xo_sub [0, 1, 2, 3] [(0, .ref l0), (1, .int l1), (4, .int l4), (5, .int l5)] rfl (kb_R_pass_259 X sz ro _ _ _ _ _ h)
theorem kb_R_pass_111 (X : xX) (sz : Nat) (ro : Int32 × xw) (w : xw) (l0 : Nat) (l1 : Int32) (l2 : Int32) (l3 : Int32) (l4 : Int32) (h : f_R_pass_b111 w l0 l1 l2 l3 l4 = some ro) : k_R_pass X [(0, .ref l0), (1, .int l1), (2, .int l2), (3, .int l3), (4, .int l4)] [] w sz 0 0 111 (some (.int ro.1), ro.2, sz) := by
  unfold f_R_pass_b111 at h
  refine xo_iconst d_R_pass_111 xic_1 ?_
  refine xo_nmI h (fun x1 h => ?_)
  refine xo_istore [(5, .int x1), (0, .ref l0), (1, .int l1), (2, .int l2), (3, .int l3), (4, .int l4)] d_R_pass_112 rfl rfl ?_
  refine xo_iload_n 2 d_R_pass_114 rfl rfl ?_
  refine xo_if_ne d_R_pass_115 h (fun h => ?_) (fun h => ?_)
  · refine xo_iload_n 2 d_R_pass_129 rfl rfl ?_
    refine xo_bipush d_R_pass_130 xbp_11 ?_
    refine xo_icmp_gt d_R_pass_132 h (fun h => ?_) (fun h => ?_)
    · refine xo_iload_n 2 d_R_pass_153 rfl rfl ?_
      refine xo_bipush d_R_pass_154 xbp_12 ?_
      refine xo_icmp_ne d_R_pass_156 h (fun h => ?_) (fun h => ?_)
      · refine xo_iload_n 2 d_R_pass_167 rfl rfl ?_
        refine xo_bipush d_R_pass_168 xbp_13 ?_
        refine xo_icmp_ne d_R_pass_170 h (fun h => ?_) (fun h => ?_)
        · refine xo_iload_n 2 d_R_pass_180 rfl rfl ?_
          refine xo_bipush d_R_pass_181 xbp_14 ?_
          refine xo_icmp_ne d_R_pass_183 h (fun h => ?_) (fun h => ?_)
          · refine xo_iload_n 2 d_R_pass_203 rfl rfl ?_
            refine xo_bipush d_R_pass_204 xbp_15 ?_
            refine xo_icmp_ne d_R_pass_206 h (fun h => ?_) (fun h => ?_)
            · exact xo_sub [1, 2, 5, 0] [(0, .ref l0), (1, .int l1), (4, .int l4), (5, .int x1)] rfl (kb_R_pass_259 X sz ro _ _ _ _ _ h)
            · refine xo_aload_n 1 d_R_pass_209 rfl rfl ?_
              refine xo_iload 5 d_R_pass_210 rfl ?_
              refine xo_iconst d_R_pass_212 xic_m1 ?_
              refine xo_iconst d_R_pass_213 xic_m1 ?_
              refine xo_V_VH (rest := []) [.int l4, .int (-1 : Int32), .int (-1 : Int32)] d_R_pass_214 tw_818 yw_R_wait h xc_8 (fun z e => c_R_wait _ _ _ _ _ _ _ _ _ z e) rfl ⟨rfl, rfl⟩ rfl rfl rfl (fun q2 h => ?_)
              refine xo_aload_n 1 d_R_pass_217 rfl rfl ?_
              refine xo_getR 16 d_R_pass_218 xc_8 rfl tw_659 rfl h (fun a3 h => ?_)
              refine xo_iload_n 4 d_R_pass_221 rfl rfl ?_
              refine xo_aload_n 1 d_R_pass_222 rfl rfl ?_
              refine xo_getR 16 d_R_pass_223 xc_8 rfl tw_659 rfl h (fun a4 h => ?_)
              refine xo_iload_n 4 d_R_pass_226 rfl rfl ?_
              refine xo_aldI d_R_pass_227 h (fun x5 h => ?_)
              refine xo_aload_n 1 d_R_pass_228 rfl rfl ?_
              refine xo_getR 5 d_R_pass_229 xc_8 rfl tw_648 rfl h (fun a6 h => ?_)
              refine xo_aload_n 1 d_R_pass_232 rfl rfl ?_
              refine xo_getI 17 d_R_pass_233 xc_8 rfl tw_660 rfl h (fun x7 h => ?_)
              refine xo_aldI d_R_pass_236 h (fun x8 h => ?_)
              refine xo_icmp_le d_R_pass_237 h (fun h => ?_) (fun h => ?_)
              · refine xo_aload_n 1 d_R_pass_249 rfl rfl ?_
                refine xo_getR 5 d_R_pass_250 xc_8 rfl tw_648 rfl h (fun a9 h => ?_)
                refine xo_aload_n 1 d_R_pass_253 rfl rfl ?_
                refine xo_getI 17 d_R_pass_254 xc_8 rfl tw_660 rfl h (fun x10 h => ?_)
                refine xo_aldI d_R_pass_257 h (fun x11 h => ?_)
                exact xo_sub [1, 2, 5, 0] [(0, .ref l0), (1, .int l1), (4, .int l4), (5, .int x1)] rfl (kb_R_pass_258 X sz ro _ _ _ _ _ _ _ _ h)
              · refine xo_aload_n 1 d_R_pass_240 rfl rfl ?_
                refine xo_getR 16 d_R_pass_241 xc_8 rfl tw_659 rfl h (fun a12 h => ?_)
                refine xo_iload_n 4 d_R_pass_244 rfl rfl ?_
                refine xo_aldI d_R_pass_245 h (fun x13 h => ?_)
                refine xo_goto d_R_pass_246 ?_
                exact xo_sub [1, 2, 5, 0] [(0, .ref l0), (1, .int l1), (4, .int l4), (5, .int x1)] rfl (kb_R_pass_258 X sz ro _ _ _ _ _ _ _ _ h)
          · refine xo_aload_n 1 d_R_pass_186 rfl rfl ?_
            refine xo_iload_n 3 d_R_pass_187 rfl rfl ?_
            refine xo_aload_n 1 d_R_pass_188 rfl rfl ?_
            refine xo_getR 6 d_R_pass_189 xc_8 rfl tw_649 rfl h (fun a14 h => ?_)
            refine xo_aload_n 1 d_R_pass_192 rfl rfl ?_
            refine xo_getI 17 d_R_pass_193 xc_8 rfl tw_660 rfl h (fun x15 h => ?_)
            refine xo_aldI d_R_pass_196 h (fun x16 h => ?_)
            refine xo_V_VH (rest := []) [.int l2, .int x16] d_R_pass_197 tw_863 yw_R_load h xc_8 (fun z e => c_R_load _ _ _ _ _ _ _ _ z e) rfl ⟨rfl, rfl⟩ rfl rfl rfl (fun q17 h => ?_)
            refine xo_goto d_R_pass_200 ?_
            exact xo_sub [1, 2, 5, 0] [(0, .ref l0), (1, .int l1), (4, .int l4), (5, .int x1)] rfl (kb_R_pass_259 X sz ro _ _ _ _ _ h)
        · refine xo_aload_n 1 d_R_pass_173 rfl rfl ?_
          refine xo_V_VH (rest := []) [] d_R_pass_174 tw_859 yw_R_put h xc_8 (fun z e => c_R_put _ _ _ _ _ _ z e) rfl ⟨rfl, rfl⟩ rfl rfl rfl (fun q18 h => ?_)
          refine xo_goto d_R_pass_177 ?_
          exact xo_sub [1, 2, 5, 0] [(0, .ref l0), (1, .int l1), (4, .int l4), (5, .int x1)] rfl (kb_R_pass_259 X sz ro _ _ _ _ _ h)
      · refine xo_aload_n 1 d_R_pass_159 rfl rfl ?_
        refine xo_iload_n 3 d_R_pass_160 rfl rfl ?_
        refine xo_V_VH (rest := []) [.int l2] d_R_pass_161 tw_851 yw_R_get h xc_8 (fun z e => c_R_get _ _ _ _ _ _ _ z e) rfl ⟨rfl, rfl⟩ rfl rfl rfl (fun q19 h => ?_)
        refine xo_goto d_R_pass_164 ?_
        exact xo_sub [1, 2, 5, 0] [(0, .ref l0), (1, .int l1), (4, .int l4), (5, .int x1)] rfl (kb_R_pass_259 X sz ro _ _ _ _ _ h)
    · refine xo_aload_n 1 d_R_pass_135 rfl rfl ?_
      refine xo_iload_n 2 d_R_pass_136 rfl rfl ?_
      refine xo_V_IH (rest := []) [.int l1] d_R_pass_137 tw_822 yw_R_operate h xc_8 (fun z e => c_R_operate _ _ _ _ _ _ _ z e) rfl ⟨rfl, rfl⟩ rfl rfl rfl (fun q20 h => ?_)
      refine xo_istore [(5, .int q20.1), (0, .ref l0), (1, .int l1), (2, .int l2), (3, .int l3), (4, .int l4)] d_R_pass_140 rfl rfl ?_
      refine xo_aload_n 1 d_R_pass_142 rfl rfl ?_
      refine xo_sipush d_R_pass_143 xsp_258 ?_
      refine xo_iload_n 3 d_R_pass_146 rfl rfl ?_
      refine xo_V_VH (rest := []) [.int (258 : Int32), .int l2] d_R_pass_147 tw_781 yw_R_copy h xc_8 (fun z e => c_R_copy _ _ _ _ _ _ _ _ z e) rfl ⟨rfl, rfl⟩ rfl rfl rfl (fun q21 h => ?_)
      refine xo_goto d_R_pass_150 ?_
      exact xo_sub [1, 2, 5, 0] [(0, .ref l0), (1, .int l1), (4, .int l4), (5, .int q20.1)] rfl (kb_R_pass_259 X sz ro _ _ _ _ _ h)
  · refine xo_aload_n 1 d_R_pass_118 rfl rfl ?_
    refine xo_sipush d_R_pass_119 xsp_257 ?_
    refine xo_iload_n 3 d_R_pass_122 rfl rfl ?_
    refine xo_V_VH (rest := []) [.int (257 : Int32), .int l2] d_R_pass_123 tw_781 yw_R_copy h xc_8 (fun z e => c_R_copy _ _ _ _ _ _ _ _ z e) rfl ⟨rfl, rfl⟩ rfl rfl rfl (fun q22 h => ?_)
    refine xo_goto d_R_pass_126 ?_
    exact xo_sub [1, 2, 5, 0] [(0, .ref l0), (1, .int l1), (4, .int l4), (5, .int x1)] rfl (kb_R_pass_259 X sz ro _ _ _ _ _ h)
theorem ks_R_pass_62 (X : xX) (sz : Nat) (ro : Int32 × xw) (r62 : xw → Nat → Int32 → Option (Int32 × xw)) (R62 : ∀ (w : xw) (l0 : Nat) (l5 : Int32), r62 w l0 l5 = some ro → k_R_pass X [(0, .ref l0), (5, .int l5)] [] w sz 0 0 62 (some (.int ro.1), ro.2, sz)) (w : xw) (l0 : Nat) (l5 : Int32) (h : f_R_pass_s62 r62 w l0 l5 = some ro) : k_R_pass X [(0, .ref l0), (5, .int l5)] [] w sz 0 0 62 (some (.int ro.1), ro.2, sz) := by
  unfold f_R_pass_s62 at h
  refine xo_iload 1 d_R_pass_62 rfl ?_
  refine xo_bipush d_R_pass_64 xbp_6 ?_
  refine xo_icmp_ge d_R_pass_66 h (fun h => ?_) (fun h => ?_)
  · refine xo_iconst d_R_pass_87 xic_0 ?_
    exact xo_retZH d_R_pass_88 rfl rfl rfl h
  · refine xo_aload_n 0 d_R_pass_69 rfl rfl ?_
    refine xo_iload 1 d_R_pass_70 rfl ?_
    refine xo_sipush d_R_pass_72 xsp_250 ?_
    refine xo_iload 1 d_R_pass_75 rfl ?_
    refine xo_iadd d_R_pass_77 ?_
    refine xo_V_VH (rest := []) [.int l5, .int ((250 : Int32) + l5)] d_R_pass_78 tw_781 yw_R_copy h xc_8 (fun z e => c_R_copy _ _ _ _ _ _ _ _ z e) rfl ⟨rfl, rfl⟩ rfl rfl rfl (fun q1 h => ?_)
    refine xo_iinc 1 (fun x2 => [(5, .int x2), (0, .ref l0)]) d_R_pass_81 rfl rfl xic_1 (fun _ => rfl) h (fun x2 h => ?_)
    refine xo_goto d_R_pass_84 ?_
    exact xo_sub [1, 0] [(0, .ref l0), (5, .int x2)] rfl (R62 _ _ _ h)
theorem kb_R_pass_62 (X : xX) (sz : Nat) (ro : Int32 × xw) (n : Nat) : ∀ (w : xw) (l0 : Nat) (l5 : Int32), f_R_pass_b62 n w l0 l5 = some ro → k_R_pass X [(0, .ref l0), (5, .int l5)] [] w sz 0 0 62 (some (.int ro.1), ro.2, sz) := by
  unfold f_R_pass_b62
  refine xfix_ind (P := fun (r62 : xw → Nat → Int32 → Option (Int32 × xw)) => ∀ (w : xw) (l0 : Nat) (l5 : Int32), r62 w l0 l5 = some ro → k_R_pass X [(0, .ref l0), (5, .int l5)] [] w sz 0 0 62 (some (.int ro.1), ro.2, sz)) ?_ ?_ n
  · intro _ _ _ h
    cases h
  · intro r R w l0 l5 h
    exact ks_R_pass_62 X sz ro r R _ _ _ h
theorem kb_R_pass_0 (X : xX) (sz : Nat) (ro : Int32 × xw) (w : xw) (l0 : Nat) (h : f_R_pass w l0 = some ro) : k_R_pass X [(0, .ref l0)] [] w sz 0 0 0 (some (.int ro.1), ro.2, sz) := by
  unfold f_R_pass at h
  refine xo_aload_n 0 d_R_pass_0 rfl rfl ?_
  refine xo_getR 2 d_R_pass_1 xc_8 rfl tw_645 rfl h (fun a1 h => ?_)
  refine xo_aload_n 0 d_R_pass_4 rfl rfl ?_
  refine xo_getI 17 d_R_pass_5 xc_8 rfl tw_660 rfl h (fun x2 h => ?_)
  refine xo_aldI d_R_pass_8 h (fun x3 h => ?_)
  refine xo_istore_n [(1, .int x3), (0, .ref l0)] d_R_pass_9 rfl rfl rfl ?_
  refine xo_aload_n 1 d_R_pass_10 rfl rfl ?_
  refine xo_getR 3 d_R_pass_11 xc_8 rfl tw_646 rfl h (fun a4 h => ?_)
  refine xo_aload_n 1 d_R_pass_14 rfl rfl ?_
  refine xo_getI 17 d_R_pass_15 xc_8 rfl tw_660 rfl h (fun x5 h => ?_)
  refine xo_aldI d_R_pass_18 h (fun x6 h => ?_)
  refine xo_istore_n [(2, .int x6), (1, .int x3), (0, .ref l0)] d_R_pass_19 rfl rfl rfl ?_
  refine xo_aload_n 2 d_R_pass_20 rfl rfl ?_
  refine xo_getR 4 d_R_pass_21 xc_8 rfl tw_647 rfl h (fun a7 h => ?_)
  refine xo_aload_n 2 d_R_pass_24 rfl rfl ?_
  refine xo_getI 17 d_R_pass_25 xc_8 rfl tw_660 rfl h (fun x8 h => ?_)
  refine xo_aldI d_R_pass_28 h (fun x9 h => ?_)
  refine xo_istore_n [(3, .int x9), (2, .int x6), (1, .int x3), (0, .ref l0)] d_R_pass_29 rfl rfl rfl ?_
  refine xo_aload_n 3 d_R_pass_30 rfl rfl ?_
  refine xo_getI 17 d_R_pass_31 xc_8 rfl tw_660 rfl h (fun x10 h => ?_)
  refine xo_iconst d_R_pass_34 xic_1 ?_
  refine xo_iadd d_R_pass_35 ?_
  refine xo_aload_n 3 d_R_pass_36 rfl rfl ?_
  refine xo_getR 6 d_R_pass_37 xc_8 rfl tw_649 rfl h (fun a11 h => ?_)
  refine xo_aload_n 3 d_R_pass_40 rfl rfl ?_
  refine xo_getI 17 d_R_pass_41 xc_8 rfl tw_660 rfl h (fun x12 h => ?_)
  refine xo_aldI d_R_pass_44 h (fun x13 h => ?_)
  refine xo_iadd d_R_pass_45 ?_
  refine xo_nmI h (fun x14 h => ?_)
  refine xo_istore [(4, .int x14), (3, .int x9), (2, .int x6), (1, .int x3), (0, .ref l0)] d_R_pass_46 rfl rfl ?_
  refine xo_iload_n 3 d_R_pass_48 rfl rfl ?_
  refine xo_bipush d_R_pass_49 xbp_23 ?_
  refine xo_icmp_ne d_R_pass_51 h (fun h => ?_) (fun h => ?_)
  · refine xo_iload_n 3 d_R_pass_89 rfl rfl ?_
    refine xo_bipush d_R_pass_90 xbp_16 ?_
    refine xo_icmp_lt d_R_pass_92 h (fun h => ?_) (fun h => ?_)
    · exact xo_sub [4, 3, 2, 1, 0] [(0, .ref l0), (1, .int x3), (2, .int x6), (3, .int x9), (4, .int x14)] rfl (kb_R_pass_111 X sz ro _ _ _ _ _ _ h)
    · refine xo_iload_n 3 d_R_pass_95 rfl rfl ?_
      refine xo_bipush d_R_pass_96 xbp_21 ?_
      refine xo_icmp_gt d_R_pass_98 h (fun h => ?_) (fun h => ?_)
      · exact xo_sub [4, 3, 2, 1, 0] [(0, .ref l0), (1, .int x3), (2, .int x6), (3, .int x9), (4, .int x14)] rfl (kb_R_pass_111 X sz ro _ _ _ _ _ _ h)
      · refine xo_aload_n 4 d_R_pass_101 rfl rfl ?_
        refine xo_iload_n 3 d_R_pass_102 rfl rfl ?_
        refine xo_iload_n 2 d_R_pass_103 rfl rfl ?_
        refine xo_iload_n 1 d_R_pass_104 rfl rfl ?_
        refine xo_iload 0 d_R_pass_105 rfl ?_
        refine xo_V_IH (rest := []) [.int x3, .int x6, .int x9, .int x14] d_R_pass_107 tw_794 yw_R_part h xc_8 (fun z e => c_R_part _ _ _ _ _ _ _ _ _ _ z e) rfl ⟨rfl, rfl⟩ rfl rfl rfl (fun q15 h => ?_)
        exact xo_retZH d_R_pass_110 rfl rfl rfl h
  · refine xo_aload_n 4 d_R_pass_54 rfl rfl ?_
    refine xo_iconst d_R_pass_55 xic_1 ?_
    refine xo_putZ 19 d_R_pass_56 xc_8 rfl tw_662 rfl rfl rfl h (fun w16 h => ?_)
    refine xo_iconst d_R_pass_59 xic_0 ?_
    refine xo_nmI h (fun x17 h => ?_)
    refine xo_istore [(5, .int x17), (4, .int x14), (3, .int x9), (2, .int x6), (1, .int x3), (0, .ref l0)] d_R_pass_60 rfl rfl ?_
    exact xo_sub [5, 0] [(0, .ref l0), (5, .int x17)] rfl (kb_R_pass_62 X sz ro _ _ _ _ h)
theorem c_R_pass (l : Launch) (D : va_G) (cT : Nat → ClassId) (sz : Nat) (w : xw) (l0 : Nat) (ro : Int32 × xw) (h : f_R_pass w l0 = some ro) : xM l y_R_pass b_R_pass 6 t_R_pass R_R_pass D cT [.ref l0] w sz (some (.int ro.1), ro.2, sz) :=
  xm_of bl_R_pass rfl rfl (kb_R_pass_0 (l, D, cT, [.ref l0], w, sz) sz ro w l0 h)
theorem kb_R_walk_143 (X : xX) (sz : Nat) (ro : Int32 × xw) (r31 : xw → Nat → Int32 → Option (Int32 × xw)) (R31 : ∀ (w : xw) (l0 : Nat) (l1 : Int32), r31 w l0 l1 = some ro → k_R_walk X [(0, .ref l0), (1, .int l1)] [] w sz 0 0 31 (some (.int ro.1), ro.2, sz)) (w : xw) (l0 : Nat) (l1 : Int32) (h : f_R_walk_b143 r31 w l0 l1 = some ro) : k_R_walk X [(0, .ref l0), (1, .int l1)] [] w sz 0 0 143 (some (.int ro.1), ro.2, sz) := by
  unfold f_R_walk_b143 at h
  refine xo_goto d_R_walk_143 ?_
  exact xo_sub [0, 1] [(0, .ref l0), (1, .int l1)] rfl (R31 _ _ _ h)
theorem kb_R_walk_140 (X : xX) (sz : Nat) (ro : Int32 × xw) (r31 : xw → Nat → Int32 → Option (Int32 × xw)) (R31 : ∀ (w : xw) (l0 : Nat) (l1 : Int32), r31 w l0 l1 = some ro → k_R_walk X [(0, .ref l0), (1, .int l1)] [] w sz 0 0 31 (some (.int ro.1), ro.2, sz)) (w : xw) (l0 : Nat) (l1 : Int32) (s0 : Nat) (s1 : Int32) (h : f_R_walk_b140 r31 w l0 l1 s0 s1 = some ro) : k_R_walk X [(0, .ref l0), (1, .int l1)] [.int s1, .ref s0] w sz 0 0 140 (some (.int ro.1), ro.2, sz) := by
  unfold f_R_walk_b140 at h
  refine xo_putI 20 d_R_walk_140 xc_8 rfl tw_663 rfl rfl rfl rfl h (fun w1 h => ?_)
  exact xo_sub [0, 1] [(0, .ref l0), (1, .int l1)] rfl (kb_R_walk_143 X sz ro _ R31 _ _ _ h)
theorem ks_R_walk_86 (X : xX) (sz : Nat) (ro : Int32 × xw) (r31 : xw → Nat → Int32 → Option (Int32 × xw)) (R31 : ∀ (w : xw) (l0 : Nat) (l1 : Int32), r31 w l0 l1 = some ro → k_R_walk X [(0, .ref l0), (1, .int l1)] [] w sz 0 0 31 (some (.int ro.1), ro.2, sz)) (r86 : xw → Nat → Int32 → Int32 → Option (Int32 × xw)) (R86 : ∀ (w : xw) (l0 : Nat) (l1 : Int32) (l3 : Int32), r86 w l0 l1 l3 = some ro → k_R_walk X [(0, .ref l0), (1, .int l1), (3, .int l3)] [] w sz 0 0 86 (some (.int ro.1), ro.2, sz)) (w : xw) (l0 : Nat) (l1 : Int32) (l3 : Int32) (h : f_R_walk_s86 r31 r86 w l0 l1 l3 = some ro) : k_R_walk X [(0, .ref l0), (1, .int l1), (3, .int l3)] [] w sz 0 0 86 (some (.int ro.1), ro.2, sz) := by
  unfold f_R_walk_s86 at h
  refine xo_iload_n 2 d_R_walk_86 rfl rfl ?_
  refine xo_bipush d_R_walk_87 xbp_10 ?_
  refine xo_icmp_ge d_R_walk_89 h (fun h => ?_) (fun h => ?_)
  · refine xo_aload_n 0 d_R_walk_112 rfl rfl ?_
    refine xo_aload_n 0 d_R_walk_113 rfl rfl ?_
    refine xo_getR 21 d_R_walk_114 xc_8 rfl tw_664 rfl h (fun a1 h => ?_)
    refine xo_aload_n 0 d_R_walk_117 rfl rfl ?_
    refine xo_getI 20 d_R_walk_118 xc_8 rfl tw_663 rfl h (fun x2 h => ?_)
    refine xo_aldI d_R_walk_121 h (fun x3 h => ?_)
    refine xo_putI 17 d_R_walk_122 xc_8 rfl tw_660 rfl rfl rfl rfl h (fun w4 h => ?_)
    refine xo_aload_n 0 d_R_walk_125 rfl rfl ?_
    refine xo_iload_n 1 d_R_walk_126 rfl rfl ?_
    refine xo_if_eq d_R_walk_127 h (fun h => ?_) (fun h => ?_)
    · refine xo_iconst d_R_walk_139 xic_0 ?_
      exact xo_sub [0, 1] [(0, .ref l0), (1, .int l1)] rfl (kb_R_walk_140 X sz ro _ R31 _ _ _ _ _ h)
    · refine xo_aload_n 0 d_R_walk_130 rfl rfl ?_
      refine xo_getI 20 d_R_walk_131 xc_8 rfl tw_663 rfl h (fun x5 h => ?_)
      refine xo_iconst d_R_walk_134 xic_1 ?_
      refine xo_isub d_R_walk_135 ?_
      refine xo_goto d_R_walk_136 ?_
      exact xo_sub [0, 1] [(0, .ref l0), (1, .int l1)] rfl (kb_R_walk_140 X sz ro _ R31 _ _ _ _ _ h)
  · refine xo_aload_n 0 d_R_walk_92 rfl rfl ?_
    refine xo_bipush d_R_walk_93 xbp_10 ?_
    refine xo_aload_n 0 d_R_walk_95 rfl rfl ?_
    refine xo_getI 20 d_R_walk_96 xc_8 rfl tw_663 rfl h (fun x6 h => ?_)
    refine xo_imul d_R_walk_99 ?_
    refine xo_iload_n 2 d_R_walk_100 rfl rfl ?_
    refine xo_iadd d_R_walk_101 ?_
    refine xo_iload_n 2 d_R_walk_102 rfl rfl ?_
    refine xo_V_VH (rest := []) [.int (((10 : Int32) * x6) + l3), .int l3] d_R_walk_103 tw_781 yw_R_copy h xc_8 (fun z e => c_R_copy _ _ _ _ _ _ _ _ z e) rfl ⟨rfl, rfl⟩ rfl rfl rfl (fun q7 h => ?_)
    refine xo_iinc 2 (fun x8 => [(3, .int x8), (0, .ref l0), (1, .int l1)]) d_R_walk_106 rfl rfl xic_1 (fun _ => rfl) h (fun x8 h => ?_)
    refine xo_goto d_R_walk_109 ?_
    exact xo_sub [1, 2, 0] [(0, .ref l0), (1, .int l1), (3, .int x8)] rfl (R86 _ _ _ _ h)
theorem kb_R_walk_86 (X : xX) (sz : Nat) (ro : Int32 × xw) (r31 : xw → Nat → Int32 → Option (Int32 × xw)) (R31 : ∀ (w : xw) (l0 : Nat) (l1 : Int32), r31 w l0 l1 = some ro → k_R_walk X [(0, .ref l0), (1, .int l1)] [] w sz 0 0 31 (some (.int ro.1), ro.2, sz)) (n : Nat) : ∀ (w : xw) (l0 : Nat) (l1 : Int32) (l3 : Int32), f_R_walk_b86 r31 n w l0 l1 l3 = some ro → k_R_walk X [(0, .ref l0), (1, .int l1), (3, .int l3)] [] w sz 0 0 86 (some (.int ro.1), ro.2, sz) := by
  unfold f_R_walk_b86
  refine xfix_ind (P := fun (r86 : xw → Nat → Int32 → Int32 → Option (Int32 × xw)) => ∀ (w : xw) (l0 : Nat) (l1 : Int32) (l3 : Int32), r86 w l0 l1 l3 = some ro → k_R_walk X [(0, .ref l0), (1, .int l1), (3, .int l3)] [] w sz 0 0 86 (some (.int ro.1), ro.2, sz)) ?_ ?_ n
  · intro _ _ _ _ h
    cases h
  · intro r R w l0 l1 l3 h
    exact ks_R_walk_86 X sz ro r31 R31 r R _ _ _ _ h
theorem kb_R_walk_83 (X : xX) (sz : Nat) (ro : Int32 × xw) (r31 : xw → Nat → Int32 → Option (Int32 × xw)) (R31 : ∀ (w : xw) (l0 : Nat) (l1 : Int32), r31 w l0 l1 = some ro → k_R_walk X [(0, .ref l0), (1, .int l1)] [] w sz 0 0 31 (some (.int ro.1), ro.2, sz)) (w : xw) (l0 : Nat) (s0 : Int32) (h : f_R_walk_b83 r31 w l0 s0 = some ro) : k_R_walk X [(0, .ref l0)] [.int s0] w sz 0 0 83 (some (.int ro.1), ro.2, sz) := by
  unfold f_R_walk_b83 at h
  refine xo_istore_n [(1, .int s0), (0, .ref l0)] d_R_walk_83 rfl rfl rfl ?_
  refine xo_iconst d_R_walk_84 xic_0 ?_
  refine xo_nmI h (fun x1 h => ?_)
  refine xo_istore_n [(3, .int x1), (1, .int s0), (0, .ref l0)] d_R_walk_85 rfl rfl rfl ?_
  exact xo_sub [2, 1, 0] [(0, .ref l0), (1, .int s0), (3, .int x1)] rfl (kb_R_walk_86 X sz ro _ R31 _ _ _ _ _ h)
theorem ks_R_walk_31 (X : xX) (sz : Nat) (ro : Int32 × xw) (r31 : xw → Nat → Int32 → Option (Int32 × xw)) (R31 : ∀ (w : xw) (l0 : Nat) (l1 : Int32), r31 w l0 l1 = some ro → k_R_walk X [(0, .ref l0), (1, .int l1)] [] w sz 0 0 31 (some (.int ro.1), ro.2, sz)) (w : xw) (l0 : Nat) (l1 : Int32) (h : f_R_walk_s31 r31 w l0 l1 = some ro) : k_R_walk X [(0, .ref l0), (1, .int l1)] [] w sz 0 0 31 (some (.int ro.1), ro.2, sz) := by
  unfold f_R_walk_s31 at h
  refine xo_iload_n 1 d_R_walk_31 rfl rfl ?_
  refine xo_if_eq d_R_walk_32 h (fun h => ?_) (fun h => ?_)
  · refine xo_iconst d_R_walk_146 xic_0 ?_
    exact xo_retIH d_R_walk_147 rfl rfl rfl h
  · refine xo_aload_n 0 d_R_walk_35 rfl rfl ?_
    refine xo_dup d_R_walk_36 rfl ?_
    refine xo_getI 18 d_R_walk_37 xc_8 rfl tw_661 rfl h (fun x1 h => ?_)
    refine xo_iconst d_R_walk_40 xic_1 ?_
    refine xo_iadd d_R_walk_41 ?_
    refine xo_putI 18 d_R_walk_42 xc_8 rfl tw_661 rfl rfl rfl rfl h (fun w2 h => ?_)
    refine xo_aload_n 0 d_R_walk_45 rfl rfl ?_
    refine xo_V_IH (rest := []) [] d_R_walk_46 tw_771 yw_R_alarm h xc_8 (fun z e => c_R_alarm _ _ _ _ _ _ z e) rfl ⟨rfl, rfl⟩ rfl rfl rfl (fun q3 h => ?_)
    refine xo_istore_n [(2, .int q3.1), (0, .ref l0), (1, .int l1)] d_R_walk_49 rfl rfl rfl ?_
    refine xo_iload_n 0 d_R_walk_50 rfl rfl ?_
    refine xo_if_le d_R_walk_51 h (fun h => ?_) (fun h => ?_)
    · refine xo_aload_n 1 d_R_walk_64 rfl rfl ?_
      refine xo_V_IH (rest := []) [] d_R_walk_65 tw_790 yw_R_pass h xc_8 (fun z e => c_R_pass _ _ _ _ _ _ z e) rfl ⟨rfl, rfl⟩ rfl rfl rfl (fun q4 h => ?_)
      refine xo_if_ne d_R_walk_68 h (fun h => ?_) (fun h => ?_)
      · exact xo_sub [1, 2] [(0, .ref l0), (1, .int l1)] rfl (kb_R_walk_143 X sz ro _ R31 _ _ _ h)
      · refine xo_aload_n 1 d_R_walk_71 rfl rfl ?_
        refine xo_getI 20 d_R_walk_72 xc_8 rfl tw_663 rfl h (fun x5 h => ?_)
        refine xo_if_le d_R_walk_75 h (fun h => ?_) (fun h => ?_)
        · refine xo_iconst d_R_walk_82 xic_0 ?_
          exact xo_sub [1] [(0, .ref l0)] rfl (kb_R_walk_83 X sz ro _ R31 _ _ _ h)
        · refine xo_iconst d_R_walk_78 xic_1 ?_
          refine xo_goto d_R_walk_79 ?_
          exact xo_sub [1] [(0, .ref l0)] rfl (kb_R_walk_83 X sz ro _ R31 _ _ _ h)
    · refine xo_bipush d_R_walk_54 xbp_100 ?_
      refine xo_iload_n 0 d_R_walk_56 rfl rfl ?_
      refine xo_imul d_R_walk_57 ?_
      refine xo_aload_n 1 d_R_walk_58 rfl rfl ?_
      refine xo_getI 17 d_R_walk_59 xc_8 rfl tw_660 rfl h (fun x6 h => ?_)
      refine xo_iadd d_R_walk_62 ?_
      exact xo_retIH d_R_walk_63 rfl rfl rfl h
theorem kb_R_walk_31 (X : xX) (sz : Nat) (ro : Int32 × xw) (n : Nat) : ∀ (w : xw) (l0 : Nat) (l1 : Int32), f_R_walk_b31 n w l0 l1 = some ro → k_R_walk X [(0, .ref l0), (1, .int l1)] [] w sz 0 0 31 (some (.int ro.1), ro.2, sz) := by
  unfold f_R_walk_b31
  refine xfix_ind (P := fun (r31 : xw → Nat → Int32 → Option (Int32 × xw)) => ∀ (w : xw) (l0 : Nat) (l1 : Int32), r31 w l0 l1 = some ro → k_R_walk X [(0, .ref l0), (1, .int l1)] [] w sz 0 0 31 (some (.int ro.1), ro.2, sz)) ?_ ?_ n
  · intro _ _ _ h
    cases h
  · intro r R w l0 l1 h
    exact ks_R_walk_31 X sz ro r R _ _ _ h
theorem kb_R_walk_0 (X : xX) (sz : Nat) (ro : Int32 × xw) (w : xw) (l0 : Nat) (h : f_R_walk w l0 = some ro) : k_R_walk X [(0, .ref l0)] [] w sz 0 0 0 (some (.int ro.1), ro.2, sz) := by
  unfold f_R_walk at h
  refine xo_aload_n 0 d_R_walk_0 rfl rfl ?_
  refine xo_iconst d_R_walk_1 xic_0 ?_
  refine xo_putI 0 d_R_walk_2 xc_8 rfl tw_643 rfl rfl rfl rfl h (fun w1 h => ?_)
  refine xo_aload_n 0 d_R_walk_5 rfl rfl ?_
  refine xo_iconst d_R_walk_6 xic_0 ?_
  refine xo_putI 18 d_R_walk_7 xc_8 rfl tw_661 rfl rfl rfl rfl h (fun w2 h => ?_)
  refine xo_aload_n 0 d_R_walk_10 rfl rfl ?_
  refine xo_iconst d_R_walk_11 xic_0 ?_
  refine xo_putZ 19 d_R_walk_12 xc_8 rfl tw_662 rfl rfl rfl h (fun w3 h => ?_)
  refine xo_aload_n 0 d_R_walk_15 rfl rfl ?_
  refine xo_iconst d_R_walk_16 xic_0 ?_
  refine xo_putI 20 d_R_walk_17 xc_8 rfl tw_663 rfl rfl rfl rfl h (fun w4 h => ?_)
  refine xo_aload_n 0 d_R_walk_20 rfl rfl ?_
  refine xo_iconst d_R_walk_21 xic_0 ?_
  refine xo_putI 17 d_R_walk_22 xc_8 rfl tw_660 rfl rfl rfl rfl h (fun w5 h => ?_)
  refine xo_aload_n 0 d_R_walk_25 rfl rfl ?_
  refine xo_V_VH (rest := []) [] d_R_walk_26 tw_748 yw_R_setUp h xc_8 (fun z e => c_R_setUp _ _ _ _ _ _ z e) rfl ⟨rfl, rfl⟩ rfl rfl rfl (fun q6 h => ?_)
  refine xo_iconst d_R_walk_29 xic_1 ?_
  refine xo_nmI h (fun x7 h => ?_)
  refine xo_istore_n [(1, .int x7), (0, .ref l0)] d_R_walk_30 rfl rfl rfl ?_
  exact xo_sub [1, 0] [(0, .ref l0), (1, .int x7)] rfl (kb_R_walk_31 X sz ro _ _ _ _ h)
theorem c_R_walk (l : Launch) (D : va_G) (cT : Nat → ClassId) (sz : Nat) (w : xw) (l0 : Nat) (ro : Int32 × xw) (h : f_R_walk w l0 = some ro) : xM l y_R_walk b_R_walk 4 t_R_walk R_R_walk D cT [.ref l0] w sz (some (.int ro.1), ro.2, sz) :=
  xm_of bl_R_walk rfl rfl (kb_R_walk_0 (l, D, cT, [.ref l0], w, sz) sz ro w l0 h)
theorem kb_R_steps_0 (X : xX) (sz : Nat) (ro : Int32 × xw) (w : xw) (l0 : Nat) (h : f_R_steps w l0 = some ro) : k_R_steps X [(0, .ref l0)] [] w sz 0 0 0 (some (.int ro.1), ro.2, sz) := by
  unfold f_R_steps at h
  refine xo_aload_n 0 d_R_steps_0 rfl rfl ?_
  refine xo_iconst d_R_steps_1 xic_0 ?_
  refine xo_putI 0 d_R_steps_2 xc_8 rfl tw_643 rfl rfl rfl rfl h (fun w1 h => ?_)
  refine xo_aload_n 0 d_R_steps_5 rfl rfl ?_
  refine xo_getI 18 d_R_steps_6 xc_8 rfl tw_661 rfl h (fun x2 h => ?_)
  exact xo_retIH d_R_steps_9 rfl rfl rfl h
theorem c_R_steps (l : Launch) (D : va_G) (cT : Nat → ClassId) (sz : Nat) (w : xw) (l0 : Nat) (ro : Int32 × xw) (h : f_R_steps w l0 = some ro) : xM l y_R_steps b_R_steps 1 t_R_steps R_R_steps D cT [.ref l0] w sz (some (.int ro.1), ro.2, sz) :=
  xm_of bl_R_steps rfl rfl (kb_R_steps_0 (l, D, cT, [.ref l0], w, sz) sz ro w l0 h)
theorem kb_R_known_154 (X : xX) (sz : Nat) (ro : Int64 × xw) (w : xw) (s0 : Int64) (h : f_R_known_b154 w s0 = some ro) : k_R_known X [] [.long s0] w sz 0 0 154 (some (.long ro.1), ro.2, sz) := by
  unfold f_R_known_b154 at h
  exact xo_retLH d_R_known_154 rfl rfl rfl h
theorem kb_R_known_44 (X : xX) (sz : Nat) (ro : Int64 × xw) (w : xw) (h : f_R_known_b44 w = some ro) : k_R_known X [] [] w sz 0 0 44 (some (.long ro.1), ro.2, sz) := by
  unfold f_R_known_b44 at h
  refine xo_ldc2 d_R_known_44 tw_876 ?_
  exact xo_retLH d_R_known_47 rfl rfl rfl h
theorem kb_R_known_0 (X : xX) (sz : Nat) (ro : Int64 × xw) (w : xw) (l0 : Nat) (l1 : Int32) (l2 : Int32) (h : f_R_known w l0 l1 l2 = some ro) : k_R_known X [(0, .ref l0), (1, .int l1), (2, .int l2)] [] w sz 0 0 0 (some (.long ro.1), ro.2, sz) := by
  unfold f_R_known at h
  refine xo_aload_n 0 d_R_known_0 rfl rfl ?_
  refine xo_iconst d_R_known_1 xic_0 ?_
  refine xo_putI 0 d_R_known_2 xc_8 rfl tw_643 rfl rfl rfl rfl h (fun w1 h => ?_)
  refine xo_iload_n 1 d_R_known_5 rfl rfl ?_
  refine xo_iconst d_R_known_6 xic_0 ?_
  refine xo_iconst d_R_known_7 xic_5 ?_
  refine xo_S_I0 (rest := []) [.int l1, .int (0 : Int32), .int (5 : Int32)] d_R_known_8 tw_728 yw_R_within h (fun z e => c_R_within _ _ _ _ _ _ _ _ z e) rfl ⟨rfl, rfl⟩ rfl rfl rfl (fun q2 h => ?_)
  refine xo_if_eq d_R_known_11 h (fun h => ?_) (fun h => ?_)
  · exact xo_sub [] [] rfl (kb_R_known_44 X sz ro _ h)
  · refine xo_iload_n 2 d_R_known_14 rfl rfl ?_
    refine xo_iconst d_R_known_15 xic_0 ?_
    refine xo_bipush d_R_known_16 xbp_6 ?_
    refine xo_S_I0 (rest := []) [.int l2, .int (0 : Int32), .int (6 : Int32)] d_R_known_18 tw_728 yw_R_within h (fun z e => c_R_within _ _ _ _ _ _ _ _ z e) rfl ⟨rfl, rfl⟩ rfl rfl rfl (fun q3 h => ?_)
    refine xo_if_eq d_R_known_21 h (fun h => ?_) (fun h => ?_)
    · exact xo_sub [] [] rfl (kb_R_known_44 X sz ro _ h)
    · refine xo_aload_n 0 d_R_known_24 rfl rfl ?_
      refine xo_getI 19 d_R_known_25 xc_8 rfl tw_662 rfl h (fun x4 h => ?_)
      refine xo_if_eq d_R_known_28 h (fun h => ?_) (fun h => ?_)
      · exact xo_sub [] [] rfl (kb_R_known_44 X sz ro _ h)
      · refine xo_aload_n 0 d_R_known_31 rfl rfl ?_
        refine xo_getR 9 d_R_known_32 xc_8 rfl tw_652 rfl h (fun a5 h => ?_)
        refine xo_sipush d_R_known_35 xsp_250 ?_
        refine xo_iload_n 1 d_R_known_38 rfl rfl ?_
        refine xo_iadd d_R_known_39 ?_
        refine xo_aldZ d_R_known_40 h (fun x6 h => ?_)
        refine xo_if_ne d_R_known_41 h (fun h => ?_) (fun h => ?_)
        · refine xo_sipush d_R_known_48 xsp_250 ?_
          refine xo_iload_n 1 d_R_known_51 rfl rfl ?_
          refine xo_iadd d_R_known_52 ?_
          refine xo_nmI h (fun x7 h => ?_)
          refine xo_istore_n [(3, .int x7), (0, .ref l0), (1, .int l1), (2, .int l2)] d_R_known_53 rfl rfl rfl ?_
          refine xo_iload_n 3 d_R_known_54 rfl rfl ?_
          refine xo_if_ne d_R_known_55 h (fun h => ?_) (fun h => ?_)
          · refine xo_iload_n 3 d_R_known_72 rfl rfl ?_
            refine xo_iconst d_R_known_73 xic_1 ?_
            refine xo_icmp_ne d_R_known_74 h (fun h => ?_) (fun h => ?_)
            · refine xo_iload_n 3 d_R_known_91 rfl rfl ?_
              refine xo_iconst d_R_known_92 xic_2 ?_
              refine xo_icmp_ne d_R_known_93 h (fun h => ?_) (fun h => ?_)
              · refine xo_iload_n 3 d_R_known_105 rfl rfl ?_
                refine xo_iconst d_R_known_106 xic_3 ?_
                refine xo_icmp_ne d_R_known_107 h (fun h => ?_) (fun h => ?_)
                · refine xo_iload_n 3 d_R_known_119 rfl rfl ?_
                  refine xo_iconst d_R_known_120 xic_4 ?_
                  refine xo_icmp_ne d_R_known_121 h (fun h => ?_) (fun h => ?_)
                  · refine xo_iload_n 3 d_R_known_133 rfl rfl ?_
                    refine xo_iconst d_R_known_134 xic_5 ?_
                    refine xo_icmp_ne d_R_known_135 h (fun h => ?_) (fun h => ?_)
                    · refine xo_aload_n 1 d_R_known_147 rfl rfl ?_
                      refine xo_getR 16 d_R_known_148 xc_8 rfl tw_659 rfl h (fun a8 h => ?_)
                      refine xo_iload_n 0 d_R_known_151 rfl rfl ?_
                      refine xo_aldI d_R_known_152 h (fun x9 h => ?_)
                      refine xo_i2l d_R_known_153 ?_
                      exact xo_sub [] [] rfl (kb_R_known_154 X sz ro _ _ h)
                    · refine xo_aload_n 1 d_R_known_138 rfl rfl ?_
                      refine xo_getR 15 d_R_known_139 xc_8 rfl tw_658 rfl h (fun a10 h => ?_)
                      refine xo_iload_n 0 d_R_known_142 rfl rfl ?_
                      refine xo_aldL d_R_known_143 h (fun x11 h => ?_)
                      refine xo_goto d_R_known_144 ?_
                      exact xo_sub [] [] rfl (kb_R_known_154 X sz ro _ _ h)
                  · refine xo_aload_n 1 d_R_known_124 rfl rfl ?_
                    refine xo_getR 14 d_R_known_125 xc_8 rfl tw_657 rfl h (fun a12 h => ?_)
                    refine xo_iload_n 0 d_R_known_128 rfl rfl ?_
                    refine xo_aldL d_R_known_129 h (fun x13 h => ?_)
                    refine xo_goto d_R_known_130 ?_
                    exact xo_sub [] [] rfl (kb_R_known_154 X sz ro _ _ h)
                · refine xo_aload_n 1 d_R_known_110 rfl rfl ?_
                  refine xo_getR 13 d_R_known_111 xc_8 rfl tw_656 rfl h (fun a14 h => ?_)
                  refine xo_iload_n 0 d_R_known_114 rfl rfl ?_
                  refine xo_aldL d_R_known_115 h (fun x15 h => ?_)
                  refine xo_goto d_R_known_116 ?_
                  exact xo_sub [] [] rfl (kb_R_known_154 X sz ro _ _ h)
              · refine xo_aload_n 1 d_R_known_96 rfl rfl ?_
                refine xo_getR 12 d_R_known_97 xc_8 rfl tw_655 rfl h (fun a16 h => ?_)
                refine xo_iload_n 0 d_R_known_100 rfl rfl ?_
                refine xo_aldL d_R_known_101 h (fun x17 h => ?_)
                refine xo_goto d_R_known_102 ?_
                exact xo_sub [] [] rfl (kb_R_known_154 X sz ro _ _ h)
            · refine xo_aload_n 1 d_R_known_77 rfl rfl ?_
              refine xo_getR 11 d_R_known_78 xc_8 rfl tw_654 rfl h (fun a18 h => ?_)
              refine xo_iload_n 0 d_R_known_81 rfl rfl ?_
              refine xo_aldI d_R_known_82 h (fun x19 h => ?_)
              refine xo_i2l d_R_known_83 ?_
              refine xo_ldc2 d_R_known_84 tw_756 ?_
              refine xo_land d_R_known_87 ?_
              refine xo_goto d_R_known_88 ?_
              exact xo_sub [] [] rfl (kb_R_known_154 X sz ro _ _ h)
          · refine xo_aload_n 1 d_R_known_58 rfl rfl ?_
            refine xo_getR 10 d_R_known_59 xc_8 rfl tw_653 rfl h (fun a20 h => ?_)
            refine xo_iload_n 0 d_R_known_62 rfl rfl ?_
            refine xo_aldI d_R_known_63 h (fun x21 h => ?_)
            refine xo_i2l d_R_known_64 ?_
            refine xo_ldc2 d_R_known_65 tw_756 ?_
            refine xo_land d_R_known_68 ?_
            refine xo_goto d_R_known_69 ?_
            exact xo_sub [] [] rfl (kb_R_known_154 X sz ro _ _ h)
        · exact xo_sub [] [] rfl (kb_R_known_44 X sz ro _ h)
theorem c_R_known (l : Launch) (D : va_G) (cT : Nat → ClassId) (sz : Nat) (w : xw) (l0 : Nat) (l1 : Int32) (l2 : Int32) (ro : Int64 × xw) (h : f_R_known w l0 l1 l2 = some ro) : xM l y_R_known b_R_known 4 t_R_known R_R_known D cT [.ref l0, .int l1, .int l2] w sz (some (.long ro.1), ro.2, sz) :=
  xm_of bl_R_known rfl rfl (kb_R_known_0 (l, D, cT, [.ref l0, .int l1, .int l2], w, sz) sz ro w l0 l1 l2 h)
theorem kb_R_refuse_0 (X : xX) (sz : Nat) (ro : Int32 × xw) (w : xw) (l0 : Nat) (l1 : Int32) (h : f_R_refuse w l0 l1 = some ro) : k_R_refuse X [(0, .ref l0), (1, .int l1)] [] w sz 0 0 0 (some (.int ro.1), ro.2, sz) := by
  unfold f_R_refuse at h
  refine xo_aload_n 0 d_R_refuse_0 rfl rfl ?_
  refine xo_iload_n 1 d_R_refuse_1 rfl rfl ?_
  refine xo_putI 0 d_R_refuse_2 xc_8 rfl tw_643 rfl rfl rfl rfl h (fun w1 h => ?_)
  refine xo_iconst d_R_refuse_5 xic_0 ?_
  exact xo_retIH d_R_refuse_6 rfl rfl rfl h
theorem c_R_refuse (l : Launch) (D : va_G) (cT : Nat → ClassId) (sz : Nat) (w : xw) (l0 : Nat) (l1 : Int32) (ro : Int32 × xw) (h : f_R_refuse w l0 l1 = some ro) : xM l y_R_refuse b_R_refuse 2 t_R_refuse R_R_refuse D cT [.ref l0, .int l1] w sz (some (.int ro.1), ro.2, sz) :=
  xm_of bl_R_refuse rfl rfl (kb_R_refuse_0 (l, D, cT, [.ref l0, .int l1], w, sz) sz ro w l0 l1 h)
theorem kb_R_unsignedRest_0 (X : xX) (sz : Nat) (ro : Int32) (w : xw) (l0 : Int32) (l1 : Int32) (h : f_R_unsignedRest l0 l1 = some ro) : k_R_unsignedRest X [(0, .int l0), (1, .int l1)] [] w sz 0 0 0 (some (.int ro), w, sz) := by
  unfold f_R_unsignedRest at h
  refine xo_iload_n 0 d_R_unsignedRest_0 rfl rfl ?_
  refine xo_i2l d_R_unsignedRest_1 ?_
  refine xo_ldc2 d_R_unsignedRest_2 tw_756 ?_
  refine xo_land d_R_unsignedRest_5 ?_
  refine xo_iload_n 1 d_R_unsignedRest_6 rfl rfl ?_
  refine xo_i2l d_R_unsignedRest_7 ?_
  refine xo_ldc2 d_R_unsignedRest_8 tw_756 ?_
  refine xo_land d_R_unsignedRest_11 ?_
  refine xo_lrem d_R_unsignedRest_12 h (fun h => ?_)
  refine xo_l2i d_R_unsignedRest_13 ?_
  exact xo_retI0 d_R_unsignedRest_14 rfl rfl rfl h
theorem c_R_unsignedRest (l : Launch) (D : va_G) (cT : Nat → ClassId) (sz : Nat) (w : xw) (l0 : Int32) (l1 : Int32) (ro : Int32) (h : f_R_unsignedRest l0 l1 = some ro) : xM l y_R_unsignedRest b_R_unsignedRest 2 t_R_unsignedRest R_R_unsignedRest D cT [.int l0, .int l1] w sz (some (.int ro), w, sz) :=
  xm_of bl_R_unsignedRest rfl rfl (kb_R_unsignedRest_0 (l, D, cT, [.int l0, .int l1], w, sz) sz ro w l0 l1 h)
theorem kb_R_reckon_0 (X : xX) (sz : Nat) (ro : Int32) (w : xw) (l0 : Int32) (l1 : Int32) (l2 : Int32) (h : f_R_reckon l0 l1 l2 = some ro) : k_R_reckon X [(0, .int l0), (1, .int l1), (2, .int l2)] [] w sz 0 0 0 (some (.int ro), w, sz) := by
  unfold f_R_reckon at h
  refine xo_iload_n 0 d_R_reckon_0 rfl rfl ?_
  rcases xif h with ⟨hc0, h⟩ | ⟨hc0, h⟩
  · refine xo_tableIn 59 60 d_R_reckon_1 (by rw [hc0]; decide) (by rw [hc0]; decide) (by rw [hc0]; decide) (by decide) ?_
    refine xo_iload_n 2 d_R_reckon_60 rfl rfl ?_
    exact xo_retI0 d_R_reckon_61 rfl rfl rfl h
  rcases xif h with ⟨hc1, h⟩ | ⟨hc1, h⟩
  · refine xo_tableIn 61 62 d_R_reckon_1 (by rw [hc1]; decide) (by rw [hc1]; decide) (by rw [hc1]; decide) (by decide) ?_
    refine xo_iload_n 1 d_R_reckon_62 rfl rfl ?_
    refine xo_iload_n 2 d_R_reckon_63 rfl rfl ?_
    refine xo_iadd d_R_reckon_64 ?_
    exact xo_retI0 d_R_reckon_65 rfl rfl rfl h
  rcases xif h with ⟨hc2, h⟩ | ⟨hc2, h⟩
  · refine xo_tableIn 65 66 d_R_reckon_1 (by rw [hc2]; decide) (by rw [hc2]; decide) (by rw [hc2]; decide) (by decide) ?_
    refine xo_iload_n 1 d_R_reckon_66 rfl rfl ?_
    refine xo_iload_n 2 d_R_reckon_67 rfl rfl ?_
    refine xo_isub d_R_reckon_68 ?_
    exact xo_retI0 d_R_reckon_69 rfl rfl rfl h
  rcases xif h with ⟨hc3, h⟩ | ⟨hc3, h⟩
  · refine xo_tableIn 69 70 d_R_reckon_1 (by rw [hc3]; decide) (by rw [hc3]; decide) (by rw [hc3]; decide) (by decide) ?_
    refine xo_iload_n 1 d_R_reckon_70 rfl rfl ?_
    refine xo_iload_n 2 d_R_reckon_71 rfl rfl ?_
    refine xo_imul d_R_reckon_72 ?_
    exact xo_retI0 d_R_reckon_73 rfl rfl rfl h
  rcases xif h with ⟨hc4, h⟩ | ⟨hc4, h⟩
  · refine xo_tableIn 73 74 d_R_reckon_1 (by rw [hc4]; decide) (by rw [hc4]; decide) (by rw [hc4]; decide) (by decide) ?_
    refine xo_iload_n 1 d_R_reckon_74 rfl rfl ?_
    refine xo_iload_n 2 d_R_reckon_75 rfl rfl ?_
    refine xo_iand d_R_reckon_76 ?_
    exact xo_retI0 d_R_reckon_77 rfl rfl rfl h
  rcases xif h with ⟨hc5, h⟩ | ⟨hc5, h⟩
  · refine xo_tableIn 77 78 d_R_reckon_1 (by rw [hc5]; decide) (by rw [hc5]; decide) (by rw [hc5]; decide) (by decide) ?_
    refine xo_iload_n 1 d_R_reckon_78 rfl rfl ?_
    refine xo_iload_n 2 d_R_reckon_79 rfl rfl ?_
    refine xo_ior d_R_reckon_80 ?_
    exact xo_retI0 d_R_reckon_81 rfl rfl rfl h
  rcases xif h with ⟨hc6, h⟩ | ⟨hc6, h⟩
  · refine xo_tableIn 81 82 d_R_reckon_1 (by rw [hc6]; decide) (by rw [hc6]; decide) (by rw [hc6]; decide) (by decide) ?_
    refine xo_iload_n 1 d_R_reckon_82 rfl rfl ?_
    refine xo_iload_n 2 d_R_reckon_83 rfl rfl ?_
    refine xo_ixor d_R_reckon_84 ?_
    exact xo_retI0 d_R_reckon_85 rfl rfl rfl h
  rcases xif h with ⟨hc7, h⟩ | ⟨hc7, h⟩
  · refine xo_tableIn 85 86 d_R_reckon_1 (by rw [hc7]; decide) (by rw [hc7]; decide) (by rw [hc7]; decide) (by decide) ?_
    refine xo_iload_n 1 d_R_reckon_86 rfl rfl ?_
    refine xo_iload_n 2 d_R_reckon_87 rfl rfl ?_
    refine xo_bipush d_R_reckon_88 xbp_31 ?_
    refine xo_iand d_R_reckon_90 ?_
    refine xo_ishl d_R_reckon_91 ?_
    exact xo_retI0 d_R_reckon_92 rfl rfl rfl h
  rcases xif h with ⟨hc8, h⟩ | ⟨hc8, h⟩
  · refine xo_tableIn 92 93 d_R_reckon_1 (by rw [hc8]; decide) (by rw [hc8]; decide) (by rw [hc8]; decide) (by decide) ?_
    refine xo_iload_n 1 d_R_reckon_93 rfl rfl ?_
    refine xo_iload_n 2 d_R_reckon_94 rfl rfl ?_
    refine xo_bipush d_R_reckon_95 xbp_31 ?_
    refine xo_iand d_R_reckon_97 ?_
    refine xo_iushr d_R_reckon_98 ?_
    exact xo_retI0 d_R_reckon_99 rfl rfl rfl h
  rcases xif h with ⟨hc9, h⟩ | ⟨hc9, h⟩
  · refine xo_tableIn 99 100 d_R_reckon_1 (by rw [hc9]; decide) (by rw [hc9]; decide) (by rw [hc9]; decide) (by decide) ?_
    refine xo_iload_n 1 d_R_reckon_100 rfl rfl ?_
    refine xo_iload_n 2 d_R_reckon_101 rfl rfl ?_
    refine xo_bipush d_R_reckon_102 xbp_31 ?_
    refine xo_iand d_R_reckon_104 ?_
    refine xo_ishr d_R_reckon_105 ?_
    exact xo_retI0 d_R_reckon_106 rfl rfl rfl h
  rcases xif h with ⟨hc10, h⟩ | ⟨hc10, h⟩
  · refine xo_tableIn 106 107 d_R_reckon_1 (by rw [hc10]; decide) (by rw [hc10]; decide) (by rw [hc10]; decide) (by decide) ?_
    refine xo_iload_n 1 d_R_reckon_107 rfl rfl ?_
    refine xo_i2l d_R_reckon_108 ?_
    refine xo_ldc2 d_R_reckon_109 tw_756 ?_
    refine xo_land d_R_reckon_112 ?_
    refine xo_iload_n 2 d_R_reckon_113 rfl rfl ?_
    refine xo_i2l d_R_reckon_114 ?_
    refine xo_ldc2 d_R_reckon_115 tw_756 ?_
    refine xo_land d_R_reckon_118 ?_
    refine xo_ldiv d_R_reckon_119 h (fun h => ?_)
    refine xo_l2i d_R_reckon_120 ?_
    exact xo_retI0 d_R_reckon_121 rfl rfl rfl h
  refine xo_tableOut 122 d_R_reckon_1 (by have n0 := lv_neT hc0 (a := 0) (by decide); have n1 := lv_neT hc1 (a := 1) (by decide); have n2 := lv_neT hc2 (a := 2) (by decide); have n3 := lv_neT hc3 (a := 3) (by decide); have n4 := lv_neT hc4 (a := 4) (by decide); have n5 := lv_neT hc5 (a := 5) (by decide); have n6 := lv_neT hc6 (a := 6) (by decide); have n7 := lv_neT hc7 (a := 7) (by decide); have n8 := lv_neT hc8 (a := 8) (by decide); have n9 := lv_neT hc9 (a := 9) (by decide); have n10 := lv_neT hc10 (a := 10) (by decide); omega) (by decide) ?_
  refine xo_iload_n 1 d_R_reckon_122 rfl rfl ?_
  refine xo_iload_n 2 d_R_reckon_123 rfl rfl ?_
  refine xo_S_I0 (rest := []) [.int l1, .int l2] d_R_reckon_124 tw_888 yw_R_unsignedRest h (fun z e => c_R_unsignedRest _ _ _ _ _ _ _ z e) rfl ⟨rfl, rfl⟩ rfl rfl rfl (fun q1 h => ?_)
  exact xo_retI0 d_R_reckon_127 rfl rfl rfl h
theorem c_R_reckon (l : Launch) (D : va_G) (cT : Nat → ClassId) (sz : Nat) (w : xw) (l0 : Int32) (l1 : Int32) (l2 : Int32) (ro : Int32) (h : f_R_reckon l0 l1 l2 = some ro) : xM l y_R_reckon b_R_reckon 3 t_R_reckon R_R_reckon D cT [.int l0, .int l1, .int l2] w sz (some (.int ro), w, sz) :=
  xm_of bl_R_reckon rfl rfl (kb_R_reckon_0 (l, D, cT, [.int l0, .int l1, .int l2], w, sz) sz ro w l0 l1 l2 h)
theorem ks_R_bytesAt_7 (X : xX) (sz : Nat) (ro : Int32 × xw) (r7 : xw → Nat → Int32 → Int32 → Int32 → Option (Int32 × xw)) (R7 : ∀ (w : xw) (l0 : Nat) (l1 : Int32) (l3 : Int32) (l4 : Int32), r7 w l0 l1 l3 l4 = some ro → k_R_bytesAt X [(0, .ref l0), (1, .int l1), (3, .int l3), (4, .int l4)] [] w sz 0 0 7 (some (.int ro.1), ro.2, sz)) (w : xw) (l0 : Nat) (l1 : Int32) (l3 : Int32) (l4 : Int32) (h : f_R_bytesAt_s7 r7 w l0 l1 l3 l4 = some ro) : k_R_bytesAt X [(0, .ref l0), (1, .int l1), (3, .int l3), (4, .int l4)] [] w sz 0 0 7 (some (.int ro.1), ro.2, sz) := by
  unfold f_R_bytesAt_s7 at h
  refine xo_iload 3 d_R_bytesAt_7 rfl ?_
  refine xo_if_lt d_R_bytesAt_9 h (fun h => ?_) (fun h => ?_)
  · refine xo_iload_n 2 d_R_bytesAt_33 rfl rfl ?_
    exact xo_retIH d_R_bytesAt_34 rfl rfl rfl h
  · refine xo_iload_n 2 d_R_bytesAt_12 rfl rfl ?_
    refine xo_bipush d_R_bytesAt_13 xbp_8 ?_
    refine xo_ishl d_R_bytesAt_15 ?_
    refine xo_aload_n 0 d_R_bytesAt_16 rfl rfl ?_
    refine xo_getR 8 d_R_bytesAt_17 xc_8 rfl tw_651 rfl h (fun a1 h => ?_)
    refine xo_iload_n 1 d_R_bytesAt_20 rfl rfl ?_
    refine xo_iload 3 d_R_bytesAt_21 rfl ?_
    refine xo_iadd d_R_bytesAt_23 ?_
    refine xo_aldI d_R_bytesAt_24 h (fun x2 h => ?_)
    refine xo_ior d_R_bytesAt_25 ?_
    refine xo_nmI h (fun x3 h => ?_)
    refine xo_istore_n [(3, .int x3), (0, .ref l0), (1, .int l1), (4, .int l4)] d_R_bytesAt_26 rfl rfl rfl ?_
    refine xo_iinc 3 (fun x4 => [(4, .int x4), (3, .int x3), (0, .ref l0), (1, .int l1)]) d_R_bytesAt_27 rfl rfl xic_m1 (fun _ => rfl) h (fun x4 h => ?_)
    refine xo_goto d_R_bytesAt_30 ?_
    exact xo_sub [2, 3, 1, 0] [(0, .ref l0), (1, .int l1), (3, .int x3), (4, .int x4)] rfl (R7 _ _ _ _ _ h)
theorem kb_R_bytesAt_7 (X : xX) (sz : Nat) (ro : Int32 × xw) (n : Nat) : ∀ (w : xw) (l0 : Nat) (l1 : Int32) (l3 : Int32) (l4 : Int32), f_R_bytesAt_b7 n w l0 l1 l3 l4 = some ro → k_R_bytesAt X [(0, .ref l0), (1, .int l1), (3, .int l3), (4, .int l4)] [] w sz 0 0 7 (some (.int ro.1), ro.2, sz) := by
  unfold f_R_bytesAt_b7
  refine xfix_ind (P := fun (r7 : xw → Nat → Int32 → Int32 → Int32 → Option (Int32 × xw)) => ∀ (w : xw) (l0 : Nat) (l1 : Int32) (l3 : Int32) (l4 : Int32), r7 w l0 l1 l3 l4 = some ro → k_R_bytesAt X [(0, .ref l0), (1, .int l1), (3, .int l3), (4, .int l4)] [] w sz 0 0 7 (some (.int ro.1), ro.2, sz)) ?_ ?_ n
  · intro _ _ _ _ _ h
    cases h
  · intro r R w l0 l1 l3 l4 h
    exact ks_R_bytesAt_7 X sz ro r R _ _ _ _ _ h
theorem kb_R_bytesAt_0 (X : xX) (sz : Nat) (ro : Int32 × xw) (w : xw) (l0 : Nat) (l1 : Int32) (l2 : Int32) (h : f_R_bytesAt w l0 l1 l2 = some ro) : k_R_bytesAt X [(0, .ref l0), (1, .int l1), (2, .int l2)] [] w sz 0 0 0 (some (.int ro.1), ro.2, sz) := by
  unfold f_R_bytesAt at h
  refine xo_iconst d_R_bytesAt_0 xic_0 ?_
  refine xo_nmI h (fun x1 h => ?_)
  refine xo_istore_n [(3, .int x1), (0, .ref l0), (1, .int l1), (2, .int l2)] d_R_bytesAt_1 rfl rfl rfl ?_
  refine xo_iload_n 3 d_R_bytesAt_2 rfl rfl ?_
  refine xo_iconst d_R_bytesAt_3 xic_1 ?_
  refine xo_isub d_R_bytesAt_4 ?_
  refine xo_nmI h (fun x2 h => ?_)
  refine xo_istore [(4, .int x2), (3, .int x1), (0, .ref l0), (1, .int l1), (2, .int l2)] d_R_bytesAt_5 rfl rfl ?_
  exact xo_sub [2, 3, 1, 0] [(0, .ref l0), (1, .int l1), (3, .int x1), (4, .int x2)] rfl (kb_R_bytesAt_7 X sz ro _ _ _ _ _ _ h)
theorem c_R_bytesAt (l : Launch) (D : va_G) (cT : Nat → ClassId) (sz : Nat) (w : xw) (l0 : Nat) (l1 : Int32) (l2 : Int32) (ro : Int32 × xw) (h : f_R_bytesAt w l0 l1 l2 = some ro) : xM l y_R_bytesAt b_R_bytesAt 5 t_R_bytesAt R_R_bytesAt D cT [.ref l0, .int l1, .int l2] w sz (some (.int ro.1), ro.2, sz) :=
  xm_of bl_R_bytesAt rfl rfl (kb_R_bytesAt_0 (l, D, cT, [.ref l0, .int l1, .int l2], w, sz) sz ro w l0 l1 l2 h)
theorem kb_R_holds_84 (X : xX) (sz : Nat) (ro : Int32) (w : xw) (s0 : Int32) (h : f_R_holds_b84 s0 = some ro) : k_R_holds X [] [.int s0] w sz 0 0 84 (some (.int ro), w, sz) := by
  unfold f_R_holds_b84 at h
  exact xo_retZ0 d_R_holds_84 rfl rfl rfl h
theorem kb_R_holds_76 (X : xX) (sz : Nat) (ro : Int32) (w : xw) (s0 : Int32) (s1 : Int32) (h : f_R_holds_b76 s0 s1 = some ro) : k_R_holds X [] [.int s1, .int s0] w sz 0 0 76 (some (.int ro), w, sz) := by
  unfold f_R_holds_b76 at h
  refine xo_icmp_ne d_R_holds_76 h (fun h => ?_) (fun h => ?_)
  · refine xo_iconst d_R_holds_83 xic_0 ?_
    exact xo_sub [] [] rfl (kb_R_holds_84 X sz ro w _ h)
  · refine xo_iconst d_R_holds_79 xic_1 ?_
    refine xo_goto d_R_holds_80 ?_
    exact xo_sub [] [] rfl (kb_R_holds_84 X sz ro w _ h)
theorem kb_R_holds_61 (X : xX) (sz : Nat) (ro : Int32) (w : xw) (l0 : Int32) (s0 : Int32) (h : f_R_holds_b61 l0 s0 = some ro) : k_R_holds X [(0, .int l0)] [.int s0] w sz 0 0 61 (some (.int ro), w, sz) := by
  unfold f_R_holds_b61 at h
  refine xo_istore [(4, .int s0), (0, .int l0)] d_R_holds_61 rfl rfl ?_
  refine xo_iload 0 d_R_holds_63 rfl ?_
  refine xo_iload_n 1 d_R_holds_65 rfl rfl ?_
  refine xo_iconst d_R_holds_66 xic_2 ?_
  refine xo_irem d_R_holds_67 h (fun h => ?_)
  refine xo_if_ne d_R_holds_68 h (fun h => ?_) (fun h => ?_)
  · refine xo_iconst d_R_holds_75 xic_0 ?_
    exact xo_sub [] [] rfl (kb_R_holds_76 X sz ro w _ _ h)
  · refine xo_iconst d_R_holds_71 xic_1 ?_
    refine xo_goto d_R_holds_72 ?_
    exact xo_sub [] [] rfl (kb_R_holds_76 X sz ro w _ _ h)
theorem kb_R_holds_40 (X : xX) (sz : Nat) (ro : Int32) (w : xw) (l0 : Int32) (l1 : Int32) (l2 : Int32) (s0 : Int32) (h : f_R_holds_b40 l0 l1 l2 s0 = some ro) : k_R_holds X [(0, .int l0), (1, .int l1), (2, .int l2)] [.int s0] w sz 0 0 40 (some (.int ro), w, sz) := by
  unfold f_R_holds_b40 at h
  refine xo_istore_n [(3, .int s0), (0, .int l0), (1, .int l1), (2, .int l2)] d_R_holds_40 rfl rfl rfl ?_
  refine xo_iload_n 1 d_R_holds_41 rfl rfl ?_
  refine xo_bipush d_R_holds_42 xbp_18 ?_
  refine xo_icmp_ge d_R_holds_44 h (fun h => ?_) (fun h => ?_)
  · refine xo_iload_n 0 d_R_holds_60 rfl rfl ?_
    exact xo_sub [1] [(0, .int l0)] rfl (kb_R_holds_61 X sz ro w _ _ h)
  · refine xo_iload_n 2 d_R_holds_47 rfl rfl ?_
    refine xo_iload_n 3 d_R_holds_48 rfl rfl ?_
    refine xo_icmp_ne d_R_holds_49 h (fun h => ?_) (fun h => ?_)
    · refine xo_iconst d_R_holds_56 xic_0 ?_
      refine xo_goto d_R_holds_57 ?_
      exact xo_sub [1] [(0, .int l0)] rfl (kb_R_holds_61 X sz ro w _ _ h)
    · refine xo_iconst d_R_holds_52 xic_1 ?_
      refine xo_goto d_R_holds_53 ?_
      exact xo_sub [1] [(0, .int l0)] rfl (kb_R_holds_61 X sz ro w _ _ h)
theorem kb_R_holds_0 (X : xX) (sz : Nat) (ro : Int32) (w : xw) (l0 : Int32) (l1 : Int32) (l2 : Int32) (h : f_R_holds l0 l1 l2 = some ro) : k_R_holds X [(0, .int l0), (1, .int l1), (2, .int l2)] [] w sz 0 0 0 (some (.int ro), w, sz) := by
  unfold f_R_holds at h
  refine xo_iload_n 0 d_R_holds_0 rfl rfl ?_
  refine xo_bipush d_R_holds_1 xbp_20 ?_
  refine xo_icmp_ge d_R_holds_3 h (fun h => ?_) (fun h => ?_)
  · refine xo_iload_n 1 d_R_holds_30 rfl rfl ?_
    refine xo_iload_n 2 d_R_holds_31 rfl rfl ?_
    refine xo_icmp_ge d_R_holds_32 h (fun h => ?_) (fun h => ?_)
    · refine xo_iconst d_R_holds_39 xic_0 ?_
      exact xo_sub [0, 1, 2] [(0, .int l0), (1, .int l1), (2, .int l2)] rfl (kb_R_holds_40 X sz ro w _ _ _ _ h)
    · refine xo_iconst d_R_holds_35 xic_1 ?_
      refine xo_goto d_R_holds_36 ?_
      exact xo_sub [0, 1, 2] [(0, .int l0), (1, .int l1), (2, .int l2)] rfl (kb_R_holds_40 X sz ro w _ _ _ _ h)
  · refine xo_iload_n 1 d_R_holds_6 rfl rfl ?_
    refine xo_i2l d_R_holds_7 ?_
    refine xo_ldc2 d_R_holds_8 tw_756 ?_
    refine xo_land d_R_holds_11 ?_
    refine xo_iload_n 2 d_R_holds_12 rfl rfl ?_
    refine xo_i2l d_R_holds_13 ?_
    refine xo_ldc2 d_R_holds_14 tw_756 ?_
    refine xo_land d_R_holds_17 ?_
    refine xo_lcge d_R_holds_18 d_R_holds_19 h (fun h => ?_) (fun h => ?_)
    · refine xo_iconst d_R_holds_26 xic_0 ?_
      refine xo_goto d_R_holds_27 ?_
      exact xo_sub [0, 1, 2] [(0, .int l0), (1, .int l1), (2, .int l2)] rfl (kb_R_holds_40 X sz ro w _ _ _ _ h)
    · refine xo_iconst d_R_holds_22 xic_1 ?_
      refine xo_goto d_R_holds_23 ?_
      exact xo_sub [0, 1, 2] [(0, .int l0), (1, .int l1), (2, .int l2)] rfl (kb_R_holds_40 X sz ro w _ _ _ _ h)
theorem c_R_holds (l : Launch) (D : va_G) (cT : Nat → ClassId) (sz : Nat) (w : xw) (l0 : Int32) (l1 : Int32) (l2 : Int32) (ro : Int32) (h : f_R_holds l0 l1 l2 = some ro) : xM l y_R_holds b_R_holds 5 t_R_holds R_R_holds D cT [.int l0, .int l1, .int l2] w sz (some (.int ro), w, sz) :=
  xm_of bl_R_holds rfl rfl (kb_R_holds_0 (l, D, cT, [.int l0, .int l1, .int l2], w, sz) sz ro w l0 l1 l2 h)
theorem kb_R_run_445 (X : xX) (sz : Nat) (ro : Int32 × xw) (w : xw) (l0 : Nat) (l2 : Int32) (h : f_R_run_b445 w l0 l2 = some ro) : k_R_run X [(0, .ref l0), (2, .int l2)] [] w sz 0 0 445 (some (.int ro.1), ro.2, sz) := by
  unfold f_R_run_b445 at h
  refine xo_iload_n 1 d_R_run_445 rfl rfl ?_
  refine xo_aload_n 0 d_R_run_446 rfl rfl ?_
  refine xo_getI 1 d_R_run_447 xc_8 rfl tw_644 rfl h (fun x1 h => ?_)
  refine xo_icmp_lt d_R_run_450 h (fun h => ?_) (fun h => ?_)
  · refine xo_aload_n 0 d_R_run_459 rfl rfl ?_
    refine xo_dup d_R_run_460 rfl ?_
    refine xo_getI 22 d_R_run_461 xc_8 rfl tw_665 rfl h (fun x2 h => ?_)
    refine xo_iconst d_R_run_464 xic_1 ?_
    refine xo_iadd d_R_run_465 ?_
    refine xo_putI 22 d_R_run_466 xc_8 rfl tw_665 rfl rfl rfl rfl h (fun w3 h => ?_)
    refine xo_aload_n 0 d_R_run_469 rfl rfl ?_
    refine xo_getR 23 d_R_run_470 xc_8 rfl tw_666 rfl h (fun a4 h => ?_)
    refine xo_iconst d_R_run_473 xic_0 ?_
    refine xo_aldI d_R_run_474 h (fun x5 h => ?_)
    exact xo_retIH d_R_run_475 rfl rfl rfl h
  · refine xo_aload_n 0 d_R_run_453 rfl rfl ?_
    refine xo_iconst d_R_run_454 xic_1 ?_
    refine xo_V_IH (rest := []) [.int (1 : Int32)] d_R_run_455 tw_881 yw_R_refuse h xc_8 (fun z e => c_R_refuse _ _ _ _ _ _ _ z e) rfl ⟨rfl, rfl⟩ rfl rfl rfl (fun q6 h => ?_)
    exact xo_retIH d_R_run_458 rfl rfl rfl h
theorem kb_R_run_441 (X : xX) (sz : Nat) (ro : Int32 × xw) (r74 : xw → Nat → Int32 → Option (Int32 × xw)) (R74 : ∀ (w : xw) (l0 : Nat) (l2 : Int32), r74 w l0 l2 = some ro → k_R_run X [(0, .ref l0), (2, .int l2)] [] w sz 0 0 74 (some (.int ro.1), ro.2, sz)) (w : xw) (l0 : Nat) (s0 : Int32) (h : f_R_run_b441 r74 w l0 s0 = some ro) : k_R_run X [(0, .ref l0)] [.int s0] w sz 0 0 441 (some (.int ro.1), ro.2, sz) := by
  unfold f_R_run_b441 at h
  refine xo_istore_n [(2, .int s0), (0, .ref l0)] d_R_run_441 rfl rfl rfl ?_
  refine xo_goto d_R_run_442 ?_
  exact xo_sub [1, 0] [(0, .ref l0), (2, .int s0)] rfl (R74 _ _ _ h)
theorem kb_R_run_420 (X : xX) (sz : Nat) (ro : Int32 × xw) (r74 : xw → Nat → Int32 → Option (Int32 × xw)) (R74 : ∀ (w : xw) (l0 : Nat) (l2 : Int32), r74 w l0 l2 = some ro → k_R_run X [(0, .ref l0), (2, .int l2)] [] w sz 0 0 74 (some (.int ro.1), ro.2, sz)) (w : xw) (l0 : Nat) (l2 : Int32) (l6 : Int32) (h : f_R_run_b420 r74 w l0 l2 l6 = some ro) : k_R_run X [(0, .ref l0), (2, .int l2), (6, .int l6)] [] w sz 0 0 420 (some (.int ro.1), ro.2, sz) := by
  unfold f_R_run_b420 at h
  refine xo_iload 2 d_R_run_420 rfl ?_
  refine xo_if_eq d_R_run_422 h (fun h => ?_) (fun h => ?_)
  · refine xo_iload_n 1 d_R_run_438 rfl rfl ?_
    refine xo_iconst d_R_run_439 xic_1 ?_
    refine xo_iadd d_R_run_440 ?_
    exact xo_sub [0] [(0, .ref l0)] rfl (kb_R_run_441 X sz ro _ R74 _ _ _ h)
  · refine xo_iload_n 1 d_R_run_425 rfl rfl ?_
    refine xo_iconst d_R_run_426 xic_1 ?_
    refine xo_iadd d_R_run_427 ?_
    refine xo_aload_n 0 d_R_run_428 rfl rfl ?_
    refine xo_getR 6 d_R_run_429 xc_8 rfl tw_649 rfl h (fun a1 h => ?_)
    refine xo_iload_n 1 d_R_run_432 rfl rfl ?_
    refine xo_aldI d_R_run_433 h (fun x2 h => ?_)
    refine xo_iadd d_R_run_434 ?_
    refine xo_goto d_R_run_435 ?_
    exact xo_sub [0] [(0, .ref l0)] rfl (kb_R_run_441 X sz ro _ R74 _ _ _ h)
theorem kb_R_run_394 (X : xX) (sz : Nat) (ro : Int32 × xw) (r74 : xw → Nat → Int32 → Option (Int32 × xw)) (R74 : ∀ (w : xw) (l0 : Nat) (l2 : Int32), r74 w l0 l2 = some ro → k_R_run X [(0, .ref l0), (2, .int l2)] [] w sz 0 0 74 (some (.int ro.1), ro.2, sz)) (w : xw) (l0 : Nat) (l2 : Int32) (s0 : Int32) (h : f_R_run_b394 r74 w l0 l2 s0 = some ro) : k_R_run X [(0, .ref l0), (2, .int l2)] [.int s0] w sz 0 0 394 (some (.int ro.1), ro.2, sz) := by
  unfold f_R_run_b394 at h
  refine xo_istore [(6, .int s0), (0, .ref l0), (2, .int l2)] d_R_run_394 rfl rfl ?_
  refine xo_goto d_R_run_396 ?_
  exact xo_sub [1, 2, 0] [(0, .ref l0), (2, .int l2), (6, .int s0)] rfl (kb_R_run_420 X sz ro _ R74 _ _ _ _ h)
theorem kb_R_run_213 (X : xX) (sz : Nat) (ro : Int32 × xw) (r74 : xw → Nat → Int32 → Option (Int32 × xw)) (R74 : ∀ (w : xw) (l0 : Nat) (l2 : Int32), r74 w l0 l2 = some ro → k_R_run X [(0, .ref l0), (2, .int l2)] [] w sz 0 0 74 (some (.int ro.1), ro.2, sz)) (w : xw) (l0 : Nat) (l2 : Int32) (l3 : Int32) (l4 : Int32) (l5 : Int32) (l6 : Int32) (h : f_R_run_b213 r74 w l0 l2 l3 l4 l5 l6 = some ro) : k_R_run X [(0, .ref l0), (2, .int l2), (3, .int l3), (4, .int l4), (5, .int l5), (6, .int l6)] [] w sz 0 0 213 (some (.int ro.1), ro.2, sz) := by
  unfold f_R_run_b213 at h
  refine xo_iload_n 2 d_R_run_213 rfl rfl ?_
  refine xo_bipush d_R_run_214 xbp_11 ?_
  refine xo_icmp_gt d_R_run_216 h (fun h => ?_) (fun h => ?_)
  · refine xo_iload_n 2 d_R_run_242 rfl rfl ?_
    refine xo_bipush d_R_run_243 xbp_12 ?_
    refine xo_icmp_ne d_R_run_245 h (fun h => ?_) (fun h => ?_)
    · refine xo_iload_n 2 d_R_run_265 rfl rfl ?_
      refine xo_bipush d_R_run_266 xbp_13 ?_
      refine xo_icmp_ne d_R_run_268 h (fun h => ?_) (fun h => ?_)
      · refine xo_iload_n 2 d_R_run_288 rfl rfl ?_
        refine xo_bipush d_R_run_289 xbp_14 ?_
        refine xo_icmp_ne d_R_run_291 h (fun h => ?_) (fun h => ?_)
        · refine xo_iload_n 2 d_R_run_359 rfl rfl ?_
          refine xo_bipush d_R_run_360 xbp_15 ?_
          refine xo_icmp_ne d_R_run_362 h (fun h => ?_) (fun h => ?_)
          · refine xo_iload_n 2 d_R_run_399 rfl rfl ?_
            refine xo_bipush d_R_run_400 xbp_21 ?_
            refine xo_icmp_gt d_R_run_402 h (fun h => ?_) (fun h => ?_)
            · exact xo_sub [0, 1, 5] [(0, .ref l0), (2, .int l2), (6, .int l6)] rfl (kb_R_run_420 X sz ro _ R74 _ _ _ _ h)
            · refine xo_iload_n 2 d_R_run_405 rfl rfl ?_
              refine xo_aload_n 0 d_R_run_406 rfl rfl ?_
              refine xo_getR 23 d_R_run_407 xc_8 rfl tw_666 rfl h (fun a1 h => ?_)
              refine xo_iload 3 d_R_run_410 rfl ?_
              refine xo_aldI d_R_run_412 h (fun x2 h => ?_)
              refine xo_iload 4 d_R_run_413 rfl ?_
              refine xo_S_I0 (rest := []) [.int l3, .int x2, .int l5] d_R_run_415 tw_895 yw_R_holds h (fun z e => c_R_holds _ _ _ _ _ _ _ _ z e) rfl ⟨rfl, rfl⟩ rfl rfl rfl (fun q3 h => ?_)
              refine xo_istore [(6, .int q3), (0, .ref l0), (2, .int l2), (3, .int l3), (4, .int l4), (5, .int l5)] d_R_run_418 rfl rfl ?_
              exact xo_sub [1, 2, 0] [(0, .ref l0), (2, .int l2), (6, .int q3)] rfl (kb_R_run_420 X sz ro _ R74 _ _ _ _ h)
          · refine xo_iload 4 d_R_run_365 rfl ?_
            refine xo_i2l d_R_run_367 ?_
            refine xo_ldc2 d_R_run_368 tw_756 ?_
            refine xo_land d_R_run_371 ?_
            refine xo_aload_n 0 d_R_run_372 rfl rfl ?_
            refine xo_getR 5 d_R_run_373 xc_8 rfl tw_648 rfl h (fun a4 h => ?_)
            refine xo_iload_n 1 d_R_run_376 rfl rfl ?_
            refine xo_aldI d_R_run_377 h (fun x5 h => ?_)
            refine xo_i2l d_R_run_378 ?_
            refine xo_ladd d_R_run_379 ?_
            refine xo_aload_n 0 d_R_run_380 rfl rfl ?_
            refine xo_getI 7 d_R_run_381 xc_8 rfl tw_650 rfl h (fun x6 h => ?_)
            refine xo_i2l d_R_run_384 ?_
            refine xo_lcle d_R_run_385 d_R_run_386 h (fun h => ?_) (fun h => ?_)
            · refine xo_iconst d_R_run_393 xic_0 ?_
              exact xo_sub [0, 1] [(0, .ref l0), (2, .int l2)] rfl (kb_R_run_394 X sz ro _ R74 _ _ _ _ h)
            · refine xo_iconst d_R_run_389 xic_1 ?_
              refine xo_goto d_R_run_390 ?_
              exact xo_sub [0, 1] [(0, .ref l0), (2, .int l2)] rfl (kb_R_run_394 X sz ro _ R74 _ _ _ _ h)
        · refine xo_iload 4 d_R_run_294 rfl ?_
          refine xo_i2l d_R_run_296 ?_
          refine xo_ldc2 d_R_run_297 tw_756 ?_
          refine xo_land d_R_run_300 ?_
          refine xo_aload_n 0 d_R_run_301 rfl rfl ?_
          refine xo_getR 5 d_R_run_302 xc_8 rfl tw_648 rfl h (fun a7 h => ?_)
          refine xo_iload_n 1 d_R_run_305 rfl rfl ?_
          refine xo_aldI d_R_run_306 h (fun x8 h => ?_)
          refine xo_i2l d_R_run_307 ?_
          refine xo_ladd d_R_run_308 ?_
          refine xo_nmL h (fun x9 h => ?_)
          refine xo_lstore [(7, .long x9), (0, .ref l0), (2, .int l2), (3, .int l3), (4, .int l4), (5, .int l5), (6, .int l6)] d_R_run_309 rfl rfl ?_
          refine xo_lload 0 d_R_run_311 rfl ?_
          refine xo_aload_n 1 d_R_run_313 rfl rfl ?_
          refine xo_getR 6 d_R_run_314 xc_8 rfl tw_649 rfl h (fun a10 h => ?_)
          refine xo_iload_n 2 d_R_run_317 rfl rfl ?_
          refine xo_aldI d_R_run_318 h (fun x11 h => ?_)
          refine xo_i2l d_R_run_319 ?_
          refine xo_ladd d_R_run_320 ?_
          refine xo_aload_n 1 d_R_run_321 rfl rfl ?_
          refine xo_getI 7 d_R_run_322 xc_8 rfl tw_650 rfl h (fun x12 h => ?_)
          refine xo_i2l d_R_run_325 ?_
          refine xo_lcle d_R_run_326 d_R_run_327 h (fun h => ?_) (fun h => ?_)
          · refine xo_aload_n 1 d_R_run_336 rfl rfl ?_
            refine xo_getR 23 d_R_run_337 xc_8 rfl tw_666 rfl h (fun a13 h => ?_)
            refine xo_iload 4 d_R_run_340 rfl ?_
            refine xo_aload_n 1 d_R_run_342 rfl rfl ?_
            refine xo_lload 0 d_R_run_343 rfl ?_
            refine xo_l2i d_R_run_345 ?_
            refine xo_aload_n 1 d_R_run_346 rfl rfl ?_
            refine xo_getR 6 d_R_run_347 xc_8 rfl tw_649 rfl h (fun a14 h => ?_)
            refine xo_iload_n 2 d_R_run_350 rfl rfl ?_
            refine xo_aldI d_R_run_351 h (fun x15 h => ?_)
            refine xo_V_IH (rest := [.int l4, .ref a13]) [.int x9.toInt32, .int x15] d_R_run_352 tw_891 yw_R_bytesAt h xc_8 (fun z e => c_R_bytesAt _ _ _ _ _ _ _ _ z e) rfl ⟨rfl, rfl⟩ rfl rfl rfl (fun q16 h => ?_)
            refine xo_astI d_R_run_355 h (fun w17 h => ?_)
            refine xo_goto d_R_run_356 ?_
            exact xo_sub [1, 2, 6] [(0, .ref l0), (2, .int l2), (6, .int l6)] rfl (kb_R_run_420 X sz ro _ R74 _ _ _ _ h)
          · refine xo_aload_n 1 d_R_run_330 rfl rfl ?_
            refine xo_iconst d_R_run_331 xic_3 ?_
            refine xo_V_IH (rest := []) [.int (3 : Int32)] d_R_run_332 tw_881 yw_R_refuse h xc_8 (fun z e => c_R_refuse _ _ _ _ _ _ _ z e) rfl ⟨rfl, rfl⟩ rfl rfl rfl (fun q18 h => ?_)
            exact xo_retIH d_R_run_335 rfl rfl rfl h
      · refine xo_aload_n 0 d_R_run_271 rfl rfl ?_
        refine xo_getR 24 d_R_run_272 xc_8 rfl tw_667 rfl h (fun a19 h => ?_)
        refine xo_iload 4 d_R_run_275 rfl ?_
        refine xo_aload_n 0 d_R_run_277 rfl rfl ?_
        refine xo_getR 23 d_R_run_278 xc_8 rfl tw_666 rfl h (fun a20 h => ?_)
        refine xo_iload 3 d_R_run_281 rfl ?_
        refine xo_aldI d_R_run_283 h (fun x21 h => ?_)
        refine xo_astI d_R_run_284 h (fun w22 h => ?_)
        refine xo_goto d_R_run_285 ?_
        exact xo_sub [0, 1, 5] [(0, .ref l0), (2, .int l2), (6, .int l6)] rfl (kb_R_run_420 X sz ro _ R74 _ _ _ _ h)
    · refine xo_aload_n 0 d_R_run_248 rfl rfl ?_
      refine xo_getR 23 d_R_run_249 xc_8 rfl tw_666 rfl h (fun a23 h => ?_)
      refine xo_iload 3 d_R_run_252 rfl ?_
      refine xo_aload_n 0 d_R_run_254 rfl rfl ?_
      refine xo_getR 24 d_R_run_255 xc_8 rfl tw_667 rfl h (fun a24 h => ?_)
      refine xo_iload 4 d_R_run_258 rfl ?_
      refine xo_aldI d_R_run_260 h (fun x25 h => ?_)
      refine xo_astI d_R_run_261 h (fun w26 h => ?_)
      refine xo_goto d_R_run_262 ?_
      exact xo_sub [0, 1, 5] [(0, .ref l0), (2, .int l2), (6, .int l6)] rfl (kb_R_run_420 X sz ro _ R74 _ _ _ _ h)
  · refine xo_aload_n 0 d_R_run_219 rfl rfl ?_
    refine xo_getR 23 d_R_run_220 xc_8 rfl tw_666 rfl h (fun a27 h => ?_)
    refine xo_iload 3 d_R_run_223 rfl ?_
    refine xo_iload_n 2 d_R_run_225 rfl rfl ?_
    refine xo_aload_n 0 d_R_run_226 rfl rfl ?_
    refine xo_getR 23 d_R_run_227 xc_8 rfl tw_666 rfl h (fun a28 h => ?_)
    refine xo_iload 3 d_R_run_230 rfl ?_
    refine xo_aldI d_R_run_232 h (fun x29 h => ?_)
    refine xo_iload 4 d_R_run_233 rfl ?_
    refine xo_S_I0 (rest := [.int l4, .ref a27]) [.int l3, .int x29, .int l5] d_R_run_235 tw_885 yw_R_reckon h (fun z e => c_R_reckon _ _ _ _ _ _ _ _ z e) rfl ⟨rfl, rfl⟩ rfl rfl rfl (fun q30 h => ?_)
    refine xo_astI d_R_run_238 h (fun w31 h => ?_)
    refine xo_goto d_R_run_239 ?_
    exact xo_sub [0, 1, 5] [(0, .ref l0), (2, .int l2), (6, .int l6)] rfl (kb_R_run_420 X sz ro _ R74 _ _ _ _ h)
theorem kb_R_run_197 (X : xX) (sz : Nat) (ro : Int32 × xw) (r74 : xw → Nat → Int32 → Option (Int32 × xw)) (R74 : ∀ (w : xw) (l0 : Nat) (l2 : Int32), r74 w l0 l2 = some ro → k_R_run X [(0, .ref l0), (2, .int l2)] [] w sz 0 0 74 (some (.int ro.1), ro.2, sz)) (w : xw) (l0 : Nat) (l2 : Int32) (l3 : Int32) (l4 : Int32) (l5 : Int32) (l6 : Int32) (h : f_R_run_b197 r74 w l0 l2 l3 l4 l5 l6 = some ro) : k_R_run X [(0, .ref l0), (2, .int l2), (3, .int l3), (4, .int l4), (5, .int l5), (6, .int l6)] [] w sz 0 0 197 (some (.int ro.1), ro.2, sz) := by
  unfold f_R_run_b197 at h
  refine xo_iload 4 d_R_run_197 rfl ?_
  refine xo_iconst d_R_run_199 xic_0 ?_
  refine xo_iconst d_R_run_200 xic_3 ?_
  refine xo_S_I0 (rest := []) [.int l5, .int (0 : Int32), .int (3 : Int32)] d_R_run_201 tw_728 yw_R_within h (fun z e => c_R_within _ _ _ _ _ _ _ _ z e) rfl ⟨rfl, rfl⟩ rfl rfl rfl (fun q1 h => ?_)
  refine xo_if_ne d_R_run_204 h (fun h => ?_) (fun h => ?_)
  · exact xo_sub [0, 1, 2, 3, 4, 5] [(0, .ref l0), (2, .int l2), (3, .int l3), (4, .int l4), (5, .int l5), (6, .int l6)] rfl (kb_R_run_213 X sz ro _ R74 _ _ _ _ _ _ _ h)
  · refine xo_aload_n 0 d_R_run_207 rfl rfl ?_
    refine xo_iconst d_R_run_208 xic_3 ?_
    refine xo_V_IH (rest := []) [.int (3 : Int32)] d_R_run_209 tw_881 yw_R_refuse h xc_8 (fun z e => c_R_refuse _ _ _ _ _ _ _ z e) rfl ⟨rfl, rfl⟩ rfl rfl rfl (fun q2 h => ?_)
    exact xo_retIH d_R_run_212 rfl rfl rfl h
theorem kb_R_run_185 (X : xX) (sz : Nat) (ro : Int32 × xw) (r74 : xw → Nat → Int32 → Option (Int32 × xw)) (R74 : ∀ (w : xw) (l0 : Nat) (l2 : Int32), r74 w l0 l2 = some ro → k_R_run X [(0, .ref l0), (2, .int l2)] [] w sz 0 0 74 (some (.int ro.1), ro.2, sz)) (w : xw) (l0 : Nat) (l2 : Int32) (l3 : Int32) (l4 : Int32) (l5 : Int32) (l6 : Int32) (h : f_R_run_b185 r74 w l0 l2 l3 l4 l5 l6 = some ro) : k_R_run X [(0, .ref l0), (2, .int l2), (3, .int l3), (4, .int l4), (5, .int l5), (6, .int l6)] [] w sz 0 0 185 (some (.int ro.1), ro.2, sz) := by
  unfold f_R_run_b185 at h
  refine xo_iload_n 2 d_R_run_185 rfl rfl ?_
  refine xo_bipush d_R_run_186 xbp_12 ?_
  refine xo_icmp_eq d_R_run_188 h (fun h => ?_) (fun h => ?_)
  · exact xo_sub [0, 1, 2, 3, 4, 5] [(0, .ref l0), (2, .int l2), (3, .int l3), (4, .int l4), (5, .int l5), (6, .int l6)] rfl (kb_R_run_197 X sz ro _ R74 _ _ _ _ _ _ _ h)
  · refine xo_iload_n 2 d_R_run_191 rfl rfl ?_
    refine xo_bipush d_R_run_192 xbp_13 ?_
    refine xo_icmp_ne d_R_run_194 h (fun h => ?_) (fun h => ?_)
    · exact xo_sub [0, 1, 2, 3, 4, 5] [(0, .ref l0), (2, .int l2), (3, .int l3), (4, .int l4), (5, .int l5), (6, .int l6)] rfl (kb_R_run_213 X sz ro _ R74 _ _ _ _ _ _ _ h)
    · exact xo_sub [0, 1, 2, 3, 4, 5] [(0, .ref l0), (2, .int l2), (3, .int l3), (4, .int l4), (5, .int l5), (6, .int l6)] rfl (kb_R_run_197 X sz ro _ R74 _ _ _ _ _ _ _ h)
theorem kb_R_run_174 (X : xX) (sz : Nat) (ro : Int32 × xw) (r74 : xw → Nat → Int32 → Option (Int32 × xw)) (R74 : ∀ (w : xw) (l0 : Nat) (l2 : Int32), r74 w l0 l2 = some ro → k_R_run X [(0, .ref l0), (2, .int l2)] [] w sz 0 0 74 (some (.int ro.1), ro.2, sz)) (w : xw) (l0 : Nat) (l2 : Int32) (l3 : Int32) (l4 : Int32) (l5 : Int32) (l6 : Int32) (h : f_R_run_b174 r74 w l0 l2 l3 l4 l5 l6 = some ro) : k_R_run X [(0, .ref l0), (2, .int l2), (3, .int l3), (4, .int l4), (5, .int l5), (6, .int l6)] [] w sz 0 0 174 (some (.int ro.1), ro.2, sz) := by
  unfold f_R_run_b174 at h
  refine xo_iload 4 d_R_run_174 rfl ?_
  refine xo_if_ne d_R_run_176 h (fun h => ?_) (fun h => ?_)
  · exact xo_sub [0, 1, 2, 3, 4, 5] [(0, .ref l0), (2, .int l2), (3, .int l3), (4, .int l4), (5, .int l5), (6, .int l6)] rfl (kb_R_run_185 X sz ro _ R74 _ _ _ _ _ _ _ h)
  · refine xo_aload_n 0 d_R_run_179 rfl rfl ?_
    refine xo_iconst d_R_run_180 xic_2 ?_
    refine xo_V_IH (rest := []) [.int (2 : Int32)] d_R_run_181 tw_881 yw_R_refuse h xc_8 (fun z e => c_R_refuse _ _ _ _ _ _ _ z e) rfl ⟨rfl, rfl⟩ rfl rfl rfl (fun q1 h => ?_)
    exact xo_retIH d_R_run_184 rfl rfl rfl h
theorem kb_R_run_160 (X : xX) (sz : Nat) (ro : Int32 × xw) (r74 : xw → Nat → Int32 → Option (Int32 × xw)) (R74 : ∀ (w : xw) (l0 : Nat) (l2 : Int32), r74 w l0 l2 = some ro → k_R_run X [(0, .ref l0), (2, .int l2)] [] w sz 0 0 74 (some (.int ro.1), ro.2, sz)) (w : xw) (l0 : Nat) (l2 : Int32) (l3 : Int32) (l4 : Int32) (l5 : Int32) (s0 : Int32) (h : f_R_run_b160 r74 w l0 l2 l3 l4 l5 s0 = some ro) : k_R_run X [(0, .ref l0), (2, .int l2), (3, .int l3), (4, .int l4), (5, .int l5)] [.int s0] w sz 0 0 160 (some (.int ro.1), ro.2, sz) := by
  unfold f_R_run_b160 at h
  refine xo_istore [(6, .int s0), (0, .ref l0), (2, .int l2), (3, .int l3), (4, .int l4), (5, .int l5)] d_R_run_160 rfl rfl ?_
  refine xo_iload_n 3 d_R_run_162 rfl rfl ?_
  refine xo_bipush d_R_run_163 xbp_10 ?_
  refine xo_icmp_eq d_R_run_165 h (fun h => ?_) (fun h => ?_)
  · exact xo_sub [1, 2, 3, 4, 5, 0] [(0, .ref l0), (2, .int l2), (3, .int l3), (4, .int l4), (5, .int l5), (6, .int s0)] rfl (kb_R_run_174 X sz ro _ R74 _ _ _ _ _ _ _ h)
  · refine xo_iload_n 3 d_R_run_168 rfl rfl ?_
    refine xo_bipush d_R_run_169 xbp_11 ?_
    refine xo_icmp_ne d_R_run_171 h (fun h => ?_) (fun h => ?_)
    · exact xo_sub [1, 2, 3, 4, 5, 0] [(0, .ref l0), (2, .int l2), (3, .int l3), (4, .int l4), (5, .int l5), (6, .int s0)] rfl (kb_R_run_185 X sz ro _ R74 _ _ _ _ _ _ _ h)
    · exact xo_sub [1, 2, 3, 4, 5, 0] [(0, .ref l0), (2, .int l2), (3, .int l3), (4, .int l4), (5, .int l5), (6, .int s0)] rfl (kb_R_run_174 X sz ro _ R74 _ _ _ _ _ _ _ h)
theorem kb_R_run_147 (X : xX) (sz : Nat) (ro : Int32 × xw) (r74 : xw → Nat → Int32 → Option (Int32 × xw)) (R74 : ∀ (w : xw) (l0 : Nat) (l2 : Int32), r74 w l0 l2 = some ro → k_R_run X [(0, .ref l0), (2, .int l2)] [] w sz 0 0 74 (some (.int ro.1), ro.2, sz)) (w : xw) (l0 : Nat) (l2 : Int32) (l3 : Int32) (l4 : Int32) (s0 : Int32) (h : f_R_run_b147 r74 w l0 l2 l3 l4 s0 = some ro) : k_R_run X [(0, .ref l0), (2, .int l2), (3, .int l3), (4, .int l4)] [.int s0] w sz 0 0 147 (some (.int ro.1), ro.2, sz) := by
  unfold f_R_run_b147 at h
  refine xo_istore [(5, .int s0), (0, .ref l0), (2, .int l2), (3, .int l3), (4, .int l4)] d_R_run_147 rfl rfl ?_
  refine xo_iload_n 3 d_R_run_149 rfl rfl ?_
  refine xo_bipush d_R_run_150 xbp_22 ?_
  refine xo_icmp_ne d_R_run_152 h (fun h => ?_) (fun h => ?_)
  · refine xo_iconst d_R_run_159 xic_0 ?_
    exact xo_sub [1, 2, 3, 4, 0] [(0, .ref l0), (2, .int l2), (3, .int l3), (4, .int l4), (5, .int s0)] rfl (kb_R_run_160 X sz ro _ R74 _ _ _ _ _ _ _ h)
  · refine xo_iconst d_R_run_155 xic_1 ?_
    refine xo_goto d_R_run_156 ?_
    exact xo_sub [1, 2, 3, 4, 0] [(0, .ref l0), (2, .int l2), (3, .int l3), (4, .int l4), (5, .int s0)] rfl (kb_R_run_160 X sz ro _ R74 _ _ _ _ _ _ _ h)
theorem ks_R_run_74 (X : xX) (sz : Nat) (ro : Int32 × xw) (r74 : xw → Nat → Int32 → Option (Int32 × xw)) (R74 : ∀ (w : xw) (l0 : Nat) (l2 : Int32), r74 w l0 l2 = some ro → k_R_run X [(0, .ref l0), (2, .int l2)] [] w sz 0 0 74 (some (.int ro.1), ro.2, sz)) (w : xw) (l0 : Nat) (l2 : Int32) (h : f_R_run_s74 r74 w l0 l2 = some ro) : k_R_run X [(0, .ref l0), (2, .int l2)] [] w sz 0 0 74 (some (.int ro.1), ro.2, sz) := by
  unfold f_R_run_s74 at h
  refine xo_iload_n 1 d_R_run_74 rfl rfl ?_
  refine xo_aload_n 0 d_R_run_75 rfl rfl ?_
  refine xo_getI 1 d_R_run_76 xc_8 rfl tw_644 rfl h (fun x1 h => ?_)
  refine xo_icmp_ge d_R_run_79 h (fun h => ?_) (fun h => ?_)
  · exact xo_sub [0, 1] [(0, .ref l0), (2, .int l2)] rfl (kb_R_run_445 X sz ro _ _ _ h)
  · refine xo_aload_n 0 d_R_run_82 rfl rfl ?_
    refine xo_getR 2 d_R_run_83 xc_8 rfl tw_645 rfl h (fun a2 h => ?_)
    refine xo_iload_n 1 d_R_run_86 rfl rfl ?_
    refine xo_aldI d_R_run_87 h (fun x3 h => ?_)
    refine xo_bipush d_R_run_88 xbp_23 ?_
    refine xo_icmp_eq d_R_run_90 h (fun h => ?_) (fun h => ?_)
    · exact xo_sub [0, 1] [(0, .ref l0), (2, .int l2)] rfl (kb_R_run_445 X sz ro _ _ _ h)
    · refine xo_aload_n 0 d_R_run_93 rfl rfl ?_
      refine xo_dup d_R_run_94 rfl ?_
      refine xo_getI 22 d_R_run_95 xc_8 rfl tw_665 rfl h (fun x4 h => ?_)
      refine xo_iconst d_R_run_98 xic_1 ?_
      refine xo_iadd d_R_run_99 ?_
      refine xo_putI 22 d_R_run_100 xc_8 rfl tw_665 rfl rfl rfl rfl h (fun w5 h => ?_)
      refine xo_aload_n 0 d_R_run_103 rfl rfl ?_
      refine xo_getR 2 d_R_run_104 xc_8 rfl tw_645 rfl h (fun a6 h => ?_)
      refine xo_iload_n 1 d_R_run_107 rfl rfl ?_
      refine xo_aldI d_R_run_108 h (fun x7 h => ?_)
      refine xo_istore_n [(3, .int x7), (0, .ref l0), (2, .int l2)] d_R_run_109 rfl rfl rfl ?_
      refine xo_aload_n 1 d_R_run_110 rfl rfl ?_
      refine xo_getR 3 d_R_run_111 xc_8 rfl tw_646 rfl h (fun a8 h => ?_)
      refine xo_iload_n 2 d_R_run_114 rfl rfl ?_
      refine xo_aldI d_R_run_115 h (fun x9 h => ?_)
      refine xo_istore [(4, .int x9), (3, .int x7), (0, .ref l0), (2, .int l2)] d_R_run_116 rfl rfl ?_
      refine xo_aload_n 2 d_R_run_118 rfl rfl ?_
      refine xo_getR 4 d_R_run_119 xc_8 rfl tw_647 rfl h (fun a10 h => ?_)
      refine xo_iload_n 3 d_R_run_122 rfl rfl ?_
      refine xo_aldI d_R_run_123 h (fun x11 h => ?_)
      refine xo_if_ge d_R_run_124 h (fun h => ?_) (fun h => ?_)
      · refine xo_aload_n 2 d_R_run_136 rfl rfl ?_
        refine xo_getR 23 d_R_run_137 xc_8 rfl tw_666 rfl h (fun a12 h => ?_)
        refine xo_aload_n 2 d_R_run_140 rfl rfl ?_
        refine xo_getR 4 d_R_run_141 xc_8 rfl tw_647 rfl h (fun a13 h => ?_)
        refine xo_iload_n 3 d_R_run_144 rfl rfl ?_
        refine xo_aldI d_R_run_145 h (fun x14 h => ?_)
        refine xo_aldI d_R_run_146 h (fun x15 h => ?_)
        exact xo_sub [2, 3, 1, 0] [(0, .ref l0), (2, .int l2), (3, .int x7), (4, .int x9)] rfl (kb_R_run_147 X sz ro _ R74 _ _ _ _ _ _ h)
      · refine xo_aload_n 2 d_R_run_127 rfl rfl ?_
        refine xo_getR 5 d_R_run_128 xc_8 rfl tw_648 rfl h (fun a16 h => ?_)
        refine xo_iload_n 3 d_R_run_131 rfl rfl ?_
        refine xo_aldI d_R_run_132 h (fun x17 h => ?_)
        refine xo_goto d_R_run_133 ?_
        exact xo_sub [2, 3, 1, 0] [(0, .ref l0), (2, .int l2), (3, .int x7), (4, .int x9)] rfl (kb_R_run_147 X sz ro _ R74 _ _ _ _ _ _ h)
theorem kb_R_run_74 (X : xX) (sz : Nat) (ro : Int32 × xw) (n : Nat) : ∀ (w : xw) (l0 : Nat) (l2 : Int32), f_R_run_b74 n w l0 l2 = some ro → k_R_run X [(0, .ref l0), (2, .int l2)] [] w sz 0 0 74 (some (.int ro.1), ro.2, sz) := by
  unfold f_R_run_b74
  refine xfix_ind (P := fun (r74 : xw → Nat → Int32 → Option (Int32 × xw)) => ∀ (w : xw) (l0 : Nat) (l2 : Int32), r74 w l0 l2 = some ro → k_R_run X [(0, .ref l0), (2, .int l2)] [] w sz 0 0 74 (some (.int ro.1), ro.2, sz)) ?_ ?_ n
  · intro _ _ _ h
    cases h
  · intro r R w l0 l2 h
    exact ks_R_run_74 X sz ro r R _ _ _ h
theorem ks_R_run_54 (X : xX) (sz : Nat) (ro : Int32 × xw) (r54 : xw → Nat → Int32 → Option (Int32 × xw)) (R54 : ∀ (w : xw) (l0 : Nat) (l2 : Int32), r54 w l0 l2 = some ro → k_R_run X [(0, .ref l0), (2, .int l2)] [] w sz 0 0 54 (some (.int ro.1), ro.2, sz)) (w : xw) (l0 : Nat) (l2 : Int32) (h : f_R_run_s54 r54 w l0 l2 = some ro) : k_R_run X [(0, .ref l0), (2, .int l2)] [] w sz 0 0 54 (some (.int ro.1), ro.2, sz) := by
  unfold f_R_run_s54 at h
  refine xo_iload_n 1 d_R_run_54 rfl rfl ?_
  refine xo_iconst d_R_run_55 xic_4 ?_
  refine xo_icmp_ge d_R_run_56 h (fun h => ?_) (fun h => ?_)
  · refine xo_iconst d_R_run_72 xic_0 ?_
    refine xo_nmI h (fun x1 h => ?_)
    refine xo_istore_n [(2, .int x1), (0, .ref l0)] d_R_run_73 rfl rfl rfl ?_
    exact xo_sub [1, 0] [(0, .ref l0), (2, .int x1)] rfl (kb_R_run_74 X sz ro _ _ _ _ h)
  · refine xo_aload_n 0 d_R_run_59 rfl rfl ?_
    refine xo_getR 24 d_R_run_60 xc_8 rfl tw_667 rfl h (fun a2 h => ?_)
    refine xo_iload_n 1 d_R_run_63 rfl rfl ?_
    refine xo_iconst d_R_run_64 xic_0 ?_
    refine xo_astI d_R_run_65 h (fun w3 h => ?_)
    refine xo_iinc 1 (fun x4 => [(2, .int x4), (0, .ref l0)]) d_R_run_66 rfl rfl xic_1 (fun _ => rfl) h (fun x4 h => ?_)
    refine xo_goto d_R_run_69 ?_
    exact xo_sub [1, 0] [(0, .ref l0), (2, .int x4)] rfl (R54 _ _ _ h)
theorem kb_R_run_54 (X : xX) (sz : Nat) (ro : Int32 × xw) (n : Nat) : ∀ (w : xw) (l0 : Nat) (l2 : Int32), f_R_run_b54 n w l0 l2 = some ro → k_R_run X [(0, .ref l0), (2, .int l2)] [] w sz 0 0 54 (some (.int ro.1), ro.2, sz) := by
  unfold f_R_run_b54
  refine xfix_ind (P := fun (r54 : xw → Nat → Int32 → Option (Int32 × xw)) => ∀ (w : xw) (l0 : Nat) (l2 : Int32), r54 w l0 l2 = some ro → k_R_run X [(0, .ref l0), (2, .int l2)] [] w sz 0 0 54 (some (.int ro.1), ro.2, sz)) ?_ ?_ n
  · intro _ _ _ h
    cases h
  · intro r R w l0 l2 h
    exact ks_R_run_54 X sz ro r R _ _ _ h
theorem kb_R_run_45 (X : xX) (sz : Nat) (ro : Int32 × xw) (r12 : xw → Nat → Int32 → Int32 → Option (Int32 × xw)) (R12 : ∀ (w : xw) (l0 : Nat) (l1 : Int32) (l2 : Int32), r12 w l0 l1 l2 = some ro → k_R_run X [(0, .ref l0), (1, .int l1), (2, .int l2)] [] w sz 0 0 12 (some (.int ro.1), ro.2, sz)) (w : xw) (l0 : Nat) (l1 : Int32) (l2 : Int32) (s0 : Nat) (s1 : Int32) (s2 : Int32) (h : f_R_run_b45 r12 w l0 l1 l2 s0 s1 s2 = some ro) : k_R_run X [(0, .ref l0), (1, .int l1), (2, .int l2)] [.int s2, .int s1, .ref s0] w sz 0 0 45 (some (.int ro.1), ro.2, sz) := by
  unfold f_R_run_b45 at h
  refine xo_astI d_R_run_45 h (fun w1 h => ?_)
  refine xo_iinc 2 (fun x2 => [(2, .int x2), (0, .ref l0), (1, .int l1)]) d_R_run_46 rfl rfl xic_1 (fun _ => rfl) h (fun x2 h => ?_)
  refine xo_goto d_R_run_49 ?_
  exact xo_sub [1, 2, 0] [(0, .ref l0), (1, .int l1), (2, .int x2)] rfl (R12 _ _ _ _ h)
theorem ks_R_run_12 (X : xX) (sz : Nat) (ro : Int32 × xw) (r12 : xw → Nat → Int32 → Int32 → Option (Int32 × xw)) (R12 : ∀ (w : xw) (l0 : Nat) (l1 : Int32) (l2 : Int32), r12 w l0 l1 l2 = some ro → k_R_run X [(0, .ref l0), (1, .int l1), (2, .int l2)] [] w sz 0 0 12 (some (.int ro.1), ro.2, sz)) (w : xw) (l0 : Nat) (l1 : Int32) (l2 : Int32) (h : f_R_run_s12 r12 w l0 l1 l2 = some ro) : k_R_run X [(0, .ref l0), (1, .int l1), (2, .int l2)] [] w sz 0 0 12 (some (.int ro.1), ro.2, sz) := by
  unfold f_R_run_s12 at h
  refine xo_iload_n 2 d_R_run_12 rfl rfl ?_
  refine xo_bipush d_R_run_13 xbp_6 ?_
  refine xo_icmp_ge d_R_run_15 h (fun h => ?_) (fun h => ?_)
  · refine xo_iconst d_R_run_52 xic_0 ?_
    refine xo_nmI h (fun x1 h => ?_)
    refine xo_istore_n [(2, .int x1), (0, .ref l0), (1, .int l1)] d_R_run_53 rfl rfl rfl ?_
    exact xo_sub [1, 0] [(0, .ref l0), (2, .int x1)] rfl (kb_R_run_54 X sz ro _ _ _ _ h)
  · refine xo_aload_n 0 d_R_run_18 rfl rfl ?_
    refine xo_getR 23 d_R_run_19 xc_8 rfl tw_666 rfl h (fun a2 h => ?_)
    refine xo_iload_n 2 d_R_run_22 rfl rfl ?_
    refine xo_iload_n 2 d_R_run_23 rfl rfl ?_
    refine xo_iconst d_R_run_24 xic_1 ?_
    refine xo_icmp_ne d_R_run_25 h (fun h => ?_) (fun h => ?_)
    · refine xo_iload_n 2 d_R_run_35 rfl rfl ?_
      refine xo_iconst d_R_run_36 xic_2 ?_
      refine xo_icmp_ne d_R_run_37 h (fun h => ?_) (fun h => ?_)
      · refine xo_iconst d_R_run_44 xic_0 ?_
        exact xo_sub [0, 1, 2] [(0, .ref l0), (1, .int l1), (2, .int l2)] rfl (kb_R_run_45 X sz ro _ R12 _ _ _ _ _ _ _ h)
      · refine xo_iload_n 1 d_R_run_40 rfl rfl ?_
        refine xo_goto d_R_run_41 ?_
        exact xo_sub [0, 1, 2] [(0, .ref l0), (1, .int l1), (2, .int l2)] rfl (kb_R_run_45 X sz ro _ R12 _ _ _ _ _ _ _ h)
    · refine xo_aload_n 0 d_R_run_28 rfl rfl ?_
      refine xo_getI 7 d_R_run_29 xc_8 rfl tw_650 rfl h (fun x3 h => ?_)
      refine xo_goto d_R_run_32 ?_
      exact xo_sub [0, 1, 2] [(0, .ref l0), (1, .int l1), (2, .int l2)] rfl (kb_R_run_45 X sz ro _ R12 _ _ _ _ _ _ _ h)
theorem kb_R_run_12 (X : xX) (sz : Nat) (ro : Int32 × xw) (n : Nat) : ∀ (w : xw) (l0 : Nat) (l1 : Int32) (l2 : Int32), f_R_run_b12 n w l0 l1 l2 = some ro → k_R_run X [(0, .ref l0), (1, .int l1), (2, .int l2)] [] w sz 0 0 12 (some (.int ro.1), ro.2, sz) := by
  unfold f_R_run_b12
  refine xfix_ind (P := fun (r12 : xw → Nat → Int32 → Int32 → Option (Int32 × xw)) => ∀ (w : xw) (l0 : Nat) (l1 : Int32) (l2 : Int32), r12 w l0 l1 l2 = some ro → k_R_run X [(0, .ref l0), (1, .int l1), (2, .int l2)] [] w sz 0 0 12 (some (.int ro.1), ro.2, sz)) ?_ ?_ n
  · intro _ _ _ _ h
    cases h
  · intro r R w l0 l1 l2 h
    exact ks_R_run_12 X sz ro r R _ _ _ _ h
theorem kb_R_run_0 (X : xX) (sz : Nat) (ro : Int32 × xw) (w : xw) (l0 : Nat) (l1 : Int32) (h : f_R_run w l0 l1 = some ro) : k_R_run X [(0, .ref l0), (1, .int l1)] [] w sz 0 0 0 (some (.int ro.1), ro.2, sz) := by
  unfold f_R_run at h
  refine xo_aload_n 0 d_R_run_0 rfl rfl ?_
  refine xo_iconst d_R_run_1 xic_0 ?_
  refine xo_putI 0 d_R_run_2 xc_8 rfl tw_643 rfl rfl rfl rfl h (fun w1 h => ?_)
  refine xo_aload_n 0 d_R_run_5 rfl rfl ?_
  refine xo_iconst d_R_run_6 xic_0 ?_
  refine xo_putI 22 d_R_run_7 xc_8 rfl tw_665 rfl rfl rfl rfl h (fun w2 h => ?_)
  refine xo_iconst d_R_run_10 xic_0 ?_
  refine xo_nmI h (fun x3 h => ?_)
  refine xo_istore_n [(2, .int x3), (0, .ref l0), (1, .int l1)] d_R_run_11 rfl rfl rfl ?_
  exact xo_sub [1, 2, 0] [(0, .ref l0), (1, .int l1), (2, .int x3)] rfl (kb_R_run_12 X sz ro _ _ _ _ _ h)
theorem c_R_run (l : Launch) (D : va_G) (cT : Nat → ClassId) (sz : Nat) (w : xw) (l0 : Nat) (l1 : Int32) (ro : Int32 × xw) (h : f_R_run w l0 l1 = some ro) : xM l y_R_run b_R_run 9 t_R_run R_R_run D cT [.ref l0, .int l1] w sz (some (.int ro.1), ro.2, sz) :=
  xm_of bl_R_run rfl rfl (kb_R_run_0 (l, D, cT, [.ref l0, .int l1], w, sz) sz ro w l0 l1 h)
theorem kb_R_ran_0 (X : xX) (sz : Nat) (ro : Int32 × xw) (w : xw) (l0 : Nat) (h : f_R_ran w l0 = some ro) : k_R_ran X [(0, .ref l0)] [] w sz 0 0 0 (some (.int ro.1), ro.2, sz) := by
  unfold f_R_ran at h
  refine xo_aload_n 0 d_R_ran_0 rfl rfl ?_
  refine xo_iconst d_R_ran_1 xic_0 ?_
  refine xo_putI 0 d_R_ran_2 xc_8 rfl tw_643 rfl rfl rfl rfl h (fun w1 h => ?_)
  refine xo_aload_n 0 d_R_ran_5 rfl rfl ?_
  refine xo_getI 22 d_R_ran_6 xc_8 rfl tw_665 rfl h (fun x2 h => ?_)
  exact xo_retIH d_R_ran_9 rfl rfl rfl h
theorem c_R_ran (l : Launch) (D : va_G) (cT : Nat → ClassId) (sz : Nat) (w : xw) (l0 : Nat) (ro : Int32 × xw) (h : f_R_ran w l0 = some ro) : xM l y_R_ran b_R_ran 1 t_R_ran R_R_ran D cT [.ref l0] w sz (some (.int ro.1), ro.2, sz) :=
  xm_of bl_R_ran rfl rfl (kb_R_ran_0 (l, D, cT, [.ref l0], w, sz) sz ro w l0 h)
