abbrev c_Ref_holds : gC := (m_Ref_holds, 0, 0, 0, none, 0, 0)
def fn_Ref_holds_16 (a0 : Nat) (a1 : Int32) (I : fm_I) : pR := (if a1 = 2 then gi 6 a0 23 I (fun v2 => (if 32768 ≤ v2 then (rz 1 I) else (if a1 = 3 then gi 6 a0 23 I (fun v3 => (if v3 = 0 then (rz 0 I) else (rz 1 I))) else (rz 0 I)))) else (if a1 = 3 then gi 6 a0 23 I (fun v1 => (if v1 = 0 then (rz 0 I) else (rz 1 I))) else (rz 0 I)))
set_option maxRecDepth 10000 in
theorem sn_Ref_holds_16 : ∀ (a0 : Nat) (a1 : Int32) (I : fm_I) (L : Nat → Option am_V), L 0 = some (vR a0) → L 1 = some (vI a1) → gW c_Ref_holds (fn_Ref_holds_16 a0 a1 I) 16 L [] I := by
  intro a0 a1 I L h0 h1
  unfold fn_Ref_holds_16
  refine g_iload_n (pc := 16) (x := a1) d_Ref_holds_16 rfl h1 ?_
  refine g_iconst (pc := 17) (x := 2) d_Ref_holds_17 (by decide) ?_
  refine g_icmpne (pc := 18) (tgt := 30) d_Ref_holds_18 rfl ?_ ?_
  · refine g_iload_n (pc := 30) (x := a1) d_Ref_holds_30 rfl h1 ?_
    refine g_iconst (pc := 31) (x := 3) d_Ref_holds_31 (by decide) ?_
    refine g_icmpne (pc := 32) (tgt := 46) d_Ref_holds_32 rfl ?_ ?_
    · refine g_iconst (pc := 46) (x := 0) d_Ref_holds_46 (by decide) ?_
      exact g_zret (pc := 47) d_Ref_holds_47 rfl (Nat.le_refl _) (Nat.le_refl _)
    refine g_aload_n (pc := 35) (x := a0) d_Ref_holds_35 rfl h0 ?_
    refine g_gi (pc := 36) d_Ref_holds_36 fk_Ref_195 (fun v1 => ?_)
    refine g_ifeq (pc := 39) (tgt := 46) d_Ref_holds_39 rfl ?_ ?_
    · refine g_iconst (pc := 46) (x := 0) d_Ref_holds_46 (by decide) ?_
      exact g_zret (pc := 47) d_Ref_holds_47 rfl (Nat.le_refl _) (Nat.le_refl _)
    refine g_iconst (pc := 42) (x := 1) d_Ref_holds_42 (by decide) ?_
    refine g_goto (pc := 43) (tgt := 47) d_Ref_holds_43 rfl ?_
    exact g_zret (pc := 47) d_Ref_holds_47 rfl (Nat.le_refl _) (Nat.le_refl _)
  refine g_aload_n (pc := 21) (x := a0) d_Ref_holds_21 rfl h0 ?_
  refine g_gi (pc := 22) d_Ref_holds_22 fk_Ref_195 (fun v2 => ?_)
  refine g_ldc (pc := 25) (x := 32768) d_Ref_holds_25 lc_Ref_164 ?_
  refine g_icmpge (pc := 27) (tgt := 42) d_Ref_holds_27 rfl ?_ ?_
  · refine g_iconst (pc := 42) (x := 1) d_Ref_holds_42 (by decide) ?_
    refine g_goto (pc := 43) (tgt := 47) d_Ref_holds_43 rfl ?_
    exact g_zret (pc := 47) d_Ref_holds_47 rfl (Nat.le_refl _) (Nat.le_refl _)
  refine g_iload_n (pc := 30) (x := a1) d_Ref_holds_30 rfl h1 ?_
  refine g_iconst (pc := 31) (x := 3) d_Ref_holds_31 (by decide) ?_
  refine g_icmpne (pc := 32) (tgt := 46) d_Ref_holds_32 rfl ?_ ?_
  · refine g_iconst (pc := 46) (x := 0) d_Ref_holds_46 (by decide) ?_
    exact g_zret (pc := 47) d_Ref_holds_47 rfl (Nat.le_refl _) (Nat.le_refl _)
  refine g_aload_n (pc := 35) (x := a0) d_Ref_holds_35 rfl h0 ?_
  refine g_gi (pc := 36) d_Ref_holds_36 fk_Ref_195 (fun v3 => ?_)
  refine g_ifeq (pc := 39) (tgt := 46) d_Ref_holds_39 rfl ?_ ?_
  · refine g_iconst (pc := 46) (x := 0) d_Ref_holds_46 (by decide) ?_
    exact g_zret (pc := 47) d_Ref_holds_47 rfl (Nat.le_refl _) (Nat.le_refl _)
  refine g_iconst (pc := 42) (x := 1) d_Ref_holds_42 (by decide) ?_
  refine g_goto (pc := 43) (tgt := 47) d_Ref_holds_43 rfl ?_
  exact g_zret (pc := 47) d_Ref_holds_47 rfl (Nat.le_refl _) (Nat.le_refl _)
def fn_Ref_holds (a0 : Nat) (a1 : Int32) (I : fm_I) : pR := (if a1 = 0 then (rz 1 I) else (if a1 = 1 then gi 6 a0 23 I (fun v1 => (if v1 = 0 then (rz 1 I) else (fn_Ref_holds_16 a0 a1 I))) else (fn_Ref_holds_16 a0 a1 I)))
set_option maxRecDepth 10000 in
theorem sn_Ref_holds (a0 : Nat) (a1 : Int32) (I : fm_I) : gM m_Ref_holds 0 (fn_Ref_holds a0 a1 I) [vR a0, vI a1] I := by
  refine gM_of (by decide) rfl (Nat.le_of_ble_eq_true rfl) ?_
  show gW c_Ref_holds _ _ _ _ _
  unfold fn_Ref_holds
  refine g_iload_n (pc := 0) (x := a1) d_Ref_holds_0 rfl rfl ?_
  refine g_ifeq (pc := 1) (tgt := 42) d_Ref_holds_1 rfl ?_ ?_
  · refine g_iconst (pc := 42) (x := 1) d_Ref_holds_42 (by decide) ?_
    refine g_goto (pc := 43) (tgt := 47) d_Ref_holds_43 rfl ?_
    exact g_zret (pc := 47) d_Ref_holds_47 rfl (Nat.le_refl _) (Nat.le_refl _)
  refine g_iload_n (pc := 4) (x := a1) d_Ref_holds_4 rfl rfl ?_
  refine g_iconst (pc := 5) (x := 1) d_Ref_holds_5 (by decide) ?_
  refine g_icmpne (pc := 6) (tgt := 16) d_Ref_holds_6 rfl ?_ ?_
  · exact sn_Ref_holds_16 _ _ _ _ rfl rfl
  refine g_aload_n (pc := 9) (x := a0) d_Ref_holds_9 rfl rfl ?_
  refine g_gi (pc := 10) d_Ref_holds_10 fk_Ref_195 (fun v1 => ?_)
  refine g_ifeq (pc := 13) (tgt := 42) d_Ref_holds_13 rfl ?_ ?_
  · refine g_iconst (pc := 42) (x := 1) d_Ref_holds_42 (by decide) ?_
    refine g_goto (pc := 43) (tgt := 47) d_Ref_holds_43 rfl ?_
    exact g_zret (pc := 47) d_Ref_holds_47 rfl (Nat.le_refl _) (Nat.le_refl _)
  exact sn_Ref_holds_16 _ _ _ _ rfl rfl
abbrev c_Ref_hindrance : gC := (m_Ref_hindrance, 1, 0, 0, none, 0, 0)
def fn_Ref_hindrance_130 (a0 : Nat) (a1 : Int32) (a2 : Int32) (I : fm_I) : pR := (if a1 = 3 then gr 6 a0 17 (fun v1 => ld 0 v1 0 I (fun v2 => (if v2 ≤ a2 then (ri 0 I) else (ri 3 I)))) else (ri 0 I))
set_option maxRecDepth 10000 in
theorem sn_Ref_hindrance_130 : ∀ (a0 : Nat) (a1 : Int32) (a2 : Int32) (I : fm_I) (L : Nat → Option am_V), L 0 = some (vR a0) → L 1 = some (vI a1) → L 2 = some (vI a2) → gW c_Ref_hindrance (fn_Ref_hindrance_130 a0 a1 a2 I) 130 L [] I := by
  intro a0 a1 a2 I L h0 h1 h2
  unfold fn_Ref_hindrance_130
  refine g_iload_n (pc := 130) (x := a1) d_Ref_hindrance_130 rfl h1 ?_
  refine g_iconst (pc := 131) (x := 3) d_Ref_hindrance_131 (by decide) ?_
  refine g_icmpne (pc := 132) (tgt := 149) d_Ref_hindrance_132 rfl ?_ ?_
  · refine g_iconst (pc := 149) (x := 0) d_Ref_hindrance_149 (by decide) ?_
    exact g_iret (pc := 150) d_Ref_hindrance_150 rfl (Nat.le_refl _) (Nat.le_refl _)
  refine g_iload_n (pc := 135) (x := a2) d_Ref_hindrance_135 rfl h2 ?_
  refine g_aload_n (pc := 136) (x := a0) d_Ref_hindrance_136 rfl h0 ?_
  refine g_gr (pc := 137) d_Ref_hindrance_137 fk_Ref_45 (fun v1 => ?_)
  refine g_iconst (pc := 140) (x := 0) d_Ref_hindrance_140 (by decide) ?_
  refine g_ldI (pc := 141) d_Ref_hindrance_141 (fun v2 => ?_)
  refine g_icmpge (pc := 142) (tgt := 149) d_Ref_hindrance_142 rfl ?_ ?_
  · refine g_iconst (pc := 149) (x := 0) d_Ref_hindrance_149 (by decide) ?_
    exact g_iret (pc := 150) d_Ref_hindrance_150 rfl (Nat.le_refl _) (Nat.le_refl _)
  refine g_iconst (pc := 145) (x := 3) d_Ref_hindrance_145 (by decide) ?_
  refine g_goto (pc := 146) (tgt := 150) d_Ref_hindrance_146 rfl ?_
  exact g_iret (pc := 150) d_Ref_hindrance_150 rfl (Nat.le_refl _) (Nat.le_refl _)
def fn_Ref_hindrance (a0 : Nat) (I : fm_I) : pR := gi 6 a0 25 I (fun v1 => vi 6 a0 (fn_Ref_there a0 v1 I) (fun v3 J2 => (if v3 = 0 then (ri 3 J2) else gr 6 a0 22 (fun v4 => gi 6 a0 25 J2 (fun v5 => ld 0 v4 v5 J2 (fun v6 => bn ((v6 : Int32) >>> ((12 : Int32) &&& 31)) (fun v7 => (if v7 ≤ 13 then (if v7 = 12 then gi 6 a0 23 J2 (fun v20 => vi 6 a0 (fn_Ref_there a0 v20 J2) (fun v22 J21 => (if v22 = 0 then (ri 3 J21) else (ri 0 J21)))) else (if v7 = 0 then (ri 0 J2) else (if v7 = 7 then (ri 0 J2) else (if v7 ≤ 8 then gi 6 a0 25 J2 (fun v8 => vi 6 a0 (fn_Ref_there a0 (v8 + 1) J2) (fun v10 J9 => (if v10 = 0 then (ri 3 J9) else gr 6 a0 22 (fun v11 => gi 6 a0 25 J9 (fun v12 => ld 0 v11 (v12 + 1) J9 (fun v13 => (if v7 < 2 then (if (0 : Int32) = 0 then (fn_Ref_hindrance_130 a0 v7 v13 J9) else vi 6 a0 (fn_Ref_there a0 v13 J9) (fun v15 J14 => (if v15 = 0 then (ri 3 J14) else (fn_Ref_hindrance_130 a0 v7 v13 J14)))) else (if 5 < v7 then (if (0 : Int32) = 0 then (fn_Ref_hindrance_130 a0 v7 v13 J9) else vi 6 a0 (fn_Ref_there a0 v13 J9) (fun v17 J16 => (if v17 = 0 then (ri 3 J16) else (fn_Ref_hindrance_130 a0 v7 v13 J16)))) else (if (1 : Int32) = 0 then (fn_Ref_hindrance_130 a0 v7 v13 J9) else vi 6 a0 (fn_Ref_there a0 v13 J9) (fun v19 J18 => (if v19 = 0 then (ri 3 J18) else (fn_Ref_hindrance_130 a0 v7 v13 J18)))))))))))) else (ri 0 J2))))) else (ri 2 J2)))))))))
set_option maxRecDepth 10000 in
theorem sn_Ref_hindrance (a0 : Nat) (I : fm_I) : gM m_Ref_hindrance 1 (fn_Ref_hindrance a0 I) [vR a0] I := by
  refine gM_of (by decide) rfl (Nat.le_of_ble_eq_true rfl) ?_
  show gW c_Ref_hindrance _ _ _ _ _
  unfold fn_Ref_hindrance
  refine g_aload_n (pc := 0) (x := a0) d_Ref_hindrance_0 rfl rfl ?_
  refine g_aload_n (pc := 1) (x := a0) d_Ref_hindrance_1 rfl rfl ?_
  refine g_gi (pc := 2) d_Ref_hindrance_2 fk_Ref_201 (fun v1 => ?_)
  refine g_vi (pc := 5) (rest := []) (sn_Ref_there a0 v1 I) rfl rfl d_Ref_hindrance_5 ck_Ref_216 (Nat.le_of_ble_eq_true rfl) (Nat.le_of_ble_eq_true rfl) (Nat.le_refl _) (Nat.le_refl _) (fun v3 J2 => ?_)
  refine g_ifne (pc := 8) (tgt := 13) d_Ref_hindrance_8 rfl ?_ ?_
  · refine g_aload_n (pc := 13) (x := a0) d_Ref_hindrance_13 rfl rfl ?_
    refine g_gr (pc := 14) d_Ref_hindrance_14 fk_Ref_51 (fun v4 => ?_)
    refine g_aload_n (pc := 17) (x := a0) d_Ref_hindrance_17 rfl rfl ?_
    refine g_gi (pc := 18) d_Ref_hindrance_18 fk_Ref_201 (fun v5 => ?_)
    refine g_ldI (pc := 21) d_Ref_hindrance_21 (fun v6 => ?_)
    refine g_bipush (pc := 22) (x := 12) d_Ref_hindrance_22 (by decide) ?_
    refine g_ishr (pc := 24) d_Ref_hindrance_24 ?_
    refine g_bn (fun v7 => ?_)
    refine g_istore_n (pc := 25) (x := v7) d_Ref_hindrance_25 rfl (Nat.le_of_ble_eq_true rfl) ?_
    refine g_iload_n (pc := 26) (x := v7) d_Ref_hindrance_26 rfl rfl ?_
    refine g_bipush (pc := 27) (x := 13) d_Ref_hindrance_27 (by decide) ?_
    refine g_icmple (pc := 29) (tgt := 34) d_Ref_hindrance_29 rfl ?_ ?_
    · refine g_iload_n (pc := 34) (x := v7) d_Ref_hindrance_34 rfl rfl ?_
      refine g_bipush (pc := 35) (x := 12) d_Ref_hindrance_35 (by decide) ?_
      refine g_icmpne (pc := 37) (tgt := 57) d_Ref_hindrance_37 rfl ?_ ?_
      · refine g_iload_n (pc := 57) (x := v7) d_Ref_hindrance_57 rfl rfl ?_
        refine g_ifeq (pc := 58) (tgt := 73) d_Ref_hindrance_58 rfl ?_ ?_
        · refine g_iconst (pc := 73) (x := 0) d_Ref_hindrance_73 (by decide) ?_
          exact g_iret (pc := 74) d_Ref_hindrance_74 rfl (Nat.le_refl _) (Nat.le_refl _)
        refine g_iload_n (pc := 61) (x := v7) d_Ref_hindrance_61 rfl rfl ?_
        refine g_bipush (pc := 62) (x := 7) d_Ref_hindrance_62 (by decide) ?_
        refine g_icmpeq (pc := 64) (tgt := 73) d_Ref_hindrance_64 rfl ?_ ?_
        · refine g_iconst (pc := 73) (x := 0) d_Ref_hindrance_73 (by decide) ?_
          exact g_iret (pc := 74) d_Ref_hindrance_74 rfl (Nat.le_refl _) (Nat.le_refl _)
        refine g_iload_n (pc := 67) (x := v7) d_Ref_hindrance_67 rfl rfl ?_
        refine g_bipush (pc := 68) (x := 8) d_Ref_hindrance_68 (by decide) ?_
        refine g_icmple (pc := 70) (tgt := 75) d_Ref_hindrance_70 rfl ?_ ?_
        · refine g_aload_n (pc := 75) (x := a0) d_Ref_hindrance_75 rfl rfl ?_
          refine g_aload_n (pc := 76) (x := a0) d_Ref_hindrance_76 rfl rfl ?_
          refine g_gi (pc := 77) d_Ref_hindrance_77 fk_Ref_201 (fun v8 => ?_)
          refine g_iconst (pc := 80) (x := 1) d_Ref_hindrance_80 (by decide) ?_
          refine g_iadd (pc := 81) d_Ref_hindrance_81 ?_
          refine g_vi (pc := 82) (rest := []) (sn_Ref_there a0 (v8 + 1) J2) rfl rfl d_Ref_hindrance_82 ck_Ref_216 (Nat.le_of_ble_eq_true rfl) (Nat.le_of_ble_eq_true rfl) (Nat.le_refl _) (Nat.le_refl _) (fun v10 J9 => ?_)
          refine g_ifne (pc := 85) (tgt := 90) d_Ref_hindrance_85 rfl ?_ ?_
          · refine g_aload_n (pc := 90) (x := a0) d_Ref_hindrance_90 rfl rfl ?_
            refine g_gr (pc := 91) d_Ref_hindrance_91 fk_Ref_51 (fun v11 => ?_)
            refine g_aload_n (pc := 94) (x := a0) d_Ref_hindrance_94 rfl rfl ?_
            refine g_gi (pc := 95) d_Ref_hindrance_95 fk_Ref_201 (fun v12 => ?_)
            refine g_iconst (pc := 98) (x := 1) d_Ref_hindrance_98 (by decide) ?_
            refine g_iadd (pc := 99) d_Ref_hindrance_99 ?_
            refine g_ldI (pc := 100) d_Ref_hindrance_100 (fun v13 => ?_)
            refine g_istore_n (pc := 101) (x := v13) d_Ref_hindrance_101 rfl (Nat.le_of_ble_eq_true rfl) ?_
            refine g_iload_n (pc := 102) (x := v7) d_Ref_hindrance_102 rfl rfl ?_
            refine g_iconst (pc := 103) (x := 2) d_Ref_hindrance_103 (by decide) ?_
            refine g_icmplt (pc := 104) (tgt := 116) d_Ref_hindrance_104 rfl ?_ ?_
            · refine g_iconst (pc := 116) (x := 0) d_Ref_hindrance_116 (by decide) ?_
              refine g_istore_n (pc := 117) (x := 0) d_Ref_hindrance_117 rfl (Nat.le_of_ble_eq_true rfl) ?_
              refine g_iload_n (pc := 118) (x := 0) d_Ref_hindrance_118 rfl rfl ?_
              refine g_ifeq (pc := 119) (tgt := 130) d_Ref_hindrance_119 rfl ?_ ?_
              · exact sn_Ref_hindrance_130 _ _ _ _ _ rfl rfl rfl
              refine g_aload_n (pc := 122) (x := a0) d_Ref_hindrance_122 rfl rfl ?_
              refine g_iload_n (pc := 123) (x := v13) d_Ref_hindrance_123 rfl rfl ?_
              refine g_vi (pc := 124) (rest := []) (sn_Ref_there a0 v13 J9) rfl rfl d_Ref_hindrance_124 ck_Ref_216 (Nat.le_of_ble_eq_true rfl) (Nat.le_of_ble_eq_true rfl) (Nat.le_refl _) (Nat.le_refl _) (fun v15 J14 => ?_)
              refine g_ifeq (pc := 127) (tgt := 145) d_Ref_hindrance_127 rfl ?_ ?_
              · refine g_iconst (pc := 145) (x := 3) d_Ref_hindrance_145 (by decide) ?_
                refine g_goto (pc := 146) (tgt := 150) d_Ref_hindrance_146 rfl ?_
                exact g_iret (pc := 150) d_Ref_hindrance_150 rfl (Nat.le_refl _) (Nat.le_refl _)
              exact sn_Ref_hindrance_130 _ _ _ _ _ rfl rfl rfl
            refine g_iload_n (pc := 107) (x := v7) d_Ref_hindrance_107 rfl rfl ?_
            refine g_iconst (pc := 108) (x := 5) d_Ref_hindrance_108 (by decide) ?_
            refine g_icmpgt (pc := 109) (tgt := 116) d_Ref_hindrance_109 rfl ?_ ?_
            · refine g_iconst (pc := 116) (x := 0) d_Ref_hindrance_116 (by decide) ?_
              refine g_istore_n (pc := 117) (x := 0) d_Ref_hindrance_117 rfl (Nat.le_of_ble_eq_true rfl) ?_
              refine g_iload_n (pc := 118) (x := 0) d_Ref_hindrance_118 rfl rfl ?_
              refine g_ifeq (pc := 119) (tgt := 130) d_Ref_hindrance_119 rfl ?_ ?_
              · exact sn_Ref_hindrance_130 _ _ _ _ _ rfl rfl rfl
              refine g_aload_n (pc := 122) (x := a0) d_Ref_hindrance_122 rfl rfl ?_
              refine g_iload_n (pc := 123) (x := v13) d_Ref_hindrance_123 rfl rfl ?_
              refine g_vi (pc := 124) (rest := []) (sn_Ref_there a0 v13 J9) rfl rfl d_Ref_hindrance_124 ck_Ref_216 (Nat.le_of_ble_eq_true rfl) (Nat.le_of_ble_eq_true rfl) (Nat.le_refl _) (Nat.le_refl _) (fun v17 J16 => ?_)
              refine g_ifeq (pc := 127) (tgt := 145) d_Ref_hindrance_127 rfl ?_ ?_
              · refine g_iconst (pc := 145) (x := 3) d_Ref_hindrance_145 (by decide) ?_
                refine g_goto (pc := 146) (tgt := 150) d_Ref_hindrance_146 rfl ?_
                exact g_iret (pc := 150) d_Ref_hindrance_150 rfl (Nat.le_refl _) (Nat.le_refl _)
              exact sn_Ref_hindrance_130 _ _ _ _ _ rfl rfl rfl
            refine g_iconst (pc := 112) (x := 1) d_Ref_hindrance_112 (by decide) ?_
            refine g_goto (pc := 113) (tgt := 117) d_Ref_hindrance_113 rfl ?_
            refine g_istore_n (pc := 117) (x := 1) d_Ref_hindrance_117 rfl (Nat.le_of_ble_eq_true rfl) ?_
            refine g_iload_n (pc := 118) (x := 1) d_Ref_hindrance_118 rfl rfl ?_
            refine g_ifeq (pc := 119) (tgt := 130) d_Ref_hindrance_119 rfl ?_ ?_
            · exact sn_Ref_hindrance_130 _ _ _ _ _ rfl rfl rfl
            refine g_aload_n (pc := 122) (x := a0) d_Ref_hindrance_122 rfl rfl ?_
            refine g_iload_n (pc := 123) (x := v13) d_Ref_hindrance_123 rfl rfl ?_
            refine g_vi (pc := 124) (rest := []) (sn_Ref_there a0 v13 J9) rfl rfl d_Ref_hindrance_124 ck_Ref_216 (Nat.le_of_ble_eq_true rfl) (Nat.le_of_ble_eq_true rfl) (Nat.le_refl _) (Nat.le_refl _) (fun v19 J18 => ?_)
            refine g_ifeq (pc := 127) (tgt := 145) d_Ref_hindrance_127 rfl ?_ ?_
            · refine g_iconst (pc := 145) (x := 3) d_Ref_hindrance_145 (by decide) ?_
              refine g_goto (pc := 146) (tgt := 150) d_Ref_hindrance_146 rfl ?_
              exact g_iret (pc := 150) d_Ref_hindrance_150 rfl (Nat.le_refl _) (Nat.le_refl _)
            exact sn_Ref_hindrance_130 _ _ _ _ _ rfl rfl rfl
          refine g_iconst (pc := 88) (x := 3) d_Ref_hindrance_88 (by decide) ?_
          exact g_iret (pc := 89) d_Ref_hindrance_89 rfl (Nat.le_refl _) (Nat.le_refl _)
        refine g_iconst (pc := 73) (x := 0) d_Ref_hindrance_73 (by decide) ?_
        exact g_iret (pc := 74) d_Ref_hindrance_74 rfl (Nat.le_refl _) (Nat.le_refl _)
      refine g_aload_n (pc := 40) (x := a0) d_Ref_hindrance_40 rfl rfl ?_
      refine g_aload_n (pc := 41) (x := a0) d_Ref_hindrance_41 rfl rfl ?_
      refine g_gi (pc := 42) d_Ref_hindrance_42 fk_Ref_195 (fun v20 => ?_)
      refine g_vi (pc := 45) (rest := []) (sn_Ref_there a0 v20 J2) rfl rfl d_Ref_hindrance_45 ck_Ref_216 (Nat.le_of_ble_eq_true rfl) (Nat.le_of_ble_eq_true rfl) (Nat.le_refl _) (Nat.le_refl _) (fun v22 J21 => ?_)
      refine g_ifeq (pc := 48) (tgt := 55) d_Ref_hindrance_48 rfl ?_ ?_
      · refine g_iconst (pc := 55) (x := 3) d_Ref_hindrance_55 (by decide) ?_
        exact g_iret (pc := 56) d_Ref_hindrance_56 rfl (Nat.le_refl _) (Nat.le_refl _)
      refine g_iconst (pc := 51) (x := 0) d_Ref_hindrance_51 (by decide) ?_
      refine g_goto (pc := 52) (tgt := 56) d_Ref_hindrance_52 rfl ?_
      exact g_iret (pc := 56) d_Ref_hindrance_56 rfl (Nat.le_refl _) (Nat.le_refl _)
    refine g_iconst (pc := 32) (x := 2) d_Ref_hindrance_32 (by decide) ?_
    exact g_iret (pc := 33) d_Ref_hindrance_33 rfl (Nat.le_refl _) (Nat.le_refl _)
  refine g_iconst (pc := 11) (x := 3) d_Ref_hindrance_11 (by decide) ?_
  exact g_iret (pc := 12) d_Ref_hindrance_12 rfl (Nat.le_refl _) (Nat.le_refl _)
abbrev c_Ref_two : gC := (m_Ref_two, 1, 0, 0, none, 0, 0)
def fn_Ref_two (a0 : Nat) (a1 : Int32) (a2 : Int32) (I : fm_I) : pR := gr 6 a0 22 (fun v1 => gi 6 a0 25 I (fun v2 => ld 0 v1 (v2 + 1) I (fun v3 => gi 6 a0 25 I (fun v4 => (if a1 = 1 then pI 6 a0 23 v3 I (fun J5 => pI 6 a0 25 (v4 + 2) J5 (fun J6 => (rv J6))) else (if a1 = 2 then gr 6 a0 22 (fun v7 => ld 0 v7 v3 I (fun v8 => pI 6 a0 23 v8 I (fun J9 => pI 6 a0 25 (v4 + 2) J9 (fun J10 => (rv J10))))) else (if a1 = 3 then gr 6 a0 22 (fun v11 => gi 6 a0 23 I (fun v12 => sI v11 v3 v12 I (fun J13 => pI 6 a0 25 (v4 + 2) J13 (fun J14 => (rv J14))))) else (if a1 = 4 then gi 6 a0 23 I (fun v15 => gr 6 a0 22 (fun v16 => ld 0 v16 v3 I (fun v17 => pI 6 a0 23 ((v15 + v17) &&& 65535) I (fun J18 => pI 6 a0 25 (v4 + 2) J18 (fun J19 => (rv J19)))))) else (if a1 = 5 then gi 6 a0 23 I (fun v20 => gr 6 a0 22 (fun v21 => ld 0 v21 v3 I (fun v22 => pI 6 a0 23 ((v20 - v22) &&& 65535) I (fun J23 => pI 6 a0 25 (v4 + 2) J23 (fun J24 => (rv J24)))))) else (if a1 = 6 then pI 6 a0 24 (v4 + 2) I (fun J25 => pI 6 a0 25 v3 J25 (fun J26 => (rv J26))) else vi 6 a0 (fn_Ref_holds a0 (((a2 : Int32) >>> ((8 : Int32) &&& 31)) &&& 3) I) (fun v28 J27 => (if v28 = 0 then pI 6 a0 25 (v4 + 2) J27 (fun J29 => (rv J29)) else pI 6 a0 25 v3 J27 (fun J30 => (rv J30))))))))))))))
set_option maxRecDepth 10000 in
theorem sn_Ref_two (a0 : Nat) (a1 : Int32) (a2 : Int32) (I : fm_I) : gM m_Ref_two 1 (fn_Ref_two a0 a1 a2 I) [vR a0, vI a1, vI a2] I := by
  refine gM_of (by decide) rfl (Nat.le_of_ble_eq_true rfl) ?_
  show gW c_Ref_two _ _ _ _ _
  unfold fn_Ref_two
  refine g_aload_n (pc := 0) (x := a0) d_Ref_two_0 rfl rfl ?_
  refine g_gr (pc := 1) d_Ref_two_1 fk_Ref_51 (fun v1 => ?_)
  refine g_aload_n (pc := 4) (x := a0) d_Ref_two_4 rfl rfl ?_
  refine g_gi (pc := 5) d_Ref_two_5 fk_Ref_201 (fun v2 => ?_)
  refine g_iconst (pc := 8) (x := 1) d_Ref_two_8 (by decide) ?_
  refine g_iadd (pc := 9) d_Ref_two_9 ?_
  refine g_ldI (pc := 10) d_Ref_two_10 (fun v3 => ?_)
  refine g_istore_n (pc := 11) (x := v3) d_Ref_two_11 rfl (Nat.le_of_ble_eq_true rfl) ?_
  refine g_aload_n (pc := 12) (x := a0) d_Ref_two_12 rfl rfl ?_
  refine g_gi (pc := 13) d_Ref_two_13 fk_Ref_201 (fun v4 => ?_)
  refine g_iconst (pc := 16) (x := 2) d_Ref_two_16 (by decide) ?_
  refine g_iadd (pc := 17) d_Ref_two_17 ?_
  refine g_istore (pc := 18) (x := (v4 + 2)) d_Ref_two_18 (Nat.le_of_ble_eq_true rfl) ?_
  refine g_iload_n (pc := 20) (x := a1) d_Ref_two_20 rfl rfl ?_
  refine g_sw (c := 1) (fun e1 => ?_) (fun e1 => ?_)
  · refine g_tin (pc := 21) (tgt := 60) (off := 39) e1 d_Ref_two_21 (by decide) (by decide) (by decide) (by decide) ?_
    refine g_aload_n (pc := 60) (x := a0) d_Ref_two_60 rfl rfl ?_
    refine g_iload_n (pc := 61) (x := v3) d_Ref_two_61 rfl rfl ?_
    refine g_pI (pc := 62) d_Ref_two_62 fp_Ref_195 (fun J5 => ?_)
    refine g_goto (pc := 65) (tgt := 169) d_Ref_two_65 rfl ?_
    refine g_aload_n (pc := 169) (x := a0) d_Ref_two_169 rfl rfl ?_
    refine g_iload (pc := 170) (x := (v4 + 2)) d_Ref_two_170 rfl ?_
    refine g_pI (pc := 172) d_Ref_two_172 fp_Ref_201 (fun J6 => ?_)
    exact g_ret (pc := 175) d_Ref_two_175 rfl (Nat.le_refl _) (Nat.le_refl _)
  refine g_sw (c := 2) (fun e2 => ?_) (fun e2 => ?_)
  · refine g_tin (pc := 21) (tgt := 68) (off := 47) e2 d_Ref_two_21 (by decide) (by decide) (by decide) (by decide) ?_
    refine g_aload_n (pc := 68) (x := a0) d_Ref_two_68 rfl rfl ?_
    refine g_aload_n (pc := 69) (x := a0) d_Ref_two_69 rfl rfl ?_
    refine g_gr (pc := 70) d_Ref_two_70 fk_Ref_51 (fun v7 => ?_)
    refine g_iload_n (pc := 73) (x := v3) d_Ref_two_73 rfl rfl ?_
    refine g_ldI (pc := 74) d_Ref_two_74 (fun v8 => ?_)
    refine g_pI (pc := 75) d_Ref_two_75 fp_Ref_195 (fun J9 => ?_)
    refine g_goto (pc := 78) (tgt := 169) d_Ref_two_78 rfl ?_
    refine g_aload_n (pc := 169) (x := a0) d_Ref_two_169 rfl rfl ?_
    refine g_iload (pc := 170) (x := (v4 + 2)) d_Ref_two_170 rfl ?_
    refine g_pI (pc := 172) d_Ref_two_172 fp_Ref_201 (fun J10 => ?_)
    exact g_ret (pc := 175) d_Ref_two_175 rfl (Nat.le_refl _) (Nat.le_refl _)
  refine g_sw (c := 3) (fun e3 => ?_) (fun e3 => ?_)
  · refine g_tin (pc := 21) (tgt := 81) (off := 60) e3 d_Ref_two_21 (by decide) (by decide) (by decide) (by decide) ?_
    refine g_aload_n (pc := 81) (x := a0) d_Ref_two_81 rfl rfl ?_
    refine g_gr (pc := 82) d_Ref_two_82 fk_Ref_51 (fun v11 => ?_)
    refine g_iload_n (pc := 85) (x := v3) d_Ref_two_85 rfl rfl ?_
    refine g_aload_n (pc := 86) (x := a0) d_Ref_two_86 rfl rfl ?_
    refine g_gi (pc := 87) d_Ref_two_87 fk_Ref_195 (fun v12 => ?_)
    refine g_sI (pc := 90) d_Ref_two_90 (fun J13 => ?_)
    refine g_goto (pc := 91) (tgt := 169) d_Ref_two_91 rfl ?_
    refine g_aload_n (pc := 169) (x := a0) d_Ref_two_169 rfl rfl ?_
    refine g_iload (pc := 170) (x := (v4 + 2)) d_Ref_two_170 rfl ?_
    refine g_pI (pc := 172) d_Ref_two_172 fp_Ref_201 (fun J14 => ?_)
    exact g_ret (pc := 175) d_Ref_two_175 rfl (Nat.le_refl _) (Nat.le_refl _)
  refine g_sw (c := 4) (fun e4 => ?_) (fun e4 => ?_)
  · refine g_tin (pc := 21) (tgt := 94) (off := 73) e4 d_Ref_two_21 (by decide) (by decide) (by decide) (by decide) ?_
    refine g_aload_n (pc := 94) (x := a0) d_Ref_two_94 rfl rfl ?_
    refine g_aload_n (pc := 95) (x := a0) d_Ref_two_95 rfl rfl ?_
    refine g_gi (pc := 96) d_Ref_two_96 fk_Ref_195 (fun v15 => ?_)
    refine g_aload_n (pc := 99) (x := a0) d_Ref_two_99 rfl rfl ?_
    refine g_gr (pc := 100) d_Ref_two_100 fk_Ref_51 (fun v16 => ?_)
    refine g_iload_n (pc := 103) (x := v3) d_Ref_two_103 rfl rfl ?_
    refine g_ldI (pc := 104) d_Ref_two_104 (fun v17 => ?_)
    refine g_iadd (pc := 105) d_Ref_two_105 ?_
    refine g_ldc (pc := 106) (x := 65535) d_Ref_two_106 lc_Ref_60 ?_
    refine g_iand (pc := 108) d_Ref_two_108 ?_
    refine g_pI (pc := 109) d_Ref_two_109 fp_Ref_195 (fun J18 => ?_)
    refine g_goto (pc := 112) (tgt := 169) d_Ref_two_112 rfl ?_
    refine g_aload_n (pc := 169) (x := a0) d_Ref_two_169 rfl rfl ?_
    refine g_iload (pc := 170) (x := (v4 + 2)) d_Ref_two_170 rfl ?_
    refine g_pI (pc := 172) d_Ref_two_172 fp_Ref_201 (fun J19 => ?_)
    exact g_ret (pc := 175) d_Ref_two_175 rfl (Nat.le_refl _) (Nat.le_refl _)
  refine g_sw (c := 5) (fun e5 => ?_) (fun e5 => ?_)
  · refine g_tin (pc := 21) (tgt := 115) (off := 94) e5 d_Ref_two_21 (by decide) (by decide) (by decide) (by decide) ?_
    refine g_aload_n (pc := 115) (x := a0) d_Ref_two_115 rfl rfl ?_
    refine g_aload_n (pc := 116) (x := a0) d_Ref_two_116 rfl rfl ?_
    refine g_gi (pc := 117) d_Ref_two_117 fk_Ref_195 (fun v20 => ?_)
    refine g_aload_n (pc := 120) (x := a0) d_Ref_two_120 rfl rfl ?_
    refine g_gr (pc := 121) d_Ref_two_121 fk_Ref_51 (fun v21 => ?_)
    refine g_iload_n (pc := 124) (x := v3) d_Ref_two_124 rfl rfl ?_
    refine g_ldI (pc := 125) d_Ref_two_125 (fun v22 => ?_)
    refine g_isub (pc := 126) d_Ref_two_126 ?_
    refine g_ldc (pc := 127) (x := 65535) d_Ref_two_127 lc_Ref_60 ?_
    refine g_iand (pc := 129) d_Ref_two_129 ?_
    refine g_pI (pc := 130) d_Ref_two_130 fp_Ref_195 (fun J23 => ?_)
    refine g_goto (pc := 133) (tgt := 169) d_Ref_two_133 rfl ?_
    refine g_aload_n (pc := 169) (x := a0) d_Ref_two_169 rfl rfl ?_
    refine g_iload (pc := 170) (x := (v4 + 2)) d_Ref_two_170 rfl ?_
    refine g_pI (pc := 172) d_Ref_two_172 fp_Ref_201 (fun J24 => ?_)
    exact g_ret (pc := 175) d_Ref_two_175 rfl (Nat.le_refl _) (Nat.le_refl _)
  refine g_sw (c := 6) (fun e6 => ?_) (fun e6 => ?_)
  · refine g_tin (pc := 21) (tgt := 136) (off := 115) e6 d_Ref_two_21 (by decide) (by decide) (by decide) (by decide) ?_
    refine g_aload_n (pc := 136) (x := a0) d_Ref_two_136 rfl rfl ?_
    refine g_iload (pc := 137) (x := (v4 + 2)) d_Ref_two_137 rfl ?_
    refine g_pI (pc := 139) d_Ref_two_139 fp_Ref_198 (fun J25 => ?_)
    refine g_iload_n (pc := 142) (x := v3) d_Ref_two_142 rfl rfl ?_
    refine g_istore (pc := 143) (x := v3) d_Ref_two_143 (Nat.le_of_ble_eq_true rfl) ?_
    refine g_goto (pc := 145) (tgt := 169) d_Ref_two_145 rfl ?_
    refine g_aload_n (pc := 169) (x := a0) d_Ref_two_169 rfl rfl ?_
    refine g_iload (pc := 170) (x := v3) d_Ref_two_170 rfl ?_
    refine g_pI (pc := 172) d_Ref_two_172 fp_Ref_201 (fun J26 => ?_)
    exact g_ret (pc := 175) d_Ref_two_175 rfl (Nat.le_refl _) (Nat.le_refl _)
  refine g_tout (pc := 21) (tgt := 148) d_Ref_two_21 (by have q1 := am_ni e1 (z := 1) (by decide); have q2 := am_ni e2 (z := 2) (by decide); have q3 := am_ni e3 (z := 3) (by decide); have q4 := am_ni e4 (z := 4) (by decide); have q5 := am_ni e5 (z := 5) (by decide); have q6 := am_ni e6 (z := 6) (by decide); omega) (by decide) ?_
  refine g_aload_n (pc := 148) (x := a0) d_Ref_two_148 rfl rfl ?_
  refine g_iload_n (pc := 149) (x := a2) d_Ref_two_149 rfl rfl ?_
  refine g_bipush (pc := 150) (x := 8) d_Ref_two_150 (by decide) ?_
  refine g_ishr (pc := 152) d_Ref_two_152 ?_
  refine g_iconst (pc := 153) (x := 3) d_Ref_two_153 (by decide) ?_
  refine g_iand (pc := 154) d_Ref_two_154 ?_
  refine g_vi (pc := 155) (rest := []) (sn_Ref_holds a0 (((a2 : Int32) >>> ((8 : Int32) &&& 31)) &&& 3) I) rfl rfl d_Ref_two_155 ck_Ref_219 (Nat.le_of_ble_eq_true rfl) (Nat.le_of_ble_eq_true rfl) (Nat.le_refl _) (Nat.le_refl _) (fun v28 J27 => ?_)
  refine g_ifeq (pc := 158) (tgt := 165) d_Ref_two_158 rfl ?_ ?_
  · refine g_iload (pc := 165) (x := (v4 + 2)) d_Ref_two_165 rfl ?_
    refine g_istore (pc := 167) (x := (v4 + 2)) d_Ref_two_167 (Nat.le_of_ble_eq_true rfl) ?_
    refine g_aload_n (pc := 169) (x := a0) d_Ref_two_169 rfl rfl ?_
    refine g_iload (pc := 170) (x := (v4 + 2)) d_Ref_two_170 rfl ?_
    refine g_pI (pc := 172) d_Ref_two_172 fp_Ref_201 (fun J29 => ?_)
    exact g_ret (pc := 175) d_Ref_two_175 rfl (Nat.le_refl _) (Nat.le_refl _)
  refine g_iload_n (pc := 161) (x := v3) d_Ref_two_161 rfl rfl ?_
  refine g_goto (pc := 162) (tgt := 167) d_Ref_two_162 rfl ?_
  refine g_istore (pc := 167) (x := v3) d_Ref_two_167 (Nat.le_of_ble_eq_true rfl) ?_
  refine g_aload_n (pc := 169) (x := a0) d_Ref_two_169 rfl rfl ?_
  refine g_iload (pc := 170) (x := v3) d_Ref_two_170 rfl ?_
  refine g_pI (pc := 172) d_Ref_two_172 fp_Ref_201 (fun J30 => ?_)
  exact g_ret (pc := 175) d_Ref_two_175 rfl (Nat.le_refl _) (Nat.le_refl _)
abbrev c_Ref_single : gC := (m_Ref_single, 1, 0, 0, none, 0, 0)
def fn_Ref_single_71 (a0 : Nat) (a2 : Int32) (a3 : Int32) (t0 : Int32) (I : fm_I) : pR := vi 6 a0 (fn_Ref_holds a0 (((a2 : Int32) >>> ((8 : Int32) &&& 31)) &&& 3) I) (fun v2 J1 => (if v2 = 0 then pI 6 a0 25 a3 J1 (fun J3 => (rv J3)) else pI 6 a0 25 ((a3 + t0) &&& 65535) J1 (fun J4 => (rv J4))))
set_option maxRecDepth 10000 in
theorem sn_Ref_single_71 : ∀ (a0 : Nat) (a2 : Int32) (a3 : Int32) (t0 : Int32) (I : fm_I) (L : Nat → Option am_V), L 0 = some (vR a0) → L 2 = some (vI a2) → L 3 = some (vI a3) → gW c_Ref_single (fn_Ref_single_71 a0 a2 a3 t0 I) 71 L [vI t0] I := by
  intro a0 a2 a3 t0 I L h0 h2 h3
  unfold fn_Ref_single_71
  refine g_istore (pc := 71) (x := t0) d_Ref_single_71 (Nat.le_of_ble_eq_true rfl) ?_
  refine g_aload_n (pc := 73) (x := a0) d_Ref_single_73 rfl h0 ?_
  refine g_iload_n (pc := 74) (x := a2) d_Ref_single_74 rfl h2 ?_
  refine g_bipush (pc := 75) (x := 8) d_Ref_single_75 (by decide) ?_
  refine g_ishr (pc := 77) d_Ref_single_77 ?_
  refine g_iconst (pc := 78) (x := 3) d_Ref_single_78 (by decide) ?_
  refine g_iand (pc := 79) d_Ref_single_79 ?_
  refine g_vi (pc := 80) (rest := []) (sn_Ref_holds a0 (((a2 : Int32) >>> ((8 : Int32) &&& 31)) &&& 3) I) rfl rfl d_Ref_single_80 ck_Ref_219 (Nat.le_of_ble_eq_true rfl) (Nat.le_of_ble_eq_true rfl) (Nat.le_refl _) (Nat.le_refl _) (fun v2 J1 => ?_)
  refine g_ifeq (pc := 83) (tgt := 96) d_Ref_single_83 rfl ?_ ?_
  · refine g_iload_n (pc := 96) (x := a3) d_Ref_single_96 rfl h3 ?_
    refine g_istore_n (pc := 97) (x := a3) d_Ref_single_97 rfl (Nat.le_of_ble_eq_true rfl) ?_
    refine g_goto (pc := 98) (tgt := 266) d_Ref_single_98 rfl ?_
    refine g_aload_n (pc := 266) (x := a0) d_Ref_single_266 rfl h0 ?_
    refine g_iload_n (pc := 267) (x := a3) d_Ref_single_267 rfl rfl ?_
    refine g_pI (pc := 268) d_Ref_single_268 fp_Ref_201 (fun J3 => ?_)
    exact g_ret (pc := 271) d_Ref_single_271 rfl (Nat.le_refl _) (Nat.le_refl _)
  refine g_iload_n (pc := 86) (x := a3) d_Ref_single_86 rfl h3 ?_
  refine g_iload (pc := 87) (x := t0) d_Ref_single_87 rfl ?_
  refine g_iadd (pc := 89) d_Ref_single_89 ?_
  refine g_ldc (pc := 90) (x := 65535) d_Ref_single_90 lc_Ref_60 ?_
  refine g_iand (pc := 92) d_Ref_single_92 ?_
  refine g_goto (pc := 93) (tgt := 97) d_Ref_single_93 rfl ?_
  refine g_istore_n (pc := 97) (x := ((a3 + t0) &&& 65535)) d_Ref_single_97 rfl (Nat.le_of_ble_eq_true rfl) ?_
  refine g_goto (pc := 98) (tgt := 266) d_Ref_single_98 rfl ?_
  refine g_aload_n (pc := 266) (x := a0) d_Ref_single_266 rfl h0 ?_
  refine g_iload_n (pc := 267) (x := ((a3 + t0) &&& 65535)) d_Ref_single_267 rfl rfl ?_
  refine g_pI (pc := 268) d_Ref_single_268 fp_Ref_201 (fun J4 => ?_)
  exact g_ret (pc := 271) d_Ref_single_271 rfl (Nat.le_refl _) (Nat.le_refl _)
def fn_Ref_single_197 (a0 : Nat) (a3 : Int32) (t0 : Nat) (t1 : Int32) (I : fm_I) : pR := pI 6 t0 23 t1 I (fun J1 => gi 6 a0 31 J1 (fun v2 => gi 6 a0 30 J1 (fun v3 => (if v3 ≤ v2 then gi 6 a0 31 J1 (fun v4 => pI 6 a0 31 v4 J1 (fun J5 => pI 6 a0 25 a3 J5 (fun J6 => (rv J6)))) else gi 6 a0 31 J1 (fun v7 => pI 6 a0 31 (v7 + 1) J1 (fun J8 => pI 6 a0 25 a3 J8 (fun J9 => (rv J9))))))))
set_option maxRecDepth 10000 in
theorem sn_Ref_single_197 : ∀ (a0 : Nat) (a3 : Int32) (t0 : Nat) (t1 : Int32) (I : fm_I) (L : Nat → Option am_V), L 0 = some (vR a0) → L 3 = some (vI a3) → gW c_Ref_single (fn_Ref_single_197 a0 a3 t0 t1 I) 197 L [vI t1, vR t0] I := by
  intro a0 a3 t0 t1 I L h0 h3
  unfold fn_Ref_single_197
  refine g_pI (pc := 197) d_Ref_single_197 fp_Ref_195 (fun J1 => ?_)
  refine g_aload_n (pc := 200) (x := a0) d_Ref_single_200 rfl h0 ?_
  refine g_aload_n (pc := 201) (x := a0) d_Ref_single_201 rfl h0 ?_
  refine g_gi (pc := 202) d_Ref_single_202 fk_Ref_213 (fun v2 => ?_)
  refine g_aload_n (pc := 205) (x := a0) d_Ref_single_205 rfl h0 ?_
  refine g_gi (pc := 206) d_Ref_single_206 fk_Ref_210 (fun v3 => ?_)
  refine g_icmpge (pc := 209) (tgt := 221) d_Ref_single_209 rfl ?_ ?_
  · refine g_aload_n (pc := 221) (x := a0) d_Ref_single_221 rfl h0 ?_
    refine g_gi (pc := 222) d_Ref_single_222 fk_Ref_213 (fun v4 => ?_)
    refine g_pI (pc := 225) d_Ref_single_225 fp_Ref_213 (fun J5 => ?_)
    refine g_goto (pc := 228) (tgt := 266) d_Ref_single_228 rfl ?_
    refine g_aload_n (pc := 266) (x := a0) d_Ref_single_266 rfl h0 ?_
    refine g_iload_n (pc := 267) (x := a3) d_Ref_single_267 rfl h3 ?_
    refine g_pI (pc := 268) d_Ref_single_268 fp_Ref_201 (fun J6 => ?_)
    exact g_ret (pc := 271) d_Ref_single_271 rfl (Nat.le_refl _) (Nat.le_refl _)
  refine g_aload_n (pc := 212) (x := a0) d_Ref_single_212 rfl h0 ?_
  refine g_gi (pc := 213) d_Ref_single_213 fk_Ref_213 (fun v7 => ?_)
  refine g_iconst (pc := 216) (x := 1) d_Ref_single_216 (by decide) ?_
  refine g_iadd (pc := 217) d_Ref_single_217 ?_
  refine g_goto (pc := 218) (tgt := 225) d_Ref_single_218 rfl ?_
  refine g_pI (pc := 225) d_Ref_single_225 fp_Ref_213 (fun J8 => ?_)
  refine g_goto (pc := 228) (tgt := 266) d_Ref_single_228 rfl ?_
  refine g_aload_n (pc := 266) (x := a0) d_Ref_single_266 rfl h0 ?_
  refine g_iload_n (pc := 267) (x := a3) d_Ref_single_267 rfl h3 ?_
  refine g_pI (pc := 268) d_Ref_single_268 fp_Ref_201 (fun J9 => ?_)
  exact g_ret (pc := 271) d_Ref_single_271 rfl (Nat.le_refl _) (Nat.le_refl _)
def fn_Ref_single (a0 : Nat) (a1 : Int32) (a2 : Int32) (I : fm_I) : pR := gi 6 a0 25 I (fun v1 => (if a1 = 0 then pI 6 a0 26 1 I (fun J35 => gi 6 a0 25 J35 (fun v36 => pI 6 a0 25 v36 J35 (fun J37 => (rv J37)))) else (if a1 = 7 then gi 6 a0 24 I (fun v33 => pI 6 a0 25 v33 I (fun J34 => (rv J34))) else (if a1 = 9 then (if (a2 &&& 255) ≤ 127 then (fn_Ref_single_71 a0 a2 (v1 + 1) (a2 &&& 255) I) else (fn_Ref_single_71 a0 a2 (v1 + 1) ((a2 &&& 255) - 256) I)) else (if a1 = 10 then gr 6 a0 28 (fun v15 => gr 6 a0 28 (fun v16 => ld 0 v16 2 I (fun v17 => sI v15 3 v17 I (fun J18 => gr 6 a0 28 (fun v19 => gr 6 a0 28 (fun v20 => ld 0 v20 1 J18 (fun v21 => sI v19 2 v21 J18 (fun J22 => gr 6 a0 28 (fun v23 => gr 6 a0 28 (fun v24 => ld 0 v24 0 J22 (fun v25 => sI v23 1 v25 J22 (fun J26 => gr 6 a0 28 (fun v27 => gi 6 a0 23 J26 (fun v28 => sI v27 0 v28 J26 (fun J29 => gi 6 a0 27 J29 (fun v30 => pI 6 a0 27 (v30 + 1) J29 (fun J31 => pI 6 a0 25 (v1 + 1) J31 (fun J32 => (rv J32))))))))))))))))))) else (if a1 = 11 then gi 6 a0 31 I (fun v10 => gi 6 a0 30 I (fun v11 => (if v11 ≤ v10 then (fn_Ref_single_197 a0 (v1 + 1) a0 0 I) else gr 6 a0 29 (fun v12 => gi 6 a0 31 I (fun v13 => ld 0 v12 v13 I (fun v14 => (fn_Ref_single_197 a0 (v1 + 1) a0 v14 I))))))) else (if a1 = 12 then gr 6 a0 22 (fun v5 => gi 6 a0 23 I (fun v6 => ld 0 v5 v6 I (fun v7 => pI 6 a0 23 v7 I (fun J8 => pI 6 a0 25 (v1 + 1) J8 (fun J9 => (rv J9)))))) else gi 6 a0 23 I (fun v2 => pI 6 a0 23 ((v2 : Int32) >>> (((a2 &&& 15) : Int32) &&& 31)) I (fun J3 => pI 6 a0 25 (v1 + 1) J3 (fun J4 => (rv J4)))))))))))
set_option maxRecDepth 10000 in
theorem sn_Ref_single (a0 : Nat) (a1 : Int32) (a2 : Int32) (I : fm_I) : gM m_Ref_single 1 (fn_Ref_single a0 a1 a2 I) [vR a0, vI a1, vI a2] I := by
  refine gM_of (by decide) rfl (Nat.le_of_ble_eq_true rfl) ?_
  show gW c_Ref_single _ _ _ _ _
  unfold fn_Ref_single
  refine g_aload_n (pc := 0) (x := a0) d_Ref_single_0 rfl rfl ?_
  refine g_gi (pc := 1) d_Ref_single_1 fk_Ref_201 (fun v1 => ?_)
  refine g_iconst (pc := 4) (x := 1) d_Ref_single_4 (by decide) ?_
  refine g_iadd (pc := 5) d_Ref_single_5 ?_
  refine g_istore_n (pc := 6) (x := (v1 + 1)) d_Ref_single_6 rfl (Nat.le_of_ble_eq_true rfl) ?_
  refine g_iload_n (pc := 7) (x := a1) d_Ref_single_7 rfl rfl ?_
  refine g_ifne (pc := 8) (tgt := 24) d_Ref_single_8 rfl ?_ ?_
  · refine g_iload_n (pc := 24) (x := a1) d_Ref_single_24 rfl rfl ?_
    refine g_bipush (pc := 25) (x := 7) d_Ref_single_25 (by decide) ?_
    refine g_icmpne (pc := 27) (tgt := 38) d_Ref_single_27 rfl ?_ ?_
    · refine g_iload_n (pc := 38) (x := a1) d_Ref_single_38 rfl rfl ?_
      refine g_bipush (pc := 39) (x := 9) d_Ref_single_39 (by decide) ?_
      refine g_icmpne (pc := 41) (tgt := 101) d_Ref_single_41 rfl ?_ ?_
      · refine g_iload_n (pc := 101) (x := a1) d_Ref_single_101 rfl rfl ?_
        refine g_bipush (pc := 102) (x := 10) d_Ref_single_102 (by decide) ?_
        refine g_icmpne (pc := 104) (tgt := 166) d_Ref_single_104 rfl ?_ ?_
        · refine g_iload_n (pc := 166) (x := a1) d_Ref_single_166 rfl rfl ?_
          refine g_bipush (pc := 167) (x := 11) d_Ref_single_167 (by decide) ?_
          refine g_icmpne (pc := 169) (tgt := 231) d_Ref_single_169 rfl ?_ ?_
          · refine g_iload_n (pc := 231) (x := a1) d_Ref_single_231 rfl rfl ?_
            refine g_bipush (pc := 232) (x := 12) d_Ref_single_232 (by decide) ?_
            refine g_icmpne (pc := 234) (tgt := 253) d_Ref_single_234 rfl ?_ ?_
            · refine g_aload_n (pc := 253) (x := a0) d_Ref_single_253 rfl rfl ?_
              refine g_aload_n (pc := 254) (x := a0) d_Ref_single_254 rfl rfl ?_
              refine g_gi (pc := 255) d_Ref_single_255 fk_Ref_195 (fun v2 => ?_)
              refine g_iload_n (pc := 258) (x := a2) d_Ref_single_258 rfl rfl ?_
              refine g_bipush (pc := 259) (x := 15) d_Ref_single_259 (by decide) ?_
              refine g_iand (pc := 261) d_Ref_single_261 ?_
              refine g_ishr (pc := 262) d_Ref_single_262 ?_
              refine g_pI (pc := 263) d_Ref_single_263 fp_Ref_195 (fun J3 => ?_)
              refine g_aload_n (pc := 266) (x := a0) d_Ref_single_266 rfl rfl ?_
              refine g_iload_n (pc := 267) (x := (v1 + 1)) d_Ref_single_267 rfl rfl ?_
              refine g_pI (pc := 268) d_Ref_single_268 fp_Ref_201 (fun J4 => ?_)
              exact g_ret (pc := 271) d_Ref_single_271 rfl (Nat.le_refl _) (Nat.le_refl _)
            refine g_aload_n (pc := 237) (x := a0) d_Ref_single_237 rfl rfl ?_
            refine g_aload_n (pc := 238) (x := a0) d_Ref_single_238 rfl rfl ?_
            refine g_gr (pc := 239) d_Ref_single_239 fk_Ref_51 (fun v5 => ?_)
            refine g_aload_n (pc := 242) (x := a0) d_Ref_single_242 rfl rfl ?_
            refine g_gi (pc := 243) d_Ref_single_243 fk_Ref_195 (fun v6 => ?_)
            refine g_ldI (pc := 246) d_Ref_single_246 (fun v7 => ?_)
            refine g_pI (pc := 247) d_Ref_single_247 fp_Ref_195 (fun J8 => ?_)
            refine g_goto (pc := 250) (tgt := 266) d_Ref_single_250 rfl ?_
            refine g_aload_n (pc := 266) (x := a0) d_Ref_single_266 rfl rfl ?_
            refine g_iload_n (pc := 267) (x := (v1 + 1)) d_Ref_single_267 rfl rfl ?_
            refine g_pI (pc := 268) d_Ref_single_268 fp_Ref_201 (fun J9 => ?_)
            exact g_ret (pc := 271) d_Ref_single_271 rfl (Nat.le_refl _) (Nat.le_refl _)
          refine g_aload_n (pc := 172) (x := a0) d_Ref_single_172 rfl rfl ?_
          refine g_aload_n (pc := 173) (x := a0) d_Ref_single_173 rfl rfl ?_
          refine g_gi (pc := 174) d_Ref_single_174 fk_Ref_213 (fun v10 => ?_)
          refine g_aload_n (pc := 177) (x := a0) d_Ref_single_177 rfl rfl ?_
          refine g_gi (pc := 178) d_Ref_single_178 fk_Ref_210 (fun v11 => ?_)
          refine g_icmpge (pc := 181) (tgt := 196) d_Ref_single_181 rfl ?_ ?_
          · refine g_iconst (pc := 196) (x := 0) d_Ref_single_196 (by decide) ?_
            exact sn_Ref_single_197 _ _ _ _ _ _ rfl rfl
          refine g_aload_n (pc := 184) (x := a0) d_Ref_single_184 rfl rfl ?_
          refine g_gr (pc := 185) d_Ref_single_185 fk_Ref_57 (fun v12 => ?_)
          refine g_aload_n (pc := 188) (x := a0) d_Ref_single_188 rfl rfl ?_
          refine g_gi (pc := 189) d_Ref_single_189 fk_Ref_213 (fun v13 => ?_)
          refine g_ldI (pc := 192) d_Ref_single_192 (fun v14 => ?_)
          refine g_goto (pc := 193) (tgt := 197) d_Ref_single_193 rfl ?_
          exact sn_Ref_single_197 _ _ _ _ _ _ rfl rfl
        refine g_aload_n (pc := 107) (x := a0) d_Ref_single_107 rfl rfl ?_
        refine g_gr (pc := 108) d_Ref_single_108 fk_Ref_54 (fun v15 => ?_)
        refine g_iconst (pc := 111) (x := 3) d_Ref_single_111 (by decide) ?_
        refine g_aload_n (pc := 112) (x := a0) d_Ref_single_112 rfl rfl ?_
        refine g_gr (pc := 113) d_Ref_single_113 fk_Ref_54 (fun v16 => ?_)
        refine g_iconst (pc := 116) (x := 2) d_Ref_single_116 (by decide) ?_
        refine g_ldI (pc := 117) d_Ref_single_117 (fun v17 => ?_)
        refine g_sI (pc := 118) d_Ref_single_118 (fun J18 => ?_)
        refine g_aload_n (pc := 119) (x := a0) d_Ref_single_119 rfl rfl ?_
        refine g_gr (pc := 120) d_Ref_single_120 fk_Ref_54 (fun v19 => ?_)
        refine g_iconst (pc := 123) (x := 2) d_Ref_single_123 (by decide) ?_
        refine g_aload_n (pc := 124) (x := a0) d_Ref_single_124 rfl rfl ?_
        refine g_gr (pc := 125) d_Ref_single_125 fk_Ref_54 (fun v20 => ?_)
        refine g_iconst (pc := 128) (x := 1) d_Ref_single_128 (by decide) ?_
        refine g_ldI (pc := 129) d_Ref_single_129 (fun v21 => ?_)
        refine g_sI (pc := 130) d_Ref_single_130 (fun J22 => ?_)
        refine g_aload_n (pc := 131) (x := a0) d_Ref_single_131 rfl rfl ?_
        refine g_gr (pc := 132) d_Ref_single_132 fk_Ref_54 (fun v23 => ?_)
        refine g_iconst (pc := 135) (x := 1) d_Ref_single_135 (by decide) ?_
        refine g_aload_n (pc := 136) (x := a0) d_Ref_single_136 rfl rfl ?_
        refine g_gr (pc := 137) d_Ref_single_137 fk_Ref_54 (fun v24 => ?_)
        refine g_iconst (pc := 140) (x := 0) d_Ref_single_140 (by decide) ?_
        refine g_ldI (pc := 141) d_Ref_single_141 (fun v25 => ?_)
        refine g_sI (pc := 142) d_Ref_single_142 (fun J26 => ?_)
        refine g_aload_n (pc := 143) (x := a0) d_Ref_single_143 rfl rfl ?_
        refine g_gr (pc := 144) d_Ref_single_144 fk_Ref_54 (fun v27 => ?_)
        refine g_iconst (pc := 147) (x := 0) d_Ref_single_147 (by decide) ?_
        refine g_aload_n (pc := 148) (x := a0) d_Ref_single_148 rfl rfl ?_
        refine g_gi (pc := 149) d_Ref_single_149 fk_Ref_195 (fun v28 => ?_)
        refine g_sI (pc := 152) d_Ref_single_152 (fun J29 => ?_)
        refine g_aload_n (pc := 153) (x := a0) d_Ref_single_153 rfl rfl ?_
        refine g_dup (pc := 154) d_Ref_single_154 ?_
        refine g_gi (pc := 155) d_Ref_single_155 fk_Ref_207 (fun v30 => ?_)
        refine g_iconst (pc := 158) (x := 1) d_Ref_single_158 (by decide) ?_
        refine g_iadd (pc := 159) d_Ref_single_159 ?_
        refine g_pI (pc := 160) d_Ref_single_160 fp_Ref_207 (fun J31 => ?_)
        refine g_goto (pc := 163) (tgt := 266) d_Ref_single_163 rfl ?_
        refine g_aload_n (pc := 266) (x := a0) d_Ref_single_266 rfl rfl ?_
        refine g_iload_n (pc := 267) (x := (v1 + 1)) d_Ref_single_267 rfl rfl ?_
        refine g_pI (pc := 268) d_Ref_single_268 fp_Ref_201 (fun J32 => ?_)
        exact g_ret (pc := 271) d_Ref_single_271 rfl (Nat.le_refl _) (Nat.le_refl _)
      refine g_iload_n (pc := 44) (x := a2) d_Ref_single_44 rfl rfl ?_
      refine g_sipush (pc := 45) (x := 255) d_Ref_single_45 (by decide) ?_
      refine g_iand (pc := 48) d_Ref_single_48 ?_
      refine g_bipush (pc := 49) (x := 127) d_Ref_single_49 (by decide) ?_
      refine g_icmple (pc := 51) (tgt := 66) d_Ref_single_51 rfl ?_ ?_
      · refine g_iload_n (pc := 66) (x := a2) d_Ref_single_66 rfl rfl ?_
        refine g_sipush (pc := 67) (x := 255) d_Ref_single_67 (by decide) ?_
        refine g_iand (pc := 70) d_Ref_single_70 ?_
        exact sn_Ref_single_71 _ _ _ _ _ _ rfl rfl rfl
      refine g_iload_n (pc := 54) (x := a2) d_Ref_single_54 rfl rfl ?_
      refine g_sipush (pc := 55) (x := 255) d_Ref_single_55 (by decide) ?_
      refine g_iand (pc := 58) d_Ref_single_58 ?_
      refine g_sipush (pc := 59) (x := 256) d_Ref_single_59 (by decide) ?_
      refine g_isub (pc := 62) d_Ref_single_62 ?_
      refine g_goto (pc := 63) (tgt := 71) d_Ref_single_63 rfl ?_
      exact sn_Ref_single_71 _ _ _ _ _ _ rfl rfl rfl
    refine g_aload_n (pc := 30) (x := a0) d_Ref_single_30 rfl rfl ?_
    refine g_gi (pc := 31) d_Ref_single_31 fk_Ref_198 (fun v33 => ?_)
    refine g_istore_n (pc := 34) (x := v33) d_Ref_single_34 rfl (Nat.le_of_ble_eq_true rfl) ?_
    refine g_goto (pc := 35) (tgt := 266) d_Ref_single_35 rfl ?_
    refine g_aload_n (pc := 266) (x := a0) d_Ref_single_266 rfl rfl ?_
    refine g_iload_n (pc := 267) (x := v33) d_Ref_single_267 rfl rfl ?_
    refine g_pI (pc := 268) d_Ref_single_268 fp_Ref_201 (fun J34 => ?_)
    exact g_ret (pc := 271) d_Ref_single_271 rfl (Nat.le_refl _) (Nat.le_refl _)
  refine g_aload_n (pc := 11) (x := a0) d_Ref_single_11 rfl rfl ?_
  refine g_iconst (pc := 12) (x := 1) d_Ref_single_12 (by decide) ?_
  refine g_pI (pc := 13) d_Ref_single_13 fp_Ref_204 (fun J35 => ?_)
  refine g_aload_n (pc := 16) (x := a0) d_Ref_single_16 rfl rfl ?_
  refine g_gi (pc := 17) d_Ref_single_17 fk_Ref_201 (fun v36 => ?_)
  refine g_istore_n (pc := 20) (x := v36) d_Ref_single_20 rfl (Nat.le_of_ble_eq_true rfl) ?_
  refine g_goto (pc := 21) (tgt := 266) d_Ref_single_21 rfl ?_
  refine g_aload_n (pc := 266) (x := a0) d_Ref_single_266 rfl rfl ?_
  refine g_iload_n (pc := 267) (x := v36) d_Ref_single_267 rfl rfl ?_
  refine g_pI (pc := 268) d_Ref_single_268 fp_Ref_201 (fun J37 => ?_)
  exact g_ret (pc := 271) d_Ref_single_271 rfl (Nat.le_refl _) (Nat.le_refl _)
abbrev c_Ref_run : gC := (m_Ref_run, 2, 0, 0, none, 0, 0)
def fn_Ref_run_81 (K22 : Nat → Int32 → Int32 → fm_I → pR) (a0 : Nat) (a1 : Int32) (a2 : Int32) (a4 : Int32) (a5 : Int32) (I : fm_I) : pR := (if a5 = 8 then vv 6 a0 (fn_Ref_two a0 a5 (a4 &&& 4095) I) (fun J2 => (K22 a0 a1 (a2 + 1) J2)) else vv 6 a0 (fn_Ref_single a0 a5 (a4 &&& 4095) I) (fun J1 => (K22 a0 a1 (a2 + 1) J1)))
set_option maxRecDepth 10000 in
theorem sn_Ref_run_81 (K22 : Nat → Int32 → Int32 → fm_I → pR) (hK22 : ∀ (a0 : Nat) (a1 : Int32) (a2 : Int32) (I : fm_I) (L : Nat → Option am_V), L 0 = some (vR a0) → L 1 = some (vI a1) → L 2 = some (vI a2) → gW c_Ref_run (K22 a0 a1 a2 I) 22 L [] I) : ∀ (a0 : Nat) (a1 : Int32) (a2 : Int32) (a4 : Int32) (a5 : Int32) (I : fm_I) (L : Nat → Option am_V), L 0 = some (vR a0) → L 1 = some (vI a1) → L 2 = some (vI a2) → L 4 = some (vI a4) → L 5 = some (vI a5) → gW c_Ref_run (fn_Ref_run_81 K22 a0 a1 a2 a4 a5 I) 81 L [] I := by
  intro a0 a1 a2 a4 a5 I L h0 h1 h2 h4 h5
  unfold fn_Ref_run_81
  refine g_iload (pc := 81) (x := a5) d_Ref_run_81 h5 ?_
  refine g_bipush (pc := 83) (x := 8) d_Ref_run_83 (by decide) ?_
  refine g_icmpne (pc := 85) (tgt := 103) d_Ref_run_85 rfl ?_ ?_
  · refine g_aload_n (pc := 103) (x := a0) d_Ref_run_103 rfl h0 ?_
    refine g_iload (pc := 104) (x := a5) d_Ref_run_104 h5 ?_
    refine g_iload (pc := 106) (x := a4) d_Ref_run_106 h4 ?_
    refine g_sipush (pc := 108) (x := 4095) d_Ref_run_108 (by decide) ?_
    refine g_iand (pc := 111) d_Ref_run_111 ?_
    refine g_vv (pc := 112) (rest := []) (sn_Ref_single a0 a5 (a4 &&& 4095) I) rfl rfl d_Ref_run_112 ck_Ref_228 (Nat.le_of_ble_eq_true rfl) (Nat.le_of_ble_eq_true rfl) (Nat.le_refl _) (Nat.le_refl _) (fun J1 => ?_)
    refine g_iinc (pc := 115) (x := a2) (w := 1) d_Ref_run_115 h2 (by decide) (Nat.le_of_ble_eq_true rfl) ?_
    refine g_goto (pc := 118) (tgt := 22) d_Ref_run_118 rfl ?_
    exact hK22 _ _ _ _ _ h0 h1 rfl
  refine g_aload_n (pc := 88) (x := a0) d_Ref_run_88 rfl h0 ?_
  refine g_iload (pc := 89) (x := a5) d_Ref_run_89 h5 ?_
  refine g_iload (pc := 91) (x := a4) d_Ref_run_91 h4 ?_
  refine g_sipush (pc := 93) (x := 4095) d_Ref_run_93 (by decide) ?_
  refine g_iand (pc := 96) d_Ref_run_96 ?_
  refine g_vv (pc := 97) (rest := []) (sn_Ref_two a0 a5 (a4 &&& 4095) I) rfl rfl d_Ref_run_97 ck_Ref_226 (Nat.le_of_ble_eq_true rfl) (Nat.le_of_ble_eq_true rfl) (Nat.le_refl _) (Nat.le_refl _) (fun J2 => ?_)
  refine g_goto (pc := 100) (tgt := 115) d_Ref_run_100 rfl ?_
  refine g_iinc (pc := 115) (x := a2) (w := 1) d_Ref_run_115 h2 (by decide) (Nat.le_of_ble_eq_true rfl) ?_
  refine g_goto (pc := 118) (tgt := 22) d_Ref_run_118 rfl ?_
  exact hK22 _ _ _ _ _ h0 h1 rfl
def fn_Ref_run_22 : Nat → Nat → Int32 → Int32 → fm_I → pR
  | 0, _, _, _, _ => none
  | n + 1, a0, a1, a2, I => (if a1 ≤ a2 then (ri a2 I) else gi 6 a0 26 I (fun v1 => (if v1 = 0 then vi 6 a0 (fn_Ref_hindrance a0 I) (fun v3 J2 => (if v3 = 0 then gr 6 a0 22 (fun v4 => gi 6 a0 25 J2 (fun v5 => ld 0 v4 v5 J2 (fun v6 => bn ((v6 : Int32) >>> ((12 : Int32) &&& 31)) (fun v7 => (if v7 < 1 then (fn_Ref_run_81 (fun a0 a1 a2 I => fn_Ref_run_22 n a0 a1 a2 I) a0 a1 a2 v6 v7 J2) else (if v7 ≤ 6 then vv 6 a0 (fn_Ref_two a0 v7 (v6 &&& 4095) J2) (fun J8 => (fn_Ref_run_22 n a0 a1 (a2 + 1) J8)) else (fn_Ref_run_81 (fun a0 a1 a2 I => fn_Ref_run_22 n a0 a1 a2 I) a0 a1 a2 v6 v7 J2))))))) else pI 6 a0 26 v3 J2 (fun J9 => (ri a2 J9)))) else (ri a2 I))))
set_option maxRecDepth 10000 in
theorem sn_Ref_run_22 (n : Nat) : ∀ (a0 : Nat) (a1 : Int32) (a2 : Int32) (I : fm_I) (L : Nat → Option am_V), L 0 = some (vR a0) → L 1 = some (vI a1) → L 2 = some (vI a2) → gW c_Ref_run (fn_Ref_run_22 n a0 a1 a2 I) 22 L [] I := by
  induction n with
  | zero =>
    intro a0 a1 a2 I L h0 h1 h2
    unfold fn_Ref_run_22
    exact g_none
  | succ n ih =>
    intro a0 a1 a2 I L h0 h1 h2
    unfold fn_Ref_run_22
    refine g_iload_n (pc := 22) (x := a2) d_Ref_run_22 rfl h2 ?_
    refine g_iload_n (pc := 23) (x := a1) d_Ref_run_23 rfl h1 ?_
    refine g_icmpge (pc := 24) (tgt := 121) d_Ref_run_24 rfl ?_ ?_
    · refine g_iload_n (pc := 121) (x := a2) d_Ref_run_121 rfl h2 ?_
      exact g_iret (pc := 122) d_Ref_run_122 rfl (Nat.le_refl _) (Nat.le_refl _)
    refine g_aload_n (pc := 27) (x := a0) d_Ref_run_27 rfl h0 ?_
    refine g_gi (pc := 28) d_Ref_run_28 fk_Ref_204 (fun v1 => ?_)
    refine g_ifne (pc := 31) (tgt := 121) d_Ref_run_31 rfl ?_ ?_
    · refine g_iload_n (pc := 121) (x := a2) d_Ref_run_121 rfl h2 ?_
      exact g_iret (pc := 122) d_Ref_run_122 rfl (Nat.le_refl _) (Nat.le_refl _)
    refine g_aload_n (pc := 34) (x := a0) d_Ref_run_34 rfl h0 ?_
    refine g_vi (pc := 35) (rest := []) (sn_Ref_hindrance a0 I) rfl rfl d_Ref_run_35 ck_Ref_222 (Nat.le_of_ble_eq_true rfl) (Nat.le_of_ble_eq_true rfl) (Nat.le_refl _) (Nat.le_refl _) (fun v3 J2 => ?_)
    refine g_istore_n (pc := 38) (x := v3) d_Ref_run_38 rfl (Nat.le_of_ble_eq_true rfl) ?_
    refine g_iload_n (pc := 39) (x := v3) d_Ref_run_39 rfl rfl ?_
    refine g_ifeq (pc := 40) (tgt := 50) d_Ref_run_40 rfl ?_ ?_
    · refine g_aload_n (pc := 50) (x := a0) d_Ref_run_50 rfl h0 ?_
      refine g_gr (pc := 51) d_Ref_run_51 fk_Ref_51 (fun v4 => ?_)
      refine g_aload_n (pc := 54) (x := a0) d_Ref_run_54 rfl h0 ?_
      refine g_gi (pc := 55) d_Ref_run_55 fk_Ref_201 (fun v5 => ?_)
      refine g_ldI (pc := 58) d_Ref_run_58 (fun v6 => ?_)
      refine g_istore (pc := 59) (x := v6) d_Ref_run_59 (Nat.le_of_ble_eq_true rfl) ?_
      refine g_iload (pc := 61) (x := v6) d_Ref_run_61 rfl ?_
      refine g_bipush (pc := 63) (x := 12) d_Ref_run_63 (by decide) ?_
      refine g_ishr (pc := 65) d_Ref_run_65 ?_
      refine g_bn (fun v7 => ?_)
      refine g_istore (pc := 66) (x := v7) d_Ref_run_66 (Nat.le_of_ble_eq_true rfl) ?_
      refine g_iload (pc := 68) (x := v7) d_Ref_run_68 rfl ?_
      refine g_iconst (pc := 70) (x := 1) d_Ref_run_70 (by decide) ?_
      refine g_icmplt (pc := 71) (tgt := 81) d_Ref_run_71 rfl ?_ ?_
      · exact sn_Ref_run_81 _ ih _ _ _ _ _ _ _ h0 h1 h2 rfl rfl
      refine g_iload (pc := 74) (x := v7) d_Ref_run_74 rfl ?_
      refine g_bipush (pc := 76) (x := 6) d_Ref_run_76 (by decide) ?_
      refine g_icmple (pc := 78) (tgt := 88) d_Ref_run_78 rfl ?_ ?_
      · refine g_aload_n (pc := 88) (x := a0) d_Ref_run_88 rfl h0 ?_
        refine g_iload (pc := 89) (x := v7) d_Ref_run_89 rfl ?_
        refine g_iload (pc := 91) (x := v6) d_Ref_run_91 rfl ?_
        refine g_sipush (pc := 93) (x := 4095) d_Ref_run_93 (by decide) ?_
        refine g_iand (pc := 96) d_Ref_run_96 ?_
        refine g_vv (pc := 97) (rest := []) (sn_Ref_two a0 v7 (v6 &&& 4095) J2) rfl rfl d_Ref_run_97 ck_Ref_226 (Nat.le_of_ble_eq_true rfl) (Nat.le_of_ble_eq_true rfl) (Nat.le_refl _) (Nat.le_refl _) (fun J8 => ?_)
        refine g_goto (pc := 100) (tgt := 115) d_Ref_run_100 rfl ?_
        refine g_iinc (pc := 115) (x := a2) (w := 1) d_Ref_run_115 h2 (by decide) (Nat.le_of_ble_eq_true rfl) ?_
        refine g_goto (pc := 118) (tgt := 22) d_Ref_run_118 rfl ?_
        exact ih _ _ _ _ _ h0 h1 rfl
      exact sn_Ref_run_81 _ ih _ _ _ _ _ _ _ h0 h1 h2 rfl rfl
    refine g_aload_n (pc := 43) (x := a0) d_Ref_run_43 rfl h0 ?_
    refine g_iload_n (pc := 44) (x := v3) d_Ref_run_44 rfl rfl ?_
    refine g_pI (pc := 45) d_Ref_run_45 fp_Ref_204 (fun J9 => ?_)
    refine g_iload_n (pc := 48) (x := a2) d_Ref_run_48 rfl h2 ?_
    exact g_iret (pc := 49) d_Ref_run_49 rfl (Nat.le_refl _) (Nat.le_refl _)
def fn_Ref_run (a0 : Nat) (a1 : Int32) (I : fm_I) : pR := gi 6 a0 21 I (fun v1 => (if v1 = 0 then (ri (-1) I) else (if a1 < 0 then (ri (-1) I) else (if a1 ≤ 1000 then (fn_Ref_run_22 FU a0 a1 0 I) else (ri (-1) I)))))
set_option maxRecDepth 10000 in
theorem sn_Ref_run (a0 : Nat) (a1 : Int32) (I : fm_I) : gM m_Ref_run 2 (fn_Ref_run a0 a1 I) [vR a0, vI a1] I := by
  refine gM_of (by decide) rfl (Nat.le_of_ble_eq_true rfl) ?_
  show gW c_Ref_run _ _ _ _ _
  unfold fn_Ref_run
  refine g_aload_n (pc := 0) (x := a0) d_Ref_run_0 rfl rfl ?_
  refine g_gi (pc := 1) d_Ref_run_1 fk_Ref_183 (fun v1 => ?_)
  refine g_ifeq (pc := 4) (tgt := 18) d_Ref_run_4 rfl ?_ ?_
  · refine g_iconst (pc := 18) (x := (-1)) d_Ref_run_18 (by decide) ?_
    exact g_iret (pc := 19) d_Ref_run_19 rfl (Nat.le_refl _) (Nat.le_refl _)
  refine g_iload_n (pc := 7) (x := a1) d_Ref_run_7 rfl rfl ?_
  refine g_iflt (pc := 8) (tgt := 18) d_Ref_run_8 rfl ?_ ?_
  · refine g_iconst (pc := 18) (x := (-1)) d_Ref_run_18 (by decide) ?_
    exact g_iret (pc := 19) d_Ref_run_19 rfl (Nat.le_refl _) (Nat.le_refl _)
  refine g_iload_n (pc := 11) (x := a1) d_Ref_run_11 rfl rfl ?_
  refine g_sipush (pc := 12) (x := 1000) d_Ref_run_12 (by decide) ?_
  refine g_icmple (pc := 15) (tgt := 20) d_Ref_run_15 rfl ?_ ?_
  · refine g_iconst (pc := 20) (x := 0) d_Ref_run_20 (by decide) ?_
    refine g_istore_n (pc := 21) (x := 0) d_Ref_run_21 rfl (Nat.le_of_ble_eq_true rfl) ?_
    exact sn_Ref_run_22 FU _ _ _ _ _ rfl rfl rfl
  refine g_iconst (pc := 18) (x := (-1)) d_Ref_run_18 (by decide) ?_
  exact g_iret (pc := 19) d_Ref_run_19 rfl (Nat.le_refl _) (Nat.le_refl _)
abbrev c_Ref_register : gC := (m_Ref_register, 0, 0, 0, none, 0, 0)
def fn_Ref_register (a0 : Nat) (a1 : Int32) (I : fm_I) : pR := gi 6 a0 21 I (fun v1 => (if v1 = 0 then (ri (-1) I) else (if a1 < 0 then (ri (-1) I) else (if a1 ≤ 8 then (if a1 < 5 then (if a1 = 0 then gi 6 a0 23 I (fun v6 => (ri v6 I)) else (if a1 = 1 then gi 6 a0 24 I (fun v5 => (ri v5 I)) else (if a1 = 2 then gi 6 a0 25 I (fun v4 => (ri v4 I)) else (if a1 = 3 then gi 6 a0 26 I (fun v3 => (ri v3 I)) else gi 6 a0 27 I (fun v2 => (ri v2 I)))))) else gi 6 a0 27 I (fun v7 => (if v7 ≤ (a1 - 5) then (ri (-1) I) else gr 6 a0 28 (fun v8 => ld 0 v8 (a1 - 5) I (fun v9 => (ri v9 I)))))) else (ri (-1) I)))))
set_option maxRecDepth 10000 in
theorem sn_Ref_register (a0 : Nat) (a1 : Int32) (I : fm_I) : gM m_Ref_register 0 (fn_Ref_register a0 a1 I) [vR a0, vI a1] I := by
  refine gM_of (by decide) rfl (Nat.le_of_ble_eq_true rfl) ?_
  show gW c_Ref_register _ _ _ _ _
  unfold fn_Ref_register
  refine g_aload_n (pc := 0) (x := a0) d_Ref_register_0 rfl rfl ?_
  refine g_gi (pc := 1) d_Ref_register_1 fk_Ref_183 (fun v1 => ?_)
  refine g_ifeq (pc := 4) (tgt := 17) d_Ref_register_4 rfl ?_ ?_
  · refine g_iconst (pc := 17) (x := (-1)) d_Ref_register_17 (by decide) ?_
    exact g_iret (pc := 18) d_Ref_register_18 rfl (Nat.le_refl _) (Nat.le_refl _)
  refine g_iload_n (pc := 7) (x := a1) d_Ref_register_7 rfl rfl ?_
  refine g_iflt (pc := 8) (tgt := 17) d_Ref_register_8 rfl ?_ ?_
  · refine g_iconst (pc := 17) (x := (-1)) d_Ref_register_17 (by decide) ?_
    exact g_iret (pc := 18) d_Ref_register_18 rfl (Nat.le_refl _) (Nat.le_refl _)
  refine g_iload_n (pc := 11) (x := a1) d_Ref_register_11 rfl rfl ?_
  refine g_bipush (pc := 12) (x := 8) d_Ref_register_12 (by decide) ?_
  refine g_icmple (pc := 14) (tgt := 19) d_Ref_register_14 rfl ?_ ?_
  · refine g_iload_n (pc := 19) (x := a1) d_Ref_register_19 rfl rfl ?_
    refine g_iconst (pc := 20) (x := 5) d_Ref_register_20 (by decide) ?_
    refine g_icmplt (pc := 21) (tgt := 47) d_Ref_register_21 rfl ?_ ?_
    · refine g_iload_n (pc := 47) (x := a1) d_Ref_register_47 rfl rfl ?_
      refine g_ifne (pc := 48) (tgt := 58) d_Ref_register_48 rfl ?_ ?_
      · refine g_iload_n (pc := 58) (x := a1) d_Ref_register_58 rfl rfl ?_
        refine g_iconst (pc := 59) (x := 1) d_Ref_register_59 (by decide) ?_
        refine g_icmpne (pc := 60) (tgt := 70) d_Ref_register_60 rfl ?_ ?_
        · refine g_iload_n (pc := 70) (x := a1) d_Ref_register_70 rfl rfl ?_
          refine g_iconst (pc := 71) (x := 2) d_Ref_register_71 (by decide) ?_
          refine g_icmpne (pc := 72) (tgt := 82) d_Ref_register_72 rfl ?_ ?_
          · refine g_iload_n (pc := 82) (x := a1) d_Ref_register_82 rfl rfl ?_
            refine g_iconst (pc := 83) (x := 3) d_Ref_register_83 (by decide) ?_
            refine g_icmpne (pc := 84) (tgt := 94) d_Ref_register_84 rfl ?_ ?_
            · refine g_aload_n (pc := 94) (x := a0) d_Ref_register_94 rfl rfl ?_
              refine g_gi (pc := 95) d_Ref_register_95 fk_Ref_207 (fun v2 => ?_)
              exact g_iret (pc := 98) d_Ref_register_98 rfl (Nat.le_refl _) (Nat.le_refl _)
            refine g_aload_n (pc := 87) (x := a0) d_Ref_register_87 rfl rfl ?_
            refine g_gi (pc := 88) d_Ref_register_88 fk_Ref_204 (fun v3 => ?_)
            refine g_goto (pc := 91) (tgt := 98) d_Ref_register_91 rfl ?_
            exact g_iret (pc := 98) d_Ref_register_98 rfl (Nat.le_refl _) (Nat.le_refl _)
          refine g_aload_n (pc := 75) (x := a0) d_Ref_register_75 rfl rfl ?_
          refine g_gi (pc := 76) d_Ref_register_76 fk_Ref_201 (fun v4 => ?_)
          refine g_goto (pc := 79) (tgt := 98) d_Ref_register_79 rfl ?_
          exact g_iret (pc := 98) d_Ref_register_98 rfl (Nat.le_refl _) (Nat.le_refl _)
        refine g_aload_n (pc := 63) (x := a0) d_Ref_register_63 rfl rfl ?_
        refine g_gi (pc := 64) d_Ref_register_64 fk_Ref_198 (fun v5 => ?_)
        refine g_goto (pc := 67) (tgt := 98) d_Ref_register_67 rfl ?_
        exact g_iret (pc := 98) d_Ref_register_98 rfl (Nat.le_refl _) (Nat.le_refl _)
      refine g_aload_n (pc := 51) (x := a0) d_Ref_register_51 rfl rfl ?_
      refine g_gi (pc := 52) d_Ref_register_52 fk_Ref_195 (fun v6 => ?_)
      refine g_goto (pc := 55) (tgt := 98) d_Ref_register_55 rfl ?_
      exact g_iret (pc := 98) d_Ref_register_98 rfl (Nat.le_refl _) (Nat.le_refl _)
    refine g_iload_n (pc := 24) (x := a1) d_Ref_register_24 rfl rfl ?_
    refine g_iconst (pc := 25) (x := 5) d_Ref_register_25 (by decide) ?_
    refine g_isub (pc := 26) d_Ref_register_26 ?_
    refine g_aload_n (pc := 27) (x := a0) d_Ref_register_27 rfl rfl ?_
    refine g_gi (pc := 28) d_Ref_register_28 fk_Ref_207 (fun v7 => ?_)
    refine g_icmpge (pc := 31) (tgt := 45) d_Ref_register_31 rfl ?_ ?_
    · refine g_iconst (pc := 45) (x := (-1)) d_Ref_register_45 (by decide) ?_
      exact g_iret (pc := 46) d_Ref_register_46 rfl (Nat.le_refl _) (Nat.le_refl _)
    refine g_aload_n (pc := 34) (x := a0) d_Ref_register_34 rfl rfl ?_
    refine g_gr (pc := 35) d_Ref_register_35 fk_Ref_54 (fun v8 => ?_)
    refine g_iload_n (pc := 38) (x := a1) d_Ref_register_38 rfl rfl ?_
    refine g_iconst (pc := 39) (x := 5) d_Ref_register_39 (by decide) ?_
    refine g_isub (pc := 40) d_Ref_register_40 ?_
    refine g_ldI (pc := 41) d_Ref_register_41 (fun v9 => ?_)
    refine g_goto (pc := 42) (tgt := 46) d_Ref_register_42 rfl ?_
    exact g_iret (pc := 46) d_Ref_register_46 rfl (Nat.le_refl _) (Nat.le_refl _)
  refine g_iconst (pc := 17) (x := (-1)) d_Ref_register_17 (by decide) ?_
  exact g_iret (pc := 18) d_Ref_register_18 rfl (Nat.le_refl _) (Nat.le_refl _)
abbrev c_Ref_memory : gC := (m_Ref_memory, 1, 0, 0, none, 0, 0)
def fn_Ref_memory (a0 : Nat) (a1 : Int32) (I : fm_I) : pR := gi 6 a0 21 I (fun v1 => (if v1 = 0 then (ri (-1) I) else vi 6 a0 (fn_Ref_there a0 a1 I) (fun v3 J2 => (if v3 = 0 then (ri (-1) J2) else gr 6 a0 22 (fun v4 => ld 0 v4 a1 J2 (fun v5 => (ri v5 J2)))))))
set_option maxRecDepth 10000 in
theorem sn_Ref_memory (a0 : Nat) (a1 : Int32) (I : fm_I) : gM m_Ref_memory 1 (fn_Ref_memory a0 a1 I) [vR a0, vI a1] I := by
  refine gM_of (by decide) rfl (Nat.le_of_ble_eq_true rfl) ?_
  show gW c_Ref_memory _ _ _ _ _
  unfold fn_Ref_memory
  refine g_aload_n (pc := 0) (x := a0) d_Ref_memory_0 rfl rfl ?_
  refine g_gi (pc := 1) d_Ref_memory_1 fk_Ref_183 (fun v1 => ?_)
  refine g_ifeq (pc := 4) (tgt := 24) d_Ref_memory_4 rfl ?_ ?_
  · refine g_iconst (pc := 24) (x := (-1)) d_Ref_memory_24 (by decide) ?_
    exact g_iret (pc := 25) d_Ref_memory_25 rfl (Nat.le_refl _) (Nat.le_refl _)
  refine g_aload_n (pc := 7) (x := a0) d_Ref_memory_7 rfl rfl ?_
  refine g_iload_n (pc := 8) (x := a1) d_Ref_memory_8 rfl rfl ?_
  refine g_vi (pc := 9) (rest := []) (sn_Ref_there a0 a1 I) rfl rfl d_Ref_memory_9 ck_Ref_216 (Nat.le_of_ble_eq_true rfl) (Nat.le_of_ble_eq_true rfl) (Nat.le_refl _) (Nat.le_refl _) (fun v3 J2 => ?_)
  refine g_ifeq (pc := 12) (tgt := 24) d_Ref_memory_12 rfl ?_ ?_
  · refine g_iconst (pc := 24) (x := (-1)) d_Ref_memory_24 (by decide) ?_
    exact g_iret (pc := 25) d_Ref_memory_25 rfl (Nat.le_refl _) (Nat.le_refl _)
  refine g_aload_n (pc := 15) (x := a0) d_Ref_memory_15 rfl rfl ?_
  refine g_gr (pc := 16) d_Ref_memory_16 fk_Ref_51 (fun v4 => ?_)
  refine g_iload_n (pc := 19) (x := a1) d_Ref_memory_19 rfl rfl ?_
  refine g_ldI (pc := 20) d_Ref_memory_20 (fun v5 => ?_)
  refine g_goto (pc := 21) (tgt := 25) d_Ref_memory_21 rfl ?_
  exact g_iret (pc := 25) d_Ref_memory_25 rfl (Nat.le_refl _) (Nat.le_refl _)
