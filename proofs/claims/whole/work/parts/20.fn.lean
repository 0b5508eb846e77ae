abbrev c_SL_isWithin : gC := (m_SL_isWithin, 0, 0, 0, none, 0, 0)
def fn_SL_isWithin (a0 : Int32) (a1 : Int32) (a2 : Int32) (I : fm_I) : pR := (if a0 < a1 then (rz 0 I) else (if a2 < a0 then (rz 0 I) else (rz 1 I)))
set_option maxRecDepth 10000 in
theorem sn_SL_isWithin (a0 : Int32) (a1 : Int32) (a2 : Int32) (I : fm_I) : gM m_SL_isWithin 0 (fn_SL_isWithin a0 a1 a2 I) [vI a0, vI a1, vI a2] I := by
  refine gM_of (by decide) rfl (Nat.le_of_ble_eq_true rfl) ?_
  show gW c_SL_isWithin _ _ _ _ _
  unfold fn_SL_isWithin
  refine g_iload_n (pc := 0) (x := a0) d_SL_isWithin_0 rfl rfl ?_
  refine g_iload_n (pc := 1) (x := a1) d_SL_isWithin_1 rfl rfl ?_
  refine g_icmplt (pc := 2) (tgt := 14) d_SL_isWithin_2 rfl ?_ ?_
  · refine g_iconst (pc := 14) (x := 0) d_SL_isWithin_14 (by decide) ?_
    exact g_zret (pc := 15) d_SL_isWithin_15 rfl (Nat.le_refl _) (Nat.le_refl _)
  refine g_iload_n (pc := 5) (x := a0) d_SL_isWithin_5 rfl rfl ?_
  refine g_iload_n (pc := 6) (x := a2) d_SL_isWithin_6 rfl rfl ?_
  refine g_icmpgt (pc := 7) (tgt := 14) d_SL_isWithin_7 rfl ?_ ?_
  · refine g_iconst (pc := 14) (x := 0) d_SL_isWithin_14 (by decide) ?_
    exact g_zret (pc := 15) d_SL_isWithin_15 rfl (Nat.le_refl _) (Nat.le_refl _)
  refine g_iconst (pc := 10) (x := 1) d_SL_isWithin_10 (by decide) ?_
  refine g_goto (pc := 11) (tgt := 15) d_SL_isWithin_11 rfl ?_
  exact g_zret (pc := 15) d_SL_isWithin_15 rfl (Nat.le_refl _) (Nat.le_refl _)
abbrev c_SL_isModule : gC := (m_SL_isModule, 1, 0, 0, none, 0, 0)
def fn_SL_isModule (a0 : Int32) (I : fm_I) : pR := bi (fn_SL_isWithin a0 0 5 I) (fun v2 J1 => (rz v2 J1))
set_option maxRecDepth 10000 in
theorem sn_SL_isModule (a0 : Int32) (I : fm_I) : gM m_SL_isModule 1 (fn_SL_isModule a0 I) [vI a0] I := by
  refine gM_of (by decide) rfl (Nat.le_of_ble_eq_true rfl) ?_
  show gW c_SL_isModule _ _ _ _ _
  unfold fn_SL_isModule
  refine g_iload_n (pc := 0) (x := a0) d_SL_isModule_0 rfl rfl ?_
  refine g_iconst (pc := 1) (x := 0) d_SL_isModule_1 (by decide) ?_
  refine g_iconst (pc := 2) (x := 5) d_SL_isModule_2 (by decide) ?_
  refine g_si (pc := 3) (rest := []) (sn_SL_isWithin a0 0 5 I) rfl rfl d_SL_isModule_3 ck_SL_154 (Nat.le_of_ble_eq_true rfl) (Nat.le_of_ble_eq_true rfl) (Nat.le_refl _) (Nat.le_refl _) (fun v2 J1 => ?_)
  exact g_zret (pc := 6) d_SL_isModule_6 rfl (Nat.le_refl _) (Nat.le_refl _)
abbrev c_SL_isName : gC := (m_SL_isName, 1, 0, 0, none, 0, 0)
def fn_SL_isName (a0 : Int32) (I : fm_I) : pR := bi (fn_SL_isWithin a0 0 15 I) (fun v2 J1 => (rz v2 J1))
set_option maxRecDepth 10000 in
theorem sn_SL_isName (a0 : Int32) (I : fm_I) : gM m_SL_isName 1 (fn_SL_isName a0 I) [vI a0] I := by
  refine gM_of (by decide) rfl (Nat.le_of_ble_eq_true rfl) ?_
  show gW c_SL_isName _ _ _ _ _
  unfold fn_SL_isName
  refine g_iload_n (pc := 0) (x := a0) d_SL_isName_0 rfl rfl ?_
  refine g_iconst (pc := 1) (x := 0) d_SL_isName_1 (by decide) ?_
  refine g_bipush (pc := 2) (x := 15) d_SL_isName_2 (by decide) ?_
  refine g_si (pc := 4) (rest := []) (sn_SL_isWithin a0 0 15 I) rfl rfl d_SL_isName_4 ck_SL_154 (Nat.le_of_ble_eq_true rfl) (Nat.le_of_ble_eq_true rfl) (Nat.le_refl _) (Nat.le_refl _) (fun v2 J1 => ?_)
  exact g_zret (pc := 7) d_SL_isName_7 rfl (Nat.le_refl _) (Nat.le_refl _)
abbrev c_SL_isSection : gC := (m_SL_isSection, 1, 0, 0, none, 0, 0)
def fn_SL_isSection (a0 : Int32) (I : fm_I) : pR := bi (fn_SL_isWithin a0 0 2 I) (fun v2 J1 => (rz v2 J1))
set_option maxRecDepth 10000 in
theorem sn_SL_isSection (a0 : Int32) (I : fm_I) : gM m_SL_isSection 1 (fn_SL_isSection a0 I) [vI a0] I := by
  refine gM_of (by decide) rfl (Nat.le_of_ble_eq_true rfl) ?_
  show gW c_SL_isSection _ _ _ _ _
  unfold fn_SL_isSection
  refine g_iload_n (pc := 0) (x := a0) d_SL_isSection_0 rfl rfl ?_
  refine g_iconst (pc := 1) (x := 0) d_SL_isSection_1 (by decide) ?_
  refine g_iconst (pc := 2) (x := 2) d_SL_isSection_2 (by decide) ?_
  refine g_si (pc := 3) (rest := []) (sn_SL_isWithin a0 0 2 I) rfl rfl d_SL_isSection_3 ck_SL_154 (Nat.le_of_ble_eq_true rfl) (Nat.le_of_ble_eq_true rfl) (Nat.le_refl _) (Nat.le_refl _) (fun v2 J1 => ?_)
  exact g_zret (pc := 6) d_SL_isSection_6 rfl (Nat.le_refl _) (Nat.le_refl _)
abbrev c_SL_isWord : gC := (m_SL_isWord, 1, 0, 0, none, 0, 0)
def fn_SL_isWord (a0 : Int32) (I : fm_I) : pR := bi (fn_SL_isWithin a0 0 65535 I) (fun v2 J1 => (rz v2 J1))
set_option maxRecDepth 10000 in
theorem sn_SL_isWord (a0 : Int32) (I : fm_I) : gM m_SL_isWord 1 (fn_SL_isWord a0 I) [vI a0] I := by
  refine gM_of (by decide) rfl (Nat.le_of_ble_eq_true rfl) ?_
  show gW c_SL_isWord _ _ _ _ _
  unfold fn_SL_isWord
  refine g_iload_n (pc := 0) (x := a0) d_SL_isWord_0 rfl rfl ?_
  refine g_iconst (pc := 1) (x := 0) d_SL_isWord_1 (by decide) ?_
  refine g_ldc (pc := 2) (x := 65535) d_SL_isWord_2 lc_SL_165 ?_
  refine g_si (pc := 4) (rest := []) (sn_SL_isWithin a0 0 65535 I) rfl rfl d_SL_isWord_4 ck_SL_154 (Nat.le_of_ble_eq_true rfl) (Nat.le_of_ble_eq_true rfl) (Nat.le_refl _) (Nat.le_refl _) (fun v2 J1 => ?_)
  exact g_zret (pc := 7) d_SL_isWord_7 rfl (Nat.le_refl _) (Nat.le_refl _)
abbrev c_Mod_hasFittingNumbers : gC := (m_Mod_hasFittingNumbers, 2, 0, 0, none, 0, 0)
def fn_Mod_hasFittingNumbers (a0 : Int32) (a1 : Int32) (a2 : Int32) (I : fm_I) : pR := (if a0 = 0 then bi (fn_SL_isName a1 I) (fun v2 J1 => (rz v2 J1)) else (if a0 = 1 then bi (fn_SL_isName a1 I) (fun v4 J3 => (rz v4 J3)) else (if a0 = 2 then bi (fn_SL_isSection a1 I) (fun v6 J5 => (rz v6 J5)) else (if a0 = 3 then bi (fn_SL_isWord a1 I) (fun v8 J7 => (rz v8 J7)) else (if a0 = 4 then bi (fn_SL_isName a1 I) (fun v10 J9 => (if v10 = 0 then (rz 0 J9) else bi (fn_SL_isWithin a2 (-32768) 32767 J9) (fun v12 J11 => (if v12 = 0 then (rz 0 J11) else (rz 1 J11))))) else (if a0 = 5 then bi (fn_SL_isWithin a1 1 16 I) (fun v14 J13 => (rz v14 J13)) else (if a0 = 6 then bi (fn_SL_isName a1 I) (fun v16 J15 => (if v16 = 0 then (rz 0 J15) else bi (fn_SL_isWithin a2 0 3 J15) (fun v18 J17 => (if v18 = 0 then (rz 0 J17) else (rz 1 J17))))) else (if a0 = 7 then bi (fn_SL_isName a1 I) (fun v20 J19 => (if v20 = 0 then (rz 0 J19) else bi (fn_SL_isWithin a2 1 16 J19) (fun v22 J21 => (if v22 = 0 then (rz 0 J21) else (rz 1 J21))))) else (if a0 = 8 then bi (fn_SL_isName a1 I) (fun v24 J23 => (if v24 = 0 then (rz 0 J23) else bi (fn_SL_isWord a2 J23) (fun v26 J25 => (if v26 = 0 then (rz 0 J25) else (rz 1 J25))))) else (rz 0 I))))))))))
set_option maxRecDepth 10000 in
theorem sn_Mod_hasFittingNumbers (a0 : Int32) (a1 : Int32) (a2 : Int32) (I : fm_I) : gM m_Mod_hasFittingNumbers 2 (fn_Mod_hasFittingNumbers a0 a1 a2 I) [vI a0, vI a1, vI a2] I := by
  refine gM_of (by decide) rfl (Nat.le_of_ble_eq_true rfl) ?_
  show gW c_Mod_hasFittingNumbers _ _ _ _ _
  unfold fn_Mod_hasFittingNumbers
  refine g_iload_n (pc := 0) (x := a0) d_Mod_hasFittingNumbers_0 rfl rfl ?_
  refine g_sw (c := 0) (fun e0 => ?_) (fun e0 => ?_)
  · refine g_tin (pc := 1) (tgt := 52) (off := 51) e0 d_Mod_hasFittingNumbers_1 (by decide) (by decide) (by decide) (by decide) ?_
    refine g_iload_n (pc := 52) (x := a1) d_Mod_hasFittingNumbers_52 rfl rfl ?_
    refine g_ni (pc := 53) (rest := []) (sn_SL_isName a1 I) rfl rfl d_Mod_hasFittingNumbers_53 ck_Mod_79 (Nat.le_of_ble_eq_true rfl) (Nat.le_of_ble_eq_true rfl) (Nat.le_refl _) (Nat.le_refl _) (fun v2 J1 => ?_)
    exact g_zret (pc := 56) d_Mod_hasFittingNumbers_56 rfl (Nat.le_refl _) (Nat.le_refl _)
  refine g_sw (c := 1) (fun e1 => ?_) (fun e1 => ?_)
  · refine g_tin (pc := 1) (tgt := 52) (off := 51) e1 d_Mod_hasFittingNumbers_1 (by decide) (by decide) (by decide) (by decide) ?_
    refine g_iload_n (pc := 52) (x := a1) d_Mod_hasFittingNumbers_52 rfl rfl ?_
    refine g_ni (pc := 53) (rest := []) (sn_SL_isName a1 I) rfl rfl d_Mod_hasFittingNumbers_53 ck_Mod_79 (Nat.le_of_ble_eq_true rfl) (Nat.le_of_ble_eq_true rfl) (Nat.le_refl _) (Nat.le_refl _) (fun v4 J3 => ?_)
    exact g_zret (pc := 56) d_Mod_hasFittingNumbers_56 rfl (Nat.le_refl _) (Nat.le_refl _)
  refine g_sw (c := 2) (fun e2 => ?_) (fun e2 => ?_)
  · refine g_tin (pc := 1) (tgt := 57) (off := 56) e2 d_Mod_hasFittingNumbers_1 (by decide) (by decide) (by decide) (by decide) ?_
    refine g_iload_n (pc := 57) (x := a1) d_Mod_hasFittingNumbers_57 rfl rfl ?_
    refine g_ni (pc := 58) (rest := []) (sn_SL_isSection a1 I) rfl rfl d_Mod_hasFittingNumbers_58 ck_Mod_82 (Nat.le_of_ble_eq_true rfl) (Nat.le_of_ble_eq_true rfl) (Nat.le_refl _) (Nat.le_refl _) (fun v6 J5 => ?_)
    exact g_zret (pc := 61) d_Mod_hasFittingNumbers_61 rfl (Nat.le_refl _) (Nat.le_refl _)
  refine g_sw (c := 3) (fun e3 => ?_) (fun e3 => ?_)
  · refine g_tin (pc := 1) (tgt := 62) (off := 61) e3 d_Mod_hasFittingNumbers_1 (by decide) (by decide) (by decide) (by decide) ?_
    refine g_iload_n (pc := 62) (x := a1) d_Mod_hasFittingNumbers_62 rfl rfl ?_
    refine g_ni (pc := 63) (rest := []) (sn_SL_isWord a1 I) rfl rfl d_Mod_hasFittingNumbers_63 ck_Mod_85 (Nat.le_of_ble_eq_true rfl) (Nat.le_of_ble_eq_true rfl) (Nat.le_refl _) (Nat.le_refl _) (fun v8 J7 => ?_)
    exact g_zret (pc := 66) d_Mod_hasFittingNumbers_66 rfl (Nat.le_refl _) (Nat.le_refl _)
  refine g_sw (c := 4) (fun e4 => ?_) (fun e4 => ?_)
  · refine g_tin (pc := 1) (tgt := 67) (off := 66) e4 d_Mod_hasFittingNumbers_1 (by decide) (by decide) (by decide) (by decide) ?_
    refine g_iload_n (pc := 67) (x := a1) d_Mod_hasFittingNumbers_67 rfl rfl ?_
    refine g_ni (pc := 68) (rest := []) (sn_SL_isName a1 I) rfl rfl d_Mod_hasFittingNumbers_68 ck_Mod_79 (Nat.le_of_ble_eq_true rfl) (Nat.le_of_ble_eq_true rfl) (Nat.le_refl _) (Nat.le_refl _) (fun v10 J9 => ?_)
    refine g_ifeq (pc := 71) (tgt := 91) d_Mod_hasFittingNumbers_71 rfl ?_ ?_
    · refine g_iconst (pc := 91) (x := 0) d_Mod_hasFittingNumbers_91 (by decide) ?_
      exact g_zret (pc := 92) d_Mod_hasFittingNumbers_92 rfl (Nat.le_refl _) (Nat.le_refl _)
    refine g_iload_n (pc := 74) (x := a2) d_Mod_hasFittingNumbers_74 rfl rfl ?_
    refine g_sipush (pc := 75) (x := (-32768)) d_Mod_hasFittingNumbers_75 (by decide) ?_
    refine g_sipush (pc := 78) (x := 32767) d_Mod_hasFittingNumbers_78 (by decide) ?_
    refine g_ni (pc := 81) (rest := []) (sn_SL_isWithin a2 (-32768) 32767 J9) rfl rfl d_Mod_hasFittingNumbers_81 ck_Mod_88 (Nat.le_of_ble_eq_true rfl) (Nat.le_of_ble_eq_true rfl) (Nat.le_refl _) (Nat.le_refl _) (fun v12 J11 => ?_)
    refine g_ifeq (pc := 84) (tgt := 91) d_Mod_hasFittingNumbers_84 rfl ?_ ?_
    · refine g_iconst (pc := 91) (x := 0) d_Mod_hasFittingNumbers_91 (by decide) ?_
      exact g_zret (pc := 92) d_Mod_hasFittingNumbers_92 rfl (Nat.le_refl _) (Nat.le_refl _)
    refine g_iconst (pc := 87) (x := 1) d_Mod_hasFittingNumbers_87 (by decide) ?_
    refine g_goto (pc := 88) (tgt := 92) d_Mod_hasFittingNumbers_88 rfl ?_
    exact g_zret (pc := 92) d_Mod_hasFittingNumbers_92 rfl (Nat.le_refl _) (Nat.le_refl _)
  refine g_sw (c := 5) (fun e5 => ?_) (fun e5 => ?_)
  · refine g_tin (pc := 1) (tgt := 93) (off := 92) e5 d_Mod_hasFittingNumbers_1 (by decide) (by decide) (by decide) (by decide) ?_
    refine g_iload_n (pc := 93) (x := a1) d_Mod_hasFittingNumbers_93 rfl rfl ?_
    refine g_iconst (pc := 94) (x := 1) d_Mod_hasFittingNumbers_94 (by decide) ?_
    refine g_bipush (pc := 95) (x := 16) d_Mod_hasFittingNumbers_95 (by decide) ?_
    refine g_ni (pc := 97) (rest := []) (sn_SL_isWithin a1 1 16 I) rfl rfl d_Mod_hasFittingNumbers_97 ck_Mod_88 (Nat.le_of_ble_eq_true rfl) (Nat.le_of_ble_eq_true rfl) (Nat.le_refl _) (Nat.le_refl _) (fun v14 J13 => ?_)
    exact g_zret (pc := 100) d_Mod_hasFittingNumbers_100 rfl (Nat.le_refl _) (Nat.le_refl _)
  refine g_sw (c := 6) (fun e6 => ?_) (fun e6 => ?_)
  · refine g_tin (pc := 1) (tgt := 101) (off := 100) e6 d_Mod_hasFittingNumbers_1 (by decide) (by decide) (by decide) (by decide) ?_
    refine g_iload_n (pc := 101) (x := a1) d_Mod_hasFittingNumbers_101 rfl rfl ?_
    refine g_ni (pc := 102) (rest := []) (sn_SL_isName a1 I) rfl rfl d_Mod_hasFittingNumbers_102 ck_Mod_79 (Nat.le_of_ble_eq_true rfl) (Nat.le_of_ble_eq_true rfl) (Nat.le_refl _) (Nat.le_refl _) (fun v16 J15 => ?_)
    refine g_ifeq (pc := 105) (tgt := 121) d_Mod_hasFittingNumbers_105 rfl ?_ ?_
    · refine g_iconst (pc := 121) (x := 0) d_Mod_hasFittingNumbers_121 (by decide) ?_
      exact g_zret (pc := 122) d_Mod_hasFittingNumbers_122 rfl (Nat.le_refl _) (Nat.le_refl _)
    refine g_iload_n (pc := 108) (x := a2) d_Mod_hasFittingNumbers_108 rfl rfl ?_
    refine g_iconst (pc := 109) (x := 0) d_Mod_hasFittingNumbers_109 (by decide) ?_
    refine g_iconst (pc := 110) (x := 3) d_Mod_hasFittingNumbers_110 (by decide) ?_
    refine g_ni (pc := 111) (rest := []) (sn_SL_isWithin a2 0 3 J15) rfl rfl d_Mod_hasFittingNumbers_111 ck_Mod_88 (Nat.le_of_ble_eq_true rfl) (Nat.le_of_ble_eq_true rfl) (Nat.le_refl _) (Nat.le_refl _) (fun v18 J17 => ?_)
    refine g_ifeq (pc := 114) (tgt := 121) d_Mod_hasFittingNumbers_114 rfl ?_ ?_
    · refine g_iconst (pc := 121) (x := 0) d_Mod_hasFittingNumbers_121 (by decide) ?_
      exact g_zret (pc := 122) d_Mod_hasFittingNumbers_122 rfl (Nat.le_refl _) (Nat.le_refl _)
    refine g_iconst (pc := 117) (x := 1) d_Mod_hasFittingNumbers_117 (by decide) ?_
    refine g_goto (pc := 118) (tgt := 122) d_Mod_hasFittingNumbers_118 rfl ?_
    exact g_zret (pc := 122) d_Mod_hasFittingNumbers_122 rfl (Nat.le_refl _) (Nat.le_refl _)
  refine g_sw (c := 7) (fun e7 => ?_) (fun e7 => ?_)
  · refine g_tin (pc := 1) (tgt := 123) (off := 122) e7 d_Mod_hasFittingNumbers_1 (by decide) (by decide) (by decide) (by decide) ?_
    refine g_iload_n (pc := 123) (x := a1) d_Mod_hasFittingNumbers_123 rfl rfl ?_
    refine g_ni (pc := 124) (rest := []) (sn_SL_isName a1 I) rfl rfl d_Mod_hasFittingNumbers_124 ck_Mod_79 (Nat.le_of_ble_eq_true rfl) (Nat.le_of_ble_eq_true rfl) (Nat.le_refl _) (Nat.le_refl _) (fun v20 J19 => ?_)
    refine g_ifeq (pc := 127) (tgt := 144) d_Mod_hasFittingNumbers_127 rfl ?_ ?_
    · refine g_iconst (pc := 144) (x := 0) d_Mod_hasFittingNumbers_144 (by decide) ?_
      exact g_zret (pc := 145) d_Mod_hasFittingNumbers_145 rfl (Nat.le_refl _) (Nat.le_refl _)
    refine g_iload_n (pc := 130) (x := a2) d_Mod_hasFittingNumbers_130 rfl rfl ?_
    refine g_iconst (pc := 131) (x := 1) d_Mod_hasFittingNumbers_131 (by decide) ?_
    refine g_bipush (pc := 132) (x := 16) d_Mod_hasFittingNumbers_132 (by decide) ?_
    refine g_ni (pc := 134) (rest := []) (sn_SL_isWithin a2 1 16 J19) rfl rfl d_Mod_hasFittingNumbers_134 ck_Mod_88 (Nat.le_of_ble_eq_true rfl) (Nat.le_of_ble_eq_true rfl) (Nat.le_refl _) (Nat.le_refl _) (fun v22 J21 => ?_)
    refine g_ifeq (pc := 137) (tgt := 144) d_Mod_hasFittingNumbers_137 rfl ?_ ?_
    · refine g_iconst (pc := 144) (x := 0) d_Mod_hasFittingNumbers_144 (by decide) ?_
      exact g_zret (pc := 145) d_Mod_hasFittingNumbers_145 rfl (Nat.le_refl _) (Nat.le_refl _)
    refine g_iconst (pc := 140) (x := 1) d_Mod_hasFittingNumbers_140 (by decide) ?_
    refine g_goto (pc := 141) (tgt := 145) d_Mod_hasFittingNumbers_141 rfl ?_
    exact g_zret (pc := 145) d_Mod_hasFittingNumbers_145 rfl (Nat.le_refl _) (Nat.le_refl _)
  refine g_sw (c := 8) (fun e8 => ?_) (fun e8 => ?_)
  · refine g_tin (pc := 1) (tgt := 146) (off := 145) e8 d_Mod_hasFittingNumbers_1 (by decide) (by decide) (by decide) (by decide) ?_
    refine g_iload_n (pc := 146) (x := a1) d_Mod_hasFittingNumbers_146 rfl rfl ?_
    refine g_ni (pc := 147) (rest := []) (sn_SL_isName a1 I) rfl rfl d_Mod_hasFittingNumbers_147 ck_Mod_79 (Nat.le_of_ble_eq_true rfl) (Nat.le_of_ble_eq_true rfl) (Nat.le_refl _) (Nat.le_refl _) (fun v24 J23 => ?_)
    refine g_ifeq (pc := 150) (tgt := 164) d_Mod_hasFittingNumbers_150 rfl ?_ ?_
    · refine g_iconst (pc := 164) (x := 0) d_Mod_hasFittingNumbers_164 (by decide) ?_
      exact g_zret (pc := 165) d_Mod_hasFittingNumbers_165 rfl (Nat.le_refl _) (Nat.le_refl _)
    refine g_iload_n (pc := 153) (x := a2) d_Mod_hasFittingNumbers_153 rfl rfl ?_
    refine g_ni (pc := 154) (rest := []) (sn_SL_isWord a2 J23) rfl rfl d_Mod_hasFittingNumbers_154 ck_Mod_85 (Nat.le_of_ble_eq_true rfl) (Nat.le_of_ble_eq_true rfl) (Nat.le_refl _) (Nat.le_refl _) (fun v26 J25 => ?_)
    refine g_ifeq (pc := 157) (tgt := 164) d_Mod_hasFittingNumbers_157 rfl ?_ ?_
    · refine g_iconst (pc := 164) (x := 0) d_Mod_hasFittingNumbers_164 (by decide) ?_
      exact g_zret (pc := 165) d_Mod_hasFittingNumbers_165 rfl (Nat.le_refl _) (Nat.le_refl _)
    refine g_iconst (pc := 160) (x := 1) d_Mod_hasFittingNumbers_160 (by decide) ?_
    refine g_goto (pc := 161) (tgt := 165) d_Mod_hasFittingNumbers_161 rfl ?_
    exact g_zret (pc := 165) d_Mod_hasFittingNumbers_165 rfl (Nat.le_refl _) (Nat.le_refl _)
  refine g_tout (pc := 1) (tgt := 166) d_Mod_hasFittingNumbers_1 (by have q0 := am_ni e0 (z := 0) (by decide); have q1 := am_ni e1 (z := 1) (by decide); have q2 := am_ni e2 (z := 2) (by decide); have q3 := am_ni e3 (z := 3) (by decide); have q4 := am_ni e4 (z := 4) (by decide); have q5 := am_ni e5 (z := 5) (by decide); have q6 := am_ni e6 (z := 6) (by decide); have q7 := am_ni e7 (z := 7) (by decide); have q8 := am_ni e8 (z := 8) (by decide); omega) (by decide) ?_
  refine g_iconst (pc := 166) (x := 0) d_Mod_hasFittingNumbers_166 (by decide) ?_
  exact g_zret (pc := 167) d_Mod_hasFittingNumbers_167 rfl (Nat.le_refl _) (Nat.le_refl _)
abbrev c_Mod_currentSection : gC := (m_Mod_currentSection, 0, 0, 0, none, 0, 0)
def fn_Mod_currentSection (a0 : Nat) (I : fm_I) : pR := gi 1 a0 8 I (fun v1 => (if v1 = 0 then (ri 0 I) else gr 1 a0 3 (fun v2 => gi 1 a0 8 I (fun v3 => ld 0 v2 (v3 - 1) I (fun v4 => (ri v4 I))))))
set_option maxRecDepth 10000 in
theorem sn_Mod_currentSection (a0 : Nat) (I : fm_I) : gM m_Mod_currentSection 0 (fn_Mod_currentSection a0 I) [vR a0] I := by
  refine gM_of (by decide) rfl (Nat.le_of_ble_eq_true rfl) ?_
  show gW c_Mod_currentSection _ _ _ _ _
  unfold fn_Mod_currentSection
  refine g_aload_n (pc := 0) (x := a0) d_Mod_currentSection_0 rfl rfl ?_
  refine g_gi (pc := 1) d_Mod_currentSection_1 fk_Mod_37 (fun v1 => ?_)
  refine g_ifne (pc := 4) (tgt := 11) d_Mod_currentSection_4 rfl ?_ ?_
  · refine g_aload_n (pc := 11) (x := a0) d_Mod_currentSection_11 rfl rfl ?_
    refine g_gr (pc := 12) d_Mod_currentSection_12 fk_Mod_21 (fun v2 => ?_)
    refine g_aload_n (pc := 15) (x := a0) d_Mod_currentSection_15 rfl rfl ?_
    refine g_gi (pc := 16) d_Mod_currentSection_16 fk_Mod_37 (fun v3 => ?_)
    refine g_iconst (pc := 19) (x := 1) d_Mod_currentSection_19 (by decide) ?_
    refine g_isub (pc := 20) d_Mod_currentSection_20 ?_
    refine g_ldI (pc := 21) d_Mod_currentSection_21 (fun v4 => ?_)
    exact g_iret (pc := 22) d_Mod_currentSection_22 rfl (Nat.le_refl _) (Nat.le_refl _)
  refine g_iconst (pc := 7) (x := 0) d_Mod_currentSection_7 (by decide) ?_
  refine g_goto (pc := 8) (tgt := 22) d_Mod_currentSection_8 rfl ?_
  exact g_iret (pc := 22) d_Mod_currentSection_22 rfl (Nat.le_refl _) (Nat.le_refl _)
abbrev c_Mod_mayStandInSection : gC := (m_Mod_mayStandInSection, 1, 0, 0, none, 0, 0)
def fn_Mod_mayStandInSection (a0 : Nat) (a1 : Int32) (I : fm_I) : pR := (if a1 = 6 then vi 1 a0 (fn_Mod_currentSection a0 I) (fun v6 J5 => (if v6 = 0 then (rz 1 J5) else (rz 0 J5))) else (if a1 = 3 then vi 1 a0 (fn_Mod_currentSection a0 I) (fun v2 J1 => (if v2 = 2 then (rz 0 J1) else (rz 1 J1))) else (if a1 = 4 then vi 1 a0 (fn_Mod_currentSection a0 I) (fun v4 J3 => (if v4 = 2 then (rz 0 J3) else (rz 1 J3))) else (rz 1 I))))
set_option maxRecDepth 10000 in
theorem sn_Mod_mayStandInSection (a0 : Nat) (a1 : Int32) (I : fm_I) : gM m_Mod_mayStandInSection 1 (fn_Mod_mayStandInSection a0 a1 I) [vR a0, vI a1] I := by
  refine gM_of (by decide) rfl (Nat.le_of_ble_eq_true rfl) ?_
  show gW c_Mod_mayStandInSection _ _ _ _ _
  unfold fn_Mod_mayStandInSection
  refine g_iload_n (pc := 0) (x := a1) d_Mod_mayStandInSection_0 rfl rfl ?_
  refine g_bipush (pc := 1) (x := 6) d_Mod_mayStandInSection_1 (by decide) ?_
  refine g_icmpne (pc := 3) (tgt := 19) d_Mod_mayStandInSection_3 rfl ?_ ?_
  · refine g_iload_n (pc := 19) (x := a1) d_Mod_mayStandInSection_19 rfl rfl ?_
    refine g_iconst (pc := 20) (x := 3) d_Mod_mayStandInSection_20 (by decide) ?_
    refine g_icmpeq (pc := 21) (tgt := 29) d_Mod_mayStandInSection_21 rfl ?_ ?_
    · refine g_aload_n (pc := 29) (x := a0) d_Mod_mayStandInSection_29 rfl rfl ?_
      refine g_vi (pc := 30) (rest := []) (sn_Mod_currentSection a0 I) rfl rfl d_Mod_mayStandInSection_30 ck_Mod_53 (Nat.le_of_ble_eq_true rfl) (Nat.le_of_ble_eq_true rfl) (Nat.le_refl _) (Nat.le_refl _) (fun v2 J1 => ?_)
      refine g_iconst (pc := 33) (x := 2) d_Mod_mayStandInSection_33 (by decide) ?_
      refine g_icmpeq (pc := 34) (tgt := 41) d_Mod_mayStandInSection_34 rfl ?_ ?_
      · refine g_iconst (pc := 41) (x := 0) d_Mod_mayStandInSection_41 (by decide) ?_
        exact g_zret (pc := 42) d_Mod_mayStandInSection_42 rfl (Nat.le_refl _) (Nat.le_refl _)
      refine g_iconst (pc := 37) (x := 1) d_Mod_mayStandInSection_37 (by decide) ?_
      refine g_goto (pc := 38) (tgt := 42) d_Mod_mayStandInSection_38 rfl ?_
      exact g_zret (pc := 42) d_Mod_mayStandInSection_42 rfl (Nat.le_refl _) (Nat.le_refl _)
    refine g_iload_n (pc := 24) (x := a1) d_Mod_mayStandInSection_24 rfl rfl ?_
    refine g_iconst (pc := 25) (x := 4) d_Mod_mayStandInSection_25 (by decide) ?_
    refine g_icmpne (pc := 26) (tgt := 43) d_Mod_mayStandInSection_26 rfl ?_ ?_
    · refine g_iconst (pc := 43) (x := 1) d_Mod_mayStandInSection_43 (by decide) ?_
      exact g_zret (pc := 44) d_Mod_mayStandInSection_44 rfl (Nat.le_refl _) (Nat.le_refl _)
    refine g_aload_n (pc := 29) (x := a0) d_Mod_mayStandInSection_29 rfl rfl ?_
    refine g_vi (pc := 30) (rest := []) (sn_Mod_currentSection a0 I) rfl rfl d_Mod_mayStandInSection_30 ck_Mod_53 (Nat.le_of_ble_eq_true rfl) (Nat.le_of_ble_eq_true rfl) (Nat.le_refl _) (Nat.le_refl _) (fun v4 J3 => ?_)
    refine g_iconst (pc := 33) (x := 2) d_Mod_mayStandInSection_33 (by decide) ?_
    refine g_icmpeq (pc := 34) (tgt := 41) d_Mod_mayStandInSection_34 rfl ?_ ?_
    · refine g_iconst (pc := 41) (x := 0) d_Mod_mayStandInSection_41 (by decide) ?_
      exact g_zret (pc := 42) d_Mod_mayStandInSection_42 rfl (Nat.le_refl _) (Nat.le_refl _)
    refine g_iconst (pc := 37) (x := 1) d_Mod_mayStandInSection_37 (by decide) ?_
    refine g_goto (pc := 38) (tgt := 42) d_Mod_mayStandInSection_38 rfl ?_
    exact g_zret (pc := 42) d_Mod_mayStandInSection_42 rfl (Nat.le_refl _) (Nat.le_refl _)
  refine g_aload_n (pc := 6) (x := a0) d_Mod_mayStandInSection_6 rfl rfl ?_
  refine g_vi (pc := 7) (rest := []) (sn_Mod_currentSection a0 I) rfl rfl d_Mod_mayStandInSection_7 ck_Mod_53 (Nat.le_of_ble_eq_true rfl) (Nat.le_of_ble_eq_true rfl) (Nat.le_refl _) (Nat.le_refl _) (fun v6 J5 => ?_)
  refine g_ifne (pc := 10) (tgt := 17) d_Mod_mayStandInSection_10 rfl ?_ ?_
  · refine g_iconst (pc := 17) (x := 0) d_Mod_mayStandInSection_17 (by decide) ?_
    exact g_zret (pc := 18) d_Mod_mayStandInSection_18 rfl (Nat.le_refl _) (Nat.le_refl _)
  refine g_iconst (pc := 13) (x := 1) d_Mod_mayStandInSection_13 (by decide) ?_
  refine g_goto (pc := 14) (tgt := 18) d_Mod_mayStandInSection_14 rfl ?_
  exact g_zret (pc := 18) d_Mod_mayStandInSection_18 rfl (Nat.le_refl _) (Nat.le_refl _)
abbrev c_Mod_holdsName : gC := (m_Mod_holdsName, 0, 0, 0, none, 0, 0)
def fn_Mod_holdsName (a0 : Int32) (I : fm_I) : pR := (if a0 = 0 then (rz 1 I) else (if a0 = 8 then (rz 1 I) else (if a0 = 7 then (rz 1 I) else (rz 0 I))))
set_option maxRecDepth 10000 in
theorem sn_Mod_holdsName (a0 : Int32) (I : fm_I) : gM m_Mod_holdsName 0 (fn_Mod_holdsName a0 I) [vI a0] I := by
  refine gM_of (by decide) rfl (Nat.le_of_ble_eq_true rfl) ?_
  show gW c_Mod_holdsName _ _ _ _ _
  unfold fn_Mod_holdsName
  refine g_iload_n (pc := 0) (x := a0) d_Mod_holdsName_0 rfl rfl ?_
  refine g_ifeq (pc := 1) (tgt := 16) d_Mod_holdsName_1 rfl ?_ ?_
  · refine g_iconst (pc := 16) (x := 1) d_Mod_holdsName_16 (by decide) ?_
    refine g_goto (pc := 17) (tgt := 21) d_Mod_holdsName_17 rfl ?_
    exact g_zret (pc := 21) d_Mod_holdsName_21 rfl (Nat.le_refl _) (Nat.le_refl _)
  refine g_iload_n (pc := 4) (x := a0) d_Mod_holdsName_4 rfl rfl ?_
  refine g_bipush (pc := 5) (x := 8) d_Mod_holdsName_5 (by decide) ?_
  refine g_icmpeq (pc := 7) (tgt := 16) d_Mod_holdsName_7 rfl ?_ ?_
  · refine g_iconst (pc := 16) (x := 1) d_Mod_holdsName_16 (by decide) ?_
    refine g_goto (pc := 17) (tgt := 21) d_Mod_holdsName_17 rfl ?_
    exact g_zret (pc := 21) d_Mod_holdsName_21 rfl (Nat.le_refl _) (Nat.le_refl _)
  refine g_iload_n (pc := 10) (x := a0) d_Mod_holdsName_10 rfl rfl ?_
  refine g_bipush (pc := 11) (x := 7) d_Mod_holdsName_11 (by decide) ?_
  refine g_icmpne (pc := 13) (tgt := 20) d_Mod_holdsName_13 rfl ?_ ?_
  · refine g_iconst (pc := 20) (x := 0) d_Mod_holdsName_20 (by decide) ?_
    exact g_zret (pc := 21) d_Mod_holdsName_21 rfl (Nat.le_refl _) (Nat.le_refl _)
  refine g_iconst (pc := 16) (x := 1) d_Mod_holdsName_16 (by decide) ?_
  refine g_goto (pc := 17) (tgt := 21) d_Mod_holdsName_17 rfl ?_
  exact g_zret (pc := 21) d_Mod_holdsName_21 rfl (Nat.le_refl _) (Nat.le_refl _)
abbrev c_SL_hasName : gC := (m_SL_hasName, 0, 0, 0, none, 0, 0)
def fn_SL_hasName (a0 : Int32) (a1 : Int32) (I : fm_I) : pR := (if (((a0 : Int32) >>> ((a1 : Int32) &&& 31)) &&& 1) = 0 then (rz 0 I) else (rz 1 I))
set_option maxRecDepth 10000 in
theorem sn_SL_hasName (a0 : Int32) (a1 : Int32) (I : fm_I) : gM m_SL_hasName 0 (fn_SL_hasName a0 a1 I) [vI a0, vI a1] I := by
  refine gM_of (by decide) rfl (Nat.le_of_ble_eq_true rfl) ?_
  show gW c_SL_hasName _ _ _ _ _
  unfold fn_SL_hasName
  refine g_iload_n (pc := 0) (x := a0) d_SL_hasName_0 rfl rfl ?_
  refine g_iload_n (pc := 1) (x := a1) d_SL_hasName_1 rfl rfl ?_
  refine g_ishr (pc := 2) d_SL_hasName_2 ?_
  refine g_iconst (pc := 3) (x := 1) d_SL_hasName_3 (by decide) ?_
  refine g_iand (pc := 4) d_SL_hasName_4 ?_
  refine g_ifeq (pc := 5) (tgt := 12) d_SL_hasName_5 rfl ?_ ?_
  · refine g_iconst (pc := 12) (x := 0) d_SL_hasName_12 (by decide) ?_
    exact g_zret (pc := 13) d_SL_hasName_13 rfl (Nat.le_refl _) (Nat.le_refl _)
  refine g_iconst (pc := 8) (x := 1) d_SL_hasName_8 (by decide) ?_
  refine g_goto (pc := 9) (tgt := 13) d_SL_hasName_9 rfl ?_
  exact g_zret (pc := 13) d_SL_hasName_13 rfl (Nat.le_refl _) (Nat.le_refl _)
abbrev c_Mod_isSaidTwice : gC := (m_Mod_isSaidTwice, 1, 0, 0, none, 0, 0)
def fn_Mod_isSaidTwice (a0 : Nat) (a1 : Int32) (a2 : Int32) (I : fm_I) : pR := bi (fn_Mod_holdsName a1 I) (fun v2 J1 => (if v2 = 0 then (rz 0 J1) else gi 1 a0 9 J1 (fun v3 => gi 1 a0 10 J1 (fun v4 => bi (fn_SL_hasName (v3 ||| v4) a2 J1) (fun v6 J5 => (if v6 = 0 then (rz 0 J5) else (rz 1 J5)))))))
set_option maxRecDepth 10000 in
theorem sn_Mod_isSaidTwice (a0 : Nat) (a1 : Int32) (a2 : Int32) (I : fm_I) : gM m_Mod_isSaidTwice 1 (fn_Mod_isSaidTwice a0 a1 a2 I) [vR a0, vI a1, vI a2] I := by
  refine gM_of (by decide) rfl (Nat.le_of_ble_eq_true rfl) ?_
  show gW c_Mod_isSaidTwice _ _ _ _ _
  unfold fn_Mod_isSaidTwice
  refine g_iload_n (pc := 0) (x := a1) d_Mod_isSaidTwice_0 rfl rfl ?_
  refine g_si (pc := 1) (rest := []) (sn_Mod_holdsName a1 I) rfl rfl d_Mod_isSaidTwice_1 ck_Mod_91 (Nat.le_of_ble_eq_true rfl) (Nat.le_of_ble_eq_true rfl) (Nat.le_refl _) (Nat.le_refl _) (fun v2 J1 => ?_)
  refine g_ifeq (pc := 4) (tgt := 27) d_Mod_isSaidTwice_4 rfl ?_ ?_
  · refine g_iconst (pc := 27) (x := 0) d_Mod_isSaidTwice_27 (by decide) ?_
    exact g_zret (pc := 28) d_Mod_isSaidTwice_28 rfl (Nat.le_refl _) (Nat.le_refl _)
  refine g_aload_n (pc := 7) (x := a0) d_Mod_isSaidTwice_7 rfl rfl ?_
  refine g_gi (pc := 8) d_Mod_isSaidTwice_8 fk_Mod_64 (fun v3 => ?_)
  refine g_aload_n (pc := 11) (x := a0) d_Mod_isSaidTwice_11 rfl rfl ?_
  refine g_gi (pc := 12) d_Mod_isSaidTwice_12 fk_Mod_67 (fun v4 => ?_)
  refine g_ior (pc := 15) d_Mod_isSaidTwice_15 ?_
  refine g_iload_n (pc := 16) (x := a2) d_Mod_isSaidTwice_16 rfl rfl ?_
  refine g_ni (pc := 17) (rest := []) (sn_SL_hasName (v3 ||| v4) a2 J1) rfl rfl d_Mod_isSaidTwice_17 ck_Mod_76 (Nat.le_of_ble_eq_true rfl) (Nat.le_of_ble_eq_true rfl) (Nat.le_refl _) (Nat.le_refl _) (fun v6 J5 => ?_)
  refine g_ifeq (pc := 20) (tgt := 27) d_Mod_isSaidTwice_20 rfl ?_ ?_
  · refine g_iconst (pc := 27) (x := 0) d_Mod_isSaidTwice_27 (by decide) ?_
    exact g_zret (pc := 28) d_Mod_isSaidTwice_28 rfl (Nat.le_refl _) (Nat.le_refl _)
  refine g_iconst (pc := 23) (x := 1) d_Mod_isSaidTwice_23 (by decide) ?_
  refine g_goto (pc := 24) (tgt := 28) d_Mod_isSaidTwice_24 rfl ?_
  exact g_zret (pc := 28) d_Mod_isSaidTwice_28 rfl (Nat.le_refl _) (Nat.le_refl _)
abbrev c_Mod_accepts : gC := (m_Mod_accepts, 3, 0, 0, none, 0, 0)
def fn_Mod_accepts (a0 : Nat) (a1 : Int32) (a2 : Int32) (a3 : Int32) (I : fm_I) : pR := gi 1 a0 8 I (fun v1 => (if 20 ≤ v1 then (rz 0 I) else bi (fn_Mod_hasFittingNumbers a1 a2 a3 I) (fun v3 J2 => (if v3 = 0 then (rz 0 J2) else vi 1 a0 (fn_Mod_mayStandInSection a0 a1 J2) (fun v5 J4 => (if v5 = 0 then (rz 0 J4) else vi 1 a0 (fn_Mod_isSaidTwice a0 a1 a2 J4) (fun v7 J6 => (if v7 = 0 then (rz 1 J6) else (rz 0 J6)))))))))
set_option maxRecDepth 10000 in
theorem sn_Mod_accepts (a0 : Nat) (a1 : Int32) (a2 : Int32) (a3 : Int32) (I : fm_I) : gM m_Mod_accepts 3 (fn_Mod_accepts a0 a1 a2 a3 I) [vR a0, vI a1, vI a2, vI a3] I := by
  refine gM_of (by decide) rfl (Nat.le_of_ble_eq_true rfl) ?_
  show gW c_Mod_accepts _ _ _ _ _
  unfold fn_Mod_accepts
  refine g_aload_n (pc := 0) (x := a0) d_Mod_accepts_0 rfl rfl ?_
  refine g_gi (pc := 1) d_Mod_accepts_1 fk_Mod_37 (fun v1 => ?_)
  refine g_bipush (pc := 4) (x := 20) d_Mod_accepts_4 (by decide) ?_
  refine g_icmpge (pc := 6) (tgt := 39) d_Mod_accepts_6 rfl ?_ ?_
  · refine g_iconst (pc := 39) (x := 0) d_Mod_accepts_39 (by decide) ?_
    exact g_zret (pc := 40) d_Mod_accepts_40 rfl (Nat.le_refl _) (Nat.le_refl _)
  refine g_iload_n (pc := 9) (x := a1) d_Mod_accepts_9 rfl rfl ?_
  refine g_iload_n (pc := 10) (x := a2) d_Mod_accepts_10 rfl rfl ?_
  refine g_iload_n (pc := 11) (x := a3) d_Mod_accepts_11 rfl rfl ?_
  refine g_si (pc := 12) (rest := []) (sn_Mod_hasFittingNumbers a1 a2 a3 I) rfl rfl d_Mod_accepts_12 ck_Mod_41 (Nat.le_of_ble_eq_true rfl) (Nat.le_of_ble_eq_true rfl) (Nat.le_refl _) (Nat.le_refl _) (fun v3 J2 => ?_)
  refine g_ifeq (pc := 15) (tgt := 39) d_Mod_accepts_15 rfl ?_ ?_
  · refine g_iconst (pc := 39) (x := 0) d_Mod_accepts_39 (by decide) ?_
    exact g_zret (pc := 40) d_Mod_accepts_40 rfl (Nat.le_refl _) (Nat.le_refl _)
  refine g_aload_n (pc := 18) (x := a0) d_Mod_accepts_18 rfl rfl ?_
  refine g_iload_n (pc := 19) (x := a1) d_Mod_accepts_19 rfl rfl ?_
  refine g_vi (pc := 20) (rest := []) (sn_Mod_mayStandInSection a0 a1 J2) rfl rfl d_Mod_accepts_20 ck_Mod_45 (Nat.le_of_ble_eq_true rfl) (Nat.le_of_ble_eq_true rfl) (Nat.le_refl _) (Nat.le_refl _) (fun v5 J4 => ?_)
  refine g_ifeq (pc := 23) (tgt := 39) d_Mod_accepts_23 rfl ?_ ?_
  · refine g_iconst (pc := 39) (x := 0) d_Mod_accepts_39 (by decide) ?_
    exact g_zret (pc := 40) d_Mod_accepts_40 rfl (Nat.le_refl _) (Nat.le_refl _)
  refine g_aload_n (pc := 26) (x := a0) d_Mod_accepts_26 rfl rfl ?_
  refine g_iload_n (pc := 27) (x := a1) d_Mod_accepts_27 rfl rfl ?_
  refine g_iload_n (pc := 28) (x := a2) d_Mod_accepts_28 rfl rfl ?_
  refine g_vi (pc := 29) (rest := []) (sn_Mod_isSaidTwice a0 a1 a2 J4) rfl rfl d_Mod_accepts_29 ck_Mod_49 (Nat.le_of_ble_eq_true rfl) (Nat.le_of_ble_eq_true rfl) (Nat.le_refl _) (Nat.le_refl _) (fun v7 J6 => ?_)
  refine g_ifne (pc := 32) (tgt := 39) d_Mod_accepts_32 rfl ?_ ?_
  · refine g_iconst (pc := 39) (x := 0) d_Mod_accepts_39 (by decide) ?_
    exact g_zret (pc := 40) d_Mod_accepts_40 rfl (Nat.le_refl _) (Nat.le_refl _)
  refine g_iconst (pc := 35) (x := 1) d_Mod_accepts_35 (by decide) ?_
  refine g_goto (pc := 36) (tgt := 40) d_Mod_accepts_36 rfl ?_
  exact g_zret (pc := 40) d_Mod_accepts_40 rfl (Nat.le_refl _) (Nat.le_refl _)
abbrev c_SL_setOf : gC := (m_SL_setOf, 0, 0, 0, none, 0, 0)
def fn_SL_setOf (a0 : Int32) (I : fm_I) : pR := (ri ((1 : Int32) <<< ((a0 : Int32) &&& 31)) I)
set_option maxRecDepth 10000 in
theorem sn_SL_setOf (a0 : Int32) (I : fm_I) : gM m_SL_setOf 0 (fn_SL_setOf a0 I) [vI a0] I := by
  refine gM_of (by decide) rfl (Nat.le_of_ble_eq_true rfl) ?_
  show gW c_SL_setOf _ _ _ _ _
  unfold fn_SL_setOf
  refine g_iconst (pc := 0) (x := 1) d_SL_setOf_0 (by decide) ?_
  refine g_iload_n (pc := 1) (x := a0) d_SL_setOf_1 rfl rfl ?_
  refine g_ishl (pc := 2) d_SL_setOf_2 ?_
  exact g_iret (pc := 3) d_SL_setOf_3 rfl (Nat.le_refl _) (Nat.le_refl _)
abbrev c_Mod_noteName : gC := (m_Mod_noteName, 1, 0, 0, none, 0, 0)
def fn_Mod_noteName_17 (a0 : Nat) (a1 : Int32) (a2 : Int32) (I : fm_I) : pR := (if a1 = 0 then gi 1 a0 9 I (fun v1 => bi (fn_SL_setOf a2 I) (fun v3 J2 => pI 1 a0 9 (v1 ||| v3) J2 (fun J4 => (rv J4)))) else (if a1 = 8 then gi 1 a0 9 I (fun v21 => bi (fn_SL_setOf a2 I) (fun v23 J22 => pI 1 a0 9 (v21 ||| v23) J22 (fun J24 => (rv J24)))) else (if a1 = 7 then gi 1 a0 10 I (fun v17 => bi (fn_SL_setOf a2 I) (fun v19 J18 => pI 1 a0 10 (v17 ||| v19) J18 (fun J20 => (rv J20)))) else (if a1 = 1 then gi 1 a0 11 I (fun v13 => bi (fn_SL_setOf a2 I) (fun v15 J14 => pI 1 a0 11 (v13 ||| v15) J14 (fun J16 => (rv J16)))) else (if a1 = 4 then gi 1 a0 12 I (fun v5 => bi (fn_SL_setOf a2 I) (fun v7 J6 => pI 1 a0 12 (v5 ||| v7) J6 (fun J8 => (rv J8)))) else (if a1 = 6 then gi 1 a0 12 I (fun v9 => bi (fn_SL_setOf a2 I) (fun v11 J10 => pI 1 a0 12 (v9 ||| v11) J10 (fun J12 => (rv J12)))) else (rv I)))))))
set_option maxRecDepth 10000 in
theorem sn_Mod_noteName_17 : ∀ (a0 : Nat) (a1 : Int32) (a2 : Int32) (I : fm_I) (L : Nat → Option am_V), L 0 = some (vR a0) → L 1 = some (vI a1) → L 2 = some (vI a2) → gW c_Mod_noteName (fn_Mod_noteName_17 a0 a1 a2 I) 17 L [] I := by
  intro a0 a1 a2 I L h0 h1 h2
  unfold fn_Mod_noteName_17
  refine g_iload_n (pc := 17) (x := a1) d_Mod_noteName_17 rfl h1 ?_
  refine g_ifeq (pc := 18) (tgt := 27) d_Mod_noteName_18 rfl ?_ ?_
  · refine g_aload_n (pc := 27) (x := a0) d_Mod_noteName_27 rfl h0 ?_
    refine g_dup (pc := 28) d_Mod_noteName_28 ?_
    refine g_gi (pc := 29) d_Mod_noteName_29 fk_Mod_64 (fun v1 => ?_)
    refine g_iload_n (pc := 32) (x := a2) d_Mod_noteName_32 rfl h2 ?_
    refine g_ni (pc := 33) (rest := [vI v1, vR a0]) (sn_SL_setOf a2 I) rfl rfl d_Mod_noteName_33 ck_Mod_94 (Nat.le_of_ble_eq_true rfl) (Nat.le_of_ble_eq_true rfl) (Nat.le_refl _) (Nat.le_refl _) (fun v3 J2 => ?_)
    refine g_ior (pc := 36) d_Mod_noteName_36 ?_
    refine g_pI (pc := 37) d_Mod_noteName_37 fp_Mod_64 (fun J4 => ?_)
    refine g_goto (pc := 40) (tgt := 110) d_Mod_noteName_40 rfl ?_
    exact g_ret (pc := 110) d_Mod_noteName_110 rfl (Nat.le_refl _) (Nat.le_refl _)
  refine g_iload_n (pc := 21) (x := a1) d_Mod_noteName_21 rfl h1 ?_
  refine g_bipush (pc := 22) (x := 8) d_Mod_noteName_22 (by decide) ?_
  refine g_icmpne (pc := 24) (tgt := 43) d_Mod_noteName_24 rfl ?_ ?_
  · refine g_iload_n (pc := 43) (x := a1) d_Mod_noteName_43 rfl h1 ?_
    refine g_bipush (pc := 44) (x := 7) d_Mod_noteName_44 (by decide) ?_
    refine g_icmpne (pc := 46) (tgt := 65) d_Mod_noteName_46 rfl ?_ ?_
    · refine g_iload_n (pc := 65) (x := a1) d_Mod_noteName_65 rfl h1 ?_
      refine g_iconst (pc := 66) (x := 1) d_Mod_noteName_66 (by decide) ?_
      refine g_icmpne (pc := 67) (tgt := 86) d_Mod_noteName_67 rfl ?_ ?_
      · refine g_iload_n (pc := 86) (x := a1) d_Mod_noteName_86 rfl h1 ?_
        refine g_iconst (pc := 87) (x := 4) d_Mod_noteName_87 (by decide) ?_
        refine g_icmpeq (pc := 88) (tgt := 97) d_Mod_noteName_88 rfl ?_ ?_
        · refine g_aload_n (pc := 97) (x := a0) d_Mod_noteName_97 rfl h0 ?_
          refine g_dup (pc := 98) d_Mod_noteName_98 ?_
          refine g_gi (pc := 99) d_Mod_noteName_99 fk_Mod_73 (fun v5 => ?_)
          refine g_iload_n (pc := 102) (x := a2) d_Mod_noteName_102 rfl h2 ?_
          refine g_ni (pc := 103) (rest := [vI v5, vR a0]) (sn_SL_setOf a2 I) rfl rfl d_Mod_noteName_103 ck_Mod_94 (Nat.le_of_ble_eq_true rfl) (Nat.le_of_ble_eq_true rfl) (Nat.le_refl _) (Nat.le_refl _) (fun v7 J6 => ?_)
          refine g_ior (pc := 106) d_Mod_noteName_106 ?_
          refine g_pI (pc := 107) d_Mod_noteName_107 fp_Mod_73 (fun J8 => ?_)
          exact g_ret (pc := 110) d_Mod_noteName_110 rfl (Nat.le_refl _) (Nat.le_refl _)
        refine g_iload_n (pc := 91) (x := a1) d_Mod_noteName_91 rfl h1 ?_
        refine g_bipush (pc := 92) (x := 6) d_Mod_noteName_92 (by decide) ?_
        refine g_icmpne (pc := 94) (tgt := 110) d_Mod_noteName_94 rfl ?_ ?_
        · exact g_ret (pc := 110) d_Mod_noteName_110 rfl (Nat.le_refl _) (Nat.le_refl _)
        refine g_aload_n (pc := 97) (x := a0) d_Mod_noteName_97 rfl h0 ?_
        refine g_dup (pc := 98) d_Mod_noteName_98 ?_
        refine g_gi (pc := 99) d_Mod_noteName_99 fk_Mod_73 (fun v9 => ?_)
        refine g_iload_n (pc := 102) (x := a2) d_Mod_noteName_102 rfl h2 ?_
        refine g_ni (pc := 103) (rest := [vI v9, vR a0]) (sn_SL_setOf a2 I) rfl rfl d_Mod_noteName_103 ck_Mod_94 (Nat.le_of_ble_eq_true rfl) (Nat.le_of_ble_eq_true rfl) (Nat.le_refl _) (Nat.le_refl _) (fun v11 J10 => ?_)
        refine g_ior (pc := 106) d_Mod_noteName_106 ?_
        refine g_pI (pc := 107) d_Mod_noteName_107 fp_Mod_73 (fun J12 => ?_)
        exact g_ret (pc := 110) d_Mod_noteName_110 rfl (Nat.le_refl _) (Nat.le_refl _)
      refine g_aload_n (pc := 70) (x := a0) d_Mod_noteName_70 rfl h0 ?_
      refine g_dup (pc := 71) d_Mod_noteName_71 ?_
      refine g_gi (pc := 72) d_Mod_noteName_72 fk_Mod_70 (fun v13 => ?_)
      refine g_iload_n (pc := 75) (x := a2) d_Mod_noteName_75 rfl h2 ?_
      refine g_ni (pc := 76) (rest := [vI v13, vR a0]) (sn_SL_setOf a2 I) rfl rfl d_Mod_noteName_76 ck_Mod_94 (Nat.le_of_ble_eq_true rfl) (Nat.le_of_ble_eq_true rfl) (Nat.le_refl _) (Nat.le_refl _) (fun v15 J14 => ?_)
      refine g_ior (pc := 79) d_Mod_noteName_79 ?_
      refine g_pI (pc := 80) d_Mod_noteName_80 fp_Mod_70 (fun J16 => ?_)
      refine g_goto (pc := 83) (tgt := 110) d_Mod_noteName_83 rfl ?_
      exact g_ret (pc := 110) d_Mod_noteName_110 rfl (Nat.le_refl _) (Nat.le_refl _)
    refine g_aload_n (pc := 49) (x := a0) d_Mod_noteName_49 rfl h0 ?_
    refine g_dup (pc := 50) d_Mod_noteName_50 ?_
    refine g_gi (pc := 51) d_Mod_noteName_51 fk_Mod_67 (fun v17 => ?_)
    refine g_iload_n (pc := 54) (x := a2) d_Mod_noteName_54 rfl h2 ?_
    refine g_ni (pc := 55) (rest := [vI v17, vR a0]) (sn_SL_setOf a2 I) rfl rfl d_Mod_noteName_55 ck_Mod_94 (Nat.le_of_ble_eq_true rfl) (Nat.le_of_ble_eq_true rfl) (Nat.le_refl _) (Nat.le_refl _) (fun v19 J18 => ?_)
    refine g_ior (pc := 58) d_Mod_noteName_58 ?_
    refine g_pI (pc := 59) d_Mod_noteName_59 fp_Mod_67 (fun J20 => ?_)
    refine g_goto (pc := 62) (tgt := 110) d_Mod_noteName_62 rfl ?_
    exact g_ret (pc := 110) d_Mod_noteName_110 rfl (Nat.le_refl _) (Nat.le_refl _)
  refine g_aload_n (pc := 27) (x := a0) d_Mod_noteName_27 rfl h0 ?_
  refine g_dup (pc := 28) d_Mod_noteName_28 ?_
  refine g_gi (pc := 29) d_Mod_noteName_29 fk_Mod_64 (fun v21 => ?_)
  refine g_iload_n (pc := 32) (x := a2) d_Mod_noteName_32 rfl h2 ?_
  refine g_ni (pc := 33) (rest := [vI v21, vR a0]) (sn_SL_setOf a2 I) rfl rfl d_Mod_noteName_33 ck_Mod_94 (Nat.le_of_ble_eq_true rfl) (Nat.le_of_ble_eq_true rfl) (Nat.le_refl _) (Nat.le_refl _) (fun v23 J22 => ?_)
  refine g_ior (pc := 36) d_Mod_noteName_36 ?_
  refine g_pI (pc := 37) d_Mod_noteName_37 fp_Mod_64 (fun J24 => ?_)
  refine g_goto (pc := 40) (tgt := 110) d_Mod_noteName_40 rfl ?_
  exact g_ret (pc := 110) d_Mod_noteName_110 rfl (Nat.le_refl _) (Nat.le_refl _)
def fn_Mod_noteName (a0 : Nat) (a1 : Int32) (a2 : Int32) (I : fm_I) : pR := bi (fn_Mod_holdsName a1 I) (fun v2 J1 => (if v2 = 0 then (fn_Mod_noteName_17 a0 a1 a2 J1) else gr 1 a0 7 (fun v3 => gi 1 a0 8 J1 (fun v4 => sI v3 a2 v4 J1 (fun J5 => (fn_Mod_noteName_17 a0 a1 a2 J5))))))
set_option maxRecDepth 10000 in
theorem sn_Mod_noteName (a0 : Nat) (a1 : Int32) (a2 : Int32) (I : fm_I) : gM m_Mod_noteName 1 (fn_Mod_noteName a0 a1 a2 I) [vR a0, vI a1, vI a2] I := by
  refine gM_of (by decide) rfl (Nat.le_of_ble_eq_true rfl) ?_
  show gW c_Mod_noteName _ _ _ _ _
  unfold fn_Mod_noteName
  refine g_iload_n (pc := 0) (x := a1) d_Mod_noteName_0 rfl rfl ?_
  refine g_si (pc := 1) (rest := []) (sn_Mod_holdsName a1 I) rfl rfl d_Mod_noteName_1 ck_Mod_91 (Nat.le_of_ble_eq_true rfl) (Nat.le_of_ble_eq_true rfl) (Nat.le_refl _) (Nat.le_refl _) (fun v2 J1 => ?_)
  refine g_ifeq (pc := 4) (tgt := 17) d_Mod_noteName_4 rfl ?_ ?_
  · exact sn_Mod_noteName_17 _ _ _ _ _ rfl rfl rfl
  refine g_aload_n (pc := 7) (x := a0) d_Mod_noteName_7 rfl rfl ?_
  refine g_gr (pc := 8) d_Mod_noteName_8 fk_Mod_34 (fun v3 => ?_)
  refine g_iload_n (pc := 11) (x := a2) d_Mod_noteName_11 rfl rfl ?_
  refine g_aload_n (pc := 12) (x := a0) d_Mod_noteName_12 rfl rfl ?_
  refine g_gi (pc := 13) d_Mod_noteName_13 fk_Mod_37 (fun v4 => ?_)
  refine g_sI (pc := 16) d_Mod_noteName_16 (fun J5 => ?_)
  exact sn_Mod_noteName_17 _ _ _ _ _ rfl rfl rfl
abbrev c_Mod_aimsAtOwnText : gC := (m_Mod_aimsAtOwnText, 1, 0, 0, none, 0, 0)
def fn_Mod_aimsAtOwnText (a0 : Nat) (a1 : Int32) (I : fm_I) : pR := gr 1 a0 1 (fun v1 => ld 0 v1 a1 I (fun v2 => gi 1 a0 9 I (fun v3 => bi (fn_SL_hasName v3 v2 I) (fun v5 J4 => (if v5 = 0 then (rz 0 J4) else gr 1 a0 7 (fun v6 => ld 0 v6 v2 J4 (fun v7 => gr 1 a0 0 (fun v8 => ld 0 v8 v7 J4 (fun v9 => (if v9 = 0 then gr 1 a0 3 (fun v10 => ld 0 v10 v7 J4 (fun v11 => (if v11 = 0 then (rz 1 J4) else (rz 0 J4)))) else (rz 0 J4)))))))))))
set_option maxRecDepth 10000 in
theorem sn_Mod_aimsAtOwnText (a0 : Nat) (a1 : Int32) (I : fm_I) : gM m_Mod_aimsAtOwnText 1 (fn_Mod_aimsAtOwnText a0 a1 I) [vR a0, vI a1] I := by
  refine gM_of (by decide) rfl (Nat.le_of_ble_eq_true rfl) ?_
  show gW c_Mod_aimsAtOwnText _ _ _ _ _
  unfold fn_Mod_aimsAtOwnText
  refine g_aload_n (pc := 0) (x := a0) d_Mod_aimsAtOwnText_0 rfl rfl ?_
  refine g_gr (pc := 1) d_Mod_aimsAtOwnText_1 fk_Mod_15 (fun v1 => ?_)
  refine g_iload_n (pc := 4) (x := a1) d_Mod_aimsAtOwnText_4 rfl rfl ?_
  refine g_ldI (pc := 5) d_Mod_aimsAtOwnText_5 (fun v2 => ?_)
  refine g_istore_n (pc := 6) (x := v2) d_Mod_aimsAtOwnText_6 rfl (Nat.le_of_ble_eq_true rfl) ?_
  refine g_aload_n (pc := 7) (x := a0) d_Mod_aimsAtOwnText_7 rfl rfl ?_
  refine g_gi (pc := 8) d_Mod_aimsAtOwnText_8 fk_Mod_64 (fun v3 => ?_)
  refine g_iload_n (pc := 11) (x := v2) d_Mod_aimsAtOwnText_11 rfl rfl ?_
  refine g_ni (pc := 12) (rest := []) (sn_SL_hasName v3 v2 I) rfl rfl d_Mod_aimsAtOwnText_12 ck_Mod_76 (Nat.le_of_ble_eq_true rfl) (Nat.le_of_ble_eq_true rfl) (Nat.le_refl _) (Nat.le_refl _) (fun v5 J4 => ?_)
  refine g_ifne (pc := 15) (tgt := 20) d_Mod_aimsAtOwnText_15 rfl ?_ ?_
  · refine g_aload_n (pc := 20) (x := a0) d_Mod_aimsAtOwnText_20 rfl rfl ?_
    refine g_gr (pc := 21) d_Mod_aimsAtOwnText_21 fk_Mod_34 (fun v6 => ?_)
    refine g_iload_n (pc := 24) (x := v2) d_Mod_aimsAtOwnText_24 rfl rfl ?_
    refine g_ldI (pc := 25) d_Mod_aimsAtOwnText_25 (fun v7 => ?_)
    refine g_istore_n (pc := 26) (x := v7) d_Mod_aimsAtOwnText_26 rfl (Nat.le_of_ble_eq_true rfl) ?_
    refine g_aload_n (pc := 27) (x := a0) d_Mod_aimsAtOwnText_27 rfl rfl ?_
    refine g_gr (pc := 28) d_Mod_aimsAtOwnText_28 fk_Mod_9 (fun v8 => ?_)
    refine g_iload_n (pc := 31) (x := v7) d_Mod_aimsAtOwnText_31 rfl rfl ?_
    refine g_ldI (pc := 32) d_Mod_aimsAtOwnText_32 (fun v9 => ?_)
    refine g_ifne (pc := 33) (tgt := 49) d_Mod_aimsAtOwnText_33 rfl ?_ ?_
    · refine g_iconst (pc := 49) (x := 0) d_Mod_aimsAtOwnText_49 (by decide) ?_
      exact g_zret (pc := 50) d_Mod_aimsAtOwnText_50 rfl (Nat.le_refl _) (Nat.le_refl _)
    refine g_aload_n (pc := 36) (x := a0) d_Mod_aimsAtOwnText_36 rfl rfl ?_
    refine g_gr (pc := 37) d_Mod_aimsAtOwnText_37 fk_Mod_21 (fun v10 => ?_)
    refine g_iload_n (pc := 40) (x := v7) d_Mod_aimsAtOwnText_40 rfl rfl ?_
    refine g_ldI (pc := 41) d_Mod_aimsAtOwnText_41 (fun v11 => ?_)
    refine g_ifne (pc := 42) (tgt := 49) d_Mod_aimsAtOwnText_42 rfl ?_ ?_
    · refine g_iconst (pc := 49) (x := 0) d_Mod_aimsAtOwnText_49 (by decide) ?_
      exact g_zret (pc := 50) d_Mod_aimsAtOwnText_50 rfl (Nat.le_refl _) (Nat.le_refl _)
    refine g_iconst (pc := 45) (x := 1) d_Mod_aimsAtOwnText_45 (by decide) ?_
    refine g_goto (pc := 46) (tgt := 50) d_Mod_aimsAtOwnText_46 rfl ?_
    exact g_zret (pc := 50) d_Mod_aimsAtOwnText_50 rfl (Nat.le_refl _) (Nat.le_refl _)
  refine g_iconst (pc := 18) (x := 0) d_Mod_aimsAtOwnText_18 (by decide) ?_
  exact g_zret (pc := 19) d_Mod_aimsAtOwnText_19 rfl (Nat.le_refl _) (Nat.le_refl _)
abbrev c_Mod_wordsOf : gC := (m_Mod_wordsOf, 0, 0, 0, none, 0, 0)
def fn_Mod_wordsOf (a0 : Nat) (a1 : Int32) (I : fm_I) : pR := gr 1 a0 0 (fun v1 => ld 0 v1 a1 I (fun v2 => (if v2 = 3 then (ri 1 I) else (if v2 = 4 then (ri 1 I) else (if v2 = 5 then gr 1 a0 1 (fun v3 => ld 0 v3 a1 I (fun v4 => (ri v4 I))) else (if v2 = 6 then gr 1 a0 5 (fun v5 => ld 1 v5 a1 I (fun v6 => (if v6 = 0 then (ri 1 I) else (ri 2 I)))) else (ri 0 I)))))))
set_option maxRecDepth 10000 in
theorem sn_Mod_wordsOf (a0 : Nat) (a1 : Int32) (I : fm_I) : gM m_Mod_wordsOf 0 (fn_Mod_wordsOf a0 a1 I) [vR a0, vI a1] I := by
  refine gM_of (by decide) rfl (Nat.le_of_ble_eq_true rfl) ?_
  show gW c_Mod_wordsOf _ _ _ _ _
  unfold fn_Mod_wordsOf
  refine g_aload_n (pc := 0) (x := a0) d_Mod_wordsOf_0 rfl rfl ?_
  refine g_gr (pc := 1) d_Mod_wordsOf_1 fk_Mod_9 (fun v1 => ?_)
  refine g_iload_n (pc := 4) (x := a1) d_Mod_wordsOf_4 rfl rfl ?_
  refine g_ldI (pc := 5) d_Mod_wordsOf_5 (fun v2 => ?_)
  refine g_sw (c := 3) (fun e3 => ?_) (fun e3 => ?_)
  · refine g_tin (pc := 6) (tgt := 36) (off := 30) e3 d_Mod_wordsOf_6 (by decide) (by decide) (by decide) (by decide) ?_
    refine g_iconst (pc := 36) (x := 1) d_Mod_wordsOf_36 (by decide) ?_
    exact g_iret (pc := 37) d_Mod_wordsOf_37 rfl (Nat.le_refl _) (Nat.le_refl _)
  refine g_sw (c := 4) (fun e4 => ?_) (fun e4 => ?_)
  · refine g_tin (pc := 6) (tgt := 36) (off := 30) e4 d_Mod_wordsOf_6 (by decide) (by decide) (by decide) (by decide) ?_
    refine g_iconst (pc := 36) (x := 1) d_Mod_wordsOf_36 (by decide) ?_
    exact g_iret (pc := 37) d_Mod_wordsOf_37 rfl (Nat.le_refl _) (Nat.le_refl _)
  refine g_sw (c := 5) (fun e5 => ?_) (fun e5 => ?_)
  · refine g_tin (pc := 6) (tgt := 38) (off := 32) e5 d_Mod_wordsOf_6 (by decide) (by decide) (by decide) (by decide) ?_
    refine g_aload_n (pc := 38) (x := a0) d_Mod_wordsOf_38 rfl rfl ?_
    refine g_gr (pc := 39) d_Mod_wordsOf_39 fk_Mod_15 (fun v3 => ?_)
    refine g_iload_n (pc := 42) (x := a1) d_Mod_wordsOf_42 rfl rfl ?_
    refine g_ldI (pc := 43) d_Mod_wordsOf_43 (fun v4 => ?_)
    exact g_iret (pc := 44) d_Mod_wordsOf_44 rfl (Nat.le_refl _) (Nat.le_refl _)
  refine g_sw (c := 6) (fun e6 => ?_) (fun e6 => ?_)
  · refine g_tin (pc := 6) (tgt := 45) (off := 39) e6 d_Mod_wordsOf_6 (by decide) (by decide) (by decide) (by decide) ?_
    refine g_aload_n (pc := 45) (x := a0) d_Mod_wordsOf_45 rfl rfl ?_
    refine g_gr (pc := 46) d_Mod_wordsOf_46 fk_Mod_27 (fun v5 => ?_)
    refine g_iload_n (pc := 49) (x := a1) d_Mod_wordsOf_49 rfl rfl ?_
    refine g_ldZ (pc := 50) d_Mod_wordsOf_50 (fun v6 => ?_)
    refine g_ifeq (pc := 51) (tgt := 58) d_Mod_wordsOf_51 rfl ?_ ?_
    · refine g_iconst (pc := 58) (x := 1) d_Mod_wordsOf_58 (by decide) ?_
      exact g_iret (pc := 59) d_Mod_wordsOf_59 rfl (Nat.le_refl _) (Nat.le_refl _)
    refine g_iconst (pc := 54) (x := 2) d_Mod_wordsOf_54 (by decide) ?_
    refine g_goto (pc := 55) (tgt := 59) d_Mod_wordsOf_55 rfl ?_
    exact g_iret (pc := 59) d_Mod_wordsOf_59 rfl (Nat.le_refl _) (Nat.le_refl _)
  refine g_tout (pc := 6) (tgt := 60) d_Mod_wordsOf_6 (by have q3 := am_ni e3 (z := 3) (by decide); have q4 := am_ni e4 (z := 4) (by decide); have q5 := am_ni e5 (z := 5) (by decide); have q6 := am_ni e6 (z := 6) (by decide); omega) (by decide) ?_
  refine g_iconst (pc := 60) (x := 0) d_Mod_wordsOf_60 (by decide) ?_
  exact g_iret (pc := 61) d_Mod_wordsOf_61 rfl (Nat.le_refl _) (Nat.le_refl _)
abbrev c_Mod_placeWords : gC := (m_Mod_placeWords, 1, 0, 0, none, 0, 0)
def fn_Mod_placeWords_22 : Nat → Nat → Int32 → fm_I → pR
  | 0, _, _, _ => none
  | n + 1, a0, a1, I => gi 1 a0 8 I (fun v1 => (if v1 ≤ a1 then (rv I) else gr 1 a0 3 (fun v2 => ld 0 v2 a1 I (fun v3 => gr 1 a0 4 (fun v4 => gr 1 a0 6 (fun v5 => ld 0 v5 v3 I (fun v6 => sI v4 a1 v6 I (fun J7 => gr 1 a0 6 (fun v8 => ld 0 v8 v3 J7 (fun v9 => vi 1 a0 (fn_Mod_wordsOf a0 a1 J7) (fun v11 J10 => sI v8 v3 (v9 + v11) J10 (fun J12 => (fn_Mod_placeWords_22 n a0 (a1 + 1) J12)))))))))))))
set_option maxRecDepth 10000 in
theorem sn_Mod_placeWords_22 (n : Nat) : ∀ (a0 : Nat) (a1 : Int32) (I : fm_I) (L : Nat → Option am_V), L 0 = some (vR a0) → L 1 = some (vI a1) → gW c_Mod_placeWords (fn_Mod_placeWords_22 n a0 a1 I) 22 L [] I := by
  induction n with
  | zero =>
    intro a0 a1 I L h0 h1
    unfold fn_Mod_placeWords_22
    exact g_none
  | succ n ih =>
    intro a0 a1 I L h0 h1
    unfold fn_Mod_placeWords_22
    refine g_iload_n (pc := 22) (x := a1) d_Mod_placeWords_22 rfl h1 ?_
    refine g_aload_n (pc := 23) (x := a0) d_Mod_placeWords_23 rfl h0 ?_
    refine g_gi (pc := 24) d_Mod_placeWords_24 fk_Mod_37 (fun v1 => ?_)
    refine g_icmpge (pc := 27) (tgt := 69) d_Mod_placeWords_27 rfl ?_ ?_
    · exact g_ret (pc := 69) d_Mod_placeWords_69 rfl (Nat.le_refl _) (Nat.le_refl _)
    refine g_aload_n (pc := 30) (x := a0) d_Mod_placeWords_30 rfl h0 ?_
    refine g_gr (pc := 31) d_Mod_placeWords_31 fk_Mod_21 (fun v2 => ?_)
    refine g_iload_n (pc := 34) (x := a1) d_Mod_placeWords_34 rfl h1 ?_
    refine g_ldI (pc := 35) d_Mod_placeWords_35 (fun v3 => ?_)
    refine g_istore_n (pc := 36) (x := v3) d_Mod_placeWords_36 rfl (Nat.le_of_ble_eq_true rfl) ?_
    refine g_aload_n (pc := 37) (x := a0) d_Mod_placeWords_37 rfl h0 ?_
    refine g_gr (pc := 38) d_Mod_placeWords_38 fk_Mod_24 (fun v4 => ?_)
    refine g_iload_n (pc := 41) (x := a1) d_Mod_placeWords_41 rfl h1 ?_
    refine g_aload_n (pc := 42) (x := a0) d_Mod_placeWords_42 rfl h0 ?_
    refine g_gr (pc := 43) d_Mod_placeWords_43 fk_Mod_31 (fun v5 => ?_)
    refine g_iload_n (pc := 46) (x := v3) d_Mod_placeWords_46 rfl rfl ?_
    refine g_ldI (pc := 47) d_Mod_placeWords_47 (fun v6 => ?_)
    refine g_sI (pc := 48) d_Mod_placeWords_48 (fun J7 => ?_)
    refine g_aload_n (pc := 49) (x := a0) d_Mod_placeWords_49 rfl h0 ?_
    refine g_gr (pc := 50) d_Mod_placeWords_50 fk_Mod_31 (fun v8 => ?_)
    refine g_iload_n (pc := 53) (x := v3) d_Mod_placeWords_53 rfl rfl ?_
    refine g_dup2 (pc := 54) d_Mod_placeWords_54 ?_
    refine g_ldI (pc := 55) d_Mod_placeWords_55 (fun v9 => ?_)
    refine g_aload_n (pc := 56) (x := a0) d_Mod_placeWords_56 rfl h0 ?_
    refine g_iload_n (pc := 57) (x := a1) d_Mod_placeWords_57 rfl h1 ?_
    refine g_vi (pc := 58) (rest := [vI v9, vI v3, vR v8]) (sn_Mod_wordsOf a0 a1 J7) rfl rfl d_Mod_placeWords_58 ck_Mod_108 (Nat.le_of_ble_eq_true rfl) (Nat.le_of_ble_eq_true rfl) (Nat.le_refl _) (Nat.le_refl _) (fun v11 J10 => ?_)
    refine g_iadd (pc := 61) d_Mod_placeWords_61 ?_
    refine g_sI (pc := 62) d_Mod_placeWords_62 (fun J12 => ?_)
    refine g_iinc (pc := 63) (x := a1) (w := 1) d_Mod_placeWords_63 h1 (by decide) (Nat.le_of_ble_eq_true rfl) ?_
    refine g_goto (pc := 66) (tgt := 22) d_Mod_placeWords_66 rfl ?_
    exact ih _ _ _ _ h0 rfl
def fn_Mod_placeWords_2 : Nat → Nat → Int32 → fm_I → pR
  | 0, _, _, _ => none
  | n + 1, a0, a1, I => (if 3 ≤ a1 then (fn_Mod_placeWords_22 FU a0 0 I) else gr 1 a0 6 (fun v1 => sI v1 a1 0 I (fun J2 => (fn_Mod_placeWords_2 n a0 (a1 + 1) J2))))
set_option maxRecDepth 10000 in
theorem sn_Mod_placeWords_2 (n : Nat) : ∀ (a0 : Nat) (a1 : Int32) (I : fm_I) (L : Nat → Option am_V), L 0 = some (vR a0) → L 1 = some (vI a1) → gW c_Mod_placeWords (fn_Mod_placeWords_2 n a0 a1 I) 2 L [] I := by
  induction n with
  | zero =>
    intro a0 a1 I L h0 h1
    unfold fn_Mod_placeWords_2
    exact g_none
  | succ n ih =>
    intro a0 a1 I L h0 h1
    unfold fn_Mod_placeWords_2
    refine g_iload_n (pc := 2) (x := a1) d_Mod_placeWords_2 rfl h1 ?_
    refine g_iconst (pc := 3) (x := 3) d_Mod_placeWords_3 (by decide) ?_
    refine g_icmpge (pc := 4) (tgt := 20) d_Mod_placeWords_4 rfl ?_ ?_
    · refine g_iconst (pc := 20) (x := 0) d_Mod_placeWords_20 (by decide) ?_
      refine g_istore_n (pc := 21) (x := 0) d_Mod_placeWords_21 rfl (Nat.le_of_ble_eq_true rfl) ?_
      exact sn_Mod_placeWords_22 FU _ _ _ _ h0 rfl
    refine g_aload_n (pc := 7) (x := a0) d_Mod_placeWords_7 rfl h0 ?_
    refine g_gr (pc := 8) d_Mod_placeWords_8 fk_Mod_31 (fun v1 => ?_)
    refine g_iload_n (pc := 11) (x := a1) d_Mod_placeWords_11 rfl h1 ?_
    refine g_iconst (pc := 12) (x := 0) d_Mod_placeWords_12 (by decide) ?_
    refine g_sI (pc := 13) d_Mod_placeWords_13 (fun J2 => ?_)
    refine g_iinc (pc := 14) (x := a1) (w := 1) d_Mod_placeWords_14 h1 (by decide) (Nat.le_of_ble_eq_true rfl) ?_
    refine g_goto (pc := 17) (tgt := 2) d_Mod_placeWords_17 rfl ?_
    exact ih _ _ _ _ h0 rfl
def fn_Mod_placeWords (a0 : Nat) (I : fm_I) : pR := (fn_Mod_placeWords_2 FU a0 0 I)
set_option maxRecDepth 10000 in
theorem sn_Mod_placeWords (a0 : Nat) (I : fm_I) : gM m_Mod_placeWords 1 (fn_Mod_placeWords a0 I) [vR a0] I := by
  refine gM_of (by decide) rfl (Nat.le_of_ble_eq_true rfl) ?_
  show gW c_Mod_placeWords _ _ _ _ _
  unfold fn_Mod_placeWords
  refine g_iconst (pc := 0) (x := 0) d_Mod_placeWords_0 (by decide) ?_
  refine g_istore_n (pc := 1) (x := 0) d_Mod_placeWords_1 rfl (Nat.le_of_ble_eq_true rfl) ?_
  exact sn_Mod_placeWords_2 FU _ _ _ _ rfl rfl
abbrev c_Mod_distanceOf : gC := (m_Mod_distanceOf, 0, 0, 0, none, 0, 0)
def fn_Mod_distanceOf (a0 : Nat) (a1 : Int32) (I : fm_I) : pR := gr 1 a0 4 (fun v1 => gr 1 a0 7 (fun v2 => gr 1 a0 1 (fun v3 => ld 0 v3 a1 I (fun v4 => ld 0 v2 v4 I (fun v5 => ld 0 v1 v5 I (fun v6 => gr 1 a0 4 (fun v7 => ld 0 v7 a1 I (fun v8 => (ri ((v6 - v8) - 1) I)))))))))
set_option maxRecDepth 10000 in
theorem sn_Mod_distanceOf (a0 : Nat) (a1 : Int32) (I : fm_I) : gM m_Mod_distanceOf 0 (fn_Mod_distanceOf a0 a1 I) [vR a0, vI a1] I := by
  refine gM_of (by decide) rfl (Nat.le_of_ble_eq_true rfl) ?_
  show gW c_Mod_distanceOf _ _ _ _ _
  unfold fn_Mod_distanceOf
  refine g_aload_n (pc := 0) (x := a0) d_Mod_distanceOf_0 rfl rfl ?_
  refine g_gr (pc := 1) d_Mod_distanceOf_1 fk_Mod_24 (fun v1 => ?_)
  refine g_aload_n (pc := 4) (x := a0) d_Mod_distanceOf_4 rfl rfl ?_
  refine g_gr (pc := 5) d_Mod_distanceOf_5 fk_Mod_34 (fun v2 => ?_)
  refine g_aload_n (pc := 8) (x := a0) d_Mod_distanceOf_8 rfl rfl ?_
  refine g_gr (pc := 9) d_Mod_distanceOf_9 fk_Mod_15 (fun v3 => ?_)
  refine g_iload_n (pc := 12) (x := a1) d_Mod_distanceOf_12 rfl rfl ?_
  refine g_ldI (pc := 13) d_Mod_distanceOf_13 (fun v4 => ?_)
  refine g_ldI (pc := 14) d_Mod_distanceOf_14 (fun v5 => ?_)
  refine g_ldI (pc := 15) d_Mod_distanceOf_15 (fun v6 => ?_)
  refine g_aload_n (pc := 16) (x := a0) d_Mod_distanceOf_16 rfl rfl ?_
  refine g_gr (pc := 17) d_Mod_distanceOf_17 fk_Mod_24 (fun v7 => ?_)
  refine g_iload_n (pc := 20) (x := a1) d_Mod_distanceOf_20 rfl rfl ?_
  refine g_ldI (pc := 21) d_Mod_distanceOf_21 (fun v8 => ?_)
  refine g_isub (pc := 22) d_Mod_distanceOf_22 ?_
  refine g_iconst (pc := 23) (x := 1) d_Mod_distanceOf_23 (by decide) ?_
  refine g_isub (pc := 24) d_Mod_distanceOf_24 ?_
  exact g_iret (pc := 25) d_Mod_distanceOf_25 rfl (Nat.le_refl _) (Nat.le_refl _)
abbrev c_Mod_lengthenFarJumps : gC := (m_Mod_lengthenFarJumps, 1, 0, 0, none, 0, 0)
def fn_Mod_lengthenFarJumps_4 : Nat → Nat → Int32 → Int32 → fm_I → pR
  | 0, _, _, _, _ => none
  | n + 1, a0, a1, a2, I => gi 1 a0 8 I (fun v1 => (if v1 ≤ a2 then (rz a1 I) else gr 1 a0 0 (fun v2 => ld 0 v2 a2 I (fun v3 => (if v3 = 6 then gr 1 a0 5 (fun v4 => ld 1 v4 a2 I (fun v5 => (if v5 = 0 then vi 1 a0 (fn_Mod_distanceOf a0 a2 I) (fun v7 J6 => bi (fn_SL_isWithin v7 (-8) 7 J6) (fun v9 J8 => (if v9 = 0 then gr 1 a0 5 (fun v10 => sZ v10 a2 1 J8 (fun J11 => (fn_Mod_lengthenFarJumps_4 n a0 1 (a2 + 1) J11))) else (fn_Mod_lengthenFarJumps_4 n a0 a1 (a2 + 1) J8)))) else (fn_Mod_lengthenFarJumps_4 n a0 a1 (a2 + 1) I)))) else (fn_Mod_lengthenFarJumps_4 n a0 a1 (a2 + 1) I))))))
set_option maxRecDepth 10000 in
theorem sn_Mod_lengthenFarJumps_4 (n : Nat) : ∀ (a0 : Nat) (a1 : Int32) (a2 : Int32) (I : fm_I) (L : Nat → Option am_V), L 0 = some (vR a0) → L 1 = some (vI a1) → L 2 = some (vI a2) → gW c_Mod_lengthenFarJumps (fn_Mod_lengthenFarJumps_4 n a0 a1 a2 I) 4 L [] I := by
  induction n with
  | zero =>
    intro a0 a1 a2 I L h0 h1 h2
    unfold fn_Mod_lengthenFarJumps_4
    exact g_none
  | succ n ih =>
    intro a0 a1 a2 I L h0 h1 h2
    unfold fn_Mod_lengthenFarJumps_4
    refine g_iload_n (pc := 4) (x := a2) d_Mod_lengthenFarJumps_4 rfl h2 ?_
    refine g_aload_n (pc := 5) (x := a0) d_Mod_lengthenFarJumps_5 rfl h0 ?_
    refine g_gi (pc := 6) d_Mod_lengthenFarJumps_6 fk_Mod_37 (fun v1 => ?_)
    refine g_icmpge (pc := 9) (tgt := 62) d_Mod_lengthenFarJumps_9 rfl ?_ ?_
    · refine g_iload_n (pc := 62) (x := a1) d_Mod_lengthenFarJumps_62 rfl h1 ?_
      exact g_zret (pc := 63) d_Mod_lengthenFarJumps_63 rfl (Nat.le_refl _) (Nat.le_refl _)
    refine g_aload_n (pc := 12) (x := a0) d_Mod_lengthenFarJumps_12 rfl h0 ?_
    refine g_gr (pc := 13) d_Mod_lengthenFarJumps_13 fk_Mod_9 (fun v2 => ?_)
    refine g_iload_n (pc := 16) (x := a2) d_Mod_lengthenFarJumps_16 rfl h2 ?_
    refine g_ldI (pc := 17) d_Mod_lengthenFarJumps_17 (fun v3 => ?_)
    refine g_bipush (pc := 18) (x := 6) d_Mod_lengthenFarJumps_18 (by decide) ?_
    refine g_icmpne (pc := 20) (tgt := 56) d_Mod_lengthenFarJumps_20 rfl ?_ ?_
    · refine g_iinc (pc := 56) (x := a2) (w := 1) d_Mod_lengthenFarJumps_56 h2 (by decide) (Nat.le_of_ble_eq_true rfl) ?_
      refine g_goto (pc := 59) (tgt := 4) d_Mod_lengthenFarJumps_59 rfl ?_
      exact ih _ _ _ _ _ h0 h1 rfl
    refine g_aload_n (pc := 23) (x := a0) d_Mod_lengthenFarJumps_23 rfl h0 ?_
    refine g_gr (pc := 24) d_Mod_lengthenFarJumps_24 fk_Mod_27 (fun v4 => ?_)
    refine g_iload_n (pc := 27) (x := a2) d_Mod_lengthenFarJumps_27 rfl h2 ?_
    refine g_ldZ (pc := 28) d_Mod_lengthenFarJumps_28 (fun v5 => ?_)
    refine g_ifne (pc := 29) (tgt := 56) d_Mod_lengthenFarJumps_29 rfl ?_ ?_
    · refine g_iinc (pc := 56) (x := a2) (w := 1) d_Mod_lengthenFarJumps_56 h2 (by decide) (Nat.le_of_ble_eq_true rfl) ?_
      refine g_goto (pc := 59) (tgt := 4) d_Mod_lengthenFarJumps_59 rfl ?_
      exact ih _ _ _ _ _ h0 h1 rfl
    refine g_aload_n (pc := 32) (x := a0) d_Mod_lengthenFarJumps_32 rfl h0 ?_
    refine g_iload_n (pc := 33) (x := a2) d_Mod_lengthenFarJumps_33 rfl h2 ?_
    refine g_vi (pc := 34) (rest := []) (sn_Mod_distanceOf a0 a2 I) rfl rfl d_Mod_lengthenFarJumps_34 ck_Mod_111 (Nat.le_of_ble_eq_true rfl) (Nat.le_of_ble_eq_true rfl) (Nat.le_refl _) (Nat.le_refl _) (fun v7 J6 => ?_)
    refine g_bipush (pc := 37) (x := (-8)) d_Mod_lengthenFarJumps_37 (by decide) ?_
    refine g_bipush (pc := 39) (x := 7) d_Mod_lengthenFarJumps_39 (by decide) ?_
    refine g_ni (pc := 41) (rest := []) (sn_SL_isWithin v7 (-8) 7 J6) rfl rfl d_Mod_lengthenFarJumps_41 ck_Mod_88 (Nat.le_of_ble_eq_true rfl) (Nat.le_of_ble_eq_true rfl) (Nat.le_refl _) (Nat.le_refl _) (fun v9 J8 => ?_)
    refine g_ifne (pc := 44) (tgt := 56) d_Mod_lengthenFarJumps_44 rfl ?_ ?_
    · refine g_iinc (pc := 56) (x := a2) (w := 1) d_Mod_lengthenFarJumps_56 h2 (by decide) (Nat.le_of_ble_eq_true rfl) ?_
      refine g_goto (pc := 59) (tgt := 4) d_Mod_lengthenFarJumps_59 rfl ?_
      exact ih _ _ _ _ _ h0 h1 rfl
    refine g_aload_n (pc := 47) (x := a0) d_Mod_lengthenFarJumps_47 rfl h0 ?_
    refine g_gr (pc := 48) d_Mod_lengthenFarJumps_48 fk_Mod_27 (fun v10 => ?_)
    refine g_iload_n (pc := 51) (x := a2) d_Mod_lengthenFarJumps_51 rfl h2 ?_
    refine g_iconst (pc := 52) (x := 1) d_Mod_lengthenFarJumps_52 (by decide) ?_
    refine g_sZ (pc := 53) d_Mod_lengthenFarJumps_53 (fun J11 => ?_)
    refine g_iconst (pc := 54) (x := 1) d_Mod_lengthenFarJumps_54 (by decide) ?_
    refine g_istore_n (pc := 55) (x := 1) d_Mod_lengthenFarJumps_55 rfl (Nat.le_of_ble_eq_true rfl) ?_
    refine g_iinc (pc := 56) (x := a2) (w := 1) d_Mod_lengthenFarJumps_56 h2 (by decide) (Nat.le_of_ble_eq_true rfl) ?_
    refine g_goto (pc := 59) (tgt := 4) d_Mod_lengthenFarJumps_59 rfl ?_
    exact ih _ _ _ _ _ h0 rfl rfl
def fn_Mod_lengthenFarJumps (a0 : Nat) (I : fm_I) : pR := (fn_Mod_lengthenFarJumps_4 FU a0 0 0 I)
set_option maxRecDepth 10000 in
theorem sn_Mod_lengthenFarJumps (a0 : Nat) (I : fm_I) : gM m_Mod_lengthenFarJumps 1 (fn_Mod_lengthenFarJumps a0 I) [vR a0] I := by
  refine gM_of (by decide) rfl (Nat.le_of_ble_eq_true rfl) ?_
  show gW c_Mod_lengthenFarJumps _ _ _ _ _
  unfold fn_Mod_lengthenFarJumps
  refine g_iconst (pc := 0) (x := 0) d_Mod_lengthenFarJumps_0 (by decide) ?_
  refine g_istore_n (pc := 1) (x := 0) d_Mod_lengthenFarJumps_1 rfl (Nat.le_of_ble_eq_true rfl) ?_
  refine g_iconst (pc := 2) (x := 0) d_Mod_lengthenFarJumps_2 (by decide) ?_
  refine g_istore_n (pc := 3) (x := 0) d_Mod_lengthenFarJumps_3 rfl (Nat.le_of_ble_eq_true rfl) ?_
  exact sn_Mod_lengthenFarJumps_4 FU _ _ _ _ _ rfl rfl rfl
abbrev c_Mod_settleJumps : gC := (m_Mod_settleJumps, 2, 0, 0, none, 0, 0)
def fn_Mod_settleJumps_52 : Nat → Nat → Int32 → fm_I → pR
  | 0, _, _, _ => none
  | n + 1, a0, a1, I => (if 20 ≤ a1 then (rv I) else vi 1 a0 (fn_Mod_lengthenFarJumps a0 I) (fun v2 J1 => (if v2 = 0 then (rv J1) else vv 1 a0 (fn_Mod_placeWords a0 J1) (fun J3 => (fn_Mod_settleJumps_52 n a0 (a1 + 1) J3)))))
set_option maxRecDepth 10000 in
theorem sn_Mod_settleJumps_52 (n : Nat) : ∀ (a0 : Nat) (a1 : Int32) (I : fm_I) (L : Nat → Option am_V), L 0 = some (vR a0) → L 1 = some (vI a1) → gW c_Mod_settleJumps (fn_Mod_settleJumps_52 n a0 a1 I) 52 L [] I := by
  induction n with
  | zero =>
    intro a0 a1 I L h0 h1
    unfold fn_Mod_settleJumps_52
    exact g_none
  | succ n ih =>
    intro a0 a1 I L h0 h1
    unfold fn_Mod_settleJumps_52
    refine g_iload_n (pc := 52) (x := a1) d_Mod_settleJumps_52 rfl h1 ?_
    refine g_bipush (pc := 53) (x := 20) d_Mod_settleJumps_53 (by decide) ?_
    refine g_icmpge (pc := 55) (tgt := 76) d_Mod_settleJumps_55 rfl ?_ ?_
    · exact g_ret (pc := 76) d_Mod_settleJumps_76 rfl (Nat.le_refl _) (Nat.le_refl _)
    refine g_aload_n (pc := 58) (x := a0) d_Mod_settleJumps_58 rfl h0 ?_
    refine g_vi (pc := 59) (rest := []) (sn_Mod_lengthenFarJumps a0 I) rfl rfl d_Mod_settleJumps_59 ck_Mod_104 (Nat.le_of_ble_eq_true rfl) (Nat.le_of_ble_eq_true rfl) (Nat.le_refl _) (Nat.le_refl _) (fun v2 J1 => ?_)
    refine g_ifne (pc := 62) (tgt := 66) d_Mod_settleJumps_62 rfl ?_ ?_
    · refine g_aload_n (pc := 66) (x := a0) d_Mod_settleJumps_66 rfl h0 ?_
      refine g_vv (pc := 67) (rest := []) (sn_Mod_placeWords a0 J1) rfl rfl d_Mod_settleJumps_67 ck_Mod_101 (Nat.le_of_ble_eq_true rfl) (Nat.le_of_ble_eq_true rfl) (Nat.le_refl _) (Nat.le_refl _) (fun J3 => ?_)
      refine g_iinc (pc := 70) (x := a1) (w := 1) d_Mod_settleJumps_70 h1 (by decide) (Nat.le_of_ble_eq_true rfl) ?_
      refine g_goto (pc := 73) (tgt := 52) d_Mod_settleJumps_73 rfl ?_
      exact ih _ _ _ _ h0 rfl
    exact g_ret (pc := 65) d_Mod_settleJumps_65 rfl (Nat.le_refl _) (Nat.le_refl _)
def fn_Mod_settleJumps_2 : Nat → Nat → Int32 → fm_I → pR
  | 0, _, _, _ => none
  | n + 1, a0, a1, I => gi 1 a0 8 I (fun v1 => (if v1 ≤ a1 then vv 1 a0 (fn_Mod_placeWords a0 I) (fun J2 => (fn_Mod_settleJumps_52 FU a0 0 J2)) else gr 1 a0 5 (fun v3 => gr 1 a0 0 (fun v4 => ld 0 v4 a1 I (fun v5 => (if v5 = 6 then vi 1 a0 (fn_Mod_aimsAtOwnText a0 a1 I) (fun v8 J7 => (if v8 = 0 then sZ v3 a1 1 J7 (fun J10 => (fn_Mod_settleJumps_2 n a0 (a1 + 1) J10)) else sZ v3 a1 0 J7 (fun J9 => (fn_Mod_settleJumps_2 n a0 (a1 + 1) J9)))) else sZ v3 a1 0 I (fun J6 => (fn_Mod_settleJumps_2 n a0 (a1 + 1) J6))))))))
set_option maxRecDepth 10000 in
theorem sn_Mod_settleJumps_2 (n : Nat) : ∀ (a0 : Nat) (a1 : Int32) (I : fm_I) (L : Nat → Option am_V), L 0 = some (vR a0) → L 1 = some (vI a1) → gW c_Mod_settleJumps (fn_Mod_settleJumps_2 n a0 a1 I) 2 L [] I := by
  induction n with
  | zero =>
    intro a0 a1 I L h0 h1
    unfold fn_Mod_settleJumps_2
    exact g_none
  | succ n ih =>
    intro a0 a1 I L h0 h1
    unfold fn_Mod_settleJumps_2
    refine g_iload_n (pc := 2) (x := a1) d_Mod_settleJumps_2 rfl h1 ?_
    refine g_aload_n (pc := 3) (x := a0) d_Mod_settleJumps_3 rfl h0 ?_
    refine g_gi (pc := 4) d_Mod_settleJumps_4 fk_Mod_37 (fun v1 => ?_)
    refine g_icmpge (pc := 7) (tgt := 46) d_Mod_settleJumps_7 rfl ?_ ?_
    · refine g_aload_n (pc := 46) (x := a0) d_Mod_settleJumps_46 rfl h0 ?_
      refine g_vv (pc := 47) (rest := []) (sn_Mod_placeWords a0 I) rfl rfl d_Mod_settleJumps_47 ck_Mod_101 (Nat.le_of_ble_eq_true rfl) (Nat.le_of_ble_eq_true rfl) (Nat.le_refl _) (Nat.le_refl _) (fun J2 => ?_)
      refine g_iconst (pc := 50) (x := 0) d_Mod_settleJumps_50 (by decide) ?_
      refine g_istore_n (pc := 51) (x := 0) d_Mod_settleJumps_51 rfl (Nat.le_of_ble_eq_true rfl) ?_
      exact sn_Mod_settleJumps_52 FU _ _ _ _ h0 rfl
    refine g_aload_n (pc := 10) (x := a0) d_Mod_settleJumps_10 rfl h0 ?_
    refine g_gr (pc := 11) d_Mod_settleJumps_11 fk_Mod_27 (fun v3 => ?_)
    refine g_iload_n (pc := 14) (x := a1) d_Mod_settleJumps_14 rfl h1 ?_
    refine g_aload_n (pc := 15) (x := a0) d_Mod_settleJumps_15 rfl h0 ?_
    refine g_gr (pc := 16) d_Mod_settleJumps_16 fk_Mod_9 (fun v4 => ?_)
    refine g_iload_n (pc := 19) (x := a1) d_Mod_settleJumps_19 rfl h1 ?_
    refine g_ldI (pc := 20) d_Mod_settleJumps_20 (fun v5 => ?_)
    refine g_bipush (pc := 21) (x := 6) d_Mod_settleJumps_21 (by decide) ?_
    refine g_icmpne (pc := 23) (tgt := 38) d_Mod_settleJumps_23 rfl ?_ ?_
    · refine g_iconst (pc := 38) (x := 0) d_Mod_settleJumps_38 (by decide) ?_
      refine g_sZ (pc := 39) d_Mod_settleJumps_39 (fun J6 => ?_)
      refine g_iinc (pc := 40) (x := a1) (w := 1) d_Mod_settleJumps_40 h1 (by decide) (Nat.le_of_ble_eq_true rfl) ?_
      refine g_goto (pc := 43) (tgt := 2) d_Mod_settleJumps_43 rfl ?_
      exact ih _ _ _ _ h0 rfl
    refine g_aload_n (pc := 26) (x := a0) d_Mod_settleJumps_26 rfl h0 ?_
    refine g_iload_n (pc := 27) (x := a1) d_Mod_settleJumps_27 rfl h1 ?_
    refine g_vi (pc := 28) (rest := [vI a1, vR v3]) (sn_Mod_aimsAtOwnText a0 a1 I) rfl rfl d_Mod_settleJumps_28 ck_Mod_98 (Nat.le_of_ble_eq_true rfl) (Nat.le_of_ble_eq_true rfl) (Nat.le_refl _) (Nat.le_refl _) (fun v8 J7 => ?_)
    refine g_ifne (pc := 31) (tgt := 38) d_Mod_settleJumps_31 rfl ?_ ?_
    · refine g_iconst (pc := 38) (x := 0) d_Mod_settleJumps_38 (by decide) ?_
      refine g_sZ (pc := 39) d_Mod_settleJumps_39 (fun J9 => ?_)
      refine g_iinc (pc := 40) (x := a1) (w := 1) d_Mod_settleJumps_40 h1 (by decide) (Nat.le_of_ble_eq_true rfl) ?_
      refine g_goto (pc := 43) (tgt := 2) d_Mod_settleJumps_43 rfl ?_
      exact ih _ _ _ _ h0 rfl
    refine g_iconst (pc := 34) (x := 1) d_Mod_settleJumps_34 (by decide) ?_
    refine g_goto (pc := 35) (tgt := 39) d_Mod_settleJumps_35 rfl ?_
    refine g_sZ (pc := 39) d_Mod_settleJumps_39 (fun J10 => ?_)
    refine g_iinc (pc := 40) (x := a1) (w := 1) d_Mod_settleJumps_40 h1 (by decide) (Nat.le_of_ble_eq_true rfl) ?_
    refine g_goto (pc := 43) (tgt := 2) d_Mod_settleJumps_43 rfl ?_
    exact ih _ _ _ _ h0 rfl
def fn_Mod_settleJumps (a0 : Nat) (I : fm_I) : pR := (fn_Mod_settleJumps_2 FU a0 0 I)
set_option maxRecDepth 10000 in
theorem sn_Mod_settleJumps (a0 : Nat) (I : fm_I) : gM m_Mod_settleJumps 2 (fn_Mod_settleJumps a0 I) [vR a0] I := by
  refine gM_of (by decide) rfl (Nat.le_of_ble_eq_true rfl) ?_
  show gW c_Mod_settleJumps _ _ _ _ _
  unfold fn_Mod_settleJumps
  refine g_iconst (pc := 0) (x := 0) d_Mod_settleJumps_0 (by decide) ?_
  refine g_istore_n (pc := 1) (x := 0) d_Mod_settleJumps_1 rfl (Nat.le_of_ble_eq_true rfl) ?_
  exact sn_Mod_settleJumps_2 FU _ _ _ _ rfl rfl
abbrev c_Mod_append : gC := (m_Mod_append, 3, 0, 0, none, 0, 0)
def fn_Mod_append_13 (a0 : Nat) (a1 : Int32) (a2 : Int32) (a3 : Int32) (t0 : Int32) (I : fm_I) : pR := gr 1 a0 0 (fun v1 => gi 1 a0 8 I (fun v2 => sI v1 v2 a1 I (fun J3 => gr 1 a0 1 (fun v4 => gi 1 a0 8 J3 (fun v5 => sI v4 v5 a2 J3 (fun J6 => gr 1 a0 2 (fun v7 => gi 1 a0 8 J6 (fun v8 => sI v7 v8 a3 J6 (fun J9 => gr 1 a0 3 (fun v10 => gi 1 a0 8 J9 (fun v11 => sI v10 v11 t0 J9 (fun J12 => vv 1 a0 (fn_Mod_noteName a0 a1 a2 J12) (fun J13 => gi 1 a0 8 J13 (fun v14 => pI 1 a0 8 (v14 + 1) J13 (fun J15 => vv 1 a0 (fn_Mod_settleJumps a0 J15) (fun J16 => (rv J16)))))))))))))))))
set_option maxRecDepth 10000 in
theorem sn_Mod_append_13 : ∀ (a0 : Nat) (a1 : Int32) (a2 : Int32) (a3 : Int32) (t0 : Int32) (I : fm_I) (L : Nat → Option am_V), L 0 = some (vR a0) → L 1 = some (vI a1) → L 2 = some (vI a2) → L 3 = some (vI a3) → gW c_Mod_append (fn_Mod_append_13 a0 a1 a2 a3 t0 I) 13 L [vI t0] I := by
  intro a0 a1 a2 a3 t0 I L h0 h1 h2 h3
  unfold fn_Mod_append_13
  refine g_istore (pc := 13) (x := t0) d_Mod_append_13 (Nat.le_of_ble_eq_true rfl) ?_
  refine g_aload_n (pc := 15) (x := a0) d_Mod_append_15 rfl h0 ?_
  refine g_gr (pc := 16) d_Mod_append_16 fk_Mod_9 (fun v1 => ?_)
  refine g_aload_n (pc := 19) (x := a0) d_Mod_append_19 rfl h0 ?_
  refine g_gi (pc := 20) d_Mod_append_20 fk_Mod_37 (fun v2 => ?_)
  refine g_iload_n (pc := 23) (x := a1) d_Mod_append_23 rfl h1 ?_
  refine g_sI (pc := 24) d_Mod_append_24 (fun J3 => ?_)
  refine g_aload_n (pc := 25) (x := a0) d_Mod_append_25 rfl h0 ?_
  refine g_gr (pc := 26) d_Mod_append_26 fk_Mod_15 (fun v4 => ?_)
  refine g_aload_n (pc := 29) (x := a0) d_Mod_append_29 rfl h0 ?_
  refine g_gi (pc := 30) d_Mod_append_30 fk_Mod_37 (fun v5 => ?_)
  refine g_iload_n (pc := 33) (x := a2) d_Mod_append_33 rfl h2 ?_
  refine g_sI (pc := 34) d_Mod_append_34 (fun J6 => ?_)
  refine g_aload_n (pc := 35) (x := a0) d_Mod_append_35 rfl h0 ?_
  refine g_gr (pc := 36) d_Mod_append_36 fk_Mod_18 (fun v7 => ?_)
  refine g_aload_n (pc := 39) (x := a0) d_Mod_append_39 rfl h0 ?_
  refine g_gi (pc := 40) d_Mod_append_40 fk_Mod_37 (fun v8 => ?_)
  refine g_iload_n (pc := 43) (x := a3) d_Mod_append_43 rfl h3 ?_
  refine g_sI (pc := 44) d_Mod_append_44 (fun J9 => ?_)
  refine g_aload_n (pc := 45) (x := a0) d_Mod_append_45 rfl h0 ?_
  refine g_gr (pc := 46) d_Mod_append_46 fk_Mod_21 (fun v10 => ?_)
  refine g_aload_n (pc := 49) (x := a0) d_Mod_append_49 rfl h0 ?_
  refine g_gi (pc := 50) d_Mod_append_50 fk_Mod_37 (fun v11 => ?_)
  refine g_iload (pc := 53) (x := t0) d_Mod_append_53 rfl ?_
  refine g_sI (pc := 55) d_Mod_append_55 (fun J12 => ?_)
  refine g_aload_n (pc := 56) (x := a0) d_Mod_append_56 rfl h0 ?_
  refine g_iload_n (pc := 57) (x := a1) d_Mod_append_57 rfl h1 ?_
  refine g_iload_n (pc := 58) (x := a2) d_Mod_append_58 rfl h2 ?_
  refine g_vv (pc := 59) (rest := []) (sn_Mod_noteName a0 a1 a2 J12) rfl rfl d_Mod_append_59 ck_Mod_57 (Nat.le_of_ble_eq_true rfl) (Nat.le_of_ble_eq_true rfl) (Nat.le_refl _) (Nat.le_refl _) (fun J13 => ?_)
  refine g_aload_n (pc := 62) (x := a0) d_Mod_append_62 rfl h0 ?_
  refine g_dup (pc := 63) d_Mod_append_63 ?_
  refine g_gi (pc := 64) d_Mod_append_64 fk_Mod_37 (fun v14 => ?_)
  refine g_iconst (pc := 67) (x := 1) d_Mod_append_67 (by decide) ?_
  refine g_iadd (pc := 68) d_Mod_append_68 ?_
  refine g_pI (pc := 69) d_Mod_append_69 fp_Mod_37 (fun J15 => ?_)
  refine g_aload_n (pc := 72) (x := a0) d_Mod_append_72 rfl h0 ?_
  refine g_vv (pc := 73) (rest := []) (sn_Mod_settleJumps a0 J15) rfl rfl d_Mod_append_73 ck_Mod_61 (Nat.le_of_ble_eq_true rfl) (Nat.le_of_ble_eq_true rfl) (Nat.le_refl _) (Nat.le_refl _) (fun J16 => ?_)
  exact g_ret (pc := 76) d_Mod_append_76 rfl (Nat.le_refl _) (Nat.le_refl _)
def fn_Mod_append (a0 : Nat) (a1 : Int32) (a2 : Int32) (a3 : Int32) (I : fm_I) : pR := (if a1 = 2 then (fn_Mod_append_13 a0 a1 a2 a3 a2 I) else vi 1 a0 (fn_Mod_currentSection a0 I) (fun v2 J1 => (fn_Mod_append_13 a0 a1 a2 a3 v2 J1)))
set_option maxRecDepth 10000 in
theorem sn_Mod_append (a0 : Nat) (a1 : Int32) (a2 : Int32) (a3 : Int32) (I : fm_I) : gM m_Mod_append 3 (fn_Mod_append a0 a1 a2 a3 I) [vR a0, vI a1, vI a2, vI a3] I := by
  refine gM_of (by decide) rfl (Nat.le_of_ble_eq_true rfl) ?_
  show gW c_Mod_append _ _ _ _ _
  unfold fn_Mod_append
  refine g_iload_n (pc := 0) (x := a1) d_Mod_append_0 rfl rfl ?_
  refine g_iconst (pc := 1) (x := 2) d_Mod_append_1 (by decide) ?_
  refine g_icmpne (pc := 2) (tgt := 9) d_Mod_append_2 rfl ?_ ?_
  · refine g_aload_n (pc := 9) (x := a0) d_Mod_append_9 rfl rfl ?_
    refine g_vi (pc := 10) (rest := []) (sn_Mod_currentSection a0 I) rfl rfl d_Mod_append_10 ck_Mod_53 (Nat.le_of_ble_eq_true rfl) (Nat.le_of_ble_eq_true rfl) (Nat.le_refl _) (Nat.le_refl _) (fun v2 J1 => ?_)
    exact sn_Mod_append_13 _ _ _ _ _ _ _ rfl rfl rfl rfl
  refine g_iload_n (pc := 5) (x := a2) d_Mod_append_5 rfl rfl ?_
  refine g_goto (pc := 6) (tgt := 13) d_Mod_append_6 rfl ?_
  exact sn_Mod_append_13 _ _ _ _ _ _ _ rfl rfl rfl rfl
abbrev c_SL_add : gC := (m_SL_add, 4, 0, 0, none, 0, 0)
def fn_SL_add (a0 : Nat) (a1 : Int32) (a2 : Int32) (a3 : Int32) (a4 : Int32) (I : fm_I) : pR := bi (fn_SL_isModule a1 I) (fun v2 J1 => (if v2 = 0 then (rz 0 J1) else gr 0 a0 0 (fun v3 => la 2 v3 a1 (fun v4 => vi 1 v4 (fn_Mod_accepts v4 a2 a3 a4 J1) (fun v6 J5 => (if v6 = 0 then (rz 0 J5) else gr 0 a0 0 (fun v7 => la 2 v7 a1 (fun v8 => vv 1 v8 (fn_Mod_append v8 a2 a3 a4 J5) (fun J9 => (rz 1 J9))))))))))
set_option maxRecDepth 10000 in
theorem sn_SL_add (a0 : Nat) (a1 : Int32) (a2 : Int32) (a3 : Int32) (a4 : Int32) (I : fm_I) : gM m_SL_add 4 (fn_SL_add a0 a1 a2 a3 a4 I) [vR a0, vI a1, vI a2, vI a3, vI a4] I := by
  refine gM_of (by decide) rfl (Nat.le_of_ble_eq_true rfl) ?_
  show gW c_SL_add _ _ _ _ _
  unfold fn_SL_add
  refine g_iload_n (pc := 0) (x := a1) d_SL_add_0 rfl rfl ?_
  refine g_si (pc := 1) (rest := []) (sn_SL_isModule a1 I) rfl rfl d_SL_add_1 ck_SL_54 (Nat.le_of_ble_eq_true rfl) (Nat.le_of_ble_eq_true rfl) (Nat.le_refl _) (Nat.le_refl _) (fun v2 J1 => ?_)
  refine g_ifeq (pc := 4) (tgt := 23) d_SL_add_4 rfl ?_ ?_
  · refine g_iconst (pc := 23) (x := 0) d_SL_add_23 (by decide) ?_
    exact g_zret (pc := 24) d_SL_add_24 rfl (Nat.le_refl _) (Nat.le_refl _)
  refine g_aload_n (pc := 7) (x := a0) d_SL_add_7 rfl rfl ?_
  refine g_gr (pc := 8) d_SL_add_8 fk_SL_18 (fun v3 => ?_)
  refine g_iload_n (pc := 11) (x := a1) d_SL_add_11 rfl rfl ?_
  refine g_la2 (pc := 12) d_SL_add_12 (fun v4 => ?_)
  refine g_iload_n (pc := 13) (x := a2) d_SL_add_13 rfl rfl ?_
  refine g_iload_n (pc := 14) (x := a3) d_SL_add_14 rfl rfl ?_
  refine g_iload (pc := 15) (x := a4) d_SL_add_15 rfl ?_
  refine g_vi (pc := 17) (rest := []) (sn_Mod_accepts v4 a2 a3 a4 J1) rfl rfl d_SL_add_17 ck_SL_58 (Nat.le_of_ble_eq_true rfl) (Nat.le_of_ble_eq_true rfl) (Nat.le_refl _) (Nat.le_refl _) (fun v6 J5 => ?_)
  refine g_ifne (pc := 20) (tgt := 25) d_SL_add_20 rfl ?_ ?_
  · refine g_aload_n (pc := 25) (x := a0) d_SL_add_25 rfl rfl ?_
    refine g_gr (pc := 26) d_SL_add_26 fk_SL_18 (fun v7 => ?_)
    refine g_iload_n (pc := 29) (x := a1) d_SL_add_29 rfl rfl ?_
    refine g_la2 (pc := 30) d_SL_add_30 (fun v8 => ?_)
    refine g_iload_n (pc := 31) (x := a2) d_SL_add_31 rfl rfl ?_
    refine g_iload_n (pc := 32) (x := a3) d_SL_add_32 rfl rfl ?_
    refine g_iload (pc := 33) (x := a4) d_SL_add_33 rfl ?_
    refine g_vv (pc := 35) (rest := []) (sn_Mod_append v8 a2 a3 a4 J5) rfl rfl d_SL_add_35 ck_SL_64 (Nat.le_of_ble_eq_true rfl) (Nat.le_of_ble_eq_true rfl) (Nat.le_refl _) (Nat.le_refl _) (fun J9 => ?_)
    refine g_iconst (pc := 38) (x := 1) d_SL_add_38 (by decide) ?_
    exact g_zret (pc := 39) d_SL_add_39 rfl (Nat.le_refl _) (Nat.le_refl _)
  refine g_iconst (pc := 23) (x := 0) d_SL_add_23 (by decide) ?_
  exact g_zret (pc := 24) d_SL_add_24 rfl (Nat.le_refl _) (Nat.le_refl _)
