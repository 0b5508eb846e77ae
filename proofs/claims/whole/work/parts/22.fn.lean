abbrev c_Inc_howMany : gC := (m_Inc_howMany, 1, 0, 0, none, 0, 0)
def fn_Inc_howMany (a0 : Nat) (I : fm_I) : pR := gr 2 a0 1 (fun v1 => vi 3 v1 (fn_Row_howMany v1 I) (fun v3 J2 => (ri v3 J2)))
set_option maxRecDepth 10000 in
theorem sn_Inc_howMany (a0 : Nat) (I : fm_I) : gM m_Inc_howMany 1 (fn_Inc_howMany a0 I) [vR a0] I := by
  refine gM_of (by decide) rfl (Nat.le_of_ble_eq_true rfl) ?_
  show gW c_Inc_howMany _ _ _ _ _
  unfold fn_Inc_howMany
  refine g_aload_n (pc := 0) (x := a0) d_Inc_howMany_0 rfl rfl ?_
  refine g_gr (pc := 1) d_Inc_howMany_1 fk_Inc_14 (fun v1 => ?_)
  refine g_vi (pc := 4) (rest := []) (sn_Row_howMany v1 I) rfl rfl d_Inc_howMany_4 ck_Inc_44 (Nat.le_of_ble_eq_true rfl) (Nat.le_of_ble_eq_true rfl) (Nat.le_refl _) (Nat.le_refl _) (fun v3 J2 => ?_)
  exact g_iret (pc := 7) d_Inc_howMany_7 rfl (Nat.le_refl _) (Nat.le_refl _)
abbrev c_Inc_moduleAt : gC := (m_Inc_moduleAt, 1, 0, 0, none, 0, 0)
def fn_Inc_moduleAt (a0 : Nat) (a1 : Int32) (I : fm_I) : pR := gr 2 a0 1 (fun v1 => vi 3 v1 (fn_Row_at v1 a1 I) (fun v3 J2 => (ri v3 J2)))
set_option maxRecDepth 10000 in
theorem sn_Inc_moduleAt (a0 : Nat) (a1 : Int32) (I : fm_I) : gM m_Inc_moduleAt 1 (fn_Inc_moduleAt a0 a1 I) [vR a0, vI a1] I := by
  refine gM_of (by decide) rfl (Nat.le_of_ble_eq_true rfl) ?_
  show gW c_Inc_moduleAt _ _ _ _ _
  unfold fn_Inc_moduleAt
  refine g_aload_n (pc := 0) (x := a0) d_Inc_moduleAt_0 rfl rfl ?_
  refine g_gr (pc := 1) d_Inc_moduleAt_1 fk_Inc_14 (fun v1 => ?_)
  refine g_iload_n (pc := 4) (x := a1) d_Inc_moduleAt_4 rfl rfl ?_
  refine g_vi (pc := 5) (rest := []) (sn_Row_at v1 a1 I) rfl rfl d_Inc_moduleAt_5 ck_Inc_48 (Nat.le_of_ble_eq_true rfl) (Nat.le_of_ble_eq_true rfl) (Nat.le_refl _) (Nat.le_refl _) (fun v3 J2 => ?_)
  exact g_iret (pc := 8) d_Inc_moduleAt_8 rfl (Nat.le_refl _) (Nat.le_refl _)
abbrev c_Img_layOutSections : gC := (m_Img_layOutSections, 2, 0, 0, none, 0, 0)
def fn_Img_layOutSections_19 (K7 : Nat → Int32 → fm_I → pR) : Nat → Nat → Int32 → Int32 → Int32 → fm_I → pR
  | 0, _, _, _, _, _ => none
  | n + 1, a0, a1, a2, a3, I => gr 4 a0 1 (fun v1 => vi 2 v1 (fn_Inc_howMany v1 I) (fun v3 J2 => (if v3 ≤ a3 then gr 4 a0 4 (fun v4 => gi 4 a0 6 J2 (fun v5 => sI v4 a1 (v5 - a2) J2 (fun J6 => (K7 a0 (a1 + 1) J6)))) else gr 4 a0 1 (fun v7 => vi 2 v7 (fn_Inc_moduleAt v7 a3 J2) (fun v9 J8 => gr 4 a0 2 (fun v10 => la 3 v10 v9 (fun v11 => gi 4 a0 6 J8 (fun v12 => sI v11 a1 v12 J8 (fun J13 => gi 4 a0 6 J13 (fun v14 => gr 4 a0 0 (fun v15 => la 2 v15 v9 (fun v16 => vi 1 v16 (fn_Mod_wordsIn v16 a1 J13) (fun v18 J17 => pI 4 a0 6 (v14 + v18) J17 (fun J19 => (fn_Img_layOutSections_19 K7 n a0 a1 a2 (a3 + 1) J19)))))))))))))))
set_option maxRecDepth 10000 in
theorem sn_Img_layOutSections_19 (K7 : Nat → Int32 → fm_I → pR) (hK7 : ∀ (a0 : Nat) (a1 : Int32) (I : fm_I) (L : Nat → Option am_V), L 0 = some (vR a0) → L 1 = some (vI a1) → gW c_Img_layOutSections (K7 a0 a1 I) 7 L [] I) (n : Nat) : ∀ (a0 : Nat) (a1 : Int32) (a2 : Int32) (a3 : Int32) (I : fm_I) (L : Nat → Option am_V), L 0 = some (vR a0) → L 1 = some (vI a1) → L 2 = some (vI a2) → L 3 = some (vI a3) → gW c_Img_layOutSections (fn_Img_layOutSections_19 K7 n a0 a1 a2 a3 I) 19 L [] I := by
  induction n with
  | zero =>
    intro a0 a1 a2 a3 I L h0 h1 h2 h3
    unfold fn_Img_layOutSections_19
    exact g_none
  | succ n ih =>
    intro a0 a1 a2 a3 I L h0 h1 h2 h3
    unfold fn_Img_layOutSections_19
    refine g_iload_n (pc := 19) (x := a3) d_Img_layOutSections_19 rfl h3 ?_
    refine g_aload_n (pc := 20) (x := a0) d_Img_layOutSections_20 rfl h0 ?_
    refine g_gr (pc := 21) d_Img_layOutSections_21 fk_Img_30 (fun v1 => ?_)
    refine g_vi (pc := 24) (rest := [vI a3]) (sn_Inc_howMany v1 I) rfl rfl d_Img_layOutSections_24 ck_Img_48 (Nat.le_of_ble_eq_true rfl) (Nat.le_of_ble_eq_true rfl) (Nat.le_refl _) (Nat.le_refl _) (fun v3 J2 => ?_)
    refine g_icmpge (pc := 27) (tgt := 79) d_Img_layOutSections_27 rfl ?_ ?_
    · refine g_aload_n (pc := 79) (x := a0) d_Img_layOutSections_79 rfl h0 ?_
      refine g_gr (pc := 80) d_Img_layOutSections_80 fk_Img_20 (fun v4 => ?_)
      refine g_iload_n (pc := 83) (x := a1) d_Img_layOutSections_83 rfl h1 ?_
      refine g_aload_n (pc := 84) (x := a0) d_Img_layOutSections_84 rfl h0 ?_
      refine g_gi (pc := 85) d_Img_layOutSections_85 fk_Img_44 (fun v5 => ?_)
      refine g_iload_n (pc := 88) (x := a2) d_Img_layOutSections_88 rfl h2 ?_
      refine g_isub (pc := 89) d_Img_layOutSections_89 ?_
      refine g_sI (pc := 90) d_Img_layOutSections_90 (fun J6 => ?_)
      refine g_iinc (pc := 91) (x := a1) (w := 1) d_Img_layOutSections_91 h1 (by decide) (Nat.le_of_ble_eq_true rfl) ?_
      refine g_goto (pc := 94) (tgt := 7) d_Img_layOutSections_94 rfl ?_
      exact hK7 _ _ _ _ h0 rfl
    refine g_aload_n (pc := 30) (x := a0) d_Img_layOutSections_30 rfl h0 ?_
    refine g_gr (pc := 31) d_Img_layOutSections_31 fk_Img_30 (fun v7 => ?_)
    refine g_iload_n (pc := 34) (x := a3) d_Img_layOutSections_34 rfl h3 ?_
    refine g_vi (pc := 35) (rest := []) (sn_Inc_moduleAt v7 a3 J2) rfl rfl d_Img_layOutSections_35 ck_Img_54 (Nat.le_of_ble_eq_true rfl) (Nat.le_of_ble_eq_true rfl) (Nat.le_refl _) (Nat.le_refl _) (fun v9 J8 => ?_)
    refine g_istore (pc := 38) (x := v9) d_Img_layOutSections_38 (Nat.le_of_ble_eq_true rfl) ?_
    refine g_aload_n (pc := 40) (x := a0) d_Img_layOutSections_40 rfl h0 ?_
    refine g_gr (pc := 41) d_Img_layOutSections_41 fk_Img_11 (fun v10 => ?_)
    refine g_iload (pc := 44) (x := v9) d_Img_layOutSections_44 rfl ?_
    refine g_la3 (pc := 46) d_Img_layOutSections_46 (fun v11 => ?_)
    refine g_iload_n (pc := 47) (x := a1) d_Img_layOutSections_47 rfl h1 ?_
    refine g_aload_n (pc := 48) (x := a0) d_Img_layOutSections_48 rfl h0 ?_
    refine g_gi (pc := 49) d_Img_layOutSections_49 fk_Img_44 (fun v12 => ?_)
    refine g_sI (pc := 52) d_Img_layOutSections_52 (fun J13 => ?_)
    refine g_aload_n (pc := 53) (x := a0) d_Img_layOutSections_53 rfl h0 ?_
    refine g_dup (pc := 54) d_Img_layOutSections_54 ?_
    refine g_gi (pc := 55) d_Img_layOutSections_55 fk_Img_44 (fun v14 => ?_)
    refine g_aload_n (pc := 58) (x := a0) d_Img_layOutSections_58 rfl h0 ?_
    refine g_gr (pc := 59) d_Img_layOutSections_59 fk_Img_26 (fun v15 => ?_)
    refine g_iload (pc := 62) (x := v9) d_Img_layOutSections_62 rfl ?_
    refine g_la2 (pc := 64) d_Img_layOutSections_64 (fun v16 => ?_)
    refine g_iload_n (pc := 65) (x := a1) d_Img_layOutSections_65 rfl h1 ?_
    refine g_vi (pc := 66) (rest := [vI v14, vR a0]) (sn_Mod_wordsIn v16 a1 J13) rfl rfl d_Img_layOutSections_66 ck_Img_85 (Nat.le_of_ble_eq_true rfl) (Nat.le_of_ble_eq_true rfl) (Nat.le_refl _) (Nat.le_refl _) (fun v18 J17 => ?_)
    refine g_iadd (pc := 69) d_Img_layOutSections_69 ?_
    refine g_pI (pc := 70) d_Img_layOutSections_70 fp_Img_44 (fun J19 => ?_)
    refine g_iinc (pc := 73) (x := a3) (w := 1) d_Img_layOutSections_73 h3 (by decide) (Nat.le_of_ble_eq_true rfl) ?_
    refine g_goto (pc := 76) (tgt := 19) d_Img_layOutSections_76 rfl ?_
    exact ih _ _ _ _ _ _ h0 h1 h2 rfl
def fn_Img_layOutSections_7 : Nat → Nat → Int32 → fm_I → pR
  | 0, _, _, _ => none
  | n + 1, a0, a1, I => (if 3 ≤ a1 then (rv I) else gi 4 a0 6 I (fun v1 => (fn_Img_layOutSections_19 (fun a0 a1 I => fn_Img_layOutSections_7 n a0 a1 I) FU a0 a1 v1 0 I)))
set_option maxRecDepth 10000 in
theorem sn_Img_layOutSections_7 (n : Nat) : ∀ (a0 : Nat) (a1 : Int32) (I : fm_I) (L : Nat → Option am_V), L 0 = some (vR a0) → L 1 = some (vI a1) → gW c_Img_layOutSections (fn_Img_layOutSections_7 n a0 a1 I) 7 L [] I := by
  induction n with
  | zero =>
    intro a0 a1 I L h0 h1
    unfold fn_Img_layOutSections_7
    exact g_none
  | succ n ih =>
    intro a0 a1 I L h0 h1
    unfold fn_Img_layOutSections_7
    refine g_iload_n (pc := 7) (x := a1) d_Img_layOutSections_7 rfl h1 ?_
    refine g_iconst (pc := 8) (x := 3) d_Img_layOutSections_8 (by decide) ?_
    refine g_icmpge (pc := 9) (tgt := 97) d_Img_layOutSections_9 rfl ?_ ?_
    · exact g_ret (pc := 97) d_Img_layOutSections_97 rfl (Nat.le_refl _) (Nat.le_refl _)
    refine g_aload_n (pc := 12) (x := a0) d_Img_layOutSections_12 rfl h0 ?_
    refine g_gi (pc := 13) d_Img_layOutSections_13 fk_Img_44 (fun v1 => ?_)
    refine g_istore_n (pc := 16) (x := v1) d_Img_layOutSections_16 rfl (Nat.le_of_ble_eq_true rfl) ?_
    refine g_iconst (pc := 17) (x := 0) d_Img_layOutSections_17 (by decide) ?_
    refine g_istore_n (pc := 18) (x := 0) d_Img_layOutSections_18 rfl (Nat.le_of_ble_eq_true rfl) ?_
    exact sn_Img_layOutSections_19 _ ih FU _ _ _ _ _ _ h0 h1 rfl rfl
def fn_Img_layOutSections (a0 : Nat) (I : fm_I) : pR := pI 4 a0 6 0 I (fun J1 => (fn_Img_layOutSections_7 FU a0 0 J1))
set_option maxRecDepth 10000 in
theorem sn_Img_layOutSections (a0 : Nat) (I : fm_I) : gM m_Img_layOutSections 2 (fn_Img_layOutSections a0 I) [vR a0] I := by
  refine gM_of (by decide) rfl (Nat.le_of_ble_eq_true rfl) ?_
  show gW c_Img_layOutSections _ _ _ _ _
  unfold fn_Img_layOutSections
  refine g_aload_n (pc := 0) (x := a0) d_Img_layOutSections_0 rfl rfl ?_
  refine g_iconst (pc := 1) (x := 0) d_Img_layOutSections_1 (by decide) ?_
  refine g_pI (pc := 2) d_Img_layOutSections_2 fp_Img_44 (fun J1 => ?_)
  refine g_iconst (pc := 5) (x := 0) d_Img_layOutSections_5 (by decide) ?_
  refine g_istore_n (pc := 6) (x := 0) d_Img_layOutSections_6 rfl (Nat.le_of_ble_eq_true rfl) ?_
  exact sn_Img_layOutSections_7 FU _ _ _ _ rfl rfl
abbrev c_Inc_isLoneCommon : gC := (m_Inc_isLoneCommon, 1, 0, 0, none, 0, 0)
def fn_Inc_isLoneCommon (a0 : Nat) (a1 : Int32) (I : fm_I) : pR := gi 2 a0 4 I (fun v1 => gi 2 a0 3 I (fun v2 => bi (fn_SL_hasName (v1 &&& (v2 ^^^ (-1))) a1 I) (fun v4 J3 => (rz v4 J3))))
set_option maxRecDepth 10000 in
theorem sn_Inc_isLoneCommon (a0 : Nat) (a1 : Int32) (I : fm_I) : gM m_Inc_isLoneCommon 1 (fn_Inc_isLoneCommon a0 a1 I) [vR a0, vI a1] I := by
  refine gM_of (by decide) rfl (Nat.le_of_ble_eq_true rfl) ?_
  show gW c_Inc_isLoneCommon _ _ _ _ _
  unfold fn_Inc_isLoneCommon
  refine g_aload_n (pc := 0) (x := a0) d_Inc_isLoneCommon_0 rfl rfl ?_
  refine g_gi (pc := 1) d_Inc_isLoneCommon_1 fk_Inc_38 (fun v1 => ?_)
  refine g_aload_n (pc := 4) (x := a0) d_Inc_isLoneCommon_4 rfl rfl ?_
  refine g_gi (pc := 5) d_Inc_isLoneCommon_5 fk_Inc_35 (fun v2 => ?_)
  refine g_iconst (pc := 8) (x := (-1)) d_Inc_isLoneCommon_8 (by decide) ?_
  refine g_ixor (pc := 9) d_Inc_isLoneCommon_9 ?_
  refine g_iand (pc := 10) d_Inc_isLoneCommon_10 ?_
  refine g_iload_n (pc := 11) (x := a1) d_Inc_isLoneCommon_11 rfl rfl ?_
  refine g_ni (pc := 12) (rest := []) (sn_SL_hasName (v1 &&& (v2 ^^^ (-1))) a1 I) rfl rfl d_Inc_isLoneCommon_12 ck_Inc_58 (Nat.le_of_ble_eq_true rfl) (Nat.le_of_ble_eq_true rfl) (Nat.le_refl _) (Nat.le_refl _) (fun v4 J3 => ?_)
  exact g_zret (pc := 15) d_Inc_isLoneCommon_15 rfl (Nat.le_refl _) (Nat.le_refl _)
abbrev c_Mod_wordsOfCommon : gC := (m_Mod_wordsOfCommon, 1, 0, 0, none, 0, 0)
def fn_Mod_wordsOfCommon (a0 : Nat) (a1 : Int32) (I : fm_I) : pR := gi 1 a0 10 I (fun v1 => bi (fn_SL_hasName v1 a1 I) (fun v3 J2 => (if v3 = 0 then (ri 0 J2) else gr 1 a0 2 (fun v4 => gr 1 a0 7 (fun v5 => ld 0 v5 a1 J2 (fun v6 => ld 0 v4 v6 J2 (fun v7 => (ri v7 J2))))))))
set_option maxRecDepth 10000 in
theorem sn_Mod_wordsOfCommon (a0 : Nat) (a1 : Int32) (I : fm_I) : gM m_Mod_wordsOfCommon 1 (fn_Mod_wordsOfCommon a0 a1 I) [vR a0, vI a1] I := by
  refine gM_of (by decide) rfl (Nat.le_of_ble_eq_true rfl) ?_
  show gW c_Mod_wordsOfCommon _ _ _ _ _
  unfold fn_Mod_wordsOfCommon
  refine g_aload_n (pc := 0) (x := a0) d_Mod_wordsOfCommon_0 rfl rfl ?_
  refine g_gi (pc := 1) d_Mod_wordsOfCommon_1 fk_Mod_67 (fun v1 => ?_)
  refine g_iload_n (pc := 4) (x := a1) d_Mod_wordsOfCommon_4 rfl rfl ?_
  refine g_ni (pc := 5) (rest := []) (sn_SL_hasName v1 a1 I) rfl rfl d_Mod_wordsOfCommon_5 ck_Mod_76 (Nat.le_of_ble_eq_true rfl) (Nat.le_of_ble_eq_true rfl) (Nat.le_refl _) (Nat.le_refl _) (fun v3 J2 => ?_)
  refine g_ifeq (pc := 8) (tgt := 25) d_Mod_wordsOfCommon_8 rfl ?_ ?_
  · refine g_iconst (pc := 25) (x := 0) d_Mod_wordsOfCommon_25 (by decide) ?_
    exact g_iret (pc := 26) d_Mod_wordsOfCommon_26 rfl (Nat.le_refl _) (Nat.le_refl _)
  refine g_aload_n (pc := 11) (x := a0) d_Mod_wordsOfCommon_11 rfl rfl ?_
  refine g_gr (pc := 12) d_Mod_wordsOfCommon_12 fk_Mod_18 (fun v4 => ?_)
  refine g_aload_n (pc := 15) (x := a0) d_Mod_wordsOfCommon_15 rfl rfl ?_
  refine g_gr (pc := 16) d_Mod_wordsOfCommon_16 fk_Mod_34 (fun v5 => ?_)
  refine g_iload_n (pc := 19) (x := a1) d_Mod_wordsOfCommon_19 rfl rfl ?_
  refine g_ldI (pc := 20) d_Mod_wordsOfCommon_20 (fun v6 => ?_)
  refine g_ldI (pc := 21) d_Mod_wordsOfCommon_21 (fun v7 => ?_)
  refine g_goto (pc := 22) (tgt := 26) d_Mod_wordsOfCommon_22 rfl ?_
  exact g_iret (pc := 26) d_Mod_wordsOfCommon_26 rfl (Nat.le_refl _) (Nat.le_refl _)
abbrev c_Img_largestCommon : gC := (m_Img_largestCommon, 2, 0, 0, none, 0, 0)
def fn_Img_largestCommon_4 : Nat → Nat → Int32 → Int32 → Int32 → fm_I → pR
  | 0, _, _, _, _, _ => none
  | n + 1, a0, a1, a2, a3, I => gr 4 a0 1 (fun v1 => vi 2 v1 (fn_Inc_howMany v1 I) (fun v3 J2 => (if v3 ≤ a3 then (ri a2 J2) else gr 4 a0 0 (fun v4 => gr 4 a0 1 (fun v5 => vi 2 v5 (fn_Inc_moduleAt v5 a3 J2) (fun v7 J6 => la 2 v4 v7 (fun v8 => vi 1 v8 (fn_Mod_wordsOfCommon v8 a1 J6) (fun v10 J9 => bn (if a2 < v10 then v10 else a2) (fun v11 => (fn_Img_largestCommon_4 n a0 a1 v11 (a3 + 1) J9))))))))))
set_option maxRecDepth 10000 in
theorem sn_Img_largestCommon_4 (n : Nat) : ∀ (a0 : Nat) (a1 : Int32) (a2 : Int32) (a3 : Int32) (I : fm_I) (L : Nat → Option am_V), L 0 = some (vR a0) → L 1 = some (vI a1) → L 2 = some (vI a2) → L 3 = some (vI a3) → gW c_Img_largestCommon (fn_Img_largestCommon_4 n a0 a1 a2 a3 I) 4 L [] I := by
  induction n with
  | zero =>
    intro a0 a1 a2 a3 I L h0 h1 h2 h3
    unfold fn_Img_largestCommon_4
    exact g_none
  | succ n ih =>
    intro a0 a1 a2 a3 I L h0 h1 h2 h3
    unfold fn_Img_largestCommon_4
    refine g_iload_n (pc := 4) (x := a3) d_Img_largestCommon_4 rfl h3 ?_
    refine g_aload_n (pc := 5) (x := a0) d_Img_largestCommon_5 rfl h0 ?_
    refine g_gr (pc := 6) d_Img_largestCommon_6 fk_Img_30 (fun v1 => ?_)
    refine g_vi (pc := 9) (rest := [vI a3]) (sn_Inc_howMany v1 I) rfl rfl d_Img_largestCommon_9 ck_Img_48 (Nat.le_of_ble_eq_true rfl) (Nat.le_of_ble_eq_true rfl) (Nat.le_refl _) (Nat.le_refl _) (fun v3 J2 => ?_)
    refine g_icmpge (pc := 12) (tgt := 47) d_Img_largestCommon_12 rfl ?_ ?_
    · refine g_iload_n (pc := 47) (x := a2) d_Img_largestCommon_47 rfl h2 ?_
      exact g_iret (pc := 48) d_Img_largestCommon_48 rfl (Nat.le_refl _) (Nat.le_refl _)
    refine g_aload_n (pc := 15) (x := a0) d_Img_largestCommon_15 rfl h0 ?_
    refine g_gr (pc := 16) d_Img_largestCommon_16 fk_Img_26 (fun v4 => ?_)
    refine g_aload_n (pc := 19) (x := a0) d_Img_largestCommon_19 rfl h0 ?_
    refine g_gr (pc := 20) d_Img_largestCommon_20 fk_Img_30 (fun v5 => ?_)
    refine g_iload_n (pc := 23) (x := a3) d_Img_largestCommon_23 rfl h3 ?_
    refine g_vi (pc := 24) (rest := [vR v4]) (sn_Inc_moduleAt v5 a3 J2) rfl rfl d_Img_largestCommon_24 ck_Img_54 (Nat.le_of_ble_eq_true rfl) (Nat.le_of_ble_eq_true rfl) (Nat.le_refl _) (Nat.le_refl _) (fun v7 J6 => ?_)
    refine g_la2 (pc := 27) d_Img_largestCommon_27 (fun v8 => ?_)
    refine g_iload_n (pc := 28) (x := a1) d_Img_largestCommon_28 rfl h1 ?_
    refine g_vi (pc := 29) (rest := []) (sn_Mod_wordsOfCommon v8 a1 J6) rfl rfl d_Img_largestCommon_29 ck_Img_96 (Nat.le_of_ble_eq_true rfl) (Nat.le_of_ble_eq_true rfl) (Nat.le_refl _) (Nat.le_refl _) (fun v10 J9 => ?_)
    refine g_istore (pc := 32) (x := v10) d_Img_largestCommon_32 (Nat.le_of_ble_eq_true rfl) ?_
    refine g_iload_n (pc := 34) (x := a2) d_Img_largestCommon_34 rfl h2 ?_
    refine g_iload (pc := 35) (x := v10) d_Img_largestCommon_35 rfl ?_
    refine g_mx (pc := 37) d_Img_largestCommon_37 ml_Img_99 (Nat.le_of_ble_eq_true rfl) (Nat.le_of_ble_eq_true rfl) (Nat.le_refl _) (Nat.le_refl _) (fun v11 => ?_)
    refine g_istore_n (pc := 40) (x := v11) d_Img_largestCommon_40 rfl (Nat.le_of_ble_eq_true rfl) ?_
    refine g_iinc (pc := 41) (x := a3) (w := 1) d_Img_largestCommon_41 h3 (by decide) (Nat.le_of_ble_eq_true rfl) ?_
    refine g_goto (pc := 44) (tgt := 4) d_Img_largestCommon_44 rfl ?_
    exact ih _ _ _ _ _ _ h0 h1 rfl rfl
def fn_Img_largestCommon (a0 : Nat) (a1 : Int32) (I : fm_I) : pR := (fn_Img_largestCommon_4 FU a0 a1 0 0 I)
set_option maxRecDepth 10000 in
theorem sn_Img_largestCommon (a0 : Nat) (a1 : Int32) (I : fm_I) : gM m_Img_largestCommon 2 (fn_Img_largestCommon a0 a1 I) [vR a0, vI a1] I := by
  refine gM_of (by decide) rfl (Nat.le_of_ble_eq_true rfl) ?_
  show gW c_Img_largestCommon _ _ _ _ _
  unfold fn_Img_largestCommon
  refine g_iconst (pc := 0) (x := 0) d_Img_largestCommon_0 (by decide) ?_
  refine g_istore_n (pc := 1) (x := 0) d_Img_largestCommon_1 rfl (Nat.le_of_ble_eq_true rfl) ?_
  refine g_iconst (pc := 2) (x := 0) d_Img_largestCommon_2 (by decide) ?_
  refine g_istore_n (pc := 3) (x := 0) d_Img_largestCommon_3 rfl (Nat.le_of_ble_eq_true rfl) ?_
  exact sn_Img_largestCommon_4 FU _ _ _ _ _ _ rfl rfl rfl rfl
abbrev c_Img_layOutCommons : gC := (m_Img_layOutCommons, 3, 0, 0, none, 0, 0)
def fn_Img_layOutCommons_2 : Nat → Nat → Int32 → fm_I → pR
  | 0, _, _, _ => none
  | n + 1, a0, a1, I => (if 16 ≤ a1 then (rv I) else gr 4 a0 5 (fun v1 => sI v1 a1 (-1) I (fun J2 => gr 4 a0 1 (fun v3 => vi 2 v3 (fn_Inc_isLoneCommon v3 a1 J2) (fun v5 J4 => (if v5 = 0 then (fn_Img_layOutCommons_2 n a0 (a1 + 1) J4) else vi 4 a0 (fn_Img_largestCommon a0 a1 J4) (fun v7 J6 => gr 4 a0 5 (fun v8 => gi 4 a0 6 J6 (fun v9 => sI v8 a1 v9 J6 (fun J10 => gi 4 a0 6 J10 (fun v11 => pI 4 a0 6 (v11 + v7) J10 (fun J12 => gr 4 a0 4 (fun v13 => ld 0 v13 2 J12 (fun v14 => sI v13 2 (v14 + v7) J12 (fun J15 => (fn_Img_layOutCommons_2 n a0 (a1 + 1) J15))))))))))))))))
set_option maxRecDepth 10000 in
theorem sn_Img_layOutCommons_2 (n : Nat) : ∀ (a0 : Nat) (a1 : Int32) (I : fm_I) (L : Nat → Option am_V), L 0 = some (vR a0) → L 1 = some (vI a1) → gW c_Img_layOutCommons (fn_Img_layOutCommons_2 n a0 a1 I) 2 L [] I := by
  induction n with
  | zero =>
    intro a0 a1 I L h0 h1
    unfold fn_Img_layOutCommons_2
    exact g_none
  | succ n ih =>
    intro a0 a1 I L h0 h1
    unfold fn_Img_layOutCommons_2
    refine g_iload_n (pc := 2) (x := a1) d_Img_layOutCommons_2 rfl h1 ?_
    refine g_bipush (pc := 3) (x := 16) d_Img_layOutCommons_3 (by decide) ?_
    refine g_icmpge (pc := 5) (tgt := 68) d_Img_layOutCommons_5 rfl ?_ ?_
    · exact g_ret (pc := 68) d_Img_layOutCommons_68 rfl (Nat.le_refl _) (Nat.le_refl _)
    refine g_aload_n (pc := 8) (x := a0) d_Img_layOutCommons_8 rfl h0 ?_
    refine g_gr (pc := 9) d_Img_layOutCommons_9 fk_Img_23 (fun v1 => ?_)
    refine g_iload_n (pc := 12) (x := a1) d_Img_layOutCommons_12 rfl h1 ?_
    refine g_iconst (pc := 13) (x := (-1)) d_Img_layOutCommons_13 (by decide) ?_
    refine g_sI (pc := 14) d_Img_layOutCommons_14 (fun J2 => ?_)
    refine g_aload_n (pc := 15) (x := a0) d_Img_layOutCommons_15 rfl h0 ?_
    refine g_gr (pc := 16) d_Img_layOutCommons_16 fk_Img_30 (fun v3 => ?_)
    refine g_iload_n (pc := 19) (x := a1) d_Img_layOutCommons_19 rfl h1 ?_
    refine g_vi (pc := 20) (rest := []) (sn_Inc_isLoneCommon v3 a1 J2) rfl rfl d_Img_layOutCommons_20 ck_Img_90 (Nat.le_of_ble_eq_true rfl) (Nat.le_of_ble_eq_true rfl) (Nat.le_refl _) (Nat.le_refl _) (fun v5 J4 => ?_)
    refine g_ifeq (pc := 23) (tgt := 62) d_Img_layOutCommons_23 rfl ?_ ?_
    · refine g_iinc (pc := 62) (x := a1) (w := 1) d_Img_layOutCommons_62 h1 (by decide) (Nat.le_of_ble_eq_true rfl) ?_
      refine g_goto (pc := 65) (tgt := 2) d_Img_layOutCommons_65 rfl ?_
      exact ih _ _ _ _ h0 rfl
    refine g_aload_n (pc := 26) (x := a0) d_Img_layOutCommons_26 rfl h0 ?_
    refine g_iload_n (pc := 27) (x := a1) d_Img_layOutCommons_27 rfl h1 ?_
    refine g_vi (pc := 28) (rest := []) (sn_Img_largestCommon a0 a1 J4) rfl rfl d_Img_layOutCommons_28 ck_Img_93 (Nat.le_of_ble_eq_true rfl) (Nat.le_of_ble_eq_true rfl) (Nat.le_refl _) (Nat.le_refl _) (fun v7 J6 => ?_)
    refine g_istore_n (pc := 31) (x := v7) d_Img_layOutCommons_31 rfl (Nat.le_of_ble_eq_true rfl) ?_
    refine g_aload_n (pc := 32) (x := a0) d_Img_layOutCommons_32 rfl h0 ?_
    refine g_gr (pc := 33) d_Img_layOutCommons_33 fk_Img_23 (fun v8 => ?_)
    refine g_iload_n (pc := 36) (x := a1) d_Img_layOutCommons_36 rfl h1 ?_
    refine g_aload_n (pc := 37) (x := a0) d_Img_layOutCommons_37 rfl h0 ?_
    refine g_gi (pc := 38) d_Img_layOutCommons_38 fk_Img_44 (fun v9 => ?_)
    refine g_sI (pc := 41) d_Img_layOutCommons_41 (fun J10 => ?_)
    refine g_aload_n (pc := 42) (x := a0) d_Img_layOutCommons_42 rfl h0 ?_
    refine g_dup (pc := 43) d_Img_layOutCommons_43 ?_
    refine g_gi (pc := 44) d_Img_layOutCommons_44 fk_Img_44 (fun v11 => ?_)
    refine g_iload_n (pc := 47) (x := v7) d_Img_layOutCommons_47 rfl rfl ?_
    refine g_iadd (pc := 48) d_Img_layOutCommons_48 ?_
    refine g_pI (pc := 49) d_Img_layOutCommons_49 fp_Img_44 (fun J12 => ?_)
    refine g_aload_n (pc := 52) (x := a0) d_Img_layOutCommons_52 rfl h0 ?_
    refine g_gr (pc := 53) d_Img_layOutCommons_53 fk_Img_20 (fun v13 => ?_)
    refine g_iconst (pc := 56) (x := 2) d_Img_layOutCommons_56 (by decide) ?_
    refine g_dup2 (pc := 57) d_Img_layOutCommons_57 ?_
    refine g_ldI (pc := 58) d_Img_layOutCommons_58 (fun v14 => ?_)
    refine g_iload_n (pc := 59) (x := v7) d_Img_layOutCommons_59 rfl rfl ?_
    refine g_iadd (pc := 60) d_Img_layOutCommons_60 ?_
    refine g_sI (pc := 61) d_Img_layOutCommons_61 (fun J15 => ?_)
    refine g_iinc (pc := 62) (x := a1) (w := 1) d_Img_layOutCommons_62 h1 (by decide) (Nat.le_of_ble_eq_true rfl) ?_
    refine g_goto (pc := 65) (tgt := 2) d_Img_layOutCommons_65 rfl ?_
    exact ih _ _ _ _ h0 rfl
def fn_Img_layOutCommons (a0 : Nat) (I : fm_I) : pR := (fn_Img_layOutCommons_2 FU a0 0 I)
set_option maxRecDepth 10000 in
theorem sn_Img_layOutCommons (a0 : Nat) (I : fm_I) : gM m_Img_layOutCommons 3 (fn_Img_layOutCommons a0 I) [vR a0] I := by
  refine gM_of (by decide) rfl (Nat.le_of_ble_eq_true rfl) ?_
  show gW c_Img_layOutCommons _ _ _ _ _
  unfold fn_Img_layOutCommons
  refine g_iconst (pc := 0) (x := 0) d_Img_layOutCommons_0 (by decide) ?_
  refine g_istore_n (pc := 1) (x := 0) d_Img_layOutCommons_1 rfl (Nat.le_of_ble_eq_true rfl) ?_
  exact sn_Img_layOutCommons_2 FU _ _ _ _ rfl rfl
abbrev c_Mod_defines : gC := (m_Mod_defines, 1, 0, 0, none, 0, 0)
def fn_Mod_defines (a0 : Nat) (a1 : Int32) (I : fm_I) : pR := gi 1 a0 9 I (fun v1 => bi (fn_SL_hasName v1 a1 I) (fun v3 J2 => (rz v3 J2)))
set_option maxRecDepth 10000 in
theorem sn_Mod_defines (a0 : Nat) (a1 : Int32) (I : fm_I) : gM m_Mod_defines 1 (fn_Mod_defines a0 a1 I) [vR a0, vI a1] I := by
  refine gM_of (by decide) rfl (Nat.le_of_ble_eq_true rfl) ?_
  show gW c_Mod_defines _ _ _ _ _
  unfold fn_Mod_defines
  refine g_aload_n (pc := 0) (x := a0) d_Mod_defines_0 rfl rfl ?_
  refine g_gi (pc := 1) d_Mod_defines_1 fk_Mod_64 (fun v1 => ?_)
  refine g_iload_n (pc := 4) (x := a1) d_Mod_defines_4 rfl rfl ?_
  refine g_ni (pc := 5) (rest := []) (sn_SL_hasName v1 a1 I) rfl rfl d_Mod_defines_5 ck_Mod_76 (Nat.le_of_ble_eq_true rfl) (Nat.le_of_ble_eq_true rfl) (Nat.le_refl _) (Nat.le_refl _) (fun v3 J2 => ?_)
  exact g_zret (pc := 8) d_Mod_defines_8 rfl (Nat.le_refl _) (Nat.le_refl _)
abbrev c_Mod_holderOf : gC := (m_Mod_holderOf, 0, 0, 0, none, 0, 0)
def fn_Mod_holderOf (a0 : Nat) (a1 : Int32) (I : fm_I) : pR := gr 1 a0 7 (fun v1 => ld 0 v1 a1 I (fun v2 => (ri v2 I)))
set_option maxRecDepth 10000 in
theorem sn_Mod_holderOf (a0 : Nat) (a1 : Int32) (I : fm_I) : gM m_Mod_holderOf 0 (fn_Mod_holderOf a0 a1 I) [vR a0, vI a1] I := by
  refine gM_of (by decide) rfl (Nat.le_of_ble_eq_true rfl) ?_
  show gW c_Mod_holderOf _ _ _ _ _
  unfold fn_Mod_holderOf
  refine g_aload_n (pc := 0) (x := a0) d_Mod_holderOf_0 rfl rfl ?_
  refine g_gr (pc := 1) d_Mod_holderOf_1 fk_Mod_34 (fun v1 => ?_)
  refine g_iload_n (pc := 4) (x := a1) d_Mod_holderOf_4 rfl rfl ?_
  refine g_ldI (pc := 5) d_Mod_holderOf_5 (fun v2 => ?_)
  exact g_iret (pc := 6) d_Mod_holderOf_6 rfl (Nat.le_refl _) (Nat.le_refl _)
abbrev c_Mod_kindOf : gC := (m_Mod_kindOf, 0, 0, 0, none, 0, 0)
def fn_Mod_kindOf (a0 : Nat) (a1 : Int32) (I : fm_I) : pR := gr 1 a0 0 (fun v1 => ld 0 v1 a1 I (fun v2 => (ri v2 I)))
set_option maxRecDepth 10000 in
theorem sn_Mod_kindOf (a0 : Nat) (a1 : Int32) (I : fm_I) : gM m_Mod_kindOf 0 (fn_Mod_kindOf a0 a1 I) [vR a0, vI a1] I := by
  refine gM_of (by decide) rfl (Nat.le_of_ble_eq_true rfl) ?_
  show gW c_Mod_kindOf _ _ _ _ _
  unfold fn_Mod_kindOf
  refine g_aload_n (pc := 0) (x := a0) d_Mod_kindOf_0 rfl rfl ?_
  refine g_gr (pc := 1) d_Mod_kindOf_1 fk_Mod_9 (fun v1 => ?_)
  refine g_iload_n (pc := 4) (x := a1) d_Mod_kindOf_4 rfl rfl ?_
  refine g_ldI (pc := 5) d_Mod_kindOf_5 (fun v2 => ?_)
  exact g_iret (pc := 6) d_Mod_kindOf_6 rfl (Nat.le_refl _) (Nat.le_refl _)
abbrev c_Mod_secondOf : gC := (m_Mod_secondOf, 0, 0, 0, none, 0, 0)
def fn_Mod_secondOf (a0 : Nat) (a1 : Int32) (I : fm_I) : pR := gr 1 a0 2 (fun v1 => ld 0 v1 a1 I (fun v2 => (ri v2 I)))
set_option maxRecDepth 10000 in
theorem sn_Mod_secondOf (a0 : Nat) (a1 : Int32) (I : fm_I) : gM m_Mod_secondOf 0 (fn_Mod_secondOf a0 a1 I) [vR a0, vI a1] I := by
  refine gM_of (by decide) rfl (Nat.le_of_ble_eq_true rfl) ?_
  show gW c_Mod_secondOf _ _ _ _ _
  unfold fn_Mod_secondOf
  refine g_aload_n (pc := 0) (x := a0) d_Mod_secondOf_0 rfl rfl ?_
  refine g_gr (pc := 1) d_Mod_secondOf_1 fk_Mod_18 (fun v1 => ?_)
  refine g_iload_n (pc := 4) (x := a1) d_Mod_secondOf_4 rfl rfl ?_
  refine g_ldI (pc := 5) d_Mod_secondOf_5 (fun v2 => ?_)
  exact g_iret (pc := 6) d_Mod_secondOf_6 rfl (Nat.le_refl _) (Nat.le_refl _)
abbrev c_Mod_sectionOf : gC := (m_Mod_sectionOf, 0, 0, 0, none, 0, 0)
def fn_Mod_sectionOf (a0 : Nat) (a1 : Int32) (I : fm_I) : pR := gr 1 a0 3 (fun v1 => ld 0 v1 a1 I (fun v2 => (ri v2 I)))
set_option maxRecDepth 10000 in
theorem sn_Mod_sectionOf (a0 : Nat) (a1 : Int32) (I : fm_I) : gM m_Mod_sectionOf 0 (fn_Mod_sectionOf a0 a1 I) [vR a0, vI a1] I := by
  refine gM_of (by decide) rfl (Nat.le_of_ble_eq_true rfl) ?_
  show gW c_Mod_sectionOf _ _ _ _ _
  unfold fn_Mod_sectionOf
  refine g_aload_n (pc := 0) (x := a0) d_Mod_sectionOf_0 rfl rfl ?_
  refine g_gr (pc := 1) d_Mod_sectionOf_1 fk_Mod_21 (fun v1 => ?_)
  refine g_iload_n (pc := 4) (x := a1) d_Mod_sectionOf_4 rfl rfl ?_
  refine g_ldI (pc := 5) d_Mod_sectionOf_5 (fun v2 => ?_)
  exact g_iret (pc := 6) d_Mod_sectionOf_6 rfl (Nat.le_refl _) (Nat.le_refl _)
abbrev c_Mod_placeOf : gC := (m_Mod_placeOf, 0, 0, 0, none, 0, 0)
def fn_Mod_placeOf (a0 : Nat) (a1 : Int32) (I : fm_I) : pR := gr 1 a0 4 (fun v1 => ld 0 v1 a1 I (fun v2 => (ri v2 I)))
set_option maxRecDepth 10000 in
theorem sn_Mod_placeOf (a0 : Nat) (a1 : Int32) (I : fm_I) : gM m_Mod_placeOf 0 (fn_Mod_placeOf a0 a1 I) [vR a0, vI a1] I := by
  refine gM_of (by decide) rfl (Nat.le_of_ble_eq_true rfl) ?_
  show gW c_Mod_placeOf _ _ _ _ _
  unfold fn_Mod_placeOf
  refine g_aload_n (pc := 0) (x := a0) d_Mod_placeOf_0 rfl rfl ?_
  refine g_gr (pc := 1) d_Mod_placeOf_1 fk_Mod_24 (fun v1 => ?_)
  refine g_iload_n (pc := 4) (x := a1) d_Mod_placeOf_4 rfl rfl ?_
  refine g_ldI (pc := 5) d_Mod_placeOf_5 (fun v2 => ?_)
  exact g_iret (pc := 6) d_Mod_placeOf_6 rfl (Nat.le_refl _) (Nat.le_refl _)
abbrev c_Img_addressOf : gC := (m_Img_addressOf, 1, 0, 0, none, 0, 0)
def fn_Img_addressOf (a0 : Nat) (a1 : Int32) (a2 : Int32) (I : fm_I) : pR := gr 4 a0 0 (fun v1 => la 2 v1 a1 (fun v2 => gr 4 a0 2 (fun v3 => la 3 v3 a1 (fun v4 => vi 1 v2 (fn_Mod_sectionOf v2 a2 I) (fun v6 J5 => ld 0 v4 v6 J5 (fun v7 => vi 1 v2 (fn_Mod_placeOf v2 a2 J5) (fun v9 J8 => (ri (v7 + v9) J8))))))))
set_option maxRecDepth 10000 in
theorem sn_Img_addressOf (a0 : Nat) (a1 : Int32) (a2 : Int32) (I : fm_I) : gM m_Img_addressOf 1 (fn_Img_addressOf a0 a1 a2 I) [vR a0, vI a1, vI a2] I := by
  refine gM_of (by decide) rfl (Nat.le_of_ble_eq_true rfl) ?_
  show gW c_Img_addressOf _ _ _ _ _
  unfold fn_Img_addressOf
  refine g_aload_n (pc := 0) (x := a0) d_Img_addressOf_0 rfl rfl ?_
  refine g_gr (pc := 1) d_Img_addressOf_1 fk_Img_26 (fun v1 => ?_)
  refine g_iload_n (pc := 4) (x := a1) d_Img_addressOf_4 rfl rfl ?_
  refine g_la2 (pc := 5) d_Img_addressOf_5 (fun v2 => ?_)
  refine g_astore_n (pc := 6) (x := v2) d_Img_addressOf_6 rfl (Nat.le_of_ble_eq_true rfl) ?_
  refine g_aload_n (pc := 7) (x := a0) d_Img_addressOf_7 rfl rfl ?_
  refine g_gr (pc := 8) d_Img_addressOf_8 fk_Img_11 (fun v3 => ?_)
  refine g_iload_n (pc := 11) (x := a1) d_Img_addressOf_11 rfl rfl ?_
  refine g_la3 (pc := 12) d_Img_addressOf_12 (fun v4 => ?_)
  refine g_aload_n (pc := 13) (x := v2) d_Img_addressOf_13 rfl rfl ?_
  refine g_iload_n (pc := 14) (x := a2) d_Img_addressOf_14 rfl rfl ?_
  refine g_vi (pc := 15) (rest := [vR v4]) (sn_Mod_sectionOf v2 a2 I) rfl rfl d_Img_addressOf_15 ck_Img_130 (Nat.le_of_ble_eq_true rfl) (Nat.le_of_ble_eq_true rfl) (Nat.le_refl _) (Nat.le_refl _) (fun v6 J5 => ?_)
  refine g_ldI (pc := 18) d_Img_addressOf_18 (fun v7 => ?_)
  refine g_aload_n (pc := 19) (x := v2) d_Img_addressOf_19 rfl rfl ?_
  refine g_iload_n (pc := 20) (x := a2) d_Img_addressOf_20 rfl rfl ?_
  refine g_vi (pc := 21) (rest := [vI v7]) (sn_Mod_placeOf v2 a2 J5) rfl rfl d_Img_addressOf_21 ck_Img_133 (Nat.le_of_ble_eq_true rfl) (Nat.le_of_ble_eq_true rfl) (Nat.le_refl _) (Nat.le_refl _) (fun v9 J8 => ?_)
  refine g_iadd (pc := 24) d_Img_addressOf_24 ?_
  exact g_iret (pc := 25) d_Img_addressOf_25 rfl (Nat.le_refl _) (Nat.le_refl _)
abbrev c_Img_standsFor : gC := (m_Img_standsFor, 2, 0, 0, none, 0, 0)
def fn_Img_standsFor (a0 : Nat) (a1 : Int32) (a2 : Int32) (I : fm_I) : pR := gr 4 a0 0 (fun v1 => la 2 v1 a1 (fun v2 => vi 1 v2 (fn_Mod_defines v2 a2 I) (fun v4 J3 => (if v4 = 0 then gr 4 a0 5 (fun v13 => ld 0 v13 a2 J3 (fun v14 => (ri v14 J3))) else vi 1 v2 (fn_Mod_holderOf v2 a2 J3) (fun v6 J5 => vi 1 v2 (fn_Mod_kindOf v2 v6 J5) (fun v8 J7 => (if v8 = 8 then vi 1 v2 (fn_Mod_secondOf v2 v6 J7) (fun v12 J11 => (ri v12 J11)) else vi 4 a0 (fn_Img_addressOf a0 a1 v6 J7) (fun v10 J9 => (ri v10 J9)))))))))
set_option maxRecDepth 10000 in
theorem sn_Img_standsFor (a0 : Nat) (a1 : Int32) (a2 : Int32) (I : fm_I) : gM m_Img_standsFor 2 (fn_Img_standsFor a0 a1 a2 I) [vR a0, vI a1, vI a2] I := by
  refine gM_of (by decide) rfl (Nat.le_of_ble_eq_true rfl) ?_
  show gW c_Img_standsFor _ _ _ _ _
  unfold fn_Img_standsFor
  refine g_aload_n (pc := 0) (x := a0) d_Img_standsFor_0 rfl rfl ?_
  refine g_gr (pc := 1) d_Img_standsFor_1 fk_Img_26 (fun v1 => ?_)
  refine g_iload_n (pc := 4) (x := a1) d_Img_standsFor_4 rfl rfl ?_
  refine g_la2 (pc := 5) d_Img_standsFor_5 (fun v2 => ?_)
  refine g_astore_n (pc := 6) (x := v2) d_Img_standsFor_6 rfl (Nat.le_of_ble_eq_true rfl) ?_
  refine g_aload_n (pc := 7) (x := v2) d_Img_standsFor_7 rfl rfl ?_
  refine g_iload_n (pc := 8) (x := a2) d_Img_standsFor_8 rfl rfl ?_
  refine g_vi (pc := 9) (rest := []) (sn_Mod_defines v2 a2 I) rfl rfl d_Img_standsFor_9 ck_Img_115 (Nat.le_of_ble_eq_true rfl) (Nat.le_of_ble_eq_true rfl) (Nat.le_refl _) (Nat.le_refl _) (fun v4 J3 => ?_)
  refine g_ifne (pc := 12) (tgt := 22) d_Img_standsFor_12 rfl ?_ ?_
  · refine g_aload_n (pc := 22) (x := v2) d_Img_standsFor_22 rfl rfl ?_
    refine g_iload_n (pc := 23) (x := a2) d_Img_standsFor_23 rfl rfl ?_
    refine g_vi (pc := 24) (rest := []) (sn_Mod_holderOf v2 a2 J3) rfl rfl d_Img_standsFor_24 ck_Img_118 (Nat.le_of_ble_eq_true rfl) (Nat.le_of_ble_eq_true rfl) (Nat.le_refl _) (Nat.le_refl _) (fun v6 J5 => ?_)
    refine g_istore (pc := 27) (x := v6) d_Img_standsFor_27 (Nat.le_of_ble_eq_true rfl) ?_
    refine g_aload_n (pc := 29) (x := v2) d_Img_standsFor_29 rfl rfl ?_
    refine g_iload (pc := 30) (x := v6) d_Img_standsFor_30 rfl ?_
    refine g_vi (pc := 32) (rest := []) (sn_Mod_kindOf v2 v6 J5) rfl rfl d_Img_standsFor_32 ck_Img_121 (Nat.le_of_ble_eq_true rfl) (Nat.le_of_ble_eq_true rfl) (Nat.le_refl _) (Nat.le_refl _) (fun v8 J7 => ?_)
    refine g_bipush (pc := 35) (x := 8) d_Img_standsFor_35 (by decide) ?_
    refine g_icmpne (pc := 37) (tgt := 47) d_Img_standsFor_37 rfl ?_ ?_
    · refine g_aload_n (pc := 47) (x := a0) d_Img_standsFor_47 rfl rfl ?_
      refine g_iload_n (pc := 48) (x := a1) d_Img_standsFor_48 rfl rfl ?_
      refine g_iload (pc := 49) (x := v6) d_Img_standsFor_49 rfl ?_
      refine g_vi (pc := 51) (rest := []) (sn_Img_addressOf a0 a1 v6 J7) rfl rfl d_Img_standsFor_51 ck_Img_127 (Nat.le_of_ble_eq_true rfl) (Nat.le_of_ble_eq_true rfl) (Nat.le_refl _) (Nat.le_refl _) (fun v10 J9 => ?_)
      exact g_iret (pc := 54) d_Img_standsFor_54 rfl (Nat.le_refl _) (Nat.le_refl _)
    refine g_aload_n (pc := 40) (x := v2) d_Img_standsFor_40 rfl rfl ?_
    refine g_iload (pc := 41) (x := v6) d_Img_standsFor_41 rfl ?_
    refine g_vi (pc := 43) (rest := []) (sn_Mod_secondOf v2 v6 J7) rfl rfl d_Img_standsFor_43 ck_Img_124 (Nat.le_of_ble_eq_true rfl) (Nat.le_of_ble_eq_true rfl) (Nat.le_refl _) (Nat.le_refl _) (fun v12 J11 => ?_)
    exact g_iret (pc := 46) d_Img_standsFor_46 rfl (Nat.le_refl _) (Nat.le_refl _)
  refine g_aload_n (pc := 15) (x := a0) d_Img_standsFor_15 rfl rfl ?_
  refine g_gr (pc := 16) d_Img_standsFor_16 fk_Img_23 (fun v13 => ?_)
  refine g_iload_n (pc := 19) (x := a2) d_Img_standsFor_19 rfl rfl ?_
  refine g_ldI (pc := 20) d_Img_standsFor_20 (fun v14 => ?_)
  exact g_iret (pc := 21) d_Img_standsFor_21 rfl (Nat.le_refl _) (Nat.le_refl _)
abbrev c_Img_noteExports : gC := (m_Img_noteExports, 3, 0, 0, none, 0, 0)
def fn_Img_noteExports_12 : Nat → Nat → Int32 → Int32 → Int32 → fm_I → pR
  | 0, _, _, _, _, _ => none
  | n + 1, a0, a1, a2, a3, I => (if 16 ≤ a3 then (rv I) else bi (fn_SL_hasName a2 a3 I) (fun v2 J1 => (if v2 = 0 then (fn_Img_noteExports_12 n a0 a1 a2 (a3 + 1) J1) else gr 4 a0 5 (fun v3 => vi 4 a0 (fn_Img_standsFor a0 a1 a3 J1) (fun v5 J4 => sI v3 a3 v5 J4 (fun J6 => (fn_Img_noteExports_12 n a0 a1 a2 (a3 + 1) J6)))))))
set_option maxRecDepth 10000 in
theorem sn_Img_noteExports_12 (n : Nat) : ∀ (a0 : Nat) (a1 : Int32) (a2 : Int32) (a3 : Int32) (I : fm_I) (L : Nat → Option am_V), L 0 = some (vR a0) → L 1 = some (vI a1) → L 2 = some (vI a2) → L 3 = some (vI a3) → gW c_Img_noteExports (fn_Img_noteExports_12 n a0 a1 a2 a3 I) 12 L [] I := by
  induction n with
  | zero =>
    intro a0 a1 a2 a3 I L h0 h1 h2 h3
    unfold fn_Img_noteExports_12
    exact g_none
  | succ n ih =>
    intro a0 a1 a2 a3 I L h0 h1 h2 h3
    unfold fn_Img_noteExports_12
    refine g_iload_n (pc := 12) (x := a3) d_Img_noteExports_12 rfl h3 ?_
    refine g_bipush (pc := 13) (x := 16) d_Img_noteExports_13 (by decide) ?_
    refine g_icmpge (pc := 15) (tgt := 44) d_Img_noteExports_15 rfl ?_ ?_
    · exact g_ret (pc := 44) d_Img_noteExports_44 rfl (Nat.le_refl _) (Nat.le_refl _)
    refine g_iload_n (pc := 18) (x := a2) d_Img_noteExports_18 rfl h2 ?_
    refine g_iload_n (pc := 19) (x := a3) d_Img_noteExports_19 rfl h3 ?_
    refine g_ni (pc := 20) (rest := []) (sn_SL_hasName a2 a3 I) rfl rfl d_Img_noteExports_20 ck_Img_108 (Nat.le_of_ble_eq_true rfl) (Nat.le_of_ble_eq_true rfl) (Nat.le_refl _) (Nat.le_refl _) (fun v2 J1 => ?_)
    refine g_ifeq (pc := 23) (tgt := 38) d_Img_noteExports_23 rfl ?_ ?_
    · refine g_iinc (pc := 38) (x := a3) (w := 1) d_Img_noteExports_38 h3 (by decide) (Nat.le_of_ble_eq_true rfl) ?_
      refine g_goto (pc := 41) (tgt := 12) d_Img_noteExports_41 rfl ?_
      exact ih _ _ _ _ _ _ h0 h1 h2 rfl
    refine g_aload_n (pc := 26) (x := a0) d_Img_noteExports_26 rfl h0 ?_
    refine g_gr (pc := 27) d_Img_noteExports_27 fk_Img_23 (fun v3 => ?_)
    refine g_iload_n (pc := 30) (x := a3) d_Img_noteExports_30 rfl h3 ?_
    refine g_aload_n (pc := 31) (x := a0) d_Img_noteExports_31 rfl h0 ?_
    refine g_iload_n (pc := 32) (x := a1) d_Img_noteExports_32 rfl h1 ?_
    refine g_iload_n (pc := 33) (x := a3) d_Img_noteExports_33 rfl h3 ?_
    refine g_vi (pc := 34) (rest := [vI a3, vR v3]) (sn_Img_standsFor a0 a1 a3 J1) rfl rfl d_Img_noteExports_34 ck_Img_112 (Nat.le_of_ble_eq_true rfl) (Nat.le_of_ble_eq_true rfl) (Nat.le_refl _) (Nat.le_refl _) (fun v5 J4 => ?_)
    refine g_sI (pc := 37) d_Img_noteExports_37 (fun J6 => ?_)
    refine g_iinc (pc := 38) (x := a3) (w := 1) d_Img_noteExports_38 h3 (by decide) (Nat.le_of_ble_eq_true rfl) ?_
    refine g_goto (pc := 41) (tgt := 12) d_Img_noteExports_41 rfl ?_
    exact ih _ _ _ _ _ _ h0 h1 h2 rfl
def fn_Img_noteExports (a0 : Nat) (a1 : Int32) (I : fm_I) : pR := gr 4 a0 0 (fun v1 => la 2 v1 a1 (fun v2 => vi 1 v2 (fn_Mod_exportedNames v2 I) (fun v4 J3 => (fn_Img_noteExports_12 FU a0 a1 v4 0 J3))))
set_option maxRecDepth 10000 in
theorem sn_Img_noteExports (a0 : Nat) (a1 : Int32) (I : fm_I) : gM m_Img_noteExports 3 (fn_Img_noteExports a0 a1 I) [vR a0, vI a1] I := by
  refine gM_of (by decide) rfl (Nat.le_of_ble_eq_true rfl) ?_
  show gW c_Img_noteExports _ _ _ _ _
  unfold fn_Img_noteExports
  refine g_aload_n (pc := 0) (x := a0) d_Img_noteExports_0 rfl rfl ?_
  refine g_gr (pc := 1) d_Img_noteExports_1 fk_Img_26 (fun v1 => ?_)
  refine g_iload_n (pc := 4) (x := a1) d_Img_noteExports_4 rfl rfl ?_
  refine g_la2 (pc := 5) d_Img_noteExports_5 (fun v2 => ?_)
  refine g_vi (pc := 6) (rest := []) (sn_Mod_exportedNames v2 I) rfl rfl d_Img_noteExports_6 ck_Img_105 (Nat.le_of_ble_eq_true rfl) (Nat.le_of_ble_eq_true rfl) (Nat.le_refl _) (Nat.le_refl _) (fun v4 J3 => ?_)
  refine g_istore_n (pc := 9) (x := v4) d_Img_noteExports_9 rfl (Nat.le_of_ble_eq_true rfl) ?_
  refine g_iconst (pc := 10) (x := 0) d_Img_noteExports_10 (by decide) ?_
  refine g_istore_n (pc := 11) (x := 0) d_Img_noteExports_11 rfl (Nat.le_of_ble_eq_true rfl) ?_
  exact sn_Img_noteExports_12 FU _ _ _ _ _ _ rfl rfl rfl rfl
abbrev c_Img_makeWordsZero : gC := (m_Img_makeWordsZero, 0, 0, 0, none, 0, 0)
def fn_Img_makeWordsZero_2 : Nat → Nat → Int32 → fm_I → pR
  | 0, _, _, _ => none
  | n + 1, a0, a1, I => (if 200 ≤ a1 then (rv I) else gr 4 a0 3 (fun v1 => sI v1 a1 0 I (fun J2 => (fn_Img_makeWordsZero_2 n a0 (a1 + 1) J2))))
set_option maxRecDepth 10000 in
theorem sn_Img_makeWordsZero_2 (n : Nat) : ∀ (a0 : Nat) (a1 : Int32) (I : fm_I) (L : Nat → Option am_V), L 0 = some (vR a0) → L 1 = some (vI a1) → gW c_Img_makeWordsZero (fn_Img_makeWordsZero_2 n a0 a1 I) 2 L [] I := by
  induction n with
  | zero =>
    intro a0 a1 I L h0 h1
    unfold fn_Img_makeWordsZero_2
    exact g_none
  | succ n ih =>
    intro a0 a1 I L h0 h1
    unfold fn_Img_makeWordsZero_2
    refine g_iload_n (pc := 2) (x := a1) d_Img_makeWordsZero_2 rfl h1 ?_
    refine g_sipush (pc := 3) (x := 200) d_Img_makeWordsZero_3 (by decide) ?_
    refine g_icmpge (pc := 6) (tgt := 22) d_Img_makeWordsZero_6 rfl ?_ ?_
    · exact g_ret (pc := 22) d_Img_makeWordsZero_22 rfl (Nat.le_refl _) (Nat.le_refl _)
    refine g_aload_n (pc := 9) (x := a0) d_Img_makeWordsZero_9 rfl h0 ?_
    refine g_gr (pc := 10) d_Img_makeWordsZero_10 fk_Img_16 (fun v1 => ?_)
    refine g_iload_n (pc := 13) (x := a1) d_Img_makeWordsZero_13 rfl h1 ?_
    refine g_iconst (pc := 14) (x := 0) d_Img_makeWordsZero_14 (by decide) ?_
    refine g_sI (pc := 15) d_Img_makeWordsZero_15 (fun J2 => ?_)
    refine g_iinc (pc := 16) (x := a1) (w := 1) d_Img_makeWordsZero_16 h1 (by decide) (Nat.le_of_ble_eq_true rfl) ?_
    refine g_goto (pc := 19) (tgt := 2) d_Img_makeWordsZero_19 rfl ?_
    exact ih _ _ _ _ h0 rfl
def fn_Img_makeWordsZero (a0 : Nat) (I : fm_I) : pR := (fn_Img_makeWordsZero_2 FU a0 0 I)
set_option maxRecDepth 10000 in
theorem sn_Img_makeWordsZero (a0 : Nat) (I : fm_I) : gM m_Img_makeWordsZero 0 (fn_Img_makeWordsZero a0 I) [vR a0] I := by
  refine gM_of (by decide) rfl (Nat.le_of_ble_eq_true rfl) ?_
  show gW c_Img_makeWordsZero _ _ _ _ _
  unfold fn_Img_makeWordsZero
  refine g_iconst (pc := 0) (x := 0) d_Img_makeWordsZero_0 (by decide) ?_
  refine g_istore_n (pc := 1) (x := 0) d_Img_makeWordsZero_1 rfl (Nat.le_of_ble_eq_true rfl) ?_
  exact sn_Img_makeWordsZero_2 FU _ _ _ _ rfl rfl
abbrev c_Mod_howMany : gC := (m_Mod_howMany, 0, 0, 0, none, 0, 0)
def fn_Mod_howMany (a0 : Nat) (I : fm_I) : pR := gi 1 a0 8 I (fun v1 => (ri v1 I))
set_option maxRecDepth 10000 in
theorem sn_Mod_howMany (a0 : Nat) (I : fm_I) : gM m_Mod_howMany 0 (fn_Mod_howMany a0 I) [vR a0] I := by
  refine gM_of (by decide) rfl (Nat.le_of_ble_eq_true rfl) ?_
  show gW c_Mod_howMany _ _ _ _ _
  unfold fn_Mod_howMany
  refine g_aload_n (pc := 0) (x := a0) d_Mod_howMany_0 rfl rfl ?_
  refine g_gi (pc := 1) d_Mod_howMany_1 fk_Mod_37 (fun v1 => ?_)
  exact g_iret (pc := 4) d_Mod_howMany_4 rfl (Nat.le_refl _) (Nat.le_refl _)
abbrev c_Mod_firstOf : gC := (m_Mod_firstOf, 0, 0, 0, none, 0, 0)
def fn_Mod_firstOf (a0 : Nat) (a1 : Int32) (I : fm_I) : pR := gr 1 a0 1 (fun v1 => ld 0 v1 a1 I (fun v2 => (ri v2 I)))
set_option maxRecDepth 10000 in
theorem sn_Mod_firstOf (a0 : Nat) (a1 : Int32) (I : fm_I) : gM m_Mod_firstOf 0 (fn_Mod_firstOf a0 a1 I) [vR a0, vI a1] I := by
  refine gM_of (by decide) rfl (Nat.le_of_ble_eq_true rfl) ?_
  show gW c_Mod_firstOf _ _ _ _ _
  unfold fn_Mod_firstOf
  refine g_aload_n (pc := 0) (x := a0) d_Mod_firstOf_0 rfl rfl ?_
  refine g_gr (pc := 1) d_Mod_firstOf_1 fk_Mod_15 (fun v1 => ?_)
  refine g_iload_n (pc := 4) (x := a1) d_Mod_firstOf_4 rfl rfl ?_
  refine g_ldI (pc := 5) d_Mod_firstOf_5 (fun v2 => ?_)
  exact g_iret (pc := 6) d_Mod_firstOf_6 rfl (Nat.le_refl _) (Nat.le_refl _)
abbrev c_SL_toWord : gC := (m_SL_toWord, 0, 0, 0, none, 0, 0)
def fn_SL_toWord (a0 : Int32) (I : fm_I) : pR := (ri (a0 &&& 65535) I)
set_option maxRecDepth 10000 in
theorem sn_SL_toWord (a0 : Int32) (I : fm_I) : gM m_SL_toWord 0 (fn_SL_toWord a0 I) [vI a0] I := by
  refine gM_of (by decide) rfl (Nat.le_of_ble_eq_true rfl) ?_
  show gW c_SL_toWord _ _ _ _ _
  unfold fn_SL_toWord
  refine g_iload_n (pc := 0) (x := a0) d_SL_toWord_0 rfl rfl ?_
  refine g_ldc (pc := 1) (x := 65535) d_SL_toWord_1 lc_SL_165 ?_
  refine g_iand (pc := 3) d_SL_toWord_3 ?_
  exact g_iret (pc := 4) d_SL_toWord_4 rfl (Nat.le_refl _) (Nat.le_refl _)
abbrev c_Img_writeJump : gC := (m_Img_writeJump, 3, 0, 0, none, 0, 0)
def fn_Img_writeJump (a0 : Nat) (a1 : Int32) (a2 : Int32) (a3 : Int32) (I : fm_I) : pR := gr 4 a0 0 (fun v1 => la 2 v1 a1 (fun v2 => vi 1 v2 (fn_Mod_secondOf v2 a2 I) (fun v4 J3 => vi 1 v2 (fn_Mod_isLongJump v2 a2 J3) (fun v6 J5 => (if v6 = 0 then gr 4 a0 3 (fun v7 => vi 1 v2 (fn_Mod_distanceOf v2 a2 J5) (fun v9 J8 => sI v7 a3 ((36864 + (256 * v4)) + (v9 &&& 255)) J8 (fun J10 => (rv J10)))) else gr 4 a0 3 (fun v11 => sI v11 a3 (32768 + (256 * v4)) J5 (fun J12 => gr 4 a0 3 (fun v13 => vi 1 v2 (fn_Mod_firstOf v2 a2 J12) (fun v15 J14 => vi 4 a0 (fn_Img_standsFor a0 a1 v15 J14) (fun v17 J16 => sI v13 (a3 + 1) v17 J16 (fun J18 => (rv J18))))))))))))
set_option maxRecDepth 10000 in
theorem sn_Img_writeJump (a0 : Nat) (a1 : Int32) (a2 : Int32) (a3 : Int32) (I : fm_I) : gM m_Img_writeJump 3 (fn_Img_writeJump a0 a1 a2 a3 I) [vR a0, vI a1, vI a2, vI a3] I := by
  refine gM_of (by decide) rfl (Nat.le_of_ble_eq_true rfl) ?_
  show gW c_Img_writeJump _ _ _ _ _
  unfold fn_Img_writeJump
  refine g_aload_n (pc := 0) (x := a0) d_Img_writeJump_0 rfl rfl ?_
  refine g_gr (pc := 1) d_Img_writeJump_1 fk_Img_26 (fun v1 => ?_)
  refine g_iload_n (pc := 4) (x := a1) d_Img_writeJump_4 rfl rfl ?_
  refine g_la2 (pc := 5) d_Img_writeJump_5 (fun v2 => ?_)
  refine g_astore (pc := 6) (x := v2) d_Img_writeJump_6 (Nat.le_of_ble_eq_true rfl) ?_
  refine g_sipush (pc := 8) (x := 256) d_Img_writeJump_8 (by decide) ?_
  refine g_aload (pc := 11) (x := v2) d_Img_writeJump_11 rfl ?_
  refine g_iload_n (pc := 13) (x := a2) d_Img_writeJump_13 rfl rfl ?_
  refine g_vi (pc := 14) (rest := [vI 256]) (sn_Mod_secondOf v2 a2 I) rfl rfl d_Img_writeJump_14 ck_Img_124 (Nat.le_of_ble_eq_true rfl) (Nat.le_of_ble_eq_true rfl) (Nat.le_refl _) (Nat.le_refl _) (fun v4 J3 => ?_)
  refine g_imul (pc := 17) d_Img_writeJump_17 ?_
  refine g_istore (pc := 18) (x := (256 * v4)) d_Img_writeJump_18 (Nat.le_of_ble_eq_true rfl) ?_
  refine g_aload (pc := 20) (x := v2) d_Img_writeJump_20 rfl ?_
  refine g_iload_n (pc := 22) (x := a2) d_Img_writeJump_22 rfl rfl ?_
  refine g_vi (pc := 23) (rest := []) (sn_Mod_isLongJump v2 a2 J3) rfl rfl d_Img_writeJump_23 ck_Img_147 (Nat.le_of_ble_eq_true rfl) (Nat.le_of_ble_eq_true rfl) (Nat.le_refl _) (Nat.le_refl _) (fun v6 J5 => ?_)
  refine g_ifeq (pc := 26) (tgt := 62) d_Img_writeJump_26 rfl ?_ ?_
  · refine g_aload_n (pc := 62) (x := a0) d_Img_writeJump_62 rfl rfl ?_
    refine g_gr (pc := 63) d_Img_writeJump_63 fk_Img_16 (fun v7 => ?_)
    refine g_iload_n (pc := 66) (x := a3) d_Img_writeJump_66 rfl rfl ?_
    refine g_ldc (pc := 67) (x := 36864) d_Img_writeJump_67 lc_Img_151 ?_
    refine g_iload (pc := 69) (x := (256 * v4)) d_Img_writeJump_69 rfl ?_
    refine g_iadd (pc := 71) d_Img_writeJump_71 ?_
    refine g_aload (pc := 72) (x := v2) d_Img_writeJump_72 rfl ?_
    refine g_iload_n (pc := 74) (x := a2) d_Img_writeJump_74 rfl rfl ?_
    refine g_vi (pc := 75) (rest := [vI (36864 + (256 * v4)), vI a3, vR v7]) (sn_Mod_distanceOf v2 a2 J5) rfl rfl d_Img_writeJump_75 ck_Img_152 (Nat.le_of_ble_eq_true rfl) (Nat.le_of_ble_eq_true rfl) (Nat.le_refl _) (Nat.le_refl _) (fun v9 J8 => ?_)
    refine g_sipush (pc := 78) (x := 255) d_Img_writeJump_78 (by decide) ?_
    refine g_iand (pc := 81) d_Img_writeJump_81 ?_
    refine g_iadd (pc := 82) d_Img_writeJump_82 ?_
    refine g_sI (pc := 83) d_Img_writeJump_83 (fun J10 => ?_)
    exact g_ret (pc := 84) d_Img_writeJump_84 rfl (Nat.le_refl _) (Nat.le_refl _)
  refine g_aload_n (pc := 29) (x := a0) d_Img_writeJump_29 rfl rfl ?_
  refine g_gr (pc := 30) d_Img_writeJump_30 fk_Img_16 (fun v11 => ?_)
  refine g_iload_n (pc := 33) (x := a3) d_Img_writeJump_33 rfl rfl ?_
  refine g_ldc (pc := 34) (x := 32768) d_Img_writeJump_34 lc_Img_150 ?_
  refine g_iload (pc := 36) (x := (256 * v4)) d_Img_writeJump_36 rfl ?_
  refine g_iadd (pc := 38) d_Img_writeJump_38 ?_
  refine g_sI (pc := 39) d_Img_writeJump_39 (fun J12 => ?_)
  refine g_aload_n (pc := 40) (x := a0) d_Img_writeJump_40 rfl rfl ?_
  refine g_gr (pc := 41) d_Img_writeJump_41 fk_Img_16 (fun v13 => ?_)
  refine g_iload_n (pc := 44) (x := a3) d_Img_writeJump_44 rfl rfl ?_
  refine g_iconst (pc := 45) (x := 1) d_Img_writeJump_45 (by decide) ?_
  refine g_iadd (pc := 46) d_Img_writeJump_46 ?_
  refine g_aload_n (pc := 47) (x := a0) d_Img_writeJump_47 rfl rfl ?_
  refine g_iload_n (pc := 48) (x := a1) d_Img_writeJump_48 rfl rfl ?_
  refine g_aload (pc := 49) (x := v2) d_Img_writeJump_49 rfl ?_
  refine g_iload_n (pc := 51) (x := a2) d_Img_writeJump_51 rfl rfl ?_
  refine g_vi (pc := 52) (rest := [vI a1, vR a0, vI (a3 + 1), vR v13]) (sn_Mod_firstOf v2 a2 J12) rfl rfl d_Img_writeJump_52 ck_Img_137 (Nat.le_of_ble_eq_true rfl) (Nat.le_of_ble_eq_true rfl) (Nat.le_refl _) (Nat.le_refl _) (fun v15 J14 => ?_)
  refine g_vi (pc := 55) (rest := [vI (a3 + 1), vR v13]) (sn_Img_standsFor a0 a1 v15 J14) rfl rfl d_Img_writeJump_55 ck_Img_112 (Nat.le_of_ble_eq_true rfl) (Nat.le_of_ble_eq_true rfl) (Nat.le_refl _) (Nat.le_refl _) (fun v17 J16 => ?_)
  refine g_sI (pc := 58) d_Img_writeJump_58 (fun J18 => ?_)
  refine g_goto (pc := 59) (tgt := 84) d_Img_writeJump_59 rfl ?_
  exact g_ret (pc := 84) d_Img_writeJump_84 rfl (Nat.le_refl _) (Nat.le_refl _)
abbrev c_Img_writeModule : gC := (m_Img_writeModule, 4, 0, 0, none, 0, 0)
def fn_Img_writeModule_9 : Nat → Nat → Int32 → Nat → Int32 → fm_I → pR
  | 0, _, _, _, _, _ => none
  | n + 1, a0, a1, a2, a3, I => vi 1 a2 (fn_Mod_howMany a2 I) (fun v2 J1 => (if v2 ≤ a3 then (rv J1) else vi 4 a0 (fn_Img_addressOf a0 a1 a3 J1) (fun v4 J3 => vi 1 a2 (fn_Mod_kindOf a2 a3 J3) (fun v6 J5 => (if v6 = 3 then gr 4 a0 3 (fun v18 => vi 1 a2 (fn_Mod_firstOf a2 a3 J5) (fun v20 J19 => sI v18 v4 v20 J19 (fun J21 => (fn_Img_writeModule_9 n a0 a1 a2 (a3 + 1) J21)))) else (if v6 = 4 then vi 1 a2 (fn_Mod_firstOf a2 a3 J5) (fun v9 J8 => vi 4 a0 (fn_Img_standsFor a0 a1 v9 J8) (fun v11 J10 => gr 4 a0 3 (fun v12 => vi 1 a2 (fn_Mod_secondOf a2 a3 J10) (fun v14 J13 => bi (fn_SL_toWord (v11 + v14) J13) (fun v16 J15 => sI v12 v4 v16 J15 (fun J17 => (fn_Img_writeModule_9 n a0 a1 a2 (a3 + 1) J17))))))) else (if v6 = 6 then vv 4 a0 (fn_Img_writeJump a0 a1 a3 v4 J5) (fun J7 => (fn_Img_writeModule_9 n a0 a1 a2 (a3 + 1) J7)) else (fn_Img_writeModule_9 n a0 a1 a2 (a3 + 1) J5))))))))
set_option maxRecDepth 10000 in
theorem sn_Img_writeModule_9 (n : Nat) : ∀ (a0 : Nat) (a1 : Int32) (a2 : Nat) (a3 : Int32) (I : fm_I) (L : Nat → Option am_V), L 0 = some (vR a0) → L 1 = some (vI a1) → L 2 = some (vR a2) → L 3 = some (vI a3) → gW c_Img_writeModule (fn_Img_writeModule_9 n a0 a1 a2 a3 I) 9 L [] I := by
  induction n with
  | zero =>
    intro a0 a1 a2 a3 I L h0 h1 h2 h3
    unfold fn_Img_writeModule_9
    exact g_none
  | succ n ih =>
    intro a0 a1 a2 a3 I L h0 h1 h2 h3
    unfold fn_Img_writeModule_9
    refine g_iload_n (pc := 9) (x := a3) d_Img_writeModule_9 rfl h3 ?_
    refine g_aload_n (pc := 10) (x := a2) d_Img_writeModule_10 rfl h2 ?_
    refine g_vi (pc := 11) (rest := [vI a3]) (sn_Mod_howMany a2 I) rfl rfl d_Img_writeModule_11 ck_Img_136 (Nat.le_of_ble_eq_true rfl) (Nat.le_of_ble_eq_true rfl) (Nat.le_refl _) (Nat.le_refl _) (fun v2 J1 => ?_)
    refine g_icmpge (pc := 14) (tgt := 113) d_Img_writeModule_14 rfl ?_ ?_
    · exact g_ret (pc := 113) d_Img_writeModule_113 rfl (Nat.le_refl _) (Nat.le_refl _)
    refine g_aload_n (pc := 17) (x := a0) d_Img_writeModule_17 rfl h0 ?_
    refine g_iload_n (pc := 18) (x := a1) d_Img_writeModule_18 rfl h1 ?_
    refine g_iload_n (pc := 19) (x := a3) d_Img_writeModule_19 rfl h3 ?_
    refine g_vi (pc := 20) (rest := []) (sn_Img_addressOf a0 a1 a3 J1) rfl rfl d_Img_writeModule_20 ck_Img_127 (Nat.le_of_ble_eq_true rfl) (Nat.le_of_ble_eq_true rfl) (Nat.le_refl _) (Nat.le_refl _) (fun v4 J3 => ?_)
    refine g_istore (pc := 23) (x := v4) d_Img_writeModule_23 (Nat.le_of_ble_eq_true rfl) ?_
    refine g_aload_n (pc := 25) (x := a2) d_Img_writeModule_25 rfl h2 ?_
    refine g_iload_n (pc := 26) (x := a3) d_Img_writeModule_26 rfl h3 ?_
    refine g_vi (pc := 27) (rest := []) (sn_Mod_kindOf a2 a3 J3) rfl rfl d_Img_writeModule_27 ck_Img_121 (Nat.le_of_ble_eq_true rfl) (Nat.le_of_ble_eq_true rfl) (Nat.le_refl _) (Nat.le_refl _) (fun v6 J5 => ?_)
    refine g_istore (pc := 30) (x := v6) d_Img_writeModule_30 (Nat.le_of_ble_eq_true rfl) ?_
    refine g_iload (pc := 32) (x := v6) d_Img_writeModule_32 rfl ?_
    refine g_iconst (pc := 34) (x := 3) d_Img_writeModule_34 (by decide) ?_
    refine g_icmpne (pc := 35) (tgt := 53) d_Img_writeModule_35 rfl ?_ ?_
    · refine g_iload (pc := 53) (x := v6) d_Img_writeModule_53 rfl ?_
      refine g_iconst (pc := 55) (x := 4) d_Img_writeModule_55 (by decide) ?_
      refine g_icmpne (pc := 56) (tgt := 92) d_Img_writeModule_56 rfl ?_ ?_
      · refine g_iload (pc := 92) (x := v6) d_Img_writeModule_92 rfl ?_
        refine g_bipush (pc := 94) (x := 6) d_Img_writeModule_94 (by decide) ?_
        refine g_icmpne (pc := 96) (tgt := 107) d_Img_writeModule_96 rfl ?_ ?_
        · refine g_iinc (pc := 107) (x := a3) (w := 1) d_Img_writeModule_107 h3 (by decide) (Nat.le_of_ble_eq_true rfl) ?_
          refine g_goto (pc := 110) (tgt := 9) d_Img_writeModule_110 rfl ?_
          exact ih _ _ _ _ _ _ h0 h1 h2 rfl
        refine g_aload_n (pc := 99) (x := a0) d_Img_writeModule_99 rfl h0 ?_
        refine g_iload_n (pc := 100) (x := a1) d_Img_writeModule_100 rfl h1 ?_
        refine g_iload_n (pc := 101) (x := a3) d_Img_writeModule_101 rfl h3 ?_
        refine g_iload (pc := 102) (x := v4) d_Img_writeModule_102 rfl ?_
        refine g_vv (pc := 104) (rest := []) (sn_Img_writeJump a0 a1 a3 v4 J5) rfl rfl d_Img_writeModule_104 ck_Img_143 (Nat.le_of_ble_eq_true rfl) (Nat.le_of_ble_eq_true rfl) (Nat.le_refl _) (Nat.le_refl _) (fun J7 => ?_)
        refine g_iinc (pc := 107) (x := a3) (w := 1) d_Img_writeModule_107 h3 (by decide) (Nat.le_of_ble_eq_true rfl) ?_
        refine g_goto (pc := 110) (tgt := 9) d_Img_writeModule_110 rfl ?_
        exact ih _ _ _ _ _ _ h0 h1 h2 rfl
      refine g_aload_n (pc := 59) (x := a0) d_Img_writeModule_59 rfl h0 ?_
      refine g_iload_n (pc := 60) (x := a1) d_Img_writeModule_60 rfl h1 ?_
      refine g_aload_n (pc := 61) (x := a2) d_Img_writeModule_61 rfl h2 ?_
      refine g_iload_n (pc := 62) (x := a3) d_Img_writeModule_62 rfl h3 ?_
      refine g_vi (pc := 63) (rest := [vI a1, vR a0]) (sn_Mod_firstOf a2 a3 J5) rfl rfl d_Img_writeModule_63 ck_Img_137 (Nat.le_of_ble_eq_true rfl) (Nat.le_of_ble_eq_true rfl) (Nat.le_refl _) (Nat.le_refl _) (fun v9 J8 => ?_)
      refine g_vi (pc := 66) (rest := []) (sn_Img_standsFor a0 a1 v9 J8) rfl rfl d_Img_writeModule_66 ck_Img_112 (Nat.le_of_ble_eq_true rfl) (Nat.le_of_ble_eq_true rfl) (Nat.le_refl _) (Nat.le_refl _) (fun v11 J10 => ?_)
      refine g_istore (pc := 69) (x := v11) d_Img_writeModule_69 (Nat.le_of_ble_eq_true rfl) ?_
      refine g_aload_n (pc := 71) (x := a0) d_Img_writeModule_71 rfl h0 ?_
      refine g_gr (pc := 72) d_Img_writeModule_72 fk_Img_16 (fun v12 => ?_)
      refine g_iload (pc := 75) (x := v4) d_Img_writeModule_75 rfl ?_
      refine g_iload (pc := 77) (x := v11) d_Img_writeModule_77 rfl ?_
      refine g_aload_n (pc := 79) (x := a2) d_Img_writeModule_79 rfl h2 ?_
      refine g_iload_n (pc := 80) (x := a3) d_Img_writeModule_80 rfl h3 ?_
      refine g_vi (pc := 81) (rest := [vI v11, vI v4, vR v12]) (sn_Mod_secondOf a2 a3 J10) rfl rfl d_Img_writeModule_81 ck_Img_124 (Nat.le_of_ble_eq_true rfl) (Nat.le_of_ble_eq_true rfl) (Nat.le_refl _) (Nat.le_refl _) (fun v14 J13 => ?_)
      refine g_iadd (pc := 84) d_Img_writeModule_84 ?_
      refine g_ni (pc := 85) (rest := [vI v4, vR v12]) (sn_SL_toWord (v11 + v14) J13) rfl rfl d_Img_writeModule_85 ck_Img_140 (Nat.le_of_ble_eq_true rfl) (Nat.le_of_ble_eq_true rfl) (Nat.le_refl _) (Nat.le_refl _) (fun v16 J15 => ?_)
      refine g_sI (pc := 88) d_Img_writeModule_88 (fun J17 => ?_)
      refine g_goto (pc := 89) (tgt := 107) d_Img_writeModule_89 rfl ?_
      refine g_iinc (pc := 107) (x := a3) (w := 1) d_Img_writeModule_107 h3 (by decide) (Nat.le_of_ble_eq_true rfl) ?_
      refine g_goto (pc := 110) (tgt := 9) d_Img_writeModule_110 rfl ?_
      exact ih _ _ _ _ _ _ h0 h1 h2 rfl
    refine g_aload_n (pc := 38) (x := a0) d_Img_writeModule_38 rfl h0 ?_
    refine g_gr (pc := 39) d_Img_writeModule_39 fk_Img_16 (fun v18 => ?_)
    refine g_iload (pc := 42) (x := v4) d_Img_writeModule_42 rfl ?_
    refine g_aload_n (pc := 44) (x := a2) d_Img_writeModule_44 rfl h2 ?_
    refine g_iload_n (pc := 45) (x := a3) d_Img_writeModule_45 rfl h3 ?_
    refine g_vi (pc := 46) (rest := [vI v4, vR v18]) (sn_Mod_firstOf a2 a3 J5) rfl rfl d_Img_writeModule_46 ck_Img_137 (Nat.le_of_ble_eq_true rfl) (Nat.le_of_ble_eq_true rfl) (Nat.le_refl _) (Nat.le_refl _) (fun v20 J19 => ?_)
    refine g_sI (pc := 49) d_Img_writeModule_49 (fun J21 => ?_)
    refine g_goto (pc := 50) (tgt := 107) d_Img_writeModule_50 rfl ?_
    refine g_iinc (pc := 107) (x := a3) (w := 1) d_Img_writeModule_107 h3 (by decide) (Nat.le_of_ble_eq_true rfl) ?_
    refine g_goto (pc := 110) (tgt := 9) d_Img_writeModule_110 rfl ?_
    exact ih _ _ _ _ _ _ h0 h1 h2 rfl
def fn_Img_writeModule (a0 : Nat) (a1 : Int32) (I : fm_I) : pR := gr 4 a0 0 (fun v1 => la 2 v1 a1 (fun v2 => (fn_Img_writeModule_9 FU a0 a1 v2 0 I)))
set_option maxRecDepth 10000 in
theorem sn_Img_writeModule (a0 : Nat) (a1 : Int32) (I : fm_I) : gM m_Img_writeModule 4 (fn_Img_writeModule a0 a1 I) [vR a0, vI a1] I := by
  refine gM_of (by decide) rfl (Nat.le_of_ble_eq_true rfl) ?_
  show gW c_Img_writeModule _ _ _ _ _
  unfold fn_Img_writeModule
  refine g_aload_n (pc := 0) (x := a0) d_Img_writeModule_0 rfl rfl ?_
  refine g_gr (pc := 1) d_Img_writeModule_1 fk_Img_26 (fun v1 => ?_)
  refine g_iload_n (pc := 4) (x := a1) d_Img_writeModule_4 rfl rfl ?_
  refine g_la2 (pc := 5) d_Img_writeModule_5 (fun v2 => ?_)
  refine g_astore_n (pc := 6) (x := v2) d_Img_writeModule_6 rfl (Nat.le_of_ble_eq_true rfl) ?_
  refine g_iconst (pc := 7) (x := 0) d_Img_writeModule_7 (by decide) ?_
  refine g_istore_n (pc := 8) (x := 0) d_Img_writeModule_8 rfl (Nat.le_of_ble_eq_true rfl) ?_
  exact sn_Img_writeModule_9 FU _ _ _ _ _ _ rfl rfl rfl rfl
abbrev c_Img_build : gC := (m_Img_build, 5, 0, 0, none, 0, 0)
def fn_Img_build_57 : Nat → Nat → Int32 → Int32 → fm_I → pR
  | 0, _, _, _, _ => none
  | n + 1, a0, a1, a2, I => gr 4 a0 1 (fun v1 => vi 2 v1 (fn_Inc_howMany v1 I) (fun v3 J2 => (if v3 ≤ a2 then (if a1 = (-1) then pI 4 a0 7 0 J2 (fun J9 => pZ 4 a0 8 1 J9 (fun J10 => pZ 4 a0 9 0 J10 (fun J11 => (rz 1 J11)))) else gr 4 a0 5 (fun v4 => ld 0 v4 a1 J2 (fun v5 => pI 4 a0 7 v5 J2 (fun J6 => pZ 4 a0 8 1 J6 (fun J7 => pZ 4 a0 9 0 J7 (fun J8 => (rz 1 J8))))))) else gr 4 a0 1 (fun v12 => vi 2 v12 (fn_Inc_moduleAt v12 a2 J2) (fun v14 J13 => vv 4 a0 (fn_Img_writeModule a0 v14 J13) (fun J15 => (fn_Img_build_57 n a0 a1 (a2 + 1) J15)))))))
set_option maxRecDepth 10000 in
theorem sn_Img_build_57 (n : Nat) : ∀ (a0 : Nat) (a1 : Int32) (a2 : Int32) (I : fm_I) (L : Nat → Option am_V), L 0 = some (vR a0) → L 1 = some (vI a1) → L 2 = some (vI a2) → gW c_Img_build (fn_Img_build_57 n a0 a1 a2 I) 57 L [] I := by
  induction n with
  | zero =>
    intro a0 a1 a2 I L h0 h1 h2
    unfold fn_Img_build_57
    exact g_none
  | succ n ih =>
    intro a0 a1 a2 I L h0 h1 h2
    unfold fn_Img_build_57
    refine g_iload_n (pc := 57) (x := a2) d_Img_build_57 rfl h2 ?_
    refine g_aload_n (pc := 58) (x := a0) d_Img_build_58 rfl h0 ?_
    refine g_gr (pc := 59) d_Img_build_59 fk_Img_30 (fun v1 => ?_)
    refine g_vi (pc := 62) (rest := [vI a2]) (sn_Inc_howMany v1 I) rfl rfl d_Img_build_62 ck_Img_48 (Nat.le_of_ble_eq_true rfl) (Nat.le_of_ble_eq_true rfl) (Nat.le_refl _) (Nat.le_refl _) (fun v3 J2 => ?_)
    refine g_icmpge (pc := 65) (tgt := 86) d_Img_build_65 rfl ?_ ?_
    · refine g_aload_n (pc := 86) (x := a0) d_Img_build_86 rfl h0 ?_
      refine g_iload_n (pc := 87) (x := a1) d_Img_build_87 rfl h1 ?_
      refine g_iconst (pc := 88) (x := (-1)) d_Img_build_88 (by decide) ?_
      refine g_icmpne (pc := 89) (tgt := 96) d_Img_build_89 rfl ?_ ?_
      · refine g_aload_n (pc := 96) (x := a0) d_Img_build_96 rfl h0 ?_
        refine g_gr (pc := 97) d_Img_build_97 fk_Img_23 (fun v4 => ?_)
        refine g_iload_n (pc := 100) (x := a1) d_Img_build_100 rfl h1 ?_
        refine g_ldI (pc := 101) d_Img_build_101 (fun v5 => ?_)
        refine g_pI (pc := 102) d_Img_build_102 fp_Img_68 (fun J6 => ?_)
        refine g_aload_n (pc := 105) (x := a0) d_Img_build_105 rfl h0 ?_
        refine g_iconst (pc := 106) (x := 1) d_Img_build_106 (by decide) ?_
        refine g_pZ (pc := 107) d_Img_build_107 fp_Img_34 (fun J7 => ?_)
        refine g_aload_n (pc := 110) (x := a0) d_Img_build_110 rfl h0 ?_
        refine g_iconst (pc := 111) (x := 0) d_Img_build_111 (by decide) ?_
        refine g_pZ (pc := 112) d_Img_build_112 fp_Img_71 (fun J8 => ?_)
        refine g_iconst (pc := 115) (x := 1) d_Img_build_115 (by decide) ?_
        exact g_zret (pc := 116) d_Img_build_116 rfl (Nat.le_refl _) (Nat.le_refl _)
      refine g_iconst (pc := 92) (x := 0) d_Img_build_92 (by decide) ?_
      refine g_goto (pc := 93) (tgt := 102) d_Img_build_93 rfl ?_
      refine g_pI (pc := 102) d_Img_build_102 fp_Img_68 (fun J9 => ?_)
      refine g_aload_n (pc := 105) (x := a0) d_Img_build_105 rfl h0 ?_
      refine g_iconst (pc := 106) (x := 1) d_Img_build_106 (by decide) ?_
      refine g_pZ (pc := 107) d_Img_build_107 fp_Img_34 (fun J10 => ?_)
      refine g_aload_n (pc := 110) (x := a0) d_Img_build_110 rfl h0 ?_
      refine g_iconst (pc := 111) (x := 0) d_Img_build_111 (by decide) ?_
      refine g_pZ (pc := 112) d_Img_build_112 fp_Img_71 (fun J11 => ?_)
      refine g_iconst (pc := 115) (x := 1) d_Img_build_115 (by decide) ?_
      exact g_zret (pc := 116) d_Img_build_116 rfl (Nat.le_refl _) (Nat.le_refl _)
    refine g_aload_n (pc := 68) (x := a0) d_Img_build_68 rfl h0 ?_
    refine g_aload_n (pc := 69) (x := a0) d_Img_build_69 rfl h0 ?_
    refine g_gr (pc := 70) d_Img_build_70 fk_Img_30 (fun v12 => ?_)
    refine g_iload_n (pc := 73) (x := a2) d_Img_build_73 rfl h2 ?_
    refine g_vi (pc := 74) (rest := [vR a0]) (sn_Inc_moduleAt v12 a2 J2) rfl rfl d_Img_build_74 ck_Img_54 (Nat.le_of_ble_eq_true rfl) (Nat.le_of_ble_eq_true rfl) (Nat.le_refl _) (Nat.le_refl _) (fun v14 J13 => ?_)
    refine g_vv (pc := 77) (rest := []) (sn_Img_writeModule a0 v14 J13) rfl rfl d_Img_build_77 ck_Img_65 (Nat.le_of_ble_eq_true rfl) (Nat.le_of_ble_eq_true rfl) (Nat.le_refl _) (Nat.le_refl _) (fun J15 => ?_)
    refine g_iinc (pc := 80) (x := a2) (w := 1) d_Img_build_80 h2 (by decide) (Nat.le_of_ble_eq_true rfl) ?_
    refine g_goto (pc := 83) (tgt := 57) d_Img_build_83 rfl ?_
    exact ih _ _ _ _ _ h0 h1 rfl
def fn_Img_build_22 : Nat → Nat → Int32 → Int32 → fm_I → pR
  | 0, _, _, _, _ => none
  | n + 1, a0, a1, a2, I => gr 4 a0 1 (fun v1 => vi 2 v1 (fn_Inc_howMany v1 I) (fun v3 J2 => (if v3 ≤ a2 then vv 4 a0 (fn_Img_makeWordsZero a0 J2) (fun J4 => (fn_Img_build_57 FU a0 a1 0 J4)) else gr 4 a0 1 (fun v5 => vi 2 v5 (fn_Inc_moduleAt v5 a2 J2) (fun v7 J6 => vv 4 a0 (fn_Img_noteExports a0 v7 J6) (fun J8 => (fn_Img_build_22 n a0 a1 (a2 + 1) J8)))))))
set_option maxRecDepth 10000 in
theorem sn_Img_build_22 (n : Nat) : ∀ (a0 : Nat) (a1 : Int32) (a2 : Int32) (I : fm_I) (L : Nat → Option am_V), L 0 = some (vR a0) → L 1 = some (vI a1) → L 2 = some (vI a2) → gW c_Img_build (fn_Img_build_22 n a0 a1 a2 I) 22 L [] I := by
  induction n with
  | zero =>
    intro a0 a1 a2 I L h0 h1 h2
    unfold fn_Img_build_22
    exact g_none
  | succ n ih =>
    intro a0 a1 a2 I L h0 h1 h2
    unfold fn_Img_build_22
    refine g_iload_n (pc := 22) (x := a2) d_Img_build_22 rfl h2 ?_
    refine g_aload_n (pc := 23) (x := a0) d_Img_build_23 rfl h0 ?_
    refine g_gr (pc := 24) d_Img_build_24 fk_Img_30 (fun v1 => ?_)
    refine g_vi (pc := 27) (rest := [vI a2]) (sn_Inc_howMany v1 I) rfl rfl d_Img_build_27 ck_Img_48 (Nat.le_of_ble_eq_true rfl) (Nat.le_of_ble_eq_true rfl) (Nat.le_refl _) (Nat.le_refl _) (fun v3 J2 => ?_)
    refine g_icmpge (pc := 30) (tgt := 51) d_Img_build_30 rfl ?_ ?_
    · refine g_aload_n (pc := 51) (x := a0) d_Img_build_51 rfl h0 ?_
      refine g_vv (pc := 52) (rest := []) (sn_Img_makeWordsZero a0 J2) rfl rfl d_Img_build_52 ck_Img_62 (Nat.le_of_ble_eq_true rfl) (Nat.le_of_ble_eq_true rfl) (Nat.le_refl _) (Nat.le_refl _) (fun J4 => ?_)
      refine g_iconst (pc := 55) (x := 0) d_Img_build_55 (by decide) ?_
      refine g_istore_n (pc := 56) (x := 0) d_Img_build_56 rfl (Nat.le_of_ble_eq_true rfl) ?_
      exact sn_Img_build_57 FU _ _ _ _ _ h0 h1 rfl
    refine g_aload_n (pc := 33) (x := a0) d_Img_build_33 rfl h0 ?_
    refine g_aload_n (pc := 34) (x := a0) d_Img_build_34 rfl h0 ?_
    refine g_gr (pc := 35) d_Img_build_35 fk_Img_30 (fun v5 => ?_)
    refine g_iload_n (pc := 38) (x := a2) d_Img_build_38 rfl h2 ?_
    refine g_vi (pc := 39) (rest := [vR a0]) (sn_Inc_moduleAt v5 a2 J2) rfl rfl d_Img_build_39 ck_Img_54 (Nat.le_of_ble_eq_true rfl) (Nat.le_of_ble_eq_true rfl) (Nat.le_refl _) (Nat.le_refl _) (fun v7 J6 => ?_)
    refine g_vv (pc := 42) (rest := []) (sn_Img_noteExports a0 v7 J6) rfl rfl d_Img_build_42 ck_Img_58 (Nat.le_of_ble_eq_true rfl) (Nat.le_of_ble_eq_true rfl) (Nat.le_refl _) (Nat.le_refl _) (fun J8 => ?_)
    refine g_iinc (pc := 45) (x := a2) (w := 1) d_Img_build_45 h2 (by decide) (Nat.le_of_ble_eq_true rfl) ?_
    refine g_goto (pc := 48) (tgt := 22) d_Img_build_48 rfl ?_
    exact ih _ _ _ _ _ h0 h1 rfl
def fn_Img_build (a0 : Nat) (a1 : Int32) (I : fm_I) : pR := vv 4 a0 (fn_Img_layOutSections a0 I) (fun J1 => vv 4 a0 (fn_Img_layOutCommons a0 J1) (fun J2 => gi 4 a0 6 J2 (fun v3 => (if v3 ≤ 200 then (fn_Img_build_22 FU a0 a1 0 J2) else (rz 0 J2)))))
set_option maxRecDepth 10000 in
theorem sn_Img_build (a0 : Nat) (a1 : Int32) (I : fm_I) : gM m_Img_build 5 (fn_Img_build a0 a1 I) [vR a0, vI a1] I := by
  refine gM_of (by decide) rfl (Nat.le_of_ble_eq_true rfl) ?_
  show gW c_Img_build _ _ _ _ _
  unfold fn_Img_build
  refine g_aload_n (pc := 0) (x := a0) d_Img_build_0 rfl rfl ?_
  refine g_vv (pc := 1) (rest := []) (sn_Img_layOutSections a0 I) rfl rfl d_Img_build_1 ck_Img_38 (Nat.le_of_ble_eq_true rfl) (Nat.le_of_ble_eq_true rfl) (Nat.le_refl _) (Nat.le_refl _) (fun J1 => ?_)
  refine g_aload_n (pc := 4) (x := a0) d_Img_build_4 rfl rfl ?_
  refine g_vv (pc := 5) (rest := []) (sn_Img_layOutCommons a0 J1) rfl rfl d_Img_build_5 ck_Img_41 (Nat.le_of_ble_eq_true rfl) (Nat.le_of_ble_eq_true rfl) (Nat.le_refl _) (Nat.le_refl _) (fun J2 => ?_)
  refine g_aload_n (pc := 8) (x := a0) d_Img_build_8 rfl rfl ?_
  refine g_gi (pc := 9) d_Img_build_9 fk_Img_44 (fun v3 => ?_)
  refine g_sipush (pc := 12) (x := 200) d_Img_build_12 (by decide) ?_
  refine g_icmple (pc := 15) (tgt := 20) d_Img_build_15 rfl ?_ ?_
  · refine g_iconst (pc := 20) (x := 0) d_Img_build_20 (by decide) ?_
    refine g_istore_n (pc := 21) (x := 0) d_Img_build_21 rfl (Nat.le_of_ble_eq_true rfl) ?_
    exact sn_Img_build_22 FU _ _ _ _ _ rfl rfl rfl
  refine g_iconst (pc := 18) (x := 0) d_Img_build_18 (by decide) ?_
  exact g_zret (pc := 19) d_Img_build_19 rfl (Nat.le_refl _) (Nat.le_refl _)
abbrev c_SL_link : gC := (m_SL_link, 6, 0, 0, none, 0, 0)
def fn_SL_link_14 (a0 : Nat) (a1 : Int32) (I : fm_I) : pR := gr 0 a0 4 (fun v1 => vv 4 v1 (fn_Img_throwAway v1 I) (fun J2 => gr 0 a0 5 (fun v3 => vv 5 v3 (fn_Mac_throwAway v3 J2) (fun J4 => gr 0 a0 3 (fun v5 => gr 0 a0 2 (fun v6 => gr 0 a0 1 (fun v7 => vv 2 v5 (fn_Inc_goOver v5 v6 v7 a1 J4) (fun J8 => gr 0 a0 3 (fun v9 => vi 2 v9 (fn_Inc_hasDouble v9 J8) (fun v11 J10 => (if v11 = 0 then gr 0 a0 3 (fun v12 => vi 2 v12 (fn_Inc_wantedNames v12 J10) (fun v14 J13 => (if v14 = 0 then gr 0 a0 4 (fun v15 => vi 4 v15 (fn_Img_build v15 a1 J13) (fun v17 J16 => (if v17 = 0 then (ri (-4) J16) else (ri 0 J16)))) else (ri (-3) J13)))) else (ri (-2) J10))))))))))))
set_option maxRecDepth 10000 in
theorem sn_SL_link_14 : ∀ (a0 : Nat) (a1 : Int32) (I : fm_I) (L : Nat → Option am_V), L 0 = some (vR a0) → L 1 = some (vI a1) → gW c_SL_link (fn_SL_link_14 a0 a1 I) 14 L [] I := by
  intro a0 a1 I L h0 h1
  unfold fn_SL_link_14
  refine g_aload_n (pc := 14) (x := a0) d_SL_link_14 rfl h0 ?_
  refine g_gr (pc := 15) d_SL_link_15 fk_SL_43 (fun v1 => ?_)
  refine g_vv (pc := 18) (rest := []) (sn_Img_throwAway v1 I) rfl rfl d_SL_link_18 ck_SL_112 (Nat.le_of_ble_eq_true rfl) (Nat.le_of_ble_eq_true rfl) (Nat.le_refl _) (Nat.le_refl _) (fun J2 => ?_)
  refine g_aload_n (pc := 21) (x := a0) d_SL_link_21 rfl h0 ?_
  refine g_gr (pc := 22) d_SL_link_22 fk_SL_50 (fun v3 => ?_)
  refine g_vv (pc := 25) (rest := []) (sn_Mac_throwAway v3 J2) rfl rfl d_SL_link_25 ck_SL_115 (Nat.le_of_ble_eq_true rfl) (Nat.le_of_ble_eq_true rfl) (Nat.le_refl _) (Nat.le_refl _) (fun J4 => ?_)
  refine g_aload_n (pc := 28) (x := a0) d_SL_link_28 rfl h0 ?_
  refine g_gr (pc := 29) d_SL_link_29 fk_SL_34 (fun v5 => ?_)
  refine g_aload_n (pc := 32) (x := a0) d_SL_link_32 rfl h0 ?_
  refine g_gr (pc := 33) d_SL_link_33 fk_SL_31 (fun v6 => ?_)
  refine g_aload_n (pc := 36) (x := a0) d_SL_link_36 rfl h0 ?_
  refine g_gr (pc := 37) d_SL_link_37 fk_SL_27 (fun v7 => ?_)
  refine g_iload_n (pc := 40) (x := a1) d_SL_link_40 rfl h1 ?_
  refine g_vv (pc := 41) (rest := []) (sn_Inc_goOver v5 v6 v7 a1 J4) rfl rfl d_SL_link_41 ck_SL_116 (Nat.le_of_ble_eq_true rfl) (Nat.le_of_ble_eq_true rfl) (Nat.le_refl _) (Nat.le_refl _) (fun J8 => ?_)
  refine g_aload_n (pc := 44) (x := a0) d_SL_link_44 rfl h0 ?_
  refine g_gr (pc := 45) d_SL_link_45 fk_SL_34 (fun v9 => ?_)
  refine g_vi (pc := 48) (rest := []) (sn_Inc_hasDouble v9 J8) rfl rfl d_SL_link_48 ck_SL_120 (Nat.le_of_ble_eq_true rfl) (Nat.le_of_ble_eq_true rfl) (Nat.le_refl _) (Nat.le_refl _) (fun v11 J10 => ?_)
  refine g_ifeq (pc := 51) (tgt := 57) d_SL_link_51 rfl ?_ ?_
  · refine g_aload_n (pc := 57) (x := a0) d_SL_link_57 rfl h0 ?_
    refine g_gr (pc := 58) d_SL_link_58 fk_SL_34 (fun v12 => ?_)
    refine g_vi (pc := 61) (rest := []) (sn_Inc_wantedNames v12 J10) rfl rfl d_SL_link_61 ck_SL_124 (Nat.le_of_ble_eq_true rfl) (Nat.le_of_ble_eq_true rfl) (Nat.le_refl _) (Nat.le_refl _) (fun v14 J13 => ?_)
    refine g_ifeq (pc := 64) (tgt := 70) d_SL_link_64 rfl ?_ ?_
    · refine g_aload_n (pc := 70) (x := a0) d_SL_link_70 rfl h0 ?_
      refine g_gr (pc := 71) d_SL_link_71 fk_SL_43 (fun v15 => ?_)
      refine g_iload_n (pc := 74) (x := a1) d_SL_link_74 rfl h1 ?_
      refine g_vi (pc := 75) (rest := []) (sn_Img_build v15 a1 J13) rfl rfl d_SL_link_75 ck_SL_127 (Nat.le_of_ble_eq_true rfl) (Nat.le_of_ble_eq_true rfl) (Nat.le_refl _) (Nat.le_refl _) (fun v17 J16 => ?_)
      refine g_ifeq (pc := 78) (tgt := 85) d_SL_link_78 rfl ?_ ?_
      · refine g_bipush (pc := 85) (x := (-4)) d_SL_link_85 (by decide) ?_
        exact g_iret (pc := 87) d_SL_link_87 rfl (Nat.le_refl _) (Nat.le_refl _)
      refine g_iconst (pc := 81) (x := 0) d_SL_link_81 (by decide) ?_
      refine g_goto (pc := 82) (tgt := 87) d_SL_link_82 rfl ?_
      exact g_iret (pc := 87) d_SL_link_87 rfl (Nat.le_refl _) (Nat.le_refl _)
    refine g_bipush (pc := 67) (x := (-3)) d_SL_link_67 (by decide) ?_
    exact g_iret (pc := 69) d_SL_link_69 rfl (Nat.le_refl _) (Nat.le_refl _)
  refine g_bipush (pc := 54) (x := (-2)) d_SL_link_54 (by decide) ?_
  exact g_iret (pc := 56) d_SL_link_56 rfl (Nat.le_refl _) (Nat.le_refl _)
def fn_SL_link (a0 : Nat) (a1 : Int32) (I : fm_I) : pR := (if a1 = (-1) then (fn_SL_link_14 a0 a1 I) else bi (fn_SL_isName a1 I) (fun v2 J1 => (if v2 = 0 then (ri (-1) J1) else (fn_SL_link_14 a0 a1 J1))))
set_option maxRecDepth 10000 in
theorem sn_SL_link (a0 : Nat) (a1 : Int32) (I : fm_I) : gM m_SL_link 6 (fn_SL_link a0 a1 I) [vR a0, vI a1] I := by
  refine gM_of (by decide) rfl (Nat.le_of_ble_eq_true rfl) ?_
  show gW c_SL_link _ _ _ _ _
  unfold fn_SL_link
  refine g_iload_n (pc := 0) (x := a1) d_SL_link_0 rfl rfl ?_
  refine g_iconst (pc := 1) (x := (-1)) d_SL_link_1 (by decide) ?_
  refine g_icmpeq (pc := 2) (tgt := 14) d_SL_link_2 rfl ?_ ?_
  · exact sn_SL_link_14 _ _ _ _ rfl rfl
  refine g_iload_n (pc := 5) (x := a1) d_SL_link_5 rfl rfl ?_
  refine g_si (pc := 6) (rest := []) (sn_SL_isName a1 I) rfl rfl d_SL_link_6 ck_SL_109 (Nat.le_of_ble_eq_true rfl) (Nat.le_of_ble_eq_true rfl) (Nat.le_refl _) (Nat.le_refl _) (fun v2 J1 => ?_)
  refine g_ifne (pc := 9) (tgt := 14) d_SL_link_9 rfl ?_ ?_
  · exact sn_SL_link_14 _ _ _ _ rfl rfl
  refine g_iconst (pc := 12) (x := (-1)) d_SL_link_12 (by decide) ?_
  exact g_iret (pc := 13) d_SL_link_13 rfl (Nat.le_refl _) (Nat.le_refl _)
abbrev c_SL_included : gC := (m_SL_included, 2, 0, 0, none, 0, 0)
def fn_SL_included (a0 : Nat) (a1 : Int32) (I : fm_I) : pR := gr 0 a0 3 (fun v1 => vi 2 v1 (fn_Inc_moduleAt v1 a1 I) (fun v3 J2 => (ri v3 J2)))
set_option maxRecDepth 10000 in
theorem sn_SL_included (a0 : Nat) (a1 : Int32) (I : fm_I) : gM m_SL_included 2 (fn_SL_included a0 a1 I) [vR a0, vI a1] I := by
  refine gM_of (by decide) rfl (Nat.le_of_ble_eq_true rfl) ?_
  show gW c_SL_included _ _ _ _ _
  unfold fn_SL_included
  refine g_aload_n (pc := 0) (x := a0) d_SL_included_0 rfl rfl ?_
  refine g_gr (pc := 1) d_SL_included_1 fk_SL_34 (fun v1 => ?_)
  refine g_iload_n (pc := 4) (x := a1) d_SL_included_4 rfl rfl ?_
  refine g_vi (pc := 5) (rest := []) (sn_Inc_moduleAt v1 a1 I) rfl rfl d_SL_included_5 ck_SL_130 (Nat.le_of_ble_eq_true rfl) (Nat.le_of_ble_eq_true rfl) (Nat.le_refl _) (Nat.le_refl _) (fun v3 J2 => ?_)
  exact g_iret (pc := 8) d_SL_included_8 rfl (Nat.le_refl _) (Nat.le_refl _)
abbrev c_SL_missing : gC := (m_SL_missing, 1, 0, 0, none, 0, 0)
def fn_SL_missing (a0 : Nat) (I : fm_I) : pR := gr 0 a0 3 (fun v1 => vi 2 v1 (fn_Inc_wantedNames v1 I) (fun v3 J2 => (ri v3 J2)))
set_option maxRecDepth 10000 in
theorem sn_SL_missing (a0 : Nat) (I : fm_I) : gM m_SL_missing 1 (fn_SL_missing a0 I) [vR a0] I := by
  refine gM_of (by decide) rfl (Nat.le_of_ble_eq_true rfl) ?_
  show gW c_SL_missing _ _ _ _ _
  unfold fn_SL_missing
  refine g_aload_n (pc := 0) (x := a0) d_SL_missing_0 rfl rfl ?_
  refine g_gr (pc := 1) d_SL_missing_1 fk_SL_34 (fun v1 => ?_)
  refine g_vi (pc := 4) (rest := []) (sn_Inc_wantedNames v1 I) rfl rfl d_SL_missing_4 ck_SL_124 (Nat.le_of_ble_eq_true rfl) (Nat.le_of_ble_eq_true rfl) (Nat.le_refl _) (Nat.le_refl _) (fun v3 J2 => ?_)
  exact g_iret (pc := 7) d_SL_missing_7 rfl (Nat.le_refl _) (Nat.le_refl _)
abbrev c_Img_wordsIn : gC := (m_Img_wordsIn, 2, 0, 0, none, 0, 0)
def fn_Img_wordsIn (a0 : Nat) (a1 : Int32) (I : fm_I) : pR := gi 4 a0 8 I (fun v1 => (if v1 = 0 then (ri (-1) I) else bi (fn_SL_isSection a1 I) (fun v3 J2 => (if v3 = 0 then (ri (-1) J2) else gr 4 a0 4 (fun v4 => ld 0 v4 a1 J2 (fun v5 => (ri v5 J2)))))))
set_option maxRecDepth 10000 in
theorem sn_Img_wordsIn (a0 : Nat) (a1 : Int32) (I : fm_I) : gM m_Img_wordsIn 2 (fn_Img_wordsIn a0 a1 I) [vR a0, vI a1] I := by
  refine gM_of (by decide) rfl (Nat.le_of_ble_eq_true rfl) ?_
  show gW c_Img_wordsIn _ _ _ _ _
  unfold fn_Img_wordsIn
  refine g_aload_n (pc := 0) (x := a0) d_Img_wordsIn_0 rfl rfl ?_
  refine g_gi (pc := 1) d_Img_wordsIn_1 fk_Img_34 (fun v1 => ?_)
  refine g_ifeq (pc := 4) (tgt := 23) d_Img_wordsIn_4 rfl ?_ ?_
  · refine g_iconst (pc := 23) (x := (-1)) d_Img_wordsIn_23 (by decide) ?_
    exact g_iret (pc := 24) d_Img_wordsIn_24 rfl (Nat.le_refl _) (Nat.le_refl _)
  refine g_iload_n (pc := 7) (x := a1) d_Img_wordsIn_7 rfl rfl ?_
  refine g_ni (pc := 8) (rest := []) (sn_SL_isSection a1 I) rfl rfl d_Img_wordsIn_8 ck_Img_74 (Nat.le_of_ble_eq_true rfl) (Nat.le_of_ble_eq_true rfl) (Nat.le_refl _) (Nat.le_refl _) (fun v3 J2 => ?_)
  refine g_ifeq (pc := 11) (tgt := 23) d_Img_wordsIn_11 rfl ?_ ?_
  · refine g_iconst (pc := 23) (x := (-1)) d_Img_wordsIn_23 (by decide) ?_
    exact g_iret (pc := 24) d_Img_wordsIn_24 rfl (Nat.le_refl _) (Nat.le_refl _)
  refine g_aload_n (pc := 14) (x := a0) d_Img_wordsIn_14 rfl rfl ?_
  refine g_gr (pc := 15) d_Img_wordsIn_15 fk_Img_20 (fun v4 => ?_)
  refine g_iload_n (pc := 18) (x := a1) d_Img_wordsIn_18 rfl rfl ?_
  refine g_ldI (pc := 19) d_Img_wordsIn_19 (fun v5 => ?_)
  refine g_goto (pc := 20) (tgt := 24) d_Img_wordsIn_20 rfl ?_
  exact g_iret (pc := 24) d_Img_wordsIn_24 rfl (Nat.le_refl _) (Nat.le_refl _)
abbrev c_SL_size : gC := (m_SL_size, 3, 0, 0, none, 0, 0)
def fn_SL_size (a0 : Nat) (a1 : Int32) (I : fm_I) : pR := gr 0 a0 4 (fun v1 => vi 4 v1 (fn_Img_wordsIn v1 a1 I) (fun v3 J2 => (ri v3 J2)))
set_option maxRecDepth 10000 in
theorem sn_SL_size (a0 : Nat) (a1 : Int32) (I : fm_I) : gM m_SL_size 3 (fn_SL_size a0 a1 I) [vR a0, vI a1] I := by
  refine gM_of (by decide) rfl (Nat.le_of_ble_eq_true rfl) ?_
  show gW c_SL_size _ _ _ _ _
  unfold fn_SL_size
  refine g_aload_n (pc := 0) (x := a0) d_SL_size_0 rfl rfl ?_
  refine g_gr (pc := 1) d_SL_size_1 fk_SL_43 (fun v1 => ?_)
  refine g_iload_n (pc := 4) (x := a1) d_SL_size_4 rfl rfl ?_
  refine g_vi (pc := 5) (rest := []) (sn_Img_wordsIn v1 a1 I) rfl rfl d_SL_size_5 ck_SL_133 (Nat.le_of_ble_eq_true rfl) (Nat.le_of_ble_eq_true rfl) (Nat.le_refl _) (Nat.le_refl _) (fun v3 J2 => ?_)
  exact g_iret (pc := 8) d_SL_size_8 rfl (Nat.le_refl _) (Nat.le_refl _)
