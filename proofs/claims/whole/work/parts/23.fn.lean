abbrev c_Img_wordAt : gC := (m_Img_wordAt, 1, 0, 0, none, 0, 0)
def fn_Img_wordAt (a0 : Nat) (a1 : Int32) (I : fm_I) : pR := gi 4 a0 8 I (fun v1 => (if v1 = 0 then (ri (-1) I) else gi 4 a0 6 I (fun v2 => bi (fn_SL_isWithin a1 0 (v2 - 1) I) (fun v4 J3 => (if v4 = 0 then (ri (-1) J3) else gr 4 a0 3 (fun v5 => ld 0 v5 a1 J3 (fun v6 => (ri v6 J3))))))))
set_option maxRecDepth 10000 in
theorem sn_Img_wordAt (a0 : Nat) (a1 : Int32) (I : fm_I) : gM m_Img_wordAt 1 (fn_Img_wordAt a0 a1 I) [vR a0, vI a1] I := by
  refine gM_of (by decide) rfl (Nat.le_of_ble_eq_true rfl) ?_
  show gW c_Img_wordAt _ _ _ _ _
  unfold fn_Img_wordAt
  refine g_aload_n (pc := 0) (x := a0) d_Img_wordAt_0 rfl rfl ?_
  refine g_gi (pc := 1) d_Img_wordAt_1 fk_Img_34 (fun v1 => ?_)
  refine g_ifeq (pc := 4) (tgt := 30) d_Img_wordAt_4 rfl ?_ ?_
  · refine g_iconst (pc := 30) (x := (-1)) d_Img_wordAt_30 (by decide) ?_
    exact g_iret (pc := 31) d_Img_wordAt_31 rfl (Nat.le_refl _) (Nat.le_refl _)
  refine g_iload_n (pc := 7) (x := a1) d_Img_wordAt_7 rfl rfl ?_
  refine g_iconst (pc := 8) (x := 0) d_Img_wordAt_8 (by decide) ?_
  refine g_aload_n (pc := 9) (x := a0) d_Img_wordAt_9 rfl rfl ?_
  refine g_gi (pc := 10) d_Img_wordAt_10 fk_Img_44 (fun v2 => ?_)
  refine g_iconst (pc := 13) (x := 1) d_Img_wordAt_13 (by decide) ?_
  refine g_isub (pc := 14) d_Img_wordAt_14 ?_
  refine g_ni (pc := 15) (rest := []) (sn_SL_isWithin a1 0 (v2 - 1) I) rfl rfl d_Img_wordAt_15 ck_Img_78 (Nat.le_of_ble_eq_true rfl) (Nat.le_of_ble_eq_true rfl) (Nat.le_refl _) (Nat.le_refl _) (fun v4 J3 => ?_)
  refine g_ifeq (pc := 18) (tgt := 30) d_Img_wordAt_18 rfl ?_ ?_
  · refine g_iconst (pc := 30) (x := (-1)) d_Img_wordAt_30 (by decide) ?_
    exact g_iret (pc := 31) d_Img_wordAt_31 rfl (Nat.le_refl _) (Nat.le_refl _)
  refine g_aload_n (pc := 21) (x := a0) d_Img_wordAt_21 rfl rfl ?_
  refine g_gr (pc := 22) d_Img_wordAt_22 fk_Img_16 (fun v5 => ?_)
  refine g_iload_n (pc := 25) (x := a1) d_Img_wordAt_25 rfl rfl ?_
  refine g_ldI (pc := 26) d_Img_wordAt_26 (fun v6 => ?_)
  refine g_goto (pc := 27) (tgt := 31) d_Img_wordAt_27 rfl ?_
  exact g_iret (pc := 31) d_Img_wordAt_31 rfl (Nat.le_refl _) (Nat.le_refl _)
abbrev c_SL_word : gC := (m_SL_word, 2, 0, 0, none, 0, 0)
def fn_SL_word (a0 : Nat) (a1 : Int32) (I : fm_I) : pR := gr 0 a0 4 (fun v1 => vi 4 v1 (fn_Img_wordAt v1 a1 I) (fun v3 J2 => (ri v3 J2)))
set_option maxRecDepth 10000 in
theorem sn_SL_word (a0 : Nat) (a1 : Int32) (I : fm_I) : gM m_SL_word 2 (fn_SL_word a0 a1 I) [vR a0, vI a1] I := by
  refine gM_of (by decide) rfl (Nat.le_of_ble_eq_true rfl) ?_
  show gW c_SL_word _ _ _ _ _
  unfold fn_SL_word
  refine g_aload_n (pc := 0) (x := a0) d_SL_word_0 rfl rfl ?_
  refine g_gr (pc := 1) d_SL_word_1 fk_SL_43 (fun v1 => ?_)
  refine g_iload_n (pc := 4) (x := a1) d_SL_word_4 rfl rfl ?_
  refine g_vi (pc := 5) (rest := []) (sn_Img_wordAt v1 a1 I) rfl rfl d_SL_word_5 ck_SL_134 (Nat.le_of_ble_eq_true rfl) (Nat.le_of_ble_eq_true rfl) (Nat.le_refl _) (Nat.le_refl _) (fun v3 J2 => ?_)
  exact g_iret (pc := 8) d_SL_word_8 rfl (Nat.le_refl _) (Nat.le_refl _)
abbrev c_Img_valueOf : gC := (m_Img_valueOf, 2, 0, 0, none, 0, 0)
def fn_Img_valueOf (a0 : Nat) (a1 : Int32) (I : fm_I) : pR := gi 4 a0 8 I (fun v1 => (if v1 = 0 then (ri (-1) I) else gi 4 a0 9 I (fun v2 => (if v2 = 0 then bi (fn_SL_isName a1 I) (fun v4 J3 => (if v4 = 0 then (ri (-1) J3) else gr 4 a0 5 (fun v5 => ld 0 v5 a1 J3 (fun v6 => (ri v6 J3))))) else (ri (-1) I)))))
set_option maxRecDepth 10000 in
theorem sn_Img_valueOf (a0 : Nat) (a1 : Int32) (I : fm_I) : gM m_Img_valueOf 2 (fn_Img_valueOf a0 a1 I) [vR a0, vI a1] I := by
  refine gM_of (by decide) rfl (Nat.le_of_ble_eq_true rfl) ?_
  show gW c_Img_valueOf _ _ _ _ _
  unfold fn_Img_valueOf
  refine g_aload_n (pc := 0) (x := a0) d_Img_valueOf_0 rfl rfl ?_
  refine g_gi (pc := 1) d_Img_valueOf_1 fk_Img_34 (fun v1 => ?_)
  refine g_ifeq (pc := 4) (tgt := 30) d_Img_valueOf_4 rfl ?_ ?_
  · refine g_iconst (pc := 30) (x := (-1)) d_Img_valueOf_30 (by decide) ?_
    exact g_iret (pc := 31) d_Img_valueOf_31 rfl (Nat.le_refl _) (Nat.le_refl _)
  refine g_aload_n (pc := 7) (x := a0) d_Img_valueOf_7 rfl rfl ?_
  refine g_gi (pc := 8) d_Img_valueOf_8 fk_Img_71 (fun v2 => ?_)
  refine g_ifne (pc := 11) (tgt := 30) d_Img_valueOf_11 rfl ?_ ?_
  · refine g_iconst (pc := 30) (x := (-1)) d_Img_valueOf_30 (by decide) ?_
    exact g_iret (pc := 31) d_Img_valueOf_31 rfl (Nat.le_refl _) (Nat.le_refl _)
  refine g_iload_n (pc := 14) (x := a1) d_Img_valueOf_14 rfl rfl ?_
  refine g_ni (pc := 15) (rest := []) (sn_SL_isName a1 I) rfl rfl d_Img_valueOf_15 ck_Img_82 (Nat.le_of_ble_eq_true rfl) (Nat.le_of_ble_eq_true rfl) (Nat.le_refl _) (Nat.le_refl _) (fun v4 J3 => ?_)
  refine g_ifeq (pc := 18) (tgt := 30) d_Img_valueOf_18 rfl ?_ ?_
  · refine g_iconst (pc := 30) (x := (-1)) d_Img_valueOf_30 (by decide) ?_
    exact g_iret (pc := 31) d_Img_valueOf_31 rfl (Nat.le_refl _) (Nat.le_refl _)
  refine g_aload_n (pc := 21) (x := a0) d_Img_valueOf_21 rfl rfl ?_
  refine g_gr (pc := 22) d_Img_valueOf_22 fk_Img_23 (fun v5 => ?_)
  refine g_iload_n (pc := 25) (x := a1) d_Img_valueOf_25 rfl rfl ?_
  refine g_ldI (pc := 26) d_Img_valueOf_26 (fun v6 => ?_)
  refine g_goto (pc := 27) (tgt := 31) d_Img_valueOf_27 rfl ?_
  exact g_iret (pc := 31) d_Img_valueOf_31 rfl (Nat.le_refl _) (Nat.le_refl _)
abbrev c_SL_symbol : gC := (m_SL_symbol, 3, 0, 0, none, 0, 0)
def fn_SL_symbol (a0 : Nat) (a1 : Int32) (I : fm_I) : pR := gr 0 a0 4 (fun v1 => vi 4 v1 (fn_Img_valueOf v1 a1 I) (fun v3 J2 => (ri v3 J2)))
set_option maxRecDepth 10000 in
theorem sn_SL_symbol (a0 : Nat) (a1 : Int32) (I : fm_I) : gM m_SL_symbol 3 (fn_SL_symbol a0 a1 I) [vR a0, vI a1] I := by
  refine gM_of (by decide) rfl (Nat.le_of_ble_eq_true rfl) ?_
  show gW c_SL_symbol _ _ _ _ _
  unfold fn_SL_symbol
  refine g_aload_n (pc := 0) (x := a0) d_SL_symbol_0 rfl rfl ?_
  refine g_gr (pc := 1) d_SL_symbol_1 fk_SL_43 (fun v1 => ?_)
  refine g_iload_n (pc := 4) (x := a1) d_SL_symbol_4 rfl rfl ?_
  refine g_vi (pc := 5) (rest := []) (sn_Img_valueOf v1 a1 I) rfl rfl d_SL_symbol_5 ck_SL_137 (Nat.le_of_ble_eq_true rfl) (Nat.le_of_ble_eq_true rfl) (Nat.le_refl _) (Nat.le_refl _) (fun v3 J2 => ?_)
  exact g_iret (pc := 8) d_SL_symbol_8 rfl (Nat.le_refl _) (Nat.le_refl _)
abbrev c_Img_dropNames : gC := (m_Img_dropNames, 0, 0, 0, none, 0, 0)
def fn_Img_dropNames (a0 : Nat) (I : fm_I) : pR := gi 4 a0 8 I (fun v1 => (if v1 = 0 then (rz 0 I) else gi 4 a0 9 I (fun v2 => (if v2 = 0 then pZ 4 a0 9 1 I (fun J3 => (rz 1 J3)) else (rz 0 I)))))
set_option maxRecDepth 10000 in
theorem sn_Img_dropNames (a0 : Nat) (I : fm_I) : gM m_Img_dropNames 0 (fn_Img_dropNames a0 I) [vR a0] I := by
  refine gM_of (by decide) rfl (Nat.le_of_ble_eq_true rfl) ?_
  show gW c_Img_dropNames _ _ _ _ _
  unfold fn_Img_dropNames
  refine g_aload_n (pc := 0) (x := a0) d_Img_dropNames_0 rfl rfl ?_
  refine g_gi (pc := 1) d_Img_dropNames_1 fk_Img_34 (fun v1 => ?_)
  refine g_ifeq (pc := 4) (tgt := 14) d_Img_dropNames_4 rfl ?_ ?_
  · refine g_iconst (pc := 14) (x := 0) d_Img_dropNames_14 (by decide) ?_
    exact g_zret (pc := 15) d_Img_dropNames_15 rfl (Nat.le_refl _) (Nat.le_refl _)
  refine g_aload_n (pc := 7) (x := a0) d_Img_dropNames_7 rfl rfl ?_
  refine g_gi (pc := 8) d_Img_dropNames_8 fk_Img_71 (fun v2 => ?_)
  refine g_ifeq (pc := 11) (tgt := 16) d_Img_dropNames_11 rfl ?_ ?_
  · refine g_aload_n (pc := 16) (x := a0) d_Img_dropNames_16 rfl rfl ?_
    refine g_iconst (pc := 17) (x := 1) d_Img_dropNames_17 (by decide) ?_
    refine g_pZ (pc := 18) d_Img_dropNames_18 fp_Img_71 (fun J3 => ?_)
    refine g_iconst (pc := 21) (x := 1) d_Img_dropNames_21 (by decide) ?_
    exact g_zret (pc := 22) d_Img_dropNames_22 rfl (Nat.le_refl _) (Nat.le_refl _)
  refine g_iconst (pc := 14) (x := 0) d_Img_dropNames_14 (by decide) ?_
  exact g_zret (pc := 15) d_Img_dropNames_15 rfl (Nat.le_refl _) (Nat.le_refl _)
abbrev c_SL_strip : gC := (m_SL_strip, 1, 0, 0, none, 0, 0)
def fn_SL_strip (a0 : Nat) (I : fm_I) : pR := gr 0 a0 4 (fun v1 => vi 4 v1 (fn_Img_dropNames v1 I) (fun v3 J2 => (rz v3 J2)))
set_option maxRecDepth 10000 in
theorem sn_SL_strip (a0 : Nat) (I : fm_I) : gM m_SL_strip 1 (fn_SL_strip a0 I) [vR a0] I := by
  refine gM_of (by decide) rfl (Nat.le_of_ble_eq_true rfl) ?_
  show gW c_SL_strip _ _ _ _ _
  unfold fn_SL_strip
  refine g_aload_n (pc := 0) (x := a0) d_SL_strip_0 rfl rfl ?_
  refine g_gr (pc := 1) d_SL_strip_1 fk_SL_43 (fun v1 => ?_)
  refine g_vi (pc := 4) (rest := []) (sn_Img_dropNames v1 I) rfl rfl d_SL_strip_4 ck_SL_140 (Nat.le_of_ble_eq_true rfl) (Nat.le_of_ble_eq_true rfl) (Nat.le_refl _) (Nat.le_refl _) (fun v3 J2 => ?_)
  exact g_zret (pc := 7) d_SL_strip_7 rfl (Nat.le_refl _) (Nat.le_refl _)
abbrev c_Img_isThere : gC := (m_Img_isThere, 0, 0, 0, none, 0, 0)
def fn_Img_isThere (a0 : Nat) (I : fm_I) : pR := gi 4 a0 8 I (fun v1 => (rz v1 I))
set_option maxRecDepth 10000 in
theorem sn_Img_isThere (a0 : Nat) (I : fm_I) : gM m_Img_isThere 0 (fn_Img_isThere a0 I) [vR a0] I := by
  refine gM_of (by decide) rfl (Nat.le_of_ble_eq_true rfl) ?_
  show gW c_Img_isThere _ _ _ _ _
  unfold fn_Img_isThere
  refine g_aload_n (pc := 0) (x := a0) d_Img_isThere_0 rfl rfl ?_
  refine g_gi (pc := 1) d_Img_isThere_1 fk_Img_34 (fun v1 => ?_)
  exact g_zret (pc := 4) d_Img_isThere_4 rfl (Nat.le_refl _) (Nat.le_refl _)
abbrev c_Img_howMany : gC := (m_Img_howMany, 0, 0, 0, none, 0, 0)
def fn_Img_howMany (a0 : Nat) (I : fm_I) : pR := gi 4 a0 6 I (fun v1 => (ri v1 I))
set_option maxRecDepth 10000 in
theorem sn_Img_howMany (a0 : Nat) (I : fm_I) : gM m_Img_howMany 0 (fn_Img_howMany a0 I) [vR a0] I := by
  refine gM_of (by decide) rfl (Nat.le_of_ble_eq_true rfl) ?_
  show gW c_Img_howMany _ _ _ _ _
  unfold fn_Img_howMany
  refine g_aload_n (pc := 0) (x := a0) d_Img_howMany_0 rfl rfl ?_
  refine g_gi (pc := 1) d_Img_howMany_1 fk_Img_44 (fun v1 => ?_)
  exact g_iret (pc := 4) d_Img_howMany_4 rfl (Nat.le_refl _) (Nat.le_refl _)
abbrev c_Img_textWords : gC := (m_Img_textWords, 0, 0, 0, none, 0, 0)
def fn_Img_textWords (a0 : Nat) (I : fm_I) : pR := gr 4 a0 4 (fun v1 => ld 0 v1 0 I (fun v2 => (ri v2 I)))
set_option maxRecDepth 10000 in
theorem sn_Img_textWords (a0 : Nat) (I : fm_I) : gM m_Img_textWords 0 (fn_Img_textWords a0 I) [vR a0] I := by
  refine gM_of (by decide) rfl (Nat.le_of_ble_eq_true rfl) ?_
  show gW c_Img_textWords _ _ _ _ _
  unfold fn_Img_textWords
  refine g_aload_n (pc := 0) (x := a0) d_Img_textWords_0 rfl rfl ?_
  refine g_gr (pc := 1) d_Img_textWords_1 fk_Img_20 (fun v1 => ?_)
  refine g_iconst (pc := 4) (x := 0) d_Img_textWords_4 (by decide) ?_
  refine g_ldI (pc := 5) d_Img_textWords_5 (fun v2 => ?_)
  exact g_iret (pc := 6) d_Img_textWords_6 rfl (Nat.le_refl _) (Nat.le_refl _)
abbrev c_Img_entryAddress : gC := (m_Img_entryAddress, 0, 0, 0, none, 0, 0)
def fn_Img_entryAddress (a0 : Nat) (I : fm_I) : pR := gi 4 a0 7 I (fun v1 => (ri v1 I))
set_option maxRecDepth 10000 in
theorem sn_Img_entryAddress (a0 : Nat) (I : fm_I) : gM m_Img_entryAddress 0 (fn_Img_entryAddress a0 I) [vR a0] I := by
  refine gM_of (by decide) rfl (Nat.le_of_ble_eq_true rfl) ?_
  show gW c_Img_entryAddress _ _ _ _ _
  unfold fn_Img_entryAddress
  refine g_aload_n (pc := 0) (x := a0) d_Img_entryAddress_0 rfl rfl ?_
  refine g_gi (pc := 1) d_Img_entryAddress_1 fk_Img_68 (fun v1 => ?_)
  exact g_iret (pc := 4) d_Img_entryAddress_4 rfl (Nat.le_refl _) (Nat.le_refl _)
abbrev c_Mac_begin : gC := (m_Mac_begin, 2, 0, 0, none, 0, 0)
def fn_Mac_begin_18 : Nat → Nat → Nat → Int32 → fm_I → pR
  | 0, _, _, _, _ => none
  | n + 1, a0, a1, a2, I => gi 5 a0 3 I (fun v1 => (if v1 ≤ a2 then pI 5 a0 5 0 I (fun J2 => pI 5 a0 6 0 J2 (fun J3 => vi 4 a1 (fn_Img_entryAddress a1 J3) (fun v5 J4 => pI 5 a0 7 v5 J4 (fun J6 => pI 5 a0 8 0 J6 (fun J7 => pI 5 a0 9 0 J7 (fun J8 => pI 5 a0 10 0 J8 (fun J9 => pI 5 a0 11 0 J9 (fun J10 => pZ 5 a0 12 1 J10 (fun J11 => (rv J11)))))))))) else gr 5 a0 0 (fun v12 => vi 4 a1 (fn_Img_wordAt a1 a2 I) (fun v14 J13 => sI v12 a2 v14 J13 (fun J15 => (fn_Mac_begin_18 n a0 a1 (a2 + 1) J15))))))
set_option maxRecDepth 10000 in
theorem sn_Mac_begin_18 (n : Nat) : ∀ (a0 : Nat) (a1 : Nat) (a2 : Int32) (I : fm_I) (L : Nat → Option am_V), L 0 = some (vR a0) → L 1 = some (vR a1) → L 2 = some (vI a2) → gW c_Mac_begin (fn_Mac_begin_18 n a0 a1 a2 I) 18 L [] I := by
  induction n with
  | zero =>
    intro a0 a1 a2 I L h0 h1 h2
    unfold fn_Mac_begin_18
    exact g_none
  | succ n ih =>
    intro a0 a1 a2 I L h0 h1 h2
    unfold fn_Mac_begin_18
    refine g_iload_n (pc := 18) (x := a2) d_Mac_begin_18 rfl h2 ?_
    refine g_aload_n (pc := 19) (x := a0) d_Mac_begin_19 rfl h0 ?_
    refine g_gi (pc := 20) d_Mac_begin_20 fk_Mac_31 (fun v1 => ?_)
    refine g_icmpge (pc := 23) (tgt := 43) d_Mac_begin_23 rfl ?_ ?_
    · refine g_aload_n (pc := 43) (x := a0) d_Mac_begin_43 rfl h0 ?_
      refine g_iconst (pc := 44) (x := 0) d_Mac_begin_44 (by decide) ?_
      refine g_pI (pc := 45) d_Mac_begin_45 fp_Mac_44 (fun J2 => ?_)
      refine g_aload_n (pc := 48) (x := a0) d_Mac_begin_48 rfl h0 ?_
      refine g_iconst (pc := 49) (x := 0) d_Mac_begin_49 (by decide) ?_
      refine g_pI (pc := 50) d_Mac_begin_50 fp_Mac_47 (fun J3 => ?_)
      refine g_aload_n (pc := 53) (x := a0) d_Mac_begin_53 rfl h0 ?_
      refine g_aload_n (pc := 54) (x := a1) d_Mac_begin_54 rfl h1 ?_
      refine g_vi (pc := 55) (rest := [vR a0]) (sn_Img_entryAddress a1 J3) rfl rfl d_Mac_begin_55 ck_Mac_50 (Nat.le_of_ble_eq_true rfl) (Nat.le_of_ble_eq_true rfl) (Nat.le_refl _) (Nat.le_refl _) (fun v5 J4 => ?_)
      refine g_pI (pc := 58) d_Mac_begin_58 fp_Mac_53 (fun J6 => ?_)
      refine g_aload_n (pc := 61) (x := a0) d_Mac_begin_61 rfl h0 ?_
      refine g_iconst (pc := 62) (x := 0) d_Mac_begin_62 (by decide) ?_
      refine g_pI (pc := 63) d_Mac_begin_63 fp_Mac_56 (fun J7 => ?_)
      refine g_aload_n (pc := 66) (x := a0) d_Mac_begin_66 rfl h0 ?_
      refine g_iconst (pc := 67) (x := 0) d_Mac_begin_67 (by decide) ?_
      refine g_pI (pc := 68) d_Mac_begin_68 fp_Mac_59 (fun J8 => ?_)
      refine g_aload_n (pc := 71) (x := a0) d_Mac_begin_71 rfl h0 ?_
      refine g_iconst (pc := 72) (x := 0) d_Mac_begin_72 (by decide) ?_
      refine g_pI (pc := 73) d_Mac_begin_73 fp_Mac_62 (fun J9 => ?_)
      refine g_aload_n (pc := 76) (x := a0) d_Mac_begin_76 rfl h0 ?_
      refine g_iconst (pc := 77) (x := 0) d_Mac_begin_77 (by decide) ?_
      refine g_pI (pc := 78) d_Mac_begin_78 fp_Mac_65 (fun J10 => ?_)
      refine g_aload_n (pc := 81) (x := a0) d_Mac_begin_81 rfl h0 ?_
      refine g_iconst (pc := 82) (x := 1) d_Mac_begin_82 (by decide) ?_
      refine g_pZ (pc := 83) d_Mac_begin_83 fp_Mac_21 (fun J11 => ?_)
      exact g_ret (pc := 86) d_Mac_begin_86 rfl (Nat.le_refl _) (Nat.le_refl _)
    refine g_aload_n (pc := 26) (x := a0) d_Mac_begin_26 rfl h0 ?_
    refine g_gr (pc := 27) d_Mac_begin_27 fk_Mac_9 (fun v12 => ?_)
    refine g_iload_n (pc := 30) (x := a2) d_Mac_begin_30 rfl h2 ?_
    refine g_aload_n (pc := 31) (x := a1) d_Mac_begin_31 rfl h1 ?_
    refine g_iload_n (pc := 32) (x := a2) d_Mac_begin_32 rfl h2 ?_
    refine g_vi (pc := 33) (rest := [vI a2, vR v12]) (sn_Img_wordAt a1 a2 I) rfl rfl d_Mac_begin_33 ck_Mac_40 (Nat.le_of_ble_eq_true rfl) (Nat.le_of_ble_eq_true rfl) (Nat.le_refl _) (Nat.le_refl _) (fun v14 J13 => ?_)
    refine g_sI (pc := 36) d_Mac_begin_36 (fun J15 => ?_)
    refine g_iinc (pc := 37) (x := a2) (w := 1) d_Mac_begin_37 h2 (by decide) (Nat.le_of_ble_eq_true rfl) ?_
    refine g_goto (pc := 40) (tgt := 18) d_Mac_begin_40 rfl ?_
    exact ih _ _ _ _ _ h0 h1 rfl
def fn_Mac_begin (a0 : Nat) (a1 : Nat) (I : fm_I) : pR := vi 4 a1 (fn_Img_howMany a1 I) (fun v2 J1 => pI 5 a0 3 v2 J1 (fun J3 => vi 4 a1 (fn_Img_textWords a1 J3) (fun v5 J4 => pI 5 a0 4 v5 J4 (fun J6 => (fn_Mac_begin_18 FU a0 a1 0 J6)))))
set_option maxRecDepth 10000 in
theorem sn_Mac_begin (a0 : Nat) (a1 : Nat) (I : fm_I) : gM m_Mac_begin 2 (fn_Mac_begin a0 a1 I) [vR a0, vR a1] I := by
  refine gM_of (by decide) rfl (Nat.le_of_ble_eq_true rfl) ?_
  show gW c_Mac_begin _ _ _ _ _
  unfold fn_Mac_begin
  refine g_aload_n (pc := 0) (x := a0) d_Mac_begin_0 rfl rfl ?_
  refine g_aload_n (pc := 1) (x := a1) d_Mac_begin_1 rfl rfl ?_
  refine g_vi (pc := 2) (rest := [vR a0]) (sn_Img_howMany a1 I) rfl rfl d_Mac_begin_2 ck_Mac_25 (Nat.le_of_ble_eq_true rfl) (Nat.le_of_ble_eq_true rfl) (Nat.le_refl _) (Nat.le_refl _) (fun v2 J1 => ?_)
  refine g_pI (pc := 5) d_Mac_begin_5 fp_Mac_31 (fun J3 => ?_)
  refine g_aload_n (pc := 8) (x := a0) d_Mac_begin_8 rfl rfl ?_
  refine g_aload_n (pc := 9) (x := a1) d_Mac_begin_9 rfl rfl ?_
  refine g_vi (pc := 10) (rest := [vR a0]) (sn_Img_textWords a1 J3) rfl rfl d_Mac_begin_10 ck_Mac_35 (Nat.le_of_ble_eq_true rfl) (Nat.le_of_ble_eq_true rfl) (Nat.le_refl _) (Nat.le_refl _) (fun v5 J4 => ?_)
  refine g_pI (pc := 13) d_Mac_begin_13 fp_Mac_38 (fun J6 => ?_)
  refine g_iconst (pc := 16) (x := 0) d_Mac_begin_16 (by decide) ?_
  refine g_istore_n (pc := 17) (x := 0) d_Mac_begin_17 rfl (Nat.le_of_ble_eq_true rfl) ?_
  exact sn_Mac_begin_18 FU _ _ _ _ _ rfl rfl rfl
abbrev c_SL_start : gC := (m_SL_start, 3, 0, 0, none, 0, 0)
def fn_SL_start (a0 : Nat) (I : fm_I) : pR := gr 0 a0 4 (fun v1 => vi 4 v1 (fn_Img_isThere v1 I) (fun v3 J2 => (if v3 = 0 then (rz 0 J2) else gr 0 a0 5 (fun v4 => gr 0 a0 4 (fun v5 => vv 5 v4 (fn_Mac_begin v4 v5 J2) (fun J6 => (rz 1 J6)))))))
set_option maxRecDepth 10000 in
theorem sn_SL_start (a0 : Nat) (I : fm_I) : gM m_SL_start 3 (fn_SL_start a0 I) [vR a0] I := by
  refine gM_of (by decide) rfl (Nat.le_of_ble_eq_true rfl) ?_
  show gW c_SL_start _ _ _ _ _
  unfold fn_SL_start
  refine g_aload_n (pc := 0) (x := a0) d_SL_start_0 rfl rfl ?_
  refine g_gr (pc := 1) d_SL_start_1 fk_SL_43 (fun v1 => ?_)
  refine g_vi (pc := 4) (rest := []) (sn_Img_isThere v1 I) rfl rfl d_SL_start_4 ck_SL_143 (Nat.le_of_ble_eq_true rfl) (Nat.le_of_ble_eq_true rfl) (Nat.le_refl _) (Nat.le_refl _) (fun v3 J2 => ?_)
  refine g_ifne (pc := 7) (tgt := 12) d_SL_start_7 rfl ?_ ?_
  · refine g_aload_n (pc := 12) (x := a0) d_SL_start_12 rfl rfl ?_
    refine g_gr (pc := 13) d_SL_start_13 fk_SL_50 (fun v4 => ?_)
    refine g_aload_n (pc := 16) (x := a0) d_SL_start_16 rfl rfl ?_
    refine g_gr (pc := 17) d_SL_start_17 fk_SL_43 (fun v5 => ?_)
    refine g_vv (pc := 20) (rest := []) (sn_Mac_begin v4 v5 J2) rfl rfl d_SL_start_20 ck_SL_146 (Nat.le_of_ble_eq_true rfl) (Nat.le_of_ble_eq_true rfl) (Nat.le_refl _) (Nat.le_refl _) (fun J6 => ?_)
    refine g_iconst (pc := 23) (x := 1) d_SL_start_23 (by decide) ?_
    exact g_zret (pc := 24) d_SL_start_24 rfl (Nat.le_refl _) (Nat.le_refl _)
  refine g_iconst (pc := 10) (x := 0) d_SL_start_10 (by decide) ?_
  exact g_zret (pc := 11) d_SL_start_11 rfl (Nat.le_refl _) (Nat.le_refl _)
abbrev c_Mac_putOnTape : gC := (m_Mac_putOnTape, 2, 0, 0, none, 0, 0)
def fn_Mac_putOnTape (a0 : Nat) (a1 : Int32) (I : fm_I) : pR := gi 5 a0 12 I (fun v1 => (if v1 = 0 then (rz 0 I) else bi (fn_SL_isWord a1 I) (fun v3 J2 => (if v3 = 0 then (rz 0 J2) else gi 5 a0 9 J2 (fun v4 => (if v4 < 8 then gr 5 a0 1 (fun v5 => gi 5 a0 9 J2 (fun v6 => sI v5 v6 a1 J2 (fun J7 => gi 5 a0 9 J7 (fun v8 => pI 5 a0 9 (v8 + 1) J7 (fun J9 => (rz 1 J9)))))) else (rz 0 J2)))))))
set_option maxRecDepth 10000 in
theorem sn_Mac_putOnTape (a0 : Nat) (a1 : Int32) (I : fm_I) : gM m_Mac_putOnTape 2 (fn_Mac_putOnTape a0 a1 I) [vR a0, vI a1] I := by
  refine gM_of (by decide) rfl (Nat.le_of_ble_eq_true rfl) ?_
  show gW c_Mac_putOnTape _ _ _ _ _
  unfold fn_Mac_putOnTape
  refine g_aload_n (pc := 0) (x := a0) d_Mac_putOnTape_0 rfl rfl ?_
  refine g_gi (pc := 1) d_Mac_putOnTape_1 fk_Mac_21 (fun v1 => ?_)
  refine g_ifeq (pc := 4) (tgt := 23) d_Mac_putOnTape_4 rfl ?_ ?_
  · refine g_iconst (pc := 23) (x := 0) d_Mac_putOnTape_23 (by decide) ?_
    exact g_zret (pc := 24) d_Mac_putOnTape_24 rfl (Nat.le_refl _) (Nat.le_refl _)
  refine g_iload_n (pc := 7) (x := a1) d_Mac_putOnTape_7 rfl rfl ?_
  refine g_ni (pc := 8) (rest := []) (sn_SL_isWord a1 I) rfl rfl d_Mac_putOnTape_8 ck_Mac_68 (Nat.le_of_ble_eq_true rfl) (Nat.le_of_ble_eq_true rfl) (Nat.le_refl _) (Nat.le_refl _) (fun v3 J2 => ?_)
  refine g_ifeq (pc := 11) (tgt := 23) d_Mac_putOnTape_11 rfl ?_ ?_
  · refine g_iconst (pc := 23) (x := 0) d_Mac_putOnTape_23 (by decide) ?_
    exact g_zret (pc := 24) d_Mac_putOnTape_24 rfl (Nat.le_refl _) (Nat.le_refl _)
  refine g_aload_n (pc := 14) (x := a0) d_Mac_putOnTape_14 rfl rfl ?_
  refine g_gi (pc := 15) d_Mac_putOnTape_15 fk_Mac_59 (fun v4 => ?_)
  refine g_bipush (pc := 18) (x := 8) d_Mac_putOnTape_18 (by decide) ?_
  refine g_icmplt (pc := 20) (tgt := 25) d_Mac_putOnTape_20 rfl ?_ ?_
  · refine g_aload_n (pc := 25) (x := a0) d_Mac_putOnTape_25 rfl rfl ?_
    refine g_gr (pc := 26) d_Mac_putOnTape_26 fk_Mac_15 (fun v5 => ?_)
    refine g_aload_n (pc := 29) (x := a0) d_Mac_putOnTape_29 rfl rfl ?_
    refine g_gi (pc := 30) d_Mac_putOnTape_30 fk_Mac_59 (fun v6 => ?_)
    refine g_iload_n (pc := 33) (x := a1) d_Mac_putOnTape_33 rfl rfl ?_
    refine g_sI (pc := 34) d_Mac_putOnTape_34 (fun J7 => ?_)
    refine g_aload_n (pc := 35) (x := a0) d_Mac_putOnTape_35 rfl rfl ?_
    refine g_dup (pc := 36) d_Mac_putOnTape_36 ?_
    refine g_gi (pc := 37) d_Mac_putOnTape_37 fk_Mac_59 (fun v8 => ?_)
    refine g_iconst (pc := 40) (x := 1) d_Mac_putOnTape_40 (by decide) ?_
    refine g_iadd (pc := 41) d_Mac_putOnTape_41 ?_
    refine g_pI (pc := 42) d_Mac_putOnTape_42 fp_Mac_59 (fun J9 => ?_)
    refine g_iconst (pc := 45) (x := 1) d_Mac_putOnTape_45 (by decide) ?_
    exact g_zret (pc := 46) d_Mac_putOnTape_46 rfl (Nat.le_refl _) (Nat.le_refl _)
  refine g_iconst (pc := 23) (x := 0) d_Mac_putOnTape_23 (by decide) ?_
  exact g_zret (pc := 24) d_Mac_putOnTape_24 rfl (Nat.le_refl _) (Nat.le_refl _)
abbrev c_SL_feed : gC := (m_SL_feed, 3, 0, 0, none, 0, 0)
def fn_SL_feed (a0 : Nat) (a1 : Int32) (I : fm_I) : pR := gr 0 a0 5 (fun v1 => vi 5 v1 (fn_Mac_putOnTape v1 a1 I) (fun v3 J2 => (rz v3 J2)))
set_option maxRecDepth 10000 in
theorem sn_SL_feed (a0 : Nat) (a1 : Int32) (I : fm_I) : gM m_SL_feed 3 (fn_SL_feed a0 a1 I) [vR a0, vI a1] I := by
  refine gM_of (by decide) rfl (Nat.le_of_ble_eq_true rfl) ?_
  show gW c_SL_feed _ _ _ _ _
  unfold fn_SL_feed
  refine g_aload_n (pc := 0) (x := a0) d_SL_feed_0 rfl rfl ?_
  refine g_gr (pc := 1) d_SL_feed_1 fk_SL_50 (fun v1 => ?_)
  refine g_iload_n (pc := 4) (x := a1) d_SL_feed_4 rfl rfl ?_
  refine g_vi (pc := 5) (rest := []) (sn_Mac_putOnTape v1 a1 I) rfl rfl d_SL_feed_5 ck_SL_150 (Nat.le_of_ble_eq_true rfl) (Nat.le_of_ble_eq_true rfl) (Nat.le_refl _) (Nat.le_refl _) (fun v3 J2 => ?_)
  exact g_zret (pc := 8) d_SL_feed_8 rfl (Nat.le_refl _) (Nat.le_refl _)
abbrev c_Mac_isThere : gC := (m_Mac_isThere, 0, 0, 0, none, 0, 0)
def fn_Mac_isThere (a0 : Nat) (I : fm_I) : pR := gi 5 a0 12 I (fun v1 => (rz v1 I))
set_option maxRecDepth 10000 in
theorem sn_Mac_isThere (a0 : Nat) (I : fm_I) : gM m_Mac_isThere 0 (fn_Mac_isThere a0 I) [vR a0] I := by
  refine gM_of (by decide) rfl (Nat.le_of_ble_eq_true rfl) ?_
  show gW c_Mac_isThere _ _ _ _ _
  unfold fn_Mac_isThere
  refine g_aload_n (pc := 0) (x := a0) d_Mac_isThere_0 rfl rfl ?_
  refine g_gi (pc := 1) d_Mac_isThere_1 fk_Mac_21 (fun v1 => ?_)
  exact g_zret (pc := 4) d_Mac_isThere_4 rfl (Nat.le_refl _) (Nat.le_refl _)
abbrev c_Mac_isInside : gC := (m_Mac_isInside, 0, 0, 0, none, 0, 0)
def fn_Mac_isInside (a0 : Nat) (a1 : Int32) (I : fm_I) : pR := (if a1 < 0 then (rz 0 I) else gi 5 a0 3 I (fun v1 => (if v1 ≤ a1 then (rz 0 I) else (rz 1 I))))
set_option maxRecDepth 10000 in
theorem sn_Mac_isInside (a0 : Nat) (a1 : Int32) (I : fm_I) : gM m_Mac_isInside 0 (fn_Mac_isInside a0 a1 I) [vR a0, vI a1] I := by
  refine gM_of (by decide) rfl (Nat.le_of_ble_eq_true rfl) ?_
  show gW c_Mac_isInside _ _ _ _ _
  unfold fn_Mac_isInside
  refine g_iload_n (pc := 0) (x := a1) d_Mac_isInside_0 rfl rfl ?_
  refine g_iflt (pc := 1) (tgt := 16) d_Mac_isInside_1 rfl ?_ ?_
  · refine g_iconst (pc := 16) (x := 0) d_Mac_isInside_16 (by decide) ?_
    exact g_zret (pc := 17) d_Mac_isInside_17 rfl (Nat.le_refl _) (Nat.le_refl _)
  refine g_iload_n (pc := 4) (x := a1) d_Mac_isInside_4 rfl rfl ?_
  refine g_aload_n (pc := 5) (x := a0) d_Mac_isInside_5 rfl rfl ?_
  refine g_gi (pc := 6) d_Mac_isInside_6 fk_Mac_31 (fun v1 => ?_)
  refine g_icmpge (pc := 9) (tgt := 16) d_Mac_isInside_9 rfl ?_ ?_
  · refine g_iconst (pc := 16) (x := 0) d_Mac_isInside_16 (by decide) ?_
    exact g_zret (pc := 17) d_Mac_isInside_17 rfl (Nat.le_refl _) (Nat.le_refl _)
  refine g_iconst (pc := 12) (x := 1) d_Mac_isInside_12 (by decide) ?_
  refine g_goto (pc := 13) (tgt := 17) d_Mac_isInside_13 rfl ?_
  exact g_zret (pc := 17) d_Mac_isInside_17 rfl (Nat.le_refl _) (Nat.le_refl _)
abbrev c_Mac_isTwoWordsLong : gC := (m_Mac_isTwoWordsLong, 1, 0, 0, none, 0, 0)
def fn_Mac_isTwoWordsLong (a0 : Int32) (I : fm_I) : pR := bi (fn_SL_isWithin a0 1 6 I) (fun v2 J1 => (if v2 = 0 then (if a0 = 8 then (rz 1 J1) else (rz 0 J1)) else (rz 1 J1)))
set_option maxRecDepth 10000 in
theorem sn_Mac_isTwoWordsLong (a0 : Int32) (I : fm_I) : gM m_Mac_isTwoWordsLong 1 (fn_Mac_isTwoWordsLong a0 I) [vI a0] I := by
  refine gM_of (by decide) rfl (Nat.le_of_ble_eq_true rfl) ?_
  show gW c_Mac_isTwoWordsLong _ _ _ _ _
  unfold fn_Mac_isTwoWordsLong
  refine g_iload_n (pc := 0) (x := a0) d_Mac_isTwoWordsLong_0 rfl rfl ?_
  refine g_iconst (pc := 1) (x := 1) d_Mac_isTwoWordsLong_1 (by decide) ?_
  refine g_bipush (pc := 2) (x := 6) d_Mac_isTwoWordsLong_2 (by decide) ?_
  refine g_ni (pc := 4) (rest := []) (sn_SL_isWithin a0 1 6 I) rfl rfl d_Mac_isTwoWordsLong_4 ck_Mac_81 (Nat.le_of_ble_eq_true rfl) (Nat.le_of_ble_eq_true rfl) (Nat.le_refl _) (Nat.le_refl _) (fun v2 J1 => ?_)
  refine g_ifne (pc := 7) (tgt := 16) d_Mac_isTwoWordsLong_7 rfl ?_ ?_
  · refine g_iconst (pc := 16) (x := 1) d_Mac_isTwoWordsLong_16 (by decide) ?_
    refine g_goto (pc := 17) (tgt := 21) d_Mac_isTwoWordsLong_17 rfl ?_
    exact g_zret (pc := 21) d_Mac_isTwoWordsLong_21 rfl (Nat.le_refl _) (Nat.le_refl _)
  refine g_iload_n (pc := 10) (x := a0) d_Mac_isTwoWordsLong_10 rfl rfl ?_
  refine g_bipush (pc := 11) (x := 8) d_Mac_isTwoWordsLong_11 (by decide) ?_
  refine g_icmpne (pc := 13) (tgt := 20) d_Mac_isTwoWordsLong_13 rfl ?_ ?_
  · refine g_iconst (pc := 20) (x := 0) d_Mac_isTwoWordsLong_20 (by decide) ?_
    exact g_zret (pc := 21) d_Mac_isTwoWordsLong_21 rfl (Nat.le_refl _) (Nat.le_refl _)
  refine g_iconst (pc := 16) (x := 1) d_Mac_isTwoWordsLong_16 (by decide) ?_
  refine g_goto (pc := 17) (tgt := 21) d_Mac_isTwoWordsLong_17 rfl ?_
  exact g_zret (pc := 21) d_Mac_isTwoWordsLong_21 rfl (Nat.le_refl _) (Nat.le_refl _)
abbrev c_Mac_mayTouch : gC := (m_Mac_mayTouch, 1, 0, 0, none, 0, 0)
def fn_Mac_mayTouch_15 (a0 : Nat) (a1 : Int32) (a2 : Int32) (I : fm_I) : pR := bi (fn_SL_isWithin a1 2 5 I) (fun v2 J1 => (if v2 = 0 then (rz 1 J1) else vi 5 a0 (fn_Mac_isInside a0 a2 J1) (fun v4 J3 => (if v4 = 0 then (rz 0 J3) else (rz 1 J3)))))
set_option maxRecDepth 10000 in
theorem sn_Mac_mayTouch_15 : ∀ (a0 : Nat) (a1 : Int32) (a2 : Int32) (I : fm_I) (L : Nat → Option am_V), L 0 = some (vR a0) → L 1 = some (vI a1) → L 2 = some (vI a2) → gW c_Mac_mayTouch (fn_Mac_mayTouch_15 a0 a1 a2 I) 15 L [] I := by
  intro a0 a1 a2 I L h0 h1 h2
  unfold fn_Mac_mayTouch_15
  refine g_iload_n (pc := 15) (x := a1) d_Mac_mayTouch_15 rfl h1 ?_
  refine g_iconst (pc := 16) (x := 2) d_Mac_mayTouch_16 (by decide) ?_
  refine g_iconst (pc := 17) (x := 5) d_Mac_mayTouch_17 (by decide) ?_
  refine g_ni (pc := 18) (rest := []) (sn_SL_isWithin a1 2 5 I) rfl rfl d_Mac_mayTouch_18 ck_Mac_81 (Nat.le_of_ble_eq_true rfl) (Nat.le_of_ble_eq_true rfl) (Nat.le_refl _) (Nat.le_refl _) (fun v2 J1 => ?_)
  refine g_ifeq (pc := 21) (tgt := 32) d_Mac_mayTouch_21 rfl ?_ ?_
  · refine g_iconst (pc := 32) (x := 1) d_Mac_mayTouch_32 (by decide) ?_
    refine g_goto (pc := 33) (tgt := 37) d_Mac_mayTouch_33 rfl ?_
    exact g_zret (pc := 37) d_Mac_mayTouch_37 rfl (Nat.le_refl _) (Nat.le_refl _)
  refine g_aload_n (pc := 24) (x := a0) d_Mac_mayTouch_24 rfl h0 ?_
  refine g_iload_n (pc := 25) (x := a2) d_Mac_mayTouch_25 rfl h2 ?_
  refine g_vi (pc := 26) (rest := []) (sn_Mac_isInside a0 a2 J1) rfl rfl d_Mac_mayTouch_26 ck_Mac_78 (Nat.le_of_ble_eq_true rfl) (Nat.le_of_ble_eq_true rfl) (Nat.le_refl _) (Nat.le_refl _) (fun v4 J3 => ?_)
  refine g_ifeq (pc := 29) (tgt := 36) d_Mac_mayTouch_29 rfl ?_ ?_
  · refine g_iconst (pc := 36) (x := 0) d_Mac_mayTouch_36 (by decide) ?_
    exact g_zret (pc := 37) d_Mac_mayTouch_37 rfl (Nat.le_refl _) (Nat.le_refl _)
  refine g_iconst (pc := 32) (x := 1) d_Mac_mayTouch_32 (by decide) ?_
  refine g_goto (pc := 33) (tgt := 37) d_Mac_mayTouch_33 rfl ?_
  exact g_zret (pc := 37) d_Mac_mayTouch_37 rfl (Nat.le_refl _) (Nat.le_refl _)
def fn_Mac_mayTouch (a0 : Nat) (a1 : Int32) (a2 : Int32) (I : fm_I) : pR := (if a1 = 3 then gi 5 a0 4 I (fun v1 => (if v1 ≤ a2 then (fn_Mac_mayTouch_15 a0 a1 a2 I) else (rz 0 I))) else (fn_Mac_mayTouch_15 a0 a1 a2 I))
set_option maxRecDepth 10000 in
theorem sn_Mac_mayTouch (a0 : Nat) (a1 : Int32) (a2 : Int32) (I : fm_I) : gM m_Mac_mayTouch 1 (fn_Mac_mayTouch a0 a1 a2 I) [vR a0, vI a1, vI a2] I := by
  refine gM_of (by decide) rfl (Nat.le_of_ble_eq_true rfl) ?_
  show gW c_Mac_mayTouch _ _ _ _ _
  unfold fn_Mac_mayTouch
  refine g_iload_n (pc := 0) (x := a1) d_Mac_mayTouch_0 rfl rfl ?_
  refine g_iconst (pc := 1) (x := 3) d_Mac_mayTouch_1 (by decide) ?_
  refine g_icmpne (pc := 2) (tgt := 15) d_Mac_mayTouch_2 rfl ?_ ?_
  · exact sn_Mac_mayTouch_15 _ _ _ _ _ rfl rfl rfl
  refine g_iload_n (pc := 5) (x := a2) d_Mac_mayTouch_5 rfl rfl ?_
  refine g_aload_n (pc := 6) (x := a0) d_Mac_mayTouch_6 rfl rfl ?_
  refine g_gi (pc := 7) d_Mac_mayTouch_7 fk_Mac_38 (fun v1 => ?_)
  refine g_icmpge (pc := 10) (tgt := 15) d_Mac_mayTouch_10 rfl ?_ ?_
  · exact sn_Mac_mayTouch_15 _ _ _ _ _ rfl rfl rfl
  refine g_iconst (pc := 13) (x := 0) d_Mac_mayTouch_13 (by decide) ?_
  exact g_zret (pc := 14) d_Mac_mayTouch_14 rfl (Nat.le_refl _) (Nat.le_refl _)
abbrev c_Mac_conditionHolds : gC := (m_Mac_conditionHolds, 0, 0, 0, none, 0, 0)
def fn_Mac_conditionHolds (a0 : Nat) (a1 : Int32) (I : fm_I) : pR := bn ((a1 / 256) - (a1 / 256) / 4 * 4) (fun v1 => (if v1 = 0 then (rz 1 I) else (if v1 = 1 then gi 5 a0 5 I (fun v2 => (if v2 = 0 then (rz 1 I) else (rz 0 I))) else (if v1 = 2 then gi 5 a0 5 I (fun v3 => (if v3 < 32768 then (rz 0 I) else (rz 1 I))) else gi 5 a0 5 I (fun v4 => (if v4 = 0 then (rz 0 I) else (rz 1 I)))))))
set_option maxRecDepth 10000 in
theorem sn_Mac_conditionHolds (a0 : Nat) (a1 : Int32) (I : fm_I) : gM m_Mac_conditionHolds 0 (fn_Mac_conditionHolds a0 a1 I) [vR a0, vI a1] I := by
  refine gM_of (by decide) rfl (Nat.le_of_ble_eq_true rfl) ?_
  show gW c_Mac_conditionHolds _ _ _ _ _
  unfold fn_Mac_conditionHolds
  refine g_iload_n (pc := 0) (x := a1) d_Mac_conditionHolds_0 rfl rfl ?_
  refine g_sipush (pc := 1) (x := 256) d_Mac_conditionHolds_1 (by decide) ?_
  refine g_idiv (pc := 4) d_Mac_conditionHolds_4 (by decide) ?_
  refine g_iconst (pc := 5) (x := 4) d_Mac_conditionHolds_5 (by decide) ?_
  refine g_irem (pc := 6) d_Mac_conditionHolds_6 (by decide) ?_
  refine g_bn (fun v1 => ?_)
  refine g_sw (c := 0) (fun e0 => ?_) (fun e0 => ?_)
  · refine g_tin (pc := 7) (tgt := 32) (off := 25) e0 d_Mac_conditionHolds_7 (by decide) (by decide) (by decide) (by decide) ?_
    refine g_iconst (pc := 32) (x := 1) d_Mac_conditionHolds_32 (by decide) ?_
    exact g_zret (pc := 33) d_Mac_conditionHolds_33 rfl (Nat.le_refl _) (Nat.le_refl _)
  refine g_sw (c := 1) (fun e1 => ?_) (fun e1 => ?_)
  · refine g_tin (pc := 7) (tgt := 34) (off := 27) e1 d_Mac_conditionHolds_7 (by decide) (by decide) (by decide) (by decide) ?_
    refine g_aload_n (pc := 34) (x := a0) d_Mac_conditionHolds_34 rfl rfl ?_
    refine g_gi (pc := 35) d_Mac_conditionHolds_35 fk_Mac_44 (fun v2 => ?_)
    refine g_ifne (pc := 38) (tgt := 45) d_Mac_conditionHolds_38 rfl ?_ ?_
    · refine g_iconst (pc := 45) (x := 0) d_Mac_conditionHolds_45 (by decide) ?_
      exact g_zret (pc := 46) d_Mac_conditionHolds_46 rfl (Nat.le_refl _) (Nat.le_refl _)
    refine g_iconst (pc := 41) (x := 1) d_Mac_conditionHolds_41 (by decide) ?_
    refine g_goto (pc := 42) (tgt := 46) d_Mac_conditionHolds_42 rfl ?_
    exact g_zret (pc := 46) d_Mac_conditionHolds_46 rfl (Nat.le_refl _) (Nat.le_refl _)
  refine g_sw (c := 2) (fun e2 => ?_) (fun e2 => ?_)
  · refine g_tin (pc := 7) (tgt := 47) (off := 40) e2 d_Mac_conditionHolds_7 (by decide) (by decide) (by decide) (by decide) ?_
    refine g_aload_n (pc := 47) (x := a0) d_Mac_conditionHolds_47 rfl rfl ?_
    refine g_gi (pc := 48) d_Mac_conditionHolds_48 fk_Mac_44 (fun v3 => ?_)
    refine g_ldc (pc := 51) (x := 32768) d_Mac_conditionHolds_51 lc_Mac_114 ?_
    refine g_icmplt (pc := 53) (tgt := 60) d_Mac_conditionHolds_53 rfl ?_ ?_
    · refine g_iconst (pc := 60) (x := 0) d_Mac_conditionHolds_60 (by decide) ?_
      exact g_zret (pc := 61) d_Mac_conditionHolds_61 rfl (Nat.le_refl _) (Nat.le_refl _)
    refine g_iconst (pc := 56) (x := 1) d_Mac_conditionHolds_56 (by decide) ?_
    refine g_goto (pc := 57) (tgt := 61) d_Mac_conditionHolds_57 rfl ?_
    exact g_zret (pc := 61) d_Mac_conditionHolds_61 rfl (Nat.le_refl _) (Nat.le_refl _)
  refine g_tout (pc := 7) (tgt := 62) d_Mac_conditionHolds_7 (by have q0 := am_ni e0 (z := 0) (by decide); have q1 := am_ni e1 (z := 1) (by decide); have q2 := am_ni e2 (z := 2) (by decide); omega) (by decide) ?_
  refine g_aload_n (pc := 62) (x := a0) d_Mac_conditionHolds_62 rfl rfl ?_
  refine g_gi (pc := 63) d_Mac_conditionHolds_63 fk_Mac_44 (fun v4 => ?_)
  refine g_ifeq (pc := 66) (tgt := 73) d_Mac_conditionHolds_66 rfl ?_ ?_
  · refine g_iconst (pc := 73) (x := 0) d_Mac_conditionHolds_73 (by decide) ?_
    exact g_zret (pc := 74) d_Mac_conditionHolds_74 rfl (Nat.le_refl _) (Nat.le_refl _)
  refine g_iconst (pc := 69) (x := 1) d_Mac_conditionHolds_69 (by decide) ?_
  refine g_goto (pc := 70) (tgt := 74) d_Mac_conditionHolds_70 rfl ?_
  exact g_zret (pc := 74) d_Mac_conditionHolds_74 rfl (Nat.le_refl _) (Nat.le_refl _)
abbrev c_Mac_doTwoWords : gC := (m_Mac_doTwoWords, 2, 0, 0, none, 0, 0)
def fn_Mac_doTwoWords (a0 : Nat) (a1 : Int32) (a2 : Int32) (I : fm_I) : pR := gi 5 a0 7 I (fun v1 => vi 5 a0 (fn_Mac_isInside a0 (v1 + 1) I) (fun v3 J2 => (if v3 = 0 then pI 5 a0 8 3 J2 (fun J4 => (rv J4)) else gr 5 a0 0 (fun v5 => gi 5 a0 7 J2 (fun v6 => ld 0 v5 (v6 + 1) J2 (fun v7 => vi 5 a0 (fn_Mac_mayTouch a0 a1 v7 J2) (fun v9 J8 => (if v9 = 0 then pI 5 a0 8 3 J8 (fun J46 => (rv J46)) else gr 5 a0 0 (fun v10 => gi 5 a0 7 J8 (fun v11 => ld 0 v10 (v11 + 1) J8 (fun v12 => gi 5 a0 7 J8 (fun v13 => bi (fn_SL_toWord (v13 + 2) J8) (fun v15 J14 => (if a1 = 1 then pI 5 a0 5 v12 J14 (fun J16 => pI 5 a0 7 v15 J16 (fun J17 => (rv J17))) else (if a1 = 2 then gr 5 a0 0 (fun v18 => ld 0 v18 v12 J14 (fun v19 => pI 5 a0 5 v19 J14 (fun J20 => pI 5 a0 7 v15 J20 (fun J21 => (rv J21))))) else (if a1 = 3 then gr 5 a0 0 (fun v22 => gi 5 a0 5 J14 (fun v23 => sI v22 v12 v23 J14 (fun J24 => pI 5 a0 7 v15 J24 (fun J25 => (rv J25))))) else (if a1 = 4 then gi 5 a0 5 J14 (fun v26 => gr 5 a0 0 (fun v27 => ld 0 v27 v12 J14 (fun v28 => bi (fn_SL_toWord (v26 + v28) J14) (fun v30 J29 => pI 5 a0 5 v30 J29 (fun J31 => pI 5 a0 7 v15 J31 (fun J32 => (rv J32))))))) else (if a1 = 5 then gi 5 a0 5 J14 (fun v33 => gr 5 a0 0 (fun v34 => ld 0 v34 v12 J14 (fun v35 => bi (fn_SL_toWord (v33 - v35) J14) (fun v37 J36 => pI 5 a0 5 v37 J36 (fun J38 => pI 5 a0 7 v15 J38 (fun J39 => (rv J39))))))) else (if a1 = 6 then pI 5 a0 6 v15 J14 (fun J40 => pI 5 a0 7 v12 J40 (fun J41 => (rv J41))) else vi 5 a0 (fn_Mac_conditionHolds a0 a2 J14) (fun v43 J42 => (if v43 = 0 then pI 5 a0 7 v15 J42 (fun J44 => (rv J44)) else pI 5 a0 7 v12 J42 (fun J45 => (rv J45)))))))))))))))))))))))
set_option maxRecDepth 10000 in
theorem sn_Mac_doTwoWords (a0 : Nat) (a1 : Int32) (a2 : Int32) (I : fm_I) : gM m_Mac_doTwoWords 2 (fn_Mac_doTwoWords a0 a1 a2 I) [vR a0, vI a1, vI a2] I := by
  refine gM_of (by decide) rfl (Nat.le_of_ble_eq_true rfl) ?_
  show gW c_Mac_doTwoWords _ _ _ _ _
  unfold fn_Mac_doTwoWords
  refine g_aload_n (pc := 0) (x := a0) d_Mac_doTwoWords_0 rfl rfl ?_
  refine g_aload_n (pc := 1) (x := a0) d_Mac_doTwoWords_1 rfl rfl ?_
  refine g_gi (pc := 2) d_Mac_doTwoWords_2 fk_Mac_53 (fun v1 => ?_)
  refine g_iconst (pc := 5) (x := 1) d_Mac_doTwoWords_5 (by decide) ?_
  refine g_iadd (pc := 6) d_Mac_doTwoWords_6 ?_
  refine g_vi (pc := 7) (rest := []) (sn_Mac_isInside a0 (v1 + 1) I) rfl rfl d_Mac_doTwoWords_7 ck_Mac_78 (Nat.le_of_ble_eq_true rfl) (Nat.le_of_ble_eq_true rfl) (Nat.le_refl _) (Nat.le_refl _) (fun v3 J2 => ?_)
  refine g_ifeq (pc := 10) (tgt := 32) d_Mac_doTwoWords_10 rfl ?_ ?_
  · refine g_aload_n (pc := 32) (x := a0) d_Mac_doTwoWords_32 rfl rfl ?_
    refine g_iconst (pc := 33) (x := 3) d_Mac_doTwoWords_33 (by decide) ?_
    refine g_pI (pc := 34) d_Mac_doTwoWords_34 fp_Mac_56 (fun J4 => ?_)
    exact g_ret (pc := 37) d_Mac_doTwoWords_37 rfl (Nat.le_refl _) (Nat.le_refl _)
  refine g_aload_n (pc := 13) (x := a0) d_Mac_doTwoWords_13 rfl rfl ?_
  refine g_iload_n (pc := 14) (x := a1) d_Mac_doTwoWords_14 rfl rfl ?_
  refine g_aload_n (pc := 15) (x := a0) d_Mac_doTwoWords_15 rfl rfl ?_
  refine g_gr (pc := 16) d_Mac_doTwoWords_16 fk_Mac_9 (fun v5 => ?_)
  refine g_aload_n (pc := 19) (x := a0) d_Mac_doTwoWords_19 rfl rfl ?_
  refine g_gi (pc := 20) d_Mac_doTwoWords_20 fk_Mac_53 (fun v6 => ?_)
  refine g_iconst (pc := 23) (x := 1) d_Mac_doTwoWords_23 (by decide) ?_
  refine g_iadd (pc := 24) d_Mac_doTwoWords_24 ?_
  refine g_ldI (pc := 25) d_Mac_doTwoWords_25 (fun v7 => ?_)
  refine g_vi (pc := 26) (rest := []) (sn_Mac_mayTouch a0 a1 v7 J2) rfl rfl d_Mac_doTwoWords_26 ck_Mac_95 (Nat.le_of_ble_eq_true rfl) (Nat.le_of_ble_eq_true rfl) (Nat.le_refl _) (Nat.le_refl _) (fun v9 J8 => ?_)
  refine g_ifne (pc := 29) (tgt := 38) d_Mac_doTwoWords_29 rfl ?_ ?_
  · refine g_aload_n (pc := 38) (x := a0) d_Mac_doTwoWords_38 rfl rfl ?_
    refine g_gr (pc := 39) d_Mac_doTwoWords_39 fk_Mac_9 (fun v10 => ?_)
    refine g_aload_n (pc := 42) (x := a0) d_Mac_doTwoWords_42 rfl rfl ?_
    refine g_gi (pc := 43) d_Mac_doTwoWords_43 fk_Mac_53 (fun v11 => ?_)
    refine g_iconst (pc := 46) (x := 1) d_Mac_doTwoWords_46 (by decide) ?_
    refine g_iadd (pc := 47) d_Mac_doTwoWords_47 ?_
    refine g_ldI (pc := 48) d_Mac_doTwoWords_48 (fun v12 => ?_)
    refine g_istore_n (pc := 49) (x := v12) d_Mac_doTwoWords_49 rfl (Nat.le_of_ble_eq_true rfl) ?_
    refine g_aload_n (pc := 50) (x := a0) d_Mac_doTwoWords_50 rfl rfl ?_
    refine g_gi (pc := 51) d_Mac_doTwoWords_51 fk_Mac_53 (fun v13 => ?_)
    refine g_iconst (pc := 54) (x := 2) d_Mac_doTwoWords_54 (by decide) ?_
    refine g_iadd (pc := 55) d_Mac_doTwoWords_55 ?_
    refine g_ni (pc := 56) (rest := []) (sn_SL_toWord (v13 + 2) J8) rfl rfl d_Mac_doTwoWords_56 ck_Mac_99 (Nat.le_of_ble_eq_true rfl) (Nat.le_of_ble_eq_true rfl) (Nat.le_refl _) (Nat.le_refl _) (fun v15 J14 => ?_)
    refine g_istore (pc := 59) (x := v15) d_Mac_doTwoWords_59 (Nat.le_of_ble_eq_true rfl) ?_
    refine g_iload_n (pc := 61) (x := a1) d_Mac_doTwoWords_61 rfl rfl ?_
    refine g_sw (c := 1) (fun e1 => ?_) (fun e1 => ?_)
    · refine g_tin (pc := 62) (tgt := 100) (off := 38) e1 d_Mac_doTwoWords_62 (by decide) (by decide) (by decide) (by decide) ?_
      refine g_aload_n (pc := 100) (x := a0) d_Mac_doTwoWords_100 rfl rfl ?_
      refine g_iload_n (pc := 101) (x := v12) d_Mac_doTwoWords_101 rfl rfl ?_
      refine g_pI (pc := 102) d_Mac_doTwoWords_102 fp_Mac_44 (fun J16 => ?_)
      refine g_goto (pc := 105) (tgt := 204) d_Mac_doTwoWords_105 rfl ?_
      refine g_aload_n (pc := 204) (x := a0) d_Mac_doTwoWords_204 rfl rfl ?_
      refine g_iload (pc := 205) (x := v15) d_Mac_doTwoWords_205 rfl ?_
      refine g_pI (pc := 207) d_Mac_doTwoWords_207 fp_Mac_53 (fun J17 => ?_)
      exact g_ret (pc := 210) d_Mac_doTwoWords_210 rfl (Nat.le_refl _) (Nat.le_refl _)
    refine g_sw (c := 2) (fun e2 => ?_) (fun e2 => ?_)
    · refine g_tin (pc := 62) (tgt := 108) (off := 46) e2 d_Mac_doTwoWords_62 (by decide) (by decide) (by decide) (by decide) ?_
      refine g_aload_n (pc := 108) (x := a0) d_Mac_doTwoWords_108 rfl rfl ?_
      refine g_aload_n (pc := 109) (x := a0) d_Mac_doTwoWords_109 rfl rfl ?_
      refine g_gr (pc := 110) d_Mac_doTwoWords_110 fk_Mac_9 (fun v18 => ?_)
      refine g_iload_n (pc := 113) (x := v12) d_Mac_doTwoWords_113 rfl rfl ?_
      refine g_ldI (pc := 114) d_Mac_doTwoWords_114 (fun v19 => ?_)
      refine g_pI (pc := 115) d_Mac_doTwoWords_115 fp_Mac_44 (fun J20 => ?_)
      refine g_goto (pc := 118) (tgt := 204) d_Mac_doTwoWords_118 rfl ?_
      refine g_aload_n (pc := 204) (x := a0) d_Mac_doTwoWords_204 rfl rfl ?_
      refine g_iload (pc := 205) (x := v15) d_Mac_doTwoWords_205 rfl ?_
      refine g_pI (pc := 207) d_Mac_doTwoWords_207 fp_Mac_53 (fun J21 => ?_)
      exact g_ret (pc := 210) d_Mac_doTwoWords_210 rfl (Nat.le_refl _) (Nat.le_refl _)
    refine g_sw (c := 3) (fun e3 => ?_) (fun e3 => ?_)
    · refine g_tin (pc := 62) (tgt := 121) (off := 59) e3 d_Mac_doTwoWords_62 (by decide) (by decide) (by decide) (by decide) ?_
      refine g_aload_n (pc := 121) (x := a0) d_Mac_doTwoWords_121 rfl rfl ?_
      refine g_gr (pc := 122) d_Mac_doTwoWords_122 fk_Mac_9 (fun v22 => ?_)
      refine g_iload_n (pc := 125) (x := v12) d_Mac_doTwoWords_125 rfl rfl ?_
      refine g_aload_n (pc := 126) (x := a0) d_Mac_doTwoWords_126 rfl rfl ?_
      refine g_gi (pc := 127) d_Mac_doTwoWords_127 fk_Mac_44 (fun v23 => ?_)
      refine g_sI (pc := 130) d_Mac_doTwoWords_130 (fun J24 => ?_)
      refine g_goto (pc := 131) (tgt := 204) d_Mac_doTwoWords_131 rfl ?_
      refine g_aload_n (pc := 204) (x := a0) d_Mac_doTwoWords_204 rfl rfl ?_
      refine g_iload (pc := 205) (x := v15) d_Mac_doTwoWords_205 rfl ?_
      refine g_pI (pc := 207) d_Mac_doTwoWords_207 fp_Mac_53 (fun J25 => ?_)
      exact g_ret (pc := 210) d_Mac_doTwoWords_210 rfl (Nat.le_refl _) (Nat.le_refl _)
    refine g_sw (c := 4) (fun e4 => ?_) (fun e4 => ?_)
    · refine g_tin (pc := 62) (tgt := 134) (off := 72) e4 d_Mac_doTwoWords_62 (by decide) (by decide) (by decide) (by decide) ?_
      refine g_aload_n (pc := 134) (x := a0) d_Mac_doTwoWords_134 rfl rfl ?_
      refine g_aload_n (pc := 135) (x := a0) d_Mac_doTwoWords_135 rfl rfl ?_
      refine g_gi (pc := 136) d_Mac_doTwoWords_136 fk_Mac_44 (fun v26 => ?_)
      refine g_aload_n (pc := 139) (x := a0) d_Mac_doTwoWords_139 rfl rfl ?_
      refine g_gr (pc := 140) d_Mac_doTwoWords_140 fk_Mac_9 (fun v27 => ?_)
      refine g_iload_n (pc := 143) (x := v12) d_Mac_doTwoWords_143 rfl rfl ?_
      refine g_ldI (pc := 144) d_Mac_doTwoWords_144 (fun v28 => ?_)
      refine g_iadd (pc := 145) d_Mac_doTwoWords_145 ?_
      refine g_ni (pc := 146) (rest := [vR a0]) (sn_SL_toWord (v26 + v28) J14) rfl rfl d_Mac_doTwoWords_146 ck_Mac_99 (Nat.le_of_ble_eq_true rfl) (Nat.le_of_ble_eq_true rfl) (Nat.le_refl _) (Nat.le_refl _) (fun v30 J29 => ?_)
      refine g_pI (pc := 149) d_Mac_doTwoWords_149 fp_Mac_44 (fun J31 => ?_)
      refine g_goto (pc := 152) (tgt := 204) d_Mac_doTwoWords_152 rfl ?_
      refine g_aload_n (pc := 204) (x := a0) d_Mac_doTwoWords_204 rfl rfl ?_
      refine g_iload (pc := 205) (x := v15) d_Mac_doTwoWords_205 rfl ?_
      refine g_pI (pc := 207) d_Mac_doTwoWords_207 fp_Mac_53 (fun J32 => ?_)
      exact g_ret (pc := 210) d_Mac_doTwoWords_210 rfl (Nat.le_refl _) (Nat.le_refl _)
    refine g_sw (c := 5) (fun e5 => ?_) (fun e5 => ?_)
    · refine g_tin (pc := 62) (tgt := 155) (off := 93) e5 d_Mac_doTwoWords_62 (by decide) (by decide) (by decide) (by decide) ?_
      refine g_aload_n (pc := 155) (x := a0) d_Mac_doTwoWords_155 rfl rfl ?_
      refine g_aload_n (pc := 156) (x := a0) d_Mac_doTwoWords_156 rfl rfl ?_
      refine g_gi (pc := 157) d_Mac_doTwoWords_157 fk_Mac_44 (fun v33 => ?_)
      refine g_aload_n (pc := 160) (x := a0) d_Mac_doTwoWords_160 rfl rfl ?_
      refine g_gr (pc := 161) d_Mac_doTwoWords_161 fk_Mac_9 (fun v34 => ?_)
      refine g_iload_n (pc := 164) (x := v12) d_Mac_doTwoWords_164 rfl rfl ?_
      refine g_ldI (pc := 165) d_Mac_doTwoWords_165 (fun v35 => ?_)
      refine g_isub (pc := 166) d_Mac_doTwoWords_166 ?_
      refine g_ni (pc := 167) (rest := [vR a0]) (sn_SL_toWord (v33 - v35) J14) rfl rfl d_Mac_doTwoWords_167 ck_Mac_99 (Nat.le_of_ble_eq_true rfl) (Nat.le_of_ble_eq_true rfl) (Nat.le_refl _) (Nat.le_refl _) (fun v37 J36 => ?_)
      refine g_pI (pc := 170) d_Mac_doTwoWords_170 fp_Mac_44 (fun J38 => ?_)
      refine g_goto (pc := 173) (tgt := 204) d_Mac_doTwoWords_173 rfl ?_
      refine g_aload_n (pc := 204) (x := a0) d_Mac_doTwoWords_204 rfl rfl ?_
      refine g_iload (pc := 205) (x := v15) d_Mac_doTwoWords_205 rfl ?_
      refine g_pI (pc := 207) d_Mac_doTwoWords_207 fp_Mac_53 (fun J39 => ?_)
      exact g_ret (pc := 210) d_Mac_doTwoWords_210 rfl (Nat.le_refl _) (Nat.le_refl _)
    refine g_sw (c := 6) (fun e6 => ?_) (fun e6 => ?_)
    · refine g_tin (pc := 62) (tgt := 176) (off := 114) e6 d_Mac_doTwoWords_62 (by decide) (by decide) (by decide) (by decide) ?_
      refine g_aload_n (pc := 176) (x := a0) d_Mac_doTwoWords_176 rfl rfl ?_
      refine g_iload (pc := 177) (x := v15) d_Mac_doTwoWords_177 rfl ?_
      refine g_pI (pc := 179) d_Mac_doTwoWords_179 fp_Mac_47 (fun J40 => ?_)
      refine g_iload_n (pc := 182) (x := v12) d_Mac_doTwoWords_182 rfl rfl ?_
      refine g_istore (pc := 183) (x := v12) d_Mac_doTwoWords_183 (Nat.le_of_ble_eq_true rfl) ?_
      refine g_goto (pc := 185) (tgt := 204) d_Mac_doTwoWords_185 rfl ?_
      refine g_aload_n (pc := 204) (x := a0) d_Mac_doTwoWords_204 rfl rfl ?_
      refine g_iload (pc := 205) (x := v12) d_Mac_doTwoWords_205 rfl ?_
      refine g_pI (pc := 207) d_Mac_doTwoWords_207 fp_Mac_53 (fun J41 => ?_)
      exact g_ret (pc := 210) d_Mac_doTwoWords_210 rfl (Nat.le_refl _) (Nat.le_refl _)
    refine g_tout (pc := 62) (tgt := 188) d_Mac_doTwoWords_62 (by have q1 := am_ni e1 (z := 1) (by decide); have q2 := am_ni e2 (z := 2) (by decide); have q3 := am_ni e3 (z := 3) (by decide); have q4 := am_ni e4 (z := 4) (by decide); have q5 := am_ni e5 (z := 5) (by decide); have q6 := am_ni e6 (z := 6) (by decide); omega) (by decide) ?_
    refine g_aload_n (pc := 188) (x := a0) d_Mac_doTwoWords_188 rfl rfl ?_
    refine g_iload_n (pc := 189) (x := a2) d_Mac_doTwoWords_189 rfl rfl ?_
    refine g_vi (pc := 190) (rest := []) (sn_Mac_conditionHolds a0 a2 J14) rfl rfl d_Mac_doTwoWords_190 ck_Mac_102 (Nat.le_of_ble_eq_true rfl) (Nat.le_of_ble_eq_true rfl) (Nat.le_refl _) (Nat.le_refl _) (fun v43 J42 => ?_)
    refine g_ifeq (pc := 193) (tgt := 200) d_Mac_doTwoWords_193 rfl ?_ ?_
    · refine g_iload (pc := 200) (x := v15) d_Mac_doTwoWords_200 rfl ?_
      refine g_istore (pc := 202) (x := v15) d_Mac_doTwoWords_202 (Nat.le_of_ble_eq_true rfl) ?_
      refine g_aload_n (pc := 204) (x := a0) d_Mac_doTwoWords_204 rfl rfl ?_
      refine g_iload (pc := 205) (x := v15) d_Mac_doTwoWords_205 rfl ?_
      refine g_pI (pc := 207) d_Mac_doTwoWords_207 fp_Mac_53 (fun J44 => ?_)
      exact g_ret (pc := 210) d_Mac_doTwoWords_210 rfl (Nat.le_refl _) (Nat.le_refl _)
    refine g_iload_n (pc := 196) (x := v12) d_Mac_doTwoWords_196 rfl rfl ?_
    refine g_goto (pc := 197) (tgt := 202) d_Mac_doTwoWords_197 rfl ?_
    refine g_istore (pc := 202) (x := v12) d_Mac_doTwoWords_202 (Nat.le_of_ble_eq_true rfl) ?_
    refine g_aload_n (pc := 204) (x := a0) d_Mac_doTwoWords_204 rfl rfl ?_
    refine g_iload (pc := 205) (x := v12) d_Mac_doTwoWords_205 rfl ?_
    refine g_pI (pc := 207) d_Mac_doTwoWords_207 fp_Mac_53 (fun J45 => ?_)
    exact g_ret (pc := 210) d_Mac_doTwoWords_210 rfl (Nat.le_refl _) (Nat.le_refl _)
  refine g_aload_n (pc := 32) (x := a0) d_Mac_doTwoWords_32 rfl rfl ?_
  refine g_iconst (pc := 33) (x := 3) d_Mac_doTwoWords_33 (by decide) ?_
  refine g_pI (pc := 34) d_Mac_doTwoWords_34 fp_Mac_56 (fun J46 => ?_)
  exact g_ret (pc := 37) d_Mac_doTwoWords_37 rfl (Nat.le_refl _) (Nat.le_refl _)
abbrev c_Mac_signed : gC := (m_Mac_signed, 0, 0, 0, none, 0, 0)
def fn_Mac_signed (a0 : Int32) (I : fm_I) : pR := (if a0 ≤ 127 then (ri a0 I) else (ri (a0 - 256) I))
set_option maxRecDepth 10000 in
theorem sn_Mac_signed (a0 : Int32) (I : fm_I) : gM m_Mac_signed 0 (fn_Mac_signed a0 I) [vI a0] I := by
  refine gM_of (by decide) rfl (Nat.le_of_ble_eq_true rfl) ?_
  show gW c_Mac_signed _ _ _ _ _
  unfold fn_Mac_signed
  refine g_iload_n (pc := 0) (x := a0) d_Mac_signed_0 rfl rfl ?_
  refine g_bipush (pc := 1) (x := 127) d_Mac_signed_1 (by decide) ?_
  refine g_icmple (pc := 3) (tgt := 14) d_Mac_signed_3 rfl ?_ ?_
  · refine g_iload_n (pc := 14) (x := a0) d_Mac_signed_14 rfl rfl ?_
    exact g_iret (pc := 15) d_Mac_signed_15 rfl (Nat.le_refl _) (Nat.le_refl _)
  refine g_iload_n (pc := 6) (x := a0) d_Mac_signed_6 rfl rfl ?_
  refine g_sipush (pc := 7) (x := 256) d_Mac_signed_7 (by decide) ?_
  refine g_isub (pc := 10) d_Mac_signed_10 ?_
  refine g_goto (pc := 11) (tgt := 15) d_Mac_signed_11 rfl ?_
  exact g_iret (pc := 15) d_Mac_signed_15 rfl (Nat.le_refl _) (Nat.le_refl _)
abbrev c_Mac_putOutA : gC := (m_Mac_putOutA, 0, 0, 0, none, 0, 0)
def fn_Mac_putOutA_2 : Nat → Nat → Int32 → fm_I → pR
  | 0, _, _, _ => none
  | n + 1, a0, a1, I => (if a1 ≤ 0 then gr 5 a0 2 (fun v1 => gi 5 a0 5 I (fun v2 => sI v1 0 v2 I (fun J3 => gi 5 a0 11 J3 (fun v4 => pI 5 a0 11 (v4 + 1) J3 (fun J5 => (rv J5)))))) else gr 5 a0 2 (fun v6 => gr 5 a0 2 (fun v7 => ld 0 v7 (a1 - 1) I (fun v8 => sI v6 a1 v8 I (fun J9 => (fn_Mac_putOutA_2 n a0 (a1 + (-1)) J9))))))
set_option maxRecDepth 10000 in
theorem sn_Mac_putOutA_2 (n : Nat) : ∀ (a0 : Nat) (a1 : Int32) (I : fm_I) (L : Nat → Option am_V), L 0 = some (vR a0) → L 1 = some (vI a1) → gW c_Mac_putOutA (fn_Mac_putOutA_2 n a0 a1 I) 2 L [] I := by
  induction n with
  | zero =>
    intro a0 a1 I L h0 h1
    unfold fn_Mac_putOutA_2
    exact g_none
  | succ n ih =>
    intro a0 a1 I L h0 h1
    unfold fn_Mac_putOutA_2
    refine g_iload_n (pc := 2) (x := a1) d_Mac_putOutA_2 rfl h1 ?_
    refine g_ifle (pc := 3) (tgt := 26) d_Mac_putOutA_3 rfl ?_ ?_
    · refine g_aload_n (pc := 26) (x := a0) d_Mac_putOutA_26 rfl h0 ?_
      refine g_gr (pc := 27) d_Mac_putOutA_27 fk_Mac_18 (fun v1 => ?_)
      refine g_iconst (pc := 30) (x := 0) d_Mac_putOutA_30 (by decide) ?_
      refine g_aload_n (pc := 31) (x := a0) d_Mac_putOutA_31 rfl h0 ?_
      refine g_gi (pc := 32) d_Mac_putOutA_32 fk_Mac_44 (fun v2 => ?_)
      refine g_sI (pc := 35) d_Mac_putOutA_35 (fun J3 => ?_)
      refine g_aload_n (pc := 36) (x := a0) d_Mac_putOutA_36 rfl h0 ?_
      refine g_dup (pc := 37) d_Mac_putOutA_37 ?_
      refine g_gi (pc := 38) d_Mac_putOutA_38 fk_Mac_65 (fun v4 => ?_)
      refine g_iconst (pc := 41) (x := 1) d_Mac_putOutA_41 (by decide) ?_
      refine g_iadd (pc := 42) d_Mac_putOutA_42 ?_
      refine g_pI (pc := 43) d_Mac_putOutA_43 fp_Mac_65 (fun J5 => ?_)
      exact g_ret (pc := 46) d_Mac_putOutA_46 rfl (Nat.le_refl _) (Nat.le_refl _)
    refine g_aload_n (pc := 6) (x := a0) d_Mac_putOutA_6 rfl h0 ?_
    refine g_gr (pc := 7) d_Mac_putOutA_7 fk_Mac_18 (fun v6 => ?_)
    refine g_iload_n (pc := 10) (x := a1) d_Mac_putOutA_10 rfl h1 ?_
    refine g_aload_n (pc := 11) (x := a0) d_Mac_putOutA_11 rfl h0 ?_
    refine g_gr (pc := 12) d_Mac_putOutA_12 fk_Mac_18 (fun v7 => ?_)
    refine g_iload_n (pc := 15) (x := a1) d_Mac_putOutA_15 rfl h1 ?_
    refine g_iconst (pc := 16) (x := 1) d_Mac_putOutA_16 (by decide) ?_
    refine g_isub (pc := 17) d_Mac_putOutA_17 ?_
    refine g_ldI (pc := 18) d_Mac_putOutA_18 (fun v8 => ?_)
    refine g_sI (pc := 19) d_Mac_putOutA_19 (fun J9 => ?_)
    refine g_iinc (pc := 20) (x := a1) (w := (-1)) d_Mac_putOutA_20 h1 (by decide) (Nat.le_of_ble_eq_true rfl) ?_
    refine g_goto (pc := 23) (tgt := 2) d_Mac_putOutA_23 rfl ?_
    exact ih _ _ _ _ h0 rfl
def fn_Mac_putOutA (a0 : Nat) (I : fm_I) : pR := (fn_Mac_putOutA_2 FU a0 3 I)
set_option maxRecDepth 10000 in
theorem sn_Mac_putOutA (a0 : Nat) (I : fm_I) : gM m_Mac_putOutA 0 (fn_Mac_putOutA a0 I) [vR a0] I := by
  refine gM_of (by decide) rfl (Nat.le_of_ble_eq_true rfl) ?_
  show gW c_Mac_putOutA _ _ _ _ _
  unfold fn_Mac_putOutA
  refine g_iconst (pc := 0) (x := 3) d_Mac_putOutA_0 (by decide) ?_
  refine g_istore_n (pc := 1) (x := 3) d_Mac_putOutA_1 rfl (Nat.le_of_ble_eq_true rfl) ?_
  exact sn_Mac_putOutA_2 FU _ _ _ _ rfl rfl
abbrev c_Mac_nextOfTape : gC := (m_Mac_nextOfTape, 0, 0, 0, none, 0, 0)
def fn_Mac_nextOfTape (a0 : Nat) (I : fm_I) : pR := gi 5 a0 10 I (fun v1 => gi 5 a0 9 I (fun v2 => (if v1 < v2 then gr 5 a0 1 (fun v3 => gi 5 a0 10 I (fun v4 => ld 0 v3 v4 I (fun v5 => gi 5 a0 10 I (fun v6 => pI 5 a0 10 (v6 + 1) I (fun J7 => (ri v5 J7)))))) else (ri 0 I))))
set_option maxRecDepth 10000 in
theorem sn_Mac_nextOfTape (a0 : Nat) (I : fm_I) : gM m_Mac_nextOfTape 0 (fn_Mac_nextOfTape a0 I) [vR a0] I := by
  refine gM_of (by decide) rfl (Nat.le_of_ble_eq_true rfl) ?_
  show gW c_Mac_nextOfTape _ _ _ _ _
  unfold fn_Mac_nextOfTape
  refine g_aload_n (pc := 0) (x := a0) d_Mac_nextOfTape_0 rfl rfl ?_
  refine g_gi (pc := 1) d_Mac_nextOfTape_1 fk_Mac_62 (fun v1 => ?_)
  refine g_aload_n (pc := 4) (x := a0) d_Mac_nextOfTape_4 rfl rfl ?_
  refine g_gi (pc := 5) d_Mac_nextOfTape_5 fk_Mac_59 (fun v2 => ?_)
  refine g_icmplt (pc := 8) (tgt := 13) d_Mac_nextOfTape_8 rfl ?_ ?_
  · refine g_aload_n (pc := 13) (x := a0) d_Mac_nextOfTape_13 rfl rfl ?_
    refine g_gr (pc := 14) d_Mac_nextOfTape_14 fk_Mac_15 (fun v3 => ?_)
    refine g_aload_n (pc := 17) (x := a0) d_Mac_nextOfTape_17 rfl rfl ?_
    refine g_gi (pc := 18) d_Mac_nextOfTape_18 fk_Mac_62 (fun v4 => ?_)
    refine g_ldI (pc := 21) d_Mac_nextOfTape_21 (fun v5 => ?_)
    refine g_istore_n (pc := 22) (x := v5) d_Mac_nextOfTape_22 rfl (Nat.le_of_ble_eq_true rfl) ?_
    refine g_aload_n (pc := 23) (x := a0) d_Mac_nextOfTape_23 rfl rfl ?_
    refine g_dup (pc := 24) d_Mac_nextOfTape_24 ?_
    refine g_gi (pc := 25) d_Mac_nextOfTape_25 fk_Mac_62 (fun v6 => ?_)
    refine g_iconst (pc := 28) (x := 1) d_Mac_nextOfTape_28 (by decide) ?_
    refine g_iadd (pc := 29) d_Mac_nextOfTape_29 ?_
    refine g_pI (pc := 30) d_Mac_nextOfTape_30 fp_Mac_62 (fun J7 => ?_)
    refine g_iload_n (pc := 33) (x := v5) d_Mac_nextOfTape_33 rfl rfl ?_
    exact g_iret (pc := 34) d_Mac_nextOfTape_34 rfl (Nat.le_refl _) (Nat.le_refl _)
  refine g_iconst (pc := 11) (x := 0) d_Mac_nextOfTape_11 (by decide) ?_
  exact g_iret (pc := 12) d_Mac_nextOfTape_12 rfl (Nat.le_refl _) (Nat.le_refl _)
