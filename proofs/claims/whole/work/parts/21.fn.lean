abbrev c_Mod_takeAllAway : gC := (m_Mod_takeAllAway, 3, 0, 0, none, 0, 0)
def fn_Mod_takeAllAway (a0 : Nat) (I : fm_I) : pR := gi 1 a0 8 I (fun v1 => pI 1 a0 8 0 I (fun J2 => pI 1 a0 9 0 J2 (fun J3 => pI 1 a0 10 0 J3 (fun J4 => pI 1 a0 11 0 J4 (fun J5 => pI 1 a0 12 0 J5 (fun J6 => vv 1 a0 (fn_Mod_settleJumps a0 J6) (fun J7 => (ri v1 J7))))))))
set_option maxRecDepth 10000 in
theorem sn_Mod_takeAllAway (a0 : Nat) (I : fm_I) : gM m_Mod_takeAllAway 3 (fn_Mod_takeAllAway a0 I) [vR a0] I := by
  refine gM_of (by decide) rfl (Nat.le_of_ble_eq_true rfl) ?_
  show gW c_Mod_takeAllAway _ _ _ _ _
  unfold fn_Mod_takeAllAway
  refine g_aload_n (pc := 0) (x := a0) d_Mod_takeAllAway_0 rfl rfl ?_
  refine g_gi (pc := 1) d_Mod_takeAllAway_1 fk_Mod_37 (fun v1 => ?_)
  refine g_istore_n (pc := 4) (x := v1) d_Mod_takeAllAway_4 rfl (Nat.le_of_ble_eq_true rfl) ?_
  refine g_aload_n (pc := 5) (x := a0) d_Mod_takeAllAway_5 rfl rfl ?_
  refine g_iconst (pc := 6) (x := 0) d_Mod_takeAllAway_6 (by decide) ?_
  refine g_pI (pc := 7) d_Mod_takeAllAway_7 fp_Mod_37 (fun J2 => ?_)
  refine g_aload_n (pc := 10) (x := a0) d_Mod_takeAllAway_10 rfl rfl ?_
  refine g_iconst (pc := 11) (x := 0) d_Mod_takeAllAway_11 (by decide) ?_
  refine g_pI (pc := 12) d_Mod_takeAllAway_12 fp_Mod_64 (fun J3 => ?_)
  refine g_aload_n (pc := 15) (x := a0) d_Mod_takeAllAway_15 rfl rfl ?_
  refine g_iconst (pc := 16) (x := 0) d_Mod_takeAllAway_16 (by decide) ?_
  refine g_pI (pc := 17) d_Mod_takeAllAway_17 fp_Mod_67 (fun J4 => ?_)
  refine g_aload_n (pc := 20) (x := a0) d_Mod_takeAllAway_20 rfl rfl ?_
  refine g_iconst (pc := 21) (x := 0) d_Mod_takeAllAway_21 (by decide) ?_
  refine g_pI (pc := 22) d_Mod_takeAllAway_22 fp_Mod_70 (fun J5 => ?_)
  refine g_aload_n (pc := 25) (x := a0) d_Mod_takeAllAway_25 rfl rfl ?_
  refine g_iconst (pc := 26) (x := 0) d_Mod_takeAllAway_26 (by decide) ?_
  refine g_pI (pc := 27) d_Mod_takeAllAway_27 fp_Mod_73 (fun J6 => ?_)
  refine g_aload_n (pc := 30) (x := a0) d_Mod_takeAllAway_30 rfl rfl ?_
  refine g_vv (pc := 31) (rest := []) (sn_Mod_settleJumps a0 J6) rfl rfl d_Mod_takeAllAway_31 ck_Mod_61 (Nat.le_of_ble_eq_true rfl) (Nat.le_of_ble_eq_true rfl) (Nat.le_refl _) (Nat.le_refl _) (fun J7 => ?_)
  refine g_iload_n (pc := 34) (x := v1) d_Mod_takeAllAway_34 rfl rfl ?_
  exact g_iret (pc := 35) d_Mod_takeAllAway_35 rfl (Nat.le_refl _) (Nat.le_refl _)
abbrev c_SL_clear : gC := (m_SL_clear, 4, 0, 0, none, 0, 0)
def fn_SL_clear (a0 : Nat) (a1 : Int32) (I : fm_I) : pR := bi (fn_SL_isModule a1 I) (fun v2 J1 => (if v2 = 0 then (ri (-1) J1) else gr 0 a0 0 (fun v3 => la 2 v3 a1 (fun v4 => vi 1 v4 (fn_Mod_takeAllAway v4 J1) (fun v6 J5 => (ri v6 J5))))))
set_option maxRecDepth 10000 in
theorem sn_SL_clear (a0 : Nat) (a1 : Int32) (I : fm_I) : gM m_SL_clear 4 (fn_SL_clear a0 a1 I) [vR a0, vI a1] I := by
  refine gM_of (by decide) rfl (Nat.le_of_ble_eq_true rfl) ?_
  show gW c_SL_clear _ _ _ _ _
  unfold fn_SL_clear
  refine g_iload_n (pc := 0) (x := a1) d_SL_clear_0 rfl rfl ?_
  refine g_si (pc := 1) (rest := []) (sn_SL_isModule a1 I) rfl rfl d_SL_clear_1 ck_SL_54 (Nat.le_of_ble_eq_true rfl) (Nat.le_of_ble_eq_true rfl) (Nat.le_refl _) (Nat.le_refl _) (fun v2 J1 => ?_)
  refine g_ifeq (pc := 4) (tgt := 19) d_SL_clear_4 rfl ?_ ?_
  · refine g_iconst (pc := 19) (x := (-1)) d_SL_clear_19 (by decide) ?_
    exact g_iret (pc := 20) d_SL_clear_20 rfl (Nat.le_refl _) (Nat.le_refl _)
  refine g_aload_n (pc := 7) (x := a0) d_SL_clear_7 rfl rfl ?_
  refine g_gr (pc := 8) d_SL_clear_8 fk_SL_18 (fun v3 => ?_)
  refine g_iload_n (pc := 11) (x := a1) d_SL_clear_11 rfl rfl ?_
  refine g_la2 (pc := 12) d_SL_clear_12 (fun v4 => ?_)
  refine g_vi (pc := 13) (rest := []) (sn_Mod_takeAllAway v4 J1) rfl rfl d_SL_clear_13 ck_SL_68 (Nat.le_of_ble_eq_true rfl) (Nat.le_of_ble_eq_true rfl) (Nat.le_refl _) (Nat.le_refl _) (fun v6 J5 => ?_)
  refine g_goto (pc := 16) (tgt := 20) d_SL_clear_16 rfl ?_
  exact g_iret (pc := 20) d_SL_clear_20 rfl (Nat.le_refl _) (Nat.le_refl _)
abbrev c_Mod_wordsIn : gC := (m_Mod_wordsIn, 0, 0, 0, none, 0, 0)
def fn_Mod_wordsIn (a0 : Nat) (a1 : Int32) (I : fm_I) : pR := gr 1 a0 6 (fun v1 => ld 0 v1 a1 I (fun v2 => (ri v2 I)))
set_option maxRecDepth 10000 in
theorem sn_Mod_wordsIn (a0 : Nat) (a1 : Int32) (I : fm_I) : gM m_Mod_wordsIn 0 (fn_Mod_wordsIn a0 a1 I) [vR a0, vI a1] I := by
  refine gM_of (by decide) rfl (Nat.le_of_ble_eq_true rfl) ?_
  show gW c_Mod_wordsIn _ _ _ _ _
  unfold fn_Mod_wordsIn
  refine g_aload_n (pc := 0) (x := a0) d_Mod_wordsIn_0 rfl rfl ?_
  refine g_gr (pc := 1) d_Mod_wordsIn_1 fk_Mod_31 (fun v1 => ?_)
  refine g_iload_n (pc := 4) (x := a1) d_Mod_wordsIn_4 rfl rfl ?_
  refine g_ldI (pc := 5) d_Mod_wordsIn_5 (fun v2 => ?_)
  exact g_iret (pc := 6) d_Mod_wordsIn_6 rfl (Nat.le_refl _) (Nat.le_refl _)
abbrev c_SL_length : gC := (m_SL_length, 2, 0, 0, none, 0, 0)
def fn_SL_length (a0 : Nat) (a1 : Int32) (a2 : Int32) (I : fm_I) : pR := bi (fn_SL_isModule a1 I) (fun v2 J1 => (if v2 = 0 then (ri (-1) J1) else bi (fn_SL_isSection a2 J1) (fun v4 J3 => (if v4 = 0 then (ri (-1) J3) else gr 0 a0 0 (fun v5 => la 2 v5 a1 (fun v6 => vi 1 v6 (fn_Mod_wordsIn v6 a2 J3) (fun v8 J7 => (ri v8 J7))))))))
set_option maxRecDepth 10000 in
theorem sn_SL_length (a0 : Nat) (a1 : Int32) (a2 : Int32) (I : fm_I) : gM m_SL_length 2 (fn_SL_length a0 a1 a2 I) [vR a0, vI a1, vI a2] I := by
  refine gM_of (by decide) rfl (Nat.le_of_ble_eq_true rfl) ?_
  show gW c_SL_length _ _ _ _ _
  unfold fn_SL_length
  refine g_iload_n (pc := 0) (x := a1) d_SL_length_0 rfl rfl ?_
  refine g_si (pc := 1) (rest := []) (sn_SL_isModule a1 I) rfl rfl d_SL_length_1 ck_SL_54 (Nat.le_of_ble_eq_true rfl) (Nat.le_of_ble_eq_true rfl) (Nat.le_refl _) (Nat.le_refl _) (fun v2 J1 => ?_)
  refine g_ifeq (pc := 4) (tgt := 14) d_SL_length_4 rfl ?_ ?_
  · refine g_iconst (pc := 14) (x := (-1)) d_SL_length_14 (by decide) ?_
    exact g_iret (pc := 15) d_SL_length_15 rfl (Nat.le_refl _) (Nat.le_refl _)
  refine g_iload_n (pc := 7) (x := a2) d_SL_length_7 rfl rfl ?_
  refine g_si (pc := 8) (rest := []) (sn_SL_isSection a2 J1) rfl rfl d_SL_length_8 ck_SL_72 (Nat.le_of_ble_eq_true rfl) (Nat.le_of_ble_eq_true rfl) (Nat.le_refl _) (Nat.le_refl _) (fun v4 J3 => ?_)
  refine g_ifne (pc := 11) (tgt := 16) d_SL_length_11 rfl ?_ ?_
  · refine g_aload_n (pc := 16) (x := a0) d_SL_length_16 rfl rfl ?_
    refine g_gr (pc := 17) d_SL_length_17 fk_SL_18 (fun v5 => ?_)
    refine g_iload_n (pc := 20) (x := a1) d_SL_length_20 rfl rfl ?_
    refine g_la2 (pc := 21) d_SL_length_21 (fun v6 => ?_)
    refine g_iload_n (pc := 22) (x := a2) d_SL_length_22 rfl rfl ?_
    refine g_vi (pc := 23) (rest := []) (sn_Mod_wordsIn v6 a2 J3) rfl rfl d_SL_length_23 ck_SL_75 (Nat.le_of_ble_eq_true rfl) (Nat.le_of_ble_eq_true rfl) (Nat.le_refl _) (Nat.le_refl _) (fun v8 J7 => ?_)
    exact g_iret (pc := 26) d_SL_length_26 rfl (Nat.le_refl _) (Nat.le_refl _)
  refine g_iconst (pc := 14) (x := (-1)) d_SL_length_14 (by decide) ?_
  exact g_iret (pc := 15) d_SL_length_15 rfl (Nat.le_refl _) (Nat.le_refl _)
abbrev c_Mod_isLongJump : gC := (m_Mod_isLongJump, 0, 0, 0, none, 0, 0)
def fn_Mod_isLongJump (a0 : Nat) (a1 : Int32) (I : fm_I) : pR := (if a1 < 0 then (rz 0 I) else gi 1 a0 8 I (fun v1 => (if v1 ≤ a1 then (rz 0 I) else gr 1 a0 5 (fun v2 => ld 1 v2 a1 I (fun v3 => (if v3 = 0 then (rz 0 I) else (rz 1 I)))))))
set_option maxRecDepth 10000 in
theorem sn_Mod_isLongJump (a0 : Nat) (a1 : Int32) (I : fm_I) : gM m_Mod_isLongJump 0 (fn_Mod_isLongJump a0 a1 I) [vR a0, vI a1] I := by
  refine gM_of (by decide) rfl (Nat.le_of_ble_eq_true rfl) ?_
  show gW c_Mod_isLongJump _ _ _ _ _
  unfold fn_Mod_isLongJump
  refine g_iload_n (pc := 0) (x := a1) d_Mod_isLongJump_0 rfl rfl ?_
  refine g_iflt (pc := 1) (tgt := 25) d_Mod_isLongJump_1 rfl ?_ ?_
  · refine g_iconst (pc := 25) (x := 0) d_Mod_isLongJump_25 (by decide) ?_
    exact g_zret (pc := 26) d_Mod_isLongJump_26 rfl (Nat.le_refl _) (Nat.le_refl _)
  refine g_iload_n (pc := 4) (x := a1) d_Mod_isLongJump_4 rfl rfl ?_
  refine g_aload_n (pc := 5) (x := a0) d_Mod_isLongJump_5 rfl rfl ?_
  refine g_gi (pc := 6) d_Mod_isLongJump_6 fk_Mod_37 (fun v1 => ?_)
  refine g_icmpge (pc := 9) (tgt := 25) d_Mod_isLongJump_9 rfl ?_ ?_
  · refine g_iconst (pc := 25) (x := 0) d_Mod_isLongJump_25 (by decide) ?_
    exact g_zret (pc := 26) d_Mod_isLongJump_26 rfl (Nat.le_refl _) (Nat.le_refl _)
  refine g_aload_n (pc := 12) (x := a0) d_Mod_isLongJump_12 rfl rfl ?_
  refine g_gr (pc := 13) d_Mod_isLongJump_13 fk_Mod_27 (fun v2 => ?_)
  refine g_iload_n (pc := 16) (x := a1) d_Mod_isLongJump_16 rfl rfl ?_
  refine g_ldZ (pc := 17) d_Mod_isLongJump_17 (fun v3 => ?_)
  refine g_ifeq (pc := 18) (tgt := 25) d_Mod_isLongJump_18 rfl ?_ ?_
  · refine g_iconst (pc := 25) (x := 0) d_Mod_isLongJump_25 (by decide) ?_
    exact g_zret (pc := 26) d_Mod_isLongJump_26 rfl (Nat.le_refl _) (Nat.le_refl _)
  refine g_iconst (pc := 21) (x := 1) d_Mod_isLongJump_21 (by decide) ?_
  refine g_goto (pc := 22) (tgt := 26) d_Mod_isLongJump_22 rfl ?_
  exact g_zret (pc := 26) d_Mod_isLongJump_26 rfl (Nat.le_refl _) (Nat.le_refl _)
abbrev c_SL_isLong : gC := (m_SL_isLong, 2, 0, 0, none, 0, 0)
def fn_SL_isLong (a0 : Nat) (a1 : Int32) (a2 : Int32) (I : fm_I) : pR := bi (fn_SL_isModule a1 I) (fun v2 J1 => (if v2 = 0 then (rz 0 J1) else gr 0 a0 0 (fun v3 => la 2 v3 a1 (fun v4 => vi 1 v4 (fn_Mod_isLongJump v4 a2 J1) (fun v6 J5 => (if v6 = 0 then (rz 0 J5) else (rz 1 J5)))))))
set_option maxRecDepth 10000 in
theorem sn_SL_isLong (a0 : Nat) (a1 : Int32) (a2 : Int32) (I : fm_I) : gM m_SL_isLong 2 (fn_SL_isLong a0 a1 a2 I) [vR a0, vI a1, vI a2] I := by
  refine gM_of (by decide) rfl (Nat.le_of_ble_eq_true rfl) ?_
  show gW c_SL_isLong _ _ _ _ _
  unfold fn_SL_isLong
  refine g_iload_n (pc := 0) (x := a1) d_SL_isLong_0 rfl rfl ?_
  refine g_si (pc := 1) (rest := []) (sn_SL_isModule a1 I) rfl rfl d_SL_isLong_1 ck_SL_54 (Nat.le_of_ble_eq_true rfl) (Nat.le_of_ble_eq_true rfl) (Nat.le_refl _) (Nat.le_refl _) (fun v2 J1 => ?_)
  refine g_ifeq (pc := 4) (tgt := 24) d_SL_isLong_4 rfl ?_ ?_
  · refine g_iconst (pc := 24) (x := 0) d_SL_isLong_24 (by decide) ?_
    exact g_zret (pc := 25) d_SL_isLong_25 rfl (Nat.le_refl _) (Nat.le_refl _)
  refine g_aload_n (pc := 7) (x := a0) d_SL_isLong_7 rfl rfl ?_
  refine g_gr (pc := 8) d_SL_isLong_8 fk_SL_18 (fun v3 => ?_)
  refine g_iload_n (pc := 11) (x := a1) d_SL_isLong_11 rfl rfl ?_
  refine g_la2 (pc := 12) d_SL_isLong_12 (fun v4 => ?_)
  refine g_iload_n (pc := 13) (x := a2) d_SL_isLong_13 rfl rfl ?_
  refine g_vi (pc := 14) (rest := []) (sn_Mod_isLongJump v4 a2 J1) rfl rfl d_SL_isLong_14 ck_SL_79 (Nat.le_of_ble_eq_true rfl) (Nat.le_of_ble_eq_true rfl) (Nat.le_refl _) (Nat.le_refl _) (fun v6 J5 => ?_)
  refine g_ifeq (pc := 17) (tgt := 24) d_SL_isLong_17 rfl ?_ ?_
  · refine g_iconst (pc := 24) (x := 0) d_SL_isLong_24 (by decide) ?_
    exact g_zret (pc := 25) d_SL_isLong_25 rfl (Nat.le_refl _) (Nat.le_refl _)
  refine g_iconst (pc := 20) (x := 1) d_SL_isLong_20 (by decide) ?_
  refine g_goto (pc := 21) (tgt := 25) d_SL_isLong_21 rfl ?_
  exact g_zret (pc := 25) d_SL_isLong_25 rfl (Nat.le_refl _) (Nat.le_refl _)
abbrev c_Row_placeOf : gC := (m_Row_placeOf, 0, 0, 0, none, 0, 0)
def fn_Row_placeOf_2 : Nat → Nat → Int32 → Int32 → fm_I → pR
  | 0, _, _, _, _ => none
  | n + 1, a0, a1, a2, I => gi 3 a0 1 I (fun v1 => (if v1 ≤ a2 then (ri (-1) I) else gr 3 a0 0 (fun v2 => ld 0 v2 a2 I (fun v3 => (if v3 = a1 then (ri a2 I) else (fn_Row_placeOf_2 n a0 a1 (a2 + 1) I))))))
set_option maxRecDepth 10000 in
theorem sn_Row_placeOf_2 (n : Nat) : ∀ (a0 : Nat) (a1 : Int32) (a2 : Int32) (I : fm_I) (L : Nat → Option am_V), L 0 = some (vR a0) → L 1 = some (vI a1) → L 2 = some (vI a2) → gW c_Row_placeOf (fn_Row_placeOf_2 n a0 a1 a2 I) 2 L [] I := by
  induction n with
  | zero =>
    intro a0 a1 a2 I L h0 h1 h2
    unfold fn_Row_placeOf_2
    exact g_none
  | succ n ih =>
    intro a0 a1 a2 I L h0 h1 h2
    unfold fn_Row_placeOf_2
    refine g_iload_n (pc := 2) (x := a2) d_Row_placeOf_2 rfl h2 ?_
    refine g_aload_n (pc := 3) (x := a0) d_Row_placeOf_3 rfl h0 ?_
    refine g_gi (pc := 4) d_Row_placeOf_4 fk_Row_15 (fun v1 => ?_)
    refine g_icmpge (pc := 7) (tgt := 28) d_Row_placeOf_7 rfl ?_ ?_
    · refine g_iconst (pc := 28) (x := (-1)) d_Row_placeOf_28 (by decide) ?_
      exact g_iret (pc := 29) d_Row_placeOf_29 rfl (Nat.le_refl _) (Nat.le_refl _)
    refine g_aload_n (pc := 10) (x := a0) d_Row_placeOf_10 rfl h0 ?_
    refine g_gr (pc := 11) d_Row_placeOf_11 fk_Row_9 (fun v2 => ?_)
    refine g_iload_n (pc := 14) (x := a2) d_Row_placeOf_14 rfl h2 ?_
    refine g_ldI (pc := 15) d_Row_placeOf_15 (fun v3 => ?_)
    refine g_iload_n (pc := 16) (x := a1) d_Row_placeOf_16 rfl h1 ?_
    refine g_icmpne (pc := 17) (tgt := 22) d_Row_placeOf_17 rfl ?_ ?_
    · refine g_iinc (pc := 22) (x := a2) (w := 1) d_Row_placeOf_22 h2 (by decide) (Nat.le_of_ble_eq_true rfl) ?_
      refine g_goto (pc := 25) (tgt := 2) d_Row_placeOf_25 rfl ?_
      exact ih _ _ _ _ _ h0 h1 rfl
    refine g_iload_n (pc := 20) (x := a2) d_Row_placeOf_20 rfl h2 ?_
    exact g_iret (pc := 21) d_Row_placeOf_21 rfl (Nat.le_refl _) (Nat.le_refl _)
def fn_Row_placeOf (a0 : Nat) (a1 : Int32) (I : fm_I) : pR := (fn_Row_placeOf_2 FU a0 a1 0 I)
set_option maxRecDepth 10000 in
theorem sn_Row_placeOf (a0 : Nat) (a1 : Int32) (I : fm_I) : gM m_Row_placeOf 0 (fn_Row_placeOf a0 a1 I) [vR a0, vI a1] I := by
  refine gM_of (by decide) rfl (Nat.le_of_ble_eq_true rfl) ?_
  show gW c_Row_placeOf _ _ _ _ _
  unfold fn_Row_placeOf
  refine g_iconst (pc := 0) (x := 0) d_Row_placeOf_0 (by decide) ?_
  refine g_istore_n (pc := 1) (x := 0) d_Row_placeOf_1 rfl (Nat.le_of_ble_eq_true rfl) ?_
  exact sn_Row_placeOf_2 FU _ _ _ _ _ rfl rfl rfl
abbrev c_Row_holds : gC := (m_Row_holds, 1, 0, 0, none, 0, 0)
def fn_Row_holds (a0 : Nat) (a1 : Int32) (I : fm_I) : pR := vi 3 a0 (fn_Row_placeOf a0 a1 I) (fun v2 J1 => (if v2 = (-1) then (rz 0 J1) else (rz 1 J1)))
set_option maxRecDepth 10000 in
theorem sn_Row_holds (a0 : Nat) (a1 : Int32) (I : fm_I) : gM m_Row_holds 1 (fn_Row_holds a0 a1 I) [vR a0, vI a1] I := by
  refine gM_of (by decide) rfl (Nat.le_of_ble_eq_true rfl) ?_
  show gW c_Row_holds _ _ _ _ _
  unfold fn_Row_holds
  refine g_aload_n (pc := 0) (x := a0) d_Row_holds_0 rfl rfl ?_
  refine g_iload_n (pc := 1) (x := a1) d_Row_holds_1 rfl rfl ?_
  refine g_vi (pc := 2) (rest := []) (sn_Row_placeOf a0 a1 I) rfl rfl d_Row_holds_2 ck_Row_19 (Nat.le_of_ble_eq_true rfl) (Nat.le_of_ble_eq_true rfl) (Nat.le_refl _) (Nat.le_refl _) (fun v2 J1 => ?_)
  refine g_iconst (pc := 5) (x := (-1)) d_Row_holds_5 (by decide) ?_
  refine g_icmpeq (pc := 6) (tgt := 13) d_Row_holds_6 rfl ?_ ?_
  · refine g_iconst (pc := 13) (x := 0) d_Row_holds_13 (by decide) ?_
    exact g_zret (pc := 14) d_Row_holds_14 rfl (Nat.le_refl _) (Nat.le_refl _)
  refine g_iconst (pc := 9) (x := 1) d_Row_holds_9 (by decide) ?_
  refine g_goto (pc := 10) (tgt := 14) d_Row_holds_10 rfl ?_
  exact g_zret (pc := 14) d_Row_holds_14 rfl (Nat.le_refl _) (Nat.le_refl _)
abbrev c_SL_mayStandBefore : gC := (m_SL_mayStandBefore, 2, 0, 0, none, 0, 0)
def fn_SL_mayStandBefore (a0 : Nat) (a1 : Int32) (a2 : Int32) (I : fm_I) : pR := (if a2 = (-1) then (rz 1 I) else (if a2 = a1 then (rz 0 I) else gr 0 a0 1 (fun v1 => vi 3 v1 (fn_Row_holds v1 a2 I) (fun v3 J2 => (if v3 = 0 then (rz 0 J2) else (rz 1 J2))))))
set_option maxRecDepth 10000 in
theorem sn_SL_mayStandBefore (a0 : Nat) (a1 : Int32) (a2 : Int32) (I : fm_I) : gM m_SL_mayStandBefore 2 (fn_SL_mayStandBefore a0 a1 a2 I) [vR a0, vI a1, vI a2] I := by
  refine gM_of (by decide) rfl (Nat.le_of_ble_eq_true rfl) ?_
  show gW c_SL_mayStandBefore _ _ _ _ _
  unfold fn_SL_mayStandBefore
  refine g_iload_n (pc := 0) (x := a2) d_SL_mayStandBefore_0 rfl rfl ?_
  refine g_iconst (pc := 1) (x := (-1)) d_SL_mayStandBefore_1 (by decide) ?_
  refine g_icmpeq (pc := 2) (tgt := 21) d_SL_mayStandBefore_2 rfl ?_ ?_
  · refine g_iconst (pc := 21) (x := 1) d_SL_mayStandBefore_21 (by decide) ?_
    refine g_goto (pc := 22) (tgt := 26) d_SL_mayStandBefore_22 rfl ?_
    exact g_zret (pc := 26) d_SL_mayStandBefore_26 rfl (Nat.le_refl _) (Nat.le_refl _)
  refine g_iload_n (pc := 5) (x := a2) d_SL_mayStandBefore_5 rfl rfl ?_
  refine g_iload_n (pc := 6) (x := a1) d_SL_mayStandBefore_6 rfl rfl ?_
  refine g_icmpeq (pc := 7) (tgt := 25) d_SL_mayStandBefore_7 rfl ?_ ?_
  · refine g_iconst (pc := 25) (x := 0) d_SL_mayStandBefore_25 (by decide) ?_
    exact g_zret (pc := 26) d_SL_mayStandBefore_26 rfl (Nat.le_refl _) (Nat.le_refl _)
  refine g_aload_n (pc := 10) (x := a0) d_SL_mayStandBefore_10 rfl rfl ?_
  refine g_gr (pc := 11) d_SL_mayStandBefore_11 fk_SL_27 (fun v1 => ?_)
  refine g_iload_n (pc := 14) (x := a2) d_SL_mayStandBefore_14 rfl rfl ?_
  refine g_vi (pc := 15) (rest := []) (sn_Row_holds v1 a2 I) rfl rfl d_SL_mayStandBefore_15 ck_SL_82 (Nat.le_of_ble_eq_true rfl) (Nat.le_of_ble_eq_true rfl) (Nat.le_refl _) (Nat.le_refl _) (fun v3 J2 => ?_)
  refine g_ifeq (pc := 18) (tgt := 25) d_SL_mayStandBefore_18 rfl ?_ ?_
  · refine g_iconst (pc := 25) (x := 0) d_SL_mayStandBefore_25 (by decide) ?_
    exact g_zret (pc := 26) d_SL_mayStandBefore_26 rfl (Nat.le_refl _) (Nat.le_refl _)
  refine g_iconst (pc := 21) (x := 1) d_SL_mayStandBefore_21 (by decide) ?_
  refine g_goto (pc := 22) (tgt := 26) d_SL_mayStandBefore_22 rfl ?_
  exact g_zret (pc := 26) d_SL_mayStandBefore_26 rfl (Nat.le_refl _) (Nat.le_refl _)
abbrev c_Row_takeOut : gC := (m_Row_takeOut, 1, 0, 0, none, 0, 0)
def fn_Row_takeOut_25 : Nat → Nat → Int32 → fm_I → pR
  | 0, _, _, _ => none
  | n + 1, a0, a3, I => gi 3 a0 1 I (fun v1 => (if v1 ≤ a3 then (rz 1 I) else gr 3 a0 0 (fun v2 => gr 3 a0 0 (fun v3 => ld 0 v3 (a3 + 1) I (fun v4 => sI v2 a3 v4 I (fun J5 => (fn_Row_takeOut_25 n a0 (a3 + 1) J5)))))))
set_option maxRecDepth 10000 in
theorem sn_Row_takeOut_25 (n : Nat) : ∀ (a0 : Nat) (a3 : Int32) (I : fm_I) (L : Nat → Option am_V), L 0 = some (vR a0) → L 3 = some (vI a3) → gW c_Row_takeOut (fn_Row_takeOut_25 n a0 a3 I) 25 L [] I := by
  induction n with
  | zero =>
    intro a0 a3 I L h0 h3
    unfold fn_Row_takeOut_25
    exact g_none
  | succ n ih =>
    intro a0 a3 I L h0 h3
    unfold fn_Row_takeOut_25
    refine g_iload_n (pc := 25) (x := a3) d_Row_takeOut_25 rfl h3 ?_
    refine g_aload_n (pc := 26) (x := a0) d_Row_takeOut_26 rfl h0 ?_
    refine g_gi (pc := 27) d_Row_takeOut_27 fk_Row_15 (fun v1 => ?_)
    refine g_icmpge (pc := 30) (tgt := 53) d_Row_takeOut_30 rfl ?_ ?_
    · refine g_iconst (pc := 53) (x := 1) d_Row_takeOut_53 (by decide) ?_
      exact g_zret (pc := 54) d_Row_takeOut_54 rfl (Nat.le_refl _) (Nat.le_refl _)
    refine g_aload_n (pc := 33) (x := a0) d_Row_takeOut_33 rfl h0 ?_
    refine g_gr (pc := 34) d_Row_takeOut_34 fk_Row_9 (fun v2 => ?_)
    refine g_iload_n (pc := 37) (x := a3) d_Row_takeOut_37 rfl h3 ?_
    refine g_aload_n (pc := 38) (x := a0) d_Row_takeOut_38 rfl h0 ?_
    refine g_gr (pc := 39) d_Row_takeOut_39 fk_Row_9 (fun v3 => ?_)
    refine g_iload_n (pc := 42) (x := a3) d_Row_takeOut_42 rfl h3 ?_
    refine g_iconst (pc := 43) (x := 1) d_Row_takeOut_43 (by decide) ?_
    refine g_iadd (pc := 44) d_Row_takeOut_44 ?_
    refine g_ldI (pc := 45) d_Row_takeOut_45 (fun v4 => ?_)
    refine g_sI (pc := 46) d_Row_takeOut_46 (fun J5 => ?_)
    refine g_iinc (pc := 47) (x := a3) (w := 1) d_Row_takeOut_47 h3 (by decide) (Nat.le_of_ble_eq_true rfl) ?_
    refine g_goto (pc := 50) (tgt := 25) d_Row_takeOut_50 rfl ?_
    exact ih _ _ _ _ h0 rfl
def fn_Row_takeOut (a0 : Nat) (a1 : Int32) (I : fm_I) : pR := vi 3 a0 (fn_Row_placeOf a0 a1 I) (fun v2 J1 => (if v2 = (-1) then (rz 0 J1) else gi 3 a0 1 J1 (fun v3 => pI 3 a0 1 (v3 - 1) J1 (fun J4 => (fn_Row_takeOut_25 FU a0 v2 J4)))))
set_option maxRecDepth 10000 in
theorem sn_Row_takeOut (a0 : Nat) (a1 : Int32) (I : fm_I) : gM m_Row_takeOut 1 (fn_Row_takeOut a0 a1 I) [vR a0, vI a1] I := by
  refine gM_of (by decide) rfl (Nat.le_of_ble_eq_true rfl) ?_
  show gW c_Row_takeOut _ _ _ _ _
  unfold fn_Row_takeOut
  refine g_aload_n (pc := 0) (x := a0) d_Row_takeOut_0 rfl rfl ?_
  refine g_iload_n (pc := 1) (x := a1) d_Row_takeOut_1 rfl rfl ?_
  refine g_vi (pc := 2) (rest := []) (sn_Row_placeOf a0 a1 I) rfl rfl d_Row_takeOut_2 ck_Row_19 (Nat.le_of_ble_eq_true rfl) (Nat.le_of_ble_eq_true rfl) (Nat.le_refl _) (Nat.le_refl _) (fun v2 J1 => ?_)
  refine g_istore_n (pc := 5) (x := v2) d_Row_takeOut_5 rfl (Nat.le_of_ble_eq_true rfl) ?_
  refine g_iload_n (pc := 6) (x := v2) d_Row_takeOut_6 rfl rfl ?_
  refine g_iconst (pc := 7) (x := (-1)) d_Row_takeOut_7 (by decide) ?_
  refine g_icmpne (pc := 8) (tgt := 13) d_Row_takeOut_8 rfl ?_ ?_
  · refine g_aload_n (pc := 13) (x := a0) d_Row_takeOut_13 rfl rfl ?_
    refine g_dup (pc := 14) d_Row_takeOut_14 ?_
    refine g_gi (pc := 15) d_Row_takeOut_15 fk_Row_15 (fun v3 => ?_)
    refine g_iconst (pc := 18) (x := 1) d_Row_takeOut_18 (by decide) ?_
    refine g_isub (pc := 19) d_Row_takeOut_19 ?_
    refine g_pI (pc := 20) d_Row_takeOut_20 fp_Row_15 (fun J4 => ?_)
    refine g_iload_n (pc := 23) (x := v2) d_Row_takeOut_23 rfl rfl ?_
    refine g_istore_n (pc := 24) (x := v2) d_Row_takeOut_24 rfl (Nat.le_of_ble_eq_true rfl) ?_
    exact sn_Row_takeOut_25 FU _ _ _ _ rfl rfl
  refine g_iconst (pc := 11) (x := 0) d_Row_takeOut_11 (by decide) ?_
  exact g_zret (pc := 12) d_Row_takeOut_12 rfl (Nat.le_refl _) (Nat.le_refl _)
abbrev c_Row_insert : gC := (m_Row_insert, 0, 0, 0, none, 0, 0)
def fn_Row_insert_31 : Nat → Nat → Int32 → Int32 → Int32 → fm_I → pR
  | 0, _, _, _, _, _ => none
  | n + 1, a0, a1, a2, a3, I => (if a3 ≤ a1 then gr 3 a0 0 (fun v1 => sI v1 a1 a2 I (fun J2 => gi 3 a0 1 J2 (fun v3 => pI 3 a0 1 (v3 + 1) J2 (fun J4 => (rz 1 J4))))) else gr 3 a0 0 (fun v5 => gr 3 a0 0 (fun v6 => ld 0 v6 (a3 - 1) I (fun v7 => sI v5 a3 v7 I (fun J8 => (fn_Row_insert_31 n a0 a1 a2 (a3 + (-1)) J8))))))
set_option maxRecDepth 10000 in
theorem sn_Row_insert_31 (n : Nat) : ∀ (a0 : Nat) (a1 : Int32) (a2 : Int32) (a3 : Int32) (I : fm_I) (L : Nat → Option am_V), L 0 = some (vR a0) → L 1 = some (vI a1) → L 2 = some (vI a2) → L 3 = some (vI a3) → gW c_Row_insert (fn_Row_insert_31 n a0 a1 a2 a3 I) 31 L [] I := by
  induction n with
  | zero =>
    intro a0 a1 a2 a3 I L h0 h1 h2 h3
    unfold fn_Row_insert_31
    exact g_none
  | succ n ih =>
    intro a0 a1 a2 a3 I L h0 h1 h2 h3
    unfold fn_Row_insert_31
    refine g_iload_n (pc := 31) (x := a3) d_Row_insert_31 rfl h3 ?_
    refine g_iload_n (pc := 32) (x := a1) d_Row_insert_32 rfl h1 ?_
    refine g_icmple (pc := 33) (tgt := 56) d_Row_insert_33 rfl ?_ ?_
    · refine g_aload_n (pc := 56) (x := a0) d_Row_insert_56 rfl h0 ?_
      refine g_gr (pc := 57) d_Row_insert_57 fk_Row_9 (fun v1 => ?_)
      refine g_iload_n (pc := 60) (x := a1) d_Row_insert_60 rfl h1 ?_
      refine g_iload_n (pc := 61) (x := a2) d_Row_insert_61 rfl h2 ?_
      refine g_sI (pc := 62) d_Row_insert_62 (fun J2 => ?_)
      refine g_aload_n (pc := 63) (x := a0) d_Row_insert_63 rfl h0 ?_
      refine g_dup (pc := 64) d_Row_insert_64 ?_
      refine g_gi (pc := 65) d_Row_insert_65 fk_Row_15 (fun v3 => ?_)
      refine g_iconst (pc := 68) (x := 1) d_Row_insert_68 (by decide) ?_
      refine g_iadd (pc := 69) d_Row_insert_69 ?_
      refine g_pI (pc := 70) d_Row_insert_70 fp_Row_15 (fun J4 => ?_)
      refine g_iconst (pc := 73) (x := 1) d_Row_insert_73 (by decide) ?_
      exact g_zret (pc := 74) d_Row_insert_74 rfl (Nat.le_refl _) (Nat.le_refl _)
    refine g_aload_n (pc := 36) (x := a0) d_Row_insert_36 rfl h0 ?_
    refine g_gr (pc := 37) d_Row_insert_37 fk_Row_9 (fun v5 => ?_)
    refine g_iload_n (pc := 40) (x := a3) d_Row_insert_40 rfl h3 ?_
    refine g_aload_n (pc := 41) (x := a0) d_Row_insert_41 rfl h0 ?_
    refine g_gr (pc := 42) d_Row_insert_42 fk_Row_9 (fun v6 => ?_)
    refine g_iload_n (pc := 45) (x := a3) d_Row_insert_45 rfl h3 ?_
    refine g_iconst (pc := 46) (x := 1) d_Row_insert_46 (by decide) ?_
    refine g_isub (pc := 47) d_Row_insert_47 ?_
    refine g_ldI (pc := 48) d_Row_insert_48 (fun v7 => ?_)
    refine g_sI (pc := 49) d_Row_insert_49 (fun J8 => ?_)
    refine g_iinc (pc := 50) (x := a3) (w := (-1)) d_Row_insert_50 h3 (by decide) (Nat.le_of_ble_eq_true rfl) ?_
    refine g_goto (pc := 53) (tgt := 31) d_Row_insert_53 rfl ?_
    exact ih _ _ _ _ _ _ h0 h1 h2 rfl
def fn_Row_insert (a0 : Nat) (a1 : Int32) (a2 : Int32) (I : fm_I) : pR := gi 3 a0 1 I (fun v1 => gr 3 a0 0 (fun v2 => ln v2 (fun v3 => (if v3 ≤ v1 then (rz 0 I) else (if a1 < 0 then (rz 0 I) else gi 3 a0 1 I (fun v4 => (if a1 ≤ v4 then gi 3 a0 1 I (fun v5 => (fn_Row_insert_31 FU a0 a1 a2 v5 I)) else (rz 0 I))))))))
set_option maxRecDepth 10000 in
theorem sn_Row_insert (a0 : Nat) (a1 : Int32) (a2 : Int32) (I : fm_I) : gM m_Row_insert 0 (fn_Row_insert a0 a1 a2 I) [vR a0, vI a1, vI a2] I := by
  refine gM_of (by decide) rfl (Nat.le_of_ble_eq_true rfl) ?_
  show gW c_Row_insert _ _ _ _ _
  unfold fn_Row_insert
  refine g_aload_n (pc := 0) (x := a0) d_Row_insert_0 rfl rfl ?_
  refine g_gi (pc := 1) d_Row_insert_1 fk_Row_15 (fun v1 => ?_)
  refine g_aload_n (pc := 4) (x := a0) d_Row_insert_4 rfl rfl ?_
  refine g_gr (pc := 5) d_Row_insert_5 fk_Row_9 (fun v2 => ?_)
  refine g_ln (pc := 8) d_Row_insert_8 (fun v3 => ?_)
  refine g_icmpge (pc := 9) (tgt := 24) d_Row_insert_9 rfl ?_ ?_
  · refine g_iconst (pc := 24) (x := 0) d_Row_insert_24 (by decide) ?_
    exact g_zret (pc := 25) d_Row_insert_25 rfl (Nat.le_refl _) (Nat.le_refl _)
  refine g_iload_n (pc := 12) (x := a1) d_Row_insert_12 rfl rfl ?_
  refine g_iflt (pc := 13) (tgt := 24) d_Row_insert_13 rfl ?_ ?_
  · refine g_iconst (pc := 24) (x := 0) d_Row_insert_24 (by decide) ?_
    exact g_zret (pc := 25) d_Row_insert_25 rfl (Nat.le_refl _) (Nat.le_refl _)
  refine g_iload_n (pc := 16) (x := a1) d_Row_insert_16 rfl rfl ?_
  refine g_aload_n (pc := 17) (x := a0) d_Row_insert_17 rfl rfl ?_
  refine g_gi (pc := 18) d_Row_insert_18 fk_Row_15 (fun v4 => ?_)
  refine g_icmple (pc := 21) (tgt := 26) d_Row_insert_21 rfl ?_ ?_
  · refine g_aload_n (pc := 26) (x := a0) d_Row_insert_26 rfl rfl ?_
    refine g_gi (pc := 27) d_Row_insert_27 fk_Row_15 (fun v5 => ?_)
    refine g_istore_n (pc := 30) (x := v5) d_Row_insert_30 rfl (Nat.le_of_ble_eq_true rfl) ?_
    exact sn_Row_insert_31 FU _ _ _ _ _ _ rfl rfl rfl rfl
  refine g_iconst (pc := 24) (x := 0) d_Row_insert_24 (by decide) ?_
  exact g_zret (pc := 25) d_Row_insert_25 rfl (Nat.le_refl _) (Nat.le_refl _)
abbrev c_Row_append : gC := (m_Row_append, 1, 0, 0, none, 0, 0)
def fn_Row_append (a0 : Nat) (a1 : Int32) (I : fm_I) : pR := gi 3 a0 1 I (fun v1 => vi 3 a0 (fn_Row_insert a0 v1 a1 I) (fun v3 J2 => (rz v3 J2)))
set_option maxRecDepth 10000 in
theorem sn_Row_append (a0 : Nat) (a1 : Int32) (I : fm_I) : gM m_Row_append 1 (fn_Row_append a0 a1 I) [vR a0, vI a1] I := by
  refine gM_of (by decide) rfl (Nat.le_of_ble_eq_true rfl) ?_
  show gW c_Row_append _ _ _ _ _
  unfold fn_Row_append
  refine g_aload_n (pc := 0) (x := a0) d_Row_append_0 rfl rfl ?_
  refine g_aload_n (pc := 1) (x := a0) d_Row_append_1 rfl rfl ?_
  refine g_gi (pc := 2) d_Row_append_2 fk_Row_15 (fun v1 => ?_)
  refine g_iload_n (pc := 5) (x := a1) d_Row_append_5 rfl rfl ?_
  refine g_vi (pc := 6) (rest := []) (sn_Row_insert a0 v1 a1 I) rfl rfl d_Row_append_6 ck_Row_23 (Nat.le_of_ble_eq_true rfl) (Nat.le_of_ble_eq_true rfl) (Nat.le_refl _) (Nat.le_refl _) (fun v3 J2 => ?_)
  exact g_zret (pc := 9) d_Row_append_9 rfl (Nat.le_refl _) (Nat.le_refl _)
abbrev c_SL_store : gC := (m_SL_store, 3, 0, 0, none, 0, 0)
def fn_SL_store (a0 : Nat) (a1 : Int32) (a2 : Int32) (I : fm_I) : pR := bi (fn_SL_isModule a1 I) (fun v2 J1 => (if v2 = 0 then (rz 0 J1) else gr 0 a0 2 (fun v3 => vi 3 v3 (fn_Row_holds v3 a1 J1) (fun v5 J4 => (if v5 = 0 then vi 0 a0 (fn_SL_mayStandBefore a0 a1 a2 J4) (fun v7 J6 => (if v7 = 0 then (rz 0 J6) else gr 0 a0 1 (fun v8 => vi 3 v8 (fn_Row_takeOut v8 a1 J6) (fun v10 J9 => (if a2 = (-1) then gr 0 a0 1 (fun v17 => vi 3 v17 (fn_Row_append v17 a1 J9) (fun v19 J18 => (rz 1 J18))) else gr 0 a0 1 (fun v11 => gr 0 a0 1 (fun v12 => vi 3 v12 (fn_Row_placeOf v12 a2 J9) (fun v14 J13 => vi 3 v11 (fn_Row_insert v11 v14 a1 J13) (fun v16 J15 => (rz 1 J15)))))))))) else (rz 0 J4))))))
set_option maxRecDepth 10000 in
theorem sn_SL_store (a0 : Nat) (a1 : Int32) (a2 : Int32) (I : fm_I) : gM m_SL_store 3 (fn_SL_store a0 a1 a2 I) [vR a0, vI a1, vI a2] I := by
  refine gM_of (by decide) rfl (Nat.le_of_ble_eq_true rfl) ?_
  show gW c_SL_store _ _ _ _ _
  unfold fn_SL_store
  refine g_iload_n (pc := 0) (x := a1) d_SL_store_0 rfl rfl ?_
  refine g_si (pc := 1) (rest := []) (sn_SL_isModule a1 I) rfl rfl d_SL_store_1 ck_SL_54 (Nat.le_of_ble_eq_true rfl) (Nat.le_of_ble_eq_true rfl) (Nat.le_refl _) (Nat.le_refl _) (fun v2 J1 => ?_)
  refine g_ifeq (pc := 4) (tgt := 27) d_SL_store_4 rfl ?_ ?_
  · refine g_iconst (pc := 27) (x := 0) d_SL_store_27 (by decide) ?_
    exact g_zret (pc := 28) d_SL_store_28 rfl (Nat.le_refl _) (Nat.le_refl _)
  refine g_aload_n (pc := 7) (x := a0) d_SL_store_7 rfl rfl ?_
  refine g_gr (pc := 8) d_SL_store_8 fk_SL_31 (fun v3 => ?_)
  refine g_iload_n (pc := 11) (x := a1) d_SL_store_11 rfl rfl ?_
  refine g_vi (pc := 12) (rest := []) (sn_Row_holds v3 a1 J1) rfl rfl d_SL_store_12 ck_SL_82 (Nat.le_of_ble_eq_true rfl) (Nat.le_of_ble_eq_true rfl) (Nat.le_refl _) (Nat.le_refl _) (fun v5 J4 => ?_)
  refine g_ifne (pc := 15) (tgt := 27) d_SL_store_15 rfl ?_ ?_
  · refine g_iconst (pc := 27) (x := 0) d_SL_store_27 (by decide) ?_
    exact g_zret (pc := 28) d_SL_store_28 rfl (Nat.le_refl _) (Nat.le_refl _)
  refine g_aload_n (pc := 18) (x := a0) d_SL_store_18 rfl rfl ?_
  refine g_iload_n (pc := 19) (x := a1) d_SL_store_19 rfl rfl ?_
  refine g_iload_n (pc := 20) (x := a2) d_SL_store_20 rfl rfl ?_
  refine g_vi (pc := 21) (rest := []) (sn_SL_mayStandBefore a0 a1 a2 J4) rfl rfl d_SL_store_21 ck_SL_85 (Nat.le_of_ble_eq_true rfl) (Nat.le_of_ble_eq_true rfl) (Nat.le_refl _) (Nat.le_refl _) (fun v7 J6 => ?_)
  refine g_ifne (pc := 24) (tgt := 29) d_SL_store_24 rfl ?_ ?_
  · refine g_aload_n (pc := 29) (x := a0) d_SL_store_29 rfl rfl ?_
    refine g_gr (pc := 30) d_SL_store_30 fk_SL_27 (fun v8 => ?_)
    refine g_iload_n (pc := 33) (x := a1) d_SL_store_33 rfl rfl ?_
    refine g_vi (pc := 34) (rest := []) (sn_Row_takeOut v8 a1 J6) rfl rfl d_SL_store_34 ck_SL_89 (Nat.le_of_ble_eq_true rfl) (Nat.le_of_ble_eq_true rfl) (Nat.le_refl _) (Nat.le_refl _) (fun v10 J9 => ?_)
    refine g_pop (pc := 37) d_SL_store_37 ?_
    refine g_iload_n (pc := 38) (x := a2) d_SL_store_38 rfl rfl ?_
    refine g_iconst (pc := 39) (x := (-1)) d_SL_store_39 (by decide) ?_
    refine g_icmpne (pc := 40) (tgt := 55) d_SL_store_40 rfl ?_ ?_
    · refine g_aload_n (pc := 55) (x := a0) d_SL_store_55 rfl rfl ?_
      refine g_gr (pc := 56) d_SL_store_56 fk_SL_27 (fun v11 => ?_)
      refine g_aload_n (pc := 59) (x := a0) d_SL_store_59 rfl rfl ?_
      refine g_gr (pc := 60) d_SL_store_60 fk_SL_27 (fun v12 => ?_)
      refine g_iload_n (pc := 63) (x := a2) d_SL_store_63 rfl rfl ?_
      refine g_vi (pc := 64) (rest := [vR v11]) (sn_Row_placeOf v12 a2 J9) rfl rfl d_SL_store_64 ck_SL_94 (Nat.le_of_ble_eq_true rfl) (Nat.le_of_ble_eq_true rfl) (Nat.le_refl _) (Nat.le_refl _) (fun v14 J13 => ?_)
      refine g_iload_n (pc := 67) (x := a1) d_SL_store_67 rfl rfl ?_
      refine g_vi (pc := 68) (rest := []) (sn_Row_insert v11 v14 a1 J13) rfl rfl d_SL_store_68 ck_SL_97 (Nat.le_of_ble_eq_true rfl) (Nat.le_of_ble_eq_true rfl) (Nat.le_refl _) (Nat.le_refl _) (fun v16 J15 => ?_)
      refine g_pop (pc := 71) d_SL_store_71 ?_
      refine g_iconst (pc := 72) (x := 1) d_SL_store_72 (by decide) ?_
      exact g_zret (pc := 73) d_SL_store_73 rfl (Nat.le_refl _) (Nat.le_refl _)
    refine g_aload_n (pc := 43) (x := a0) d_SL_store_43 rfl rfl ?_
    refine g_gr (pc := 44) d_SL_store_44 fk_SL_27 (fun v17 => ?_)
    refine g_iload_n (pc := 47) (x := a1) d_SL_store_47 rfl rfl ?_
    refine g_vi (pc := 48) (rest := []) (sn_Row_append v17 a1 J9) rfl rfl d_SL_store_48 ck_SL_92 (Nat.le_of_ble_eq_true rfl) (Nat.le_of_ble_eq_true rfl) (Nat.le_refl _) (Nat.le_refl _) (fun v19 J18 => ?_)
    refine g_pop (pc := 51) d_SL_store_51 ?_
    refine g_goto (pc := 52) (tgt := 72) d_SL_store_52 rfl ?_
    refine g_iconst (pc := 72) (x := 1) d_SL_store_72 (by decide) ?_
    exact g_zret (pc := 73) d_SL_store_73 rfl (Nat.le_refl _) (Nat.le_refl _)
  refine g_iconst (pc := 27) (x := 0) d_SL_store_27 (by decide) ?_
  exact g_zret (pc := 28) d_SL_store_28 rfl (Nat.le_refl _) (Nat.le_refl _)
abbrev c_SL_remove : gC := (m_SL_remove, 2, 0, 0, none, 0, 0)
def fn_SL_remove (a0 : Nat) (a1 : Int32) (I : fm_I) : pR := gr 0 a0 1 (fun v1 => vi 3 v1 (fn_Row_takeOut v1 a1 I) (fun v3 J2 => (rz v3 J2)))
set_option maxRecDepth 10000 in
theorem sn_SL_remove (a0 : Nat) (a1 : Int32) (I : fm_I) : gM m_SL_remove 2 (fn_SL_remove a0 a1 I) [vR a0, vI a1] I := by
  refine gM_of (by decide) rfl (Nat.le_of_ble_eq_true rfl) ?_
  show gW c_SL_remove _ _ _ _ _
  unfold fn_SL_remove
  refine g_aload_n (pc := 0) (x := a0) d_SL_remove_0 rfl rfl ?_
  refine g_gr (pc := 1) d_SL_remove_1 fk_SL_27 (fun v1 => ?_)
  refine g_iload_n (pc := 4) (x := a1) d_SL_remove_4 rfl rfl ?_
  refine g_vi (pc := 5) (rest := []) (sn_Row_takeOut v1 a1 I) rfl rfl d_SL_remove_5 ck_SL_89 (Nat.le_of_ble_eq_true rfl) (Nat.le_of_ble_eq_true rfl) (Nat.le_refl _) (Nat.le_refl _) (fun v3 J2 => ?_)
  exact g_zret (pc := 8) d_SL_remove_8 rfl (Nat.le_refl _) (Nat.le_refl _)
abbrev c_Row_at : gC := (m_Row_at, 0, 0, 0, none, 0, 0)
def fn_Row_at (a0 : Nat) (a1 : Int32) (I : fm_I) : pR := (if a1 < 0 then (ri (-1) I) else gi 3 a0 1 I (fun v1 => (if v1 ≤ a1 then (ri (-1) I) else gr 3 a0 0 (fun v2 => ld 0 v2 a1 I (fun v3 => (ri v3 I))))))
set_option maxRecDepth 10000 in
theorem sn_Row_at (a0 : Nat) (a1 : Int32) (I : fm_I) : gM m_Row_at 0 (fn_Row_at a0 a1 I) [vR a0, vI a1] I := by
  refine gM_of (by decide) rfl (Nat.le_of_ble_eq_true rfl) ?_
  show gW c_Row_at _ _ _ _ _
  unfold fn_Row_at
  refine g_iload_n (pc := 0) (x := a1) d_Row_at_0 rfl rfl ?_
  refine g_iflt (pc := 1) (tgt := 21) d_Row_at_1 rfl ?_ ?_
  · refine g_iconst (pc := 21) (x := (-1)) d_Row_at_21 (by decide) ?_
    exact g_iret (pc := 22) d_Row_at_22 rfl (Nat.le_refl _) (Nat.le_refl _)
  refine g_iload_n (pc := 4) (x := a1) d_Row_at_4 rfl rfl ?_
  refine g_aload_n (pc := 5) (x := a0) d_Row_at_5 rfl rfl ?_
  refine g_gi (pc := 6) d_Row_at_6 fk_Row_15 (fun v1 => ?_)
  refine g_icmpge (pc := 9) (tgt := 21) d_Row_at_9 rfl ?_ ?_
  · refine g_iconst (pc := 21) (x := (-1)) d_Row_at_21 (by decide) ?_
    exact g_iret (pc := 22) d_Row_at_22 rfl (Nat.le_refl _) (Nat.le_refl _)
  refine g_aload_n (pc := 12) (x := a0) d_Row_at_12 rfl rfl ?_
  refine g_gr (pc := 13) d_Row_at_13 fk_Row_9 (fun v2 => ?_)
  refine g_iload_n (pc := 16) (x := a1) d_Row_at_16 rfl rfl ?_
  refine g_ldI (pc := 17) d_Row_at_17 (fun v3 => ?_)
  refine g_goto (pc := 18) (tgt := 22) d_Row_at_18 rfl ?_
  exact g_iret (pc := 22) d_Row_at_22 rfl (Nat.le_refl _) (Nat.le_refl _)
abbrev c_SL_member : gC := (m_SL_member, 1, 0, 0, none, 0, 0)
def fn_SL_member (a0 : Nat) (a1 : Int32) (I : fm_I) : pR := gr 0 a0 1 (fun v1 => vi 3 v1 (fn_Row_at v1 a1 I) (fun v3 J2 => (ri v3 J2)))
set_option maxRecDepth 10000 in
theorem sn_SL_member (a0 : Nat) (a1 : Int32) (I : fm_I) : gM m_SL_member 1 (fn_SL_member a0 a1 I) [vR a0, vI a1] I := by
  refine gM_of (by decide) rfl (Nat.le_of_ble_eq_true rfl) ?_
  show gW c_SL_member _ _ _ _ _
  unfold fn_SL_member
  refine g_aload_n (pc := 0) (x := a0) d_SL_member_0 rfl rfl ?_
  refine g_gr (pc := 1) d_SL_member_1 fk_SL_27 (fun v1 => ?_)
  refine g_iload_n (pc := 4) (x := a1) d_SL_member_4 rfl rfl ?_
  refine g_vi (pc := 5) (rest := []) (sn_Row_at v1 a1 I) rfl rfl d_SL_member_5 ck_SL_100 (Nat.le_of_ble_eq_true rfl) (Nat.le_of_ble_eq_true rfl) (Nat.le_refl _) (Nat.le_refl _) (fun v3 J2 => ?_)
  exact g_iret (pc := 8) d_SL_member_8 rfl (Nat.le_refl _) (Nat.le_refl _)
abbrev c_SL_isFreeModule : gC := (m_SL_isFreeModule, 2, 0, 0, none, 0, 0)
def fn_SL_isFreeModule (a0 : Nat) (a1 : Int32) (I : fm_I) : pR := bi (fn_SL_isModule a1 I) (fun v2 J1 => (if v2 = 0 then (rz 0 J1) else gr 0 a0 2 (fun v3 => vi 3 v3 (fn_Row_holds v3 a1 J1) (fun v5 J4 => (if v5 = 0 then gr 0 a0 1 (fun v6 => vi 3 v6 (fn_Row_holds v6 a1 J4) (fun v8 J7 => (if v8 = 0 then (rz 1 J7) else (rz 0 J7)))) else (rz 0 J4))))))
set_option maxRecDepth 10000 in
theorem sn_SL_isFreeModule (a0 : Nat) (a1 : Int32) (I : fm_I) : gM m_SL_isFreeModule 2 (fn_SL_isFreeModule a0 a1 I) [vR a0, vI a1] I := by
  refine gM_of (by decide) rfl (Nat.le_of_ble_eq_true rfl) ?_
  show gW c_SL_isFreeModule _ _ _ _ _
  unfold fn_SL_isFreeModule
  refine g_iload_n (pc := 0) (x := a1) d_SL_isFreeModule_0 rfl rfl ?_
  refine g_si (pc := 1) (rest := []) (sn_SL_isModule a1 I) rfl rfl d_SL_isFreeModule_1 ck_SL_54 (Nat.le_of_ble_eq_true rfl) (Nat.le_of_ble_eq_true rfl) (Nat.le_refl _) (Nat.le_refl _) (fun v2 J1 => ?_)
  refine g_ifeq (pc := 4) (tgt := 33) d_SL_isFreeModule_4 rfl ?_ ?_
  · refine g_iconst (pc := 33) (x := 0) d_SL_isFreeModule_33 (by decide) ?_
    exact g_zret (pc := 34) d_SL_isFreeModule_34 rfl (Nat.le_refl _) (Nat.le_refl _)
  refine g_aload_n (pc := 7) (x := a0) d_SL_isFreeModule_7 rfl rfl ?_
  refine g_gr (pc := 8) d_SL_isFreeModule_8 fk_SL_31 (fun v3 => ?_)
  refine g_iload_n (pc := 11) (x := a1) d_SL_isFreeModule_11 rfl rfl ?_
  refine g_vi (pc := 12) (rest := []) (sn_Row_holds v3 a1 J1) rfl rfl d_SL_isFreeModule_12 ck_SL_82 (Nat.le_of_ble_eq_true rfl) (Nat.le_of_ble_eq_true rfl) (Nat.le_refl _) (Nat.le_refl _) (fun v5 J4 => ?_)
  refine g_ifne (pc := 15) (tgt := 33) d_SL_isFreeModule_15 rfl ?_ ?_
  · refine g_iconst (pc := 33) (x := 0) d_SL_isFreeModule_33 (by decide) ?_
    exact g_zret (pc := 34) d_SL_isFreeModule_34 rfl (Nat.le_refl _) (Nat.le_refl _)
  refine g_aload_n (pc := 18) (x := a0) d_SL_isFreeModule_18 rfl rfl ?_
  refine g_gr (pc := 19) d_SL_isFreeModule_19 fk_SL_27 (fun v6 => ?_)
  refine g_iload_n (pc := 22) (x := a1) d_SL_isFreeModule_22 rfl rfl ?_
  refine g_vi (pc := 23) (rest := []) (sn_Row_holds v6 a1 J4) rfl rfl d_SL_isFreeModule_23 ck_SL_82 (Nat.le_of_ble_eq_true rfl) (Nat.le_of_ble_eq_true rfl) (Nat.le_refl _) (Nat.le_refl _) (fun v8 J7 => ?_)
  refine g_ifne (pc := 26) (tgt := 33) d_SL_isFreeModule_26 rfl ?_ ?_
  · refine g_iconst (pc := 33) (x := 0) d_SL_isFreeModule_33 (by decide) ?_
    exact g_zret (pc := 34) d_SL_isFreeModule_34 rfl (Nat.le_refl _) (Nat.le_refl _)
  refine g_iconst (pc := 29) (x := 1) d_SL_isFreeModule_29 (by decide) ?_
  refine g_goto (pc := 30) (tgt := 34) d_SL_isFreeModule_30 rfl ?_
  exact g_zret (pc := 34) d_SL_isFreeModule_34 rfl (Nat.le_refl _) (Nat.le_refl _)
abbrev c_SL_item : gC := (m_SL_item, 3, 0, 0, none, 0, 0)
def fn_SL_item (a0 : Nat) (a1 : Int32) (I : fm_I) : pR := (if a1 = 6 then gr 0 a0 2 (fun v1 => vi 3 v1 (fn_Row_append v1 a1 I) (fun v3 J2 => (rz v3 J2))) else vi 0 a0 (fn_SL_isFreeModule a0 a1 I) (fun v5 J4 => (if v5 = 0 then (rz 0 J4) else gr 0 a0 2 (fun v6 => vi 3 v6 (fn_Row_append v6 a1 J4) (fun v8 J7 => (rz v8 J7))))))
set_option maxRecDepth 10000 in
theorem sn_SL_item (a0 : Nat) (a1 : Int32) (I : fm_I) : gM m_SL_item 3 (fn_SL_item a0 a1 I) [vR a0, vI a1] I := by
  refine gM_of (by decide) rfl (Nat.le_of_ble_eq_true rfl) ?_
  show gW c_SL_item _ _ _ _ _
  unfold fn_SL_item
  refine g_iload_n (pc := 0) (x := a1) d_SL_item_0 rfl rfl ?_
  refine g_bipush (pc := 1) (x := 6) d_SL_item_1 (by decide) ?_
  refine g_icmpeq (pc := 3) (tgt := 16) d_SL_item_3 rfl ?_ ?_
  · refine g_aload_n (pc := 16) (x := a0) d_SL_item_16 rfl rfl ?_
    refine g_gr (pc := 17) d_SL_item_17 fk_SL_31 (fun v1 => ?_)
    refine g_iload_n (pc := 20) (x := a1) d_SL_item_20 rfl rfl ?_
    refine g_vi (pc := 21) (rest := []) (sn_Row_append v1 a1 I) rfl rfl d_SL_item_21 ck_SL_92 (Nat.le_of_ble_eq_true rfl) (Nat.le_of_ble_eq_true rfl) (Nat.le_refl _) (Nat.le_refl _) (fun v3 J2 => ?_)
    exact g_zret (pc := 24) d_SL_item_24 rfl (Nat.le_refl _) (Nat.le_refl _)
  refine g_aload_n (pc := 6) (x := a0) d_SL_item_6 rfl rfl ?_
  refine g_iload_n (pc := 7) (x := a1) d_SL_item_7 rfl rfl ?_
  refine g_vi (pc := 8) (rest := []) (sn_SL_isFreeModule a0 a1 I) rfl rfl d_SL_item_8 ck_SL_103 (Nat.le_of_ble_eq_true rfl) (Nat.le_of_ble_eq_true rfl) (Nat.le_refl _) (Nat.le_refl _) (fun v5 J4 => ?_)
  refine g_ifne (pc := 11) (tgt := 16) d_SL_item_11 rfl ?_ ?_
  · refine g_aload_n (pc := 16) (x := a0) d_SL_item_16 rfl rfl ?_
    refine g_gr (pc := 17) d_SL_item_17 fk_SL_31 (fun v6 => ?_)
    refine g_iload_n (pc := 20) (x := a1) d_SL_item_20 rfl rfl ?_
    refine g_vi (pc := 21) (rest := []) (sn_Row_append v6 a1 J4) rfl rfl d_SL_item_21 ck_SL_92 (Nat.le_of_ble_eq_true rfl) (Nat.le_of_ble_eq_true rfl) (Nat.le_refl _) (Nat.le_refl _) (fun v8 J7 => ?_)
    exact g_zret (pc := 24) d_SL_item_24 rfl (Nat.le_refl _) (Nat.le_refl _)
  refine g_iconst (pc := 14) (x := 0) d_SL_item_14 (by decide) ?_
  exact g_zret (pc := 15) d_SL_item_15 rfl (Nat.le_refl _) (Nat.le_refl _)
abbrev c_Row_makeEmpty : gC := (m_Row_makeEmpty, 0, 0, 0, none, 0, 0)
def fn_Row_makeEmpty (a0 : Nat) (I : fm_I) : pR := pI 3 a0 1 0 I (fun J1 => (rv J1))
set_option maxRecDepth 10000 in
theorem sn_Row_makeEmpty (a0 : Nat) (I : fm_I) : gM m_Row_makeEmpty 0 (fn_Row_makeEmpty a0 I) [vR a0] I := by
  refine gM_of (by decide) rfl (Nat.le_of_ble_eq_true rfl) ?_
  show gW c_Row_makeEmpty _ _ _ _ _
  unfold fn_Row_makeEmpty
  refine g_aload_n (pc := 0) (x := a0) d_Row_makeEmpty_0 rfl rfl ?_
  refine g_iconst (pc := 1) (x := 0) d_Row_makeEmpty_1 (by decide) ?_
  refine g_pI (pc := 2) d_Row_makeEmpty_2 fp_Row_15 (fun J1 => ?_)
  exact g_ret (pc := 5) d_Row_makeEmpty_5 rfl (Nat.le_refl _) (Nat.le_refl _)
abbrev c_SL_newLine : gC := (m_SL_newLine, 1, 0, 0, none, 0, 0)
def fn_SL_newLine (a0 : Nat) (I : fm_I) : pR := gr 0 a0 2 (fun v1 => vv 3 v1 (fn_Row_makeEmpty v1 I) (fun J2 => (rv J2)))
set_option maxRecDepth 10000 in
theorem sn_SL_newLine (a0 : Nat) (I : fm_I) : gM m_SL_newLine 1 (fn_SL_newLine a0 I) [vR a0] I := by
  refine gM_of (by decide) rfl (Nat.le_of_ble_eq_true rfl) ?_
  show gW c_SL_newLine _ _ _ _ _
  unfold fn_SL_newLine
  refine g_aload_n (pc := 0) (x := a0) d_SL_newLine_0 rfl rfl ?_
  refine g_gr (pc := 1) d_SL_newLine_1 fk_SL_31 (fun v1 => ?_)
  refine g_vv (pc := 4) (rest := []) (sn_Row_makeEmpty v1 I) rfl rfl d_SL_newLine_4 ck_SL_106 (Nat.le_of_ble_eq_true rfl) (Nat.le_of_ble_eq_true rfl) (Nat.le_refl _) (Nat.le_refl _) (fun J2 => ?_)
  exact g_ret (pc := 7) d_SL_newLine_7 rfl (Nat.le_refl _) (Nat.le_refl _)
abbrev c_Img_throwAway : gC := (m_Img_throwAway, 0, 0, 0, none, 0, 0)
def fn_Img_throwAway (a0 : Nat) (I : fm_I) : pR := pZ 4 a0 8 0 I (fun J1 => (rv J1))
set_option maxRecDepth 10000 in
theorem sn_Img_throwAway (a0 : Nat) (I : fm_I) : gM m_Img_throwAway 0 (fn_Img_throwAway a0 I) [vR a0] I := by
  refine gM_of (by decide) rfl (Nat.le_of_ble_eq_true rfl) ?_
  show gW c_Img_throwAway _ _ _ _ _
  unfold fn_Img_throwAway
  refine g_aload_n (pc := 0) (x := a0) d_Img_throwAway_0 rfl rfl ?_
  refine g_iconst (pc := 1) (x := 0) d_Img_throwAway_1 (by decide) ?_
  refine g_pZ (pc := 2) d_Img_throwAway_2 fp_Img_34 (fun J1 => ?_)
  exact g_ret (pc := 5) d_Img_throwAway_5 rfl (Nat.le_refl _) (Nat.le_refl _)
abbrev c_Mac_throwAway : gC := (m_Mac_throwAway, 0, 0, 0, none, 0, 0)
def fn_Mac_throwAway (a0 : Nat) (I : fm_I) : pR := pZ 5 a0 12 0 I (fun J1 => (rv J1))
set_option maxRecDepth 10000 in
theorem sn_Mac_throwAway (a0 : Nat) (I : fm_I) : gM m_Mac_throwAway 0 (fn_Mac_throwAway a0 I) [vR a0] I := by
  refine gM_of (by decide) rfl (Nat.le_of_ble_eq_true rfl) ?_
  show gW c_Mac_throwAway _ _ _ _ _
  unfold fn_Mac_throwAway
  refine g_aload_n (pc := 0) (x := a0) d_Mac_throwAway_0 rfl rfl ?_
  refine g_iconst (pc := 1) (x := 0) d_Mac_throwAway_1 (by decide) ?_
  refine g_pZ (pc := 2) d_Mac_throwAway_2 fp_Mac_21 (fun J1 => ?_)
  exact g_ret (pc := 5) d_Mac_throwAway_5 rfl (Nat.le_refl _) (Nat.le_refl _)
abbrev c_Row_howMany : gC := (m_Row_howMany, 0, 0, 0, none, 0, 0)
def fn_Row_howMany (a0 : Nat) (I : fm_I) : pR := gi 3 a0 1 I (fun v1 => (ri v1 I))
set_option maxRecDepth 10000 in
theorem sn_Row_howMany (a0 : Nat) (I : fm_I) : gM m_Row_howMany 0 (fn_Row_howMany a0 I) [vR a0] I := by
  refine gM_of (by decide) rfl (Nat.le_of_ble_eq_true rfl) ?_
  show gW c_Row_howMany _ _ _ _ _
  unfold fn_Row_howMany
  refine g_aload_n (pc := 0) (x := a0) d_Row_howMany_0 rfl rfl ?_
  refine g_gi (pc := 1) d_Row_howMany_1 fk_Row_15 (fun v1 => ?_)
  exact g_iret (pc := 4) d_Row_howMany_4 rfl (Nat.le_refl _) (Nat.le_refl _)
abbrev c_Mod_exportedNames : gC := (m_Mod_exportedNames, 0, 0, 0, none, 0, 0)
def fn_Mod_exportedNames (a0 : Nat) (I : fm_I) : pR := gi 1 a0 9 I (fun v1 => gi 1 a0 11 I (fun v2 => (ri (v1 &&& v2) I)))
set_option maxRecDepth 10000 in
theorem sn_Mod_exportedNames (a0 : Nat) (I : fm_I) : gM m_Mod_exportedNames 0 (fn_Mod_exportedNames a0 I) [vR a0] I := by
  refine gM_of (by decide) rfl (Nat.le_of_ble_eq_true rfl) ?_
  show gW c_Mod_exportedNames _ _ _ _ _
  unfold fn_Mod_exportedNames
  refine g_aload_n (pc := 0) (x := a0) d_Mod_exportedNames_0 rfl rfl ?_
  refine g_gi (pc := 1) d_Mod_exportedNames_1 fk_Mod_64 (fun v1 => ?_)
  refine g_aload_n (pc := 4) (x := a0) d_Mod_exportedNames_4 rfl rfl ?_
  refine g_gi (pc := 5) d_Mod_exportedNames_5 fk_Mod_70 (fun v2 => ?_)
  refine g_iand (pc := 8) d_Mod_exportedNames_8 ?_
  exact g_iret (pc := 9) d_Mod_exportedNames_9 rfl (Nat.le_refl _) (Nat.le_refl _)
abbrev c_Inc_wantedNames : gC := (m_Inc_wantedNames, 0, 0, 0, none, 0, 0)
def fn_Inc_wantedNames (a0 : Nat) (I : fm_I) : pR := gi 2 a0 2 I (fun v1 => gi 2 a0 3 I (fun v2 => gi 2 a0 4 I (fun v3 => (ri ((v1 &&& (v2 ^^^ (-1))) &&& (v3 ^^^ (-1))) I))))
set_option maxRecDepth 10000 in
theorem sn_Inc_wantedNames (a0 : Nat) (I : fm_I) : gM m_Inc_wantedNames 0 (fn_Inc_wantedNames a0 I) [vR a0] I := by
  refine gM_of (by decide) rfl (Nat.le_of_ble_eq_true rfl) ?_
  show gW c_Inc_wantedNames _ _ _ _ _
  unfold fn_Inc_wantedNames
  refine g_aload_n (pc := 0) (x := a0) d_Inc_wantedNames_0 rfl rfl ?_
  refine g_gi (pc := 1) d_Inc_wantedNames_1 fk_Inc_31 (fun v1 => ?_)
  refine g_aload_n (pc := 4) (x := a0) d_Inc_wantedNames_4 rfl rfl ?_
  refine g_gi (pc := 5) d_Inc_wantedNames_5 fk_Inc_35 (fun v2 => ?_)
  refine g_iconst (pc := 8) (x := (-1)) d_Inc_wantedNames_8 (by decide) ?_
  refine g_ixor (pc := 9) d_Inc_wantedNames_9 ?_
  refine g_iand (pc := 10) d_Inc_wantedNames_10 ?_
  refine g_aload_n (pc := 11) (x := a0) d_Inc_wantedNames_11 rfl rfl ?_
  refine g_gi (pc := 12) d_Inc_wantedNames_12 fk_Inc_38 (fun v3 => ?_)
  refine g_iconst (pc := 15) (x := (-1)) d_Inc_wantedNames_15 (by decide) ?_
  refine g_ixor (pc := 16) d_Inc_wantedNames_16 ?_
  refine g_iand (pc := 17) d_Inc_wantedNames_17 ?_
  exact g_iret (pc := 18) d_Inc_wantedNames_18 rfl (Nat.le_refl _) (Nat.le_refl _)
abbrev c_Inc_exportsWantedName : gC := (m_Inc_exportsWantedName, 1, 0, 0, none, 0, 0)
def fn_Inc_exportsWantedName (a0 : Nat) (a1 : Int32) (I : fm_I) : pR := gr 2 a0 0 (fun v1 => la 2 v1 a1 (fun v2 => vi 1 v2 (fn_Mod_exportedNames v2 I) (fun v4 J3 => vi 2 a0 (fn_Inc_wantedNames a0 J3) (fun v6 J5 => (if (v4 &&& v6) = 0 then (rz 0 J5) else (rz 1 J5))))))
set_option maxRecDepth 10000 in
theorem sn_Inc_exportsWantedName (a0 : Nat) (a1 : Int32) (I : fm_I) : gM m_Inc_exportsWantedName 1 (fn_Inc_exportsWantedName a0 a1 I) [vR a0, vI a1] I := by
  refine gM_of (by decide) rfl (Nat.le_of_ble_eq_true rfl) ?_
  show gW c_Inc_exportsWantedName _ _ _ _ _
  unfold fn_Inc_exportsWantedName
  refine g_aload_n (pc := 0) (x := a0) d_Inc_exportsWantedName_0 rfl rfl ?_
  refine g_gr (pc := 1) d_Inc_exportsWantedName_1 fk_Inc_20 (fun v1 => ?_)
  refine g_iload_n (pc := 4) (x := a1) d_Inc_exportsWantedName_4 rfl rfl ?_
  refine g_la2 (pc := 5) d_Inc_exportsWantedName_5 (fun v2 => ?_)
  refine g_vi (pc := 6) (rest := []) (sn_Mod_exportedNames v2 I) rfl rfl d_Inc_exportsWantedName_6 ck_Inc_73 (Nat.le_of_ble_eq_true rfl) (Nat.le_of_ble_eq_true rfl) (Nat.le_refl _) (Nat.le_refl _) (fun v4 J3 => ?_)
  refine g_aload_n (pc := 9) (x := a0) d_Inc_exportsWantedName_9 rfl rfl ?_
  refine g_vi (pc := 10) (rest := [vI v4]) (sn_Inc_wantedNames a0 J3) rfl rfl d_Inc_exportsWantedName_10 ck_Inc_77 (Nat.le_of_ble_eq_true rfl) (Nat.le_of_ble_eq_true rfl) (Nat.le_refl _) (Nat.le_refl _) (fun v6 J5 => ?_)
  refine g_iand (pc := 13) d_Inc_exportsWantedName_13 ?_
  refine g_ifeq (pc := 14) (tgt := 21) d_Inc_exportsWantedName_14 rfl ?_ ?_
  · refine g_iconst (pc := 21) (x := 0) d_Inc_exportsWantedName_21 (by decide) ?_
    exact g_zret (pc := 22) d_Inc_exportsWantedName_22 rfl (Nat.le_refl _) (Nat.le_refl _)
  refine g_iconst (pc := 17) (x := 1) d_Inc_exportsWantedName_17 (by decide) ?_
  refine g_goto (pc := 18) (tgt := 22) d_Inc_exportsWantedName_18 rfl ?_
  exact g_zret (pc := 22) d_Inc_exportsWantedName_22 rfl (Nat.le_refl _) (Nat.le_refl _)
abbrev c_Mod_commons : gC := (m_Mod_commons, 0, 0, 0, none, 0, 0)
def fn_Mod_commons (a0 : Nat) (I : fm_I) : pR := gi 1 a0 10 I (fun v1 => (ri v1 I))
set_option maxRecDepth 10000 in
theorem sn_Mod_commons (a0 : Nat) (I : fm_I) : gM m_Mod_commons 0 (fn_Mod_commons a0 I) [vR a0] I := by
  refine gM_of (by decide) rfl (Nat.le_of_ble_eq_true rfl) ?_
  show gW c_Mod_commons _ _ _ _ _
  unfold fn_Mod_commons
  refine g_aload_n (pc := 0) (x := a0) d_Mod_commons_0 rfl rfl ?_
  refine g_gi (pc := 1) d_Mod_commons_1 fk_Mod_67 (fun v1 => ?_)
  exact g_iret (pc := 4) d_Mod_commons_4 rfl (Nat.le_refl _) (Nat.le_refl _)
abbrev c_Mod_referredNames : gC := (m_Mod_referredNames, 0, 0, 0, none, 0, 0)
def fn_Mod_referredNames (a0 : Nat) (I : fm_I) : pR := gi 1 a0 11 I (fun v1 => gi 1 a0 12 I (fun v2 => gi 1 a0 9 I (fun v3 => gi 1 a0 10 I (fun v4 => (ri (((v1 ||| v2) &&& (v3 ^^^ (-1))) &&& (v4 ^^^ (-1))) I)))))
set_option maxRecDepth 10000 in
theorem sn_Mod_referredNames (a0 : Nat) (I : fm_I) : gM m_Mod_referredNames 0 (fn_Mod_referredNames a0 I) [vR a0] I := by
  refine gM_of (by decide) rfl (Nat.le_of_ble_eq_true rfl) ?_
  show gW c_Mod_referredNames _ _ _ _ _
  unfold fn_Mod_referredNames
  refine g_aload_n (pc := 0) (x := a0) d_Mod_referredNames_0 rfl rfl ?_
  refine g_gi (pc := 1) d_Mod_referredNames_1 fk_Mod_70 (fun v1 => ?_)
  refine g_aload_n (pc := 4) (x := a0) d_Mod_referredNames_4 rfl rfl ?_
  refine g_gi (pc := 5) d_Mod_referredNames_5 fk_Mod_73 (fun v2 => ?_)
  refine g_ior (pc := 8) d_Mod_referredNames_8 ?_
  refine g_aload_n (pc := 9) (x := a0) d_Mod_referredNames_9 rfl rfl ?_
  refine g_gi (pc := 10) d_Mod_referredNames_10 fk_Mod_64 (fun v3 => ?_)
  refine g_iconst (pc := 13) (x := (-1)) d_Mod_referredNames_13 (by decide) ?_
  refine g_ixor (pc := 14) d_Mod_referredNames_14 ?_
  refine g_iand (pc := 15) d_Mod_referredNames_15 ?_
  refine g_aload_n (pc := 16) (x := a0) d_Mod_referredNames_16 rfl rfl ?_
  refine g_gi (pc := 17) d_Mod_referredNames_17 fk_Mod_67 (fun v4 => ?_)
  refine g_iconst (pc := 20) (x := (-1)) d_Mod_referredNames_20 (by decide) ?_
  refine g_ixor (pc := 21) d_Mod_referredNames_21 ?_
  refine g_iand (pc := 22) d_Mod_referredNames_22 ?_
  exact g_iret (pc := 23) d_Mod_referredNames_23 rfl (Nat.le_refl _) (Nat.le_refl _)
abbrev c_Inc_include : gC := (m_Inc_include, 2, 0, 0, none, 0, 0)
def fn_Inc_include (a0 : Nat) (a1 : Int32) (I : fm_I) : pR := gr 2 a0 0 (fun v1 => la 2 v1 a1 (fun v2 => gr 2 a0 1 (fun v3 => vi 3 v3 (fn_Row_append v3 a1 I) (fun v5 J4 => gi 2 a0 5 J4 (fun v6 => gi 2 a0 3 J4 (fun v7 => vi 1 v2 (fn_Mod_exportedNames v2 J4) (fun v9 J8 => pI 2 a0 5 (v6 ||| (v7 &&& v9)) J8 (fun J10 => gi 2 a0 3 J10 (fun v11 => vi 1 v2 (fn_Mod_exportedNames v2 J10) (fun v13 J12 => pI 2 a0 3 (v11 ||| v13) J12 (fun J14 => gi 2 a0 4 J14 (fun v15 => vi 1 v2 (fn_Mod_commons v2 J14) (fun v17 J16 => pI 2 a0 4 (v15 ||| v17) J16 (fun J18 => gi 2 a0 2 J18 (fun v19 => vi 1 v2 (fn_Mod_referredNames v2 J18) (fun v21 J20 => pI 2 a0 2 (v19 ||| v21) J20 (fun J22 => (rv J22))))))))))))))))))
set_option maxRecDepth 10000 in
theorem sn_Inc_include (a0 : Nat) (a1 : Int32) (I : fm_I) : gM m_Inc_include 2 (fn_Inc_include a0 a1 I) [vR a0, vI a1] I := by
  refine gM_of (by decide) rfl (Nat.le_of_ble_eq_true rfl) ?_
  show gW c_Inc_include _ _ _ _ _
  unfold fn_Inc_include
  refine g_aload_n (pc := 0) (x := a0) d_Inc_include_0 rfl rfl ?_
  refine g_gr (pc := 1) d_Inc_include_1 fk_Inc_20 (fun v1 => ?_)
  refine g_iload_n (pc := 4) (x := a1) d_Inc_include_4 rfl rfl ?_
  refine g_la2 (pc := 5) d_Inc_include_5 (fun v2 => ?_)
  refine g_astore_n (pc := 6) (x := v2) d_Inc_include_6 rfl (Nat.le_of_ble_eq_true rfl) ?_
  refine g_aload_n (pc := 7) (x := a0) d_Inc_include_7 rfl rfl ?_
  refine g_gr (pc := 8) d_Inc_include_8 fk_Inc_14 (fun v3 => ?_)
  refine g_iload_n (pc := 11) (x := a1) d_Inc_include_11 rfl rfl ?_
  refine g_vi (pc := 12) (rest := []) (sn_Row_append v3 a1 I) rfl rfl d_Inc_include_12 ck_Inc_80 (Nat.le_of_ble_eq_true rfl) (Nat.le_of_ble_eq_true rfl) (Nat.le_refl _) (Nat.le_refl _) (fun v5 J4 => ?_)
  refine g_pop (pc := 15) d_Inc_include_15 ?_
  refine g_aload_n (pc := 16) (x := a0) d_Inc_include_16 rfl rfl ?_
  refine g_dup (pc := 17) d_Inc_include_17 ?_
  refine g_gi (pc := 18) d_Inc_include_18 fk_Inc_41 (fun v6 => ?_)
  refine g_aload_n (pc := 21) (x := a0) d_Inc_include_21 rfl rfl ?_
  refine g_gi (pc := 22) d_Inc_include_22 fk_Inc_35 (fun v7 => ?_)
  refine g_aload_n (pc := 25) (x := v2) d_Inc_include_25 rfl rfl ?_
  refine g_vi (pc := 26) (rest := [vI v7, vI v6, vR a0]) (sn_Mod_exportedNames v2 J4) rfl rfl d_Inc_include_26 ck_Inc_73 (Nat.le_of_ble_eq_true rfl) (Nat.le_of_ble_eq_true rfl) (Nat.le_refl _) (Nat.le_refl _) (fun v9 J8 => ?_)
  refine g_iand (pc := 29) d_Inc_include_29 ?_
  refine g_ior (pc := 30) d_Inc_include_30 ?_
  refine g_pI (pc := 31) d_Inc_include_31 fp_Inc_41 (fun J10 => ?_)
  refine g_aload_n (pc := 34) (x := a0) d_Inc_include_34 rfl rfl ?_
  refine g_dup (pc := 35) d_Inc_include_35 ?_
  refine g_gi (pc := 36) d_Inc_include_36 fk_Inc_35 (fun v11 => ?_)
  refine g_aload_n (pc := 39) (x := v2) d_Inc_include_39 rfl rfl ?_
  refine g_vi (pc := 40) (rest := [vI v11, vR a0]) (sn_Mod_exportedNames v2 J10) rfl rfl d_Inc_include_40 ck_Inc_73 (Nat.le_of_ble_eq_true rfl) (Nat.le_of_ble_eq_true rfl) (Nat.le_refl _) (Nat.le_refl _) (fun v13 J12 => ?_)
  refine g_ior (pc := 43) d_Inc_include_43 ?_
  refine g_pI (pc := 44) d_Inc_include_44 fp_Inc_35 (fun J14 => ?_)
  refine g_aload_n (pc := 47) (x := a0) d_Inc_include_47 rfl rfl ?_
  refine g_dup (pc := 48) d_Inc_include_48 ?_
  refine g_gi (pc := 49) d_Inc_include_49 fk_Inc_38 (fun v15 => ?_)
  refine g_aload_n (pc := 52) (x := v2) d_Inc_include_52 rfl rfl ?_
  refine g_vi (pc := 53) (rest := [vI v15, vR a0]) (sn_Mod_commons v2 J14) rfl rfl d_Inc_include_53 ck_Inc_83 (Nat.le_of_ble_eq_true rfl) (Nat.le_of_ble_eq_true rfl) (Nat.le_refl _) (Nat.le_refl _) (fun v17 J16 => ?_)
  refine g_ior (pc := 56) d_Inc_include_56 ?_
  refine g_pI (pc := 57) d_Inc_include_57 fp_Inc_38 (fun J18 => ?_)
  refine g_aload_n (pc := 60) (x := a0) d_Inc_include_60 rfl rfl ?_
  refine g_dup (pc := 61) d_Inc_include_61 ?_
  refine g_gi (pc := 62) d_Inc_include_62 fk_Inc_31 (fun v19 => ?_)
  refine g_aload_n (pc := 65) (x := v2) d_Inc_include_65 rfl rfl ?_
  refine g_vi (pc := 66) (rest := [vI v19, vR a0]) (sn_Mod_referredNames v2 J18) rfl rfl d_Inc_include_66 ck_Inc_86 (Nat.le_of_ble_eq_true rfl) (Nat.le_of_ble_eq_true rfl) (Nat.le_refl _) (Nat.le_refl _) (fun v21 J20 => ?_)
  refine g_ior (pc := 69) d_Inc_include_69 ?_
  refine g_pI (pc := 70) d_Inc_include_70 fp_Inc_31 (fun J22 => ?_)
  exact g_ret (pc := 73) d_Inc_include_73 rfl (Nat.le_refl _) (Nat.le_refl _)
abbrev c_Inc_includeWantedMembers : gC := (m_Inc_includeWantedMembers, 3, 0, 0, none, 0, 0)
def fn_Inc_includeWantedMembers_4 : Nat → Nat → Nat → Int32 → Int32 → fm_I → pR
  | 0, _, _, _, _, _ => none
  | n + 1, a0, a1, a2, a3, I => vi 3 a1 (fn_Row_howMany a1 I) (fun v2 J1 => (if v2 ≤ a3 then (rz a2 J1) else vi 3 a1 (fn_Row_at a1 a3 J1) (fun v4 J3 => gr 2 a0 1 (fun v5 => vi 3 v5 (fn_Row_holds v5 v4 J3) (fun v7 J6 => (if v7 = 0 then vi 2 a0 (fn_Inc_exportsWantedName a0 v4 J6) (fun v9 J8 => (if v9 = 0 then (fn_Inc_includeWantedMembers_4 n a0 a1 a2 (a3 + 1) J8) else vv 2 a0 (fn_Inc_include a0 v4 J8) (fun J10 => (fn_Inc_includeWantedMembers_4 n a0 a1 1 (a3 + 1) J10)))) else (fn_Inc_includeWantedMembers_4 n a0 a1 a2 (a3 + 1) J6)))))))
set_option maxRecDepth 10000 in
theorem sn_Inc_includeWantedMembers_4 (n : Nat) : ∀ (a0 : Nat) (a1 : Nat) (a2 : Int32) (a3 : Int32) (I : fm_I) (L : Nat → Option am_V), L 0 = some (vR a0) → L 1 = some (vR a1) → L 2 = some (vI a2) → L 3 = some (vI a3) → gW c_Inc_includeWantedMembers (fn_Inc_includeWantedMembers_4 n a0 a1 a2 a3 I) 4 L [] I := by
  induction n with
  | zero =>
    intro a0 a1 a2 a3 I L h0 h1 h2 h3
    unfold fn_Inc_includeWantedMembers_4
    exact g_none
  | succ n ih =>
    intro a0 a1 a2 a3 I L h0 h1 h2 h3
    unfold fn_Inc_includeWantedMembers_4
    refine g_iload_n (pc := 4) (x := a3) d_Inc_includeWantedMembers_4 rfl h3 ?_
    refine g_aload_n (pc := 5) (x := a1) d_Inc_includeWantedMembers_5 rfl h1 ?_
    refine g_vi (pc := 6) (rest := [vI a3]) (sn_Row_howMany a1 I) rfl rfl d_Inc_includeWantedMembers_6 ck_Inc_44 (Nat.le_of_ble_eq_true rfl) (Nat.le_of_ble_eq_true rfl) (Nat.le_refl _) (Nat.le_refl _) (fun v2 J1 => ?_)
    refine g_icmpge (pc := 9) (tgt := 54) d_Inc_includeWantedMembers_9 rfl ?_ ?_
    · refine g_iload_n (pc := 54) (x := a2) d_Inc_includeWantedMembers_54 rfl h2 ?_
      exact g_zret (pc := 55) d_Inc_includeWantedMembers_55 rfl (Nat.le_refl _) (Nat.le_refl _)
    refine g_aload_n (pc := 12) (x := a1) d_Inc_includeWantedMembers_12 rfl h1 ?_
    refine g_iload_n (pc := 13) (x := a3) d_Inc_includeWantedMembers_13 rfl h3 ?_
    refine g_vi (pc := 14) (rest := []) (sn_Row_at a1 a3 J1) rfl rfl d_Inc_includeWantedMembers_14 ck_Inc_48 (Nat.le_of_ble_eq_true rfl) (Nat.le_of_ble_eq_true rfl) (Nat.le_refl _) (Nat.le_refl _) (fun v4 J3 => ?_)
    refine g_istore (pc := 17) (x := v4) d_Inc_includeWantedMembers_17 (Nat.le_of_ble_eq_true rfl) ?_
    refine g_aload_n (pc := 19) (x := a0) d_Inc_includeWantedMembers_19 rfl h0 ?_
    refine g_gr (pc := 20) d_Inc_includeWantedMembers_20 fk_Inc_14 (fun v5 => ?_)
    refine g_iload (pc := 23) (x := v4) d_Inc_includeWantedMembers_23 rfl ?_
    refine g_vi (pc := 25) (rest := []) (sn_Row_holds v5 v4 J3) rfl rfl d_Inc_includeWantedMembers_25 ck_Inc_66 (Nat.le_of_ble_eq_true rfl) (Nat.le_of_ble_eq_true rfl) (Nat.le_refl _) (Nat.le_refl _) (fun v7 J6 => ?_)
    refine g_ifne (pc := 28) (tgt := 48) d_Inc_includeWantedMembers_28 rfl ?_ ?_
    · refine g_iinc (pc := 48) (x := a3) (w := 1) d_Inc_includeWantedMembers_48 h3 (by decide) (Nat.le_of_ble_eq_true rfl) ?_
      refine g_goto (pc := 51) (tgt := 4) d_Inc_includeWantedMembers_51 rfl ?_
      exact ih _ _ _ _ _ _ h0 h1 h2 rfl
    refine g_aload_n (pc := 31) (x := a0) d_Inc_includeWantedMembers_31 rfl h0 ?_
    refine g_iload (pc := 32) (x := v4) d_Inc_includeWantedMembers_32 rfl ?_
    refine g_vi (pc := 34) (rest := []) (sn_Inc_exportsWantedName a0 v4 J6) rfl rfl d_Inc_includeWantedMembers_34 ck_Inc_70 (Nat.le_of_ble_eq_true rfl) (Nat.le_of_ble_eq_true rfl) (Nat.le_refl _) (Nat.le_refl _) (fun v9 J8 => ?_)
    refine g_ifeq (pc := 37) (tgt := 48) d_Inc_includeWantedMembers_37 rfl ?_ ?_
    · refine g_iinc (pc := 48) (x := a3) (w := 1) d_Inc_includeWantedMembers_48 h3 (by decide) (Nat.le_of_ble_eq_true rfl) ?_
      refine g_goto (pc := 51) (tgt := 4) d_Inc_includeWantedMembers_51 rfl ?_
      exact ih _ _ _ _ _ _ h0 h1 h2 rfl
    refine g_aload_n (pc := 40) (x := a0) d_Inc_includeWantedMembers_40 rfl h0 ?_
    refine g_iload (pc := 41) (x := v4) d_Inc_includeWantedMembers_41 rfl ?_
    refine g_vv (pc := 43) (rest := []) (sn_Inc_include a0 v4 J8) rfl rfl d_Inc_includeWantedMembers_43 ck_Inc_55 (Nat.le_of_ble_eq_true rfl) (Nat.le_of_ble_eq_true rfl) (Nat.le_refl _) (Nat.le_refl _) (fun J10 => ?_)
    refine g_iconst (pc := 46) (x := 1) d_Inc_includeWantedMembers_46 (by decide) ?_
    refine g_istore_n (pc := 47) (x := 1) d_Inc_includeWantedMembers_47 rfl (Nat.le_of_ble_eq_true rfl) ?_
    refine g_iinc (pc := 48) (x := a3) (w := 1) d_Inc_includeWantedMembers_48 h3 (by decide) (Nat.le_of_ble_eq_true rfl) ?_
    refine g_goto (pc := 51) (tgt := 4) d_Inc_includeWantedMembers_51 rfl ?_
    exact ih _ _ _ _ _ _ h0 h1 rfl rfl
def fn_Inc_includeWantedMembers (a0 : Nat) (a1 : Nat) (I : fm_I) : pR := (fn_Inc_includeWantedMembers_4 FU a0 a1 0 0 I)
set_option maxRecDepth 10000 in
theorem sn_Inc_includeWantedMembers (a0 : Nat) (a1 : Nat) (I : fm_I) : gM m_Inc_includeWantedMembers 3 (fn_Inc_includeWantedMembers a0 a1 I) [vR a0, vR a1] I := by
  refine gM_of (by decide) rfl (Nat.le_of_ble_eq_true rfl) ?_
  show gW c_Inc_includeWantedMembers _ _ _ _ _
  unfold fn_Inc_includeWantedMembers
  refine g_iconst (pc := 0) (x := 0) d_Inc_includeWantedMembers_0 (by decide) ?_
  refine g_istore_n (pc := 1) (x := 0) d_Inc_includeWantedMembers_1 rfl (Nat.le_of_ble_eq_true rfl) ?_
  refine g_iconst (pc := 2) (x := 0) d_Inc_includeWantedMembers_2 (by decide) ?_
  refine g_istore_n (pc := 3) (x := 0) d_Inc_includeWantedMembers_3 rfl (Nat.le_of_ble_eq_true rfl) ?_
  exact sn_Inc_includeWantedMembers_4 FU _ _ _ _ _ _ rfl rfl rfl rfl
abbrev c_Inc_search : gC := (m_Inc_search, 4, 0, 0, none, 0, 0)
def fn_Inc_search_2 : Nat → Nat → Nat → Int32 → fm_I → pR
  | 0, _, _, _, _ => none
  | n + 1, a0, a1, a2, I => (if 6 < a2 then (rv I) else vi 2 a0 (fn_Inc_includeWantedMembers a0 a1 I) (fun v2 J1 => (if v2 = 0 then (rv J1) else (fn_Inc_search_2 n a0 a1 (a2 + 1) J1))))
set_option maxRecDepth 10000 in
theorem sn_Inc_search_2 (n : Nat) : ∀ (a0 : Nat) (a1 : Nat) (a2 : Int32) (I : fm_I) (L : Nat → Option am_V), L 0 = some (vR a0) → L 1 = some (vR a1) → L 2 = some (vI a2) → gW c_Inc_search (fn_Inc_search_2 n a0 a1 a2 I) 2 L [] I := by
  induction n with
  | zero =>
    intro a0 a1 a2 I L h0 h1 h2
    unfold fn_Inc_search_2
    exact g_none
  | succ n ih =>
    intro a0 a1 a2 I L h0 h1 h2
    unfold fn_Inc_search_2
    refine g_iload_n (pc := 2) (x := a2) d_Inc_search_2 rfl h2 ?_
    refine g_bipush (pc := 3) (x := 6) d_Inc_search_3 (by decide) ?_
    refine g_icmpgt (pc := 5) (tgt := 23) d_Inc_search_5 rfl ?_ ?_
    · exact g_ret (pc := 23) d_Inc_search_23 rfl (Nat.le_refl _) (Nat.le_refl _)
    refine g_aload_n (pc := 8) (x := a0) d_Inc_search_8 rfl h0 ?_
    refine g_aload_n (pc := 9) (x := a1) d_Inc_search_9 rfl h1 ?_
    refine g_vi (pc := 10) (rest := []) (sn_Inc_includeWantedMembers a0 a1 I) rfl rfl d_Inc_search_10 ck_Inc_62 (Nat.le_of_ble_eq_true rfl) (Nat.le_of_ble_eq_true rfl) (Nat.le_refl _) (Nat.le_refl _) (fun v2 J1 => ?_)
    refine g_ifne (pc := 13) (tgt := 17) d_Inc_search_13 rfl ?_ ?_
    · refine g_iinc (pc := 17) (x := a2) (w := 1) d_Inc_search_17 h2 (by decide) (Nat.le_of_ble_eq_true rfl) ?_
      refine g_goto (pc := 20) (tgt := 2) d_Inc_search_20 rfl ?_
      exact ih _ _ _ _ _ h0 h1 rfl
    exact g_ret (pc := 16) d_Inc_search_16 rfl (Nat.le_refl _) (Nat.le_refl _)
def fn_Inc_search (a0 : Nat) (a1 : Nat) (I : fm_I) : pR := (fn_Inc_search_2 FU a0 a1 0 I)
set_option maxRecDepth 10000 in
theorem sn_Inc_search (a0 : Nat) (a1 : Nat) (I : fm_I) : gM m_Inc_search 4 (fn_Inc_search a0 a1 I) [vR a0, vR a1] I := by
  refine gM_of (by decide) rfl (Nat.le_of_ble_eq_true rfl) ?_
  show gW c_Inc_search _ _ _ _ _
  unfold fn_Inc_search
  refine g_iconst (pc := 0) (x := 0) d_Inc_search_0 (by decide) ?_
  refine g_istore_n (pc := 1) (x := 0) d_Inc_search_1 rfl (Nat.le_of_ble_eq_true rfl) ?_
  exact sn_Inc_search_2 FU _ _ _ _ _ rfl rfl rfl
abbrev c_Inc_goOver : gC := (m_Inc_goOver, 5, 0, 0, none, 0, 0)
def fn_Inc_goOver_42 : Nat → Nat → Nat → Nat → Int32 → fm_I → pR
  | 0, _, _, _, _, _ => none
  | n + 1, a0, a1, a2, a4, I => vi 3 a1 (fn_Row_howMany a1 I) (fun v2 J1 => (if v2 ≤ a4 then (rv J1) else vi 3 a1 (fn_Row_at a1 a4 J1) (fun v4 J3 => (if v4 = 6 then vv 2 a0 (fn_Inc_search a0 a2 J3) (fun J8 => (fn_Inc_goOver_42 n a0 a1 a2 (a4 + 1) J8)) else vi 3 a1 (fn_Row_at a1 a4 J3) (fun v6 J5 => vv 2 a0 (fn_Inc_include a0 v6 J5) (fun J7 => (fn_Inc_goOver_42 n a0 a1 a2 (a4 + 1) J7)))))))
set_option maxRecDepth 10000 in
theorem sn_Inc_goOver_42 (n : Nat) : ∀ (a0 : Nat) (a1 : Nat) (a2 : Nat) (a4 : Int32) (I : fm_I) (L : Nat → Option am_V), L 0 = some (vR a0) → L 1 = some (vR a1) → L 2 = some (vR a2) → L 4 = some (vI a4) → gW c_Inc_goOver (fn_Inc_goOver_42 n a0 a1 a2 a4 I) 42 L [] I := by
  induction n with
  | zero =>
    intro a0 a1 a2 a4 I L h0 h1 h2 h4
    unfold fn_Inc_goOver_42
    exact g_none
  | succ n ih =>
    intro a0 a1 a2 a4 I L h0 h1 h2 h4
    unfold fn_Inc_goOver_42
    refine g_iload (pc := 42) (x := a4) d_Inc_goOver_42 h4 ?_
    refine g_aload_n (pc := 44) (x := a1) d_Inc_goOver_44 rfl h1 ?_
    refine g_vi (pc := 45) (rest := [vI a4]) (sn_Row_howMany a1 I) rfl rfl d_Inc_goOver_45 ck_Inc_44 (Nat.le_of_ble_eq_true rfl) (Nat.le_of_ble_eq_true rfl) (Nat.le_refl _) (Nat.le_refl _) (fun v2 J1 => ?_)
    refine g_icmpge (pc := 48) (tgt := 86) d_Inc_goOver_48 rfl ?_ ?_
    · exact g_ret (pc := 86) d_Inc_goOver_86 rfl (Nat.le_refl _) (Nat.le_refl _)
    refine g_aload_n (pc := 51) (x := a1) d_Inc_goOver_51 rfl h1 ?_
    refine g_iload (pc := 52) (x := a4) d_Inc_goOver_52 h4 ?_
    refine g_vi (pc := 54) (rest := []) (sn_Row_at a1 a4 J1) rfl rfl d_Inc_goOver_54 ck_Inc_48 (Nat.le_of_ble_eq_true rfl) (Nat.le_of_ble_eq_true rfl) (Nat.le_refl _) (Nat.le_refl _) (fun v4 J3 => ?_)
    refine g_bipush (pc := 57) (x := 6) d_Inc_goOver_57 (by decide) ?_
    refine g_icmpne (pc := 59) (tgt := 70) d_Inc_goOver_59 rfl ?_ ?_
    · refine g_aload_n (pc := 70) (x := a0) d_Inc_goOver_70 rfl h0 ?_
      refine g_aload_n (pc := 71) (x := a1) d_Inc_goOver_71 rfl h1 ?_
      refine g_iload (pc := 72) (x := a4) d_Inc_goOver_72 h4 ?_
      refine g_vi (pc := 74) (rest := [vR a0]) (sn_Row_at a1 a4 J3) rfl rfl d_Inc_goOver_74 ck_Inc_48 (Nat.le_of_ble_eq_true rfl) (Nat.le_of_ble_eq_true rfl) (Nat.le_refl _) (Nat.le_refl _) (fun v6 J5 => ?_)
      refine g_vv (pc := 77) (rest := []) (sn_Inc_include a0 v6 J5) rfl rfl d_Inc_goOver_77 ck_Inc_55 (Nat.le_of_ble_eq_true rfl) (Nat.le_of_ble_eq_true rfl) (Nat.le_refl _) (Nat.le_refl _) (fun J7 => ?_)
      refine g_iinc (pc := 80) (x := a4) (w := 1) d_Inc_goOver_80 h4 (by decide) (Nat.le_of_ble_eq_true rfl) ?_
      refine g_goto (pc := 83) (tgt := 42) d_Inc_goOver_83 rfl ?_
      exact ih _ _ _ _ _ _ h0 h1 h2 rfl
    refine g_aload_n (pc := 62) (x := a0) d_Inc_goOver_62 rfl h0 ?_
    refine g_aload_n (pc := 63) (x := a2) d_Inc_goOver_63 rfl h2 ?_
    refine g_vv (pc := 64) (rest := []) (sn_Inc_search a0 a2 J3) rfl rfl d_Inc_goOver_64 ck_Inc_51 (Nat.le_of_ble_eq_true rfl) (Nat.le_of_ble_eq_true rfl) (Nat.le_refl _) (Nat.le_refl _) (fun J8 => ?_)
    refine g_goto (pc := 67) (tgt := 80) d_Inc_goOver_67 rfl ?_
    refine g_iinc (pc := 80) (x := a4) (w := 1) d_Inc_goOver_80 h4 (by decide) (Nat.le_of_ble_eq_true rfl) ?_
    refine g_goto (pc := 83) (tgt := 42) d_Inc_goOver_83 rfl ?_
    exact ih _ _ _ _ _ _ h0 h1 h2 rfl
def fn_Inc_goOver (a0 : Nat) (a1 : Nat) (a2 : Nat) (a3 : Int32) (I : fm_I) : pR := gr 2 a0 1 (fun v1 => vv 3 v1 (fn_Row_makeEmpty v1 I) (fun J2 => (if a3 = (-1) then pI 2 a0 2 0 J2 (fun J9 => pI 2 a0 3 0 J9 (fun J10 => pI 2 a0 4 0 J10 (fun J11 => pI 2 a0 5 0 J11 (fun J12 => (fn_Inc_goOver_42 FU a0 a1 a2 0 J12))))) else bi (fn_SL_setOf a3 J2) (fun v4 J3 => pI 2 a0 2 v4 J3 (fun J5 => pI 2 a0 3 0 J5 (fun J6 => pI 2 a0 4 0 J6 (fun J7 => pI 2 a0 5 0 J7 (fun J8 => (fn_Inc_goOver_42 FU a0 a1 a2 0 J8)))))))))
set_option maxRecDepth 10000 in
theorem sn_Inc_goOver (a0 : Nat) (a1 : Nat) (a2 : Nat) (a3 : Int32) (I : fm_I) : gM m_Inc_goOver 5 (fn_Inc_goOver a0 a1 a2 a3 I) [vR a0, vR a1, vR a2, vI a3] I := by
  refine gM_of (by decide) rfl (Nat.le_of_ble_eq_true rfl) ?_
  show gW c_Inc_goOver _ _ _ _ _
  unfold fn_Inc_goOver
  refine g_aload_n (pc := 0) (x := a0) d_Inc_goOver_0 rfl rfl ?_
  refine g_gr (pc := 1) d_Inc_goOver_1 fk_Inc_14 (fun v1 => ?_)
  refine g_vv (pc := 4) (rest := []) (sn_Row_makeEmpty v1 I) rfl rfl d_Inc_goOver_4 ck_Inc_24 (Nat.le_of_ble_eq_true rfl) (Nat.le_of_ble_eq_true rfl) (Nat.le_refl _) (Nat.le_refl _) (fun J2 => ?_)
  refine g_aload_n (pc := 7) (x := a0) d_Inc_goOver_7 rfl rfl ?_
  refine g_iload_n (pc := 8) (x := a3) d_Inc_goOver_8 rfl rfl ?_
  refine g_iconst (pc := 9) (x := (-1)) d_Inc_goOver_9 (by decide) ?_
  refine g_icmpne (pc := 10) (tgt := 17) d_Inc_goOver_10 rfl ?_ ?_
  · refine g_iload_n (pc := 17) (x := a3) d_Inc_goOver_17 rfl rfl ?_
    refine g_ni (pc := 18) (rest := [vR a0]) (sn_SL_setOf a3 J2) rfl rfl d_Inc_goOver_18 ck_Inc_27 (Nat.le_of_ble_eq_true rfl) (Nat.le_of_ble_eq_true rfl) (Nat.le_refl _) (Nat.le_refl _) (fun v4 J3 => ?_)
    refine g_pI (pc := 21) d_Inc_goOver_21 fp_Inc_31 (fun J5 => ?_)
    refine g_aload_n (pc := 24) (x := a0) d_Inc_goOver_24 rfl rfl ?_
    refine g_iconst (pc := 25) (x := 0) d_Inc_goOver_25 (by decide) ?_
    refine g_pI (pc := 26) d_Inc_goOver_26 fp_Inc_35 (fun J6 => ?_)
    refine g_aload_n (pc := 29) (x := a0) d_Inc_goOver_29 rfl rfl ?_
    refine g_iconst (pc := 30) (x := 0) d_Inc_goOver_30 (by decide) ?_
    refine g_pI (pc := 31) d_Inc_goOver_31 fp_Inc_38 (fun J7 => ?_)
    refine g_aload_n (pc := 34) (x := a0) d_Inc_goOver_34 rfl rfl ?_
    refine g_iconst (pc := 35) (x := 0) d_Inc_goOver_35 (by decide) ?_
    refine g_pI (pc := 36) d_Inc_goOver_36 fp_Inc_41 (fun J8 => ?_)
    refine g_iconst (pc := 39) (x := 0) d_Inc_goOver_39 (by decide) ?_
    refine g_istore (pc := 40) (x := 0) d_Inc_goOver_40 (Nat.le_of_ble_eq_true rfl) ?_
    exact sn_Inc_goOver_42 FU _ _ _ _ _ _ rfl rfl rfl rfl
  refine g_iconst (pc := 13) (x := 0) d_Inc_goOver_13 (by decide) ?_
  refine g_goto (pc := 14) (tgt := 21) d_Inc_goOver_14 rfl ?_
  refine g_pI (pc := 21) d_Inc_goOver_21 fp_Inc_31 (fun J9 => ?_)
  refine g_aload_n (pc := 24) (x := a0) d_Inc_goOver_24 rfl rfl ?_
  refine g_iconst (pc := 25) (x := 0) d_Inc_goOver_25 (by decide) ?_
  refine g_pI (pc := 26) d_Inc_goOver_26 fp_Inc_35 (fun J10 => ?_)
  refine g_aload_n (pc := 29) (x := a0) d_Inc_goOver_29 rfl rfl ?_
  refine g_iconst (pc := 30) (x := 0) d_Inc_goOver_30 (by decide) ?_
  refine g_pI (pc := 31) d_Inc_goOver_31 fp_Inc_38 (fun J11 => ?_)
  refine g_aload_n (pc := 34) (x := a0) d_Inc_goOver_34 rfl rfl ?_
  refine g_iconst (pc := 35) (x := 0) d_Inc_goOver_35 (by decide) ?_
  refine g_pI (pc := 36) d_Inc_goOver_36 fp_Inc_41 (fun J12 => ?_)
  refine g_iconst (pc := 39) (x := 0) d_Inc_goOver_39 (by decide) ?_
  refine g_istore (pc := 40) (x := 0) d_Inc_goOver_40 (Nat.le_of_ble_eq_true rfl) ?_
  exact sn_Inc_goOver_42 FU _ _ _ _ _ _ rfl rfl rfl rfl
abbrev c_Inc_hasDouble : gC := (m_Inc_hasDouble, 0, 0, 0, none, 0, 0)
def fn_Inc_hasDouble (a0 : Nat) (I : fm_I) : pR := gi 2 a0 5 I (fun v1 => (if v1 = 0 then (rz 0 I) else (rz 1 I)))
set_option maxRecDepth 10000 in
theorem sn_Inc_hasDouble (a0 : Nat) (I : fm_I) : gM m_Inc_hasDouble 0 (fn_Inc_hasDouble a0 I) [vR a0] I := by
  refine gM_of (by decide) rfl (Nat.le_of_ble_eq_true rfl) ?_
  show gW c_Inc_hasDouble _ _ _ _ _
  unfold fn_Inc_hasDouble
  refine g_aload_n (pc := 0) (x := a0) d_Inc_hasDouble_0 rfl rfl ?_
  refine g_gi (pc := 1) d_Inc_hasDouble_1 fk_Inc_41 (fun v1 => ?_)
  refine g_ifeq (pc := 4) (tgt := 11) d_Inc_hasDouble_4 rfl ?_ ?_
  · refine g_iconst (pc := 11) (x := 0) d_Inc_hasDouble_11 (by decide) ?_
    exact g_zret (pc := 12) d_Inc_hasDouble_12 rfl (Nat.le_refl _) (Nat.le_refl _)
  refine g_iconst (pc := 7) (x := 1) d_Inc_hasDouble_7 (by decide) ?_
  refine g_goto (pc := 8) (tgt := 12) d_Inc_hasDouble_8 rfl ?_
  exact g_zret (pc := 12) d_Inc_hasDouble_12 rfl (Nat.le_refl _) (Nat.le_refl _)
