abbrev c_Ref_remove : gC := (m_Ref_remove, 1, 0, 0, none, 0, 0)
def fn_Ref_remove_24 : Nat → Nat → Int32 → fm_I → pR
  | 0, _, _, _ => none
  | n + 1, a0, a3, I => gi 6 a0 6 I (fun v1 => (if v1 ≤ a3 then (rz 1 I) else gr 6 a0 7 (fun v2 => gr 6 a0 7 (fun v3 => ld 0 v3 (a3 + 1) I (fun v4 => sI v2 a3 v4 I (fun J5 => (fn_Ref_remove_24 n a0 (a3 + 1) J5)))))))
set_option maxRecDepth 10000 in
theorem sn_Ref_remove_24 (n : Nat) : ∀ (a0 : Nat) (a3 : Int32) (I : fm_I) (L : Nat → Option am_V), L 0 = some (vR a0) → L 3 = some (vI a3) → gW c_Ref_remove (fn_Ref_remove_24 n a0 a3 I) 24 L [] I := by
  induction n with
  | zero =>
    intro a0 a3 I L h0 h3
    unfold fn_Ref_remove_24
    exact g_none
  | succ n ih =>
    intro a0 a3 I L h0 h3
    unfold fn_Ref_remove_24
    refine g_iload_n (pc := 24) (x := a3) d_Ref_remove_24 rfl h3 ?_
    refine g_aload_n (pc := 25) (x := a0) d_Ref_remove_25 rfl h0 ?_
    refine g_gi (pc := 26) d_Ref_remove_26 fk_Ref_101 (fun v1 => ?_)
    refine g_icmpge (pc := 29) (tgt := 52) d_Ref_remove_29 rfl ?_ ?_
    · refine g_iconst (pc := 52) (x := 1) d_Ref_remove_52 (by decide) ?_
      exact g_zret (pc := 53) d_Ref_remove_53 rfl (Nat.le_refl _) (Nat.le_refl _)
    refine g_aload_n (pc := 32) (x := a0) d_Ref_remove_32 rfl h0 ?_
    refine g_gr (pc := 33) d_Ref_remove_33 fk_Ref_29 (fun v2 => ?_)
    refine g_iload_n (pc := 36) (x := a3) d_Ref_remove_36 rfl h3 ?_
    refine g_aload_n (pc := 37) (x := a0) d_Ref_remove_37 rfl h0 ?_
    refine g_gr (pc := 38) d_Ref_remove_38 fk_Ref_29 (fun v3 => ?_)
    refine g_iload_n (pc := 41) (x := a3) d_Ref_remove_41 rfl h3 ?_
    refine g_iconst (pc := 42) (x := 1) d_Ref_remove_42 (by decide) ?_
    refine g_iadd (pc := 43) d_Ref_remove_43 ?_
    refine g_ldI (pc := 44) d_Ref_remove_44 (fun v4 => ?_)
    refine g_sI (pc := 45) d_Ref_remove_45 (fun J5 => ?_)
    refine g_iinc (pc := 46) (x := a3) (w := 1) d_Ref_remove_46 h3 (by decide) (Nat.le_of_ble_eq_true rfl) ?_
    refine g_goto (pc := 49) (tgt := 24) d_Ref_remove_49 rfl ?_
    exact ih _ _ _ _ h0 rfl
def fn_Ref_remove (a0 : Nat) (a1 : Int32) (I : fm_I) : pR := vi 6 a0 (fn_Ref_inArchive a0 a1 I) (fun v2 J1 => (if 0 ≤ v2 then gi 6 a0 6 J1 (fun v3 => pI 6 a0 6 (v3 - 1) J1 (fun J4 => (fn_Ref_remove_24 FU a0 v2 J4))) else (rz 0 J1)))
set_option maxRecDepth 10000 in
theorem sn_Ref_remove (a0 : Nat) (a1 : Int32) (I : fm_I) : gM m_Ref_remove 1 (fn_Ref_remove a0 a1 I) [vR a0, vI a1] I := by
  refine gM_of (by decide) rfl (Nat.le_of_ble_eq_true rfl) ?_
  show gW c_Ref_remove _ _ _ _ _
  unfold fn_Ref_remove
  refine g_aload_n (pc := 0) (x := a0) d_Ref_remove_0 rfl rfl ?_
  refine g_iload_n (pc := 1) (x := a1) d_Ref_remove_1 rfl rfl ?_
  refine g_vi (pc := 2) (rest := []) (sn_Ref_inArchive a0 a1 I) rfl rfl d_Ref_remove_2 ck_Ref_110 (Nat.le_of_ble_eq_true rfl) (Nat.le_of_ble_eq_true rfl) (Nat.le_refl _) (Nat.le_refl _) (fun v2 J1 => ?_)
  refine g_istore_n (pc := 5) (x := v2) d_Ref_remove_5 rfl (Nat.le_of_ble_eq_true rfl) ?_
  refine g_iload_n (pc := 6) (x := v2) d_Ref_remove_6 rfl rfl ?_
  refine g_ifge (pc := 7) (tgt := 12) d_Ref_remove_7 rfl ?_ ?_
  · refine g_aload_n (pc := 12) (x := a0) d_Ref_remove_12 rfl rfl ?_
    refine g_dup (pc := 13) d_Ref_remove_13 ?_
    refine g_gi (pc := 14) d_Ref_remove_14 fk_Ref_101 (fun v3 => ?_)
    refine g_iconst (pc := 17) (x := 1) d_Ref_remove_17 (by decide) ?_
    refine g_isub (pc := 18) d_Ref_remove_18 ?_
    refine g_pI (pc := 19) d_Ref_remove_19 fp_Ref_101 (fun J4 => ?_)
    refine g_iload_n (pc := 22) (x := v2) d_Ref_remove_22 rfl rfl ?_
    refine g_istore_n (pc := 23) (x := v2) d_Ref_remove_23 rfl (Nat.le_of_ble_eq_true rfl) ?_
    exact sn_Ref_remove_24 FU _ _ _ _ rfl rfl
  refine g_iconst (pc := 10) (x := 0) d_Ref_remove_10 (by decide) ?_
  exact g_zret (pc := 11) d_Ref_remove_11 rfl (Nat.le_refl _) (Nat.le_refl _)
abbrev c_Ref_store : gC := (m_Ref_store, 2, 0, 0, none, 0, 0)
def fn_Ref_store_66 : Nat → Nat → Int32 → Int32 → Int32 → fm_I → pR
  | 0, _, _, _, _, _ => none
  | n + 1, a0, a1, a3, a4, I => (if a4 ≤ a3 then gr 6 a0 7 (fun v1 => sI v1 a3 a1 I (fun J2 => gi 6 a0 6 J2 (fun v3 => pI 6 a0 6 (v3 + 1) J2 (fun J4 => (rz 1 J4))))) else gr 6 a0 7 (fun v5 => gr 6 a0 7 (fun v6 => ld 0 v6 (a4 - 1) I (fun v7 => sI v5 a4 v7 I (fun J8 => (fn_Ref_store_66 n a0 a1 a3 (a4 + (-1)) J8))))))
set_option maxRecDepth 10000 in
theorem sn_Ref_store_66 (n : Nat) : ∀ (a0 : Nat) (a1 : Int32) (a3 : Int32) (a4 : Int32) (I : fm_I) (L : Nat → Option am_V), L 0 = some (vR a0) → L 1 = some (vI a1) → L 3 = some (vI a3) → L 4 = some (vI a4) → gW c_Ref_store (fn_Ref_store_66 n a0 a1 a3 a4 I) 66 L [] I := by
  induction n with
  | zero =>
    intro a0 a1 a3 a4 I L h0 h1 h3 h4
    unfold fn_Ref_store_66
    exact g_none
  | succ n ih =>
    intro a0 a1 a3 a4 I L h0 h1 h3 h4
    unfold fn_Ref_store_66
    refine g_iload (pc := 66) (x := a4) d_Ref_store_66 h4 ?_
    refine g_iload_n (pc := 68) (x := a3) d_Ref_store_68 rfl h3 ?_
    refine g_icmple (pc := 69) (tgt := 94) d_Ref_store_69 rfl ?_ ?_
    · refine g_aload_n (pc := 94) (x := a0) d_Ref_store_94 rfl h0 ?_
      refine g_gr (pc := 95) d_Ref_store_95 fk_Ref_29 (fun v1 => ?_)
      refine g_iload_n (pc := 98) (x := a3) d_Ref_store_98 rfl h3 ?_
      refine g_iload_n (pc := 99) (x := a1) d_Ref_store_99 rfl h1 ?_
      refine g_sI (pc := 100) d_Ref_store_100 (fun J2 => ?_)
      refine g_aload_n (pc := 101) (x := a0) d_Ref_store_101 rfl h0 ?_
      refine g_dup (pc := 102) d_Ref_store_102 ?_
      refine g_gi (pc := 103) d_Ref_store_103 fk_Ref_101 (fun v3 => ?_)
      refine g_iconst (pc := 106) (x := 1) d_Ref_store_106 (by decide) ?_
      refine g_iadd (pc := 107) d_Ref_store_107 ?_
      refine g_pI (pc := 108) d_Ref_store_108 fp_Ref_101 (fun J4 => ?_)
      refine g_iconst (pc := 111) (x := 1) d_Ref_store_111 (by decide) ?_
      exact g_zret (pc := 112) d_Ref_store_112 rfl (Nat.le_refl _) (Nat.le_refl _)
    refine g_aload_n (pc := 72) (x := a0) d_Ref_store_72 rfl h0 ?_
    refine g_gr (pc := 73) d_Ref_store_73 fk_Ref_29 (fun v5 => ?_)
    refine g_iload (pc := 76) (x := a4) d_Ref_store_76 h4 ?_
    refine g_aload_n (pc := 78) (x := a0) d_Ref_store_78 rfl h0 ?_
    refine g_gr (pc := 79) d_Ref_store_79 fk_Ref_29 (fun v6 => ?_)
    refine g_iload (pc := 82) (x := a4) d_Ref_store_82 h4 ?_
    refine g_iconst (pc := 84) (x := 1) d_Ref_store_84 (by decide) ?_
    refine g_isub (pc := 85) d_Ref_store_85 ?_
    refine g_ldI (pc := 86) d_Ref_store_86 (fun v7 => ?_)
    refine g_sI (pc := 87) d_Ref_store_87 (fun J8 => ?_)
    refine g_iinc (pc := 88) (x := a4) (w := (-1)) d_Ref_store_88 h4 (by decide) (Nat.le_of_ble_eq_true rfl) ?_
    refine g_goto (pc := 91) (tgt := 66) d_Ref_store_91 rfl ?_
    exact ih _ _ _ _ _ _ h0 h1 h3 rfl
def fn_Ref_store_36 (a0 : Nat) (a1 : Int32) (a2 : Int32) (I : fm_I) : pR := vi 6 a0 (fn_Ref_remove a0 a1 I) (fun v2 J1 => (if a2 = (-1) then gi 6 a0 6 J1 (fun v6 => gi 6 a0 6 J1 (fun v7 => (fn_Ref_store_66 FU a0 a1 v6 v7 J1))) else vi 6 a0 (fn_Ref_inArchive a0 a2 J1) (fun v4 J3 => gi 6 a0 6 J3 (fun v5 => (fn_Ref_store_66 FU a0 a1 v4 v5 J3)))))
set_option maxRecDepth 10000 in
theorem sn_Ref_store_36 : ∀ (a0 : Nat) (a1 : Int32) (a2 : Int32) (I : fm_I) (L : Nat → Option am_V), L 0 = some (vR a0) → L 1 = some (vI a1) → L 2 = some (vI a2) → gW c_Ref_store (fn_Ref_store_36 a0 a1 a2 I) 36 L [] I := by
  intro a0 a1 a2 I L h0 h1 h2
  unfold fn_Ref_store_36
  refine g_aload_n (pc := 36) (x := a0) d_Ref_store_36 rfl h0 ?_
  refine g_iload_n (pc := 37) (x := a1) d_Ref_store_37 rfl h1 ?_
  refine g_vi (pc := 38) (rest := []) (sn_Ref_remove a0 a1 I) rfl rfl d_Ref_store_38 ck_Ref_113 (Nat.le_of_ble_eq_true rfl) (Nat.le_of_ble_eq_true rfl) (Nat.le_refl _) (Nat.le_refl _) (fun v2 J1 => ?_)
  refine g_pop (pc := 41) d_Ref_store_41 ?_
  refine g_iload_n (pc := 42) (x := a2) d_Ref_store_42 rfl h2 ?_
  refine g_iconst (pc := 43) (x := (-1)) d_Ref_store_43 (by decide) ?_
  refine g_icmpne (pc := 44) (tgt := 54) d_Ref_store_44 rfl ?_ ?_
  · refine g_aload_n (pc := 54) (x := a0) d_Ref_store_54 rfl h0 ?_
    refine g_iload_n (pc := 55) (x := a2) d_Ref_store_55 rfl h2 ?_
    refine g_vi (pc := 56) (rest := []) (sn_Ref_inArchive a0 a2 J1) rfl rfl d_Ref_store_56 ck_Ref_110 (Nat.le_of_ble_eq_true rfl) (Nat.le_of_ble_eq_true rfl) (Nat.le_refl _) (Nat.le_refl _) (fun v4 J3 => ?_)
    refine g_istore_n (pc := 59) (x := v4) d_Ref_store_59 rfl (Nat.le_of_ble_eq_true rfl) ?_
    refine g_aload_n (pc := 60) (x := a0) d_Ref_store_60 rfl h0 ?_
    refine g_gi (pc := 61) d_Ref_store_61 fk_Ref_101 (fun v5 => ?_)
    refine g_istore (pc := 64) (x := v5) d_Ref_store_64 (Nat.le_of_ble_eq_true rfl) ?_
    exact sn_Ref_store_66 FU _ _ _ _ _ _ h0 h1 rfl rfl
  refine g_aload_n (pc := 47) (x := a0) d_Ref_store_47 rfl h0 ?_
  refine g_gi (pc := 48) d_Ref_store_48 fk_Ref_101 (fun v6 => ?_)
  refine g_goto (pc := 51) (tgt := 59) d_Ref_store_51 rfl ?_
  refine g_istore_n (pc := 59) (x := v6) d_Ref_store_59 rfl (Nat.le_of_ble_eq_true rfl) ?_
  refine g_aload_n (pc := 60) (x := a0) d_Ref_store_60 rfl h0 ?_
  refine g_gi (pc := 61) d_Ref_store_61 fk_Ref_101 (fun v7 => ?_)
  refine g_istore (pc := 64) (x := v7) d_Ref_store_64 (Nat.le_of_ble_eq_true rfl) ?_
  exact sn_Ref_store_66 FU _ _ _ _ _ _ h0 h1 rfl rfl
def fn_Ref_store (a0 : Nat) (a1 : Int32) (a2 : Int32) (I : fm_I) : pR := vi 6 a0 (fn_Ref_module a0 a1 I) (fun v2 J1 => (if v2 = 0 then (rz 0 J1) else vi 6 a0 (fn_Ref_onLine a0 a1 J1) (fun v4 J3 => (if v4 = 0 then (if a2 = a1 then (rz 0 J3) else (if a2 = (-1) then (fn_Ref_store_36 a0 a1 a2 J3) else vi 6 a0 (fn_Ref_inArchive a0 a2 J3) (fun v6 J5 => (if 0 ≤ v6 then (fn_Ref_store_36 a0 a1 a2 J5) else (rz 0 J5))))) else (rz 0 J3)))))
set_option maxRecDepth 10000 in
theorem sn_Ref_store (a0 : Nat) (a1 : Int32) (a2 : Int32) (I : fm_I) : gM m_Ref_store 2 (fn_Ref_store a0 a1 a2 I) [vR a0, vI a1, vI a2] I := by
  refine gM_of (by decide) rfl (Nat.le_of_ble_eq_true rfl) ?_
  show gW c_Ref_store _ _ _ _ _
  unfold fn_Ref_store
  refine g_aload_n (pc := 0) (x := a0) d_Ref_store_0 rfl rfl ?_
  refine g_iload_n (pc := 1) (x := a1) d_Ref_store_1 rfl rfl ?_
  refine g_vi (pc := 2) (rest := []) (sn_Ref_module a0 a1 I) rfl rfl d_Ref_store_2 ck_Ref_90 (Nat.le_of_ble_eq_true rfl) (Nat.le_of_ble_eq_true rfl) (Nat.le_refl _) (Nat.le_refl _) (fun v2 J1 => ?_)
  refine g_ifeq (pc := 5) (tgt := 34) d_Ref_store_5 rfl ?_ ?_
  · refine g_iconst (pc := 34) (x := 0) d_Ref_store_34 (by decide) ?_
    exact g_zret (pc := 35) d_Ref_store_35 rfl (Nat.le_refl _) (Nat.le_refl _)
  refine g_aload_n (pc := 8) (x := a0) d_Ref_store_8 rfl rfl ?_
  refine g_iload_n (pc := 9) (x := a1) d_Ref_store_9 rfl rfl ?_
  refine g_vi (pc := 10) (rest := []) (sn_Ref_onLine a0 a1 J1) rfl rfl d_Ref_store_10 ck_Ref_107 (Nat.le_of_ble_eq_true rfl) (Nat.le_of_ble_eq_true rfl) (Nat.le_refl _) (Nat.le_refl _) (fun v4 J3 => ?_)
  refine g_ifne (pc := 13) (tgt := 34) d_Ref_store_13 rfl ?_ ?_
  · refine g_iconst (pc := 34) (x := 0) d_Ref_store_34 (by decide) ?_
    exact g_zret (pc := 35) d_Ref_store_35 rfl (Nat.le_refl _) (Nat.le_refl _)
  refine g_iload_n (pc := 16) (x := a2) d_Ref_store_16 rfl rfl ?_
  refine g_iload_n (pc := 17) (x := a1) d_Ref_store_17 rfl rfl ?_
  refine g_icmpeq (pc := 18) (tgt := 34) d_Ref_store_18 rfl ?_ ?_
  · refine g_iconst (pc := 34) (x := 0) d_Ref_store_34 (by decide) ?_
    exact g_zret (pc := 35) d_Ref_store_35 rfl (Nat.le_refl _) (Nat.le_refl _)
  refine g_iload_n (pc := 21) (x := a2) d_Ref_store_21 rfl rfl ?_
  refine g_iconst (pc := 22) (x := (-1)) d_Ref_store_22 (by decide) ?_
  refine g_icmpeq (pc := 23) (tgt := 36) d_Ref_store_23 rfl ?_ ?_
  · exact sn_Ref_store_36 _ _ _ _ _ rfl rfl rfl
  refine g_aload_n (pc := 26) (x := a0) d_Ref_store_26 rfl rfl ?_
  refine g_iload_n (pc := 27) (x := a2) d_Ref_store_27 rfl rfl ?_
  refine g_vi (pc := 28) (rest := []) (sn_Ref_inArchive a0 a2 J3) rfl rfl d_Ref_store_28 ck_Ref_110 (Nat.le_of_ble_eq_true rfl) (Nat.le_of_ble_eq_true rfl) (Nat.le_refl _) (Nat.le_refl _) (fun v6 J5 => ?_)
  refine g_ifge (pc := 31) (tgt := 36) d_Ref_store_31 rfl ?_ ?_
  · exact sn_Ref_store_36 _ _ _ _ _ rfl rfl rfl
  refine g_iconst (pc := 34) (x := 0) d_Ref_store_34 (by decide) ?_
  exact g_zret (pc := 35) d_Ref_store_35 rfl (Nat.le_refl _) (Nat.le_refl _)
abbrev c_Ref_member : gC := (m_Ref_member, 0, 0, 0, none, 0, 0)
def fn_Ref_member (a0 : Nat) (a1 : Int32) (I : fm_I) : pR := (if a1 < 0 then (ri (-1) I) else gi 6 a0 6 I (fun v1 => (if v1 ≤ a1 then (ri (-1) I) else gr 6 a0 7 (fun v2 => ld 0 v2 a1 I (fun v3 => (ri v3 I))))))
set_option maxRecDepth 10000 in
theorem sn_Ref_member (a0 : Nat) (a1 : Int32) (I : fm_I) : gM m_Ref_member 0 (fn_Ref_member a0 a1 I) [vR a0, vI a1] I := by
  refine gM_of (by decide) rfl (Nat.le_of_ble_eq_true rfl) ?_
  show gW c_Ref_member _ _ _ _ _
  unfold fn_Ref_member
  refine g_iload_n (pc := 0) (x := a1) d_Ref_member_0 rfl rfl ?_
  refine g_iflt (pc := 1) (tgt := 21) d_Ref_member_1 rfl ?_ ?_
  · refine g_iconst (pc := 21) (x := (-1)) d_Ref_member_21 (by decide) ?_
    exact g_iret (pc := 22) d_Ref_member_22 rfl (Nat.le_refl _) (Nat.le_refl _)
  refine g_iload_n (pc := 4) (x := a1) d_Ref_member_4 rfl rfl ?_
  refine g_aload_n (pc := 5) (x := a0) d_Ref_member_5 rfl rfl ?_
  refine g_gi (pc := 6) d_Ref_member_6 fk_Ref_101 (fun v1 => ?_)
  refine g_icmpge (pc := 9) (tgt := 21) d_Ref_member_9 rfl ?_ ?_
  · refine g_iconst (pc := 21) (x := (-1)) d_Ref_member_21 (by decide) ?_
    exact g_iret (pc := 22) d_Ref_member_22 rfl (Nat.le_refl _) (Nat.le_refl _)
  refine g_aload_n (pc := 12) (x := a0) d_Ref_member_12 rfl rfl ?_
  refine g_gr (pc := 13) d_Ref_member_13 fk_Ref_29 (fun v2 => ?_)
  refine g_iload_n (pc := 16) (x := a1) d_Ref_member_16 rfl rfl ?_
  refine g_ldI (pc := 17) d_Ref_member_17 (fun v3 => ?_)
  refine g_goto (pc := 18) (tgt := 22) d_Ref_member_18 rfl ?_
  exact g_iret (pc := 22) d_Ref_member_22 rfl (Nat.le_refl _) (Nat.le_refl _)
abbrev c_Ref_item : gC := (m_Ref_item, 1, 0, 0, none, 0, 0)
def fn_Ref_item (a0 : Nat) (a1 : Int32) (I : fm_I) : pR := (if a1 < 0 then (rz 0 I) else (if 6 < a1 then (rz 0 I) else gi 6 a0 8 I (fun v1 => (if 8 ≤ v1 then (rz 0 I) else (if 6 ≤ a1 then gr 6 a0 9 (fun v2 => gi 6 a0 8 I (fun v3 => sI v2 v3 a1 I (fun J4 => gi 6 a0 8 J4 (fun v5 => pI 6 a0 8 (v5 + 1) J4 (fun J6 => (rz 1 J6)))))) else vi 6 a0 (fn_Ref_onLine a0 a1 I) (fun v8 J7 => (if v8 = 0 then vi 6 a0 (fn_Ref_inArchive a0 a1 J7) (fun v10 J9 => (if v10 < 0 then gr 6 a0 9 (fun v11 => gi 6 a0 8 J9 (fun v12 => sI v11 v12 a1 J9 (fun J13 => gi 6 a0 8 J13 (fun v14 => pI 6 a0 8 (v14 + 1) J13 (fun J15 => (rz 1 J15)))))) else (rz 0 J9))) else (rz 0 J7))))))))
set_option maxRecDepth 10000 in
theorem sn_Ref_item (a0 : Nat) (a1 : Int32) (I : fm_I) : gM m_Ref_item 1 (fn_Ref_item a0 a1 I) [vR a0, vI a1] I := by
  refine gM_of (by decide) rfl (Nat.le_of_ble_eq_true rfl) ?_
  show gW c_Ref_item _ _ _ _ _
  unfold fn_Ref_item
  refine g_iload_n (pc := 0) (x := a1) d_Ref_item_0 rfl rfl ?_
  refine g_iflt (pc := 1) (tgt := 41) d_Ref_item_1 rfl ?_ ?_
  · refine g_iconst (pc := 41) (x := 0) d_Ref_item_41 (by decide) ?_
    exact g_zret (pc := 42) d_Ref_item_42 rfl (Nat.le_refl _) (Nat.le_refl _)
  refine g_iload_n (pc := 4) (x := a1) d_Ref_item_4 rfl rfl ?_
  refine g_bipush (pc := 5) (x := 6) d_Ref_item_5 (by decide) ?_
  refine g_icmpgt (pc := 7) (tgt := 41) d_Ref_item_7 rfl ?_ ?_
  · refine g_iconst (pc := 41) (x := 0) d_Ref_item_41 (by decide) ?_
    exact g_zret (pc := 42) d_Ref_item_42 rfl (Nat.le_refl _) (Nat.le_refl _)
  refine g_aload_n (pc := 10) (x := a0) d_Ref_item_10 rfl rfl ?_
  refine g_gi (pc := 11) d_Ref_item_11 fk_Ref_104 (fun v1 => ?_)
  refine g_bipush (pc := 14) (x := 8) d_Ref_item_14 (by decide) ?_
  refine g_icmpge (pc := 16) (tgt := 41) d_Ref_item_16 rfl ?_ ?_
  · refine g_iconst (pc := 41) (x := 0) d_Ref_item_41 (by decide) ?_
    exact g_zret (pc := 42) d_Ref_item_42 rfl (Nat.le_refl _) (Nat.le_refl _)
  refine g_iload_n (pc := 19) (x := a1) d_Ref_item_19 rfl rfl ?_
  refine g_bipush (pc := 20) (x := 6) d_Ref_item_20 (by decide) ?_
  refine g_icmpge (pc := 22) (tgt := 43) d_Ref_item_22 rfl ?_ ?_
  · refine g_aload_n (pc := 43) (x := a0) d_Ref_item_43 rfl rfl ?_
    refine g_gr (pc := 44) d_Ref_item_44 fk_Ref_32 (fun v2 => ?_)
    refine g_aload_n (pc := 47) (x := a0) d_Ref_item_47 rfl rfl ?_
    refine g_gi (pc := 48) d_Ref_item_48 fk_Ref_104 (fun v3 => ?_)
    refine g_iload_n (pc := 51) (x := a1) d_Ref_item_51 rfl rfl ?_
    refine g_sI (pc := 52) d_Ref_item_52 (fun J4 => ?_)
    refine g_aload_n (pc := 53) (x := a0) d_Ref_item_53 rfl rfl ?_
    refine g_dup (pc := 54) d_Ref_item_54 ?_
    refine g_gi (pc := 55) d_Ref_item_55 fk_Ref_104 (fun v5 => ?_)
    refine g_iconst (pc := 58) (x := 1) d_Ref_item_58 (by decide) ?_
    refine g_iadd (pc := 59) d_Ref_item_59 ?_
    refine g_pI (pc := 60) d_Ref_item_60 fp_Ref_104 (fun J6 => ?_)
    refine g_iconst (pc := 63) (x := 1) d_Ref_item_63 (by decide) ?_
    exact g_zret (pc := 64) d_Ref_item_64 rfl (Nat.le_refl _) (Nat.le_refl _)
  refine g_aload_n (pc := 25) (x := a0) d_Ref_item_25 rfl rfl ?_
  refine g_iload_n (pc := 26) (x := a1) d_Ref_item_26 rfl rfl ?_
  refine g_vi (pc := 27) (rest := []) (sn_Ref_onLine a0 a1 I) rfl rfl d_Ref_item_27 ck_Ref_107 (Nat.le_of_ble_eq_true rfl) (Nat.le_of_ble_eq_true rfl) (Nat.le_refl _) (Nat.le_refl _) (fun v8 J7 => ?_)
  refine g_ifne (pc := 30) (tgt := 41) d_Ref_item_30 rfl ?_ ?_
  · refine g_iconst (pc := 41) (x := 0) d_Ref_item_41 (by decide) ?_
    exact g_zret (pc := 42) d_Ref_item_42 rfl (Nat.le_refl _) (Nat.le_refl _)
  refine g_aload_n (pc := 33) (x := a0) d_Ref_item_33 rfl rfl ?_
  refine g_iload_n (pc := 34) (x := a1) d_Ref_item_34 rfl rfl ?_
  refine g_vi (pc := 35) (rest := []) (sn_Ref_inArchive a0 a1 J7) rfl rfl d_Ref_item_35 ck_Ref_110 (Nat.le_of_ble_eq_true rfl) (Nat.le_of_ble_eq_true rfl) (Nat.le_refl _) (Nat.le_refl _) (fun v10 J9 => ?_)
  refine g_iflt (pc := 38) (tgt := 43) d_Ref_item_38 rfl ?_ ?_
  · refine g_aload_n (pc := 43) (x := a0) d_Ref_item_43 rfl rfl ?_
    refine g_gr (pc := 44) d_Ref_item_44 fk_Ref_32 (fun v11 => ?_)
    refine g_aload_n (pc := 47) (x := a0) d_Ref_item_47 rfl rfl ?_
    refine g_gi (pc := 48) d_Ref_item_48 fk_Ref_104 (fun v12 => ?_)
    refine g_iload_n (pc := 51) (x := a1) d_Ref_item_51 rfl rfl ?_
    refine g_sI (pc := 52) d_Ref_item_52 (fun J13 => ?_)
    refine g_aload_n (pc := 53) (x := a0) d_Ref_item_53 rfl rfl ?_
    refine g_dup (pc := 54) d_Ref_item_54 ?_
    refine g_gi (pc := 55) d_Ref_item_55 fk_Ref_104 (fun v14 => ?_)
    refine g_iconst (pc := 58) (x := 1) d_Ref_item_58 (by decide) ?_
    refine g_iadd (pc := 59) d_Ref_item_59 ?_
    refine g_pI (pc := 60) d_Ref_item_60 fp_Ref_104 (fun J15 => ?_)
    refine g_iconst (pc := 63) (x := 1) d_Ref_item_63 (by decide) ?_
    exact g_zret (pc := 64) d_Ref_item_64 rfl (Nat.le_refl _) (Nat.le_refl _)
  refine g_iconst (pc := 41) (x := 0) d_Ref_item_41 (by decide) ?_
  exact g_zret (pc := 42) d_Ref_item_42 rfl (Nat.le_refl _) (Nat.le_refl _)
abbrev c_Ref_newLine : gC := (m_Ref_newLine, 0, 0, 0, none, 0, 0)
def fn_Ref_newLine (a0 : Nat) (I : fm_I) : pR := pI 6 a0 8 0 I (fun J1 => (rv J1))
set_option maxRecDepth 10000 in
theorem sn_Ref_newLine (a0 : Nat) (I : fm_I) : gM m_Ref_newLine 0 (fn_Ref_newLine a0 I) [vR a0] I := by
  refine gM_of (by decide) rfl (Nat.le_of_ble_eq_true rfl) ?_
  show gW c_Ref_newLine _ _ _ _ _
  unfold fn_Ref_newLine
  refine g_aload_n (pc := 0) (x := a0) d_Ref_newLine_0 rfl rfl ?_
  refine g_iconst (pc := 1) (x := 0) d_Ref_newLine_1 (by decide) ?_
  refine g_pI (pc := 2) d_Ref_newLine_2 fp_Ref_104 (fun J1 => ?_)
  exact g_ret (pc := 5) d_Ref_newLine_5 rfl (Nat.le_refl _) (Nat.le_refl _)
abbrev c_Ref_isIn : gC := (m_Ref_isIn, 0, 0, 0, none, 0, 0)
def fn_Ref_isIn_4 : Nat → Nat → Int32 → Int32 → Int32 → fm_I → pR
  | 0, _, _, _, _, _ => none
  | n + 1, a0, a1, a2, a3, I => gi 6 a0 11 I (fun v1 => (if v1 ≤ a3 then (rz a2 I) else (if a2 = 0 then gr 6 a0 12 (fun v2 => ld 0 v2 a3 I (fun v3 => (if v3 = a1 then (fn_Ref_isIn_4 n a0 a1 1 (a3 + 1) I) else (fn_Ref_isIn_4 n a0 a1 0 (a3 + 1) I)))) else (fn_Ref_isIn_4 n a0 a1 1 (a3 + 1) I))))
set_option maxRecDepth 10000 in
theorem sn_Ref_isIn_4 (n : Nat) : ∀ (a0 : Nat) (a1 : Int32) (a2 : Int32) (a3 : Int32) (I : fm_I) (L : Nat → Option am_V), L 0 = some (vR a0) → L 1 = some (vI a1) → L 2 = some (vI a2) → L 3 = some (vI a3) → gW c_Ref_isIn (fn_Ref_isIn_4 n a0 a1 a2 a3 I) 4 L [] I := by
  induction n with
  | zero =>
    intro a0 a1 a2 a3 I L h0 h1 h2 h3
    unfold fn_Ref_isIn_4
    exact g_none
  | succ n ih =>
    intro a0 a1 a2 a3 I L h0 h1 h2 h3
    unfold fn_Ref_isIn_4
    refine g_iload_n (pc := 4) (x := a3) d_Ref_isIn_4 rfl h3 ?_
    refine g_aload_n (pc := 5) (x := a0) d_Ref_isIn_5 rfl h0 ?_
    refine g_gi (pc := 6) d_Ref_isIn_6 fk_Ref_116 (fun v1 => ?_)
    refine g_icmpge (pc := 9) (tgt := 38) d_Ref_isIn_9 rfl ?_ ?_
    · refine g_iload_n (pc := 38) (x := a2) d_Ref_isIn_38 rfl h2 ?_
      exact g_zret (pc := 39) d_Ref_isIn_39 rfl (Nat.le_refl _) (Nat.le_refl _)
    refine g_iload_n (pc := 12) (x := a2) d_Ref_isIn_12 rfl h2 ?_
    refine g_ifne (pc := 13) (tgt := 26) d_Ref_isIn_13 rfl ?_ ?_
    · refine g_iconst (pc := 26) (x := 1) d_Ref_isIn_26 (by decide) ?_
      refine g_goto (pc := 27) (tgt := 31) d_Ref_isIn_27 rfl ?_
      refine g_istore_n (pc := 31) (x := 1) d_Ref_isIn_31 rfl (Nat.le_of_ble_eq_true rfl) ?_
      refine g_iinc (pc := 32) (x := a3) (w := 1) d_Ref_isIn_32 h3 (by decide) (Nat.le_of_ble_eq_true rfl) ?_
      refine g_goto (pc := 35) (tgt := 4) d_Ref_isIn_35 rfl ?_
      exact ih _ _ _ _ _ _ h0 h1 rfl rfl
    refine g_aload_n (pc := 16) (x := a0) d_Ref_isIn_16 rfl h0 ?_
    refine g_gr (pc := 17) d_Ref_isIn_17 fk_Ref_39 (fun v2 => ?_)
    refine g_iload_n (pc := 20) (x := a3) d_Ref_isIn_20 rfl h3 ?_
    refine g_ldI (pc := 21) d_Ref_isIn_21 (fun v3 => ?_)
    refine g_iload_n (pc := 22) (x := a1) d_Ref_isIn_22 rfl h1 ?_
    refine g_icmpne (pc := 23) (tgt := 30) d_Ref_isIn_23 rfl ?_ ?_
    · refine g_iconst (pc := 30) (x := 0) d_Ref_isIn_30 (by decide) ?_
      refine g_istore_n (pc := 31) (x := 0) d_Ref_isIn_31 rfl (Nat.le_of_ble_eq_true rfl) ?_
      refine g_iinc (pc := 32) (x := a3) (w := 1) d_Ref_isIn_32 h3 (by decide) (Nat.le_of_ble_eq_true rfl) ?_
      refine g_goto (pc := 35) (tgt := 4) d_Ref_isIn_35 rfl ?_
      exact ih _ _ _ _ _ _ h0 h1 rfl rfl
    refine g_iconst (pc := 26) (x := 1) d_Ref_isIn_26 (by decide) ?_
    refine g_goto (pc := 27) (tgt := 31) d_Ref_isIn_27 rfl ?_
    refine g_istore_n (pc := 31) (x := 1) d_Ref_isIn_31 rfl (Nat.le_of_ble_eq_true rfl) ?_
    refine g_iinc (pc := 32) (x := a3) (w := 1) d_Ref_isIn_32 h3 (by decide) (Nat.le_of_ble_eq_true rfl) ?_
    refine g_goto (pc := 35) (tgt := 4) d_Ref_isIn_35 rfl ?_
    exact ih _ _ _ _ _ _ h0 h1 rfl rfl
def fn_Ref_isIn (a0 : Nat) (a1 : Int32) (I : fm_I) : pR := (fn_Ref_isIn_4 FU a0 a1 0 0 I)
set_option maxRecDepth 10000 in
theorem sn_Ref_isIn (a0 : Nat) (a1 : Int32) (I : fm_I) : gM m_Ref_isIn 0 (fn_Ref_isIn a0 a1 I) [vR a0, vI a1] I := by
  refine gM_of (by decide) rfl (Nat.le_of_ble_eq_true rfl) ?_
  show gW c_Ref_isIn _ _ _ _ _
  unfold fn_Ref_isIn
  refine g_iconst (pc := 0) (x := 0) d_Ref_isIn_0 (by decide) ?_
  refine g_istore_n (pc := 1) (x := 0) d_Ref_isIn_1 rfl (Nat.le_of_ble_eq_true rfl) ?_
  refine g_iconst (pc := 2) (x := 0) d_Ref_isIn_2 (by decide) ?_
  refine g_istore_n (pc := 3) (x := 0) d_Ref_isIn_3 rfl (Nat.le_of_ble_eq_true rfl) ?_
  exact sn_Ref_isIn_4 FU _ _ _ _ _ _ rfl rfl rfl rfl
abbrev c_Ref_exporters : gC := (m_Ref_exporters, 2, 0, 0, none, 0, 0)
def fn_Ref_exporters_4 : Nat → Nat → Int32 → Int32 → Int32 → fm_I → pR
  | 0, _, _, _, _, _ => none
  | n + 1, a0, a1, a2, a3, I => gi 6 a0 11 I (fun v1 => (if v1 ≤ a3 then (ri a2 I) else gr 6 a0 12 (fun v2 => ld 0 v2 a3 I (fun v3 => vi 6 a0 (fn_Ref_exports a0 v3 a1 I) (fun v5 J4 => (if v5 = 0 then (fn_Ref_exporters_4 n a0 a1 a2 (a3 + 1) J4) else (fn_Ref_exporters_4 n a0 a1 (a2 + 1) (a3 + 1) J4)))))))
set_option maxRecDepth 10000 in
theorem sn_Ref_exporters_4 (n : Nat) : ∀ (a0 : Nat) (a1 : Int32) (a2 : Int32) (a3 : Int32) (I : fm_I) (L : Nat → Option am_V), L 0 = some (vR a0) → L 1 = some (vI a1) → L 2 = some (vI a2) → L 3 = some (vI a3) → gW c_Ref_exporters (fn_Ref_exporters_4 n a0 a1 a2 a3 I) 4 L [] I := by
  induction n with
  | zero =>
    intro a0 a1 a2 a3 I L h0 h1 h2 h3
    unfold fn_Ref_exporters_4
    exact g_none
  | succ n ih =>
    intro a0 a1 a2 a3 I L h0 h1 h2 h3
    unfold fn_Ref_exporters_4
    refine g_iload_n (pc := 4) (x := a3) d_Ref_exporters_4 rfl h3 ?_
    refine g_aload_n (pc := 5) (x := a0) d_Ref_exporters_5 rfl h0 ?_
    refine g_gi (pc := 6) d_Ref_exporters_6 fk_Ref_116 (fun v1 => ?_)
    refine g_icmpge (pc := 9) (tgt := 40) d_Ref_exporters_9 rfl ?_ ?_
    · refine g_iload_n (pc := 40) (x := a2) d_Ref_exporters_40 rfl h2 ?_
      exact g_iret (pc := 41) d_Ref_exporters_41 rfl (Nat.le_refl _) (Nat.le_refl _)
    refine g_aload_n (pc := 12) (x := a0) d_Ref_exporters_12 rfl h0 ?_
    refine g_aload_n (pc := 13) (x := a0) d_Ref_exporters_13 rfl h0 ?_
    refine g_gr (pc := 14) d_Ref_exporters_14 fk_Ref_39 (fun v2 => ?_)
    refine g_iload_n (pc := 17) (x := a3) d_Ref_exporters_17 rfl h3 ?_
    refine g_ldI (pc := 18) d_Ref_exporters_18 (fun v3 => ?_)
    refine g_iload_n (pc := 19) (x := a1) d_Ref_exporters_19 rfl h1 ?_
    refine g_vi (pc := 20) (rest := []) (sn_Ref_exports a0 v3 a1 I) rfl rfl d_Ref_exporters_20 ck_Ref_119 (Nat.le_of_ble_eq_true rfl) (Nat.le_of_ble_eq_true rfl) (Nat.le_refl _) (Nat.le_refl _) (fun v5 J4 => ?_)
    refine g_ifeq (pc := 23) (tgt := 32) d_Ref_exporters_23 rfl ?_ ?_
    · refine g_iload_n (pc := 32) (x := a2) d_Ref_exporters_32 rfl h2 ?_
      refine g_istore_n (pc := 33) (x := a2) d_Ref_exporters_33 rfl (Nat.le_of_ble_eq_true rfl) ?_
      refine g_iinc (pc := 34) (x := a3) (w := 1) d_Ref_exporters_34 h3 (by decide) (Nat.le_of_ble_eq_true rfl) ?_
      refine g_goto (pc := 37) (tgt := 4) d_Ref_exporters_37 rfl ?_
      exact ih _ _ _ _ _ _ h0 h1 rfl rfl
    refine g_iload_n (pc := 26) (x := a2) d_Ref_exporters_26 rfl h2 ?_
    refine g_iconst (pc := 27) (x := 1) d_Ref_exporters_27 (by decide) ?_
    refine g_iadd (pc := 28) d_Ref_exporters_28 ?_
    refine g_goto (pc := 29) (tgt := 33) d_Ref_exporters_29 rfl ?_
    refine g_istore_n (pc := 33) (x := (a2 + 1)) d_Ref_exporters_33 rfl (Nat.le_of_ble_eq_true rfl) ?_
    refine g_iinc (pc := 34) (x := a3) (w := 1) d_Ref_exporters_34 h3 (by decide) (Nat.le_of_ble_eq_true rfl) ?_
    refine g_goto (pc := 37) (tgt := 4) d_Ref_exporters_37 rfl ?_
    exact ih _ _ _ _ _ _ h0 h1 rfl rfl
def fn_Ref_exporters (a0 : Nat) (a1 : Int32) (I : fm_I) : pR := (fn_Ref_exporters_4 FU a0 a1 0 0 I)
set_option maxRecDepth 10000 in
theorem sn_Ref_exporters (a0 : Nat) (a1 : Int32) (I : fm_I) : gM m_Ref_exporters 2 (fn_Ref_exporters a0 a1 I) [vR a0, vI a1] I := by
  refine gM_of (by decide) rfl (Nat.le_of_ble_eq_true rfl) ?_
  show gW c_Ref_exporters _ _ _ _ _
  unfold fn_Ref_exporters
  refine g_iconst (pc := 0) (x := 0) d_Ref_exporters_0 (by decide) ?_
  refine g_istore_n (pc := 1) (x := 0) d_Ref_exporters_1 rfl (Nat.le_of_ble_eq_true rfl) ?_
  refine g_iconst (pc := 2) (x := 0) d_Ref_exporters_2 (by decide) ?_
  refine g_istore_n (pc := 3) (x := 0) d_Ref_exporters_3 rfl (Nat.le_of_ble_eq_true rfl) ?_
  exact sn_Ref_exporters_4 FU _ _ _ _ _ _ rfl rfl rfl rfl
abbrev c_Ref_largest : gC := (m_Ref_largest, 1, 0, 0, none, 0, 0)
def fn_Ref_largest_4 : Nat → Nat → Int32 → Int32 → Int32 → fm_I → pR
  | 0, _, _, _, _, _ => none
  | n + 1, a0, a1, a2, a3, I => gi 6 a0 11 I (fun v1 => (if v1 ≤ a3 then (ri a2 I) else gr 6 a0 12 (fun v2 => ld 0 v2 a3 I (fun v3 => vi 6 a0 (fn_Ref_common a0 v3 a1 I) (fun v5 J4 => (if v5 ≤ a2 then (fn_Ref_largest_4 n a0 a1 a2 (a3 + 1) J4) else (fn_Ref_largest_4 n a0 a1 v5 (a3 + 1) J4)))))))
set_option maxRecDepth 10000 in
theorem sn_Ref_largest_4 (n : Nat) : ∀ (a0 : Nat) (a1 : Int32) (a2 : Int32) (a3 : Int32) (I : fm_I) (L : Nat → Option am_V), L 0 = some (vR a0) → L 1 = some (vI a1) → L 2 = some (vI a2) → L 3 = some (vI a3) → gW c_Ref_largest (fn_Ref_largest_4 n a0 a1 a2 a3 I) 4 L [] I := by
  induction n with
  | zero =>
    intro a0 a1 a2 a3 I L h0 h1 h2 h3
    unfold fn_Ref_largest_4
    exact g_none
  | succ n ih =>
    intro a0 a1 a2 a3 I L h0 h1 h2 h3
    unfold fn_Ref_largest_4
    refine g_iload_n (pc := 4) (x := a3) d_Ref_largest_4 rfl h3 ?_
    refine g_aload_n (pc := 5) (x := a0) d_Ref_largest_5 rfl h0 ?_
    refine g_gi (pc := 6) d_Ref_largest_6 fk_Ref_116 (fun v1 => ?_)
    refine g_icmpge (pc := 9) (tgt := 44) d_Ref_largest_9 rfl ?_ ?_
    · refine g_iload_n (pc := 44) (x := a2) d_Ref_largest_44 rfl h2 ?_
      exact g_iret (pc := 45) d_Ref_largest_45 rfl (Nat.le_refl _) (Nat.le_refl _)
    refine g_aload_n (pc := 12) (x := a0) d_Ref_largest_12 rfl h0 ?_
    refine g_aload_n (pc := 13) (x := a0) d_Ref_largest_13 rfl h0 ?_
    refine g_gr (pc := 14) d_Ref_largest_14 fk_Ref_39 (fun v2 => ?_)
    refine g_iload_n (pc := 17) (x := a3) d_Ref_largest_17 rfl h3 ?_
    refine g_ldI (pc := 18) d_Ref_largest_18 (fun v3 => ?_)
    refine g_iload_n (pc := 19) (x := a1) d_Ref_largest_19 rfl h1 ?_
    refine g_vi (pc := 20) (rest := []) (sn_Ref_common a0 v3 a1 I) rfl rfl d_Ref_largest_20 ck_Ref_73 (Nat.le_of_ble_eq_true rfl) (Nat.le_of_ble_eq_true rfl) (Nat.le_refl _) (Nat.le_refl _) (fun v5 J4 => ?_)
    refine g_istore (pc := 23) (x := v5) d_Ref_largest_23 (Nat.le_of_ble_eq_true rfl) ?_
    refine g_iload (pc := 25) (x := v5) d_Ref_largest_25 rfl ?_
    refine g_iload_n (pc := 27) (x := a2) d_Ref_largest_27 rfl h2 ?_
    refine g_icmple (pc := 28) (tgt := 36) d_Ref_largest_28 rfl ?_ ?_
    · refine g_iload_n (pc := 36) (x := a2) d_Ref_largest_36 rfl h2 ?_
      refine g_istore_n (pc := 37) (x := a2) d_Ref_largest_37 rfl (Nat.le_of_ble_eq_true rfl) ?_
      refine g_iinc (pc := 38) (x := a3) (w := 1) d_Ref_largest_38 h3 (by decide) (Nat.le_of_ble_eq_true rfl) ?_
      refine g_goto (pc := 41) (tgt := 4) d_Ref_largest_41 rfl ?_
      exact ih _ _ _ _ _ _ h0 h1 rfl rfl
    refine g_iload (pc := 31) (x := v5) d_Ref_largest_31 rfl ?_
    refine g_goto (pc := 33) (tgt := 37) d_Ref_largest_33 rfl ?_
    refine g_istore_n (pc := 37) (x := v5) d_Ref_largest_37 rfl (Nat.le_of_ble_eq_true rfl) ?_
    refine g_iinc (pc := 38) (x := a3) (w := 1) d_Ref_largest_38 h3 (by decide) (Nat.le_of_ble_eq_true rfl) ?_
    refine g_goto (pc := 41) (tgt := 4) d_Ref_largest_41 rfl ?_
    exact ih _ _ _ _ _ _ h0 h1 rfl rfl
def fn_Ref_largest (a0 : Nat) (a1 : Int32) (I : fm_I) : pR := (fn_Ref_largest_4 FU a0 a1 0 0 I)
set_option maxRecDepth 10000 in
theorem sn_Ref_largest (a0 : Nat) (a1 : Int32) (I : fm_I) : gM m_Ref_largest 1 (fn_Ref_largest a0 a1 I) [vR a0, vI a1] I := by
  refine gM_of (by decide) rfl (Nat.le_of_ble_eq_true rfl) ?_
  show gW c_Ref_largest _ _ _ _ _
  unfold fn_Ref_largest
  refine g_iconst (pc := 0) (x := 0) d_Ref_largest_0 (by decide) ?_
  refine g_istore_n (pc := 1) (x := 0) d_Ref_largest_1 rfl (Nat.le_of_ble_eq_true rfl) ?_
  refine g_iconst (pc := 2) (x := 0) d_Ref_largest_2 (by decide) ?_
  refine g_istore_n (pc := 3) (x := 0) d_Ref_largest_3 rfl (Nat.le_of_ble_eq_true rfl) ?_
  exact sn_Ref_largest_4 FU _ _ _ _ _ _ rfl rfl rfl rfl
abbrev c_Ref_wanted : gC := (m_Ref_wanted, 3, 0, 0, none, 0, 0)
def fn_Ref_wanted_16 : Nat → Nat → Int32 → Int32 → Int32 → fm_I → pR
  | 0, _, _, _, _, _ => none
  | n + 1, a0, a1, a2, a3, I => gi 6 a0 11 I (fun v1 => (if v1 ≤ a3 then (if a2 = 0 then (rz 0 I) else vi 6 a0 (fn_Ref_exporters a0 a1 I) (fun v3 J2 => (if v3 = 0 then vi 6 a0 (fn_Ref_largest a0 a1 J2) (fun v5 J4 => (if v5 = 0 then (rz 1 J4) else (rz 0 J4))) else (rz 0 J2)))) else (if a2 = 0 then gr 6 a0 12 (fun v6 => ld 0 v6 a3 I (fun v7 => vi 6 a0 (fn_Ref_refers a0 v7 a1 I) (fun v9 J8 => (if v9 = 0 then (fn_Ref_wanted_16 n a0 a1 0 (a3 + 1) J8) else (fn_Ref_wanted_16 n a0 a1 1 (a3 + 1) J8))))) else (fn_Ref_wanted_16 n a0 a1 1 (a3 + 1) I))))
set_option maxRecDepth 10000 in
theorem sn_Ref_wanted_16 (n : Nat) : ∀ (a0 : Nat) (a1 : Int32) (a2 : Int32) (a3 : Int32) (I : fm_I) (L : Nat → Option am_V), L 0 = some (vR a0) → L 1 = some (vI a1) → L 2 = some (vI a2) → L 3 = some (vI a3) → gW c_Ref_wanted (fn_Ref_wanted_16 n a0 a1 a2 a3 I) 16 L [] I := by
  induction n with
  | zero =>
    intro a0 a1 a2 a3 I L h0 h1 h2 h3
    unfold fn_Ref_wanted_16
    exact g_none
  | succ n ih =>
    intro a0 a1 a2 a3 I L h0 h1 h2 h3
    unfold fn_Ref_wanted_16
    refine g_iload_n (pc := 16) (x := a3) d_Ref_wanted_16 rfl h3 ?_
    refine g_aload_n (pc := 17) (x := a0) d_Ref_wanted_17 rfl h0 ?_
    refine g_gi (pc := 18) d_Ref_wanted_18 fk_Ref_116 (fun v1 => ?_)
    refine g_icmpge (pc := 21) (tgt := 54) d_Ref_wanted_21 rfl ?_ ?_
    · refine g_iload_n (pc := 54) (x := a2) d_Ref_wanted_54 rfl h2 ?_
      refine g_ifeq (pc := 55) (tgt := 78) d_Ref_wanted_55 rfl ?_ ?_
      · refine g_iconst (pc := 78) (x := 0) d_Ref_wanted_78 (by decide) ?_
        exact g_zret (pc := 79) d_Ref_wanted_79 rfl (Nat.le_refl _) (Nat.le_refl _)
      refine g_aload_n (pc := 58) (x := a0) d_Ref_wanted_58 rfl h0 ?_
      refine g_iload_n (pc := 59) (x := a1) d_Ref_wanted_59 rfl h1 ?_
      refine g_vi (pc := 60) (rest := []) (sn_Ref_exporters a0 a1 I) rfl rfl d_Ref_wanted_60 ck_Ref_125 (Nat.le_of_ble_eq_true rfl) (Nat.le_of_ble_eq_true rfl) (Nat.le_refl _) (Nat.le_refl _) (fun v3 J2 => ?_)
      refine g_ifne (pc := 63) (tgt := 78) d_Ref_wanted_63 rfl ?_ ?_
      · refine g_iconst (pc := 78) (x := 0) d_Ref_wanted_78 (by decide) ?_
        exact g_zret (pc := 79) d_Ref_wanted_79 rfl (Nat.le_refl _) (Nat.le_refl _)
      refine g_aload_n (pc := 66) (x := a0) d_Ref_wanted_66 rfl h0 ?_
      refine g_iload_n (pc := 67) (x := a1) d_Ref_wanted_67 rfl h1 ?_
      refine g_vi (pc := 68) (rest := []) (sn_Ref_largest a0 a1 J2) rfl rfl d_Ref_wanted_68 ck_Ref_128 (Nat.le_of_ble_eq_true rfl) (Nat.le_of_ble_eq_true rfl) (Nat.le_refl _) (Nat.le_refl _) (fun v5 J4 => ?_)
      refine g_ifne (pc := 71) (tgt := 78) d_Ref_wanted_71 rfl ?_ ?_
      · refine g_iconst (pc := 78) (x := 0) d_Ref_wanted_78 (by decide) ?_
        exact g_zret (pc := 79) d_Ref_wanted_79 rfl (Nat.le_refl _) (Nat.le_refl _)
      refine g_iconst (pc := 74) (x := 1) d_Ref_wanted_74 (by decide) ?_
      refine g_goto (pc := 75) (tgt := 79) d_Ref_wanted_75 rfl ?_
      exact g_zret (pc := 79) d_Ref_wanted_79 rfl (Nat.le_refl _) (Nat.le_refl _)
    refine g_iload_n (pc := 24) (x := a2) d_Ref_wanted_24 rfl h2 ?_
    refine g_ifne (pc := 25) (tgt := 42) d_Ref_wanted_25 rfl ?_ ?_
    · refine g_iconst (pc := 42) (x := 1) d_Ref_wanted_42 (by decide) ?_
      refine g_goto (pc := 43) (tgt := 47) d_Ref_wanted_43 rfl ?_
      refine g_istore_n (pc := 47) (x := 1) d_Ref_wanted_47 rfl (Nat.le_of_ble_eq_true rfl) ?_
      refine g_iinc (pc := 48) (x := a3) (w := 1) d_Ref_wanted_48 h3 (by decide) (Nat.le_of_ble_eq_true rfl) ?_
      refine g_goto (pc := 51) (tgt := 16) d_Ref_wanted_51 rfl ?_
      exact ih _ _ _ _ _ _ h0 h1 rfl rfl
    refine g_aload_n (pc := 28) (x := a0) d_Ref_wanted_28 rfl h0 ?_
    refine g_aload_n (pc := 29) (x := a0) d_Ref_wanted_29 rfl h0 ?_
    refine g_gr (pc := 30) d_Ref_wanted_30 fk_Ref_39 (fun v6 => ?_)
    refine g_iload_n (pc := 33) (x := a3) d_Ref_wanted_33 rfl h3 ?_
    refine g_ldI (pc := 34) d_Ref_wanted_34 (fun v7 => ?_)
    refine g_iload_n (pc := 35) (x := a1) d_Ref_wanted_35 rfl h1 ?_
    refine g_vi (pc := 36) (rest := []) (sn_Ref_refers a0 v7 a1 I) rfl rfl d_Ref_wanted_36 ck_Ref_122 (Nat.le_of_ble_eq_true rfl) (Nat.le_of_ble_eq_true rfl) (Nat.le_refl _) (Nat.le_refl _) (fun v9 J8 => ?_)
    refine g_ifeq (pc := 39) (tgt := 46) d_Ref_wanted_39 rfl ?_ ?_
    · refine g_iconst (pc := 46) (x := 0) d_Ref_wanted_46 (by decide) ?_
      refine g_istore_n (pc := 47) (x := 0) d_Ref_wanted_47 rfl (Nat.le_of_ble_eq_true rfl) ?_
      refine g_iinc (pc := 48) (x := a3) (w := 1) d_Ref_wanted_48 h3 (by decide) (Nat.le_of_ble_eq_true rfl) ?_
      refine g_goto (pc := 51) (tgt := 16) d_Ref_wanted_51 rfl ?_
      exact ih _ _ _ _ _ _ h0 h1 rfl rfl
    refine g_iconst (pc := 42) (x := 1) d_Ref_wanted_42 (by decide) ?_
    refine g_goto (pc := 43) (tgt := 47) d_Ref_wanted_43 rfl ?_
    refine g_istore_n (pc := 47) (x := 1) d_Ref_wanted_47 rfl (Nat.le_of_ble_eq_true rfl) ?_
    refine g_iinc (pc := 48) (x := a3) (w := 1) d_Ref_wanted_48 h3 (by decide) (Nat.le_of_ble_eq_true rfl) ?_
    refine g_goto (pc := 51) (tgt := 16) d_Ref_wanted_51 rfl ?_
    exact ih _ _ _ _ _ _ h0 h1 rfl rfl
def fn_Ref_wanted (a0 : Nat) (a1 : Int32) (I : fm_I) : pR := gi 6 a0 10 I (fun v1 => (if v1 = a1 then (fn_Ref_wanted_16 FU a0 a1 1 0 I) else (fn_Ref_wanted_16 FU a0 a1 0 0 I)))
set_option maxRecDepth 10000 in
theorem sn_Ref_wanted (a0 : Nat) (a1 : Int32) (I : fm_I) : gM m_Ref_wanted 3 (fn_Ref_wanted a0 a1 I) [vR a0, vI a1] I := by
  refine gM_of (by decide) rfl (Nat.le_of_ble_eq_true rfl) ?_
  show gW c_Ref_wanted _ _ _ _ _
  unfold fn_Ref_wanted
  refine g_aload_n (pc := 0) (x := a0) d_Ref_wanted_0 rfl rfl ?_
  refine g_gi (pc := 1) d_Ref_wanted_1 fk_Ref_35 (fun v1 => ?_)
  refine g_iload_n (pc := 4) (x := a1) d_Ref_wanted_4 rfl rfl ?_
  refine g_icmpne (pc := 5) (tgt := 12) d_Ref_wanted_5 rfl ?_ ?_
  · refine g_iconst (pc := 12) (x := 0) d_Ref_wanted_12 (by decide) ?_
    refine g_istore_n (pc := 13) (x := 0) d_Ref_wanted_13 rfl (Nat.le_of_ble_eq_true rfl) ?_
    refine g_iconst (pc := 14) (x := 0) d_Ref_wanted_14 (by decide) ?_
    refine g_istore_n (pc := 15) (x := 0) d_Ref_wanted_15 rfl (Nat.le_of_ble_eq_true rfl) ?_
    exact sn_Ref_wanted_16 FU _ _ _ _ _ _ rfl rfl rfl rfl
  refine g_iconst (pc := 8) (x := 1) d_Ref_wanted_8 (by decide) ?_
  refine g_goto (pc := 9) (tgt := 13) d_Ref_wanted_9 rfl ?_
  refine g_istore_n (pc := 13) (x := 1) d_Ref_wanted_13 rfl (Nat.le_of_ble_eq_true rfl) ?_
  refine g_iconst (pc := 14) (x := 0) d_Ref_wanted_14 (by decide) ?_
  refine g_istore_n (pc := 15) (x := 0) d_Ref_wanted_15 rfl (Nat.le_of_ble_eq_true rfl) ?_
  exact sn_Ref_wanted_16 FU _ _ _ _ _ _ rfl rfl rfl rfl
abbrev c_Ref_include : gC := (m_Ref_include, 0, 0, 0, none, 0, 0)
def fn_Ref_include (a0 : Nat) (a1 : Int32) (I : fm_I) : pR := gr 6 a0 12 (fun v1 => gi 6 a0 11 I (fun v2 => sI v1 v2 a1 I (fun J3 => gi 6 a0 11 J3 (fun v4 => pI 6 a0 11 (v4 + 1) J3 (fun J5 => (rv J5))))))
set_option maxRecDepth 10000 in
theorem sn_Ref_include (a0 : Nat) (a1 : Int32) (I : fm_I) : gM m_Ref_include 0 (fn_Ref_include a0 a1 I) [vR a0, vI a1] I := by
  refine gM_of (by decide) rfl (Nat.le_of_ble_eq_true rfl) ?_
  show gW c_Ref_include _ _ _ _ _
  unfold fn_Ref_include
  refine g_aload_n (pc := 0) (x := a0) d_Ref_include_0 rfl rfl ?_
  refine g_gr (pc := 1) d_Ref_include_1 fk_Ref_39 (fun v1 => ?_)
  refine g_aload_n (pc := 4) (x := a0) d_Ref_include_4 rfl rfl ?_
  refine g_gi (pc := 5) d_Ref_include_5 fk_Ref_116 (fun v2 => ?_)
  refine g_iload_n (pc := 8) (x := a1) d_Ref_include_8 rfl rfl ?_
  refine g_sI (pc := 9) d_Ref_include_9 (fun J3 => ?_)
  refine g_aload_n (pc := 10) (x := a0) d_Ref_include_10 rfl rfl ?_
  refine g_dup (pc := 11) d_Ref_include_11 ?_
  refine g_gi (pc := 12) d_Ref_include_12 fk_Ref_116 (fun v4 => ?_)
  refine g_iconst (pc := 15) (x := 1) d_Ref_include_15 (by decide) ?_
  refine g_iadd (pc := 16) d_Ref_include_16 ?_
  refine g_pI (pc := 17) d_Ref_include_17 fp_Ref_116 (fun J5 => ?_)
  exact g_ret (pc := 20) d_Ref_include_20 rfl (Nat.le_refl _) (Nat.le_refl _)
abbrev c_Ref_helps : gC := (m_Ref_helps, 4, 0, 0, none, 0, 0)
def fn_Ref_helps_4 : Nat → Nat → Int32 → Int32 → Int32 → fm_I → pR
  | 0, _, _, _, _, _ => none
  | n + 1, a0, a1, a2, a3, I => (if 16 ≤ a3 then (rz a2 I) else (if a2 = 0 then vi 6 a0 (fn_Ref_exports a0 a1 a3 I) (fun v2 J1 => (if v2 = 0 then (fn_Ref_helps_4 n a0 a1 0 (a3 + 1) J1) else vi 6 a0 (fn_Ref_wanted a0 a3 J1) (fun v4 J3 => (if v4 = 0 then (fn_Ref_helps_4 n a0 a1 0 (a3 + 1) J3) else (fn_Ref_helps_4 n a0 a1 1 (a3 + 1) J3))))) else (fn_Ref_helps_4 n a0 a1 1 (a3 + 1) I)))
set_option maxRecDepth 10000 in
theorem sn_Ref_helps_4 (n : Nat) : ∀ (a0 : Nat) (a1 : Int32) (a2 : Int32) (a3 : Int32) (I : fm_I) (L : Nat → Option am_V), L 0 = some (vR a0) → L 1 = some (vI a1) → L 2 = some (vI a2) → L 3 = some (vI a3) → gW c_Ref_helps (fn_Ref_helps_4 n a0 a1 a2 a3 I) 4 L [] I := by
  induction n with
  | zero =>
    intro a0 a1 a2 a3 I L h0 h1 h2 h3
    unfold fn_Ref_helps_4
    exact g_none
  | succ n ih =>
    intro a0 a1 a2 a3 I L h0 h1 h2 h3
    unfold fn_Ref_helps_4
    refine g_iload_n (pc := 4) (x := a3) d_Ref_helps_4 rfl h3 ?_
    refine g_bipush (pc := 5) (x := 16) d_Ref_helps_5 (by decide) ?_
    refine g_icmpge (pc := 7) (tgt := 43) d_Ref_helps_7 rfl ?_ ?_
    · refine g_iload_n (pc := 43) (x := a2) d_Ref_helps_43 rfl h2 ?_
      exact g_zret (pc := 44) d_Ref_helps_44 rfl (Nat.le_refl _) (Nat.le_refl _)
    refine g_iload_n (pc := 10) (x := a2) d_Ref_helps_10 rfl h2 ?_
    refine g_ifne (pc := 11) (tgt := 31) d_Ref_helps_11 rfl ?_ ?_
    · refine g_iconst (pc := 31) (x := 1) d_Ref_helps_31 (by decide) ?_
      refine g_goto (pc := 32) (tgt := 36) d_Ref_helps_32 rfl ?_
      refine g_istore_n (pc := 36) (x := 1) d_Ref_helps_36 rfl (Nat.le_of_ble_eq_true rfl) ?_
      refine g_iinc (pc := 37) (x := a3) (w := 1) d_Ref_helps_37 h3 (by decide) (Nat.le_of_ble_eq_true rfl) ?_
      refine g_goto (pc := 40) (tgt := 4) d_Ref_helps_40 rfl ?_
      exact ih _ _ _ _ _ _ h0 h1 rfl rfl
    refine g_aload_n (pc := 14) (x := a0) d_Ref_helps_14 rfl h0 ?_
    refine g_iload_n (pc := 15) (x := a1) d_Ref_helps_15 rfl h1 ?_
    refine g_iload_n (pc := 16) (x := a3) d_Ref_helps_16 rfl h3 ?_
    refine g_vi (pc := 17) (rest := []) (sn_Ref_exports a0 a1 a3 I) rfl rfl d_Ref_helps_17 ck_Ref_119 (Nat.le_of_ble_eq_true rfl) (Nat.le_of_ble_eq_true rfl) (Nat.le_refl _) (Nat.le_refl _) (fun v2 J1 => ?_)
    refine g_ifeq (pc := 20) (tgt := 35) d_Ref_helps_20 rfl ?_ ?_
    · refine g_iconst (pc := 35) (x := 0) d_Ref_helps_35 (by decide) ?_
      refine g_istore_n (pc := 36) (x := 0) d_Ref_helps_36 rfl (Nat.le_of_ble_eq_true rfl) ?_
      refine g_iinc (pc := 37) (x := a3) (w := 1) d_Ref_helps_37 h3 (by decide) (Nat.le_of_ble_eq_true rfl) ?_
      refine g_goto (pc := 40) (tgt := 4) d_Ref_helps_40 rfl ?_
      exact ih _ _ _ _ _ _ h0 h1 rfl rfl
    refine g_aload_n (pc := 23) (x := a0) d_Ref_helps_23 rfl h0 ?_
    refine g_iload_n (pc := 24) (x := a3) d_Ref_helps_24 rfl h3 ?_
    refine g_vi (pc := 25) (rest := []) (sn_Ref_wanted a0 a3 J1) rfl rfl d_Ref_helps_25 ck_Ref_131 (Nat.le_of_ble_eq_true rfl) (Nat.le_of_ble_eq_true rfl) (Nat.le_refl _) (Nat.le_refl _) (fun v4 J3 => ?_)
    refine g_ifeq (pc := 28) (tgt := 35) d_Ref_helps_28 rfl ?_ ?_
    · refine g_iconst (pc := 35) (x := 0) d_Ref_helps_35 (by decide) ?_
      refine g_istore_n (pc := 36) (x := 0) d_Ref_helps_36 rfl (Nat.le_of_ble_eq_true rfl) ?_
      refine g_iinc (pc := 37) (x := a3) (w := 1) d_Ref_helps_37 h3 (by decide) (Nat.le_of_ble_eq_true rfl) ?_
      refine g_goto (pc := 40) (tgt := 4) d_Ref_helps_40 rfl ?_
      exact ih _ _ _ _ _ _ h0 h1 rfl rfl
    refine g_iconst (pc := 31) (x := 1) d_Ref_helps_31 (by decide) ?_
    refine g_goto (pc := 32) (tgt := 36) d_Ref_helps_32 rfl ?_
    refine g_istore_n (pc := 36) (x := 1) d_Ref_helps_36 rfl (Nat.le_of_ble_eq_true rfl) ?_
    refine g_iinc (pc := 37) (x := a3) (w := 1) d_Ref_helps_37 h3 (by decide) (Nat.le_of_ble_eq_true rfl) ?_
    refine g_goto (pc := 40) (tgt := 4) d_Ref_helps_40 rfl ?_
    exact ih _ _ _ _ _ _ h0 h1 rfl rfl
def fn_Ref_helps (a0 : Nat) (a1 : Int32) (I : fm_I) : pR := (fn_Ref_helps_4 FU a0 a1 0 0 I)
set_option maxRecDepth 10000 in
theorem sn_Ref_helps (a0 : Nat) (a1 : Int32) (I : fm_I) : gM m_Ref_helps 4 (fn_Ref_helps a0 a1 I) [vR a0, vI a1] I := by
  refine gM_of (by decide) rfl (Nat.le_of_ble_eq_true rfl) ?_
  show gW c_Ref_helps _ _ _ _ _
  unfold fn_Ref_helps
  refine g_iconst (pc := 0) (x := 0) d_Ref_helps_0 (by decide) ?_
  refine g_istore_n (pc := 1) (x := 0) d_Ref_helps_1 rfl (Nat.le_of_ble_eq_true rfl) ?_
  refine g_iconst (pc := 2) (x := 0) d_Ref_helps_2 (by decide) ?_
  refine g_istore_n (pc := 3) (x := 0) d_Ref_helps_3 rfl (Nat.le_of_ble_eq_true rfl) ?_
  exact sn_Ref_helps_4 FU _ _ _ _ _ _ rfl rfl rfl rfl
abbrev c_Ref_goOver : gC := (m_Ref_goOver, 5, 0, 0, none, 0, 0)
def fn_Ref_goOver_18 (K4 : Nat → Int32 → Int32 → fm_I → pR) : Nat → Nat → Int32 → Int32 → Int32 → fm_I → pR
  | 0, _, _, _, _, _ => none
  | n + 1, a0, a1, a2, a3, I => gi 6 a0 6 I (fun v1 => (if v1 ≤ a3 then (K4 a0 a1 (a2 + 1) I) else gr 6 a0 7 (fun v2 => ld 0 v2 a3 I (fun v3 => vi 6 a0 (fn_Ref_isIn a0 v3 I) (fun v5 J4 => (if v5 = 0 then gr 6 a0 7 (fun v6 => ld 0 v6 a3 J4 (fun v7 => vi 6 a0 (fn_Ref_helps a0 v7 J4) (fun v9 J8 => (if v9 = 0 then (fn_Ref_goOver_18 K4 n a0 a1 a2 (a3 + 1) J8) else gr 6 a0 7 (fun v10 => ld 0 v10 a3 J8 (fun v11 => vv 6 a0 (fn_Ref_include a0 v11 J8) (fun J12 => (fn_Ref_goOver_18 K4 n a0 1 a2 (a3 + 1) J12)))))))) else (fn_Ref_goOver_18 K4 n a0 a1 a2 (a3 + 1) J4)))))))
set_option maxRecDepth 10000 in
theorem sn_Ref_goOver_18 (K4 : Nat → Int32 → Int32 → fm_I → pR) (hK4 : ∀ (a0 : Nat) (a1 : Int32) (a2 : Int32) (I : fm_I) (L : Nat → Option am_V), L 0 = some (vR a0) → L 1 = some (vI a1) → L 2 = some (vI a2) → gW c_Ref_goOver (K4 a0 a1 a2 I) 4 L [] I) (n : Nat) : ∀ (a0 : Nat) (a1 : Int32) (a2 : Int32) (a3 : Int32) (I : fm_I) (L : Nat → Option am_V), L 0 = some (vR a0) → L 1 = some (vI a1) → L 2 = some (vI a2) → L 3 = some (vI a3) → gW c_Ref_goOver (fn_Ref_goOver_18 K4 n a0 a1 a2 a3 I) 18 L [] I := by
  induction n with
  | zero =>
    intro a0 a1 a2 a3 I L h0 h1 h2 h3
    unfold fn_Ref_goOver_18
    exact g_none
  | succ n ih =>
    intro a0 a1 a2 a3 I L h0 h1 h2 h3
    unfold fn_Ref_goOver_18
    refine g_iload_n (pc := 18) (x := a3) d_Ref_goOver_18 rfl h3 ?_
    refine g_aload_n (pc := 19) (x := a0) d_Ref_goOver_19 rfl h0 ?_
    refine g_gi (pc := 20) d_Ref_goOver_20 fk_Ref_101 (fun v1 => ?_)
    refine g_icmpge (pc := 23) (tgt := 70) d_Ref_goOver_23 rfl ?_ ?_
    · refine g_iinc (pc := 70) (x := a2) (w := 1) d_Ref_goOver_70 h2 (by decide) (Nat.le_of_ble_eq_true rfl) ?_
      refine g_goto (pc := 73) (tgt := 4) d_Ref_goOver_73 rfl ?_
      exact hK4 _ _ _ _ _ h0 h1 rfl
    refine g_aload_n (pc := 26) (x := a0) d_Ref_goOver_26 rfl h0 ?_
    refine g_aload_n (pc := 27) (x := a0) d_Ref_goOver_27 rfl h0 ?_
    refine g_gr (pc := 28) d_Ref_goOver_28 fk_Ref_29 (fun v2 => ?_)
    refine g_iload_n (pc := 31) (x := a3) d_Ref_goOver_31 rfl h3 ?_
    refine g_ldI (pc := 32) d_Ref_goOver_32 (fun v3 => ?_)
    refine g_vi (pc := 33) (rest := []) (sn_Ref_isIn a0 v3 I) rfl rfl d_Ref_goOver_33 ck_Ref_134 (Nat.le_of_ble_eq_true rfl) (Nat.le_of_ble_eq_true rfl) (Nat.le_refl _) (Nat.le_refl _) (fun v5 J4 => ?_)
    refine g_ifne (pc := 36) (tgt := 64) d_Ref_goOver_36 rfl ?_ ?_
    · refine g_iinc (pc := 64) (x := a3) (w := 1) d_Ref_goOver_64 h3 (by decide) (Nat.le_of_ble_eq_true rfl) ?_
      refine g_goto (pc := 67) (tgt := 18) d_Ref_goOver_67 rfl ?_
      exact ih _ _ _ _ _ _ h0 h1 h2 rfl
    refine g_aload_n (pc := 39) (x := a0) d_Ref_goOver_39 rfl h0 ?_
    refine g_aload_n (pc := 40) (x := a0) d_Ref_goOver_40 rfl h0 ?_
    refine g_gr (pc := 41) d_Ref_goOver_41 fk_Ref_29 (fun v6 => ?_)
    refine g_iload_n (pc := 44) (x := a3) d_Ref_goOver_44 rfl h3 ?_
    refine g_ldI (pc := 45) d_Ref_goOver_45 (fun v7 => ?_)
    refine g_vi (pc := 46) (rest := []) (sn_Ref_helps a0 v7 J4) rfl rfl d_Ref_goOver_46 ck_Ref_137 (Nat.le_of_ble_eq_true rfl) (Nat.le_of_ble_eq_true rfl) (Nat.le_refl _) (Nat.le_refl _) (fun v9 J8 => ?_)
    refine g_ifeq (pc := 49) (tgt := 64) d_Ref_goOver_49 rfl ?_ ?_
    · refine g_iinc (pc := 64) (x := a3) (w := 1) d_Ref_goOver_64 h3 (by decide) (Nat.le_of_ble_eq_true rfl) ?_
      refine g_goto (pc := 67) (tgt := 18) d_Ref_goOver_67 rfl ?_
      exact ih _ _ _ _ _ _ h0 h1 h2 rfl
    refine g_aload_n (pc := 52) (x := a0) d_Ref_goOver_52 rfl h0 ?_
    refine g_aload_n (pc := 53) (x := a0) d_Ref_goOver_53 rfl h0 ?_
    refine g_gr (pc := 54) d_Ref_goOver_54 fk_Ref_29 (fun v10 => ?_)
    refine g_iload_n (pc := 57) (x := a3) d_Ref_goOver_57 rfl h3 ?_
    refine g_ldI (pc := 58) d_Ref_goOver_58 (fun v11 => ?_)
    refine g_vv (pc := 59) (rest := []) (sn_Ref_include a0 v11 J8) rfl rfl d_Ref_goOver_59 ck_Ref_140 (Nat.le_of_ble_eq_true rfl) (Nat.le_of_ble_eq_true rfl) (Nat.le_refl _) (Nat.le_refl _) (fun J12 => ?_)
    refine g_iconst (pc := 62) (x := 1) d_Ref_goOver_62 (by decide) ?_
    refine g_istore_n (pc := 63) (x := 1) d_Ref_goOver_63 rfl (Nat.le_of_ble_eq_true rfl) ?_
    refine g_iinc (pc := 64) (x := a3) (w := 1) d_Ref_goOver_64 h3 (by decide) (Nat.le_of_ble_eq_true rfl) ?_
    refine g_goto (pc := 67) (tgt := 18) d_Ref_goOver_67 rfl ?_
    exact ih _ _ _ _ _ _ h0 rfl h2 rfl
def fn_Ref_goOver_4 : Nat → Nat → Int32 → Int32 → fm_I → pR
  | 0, _, _, _, _ => none
  | n + 1, a0, a1, a2, I => (if 8 ≤ a2 then (rv I) else (if a1 = 0 then (rv I) else (fn_Ref_goOver_18 (fun a0 a1 a2 I => fn_Ref_goOver_4 n a0 a1 a2 I) FU a0 0 a2 0 I)))
set_option maxRecDepth 10000 in
theorem sn_Ref_goOver_4 (n : Nat) : ∀ (a0 : Nat) (a1 : Int32) (a2 : Int32) (I : fm_I) (L : Nat → Option am_V), L 0 = some (vR a0) → L 1 = some (vI a1) → L 2 = some (vI a2) → gW c_Ref_goOver (fn_Ref_goOver_4 n a0 a1 a2 I) 4 L [] I := by
  induction n with
  | zero =>
    intro a0 a1 a2 I L h0 h1 h2
    unfold fn_Ref_goOver_4
    exact g_none
  | succ n ih =>
    intro a0 a1 a2 I L h0 h1 h2
    unfold fn_Ref_goOver_4
    refine g_iload_n (pc := 4) (x := a2) d_Ref_goOver_4 rfl h2 ?_
    refine g_bipush (pc := 5) (x := 8) d_Ref_goOver_5 (by decide) ?_
    refine g_icmpge (pc := 7) (tgt := 76) d_Ref_goOver_7 rfl ?_ ?_
    · exact g_ret (pc := 76) d_Ref_goOver_76 rfl (Nat.le_refl _) (Nat.le_refl _)
    refine g_iload_n (pc := 10) (x := a1) d_Ref_goOver_10 rfl h1 ?_
    refine g_ifeq (pc := 11) (tgt := 76) d_Ref_goOver_11 rfl ?_ ?_
    · exact g_ret (pc := 76) d_Ref_goOver_76 rfl (Nat.le_refl _) (Nat.le_refl _)
    refine g_iconst (pc := 14) (x := 0) d_Ref_goOver_14 (by decide) ?_
    refine g_istore_n (pc := 15) (x := 0) d_Ref_goOver_15 rfl (Nat.le_of_ble_eq_true rfl) ?_
    refine g_iconst (pc := 16) (x := 0) d_Ref_goOver_16 (by decide) ?_
    refine g_istore_n (pc := 17) (x := 0) d_Ref_goOver_17 rfl (Nat.le_of_ble_eq_true rfl) ?_
    exact sn_Ref_goOver_18 _ ih FU _ _ _ _ _ _ h0 rfl h2 rfl
def fn_Ref_goOver (a0 : Nat) (I : fm_I) : pR := (fn_Ref_goOver_4 FU a0 1 0 I)
set_option maxRecDepth 10000 in
theorem sn_Ref_goOver (a0 : Nat) (I : fm_I) : gM m_Ref_goOver 5 (fn_Ref_goOver a0 I) [vR a0] I := by
  refine gM_of (by decide) rfl (Nat.le_of_ble_eq_true rfl) ?_
  show gW c_Ref_goOver _ _ _ _ _
  unfold fn_Ref_goOver
  refine g_iconst (pc := 0) (x := 1) d_Ref_goOver_0 (by decide) ?_
  refine g_istore_n (pc := 1) (x := 1) d_Ref_goOver_1 rfl (Nat.le_of_ble_eq_true rfl) ?_
  refine g_iconst (pc := 2) (x := 0) d_Ref_goOver_2 (by decide) ?_
  refine g_istore_n (pc := 3) (x := 0) d_Ref_goOver_3 rfl (Nat.le_of_ble_eq_true rfl) ?_
  exact sn_Ref_goOver_4 FU _ _ _ _ _ rfl rfl rfl
abbrev c_Ref_base : gC := (m_Ref_base, 3, 0, 0, none, 0, 0)
def fn_Ref_base_14 (K5 : Nat → Int32 → Int32 → Int32 → Int32 → fm_I → pR) : Nat → Nat → Int32 → Int32 → Int32 → Int32 → Int32 → fm_I → pR
  | 0, _, _, _, _, _, _, _ => none
  | n + 1, a0, a1, a2, a3, a4, a5, I => gi 6 a0 11 I (fun v1 => (if v1 ≤ a5 then (K5 a0 a1 a2 a3 (a4 + 1) I) else (if a4 = a2 then gr 6 a0 12 (fun v6 => ld 0 v6 a5 I (fun v7 => (if v7 = a1 then (ri a3 I) else gr 6 a0 12 (fun v8 => ld 0 v8 a5 I (fun v9 => vi 6 a0 (fn_Ref_length a0 v9 a4 I) (fun v11 J10 => (fn_Ref_base_14 K5 n a0 a1 a2 (a3 + v11) a4 (a5 + 1) J10))))))) else gr 6 a0 12 (fun v2 => ld 0 v2 a5 I (fun v3 => vi 6 a0 (fn_Ref_length a0 v3 a4 I) (fun v5 J4 => (fn_Ref_base_14 K5 n a0 a1 a2 (a3 + v5) a4 (a5 + 1) J4)))))))
set_option maxRecDepth 10000 in
theorem sn_Ref_base_14 (K5 : Nat → Int32 → Int32 → Int32 → Int32 → fm_I → pR) (hK5 : ∀ (a0 : Nat) (a1 : Int32) (a2 : Int32) (a3 : Int32) (a4 : Int32) (I : fm_I) (L : Nat → Option am_V), L 0 = some (vR a0) → L 1 = some (vI a1) → L 2 = some (vI a2) → L 3 = some (vI a3) → L 4 = some (vI a4) → gW c_Ref_base (K5 a0 a1 a2 a3 a4 I) 5 L [] I) (n : Nat) : ∀ (a0 : Nat) (a1 : Int32) (a2 : Int32) (a3 : Int32) (a4 : Int32) (a5 : Int32) (I : fm_I) (L : Nat → Option am_V), L 0 = some (vR a0) → L 1 = some (vI a1) → L 2 = some (vI a2) → L 3 = some (vI a3) → L 4 = some (vI a4) → L 5 = some (vI a5) → gW c_Ref_base (fn_Ref_base_14 K5 n a0 a1 a2 a3 a4 a5 I) 14 L [] I := by
  induction n with
  | zero =>
    intro a0 a1 a2 a3 a4 a5 I L h0 h1 h2 h3 h4 h5
    unfold fn_Ref_base_14
    exact g_none
  | succ n ih =>
    intro a0 a1 a2 a3 a4 a5 I L h0 h1 h2 h3 h4 h5
    unfold fn_Ref_base_14
    refine g_iload (pc := 14) (x := a5) d_Ref_base_14 h5 ?_
    refine g_aload_n (pc := 16) (x := a0) d_Ref_base_16 rfl h0 ?_
    refine g_gi (pc := 17) d_Ref_base_17 fk_Ref_116 (fun v1 => ?_)
    refine g_icmpge (pc := 20) (tgt := 64) d_Ref_base_20 rfl ?_ ?_
    · refine g_iinc (pc := 64) (x := a4) (w := 1) d_Ref_base_64 h4 (by decide) (Nat.le_of_ble_eq_true rfl) ?_
      refine g_goto (pc := 67) (tgt := 5) d_Ref_base_67 rfl ?_
      exact hK5 _ _ _ _ _ _ _ h0 h1 h2 h3 rfl
    refine g_iload (pc := 23) (x := a4) d_Ref_base_23 h4 ?_
    refine g_iload_n (pc := 25) (x := a2) d_Ref_base_25 rfl h2 ?_
    refine g_icmpne (pc := 26) (tgt := 42) d_Ref_base_26 rfl ?_ ?_
    · refine g_iload_n (pc := 42) (x := a3) d_Ref_base_42 rfl h3 ?_
      refine g_aload_n (pc := 43) (x := a0) d_Ref_base_43 rfl h0 ?_
      refine g_aload_n (pc := 44) (x := a0) d_Ref_base_44 rfl h0 ?_
      refine g_gr (pc := 45) d_Ref_base_45 fk_Ref_39 (fun v2 => ?_)
      refine g_iload (pc := 48) (x := a5) d_Ref_base_48 h5 ?_
      refine g_ldI (pc := 50) d_Ref_base_50 (fun v3 => ?_)
      refine g_iload (pc := 51) (x := a4) d_Ref_base_51 h4 ?_
      refine g_vi (pc := 53) (rest := [vI a3]) (sn_Ref_length a0 v3 a4 I) rfl rfl d_Ref_base_53 ck_Ref_143 (Nat.le_of_ble_eq_true rfl) (Nat.le_of_ble_eq_true rfl) (Nat.le_refl _) (Nat.le_refl _) (fun v5 J4 => ?_)
      refine g_iadd (pc := 56) d_Ref_base_56 ?_
      refine g_istore_n (pc := 57) (x := (a3 + v5)) d_Ref_base_57 rfl (Nat.le_of_ble_eq_true rfl) ?_
      refine g_iinc (pc := 58) (x := a5) (w := 1) d_Ref_base_58 h5 (by decide) (Nat.le_of_ble_eq_true rfl) ?_
      refine g_goto (pc := 61) (tgt := 14) d_Ref_base_61 rfl ?_
      exact ih _ _ _ _ _ _ _ _ h0 h1 h2 rfl h4 rfl
    refine g_aload_n (pc := 29) (x := a0) d_Ref_base_29 rfl h0 ?_
    refine g_gr (pc := 30) d_Ref_base_30 fk_Ref_39 (fun v6 => ?_)
    refine g_iload (pc := 33) (x := a5) d_Ref_base_33 h5 ?_
    refine g_ldI (pc := 35) d_Ref_base_35 (fun v7 => ?_)
    refine g_iload_n (pc := 36) (x := a1) d_Ref_base_36 rfl h1 ?_
    refine g_icmpne (pc := 37) (tgt := 42) d_Ref_base_37 rfl ?_ ?_
    · refine g_iload_n (pc := 42) (x := a3) d_Ref_base_42 rfl h3 ?_
      refine g_aload_n (pc := 43) (x := a0) d_Ref_base_43 rfl h0 ?_
      refine g_aload_n (pc := 44) (x := a0) d_Ref_base_44 rfl h0 ?_
      refine g_gr (pc := 45) d_Ref_base_45 fk_Ref_39 (fun v8 => ?_)
      refine g_iload (pc := 48) (x := a5) d_Ref_base_48 h5 ?_
      refine g_ldI (pc := 50) d_Ref_base_50 (fun v9 => ?_)
      refine g_iload (pc := 51) (x := a4) d_Ref_base_51 h4 ?_
      refine g_vi (pc := 53) (rest := [vI a3]) (sn_Ref_length a0 v9 a4 I) rfl rfl d_Ref_base_53 ck_Ref_143 (Nat.le_of_ble_eq_true rfl) (Nat.le_of_ble_eq_true rfl) (Nat.le_refl _) (Nat.le_refl _) (fun v11 J10 => ?_)
      refine g_iadd (pc := 56) d_Ref_base_56 ?_
      refine g_istore_n (pc := 57) (x := (a3 + v11)) d_Ref_base_57 rfl (Nat.le_of_ble_eq_true rfl) ?_
      refine g_iinc (pc := 58) (x := a5) (w := 1) d_Ref_base_58 h5 (by decide) (Nat.le_of_ble_eq_true rfl) ?_
      refine g_goto (pc := 61) (tgt := 14) d_Ref_base_61 rfl ?_
      exact ih _ _ _ _ _ _ _ _ h0 h1 h2 rfl h4 rfl
    refine g_iload_n (pc := 40) (x := a3) d_Ref_base_40 rfl h3 ?_
    exact g_iret (pc := 41) d_Ref_base_41 rfl (Nat.le_refl _) (Nat.le_refl _)
def fn_Ref_base_5 : Nat → Nat → Int32 → Int32 → Int32 → Int32 → fm_I → pR
  | 0, _, _, _, _, _, _ => none
  | n + 1, a0, a1, a2, a3, a4, I => (if a2 < a4 then (ri a3 I) else (fn_Ref_base_14 (fun a0 a1 a2 a3 a4 I => fn_Ref_base_5 n a0 a1 a2 a3 a4 I) FU a0 a1 a2 a3 a4 0 I))
set_option maxRecDepth 10000 in
theorem sn_Ref_base_5 (n : Nat) : ∀ (a0 : Nat) (a1 : Int32) (a2 : Int32) (a3 : Int32) (a4 : Int32) (I : fm_I) (L : Nat → Option am_V), L 0 = some (vR a0) → L 1 = some (vI a1) → L 2 = some (vI a2) → L 3 = some (vI a3) → L 4 = some (vI a4) → gW c_Ref_base (fn_Ref_base_5 n a0 a1 a2 a3 a4 I) 5 L [] I := by
  induction n with
  | zero =>
    intro a0 a1 a2 a3 a4 I L h0 h1 h2 h3 h4
    unfold fn_Ref_base_5
    exact g_none
  | succ n ih =>
    intro a0 a1 a2 a3 a4 I L h0 h1 h2 h3 h4
    unfold fn_Ref_base_5
    refine g_iload (pc := 5) (x := a4) d_Ref_base_5 h4 ?_
    refine g_iload_n (pc := 7) (x := a2) d_Ref_base_7 rfl h2 ?_
    refine g_icmpgt (pc := 8) (tgt := 70) d_Ref_base_8 rfl ?_ ?_
    · refine g_iload_n (pc := 70) (x := a3) d_Ref_base_70 rfl h3 ?_
      exact g_iret (pc := 71) d_Ref_base_71 rfl (Nat.le_refl _) (Nat.le_refl _)
    refine g_iconst (pc := 11) (x := 0) d_Ref_base_11 (by decide) ?_
    refine g_istore (pc := 12) (x := 0) d_Ref_base_12 (Nat.le_of_ble_eq_true rfl) ?_
    exact sn_Ref_base_14 _ ih FU _ _ _ _ _ _ _ _ h0 h1 h2 h3 h4 rfl
def fn_Ref_base (a0 : Nat) (a1 : Int32) (a2 : Int32) (I : fm_I) : pR := (fn_Ref_base_5 FU a0 a1 a2 0 0 I)
set_option maxRecDepth 10000 in
theorem sn_Ref_base (a0 : Nat) (a1 : Int32) (a2 : Int32) (I : fm_I) : gM m_Ref_base 3 (fn_Ref_base a0 a1 a2 I) [vR a0, vI a1, vI a2] I := by
  refine gM_of (by decide) rfl (Nat.le_of_ble_eq_true rfl) ?_
  show gW c_Ref_base _ _ _ _ _
  unfold fn_Ref_base
  refine g_iconst (pc := 0) (x := 0) d_Ref_base_0 (by decide) ?_
  refine g_istore_n (pc := 1) (x := 0) d_Ref_base_1 rfl (Nat.le_of_ble_eq_true rfl) ?_
  refine g_iconst (pc := 2) (x := 0) d_Ref_base_2 (by decide) ?_
  refine g_istore (pc := 3) (x := 0) d_Ref_base_3 (Nat.le_of_ble_eq_true rfl) ?_
  exact sn_Ref_base_5 FU _ _ _ _ _ _ _ rfl rfl rfl rfl rfl
abbrev c_Ref_sum : gC := (m_Ref_sum, 3, 0, 0, none, 0, 0)
def fn_Ref_sum_4 : Nat → Nat → Int32 → Int32 → Int32 → fm_I → pR
  | 0, _, _, _, _, _ => none
  | n + 1, a0, a1, a2, a3, I => gi 6 a0 11 I (fun v1 => (if v1 ≤ a3 then (ri a2 I) else gr 6 a0 12 (fun v2 => ld 0 v2 a3 I (fun v3 => vi 6 a0 (fn_Ref_length a0 v3 a1 I) (fun v5 J4 => (fn_Ref_sum_4 n a0 a1 (a2 + v5) (a3 + 1) J4))))))
set_option maxRecDepth 10000 in
theorem sn_Ref_sum_4 (n : Nat) : ∀ (a0 : Nat) (a1 : Int32) (a2 : Int32) (a3 : Int32) (I : fm_I) (L : Nat → Option am_V), L 0 = some (vR a0) → L 1 = some (vI a1) → L 2 = some (vI a2) → L 3 = some (vI a3) → gW c_Ref_sum (fn_Ref_sum_4 n a0 a1 a2 a3 I) 4 L [] I := by
  induction n with
  | zero =>
    intro a0 a1 a2 a3 I L h0 h1 h2 h3
    unfold fn_Ref_sum_4
    exact g_none
  | succ n ih =>
    intro a0 a1 a2 a3 I L h0 h1 h2 h3
    unfold fn_Ref_sum_4
    refine g_iload_n (pc := 4) (x := a3) d_Ref_sum_4 rfl h3 ?_
    refine g_aload_n (pc := 5) (x := a0) d_Ref_sum_5 rfl h0 ?_
    refine g_gi (pc := 6) d_Ref_sum_6 fk_Ref_116 (fun v1 => ?_)
    refine g_icmpge (pc := 9) (tgt := 32) d_Ref_sum_9 rfl ?_ ?_
    · refine g_iload_n (pc := 32) (x := a2) d_Ref_sum_32 rfl h2 ?_
      exact g_iret (pc := 33) d_Ref_sum_33 rfl (Nat.le_refl _) (Nat.le_refl _)
    refine g_iload_n (pc := 12) (x := a2) d_Ref_sum_12 rfl h2 ?_
    refine g_aload_n (pc := 13) (x := a0) d_Ref_sum_13 rfl h0 ?_
    refine g_aload_n (pc := 14) (x := a0) d_Ref_sum_14 rfl h0 ?_
    refine g_gr (pc := 15) d_Ref_sum_15 fk_Ref_39 (fun v2 => ?_)
    refine g_iload_n (pc := 18) (x := a3) d_Ref_sum_18 rfl h3 ?_
    refine g_ldI (pc := 19) d_Ref_sum_19 (fun v3 => ?_)
    refine g_iload_n (pc := 20) (x := a1) d_Ref_sum_20 rfl h1 ?_
    refine g_vi (pc := 21) (rest := [vI a2]) (sn_Ref_length a0 v3 a1 I) rfl rfl d_Ref_sum_21 ck_Ref_143 (Nat.le_of_ble_eq_true rfl) (Nat.le_of_ble_eq_true rfl) (Nat.le_refl _) (Nat.le_refl _) (fun v5 J4 => ?_)
    refine g_iadd (pc := 24) d_Ref_sum_24 ?_
    refine g_istore_n (pc := 25) (x := (a2 + v5)) d_Ref_sum_25 rfl (Nat.le_of_ble_eq_true rfl) ?_
    refine g_iinc (pc := 26) (x := a3) (w := 1) d_Ref_sum_26 h3 (by decide) (Nat.le_of_ble_eq_true rfl) ?_
    refine g_goto (pc := 29) (tgt := 4) d_Ref_sum_29 rfl ?_
    exact ih _ _ _ _ _ _ h0 h1 rfl rfl
def fn_Ref_sum (a0 : Nat) (a1 : Int32) (I : fm_I) : pR := (fn_Ref_sum_4 FU a0 a1 0 0 I)
set_option maxRecDepth 10000 in
theorem sn_Ref_sum (a0 : Nat) (a1 : Int32) (I : fm_I) : gM m_Ref_sum 3 (fn_Ref_sum a0 a1 I) [vR a0, vI a1] I := by
  refine gM_of (by decide) rfl (Nat.le_of_ble_eq_true rfl) ?_
  show gW c_Ref_sum _ _ _ _ _
  unfold fn_Ref_sum
  refine g_iconst (pc := 0) (x := 0) d_Ref_sum_0 (by decide) ?_
  refine g_istore_n (pc := 1) (x := 0) d_Ref_sum_1 rfl (Nat.le_of_ble_eq_true rfl) ?_
  refine g_iconst (pc := 2) (x := 0) d_Ref_sum_2 (by decide) ?_
  refine g_istore_n (pc := 3) (x := 0) d_Ref_sum_3 rfl (Nat.le_of_ble_eq_true rfl) ?_
  exact sn_Ref_sum_4 FU _ _ _ _ _ _ rfl rfl rfl rfl
abbrev c_Ref_commonsBelow : gC := (m_Ref_commonsBelow, 3, 0, 0, none, 0, 0)
def fn_Ref_commonsBelow_4 : Nat → Nat → Int32 → Int32 → Int32 → fm_I → pR
  | 0, _, _, _, _, _ => none
  | n + 1, a0, a1, a2, a3, I => (if a1 ≤ a3 then (ri a2 I) else vi 6 a0 (fn_Ref_exporters a0 a3 I) (fun v2 J1 => (if v2 = 0 then vi 6 a0 (fn_Ref_largest a0 a3 J1) (fun v4 J3 => (fn_Ref_commonsBelow_4 n a0 a1 (a2 + v4) (a3 + 1) J3)) else (fn_Ref_commonsBelow_4 n a0 a1 a2 (a3 + 1) J1))))
set_option maxRecDepth 10000 in
theorem sn_Ref_commonsBelow_4 (n : Nat) : ∀ (a0 : Nat) (a1 : Int32) (a2 : Int32) (a3 : Int32) (I : fm_I) (L : Nat → Option am_V), L 0 = some (vR a0) → L 1 = some (vI a1) → L 2 = some (vI a2) → L 3 = some (vI a3) → gW c_Ref_commonsBelow (fn_Ref_commonsBelow_4 n a0 a1 a2 a3 I) 4 L [] I := by
  induction n with
  | zero =>
    intro a0 a1 a2 a3 I L h0 h1 h2 h3
    unfold fn_Ref_commonsBelow_4
    exact g_none
  | succ n ih =>
    intro a0 a1 a2 a3 I L h0 h1 h2 h3
    unfold fn_Ref_commonsBelow_4
    refine g_iload_n (pc := 4) (x := a3) d_Ref_commonsBelow_4 rfl h3 ?_
    refine g_iload_n (pc := 5) (x := a1) d_Ref_commonsBelow_5 rfl h1 ?_
    refine g_icmpge (pc := 6) (tgt := 35) d_Ref_commonsBelow_6 rfl ?_ ?_
    · refine g_iload_n (pc := 35) (x := a2) d_Ref_commonsBelow_35 rfl h2 ?_
      exact g_iret (pc := 36) d_Ref_commonsBelow_36 rfl (Nat.le_refl _) (Nat.le_refl _)
    refine g_aload_n (pc := 9) (x := a0) d_Ref_commonsBelow_9 rfl h0 ?_
    refine g_iload_n (pc := 10) (x := a3) d_Ref_commonsBelow_10 rfl h3 ?_
    refine g_vi (pc := 11) (rest := []) (sn_Ref_exporters a0 a3 I) rfl rfl d_Ref_commonsBelow_11 ck_Ref_125 (Nat.le_of_ble_eq_true rfl) (Nat.le_of_ble_eq_true rfl) (Nat.le_refl _) (Nat.le_refl _) (fun v2 J1 => ?_)
    refine g_ifne (pc := 14) (tgt := 27) d_Ref_commonsBelow_14 rfl ?_ ?_
    · refine g_iload_n (pc := 27) (x := a2) d_Ref_commonsBelow_27 rfl h2 ?_
      refine g_istore_n (pc := 28) (x := a2) d_Ref_commonsBelow_28 rfl (Nat.le_of_ble_eq_true rfl) ?_
      refine g_iinc (pc := 29) (x := a3) (w := 1) d_Ref_commonsBelow_29 h3 (by decide) (Nat.le_of_ble_eq_true rfl) ?_
      refine g_goto (pc := 32) (tgt := 4) d_Ref_commonsBelow_32 rfl ?_
      exact ih _ _ _ _ _ _ h0 h1 rfl rfl
    refine g_iload_n (pc := 17) (x := a2) d_Ref_commonsBelow_17 rfl h2 ?_
    refine g_aload_n (pc := 18) (x := a0) d_Ref_commonsBelow_18 rfl h0 ?_
    refine g_iload_n (pc := 19) (x := a3) d_Ref_commonsBelow_19 rfl h3 ?_
    refine g_vi (pc := 20) (rest := [vI a2]) (sn_Ref_largest a0 a3 J1) rfl rfl d_Ref_commonsBelow_20 ck_Ref_128 (Nat.le_of_ble_eq_true rfl) (Nat.le_of_ble_eq_true rfl) (Nat.le_refl _) (Nat.le_refl _) (fun v4 J3 => ?_)
    refine g_iadd (pc := 23) d_Ref_commonsBelow_23 ?_
    refine g_goto (pc := 24) (tgt := 28) d_Ref_commonsBelow_24 rfl ?_
    refine g_istore_n (pc := 28) (x := (a2 + v4)) d_Ref_commonsBelow_28 rfl (Nat.le_of_ble_eq_true rfl) ?_
    refine g_iinc (pc := 29) (x := a3) (w := 1) d_Ref_commonsBelow_29 h3 (by decide) (Nat.le_of_ble_eq_true rfl) ?_
    refine g_goto (pc := 32) (tgt := 4) d_Ref_commonsBelow_32 rfl ?_
    exact ih _ _ _ _ _ _ h0 h1 rfl rfl
def fn_Ref_commonsBelow (a0 : Nat) (a1 : Int32) (I : fm_I) : pR := (fn_Ref_commonsBelow_4 FU a0 a1 0 0 I)
set_option maxRecDepth 10000 in
theorem sn_Ref_commonsBelow (a0 : Nat) (a1 : Int32) (I : fm_I) : gM m_Ref_commonsBelow 3 (fn_Ref_commonsBelow a0 a1 I) [vR a0, vI a1] I := by
  refine gM_of (by decide) rfl (Nat.le_of_ble_eq_true rfl) ?_
  show gW c_Ref_commonsBelow _ _ _ _ _
  unfold fn_Ref_commonsBelow
  refine g_iconst (pc := 0) (x := 0) d_Ref_commonsBelow_0 (by decide) ?_
  refine g_istore_n (pc := 1) (x := 0) d_Ref_commonsBelow_1 rfl (Nat.le_of_ble_eq_true rfl) ?_
  refine g_iconst (pc := 2) (x := 0) d_Ref_commonsBelow_2 (by decide) ?_
  refine g_istore_n (pc := 3) (x := 0) d_Ref_commonsBelow_3 rfl (Nat.le_of_ble_eq_true rfl) ?_
  exact sn_Ref_commonsBelow_4 FU _ _ _ _ _ _ rfl rfl rfl rfl
abbrev c_Ref_valueOf : gC := (m_Ref_valueOf, 4, 0, 0, none, 0, 0)
def fn_Ref_valueOf (a0 : Nat) (a1 : Int32) (a2 : Int32) (I : fm_I) : pR := gr 6 a0 1 (fun v1 => ld 0 v1 a2 I (fun v2 => (if v2 = 8 then gr 6 a0 3 (fun v11 => ld 0 v11 a2 I (fun v12 => (ri v12 I))) else gr 6 a0 4 (fun v3 => ld 0 v3 a2 I (fun v4 => vi 6 a0 (fn_Ref_base a0 a1 v4 I) (fun v6 J5 => gr 6 a0 4 (fun v7 => ld 0 v7 a2 J5 (fun v8 => vi 6 a0 (fn_Ref_place a0 a1 a2 v8 J5) (fun v10 J9 => (ri (v6 + v10) J9))))))))))
set_option maxRecDepth 10000 in
theorem sn_Ref_valueOf (a0 : Nat) (a1 : Int32) (a2 : Int32) (I : fm_I) : gM m_Ref_valueOf 4 (fn_Ref_valueOf a0 a1 a2 I) [vR a0, vI a1, vI a2] I := by
  refine gM_of (by decide) rfl (Nat.le_of_ble_eq_true rfl) ?_
  show gW c_Ref_valueOf _ _ _ _ _
  unfold fn_Ref_valueOf
  refine g_aload_n (pc := 0) (x := a0) d_Ref_valueOf_0 rfl rfl ?_
  refine g_gr (pc := 1) d_Ref_valueOf_1 fk_Ref_13 (fun v1 => ?_)
  refine g_iload_n (pc := 4) (x := a2) d_Ref_valueOf_4 rfl rfl ?_
  refine g_ldI (pc := 5) d_Ref_valueOf_5 (fun v2 => ?_)
  refine g_bipush (pc := 6) (x := 8) d_Ref_valueOf_6 (by decide) ?_
  refine g_icmpne (pc := 8) (tgt := 18) d_Ref_valueOf_8 rfl ?_ ?_
  · refine g_aload_n (pc := 18) (x := a0) d_Ref_valueOf_18 rfl rfl ?_
    refine g_iload_n (pc := 19) (x := a1) d_Ref_valueOf_19 rfl rfl ?_
    refine g_aload_n (pc := 20) (x := a0) d_Ref_valueOf_20 rfl rfl ?_
    refine g_gr (pc := 21) d_Ref_valueOf_21 fk_Ref_22 (fun v3 => ?_)
    refine g_iload_n (pc := 24) (x := a2) d_Ref_valueOf_24 rfl rfl ?_
    refine g_ldI (pc := 25) d_Ref_valueOf_25 (fun v4 => ?_)
    refine g_vi (pc := 26) (rest := []) (sn_Ref_base a0 a1 v4 I) rfl rfl d_Ref_valueOf_26 ck_Ref_146 (Nat.le_of_ble_eq_true rfl) (Nat.le_of_ble_eq_true rfl) (Nat.le_refl _) (Nat.le_refl _) (fun v6 J5 => ?_)
    refine g_istore_n (pc := 29) (x := v6) d_Ref_valueOf_29 rfl (Nat.le_of_ble_eq_true rfl) ?_
    refine g_iload_n (pc := 30) (x := v6) d_Ref_valueOf_30 rfl rfl ?_
    refine g_aload_n (pc := 31) (x := a0) d_Ref_valueOf_31 rfl rfl ?_
    refine g_iload_n (pc := 32) (x := a1) d_Ref_valueOf_32 rfl rfl ?_
    refine g_iload_n (pc := 33) (x := a2) d_Ref_valueOf_33 rfl rfl ?_
    refine g_aload_n (pc := 34) (x := a0) d_Ref_valueOf_34 rfl rfl ?_
    refine g_gr (pc := 35) d_Ref_valueOf_35 fk_Ref_22 (fun v7 => ?_)
    refine g_iload_n (pc := 38) (x := a2) d_Ref_valueOf_38 rfl rfl ?_
    refine g_ldI (pc := 39) d_Ref_valueOf_39 (fun v8 => ?_)
    refine g_vi (pc := 40) (rest := [vI v6]) (sn_Ref_place a0 a1 a2 v8 J5) rfl rfl d_Ref_valueOf_40 ck_Ref_76 (Nat.le_of_ble_eq_true rfl) (Nat.le_of_ble_eq_true rfl) (Nat.le_refl _) (Nat.le_refl _) (fun v10 J9 => ?_)
    refine g_iadd (pc := 43) d_Ref_valueOf_43 ?_
    exact g_iret (pc := 44) d_Ref_valueOf_44 rfl (Nat.le_refl _) (Nat.le_refl _)
  refine g_aload_n (pc := 11) (x := a0) d_Ref_valueOf_11 rfl rfl ?_
  refine g_gr (pc := 12) d_Ref_valueOf_12 fk_Ref_19 (fun v11 => ?_)
  refine g_iload_n (pc := 15) (x := a2) d_Ref_valueOf_15 rfl rfl ?_
  refine g_ldI (pc := 16) d_Ref_valueOf_16 (fun v12 => ?_)
  exact g_iret (pc := 17) d_Ref_valueOf_17 rfl (Nat.le_refl _) (Nat.le_refl _)
