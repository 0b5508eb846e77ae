abbrev c_Ref_refers : gC := (m_Ref_refers, 1, 0, 0, none, 0, 0)
def fn_Ref_refers_76 (K33 : Nat → Int32 → Int32 → Int32 → Int32 → fm_I → pR) (a0 : Nat) (a1 : Int32) (a2 : Int32) (a4 : Int32) (I : fm_I) : pR := gr 6 a0 2 (fun v1 => ld 0 v1 a4 I (fun v2 => (if v2 = a2 then (K33 a0 a1 a2 1 (a4 + 1) I) else (K33 a0 a1 a2 0 (a4 + 1) I))))
set_option maxRecDepth 10000 in
theorem sn_Ref_refers_76 (K33 : Nat → Int32 → Int32 → Int32 → Int32 → fm_I → pR) (hK33 : ∀ (a0 : Nat) (a1 : Int32) (a2 : Int32) (a3 : Int32) (a4 : Int32) (I : fm_I) (L : Nat → Option am_V), L 0 = some (vR a0) → L 1 = some (vI a1) → L 2 = some (vI a2) → L 3 = some (vI a3) → L 4 = some (vI a4) → gW c_Ref_refers (K33 a0 a1 a2 a3 a4 I) 33 L [] I) : ∀ (a0 : Nat) (a1 : Int32) (a2 : Int32) (a4 : Int32) (I : fm_I) (L : Nat → Option am_V), L 0 = some (vR a0) → L 1 = some (vI a1) → L 2 = some (vI a2) → L 4 = some (vI a4) → gW c_Ref_refers (fn_Ref_refers_76 K33 a0 a1 a2 a4 I) 76 L [] I := by
  intro a0 a1 a2 a4 I L h0 h1 h2 h4
  unfold fn_Ref_refers_76
  refine g_aload_n (pc := 76) (x := a0) d_Ref_refers_76 rfl h0 ?_
  refine g_gr (pc := 77) d_Ref_refers_77 fk_Ref_16 (fun v1 => ?_)
  refine g_iload (pc := 80) (x := a4) d_Ref_refers_80 h4 ?_
  refine g_ldI (pc := 82) d_Ref_refers_82 (fun v2 => ?_)
  refine g_iload_n (pc := 83) (x := a2) d_Ref_refers_83 rfl h2 ?_
  refine g_icmpne (pc := 84) (tgt := 91) d_Ref_refers_84 rfl ?_ ?_
  · refine g_iconst (pc := 91) (x := 0) d_Ref_refers_91 (by decide) ?_
    refine g_istore_n (pc := 92) (x := 0) d_Ref_refers_92 rfl (Nat.le_of_ble_eq_true rfl) ?_
    refine g_iinc (pc := 93) (x := a4) (w := 1) d_Ref_refers_93 h4 (by decide) (Nat.le_of_ble_eq_true rfl) ?_
    refine g_goto (pc := 96) (tgt := 33) d_Ref_refers_96 rfl ?_
    exact hK33 _ _ _ _ _ _ _ h0 h1 h2 rfl rfl
  refine g_iconst (pc := 87) (x := 1) d_Ref_refers_87 (by decide) ?_
  refine g_goto (pc := 88) (tgt := 92) d_Ref_refers_88 rfl ?_
  refine g_istore_n (pc := 92) (x := 1) d_Ref_refers_92 rfl (Nat.le_of_ble_eq_true rfl) ?_
  refine g_iinc (pc := 93) (x := a4) (w := 1) d_Ref_refers_93 h4 (by decide) (Nat.le_of_ble_eq_true rfl) ?_
  refine g_goto (pc := 96) (tgt := 33) d_Ref_refers_96 rfl ?_
  exact hK33 _ _ _ _ _ _ _ h0 h1 h2 rfl rfl
def fn_Ref_refers_33 : Nat → Nat → Int32 → Int32 → Int32 → Int32 → fm_I → pR
  | 0, _, _, _, _, _, _ => none
  | n + 1, a0, a1, a2, a3, a4, I => gr 6 a0 0 (fun v1 => ld 0 v1 a1 I (fun v2 => (if ((20 * a1) + v2) ≤ a4 then (rz a3 I) else (if a3 = 0 then gr 6 a0 1 (fun v3 => ld 0 v3 a4 I (fun v4 => (if v4 = 4 then (fn_Ref_refers_76 (fun a0 a1 a2 a3 a4 I => fn_Ref_refers_33 n a0 a1 a2 a3 a4 I) a0 a1 a2 a4 I) else gr 6 a0 1 (fun v5 => ld 0 v5 a4 I (fun v6 => (if v6 = 6 then (fn_Ref_refers_76 (fun a0 a1 a2 a3 a4 I => fn_Ref_refers_33 n a0 a1 a2 a3 a4 I) a0 a1 a2 a4 I) else (fn_Ref_refers_33 n a0 a1 a2 0 (a4 + 1) I))))))) else (fn_Ref_refers_33 n a0 a1 a2 1 (a4 + 1) I)))))
set_option maxRecDepth 10000 in
theorem sn_Ref_refers_33 (n : Nat) : ∀ (a0 : Nat) (a1 : Int32) (a2 : Int32) (a3 : Int32) (a4 : Int32) (I : fm_I) (L : Nat → Option am_V), L 0 = some (vR a0) → L 1 = some (vI a1) → L 2 = some (vI a2) → L 3 = some (vI a3) → L 4 = some (vI a4) → gW c_Ref_refers (fn_Ref_refers_33 n a0 a1 a2 a3 a4 I) 33 L [] I := by
  induction n with
  | zero =>
    intro a0 a1 a2 a3 a4 I L h0 h1 h2 h3 h4
    unfold fn_Ref_refers_33
    exact g_none
  | succ n ih =>
    intro a0 a1 a2 a3 a4 I L h0 h1 h2 h3 h4
    unfold fn_Ref_refers_33
    refine g_iload (pc := 33) (x := a4) d_Ref_refers_33 h4 ?_
    refine g_bipush (pc := 35) (x := 20) d_Ref_refers_35 (by decide) ?_
    refine g_iload_n (pc := 37) (x := a1) d_Ref_refers_37 rfl h1 ?_
    refine g_imul (pc := 38) d_Ref_refers_38 ?_
    refine g_aload_n (pc := 39) (x := a0) d_Ref_refers_39 rfl h0 ?_
    refine g_gr (pc := 40) d_Ref_refers_40 fk_Ref_7 (fun v1 => ?_)
    refine g_iload_n (pc := 43) (x := a1) d_Ref_refers_43 rfl h1 ?_
    refine g_ldI (pc := 44) d_Ref_refers_44 (fun v2 => ?_)
    refine g_iadd (pc := 45) d_Ref_refers_45 ?_
    refine g_icmpge (pc := 46) (tgt := 99) d_Ref_refers_46 rfl ?_ ?_
    · refine g_iload_n (pc := 99) (x := a3) d_Ref_refers_99 rfl h3 ?_
      exact g_zret (pc := 100) d_Ref_refers_100 rfl (Nat.le_refl _) (Nat.le_refl _)
    refine g_iload_n (pc := 49) (x := a3) d_Ref_refers_49 rfl h3 ?_
    refine g_ifne (pc := 50) (tgt := 87) d_Ref_refers_50 rfl ?_ ?_
    · refine g_iconst (pc := 87) (x := 1) d_Ref_refers_87 (by decide) ?_
      refine g_goto (pc := 88) (tgt := 92) d_Ref_refers_88 rfl ?_
      refine g_istore_n (pc := 92) (x := 1) d_Ref_refers_92 rfl (Nat.le_of_ble_eq_true rfl) ?_
      refine g_iinc (pc := 93) (x := a4) (w := 1) d_Ref_refers_93 h4 (by decide) (Nat.le_of_ble_eq_true rfl) ?_
      refine g_goto (pc := 96) (tgt := 33) d_Ref_refers_96 rfl ?_
      exact ih _ _ _ _ _ _ _ h0 h1 h2 rfl rfl
    refine g_aload_n (pc := 53) (x := a0) d_Ref_refers_53 rfl h0 ?_
    refine g_gr (pc := 54) d_Ref_refers_54 fk_Ref_13 (fun v3 => ?_)
    refine g_iload (pc := 57) (x := a4) d_Ref_refers_57 h4 ?_
    refine g_ldI (pc := 59) d_Ref_refers_59 (fun v4 => ?_)
    refine g_iconst (pc := 60) (x := 4) d_Ref_refers_60 (by decide) ?_
    refine g_icmpeq (pc := 61) (tgt := 76) d_Ref_refers_61 rfl ?_ ?_
    · exact sn_Ref_refers_76 _ ih _ _ _ _ _ _ h0 h1 h2 h4
    refine g_aload_n (pc := 64) (x := a0) d_Ref_refers_64 rfl h0 ?_
    refine g_gr (pc := 65) d_Ref_refers_65 fk_Ref_13 (fun v5 => ?_)
    refine g_iload (pc := 68) (x := a4) d_Ref_refers_68 h4 ?_
    refine g_ldI (pc := 70) d_Ref_refers_70 (fun v6 => ?_)
    refine g_bipush (pc := 71) (x := 6) d_Ref_refers_71 (by decide) ?_
    refine g_icmpne (pc := 73) (tgt := 91) d_Ref_refers_73 rfl ?_ ?_
    · refine g_iconst (pc := 91) (x := 0) d_Ref_refers_91 (by decide) ?_
      refine g_istore_n (pc := 92) (x := 0) d_Ref_refers_92 rfl (Nat.le_of_ble_eq_true rfl) ?_
      refine g_iinc (pc := 93) (x := a4) (w := 1) d_Ref_refers_93 h4 (by decide) (Nat.le_of_ble_eq_true rfl) ?_
      refine g_goto (pc := 96) (tgt := 33) d_Ref_refers_96 rfl ?_
      exact ih _ _ _ _ _ _ _ h0 h1 h2 rfl rfl
    exact sn_Ref_refers_76 _ ih _ _ _ _ _ _ h0 h1 h2 h4
def fn_Ref_refers (a0 : Nat) (a1 : Int32) (a2 : Int32) (I : fm_I) : pR := vi 6 a0 (fn_Ref_definition a0 a1 a2 I) (fun v2 J1 => (if 0 ≤ v2 then (rz 0 J1) else vi 6 a0 (fn_Ref_common a0 a1 a2 J1) (fun v4 J3 => (if v4 ≤ 0 then vi 6 a0 (fn_Ref_global a0 a1 a2 J3) (fun v6 J5 => (fn_Ref_refers_33 FU a0 a1 a2 v6 (20 * a1) J5)) else (rz 0 J3)))))
set_option maxRecDepth 10000 in
theorem sn_Ref_refers (a0 : Nat) (a1 : Int32) (a2 : Int32) (I : fm_I) : gM m_Ref_refers 1 (fn_Ref_refers a0 a1 a2 I) [vR a0, vI a1, vI a2] I := by
  refine gM_of (by decide) rfl (Nat.le_of_ble_eq_true rfl) ?_
  show gW c_Ref_refers _ _ _ _ _
  unfold fn_Ref_refers
  refine g_aload_n (pc := 0) (x := a0) d_Ref_refers_0 rfl rfl ?_
  refine g_iload_n (pc := 1) (x := a1) d_Ref_refers_1 rfl rfl ?_
  refine g_iload_n (pc := 2) (x := a2) d_Ref_refers_2 rfl rfl ?_
  refine g_vi (pc := 3) (rest := []) (sn_Ref_definition a0 a1 a2 I) rfl rfl d_Ref_refers_3 ck_Ref_69 (Nat.le_of_ble_eq_true rfl) (Nat.le_of_ble_eq_true rfl) (Nat.le_refl _) (Nat.le_refl _) (fun v2 J1 => ?_)
  refine g_ifge (pc := 6) (tgt := 18) d_Ref_refers_6 rfl ?_ ?_
  · refine g_iconst (pc := 18) (x := 0) d_Ref_refers_18 (by decide) ?_
    exact g_zret (pc := 19) d_Ref_refers_19 rfl (Nat.le_refl _) (Nat.le_refl _)
  refine g_aload_n (pc := 9) (x := a0) d_Ref_refers_9 rfl rfl ?_
  refine g_iload_n (pc := 10) (x := a1) d_Ref_refers_10 rfl rfl ?_
  refine g_iload_n (pc := 11) (x := a2) d_Ref_refers_11 rfl rfl ?_
  refine g_vi (pc := 12) (rest := []) (sn_Ref_common a0 a1 a2 J1) rfl rfl d_Ref_refers_12 ck_Ref_73 (Nat.le_of_ble_eq_true rfl) (Nat.le_of_ble_eq_true rfl) (Nat.le_refl _) (Nat.le_refl _) (fun v4 J3 => ?_)
  refine g_ifle (pc := 15) (tgt := 20) d_Ref_refers_15 rfl ?_ ?_
  · refine g_aload_n (pc := 20) (x := a0) d_Ref_refers_20 rfl rfl ?_
    refine g_iload_n (pc := 21) (x := a1) d_Ref_refers_21 rfl rfl ?_
    refine g_iload_n (pc := 22) (x := a2) d_Ref_refers_22 rfl rfl ?_
    refine g_vi (pc := 23) (rest := []) (sn_Ref_global a0 a1 a2 J3) rfl rfl d_Ref_refers_23 ck_Ref_65 (Nat.le_of_ble_eq_true rfl) (Nat.le_of_ble_eq_true rfl) (Nat.le_refl _) (Nat.le_refl _) (fun v6 J5 => ?_)
    refine g_istore_n (pc := 26) (x := v6) d_Ref_refers_26 rfl (Nat.le_of_ble_eq_true rfl) ?_
    refine g_bipush (pc := 27) (x := 20) d_Ref_refers_27 (by decide) ?_
    refine g_iload_n (pc := 29) (x := a1) d_Ref_refers_29 rfl rfl ?_
    refine g_imul (pc := 30) d_Ref_refers_30 ?_
    refine g_istore (pc := 31) (x := (20 * a1)) d_Ref_refers_31 (Nat.le_of_ble_eq_true rfl) ?_
    exact sn_Ref_refers_33 FU _ _ _ _ _ _ _ rfl rfl rfl rfl rfl
  refine g_iconst (pc := 18) (x := 0) d_Ref_refers_18 (by decide) ?_
  exact g_zret (pc := 19) d_Ref_refers_19 rfl (Nat.le_refl _) (Nat.le_refl _)
abbrev c_Ref_distance : gC := (m_Ref_distance, 2, 0, 0, none, 0, 0)
def fn_Ref_distance (a0 : Nat) (a1 : Int32) (a2 : Int32) (I : fm_I) : pR := gr 6 a0 2 (fun v1 => ld 0 v1 a2 I (fun v2 => vi 6 a0 (fn_Ref_definition a0 a1 v2 I) (fun v4 J3 => (if v4 < 0 then (ri 1000 J3) else gr 6 a0 1 (fun v5 => ld 0 v5 v4 J3 (fun v6 => (if v6 = 0 then gr 6 a0 4 (fun v7 => ld 0 v7 v4 J3 (fun v8 => (if v8 = 0 then vi 6 a0 (fn_Ref_place a0 a1 v4 0 J3) (fun v10 J9 => vi 6 a0 (fn_Ref_place a0 a1 a2 0 J9) (fun v12 J11 => (ri ((v10 - v12) - 1) J11))) else (ri 1000 J3)))) else (ri 1000 J3))))))))
set_option maxRecDepth 10000 in
theorem sn_Ref_distance (a0 : Nat) (a1 : Int32) (a2 : Int32) (I : fm_I) : gM m_Ref_distance 2 (fn_Ref_distance a0 a1 a2 I) [vR a0, vI a1, vI a2] I := by
  refine gM_of (by decide) rfl (Nat.le_of_ble_eq_true rfl) ?_
  show gW c_Ref_distance _ _ _ _ _
  unfold fn_Ref_distance
  refine g_aload_n (pc := 0) (x := a0) d_Ref_distance_0 rfl rfl ?_
  refine g_iload_n (pc := 1) (x := a1) d_Ref_distance_1 rfl rfl ?_
  refine g_aload_n (pc := 2) (x := a0) d_Ref_distance_2 rfl rfl ?_
  refine g_gr (pc := 3) d_Ref_distance_3 fk_Ref_16 (fun v1 => ?_)
  refine g_iload_n (pc := 6) (x := a2) d_Ref_distance_6 rfl rfl ?_
  refine g_ldI (pc := 7) d_Ref_distance_7 (fun v2 => ?_)
  refine g_vi (pc := 8) (rest := []) (sn_Ref_definition a0 a1 v2 I) rfl rfl d_Ref_distance_8 ck_Ref_69 (Nat.le_of_ble_eq_true rfl) (Nat.le_of_ble_eq_true rfl) (Nat.le_refl _) (Nat.le_refl _) (fun v4 J3 => ?_)
  refine g_istore_n (pc := 11) (x := v4) d_Ref_distance_11 rfl (Nat.le_of_ble_eq_true rfl) ?_
  refine g_iload_n (pc := 12) (x := v4) d_Ref_distance_12 rfl rfl ?_
  refine g_iflt (pc := 13) (tgt := 34) d_Ref_distance_13 rfl ?_ ?_
  · refine g_sipush (pc := 34) (x := 1000) d_Ref_distance_34 (by decide) ?_
    exact g_iret (pc := 37) d_Ref_distance_37 rfl (Nat.le_refl _) (Nat.le_refl _)
  refine g_aload_n (pc := 16) (x := a0) d_Ref_distance_16 rfl rfl ?_
  refine g_gr (pc := 17) d_Ref_distance_17 fk_Ref_13 (fun v5 => ?_)
  refine g_iload_n (pc := 20) (x := v4) d_Ref_distance_20 rfl rfl ?_
  refine g_ldI (pc := 21) d_Ref_distance_21 (fun v6 => ?_)
  refine g_ifne (pc := 22) (tgt := 34) d_Ref_distance_22 rfl ?_ ?_
  · refine g_sipush (pc := 34) (x := 1000) d_Ref_distance_34 (by decide) ?_
    exact g_iret (pc := 37) d_Ref_distance_37 rfl (Nat.le_refl _) (Nat.le_refl _)
  refine g_aload_n (pc := 25) (x := a0) d_Ref_distance_25 rfl rfl ?_
  refine g_gr (pc := 26) d_Ref_distance_26 fk_Ref_22 (fun v7 => ?_)
  refine g_iload_n (pc := 29) (x := v4) d_Ref_distance_29 rfl rfl ?_
  refine g_ldI (pc := 30) d_Ref_distance_30 (fun v8 => ?_)
  refine g_ifeq (pc := 31) (tgt := 38) d_Ref_distance_31 rfl ?_ ?_
  · refine g_aload_n (pc := 38) (x := a0) d_Ref_distance_38 rfl rfl ?_
    refine g_iload_n (pc := 39) (x := a1) d_Ref_distance_39 rfl rfl ?_
    refine g_iload_n (pc := 40) (x := v4) d_Ref_distance_40 rfl rfl ?_
    refine g_iconst (pc := 41) (x := 0) d_Ref_distance_41 (by decide) ?_
    refine g_vi (pc := 42) (rest := []) (sn_Ref_place a0 a1 v4 0 J3) rfl rfl d_Ref_distance_42 ck_Ref_76 (Nat.le_of_ble_eq_true rfl) (Nat.le_of_ble_eq_true rfl) (Nat.le_refl _) (Nat.le_refl _) (fun v10 J9 => ?_)
    refine g_istore (pc := 45) (x := v10) d_Ref_distance_45 (Nat.le_of_ble_eq_true rfl) ?_
    refine g_aload_n (pc := 47) (x := a0) d_Ref_distance_47 rfl rfl ?_
    refine g_iload_n (pc := 48) (x := a1) d_Ref_distance_48 rfl rfl ?_
    refine g_iload_n (pc := 49) (x := a2) d_Ref_distance_49 rfl rfl ?_
    refine g_iconst (pc := 50) (x := 0) d_Ref_distance_50 (by decide) ?_
    refine g_vi (pc := 51) (rest := []) (sn_Ref_place a0 a1 a2 0 J9) rfl rfl d_Ref_distance_51 ck_Ref_76 (Nat.le_of_ble_eq_true rfl) (Nat.le_of_ble_eq_true rfl) (Nat.le_refl _) (Nat.le_refl _) (fun v12 J11 => ?_)
    refine g_istore (pc := 54) (x := v12) d_Ref_distance_54 (Nat.le_of_ble_eq_true rfl) ?_
    refine g_iload (pc := 56) (x := v10) d_Ref_distance_56 rfl ?_
    refine g_iload (pc := 58) (x := v12) d_Ref_distance_58 rfl ?_
    refine g_isub (pc := 60) d_Ref_distance_60 ?_
    refine g_iconst (pc := 61) (x := 1) d_Ref_distance_61 (by decide) ?_
    refine g_isub (pc := 62) d_Ref_distance_62 ?_
    exact g_iret (pc := 63) d_Ref_distance_63 rfl (Nat.le_refl _) (Nat.le_refl _)
  refine g_sipush (pc := 34) (x := 1000) d_Ref_distance_34 (by decide) ?_
  exact g_iret (pc := 37) d_Ref_distance_37 rfl (Nat.le_refl _) (Nat.le_refl _)
abbrev c_Ref_settle : gC := (m_Ref_settle, 3, 0, 0, none, 0, 0)
def fn_Ref_settle_49 (K37 : Nat → Int32 → Int32 → Int32 → fm_I → pR) : Nat → Nat → Int32 → Int32 → Int32 → Int32 → fm_I → pR
  | 0, _, _, _, _, _, _ => none
  | n + 1, a0, a1, a2, a3, a4, I => (if a2 ≤ a4 then (if a4 = a2 then (rv I) else gr 6 a0 5 (fun v1 => sZ v1 a4 1 I (fun J2 => (K37 a0 a1 a2 (a3 + 1) J2)))) else gr 6 a0 1 (fun v3 => ld 0 v3 a4 I (fun v4 => (if v4 = 6 then gr 6 a0 5 (fun v5 => ld 1 v5 a4 I (fun v6 => (if v6 = 0 then vi 6 a0 (fn_Ref_distance a0 a1 a4 I) (fun v8 J7 => (if v8 < (-8) then (if a4 = a2 then (rv J7) else gr 6 a0 5 (fun v9 => sZ v9 a4 1 J7 (fun J10 => (K37 a0 a1 a2 (a3 + 1) J10)))) else vi 6 a0 (fn_Ref_distance a0 a1 a4 J7) (fun v12 J11 => (if 7 < v12 then (if a4 = a2 then (rv J11) else gr 6 a0 5 (fun v13 => sZ v13 a4 1 J11 (fun J14 => (K37 a0 a1 a2 (a3 + 1) J14)))) else (fn_Ref_settle_49 K37 n a0 a1 a2 a3 (a4 + 1) J11))))) else (fn_Ref_settle_49 K37 n a0 a1 a2 a3 (a4 + 1) I)))) else (fn_Ref_settle_49 K37 n a0 a1 a2 a3 (a4 + 1) I)))))
set_option maxRecDepth 10000 in
theorem sn_Ref_settle_49 (K37 : Nat → Int32 → Int32 → Int32 → fm_I → pR) (hK37 : ∀ (a0 : Nat) (a1 : Int32) (a2 : Int32) (a3 : Int32) (I : fm_I) (L : Nat → Option am_V), L 0 = some (vR a0) → L 1 = some (vI a1) → L 2 = some (vI a2) → L 3 = some (vI a3) → gW c_Ref_settle (K37 a0 a1 a2 a3 I) 37 L [] I) (n : Nat) : ∀ (a0 : Nat) (a1 : Int32) (a2 : Int32) (a3 : Int32) (a4 : Int32) (I : fm_I) (L : Nat → Option am_V), L 0 = some (vR a0) → L 1 = some (vI a1) → L 2 = some (vI a2) → L 3 = some (vI a3) → L 4 = some (vI a4) → gW c_Ref_settle (fn_Ref_settle_49 K37 n a0 a1 a2 a3 a4 I) 49 L [] I := by
  induction n with
  | zero =>
    intro a0 a1 a2 a3 a4 I L h0 h1 h2 h3 h4
    unfold fn_Ref_settle_49
    exact g_none
  | succ n ih =>
    intro a0 a1 a2 a3 a4 I L h0 h1 h2 h3 h4
    unfold fn_Ref_settle_49
    refine g_iload (pc := 49) (x := a4) d_Ref_settle_49 h4 ?_
    refine g_iload_n (pc := 51) (x := a2) d_Ref_settle_51 rfl h2 ?_
    refine g_icmpge (pc := 52) (tgt := 107) d_Ref_settle_52 rfl ?_ ?_
    · refine g_iload (pc := 107) (x := a4) d_Ref_settle_107 h4 ?_
      refine g_iload_n (pc := 109) (x := a2) d_Ref_settle_109 rfl h2 ?_
      refine g_icmpne (pc := 110) (tgt := 114) d_Ref_settle_110 rfl ?_ ?_
      · refine g_aload_n (pc := 114) (x := a0) d_Ref_settle_114 rfl h0 ?_
        refine g_gr (pc := 115) d_Ref_settle_115 fk_Ref_25 (fun v1 => ?_)
        refine g_iload (pc := 118) (x := a4) d_Ref_settle_118 h4 ?_
        refine g_iconst (pc := 120) (x := 1) d_Ref_settle_120 (by decide) ?_
        refine g_sZ (pc := 121) d_Ref_settle_121 (fun J2 => ?_)
        refine g_iinc (pc := 122) (x := a3) (w := 1) d_Ref_settle_122 h3 (by decide) (Nat.le_of_ble_eq_true rfl) ?_
        refine g_goto (pc := 125) (tgt := 37) d_Ref_settle_125 rfl ?_
        exact hK37 _ _ _ _ _ _ h0 h1 h2 rfl
      exact g_ret (pc := 113) d_Ref_settle_113 rfl (Nat.le_refl _) (Nat.le_refl _)
    refine g_aload_n (pc := 55) (x := a0) d_Ref_settle_55 rfl h0 ?_
    refine g_gr (pc := 56) d_Ref_settle_56 fk_Ref_13 (fun v3 => ?_)
    refine g_iload (pc := 59) (x := a4) d_Ref_settle_59 h4 ?_
    refine g_ldI (pc := 61) d_Ref_settle_61 (fun v4 => ?_)
    refine g_bipush (pc := 62) (x := 6) d_Ref_settle_62 (by decide) ?_
    refine g_icmpne (pc := 64) (tgt := 101) d_Ref_settle_64 rfl ?_ ?_
    · refine g_iinc (pc := 101) (x := a4) (w := 1) d_Ref_settle_101 h4 (by decide) (Nat.le_of_ble_eq_true rfl) ?_
      refine g_goto (pc := 104) (tgt := 49) d_Ref_settle_104 rfl ?_
      exact ih _ _ _ _ _ _ _ h0 h1 h2 h3 rfl
    refine g_aload_n (pc := 67) (x := a0) d_Ref_settle_67 rfl h0 ?_
    refine g_gr (pc := 68) d_Ref_settle_68 fk_Ref_25 (fun v5 => ?_)
    refine g_iload (pc := 71) (x := a4) d_Ref_settle_71 h4 ?_
    refine g_ldZ (pc := 73) d_Ref_settle_73 (fun v6 => ?_)
    refine g_ifne (pc := 74) (tgt := 101) d_Ref_settle_74 rfl ?_ ?_
    · refine g_iinc (pc := 101) (x := a4) (w := 1) d_Ref_settle_101 h4 (by decide) (Nat.le_of_ble_eq_true rfl) ?_
      refine g_goto (pc := 104) (tgt := 49) d_Ref_settle_104 rfl ?_
      exact ih _ _ _ _ _ _ _ h0 h1 h2 h3 rfl
    refine g_aload_n (pc := 77) (x := a0) d_Ref_settle_77 rfl h0 ?_
    refine g_iload_n (pc := 78) (x := a1) d_Ref_settle_78 rfl h1 ?_
    refine g_iload (pc := 79) (x := a4) d_Ref_settle_79 h4 ?_
    refine g_vi (pc := 81) (rest := []) (sn_Ref_distance a0 a1 a4 I) rfl rfl d_Ref_settle_81 ck_Ref_80 (Nat.le_of_ble_eq_true rfl) (Nat.le_of_ble_eq_true rfl) (Nat.le_refl _) (Nat.le_refl _) (fun v8 J7 => ?_)
    refine g_bipush (pc := 84) (x := (-8)) d_Ref_settle_84 (by decide) ?_
    refine g_icmplt (pc := 86) (tgt := 107) d_Ref_settle_86 rfl ?_ ?_
    · refine g_iload (pc := 107) (x := a4) d_Ref_settle_107 h4 ?_
      refine g_iload_n (pc := 109) (x := a2) d_Ref_settle_109 rfl h2 ?_
      refine g_icmpne (pc := 110) (tgt := 114) d_Ref_settle_110 rfl ?_ ?_
      · refine g_aload_n (pc := 114) (x := a0) d_Ref_settle_114 rfl h0 ?_
        refine g_gr (pc := 115) d_Ref_settle_115 fk_Ref_25 (fun v9 => ?_)
        refine g_iload (pc := 118) (x := a4) d_Ref_settle_118 h4 ?_
        refine g_iconst (pc := 120) (x := 1) d_Ref_settle_120 (by decide) ?_
        refine g_sZ (pc := 121) d_Ref_settle_121 (fun J10 => ?_)
        refine g_iinc (pc := 122) (x := a3) (w := 1) d_Ref_settle_122 h3 (by decide) (Nat.le_of_ble_eq_true rfl) ?_
        refine g_goto (pc := 125) (tgt := 37) d_Ref_settle_125 rfl ?_
        exact hK37 _ _ _ _ _ _ h0 h1 h2 rfl
      exact g_ret (pc := 113) d_Ref_settle_113 rfl (Nat.le_refl _) (Nat.le_refl _)
    refine g_aload_n (pc := 89) (x := a0) d_Ref_settle_89 rfl h0 ?_
    refine g_iload_n (pc := 90) (x := a1) d_Ref_settle_90 rfl h1 ?_
    refine g_iload (pc := 91) (x := a4) d_Ref_settle_91 h4 ?_
    refine g_vi (pc := 93) (rest := []) (sn_Ref_distance a0 a1 a4 J7) rfl rfl d_Ref_settle_93 ck_Ref_80 (Nat.le_of_ble_eq_true rfl) (Nat.le_of_ble_eq_true rfl) (Nat.le_refl _) (Nat.le_refl _) (fun v12 J11 => ?_)
    refine g_bipush (pc := 96) (x := 7) d_Ref_settle_96 (by decide) ?_
    refine g_icmpgt (pc := 98) (tgt := 107) d_Ref_settle_98 rfl ?_ ?_
    · refine g_iload (pc := 107) (x := a4) d_Ref_settle_107 h4 ?_
      refine g_iload_n (pc := 109) (x := a2) d_Ref_settle_109 rfl h2 ?_
      refine g_icmpne (pc := 110) (tgt := 114) d_Ref_settle_110 rfl ?_ ?_
      · refine g_aload_n (pc := 114) (x := a0) d_Ref_settle_114 rfl h0 ?_
        refine g_gr (pc := 115) d_Ref_settle_115 fk_Ref_25 (fun v13 => ?_)
        refine g_iload (pc := 118) (x := a4) d_Ref_settle_118 h4 ?_
        refine g_iconst (pc := 120) (x := 1) d_Ref_settle_120 (by decide) ?_
        refine g_sZ (pc := 121) d_Ref_settle_121 (fun J14 => ?_)
        refine g_iinc (pc := 122) (x := a3) (w := 1) d_Ref_settle_122 h3 (by decide) (Nat.le_of_ble_eq_true rfl) ?_
        refine g_goto (pc := 125) (tgt := 37) d_Ref_settle_125 rfl ?_
        exact hK37 _ _ _ _ _ _ h0 h1 h2 rfl
      exact g_ret (pc := 113) d_Ref_settle_113 rfl (Nat.le_refl _) (Nat.le_refl _)
    refine g_iinc (pc := 101) (x := a4) (w := 1) d_Ref_settle_101 h4 (by decide) (Nat.le_of_ble_eq_true rfl) ?_
    refine g_goto (pc := 104) (tgt := 49) d_Ref_settle_104 rfl ?_
    exact ih _ _ _ _ _ _ _ h0 h1 h2 h3 rfl
def fn_Ref_settle_37 : Nat → Nat → Int32 → Int32 → Int32 → fm_I → pR
  | 0, _, _, _, _, _ => none
  | n + 1, a0, a1, a2, a3, I => (if 21 ≤ a3 then (rv I) else (fn_Ref_settle_49 (fun a0 a1 a2 a3 I => fn_Ref_settle_37 n a0 a1 a2 a3 I) FU a0 a1 a2 a3 (20 * a1) I))
set_option maxRecDepth 10000 in
theorem sn_Ref_settle_37 (n : Nat) : ∀ (a0 : Nat) (a1 : Int32) (a2 : Int32) (a3 : Int32) (I : fm_I) (L : Nat → Option am_V), L 0 = some (vR a0) → L 1 = some (vI a1) → L 2 = some (vI a2) → L 3 = some (vI a3) → gW c_Ref_settle (fn_Ref_settle_37 n a0 a1 a2 a3 I) 37 L [] I := by
  induction n with
  | zero =>
    intro a0 a1 a2 a3 I L h0 h1 h2 h3
    unfold fn_Ref_settle_37
    exact g_none
  | succ n ih =>
    intro a0 a1 a2 a3 I L h0 h1 h2 h3
    unfold fn_Ref_settle_37
    refine g_iload_n (pc := 37) (x := a3) d_Ref_settle_37 rfl h3 ?_
    refine g_bipush (pc := 38) (x := 21) d_Ref_settle_38 (by decide) ?_
    refine g_icmpge (pc := 40) (tgt := 128) d_Ref_settle_40 rfl ?_ ?_
    · exact g_ret (pc := 128) d_Ref_settle_128 rfl (Nat.le_refl _) (Nat.le_refl _)
    refine g_bipush (pc := 43) (x := 20) d_Ref_settle_43 (by decide) ?_
    refine g_iload_n (pc := 45) (x := a1) d_Ref_settle_45 rfl h1 ?_
    refine g_imul (pc := 46) d_Ref_settle_46 ?_
    refine g_istore (pc := 47) (x := (20 * a1)) d_Ref_settle_47 (Nat.le_of_ble_eq_true rfl) ?_
    exact sn_Ref_settle_49 _ ih FU _ _ _ _ _ _ _ h0 h1 h2 h3 rfl
def fn_Ref_settle_17 : Nat → Nat → Int32 → Int32 → Int32 → fm_I → pR
  | 0, _, _, _, _, _ => none
  | n + 1, a0, a1, a2, a3, I => (if a2 ≤ a3 then (fn_Ref_settle_37 FU a0 a1 a2 0 I) else gr 6 a0 5 (fun v1 => sZ v1 a3 0 I (fun J2 => (fn_Ref_settle_17 n a0 a1 a2 (a3 + 1) J2))))
set_option maxRecDepth 10000 in
theorem sn_Ref_settle_17 (n : Nat) : ∀ (a0 : Nat) (a1 : Int32) (a2 : Int32) (a3 : Int32) (I : fm_I) (L : Nat → Option am_V), L 0 = some (vR a0) → L 1 = some (vI a1) → L 2 = some (vI a2) → L 3 = some (vI a3) → gW c_Ref_settle (fn_Ref_settle_17 n a0 a1 a2 a3 I) 17 L [] I := by
  induction n with
  | zero =>
    intro a0 a1 a2 a3 I L h0 h1 h2 h3
    unfold fn_Ref_settle_17
    exact g_none
  | succ n ih =>
    intro a0 a1 a2 a3 I L h0 h1 h2 h3
    unfold fn_Ref_settle_17
    refine g_iload_n (pc := 17) (x := a3) d_Ref_settle_17 rfl h3 ?_
    refine g_iload_n (pc := 18) (x := a2) d_Ref_settle_18 rfl h2 ?_
    refine g_icmpge (pc := 19) (tgt := 35) d_Ref_settle_19 rfl ?_ ?_
    · refine g_iconst (pc := 35) (x := 0) d_Ref_settle_35 (by decide) ?_
      refine g_istore_n (pc := 36) (x := 0) d_Ref_settle_36 rfl (Nat.le_of_ble_eq_true rfl) ?_
      exact sn_Ref_settle_37 FU _ _ _ _ _ _ h0 h1 h2 rfl
    refine g_aload_n (pc := 22) (x := a0) d_Ref_settle_22 rfl h0 ?_
    refine g_gr (pc := 23) d_Ref_settle_23 fk_Ref_25 (fun v1 => ?_)
    refine g_iload_n (pc := 26) (x := a3) d_Ref_settle_26 rfl h3 ?_
    refine g_iconst (pc := 27) (x := 0) d_Ref_settle_27 (by decide) ?_
    refine g_sZ (pc := 28) d_Ref_settle_28 (fun J2 => ?_)
    refine g_iinc (pc := 29) (x := a3) (w := 1) d_Ref_settle_29 h3 (by decide) (Nat.le_of_ble_eq_true rfl) ?_
    refine g_goto (pc := 32) (tgt := 17) d_Ref_settle_32 rfl ?_
    exact ih _ _ _ _ _ _ h0 h1 h2 rfl
def fn_Ref_settle (a0 : Nat) (a1 : Int32) (I : fm_I) : pR := gr 6 a0 0 (fun v1 => ld 0 v1 a1 I (fun v2 => (fn_Ref_settle_17 FU a0 a1 ((20 * a1) + v2) (20 * a1) I)))
set_option maxRecDepth 10000 in
theorem sn_Ref_settle (a0 : Nat) (a1 : Int32) (I : fm_I) : gM m_Ref_settle 3 (fn_Ref_settle a0 a1 I) [vR a0, vI a1] I := by
  refine gM_of (by decide) rfl (Nat.le_of_ble_eq_true rfl) ?_
  show gW c_Ref_settle _ _ _ _ _
  unfold fn_Ref_settle
  refine g_bipush (pc := 0) (x := 20) d_Ref_settle_0 (by decide) ?_
  refine g_iload_n (pc := 2) (x := a1) d_Ref_settle_2 rfl rfl ?_
  refine g_imul (pc := 3) d_Ref_settle_3 ?_
  refine g_aload_n (pc := 4) (x := a0) d_Ref_settle_4 rfl rfl ?_
  refine g_gr (pc := 5) d_Ref_settle_5 fk_Ref_7 (fun v1 => ?_)
  refine g_iload_n (pc := 8) (x := a1) d_Ref_settle_8 rfl rfl ?_
  refine g_ldI (pc := 9) d_Ref_settle_9 (fun v2 => ?_)
  refine g_iadd (pc := 10) d_Ref_settle_10 ?_
  refine g_istore_n (pc := 11) (x := ((20 * a1) + v2)) d_Ref_settle_11 rfl (Nat.le_of_ble_eq_true rfl) ?_
  refine g_bipush (pc := 12) (x := 20) d_Ref_settle_12 (by decide) ?_
  refine g_iload_n (pc := 14) (x := a1) d_Ref_settle_14 rfl rfl ?_
  refine g_imul (pc := 15) d_Ref_settle_15 ?_
  refine g_istore_n (pc := 16) (x := (20 * a1)) d_Ref_settle_16 rfl (Nat.le_of_ble_eq_true rfl) ?_
  exact sn_Ref_settle_17 FU _ _ _ _ _ _ rfl rfl rfl rfl
abbrev c_Ref_fits : gC := (m_Ref_fits, 1, 0, 0, none, 0, 0)
def fn_Ref_fits (a0 : Nat) (a1 : Int32) (a2 : Int32) (a3 : Int32) (I : fm_I) : pR := (if a1 = 0 then vi 6 a0 (fn_Ref_name a0 a2 I) (fun v2 J1 => (rz v2 J1)) else (if a1 = 1 then vi 6 a0 (fn_Ref_name a0 a2 I) (fun v4 J3 => (rz v4 J3)) else (if a1 = 2 then (if a2 < 0 then (rz 0 I) else (if 2 < a2 then (rz 0 I) else (rz 1 I))) else (if a1 = 3 then vi 6 a0 (fn_Ref_isWord a0 a2 I) (fun v6 J5 => (rz v6 J5)) else (if a1 = 4 then vi 6 a0 (fn_Ref_name a0 a2 I) (fun v8 J7 => (if v8 = 0 then (rz 0 J7) else (if a3 < (-32768) then (rz 0 J7) else (if 32767 < a3 then (rz 0 J7) else (rz 1 J7))))) else (if a1 = 5 then (if a2 < 1 then (rz 0 I) else (if 16 < a2 then (rz 0 I) else (rz 1 I))) else (if a1 = 6 then vi 6 a0 (fn_Ref_name a0 a2 I) (fun v10 J9 => (if v10 = 0 then (rz 0 J9) else (if a3 < 0 then (rz 0 J9) else (if 3 < a3 then (rz 0 J9) else (rz 1 J9))))) else (if a1 = 7 then vi 6 a0 (fn_Ref_name a0 a2 I) (fun v12 J11 => (if v12 = 0 then (rz 0 J11) else (if a3 < 1 then (rz 0 J11) else (if 16 < a3 then (rz 0 J11) else (rz 1 J11))))) else (if a1 = 8 then vi 6 a0 (fn_Ref_name a0 a2 I) (fun v14 J13 => (if v14 = 0 then (rz 0 J13) else vi 6 a0 (fn_Ref_isWord a0 a3 J13) (fun v16 J15 => (if v16 = 0 then (rz 0 J15) else (rz 1 J15))))) else (rz 0 I))))))))))
set_option maxRecDepth 10000 in
theorem sn_Ref_fits (a0 : Nat) (a1 : Int32) (a2 : Int32) (a3 : Int32) (I : fm_I) : gM m_Ref_fits 1 (fn_Ref_fits a0 a1 a2 a3 I) [vR a0, vI a1, vI a2, vI a3] I := by
  refine gM_of (by decide) rfl (Nat.le_of_ble_eq_true rfl) ?_
  show gW c_Ref_fits _ _ _ _ _
  unfold fn_Ref_fits
  refine g_iload_n (pc := 0) (x := a1) d_Ref_fits_0 rfl rfl ?_
  refine g_sw (c := 0) (fun e0 => ?_) (fun e0 => ?_)
  · refine g_tin (pc := 1) (tgt := 52) (off := 51) e0 d_Ref_fits_1 (by decide) (by decide) (by decide) (by decide) ?_
    refine g_aload_n (pc := 52) (x := a0) d_Ref_fits_52 rfl rfl ?_
    refine g_iload_n (pc := 53) (x := a2) d_Ref_fits_53 rfl rfl ?_
    refine g_vi (pc := 54) (rest := []) (sn_Ref_name a0 a2 I) rfl rfl d_Ref_fits_54 ck_Ref_83 (Nat.le_of_ble_eq_true rfl) (Nat.le_of_ble_eq_true rfl) (Nat.le_refl _) (Nat.le_refl _) (fun v2 J1 => ?_)
    exact g_zret (pc := 57) d_Ref_fits_57 rfl (Nat.le_refl _) (Nat.le_refl _)
  refine g_sw (c := 1) (fun e1 => ?_) (fun e1 => ?_)
  · refine g_tin (pc := 1) (tgt := 52) (off := 51) e1 d_Ref_fits_1 (by decide) (by decide) (by decide) (by decide) ?_
    refine g_aload_n (pc := 52) (x := a0) d_Ref_fits_52 rfl rfl ?_
    refine g_iload_n (pc := 53) (x := a2) d_Ref_fits_53 rfl rfl ?_
    refine g_vi (pc := 54) (rest := []) (sn_Ref_name a0 a2 I) rfl rfl d_Ref_fits_54 ck_Ref_83 (Nat.le_of_ble_eq_true rfl) (Nat.le_of_ble_eq_true rfl) (Nat.le_refl _) (Nat.le_refl _) (fun v4 J3 => ?_)
    exact g_zret (pc := 57) d_Ref_fits_57 rfl (Nat.le_refl _) (Nat.le_refl _)
  refine g_sw (c := 2) (fun e2 => ?_) (fun e2 => ?_)
  · refine g_tin (pc := 1) (tgt := 58) (off := 57) e2 d_Ref_fits_1 (by decide) (by decide) (by decide) (by decide) ?_
    refine g_iload_n (pc := 58) (x := a2) d_Ref_fits_58 rfl rfl ?_
    refine g_iflt (pc := 59) (tgt := 71) d_Ref_fits_59 rfl ?_ ?_
    · refine g_iconst (pc := 71) (x := 0) d_Ref_fits_71 (by decide) ?_
      exact g_zret (pc := 72) d_Ref_fits_72 rfl (Nat.le_refl _) (Nat.le_refl _)
    refine g_iload_n (pc := 62) (x := a2) d_Ref_fits_62 rfl rfl ?_
    refine g_iconst (pc := 63) (x := 2) d_Ref_fits_63 (by decide) ?_
    refine g_icmpgt (pc := 64) (tgt := 71) d_Ref_fits_64 rfl ?_ ?_
    · refine g_iconst (pc := 71) (x := 0) d_Ref_fits_71 (by decide) ?_
      exact g_zret (pc := 72) d_Ref_fits_72 rfl (Nat.le_refl _) (Nat.le_refl _)
    refine g_iconst (pc := 67) (x := 1) d_Ref_fits_67 (by decide) ?_
    refine g_goto (pc := 68) (tgt := 72) d_Ref_fits_68 rfl ?_
    exact g_zret (pc := 72) d_Ref_fits_72 rfl (Nat.le_refl _) (Nat.le_refl _)
  refine g_sw (c := 3) (fun e3 => ?_) (fun e3 => ?_)
  · refine g_tin (pc := 1) (tgt := 73) (off := 72) e3 d_Ref_fits_1 (by decide) (by decide) (by decide) (by decide) ?_
    refine g_aload_n (pc := 73) (x := a0) d_Ref_fits_73 rfl rfl ?_
    refine g_iload_n (pc := 74) (x := a2) d_Ref_fits_74 rfl rfl ?_
    refine g_vi (pc := 75) (rest := []) (sn_Ref_isWord a0 a2 I) rfl rfl d_Ref_fits_75 ck_Ref_87 (Nat.le_of_ble_eq_true rfl) (Nat.le_of_ble_eq_true rfl) (Nat.le_refl _) (Nat.le_refl _) (fun v6 J5 => ?_)
    exact g_zret (pc := 78) d_Ref_fits_78 rfl (Nat.le_refl _) (Nat.le_refl _)
  refine g_sw (c := 4) (fun e4 => ?_) (fun e4 => ?_)
  · refine g_tin (pc := 1) (tgt := 79) (off := 78) e4 d_Ref_fits_1 (by decide) (by decide) (by decide) (by decide) ?_
    refine g_aload_n (pc := 79) (x := a0) d_Ref_fits_79 rfl rfl ?_
    refine g_iload_n (pc := 80) (x := a2) d_Ref_fits_80 rfl rfl ?_
    refine g_vi (pc := 81) (rest := []) (sn_Ref_name a0 a2 I) rfl rfl d_Ref_fits_81 ck_Ref_83 (Nat.le_of_ble_eq_true rfl) (Nat.le_of_ble_eq_true rfl) (Nat.le_refl _) (Nat.le_refl _) (fun v8 J7 => ?_)
    refine g_ifeq (pc := 84) (tgt := 105) d_Ref_fits_84 rfl ?_ ?_
    · refine g_iconst (pc := 105) (x := 0) d_Ref_fits_105 (by decide) ?_
      exact g_zret (pc := 106) d_Ref_fits_106 rfl (Nat.le_refl _) (Nat.le_refl _)
    refine g_iload_n (pc := 87) (x := a3) d_Ref_fits_87 rfl rfl ?_
    refine g_sipush (pc := 88) (x := (-32768)) d_Ref_fits_88 (by decide) ?_
    refine g_icmplt (pc := 91) (tgt := 105) d_Ref_fits_91 rfl ?_ ?_
    · refine g_iconst (pc := 105) (x := 0) d_Ref_fits_105 (by decide) ?_
      exact g_zret (pc := 106) d_Ref_fits_106 rfl (Nat.le_refl _) (Nat.le_refl _)
    refine g_iload_n (pc := 94) (x := a3) d_Ref_fits_94 rfl rfl ?_
    refine g_sipush (pc := 95) (x := 32767) d_Ref_fits_95 (by decide) ?_
    refine g_icmpgt (pc := 98) (tgt := 105) d_Ref_fits_98 rfl ?_ ?_
    · refine g_iconst (pc := 105) (x := 0) d_Ref_fits_105 (by decide) ?_
      exact g_zret (pc := 106) d_Ref_fits_106 rfl (Nat.le_refl _) (Nat.le_refl _)
    refine g_iconst (pc := 101) (x := 1) d_Ref_fits_101 (by decide) ?_
    refine g_goto (pc := 102) (tgt := 106) d_Ref_fits_102 rfl ?_
    exact g_zret (pc := 106) d_Ref_fits_106 rfl (Nat.le_refl _) (Nat.le_refl _)
  refine g_sw (c := 5) (fun e5 => ?_) (fun e5 => ?_)
  · refine g_tin (pc := 1) (tgt := 107) (off := 106) e5 d_Ref_fits_1 (by decide) (by decide) (by decide) (by decide) ?_
    refine g_iload_n (pc := 107) (x := a2) d_Ref_fits_107 rfl rfl ?_
    refine g_iconst (pc := 108) (x := 1) d_Ref_fits_108 (by decide) ?_
    refine g_icmplt (pc := 109) (tgt := 122) d_Ref_fits_109 rfl ?_ ?_
    · refine g_iconst (pc := 122) (x := 0) d_Ref_fits_122 (by decide) ?_
      exact g_zret (pc := 123) d_Ref_fits_123 rfl (Nat.le_refl _) (Nat.le_refl _)
    refine g_iload_n (pc := 112) (x := a2) d_Ref_fits_112 rfl rfl ?_
    refine g_bipush (pc := 113) (x := 16) d_Ref_fits_113 (by decide) ?_
    refine g_icmpgt (pc := 115) (tgt := 122) d_Ref_fits_115 rfl ?_ ?_
    · refine g_iconst (pc := 122) (x := 0) d_Ref_fits_122 (by decide) ?_
      exact g_zret (pc := 123) d_Ref_fits_123 rfl (Nat.le_refl _) (Nat.le_refl _)
    refine g_iconst (pc := 118) (x := 1) d_Ref_fits_118 (by decide) ?_
    refine g_goto (pc := 119) (tgt := 123) d_Ref_fits_119 rfl ?_
    exact g_zret (pc := 123) d_Ref_fits_123 rfl (Nat.le_refl _) (Nat.le_refl _)
  refine g_sw (c := 6) (fun e6 => ?_) (fun e6 => ?_)
  · refine g_tin (pc := 1) (tgt := 124) (off := 123) e6 d_Ref_fits_1 (by decide) (by decide) (by decide) (by decide) ?_
    refine g_aload_n (pc := 124) (x := a0) d_Ref_fits_124 rfl rfl ?_
    refine g_iload_n (pc := 125) (x := a2) d_Ref_fits_125 rfl rfl ?_
    refine g_vi (pc := 126) (rest := []) (sn_Ref_name a0 a2 I) rfl rfl d_Ref_fits_126 ck_Ref_83 (Nat.le_of_ble_eq_true rfl) (Nat.le_of_ble_eq_true rfl) (Nat.le_refl _) (Nat.le_refl _) (fun v10 J9 => ?_)
    refine g_ifeq (pc := 129) (tgt := 145) d_Ref_fits_129 rfl ?_ ?_
    · refine g_iconst (pc := 145) (x := 0) d_Ref_fits_145 (by decide) ?_
      exact g_zret (pc := 146) d_Ref_fits_146 rfl (Nat.le_refl _) (Nat.le_refl _)
    refine g_iload_n (pc := 132) (x := a3) d_Ref_fits_132 rfl rfl ?_
    refine g_iflt (pc := 133) (tgt := 145) d_Ref_fits_133 rfl ?_ ?_
    · refine g_iconst (pc := 145) (x := 0) d_Ref_fits_145 (by decide) ?_
      exact g_zret (pc := 146) d_Ref_fits_146 rfl (Nat.le_refl _) (Nat.le_refl _)
    refine g_iload_n (pc := 136) (x := a3) d_Ref_fits_136 rfl rfl ?_
    refine g_iconst (pc := 137) (x := 3) d_Ref_fits_137 (by decide) ?_
    refine g_icmpgt (pc := 138) (tgt := 145) d_Ref_fits_138 rfl ?_ ?_
    · refine g_iconst (pc := 145) (x := 0) d_Ref_fits_145 (by decide) ?_
      exact g_zret (pc := 146) d_Ref_fits_146 rfl (Nat.le_refl _) (Nat.le_refl _)
    refine g_iconst (pc := 141) (x := 1) d_Ref_fits_141 (by decide) ?_
    refine g_goto (pc := 142) (tgt := 146) d_Ref_fits_142 rfl ?_
    exact g_zret (pc := 146) d_Ref_fits_146 rfl (Nat.le_refl _) (Nat.le_refl _)
  refine g_sw (c := 7) (fun e7 => ?_) (fun e7 => ?_)
  · refine g_tin (pc := 1) (tgt := 147) (off := 146) e7 d_Ref_fits_1 (by decide) (by decide) (by decide) (by decide) ?_
    refine g_aload_n (pc := 147) (x := a0) d_Ref_fits_147 rfl rfl ?_
    refine g_iload_n (pc := 148) (x := a2) d_Ref_fits_148 rfl rfl ?_
    refine g_vi (pc := 149) (rest := []) (sn_Ref_name a0 a2 I) rfl rfl d_Ref_fits_149 ck_Ref_83 (Nat.le_of_ble_eq_true rfl) (Nat.le_of_ble_eq_true rfl) (Nat.le_refl _) (Nat.le_refl _) (fun v12 J11 => ?_)
    refine g_ifeq (pc := 152) (tgt := 170) d_Ref_fits_152 rfl ?_ ?_
    · refine g_iconst (pc := 170) (x := 0) d_Ref_fits_170 (by decide) ?_
      exact g_zret (pc := 171) d_Ref_fits_171 rfl (Nat.le_refl _) (Nat.le_refl _)
    refine g_iload_n (pc := 155) (x := a3) d_Ref_fits_155 rfl rfl ?_
    refine g_iconst (pc := 156) (x := 1) d_Ref_fits_156 (by decide) ?_
    refine g_icmplt (pc := 157) (tgt := 170) d_Ref_fits_157 rfl ?_ ?_
    · refine g_iconst (pc := 170) (x := 0) d_Ref_fits_170 (by decide) ?_
      exact g_zret (pc := 171) d_Ref_fits_171 rfl (Nat.le_refl _) (Nat.le_refl _)
    refine g_iload_n (pc := 160) (x := a3) d_Ref_fits_160 rfl rfl ?_
    refine g_bipush (pc := 161) (x := 16) d_Ref_fits_161 (by decide) ?_
    refine g_icmpgt (pc := 163) (tgt := 170) d_Ref_fits_163 rfl ?_ ?_
    · refine g_iconst (pc := 170) (x := 0) d_Ref_fits_170 (by decide) ?_
      exact g_zret (pc := 171) d_Ref_fits_171 rfl (Nat.le_refl _) (Nat.le_refl _)
    refine g_iconst (pc := 166) (x := 1) d_Ref_fits_166 (by decide) ?_
    refine g_goto (pc := 167) (tgt := 171) d_Ref_fits_167 rfl ?_
    exact g_zret (pc := 171) d_Ref_fits_171 rfl (Nat.le_refl _) (Nat.le_refl _)
  refine g_sw (c := 8) (fun e8 => ?_) (fun e8 => ?_)
  · refine g_tin (pc := 1) (tgt := 172) (off := 171) e8 d_Ref_fits_1 (by decide) (by decide) (by decide) (by decide) ?_
    refine g_aload_n (pc := 172) (x := a0) d_Ref_fits_172 rfl rfl ?_
    refine g_iload_n (pc := 173) (x := a2) d_Ref_fits_173 rfl rfl ?_
    refine g_vi (pc := 174) (rest := []) (sn_Ref_name a0 a2 I) rfl rfl d_Ref_fits_174 ck_Ref_83 (Nat.le_of_ble_eq_true rfl) (Nat.le_of_ble_eq_true rfl) (Nat.le_refl _) (Nat.le_refl _) (fun v14 J13 => ?_)
    refine g_ifeq (pc := 177) (tgt := 192) d_Ref_fits_177 rfl ?_ ?_
    · refine g_iconst (pc := 192) (x := 0) d_Ref_fits_192 (by decide) ?_
      exact g_zret (pc := 193) d_Ref_fits_193 rfl (Nat.le_refl _) (Nat.le_refl _)
    refine g_aload_n (pc := 180) (x := a0) d_Ref_fits_180 rfl rfl ?_
    refine g_iload_n (pc := 181) (x := a3) d_Ref_fits_181 rfl rfl ?_
    refine g_vi (pc := 182) (rest := []) (sn_Ref_isWord a0 a3 J13) rfl rfl d_Ref_fits_182 ck_Ref_87 (Nat.le_of_ble_eq_true rfl) (Nat.le_of_ble_eq_true rfl) (Nat.le_refl _) (Nat.le_refl _) (fun v16 J15 => ?_)
    refine g_ifeq (pc := 185) (tgt := 192) d_Ref_fits_185 rfl ?_ ?_
    · refine g_iconst (pc := 192) (x := 0) d_Ref_fits_192 (by decide) ?_
      exact g_zret (pc := 193) d_Ref_fits_193 rfl (Nat.le_refl _) (Nat.le_refl _)
    refine g_iconst (pc := 188) (x := 1) d_Ref_fits_188 (by decide) ?_
    refine g_goto (pc := 189) (tgt := 193) d_Ref_fits_189 rfl ?_
    exact g_zret (pc := 193) d_Ref_fits_193 rfl (Nat.le_refl _) (Nat.le_refl _)
  refine g_tout (pc := 1) (tgt := 194) d_Ref_fits_1 (by have q0 := am_ni e0 (z := 0) (by decide); have q1 := am_ni e1 (z := 1) (by decide); have q2 := am_ni e2 (z := 2) (by decide); have q3 := am_ni e3 (z := 3) (by decide); have q4 := am_ni e4 (z := 4) (by decide); have q5 := am_ni e5 (z := 5) (by decide); have q6 := am_ni e6 (z := 6) (by decide); have q7 := am_ni e7 (z := 7) (by decide); have q8 := am_ni e8 (z := 8) (by decide); omega) (by decide) ?_
  refine g_iconst (pc := 194) (x := 0) d_Ref_fits_194 (by decide) ?_
  exact g_zret (pc := 195) d_Ref_fits_195 rfl (Nat.le_refl _) (Nat.le_refl _)
abbrev c_Ref_add : gC := (m_Ref_add, 4, 0, 0, none, 0, 0)
def fn_Ref_add_188 (a0 : Nat) (a1 : Int32) (t0 : Nat) (t1 : Int32) (t2 : Int32) (I : fm_I) : pR := sI t0 t1 t2 I (fun J1 => gr 6 a0 0 (fun v2 => gr 6 a0 0 (fun v3 => ld 0 v3 a1 J1 (fun v4 => sI v2 a1 (v4 + 1) J1 (fun J5 => vv 6 a0 (fn_Ref_settle a0 a1 J5) (fun J6 => (rz 1 J6)))))))
set_option maxRecDepth 10000 in
theorem sn_Ref_add_188 : ∀ (a0 : Nat) (a1 : Int32) (t0 : Nat) (t1 : Int32) (t2 : Int32) (I : fm_I) (L : Nat → Option am_V), L 0 = some (vR a0) → L 1 = some (vI a1) → gW c_Ref_add (fn_Ref_add_188 a0 a1 t0 t1 t2 I) 188 L [vI t2, vI t1, vR t0] I := by
  intro a0 a1 t0 t1 t2 I L h0 h1
  unfold fn_Ref_add_188
  refine g_sI (pc := 188) d_Ref_add_188 (fun J1 => ?_)
  refine g_aload_n (pc := 189) (x := a0) d_Ref_add_189 rfl h0 ?_
  refine g_gr (pc := 190) d_Ref_add_190 fk_Ref_7 (fun v2 => ?_)
  refine g_iload_n (pc := 193) (x := a1) d_Ref_add_193 rfl h1 ?_
  refine g_aload_n (pc := 194) (x := a0) d_Ref_add_194 rfl h0 ?_
  refine g_gr (pc := 195) d_Ref_add_195 fk_Ref_7 (fun v3 => ?_)
  refine g_iload_n (pc := 198) (x := a1) d_Ref_add_198 rfl h1 ?_
  refine g_ldI (pc := 199) d_Ref_add_199 (fun v4 => ?_)
  refine g_iconst (pc := 200) (x := 1) d_Ref_add_200 (by decide) ?_
  refine g_iadd (pc := 201) d_Ref_add_201 ?_
  refine g_sI (pc := 202) d_Ref_add_202 (fun J5 => ?_)
  refine g_aload_n (pc := 203) (x := a0) d_Ref_add_203 rfl h0 ?_
  refine g_iload_n (pc := 204) (x := a1) d_Ref_add_204 rfl h1 ?_
  refine g_vv (pc := 205) (rest := []) (sn_Ref_settle a0 a1 J5) rfl rfl d_Ref_add_205 ck_Ref_97 (Nat.le_of_ble_eq_true rfl) (Nat.le_of_ble_eq_true rfl) (Nat.le_refl _) (Nat.le_refl _) (fun J6 => ?_)
  refine g_iconst (pc := 208) (x := 1) d_Ref_add_208 (by decide) ?_
  exact g_zret (pc := 209) d_Ref_add_209 rfl (Nat.le_refl _) (Nat.le_refl _)
def fn_Ref_add_146 (a0 : Nat) (a1 : Int32) (a2 : Int32) (a3 : Int32) (a4 : Int32) (a5 : Int32) (a6 : Int32) (I : fm_I) : pR := gr 6 a0 1 (fun v1 => sI v1 a5 a2 I (fun J2 => gr 6 a0 2 (fun v3 => sI v3 a5 a3 J2 (fun J4 => gr 6 a0 3 (fun v5 => sI v5 a5 a4 J4 (fun J6 => gr 6 a0 4 (fun v7 => (if a2 = 2 then (fn_Ref_add_188 a0 a1 v7 a5 a3 J6) else (fn_Ref_add_188 a0 a1 v7 a5 a6 J6)))))))))
set_option maxRecDepth 10000 in
theorem sn_Ref_add_146 : ∀ (a0 : Nat) (a1 : Int32) (a2 : Int32) (a3 : Int32) (a4 : Int32) (a5 : Int32) (a6 : Int32) (I : fm_I) (L : Nat → Option am_V), L 0 = some (vR a0) → L 1 = some (vI a1) → L 2 = some (vI a2) → L 3 = some (vI a3) → L 4 = some (vI a4) → L 5 = some (vI a5) → L 6 = some (vI a6) → gW c_Ref_add (fn_Ref_add_146 a0 a1 a2 a3 a4 a5 a6 I) 146 L [] I := by
  intro a0 a1 a2 a3 a4 a5 a6 I L h0 h1 h2 h3 h4 h5 h6
  unfold fn_Ref_add_146
  refine g_aload_n (pc := 146) (x := a0) d_Ref_add_146 rfl h0 ?_
  refine g_gr (pc := 147) d_Ref_add_147 fk_Ref_13 (fun v1 => ?_)
  refine g_iload (pc := 150) (x := a5) d_Ref_add_150 h5 ?_
  refine g_iload_n (pc := 152) (x := a2) d_Ref_add_152 rfl h2 ?_
  refine g_sI (pc := 153) d_Ref_add_153 (fun J2 => ?_)
  refine g_aload_n (pc := 154) (x := a0) d_Ref_add_154 rfl h0 ?_
  refine g_gr (pc := 155) d_Ref_add_155 fk_Ref_16 (fun v3 => ?_)
  refine g_iload (pc := 158) (x := a5) d_Ref_add_158 h5 ?_
  refine g_iload_n (pc := 160) (x := a3) d_Ref_add_160 rfl h3 ?_
  refine g_sI (pc := 161) d_Ref_add_161 (fun J4 => ?_)
  refine g_aload_n (pc := 162) (x := a0) d_Ref_add_162 rfl h0 ?_
  refine g_gr (pc := 163) d_Ref_add_163 fk_Ref_19 (fun v5 => ?_)
  refine g_iload (pc := 166) (x := a5) d_Ref_add_166 h5 ?_
  refine g_iload (pc := 168) (x := a4) d_Ref_add_168 h4 ?_
  refine g_sI (pc := 170) d_Ref_add_170 (fun J6 => ?_)
  refine g_aload_n (pc := 171) (x := a0) d_Ref_add_171 rfl h0 ?_
  refine g_gr (pc := 172) d_Ref_add_172 fk_Ref_22 (fun v7 => ?_)
  refine g_iload (pc := 175) (x := a5) d_Ref_add_175 h5 ?_
  refine g_iload_n (pc := 177) (x := a2) d_Ref_add_177 rfl h2 ?_
  refine g_iconst (pc := 178) (x := 2) d_Ref_add_178 (by decide) ?_
  refine g_icmpne (pc := 179) (tgt := 186) d_Ref_add_179 rfl ?_ ?_
  · refine g_iload (pc := 186) (x := a6) d_Ref_add_186 h6 ?_
    exact sn_Ref_add_188 _ _ _ _ _ _ _ h0 h1
  refine g_iload_n (pc := 182) (x := a3) d_Ref_add_182 rfl h3 ?_
  refine g_goto (pc := 183) (tgt := 188) d_Ref_add_183 rfl ?_
  exact sn_Ref_add_188 _ _ _ _ _ _ _ h0 h1
def fn_Ref_add_117 (a0 : Nat) (a1 : Int32) (a2 : Int32) (a3 : Int32) (a4 : Int32) (a5 : Int32) (a6 : Int32) (I : fm_I) : pR := (if a2 = 3 then (if a6 = 2 then (rz 0 I) else (if a2 = 6 then (if a6 = 0 then (fn_Ref_add_146 a0 a1 a2 a3 a4 a5 a6 I) else (rz 0 I)) else (fn_Ref_add_146 a0 a1 a2 a3 a4 a5 a6 I))) else (if a2 = 4 then (if a6 = 2 then (rz 0 I) else (if a2 = 6 then (if a6 = 0 then (fn_Ref_add_146 a0 a1 a2 a3 a4 a5 a6 I) else (rz 0 I)) else (fn_Ref_add_146 a0 a1 a2 a3 a4 a5 a6 I))) else (if a2 = 6 then (if a6 = 0 then (fn_Ref_add_146 a0 a1 a2 a3 a4 a5 a6 I) else (rz 0 I)) else (fn_Ref_add_146 a0 a1 a2 a3 a4 a5 a6 I))))
set_option maxRecDepth 10000 in
theorem sn_Ref_add_117 : ∀ (a0 : Nat) (a1 : Int32) (a2 : Int32) (a3 : Int32) (a4 : Int32) (a5 : Int32) (a6 : Int32) (I : fm_I) (L : Nat → Option am_V), L 0 = some (vR a0) → L 1 = some (vI a1) → L 2 = some (vI a2) → L 3 = some (vI a3) → L 4 = some (vI a4) → L 5 = some (vI a5) → L 6 = some (vI a6) → gW c_Ref_add (fn_Ref_add_117 a0 a1 a2 a3 a4 a5 a6 I) 117 L [] I := by
  intro a0 a1 a2 a3 a4 a5 a6 I L h0 h1 h2 h3 h4 h5 h6
  unfold fn_Ref_add_117
  refine g_iload_n (pc := 117) (x := a2) d_Ref_add_117 rfl h2 ?_
  refine g_iconst (pc := 118) (x := 3) d_Ref_add_118 (by decide) ?_
  refine g_icmpeq (pc := 119) (tgt := 127) d_Ref_add_119 rfl ?_ ?_
  · refine g_iload (pc := 127) (x := a6) d_Ref_add_127 h6 ?_
    refine g_iconst (pc := 129) (x := 2) d_Ref_add_129 (by decide) ?_
    refine g_icmpeq (pc := 130) (tgt := 144) d_Ref_add_130 rfl ?_ ?_
    · refine g_iconst (pc := 144) (x := 0) d_Ref_add_144 (by decide) ?_
      exact g_zret (pc := 145) d_Ref_add_145 rfl (Nat.le_refl _) (Nat.le_refl _)
    refine g_iload_n (pc := 133) (x := a2) d_Ref_add_133 rfl h2 ?_
    refine g_bipush (pc := 134) (x := 6) d_Ref_add_134 (by decide) ?_
    refine g_icmpne (pc := 136) (tgt := 146) d_Ref_add_136 rfl ?_ ?_
    · exact sn_Ref_add_146 _ _ _ _ _ _ _ _ _ h0 h1 h2 h3 h4 h5 h6
    refine g_iload (pc := 139) (x := a6) d_Ref_add_139 h6 ?_
    refine g_ifeq (pc := 141) (tgt := 146) d_Ref_add_141 rfl ?_ ?_
    · exact sn_Ref_add_146 _ _ _ _ _ _ _ _ _ h0 h1 h2 h3 h4 h5 h6
    refine g_iconst (pc := 144) (x := 0) d_Ref_add_144 (by decide) ?_
    exact g_zret (pc := 145) d_Ref_add_145 rfl (Nat.le_refl _) (Nat.le_refl _)
  refine g_iload_n (pc := 122) (x := a2) d_Ref_add_122 rfl h2 ?_
  refine g_iconst (pc := 123) (x := 4) d_Ref_add_123 (by decide) ?_
  refine g_icmpne (pc := 124) (tgt := 133) d_Ref_add_124 rfl ?_ ?_
  · refine g_iload_n (pc := 133) (x := a2) d_Ref_add_133 rfl h2 ?_
    refine g_bipush (pc := 134) (x := 6) d_Ref_add_134 (by decide) ?_
    refine g_icmpne (pc := 136) (tgt := 146) d_Ref_add_136 rfl ?_ ?_
    · exact sn_Ref_add_146 _ _ _ _ _ _ _ _ _ h0 h1 h2 h3 h4 h5 h6
    refine g_iload (pc := 139) (x := a6) d_Ref_add_139 h6 ?_
    refine g_ifeq (pc := 141) (tgt := 146) d_Ref_add_141 rfl ?_ ?_
    · exact sn_Ref_add_146 _ _ _ _ _ _ _ _ _ h0 h1 h2 h3 h4 h5 h6
    refine g_iconst (pc := 144) (x := 0) d_Ref_add_144 (by decide) ?_
    exact g_zret (pc := 145) d_Ref_add_145 rfl (Nat.le_refl _) (Nat.le_refl _)
  refine g_iload (pc := 127) (x := a6) d_Ref_add_127 h6 ?_
  refine g_iconst (pc := 129) (x := 2) d_Ref_add_129 (by decide) ?_
  refine g_icmpeq (pc := 130) (tgt := 144) d_Ref_add_130 rfl ?_ ?_
  · refine g_iconst (pc := 144) (x := 0) d_Ref_add_144 (by decide) ?_
    exact g_zret (pc := 145) d_Ref_add_145 rfl (Nat.le_refl _) (Nat.le_refl _)
  refine g_iload_n (pc := 133) (x := a2) d_Ref_add_133 rfl h2 ?_
  refine g_bipush (pc := 134) (x := 6) d_Ref_add_134 (by decide) ?_
  refine g_icmpne (pc := 136) (tgt := 146) d_Ref_add_136 rfl ?_ ?_
  · exact sn_Ref_add_146 _ _ _ _ _ _ _ _ _ h0 h1 h2 h3 h4 h5 h6
  refine g_iload (pc := 139) (x := a6) d_Ref_add_139 h6 ?_
  refine g_ifeq (pc := 141) (tgt := 146) d_Ref_add_141 rfl ?_ ?_
  · exact sn_Ref_add_146 _ _ _ _ _ _ _ _ _ h0 h1 h2 h3 h4 h5 h6
  refine g_iconst (pc := 144) (x := 0) d_Ref_add_144 (by decide) ?_
  exact g_zret (pc := 145) d_Ref_add_145 rfl (Nat.le_refl _) (Nat.le_refl _)
def fn_Ref_add_90 (a0 : Nat) (a1 : Int32) (a2 : Int32) (a3 : Int32) (a4 : Int32) (a5 : Int32) (a6 : Int32) (t0 : Int32) (I : fm_I) : pR := (if t0 = 0 then (fn_Ref_add_117 a0 a1 a2 a3 a4 a5 a6 I) else vi 6 a0 (fn_Ref_definition a0 a1 a3 I) (fun v2 J1 => (if 0 ≤ v2 then (rz 0 J1) else vi 6 a0 (fn_Ref_common a0 a1 a3 J1) (fun v4 J3 => (if v4 ≤ 0 then (fn_Ref_add_117 a0 a1 a2 a3 a4 a5 a6 J3) else (rz 0 J3))))))
set_option maxRecDepth 10000 in
theorem sn_Ref_add_90 : ∀ (a0 : Nat) (a1 : Int32) (a2 : Int32) (a3 : Int32) (a4 : Int32) (a5 : Int32) (a6 : Int32) (t0 : Int32) (I : fm_I) (L : Nat → Option am_V), L 0 = some (vR a0) → L 1 = some (vI a1) → L 2 = some (vI a2) → L 3 = some (vI a3) → L 4 = some (vI a4) → L 5 = some (vI a5) → L 6 = some (vI a6) → gW c_Ref_add (fn_Ref_add_90 a0 a1 a2 a3 a4 a5 a6 t0 I) 90 L [vI t0] I := by
  intro a0 a1 a2 a3 a4 a5 a6 t0 I L h0 h1 h2 h3 h4 h5 h6
  unfold fn_Ref_add_90
  refine g_istore (pc := 90) (x := t0) d_Ref_add_90 (Nat.le_of_ble_eq_true rfl) ?_
  refine g_iload (pc := 92) (x := t0) d_Ref_add_92 rfl ?_
  refine g_ifeq (pc := 94) (tgt := 117) d_Ref_add_94 rfl ?_ ?_
  · exact sn_Ref_add_117 _ _ _ _ _ _ _ _ _ h0 h1 h2 h3 h4 h5 h6
  refine g_aload_n (pc := 97) (x := a0) d_Ref_add_97 rfl h0 ?_
  refine g_iload_n (pc := 98) (x := a1) d_Ref_add_98 rfl h1 ?_
  refine g_iload_n (pc := 99) (x := a3) d_Ref_add_99 rfl h3 ?_
  refine g_vi (pc := 100) (rest := []) (sn_Ref_definition a0 a1 a3 I) rfl rfl d_Ref_add_100 ck_Ref_69 (Nat.le_of_ble_eq_true rfl) (Nat.le_of_ble_eq_true rfl) (Nat.le_refl _) (Nat.le_refl _) (fun v2 J1 => ?_)
  refine g_ifge (pc := 103) (tgt := 115) d_Ref_add_103 rfl ?_ ?_
  · refine g_iconst (pc := 115) (x := 0) d_Ref_add_115 (by decide) ?_
    exact g_zret (pc := 116) d_Ref_add_116 rfl (Nat.le_refl _) (Nat.le_refl _)
  refine g_aload_n (pc := 106) (x := a0) d_Ref_add_106 rfl h0 ?_
  refine g_iload_n (pc := 107) (x := a1) d_Ref_add_107 rfl h1 ?_
  refine g_iload_n (pc := 108) (x := a3) d_Ref_add_108 rfl h3 ?_
  refine g_vi (pc := 109) (rest := []) (sn_Ref_common a0 a1 a3 J1) rfl rfl d_Ref_add_109 ck_Ref_73 (Nat.le_of_ble_eq_true rfl) (Nat.le_of_ble_eq_true rfl) (Nat.le_refl _) (Nat.le_refl _) (fun v4 J3 => ?_)
  refine g_ifle (pc := 112) (tgt := 117) d_Ref_add_112 rfl ?_ ?_
  · exact sn_Ref_add_117 _ _ _ _ _ _ _ _ _ h0 h1 h2 h3 h4 h5 h6
  refine g_iconst (pc := 115) (x := 0) d_Ref_add_115 (by decide) ?_
  exact g_zret (pc := 116) d_Ref_add_116 rfl (Nat.le_refl _) (Nat.le_refl _)
def fn_Ref_add_67 (a0 : Nat) (a1 : Int32) (a2 : Int32) (a3 : Int32) (a4 : Int32) (a5 : Int32) (t0 : Int32) (I : fm_I) : pR := (if a2 = 0 then (fn_Ref_add_90 a0 a1 a2 a3 a4 a5 t0 1 I) else (if a2 = 7 then (fn_Ref_add_90 a0 a1 a2 a3 a4 a5 t0 1 I) else (if a2 = 8 then (fn_Ref_add_90 a0 a1 a2 a3 a4 a5 t0 1 I) else (fn_Ref_add_90 a0 a1 a2 a3 a4 a5 t0 0 I))))
set_option maxRecDepth 10000 in
theorem sn_Ref_add_67 : ∀ (a0 : Nat) (a1 : Int32) (a2 : Int32) (a3 : Int32) (a4 : Int32) (a5 : Int32) (t0 : Int32) (I : fm_I) (L : Nat → Option am_V), L 0 = some (vR a0) → L 1 = some (vI a1) → L 2 = some (vI a2) → L 3 = some (vI a3) → L 4 = some (vI a4) → L 5 = some (vI a5) → gW c_Ref_add (fn_Ref_add_67 a0 a1 a2 a3 a4 a5 t0 I) 67 L [vI t0] I := by
  intro a0 a1 a2 a3 a4 a5 t0 I L h0 h1 h2 h3 h4 h5
  unfold fn_Ref_add_67
  refine g_istore (pc := 67) (x := t0) d_Ref_add_67 (Nat.le_of_ble_eq_true rfl) ?_
  refine g_iload_n (pc := 69) (x := a2) d_Ref_add_69 rfl h2 ?_
  refine g_ifeq (pc := 70) (tgt := 85) d_Ref_add_70 rfl ?_ ?_
  · refine g_iconst (pc := 85) (x := 1) d_Ref_add_85 (by decide) ?_
    refine g_goto (pc := 86) (tgt := 90) d_Ref_add_86 rfl ?_
    exact sn_Ref_add_90 _ _ _ _ _ _ _ _ _ _ h0 h1 h2 h3 h4 h5 rfl
  refine g_iload_n (pc := 73) (x := a2) d_Ref_add_73 rfl h2 ?_
  refine g_bipush (pc := 74) (x := 7) d_Ref_add_74 (by decide) ?_
  refine g_icmpeq (pc := 76) (tgt := 85) d_Ref_add_76 rfl ?_ ?_
  · refine g_iconst (pc := 85) (x := 1) d_Ref_add_85 (by decide) ?_
    refine g_goto (pc := 86) (tgt := 90) d_Ref_add_86 rfl ?_
    exact sn_Ref_add_90 _ _ _ _ _ _ _ _ _ _ h0 h1 h2 h3 h4 h5 rfl
  refine g_iload_n (pc := 79) (x := a2) d_Ref_add_79 rfl h2 ?_
  refine g_bipush (pc := 80) (x := 8) d_Ref_add_80 (by decide) ?_
  refine g_icmpne (pc := 82) (tgt := 89) d_Ref_add_82 rfl ?_ ?_
  · refine g_iconst (pc := 89) (x := 0) d_Ref_add_89 (by decide) ?_
    exact sn_Ref_add_90 _ _ _ _ _ _ _ _ _ _ h0 h1 h2 h3 h4 h5 rfl
  refine g_iconst (pc := 85) (x := 1) d_Ref_add_85 (by decide) ?_
  refine g_goto (pc := 86) (tgt := 90) d_Ref_add_86 rfl ?_
  exact sn_Ref_add_90 _ _ _ _ _ _ _ _ _ _ h0 h1 h2 h3 h4 h5 rfl
def fn_Ref_add (a0 : Nat) (a1 : Int32) (a2 : Int32) (a3 : Int32) (a4 : Int32) (I : fm_I) : pR := vi 6 a0 (fn_Ref_module a0 a1 I) (fun v2 J1 => (if v2 = 0 then (rz 0 J1) else gr 6 a0 0 (fun v3 => ld 0 v3 a1 J1 (fun v4 => (if 20 ≤ v4 then (rz 0 J1) else vi 6 a0 (fn_Ref_fits a0 a2 a3 a4 J1) (fun v6 J5 => (if v6 = 0 then (rz 0 J5) else gr 6 a0 0 (fun v7 => ld 0 v7 a1 J5 (fun v8 => gr 6 a0 0 (fun v9 => ld 0 v9 a1 J5 (fun v10 => (if v10 = 0 then (fn_Ref_add_67 a0 a1 a2 a3 a4 ((20 * a1) + v8) 0 J5) else gr 6 a0 4 (fun v11 => ld 0 v11 (((20 * a1) + v8) - 1) J5 (fun v12 => (fn_Ref_add_67 a0 a1 a2 a3 a4 ((20 * a1) + v8) v12 J5)))))))))))))))
set_option maxRecDepth 10000 in
theorem sn_Ref_add (a0 : Nat) (a1 : Int32) (a2 : Int32) (a3 : Int32) (a4 : Int32) (I : fm_I) : gM m_Ref_add 4 (fn_Ref_add a0 a1 a2 a3 a4 I) [vR a0, vI a1, vI a2, vI a3, vI a4] I := by
  refine gM_of (by decide) rfl (Nat.le_of_ble_eq_true rfl) ?_
  show gW c_Ref_add _ _ _ _ _
  unfold fn_Ref_add
  refine g_aload_n (pc := 0) (x := a0) d_Ref_add_0 rfl rfl ?_
  refine g_iload_n (pc := 1) (x := a1) d_Ref_add_1 rfl rfl ?_
  refine g_vi (pc := 2) (rest := []) (sn_Ref_module a0 a1 I) rfl rfl d_Ref_add_2 ck_Ref_90 (Nat.le_of_ble_eq_true rfl) (Nat.le_of_ble_eq_true rfl) (Nat.le_refl _) (Nat.le_refl _) (fun v2 J1 => ?_)
  refine g_ifeq (pc := 5) (tgt := 30) d_Ref_add_5 rfl ?_ ?_
  · refine g_iconst (pc := 30) (x := 0) d_Ref_add_30 (by decide) ?_
    exact g_zret (pc := 31) d_Ref_add_31 rfl (Nat.le_refl _) (Nat.le_refl _)
  refine g_aload_n (pc := 8) (x := a0) d_Ref_add_8 rfl rfl ?_
  refine g_gr (pc := 9) d_Ref_add_9 fk_Ref_7 (fun v3 => ?_)
  refine g_iload_n (pc := 12) (x := a1) d_Ref_add_12 rfl rfl ?_
  refine g_ldI (pc := 13) d_Ref_add_13 (fun v4 => ?_)
  refine g_bipush (pc := 14) (x := 20) d_Ref_add_14 (by decide) ?_
  refine g_icmpge (pc := 16) (tgt := 30) d_Ref_add_16 rfl ?_ ?_
  · refine g_iconst (pc := 30) (x := 0) d_Ref_add_30 (by decide) ?_
    exact g_zret (pc := 31) d_Ref_add_31 rfl (Nat.le_refl _) (Nat.le_refl _)
  refine g_aload_n (pc := 19) (x := a0) d_Ref_add_19 rfl rfl ?_
  refine g_iload_n (pc := 20) (x := a2) d_Ref_add_20 rfl rfl ?_
  refine g_iload_n (pc := 21) (x := a3) d_Ref_add_21 rfl rfl ?_
  refine g_iload (pc := 22) (x := a4) d_Ref_add_22 rfl ?_
  refine g_vi (pc := 24) (rest := []) (sn_Ref_fits a0 a2 a3 a4 J1) rfl rfl d_Ref_add_24 ck_Ref_93 (Nat.le_of_ble_eq_true rfl) (Nat.le_of_ble_eq_true rfl) (Nat.le_refl _) (Nat.le_refl _) (fun v6 J5 => ?_)
  refine g_ifne (pc := 27) (tgt := 32) d_Ref_add_27 rfl ?_ ?_
  · refine g_bipush (pc := 32) (x := 20) d_Ref_add_32 (by decide) ?_
    refine g_iload_n (pc := 34) (x := a1) d_Ref_add_34 rfl rfl ?_
    refine g_imul (pc := 35) d_Ref_add_35 ?_
    refine g_aload_n (pc := 36) (x := a0) d_Ref_add_36 rfl rfl ?_
    refine g_gr (pc := 37) d_Ref_add_37 fk_Ref_7 (fun v7 => ?_)
    refine g_iload_n (pc := 40) (x := a1) d_Ref_add_40 rfl rfl ?_
    refine g_ldI (pc := 41) d_Ref_add_41 (fun v8 => ?_)
    refine g_iadd (pc := 42) d_Ref_add_42 ?_
    refine g_istore (pc := 43) (x := ((20 * a1) + v8)) d_Ref_add_43 (Nat.le_of_ble_eq_true rfl) ?_
    refine g_aload_n (pc := 45) (x := a0) d_Ref_add_45 rfl rfl ?_
    refine g_gr (pc := 46) d_Ref_add_46 fk_Ref_7 (fun v9 => ?_)
    refine g_iload_n (pc := 49) (x := a1) d_Ref_add_49 rfl rfl ?_
    refine g_ldI (pc := 50) d_Ref_add_50 (fun v10 => ?_)
    refine g_ifne (pc := 51) (tgt := 58) d_Ref_add_51 rfl ?_ ?_
    · refine g_aload_n (pc := 58) (x := a0) d_Ref_add_58 rfl rfl ?_
      refine g_gr (pc := 59) d_Ref_add_59 fk_Ref_22 (fun v11 => ?_)
      refine g_iload (pc := 62) (x := ((20 * a1) + v8)) d_Ref_add_62 rfl ?_
      refine g_iconst (pc := 64) (x := 1) d_Ref_add_64 (by decide) ?_
      refine g_isub (pc := 65) d_Ref_add_65 ?_
      refine g_ldI (pc := 66) d_Ref_add_66 (fun v12 => ?_)
      exact sn_Ref_add_67 _ _ _ _ _ _ _ _ _ rfl rfl rfl rfl rfl rfl
    refine g_iconst (pc := 54) (x := 0) d_Ref_add_54 (by decide) ?_
    refine g_goto (pc := 55) (tgt := 67) d_Ref_add_55 rfl ?_
    exact sn_Ref_add_67 _ _ _ _ _ _ _ _ _ rfl rfl rfl rfl rfl rfl
  refine g_iconst (pc := 30) (x := 0) d_Ref_add_30 (by decide) ?_
  exact g_zret (pc := 31) d_Ref_add_31 rfl (Nat.le_refl _) (Nat.le_refl _)
abbrev c_Ref_clear : gC := (m_Ref_clear, 1, 0, 0, none, 0, 0)
def fn_Ref_clear (a0 : Nat) (a1 : Int32) (I : fm_I) : pR := vi 6 a0 (fn_Ref_module a0 a1 I) (fun v2 J1 => (if v2 = 0 then (ri (-1) J1) else gr 6 a0 0 (fun v3 => ld 0 v3 a1 J1 (fun v4 => gr 6 a0 0 (fun v5 => sI v5 a1 0 J1 (fun J6 => (ri v4 J6)))))))
set_option maxRecDepth 10000 in
theorem sn_Ref_clear (a0 : Nat) (a1 : Int32) (I : fm_I) : gM m_Ref_clear 1 (fn_Ref_clear a0 a1 I) [vR a0, vI a1] I := by
  refine gM_of (by decide) rfl (Nat.le_of_ble_eq_true rfl) ?_
  show gW c_Ref_clear _ _ _ _ _
  unfold fn_Ref_clear
  refine g_aload_n (pc := 0) (x := a0) d_Ref_clear_0 rfl rfl ?_
  refine g_iload_n (pc := 1) (x := a1) d_Ref_clear_1 rfl rfl ?_
  refine g_vi (pc := 2) (rest := []) (sn_Ref_module a0 a1 I) rfl rfl d_Ref_clear_2 ck_Ref_90 (Nat.le_of_ble_eq_true rfl) (Nat.le_of_ble_eq_true rfl) (Nat.le_refl _) (Nat.le_refl _) (fun v2 J1 => ?_)
  refine g_ifne (pc := 5) (tgt := 10) d_Ref_clear_5 rfl ?_ ?_
  · refine g_aload_n (pc := 10) (x := a0) d_Ref_clear_10 rfl rfl ?_
    refine g_gr (pc := 11) d_Ref_clear_11 fk_Ref_7 (fun v3 => ?_)
    refine g_iload_n (pc := 14) (x := a1) d_Ref_clear_14 rfl rfl ?_
    refine g_ldI (pc := 15) d_Ref_clear_15 (fun v4 => ?_)
    refine g_istore_n (pc := 16) (x := v4) d_Ref_clear_16 rfl (Nat.le_of_ble_eq_true rfl) ?_
    refine g_aload_n (pc := 17) (x := a0) d_Ref_clear_17 rfl rfl ?_
    refine g_gr (pc := 18) d_Ref_clear_18 fk_Ref_7 (fun v5 => ?_)
    refine g_iload_n (pc := 21) (x := a1) d_Ref_clear_21 rfl rfl ?_
    refine g_iconst (pc := 22) (x := 0) d_Ref_clear_22 (by decide) ?_
    refine g_sI (pc := 23) d_Ref_clear_23 (fun J6 => ?_)
    refine g_iload_n (pc := 24) (x := v4) d_Ref_clear_24 rfl rfl ?_
    exact g_iret (pc := 25) d_Ref_clear_25 rfl (Nat.le_refl _) (Nat.le_refl _)
  refine g_iconst (pc := 8) (x := (-1)) d_Ref_clear_8 (by decide) ?_
  exact g_iret (pc := 9) d_Ref_clear_9 rfl (Nat.le_refl _) (Nat.le_refl _)
abbrev c_Ref_length : gC := (m_Ref_length, 2, 0, 0, none, 0, 0)
def fn_Ref_length (a0 : Nat) (a1 : Int32) (a2 : Int32) (I : fm_I) : pR := vi 6 a0 (fn_Ref_module a0 a1 I) (fun v2 J1 => (if v2 = 0 then (ri (-1) J1) else (if a2 < 0 then (ri (-1) J1) else (if a2 ≤ 2 then gr 6 a0 0 (fun v3 => ld 0 v3 a1 J1 (fun v4 => vi 6 a0 (fn_Ref_place a0 a1 ((20 * a1) + v4) a2 J1) (fun v6 J5 => (ri v6 J5)))) else (ri (-1) J1)))))
set_option maxRecDepth 10000 in
theorem sn_Ref_length (a0 : Nat) (a1 : Int32) (a2 : Int32) (I : fm_I) : gM m_Ref_length 2 (fn_Ref_length a0 a1 a2 I) [vR a0, vI a1, vI a2] I := by
  refine gM_of (by decide) rfl (Nat.le_of_ble_eq_true rfl) ?_
  show gW c_Ref_length _ _ _ _ _
  unfold fn_Ref_length
  refine g_aload_n (pc := 0) (x := a0) d_Ref_length_0 rfl rfl ?_
  refine g_iload_n (pc := 1) (x := a1) d_Ref_length_1 rfl rfl ?_
  refine g_vi (pc := 2) (rest := []) (sn_Ref_module a0 a1 I) rfl rfl d_Ref_length_2 ck_Ref_90 (Nat.le_of_ble_eq_true rfl) (Nat.le_of_ble_eq_true rfl) (Nat.le_refl _) (Nat.le_refl _) (fun v2 J1 => ?_)
  refine g_ifeq (pc := 5) (tgt := 17) d_Ref_length_5 rfl ?_ ?_
  · refine g_iconst (pc := 17) (x := (-1)) d_Ref_length_17 (by decide) ?_
    exact g_iret (pc := 18) d_Ref_length_18 rfl (Nat.le_refl _) (Nat.le_refl _)
  refine g_iload_n (pc := 8) (x := a2) d_Ref_length_8 rfl rfl ?_
  refine g_iflt (pc := 9) (tgt := 17) d_Ref_length_9 rfl ?_ ?_
  · refine g_iconst (pc := 17) (x := (-1)) d_Ref_length_17 (by decide) ?_
    exact g_iret (pc := 18) d_Ref_length_18 rfl (Nat.le_refl _) (Nat.le_refl _)
  refine g_iload_n (pc := 12) (x := a2) d_Ref_length_12 rfl rfl ?_
  refine g_iconst (pc := 13) (x := 2) d_Ref_length_13 (by decide) ?_
  refine g_icmple (pc := 14) (tgt := 19) d_Ref_length_14 rfl ?_ ?_
  · refine g_aload_n (pc := 19) (x := a0) d_Ref_length_19 rfl rfl ?_
    refine g_iload_n (pc := 20) (x := a1) d_Ref_length_20 rfl rfl ?_
    refine g_bipush (pc := 21) (x := 20) d_Ref_length_21 (by decide) ?_
    refine g_iload_n (pc := 23) (x := a1) d_Ref_length_23 rfl rfl ?_
    refine g_imul (pc := 24) d_Ref_length_24 ?_
    refine g_aload_n (pc := 25) (x := a0) d_Ref_length_25 rfl rfl ?_
    refine g_gr (pc := 26) d_Ref_length_26 fk_Ref_7 (fun v3 => ?_)
    refine g_iload_n (pc := 29) (x := a1) d_Ref_length_29 rfl rfl ?_
    refine g_ldI (pc := 30) d_Ref_length_30 (fun v4 => ?_)
    refine g_iadd (pc := 31) d_Ref_length_31 ?_
    refine g_iload_n (pc := 32) (x := a2) d_Ref_length_32 rfl rfl ?_
    refine g_vi (pc := 33) (rest := []) (sn_Ref_place a0 a1 ((20 * a1) + v4) a2 J1) rfl rfl d_Ref_length_33 ck_Ref_76 (Nat.le_of_ble_eq_true rfl) (Nat.le_of_ble_eq_true rfl) (Nat.le_refl _) (Nat.le_refl _) (fun v6 J5 => ?_)
    exact g_iret (pc := 36) d_Ref_length_36 rfl (Nat.le_refl _) (Nat.le_refl _)
  refine g_iconst (pc := 17) (x := (-1)) d_Ref_length_17 (by decide) ?_
  exact g_iret (pc := 18) d_Ref_length_18 rfl (Nat.le_refl _) (Nat.le_refl _)
abbrev c_Ref_isLong : gC := (m_Ref_isLong, 1, 0, 0, none, 0, 0)
def fn_Ref_isLong (a0 : Nat) (a1 : Int32) (a2 : Int32) (I : fm_I) : pR := vi 6 a0 (fn_Ref_module a0 a1 I) (fun v2 J1 => (if v2 = 0 then (rz 0 J1) else (if a2 < 0 then (rz 0 J1) else gr 6 a0 0 (fun v3 => ld 0 v3 a1 J1 (fun v4 => (if v4 ≤ a2 then (rz 0 J1) else gr 6 a0 1 (fun v5 => ld 0 v5 ((20 * a1) + a2) J1 (fun v6 => (if v6 = 6 then gr 6 a0 5 (fun v7 => ld 1 v7 ((20 * a1) + a2) J1 (fun v8 => (if v8 = 0 then (rz 0 J1) else (rz 1 J1)))) else (rz 0 J1))))))))))
set_option maxRecDepth 10000 in
theorem sn_Ref_isLong (a0 : Nat) (a1 : Int32) (a2 : Int32) (I : fm_I) : gM m_Ref_isLong 1 (fn_Ref_isLong a0 a1 a2 I) [vR a0, vI a1, vI a2] I := by
  refine gM_of (by decide) rfl (Nat.le_of_ble_eq_true rfl) ?_
  show gW c_Ref_isLong _ _ _ _ _
  unfold fn_Ref_isLong
  refine g_aload_n (pc := 0) (x := a0) d_Ref_isLong_0 rfl rfl ?_
  refine g_iload_n (pc := 1) (x := a1) d_Ref_isLong_1 rfl rfl ?_
  refine g_vi (pc := 2) (rest := []) (sn_Ref_module a0 a1 I) rfl rfl d_Ref_isLong_2 ck_Ref_90 (Nat.le_of_ble_eq_true rfl) (Nat.le_of_ble_eq_true rfl) (Nat.le_refl _) (Nat.le_refl _) (fun v2 J1 => ?_)
  refine g_ifeq (pc := 5) (tgt := 56) d_Ref_isLong_5 rfl ?_ ?_
  · refine g_iconst (pc := 56) (x := 0) d_Ref_isLong_56 (by decide) ?_
    exact g_zret (pc := 57) d_Ref_isLong_57 rfl (Nat.le_refl _) (Nat.le_refl _)
  refine g_iload_n (pc := 8) (x := a2) d_Ref_isLong_8 rfl rfl ?_
  refine g_iflt (pc := 9) (tgt := 56) d_Ref_isLong_9 rfl ?_ ?_
  · refine g_iconst (pc := 56) (x := 0) d_Ref_isLong_56 (by decide) ?_
    exact g_zret (pc := 57) d_Ref_isLong_57 rfl (Nat.le_refl _) (Nat.le_refl _)
  refine g_iload_n (pc := 12) (x := a2) d_Ref_isLong_12 rfl rfl ?_
  refine g_aload_n (pc := 13) (x := a0) d_Ref_isLong_13 rfl rfl ?_
  refine g_gr (pc := 14) d_Ref_isLong_14 fk_Ref_7 (fun v3 => ?_)
  refine g_iload_n (pc := 17) (x := a1) d_Ref_isLong_17 rfl rfl ?_
  refine g_ldI (pc := 18) d_Ref_isLong_18 (fun v4 => ?_)
  refine g_icmpge (pc := 19) (tgt := 56) d_Ref_isLong_19 rfl ?_ ?_
  · refine g_iconst (pc := 56) (x := 0) d_Ref_isLong_56 (by decide) ?_
    exact g_zret (pc := 57) d_Ref_isLong_57 rfl (Nat.le_refl _) (Nat.le_refl _)
  refine g_aload_n (pc := 22) (x := a0) d_Ref_isLong_22 rfl rfl ?_
  refine g_gr (pc := 23) d_Ref_isLong_23 fk_Ref_13 (fun v5 => ?_)
  refine g_bipush (pc := 26) (x := 20) d_Ref_isLong_26 (by decide) ?_
  refine g_iload_n (pc := 28) (x := a1) d_Ref_isLong_28 rfl rfl ?_
  refine g_imul (pc := 29) d_Ref_isLong_29 ?_
  refine g_iload_n (pc := 30) (x := a2) d_Ref_isLong_30 rfl rfl ?_
  refine g_iadd (pc := 31) d_Ref_isLong_31 ?_
  refine g_ldI (pc := 32) d_Ref_isLong_32 (fun v6 => ?_)
  refine g_bipush (pc := 33) (x := 6) d_Ref_isLong_33 (by decide) ?_
  refine g_icmpne (pc := 35) (tgt := 56) d_Ref_isLong_35 rfl ?_ ?_
  · refine g_iconst (pc := 56) (x := 0) d_Ref_isLong_56 (by decide) ?_
    exact g_zret (pc := 57) d_Ref_isLong_57 rfl (Nat.le_refl _) (Nat.le_refl _)
  refine g_aload_n (pc := 38) (x := a0) d_Ref_isLong_38 rfl rfl ?_
  refine g_gr (pc := 39) d_Ref_isLong_39 fk_Ref_25 (fun v7 => ?_)
  refine g_bipush (pc := 42) (x := 20) d_Ref_isLong_42 (by decide) ?_
  refine g_iload_n (pc := 44) (x := a1) d_Ref_isLong_44 rfl rfl ?_
  refine g_imul (pc := 45) d_Ref_isLong_45 ?_
  refine g_iload_n (pc := 46) (x := a2) d_Ref_isLong_46 rfl rfl ?_
  refine g_iadd (pc := 47) d_Ref_isLong_47 ?_
  refine g_ldZ (pc := 48) d_Ref_isLong_48 (fun v8 => ?_)
  refine g_ifeq (pc := 49) (tgt := 56) d_Ref_isLong_49 rfl ?_ ?_
  · refine g_iconst (pc := 56) (x := 0) d_Ref_isLong_56 (by decide) ?_
    exact g_zret (pc := 57) d_Ref_isLong_57 rfl (Nat.le_refl _) (Nat.le_refl _)
  refine g_iconst (pc := 52) (x := 1) d_Ref_isLong_52 (by decide) ?_
  refine g_goto (pc := 53) (tgt := 57) d_Ref_isLong_53 rfl ?_
  exact g_zret (pc := 57) d_Ref_isLong_57 rfl (Nat.le_refl _) (Nat.le_refl _)
abbrev c_Ref_inArchive : gC := (m_Ref_inArchive, 0, 0, 0, none, 0, 0)
def fn_Ref_inArchive_2 : Nat → Nat → Int32 → Int32 → fm_I → pR
  | 0, _, _, _, _ => none
  | n + 1, a0, a1, a2, I => gi 6 a0 6 I (fun v1 => (if v1 ≤ a2 then (ri (-1) I) else gr 6 a0 7 (fun v2 => ld 0 v2 a2 I (fun v3 => (if v3 = a1 then (ri a2 I) else (fn_Ref_inArchive_2 n a0 a1 (a2 + 1) I))))))
set_option maxRecDepth 10000 in
theorem sn_Ref_inArchive_2 (n : Nat) : ∀ (a0 : Nat) (a1 : Int32) (a2 : Int32) (I : fm_I) (L : Nat → Option am_V), L 0 = some (vR a0) → L 1 = some (vI a1) → L 2 = some (vI a2) → gW c_Ref_inArchive (fn_Ref_inArchive_2 n a0 a1 a2 I) 2 L [] I := by
  induction n with
  | zero =>
    intro a0 a1 a2 I L h0 h1 h2
    unfold fn_Ref_inArchive_2
    exact g_none
  | succ n ih =>
    intro a0 a1 a2 I L h0 h1 h2
    unfold fn_Ref_inArchive_2
    refine g_iload_n (pc := 2) (x := a2) d_Ref_inArchive_2 rfl h2 ?_
    refine g_aload_n (pc := 3) (x := a0) d_Ref_inArchive_3 rfl h0 ?_
    refine g_gi (pc := 4) d_Ref_inArchive_4 fk_Ref_101 (fun v1 => ?_)
    refine g_icmpge (pc := 7) (tgt := 28) d_Ref_inArchive_7 rfl ?_ ?_
    · refine g_iconst (pc := 28) (x := (-1)) d_Ref_inArchive_28 (by decide) ?_
      exact g_iret (pc := 29) d_Ref_inArchive_29 rfl (Nat.le_refl _) (Nat.le_refl _)
    refine g_aload_n (pc := 10) (x := a0) d_Ref_inArchive_10 rfl h0 ?_
    refine g_gr (pc := 11) d_Ref_inArchive_11 fk_Ref_29 (fun v2 => ?_)
    refine g_iload_n (pc := 14) (x := a2) d_Ref_inArchive_14 rfl h2 ?_
    refine g_ldI (pc := 15) d_Ref_inArchive_15 (fun v3 => ?_)
    refine g_iload_n (pc := 16) (x := a1) d_Ref_inArchive_16 rfl h1 ?_
    refine g_icmpne (pc := 17) (tgt := 22) d_Ref_inArchive_17 rfl ?_ ?_
    · refine g_iinc (pc := 22) (x := a2) (w := 1) d_Ref_inArchive_22 h2 (by decide) (Nat.le_of_ble_eq_true rfl) ?_
      refine g_goto (pc := 25) (tgt := 2) d_Ref_inArchive_25 rfl ?_
      exact ih _ _ _ _ _ h0 h1 rfl
    refine g_iload_n (pc := 20) (x := a2) d_Ref_inArchive_20 rfl h2 ?_
    exact g_iret (pc := 21) d_Ref_inArchive_21 rfl (Nat.le_refl _) (Nat.le_refl _)
def fn_Ref_inArchive (a0 : Nat) (a1 : Int32) (I : fm_I) : pR := (fn_Ref_inArchive_2 FU a0 a1 0 I)
set_option maxRecDepth 10000 in
theorem sn_Ref_inArchive (a0 : Nat) (a1 : Int32) (I : fm_I) : gM m_Ref_inArchive 0 (fn_Ref_inArchive a0 a1 I) [vR a0, vI a1] I := by
  refine gM_of (by decide) rfl (Nat.le_of_ble_eq_true rfl) ?_
  show gW c_Ref_inArchive _ _ _ _ _
  unfold fn_Ref_inArchive
  refine g_iconst (pc := 0) (x := 0) d_Ref_inArchive_0 (by decide) ?_
  refine g_istore_n (pc := 1) (x := 0) d_Ref_inArchive_1 rfl (Nat.le_of_ble_eq_true rfl) ?_
  exact sn_Ref_inArchive_2 FU _ _ _ _ _ rfl rfl rfl
abbrev c_Ref_onLine : gC := (m_Ref_onLine, 0, 0, 0, none, 0, 0)
def fn_Ref_onLine_4 : Nat → Nat → Int32 → Int32 → Int32 → fm_I → pR
  | 0, _, _, _, _, _ => none
  | n + 1, a0, a1, a2, a3, I => gi 6 a0 8 I (fun v1 => (if v1 ≤ a3 then (rz a2 I) else (if a2 = 0 then gr 6 a0 9 (fun v2 => ld 0 v2 a3 I (fun v3 => (if v3 = a1 then (fn_Ref_onLine_4 n a0 a1 1 (a3 + 1) I) else (fn_Ref_onLine_4 n a0 a1 0 (a3 + 1) I)))) else (fn_Ref_onLine_4 n a0 a1 1 (a3 + 1) I))))
set_option maxRecDepth 10000 in
theorem sn_Ref_onLine_4 (n : Nat) : ∀ (a0 : Nat) (a1 : Int32) (a2 : Int32) (a3 : Int32) (I : fm_I) (L : Nat → Option am_V), L 0 = some (vR a0) → L 1 = some (vI a1) → L 2 = some (vI a2) → L 3 = some (vI a3) → gW c_Ref_onLine (fn_Ref_onLine_4 n a0 a1 a2 a3 I) 4 L [] I := by
  induction n with
  | zero =>
    intro a0 a1 a2 a3 I L h0 h1 h2 h3
    unfold fn_Ref_onLine_4
    exact g_none
  | succ n ih =>
    intro a0 a1 a2 a3 I L h0 h1 h2 h3
    unfold fn_Ref_onLine_4
    refine g_iload_n (pc := 4) (x := a3) d_Ref_onLine_4 rfl h3 ?_
    refine g_aload_n (pc := 5) (x := a0) d_Ref_onLine_5 rfl h0 ?_
    refine g_gi (pc := 6) d_Ref_onLine_6 fk_Ref_104 (fun v1 => ?_)
    refine g_icmpge (pc := 9) (tgt := 38) d_Ref_onLine_9 rfl ?_ ?_
    · refine g_iload_n (pc := 38) (x := a2) d_Ref_onLine_38 rfl h2 ?_
      exact g_zret (pc := 39) d_Ref_onLine_39 rfl (Nat.le_refl _) (Nat.le_refl _)
    refine g_iload_n (pc := 12) (x := a2) d_Ref_onLine_12 rfl h2 ?_
    refine g_ifne (pc := 13) (tgt := 26) d_Ref_onLine_13 rfl ?_ ?_
    · refine g_iconst (pc := 26) (x := 1) d_Ref_onLine_26 (by decide) ?_
      refine g_goto (pc := 27) (tgt := 31) d_Ref_onLine_27 rfl ?_
      refine g_istore_n (pc := 31) (x := 1) d_Ref_onLine_31 rfl (Nat.le_of_ble_eq_true rfl) ?_
      refine g_iinc (pc := 32) (x := a3) (w := 1) d_Ref_onLine_32 h3 (by decide) (Nat.le_of_ble_eq_true rfl) ?_
      refine g_goto (pc := 35) (tgt := 4) d_Ref_onLine_35 rfl ?_
      exact ih _ _ _ _ _ _ h0 h1 rfl rfl
    refine g_aload_n (pc := 16) (x := a0) d_Ref_onLine_16 rfl h0 ?_
    refine g_gr (pc := 17) d_Ref_onLine_17 fk_Ref_32 (fun v2 => ?_)
    refine g_iload_n (pc := 20) (x := a3) d_Ref_onLine_20 rfl h3 ?_
    refine g_ldI (pc := 21) d_Ref_onLine_21 (fun v3 => ?_)
    refine g_iload_n (pc := 22) (x := a1) d_Ref_onLine_22 rfl h1 ?_
    refine g_icmpne (pc := 23) (tgt := 30) d_Ref_onLine_23 rfl ?_ ?_
    · refine g_iconst (pc := 30) (x := 0) d_Ref_onLine_30 (by decide) ?_
      refine g_istore_n (pc := 31) (x := 0) d_Ref_onLine_31 rfl (Nat.le_of_ble_eq_true rfl) ?_
      refine g_iinc (pc := 32) (x := a3) (w := 1) d_Ref_onLine_32 h3 (by decide) (Nat.le_of_ble_eq_true rfl) ?_
      refine g_goto (pc := 35) (tgt := 4) d_Ref_onLine_35 rfl ?_
      exact ih _ _ _ _ _ _ h0 h1 rfl rfl
    refine g_iconst (pc := 26) (x := 1) d_Ref_onLine_26 (by decide) ?_
    refine g_goto (pc := 27) (tgt := 31) d_Ref_onLine_27 rfl ?_
    refine g_istore_n (pc := 31) (x := 1) d_Ref_onLine_31 rfl (Nat.le_of_ble_eq_true rfl) ?_
    refine g_iinc (pc := 32) (x := a3) (w := 1) d_Ref_onLine_32 h3 (by decide) (Nat.le_of_ble_eq_true rfl) ?_
    refine g_goto (pc := 35) (tgt := 4) d_Ref_onLine_35 rfl ?_
    exact ih _ _ _ _ _ _ h0 h1 rfl rfl
def fn_Ref_onLine (a0 : Nat) (a1 : Int32) (I : fm_I) : pR := (fn_Ref_onLine_4 FU a0 a1 0 0 I)
set_option maxRecDepth 10000 in
theorem sn_Ref_onLine (a0 : Nat) (a1 : Int32) (I : fm_I) : gM m_Ref_onLine 0 (fn_Ref_onLine a0 a1 I) [vR a0, vI a1] I := by
  refine gM_of (by decide) rfl (Nat.le_of_ble_eq_true rfl) ?_
  show gW c_Ref_onLine _ _ _ _ _
  unfold fn_Ref_onLine
  refine g_iconst (pc := 0) (x := 0) d_Ref_onLine_0 (by decide) ?_
  refine g_istore_n (pc := 1) (x := 0) d_Ref_onLine_1 rfl (Nat.le_of_ble_eq_true rfl) ?_
  refine g_iconst (pc := 2) (x := 0) d_Ref_onLine_2 (by decide) ?_
  refine g_istore_n (pc := 3) (x := 0) d_Ref_onLine_3 rfl (Nat.le_of_ble_eq_true rfl) ?_
  exact sn_Ref_onLine_4 FU _ _ _ _ _ _ rfl rfl rfl rfl
