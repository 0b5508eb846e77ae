abbrev c_Ref_outside : gC := (m_Ref_outside, 5, 0, 0, none, 0, 0)
def fn_Ref_outside_2 : Nat → Nat → Int32 → Int32 → fm_I → pR
  | 0, _, _, _, _ => none
  | n + 1, a0, a1, a2, I => gi 6 a0 11 I (fun v1 => (if v1 ≤ a2 then vi 6 a0 (fn_Ref_largest a0 a1 I) (fun v3 J2 => (if v3 = 0 then (ri (-1) J2) else vi 6 a0 (fn_Ref_sum a0 0 J2) (fun v5 J4 => vi 6 a0 (fn_Ref_sum a0 1 J4) (fun v7 J6 => vi 6 a0 (fn_Ref_sum a0 2 J6) (fun v9 J8 => vi 6 a0 (fn_Ref_commonsBelow a0 a1 J8) (fun v11 J10 => (ri (((v5 + v7) + v9) + v11) J10))))))) else gr 6 a0 12 (fun v12 => ld 0 v12 a2 I (fun v13 => vi 6 a0 (fn_Ref_exports a0 v13 a1 I) (fun v15 J14 => (if v15 = 0 then (fn_Ref_outside_2 n a0 a1 (a2 + 1) J14) else gr 6 a0 12 (fun v16 => ld 0 v16 a2 J14 (fun v17 => vi 6 a0 (fn_Ref_definition a0 v17 a1 J14) (fun v19 J18 => gr 6 a0 12 (fun v20 => ld 0 v20 a2 J18 (fun v21 => vi 6 a0 (fn_Ref_valueOf a0 v21 v19 J18) (fun v23 J22 => (ri v23 J22)))))))))))))
set_option maxRecDepth 10000 in
theorem sn_Ref_outside_2 (n : Nat) : ∀ (a0 : Nat) (a1 : Int32) (a2 : Int32) (I : fm_I) (L : Nat → Option am_V), L 0 = some (vR a0) → L 1 = some (vI a1) → L 2 = some (vI a2) → gW c_Ref_outside (fn_Ref_outside_2 n a0 a1 a2 I) 2 L [] I := by
  induction n with
  | zero =>
    intro a0 a1 a2 I L h0 h1 h2
    unfold fn_Ref_outside_2
    exact g_none
  | succ n ih =>
    intro a0 a1 a2 I L h0 h1 h2
    unfold fn_Ref_outside_2
    refine g_iload_n (pc := 2) (x := a2) d_Ref_outside_2 rfl h2 ?_
    refine g_aload_n (pc := 3) (x := a0) d_Ref_outside_3 rfl h0 ?_
    refine g_gi (pc := 4) d_Ref_outside_4 fk_Ref_116 (fun v1 => ?_)
    refine g_icmpge (pc := 7) (tgt := 54) d_Ref_outside_7 rfl ?_ ?_
    · refine g_aload_n (pc := 54) (x := a0) d_Ref_outside_54 rfl h0 ?_
      refine g_iload_n (pc := 55) (x := a1) d_Ref_outside_55 rfl h1 ?_
      refine g_vi (pc := 56) (rest := []) (sn_Ref_largest a0 a1 I) rfl rfl d_Ref_outside_56 ck_Ref_128 (Nat.le_of_ble_eq_true rfl) (Nat.le_of_ble_eq_true rfl) (Nat.le_refl _) (Nat.le_refl _) (fun v3 J2 => ?_)
      refine g_ifne (pc := 59) (tgt := 66) d_Ref_outside_59 rfl ?_ ?_
      · refine g_aload_n (pc := 66) (x := a0) d_Ref_outside_66 rfl h0 ?_
        refine g_iconst (pc := 67) (x := 0) d_Ref_outside_67 (by decide) ?_
        refine g_vi (pc := 68) (rest := []) (sn_Ref_sum a0 0 J2) rfl rfl d_Ref_outside_68 ck_Ref_152 (Nat.le_of_ble_eq_true rfl) (Nat.le_of_ble_eq_true rfl) (Nat.le_refl _) (Nat.le_refl _) (fun v5 J4 => ?_)
        refine g_aload_n (pc := 71) (x := a0) d_Ref_outside_71 rfl h0 ?_
        refine g_iconst (pc := 72) (x := 1) d_Ref_outside_72 (by decide) ?_
        refine g_vi (pc := 73) (rest := [vI v5]) (sn_Ref_sum a0 1 J4) rfl rfl d_Ref_outside_73 ck_Ref_152 (Nat.le_of_ble_eq_true rfl) (Nat.le_of_ble_eq_true rfl) (Nat.le_refl _) (Nat.le_refl _) (fun v7 J6 => ?_)
        refine g_iadd (pc := 76) d_Ref_outside_76 ?_
        refine g_aload_n (pc := 77) (x := a0) d_Ref_outside_77 rfl h0 ?_
        refine g_iconst (pc := 78) (x := 2) d_Ref_outside_78 (by decide) ?_
        refine g_vi (pc := 79) (rest := [vI (v5 + v7)]) (sn_Ref_sum a0 2 J6) rfl rfl d_Ref_outside_79 ck_Ref_152 (Nat.le_of_ble_eq_true rfl) (Nat.le_of_ble_eq_true rfl) (Nat.le_refl _) (Nat.le_refl _) (fun v9 J8 => ?_)
        refine g_iadd (pc := 82) d_Ref_outside_82 ?_
        refine g_aload_n (pc := 83) (x := a0) d_Ref_outside_83 rfl h0 ?_
        refine g_iload_n (pc := 84) (x := a1) d_Ref_outside_84 rfl h1 ?_
        refine g_vi (pc := 85) (rest := [vI ((v5 + v7) + v9)]) (sn_Ref_commonsBelow a0 a1 J8) rfl rfl d_Ref_outside_85 ck_Ref_155 (Nat.le_of_ble_eq_true rfl) (Nat.le_of_ble_eq_true rfl) (Nat.le_refl _) (Nat.le_refl _) (fun v11 J10 => ?_)
        refine g_iadd (pc := 88) d_Ref_outside_88 ?_
        exact g_iret (pc := 89) d_Ref_outside_89 rfl (Nat.le_refl _) (Nat.le_refl _)
      refine g_iconst (pc := 62) (x := (-1)) d_Ref_outside_62 (by decide) ?_
      refine g_goto (pc := 63) (tgt := 89) d_Ref_outside_63 rfl ?_
      exact g_iret (pc := 89) d_Ref_outside_89 rfl (Nat.le_refl _) (Nat.le_refl _)
    refine g_aload_n (pc := 10) (x := a0) d_Ref_outside_10 rfl h0 ?_
    refine g_aload_n (pc := 11) (x := a0) d_Ref_outside_11 rfl h0 ?_
    refine g_gr (pc := 12) d_Ref_outside_12 fk_Ref_39 (fun v12 => ?_)
    refine g_iload_n (pc := 15) (x := a2) d_Ref_outside_15 rfl h2 ?_
    refine g_ldI (pc := 16) d_Ref_outside_16 (fun v13 => ?_)
    refine g_iload_n (pc := 17) (x := a1) d_Ref_outside_17 rfl h1 ?_
    refine g_vi (pc := 18) (rest := []) (sn_Ref_exports a0 v13 a1 I) rfl rfl d_Ref_outside_18 ck_Ref_119 (Nat.le_of_ble_eq_true rfl) (Nat.le_of_ble_eq_true rfl) (Nat.le_refl _) (Nat.le_refl _) (fun v15 J14 => ?_)
    refine g_ifeq (pc := 21) (tgt := 48) d_Ref_outside_21 rfl ?_ ?_
    · refine g_iinc (pc := 48) (x := a2) (w := 1) d_Ref_outside_48 h2 (by decide) (Nat.le_of_ble_eq_true rfl) ?_
      refine g_goto (pc := 51) (tgt := 2) d_Ref_outside_51 rfl ?_
      exact ih _ _ _ _ _ h0 h1 rfl
    refine g_aload_n (pc := 24) (x := a0) d_Ref_outside_24 rfl h0 ?_
    refine g_aload_n (pc := 25) (x := a0) d_Ref_outside_25 rfl h0 ?_
    refine g_gr (pc := 26) d_Ref_outside_26 fk_Ref_39 (fun v16 => ?_)
    refine g_iload_n (pc := 29) (x := a2) d_Ref_outside_29 rfl h2 ?_
    refine g_ldI (pc := 30) d_Ref_outside_30 (fun v17 => ?_)
    refine g_iload_n (pc := 31) (x := a1) d_Ref_outside_31 rfl h1 ?_
    refine g_vi (pc := 32) (rest := []) (sn_Ref_definition a0 v17 a1 J14) rfl rfl d_Ref_outside_32 ck_Ref_69 (Nat.le_of_ble_eq_true rfl) (Nat.le_of_ble_eq_true rfl) (Nat.le_refl _) (Nat.le_refl _) (fun v19 J18 => ?_)
    refine g_istore_n (pc := 35) (x := v19) d_Ref_outside_35 rfl (Nat.le_of_ble_eq_true rfl) ?_
    refine g_aload_n (pc := 36) (x := a0) d_Ref_outside_36 rfl h0 ?_
    refine g_aload_n (pc := 37) (x := a0) d_Ref_outside_37 rfl h0 ?_
    refine g_gr (pc := 38) d_Ref_outside_38 fk_Ref_39 (fun v20 => ?_)
    refine g_iload_n (pc := 41) (x := a2) d_Ref_outside_41 rfl h2 ?_
    refine g_ldI (pc := 42) d_Ref_outside_42 (fun v21 => ?_)
    refine g_iload_n (pc := 43) (x := v19) d_Ref_outside_43 rfl rfl ?_
    refine g_vi (pc := 44) (rest := []) (sn_Ref_valueOf a0 v21 v19 J18) rfl rfl d_Ref_outside_44 ck_Ref_149 (Nat.le_of_ble_eq_true rfl) (Nat.le_of_ble_eq_true rfl) (Nat.le_refl _) (Nat.le_refl _) (fun v23 J22 => ?_)
    exact g_iret (pc := 47) d_Ref_outside_47 rfl (Nat.le_refl _) (Nat.le_refl _)
def fn_Ref_outside (a0 : Nat) (a1 : Int32) (I : fm_I) : pR := (fn_Ref_outside_2 FU a0 a1 0 I)
set_option maxRecDepth 10000 in
theorem sn_Ref_outside (a0 : Nat) (a1 : Int32) (I : fm_I) : gM m_Ref_outside 5 (fn_Ref_outside a0 a1 I) [vR a0, vI a1] I := by
  refine gM_of (by decide) rfl (Nat.le_of_ble_eq_true rfl) ?_
  show gW c_Ref_outside _ _ _ _ _
  unfold fn_Ref_outside
  refine g_iconst (pc := 0) (x := 0) d_Ref_outside_0 (by decide) ?_
  refine g_istore_n (pc := 1) (x := 0) d_Ref_outside_1 rfl (Nat.le_of_ble_eq_true rfl) ?_
  exact sn_Ref_outside_2 FU _ _ _ _ _ rfl rfl rfl
abbrev c_Ref_standsFor : gC := (m_Ref_standsFor, 6, 0, 0, none, 0, 0)
def fn_Ref_standsFor (a0 : Nat) (a1 : Int32) (a2 : Int32) (I : fm_I) : pR := vi 6 a0 (fn_Ref_definition a0 a1 a2 I) (fun v2 J1 => (if v2 < 0 then vi 6 a0 (fn_Ref_outside a0 a2 J1) (fun v4 J3 => (ri v4 J3)) else vi 6 a0 (fn_Ref_valueOf a0 a1 v2 J1) (fun v6 J5 => (ri v6 J5))))
set_option maxRecDepth 10000 in
theorem sn_Ref_standsFor (a0 : Nat) (a1 : Int32) (a2 : Int32) (I : fm_I) : gM m_Ref_standsFor 6 (fn_Ref_standsFor a0 a1 a2 I) [vR a0, vI a1, vI a2] I := by
  refine gM_of (by decide) rfl (Nat.le_of_ble_eq_true rfl) ?_
  show gW c_Ref_standsFor _ _ _ _ _
  unfold fn_Ref_standsFor
  refine g_aload_n (pc := 0) (x := a0) d_Ref_standsFor_0 rfl rfl ?_
  refine g_iload_n (pc := 1) (x := a1) d_Ref_standsFor_1 rfl rfl ?_
  refine g_iload_n (pc := 2) (x := a2) d_Ref_standsFor_2 rfl rfl ?_
  refine g_vi (pc := 3) (rest := []) (sn_Ref_definition a0 a1 a2 I) rfl rfl d_Ref_standsFor_3 ck_Ref_69 (Nat.le_of_ble_eq_true rfl) (Nat.le_of_ble_eq_true rfl) (Nat.le_refl _) (Nat.le_refl _) (fun v2 J1 => ?_)
  refine g_istore_n (pc := 6) (x := v2) d_Ref_standsFor_6 rfl (Nat.le_of_ble_eq_true rfl) ?_
  refine g_iload_n (pc := 7) (x := v2) d_Ref_standsFor_7 rfl rfl ?_
  refine g_iflt (pc := 8) (tgt := 20) d_Ref_standsFor_8 rfl ?_ ?_
  · refine g_aload_n (pc := 20) (x := a0) d_Ref_standsFor_20 rfl rfl ?_
    refine g_iload_n (pc := 21) (x := a2) d_Ref_standsFor_21 rfl rfl ?_
    refine g_vi (pc := 22) (rest := []) (sn_Ref_outside a0 a2 J1) rfl rfl d_Ref_standsFor_22 ck_Ref_158 (Nat.le_of_ble_eq_true rfl) (Nat.le_of_ble_eq_true rfl) (Nat.le_refl _) (Nat.le_refl _) (fun v4 J3 => ?_)
    exact g_iret (pc := 25) d_Ref_standsFor_25 rfl (Nat.le_refl _) (Nat.le_refl _)
  refine g_aload_n (pc := 11) (x := a0) d_Ref_standsFor_11 rfl rfl ?_
  refine g_iload_n (pc := 12) (x := a1) d_Ref_standsFor_12 rfl rfl ?_
  refine g_iload_n (pc := 13) (x := v2) d_Ref_standsFor_13 rfl rfl ?_
  refine g_vi (pc := 14) (rest := []) (sn_Ref_valueOf a0 a1 v2 J1) rfl rfl d_Ref_standsFor_14 ck_Ref_149 (Nat.le_of_ble_eq_true rfl) (Nat.le_of_ble_eq_true rfl) (Nat.le_refl _) (Nat.le_refl _) (fun v6 J5 => ?_)
  refine g_goto (pc := 17) (tgt := 25) d_Ref_standsFor_17 rfl ?_
  exact g_iret (pc := 25) d_Ref_standsFor_25 rfl (Nat.le_refl _) (Nat.le_refl _)
abbrev c_Ref_write : gC := (m_Ref_write, 7, 0, 0, none, 0, 0)
def fn_Ref_write_158 (a0 : Nat) (a1 : Int32) (a2 : Int32) (a4 : Int32) (I : fm_I) : pR := gr 6 a0 1 (fun v1 => ld 0 v1 a2 I (fun v2 => (if v2 = 6 then gr 6 a0 16 (fun v3 => gr 6 a0 3 (fun v4 => ld 0 v4 a2 I (fun v5 => vi 6 a0 (fn_Ref_distance a0 a1 a2 I) (fun v7 J6 => sI v3 a4 ((36864 + (256 * v5)) + (v7 &&& 255)) J6 (fun J8 => (rv J8)))))) else (rv I))))
set_option maxRecDepth 10000 in
theorem sn_Ref_write_158 : ∀ (a0 : Nat) (a1 : Int32) (a2 : Int32) (a4 : Int32) (I : fm_I) (L : Nat → Option am_V), L 0 = some (vR a0) → L 1 = some (vI a1) → L 2 = some (vI a2) → L 4 = some (vI a4) → gW c_Ref_write (fn_Ref_write_158 a0 a1 a2 a4 I) 158 L [] I := by
  intro a0 a1 a2 a4 I L h0 h1 h2 h4
  unfold fn_Ref_write_158
  refine g_aload_n (pc := 158) (x := a0) d_Ref_write_158 rfl h0 ?_
  refine g_gr (pc := 159) d_Ref_write_159 fk_Ref_13 (fun v1 => ?_)
  refine g_iload_n (pc := 162) (x := a2) d_Ref_write_162 rfl h2 ?_
  refine g_ldI (pc := 163) d_Ref_write_163 (fun v2 => ?_)
  refine g_bipush (pc := 164) (x := 6) d_Ref_write_164 (by decide) ?_
  refine g_icmpne (pc := 166) (tgt := 200) d_Ref_write_166 rfl ?_ ?_
  · exact g_ret (pc := 200) d_Ref_write_200 rfl (Nat.le_refl _) (Nat.le_refl _)
  refine g_aload_n (pc := 169) (x := a0) d_Ref_write_169 rfl h0 ?_
  refine g_gr (pc := 170) d_Ref_write_170 fk_Ref_42 (fun v3 => ?_)
  refine g_iload (pc := 173) (x := a4) d_Ref_write_173 h4 ?_
  refine g_ldc (pc := 175) (x := 36864) d_Ref_write_175 lc_Ref_165 ?_
  refine g_sipush (pc := 177) (x := 256) d_Ref_write_177 (by decide) ?_
  refine g_aload_n (pc := 180) (x := a0) d_Ref_write_180 rfl h0 ?_
  refine g_gr (pc := 181) d_Ref_write_181 fk_Ref_19 (fun v4 => ?_)
  refine g_iload_n (pc := 184) (x := a2) d_Ref_write_184 rfl h2 ?_
  refine g_ldI (pc := 185) d_Ref_write_185 (fun v5 => ?_)
  refine g_imul (pc := 186) d_Ref_write_186 ?_
  refine g_iadd (pc := 187) d_Ref_write_187 ?_
  refine g_aload_n (pc := 188) (x := a0) d_Ref_write_188 rfl h0 ?_
  refine g_iload_n (pc := 189) (x := a1) d_Ref_write_189 rfl h1 ?_
  refine g_iload_n (pc := 190) (x := a2) d_Ref_write_190 rfl h2 ?_
  refine g_vi (pc := 191) (rest := [vI (36864 + (256 * v5)), vI a4, vR v3]) (sn_Ref_distance a0 a1 a2 I) rfl rfl d_Ref_write_191 ck_Ref_80 (Nat.le_of_ble_eq_true rfl) (Nat.le_of_ble_eq_true rfl) (Nat.le_refl _) (Nat.le_refl _) (fun v7 J6 => ?_)
  refine g_sipush (pc := 194) (x := 255) d_Ref_write_194 (by decide) ?_
  refine g_iand (pc := 197) d_Ref_write_197 ?_
  refine g_iadd (pc := 198) d_Ref_write_198 ?_
  refine g_sI (pc := 199) d_Ref_write_199 (fun J8 => ?_)
  exact g_ret (pc := 200) d_Ref_write_200 rfl (Nat.le_refl _) (Nat.le_refl _)
def fn_Ref_write (a0 : Nat) (a1 : Int32) (a2 : Int32) (I : fm_I) : pR := gr 6 a0 4 (fun v1 => ld 0 v1 a2 I (fun v2 => vi 6 a0 (fn_Ref_base a0 a1 v2 I) (fun v4 J3 => gr 6 a0 4 (fun v5 => ld 0 v5 a2 J3 (fun v6 => vi 6 a0 (fn_Ref_place a0 a1 a2 v6 J3) (fun v8 J7 => gr 6 a0 1 (fun v9 => ld 0 v9 a2 J7 (fun v10 => (if v10 = 3 then gr 6 a0 16 (fun v35 => gr 6 a0 2 (fun v36 => ld 0 v36 a2 J7 (fun v37 => sI v35 (v4 + v8) v37 J7 (fun J38 => (rv J38))))) else gr 6 a0 1 (fun v11 => ld 0 v11 a2 J7 (fun v12 => (if v12 = 4 then gr 6 a0 16 (fun v27 => gr 6 a0 2 (fun v28 => ld 0 v28 a2 J7 (fun v29 => vi 6 a0 (fn_Ref_standsFor a0 a1 v29 J7) (fun v31 J30 => gr 6 a0 3 (fun v32 => ld 0 v32 a2 J30 (fun v33 => sI v27 (v4 + v8) ((v31 + v33) &&& 65535) J30 (fun J34 => (rv J34)))))))) else gr 6 a0 1 (fun v13 => ld 0 v13 a2 J7 (fun v14 => (if v14 = 6 then gr 6 a0 5 (fun v15 => ld 1 v15 a2 J7 (fun v16 => (if v16 = 0 then (fn_Ref_write_158 a0 a1 a2 (v4 + v8) J7) else gr 6 a0 16 (fun v17 => gr 6 a0 3 (fun v18 => ld 0 v18 a2 J7 (fun v19 => sI v17 (v4 + v8) (32768 + (256 * v19)) J7 (fun J20 => gr 6 a0 16 (fun v21 => gr 6 a0 2 (fun v22 => ld 0 v22 a2 J20 (fun v23 => vi 6 a0 (fn_Ref_standsFor a0 a1 v23 J20) (fun v25 J24 => sI v21 ((v4 + v8) + 1) v25 J24 (fun J26 => (rv J26))))))))))))) else (fn_Ref_write_158 a0 a1 a2 (v4 + v8) J7))))))))))))))))
set_option maxRecDepth 10000 in
theorem sn_Ref_write (a0 : Nat) (a1 : Int32) (a2 : Int32) (I : fm_I) : gM m_Ref_write 7 (fn_Ref_write a0 a1 a2 I) [vR a0, vI a1, vI a2] I := by
  refine gM_of (by decide) rfl (Nat.le_of_ble_eq_true rfl) ?_
  show gW c_Ref_write _ _ _ _ _
  unfold fn_Ref_write
  refine g_aload_n (pc := 0) (x := a0) d_Ref_write_0 rfl rfl ?_
  refine g_iload_n (pc := 1) (x := a1) d_Ref_write_1 rfl rfl ?_
  refine g_aload_n (pc := 2) (x := a0) d_Ref_write_2 rfl rfl ?_
  refine g_gr (pc := 3) d_Ref_write_3 fk_Ref_22 (fun v1 => ?_)
  refine g_iload_n (pc := 6) (x := a2) d_Ref_write_6 rfl rfl ?_
  refine g_ldI (pc := 7) d_Ref_write_7 (fun v2 => ?_)
  refine g_vi (pc := 8) (rest := []) (sn_Ref_base a0 a1 v2 I) rfl rfl d_Ref_write_8 ck_Ref_146 (Nat.le_of_ble_eq_true rfl) (Nat.le_of_ble_eq_true rfl) (Nat.le_refl _) (Nat.le_refl _) (fun v4 J3 => ?_)
  refine g_istore_n (pc := 11) (x := v4) d_Ref_write_11 rfl (Nat.le_of_ble_eq_true rfl) ?_
  refine g_iload_n (pc := 12) (x := v4) d_Ref_write_12 rfl rfl ?_
  refine g_aload_n (pc := 13) (x := a0) d_Ref_write_13 rfl rfl ?_
  refine g_iload_n (pc := 14) (x := a1) d_Ref_write_14 rfl rfl ?_
  refine g_iload_n (pc := 15) (x := a2) d_Ref_write_15 rfl rfl ?_
  refine g_aload_n (pc := 16) (x := a0) d_Ref_write_16 rfl rfl ?_
  refine g_gr (pc := 17) d_Ref_write_17 fk_Ref_22 (fun v5 => ?_)
  refine g_iload_n (pc := 20) (x := a2) d_Ref_write_20 rfl rfl ?_
  refine g_ldI (pc := 21) d_Ref_write_21 (fun v6 => ?_)
  refine g_vi (pc := 22) (rest := [vI v4]) (sn_Ref_place a0 a1 a2 v6 J3) rfl rfl d_Ref_write_22 ck_Ref_76 (Nat.le_of_ble_eq_true rfl) (Nat.le_of_ble_eq_true rfl) (Nat.le_refl _) (Nat.le_refl _) (fun v8 J7 => ?_)
  refine g_iadd (pc := 25) d_Ref_write_25 ?_
  refine g_istore (pc := 26) (x := (v4 + v8)) d_Ref_write_26 (Nat.le_of_ble_eq_true rfl) ?_
  refine g_aload_n (pc := 28) (x := a0) d_Ref_write_28 rfl rfl ?_
  refine g_gr (pc := 29) d_Ref_write_29 fk_Ref_13 (fun v9 => ?_)
  refine g_iload_n (pc := 32) (x := a2) d_Ref_write_32 rfl rfl ?_
  refine g_ldI (pc := 33) d_Ref_write_33 (fun v10 => ?_)
  refine g_iconst (pc := 34) (x := 3) d_Ref_write_34 (by decide) ?_
  refine g_icmpne (pc := 35) (tgt := 54) d_Ref_write_35 rfl ?_ ?_
  · refine g_aload_n (pc := 54) (x := a0) d_Ref_write_54 rfl rfl ?_
    refine g_gr (pc := 55) d_Ref_write_55 fk_Ref_13 (fun v11 => ?_)
    refine g_iload_n (pc := 58) (x := a2) d_Ref_write_58 rfl rfl ?_
    refine g_ldI (pc := 59) d_Ref_write_59 (fun v12 => ?_)
    refine g_iconst (pc := 60) (x := 4) d_Ref_write_60 (by decide) ?_
    refine g_icmpne (pc := 61) (tgt := 95) d_Ref_write_61 rfl ?_ ?_
    · refine g_aload_n (pc := 95) (x := a0) d_Ref_write_95 rfl rfl ?_
      refine g_gr (pc := 96) d_Ref_write_96 fk_Ref_13 (fun v13 => ?_)
      refine g_iload_n (pc := 99) (x := a2) d_Ref_write_99 rfl rfl ?_
      refine g_ldI (pc := 100) d_Ref_write_100 (fun v14 => ?_)
      refine g_bipush (pc := 101) (x := 6) d_Ref_write_101 (by decide) ?_
      refine g_icmpne (pc := 103) (tgt := 158) d_Ref_write_103 rfl ?_ ?_
      · exact sn_Ref_write_158 _ _ _ _ _ _ rfl rfl rfl rfl
      refine g_aload_n (pc := 106) (x := a0) d_Ref_write_106 rfl rfl ?_
      refine g_gr (pc := 107) d_Ref_write_107 fk_Ref_25 (fun v15 => ?_)
      refine g_iload_n (pc := 110) (x := a2) d_Ref_write_110 rfl rfl ?_
      refine g_ldZ (pc := 111) d_Ref_write_111 (fun v16 => ?_)
      refine g_ifeq (pc := 112) (tgt := 158) d_Ref_write_112 rfl ?_ ?_
      · exact sn_Ref_write_158 _ _ _ _ _ _ rfl rfl rfl rfl
      refine g_aload_n (pc := 115) (x := a0) d_Ref_write_115 rfl rfl ?_
      refine g_gr (pc := 116) d_Ref_write_116 fk_Ref_42 (fun v17 => ?_)
      refine g_iload (pc := 119) (x := (v4 + v8)) d_Ref_write_119 rfl ?_
      refine g_ldc (pc := 121) (x := 32768) d_Ref_write_121 lc_Ref_164 ?_
      refine g_sipush (pc := 123) (x := 256) d_Ref_write_123 (by decide) ?_
      refine g_aload_n (pc := 126) (x := a0) d_Ref_write_126 rfl rfl ?_
      refine g_gr (pc := 127) d_Ref_write_127 fk_Ref_19 (fun v18 => ?_)
      refine g_iload_n (pc := 130) (x := a2) d_Ref_write_130 rfl rfl ?_
      refine g_ldI (pc := 131) d_Ref_write_131 (fun v19 => ?_)
      refine g_imul (pc := 132) d_Ref_write_132 ?_
      refine g_iadd (pc := 133) d_Ref_write_133 ?_
      refine g_sI (pc := 134) d_Ref_write_134 (fun J20 => ?_)
      refine g_aload_n (pc := 135) (x := a0) d_Ref_write_135 rfl rfl ?_
      refine g_gr (pc := 136) d_Ref_write_136 fk_Ref_42 (fun v21 => ?_)
      refine g_iload (pc := 139) (x := (v4 + v8)) d_Ref_write_139 rfl ?_
      refine g_iconst (pc := 141) (x := 1) d_Ref_write_141 (by decide) ?_
      refine g_iadd (pc := 142) d_Ref_write_142 ?_
      refine g_aload_n (pc := 143) (x := a0) d_Ref_write_143 rfl rfl ?_
      refine g_iload_n (pc := 144) (x := a1) d_Ref_write_144 rfl rfl ?_
      refine g_aload_n (pc := 145) (x := a0) d_Ref_write_145 rfl rfl ?_
      refine g_gr (pc := 146) d_Ref_write_146 fk_Ref_16 (fun v22 => ?_)
      refine g_iload_n (pc := 149) (x := a2) d_Ref_write_149 rfl rfl ?_
      refine g_ldI (pc := 150) d_Ref_write_150 (fun v23 => ?_)
      refine g_vi (pc := 151) (rest := [vI ((v4 + v8) + 1), vR v21]) (sn_Ref_standsFor a0 a1 v23 J20) rfl rfl d_Ref_write_151 ck_Ref_161 (Nat.le_of_ble_eq_true rfl) (Nat.le_of_ble_eq_true rfl) (Nat.le_refl _) (Nat.le_refl _) (fun v25 J24 => ?_)
      refine g_sI (pc := 154) d_Ref_write_154 (fun J26 => ?_)
      refine g_goto (pc := 155) (tgt := 200) d_Ref_write_155 rfl ?_
      exact g_ret (pc := 200) d_Ref_write_200 rfl (Nat.le_refl _) (Nat.le_refl _)
    refine g_aload_n (pc := 64) (x := a0) d_Ref_write_64 rfl rfl ?_
    refine g_gr (pc := 65) d_Ref_write_65 fk_Ref_42 (fun v27 => ?_)
    refine g_iload (pc := 68) (x := (v4 + v8)) d_Ref_write_68 rfl ?_
    refine g_aload_n (pc := 70) (x := a0) d_Ref_write_70 rfl rfl ?_
    refine g_iload_n (pc := 71) (x := a1) d_Ref_write_71 rfl rfl ?_
    refine g_aload_n (pc := 72) (x := a0) d_Ref_write_72 rfl rfl ?_
    refine g_gr (pc := 73) d_Ref_write_73 fk_Ref_16 (fun v28 => ?_)
    refine g_iload_n (pc := 76) (x := a2) d_Ref_write_76 rfl rfl ?_
    refine g_ldI (pc := 77) d_Ref_write_77 (fun v29 => ?_)
    refine g_vi (pc := 78) (rest := [vI (v4 + v8), vR v27]) (sn_Ref_standsFor a0 a1 v29 J7) rfl rfl d_Ref_write_78 ck_Ref_161 (Nat.le_of_ble_eq_true rfl) (Nat.le_of_ble_eq_true rfl) (Nat.le_refl _) (Nat.le_refl _) (fun v31 J30 => ?_)
    refine g_aload_n (pc := 81) (x := a0) d_Ref_write_81 rfl rfl ?_
    refine g_gr (pc := 82) d_Ref_write_82 fk_Ref_19 (fun v32 => ?_)
    refine g_iload_n (pc := 85) (x := a2) d_Ref_write_85 rfl rfl ?_
    refine g_ldI (pc := 86) d_Ref_write_86 (fun v33 => ?_)
    refine g_iadd (pc := 87) d_Ref_write_87 ?_
    refine g_ldc (pc := 88) (x := 65535) d_Ref_write_88 lc_Ref_60 ?_
    refine g_iand (pc := 90) d_Ref_write_90 ?_
    refine g_sI (pc := 91) d_Ref_write_91 (fun J34 => ?_)
    refine g_goto (pc := 92) (tgt := 200) d_Ref_write_92 rfl ?_
    exact g_ret (pc := 200) d_Ref_write_200 rfl (Nat.le_refl _) (Nat.le_refl _)
  refine g_aload_n (pc := 38) (x := a0) d_Ref_write_38 rfl rfl ?_
  refine g_gr (pc := 39) d_Ref_write_39 fk_Ref_42 (fun v35 => ?_)
  refine g_iload (pc := 42) (x := (v4 + v8)) d_Ref_write_42 rfl ?_
  refine g_aload_n (pc := 44) (x := a0) d_Ref_write_44 rfl rfl ?_
  refine g_gr (pc := 45) d_Ref_write_45 fk_Ref_16 (fun v36 => ?_)
  refine g_iload_n (pc := 48) (x := a2) d_Ref_write_48 rfl rfl ?_
  refine g_ldI (pc := 49) d_Ref_write_49 (fun v37 => ?_)
  refine g_sI (pc := 50) d_Ref_write_50 (fun J38 => ?_)
  refine g_goto (pc := 51) (tgt := 200) d_Ref_write_51 rfl ?_
  exact g_ret (pc := 200) d_Ref_write_200 rfl (Nat.le_refl _) (Nat.le_refl _)
abbrev c_Ref_layOut : gC := (m_Ref_layOut, 8, 0, 0, none, 0, 0)
def fn_Ref_layOut_44 (K24 : Nat → Int32 → fm_I → pR) : Nat → Nat → Int32 → Int32 → Int32 → fm_I → pR
  | 0, _, _, _, _, _ => none
  | n + 1, a0, a1, a2, a3, I => gr 6 a0 0 (fun v1 => ld 0 v1 a2 I (fun v2 => (if ((20 * a2) + v2) ≤ a3 then (K24 a0 (a1 + 1) I) else vv 6 a0 (fn_Ref_write a0 a2 a3 I) (fun J3 => (fn_Ref_layOut_44 K24 n a0 a1 a2 (a3 + 1) J3)))))
set_option maxRecDepth 10000 in
theorem sn_Ref_layOut_44 (K24 : Nat → Int32 → fm_I → pR) (hK24 : ∀ (a0 : Nat) (a1 : Int32) (I : fm_I) (L : Nat → Option am_V), L 0 = some (vR a0) → L 1 = some (vI a1) → gW c_Ref_layOut (K24 a0 a1 I) 24 L [] I) (n : Nat) : ∀ (a0 : Nat) (a1 : Int32) (a2 : Int32) (a3 : Int32) (I : fm_I) (L : Nat → Option am_V), L 0 = some (vR a0) → L 1 = some (vI a1) → L 2 = some (vI a2) → L 3 = some (vI a3) → gW c_Ref_layOut (fn_Ref_layOut_44 K24 n a0 a1 a2 a3 I) 44 L [] I := by
  induction n with
  | zero =>
    intro a0 a1 a2 a3 I L h0 h1 h2 h3
    unfold fn_Ref_layOut_44
    exact g_none
  | succ n ih =>
    intro a0 a1 a2 a3 I L h0 h1 h2 h3
    unfold fn_Ref_layOut_44
    refine g_iload_n (pc := 44) (x := a3) d_Ref_layOut_44 rfl h3 ?_
    refine g_bipush (pc := 45) (x := 20) d_Ref_layOut_45 (by decide) ?_
    refine g_iload_n (pc := 47) (x := a2) d_Ref_layOut_47 rfl h2 ?_
    refine g_imul (pc := 48) d_Ref_layOut_48 ?_
    refine g_aload_n (pc := 49) (x := a0) d_Ref_layOut_49 rfl h0 ?_
    refine g_gr (pc := 50) d_Ref_layOut_50 fk_Ref_7 (fun v1 => ?_)
    refine g_iload_n (pc := 53) (x := a2) d_Ref_layOut_53 rfl h2 ?_
    refine g_ldI (pc := 54) d_Ref_layOut_54 (fun v2 => ?_)
    refine g_iadd (pc := 55) d_Ref_layOut_55 ?_
    refine g_icmpge (pc := 56) (tgt := 71) d_Ref_layOut_56 rfl ?_ ?_
    · refine g_iinc (pc := 71) (x := a1) (w := 1) d_Ref_layOut_71 h1 (by decide) (Nat.le_of_ble_eq_true rfl) ?_
      refine g_goto (pc := 74) (tgt := 24) d_Ref_layOut_74 rfl ?_
      exact hK24 _ _ _ _ h0 rfl
    refine g_aload_n (pc := 59) (x := a0) d_Ref_layOut_59 rfl h0 ?_
    refine g_iload_n (pc := 60) (x := a2) d_Ref_layOut_60 rfl h2 ?_
    refine g_iload_n (pc := 61) (x := a3) d_Ref_layOut_61 rfl h3 ?_
    refine g_vv (pc := 62) (rest := []) (sn_Ref_write a0 a2 a3 I) rfl rfl d_Ref_layOut_62 ck_Ref_166 (Nat.le_of_ble_eq_true rfl) (Nat.le_of_ble_eq_true rfl) (Nat.le_refl _) (Nat.le_refl _) (fun J3 => ?_)
    refine g_iinc (pc := 65) (x := a3) (w := 1) d_Ref_layOut_65 h3 (by decide) (Nat.le_of_ble_eq_true rfl) ?_
    refine g_goto (pc := 68) (tgt := 44) d_Ref_layOut_68 rfl ?_
    exact ih _ _ _ _ _ _ h0 h1 h2 rfl
def fn_Ref_layOut_79 : Nat → Nat → Int32 → fm_I → pR
  | 0, _, _, _ => none
  | n + 1, a0, a1, I => (if 16 ≤ a1 then gr 6 a0 17 (fun v1 => vi 6 a0 (fn_Ref_sum a0 0 I) (fun v3 J2 => sI v1 0 v3 J2 (fun J4 => gr 6 a0 17 (fun v5 => vi 6 a0 (fn_Ref_sum a0 1 J4) (fun v7 J6 => sI v5 1 v7 J6 (fun J8 => gr 6 a0 17 (fun v9 => gi 6 a0 18 J8 (fun v10 => gr 6 a0 17 (fun v11 => ld 0 v11 0 J8 (fun v12 => gr 6 a0 17 (fun v13 => ld 0 v13 1 J8 (fun v14 => sI v9 2 ((v10 - v12) - v14) J8 (fun J15 => gi 6 a0 10 J15 (fun v16 => (if 0 ≤ v16 then gr 6 a0 19 (fun v17 => gi 6 a0 10 J15 (fun v18 => ld 0 v17 v18 J15 (fun v19 => pI 6 a0 20 v19 J15 (fun J20 => pZ 6 a0 14 1 J20 (fun J21 => pZ 6 a0 15 0 J21 (fun J22 => (rv J22))))))) else pI 6 a0 20 0 J15 (fun J23 => pZ 6 a0 14 1 J23 (fun J24 => pZ 6 a0 15 0 J24 (fun J25 => (rv J25))))))))))))))))))) else gr 6 a0 19 (fun v26 => vi 6 a0 (fn_Ref_outside a0 a1 I) (fun v28 J27 => sI v26 a1 v28 J27 (fun J29 => (fn_Ref_layOut_79 n a0 (a1 + 1) J29)))))
set_option maxRecDepth 10000 in
theorem sn_Ref_layOut_79 (n : Nat) : ∀ (a0 : Nat) (a1 : Int32) (I : fm_I) (L : Nat → Option am_V), L 0 = some (vR a0) → L 1 = some (vI a1) → gW c_Ref_layOut (fn_Ref_layOut_79 n a0 a1 I) 79 L [] I := by
  induction n with
  | zero =>
    intro a0 a1 I L h0 h1
    unfold fn_Ref_layOut_79
    exact g_none
  | succ n ih =>
    intro a0 a1 I L h0 h1
    unfold fn_Ref_layOut_79
    refine g_iload_n (pc := 79) (x := a1) d_Ref_layOut_79 rfl h1 ?_
    refine g_bipush (pc := 80) (x := 16) d_Ref_layOut_80 (by decide) ?_
    refine g_icmpge (pc := 82) (tgt := 102) d_Ref_layOut_82 rfl ?_ ?_
    · refine g_aload_n (pc := 102) (x := a0) d_Ref_layOut_102 rfl h0 ?_
      refine g_gr (pc := 103) d_Ref_layOut_103 fk_Ref_45 (fun v1 => ?_)
      refine g_iconst (pc := 106) (x := 0) d_Ref_layOut_106 (by decide) ?_
      refine g_aload_n (pc := 107) (x := a0) d_Ref_layOut_107 rfl h0 ?_
      refine g_iconst (pc := 108) (x := 0) d_Ref_layOut_108 (by decide) ?_
      refine g_vi (pc := 109) (rest := [vI 0, vR v1]) (sn_Ref_sum a0 0 I) rfl rfl d_Ref_layOut_109 ck_Ref_152 (Nat.le_of_ble_eq_true rfl) (Nat.le_of_ble_eq_true rfl) (Nat.le_refl _) (Nat.le_refl _) (fun v3 J2 => ?_)
      refine g_sI (pc := 112) d_Ref_layOut_112 (fun J4 => ?_)
      refine g_aload_n (pc := 113) (x := a0) d_Ref_layOut_113 rfl h0 ?_
      refine g_gr (pc := 114) d_Ref_layOut_114 fk_Ref_45 (fun v5 => ?_)
      refine g_iconst (pc := 117) (x := 1) d_Ref_layOut_117 (by decide) ?_
      refine g_aload_n (pc := 118) (x := a0) d_Ref_layOut_118 rfl h0 ?_
      refine g_iconst (pc := 119) (x := 1) d_Ref_layOut_119 (by decide) ?_
      refine g_vi (pc := 120) (rest := [vI 1, vR v5]) (sn_Ref_sum a0 1 J4) rfl rfl d_Ref_layOut_120 ck_Ref_152 (Nat.le_of_ble_eq_true rfl) (Nat.le_of_ble_eq_true rfl) (Nat.le_refl _) (Nat.le_refl _) (fun v7 J6 => ?_)
      refine g_sI (pc := 123) d_Ref_layOut_123 (fun J8 => ?_)
      refine g_aload_n (pc := 124) (x := a0) d_Ref_layOut_124 rfl h0 ?_
      refine g_gr (pc := 125) d_Ref_layOut_125 fk_Ref_45 (fun v9 => ?_)
      refine g_iconst (pc := 128) (x := 2) d_Ref_layOut_128 (by decide) ?_
      refine g_aload_n (pc := 129) (x := a0) d_Ref_layOut_129 rfl h0 ?_
      refine g_gi (pc := 130) d_Ref_layOut_130 fk_Ref_170 (fun v10 => ?_)
      refine g_aload_n (pc := 133) (x := a0) d_Ref_layOut_133 rfl h0 ?_
      refine g_gr (pc := 134) d_Ref_layOut_134 fk_Ref_45 (fun v11 => ?_)
      refine g_iconst (pc := 137) (x := 0) d_Ref_layOut_137 (by decide) ?_
      refine g_ldI (pc := 138) d_Ref_layOut_138 (fun v12 => ?_)
      refine g_isub (pc := 139) d_Ref_layOut_139 ?_
      refine g_aload_n (pc := 140) (x := a0) d_Ref_layOut_140 rfl h0 ?_
      refine g_gr (pc := 141) d_Ref_layOut_141 fk_Ref_45 (fun v13 => ?_)
      refine g_iconst (pc := 144) (x := 1) d_Ref_layOut_144 (by decide) ?_
      refine g_ldI (pc := 145) d_Ref_layOut_145 (fun v14 => ?_)
      refine g_isub (pc := 146) d_Ref_layOut_146 ?_
      refine g_sI (pc := 147) d_Ref_layOut_147 (fun J15 => ?_)
      refine g_aload_n (pc := 148) (x := a0) d_Ref_layOut_148 rfl h0 ?_
      refine g_aload_n (pc := 149) (x := a0) d_Ref_layOut_149 rfl h0 ?_
      refine g_gi (pc := 150) d_Ref_layOut_150 fk_Ref_35 (fun v16 => ?_)
      refine g_ifge (pc := 153) (tgt := 160) d_Ref_layOut_153 rfl ?_ ?_
      · refine g_aload_n (pc := 160) (x := a0) d_Ref_layOut_160 rfl h0 ?_
        refine g_gr (pc := 161) d_Ref_layOut_161 fk_Ref_48 (fun v17 => ?_)
        refine g_aload_n (pc := 164) (x := a0) d_Ref_layOut_164 rfl h0 ?_
        refine g_gi (pc := 165) d_Ref_layOut_165 fk_Ref_35 (fun v18 => ?_)
        refine g_ldI (pc := 168) d_Ref_layOut_168 (fun v19 => ?_)
        refine g_pI (pc := 169) d_Ref_layOut_169 fp_Ref_173 (fun J20 => ?_)
        refine g_aload_n (pc := 172) (x := a0) d_Ref_layOut_172 rfl h0 ?_
        refine g_iconst (pc := 173) (x := 1) d_Ref_layOut_173 (by decide) ?_
        refine g_pZ (pc := 174) d_Ref_layOut_174 fp_Ref_176 (fun J21 => ?_)
        refine g_aload_n (pc := 177) (x := a0) d_Ref_layOut_177 rfl h0 ?_
        refine g_iconst (pc := 178) (x := 0) d_Ref_layOut_178 (by decide) ?_
        refine g_pZ (pc := 179) d_Ref_layOut_179 fp_Ref_180 (fun J22 => ?_)
        exact g_ret (pc := 182) d_Ref_layOut_182 rfl (Nat.le_refl _) (Nat.le_refl _)
      refine g_iconst (pc := 156) (x := 0) d_Ref_layOut_156 (by decide) ?_
      refine g_goto (pc := 157) (tgt := 169) d_Ref_layOut_157 rfl ?_
      refine g_pI (pc := 169) d_Ref_layOut_169 fp_Ref_173 (fun J23 => ?_)
      refine g_aload_n (pc := 172) (x := a0) d_Ref_layOut_172 rfl h0 ?_
      refine g_iconst (pc := 173) (x := 1) d_Ref_layOut_173 (by decide) ?_
      refine g_pZ (pc := 174) d_Ref_layOut_174 fp_Ref_176 (fun J24 => ?_)
      refine g_aload_n (pc := 177) (x := a0) d_Ref_layOut_177 rfl h0 ?_
      refine g_iconst (pc := 178) (x := 0) d_Ref_layOut_178 (by decide) ?_
      refine g_pZ (pc := 179) d_Ref_layOut_179 fp_Ref_180 (fun J25 => ?_)
      exact g_ret (pc := 182) d_Ref_layOut_182 rfl (Nat.le_refl _) (Nat.le_refl _)
    refine g_aload_n (pc := 85) (x := a0) d_Ref_layOut_85 rfl h0 ?_
    refine g_gr (pc := 86) d_Ref_layOut_86 fk_Ref_48 (fun v26 => ?_)
    refine g_iload_n (pc := 89) (x := a1) d_Ref_layOut_89 rfl h1 ?_
    refine g_aload_n (pc := 90) (x := a0) d_Ref_layOut_90 rfl h0 ?_
    refine g_iload_n (pc := 91) (x := a1) d_Ref_layOut_91 rfl h1 ?_
    refine g_vi (pc := 92) (rest := [vI a1, vR v26]) (sn_Ref_outside a0 a1 I) rfl rfl d_Ref_layOut_92 ck_Ref_158 (Nat.le_of_ble_eq_true rfl) (Nat.le_of_ble_eq_true rfl) (Nat.le_refl _) (Nat.le_refl _) (fun v28 J27 => ?_)
    refine g_sI (pc := 95) d_Ref_layOut_95 (fun J29 => ?_)
    refine g_iinc (pc := 96) (x := a1) (w := 1) d_Ref_layOut_96 h1 (by decide) (Nat.le_of_ble_eq_true rfl) ?_
    refine g_goto (pc := 99) (tgt := 79) d_Ref_layOut_99 rfl ?_
    exact ih _ _ _ _ h0 rfl
def fn_Ref_layOut_24 : Nat → Nat → Int32 → fm_I → pR
  | 0, _, _, _ => none
  | n + 1, a0, a1, I => gi 6 a0 11 I (fun v1 => (if v1 ≤ a1 then (fn_Ref_layOut_79 FU a0 0 I) else gr 6 a0 12 (fun v2 => ld 0 v2 a1 I (fun v3 => (fn_Ref_layOut_44 (fun a0 a1 I => fn_Ref_layOut_24 n a0 a1 I) FU a0 a1 v3 (20 * v3) I)))))
set_option maxRecDepth 10000 in
theorem sn_Ref_layOut_24 (n : Nat) : ∀ (a0 : Nat) (a1 : Int32) (I : fm_I) (L : Nat → Option am_V), L 0 = some (vR a0) → L 1 = some (vI a1) → gW c_Ref_layOut (fn_Ref_layOut_24 n a0 a1 I) 24 L [] I := by
  induction n with
  | zero =>
    intro a0 a1 I L h0 h1
    unfold fn_Ref_layOut_24
    exact g_none
  | succ n ih =>
    intro a0 a1 I L h0 h1
    unfold fn_Ref_layOut_24
    refine g_iload_n (pc := 24) (x := a1) d_Ref_layOut_24 rfl h1 ?_
    refine g_aload_n (pc := 25) (x := a0) d_Ref_layOut_25 rfl h0 ?_
    refine g_gi (pc := 26) d_Ref_layOut_26 fk_Ref_116 (fun v1 => ?_)
    refine g_icmpge (pc := 29) (tgt := 77) d_Ref_layOut_29 rfl ?_ ?_
    · refine g_iconst (pc := 77) (x := 0) d_Ref_layOut_77 (by decide) ?_
      refine g_istore_n (pc := 78) (x := 0) d_Ref_layOut_78 rfl (Nat.le_of_ble_eq_true rfl) ?_
      exact sn_Ref_layOut_79 FU _ _ _ _ h0 rfl
    refine g_aload_n (pc := 32) (x := a0) d_Ref_layOut_32 rfl h0 ?_
    refine g_gr (pc := 33) d_Ref_layOut_33 fk_Ref_39 (fun v2 => ?_)
    refine g_iload_n (pc := 36) (x := a1) d_Ref_layOut_36 rfl h1 ?_
    refine g_ldI (pc := 37) d_Ref_layOut_37 (fun v3 => ?_)
    refine g_istore_n (pc := 38) (x := v3) d_Ref_layOut_38 rfl (Nat.le_of_ble_eq_true rfl) ?_
    refine g_bipush (pc := 39) (x := 20) d_Ref_layOut_39 (by decide) ?_
    refine g_iload_n (pc := 41) (x := v3) d_Ref_layOut_41 rfl rfl ?_
    refine g_imul (pc := 42) d_Ref_layOut_42 ?_
    refine g_istore_n (pc := 43) (x := (20 * v3)) d_Ref_layOut_43 rfl (Nat.le_of_ble_eq_true rfl) ?_
    exact sn_Ref_layOut_44 _ ih FU _ _ _ _ _ _ h0 h1 rfl rfl
def fn_Ref_layOut_2 : Nat → Nat → Int32 → fm_I → pR
  | 0, _, _, _ => none
  | n + 1, a0, a1, I => (if 200 ≤ a1 then (fn_Ref_layOut_24 FU a0 0 I) else gr 6 a0 16 (fun v1 => sI v1 a1 0 I (fun J2 => (fn_Ref_layOut_2 n a0 (a1 + 1) J2))))
set_option maxRecDepth 10000 in
theorem sn_Ref_layOut_2 (n : Nat) : ∀ (a0 : Nat) (a1 : Int32) (I : fm_I) (L : Nat → Option am_V), L 0 = some (vR a0) → L 1 = some (vI a1) → gW c_Ref_layOut (fn_Ref_layOut_2 n a0 a1 I) 2 L [] I := by
  induction n with
  | zero =>
    intro a0 a1 I L h0 h1
    unfold fn_Ref_layOut_2
    exact g_none
  | succ n ih =>
    intro a0 a1 I L h0 h1
    unfold fn_Ref_layOut_2
    refine g_iload_n (pc := 2) (x := a1) d_Ref_layOut_2 rfl h1 ?_
    refine g_sipush (pc := 3) (x := 200) d_Ref_layOut_3 (by decide) ?_
    refine g_icmpge (pc := 6) (tgt := 22) d_Ref_layOut_6 rfl ?_ ?_
    · refine g_iconst (pc := 22) (x := 0) d_Ref_layOut_22 (by decide) ?_
      refine g_istore_n (pc := 23) (x := 0) d_Ref_layOut_23 rfl (Nat.le_of_ble_eq_true rfl) ?_
      exact sn_Ref_layOut_24 FU _ _ _ _ h0 rfl
    refine g_aload_n (pc := 9) (x := a0) d_Ref_layOut_9 rfl h0 ?_
    refine g_gr (pc := 10) d_Ref_layOut_10 fk_Ref_42 (fun v1 => ?_)
    refine g_iload_n (pc := 13) (x := a1) d_Ref_layOut_13 rfl h1 ?_
    refine g_iconst (pc := 14) (x := 0) d_Ref_layOut_14 (by decide) ?_
    refine g_sI (pc := 15) d_Ref_layOut_15 (fun J2 => ?_)
    refine g_iinc (pc := 16) (x := a1) (w := 1) d_Ref_layOut_16 h1 (by decide) (Nat.le_of_ble_eq_true rfl) ?_
    refine g_goto (pc := 19) (tgt := 2) d_Ref_layOut_19 rfl ?_
    exact ih _ _ _ _ h0 rfl
def fn_Ref_layOut (a0 : Nat) (I : fm_I) : pR := (fn_Ref_layOut_2 FU a0 0 I)
set_option maxRecDepth 10000 in
theorem sn_Ref_layOut (a0 : Nat) (I : fm_I) : gM m_Ref_layOut 8 (fn_Ref_layOut a0 I) [vR a0] I := by
  refine gM_of (by decide) rfl (Nat.le_of_ble_eq_true rfl) ?_
  show gW c_Ref_layOut _ _ _ _ _
  unfold fn_Ref_layOut
  refine g_iconst (pc := 0) (x := 0) d_Ref_layOut_0 (by decide) ?_
  refine g_istore_n (pc := 1) (x := 0) d_Ref_layOut_1 rfl (Nat.le_of_ble_eq_true rfl) ?_
  exact sn_Ref_layOut_2 FU _ _ _ _ rfl rfl
abbrev c_Ref_link : gC := (m_Ref_link, 9, 0, 0, none, 0, 0)
def fn_Ref_link_116 (K86 : Nat → Int32 → Int32 → fm_I → pR) (a0 : Nat) (a2 : Int32) (a3 : Int32) (t0 : Nat) (t1 : Int32) (I : fm_I) : pR := pI 6 t0 13 t1 I (fun J1 => (if a2 = 0 then vi 6 a0 (fn_Ref_exporters a0 a3 J1) (fun v3 J2 => (if v3 ≤ 1 then (K86 a0 0 (a3 + 1) J2) else (K86 a0 1 (a3 + 1) J2))) else (K86 a0 1 (a3 + 1) J1)))
set_option maxRecDepth 10000 in
theorem sn_Ref_link_116 (K86 : Nat → Int32 → Int32 → fm_I → pR) (hK86 : ∀ (a0 : Nat) (a2 : Int32) (a3 : Int32) (I : fm_I) (L : Nat → Option am_V), L 0 = some (vR a0) → L 2 = some (vI a2) → L 3 = some (vI a3) → gW c_Ref_link (K86 a0 a2 a3 I) 86 L [] I) : ∀ (a0 : Nat) (a2 : Int32) (a3 : Int32) (t0 : Nat) (t1 : Int32) (I : fm_I) (L : Nat → Option am_V), L 0 = some (vR a0) → L 2 = some (vI a2) → L 3 = some (vI a3) → gW c_Ref_link (fn_Ref_link_116 K86 a0 a2 a3 t0 t1 I) 116 L [vI t1, vR t0] I := by
  intro a0 a2 a3 t0 t1 I L h0 h2 h3
  unfold fn_Ref_link_116
  refine g_pI (pc := 116) d_Ref_link_116 fp_Ref_189 (fun J1 => ?_)
  refine g_iload_n (pc := 119) (x := a2) d_Ref_link_119 rfl h2 ?_
  refine g_ifne (pc := 120) (tgt := 132) d_Ref_link_120 rfl ?_ ?_
  · refine g_iconst (pc := 132) (x := 1) d_Ref_link_132 (by decide) ?_
    refine g_goto (pc := 133) (tgt := 137) d_Ref_link_133 rfl ?_
    refine g_istore_n (pc := 137) (x := 1) d_Ref_link_137 rfl (Nat.le_of_ble_eq_true rfl) ?_
    refine g_iinc (pc := 138) (x := a3) (w := 1) d_Ref_link_138 h3 (by decide) (Nat.le_of_ble_eq_true rfl) ?_
    refine g_goto (pc := 141) (tgt := 86) d_Ref_link_141 rfl ?_
    exact hK86 _ _ _ _ _ h0 rfl rfl
  refine g_aload_n (pc := 123) (x := a0) d_Ref_link_123 rfl h0 ?_
  refine g_iload_n (pc := 124) (x := a3) d_Ref_link_124 rfl h3 ?_
  refine g_vi (pc := 125) (rest := []) (sn_Ref_exporters a0 a3 J1) rfl rfl d_Ref_link_125 ck_Ref_125 (Nat.le_of_ble_eq_true rfl) (Nat.le_of_ble_eq_true rfl) (Nat.le_refl _) (Nat.le_refl _) (fun v3 J2 => ?_)
  refine g_iconst (pc := 128) (x := 1) d_Ref_link_128 (by decide) ?_
  refine g_icmple (pc := 129) (tgt := 136) d_Ref_link_129 rfl ?_ ?_
  · refine g_iconst (pc := 136) (x := 0) d_Ref_link_136 (by decide) ?_
    refine g_istore_n (pc := 137) (x := 0) d_Ref_link_137 rfl (Nat.le_of_ble_eq_true rfl) ?_
    refine g_iinc (pc := 138) (x := a3) (w := 1) d_Ref_link_138 h3 (by decide) (Nat.le_of_ble_eq_true rfl) ?_
    refine g_goto (pc := 141) (tgt := 86) d_Ref_link_141 rfl ?_
    exact hK86 _ _ _ _ _ h0 rfl rfl
  refine g_iconst (pc := 132) (x := 1) d_Ref_link_132 (by decide) ?_
  refine g_goto (pc := 133) (tgt := 137) d_Ref_link_133 rfl ?_
  refine g_istore_n (pc := 137) (x := 1) d_Ref_link_137 rfl (Nat.le_of_ble_eq_true rfl) ?_
  refine g_iinc (pc := 138) (x := a3) (w := 1) d_Ref_link_138 h3 (by decide) (Nat.le_of_ble_eq_true rfl) ?_
  refine g_goto (pc := 141) (tgt := 86) d_Ref_link_141 rfl ?_
  exact hK86 _ _ _ _ _ h0 rfl rfl
def fn_Ref_link_86 : Nat → Nat → Int32 → Int32 → fm_I → pR
  | 0, _, _, _, _ => none
  | n + 1, a0, a2, a3, I => (if 16 ≤ a3 then (if a2 = 0 then gi 6 a0 13 I (fun v1 => (if v1 = 0 then vi 6 a0 (fn_Ref_sum a0 0 I) (fun v3 J2 => vi 6 a0 (fn_Ref_sum a0 1 J2) (fun v5 J4 => vi 6 a0 (fn_Ref_sum a0 2 J4) (fun v7 J6 => vi 6 a0 (fn_Ref_commonsBelow a0 16 J6) (fun v9 J8 => pI 6 a0 18 (((v3 + v5) + v7) + v9) J8 (fun J10 => gi 6 a0 18 J10 (fun v11 => (if v11 ≤ 200 then vv 6 a0 (fn_Ref_layOut a0 J10) (fun J12 => (ri 0 J12)) else (ri (-4) J10)))))))) else (ri (-3) I))) else (ri (-2) I)) else vi 6 a0 (fn_Ref_wanted a0 a3 I) (fun v14 J13 => (if v14 = 0 then gi 6 a0 13 J13 (fun v15 => (fn_Ref_link_116 (fun a0 a2 a3 I => fn_Ref_link_86 n a0 a2 a3 I) a0 a2 a3 a0 v15 J13)) else gi 6 a0 13 J13 (fun v16 => (fn_Ref_link_116 (fun a0 a2 a3 I => fn_Ref_link_86 n a0 a2 a3 I) a0 a2 a3 a0 (v16 ||| ((1 : Int32) <<< ((a3 : Int32) &&& 31))) J13)))))
set_option maxRecDepth 10000 in
theorem sn_Ref_link_86 (n : Nat) : ∀ (a0 : Nat) (a2 : Int32) (a3 : Int32) (I : fm_I) (L : Nat → Option am_V), L 0 = some (vR a0) → L 2 = some (vI a2) → L 3 = some (vI a3) → gW c_Ref_link (fn_Ref_link_86 n a0 a2 a3 I) 86 L [] I := by
  induction n with
  | zero =>
    intro a0 a2 a3 I L h0 h2 h3
    unfold fn_Ref_link_86
    exact g_none
  | succ n ih =>
    intro a0 a2 a3 I L h0 h2 h3
    unfold fn_Ref_link_86
    refine g_iload_n (pc := 86) (x := a3) d_Ref_link_86 rfl h3 ?_
    refine g_bipush (pc := 87) (x := 16) d_Ref_link_87 (by decide) ?_
    refine g_icmpge (pc := 89) (tgt := 144) d_Ref_link_89 rfl ?_ ?_
    · refine g_iload_n (pc := 144) (x := a2) d_Ref_link_144 rfl h2 ?_
      refine g_ifeq (pc := 145) (tgt := 151) d_Ref_link_145 rfl ?_ ?_
      · refine g_aload_n (pc := 151) (x := a0) d_Ref_link_151 rfl h0 ?_
        refine g_gi (pc := 152) d_Ref_link_152 fk_Ref_189 (fun v1 => ?_)
        refine g_ifeq (pc := 155) (tgt := 161) d_Ref_link_155 rfl ?_ ?_
        · refine g_aload_n (pc := 161) (x := a0) d_Ref_link_161 rfl h0 ?_
          refine g_aload_n (pc := 162) (x := a0) d_Ref_link_162 rfl h0 ?_
          refine g_iconst (pc := 163) (x := 0) d_Ref_link_163 (by decide) ?_
          refine g_vi (pc := 164) (rest := [vR a0]) (sn_Ref_sum a0 0 I) rfl rfl d_Ref_link_164 ck_Ref_152 (Nat.le_of_ble_eq_true rfl) (Nat.le_of_ble_eq_true rfl) (Nat.le_refl _) (Nat.le_refl _) (fun v3 J2 => ?_)
          refine g_aload_n (pc := 167) (x := a0) d_Ref_link_167 rfl h0 ?_
          refine g_iconst (pc := 168) (x := 1) d_Ref_link_168 (by decide) ?_
          refine g_vi (pc := 169) (rest := [vI v3, vR a0]) (sn_Ref_sum a0 1 J2) rfl rfl d_Ref_link_169 ck_Ref_152 (Nat.le_of_ble_eq_true rfl) (Nat.le_of_ble_eq_true rfl) (Nat.le_refl _) (Nat.le_refl _) (fun v5 J4 => ?_)
          refine g_iadd (pc := 172) d_Ref_link_172 ?_
          refine g_aload_n (pc := 173) (x := a0) d_Ref_link_173 rfl h0 ?_
          refine g_iconst (pc := 174) (x := 2) d_Ref_link_174 (by decide) ?_
          refine g_vi (pc := 175) (rest := [vI (v3 + v5), vR a0]) (sn_Ref_sum a0 2 J4) rfl rfl d_Ref_link_175 ck_Ref_152 (Nat.le_of_ble_eq_true rfl) (Nat.le_of_ble_eq_true rfl) (Nat.le_refl _) (Nat.le_refl _) (fun v7 J6 => ?_)
          refine g_iadd (pc := 178) d_Ref_link_178 ?_
          refine g_aload_n (pc := 179) (x := a0) d_Ref_link_179 rfl h0 ?_
          refine g_bipush (pc := 180) (x := 16) d_Ref_link_180 (by decide) ?_
          refine g_vi (pc := 182) (rest := [vI ((v3 + v5) + v7), vR a0]) (sn_Ref_commonsBelow a0 16 J6) rfl rfl d_Ref_link_182 ck_Ref_155 (Nat.le_of_ble_eq_true rfl) (Nat.le_of_ble_eq_true rfl) (Nat.le_refl _) (Nat.le_refl _) (fun v9 J8 => ?_)
          refine g_iadd (pc := 185) d_Ref_link_185 ?_
          refine g_pI (pc := 186) d_Ref_link_186 fp_Ref_170 (fun J10 => ?_)
          refine g_aload_n (pc := 189) (x := a0) d_Ref_link_189 rfl h0 ?_
          refine g_gi (pc := 190) d_Ref_link_190 fk_Ref_170 (fun v11 => ?_)
          refine g_sipush (pc := 193) (x := 200) d_Ref_link_193 (by decide) ?_
          refine g_icmple (pc := 196) (tgt := 202) d_Ref_link_196 rfl ?_ ?_
          · refine g_aload_n (pc := 202) (x := a0) d_Ref_link_202 rfl h0 ?_
            refine g_vv (pc := 203) (rest := []) (sn_Ref_layOut a0 J10) rfl rfl d_Ref_link_203 ck_Ref_192 (Nat.le_of_ble_eq_true rfl) (Nat.le_of_ble_eq_true rfl) (Nat.le_refl _) (Nat.le_refl _) (fun J12 => ?_)
            refine g_iconst (pc := 206) (x := 0) d_Ref_link_206 (by decide) ?_
            exact g_iret (pc := 207) d_Ref_link_207 rfl (Nat.le_refl _) (Nat.le_refl _)
          refine g_bipush (pc := 199) (x := (-4)) d_Ref_link_199 (by decide) ?_
          exact g_iret (pc := 201) d_Ref_link_201 rfl (Nat.le_refl _) (Nat.le_refl _)
        refine g_bipush (pc := 158) (x := (-3)) d_Ref_link_158 (by decide) ?_
        exact g_iret (pc := 160) d_Ref_link_160 rfl (Nat.le_refl _) (Nat.le_refl _)
      refine g_bipush (pc := 148) (x := (-2)) d_Ref_link_148 (by decide) ?_
      exact g_iret (pc := 150) d_Ref_link_150 rfl (Nat.le_refl _) (Nat.le_refl _)
    refine g_aload_n (pc := 92) (x := a0) d_Ref_link_92 rfl h0 ?_
    refine g_aload_n (pc := 93) (x := a0) d_Ref_link_93 rfl h0 ?_
    refine g_iload_n (pc := 94) (x := a3) d_Ref_link_94 rfl h3 ?_
    refine g_vi (pc := 95) (rest := [vR a0]) (sn_Ref_wanted a0 a3 I) rfl rfl d_Ref_link_95 ck_Ref_131 (Nat.le_of_ble_eq_true rfl) (Nat.le_of_ble_eq_true rfl) (Nat.le_refl _) (Nat.le_refl _) (fun v14 J13 => ?_)
    refine g_ifeq (pc := 98) (tgt := 112) d_Ref_link_98 rfl ?_ ?_
    · refine g_aload_n (pc := 112) (x := a0) d_Ref_link_112 rfl h0 ?_
      refine g_gi (pc := 113) d_Ref_link_113 fk_Ref_189 (fun v15 => ?_)
      exact sn_Ref_link_116 _ ih _ _ _ _ _ _ _ h0 h2 h3
    refine g_aload_n (pc := 101) (x := a0) d_Ref_link_101 rfl h0 ?_
    refine g_gi (pc := 102) d_Ref_link_102 fk_Ref_189 (fun v16 => ?_)
    refine g_iconst (pc := 105) (x := 1) d_Ref_link_105 (by decide) ?_
    refine g_iload_n (pc := 106) (x := a3) d_Ref_link_106 rfl h3 ?_
    refine g_ishl (pc := 107) d_Ref_link_107 ?_
    refine g_ior (pc := 108) d_Ref_link_108 ?_
    refine g_goto (pc := 109) (tgt := 116) d_Ref_link_109 rfl ?_
    exact sn_Ref_link_116 _ ih _ _ _ _ _ _ _ h0 h2 h3
def fn_Ref_link_35 : Nat → Nat → Int32 → fm_I → pR
  | 0, _, _, _ => none
  | n + 1, a0, a2, I => gi 6 a0 8 I (fun v1 => (if v1 ≤ a2 then pI 6 a0 13 0 I (fun J2 => (fn_Ref_link_86 FU a0 0 0 J2)) else gr 6 a0 9 (fun v3 => ld 0 v3 a2 I (fun v4 => (if v4 = 6 then vv 6 a0 (fn_Ref_goOver a0 I) (fun J8 => (fn_Ref_link_35 n a0 (a2 + 1) J8)) else gr 6 a0 9 (fun v5 => ld 0 v5 a2 I (fun v6 => vv 6 a0 (fn_Ref_include a0 v6 I) (fun J7 => (fn_Ref_link_35 n a0 (a2 + 1) J7)))))))))
set_option maxRecDepth 10000 in
theorem sn_Ref_link_35 (n : Nat) : ∀ (a0 : Nat) (a2 : Int32) (I : fm_I) (L : Nat → Option am_V), L 0 = some (vR a0) → L 2 = some (vI a2) → gW c_Ref_link (fn_Ref_link_35 n a0 a2 I) 35 L [] I := by
  induction n with
  | zero =>
    intro a0 a2 I L h0 h2
    unfold fn_Ref_link_35
    exact g_none
  | succ n ih =>
    intro a0 a2 I L h0 h2
    unfold fn_Ref_link_35
    refine g_iload_n (pc := 35) (x := a2) d_Ref_link_35 rfl h2 ?_
    refine g_aload_n (pc := 36) (x := a0) d_Ref_link_36 rfl h0 ?_
    refine g_gi (pc := 37) d_Ref_link_37 fk_Ref_104 (fun v1 => ?_)
    refine g_icmpge (pc := 40) (tgt := 77) d_Ref_link_40 rfl ?_ ?_
    · refine g_aload_n (pc := 77) (x := a0) d_Ref_link_77 rfl h0 ?_
      refine g_iconst (pc := 78) (x := 0) d_Ref_link_78 (by decide) ?_
      refine g_pI (pc := 79) d_Ref_link_79 fp_Ref_189 (fun J2 => ?_)
      refine g_iconst (pc := 82) (x := 0) d_Ref_link_82 (by decide) ?_
      refine g_istore_n (pc := 83) (x := 0) d_Ref_link_83 rfl (Nat.le_of_ble_eq_true rfl) ?_
      refine g_iconst (pc := 84) (x := 0) d_Ref_link_84 (by decide) ?_
      refine g_istore_n (pc := 85) (x := 0) d_Ref_link_85 rfl (Nat.le_of_ble_eq_true rfl) ?_
      exact sn_Ref_link_86 FU _ _ _ _ _ h0 rfl rfl
    refine g_aload_n (pc := 43) (x := a0) d_Ref_link_43 rfl h0 ?_
    refine g_gr (pc := 44) d_Ref_link_44 fk_Ref_32 (fun v3 => ?_)
    refine g_iload_n (pc := 47) (x := a2) d_Ref_link_47 rfl h2 ?_
    refine g_ldI (pc := 48) d_Ref_link_48 (fun v4 => ?_)
    refine g_bipush (pc := 49) (x := 6) d_Ref_link_49 (by decide) ?_
    refine g_icmpne (pc := 51) (tgt := 61) d_Ref_link_51 rfl ?_ ?_
    · refine g_aload_n (pc := 61) (x := a0) d_Ref_link_61 rfl h0 ?_
      refine g_aload_n (pc := 62) (x := a0) d_Ref_link_62 rfl h0 ?_
      refine g_gr (pc := 63) d_Ref_link_63 fk_Ref_32 (fun v5 => ?_)
      refine g_iload_n (pc := 66) (x := a2) d_Ref_link_66 rfl h2 ?_
      refine g_ldI (pc := 67) d_Ref_link_67 (fun v6 => ?_)
      refine g_vv (pc := 68) (rest := []) (sn_Ref_include a0 v6 I) rfl rfl d_Ref_link_68 ck_Ref_140 (Nat.le_of_ble_eq_true rfl) (Nat.le_of_ble_eq_true rfl) (Nat.le_refl _) (Nat.le_refl _) (fun J7 => ?_)
      refine g_iinc (pc := 71) (x := a2) (w := 1) d_Ref_link_71 h2 (by decide) (Nat.le_of_ble_eq_true rfl) ?_
      refine g_goto (pc := 74) (tgt := 35) d_Ref_link_74 rfl ?_
      exact ih _ _ _ _ h0 rfl
    refine g_aload_n (pc := 54) (x := a0) d_Ref_link_54 rfl h0 ?_
    refine g_vv (pc := 55) (rest := []) (sn_Ref_goOver a0 I) rfl rfl d_Ref_link_55 ck_Ref_186 (Nat.le_of_ble_eq_true rfl) (Nat.le_of_ble_eq_true rfl) (Nat.le_refl _) (Nat.le_refl _) (fun J8 => ?_)
    refine g_goto (pc := 58) (tgt := 71) d_Ref_link_58 rfl ?_
    refine g_iinc (pc := 71) (x := a2) (w := 1) d_Ref_link_71 h2 (by decide) (Nat.le_of_ble_eq_true rfl) ?_
    refine g_goto (pc := 74) (tgt := 35) d_Ref_link_74 rfl ?_
    exact ih _ _ _ _ h0 rfl
def fn_Ref_link (a0 : Nat) (a1 : Int32) (I : fm_I) : pR := (if a1 < (-1) then (ri (-1) I) else (if a1 ≤ 15 then pZ 6 a0 14 0 I (fun J1 => pZ 6 a0 21 0 J1 (fun J2 => pI 6 a0 10 a1 J2 (fun J3 => pI 6 a0 11 0 J3 (fun J4 => (fn_Ref_link_35 FU a0 0 J4))))) else (ri (-1) I)))
set_option maxRecDepth 10000 in
theorem sn_Ref_link (a0 : Nat) (a1 : Int32) (I : fm_I) : gM m_Ref_link 9 (fn_Ref_link a0 a1 I) [vR a0, vI a1] I := by
  refine gM_of (by decide) rfl (Nat.le_of_ble_eq_true rfl) ?_
  show gW c_Ref_link _ _ _ _ _
  unfold fn_Ref_link
  refine g_iload_n (pc := 0) (x := a1) d_Ref_link_0 rfl rfl ?_
  refine g_iconst (pc := 1) (x := (-1)) d_Ref_link_1 (by decide) ?_
  refine g_icmplt (pc := 2) (tgt := 11) d_Ref_link_2 rfl ?_ ?_
  · refine g_iconst (pc := 11) (x := (-1)) d_Ref_link_11 (by decide) ?_
    exact g_iret (pc := 12) d_Ref_link_12 rfl (Nat.le_refl _) (Nat.le_refl _)
  refine g_iload_n (pc := 5) (x := a1) d_Ref_link_5 rfl rfl ?_
  refine g_bipush (pc := 6) (x := 15) d_Ref_link_6 (by decide) ?_
  refine g_icmple (pc := 8) (tgt := 13) d_Ref_link_8 rfl ?_ ?_
  · refine g_aload_n (pc := 13) (x := a0) d_Ref_link_13 rfl rfl ?_
    refine g_iconst (pc := 14) (x := 0) d_Ref_link_14 (by decide) ?_
    refine g_pZ (pc := 15) d_Ref_link_15 fp_Ref_176 (fun J1 => ?_)
    refine g_aload_n (pc := 18) (x := a0) d_Ref_link_18 rfl rfl ?_
    refine g_iconst (pc := 19) (x := 0) d_Ref_link_19 (by decide) ?_
    refine g_pZ (pc := 20) d_Ref_link_20 fp_Ref_183 (fun J2 => ?_)
    refine g_aload_n (pc := 23) (x := a0) d_Ref_link_23 rfl rfl ?_
    refine g_iload_n (pc := 24) (x := a1) d_Ref_link_24 rfl rfl ?_
    refine g_pI (pc := 25) d_Ref_link_25 fp_Ref_35 (fun J3 => ?_)
    refine g_aload_n (pc := 28) (x := a0) d_Ref_link_28 rfl rfl ?_
    refine g_iconst (pc := 29) (x := 0) d_Ref_link_29 (by decide) ?_
    refine g_pI (pc := 30) d_Ref_link_30 fp_Ref_116 (fun J4 => ?_)
    refine g_iconst (pc := 33) (x := 0) d_Ref_link_33 (by decide) ?_
    refine g_istore_n (pc := 34) (x := 0) d_Ref_link_34 rfl (Nat.le_of_ble_eq_true rfl) ?_
    exact sn_Ref_link_35 FU _ _ _ _ rfl rfl
  refine g_iconst (pc := 11) (x := (-1)) d_Ref_link_11 (by decide) ?_
  exact g_iret (pc := 12) d_Ref_link_12 rfl (Nat.le_refl _) (Nat.le_refl _)
abbrev c_Ref_included : gC := (m_Ref_included, 0, 0, 0, none, 0, 0)
def fn_Ref_included (a0 : Nat) (a1 : Int32) (I : fm_I) : pR := (if a1 < 0 then (ri (-1) I) else gi 6 a0 11 I (fun v1 => (if v1 ≤ a1 then (ri (-1) I) else gr 6 a0 12 (fun v2 => ld 0 v2 a1 I (fun v3 => (ri v3 I))))))
set_option maxRecDepth 10000 in
theorem sn_Ref_included (a0 : Nat) (a1 : Int32) (I : fm_I) : gM m_Ref_included 0 (fn_Ref_included a0 a1 I) [vR a0, vI a1] I := by
  refine gM_of (by decide) rfl (Nat.le_of_ble_eq_true rfl) ?_
  show gW c_Ref_included _ _ _ _ _
  unfold fn_Ref_included
  refine g_iload_n (pc := 0) (x := a1) d_Ref_included_0 rfl rfl ?_
  refine g_iflt (pc := 1) (tgt := 21) d_Ref_included_1 rfl ?_ ?_
  · refine g_iconst (pc := 21) (x := (-1)) d_Ref_included_21 (by decide) ?_
    exact g_iret (pc := 22) d_Ref_included_22 rfl (Nat.le_refl _) (Nat.le_refl _)
  refine g_iload_n (pc := 4) (x := a1) d_Ref_included_4 rfl rfl ?_
  refine g_aload_n (pc := 5) (x := a0) d_Ref_included_5 rfl rfl ?_
  refine g_gi (pc := 6) d_Ref_included_6 fk_Ref_116 (fun v1 => ?_)
  refine g_icmpge (pc := 9) (tgt := 21) d_Ref_included_9 rfl ?_ ?_
  · refine g_iconst (pc := 21) (x := (-1)) d_Ref_included_21 (by decide) ?_
    exact g_iret (pc := 22) d_Ref_included_22 rfl (Nat.le_refl _) (Nat.le_refl _)
  refine g_aload_n (pc := 12) (x := a0) d_Ref_included_12 rfl rfl ?_
  refine g_gr (pc := 13) d_Ref_included_13 fk_Ref_39 (fun v2 => ?_)
  refine g_iload_n (pc := 16) (x := a1) d_Ref_included_16 rfl rfl ?_
  refine g_ldI (pc := 17) d_Ref_included_17 (fun v3 => ?_)
  refine g_goto (pc := 18) (tgt := 22) d_Ref_included_18 rfl ?_
  exact g_iret (pc := 22) d_Ref_included_22 rfl (Nat.le_refl _) (Nat.le_refl _)
abbrev c_Ref_missing : gC := (m_Ref_missing, 0, 0, 0, none, 0, 0)
def fn_Ref_missing (a0 : Nat) (I : fm_I) : pR := gi 6 a0 13 I (fun v1 => (ri v1 I))
set_option maxRecDepth 10000 in
theorem sn_Ref_missing (a0 : Nat) (I : fm_I) : gM m_Ref_missing 0 (fn_Ref_missing a0 I) [vR a0] I := by
  refine gM_of (by decide) rfl (Nat.le_of_ble_eq_true rfl) ?_
  show gW c_Ref_missing _ _ _ _ _
  unfold fn_Ref_missing
  refine g_aload_n (pc := 0) (x := a0) d_Ref_missing_0 rfl rfl ?_
  refine g_gi (pc := 1) d_Ref_missing_1 fk_Ref_189 (fun v1 => ?_)
  exact g_iret (pc := 4) d_Ref_missing_4 rfl (Nat.le_refl _) (Nat.le_refl _)
abbrev c_Ref_size : gC := (m_Ref_size, 0, 0, 0, none, 0, 0)
def fn_Ref_size (a0 : Nat) (a1 : Int32) (I : fm_I) : pR := gi 6 a0 14 I (fun v1 => (if v1 = 0 then (ri (-1) I) else (if a1 < 0 then (ri (-1) I) else (if 2 < a1 then (ri (-1) I) else gr 6 a0 17 (fun v2 => ld 0 v2 a1 I (fun v3 => (ri v3 I)))))))
set_option maxRecDepth 10000 in
theorem sn_Ref_size (a0 : Nat) (a1 : Int32) (I : fm_I) : gM m_Ref_size 0 (fn_Ref_size a0 a1 I) [vR a0, vI a1] I := by
  refine gM_of (by decide) rfl (Nat.le_of_ble_eq_true rfl) ?_
  show gW c_Ref_size _ _ _ _ _
  unfold fn_Ref_size
  refine g_aload_n (pc := 0) (x := a0) d_Ref_size_0 rfl rfl ?_
  refine g_gi (pc := 1) d_Ref_size_1 fk_Ref_176 (fun v1 => ?_)
  refine g_ifeq (pc := 4) (tgt := 25) d_Ref_size_4 rfl ?_ ?_
  · refine g_iconst (pc := 25) (x := (-1)) d_Ref_size_25 (by decide) ?_
    exact g_iret (pc := 26) d_Ref_size_26 rfl (Nat.le_refl _) (Nat.le_refl _)
  refine g_iload_n (pc := 7) (x := a1) d_Ref_size_7 rfl rfl ?_
  refine g_iflt (pc := 8) (tgt := 25) d_Ref_size_8 rfl ?_ ?_
  · refine g_iconst (pc := 25) (x := (-1)) d_Ref_size_25 (by decide) ?_
    exact g_iret (pc := 26) d_Ref_size_26 rfl (Nat.le_refl _) (Nat.le_refl _)
  refine g_iload_n (pc := 11) (x := a1) d_Ref_size_11 rfl rfl ?_
  refine g_iconst (pc := 12) (x := 2) d_Ref_size_12 (by decide) ?_
  refine g_icmpgt (pc := 13) (tgt := 25) d_Ref_size_13 rfl ?_ ?_
  · refine g_iconst (pc := 25) (x := (-1)) d_Ref_size_25 (by decide) ?_
    exact g_iret (pc := 26) d_Ref_size_26 rfl (Nat.le_refl _) (Nat.le_refl _)
  refine g_aload_n (pc := 16) (x := a0) d_Ref_size_16 rfl rfl ?_
  refine g_gr (pc := 17) d_Ref_size_17 fk_Ref_45 (fun v2 => ?_)
  refine g_iload_n (pc := 20) (x := a1) d_Ref_size_20 rfl rfl ?_
  refine g_ldI (pc := 21) d_Ref_size_21 (fun v3 => ?_)
  refine g_goto (pc := 22) (tgt := 26) d_Ref_size_22 rfl ?_
  exact g_iret (pc := 26) d_Ref_size_26 rfl (Nat.le_refl _) (Nat.le_refl _)
abbrev c_Ref_word : gC := (m_Ref_word, 0, 0, 0, none, 0, 0)
def fn_Ref_word (a0 : Nat) (a1 : Int32) (I : fm_I) : pR := gi 6 a0 14 I (fun v1 => (if v1 = 0 then (ri (-1) I) else (if a1 < 0 then (ri (-1) I) else gi 6 a0 18 I (fun v2 => (if v2 ≤ a1 then (ri (-1) I) else gr 6 a0 16 (fun v3 => ld 0 v3 a1 I (fun v4 => (ri v4 I))))))))
set_option maxRecDepth 10000 in
theorem sn_Ref_word (a0 : Nat) (a1 : Int32) (I : fm_I) : gM m_Ref_word 0 (fn_Ref_word a0 a1 I) [vR a0, vI a1] I := by
  refine gM_of (by decide) rfl (Nat.le_of_ble_eq_true rfl) ?_
  show gW c_Ref_word _ _ _ _ _
  unfold fn_Ref_word
  refine g_aload_n (pc := 0) (x := a0) d_Ref_word_0 rfl rfl ?_
  refine g_gi (pc := 1) d_Ref_word_1 fk_Ref_176 (fun v1 => ?_)
  refine g_ifeq (pc := 4) (tgt := 28) d_Ref_word_4 rfl ?_ ?_
  · refine g_iconst (pc := 28) (x := (-1)) d_Ref_word_28 (by decide) ?_
    exact g_iret (pc := 29) d_Ref_word_29 rfl (Nat.le_refl _) (Nat.le_refl _)
  refine g_iload_n (pc := 7) (x := a1) d_Ref_word_7 rfl rfl ?_
  refine g_iflt (pc := 8) (tgt := 28) d_Ref_word_8 rfl ?_ ?_
  · refine g_iconst (pc := 28) (x := (-1)) d_Ref_word_28 (by decide) ?_
    exact g_iret (pc := 29) d_Ref_word_29 rfl (Nat.le_refl _) (Nat.le_refl _)
  refine g_iload_n (pc := 11) (x := a1) d_Ref_word_11 rfl rfl ?_
  refine g_aload_n (pc := 12) (x := a0) d_Ref_word_12 rfl rfl ?_
  refine g_gi (pc := 13) d_Ref_word_13 fk_Ref_170 (fun v2 => ?_)
  refine g_icmpge (pc := 16) (tgt := 28) d_Ref_word_16 rfl ?_ ?_
  · refine g_iconst (pc := 28) (x := (-1)) d_Ref_word_28 (by decide) ?_
    exact g_iret (pc := 29) d_Ref_word_29 rfl (Nat.le_refl _) (Nat.le_refl _)
  refine g_aload_n (pc := 19) (x := a0) d_Ref_word_19 rfl rfl ?_
  refine g_gr (pc := 20) d_Ref_word_20 fk_Ref_42 (fun v3 => ?_)
  refine g_iload_n (pc := 23) (x := a1) d_Ref_word_23 rfl rfl ?_
  refine g_ldI (pc := 24) d_Ref_word_24 (fun v4 => ?_)
  refine g_goto (pc := 25) (tgt := 29) d_Ref_word_25 rfl ?_
  exact g_iret (pc := 29) d_Ref_word_29 rfl (Nat.le_refl _) (Nat.le_refl _)
abbrev c_Ref_symbol : gC := (m_Ref_symbol, 1, 0, 0, none, 0, 0)
def fn_Ref_symbol (a0 : Nat) (a1 : Int32) (I : fm_I) : pR := gi 6 a0 14 I (fun v1 => (if v1 = 0 then (ri (-1) I) else gi 6 a0 15 I (fun v2 => (if v2 = 0 then vi 6 a0 (fn_Ref_name a0 a1 I) (fun v4 J3 => (if v4 = 0 then (ri (-1) J3) else gr 6 a0 19 (fun v5 => ld 0 v5 a1 J3 (fun v6 => (ri v6 J3))))) else (ri (-1) I)))))
set_option maxRecDepth 10000 in
theorem sn_Ref_symbol (a0 : Nat) (a1 : Int32) (I : fm_I) : gM m_Ref_symbol 1 (fn_Ref_symbol a0 a1 I) [vR a0, vI a1] I := by
  refine gM_of (by decide) rfl (Nat.le_of_ble_eq_true rfl) ?_
  show gW c_Ref_symbol _ _ _ _ _
  unfold fn_Ref_symbol
  refine g_aload_n (pc := 0) (x := a0) d_Ref_symbol_0 rfl rfl ?_
  refine g_gi (pc := 1) d_Ref_symbol_1 fk_Ref_176 (fun v1 => ?_)
  refine g_ifeq (pc := 4) (tgt := 31) d_Ref_symbol_4 rfl ?_ ?_
  · refine g_iconst (pc := 31) (x := (-1)) d_Ref_symbol_31 (by decide) ?_
    exact g_iret (pc := 32) d_Ref_symbol_32 rfl (Nat.le_refl _) (Nat.le_refl _)
  refine g_aload_n (pc := 7) (x := a0) d_Ref_symbol_7 rfl rfl ?_
  refine g_gi (pc := 8) d_Ref_symbol_8 fk_Ref_180 (fun v2 => ?_)
  refine g_ifne (pc := 11) (tgt := 31) d_Ref_symbol_11 rfl ?_ ?_
  · refine g_iconst (pc := 31) (x := (-1)) d_Ref_symbol_31 (by decide) ?_
    exact g_iret (pc := 32) d_Ref_symbol_32 rfl (Nat.le_refl _) (Nat.le_refl _)
  refine g_aload_n (pc := 14) (x := a0) d_Ref_symbol_14 rfl rfl ?_
  refine g_iload_n (pc := 15) (x := a1) d_Ref_symbol_15 rfl rfl ?_
  refine g_vi (pc := 16) (rest := []) (sn_Ref_name a0 a1 I) rfl rfl d_Ref_symbol_16 ck_Ref_83 (Nat.le_of_ble_eq_true rfl) (Nat.le_of_ble_eq_true rfl) (Nat.le_refl _) (Nat.le_refl _) (fun v4 J3 => ?_)
  refine g_ifeq (pc := 19) (tgt := 31) d_Ref_symbol_19 rfl ?_ ?_
  · refine g_iconst (pc := 31) (x := (-1)) d_Ref_symbol_31 (by decide) ?_
    exact g_iret (pc := 32) d_Ref_symbol_32 rfl (Nat.le_refl _) (Nat.le_refl _)
  refine g_aload_n (pc := 22) (x := a0) d_Ref_symbol_22 rfl rfl ?_
  refine g_gr (pc := 23) d_Ref_symbol_23 fk_Ref_48 (fun v5 => ?_)
  refine g_iload_n (pc := 26) (x := a1) d_Ref_symbol_26 rfl rfl ?_
  refine g_ldI (pc := 27) d_Ref_symbol_27 (fun v6 => ?_)
  refine g_goto (pc := 28) (tgt := 32) d_Ref_symbol_28 rfl ?_
  exact g_iret (pc := 32) d_Ref_symbol_32 rfl (Nat.le_refl _) (Nat.le_refl _)
abbrev c_Ref_strip : gC := (m_Ref_strip, 0, 0, 0, none, 0, 0)
def fn_Ref_strip (a0 : Nat) (I : fm_I) : pR := gi 6 a0 14 I (fun v1 => (if v1 = 0 then (rz 0 I) else gi 6 a0 15 I (fun v2 => (if v2 = 0 then pZ 6 a0 15 1 I (fun J3 => (rz 1 J3)) else (rz 0 I)))))
set_option maxRecDepth 10000 in
theorem sn_Ref_strip (a0 : Nat) (I : fm_I) : gM m_Ref_strip 0 (fn_Ref_strip a0 I) [vR a0] I := by
  refine gM_of (by decide) rfl (Nat.le_of_ble_eq_true rfl) ?_
  show gW c_Ref_strip _ _ _ _ _
  unfold fn_Ref_strip
  refine g_aload_n (pc := 0) (x := a0) d_Ref_strip_0 rfl rfl ?_
  refine g_gi (pc := 1) d_Ref_strip_1 fk_Ref_176 (fun v1 => ?_)
  refine g_ifeq (pc := 4) (tgt := 14) d_Ref_strip_4 rfl ?_ ?_
  · refine g_iconst (pc := 14) (x := 0) d_Ref_strip_14 (by decide) ?_
    exact g_zret (pc := 15) d_Ref_strip_15 rfl (Nat.le_refl _) (Nat.le_refl _)
  refine g_aload_n (pc := 7) (x := a0) d_Ref_strip_7 rfl rfl ?_
  refine g_gi (pc := 8) d_Ref_strip_8 fk_Ref_180 (fun v2 => ?_)
  refine g_ifeq (pc := 11) (tgt := 16) d_Ref_strip_11 rfl ?_ ?_
  · refine g_aload_n (pc := 16) (x := a0) d_Ref_strip_16 rfl rfl ?_
    refine g_iconst (pc := 17) (x := 1) d_Ref_strip_17 (by decide) ?_
    refine g_pZ (pc := 18) d_Ref_strip_18 fp_Ref_180 (fun J3 => ?_)
    refine g_iconst (pc := 21) (x := 1) d_Ref_strip_21 (by decide) ?_
    exact g_zret (pc := 22) d_Ref_strip_22 rfl (Nat.le_refl _) (Nat.le_refl _)
  refine g_iconst (pc := 14) (x := 0) d_Ref_strip_14 (by decide) ?_
  exact g_zret (pc := 15) d_Ref_strip_15 rfl (Nat.le_refl _) (Nat.le_refl _)
abbrev c_Ref_start : gC := (m_Ref_start, 0, 0, 0, none, 0, 0)
def fn_Ref_start_16 : Nat → Nat → Int32 → fm_I → pR
  | 0, _, _, _ => none
  | n + 1, a0, a1, I => (if 200 ≤ a1 then pI 6 a0 23 0 I (fun J1 => pI 6 a0 24 0 J1 (fun J2 => gi 6 a0 20 J2 (fun v3 => pI 6 a0 25 v3 J2 (fun J4 => pI 6 a0 26 0 J4 (fun J5 => pI 6 a0 27 0 J5 (fun J6 => pI 6 a0 30 0 J6 (fun J7 => pI 6 a0 31 0 J7 (fun J8 => (rz 1 J8))))))))) else gr 6 a0 22 (fun v9 => gr 6 a0 16 (fun v10 => ld 0 v10 a1 I (fun v11 => sI v9 a1 v11 I (fun J12 => (fn_Ref_start_16 n a0 (a1 + 1) J12))))))
set_option maxRecDepth 10000 in
theorem sn_Ref_start_16 (n : Nat) : ∀ (a0 : Nat) (a1 : Int32) (I : fm_I) (L : Nat → Option am_V), L 0 = some (vR a0) → L 1 = some (vI a1) → gW c_Ref_start (fn_Ref_start_16 n a0 a1 I) 16 L [] I := by
  induction n with
  | zero =>
    intro a0 a1 I L h0 h1
    unfold fn_Ref_start_16
    exact g_none
  | succ n ih =>
    intro a0 a1 I L h0 h1
    unfold fn_Ref_start_16
    refine g_iload_n (pc := 16) (x := a1) d_Ref_start_16 rfl h1 ?_
    refine g_sipush (pc := 17) (x := 200) d_Ref_start_17 (by decide) ?_
    refine g_icmpge (pc := 20) (tgt := 41) d_Ref_start_20 rfl ?_ ?_
    · refine g_aload_n (pc := 41) (x := a0) d_Ref_start_41 rfl h0 ?_
      refine g_iconst (pc := 42) (x := 0) d_Ref_start_42 (by decide) ?_
      refine g_pI (pc := 43) d_Ref_start_43 fp_Ref_195 (fun J1 => ?_)
      refine g_aload_n (pc := 46) (x := a0) d_Ref_start_46 rfl h0 ?_
      refine g_iconst (pc := 47) (x := 0) d_Ref_start_47 (by decide) ?_
      refine g_pI (pc := 48) d_Ref_start_48 fp_Ref_198 (fun J2 => ?_)
      refine g_aload_n (pc := 51) (x := a0) d_Ref_start_51 rfl h0 ?_
      refine g_aload_n (pc := 52) (x := a0) d_Ref_start_52 rfl h0 ?_
      refine g_gi (pc := 53) d_Ref_start_53 fk_Ref_173 (fun v3 => ?_)
      refine g_pI (pc := 56) d_Ref_start_56 fp_Ref_201 (fun J4 => ?_)
      refine g_aload_n (pc := 59) (x := a0) d_Ref_start_59 rfl h0 ?_
      refine g_iconst (pc := 60) (x := 0) d_Ref_start_60 (by decide) ?_
      refine g_pI (pc := 61) d_Ref_start_61 fp_Ref_204 (fun J5 => ?_)
      refine g_aload_n (pc := 64) (x := a0) d_Ref_start_64 rfl h0 ?_
      refine g_iconst (pc := 65) (x := 0) d_Ref_start_65 (by decide) ?_
      refine g_pI (pc := 66) d_Ref_start_66 fp_Ref_207 (fun J6 => ?_)
      refine g_aload_n (pc := 69) (x := a0) d_Ref_start_69 rfl h0 ?_
      refine g_iconst (pc := 70) (x := 0) d_Ref_start_70 (by decide) ?_
      refine g_pI (pc := 71) d_Ref_start_71 fp_Ref_210 (fun J7 => ?_)
      refine g_aload_n (pc := 74) (x := a0) d_Ref_start_74 rfl h0 ?_
      refine g_iconst (pc := 75) (x := 0) d_Ref_start_75 (by decide) ?_
      refine g_pI (pc := 76) d_Ref_start_76 fp_Ref_213 (fun J8 => ?_)
      refine g_iconst (pc := 79) (x := 1) d_Ref_start_79 (by decide) ?_
      exact g_zret (pc := 80) d_Ref_start_80 rfl (Nat.le_refl _) (Nat.le_refl _)
    refine g_aload_n (pc := 23) (x := a0) d_Ref_start_23 rfl h0 ?_
    refine g_gr (pc := 24) d_Ref_start_24 fk_Ref_51 (fun v9 => ?_)
    refine g_iload_n (pc := 27) (x := a1) d_Ref_start_27 rfl h1 ?_
    refine g_aload_n (pc := 28) (x := a0) d_Ref_start_28 rfl h0 ?_
    refine g_gr (pc := 29) d_Ref_start_29 fk_Ref_42 (fun v10 => ?_)
    refine g_iload_n (pc := 32) (x := a1) d_Ref_start_32 rfl h1 ?_
    refine g_ldI (pc := 33) d_Ref_start_33 (fun v11 => ?_)
    refine g_sI (pc := 34) d_Ref_start_34 (fun J12 => ?_)
    refine g_iinc (pc := 35) (x := a1) (w := 1) d_Ref_start_35 h1 (by decide) (Nat.le_of_ble_eq_true rfl) ?_
    refine g_goto (pc := 38) (tgt := 16) d_Ref_start_38 rfl ?_
    exact ih _ _ _ _ h0 rfl
def fn_Ref_start (a0 : Nat) (I : fm_I) : pR := gi 6 a0 14 I (fun v1 => (if v1 = 0 then (rz 0 I) else pZ 6 a0 21 1 I (fun J2 => (fn_Ref_start_16 FU a0 0 J2))))
set_option maxRecDepth 10000 in
theorem sn_Ref_start (a0 : Nat) (I : fm_I) : gM m_Ref_start 0 (fn_Ref_start a0 I) [vR a0] I := by
  refine gM_of (by decide) rfl (Nat.le_of_ble_eq_true rfl) ?_
  show gW c_Ref_start _ _ _ _ _
  unfold fn_Ref_start
  refine g_aload_n (pc := 0) (x := a0) d_Ref_start_0 rfl rfl ?_
  refine g_gi (pc := 1) d_Ref_start_1 fk_Ref_176 (fun v1 => ?_)
  refine g_ifne (pc := 4) (tgt := 9) d_Ref_start_4 rfl ?_ ?_
  · refine g_aload_n (pc := 9) (x := a0) d_Ref_start_9 rfl rfl ?_
    refine g_iconst (pc := 10) (x := 1) d_Ref_start_10 (by decide) ?_
    refine g_pZ (pc := 11) d_Ref_start_11 fp_Ref_183 (fun J2 => ?_)
    refine g_iconst (pc := 14) (x := 0) d_Ref_start_14 (by decide) ?_
    refine g_istore_n (pc := 15) (x := 0) d_Ref_start_15 rfl (Nat.le_of_ble_eq_true rfl) ?_
    exact sn_Ref_start_16 FU _ _ _ _ rfl rfl
  refine g_iconst (pc := 7) (x := 0) d_Ref_start_7 (by decide) ?_
  exact g_zret (pc := 8) d_Ref_start_8 rfl (Nat.le_refl _) (Nat.le_refl _)
abbrev c_Ref_feed : gC := (m_Ref_feed, 1, 0, 0, none, 0, 0)
def fn_Ref_feed (a0 : Nat) (a1 : Int32) (I : fm_I) : pR := gi 6 a0 21 I (fun v1 => (if v1 = 0 then (rz 0 I) else vi 6 a0 (fn_Ref_isWord a0 a1 I) (fun v3 J2 => (if v3 = 0 then (rz 0 J2) else gi 6 a0 30 J2 (fun v4 => (if v4 < 8 then gr 6 a0 29 (fun v5 => gi 6 a0 30 J2 (fun v6 => sI v5 v6 a1 J2 (fun J7 => gi 6 a0 30 J7 (fun v8 => pI 6 a0 30 (v8 + 1) J7 (fun J9 => (rz 1 J9)))))) else (rz 0 J2)))))))
set_option maxRecDepth 10000 in
theorem sn_Ref_feed (a0 : Nat) (a1 : Int32) (I : fm_I) : gM m_Ref_feed 1 (fn_Ref_feed a0 a1 I) [vR a0, vI a1] I := by
  refine gM_of (by decide) rfl (Nat.le_of_ble_eq_true rfl) ?_
  show gW c_Ref_feed _ _ _ _ _
  unfold fn_Ref_feed
  refine g_aload_n (pc := 0) (x := a0) d_Ref_feed_0 rfl rfl ?_
  refine g_gi (pc := 1) d_Ref_feed_1 fk_Ref_183 (fun v1 => ?_)
  refine g_ifeq (pc := 4) (tgt := 24) d_Ref_feed_4 rfl ?_ ?_
  · refine g_iconst (pc := 24) (x := 0) d_Ref_feed_24 (by decide) ?_
    exact g_zret (pc := 25) d_Ref_feed_25 rfl (Nat.le_refl _) (Nat.le_refl _)
  refine g_aload_n (pc := 7) (x := a0) d_Ref_feed_7 rfl rfl ?_
  refine g_iload_n (pc := 8) (x := a1) d_Ref_feed_8 rfl rfl ?_
  refine g_vi (pc := 9) (rest := []) (sn_Ref_isWord a0 a1 I) rfl rfl d_Ref_feed_9 ck_Ref_87 (Nat.le_of_ble_eq_true rfl) (Nat.le_of_ble_eq_true rfl) (Nat.le_refl _) (Nat.le_refl _) (fun v3 J2 => ?_)
  refine g_ifeq (pc := 12) (tgt := 24) d_Ref_feed_12 rfl ?_ ?_
  · refine g_iconst (pc := 24) (x := 0) d_Ref_feed_24 (by decide) ?_
    exact g_zret (pc := 25) d_Ref_feed_25 rfl (Nat.le_refl _) (Nat.le_refl _)
  refine g_aload_n (pc := 15) (x := a0) d_Ref_feed_15 rfl rfl ?_
  refine g_gi (pc := 16) d_Ref_feed_16 fk_Ref_210 (fun v4 => ?_)
  refine g_bipush (pc := 19) (x := 8) d_Ref_feed_19 (by decide) ?_
  refine g_icmplt (pc := 21) (tgt := 26) d_Ref_feed_21 rfl ?_ ?_
  · refine g_aload_n (pc := 26) (x := a0) d_Ref_feed_26 rfl rfl ?_
    refine g_gr (pc := 27) d_Ref_feed_27 fk_Ref_57 (fun v5 => ?_)
    refine g_aload_n (pc := 30) (x := a0) d_Ref_feed_30 rfl rfl ?_
    refine g_gi (pc := 31) d_Ref_feed_31 fk_Ref_210 (fun v6 => ?_)
    refine g_iload_n (pc := 34) (x := a1) d_Ref_feed_34 rfl rfl ?_
    refine g_sI (pc := 35) d_Ref_feed_35 (fun J7 => ?_)
    refine g_aload_n (pc := 36) (x := a0) d_Ref_feed_36 rfl rfl ?_
    refine g_dup (pc := 37) d_Ref_feed_37 ?_
    refine g_gi (pc := 38) d_Ref_feed_38 fk_Ref_210 (fun v8 => ?_)
    refine g_iconst (pc := 41) (x := 1) d_Ref_feed_41 (by decide) ?_
    refine g_iadd (pc := 42) d_Ref_feed_42 ?_
    refine g_pI (pc := 43) d_Ref_feed_43 fp_Ref_210 (fun J9 => ?_)
    refine g_iconst (pc := 46) (x := 1) d_Ref_feed_46 (by decide) ?_
    exact g_zret (pc := 47) d_Ref_feed_47 rfl (Nat.le_refl _) (Nat.le_refl _)
  refine g_iconst (pc := 24) (x := 0) d_Ref_feed_24 (by decide) ?_
  exact g_zret (pc := 25) d_Ref_feed_25 rfl (Nat.le_refl _) (Nat.le_refl _)
abbrev c_Ref_there : gC := (m_Ref_there, 0, 0, 0, none, 0, 0)
def fn_Ref_there (a0 : Nat) (a1 : Int32) (I : fm_I) : pR := (if a1 < 0 then (rz 0 I) else gi 6 a0 18 I (fun v1 => (if v1 ≤ a1 then (rz 0 I) else (rz 1 I))))
set_option maxRecDepth 10000 in
theorem sn_Ref_there (a0 : Nat) (a1 : Int32) (I : fm_I) : gM m_Ref_there 0 (fn_Ref_there a0 a1 I) [vR a0, vI a1] I := by
  refine gM_of (by decide) rfl (Nat.le_of_ble_eq_true rfl) ?_
  show gW c_Ref_there _ _ _ _ _
  unfold fn_Ref_there
  refine g_iload_n (pc := 0) (x := a1) d_Ref_there_0 rfl rfl ?_
  refine g_iflt (pc := 1) (tgt := 16) d_Ref_there_1 rfl ?_ ?_
  · refine g_iconst (pc := 16) (x := 0) d_Ref_there_16 (by decide) ?_
    exact g_zret (pc := 17) d_Ref_there_17 rfl (Nat.le_refl _) (Nat.le_refl _)
  refine g_iload_n (pc := 4) (x := a1) d_Ref_there_4 rfl rfl ?_
  refine g_aload_n (pc := 5) (x := a0) d_Ref_there_5 rfl rfl ?_
  refine g_gi (pc := 6) d_Ref_there_6 fk_Ref_170 (fun v1 => ?_)
  refine g_icmpge (pc := 9) (tgt := 16) d_Ref_there_9 rfl ?_ ?_
  · refine g_iconst (pc := 16) (x := 0) d_Ref_there_16 (by decide) ?_
    exact g_zret (pc := 17) d_Ref_there_17 rfl (Nat.le_refl _) (Nat.le_refl _)
  refine g_iconst (pc := 12) (x := 1) d_Ref_there_12 (by decide) ?_
  refine g_goto (pc := 13) (tgt := 17) d_Ref_there_13 rfl ?_
  exact g_zret (pc := 17) d_Ref_there_17 rfl (Nat.le_refl _) (Nat.le_refl _)
