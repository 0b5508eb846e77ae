abbrev c_Mac_doOneWord : gC := (m_Mac_doOneWord, 1, 0, 0, none, 0, 0)
def fn_Mac_doOneWord_23 (a0 : Nat) (a1 : Int32) (a2 : Int32) (I : fm_I) : pR := gi 5 a0 7 I (fun v1 => bi (fn_SL_toWord (v1 + 1) I) (fun v3 J2 => (if a1 = 0 then pI 5 a0 8 1 J2 (fun J4 => gi 5 a0 7 J4 (fun v5 => pI 5 a0 7 v5 J4 (fun J6 => (rv J6)))) else (if a1 = 1 then gi 5 a0 5 J2 (fun v7 => pI 5 a0 5 ((v7 : Int32).toUInt32 >>> (((a2 - a2 / 16 * 16) : Int32).toUInt32 &&& Int32.toUInt32 31)).toInt32 J2 (fun J8 => pI 5 a0 7 v3 J8 (fun J9 => (rv J9)))) else (if a1 = 2 then gi 5 a0 5 J2 (fun v10 => pI 5 a0 5 ((v10 : Int32).toUInt32 >>> (((a2 - a2 / 16 * 16) : Int32).toUInt32 &&& Int32.toUInt32 31)).toInt32 J2 (fun J11 => pI 5 a0 7 v3 J11 (fun J12 => (rv J12)))) else (if a1 = 3 then gi 5 a0 5 J2 (fun v13 => pI 5 a0 5 ((v13 : Int32).toUInt32 >>> (((a2 - a2 / 16 * 16) : Int32).toUInt32 &&& Int32.toUInt32 31)).toInt32 J2 (fun J14 => pI 5 a0 7 v3 J14 (fun J15 => (rv J15)))) else (if a1 = 4 then gi 5 a0 5 J2 (fun v16 => pI 5 a0 5 ((v16 : Int32).toUInt32 >>> (((a2 - a2 / 16 * 16) : Int32).toUInt32 &&& Int32.toUInt32 31)).toInt32 J2 (fun J17 => pI 5 a0 7 v3 J17 (fun J18 => (rv J18)))) else (if a1 = 5 then gi 5 a0 5 J2 (fun v19 => pI 5 a0 5 ((v19 : Int32).toUInt32 >>> (((a2 - a2 / 16 * 16) : Int32).toUInt32 &&& Int32.toUInt32 31)).toInt32 J2 (fun J20 => pI 5 a0 7 v3 J20 (fun J21 => (rv J21)))) else (if a1 = 6 then gi 5 a0 5 J2 (fun v22 => pI 5 a0 5 ((v22 : Int32).toUInt32 >>> (((a2 - a2 / 16 * 16) : Int32).toUInt32 &&& Int32.toUInt32 31)).toInt32 J2 (fun J23 => pI 5 a0 7 v3 J23 (fun J24 => (rv J24)))) else (if a1 = 7 then gi 5 a0 6 J2 (fun v25 => pI 5 a0 7 v25 J2 (fun J26 => (rv J26))) else (if a1 = 8 then gi 5 a0 5 J2 (fun v27 => pI 5 a0 5 ((v27 : Int32).toUInt32 >>> (((a2 - a2 / 16 * 16) : Int32).toUInt32 &&& Int32.toUInt32 31)).toInt32 J2 (fun J28 => pI 5 a0 7 v3 J28 (fun J29 => (rv J29)))) else (if a1 = 9 then vi 5 a0 (fn_Mac_conditionHolds a0 a2 J2) (fun v31 J30 => (if v31 = 0 then pI 5 a0 7 v3 J30 (fun J32 => (rv J32)) else bi (fn_Mac_signed (a2 - a2 / 256 * 256) J30) (fun v34 J33 => bi (fn_SL_toWord (v3 + v34) J33) (fun v36 J35 => pI 5 a0 7 v36 J35 (fun J37 => (rv J37)))))) else (if a1 = 10 then vv 5 a0 (fn_Mac_putOutA a0 J2) (fun J38 => pI 5 a0 7 v3 J38 (fun J39 => (rv J39))) else (if a1 = 11 then vi 5 a0 (fn_Mac_nextOfTape a0 J2) (fun v41 J40 => pI 5 a0 5 v41 J40 (fun J42 => pI 5 a0 7 v3 J42 (fun J43 => (rv J43)))) else (if a1 = 12 then gr 5 a0 0 (fun v44 => gi 5 a0 5 J2 (fun v45 => ld 0 v44 v45 J2 (fun v46 => pI 5 a0 5 v46 J2 (fun J47 => pI 5 a0 7 v3 J47 (fun J48 => (rv J48)))))) else gi 5 a0 5 J2 (fun v49 => pI 5 a0 5 ((v49 : Int32).toUInt32 >>> (((a2 - a2 / 16 * 16) : Int32).toUInt32 &&& Int32.toUInt32 31)).toInt32 J2 (fun J50 => pI 5 a0 7 v3 J50 (fun J51 => (rv J51)))))))))))))))))))
set_option maxRecDepth 10000 in
theorem sn_Mac_doOneWord_23 : ∀ (a0 : Nat) (a1 : Int32) (a2 : Int32) (I : fm_I) (L : Nat → Option am_V), L 0 = some (vR a0) → L 1 = some (vI a1) → L 2 = some (vI a2) → gW c_Mac_doOneWord (fn_Mac_doOneWord_23 a0 a1 a2 I) 23 L [] I := by
  intro a0 a1 a2 I L h0 h1 h2
  unfold fn_Mac_doOneWord_23
  refine g_aload_n (pc := 23) (x := a0) d_Mac_doOneWord_23 rfl h0 ?_
  refine g_gi (pc := 24) d_Mac_doOneWord_24 fk_Mac_53 (fun v1 => ?_)
  refine g_iconst (pc := 27) (x := 1) d_Mac_doOneWord_27 (by decide) ?_
  refine g_iadd (pc := 28) d_Mac_doOneWord_28 ?_
  refine g_ni (pc := 29) (rest := []) (sn_SL_toWord (v1 + 1) I) rfl rfl d_Mac_doOneWord_29 ck_Mac_99 (Nat.le_of_ble_eq_true rfl) (Nat.le_of_ble_eq_true rfl) (Nat.le_refl _) (Nat.le_refl _) (fun v3 J2 => ?_)
  refine g_istore_n (pc := 32) (x := v3) d_Mac_doOneWord_32 rfl (Nat.le_of_ble_eq_true rfl) ?_
  refine g_iload_n (pc := 33) (x := a1) d_Mac_doOneWord_33 rfl h1 ?_
  refine g_sw (c := 0) (fun e0 => ?_) (fun e0 => ?_)
  · refine g_tin (pc := 34) (tgt := 100) (off := 66) e0 d_Mac_doOneWord_34 (by decide) (by decide) (by decide) (by decide) ?_
    refine g_aload_n (pc := 100) (x := a0) d_Mac_doOneWord_100 rfl h0 ?_
    refine g_iconst (pc := 101) (x := 1) d_Mac_doOneWord_101 (by decide) ?_
    refine g_pI (pc := 102) d_Mac_doOneWord_102 fp_Mac_56 (fun J4 => ?_)
    refine g_aload_n (pc := 105) (x := a0) d_Mac_doOneWord_105 rfl h0 ?_
    refine g_gi (pc := 106) d_Mac_doOneWord_106 fk_Mac_53 (fun v5 => ?_)
    refine g_istore_n (pc := 109) (x := v5) d_Mac_doOneWord_109 rfl (Nat.le_of_ble_eq_true rfl) ?_
    refine g_goto (pc := 110) (tgt := 197) d_Mac_doOneWord_110 rfl ?_
    refine g_aload_n (pc := 197) (x := a0) d_Mac_doOneWord_197 rfl h0 ?_
    refine g_iload_n (pc := 198) (x := v5) d_Mac_doOneWord_198 rfl rfl ?_
    refine g_pI (pc := 199) d_Mac_doOneWord_199 fp_Mac_53 (fun J6 => ?_)
    exact g_ret (pc := 202) d_Mac_doOneWord_202 rfl (Nat.le_refl _) (Nat.le_refl _)
  refine g_sw (c := 1) (fun e1 => ?_) (fun e1 => ?_)
  · refine g_tin (pc := 34) (tgt := 184) (off := 150) e1 d_Mac_doOneWord_34 (by decide) (by decide) (by decide) (by decide) ?_
    refine g_aload_n (pc := 184) (x := a0) d_Mac_doOneWord_184 rfl h0 ?_
    refine g_aload_n (pc := 185) (x := a0) d_Mac_doOneWord_185 rfl h0 ?_
    refine g_gi (pc := 186) d_Mac_doOneWord_186 fk_Mac_44 (fun v7 => ?_)
    refine g_iload_n (pc := 189) (x := a2) d_Mac_doOneWord_189 rfl h2 ?_
    refine g_bipush (pc := 190) (x := 16) d_Mac_doOneWord_190 (by decide) ?_
    refine g_irem (pc := 192) d_Mac_doOneWord_192 (by decide) ?_
    refine g_iushr (pc := 193) d_Mac_doOneWord_193 ?_
    refine g_pI (pc := 194) d_Mac_doOneWord_194 fp_Mac_44 (fun J8 => ?_)
    refine g_aload_n (pc := 197) (x := a0) d_Mac_doOneWord_197 rfl h0 ?_
    refine g_iload_n (pc := 198) (x := v3) d_Mac_doOneWord_198 rfl rfl ?_
    refine g_pI (pc := 199) d_Mac_doOneWord_199 fp_Mac_53 (fun J9 => ?_)
    exact g_ret (pc := 202) d_Mac_doOneWord_202 rfl (Nat.le_refl _) (Nat.le_refl _)
  refine g_sw (c := 2) (fun e2 => ?_) (fun e2 => ?_)
  · refine g_tin (pc := 34) (tgt := 184) (off := 150) e2 d_Mac_doOneWord_34 (by decide) (by decide) (by decide) (by decide) ?_
    refine g_aload_n (pc := 184) (x := a0) d_Mac_doOneWord_184 rfl h0 ?_
    refine g_aload_n (pc := 185) (x := a0) d_Mac_doOneWord_185 rfl h0 ?_
    refine g_gi (pc := 186) d_Mac_doOneWord_186 fk_Mac_44 (fun v10 => ?_)
    refine g_iload_n (pc := 189) (x := a2) d_Mac_doOneWord_189 rfl h2 ?_
    refine g_bipush (pc := 190) (x := 16) d_Mac_doOneWord_190 (by decide) ?_
    refine g_irem (pc := 192) d_Mac_doOneWord_192 (by decide) ?_
    refine g_iushr (pc := 193) d_Mac_doOneWord_193 ?_
    refine g_pI (pc := 194) d_Mac_doOneWord_194 fp_Mac_44 (fun J11 => ?_)
    refine g_aload_n (pc := 197) (x := a0) d_Mac_doOneWord_197 rfl h0 ?_
    refine g_iload_n (pc := 198) (x := v3) d_Mac_doOneWord_198 rfl rfl ?_
    refine g_pI (pc := 199) d_Mac_doOneWord_199 fp_Mac_53 (fun J12 => ?_)
    exact g_ret (pc := 202) d_Mac_doOneWord_202 rfl (Nat.le_refl _) (Nat.le_refl _)
  refine g_sw (c := 3) (fun e3 => ?_) (fun e3 => ?_)
  · refine g_tin (pc := 34) (tgt := 184) (off := 150) e3 d_Mac_doOneWord_34 (by decide) (by decide) (by decide) (by decide) ?_
    refine g_aload_n (pc := 184) (x := a0) d_Mac_doOneWord_184 rfl h0 ?_
    refine g_aload_n (pc := 185) (x := a0) d_Mac_doOneWord_185 rfl h0 ?_
    refine g_gi (pc := 186) d_Mac_doOneWord_186 fk_Mac_44 (fun v13 => ?_)
    refine g_iload_n (pc := 189) (x := a2) d_Mac_doOneWord_189 rfl h2 ?_
    refine g_bipush (pc := 190) (x := 16) d_Mac_doOneWord_190 (by decide) ?_
    refine g_irem (pc := 192) d_Mac_doOneWord_192 (by decide) ?_
    refine g_iushr (pc := 193) d_Mac_doOneWord_193 ?_
    refine g_pI (pc := 194) d_Mac_doOneWord_194 fp_Mac_44 (fun J14 => ?_)
    refine g_aload_n (pc := 197) (x := a0) d_Mac_doOneWord_197 rfl h0 ?_
    refine g_iload_n (pc := 198) (x := v3) d_Mac_doOneWord_198 rfl rfl ?_
    refine g_pI (pc := 199) d_Mac_doOneWord_199 fp_Mac_53 (fun J15 => ?_)
    exact g_ret (pc := 202) d_Mac_doOneWord_202 rfl (Nat.le_refl _) (Nat.le_refl _)
  refine g_sw (c := 4) (fun e4 => ?_) (fun e4 => ?_)
  · refine g_tin (pc := 34) (tgt := 184) (off := 150) e4 d_Mac_doOneWord_34 (by decide) (by decide) (by decide) (by decide) ?_
    refine g_aload_n (pc := 184) (x := a0) d_Mac_doOneWord_184 rfl h0 ?_
    refine g_aload_n (pc := 185) (x := a0) d_Mac_doOneWord_185 rfl h0 ?_
    refine g_gi (pc := 186) d_Mac_doOneWord_186 fk_Mac_44 (fun v16 => ?_)
    refine g_iload_n (pc := 189) (x := a2) d_Mac_doOneWord_189 rfl h2 ?_
    refine g_bipush (pc := 190) (x := 16) d_Mac_doOneWord_190 (by decide) ?_
    refine g_irem (pc := 192) d_Mac_doOneWord_192 (by decide) ?_
    refine g_iushr (pc := 193) d_Mac_doOneWord_193 ?_
    refine g_pI (pc := 194) d_Mac_doOneWord_194 fp_Mac_44 (fun J17 => ?_)
    refine g_aload_n (pc := 197) (x := a0) d_Mac_doOneWord_197 rfl h0 ?_
    refine g_iload_n (pc := 198) (x := v3) d_Mac_doOneWord_198 rfl rfl ?_
    refine g_pI (pc := 199) d_Mac_doOneWord_199 fp_Mac_53 (fun J18 => ?_)
    exact g_ret (pc := 202) d_Mac_doOneWord_202 rfl (Nat.le_refl _) (Nat.le_refl _)
  refine g_sw (c := 5) (fun e5 => ?_) (fun e5 => ?_)
  · refine g_tin (pc := 34) (tgt := 184) (off := 150) e5 d_Mac_doOneWord_34 (by decide) (by decide) (by decide) (by decide) ?_
    refine g_aload_n (pc := 184) (x := a0) d_Mac_doOneWord_184 rfl h0 ?_
    refine g_aload_n (pc := 185) (x := a0) d_Mac_doOneWord_185 rfl h0 ?_
    refine g_gi (pc := 186) d_Mac_doOneWord_186 fk_Mac_44 (fun v19 => ?_)
    refine g_iload_n (pc := 189) (x := a2) d_Mac_doOneWord_189 rfl h2 ?_
    refine g_bipush (pc := 190) (x := 16) d_Mac_doOneWord_190 (by decide) ?_
    refine g_irem (pc := 192) d_Mac_doOneWord_192 (by decide) ?_
    refine g_iushr (pc := 193) d_Mac_doOneWord_193 ?_
    refine g_pI (pc := 194) d_Mac_doOneWord_194 fp_Mac_44 (fun J20 => ?_)
    refine g_aload_n (pc := 197) (x := a0) d_Mac_doOneWord_197 rfl h0 ?_
    refine g_iload_n (pc := 198) (x := v3) d_Mac_doOneWord_198 rfl rfl ?_
    refine g_pI (pc := 199) d_Mac_doOneWord_199 fp_Mac_53 (fun J21 => ?_)
    exact g_ret (pc := 202) d_Mac_doOneWord_202 rfl (Nat.le_refl _) (Nat.le_refl _)
  refine g_sw (c := 6) (fun e6 => ?_) (fun e6 => ?_)
  · refine g_tin (pc := 34) (tgt := 184) (off := 150) e6 d_Mac_doOneWord_34 (by decide) (by decide) (by decide) (by decide) ?_
    refine g_aload_n (pc := 184) (x := a0) d_Mac_doOneWord_184 rfl h0 ?_
    refine g_aload_n (pc := 185) (x := a0) d_Mac_doOneWord_185 rfl h0 ?_
    refine g_gi (pc := 186) d_Mac_doOneWord_186 fk_Mac_44 (fun v22 => ?_)
    refine g_iload_n (pc := 189) (x := a2) d_Mac_doOneWord_189 rfl h2 ?_
    refine g_bipush (pc := 190) (x := 16) d_Mac_doOneWord_190 (by decide) ?_
    refine g_irem (pc := 192) d_Mac_doOneWord_192 (by decide) ?_
    refine g_iushr (pc := 193) d_Mac_doOneWord_193 ?_
    refine g_pI (pc := 194) d_Mac_doOneWord_194 fp_Mac_44 (fun J23 => ?_)
    refine g_aload_n (pc := 197) (x := a0) d_Mac_doOneWord_197 rfl h0 ?_
    refine g_iload_n (pc := 198) (x := v3) d_Mac_doOneWord_198 rfl rfl ?_
    refine g_pI (pc := 199) d_Mac_doOneWord_199 fp_Mac_53 (fun J24 => ?_)
    exact g_ret (pc := 202) d_Mac_doOneWord_202 rfl (Nat.le_refl _) (Nat.le_refl _)
  refine g_sw (c := 7) (fun e7 => ?_) (fun e7 => ?_)
  · refine g_tin (pc := 34) (tgt := 113) (off := 79) e7 d_Mac_doOneWord_34 (by decide) (by decide) (by decide) (by decide) ?_
    refine g_aload_n (pc := 113) (x := a0) d_Mac_doOneWord_113 rfl h0 ?_
    refine g_gi (pc := 114) d_Mac_doOneWord_114 fk_Mac_47 (fun v25 => ?_)
    refine g_istore_n (pc := 117) (x := v25) d_Mac_doOneWord_117 rfl (Nat.le_of_ble_eq_true rfl) ?_
    refine g_goto (pc := 118) (tgt := 197) d_Mac_doOneWord_118 rfl ?_
    refine g_aload_n (pc := 197) (x := a0) d_Mac_doOneWord_197 rfl h0 ?_
    refine g_iload_n (pc := 198) (x := v25) d_Mac_doOneWord_198 rfl rfl ?_
    refine g_pI (pc := 199) d_Mac_doOneWord_199 fp_Mac_53 (fun J26 => ?_)
    exact g_ret (pc := 202) d_Mac_doOneWord_202 rfl (Nat.le_refl _) (Nat.le_refl _)
  refine g_sw (c := 8) (fun e8 => ?_) (fun e8 => ?_)
  · refine g_tin (pc := 34) (tgt := 184) (off := 150) e8 d_Mac_doOneWord_34 (by decide) (by decide) (by decide) (by decide) ?_
    refine g_aload_n (pc := 184) (x := a0) d_Mac_doOneWord_184 rfl h0 ?_
    refine g_aload_n (pc := 185) (x := a0) d_Mac_doOneWord_185 rfl h0 ?_
    refine g_gi (pc := 186) d_Mac_doOneWord_186 fk_Mac_44 (fun v27 => ?_)
    refine g_iload_n (pc := 189) (x := a2) d_Mac_doOneWord_189 rfl h2 ?_
    refine g_bipush (pc := 190) (x := 16) d_Mac_doOneWord_190 (by decide) ?_
    refine g_irem (pc := 192) d_Mac_doOneWord_192 (by decide) ?_
    refine g_iushr (pc := 193) d_Mac_doOneWord_193 ?_
    refine g_pI (pc := 194) d_Mac_doOneWord_194 fp_Mac_44 (fun J28 => ?_)
    refine g_aload_n (pc := 197) (x := a0) d_Mac_doOneWord_197 rfl h0 ?_
    refine g_iload_n (pc := 198) (x := v3) d_Mac_doOneWord_198 rfl rfl ?_
    refine g_pI (pc := 199) d_Mac_doOneWord_199 fp_Mac_53 (fun J29 => ?_)
    exact g_ret (pc := 202) d_Mac_doOneWord_202 rfl (Nat.le_refl _) (Nat.le_refl _)
  refine g_sw (c := 9) (fun e9 => ?_) (fun e9 => ?_)
  · refine g_tin (pc := 34) (tgt := 121) (off := 87) e9 d_Mac_doOneWord_34 (by decide) (by decide) (by decide) (by decide) ?_
    refine g_aload_n (pc := 121) (x := a0) d_Mac_doOneWord_121 rfl h0 ?_
    refine g_iload_n (pc := 122) (x := a2) d_Mac_doOneWord_122 rfl h2 ?_
    refine g_vi (pc := 123) (rest := []) (sn_Mac_conditionHolds a0 a2 J2) rfl rfl d_Mac_doOneWord_123 ck_Mac_102 (Nat.le_of_ble_eq_true rfl) (Nat.le_of_ble_eq_true rfl) (Nat.le_refl _) (Nat.le_refl _) (fun v31 J30 => ?_)
    refine g_ifeq (pc := 126) (tgt := 145) d_Mac_doOneWord_126 rfl ?_ ?_
    · refine g_iload_n (pc := 145) (x := v3) d_Mac_doOneWord_145 rfl rfl ?_
      refine g_istore_n (pc := 146) (x := v3) d_Mac_doOneWord_146 rfl (Nat.le_of_ble_eq_true rfl) ?_
      refine g_goto (pc := 147) (tgt := 197) d_Mac_doOneWord_147 rfl ?_
      refine g_aload_n (pc := 197) (x := a0) d_Mac_doOneWord_197 rfl h0 ?_
      refine g_iload_n (pc := 198) (x := v3) d_Mac_doOneWord_198 rfl rfl ?_
      refine g_pI (pc := 199) d_Mac_doOneWord_199 fp_Mac_53 (fun J32 => ?_)
      exact g_ret (pc := 202) d_Mac_doOneWord_202 rfl (Nat.le_refl _) (Nat.le_refl _)
    refine g_iload_n (pc := 129) (x := v3) d_Mac_doOneWord_129 rfl rfl ?_
    refine g_iload_n (pc := 130) (x := a2) d_Mac_doOneWord_130 rfl h2 ?_
    refine g_sipush (pc := 131) (x := 256) d_Mac_doOneWord_131 (by decide) ?_
    refine g_irem (pc := 134) d_Mac_doOneWord_134 (by decide) ?_
    refine g_si (pc := 135) (rest := [vI v3]) (sn_Mac_signed (a2 - a2 / 256 * 256) J30) rfl rfl d_Mac_doOneWord_135 ck_Mac_105 (Nat.le_of_ble_eq_true rfl) (Nat.le_of_ble_eq_true rfl) (Nat.le_refl _) (Nat.le_refl _) (fun v34 J33 => ?_)
    refine g_iadd (pc := 138) d_Mac_doOneWord_138 ?_
    refine g_ni (pc := 139) (rest := []) (sn_SL_toWord (v3 + v34) J33) rfl rfl d_Mac_doOneWord_139 ck_Mac_99 (Nat.le_of_ble_eq_true rfl) (Nat.le_of_ble_eq_true rfl) (Nat.le_refl _) (Nat.le_refl _) (fun v36 J35 => ?_)
    refine g_goto (pc := 142) (tgt := 146) d_Mac_doOneWord_142 rfl ?_
    refine g_istore_n (pc := 146) (x := v36) d_Mac_doOneWord_146 rfl (Nat.le_of_ble_eq_true rfl) ?_
    refine g_goto (pc := 147) (tgt := 197) d_Mac_doOneWord_147 rfl ?_
    refine g_aload_n (pc := 197) (x := a0) d_Mac_doOneWord_197 rfl h0 ?_
    refine g_iload_n (pc := 198) (x := v36) d_Mac_doOneWord_198 rfl rfl ?_
    refine g_pI (pc := 199) d_Mac_doOneWord_199 fp_Mac_53 (fun J37 => ?_)
    exact g_ret (pc := 202) d_Mac_doOneWord_202 rfl (Nat.le_refl _) (Nat.le_refl _)
  refine g_sw (c := 10) (fun e10 => ?_) (fun e10 => ?_)
  · refine g_tin (pc := 34) (tgt := 150) (off := 116) e10 d_Mac_doOneWord_34 (by decide) (by decide) (by decide) (by decide) ?_
    refine g_aload_n (pc := 150) (x := a0) d_Mac_doOneWord_150 rfl h0 ?_
    refine g_vv (pc := 151) (rest := []) (sn_Mac_putOutA a0 J2) rfl rfl d_Mac_doOneWord_151 ck_Mac_108 (Nat.le_of_ble_eq_true rfl) (Nat.le_of_ble_eq_true rfl) (Nat.le_refl _) (Nat.le_refl _) (fun J38 => ?_)
    refine g_goto (pc := 154) (tgt := 197) d_Mac_doOneWord_154 rfl ?_
    refine g_aload_n (pc := 197) (x := a0) d_Mac_doOneWord_197 rfl h0 ?_
    refine g_iload_n (pc := 198) (x := v3) d_Mac_doOneWord_198 rfl rfl ?_
    refine g_pI (pc := 199) d_Mac_doOneWord_199 fp_Mac_53 (fun J39 => ?_)
    exact g_ret (pc := 202) d_Mac_doOneWord_202 rfl (Nat.le_refl _) (Nat.le_refl _)
  refine g_sw (c := 11) (fun e11 => ?_) (fun e11 => ?_)
  · refine g_tin (pc := 34) (tgt := 157) (off := 123) e11 d_Mac_doOneWord_34 (by decide) (by decide) (by decide) (by decide) ?_
    refine g_aload_n (pc := 157) (x := a0) d_Mac_doOneWord_157 rfl h0 ?_
    refine g_aload_n (pc := 158) (x := a0) d_Mac_doOneWord_158 rfl h0 ?_
    refine g_vi (pc := 159) (rest := [vR a0]) (sn_Mac_nextOfTape a0 J2) rfl rfl d_Mac_doOneWord_159 ck_Mac_111 (Nat.le_of_ble_eq_true rfl) (Nat.le_of_ble_eq_true rfl) (Nat.le_refl _) (Nat.le_refl _) (fun v41 J40 => ?_)
    refine g_pI (pc := 162) d_Mac_doOneWord_162 fp_Mac_44 (fun J42 => ?_)
    refine g_goto (pc := 165) (tgt := 197) d_Mac_doOneWord_165 rfl ?_
    refine g_aload_n (pc := 197) (x := a0) d_Mac_doOneWord_197 rfl h0 ?_
    refine g_iload_n (pc := 198) (x := v3) d_Mac_doOneWord_198 rfl rfl ?_
    refine g_pI (pc := 199) d_Mac_doOneWord_199 fp_Mac_53 (fun J43 => ?_)
    exact g_ret (pc := 202) d_Mac_doOneWord_202 rfl (Nat.le_refl _) (Nat.le_refl _)
  refine g_sw (c := 12) (fun e12 => ?_) (fun e12 => ?_)
  · refine g_tin (pc := 34) (tgt := 168) (off := 134) e12 d_Mac_doOneWord_34 (by decide) (by decide) (by decide) (by decide) ?_
    refine g_aload_n (pc := 168) (x := a0) d_Mac_doOneWord_168 rfl h0 ?_
    refine g_aload_n (pc := 169) (x := a0) d_Mac_doOneWord_169 rfl h0 ?_
    refine g_gr (pc := 170) d_Mac_doOneWord_170 fk_Mac_9 (fun v44 => ?_)
    refine g_aload_n (pc := 173) (x := a0) d_Mac_doOneWord_173 rfl h0 ?_
    refine g_gi (pc := 174) d_Mac_doOneWord_174 fk_Mac_44 (fun v45 => ?_)
    refine g_ldI (pc := 177) d_Mac_doOneWord_177 (fun v46 => ?_)
    refine g_pI (pc := 178) d_Mac_doOneWord_178 fp_Mac_44 (fun J47 => ?_)
    refine g_goto (pc := 181) (tgt := 197) d_Mac_doOneWord_181 rfl ?_
    refine g_aload_n (pc := 197) (x := a0) d_Mac_doOneWord_197 rfl h0 ?_
    refine g_iload_n (pc := 198) (x := v3) d_Mac_doOneWord_198 rfl rfl ?_
    refine g_pI (pc := 199) d_Mac_doOneWord_199 fp_Mac_53 (fun J48 => ?_)
    exact g_ret (pc := 202) d_Mac_doOneWord_202 rfl (Nat.le_refl _) (Nat.le_refl _)
  refine g_tout (pc := 34) (tgt := 184) d_Mac_doOneWord_34 (by have q0 := am_ni e0 (z := 0) (by decide); have q1 := am_ni e1 (z := 1) (by decide); have q2 := am_ni e2 (z := 2) (by decide); have q3 := am_ni e3 (z := 3) (by decide); have q4 := am_ni e4 (z := 4) (by decide); have q5 := am_ni e5 (z := 5) (by decide); have q6 := am_ni e6 (z := 6) (by decide); have q7 := am_ni e7 (z := 7) (by decide); have q8 := am_ni e8 (z := 8) (by decide); have q9 := am_ni e9 (z := 9) (by decide); have q10 := am_ni e10 (z := 10) (by decide); have q11 := am_ni e11 (z := 11) (by decide); have q12 := am_ni e12 (z := 12) (by decide); omega) (by decide) ?_
  refine g_aload_n (pc := 184) (x := a0) d_Mac_doOneWord_184 rfl h0 ?_
  refine g_aload_n (pc := 185) (x := a0) d_Mac_doOneWord_185 rfl h0 ?_
  refine g_gi (pc := 186) d_Mac_doOneWord_186 fk_Mac_44 (fun v49 => ?_)
  refine g_iload_n (pc := 189) (x := a2) d_Mac_doOneWord_189 rfl h2 ?_
  refine g_bipush (pc := 190) (x := 16) d_Mac_doOneWord_190 (by decide) ?_
  refine g_irem (pc := 192) d_Mac_doOneWord_192 (by decide) ?_
  refine g_iushr (pc := 193) d_Mac_doOneWord_193 ?_
  refine g_pI (pc := 194) d_Mac_doOneWord_194 fp_Mac_44 (fun J50 => ?_)
  refine g_aload_n (pc := 197) (x := a0) d_Mac_doOneWord_197 rfl h0 ?_
  refine g_iload_n (pc := 198) (x := v3) d_Mac_doOneWord_198 rfl rfl ?_
  refine g_pI (pc := 199) d_Mac_doOneWord_199 fp_Mac_53 (fun J51 => ?_)
  exact g_ret (pc := 202) d_Mac_doOneWord_202 rfl (Nat.le_refl _) (Nat.le_refl _)
def fn_Mac_doOneWord (a0 : Nat) (a1 : Int32) (a2 : Int32) (I : fm_I) : pR := (if a1 = 12 then gi 5 a0 5 I (fun v1 => vi 5 a0 (fn_Mac_isInside a0 v1 I) (fun v3 J2 => (if v3 = 0 then pI 5 a0 8 3 J2 (fun J4 => (rv J4)) else (fn_Mac_doOneWord_23 a0 a1 a2 J2)))) else (fn_Mac_doOneWord_23 a0 a1 a2 I))
set_option maxRecDepth 10000 in
theorem sn_Mac_doOneWord (a0 : Nat) (a1 : Int32) (a2 : Int32) (I : fm_I) : gM m_Mac_doOneWord 1 (fn_Mac_doOneWord a0 a1 a2 I) [vR a0, vI a1, vI a2] I := by
  refine gM_of (by decide) rfl (Nat.le_of_ble_eq_true rfl) ?_
  show gW c_Mac_doOneWord _ _ _ _ _
  unfold fn_Mac_doOneWord
  refine g_iload_n (pc := 0) (x := a1) d_Mac_doOneWord_0 rfl rfl ?_
  refine g_bipush (pc := 1) (x := 12) d_Mac_doOneWord_1 (by decide) ?_
  refine g_icmpne (pc := 3) (tgt := 23) d_Mac_doOneWord_3 rfl ?_ ?_
  · exact sn_Mac_doOneWord_23 _ _ _ _ _ rfl rfl rfl
  refine g_aload_n (pc := 6) (x := a0) d_Mac_doOneWord_6 rfl rfl ?_
  refine g_aload_n (pc := 7) (x := a0) d_Mac_doOneWord_7 rfl rfl ?_
  refine g_gi (pc := 8) d_Mac_doOneWord_8 fk_Mac_44 (fun v1 => ?_)
  refine g_vi (pc := 11) (rest := []) (sn_Mac_isInside a0 v1 I) rfl rfl d_Mac_doOneWord_11 ck_Mac_78 (Nat.le_of_ble_eq_true rfl) (Nat.le_of_ble_eq_true rfl) (Nat.le_refl _) (Nat.le_refl _) (fun v3 J2 => ?_)
  refine g_ifne (pc := 14) (tgt := 23) d_Mac_doOneWord_14 rfl ?_ ?_
  · exact sn_Mac_doOneWord_23 _ _ _ _ _ rfl rfl rfl
  refine g_aload_n (pc := 17) (x := a0) d_Mac_doOneWord_17 rfl rfl ?_
  refine g_iconst (pc := 18) (x := 3) d_Mac_doOneWord_18 (by decide) ?_
  refine g_pI (pc := 19) d_Mac_doOneWord_19 fp_Mac_56 (fun J4 => ?_)
  exact g_ret (pc := 22) d_Mac_doOneWord_22 rfl (Nat.le_refl _) (Nat.le_refl _)
abbrev c_Mac_doStep : gC := (m_Mac_doStep, 3, 0, 0, none, 0, 0)
def fn_Mac_doStep (a0 : Nat) (I : fm_I) : pR := gi 5 a0 7 I (fun v1 => vi 5 a0 (fn_Mac_isInside a0 v1 I) (fun v3 J2 => (if v3 = 0 then pI 5 a0 8 3 J2 (fun J15 => (rv J15)) else gr 5 a0 0 (fun v4 => gi 5 a0 7 J2 (fun v5 => ld 0 v4 v5 J2 (fun v6 => gr 5 a0 0 (fun v7 => gi 5 a0 7 J2 (fun v8 => ld 0 v7 v8 J2 (fun v9 => (if (v6 / 4096) ≤ 13 then bi (fn_Mac_isTwoWordsLong (v6 / 4096) J2) (fun v11 J10 => (if v11 = 0 then vv 5 a0 (fn_Mac_doOneWord a0 (v6 / 4096) (v9 - v9 / 4096 * 4096) J10) (fun J12 => (rv J12)) else vv 5 a0 (fn_Mac_doTwoWords a0 (v6 / 4096) (v9 - v9 / 4096 * 4096) J10) (fun J13 => (rv J13)))) else pI 5 a0 8 2 J2 (fun J14 => (rv J14))))))))))))
set_option maxRecDepth 10000 in
theorem sn_Mac_doStep (a0 : Nat) (I : fm_I) : gM m_Mac_doStep 3 (fn_Mac_doStep a0 I) [vR a0] I := by
  refine gM_of (by decide) rfl (Nat.le_of_ble_eq_true rfl) ?_
  show gW c_Mac_doStep _ _ _ _ _
  unfold fn_Mac_doStep
  refine g_aload_n (pc := 0) (x := a0) d_Mac_doStep_0 rfl rfl ?_
  refine g_aload_n (pc := 1) (x := a0) d_Mac_doStep_1 rfl rfl ?_
  refine g_gi (pc := 2) d_Mac_doStep_2 fk_Mac_53 (fun v1 => ?_)
  refine g_vi (pc := 5) (rest := []) (sn_Mac_isInside a0 v1 I) rfl rfl d_Mac_doStep_5 ck_Mac_78 (Nat.le_of_ble_eq_true rfl) (Nat.le_of_ble_eq_true rfl) (Nat.le_refl _) (Nat.le_refl _) (fun v3 J2 => ?_)
  refine g_ifne (pc := 8) (tgt := 17) d_Mac_doStep_8 rfl ?_ ?_
  · refine g_aload_n (pc := 17) (x := a0) d_Mac_doStep_17 rfl rfl ?_
    refine g_gr (pc := 18) d_Mac_doStep_18 fk_Mac_9 (fun v4 => ?_)
    refine g_aload_n (pc := 21) (x := a0) d_Mac_doStep_21 rfl rfl ?_
    refine g_gi (pc := 22) d_Mac_doStep_22 fk_Mac_53 (fun v5 => ?_)
    refine g_ldI (pc := 25) d_Mac_doStep_25 (fun v6 => ?_)
    refine g_sipush (pc := 26) (x := 4096) d_Mac_doStep_26 (by decide) ?_
    refine g_idiv (pc := 29) d_Mac_doStep_29 (by decide) ?_
    refine g_istore_n (pc := 30) (x := (v6 / 4096)) d_Mac_doStep_30 rfl (Nat.le_of_ble_eq_true rfl) ?_
    refine g_aload_n (pc := 31) (x := a0) d_Mac_doStep_31 rfl rfl ?_
    refine g_gr (pc := 32) d_Mac_doStep_32 fk_Mac_9 (fun v7 => ?_)
    refine g_aload_n (pc := 35) (x := a0) d_Mac_doStep_35 rfl rfl ?_
    refine g_gi (pc := 36) d_Mac_doStep_36 fk_Mac_53 (fun v8 => ?_)
    refine g_ldI (pc := 39) d_Mac_doStep_39 (fun v9 => ?_)
    refine g_sipush (pc := 40) (x := 4096) d_Mac_doStep_40 (by decide) ?_
    refine g_irem (pc := 43) d_Mac_doStep_43 (by decide) ?_
    refine g_istore_n (pc := 44) (x := (v9 - v9 / 4096 * 4096)) d_Mac_doStep_44 rfl (Nat.le_of_ble_eq_true rfl) ?_
    refine g_iload_n (pc := 45) (x := (v6 / 4096)) d_Mac_doStep_45 rfl rfl ?_
    refine g_bipush (pc := 46) (x := 13) d_Mac_doStep_46 (by decide) ?_
    refine g_icmple (pc := 48) (tgt := 59) d_Mac_doStep_48 rfl ?_ ?_
    · refine g_iload_n (pc := 59) (x := (v6 / 4096)) d_Mac_doStep_59 rfl rfl ?_
      refine g_si (pc := 60) (rest := []) (sn_Mac_isTwoWordsLong (v6 / 4096) J2) rfl rfl d_Mac_doStep_60 ck_Mac_85 (Nat.le_of_ble_eq_true rfl) (Nat.le_of_ble_eq_true rfl) (Nat.le_refl _) (Nat.le_refl _) (fun v11 J10 => ?_)
      refine g_ifeq (pc := 63) (tgt := 75) d_Mac_doStep_63 rfl ?_ ?_
      · refine g_aload_n (pc := 75) (x := a0) d_Mac_doStep_75 rfl rfl ?_
        refine g_iload_n (pc := 76) (x := (v6 / 4096)) d_Mac_doStep_76 rfl rfl ?_
        refine g_iload_n (pc := 77) (x := (v9 - v9 / 4096 * 4096)) d_Mac_doStep_77 rfl rfl ?_
        refine g_vv (pc := 78) (rest := []) (sn_Mac_doOneWord a0 (v6 / 4096) (v9 - v9 / 4096 * 4096) J10) rfl rfl d_Mac_doStep_78 ck_Mac_92 (Nat.le_of_ble_eq_true rfl) (Nat.le_of_ble_eq_true rfl) (Nat.le_refl _) (Nat.le_refl _) (fun J12 => ?_)
        exact g_ret (pc := 81) d_Mac_doStep_81 rfl (Nat.le_refl _) (Nat.le_refl _)
      refine g_aload_n (pc := 66) (x := a0) d_Mac_doStep_66 rfl rfl ?_
      refine g_iload_n (pc := 67) (x := (v6 / 4096)) d_Mac_doStep_67 rfl rfl ?_
      refine g_iload_n (pc := 68) (x := (v9 - v9 / 4096 * 4096)) d_Mac_doStep_68 rfl rfl ?_
      refine g_vv (pc := 69) (rest := []) (sn_Mac_doTwoWords a0 (v6 / 4096) (v9 - v9 / 4096 * 4096) J10) rfl rfl d_Mac_doStep_69 ck_Mac_88 (Nat.le_of_ble_eq_true rfl) (Nat.le_of_ble_eq_true rfl) (Nat.le_refl _) (Nat.le_refl _) (fun J13 => ?_)
      refine g_goto (pc := 72) (tgt := 81) d_Mac_doStep_72 rfl ?_
      exact g_ret (pc := 81) d_Mac_doStep_81 rfl (Nat.le_refl _) (Nat.le_refl _)
    refine g_aload_n (pc := 51) (x := a0) d_Mac_doStep_51 rfl rfl ?_
    refine g_iconst (pc := 52) (x := 2) d_Mac_doStep_52 (by decide) ?_
    refine g_pI (pc := 53) d_Mac_doStep_53 fp_Mac_56 (fun J14 => ?_)
    refine g_goto (pc := 56) (tgt := 81) d_Mac_doStep_56 rfl ?_
    exact g_ret (pc := 81) d_Mac_doStep_81 rfl (Nat.le_refl _) (Nat.le_refl _)
  refine g_aload_n (pc := 11) (x := a0) d_Mac_doStep_11 rfl rfl ?_
  refine g_iconst (pc := 12) (x := 3) d_Mac_doStep_12 (by decide) ?_
  refine g_pI (pc := 13) d_Mac_doStep_13 fp_Mac_56 (fun J15 => ?_)
  exact g_ret (pc := 16) d_Mac_doStep_16 rfl (Nat.le_refl _) (Nat.le_refl _)
abbrev c_Mac_doSteps : gC := (m_Mac_doSteps, 4, 0, 0, none, 0, 0)
def fn_Mac_doSteps_2 : Nat → Nat → Int32 → Int32 → fm_I → pR
  | 0, _, _, _, _ => none
  | n + 1, a0, a1, a2, I => (if a1 ≤ a2 then (ri a1 I) else gi 5 a0 8 I (fun v1 => (if v1 = 0 then vv 5 a0 (fn_Mac_doStep a0 I) (fun J2 => gi 5 a0 8 J2 (fun v3 => (if v3 = 2 then (ri a2 J2) else gi 5 a0 8 J2 (fun v4 => (if v4 = 3 then (ri a2 J2) else (fn_Mac_doSteps_2 n a0 a1 (a2 + 1) J2)))))) else (ri a2 I))))
set_option maxRecDepth 10000 in
theorem sn_Mac_doSteps_2 (n : Nat) : ∀ (a0 : Nat) (a1 : Int32) (a2 : Int32) (I : fm_I) (L : Nat → Option am_V), L 0 = some (vR a0) → L 1 = some (vI a1) → L 2 = some (vI a2) → gW c_Mac_doSteps (fn_Mac_doSteps_2 n a0 a1 a2 I) 2 L [] I := by
  induction n with
  | zero =>
    intro a0 a1 a2 I L h0 h1 h2
    unfold fn_Mac_doSteps_2
    exact g_none
  | succ n ih =>
    intro a0 a1 a2 I L h0 h1 h2
    unfold fn_Mac_doSteps_2
    refine g_iload_n (pc := 2) (x := a2) d_Mac_doSteps_2 rfl h2 ?_
    refine g_iload_n (pc := 3) (x := a1) d_Mac_doSteps_3 rfl h1 ?_
    refine g_icmpge (pc := 4) (tgt := 44) d_Mac_doSteps_4 rfl ?_ ?_
    · refine g_iload_n (pc := 44) (x := a1) d_Mac_doSteps_44 rfl h1 ?_
      exact g_iret (pc := 45) d_Mac_doSteps_45 rfl (Nat.le_refl _) (Nat.le_refl _)
    refine g_aload_n (pc := 7) (x := a0) d_Mac_doSteps_7 rfl h0 ?_
    refine g_gi (pc := 8) d_Mac_doSteps_8 fk_Mac_56 (fun v1 => ?_)
    refine g_ifeq (pc := 11) (tgt := 16) d_Mac_doSteps_11 rfl ?_ ?_
    · refine g_aload_n (pc := 16) (x := a0) d_Mac_doSteps_16 rfl h0 ?_
      refine g_vv (pc := 17) (rest := []) (sn_Mac_doStep a0 I) rfl rfl d_Mac_doSteps_17 ck_Mac_72 (Nat.le_of_ble_eq_true rfl) (Nat.le_of_ble_eq_true rfl) (Nat.le_refl _) (Nat.le_refl _) (fun J2 => ?_)
      refine g_aload_n (pc := 20) (x := a0) d_Mac_doSteps_20 rfl h0 ?_
      refine g_gi (pc := 21) d_Mac_doSteps_21 fk_Mac_56 (fun v3 => ?_)
      refine g_iconst (pc := 24) (x := 2) d_Mac_doSteps_24 (by decide) ?_
      refine g_icmpeq (pc := 25) (tgt := 36) d_Mac_doSteps_25 rfl ?_ ?_
      · refine g_iload_n (pc := 36) (x := a2) d_Mac_doSteps_36 rfl h2 ?_
        exact g_iret (pc := 37) d_Mac_doSteps_37 rfl (Nat.le_refl _) (Nat.le_refl _)
      refine g_aload_n (pc := 28) (x := a0) d_Mac_doSteps_28 rfl h0 ?_
      refine g_gi (pc := 29) d_Mac_doSteps_29 fk_Mac_56 (fun v4 => ?_)
      refine g_iconst (pc := 32) (x := 3) d_Mac_doSteps_32 (by decide) ?_
      refine g_icmpne (pc := 33) (tgt := 38) d_Mac_doSteps_33 rfl ?_ ?_
      · refine g_iinc (pc := 38) (x := a2) (w := 1) d_Mac_doSteps_38 h2 (by decide) (Nat.le_of_ble_eq_true rfl) ?_
        refine g_goto (pc := 41) (tgt := 2) d_Mac_doSteps_41 rfl ?_
        exact ih _ _ _ _ _ h0 h1 rfl
      refine g_iload_n (pc := 36) (x := a2) d_Mac_doSteps_36 rfl h2 ?_
      exact g_iret (pc := 37) d_Mac_doSteps_37 rfl (Nat.le_refl _) (Nat.le_refl _)
    refine g_iload_n (pc := 14) (x := a2) d_Mac_doSteps_14 rfl h2 ?_
    exact g_iret (pc := 15) d_Mac_doSteps_15 rfl (Nat.le_refl _) (Nat.le_refl _)
def fn_Mac_doSteps (a0 : Nat) (a1 : Int32) (I : fm_I) : pR := (fn_Mac_doSteps_2 FU a0 a1 0 I)
set_option maxRecDepth 10000 in
theorem sn_Mac_doSteps (a0 : Nat) (a1 : Int32) (I : fm_I) : gM m_Mac_doSteps 4 (fn_Mac_doSteps a0 a1 I) [vR a0, vI a1] I := by
  refine gM_of (by decide) rfl (Nat.le_of_ble_eq_true rfl) ?_
  show gW c_Mac_doSteps _ _ _ _ _
  unfold fn_Mac_doSteps
  refine g_iconst (pc := 0) (x := 0) d_Mac_doSteps_0 (by decide) ?_
  refine g_istore_n (pc := 1) (x := 0) d_Mac_doSteps_1 rfl (Nat.le_of_ble_eq_true rfl) ?_
  exact sn_Mac_doSteps_2 FU _ _ _ _ _ rfl rfl rfl
abbrev c_SL_run : gC := (m_SL_run, 5, 0, 0, none, 0, 0)
def fn_SL_run (a0 : Nat) (a1 : Int32) (I : fm_I) : pR := gr 0 a0 5 (fun v1 => vi 5 v1 (fn_Mac_isThere v1 I) (fun v3 J2 => (if v3 = 0 then (ri (-1) J2) else bi (fn_SL_isWithin a1 0 1000 J2) (fun v5 J4 => (if v5 = 0 then (ri (-1) J4) else gr 0 a0 5 (fun v6 => vi 5 v6 (fn_Mac_doSteps v6 a1 J4) (fun v8 J7 => (ri v8 J7))))))))
set_option maxRecDepth 10000 in
theorem sn_SL_run (a0 : Nat) (a1 : Int32) (I : fm_I) : gM m_SL_run 5 (fn_SL_run a0 a1 I) [vR a0, vI a1] I := by
  refine gM_of (by decide) rfl (Nat.le_of_ble_eq_true rfl) ?_
  show gW c_SL_run _ _ _ _ _
  unfold fn_SL_run
  refine g_aload_n (pc := 0) (x := a0) d_SL_run_0 rfl rfl ?_
  refine g_gr (pc := 1) d_SL_run_1 fk_SL_50 (fun v1 => ?_)
  refine g_vi (pc := 4) (rest := []) (sn_Mac_isThere v1 I) rfl rfl d_SL_run_4 ck_SL_153 (Nat.le_of_ble_eq_true rfl) (Nat.le_of_ble_eq_true rfl) (Nat.le_refl _) (Nat.le_refl _) (fun v3 J2 => ?_)
  refine g_ifeq (pc := 7) (tgt := 21) d_SL_run_7 rfl ?_ ?_
  · refine g_iconst (pc := 21) (x := (-1)) d_SL_run_21 (by decide) ?_
    exact g_iret (pc := 22) d_SL_run_22 rfl (Nat.le_refl _) (Nat.le_refl _)
  refine g_iload_n (pc := 10) (x := a1) d_SL_run_10 rfl rfl ?_
  refine g_iconst (pc := 11) (x := 0) d_SL_run_11 (by decide) ?_
  refine g_sipush (pc := 12) (x := 1000) d_SL_run_12 (by decide) ?_
  refine g_si (pc := 15) (rest := []) (sn_SL_isWithin a1 0 1000 J2) rfl rfl d_SL_run_15 ck_SL_154 (Nat.le_of_ble_eq_true rfl) (Nat.le_of_ble_eq_true rfl) (Nat.le_refl _) (Nat.le_refl _) (fun v5 J4 => ?_)
  refine g_ifne (pc := 18) (tgt := 23) d_SL_run_18 rfl ?_ ?_
  · refine g_aload_n (pc := 23) (x := a0) d_SL_run_23 rfl rfl ?_
    refine g_gr (pc := 24) d_SL_run_24 fk_SL_50 (fun v6 => ?_)
    refine g_iload_n (pc := 27) (x := a1) d_SL_run_27 rfl rfl ?_
    refine g_vi (pc := 28) (rest := []) (sn_Mac_doSteps v6 a1 J4) rfl rfl d_SL_run_28 ck_SL_157 (Nat.le_of_ble_eq_true rfl) (Nat.le_of_ble_eq_true rfl) (Nat.le_refl _) (Nat.le_refl _) (fun v8 J7 => ?_)
    exact g_iret (pc := 31) d_SL_run_31 rfl (Nat.le_refl _) (Nat.le_refl _)
  refine g_iconst (pc := 21) (x := (-1)) d_SL_run_21 (by decide) ?_
  exact g_iret (pc := 22) d_SL_run_22 rfl (Nat.le_refl _) (Nat.le_refl _)
abbrev c_Mac_latestWord : gC := (m_Mac_latestWord, 1, 0, 0, none, 0, 0)
def fn_Mac_latestWord (a0 : Nat) (a1 : Int32) (I : fm_I) : pR := bi (fn_SL_isWithin a1 0 3 I) (fun v2 J1 => (if v2 = 0 then (ri (-1) J1) else gi 5 a0 11 J1 (fun v3 => (if v3 ≤ a1 then (ri (-1) J1) else gr 5 a0 2 (fun v4 => ld 0 v4 a1 J1 (fun v5 => (ri v5 J1)))))))
set_option maxRecDepth 10000 in
theorem sn_Mac_latestWord (a0 : Nat) (a1 : Int32) (I : fm_I) : gM m_Mac_latestWord 1 (fn_Mac_latestWord a0 a1 I) [vR a0, vI a1] I := by
  refine gM_of (by decide) rfl (Nat.le_of_ble_eq_true rfl) ?_
  show gW c_Mac_latestWord _ _ _ _ _
  unfold fn_Mac_latestWord
  refine g_iload_n (pc := 0) (x := a1) d_Mac_latestWord_0 rfl rfl ?_
  refine g_iconst (pc := 1) (x := 0) d_Mac_latestWord_1 (by decide) ?_
  refine g_iconst (pc := 2) (x := 3) d_Mac_latestWord_2 (by decide) ?_
  refine g_ni (pc := 3) (rest := []) (sn_SL_isWithin a1 0 3 I) rfl rfl d_Mac_latestWord_3 ck_Mac_81 (Nat.le_of_ble_eq_true rfl) (Nat.le_of_ble_eq_true rfl) (Nat.le_refl _) (Nat.le_refl _) (fun v2 J1 => ?_)
  refine g_ifeq (pc := 6) (tgt := 26) d_Mac_latestWord_6 rfl ?_ ?_
  · refine g_iconst (pc := 26) (x := (-1)) d_Mac_latestWord_26 (by decide) ?_
    exact g_iret (pc := 27) d_Mac_latestWord_27 rfl (Nat.le_refl _) (Nat.le_refl _)
  refine g_iload_n (pc := 9) (x := a1) d_Mac_latestWord_9 rfl rfl ?_
  refine g_aload_n (pc := 10) (x := a0) d_Mac_latestWord_10 rfl rfl ?_
  refine g_gi (pc := 11) d_Mac_latestWord_11 fk_Mac_65 (fun v3 => ?_)
  refine g_icmpge (pc := 14) (tgt := 26) d_Mac_latestWord_14 rfl ?_ ?_
  · refine g_iconst (pc := 26) (x := (-1)) d_Mac_latestWord_26 (by decide) ?_
    exact g_iret (pc := 27) d_Mac_latestWord_27 rfl (Nat.le_refl _) (Nat.le_refl _)
  refine g_aload_n (pc := 17) (x := a0) d_Mac_latestWord_17 rfl rfl ?_
  refine g_gr (pc := 18) d_Mac_latestWord_18 fk_Mac_18 (fun v4 => ?_)
  refine g_iload_n (pc := 21) (x := a1) d_Mac_latestWord_21 rfl rfl ?_
  refine g_ldI (pc := 22) d_Mac_latestWord_22 (fun v5 => ?_)
  refine g_goto (pc := 23) (tgt := 27) d_Mac_latestWord_23 rfl ?_
  exact g_iret (pc := 27) d_Mac_latestWord_27 rfl (Nat.le_refl _) (Nat.le_refl _)
abbrev c_Mac_registerAt : gC := (m_Mac_registerAt, 2, 0, 0, none, 0, 0)
def fn_Mac_registerAt (a0 : Nat) (a1 : Int32) (I : fm_I) : pR := (if a1 = 0 then gi 5 a0 5 I (fun v1 => (ri v1 I)) else (if a1 = 1 then gi 5 a0 6 I (fun v2 => (ri v2 I)) else (if a1 = 2 then gi 5 a0 7 I (fun v3 => (ri v3 I)) else (if a1 = 3 then gi 5 a0 8 I (fun v4 => (ri v4 I)) else (if a1 = 4 then gi 5 a0 11 I (fun v5 => (ri v5 I)) else vi 5 a0 (fn_Mac_latestWord a0 (a1 - 5) I) (fun v7 J6 => (ri v7 J6)))))))
set_option maxRecDepth 10000 in
theorem sn_Mac_registerAt (a0 : Nat) (a1 : Int32) (I : fm_I) : gM m_Mac_registerAt 2 (fn_Mac_registerAt a0 a1 I) [vR a0, vI a1] I := by
  refine gM_of (by decide) rfl (Nat.le_of_ble_eq_true rfl) ?_
  show gW c_Mac_registerAt _ _ _ _ _
  unfold fn_Mac_registerAt
  refine g_iload_n (pc := 0) (x := a1) d_Mac_registerAt_0 rfl rfl ?_
  refine g_sw (c := 0) (fun e0 => ?_) (fun e0 => ?_)
  · refine g_tin (pc := 1) (tgt := 36) (off := 35) e0 d_Mac_registerAt_1 (by decide) (by decide) (by decide) (by decide) ?_
    refine g_aload_n (pc := 36) (x := a0) d_Mac_registerAt_36 rfl rfl ?_
    refine g_gi (pc := 37) d_Mac_registerAt_37 fk_Mac_44 (fun v1 => ?_)
    exact g_iret (pc := 40) d_Mac_registerAt_40 rfl (Nat.le_refl _) (Nat.le_refl _)
  refine g_sw (c := 1) (fun e1 => ?_) (fun e1 => ?_)
  · refine g_tin (pc := 1) (tgt := 41) (off := 40) e1 d_Mac_registerAt_1 (by decide) (by decide) (by decide) (by decide) ?_
    refine g_aload_n (pc := 41) (x := a0) d_Mac_registerAt_41 rfl rfl ?_
    refine g_gi (pc := 42) d_Mac_registerAt_42 fk_Mac_47 (fun v2 => ?_)
    exact g_iret (pc := 45) d_Mac_registerAt_45 rfl (Nat.le_refl _) (Nat.le_refl _)
  refine g_sw (c := 2) (fun e2 => ?_) (fun e2 => ?_)
  · refine g_tin (pc := 1) (tgt := 46) (off := 45) e2 d_Mac_registerAt_1 (by decide) (by decide) (by decide) (by decide) ?_
    refine g_aload_n (pc := 46) (x := a0) d_Mac_registerAt_46 rfl rfl ?_
    refine g_gi (pc := 47) d_Mac_registerAt_47 fk_Mac_53 (fun v3 => ?_)
    exact g_iret (pc := 50) d_Mac_registerAt_50 rfl (Nat.le_refl _) (Nat.le_refl _)
  refine g_sw (c := 3) (fun e3 => ?_) (fun e3 => ?_)
  · refine g_tin (pc := 1) (tgt := 51) (off := 50) e3 d_Mac_registerAt_1 (by decide) (by decide) (by decide) (by decide) ?_
    refine g_aload_n (pc := 51) (x := a0) d_Mac_registerAt_51 rfl rfl ?_
    refine g_gi (pc := 52) d_Mac_registerAt_52 fk_Mac_56 (fun v4 => ?_)
    exact g_iret (pc := 55) d_Mac_registerAt_55 rfl (Nat.le_refl _) (Nat.le_refl _)
  refine g_sw (c := 4) (fun e4 => ?_) (fun e4 => ?_)
  · refine g_tin (pc := 1) (tgt := 56) (off := 55) e4 d_Mac_registerAt_1 (by decide) (by decide) (by decide) (by decide) ?_
    refine g_aload_n (pc := 56) (x := a0) d_Mac_registerAt_56 rfl rfl ?_
    refine g_gi (pc := 57) d_Mac_registerAt_57 fk_Mac_65 (fun v5 => ?_)
    exact g_iret (pc := 60) d_Mac_registerAt_60 rfl (Nat.le_refl _) (Nat.le_refl _)
  refine g_tout (pc := 1) (tgt := 61) d_Mac_registerAt_1 (by have q0 := am_ni e0 (z := 0) (by decide); have q1 := am_ni e1 (z := 1) (by decide); have q2 := am_ni e2 (z := 2) (by decide); have q3 := am_ni e3 (z := 3) (by decide); have q4 := am_ni e4 (z := 4) (by decide); omega) (by decide) ?_
  refine g_aload_n (pc := 61) (x := a0) d_Mac_registerAt_61 rfl rfl ?_
  refine g_iload_n (pc := 62) (x := a1) d_Mac_registerAt_62 rfl rfl ?_
  refine g_iconst (pc := 63) (x := 5) d_Mac_registerAt_63 (by decide) ?_
  refine g_isub (pc := 64) d_Mac_registerAt_64 ?_
  refine g_vi (pc := 65) (rest := []) (sn_Mac_latestWord a0 (a1 - 5) I) rfl rfl d_Mac_registerAt_65 ck_Mac_75 (Nat.le_of_ble_eq_true rfl) (Nat.le_of_ble_eq_true rfl) (Nat.le_refl _) (Nat.le_refl _) (fun v7 J6 => ?_)
  exact g_iret (pc := 68) d_Mac_registerAt_68 rfl (Nat.le_refl _) (Nat.le_refl _)
abbrev c_SL_register : gC := (m_SL_register, 3, 0, 0, none, 0, 0)
def fn_SL_register (a0 : Nat) (a1 : Int32) (I : fm_I) : pR := gr 0 a0 5 (fun v1 => vi 5 v1 (fn_Mac_isThere v1 I) (fun v3 J2 => (if v3 = 0 then (ri (-1) J2) else gr 0 a0 5 (fun v4 => vi 5 v4 (fn_Mac_registerAt v4 a1 J2) (fun v6 J5 => (ri v6 J5))))))
set_option maxRecDepth 10000 in
theorem sn_SL_register (a0 : Nat) (a1 : Int32) (I : fm_I) : gM m_SL_register 3 (fn_SL_register a0 a1 I) [vR a0, vI a1] I := by
  refine gM_of (by decide) rfl (Nat.le_of_ble_eq_true rfl) ?_
  show gW c_SL_register _ _ _ _ _
  unfold fn_SL_register
  refine g_aload_n (pc := 0) (x := a0) d_SL_register_0 rfl rfl ?_
  refine g_gr (pc := 1) d_SL_register_1 fk_SL_50 (fun v1 => ?_)
  refine g_vi (pc := 4) (rest := []) (sn_Mac_isThere v1 I) rfl rfl d_SL_register_4 ck_SL_153 (Nat.le_of_ble_eq_true rfl) (Nat.le_of_ble_eq_true rfl) (Nat.le_refl _) (Nat.le_refl _) (fun v3 J2 => ?_)
  refine g_ifeq (pc := 7) (tgt := 21) d_SL_register_7 rfl ?_ ?_
  · refine g_iconst (pc := 21) (x := (-1)) d_SL_register_21 (by decide) ?_
    exact g_iret (pc := 22) d_SL_register_22 rfl (Nat.le_refl _) (Nat.le_refl _)
  refine g_aload_n (pc := 10) (x := a0) d_SL_register_10 rfl rfl ?_
  refine g_gr (pc := 11) d_SL_register_11 fk_SL_50 (fun v4 => ?_)
  refine g_iload_n (pc := 14) (x := a1) d_SL_register_14 rfl rfl ?_
  refine g_vi (pc := 15) (rest := []) (sn_Mac_registerAt v4 a1 J2) rfl rfl d_SL_register_15 ck_SL_160 (Nat.le_of_ble_eq_true rfl) (Nat.le_of_ble_eq_true rfl) (Nat.le_refl _) (Nat.le_refl _) (fun v6 J5 => ?_)
  refine g_goto (pc := 18) (tgt := 22) d_SL_register_18 rfl ?_
  exact g_iret (pc := 22) d_SL_register_22 rfl (Nat.le_refl _) (Nat.le_refl _)
abbrev c_Mac_wordAt : gC := (m_Mac_wordAt, 1, 0, 0, none, 0, 0)
def fn_Mac_wordAt (a0 : Nat) (a1 : Int32) (I : fm_I) : pR := gi 5 a0 12 I (fun v1 => (if v1 = 0 then (ri (-1) I) else vi 5 a0 (fn_Mac_isInside a0 a1 I) (fun v3 J2 => (if v3 = 0 then (ri (-1) J2) else gr 5 a0 0 (fun v4 => ld 0 v4 a1 J2 (fun v5 => (ri v5 J2)))))))
set_option maxRecDepth 10000 in
theorem sn_Mac_wordAt (a0 : Nat) (a1 : Int32) (I : fm_I) : gM m_Mac_wordAt 1 (fn_Mac_wordAt a0 a1 I) [vR a0, vI a1] I := by
  refine gM_of (by decide) rfl (Nat.le_of_ble_eq_true rfl) ?_
  show gW c_Mac_wordAt _ _ _ _ _
  unfold fn_Mac_wordAt
  refine g_aload_n (pc := 0) (x := a0) d_Mac_wordAt_0 rfl rfl ?_
  refine g_gi (pc := 1) d_Mac_wordAt_1 fk_Mac_21 (fun v1 => ?_)
  refine g_ifeq (pc := 4) (tgt := 24) d_Mac_wordAt_4 rfl ?_ ?_
  · refine g_iconst (pc := 24) (x := (-1)) d_Mac_wordAt_24 (by decide) ?_
    exact g_iret (pc := 25) d_Mac_wordAt_25 rfl (Nat.le_refl _) (Nat.le_refl _)
  refine g_aload_n (pc := 7) (x := a0) d_Mac_wordAt_7 rfl rfl ?_
  refine g_iload_n (pc := 8) (x := a1) d_Mac_wordAt_8 rfl rfl ?_
  refine g_vi (pc := 9) (rest := []) (sn_Mac_isInside a0 a1 I) rfl rfl d_Mac_wordAt_9 ck_Mac_78 (Nat.le_of_ble_eq_true rfl) (Nat.le_of_ble_eq_true rfl) (Nat.le_refl _) (Nat.le_refl _) (fun v3 J2 => ?_)
  refine g_ifeq (pc := 12) (tgt := 24) d_Mac_wordAt_12 rfl ?_ ?_
  · refine g_iconst (pc := 24) (x := (-1)) d_Mac_wordAt_24 (by decide) ?_
    exact g_iret (pc := 25) d_Mac_wordAt_25 rfl (Nat.le_refl _) (Nat.le_refl _)
  refine g_aload_n (pc := 15) (x := a0) d_Mac_wordAt_15 rfl rfl ?_
  refine g_gr (pc := 16) d_Mac_wordAt_16 fk_Mac_9 (fun v4 => ?_)
  refine g_iload_n (pc := 19) (x := a1) d_Mac_wordAt_19 rfl rfl ?_
  refine g_ldI (pc := 20) d_Mac_wordAt_20 (fun v5 => ?_)
  refine g_goto (pc := 21) (tgt := 25) d_Mac_wordAt_21 rfl ?_
  exact g_iret (pc := 25) d_Mac_wordAt_25 rfl (Nat.le_refl _) (Nat.le_refl _)
abbrev c_SL_memory : gC := (m_SL_memory, 2, 0, 0, none, 0, 0)
def fn_SL_memory (a0 : Nat) (a1 : Int32) (I : fm_I) : pR := gr 0 a0 5 (fun v1 => vi 5 v1 (fn_Mac_wordAt v1 a1 I) (fun v3 J2 => (ri v3 J2)))
set_option maxRecDepth 10000 in
theorem sn_SL_memory (a0 : Nat) (a1 : Int32) (I : fm_I) : gM m_SL_memory 2 (fn_SL_memory a0 a1 I) [vR a0, vI a1] I := by
  refine gM_of (by decide) rfl (Nat.le_of_ble_eq_true rfl) ?_
  show gW c_SL_memory _ _ _ _ _
  unfold fn_SL_memory
  refine g_aload_n (pc := 0) (x := a0) d_SL_memory_0 rfl rfl ?_
  refine g_gr (pc := 1) d_SL_memory_1 fk_SL_50 (fun v1 => ?_)
  refine g_iload_n (pc := 4) (x := a1) d_SL_memory_4 rfl rfl ?_
  refine g_vi (pc := 5) (rest := []) (sn_Mac_wordAt v1 a1 I) rfl rfl d_SL_memory_5 ck_SL_163 (Nat.le_of_ble_eq_true rfl) (Nat.le_of_ble_eq_true rfl) (Nat.le_refl _) (Nat.le_refl _) (fun v3 J2 => ?_)
  exact g_iret (pc := 8) d_SL_memory_8 rfl (Nat.le_refl _) (Nat.le_refl _)
abbrev c_Ref_module : gC := (m_Ref_module, 0, 0, 0, none, 0, 0)
def fn_Ref_module (a0 : Nat) (a1 : Int32) (I : fm_I) : pR := (if a1 < 0 then (rz 0 I) else (if 5 < a1 then (rz 0 I) else (rz 1 I)))
set_option maxRecDepth 10000 in
theorem sn_Ref_module (a0 : Nat) (a1 : Int32) (I : fm_I) : gM m_Ref_module 0 (fn_Ref_module a0 a1 I) [vR a0, vI a1] I := by
  refine gM_of (by decide) rfl (Nat.le_of_ble_eq_true rfl) ?_
  show gW c_Ref_module _ _ _ _ _
  unfold fn_Ref_module
  refine g_iload_n (pc := 0) (x := a1) d_Ref_module_0 rfl rfl ?_
  refine g_iflt (pc := 1) (tgt := 13) d_Ref_module_1 rfl ?_ ?_
  · refine g_iconst (pc := 13) (x := 0) d_Ref_module_13 (by decide) ?_
    exact g_zret (pc := 14) d_Ref_module_14 rfl (Nat.le_refl _) (Nat.le_refl _)
  refine g_iload_n (pc := 4) (x := a1) d_Ref_module_4 rfl rfl ?_
  refine g_iconst (pc := 5) (x := 5) d_Ref_module_5 (by decide) ?_
  refine g_icmpgt (pc := 6) (tgt := 13) d_Ref_module_6 rfl ?_ ?_
  · refine g_iconst (pc := 13) (x := 0) d_Ref_module_13 (by decide) ?_
    exact g_zret (pc := 14) d_Ref_module_14 rfl (Nat.le_refl _) (Nat.le_refl _)
  refine g_iconst (pc := 9) (x := 1) d_Ref_module_9 (by decide) ?_
  refine g_goto (pc := 10) (tgt := 14) d_Ref_module_10 rfl ?_
  exact g_zret (pc := 14) d_Ref_module_14 rfl (Nat.le_refl _) (Nat.le_refl _)
abbrev c_Ref_name : gC := (m_Ref_name, 0, 0, 0, none, 0, 0)
def fn_Ref_name (a0 : Nat) (a1 : Int32) (I : fm_I) : pR := (if a1 < 0 then (rz 0 I) else (if 15 < a1 then (rz 0 I) else (rz 1 I)))
set_option maxRecDepth 10000 in
theorem sn_Ref_name (a0 : Nat) (a1 : Int32) (I : fm_I) : gM m_Ref_name 0 (fn_Ref_name a0 a1 I) [vR a0, vI a1] I := by
  refine gM_of (by decide) rfl (Nat.le_of_ble_eq_true rfl) ?_
  show gW c_Ref_name _ _ _ _ _
  unfold fn_Ref_name
  refine g_iload_n (pc := 0) (x := a1) d_Ref_name_0 rfl rfl ?_
  refine g_iflt (pc := 1) (tgt := 14) d_Ref_name_1 rfl ?_ ?_
  · refine g_iconst (pc := 14) (x := 0) d_Ref_name_14 (by decide) ?_
    exact g_zret (pc := 15) d_Ref_name_15 rfl (Nat.le_refl _) (Nat.le_refl _)
  refine g_iload_n (pc := 4) (x := a1) d_Ref_name_4 rfl rfl ?_
  refine g_bipush (pc := 5) (x := 15) d_Ref_name_5 (by decide) ?_
  refine g_icmpgt (pc := 7) (tgt := 14) d_Ref_name_7 rfl ?_ ?_
  · refine g_iconst (pc := 14) (x := 0) d_Ref_name_14 (by decide) ?_
    exact g_zret (pc := 15) d_Ref_name_15 rfl (Nat.le_refl _) (Nat.le_refl _)
  refine g_iconst (pc := 10) (x := 1) d_Ref_name_10 (by decide) ?_
  refine g_goto (pc := 11) (tgt := 15) d_Ref_name_11 rfl ?_
  exact g_zret (pc := 15) d_Ref_name_15 rfl (Nat.le_refl _) (Nat.le_refl _)
abbrev c_Ref_isWord : gC := (m_Ref_isWord, 0, 0, 0, none, 0, 0)
def fn_Ref_isWord (a0 : Nat) (a1 : Int32) (I : fm_I) : pR := (if a1 < 0 then (rz 0 I) else (if 65535 < a1 then (rz 0 I) else (rz 1 I)))
set_option maxRecDepth 10000 in
theorem sn_Ref_isWord (a0 : Nat) (a1 : Int32) (I : fm_I) : gM m_Ref_isWord 0 (fn_Ref_isWord a0 a1 I) [vR a0, vI a1] I := by
  refine gM_of (by decide) rfl (Nat.le_of_ble_eq_true rfl) ?_
  show gW c_Ref_isWord _ _ _ _ _
  unfold fn_Ref_isWord
  refine g_iload_n (pc := 0) (x := a1) d_Ref_isWord_0 rfl rfl ?_
  refine g_iflt (pc := 1) (tgt := 14) d_Ref_isWord_1 rfl ?_ ?_
  · refine g_iconst (pc := 14) (x := 0) d_Ref_isWord_14 (by decide) ?_
    exact g_zret (pc := 15) d_Ref_isWord_15 rfl (Nat.le_refl _) (Nat.le_refl _)
  refine g_iload_n (pc := 4) (x := a1) d_Ref_isWord_4 rfl rfl ?_
  refine g_ldc (pc := 5) (x := 65535) d_Ref_isWord_5 lc_Ref_60 ?_
  refine g_icmpgt (pc := 7) (tgt := 14) d_Ref_isWord_7 rfl ?_ ?_
  · refine g_iconst (pc := 14) (x := 0) d_Ref_isWord_14 (by decide) ?_
    exact g_zret (pc := 15) d_Ref_isWord_15 rfl (Nat.le_refl _) (Nat.le_refl _)
  refine g_iconst (pc := 10) (x := 1) d_Ref_isWord_10 (by decide) ?_
  refine g_goto (pc := 11) (tgt := 15) d_Ref_isWord_11 rfl ?_
  exact g_zret (pc := 15) d_Ref_isWord_15 rfl (Nat.le_refl _) (Nat.le_refl _)
abbrev c_Ref_width : gC := (m_Ref_width, 0, 0, 0, none, 0, 0)
def fn_Ref_width (a0 : Nat) (a1 : Int32) (I : fm_I) : pR := gr 6 a0 1 (fun v1 => ld 0 v1 a1 I (fun v2 => (if v2 = 3 then (ri 1 I) else gr 6 a0 1 (fun v3 => ld 0 v3 a1 I (fun v4 => (if v4 = 4 then (ri 1 I) else gr 6 a0 1 (fun v5 => ld 0 v5 a1 I (fun v6 => (if v6 = 5 then gr 6 a0 2 (fun v11 => ld 0 v11 a1 I (fun v12 => (ri v12 I))) else gr 6 a0 1 (fun v7 => ld 0 v7 a1 I (fun v8 => (if v8 = 6 then gr 6 a0 5 (fun v9 => ld 1 v9 a1 I (fun v10 => (if v10 = 0 then (ri 1 I) else (ri 2 I)))) else (ri 0 I)))))))))))))
set_option maxRecDepth 10000 in
theorem sn_Ref_width (a0 : Nat) (a1 : Int32) (I : fm_I) : gM m_Ref_width 0 (fn_Ref_width a0 a1 I) [vR a0, vI a1] I := by
  refine gM_of (by decide) rfl (Nat.le_of_ble_eq_true rfl) ?_
  show gW c_Ref_width _ _ _ _ _
  unfold fn_Ref_width
  refine g_aload_n (pc := 0) (x := a0) d_Ref_width_0 rfl rfl ?_
  refine g_gr (pc := 1) d_Ref_width_1 fk_Ref_13 (fun v1 => ?_)
  refine g_iload_n (pc := 4) (x := a1) d_Ref_width_4 rfl rfl ?_
  refine g_ldI (pc := 5) d_Ref_width_5 (fun v2 => ?_)
  refine g_iconst (pc := 6) (x := 3) d_Ref_width_6 (by decide) ?_
  refine g_icmpeq (pc := 7) (tgt := 20) d_Ref_width_7 rfl ?_ ?_
  · refine g_iconst (pc := 20) (x := 1) d_Ref_width_20 (by decide) ?_
    exact g_iret (pc := 21) d_Ref_width_21 rfl (Nat.le_refl _) (Nat.le_refl _)
  refine g_aload_n (pc := 10) (x := a0) d_Ref_width_10 rfl rfl ?_
  refine g_gr (pc := 11) d_Ref_width_11 fk_Ref_13 (fun v3 => ?_)
  refine g_iload_n (pc := 14) (x := a1) d_Ref_width_14 rfl rfl ?_
  refine g_ldI (pc := 15) d_Ref_width_15 (fun v4 => ?_)
  refine g_iconst (pc := 16) (x := 4) d_Ref_width_16 (by decide) ?_
  refine g_icmpne (pc := 17) (tgt := 22) d_Ref_width_17 rfl ?_ ?_
  · refine g_aload_n (pc := 22) (x := a0) d_Ref_width_22 rfl rfl ?_
    refine g_gr (pc := 23) d_Ref_width_23 fk_Ref_13 (fun v5 => ?_)
    refine g_iload_n (pc := 26) (x := a1) d_Ref_width_26 rfl rfl ?_
    refine g_ldI (pc := 27) d_Ref_width_27 (fun v6 => ?_)
    refine g_iconst (pc := 28) (x := 5) d_Ref_width_28 (by decide) ?_
    refine g_icmpne (pc := 29) (tgt := 39) d_Ref_width_29 rfl ?_ ?_
    · refine g_aload_n (pc := 39) (x := a0) d_Ref_width_39 rfl rfl ?_
      refine g_gr (pc := 40) d_Ref_width_40 fk_Ref_13 (fun v7 => ?_)
      refine g_iload_n (pc := 43) (x := a1) d_Ref_width_43 rfl rfl ?_
      refine g_ldI (pc := 44) d_Ref_width_44 (fun v8 => ?_)
      refine g_bipush (pc := 45) (x := 6) d_Ref_width_45 (by decide) ?_
      refine g_icmpeq (pc := 47) (tgt := 54) d_Ref_width_47 rfl ?_ ?_
      · refine g_aload_n (pc := 54) (x := a0) d_Ref_width_54 rfl rfl ?_
        refine g_gr (pc := 55) d_Ref_width_55 fk_Ref_25 (fun v9 => ?_)
        refine g_iload_n (pc := 58) (x := a1) d_Ref_width_58 rfl rfl ?_
        refine g_ldZ (pc := 59) d_Ref_width_59 (fun v10 => ?_)
        refine g_ifeq (pc := 60) (tgt := 67) d_Ref_width_60 rfl ?_ ?_
        · refine g_iconst (pc := 67) (x := 1) d_Ref_width_67 (by decide) ?_
          exact g_iret (pc := 68) d_Ref_width_68 rfl (Nat.le_refl _) (Nat.le_refl _)
        refine g_iconst (pc := 63) (x := 2) d_Ref_width_63 (by decide) ?_
        refine g_goto (pc := 64) (tgt := 68) d_Ref_width_64 rfl ?_
        exact g_iret (pc := 68) d_Ref_width_68 rfl (Nat.le_refl _) (Nat.le_refl _)
      refine g_iconst (pc := 50) (x := 0) d_Ref_width_50 (by decide) ?_
      refine g_goto (pc := 51) (tgt := 68) d_Ref_width_51 rfl ?_
      exact g_iret (pc := 68) d_Ref_width_68 rfl (Nat.le_refl _) (Nat.le_refl _)
    refine g_aload_n (pc := 32) (x := a0) d_Ref_width_32 rfl rfl ?_
    refine g_gr (pc := 33) d_Ref_width_33 fk_Ref_16 (fun v11 => ?_)
    refine g_iload_n (pc := 36) (x := a1) d_Ref_width_36 rfl rfl ?_
    refine g_ldI (pc := 37) d_Ref_width_37 (fun v12 => ?_)
    exact g_iret (pc := 38) d_Ref_width_38 rfl (Nat.le_refl _) (Nat.le_refl _)
  refine g_iconst (pc := 20) (x := 1) d_Ref_width_20 (by decide) ?_
  exact g_iret (pc := 21) d_Ref_width_21 rfl (Nat.le_refl _) (Nat.le_refl _)
abbrev c_Ref_place : gC := (m_Ref_place, 1, 0, 0, none, 0, 0)
def fn_Ref_place_9 : Nat → Nat → Int32 → Int32 → Int32 → Int32 → fm_I → pR
  | 0, _, _, _, _, _, _ => none
  | n + 1, a0, a2, a3, a4, a5, I => (if a2 ≤ a5 then (ri a4 I) else gr 6 a0 4 (fun v1 => ld 0 v1 a5 I (fun v2 => (if v2 = a3 then vi 6 a0 (fn_Ref_width a0 a5 I) (fun v4 J3 => (fn_Ref_place_9 n a0 a2 a3 (a4 + v4) (a5 + 1) J3)) else (fn_Ref_place_9 n a0 a2 a3 a4 (a5 + 1) I)))))
set_option maxRecDepth 10000 in
theorem sn_Ref_place_9 (n : Nat) : ∀ (a0 : Nat) (a2 : Int32) (a3 : Int32) (a4 : Int32) (a5 : Int32) (I : fm_I) (L : Nat → Option am_V), L 0 = some (vR a0) → L 2 = some (vI a2) → L 3 = some (vI a3) → L 4 = some (vI a4) → L 5 = some (vI a5) → gW c_Ref_place (fn_Ref_place_9 n a0 a2 a3 a4 a5 I) 9 L [] I := by
  induction n with
  | zero =>
    intro a0 a2 a3 a4 a5 I L h0 h2 h3 h4 h5
    unfold fn_Ref_place_9
    exact g_none
  | succ n ih =>
    intro a0 a2 a3 a4 a5 I L h0 h2 h3 h4 h5
    unfold fn_Ref_place_9
    refine g_iload (pc := 9) (x := a5) d_Ref_place_9 h5 ?_
    refine g_iload_n (pc := 11) (x := a2) d_Ref_place_11 rfl h2 ?_
    refine g_icmpge (pc := 12) (tgt := 48) d_Ref_place_12 rfl ?_ ?_
    · refine g_iload (pc := 48) (x := a4) d_Ref_place_48 h4 ?_
      exact g_iret (pc := 50) d_Ref_place_50 rfl (Nat.le_refl _) (Nat.le_refl _)
    refine g_aload_n (pc := 15) (x := a0) d_Ref_place_15 rfl h0 ?_
    refine g_gr (pc := 16) d_Ref_place_16 fk_Ref_22 (fun v1 => ?_)
    refine g_iload (pc := 19) (x := a5) d_Ref_place_19 h5 ?_
    refine g_ldI (pc := 21) d_Ref_place_21 (fun v2 => ?_)
    refine g_iload_n (pc := 22) (x := a3) d_Ref_place_22 rfl h3 ?_
    refine g_icmpne (pc := 23) (tgt := 38) d_Ref_place_23 rfl ?_ ?_
    · refine g_iload (pc := 38) (x := a4) d_Ref_place_38 h4 ?_
      refine g_istore (pc := 40) (x := a4) d_Ref_place_40 (Nat.le_of_ble_eq_true rfl) ?_
      refine g_iinc (pc := 42) (x := a5) (w := 1) d_Ref_place_42 h5 (by decide) (Nat.le_of_ble_eq_true rfl) ?_
      refine g_goto (pc := 45) (tgt := 9) d_Ref_place_45 rfl ?_
      exact ih _ _ _ _ _ _ _ h0 h2 h3 rfl rfl
    refine g_iload (pc := 26) (x := a4) d_Ref_place_26 h4 ?_
    refine g_aload_n (pc := 28) (x := a0) d_Ref_place_28 rfl h0 ?_
    refine g_iload (pc := 29) (x := a5) d_Ref_place_29 h5 ?_
    refine g_vi (pc := 31) (rest := [vI a4]) (sn_Ref_width a0 a5 I) rfl rfl d_Ref_place_31 ck_Ref_61 (Nat.le_of_ble_eq_true rfl) (Nat.le_of_ble_eq_true rfl) (Nat.le_refl _) (Nat.le_refl _) (fun v4 J3 => ?_)
    refine g_iadd (pc := 34) d_Ref_place_34 ?_
    refine g_goto (pc := 35) (tgt := 40) d_Ref_place_35 rfl ?_
    refine g_istore (pc := 40) (x := (a4 + v4)) d_Ref_place_40 (Nat.le_of_ble_eq_true rfl) ?_
    refine g_iinc (pc := 42) (x := a5) (w := 1) d_Ref_place_42 h5 (by decide) (Nat.le_of_ble_eq_true rfl) ?_
    refine g_goto (pc := 45) (tgt := 9) d_Ref_place_45 rfl ?_
    exact ih _ _ _ _ _ _ _ h0 h2 h3 rfl rfl
def fn_Ref_place (a0 : Nat) (a1 : Int32) (a2 : Int32) (a3 : Int32) (I : fm_I) : pR := (fn_Ref_place_9 FU a0 a2 a3 0 (20 * a1) I)
set_option maxRecDepth 10000 in
theorem sn_Ref_place (a0 : Nat) (a1 : Int32) (a2 : Int32) (a3 : Int32) (I : fm_I) : gM m_Ref_place 1 (fn_Ref_place a0 a1 a2 a3 I) [vR a0, vI a1, vI a2, vI a3] I := by
  refine gM_of (by decide) rfl (Nat.le_of_ble_eq_true rfl) ?_
  show gW c_Ref_place _ _ _ _ _
  unfold fn_Ref_place
  refine g_iconst (pc := 0) (x := 0) d_Ref_place_0 (by decide) ?_
  refine g_istore (pc := 1) (x := 0) d_Ref_place_1 (Nat.le_of_ble_eq_true rfl) ?_
  refine g_bipush (pc := 3) (x := 20) d_Ref_place_3 (by decide) ?_
  refine g_iload_n (pc := 5) (x := a1) d_Ref_place_5 rfl rfl ?_
  refine g_imul (pc := 6) d_Ref_place_6 ?_
  refine g_istore (pc := 7) (x := (20 * a1)) d_Ref_place_7 (Nat.le_of_ble_eq_true rfl) ?_
  exact sn_Ref_place_9 FU _ _ _ _ _ _ _ rfl rfl rfl rfl rfl
abbrev c_Ref_definition : gC := (m_Ref_definition, 0, 0, 0, none, 0, 0)
def fn_Ref_definition_5 : Nat → Nat → Int32 → Int32 → Int32 → fm_I → pR
  | 0, _, _, _, _, _ => none
  | n + 1, a0, a1, a2, a3, I => gr 6 a0 0 (fun v1 => ld 0 v1 a1 I (fun v2 => (if ((20 * a1) + v2) ≤ a3 then (ri (-1) I) else gr 6 a0 1 (fun v3 => ld 0 v3 a3 I (fun v4 => (if v4 = 0 then gr 6 a0 2 (fun v5 => ld 0 v5 a3 I (fun v6 => (if v6 = a2 then (ri a3 I) else (fn_Ref_definition_5 n a0 a1 a2 (a3 + 1) I)))) else gr 6 a0 1 (fun v7 => ld 0 v7 a3 I (fun v8 => (if v8 = 8 then gr 6 a0 2 (fun v9 => ld 0 v9 a3 I (fun v10 => (if v10 = a2 then (ri a3 I) else (fn_Ref_definition_5 n a0 a1 a2 (a3 + 1) I)))) else (fn_Ref_definition_5 n a0 a1 a2 (a3 + 1) I))))))))))
set_option maxRecDepth 10000 in
theorem sn_Ref_definition_5 (n : Nat) : ∀ (a0 : Nat) (a1 : Int32) (a2 : Int32) (a3 : Int32) (I : fm_I) (L : Nat → Option am_V), L 0 = some (vR a0) → L 1 = some (vI a1) → L 2 = some (vI a2) → L 3 = some (vI a3) → gW c_Ref_definition (fn_Ref_definition_5 n a0 a1 a2 a3 I) 5 L [] I := by
  induction n with
  | zero =>
    intro a0 a1 a2 a3 I L h0 h1 h2 h3
    unfold fn_Ref_definition_5
    exact g_none
  | succ n ih =>
    intro a0 a1 a2 a3 I L h0 h1 h2 h3
    unfold fn_Ref_definition_5
    refine g_iload_n (pc := 5) (x := a3) d_Ref_definition_5 rfl h3 ?_
    refine g_bipush (pc := 6) (x := 20) d_Ref_definition_6 (by decide) ?_
    refine g_iload_n (pc := 8) (x := a1) d_Ref_definition_8 rfl h1 ?_
    refine g_imul (pc := 9) d_Ref_definition_9 ?_
    refine g_aload_n (pc := 10) (x := a0) d_Ref_definition_10 rfl h0 ?_
    refine g_gr (pc := 11) d_Ref_definition_11 fk_Ref_7 (fun v1 => ?_)
    refine g_iload_n (pc := 14) (x := a1) d_Ref_definition_14 rfl h1 ?_
    refine g_ldI (pc := 15) d_Ref_definition_15 (fun v2 => ?_)
    refine g_iadd (pc := 16) d_Ref_definition_16 ?_
    refine g_icmpge (pc := 17) (tgt := 58) d_Ref_definition_17 rfl ?_ ?_
    · refine g_iconst (pc := 58) (x := (-1)) d_Ref_definition_58 (by decide) ?_
      exact g_iret (pc := 59) d_Ref_definition_59 rfl (Nat.le_refl _) (Nat.le_refl _)
    refine g_aload_n (pc := 20) (x := a0) d_Ref_definition_20 rfl h0 ?_
    refine g_gr (pc := 21) d_Ref_definition_21 fk_Ref_13 (fun v3 => ?_)
    refine g_iload_n (pc := 24) (x := a3) d_Ref_definition_24 rfl h3 ?_
    refine g_ldI (pc := 25) d_Ref_definition_25 (fun v4 => ?_)
    refine g_ifeq (pc := 26) (tgt := 40) d_Ref_definition_26 rfl ?_ ?_
    · refine g_aload_n (pc := 40) (x := a0) d_Ref_definition_40 rfl h0 ?_
      refine g_gr (pc := 41) d_Ref_definition_41 fk_Ref_16 (fun v5 => ?_)
      refine g_iload_n (pc := 44) (x := a3) d_Ref_definition_44 rfl h3 ?_
      refine g_ldI (pc := 45) d_Ref_definition_45 (fun v6 => ?_)
      refine g_iload_n (pc := 46) (x := a2) d_Ref_definition_46 rfl h2 ?_
      refine g_icmpne (pc := 47) (tgt := 52) d_Ref_definition_47 rfl ?_ ?_
      · refine g_iinc (pc := 52) (x := a3) (w := 1) d_Ref_definition_52 h3 (by decide) (Nat.le_of_ble_eq_true rfl) ?_
        refine g_goto (pc := 55) (tgt := 5) d_Ref_definition_55 rfl ?_
        exact ih _ _ _ _ _ _ h0 h1 h2 rfl
      refine g_iload_n (pc := 50) (x := a3) d_Ref_definition_50 rfl h3 ?_
      exact g_iret (pc := 51) d_Ref_definition_51 rfl (Nat.le_refl _) (Nat.le_refl _)
    refine g_aload_n (pc := 29) (x := a0) d_Ref_definition_29 rfl h0 ?_
    refine g_gr (pc := 30) d_Ref_definition_30 fk_Ref_13 (fun v7 => ?_)
    refine g_iload_n (pc := 33) (x := a3) d_Ref_definition_33 rfl h3 ?_
    refine g_ldI (pc := 34) d_Ref_definition_34 (fun v8 => ?_)
    refine g_bipush (pc := 35) (x := 8) d_Ref_definition_35 (by decide) ?_
    refine g_icmpne (pc := 37) (tgt := 52) d_Ref_definition_37 rfl ?_ ?_
    · refine g_iinc (pc := 52) (x := a3) (w := 1) d_Ref_definition_52 h3 (by decide) (Nat.le_of_ble_eq_true rfl) ?_
      refine g_goto (pc := 55) (tgt := 5) d_Ref_definition_55 rfl ?_
      exact ih _ _ _ _ _ _ h0 h1 h2 rfl
    refine g_aload_n (pc := 40) (x := a0) d_Ref_definition_40 rfl h0 ?_
    refine g_gr (pc := 41) d_Ref_definition_41 fk_Ref_16 (fun v9 => ?_)
    refine g_iload_n (pc := 44) (x := a3) d_Ref_definition_44 rfl h3 ?_
    refine g_ldI (pc := 45) d_Ref_definition_45 (fun v10 => ?_)
    refine g_iload_n (pc := 46) (x := a2) d_Ref_definition_46 rfl h2 ?_
    refine g_icmpne (pc := 47) (tgt := 52) d_Ref_definition_47 rfl ?_ ?_
    · refine g_iinc (pc := 52) (x := a3) (w := 1) d_Ref_definition_52 h3 (by decide) (Nat.le_of_ble_eq_true rfl) ?_
      refine g_goto (pc := 55) (tgt := 5) d_Ref_definition_55 rfl ?_
      exact ih _ _ _ _ _ _ h0 h1 h2 rfl
    refine g_iload_n (pc := 50) (x := a3) d_Ref_definition_50 rfl h3 ?_
    exact g_iret (pc := 51) d_Ref_definition_51 rfl (Nat.le_refl _) (Nat.le_refl _)
def fn_Ref_definition (a0 : Nat) (a1 : Int32) (a2 : Int32) (I : fm_I) : pR := (fn_Ref_definition_5 FU a0 a1 a2 (20 * a1) I)
set_option maxRecDepth 10000 in
theorem sn_Ref_definition (a0 : Nat) (a1 : Int32) (a2 : Int32) (I : fm_I) : gM m_Ref_definition 0 (fn_Ref_definition a0 a1 a2 I) [vR a0, vI a1, vI a2] I := by
  refine gM_of (by decide) rfl (Nat.le_of_ble_eq_true rfl) ?_
  show gW c_Ref_definition _ _ _ _ _
  unfold fn_Ref_definition
  refine g_bipush (pc := 0) (x := 20) d_Ref_definition_0 (by decide) ?_
  refine g_iload_n (pc := 2) (x := a1) d_Ref_definition_2 rfl rfl ?_
  refine g_imul (pc := 3) d_Ref_definition_3 ?_
  refine g_istore_n (pc := 4) (x := (20 * a1)) d_Ref_definition_4 rfl (Nat.le_of_ble_eq_true rfl) ?_
  exact sn_Ref_definition_5 FU _ _ _ _ _ _ rfl rfl rfl rfl
abbrev c_Ref_common : gC := (m_Ref_common, 0, 0, 0, none, 0, 0)
def fn_Ref_common_5 : Nat → Nat → Int32 → Int32 → Int32 → fm_I → pR
  | 0, _, _, _, _, _ => none
  | n + 1, a0, a1, a2, a3, I => gr 6 a0 0 (fun v1 => ld 0 v1 a1 I (fun v2 => (if ((20 * a1) + v2) ≤ a3 then (ri 0 I) else gr 6 a0 1 (fun v3 => ld 0 v3 a3 I (fun v4 => (if v4 = 7 then gr 6 a0 2 (fun v5 => ld 0 v5 a3 I (fun v6 => (if v6 = a2 then gr 6 a0 3 (fun v7 => ld 0 v7 a3 I (fun v8 => (ri v8 I))) else (fn_Ref_common_5 n a0 a1 a2 (a3 + 1) I)))) else (fn_Ref_common_5 n a0 a1 a2 (a3 + 1) I)))))))
set_option maxRecDepth 10000 in
theorem sn_Ref_common_5 (n : Nat) : ∀ (a0 : Nat) (a1 : Int32) (a2 : Int32) (a3 : Int32) (I : fm_I) (L : Nat → Option am_V), L 0 = some (vR a0) → L 1 = some (vI a1) → L 2 = some (vI a2) → L 3 = some (vI a3) → gW c_Ref_common (fn_Ref_common_5 n a0 a1 a2 a3 I) 5 L [] I := by
  induction n with
  | zero =>
    intro a0 a1 a2 a3 I L h0 h1 h2 h3
    unfold fn_Ref_common_5
    exact g_none
  | succ n ih =>
    intro a0 a1 a2 a3 I L h0 h1 h2 h3
    unfold fn_Ref_common_5
    refine g_iload_n (pc := 5) (x := a3) d_Ref_common_5 rfl h3 ?_
    refine g_bipush (pc := 6) (x := 20) d_Ref_common_6 (by decide) ?_
    refine g_iload_n (pc := 8) (x := a1) d_Ref_common_8 rfl h1 ?_
    refine g_imul (pc := 9) d_Ref_common_9 ?_
    refine g_aload_n (pc := 10) (x := a0) d_Ref_common_10 rfl h0 ?_
    refine g_gr (pc := 11) d_Ref_common_11 fk_Ref_7 (fun v1 => ?_)
    refine g_iload_n (pc := 14) (x := a1) d_Ref_common_14 rfl h1 ?_
    refine g_ldI (pc := 15) d_Ref_common_15 (fun v2 => ?_)
    refine g_iadd (pc := 16) d_Ref_common_16 ?_
    refine g_icmpge (pc := 17) (tgt := 54) d_Ref_common_17 rfl ?_ ?_
    · refine g_iconst (pc := 54) (x := 0) d_Ref_common_54 (by decide) ?_
      exact g_iret (pc := 55) d_Ref_common_55 rfl (Nat.le_refl _) (Nat.le_refl _)
    refine g_aload_n (pc := 20) (x := a0) d_Ref_common_20 rfl h0 ?_
    refine g_gr (pc := 21) d_Ref_common_21 fk_Ref_13 (fun v3 => ?_)
    refine g_iload_n (pc := 24) (x := a3) d_Ref_common_24 rfl h3 ?_
    refine g_ldI (pc := 25) d_Ref_common_25 (fun v4 => ?_)
    refine g_bipush (pc := 26) (x := 7) d_Ref_common_26 (by decide) ?_
    refine g_icmpne (pc := 28) (tgt := 48) d_Ref_common_28 rfl ?_ ?_
    · refine g_iinc (pc := 48) (x := a3) (w := 1) d_Ref_common_48 h3 (by decide) (Nat.le_of_ble_eq_true rfl) ?_
      refine g_goto (pc := 51) (tgt := 5) d_Ref_common_51 rfl ?_
      exact ih _ _ _ _ _ _ h0 h1 h2 rfl
    refine g_aload_n (pc := 31) (x := a0) d_Ref_common_31 rfl h0 ?_
    refine g_gr (pc := 32) d_Ref_common_32 fk_Ref_16 (fun v5 => ?_)
    refine g_iload_n (pc := 35) (x := a3) d_Ref_common_35 rfl h3 ?_
    refine g_ldI (pc := 36) d_Ref_common_36 (fun v6 => ?_)
    refine g_iload_n (pc := 37) (x := a2) d_Ref_common_37 rfl h2 ?_
    refine g_icmpne (pc := 38) (tgt := 48) d_Ref_common_38 rfl ?_ ?_
    · refine g_iinc (pc := 48) (x := a3) (w := 1) d_Ref_common_48 h3 (by decide) (Nat.le_of_ble_eq_true rfl) ?_
      refine g_goto (pc := 51) (tgt := 5) d_Ref_common_51 rfl ?_
      exact ih _ _ _ _ _ _ h0 h1 h2 rfl
    refine g_aload_n (pc := 41) (x := a0) d_Ref_common_41 rfl h0 ?_
    refine g_gr (pc := 42) d_Ref_common_42 fk_Ref_19 (fun v7 => ?_)
    refine g_iload_n (pc := 45) (x := a3) d_Ref_common_45 rfl h3 ?_
    refine g_ldI (pc := 46) d_Ref_common_46 (fun v8 => ?_)
    exact g_iret (pc := 47) d_Ref_common_47 rfl (Nat.le_refl _) (Nat.le_refl _)
def fn_Ref_common (a0 : Nat) (a1 : Int32) (a2 : Int32) (I : fm_I) : pR := (fn_Ref_common_5 FU a0 a1 a2 (20 * a1) I)
set_option maxRecDepth 10000 in
theorem sn_Ref_common (a0 : Nat) (a1 : Int32) (a2 : Int32) (I : fm_I) : gM m_Ref_common 0 (fn_Ref_common a0 a1 a2 I) [vR a0, vI a1, vI a2] I := by
  refine gM_of (by decide) rfl (Nat.le_of_ble_eq_true rfl) ?_
  show gW c_Ref_common _ _ _ _ _
  unfold fn_Ref_common
  refine g_bipush (pc := 0) (x := 20) d_Ref_common_0 (by decide) ?_
  refine g_iload_n (pc := 2) (x := a1) d_Ref_common_2 rfl rfl ?_
  refine g_imul (pc := 3) d_Ref_common_3 ?_
  refine g_istore_n (pc := 4) (x := (20 * a1)) d_Ref_common_4 rfl (Nat.le_of_ble_eq_true rfl) ?_
  exact sn_Ref_common_5 FU _ _ _ _ _ _ rfl rfl rfl rfl
abbrev c_Ref_global : gC := (m_Ref_global, 0, 0, 0, none, 0, 0)
def fn_Ref_global_8 : Nat → Nat → Int32 → Int32 → Int32 → Int32 → fm_I → pR
  | 0, _, _, _, _, _, _ => none
  | n + 1, a0, a1, a2, a3, a4, I => gr 6 a0 0 (fun v1 => ld 0 v1 a1 I (fun v2 => (if ((20 * a1) + v2) ≤ a4 then (rz a3 I) else (if a3 = 0 then gr 6 a0 1 (fun v3 => ld 0 v3 a4 I (fun v4 => (if v4 = 1 then gr 6 a0 2 (fun v5 => ld 0 v5 a4 I (fun v6 => (if v6 = a2 then (fn_Ref_global_8 n a0 a1 a2 1 (a4 + 1) I) else (fn_Ref_global_8 n a0 a1 a2 0 (a4 + 1) I)))) else (fn_Ref_global_8 n a0 a1 a2 0 (a4 + 1) I)))) else (fn_Ref_global_8 n a0 a1 a2 1 (a4 + 1) I)))))
set_option maxRecDepth 10000 in
theorem sn_Ref_global_8 (n : Nat) : ∀ (a0 : Nat) (a1 : Int32) (a2 : Int32) (a3 : Int32) (a4 : Int32) (I : fm_I) (L : Nat → Option am_V), L 0 = some (vR a0) → L 1 = some (vI a1) → L 2 = some (vI a2) → L 3 = some (vI a3) → L 4 = some (vI a4) → gW c_Ref_global (fn_Ref_global_8 n a0 a1 a2 a3 a4 I) 8 L [] I := by
  induction n with
  | zero =>
    intro a0 a1 a2 a3 a4 I L h0 h1 h2 h3 h4
    unfold fn_Ref_global_8
    exact g_none
  | succ n ih =>
    intro a0 a1 a2 a3 a4 I L h0 h1 h2 h3 h4
    unfold fn_Ref_global_8
    refine g_iload (pc := 8) (x := a4) d_Ref_global_8 h4 ?_
    refine g_bipush (pc := 10) (x := 20) d_Ref_global_10 (by decide) ?_
    refine g_iload_n (pc := 12) (x := a1) d_Ref_global_12 rfl h1 ?_
    refine g_imul (pc := 13) d_Ref_global_13 ?_
    refine g_aload_n (pc := 14) (x := a0) d_Ref_global_14 rfl h0 ?_
    refine g_gr (pc := 15) d_Ref_global_15 fk_Ref_7 (fun v1 => ?_)
    refine g_iload_n (pc := 18) (x := a1) d_Ref_global_18 rfl h1 ?_
    refine g_ldI (pc := 19) d_Ref_global_19 (fun v2 => ?_)
    refine g_iadd (pc := 20) d_Ref_global_20 ?_
    refine g_icmpge (pc := 21) (tgt := 62) d_Ref_global_21 rfl ?_ ?_
    · refine g_iload_n (pc := 62) (x := a3) d_Ref_global_62 rfl h3 ?_
      exact g_zret (pc := 63) d_Ref_global_63 rfl (Nat.le_refl _) (Nat.le_refl _)
    refine g_iload_n (pc := 24) (x := a3) d_Ref_global_24 rfl h3 ?_
    refine g_ifne (pc := 25) (tgt := 50) d_Ref_global_25 rfl ?_ ?_
    · refine g_iconst (pc := 50) (x := 1) d_Ref_global_50 (by decide) ?_
      refine g_goto (pc := 51) (tgt := 55) d_Ref_global_51 rfl ?_
      refine g_istore_n (pc := 55) (x := 1) d_Ref_global_55 rfl (Nat.le_of_ble_eq_true rfl) ?_
      refine g_iinc (pc := 56) (x := a4) (w := 1) d_Ref_global_56 h4 (by decide) (Nat.le_of_ble_eq_true rfl) ?_
      refine g_goto (pc := 59) (tgt := 8) d_Ref_global_59 rfl ?_
      exact ih _ _ _ _ _ _ _ h0 h1 h2 rfl rfl
    refine g_aload_n (pc := 28) (x := a0) d_Ref_global_28 rfl h0 ?_
    refine g_gr (pc := 29) d_Ref_global_29 fk_Ref_13 (fun v3 => ?_)
    refine g_iload (pc := 32) (x := a4) d_Ref_global_32 h4 ?_
    refine g_ldI (pc := 34) d_Ref_global_34 (fun v4 => ?_)
    refine g_iconst (pc := 35) (x := 1) d_Ref_global_35 (by decide) ?_
    refine g_icmpne (pc := 36) (tgt := 54) d_Ref_global_36 rfl ?_ ?_
    · refine g_iconst (pc := 54) (x := 0) d_Ref_global_54 (by decide) ?_
      refine g_istore_n (pc := 55) (x := 0) d_Ref_global_55 rfl (Nat.le_of_ble_eq_true rfl) ?_
      refine g_iinc (pc := 56) (x := a4) (w := 1) d_Ref_global_56 h4 (by decide) (Nat.le_of_ble_eq_true rfl) ?_
      refine g_goto (pc := 59) (tgt := 8) d_Ref_global_59 rfl ?_
      exact ih _ _ _ _ _ _ _ h0 h1 h2 rfl rfl
    refine g_aload_n (pc := 39) (x := a0) d_Ref_global_39 rfl h0 ?_
    refine g_gr (pc := 40) d_Ref_global_40 fk_Ref_16 (fun v5 => ?_)
    refine g_iload (pc := 43) (x := a4) d_Ref_global_43 h4 ?_
    refine g_ldI (pc := 45) d_Ref_global_45 (fun v6 => ?_)
    refine g_iload_n (pc := 46) (x := a2) d_Ref_global_46 rfl h2 ?_
    refine g_icmpne (pc := 47) (tgt := 54) d_Ref_global_47 rfl ?_ ?_
    · refine g_iconst (pc := 54) (x := 0) d_Ref_global_54 (by decide) ?_
      refine g_istore_n (pc := 55) (x := 0) d_Ref_global_55 rfl (Nat.le_of_ble_eq_true rfl) ?_
      refine g_iinc (pc := 56) (x := a4) (w := 1) d_Ref_global_56 h4 (by decide) (Nat.le_of_ble_eq_true rfl) ?_
      refine g_goto (pc := 59) (tgt := 8) d_Ref_global_59 rfl ?_
      exact ih _ _ _ _ _ _ _ h0 h1 h2 rfl rfl
    refine g_iconst (pc := 50) (x := 1) d_Ref_global_50 (by decide) ?_
    refine g_goto (pc := 51) (tgt := 55) d_Ref_global_51 rfl ?_
    refine g_istore_n (pc := 55) (x := 1) d_Ref_global_55 rfl (Nat.le_of_ble_eq_true rfl) ?_
    refine g_iinc (pc := 56) (x := a4) (w := 1) d_Ref_global_56 h4 (by decide) (Nat.le_of_ble_eq_true rfl) ?_
    refine g_goto (pc := 59) (tgt := 8) d_Ref_global_59 rfl ?_
    exact ih _ _ _ _ _ _ _ h0 h1 h2 rfl rfl
def fn_Ref_global (a0 : Nat) (a1 : Int32) (a2 : Int32) (I : fm_I) : pR := (fn_Ref_global_8 FU a0 a1 a2 0 (20 * a1) I)
set_option maxRecDepth 10000 in
theorem sn_Ref_global (a0 : Nat) (a1 : Int32) (a2 : Int32) (I : fm_I) : gM m_Ref_global 0 (fn_Ref_global a0 a1 a2 I) [vR a0, vI a1, vI a2] I := by
  refine gM_of (by decide) rfl (Nat.le_of_ble_eq_true rfl) ?_
  show gW c_Ref_global _ _ _ _ _
  unfold fn_Ref_global
  refine g_iconst (pc := 0) (x := 0) d_Ref_global_0 (by decide) ?_
  refine g_istore_n (pc := 1) (x := 0) d_Ref_global_1 rfl (Nat.le_of_ble_eq_true rfl) ?_
  refine g_bipush (pc := 2) (x := 20) d_Ref_global_2 (by decide) ?_
  refine g_iload_n (pc := 4) (x := a1) d_Ref_global_4 rfl rfl ?_
  refine g_imul (pc := 5) d_Ref_global_5 ?_
  refine g_istore (pc := 6) (x := (20 * a1)) d_Ref_global_6 (Nat.le_of_ble_eq_true rfl) ?_
  exact sn_Ref_global_8 FU _ _ _ _ _ _ _ rfl rfl rfl rfl rfl
abbrev c_Ref_exports : gC := (m_Ref_exports, 1, 0, 0, none, 0, 0)
def fn_Ref_exports (a0 : Nat) (a1 : Int32) (a2 : Int32) (I : fm_I) : pR := vi 6 a0 (fn_Ref_global a0 a1 a2 I) (fun v2 J1 => (if v2 = 0 then (rz 0 J1) else vi 6 a0 (fn_Ref_definition a0 a1 a2 J1) (fun v4 J3 => (if v4 < 0 then (rz 0 J3) else (rz 1 J3)))))
set_option maxRecDepth 10000 in
theorem sn_Ref_exports (a0 : Nat) (a1 : Int32) (a2 : Int32) (I : fm_I) : gM m_Ref_exports 1 (fn_Ref_exports a0 a1 a2 I) [vR a0, vI a1, vI a2] I := by
  refine gM_of (by decide) rfl (Nat.le_of_ble_eq_true rfl) ?_
  show gW c_Ref_exports _ _ _ _ _
  unfold fn_Ref_exports
  refine g_aload_n (pc := 0) (x := a0) d_Ref_exports_0 rfl rfl ?_
  refine g_iload_n (pc := 1) (x := a1) d_Ref_exports_1 rfl rfl ?_
  refine g_iload_n (pc := 2) (x := a2) d_Ref_exports_2 rfl rfl ?_
  refine g_vi (pc := 3) (rest := []) (sn_Ref_global a0 a1 a2 I) rfl rfl d_Ref_exports_3 ck_Ref_65 (Nat.le_of_ble_eq_true rfl) (Nat.le_of_ble_eq_true rfl) (Nat.le_refl _) (Nat.le_refl _) (fun v2 J1 => ?_)
  refine g_ifeq (pc := 6) (tgt := 22) d_Ref_exports_6 rfl ?_ ?_
  · refine g_iconst (pc := 22) (x := 0) d_Ref_exports_22 (by decide) ?_
    exact g_zret (pc := 23) d_Ref_exports_23 rfl (Nat.le_refl _) (Nat.le_refl _)
  refine g_aload_n (pc := 9) (x := a0) d_Ref_exports_9 rfl rfl ?_
  refine g_iload_n (pc := 10) (x := a1) d_Ref_exports_10 rfl rfl ?_
  refine g_iload_n (pc := 11) (x := a2) d_Ref_exports_11 rfl rfl ?_
  refine g_vi (pc := 12) (rest := []) (sn_Ref_definition a0 a1 a2 J1) rfl rfl d_Ref_exports_12 ck_Ref_69 (Nat.le_of_ble_eq_true rfl) (Nat.le_of_ble_eq_true rfl) (Nat.le_refl _) (Nat.le_refl _) (fun v4 J3 => ?_)
  refine g_iflt (pc := 15) (tgt := 22) d_Ref_exports_15 rfl ?_ ?_
  · refine g_iconst (pc := 22) (x := 0) d_Ref_exports_22 (by decide) ?_
    exact g_zret (pc := 23) d_Ref_exports_23 rfl (Nat.le_refl _) (Nat.le_refl _)
  refine g_iconst (pc := 18) (x := 1) d_Ref_exports_18 (by decide) ?_
  refine g_goto (pc := 19) (tgt := 23) d_Ref_exports_19 rfl ?_
  exact g_zret (pc := 23) d_Ref_exports_23 rfl (Nat.le_refl _) (Nat.le_refl _)
