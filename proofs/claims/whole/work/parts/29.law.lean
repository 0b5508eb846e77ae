abbrev c_Law (S : Nat × (Nat → Int32)) : gC := (m_Law_law, 11, 600000, 7302250, some S, 94, 2523)
def fn_Law_law_18 (S : Nat × (Nat → Int32)) : Nat → Nat → Nat → Int32 → fm_I → pR
  | 0, _, _, _, _ => none
  | n + 1, a1, a2, a3, I => (if ((Int32.ofNat S.1) - 5) < a3 then (rz 1 I) else sl S a3 (fun v1 => bn (v1 &&& 31) (fun v2 => (if v2 = 0 then sl S (a3 + 1) (fun v3 => sl S (a3 + 2) (fun v4 => sl S (a3 + 3) (fun v5 => sl S (a3 + 4) (fun v6 => vi 0 a1 (fn_SL_add a1 v3 v4 v5 v6 I) (fun v8 J7 => sl S (a3 + 1) (fun v9 => sl S (a3 + 2) (fun v10 => sl S (a3 + 3) (fun v11 => sl S (a3 + 4) (fun v12 => vi 6 a2 (fn_Ref_add a2 v9 v10 v11 v12 J7) (fun v14 J13 => (if v8 = v14 then (fn_Law_law_18 S n a1 a2 (a3 + 5) J13) else (rz 0 J13)))))))))))) else (if v2 = 1 then sl S (a3 + 1) (fun v15 => vi 0 a1 (fn_SL_clear a1 v15 I) (fun v17 J16 => sl S (a3 + 1) (fun v18 => vi 6 a2 (fn_Ref_clear a2 v18 J16) (fun v20 J19 => (if v17 = v20 then (fn_Law_law_18 S n a1 a2 (a3 + 5) J19) else (rz 0 J19)))))) else (if v2 = 2 then sl S (a3 + 1) (fun v21 => sl S (a3 + 2) (fun v22 => vi 0 a1 (fn_SL_length a1 v21 v22 I) (fun v24 J23 => sl S (a3 + 1) (fun v25 => sl S (a3 + 2) (fun v26 => vi 6 a2 (fn_Ref_length a2 v25 v26 J23) (fun v28 J27 => (if v24 = v28 then (fn_Law_law_18 S n a1 a2 (a3 + 5) J27) else (rz 0 J27)))))))) else (if v2 = 3 then sl S (a3 + 1) (fun v29 => sl S (a3 + 2) (fun v30 => vi 0 a1 (fn_SL_isLong a1 v29 v30 I) (fun v32 J31 => sl S (a3 + 1) (fun v33 => sl S (a3 + 2) (fun v34 => vi 6 a2 (fn_Ref_isLong a2 v33 v34 J31) (fun v36 J35 => (if v32 = v36 then (fn_Law_law_18 S n a1 a2 (a3 + 5) J35) else (rz 0 J35)))))))) else (if v2 = 4 then sl S (a3 + 1) (fun v37 => sl S (a3 + 2) (fun v38 => vi 0 a1 (fn_SL_store a1 v37 v38 I) (fun v40 J39 => sl S (a3 + 1) (fun v41 => sl S (a3 + 2) (fun v42 => vi 6 a2 (fn_Ref_store a2 v41 v42 J39) (fun v44 J43 => (if v40 = v44 then (fn_Law_law_18 S n a1 a2 (a3 + 5) J43) else (rz 0 J43)))))))) else (if v2 = 5 then sl S (a3 + 1) (fun v45 => vi 0 a1 (fn_SL_remove a1 v45 I) (fun v47 J46 => sl S (a3 + 1) (fun v48 => vi 6 a2 (fn_Ref_remove a2 v48 J46) (fun v50 J49 => (if v47 = v50 then (fn_Law_law_18 S n a1 a2 (a3 + 5) J49) else (rz 0 J49)))))) else (if v2 = 6 then sl S (a3 + 1) (fun v51 => vi 0 a1 (fn_SL_member a1 v51 I) (fun v53 J52 => sl S (a3 + 1) (fun v54 => vi 6 a2 (fn_Ref_member a2 v54 J52) (fun v56 J55 => (if v53 = v56 then (fn_Law_law_18 S n a1 a2 (a3 + 5) J55) else (rz 0 J55)))))) else (if v2 = 7 then sl S (a3 + 1) (fun v57 => vi 0 a1 (fn_SL_item a1 v57 I) (fun v59 J58 => sl S (a3 + 1) (fun v60 => vi 6 a2 (fn_Ref_item a2 v60 J58) (fun v62 J61 => (if v59 = v62 then (fn_Law_law_18 S n a1 a2 (a3 + 5) J61) else (rz 0 J61)))))) else (if v2 = 8 then vv 0 a1 (fn_SL_newLine a1 I) (fun J63 => vv 6 a2 (fn_Ref_newLine a2 J63) (fun J64 => (fn_Law_law_18 S n a1 a2 (a3 + 5) J64))) else (if v2 = 9 then sl S (a3 + 1) (fun v65 => vi 0 a1 (fn_SL_link a1 v65 I) (fun v67 J66 => sl S (a3 + 1) (fun v68 => vi 6 a2 (fn_Ref_link a2 v68 J66) (fun v70 J69 => (if v67 = v70 then (fn_Law_law_18 S n a1 a2 (a3 + 5) J69) else (rz 0 J69)))))) else (if v2 = 10 then sl S (a3 + 1) (fun v71 => vi 0 a1 (fn_SL_included a1 v71 I) (fun v73 J72 => sl S (a3 + 1) (fun v74 => vi 6 a2 (fn_Ref_included a2 v74 J72) (fun v76 J75 => (if v73 = v76 then (fn_Law_law_18 S n a1 a2 (a3 + 5) J75) else (rz 0 J75)))))) else (if v2 = 11 then vi 0 a1 (fn_SL_missing a1 I) (fun v78 J77 => vi 6 a2 (fn_Ref_missing a2 J77) (fun v80 J79 => (if v78 = v80 then (fn_Law_law_18 S n a1 a2 (a3 + 5) J79) else (rz 0 J79)))) else (if v2 = 12 then sl S (a3 + 1) (fun v81 => vi 0 a1 (fn_SL_size a1 v81 I) (fun v83 J82 => sl S (a3 + 1) (fun v84 => vi 6 a2 (fn_Ref_size a2 v84 J82) (fun v86 J85 => (if v83 = v86 then (fn_Law_law_18 S n a1 a2 (a3 + 5) J85) else (rz 0 J85)))))) else (if v2 = 13 then sl S (a3 + 1) (fun v87 => vi 0 a1 (fn_SL_word a1 v87 I) (fun v89 J88 => sl S (a3 + 1) (fun v90 => vi 6 a2 (fn_Ref_word a2 v90 J88) (fun v92 J91 => (if v89 = v92 then (fn_Law_law_18 S n a1 a2 (a3 + 5) J91) else (rz 0 J91)))))) else (if v2 = 14 then sl S (a3 + 1) (fun v93 => vi 0 a1 (fn_SL_symbol a1 v93 I) (fun v95 J94 => sl S (a3 + 1) (fun v96 => vi 6 a2 (fn_Ref_symbol a2 v96 J94) (fun v98 J97 => (if v95 = v98 then (fn_Law_law_18 S n a1 a2 (a3 + 5) J97) else (rz 0 J97)))))) else (if v2 = 15 then vi 0 a1 (fn_SL_strip a1 I) (fun v100 J99 => vi 6 a2 (fn_Ref_strip a2 J99) (fun v102 J101 => (if v100 = v102 then (fn_Law_law_18 S n a1 a2 (a3 + 5) J101) else (rz 0 J101)))) else (if v2 = 16 then vi 0 a1 (fn_SL_start a1 I) (fun v104 J103 => vi 6 a2 (fn_Ref_start a2 J103) (fun v106 J105 => (if v104 = v106 then (fn_Law_law_18 S n a1 a2 (a3 + 5) J105) else (rz 0 J105)))) else (if v2 = 17 then sl S (a3 + 1) (fun v107 => vi 0 a1 (fn_SL_feed a1 v107 I) (fun v109 J108 => sl S (a3 + 1) (fun v110 => vi 6 a2 (fn_Ref_feed a2 v110 J108) (fun v112 J111 => (if v109 = v112 then (fn_Law_law_18 S n a1 a2 (a3 + 5) J111) else (rz 0 J111)))))) else (if v2 = 18 then sl S (a3 + 1) (fun v113 => vi 0 a1 (fn_SL_run a1 v113 I) (fun v115 J114 => sl S (a3 + 1) (fun v116 => vi 6 a2 (fn_Ref_run a2 v116 J114) (fun v118 J117 => (if v115 = v118 then (fn_Law_law_18 S n a1 a2 (a3 + 5) J117) else (rz 0 J117)))))) else (if v2 = 19 then sl S (a3 + 1) (fun v119 => vi 0 a1 (fn_SL_register a1 v119 I) (fun v121 J120 => sl S (a3 + 1) (fun v122 => vi 6 a2 (fn_Ref_register a2 v122 J120) (fun v124 J123 => (if v121 = v124 then (fn_Law_law_18 S n a1 a2 (a3 + 5) J123) else (rz 0 J123)))))) else (if v2 = 20 then sl S (a3 + 1) (fun v125 => vi 0 a1 (fn_SL_memory a1 v125 I) (fun v127 J126 => sl S (a3 + 1) (fun v128 => vi 6 a2 (fn_Ref_memory a2 v128 J126) (fun v130 J129 => (if v127 = v130 then (fn_Law_law_18 S n a1 a2 (a3 + 5) J129) else (rz 0 J129)))))) else (fn_Law_law_18 S n a1 a2 (a3 + 5) I)))))))))))))))))))))))))
set_option maxRecDepth 10000 in
theorem sn_Law_law_18 (S : Nat × (Nat → Int32)) (n : Nat) : ∀ (a1 : Nat) (a2 : Nat) (a3 : Int32) (I : fm_I) (L : Nat → Option am_V), L 0 = some (vR am_SP) → L 1 = some (vR a1) → L 2 = some (vR a2) → L 3 = some (vI a3) → gW (c_Law S) (fn_Law_law_18 S n a1 a2 a3 I) 18 L [] I := by
  induction n with
  | zero =>
    intro a1 a2 a3 I L h0 h1 h2 h3
    unfold fn_Law_law_18
    exact g_none
  | succ n ih =>
    intro a1 a2 a3 I L h0 h1 h2 h3
    unfold fn_Law_law_18
    refine g_iload_n (pc := 18) (x := a3) d_Law_law_18 rfl h3 ?_
    refine g_aload_n (pc := 19) (x := am_SP) d_Law_law_19 rfl h0 ?_
    refine g_sn (pc := 20) (S := S) rfl d_Law_law_20 ?_
    refine g_iconst (pc := 21) (x := 5) d_Law_law_21 (by decide) ?_
    refine g_isub (pc := 22) d_Law_law_22 ?_
    refine g_icmpgt (pc := 23) (tgt := 639) d_Law_law_23 rfl ?_ ?_
    · refine g_iconst (pc := 639) (x := 1) d_Law_law_639 (by decide) ?_
      exact g_zret (pc := 640) d_Law_law_640 rfl (Nat.le_of_ble_eq_true rfl) (Nat.le_of_ble_eq_true rfl)
    refine g_aload_n (pc := 26) (x := am_SP) d_Law_law_26 rfl h0 ?_
    refine g_iload_n (pc := 27) (x := a3) d_Law_law_27 rfl h3 ?_
    refine g_sl (pc := 28) (S := S) rfl d_Law_law_28 (fun v1 => ?_)
    refine g_bipush (pc := 29) (x := 31) d_Law_law_29 (by decide) ?_
    refine g_iand (pc := 31) d_Law_law_31 ?_
    refine g_bn (fun v2 => ?_)
    refine g_sw (c := 0) (fun e0 => ?_) (fun e0 => ?_)
    · refine g_tin (pc := 32) (tgt := 132) (off := 100) e0 d_Law_law_32 (by decide) (by decide) (by decide) (by decide) ?_
      refine g_aload_n (pc := 132) (x := a1) d_Law_law_132 rfl h1 ?_
      refine g_aload_n (pc := 133) (x := am_SP) d_Law_law_133 rfl h0 ?_
      refine g_iload_n (pc := 134) (x := a3) d_Law_law_134 rfl h3 ?_
      refine g_iconst (pc := 135) (x := 1) d_Law_law_135 (by decide) ?_
      refine g_iadd (pc := 136) d_Law_law_136 ?_
      refine g_sl (pc := 137) (S := S) rfl d_Law_law_137 (fun v3 => ?_)
      refine g_aload_n (pc := 138) (x := am_SP) d_Law_law_138 rfl h0 ?_
      refine g_iload_n (pc := 139) (x := a3) d_Law_law_139 rfl h3 ?_
      refine g_iconst (pc := 140) (x := 2) d_Law_law_140 (by decide) ?_
      refine g_iadd (pc := 141) d_Law_law_141 ?_
      refine g_sl (pc := 142) (S := S) rfl d_Law_law_142 (fun v4 => ?_)
      refine g_aload_n (pc := 143) (x := am_SP) d_Law_law_143 rfl h0 ?_
      refine g_iload_n (pc := 144) (x := a3) d_Law_law_144 rfl h3 ?_
      refine g_iconst (pc := 145) (x := 3) d_Law_law_145 (by decide) ?_
      refine g_iadd (pc := 146) d_Law_law_146 ?_
      refine g_sl (pc := 147) (S := S) rfl d_Law_law_147 (fun v5 => ?_)
      refine g_aload_n (pc := 148) (x := am_SP) d_Law_law_148 rfl h0 ?_
      refine g_iload_n (pc := 149) (x := a3) d_Law_law_149 rfl h3 ?_
      refine g_iconst (pc := 150) (x := 4) d_Law_law_150 (by decide) ?_
      refine g_iadd (pc := 151) d_Law_law_151 ?_
      refine g_sl (pc := 152) (S := S) rfl d_Law_law_152 (fun v6 => ?_)
      refine g_vi (pc := 153) (rest := []) (sn_SL_add a1 v3 v4 v5 v6 I) rfl rfl d_Law_law_153 ck_Law_13 (Nat.le_of_ble_eq_true rfl) (Nat.le_of_ble_eq_true rfl) (Nat.le_of_ble_eq_true rfl) (Nat.le_of_ble_eq_true rfl) (fun v8 J7 => ?_)
      refine g_aload_n (pc := 156) (x := a2) d_Law_law_156 rfl h2 ?_
      refine g_aload_n (pc := 157) (x := am_SP) d_Law_law_157 rfl h0 ?_
      refine g_iload_n (pc := 158) (x := a3) d_Law_law_158 rfl h3 ?_
      refine g_iconst (pc := 159) (x := 1) d_Law_law_159 (by decide) ?_
      refine g_iadd (pc := 160) d_Law_law_160 ?_
      refine g_sl (pc := 161) (S := S) rfl d_Law_law_161 (fun v9 => ?_)
      refine g_aload_n (pc := 162) (x := am_SP) d_Law_law_162 rfl h0 ?_
      refine g_iload_n (pc := 163) (x := a3) d_Law_law_163 rfl h3 ?_
      refine g_iconst (pc := 164) (x := 2) d_Law_law_164 (by decide) ?_
      refine g_iadd (pc := 165) d_Law_law_165 ?_
      refine g_sl (pc := 166) (S := S) rfl d_Law_law_166 (fun v10 => ?_)
      refine g_aload_n (pc := 167) (x := am_SP) d_Law_law_167 rfl h0 ?_
      refine g_iload_n (pc := 168) (x := a3) d_Law_law_168 rfl h3 ?_
      refine g_iconst (pc := 169) (x := 3) d_Law_law_169 (by decide) ?_
      refine g_iadd (pc := 170) d_Law_law_170 ?_
      refine g_sl (pc := 171) (S := S) rfl d_Law_law_171 (fun v11 => ?_)
      refine g_aload_n (pc := 172) (x := am_SP) d_Law_law_172 rfl h0 ?_
      refine g_iload_n (pc := 173) (x := a3) d_Law_law_173 rfl h3 ?_
      refine g_iconst (pc := 174) (x := 4) d_Law_law_174 (by decide) ?_
      refine g_iadd (pc := 175) d_Law_law_175 ?_
      refine g_sl (pc := 176) (S := S) rfl d_Law_law_176 (fun v12 => ?_)
      refine g_vi (pc := 177) (rest := [vI v8]) (sn_Ref_add a2 v9 v10 v11 v12 J7) rfl rfl d_Law_law_177 ck_Law_17 (Nat.le_of_ble_eq_true rfl) (Nat.le_of_ble_eq_true rfl) (Nat.le_of_ble_eq_true rfl) (Nat.le_of_ble_eq_true rfl) (fun v14 J13 => ?_)
      refine g_icmpeq (pc := 180) (tgt := 633) d_Law_law_180 rfl ?_ ?_
      · refine g_iinc (pc := 633) (x := a3) (w := 5) d_Law_law_633 h3 (by decide) (Nat.le_of_ble_eq_true rfl) ?_
        refine g_goto (pc := 636) (tgt := 18) d_Law_law_636 rfl ?_
        exact ih _ _ _ _ _ h0 h1 h2 rfl
      refine g_iconst (pc := 183) (x := 0) d_Law_law_183 (by decide) ?_
      exact g_zret (pc := 184) d_Law_law_184 rfl (Nat.le_of_ble_eq_true rfl) (Nat.le_of_ble_eq_true rfl)
    refine g_sw (c := 1) (fun e1 => ?_) (fun e1 => ?_)
    · refine g_tin (pc := 32) (tgt := 185) (off := 153) e1 d_Law_law_32 (by decide) (by decide) (by decide) (by decide) ?_
      refine g_aload_n (pc := 185) (x := a1) d_Law_law_185 rfl h1 ?_
      refine g_aload_n (pc := 186) (x := am_SP) d_Law_law_186 rfl h0 ?_
      refine g_iload_n (pc := 187) (x := a3) d_Law_law_187 rfl h3 ?_
      refine g_iconst (pc := 188) (x := 1) d_Law_law_188 (by decide) ?_
      refine g_iadd (pc := 189) d_Law_law_189 ?_
      refine g_sl (pc := 190) (S := S) rfl d_Law_law_190 (fun v15 => ?_)
      refine g_vi (pc := 191) (rest := []) (sn_SL_clear a1 v15 I) rfl rfl d_Law_law_191 ck_Law_18 (Nat.le_of_ble_eq_true rfl) (Nat.le_of_ble_eq_true rfl) (Nat.le_of_ble_eq_true rfl) (Nat.le_of_ble_eq_true rfl) (fun v17 J16 => ?_)
      refine g_aload_n (pc := 194) (x := a2) d_Law_law_194 rfl h2 ?_
      refine g_aload_n (pc := 195) (x := am_SP) d_Law_law_195 rfl h0 ?_
      refine g_iload_n (pc := 196) (x := a3) d_Law_law_196 rfl h3 ?_
      refine g_iconst (pc := 197) (x := 1) d_Law_law_197 (by decide) ?_
      refine g_iadd (pc := 198) d_Law_law_198 ?_
      refine g_sl (pc := 199) (S := S) rfl d_Law_law_199 (fun v18 => ?_)
      refine g_vi (pc := 200) (rest := [vI v17]) (sn_Ref_clear a2 v18 J16) rfl rfl d_Law_law_200 ck_Law_22 (Nat.le_of_ble_eq_true rfl) (Nat.le_of_ble_eq_true rfl) (Nat.le_of_ble_eq_true rfl) (Nat.le_of_ble_eq_true rfl) (fun v20 J19 => ?_)
      refine g_icmpeq (pc := 203) (tgt := 633) d_Law_law_203 rfl ?_ ?_
      · refine g_iinc (pc := 633) (x := a3) (w := 5) d_Law_law_633 h3 (by decide) (Nat.le_of_ble_eq_true rfl) ?_
        refine g_goto (pc := 636) (tgt := 18) d_Law_law_636 rfl ?_
        exact ih _ _ _ _ _ h0 h1 h2 rfl
      refine g_iconst (pc := 206) (x := 0) d_Law_law_206 (by decide) ?_
      exact g_zret (pc := 207) d_Law_law_207 rfl (Nat.le_of_ble_eq_true rfl) (Nat.le_of_ble_eq_true rfl)
    refine g_sw (c := 2) (fun e2 => ?_) (fun e2 => ?_)
    · refine g_tin (pc := 32) (tgt := 208) (off := 176) e2 d_Law_law_32 (by decide) (by decide) (by decide) (by decide) ?_
      refine g_aload_n (pc := 208) (x := a1) d_Law_law_208 rfl h1 ?_
      refine g_aload_n (pc := 209) (x := am_SP) d_Law_law_209 rfl h0 ?_
      refine g_iload_n (pc := 210) (x := a3) d_Law_law_210 rfl h3 ?_
      refine g_iconst (pc := 211) (x := 1) d_Law_law_211 (by decide) ?_
      refine g_iadd (pc := 212) d_Law_law_212 ?_
      refine g_sl (pc := 213) (S := S) rfl d_Law_law_213 (fun v21 => ?_)
      refine g_aload_n (pc := 214) (x := am_SP) d_Law_law_214 rfl h0 ?_
      refine g_iload_n (pc := 215) (x := a3) d_Law_law_215 rfl h3 ?_
      refine g_iconst (pc := 216) (x := 2) d_Law_law_216 (by decide) ?_
      refine g_iadd (pc := 217) d_Law_law_217 ?_
      refine g_sl (pc := 218) (S := S) rfl d_Law_law_218 (fun v22 => ?_)
      refine g_vi (pc := 219) (rest := []) (sn_SL_length a1 v21 v22 I) rfl rfl d_Law_law_219 ck_Law_23 (Nat.le_of_ble_eq_true rfl) (Nat.le_of_ble_eq_true rfl) (Nat.le_of_ble_eq_true rfl) (Nat.le_of_ble_eq_true rfl) (fun v24 J23 => ?_)
      refine g_aload_n (pc := 222) (x := a2) d_Law_law_222 rfl h2 ?_
      refine g_aload_n (pc := 223) (x := am_SP) d_Law_law_223 rfl h0 ?_
      refine g_iload_n (pc := 224) (x := a3) d_Law_law_224 rfl h3 ?_
      refine g_iconst (pc := 225) (x := 1) d_Law_law_225 (by decide) ?_
      refine g_iadd (pc := 226) d_Law_law_226 ?_
      refine g_sl (pc := 227) (S := S) rfl d_Law_law_227 (fun v25 => ?_)
      refine g_aload_n (pc := 228) (x := am_SP) d_Law_law_228 rfl h0 ?_
      refine g_iload_n (pc := 229) (x := a3) d_Law_law_229 rfl h3 ?_
      refine g_iconst (pc := 230) (x := 2) d_Law_law_230 (by decide) ?_
      refine g_iadd (pc := 231) d_Law_law_231 ?_
      refine g_sl (pc := 232) (S := S) rfl d_Law_law_232 (fun v26 => ?_)
      refine g_vi (pc := 233) (rest := [vI v24]) (sn_Ref_length a2 v25 v26 J23) rfl rfl d_Law_law_233 ck_Law_27 (Nat.le_of_ble_eq_true rfl) (Nat.le_of_ble_eq_true rfl) (Nat.le_of_ble_eq_true rfl) (Nat.le_of_ble_eq_true rfl) (fun v28 J27 => ?_)
      refine g_icmpeq (pc := 236) (tgt := 633) d_Law_law_236 rfl ?_ ?_
      · refine g_iinc (pc := 633) (x := a3) (w := 5) d_Law_law_633 h3 (by decide) (Nat.le_of_ble_eq_true rfl) ?_
        refine g_goto (pc := 636) (tgt := 18) d_Law_law_636 rfl ?_
        exact ih _ _ _ _ _ h0 h1 h2 rfl
      refine g_iconst (pc := 239) (x := 0) d_Law_law_239 (by decide) ?_
      exact g_zret (pc := 240) d_Law_law_240 rfl (Nat.le_of_ble_eq_true rfl) (Nat.le_of_ble_eq_true rfl)
    refine g_sw (c := 3) (fun e3 => ?_) (fun e3 => ?_)
    · refine g_tin (pc := 32) (tgt := 241) (off := 209) e3 d_Law_law_32 (by decide) (by decide) (by decide) (by decide) ?_
      refine g_aload_n (pc := 241) (x := a1) d_Law_law_241 rfl h1 ?_
      refine g_aload_n (pc := 242) (x := am_SP) d_Law_law_242 rfl h0 ?_
      refine g_iload_n (pc := 243) (x := a3) d_Law_law_243 rfl h3 ?_
      refine g_iconst (pc := 244) (x := 1) d_Law_law_244 (by decide) ?_
      refine g_iadd (pc := 245) d_Law_law_245 ?_
      refine g_sl (pc := 246) (S := S) rfl d_Law_law_246 (fun v29 => ?_)
      refine g_aload_n (pc := 247) (x := am_SP) d_Law_law_247 rfl h0 ?_
      refine g_iload_n (pc := 248) (x := a3) d_Law_law_248 rfl h3 ?_
      refine g_iconst (pc := 249) (x := 2) d_Law_law_249 (by decide) ?_
      refine g_iadd (pc := 250) d_Law_law_250 ?_
      refine g_sl (pc := 251) (S := S) rfl d_Law_law_251 (fun v30 => ?_)
      refine g_vi (pc := 252) (rest := []) (sn_SL_isLong a1 v29 v30 I) rfl rfl d_Law_law_252 ck_Law_28 (Nat.le_of_ble_eq_true rfl) (Nat.le_of_ble_eq_true rfl) (Nat.le_of_ble_eq_true rfl) (Nat.le_of_ble_eq_true rfl) (fun v32 J31 => ?_)
      refine g_aload_n (pc := 255) (x := a2) d_Law_law_255 rfl h2 ?_
      refine g_aload_n (pc := 256) (x := am_SP) d_Law_law_256 rfl h0 ?_
      refine g_iload_n (pc := 257) (x := a3) d_Law_law_257 rfl h3 ?_
      refine g_iconst (pc := 258) (x := 1) d_Law_law_258 (by decide) ?_
      refine g_iadd (pc := 259) d_Law_law_259 ?_
      refine g_sl (pc := 260) (S := S) rfl d_Law_law_260 (fun v33 => ?_)
      refine g_aload_n (pc := 261) (x := am_SP) d_Law_law_261 rfl h0 ?_
      refine g_iload_n (pc := 262) (x := a3) d_Law_law_262 rfl h3 ?_
      refine g_iconst (pc := 263) (x := 2) d_Law_law_263 (by decide) ?_
      refine g_iadd (pc := 264) d_Law_law_264 ?_
      refine g_sl (pc := 265) (S := S) rfl d_Law_law_265 (fun v34 => ?_)
      refine g_vi (pc := 266) (rest := [vI v32]) (sn_Ref_isLong a2 v33 v34 J31) rfl rfl d_Law_law_266 ck_Law_32 (Nat.le_of_ble_eq_true rfl) (Nat.le_of_ble_eq_true rfl) (Nat.le_of_ble_eq_true rfl) (Nat.le_of_ble_eq_true rfl) (fun v36 J35 => ?_)
      refine g_icmpeq (pc := 269) (tgt := 633) d_Law_law_269 rfl ?_ ?_
      · refine g_iinc (pc := 633) (x := a3) (w := 5) d_Law_law_633 h3 (by decide) (Nat.le_of_ble_eq_true rfl) ?_
        refine g_goto (pc := 636) (tgt := 18) d_Law_law_636 rfl ?_
        exact ih _ _ _ _ _ h0 h1 h2 rfl
      refine g_iconst (pc := 272) (x := 0) d_Law_law_272 (by decide) ?_
      exact g_zret (pc := 273) d_Law_law_273 rfl (Nat.le_of_ble_eq_true rfl) (Nat.le_of_ble_eq_true rfl)
    refine g_sw (c := 4) (fun e4 => ?_) (fun e4 => ?_)
    · refine g_tin (pc := 32) (tgt := 274) (off := 242) e4 d_Law_law_32 (by decide) (by decide) (by decide) (by decide) ?_
      refine g_aload_n (pc := 274) (x := a1) d_Law_law_274 rfl h1 ?_
      refine g_aload_n (pc := 275) (x := am_SP) d_Law_law_275 rfl h0 ?_
      refine g_iload_n (pc := 276) (x := a3) d_Law_law_276 rfl h3 ?_
      refine g_iconst (pc := 277) (x := 1) d_Law_law_277 (by decide) ?_
      refine g_iadd (pc := 278) d_Law_law_278 ?_
      refine g_sl (pc := 279) (S := S) rfl d_Law_law_279 (fun v37 => ?_)
      refine g_aload_n (pc := 280) (x := am_SP) d_Law_law_280 rfl h0 ?_
      refine g_iload_n (pc := 281) (x := a3) d_Law_law_281 rfl h3 ?_
      refine g_iconst (pc := 282) (x := 2) d_Law_law_282 (by decide) ?_
      refine g_iadd (pc := 283) d_Law_law_283 ?_
      refine g_sl (pc := 284) (S := S) rfl d_Law_law_284 (fun v38 => ?_)
      refine g_vi (pc := 285) (rest := []) (sn_SL_store a1 v37 v38 I) rfl rfl d_Law_law_285 ck_Law_33 (Nat.le_of_ble_eq_true rfl) (Nat.le_of_ble_eq_true rfl) (Nat.le_of_ble_eq_true rfl) (Nat.le_of_ble_eq_true rfl) (fun v40 J39 => ?_)
      refine g_aload_n (pc := 288) (x := a2) d_Law_law_288 rfl h2 ?_
      refine g_aload_n (pc := 289) (x := am_SP) d_Law_law_289 rfl h0 ?_
      refine g_iload_n (pc := 290) (x := a3) d_Law_law_290 rfl h3 ?_
      refine g_iconst (pc := 291) (x := 1) d_Law_law_291 (by decide) ?_
      refine g_iadd (pc := 292) d_Law_law_292 ?_
      refine g_sl (pc := 293) (S := S) rfl d_Law_law_293 (fun v41 => ?_)
      refine g_aload_n (pc := 294) (x := am_SP) d_Law_law_294 rfl h0 ?_
      refine g_iload_n (pc := 295) (x := a3) d_Law_law_295 rfl h3 ?_
      refine g_iconst (pc := 296) (x := 2) d_Law_law_296 (by decide) ?_
      refine g_iadd (pc := 297) d_Law_law_297 ?_
      refine g_sl (pc := 298) (S := S) rfl d_Law_law_298 (fun v42 => ?_)
      refine g_vi (pc := 299) (rest := [vI v40]) (sn_Ref_store a2 v41 v42 J39) rfl rfl d_Law_law_299 ck_Law_36 (Nat.le_of_ble_eq_true rfl) (Nat.le_of_ble_eq_true rfl) (Nat.le_of_ble_eq_true rfl) (Nat.le_of_ble_eq_true rfl) (fun v44 J43 => ?_)
      refine g_icmpeq (pc := 302) (tgt := 633) d_Law_law_302 rfl ?_ ?_
      · refine g_iinc (pc := 633) (x := a3) (w := 5) d_Law_law_633 h3 (by decide) (Nat.le_of_ble_eq_true rfl) ?_
        refine g_goto (pc := 636) (tgt := 18) d_Law_law_636 rfl ?_
        exact ih _ _ _ _ _ h0 h1 h2 rfl
      refine g_iconst (pc := 305) (x := 0) d_Law_law_305 (by decide) ?_
      exact g_zret (pc := 306) d_Law_law_306 rfl (Nat.le_of_ble_eq_true rfl) (Nat.le_of_ble_eq_true rfl)
    refine g_sw (c := 5) (fun e5 => ?_) (fun e5 => ?_)
    · refine g_tin (pc := 32) (tgt := 307) (off := 275) e5 d_Law_law_32 (by decide) (by decide) (by decide) (by decide) ?_
      refine g_aload_n (pc := 307) (x := a1) d_Law_law_307 rfl h1 ?_
      refine g_aload_n (pc := 308) (x := am_SP) d_Law_law_308 rfl h0 ?_
      refine g_iload_n (pc := 309) (x := a3) d_Law_law_309 rfl h3 ?_
      refine g_iconst (pc := 310) (x := 1) d_Law_law_310 (by decide) ?_
      refine g_iadd (pc := 311) d_Law_law_311 ?_
      refine g_sl (pc := 312) (S := S) rfl d_Law_law_312 (fun v45 => ?_)
      refine g_vi (pc := 313) (rest := []) (sn_SL_remove a1 v45 I) rfl rfl d_Law_law_313 ck_Law_37 (Nat.le_of_ble_eq_true rfl) (Nat.le_of_ble_eq_true rfl) (Nat.le_of_ble_eq_true rfl) (Nat.le_of_ble_eq_true rfl) (fun v47 J46 => ?_)
      refine g_aload_n (pc := 316) (x := a2) d_Law_law_316 rfl h2 ?_
      refine g_aload_n (pc := 317) (x := am_SP) d_Law_law_317 rfl h0 ?_
      refine g_iload_n (pc := 318) (x := a3) d_Law_law_318 rfl h3 ?_
      refine g_iconst (pc := 319) (x := 1) d_Law_law_319 (by decide) ?_
      refine g_iadd (pc := 320) d_Law_law_320 ?_
      refine g_sl (pc := 321) (S := S) rfl d_Law_law_321 (fun v48 => ?_)
      refine g_vi (pc := 322) (rest := [vI v47]) (sn_Ref_remove a2 v48 J46) rfl rfl d_Law_law_322 ck_Law_41 (Nat.le_of_ble_eq_true rfl) (Nat.le_of_ble_eq_true rfl) (Nat.le_of_ble_eq_true rfl) (Nat.le_of_ble_eq_true rfl) (fun v50 J49 => ?_)
      refine g_icmpeq (pc := 325) (tgt := 633) d_Law_law_325 rfl ?_ ?_
      · refine g_iinc (pc := 633) (x := a3) (w := 5) d_Law_law_633 h3 (by decide) (Nat.le_of_ble_eq_true rfl) ?_
        refine g_goto (pc := 636) (tgt := 18) d_Law_law_636 rfl ?_
        exact ih _ _ _ _ _ h0 h1 h2 rfl
      refine g_iconst (pc := 328) (x := 0) d_Law_law_328 (by decide) ?_
      exact g_zret (pc := 329) d_Law_law_329 rfl (Nat.le_of_ble_eq_true rfl) (Nat.le_of_ble_eq_true rfl)
    refine g_sw (c := 6) (fun e6 => ?_) (fun e6 => ?_)
    · refine g_tin (pc := 32) (tgt := 330) (off := 298) e6 d_Law_law_32 (by decide) (by decide) (by decide) (by decide) ?_
      refine g_aload_n (pc := 330) (x := a1) d_Law_law_330 rfl h1 ?_
      refine g_aload_n (pc := 331) (x := am_SP) d_Law_law_331 rfl h0 ?_
      refine g_iload_n (pc := 332) (x := a3) d_Law_law_332 rfl h3 ?_
      refine g_iconst (pc := 333) (x := 1) d_Law_law_333 (by decide) ?_
      refine g_iadd (pc := 334) d_Law_law_334 ?_
      refine g_sl (pc := 335) (S := S) rfl d_Law_law_335 (fun v51 => ?_)
      refine g_vi (pc := 336) (rest := []) (sn_SL_member a1 v51 I) rfl rfl d_Law_law_336 ck_Law_42 (Nat.le_of_ble_eq_true rfl) (Nat.le_of_ble_eq_true rfl) (Nat.le_of_ble_eq_true rfl) (Nat.le_of_ble_eq_true rfl) (fun v53 J52 => ?_)
      refine g_aload_n (pc := 339) (x := a2) d_Law_law_339 rfl h2 ?_
      refine g_aload_n (pc := 340) (x := am_SP) d_Law_law_340 rfl h0 ?_
      refine g_iload_n (pc := 341) (x := a3) d_Law_law_341 rfl h3 ?_
      refine g_iconst (pc := 342) (x := 1) d_Law_law_342 (by decide) ?_
      refine g_iadd (pc := 343) d_Law_law_343 ?_
      refine g_sl (pc := 344) (S := S) rfl d_Law_law_344 (fun v54 => ?_)
      refine g_vi (pc := 345) (rest := [vI v53]) (sn_Ref_member a2 v54 J52) rfl rfl d_Law_law_345 ck_Law_45 (Nat.le_of_ble_eq_true rfl) (Nat.le_of_ble_eq_true rfl) (Nat.le_of_ble_eq_true rfl) (Nat.le_of_ble_eq_true rfl) (fun v56 J55 => ?_)
      refine g_icmpeq (pc := 348) (tgt := 633) d_Law_law_348 rfl ?_ ?_
      · refine g_iinc (pc := 633) (x := a3) (w := 5) d_Law_law_633 h3 (by decide) (Nat.le_of_ble_eq_true rfl) ?_
        refine g_goto (pc := 636) (tgt := 18) d_Law_law_636 rfl ?_
        exact ih _ _ _ _ _ h0 h1 h2 rfl
      refine g_iconst (pc := 351) (x := 0) d_Law_law_351 (by decide) ?_
      exact g_zret (pc := 352) d_Law_law_352 rfl (Nat.le_of_ble_eq_true rfl) (Nat.le_of_ble_eq_true rfl)
    refine g_sw (c := 7) (fun e7 => ?_) (fun e7 => ?_)
    · refine g_tin (pc := 32) (tgt := 353) (off := 321) e7 d_Law_law_32 (by decide) (by decide) (by decide) (by decide) ?_
      refine g_aload_n (pc := 353) (x := a1) d_Law_law_353 rfl h1 ?_
      refine g_aload_n (pc := 354) (x := am_SP) d_Law_law_354 rfl h0 ?_
      refine g_iload_n (pc := 355) (x := a3) d_Law_law_355 rfl h3 ?_
      refine g_iconst (pc := 356) (x := 1) d_Law_law_356 (by decide) ?_
      refine g_iadd (pc := 357) d_Law_law_357 ?_
      refine g_sl (pc := 358) (S := S) rfl d_Law_law_358 (fun v57 => ?_)
      refine g_vi (pc := 359) (rest := []) (sn_SL_item a1 v57 I) rfl rfl d_Law_law_359 ck_Law_46 (Nat.le_of_ble_eq_true rfl) (Nat.le_of_ble_eq_true rfl) (Nat.le_of_ble_eq_true rfl) (Nat.le_of_ble_eq_true rfl) (fun v59 J58 => ?_)
      refine g_aload_n (pc := 362) (x := a2) d_Law_law_362 rfl h2 ?_
      refine g_aload_n (pc := 363) (x := am_SP) d_Law_law_363 rfl h0 ?_
      refine g_iload_n (pc := 364) (x := a3) d_Law_law_364 rfl h3 ?_
      refine g_iconst (pc := 365) (x := 1) d_Law_law_365 (by decide) ?_
      refine g_iadd (pc := 366) d_Law_law_366 ?_
      refine g_sl (pc := 367) (S := S) rfl d_Law_law_367 (fun v60 => ?_)
      refine g_vi (pc := 368) (rest := [vI v59]) (sn_Ref_item a2 v60 J58) rfl rfl d_Law_law_368 ck_Law_49 (Nat.le_of_ble_eq_true rfl) (Nat.le_of_ble_eq_true rfl) (Nat.le_of_ble_eq_true rfl) (Nat.le_of_ble_eq_true rfl) (fun v62 J61 => ?_)
      refine g_icmpeq (pc := 371) (tgt := 633) d_Law_law_371 rfl ?_ ?_
      · refine g_iinc (pc := 633) (x := a3) (w := 5) d_Law_law_633 h3 (by decide) (Nat.le_of_ble_eq_true rfl) ?_
        refine g_goto (pc := 636) (tgt := 18) d_Law_law_636 rfl ?_
        exact ih _ _ _ _ _ h0 h1 h2 rfl
      refine g_iconst (pc := 374) (x := 0) d_Law_law_374 (by decide) ?_
      exact g_zret (pc := 375) d_Law_law_375 rfl (Nat.le_of_ble_eq_true rfl) (Nat.le_of_ble_eq_true rfl)
    refine g_sw (c := 8) (fun e8 => ?_) (fun e8 => ?_)
    · refine g_tin (pc := 32) (tgt := 376) (off := 344) e8 d_Law_law_32 (by decide) (by decide) (by decide) (by decide) ?_
      refine g_aload_n (pc := 376) (x := a1) d_Law_law_376 rfl h1 ?_
      refine g_vv (pc := 377) (rest := []) (sn_SL_newLine a1 I) rfl rfl d_Law_law_377 ck_Law_50 (Nat.le_of_ble_eq_true rfl) (Nat.le_of_ble_eq_true rfl) (Nat.le_of_ble_eq_true rfl) (Nat.le_of_ble_eq_true rfl) (fun J63 => ?_)
      refine g_aload_n (pc := 380) (x := a2) d_Law_law_380 rfl h2 ?_
      refine g_vv (pc := 381) (rest := []) (sn_Ref_newLine a2 J63) rfl rfl d_Law_law_381 ck_Law_53 (Nat.le_of_ble_eq_true rfl) (Nat.le_of_ble_eq_true rfl) (Nat.le_of_ble_eq_true rfl) (Nat.le_of_ble_eq_true rfl) (fun J64 => ?_)
      refine g_goto (pc := 384) (tgt := 633) d_Law_law_384 rfl ?_
      refine g_iinc (pc := 633) (x := a3) (w := 5) d_Law_law_633 h3 (by decide) (Nat.le_of_ble_eq_true rfl) ?_
      refine g_goto (pc := 636) (tgt := 18) d_Law_law_636 rfl ?_
      exact ih _ _ _ _ _ h0 h1 h2 rfl
    refine g_sw (c := 9) (fun e9 => ?_) (fun e9 => ?_)
    · refine g_tin (pc := 32) (tgt := 387) (off := 355) e9 d_Law_law_32 (by decide) (by decide) (by decide) (by decide) ?_
      refine g_aload_n (pc := 387) (x := a1) d_Law_law_387 rfl h1 ?_
      refine g_aload_n (pc := 388) (x := am_SP) d_Law_law_388 rfl h0 ?_
      refine g_iload_n (pc := 389) (x := a3) d_Law_law_389 rfl h3 ?_
      refine g_iconst (pc := 390) (x := 1) d_Law_law_390 (by decide) ?_
      refine g_iadd (pc := 391) d_Law_law_391 ?_
      refine g_sl (pc := 392) (S := S) rfl d_Law_law_392 (fun v65 => ?_)
      refine g_vi (pc := 393) (rest := []) (sn_SL_link a1 v65 I) rfl rfl d_Law_law_393 ck_Law_54 (Nat.le_of_ble_eq_true rfl) (Nat.le_of_ble_eq_true rfl) (Nat.le_of_ble_eq_true rfl) (Nat.le_of_ble_eq_true rfl) (fun v67 J66 => ?_)
      refine g_aload_n (pc := 396) (x := a2) d_Law_law_396 rfl h2 ?_
      refine g_aload_n (pc := 397) (x := am_SP) d_Law_law_397 rfl h0 ?_
      refine g_iload_n (pc := 398) (x := a3) d_Law_law_398 rfl h3 ?_
      refine g_iconst (pc := 399) (x := 1) d_Law_law_399 (by decide) ?_
      refine g_iadd (pc := 400) d_Law_law_400 ?_
      refine g_sl (pc := 401) (S := S) rfl d_Law_law_401 (fun v68 => ?_)
      refine g_vi (pc := 402) (rest := [vI v67]) (sn_Ref_link a2 v68 J66) rfl rfl d_Law_law_402 ck_Law_57 (Nat.le_of_ble_eq_true rfl) (Nat.le_of_ble_eq_true rfl) (Nat.le_of_ble_eq_true rfl) (Nat.le_of_ble_eq_true rfl) (fun v70 J69 => ?_)
      refine g_icmpeq (pc := 405) (tgt := 633) d_Law_law_405 rfl ?_ ?_
      · refine g_iinc (pc := 633) (x := a3) (w := 5) d_Law_law_633 h3 (by decide) (Nat.le_of_ble_eq_true rfl) ?_
        refine g_goto (pc := 636) (tgt := 18) d_Law_law_636 rfl ?_
        exact ih _ _ _ _ _ h0 h1 h2 rfl
      refine g_iconst (pc := 408) (x := 0) d_Law_law_408 (by decide) ?_
      exact g_zret (pc := 409) d_Law_law_409 rfl (Nat.le_of_ble_eq_true rfl) (Nat.le_of_ble_eq_true rfl)
    refine g_sw (c := 10) (fun e10 => ?_) (fun e10 => ?_)
    · refine g_tin (pc := 32) (tgt := 410) (off := 378) e10 d_Law_law_32 (by decide) (by decide) (by decide) (by decide) ?_
      refine g_aload_n (pc := 410) (x := a1) d_Law_law_410 rfl h1 ?_
      refine g_aload_n (pc := 411) (x := am_SP) d_Law_law_411 rfl h0 ?_
      refine g_iload_n (pc := 412) (x := a3) d_Law_law_412 rfl h3 ?_
      refine g_iconst (pc := 413) (x := 1) d_Law_law_413 (by decide) ?_
      refine g_iadd (pc := 414) d_Law_law_414 ?_
      refine g_sl (pc := 415) (S := S) rfl d_Law_law_415 (fun v71 => ?_)
      refine g_vi (pc := 416) (rest := []) (sn_SL_included a1 v71 I) rfl rfl d_Law_law_416 ck_Law_58 (Nat.le_of_ble_eq_true rfl) (Nat.le_of_ble_eq_true rfl) (Nat.le_of_ble_eq_true rfl) (Nat.le_of_ble_eq_true rfl) (fun v73 J72 => ?_)
      refine g_aload_n (pc := 419) (x := a2) d_Law_law_419 rfl h2 ?_
      refine g_aload_n (pc := 420) (x := am_SP) d_Law_law_420 rfl h0 ?_
      refine g_iload_n (pc := 421) (x := a3) d_Law_law_421 rfl h3 ?_
      refine g_iconst (pc := 422) (x := 1) d_Law_law_422 (by decide) ?_
      refine g_iadd (pc := 423) d_Law_law_423 ?_
      refine g_sl (pc := 424) (S := S) rfl d_Law_law_424 (fun v74 => ?_)
      refine g_vi (pc := 425) (rest := [vI v73]) (sn_Ref_included a2 v74 J72) rfl rfl d_Law_law_425 ck_Law_61 (Nat.le_of_ble_eq_true rfl) (Nat.le_of_ble_eq_true rfl) (Nat.le_of_ble_eq_true rfl) (Nat.le_of_ble_eq_true rfl) (fun v76 J75 => ?_)
      refine g_icmpeq (pc := 428) (tgt := 633) d_Law_law_428 rfl ?_ ?_
      · refine g_iinc (pc := 633) (x := a3) (w := 5) d_Law_law_633 h3 (by decide) (Nat.le_of_ble_eq_true rfl) ?_
        refine g_goto (pc := 636) (tgt := 18) d_Law_law_636 rfl ?_
        exact ih _ _ _ _ _ h0 h1 h2 rfl
      refine g_iconst (pc := 431) (x := 0) d_Law_law_431 (by decide) ?_
      exact g_zret (pc := 432) d_Law_law_432 rfl (Nat.le_of_ble_eq_true rfl) (Nat.le_of_ble_eq_true rfl)
    refine g_sw (c := 11) (fun e11 => ?_) (fun e11 => ?_)
    · refine g_tin (pc := 32) (tgt := 433) (off := 401) e11 d_Law_law_32 (by decide) (by decide) (by decide) (by decide) ?_
      refine g_aload_n (pc := 433) (x := a1) d_Law_law_433 rfl h1 ?_
      refine g_vi (pc := 434) (rest := []) (sn_SL_missing a1 I) rfl rfl d_Law_law_434 ck_Law_62 (Nat.le_of_ble_eq_true rfl) (Nat.le_of_ble_eq_true rfl) (Nat.le_of_ble_eq_true rfl) (Nat.le_of_ble_eq_true rfl) (fun v78 J77 => ?_)
      refine g_aload_n (pc := 437) (x := a2) d_Law_law_437 rfl h2 ?_
      refine g_vi (pc := 438) (rest := [vI v78]) (sn_Ref_missing a2 J77) rfl rfl d_Law_law_438 ck_Law_66 (Nat.le_of_ble_eq_true rfl) (Nat.le_of_ble_eq_true rfl) (Nat.le_of_ble_eq_true rfl) (Nat.le_of_ble_eq_true rfl) (fun v80 J79 => ?_)
      refine g_icmpeq (pc := 441) (tgt := 633) d_Law_law_441 rfl ?_ ?_
      · refine g_iinc (pc := 633) (x := a3) (w := 5) d_Law_law_633 h3 (by decide) (Nat.le_of_ble_eq_true rfl) ?_
        refine g_goto (pc := 636) (tgt := 18) d_Law_law_636 rfl ?_
        exact ih _ _ _ _ _ h0 h1 h2 rfl
      refine g_iconst (pc := 444) (x := 0) d_Law_law_444 (by decide) ?_
      exact g_zret (pc := 445) d_Law_law_445 rfl (Nat.le_of_ble_eq_true rfl) (Nat.le_of_ble_eq_true rfl)
    refine g_sw (c := 12) (fun e12 => ?_) (fun e12 => ?_)
    · refine g_tin (pc := 32) (tgt := 446) (off := 414) e12 d_Law_law_32 (by decide) (by decide) (by decide) (by decide) ?_
      refine g_aload_n (pc := 446) (x := a1) d_Law_law_446 rfl h1 ?_
      refine g_aload_n (pc := 447) (x := am_SP) d_Law_law_447 rfl h0 ?_
      refine g_iload_n (pc := 448) (x := a3) d_Law_law_448 rfl h3 ?_
      refine g_iconst (pc := 449) (x := 1) d_Law_law_449 (by decide) ?_
      refine g_iadd (pc := 450) d_Law_law_450 ?_
      refine g_sl (pc := 451) (S := S) rfl d_Law_law_451 (fun v81 => ?_)
      refine g_vi (pc := 452) (rest := []) (sn_SL_size a1 v81 I) rfl rfl d_Law_law_452 ck_Law_67 (Nat.le_of_ble_eq_true rfl) (Nat.le_of_ble_eq_true rfl) (Nat.le_of_ble_eq_true rfl) (Nat.le_of_ble_eq_true rfl) (fun v83 J82 => ?_)
      refine g_aload_n (pc := 455) (x := a2) d_Law_law_455 rfl h2 ?_
      refine g_aload_n (pc := 456) (x := am_SP) d_Law_law_456 rfl h0 ?_
      refine g_iload_n (pc := 457) (x := a3) d_Law_law_457 rfl h3 ?_
      refine g_iconst (pc := 458) (x := 1) d_Law_law_458 (by decide) ?_
      refine g_iadd (pc := 459) d_Law_law_459 ?_
      refine g_sl (pc := 460) (S := S) rfl d_Law_law_460 (fun v84 => ?_)
      refine g_vi (pc := 461) (rest := [vI v83]) (sn_Ref_size a2 v84 J82) rfl rfl d_Law_law_461 ck_Law_70 (Nat.le_of_ble_eq_true rfl) (Nat.le_of_ble_eq_true rfl) (Nat.le_of_ble_eq_true rfl) (Nat.le_of_ble_eq_true rfl) (fun v86 J85 => ?_)
      refine g_icmpeq (pc := 464) (tgt := 633) d_Law_law_464 rfl ?_ ?_
      · refine g_iinc (pc := 633) (x := a3) (w := 5) d_Law_law_633 h3 (by decide) (Nat.le_of_ble_eq_true rfl) ?_
        refine g_goto (pc := 636) (tgt := 18) d_Law_law_636 rfl ?_
        exact ih _ _ _ _ _ h0 h1 h2 rfl
      refine g_iconst (pc := 467) (x := 0) d_Law_law_467 (by decide) ?_
      exact g_zret (pc := 468) d_Law_law_468 rfl (Nat.le_of_ble_eq_true rfl) (Nat.le_of_ble_eq_true rfl)
    refine g_sw (c := 13) (fun e13 => ?_) (fun e13 => ?_)
    · refine g_tin (pc := 32) (tgt := 469) (off := 437) e13 d_Law_law_32 (by decide) (by decide) (by decide) (by decide) ?_
      refine g_aload_n (pc := 469) (x := a1) d_Law_law_469 rfl h1 ?_
      refine g_aload_n (pc := 470) (x := am_SP) d_Law_law_470 rfl h0 ?_
      refine g_iload_n (pc := 471) (x := a3) d_Law_law_471 rfl h3 ?_
      refine g_iconst (pc := 472) (x := 1) d_Law_law_472 (by decide) ?_
      refine g_iadd (pc := 473) d_Law_law_473 ?_
      refine g_sl (pc := 474) (S := S) rfl d_Law_law_474 (fun v87 => ?_)
      refine g_vi (pc := 475) (rest := []) (sn_SL_word a1 v87 I) rfl rfl d_Law_law_475 ck_Law_71 (Nat.le_of_ble_eq_true rfl) (Nat.le_of_ble_eq_true rfl) (Nat.le_of_ble_eq_true rfl) (Nat.le_of_ble_eq_true rfl) (fun v89 J88 => ?_)
      refine g_aload_n (pc := 478) (x := a2) d_Law_law_478 rfl h2 ?_
      refine g_aload_n (pc := 479) (x := am_SP) d_Law_law_479 rfl h0 ?_
      refine g_iload_n (pc := 480) (x := a3) d_Law_law_480 rfl h3 ?_
      refine g_iconst (pc := 481) (x := 1) d_Law_law_481 (by decide) ?_
      refine g_iadd (pc := 482) d_Law_law_482 ?_
      refine g_sl (pc := 483) (S := S) rfl d_Law_law_483 (fun v90 => ?_)
      refine g_vi (pc := 484) (rest := [vI v89]) (sn_Ref_word a2 v90 J88) rfl rfl d_Law_law_484 ck_Law_74 (Nat.le_of_ble_eq_true rfl) (Nat.le_of_ble_eq_true rfl) (Nat.le_of_ble_eq_true rfl) (Nat.le_of_ble_eq_true rfl) (fun v92 J91 => ?_)
      refine g_icmpeq (pc := 487) (tgt := 633) d_Law_law_487 rfl ?_ ?_
      · refine g_iinc (pc := 633) (x := a3) (w := 5) d_Law_law_633 h3 (by decide) (Nat.le_of_ble_eq_true rfl) ?_
        refine g_goto (pc := 636) (tgt := 18) d_Law_law_636 rfl ?_
        exact ih _ _ _ _ _ h0 h1 h2 rfl
      refine g_iconst (pc := 490) (x := 0) d_Law_law_490 (by decide) ?_
      exact g_zret (pc := 491) d_Law_law_491 rfl (Nat.le_of_ble_eq_true rfl) (Nat.le_of_ble_eq_true rfl)
    refine g_sw (c := 14) (fun e14 => ?_) (fun e14 => ?_)
    · refine g_tin (pc := 32) (tgt := 492) (off := 460) e14 d_Law_law_32 (by decide) (by decide) (by decide) (by decide) ?_
      refine g_aload_n (pc := 492) (x := a1) d_Law_law_492 rfl h1 ?_
      refine g_aload_n (pc := 493) (x := am_SP) d_Law_law_493 rfl h0 ?_
      refine g_iload_n (pc := 494) (x := a3) d_Law_law_494 rfl h3 ?_
      refine g_iconst (pc := 495) (x := 1) d_Law_law_495 (by decide) ?_
      refine g_iadd (pc := 496) d_Law_law_496 ?_
      refine g_sl (pc := 497) (S := S) rfl d_Law_law_497 (fun v93 => ?_)
      refine g_vi (pc := 498) (rest := []) (sn_SL_symbol a1 v93 I) rfl rfl d_Law_law_498 ck_Law_75 (Nat.le_of_ble_eq_true rfl) (Nat.le_of_ble_eq_true rfl) (Nat.le_of_ble_eq_true rfl) (Nat.le_of_ble_eq_true rfl) (fun v95 J94 => ?_)
      refine g_aload_n (pc := 501) (x := a2) d_Law_law_501 rfl h2 ?_
      refine g_aload_n (pc := 502) (x := am_SP) d_Law_law_502 rfl h0 ?_
      refine g_iload_n (pc := 503) (x := a3) d_Law_law_503 rfl h3 ?_
      refine g_iconst (pc := 504) (x := 1) d_Law_law_504 (by decide) ?_
      refine g_iadd (pc := 505) d_Law_law_505 ?_
      refine g_sl (pc := 506) (S := S) rfl d_Law_law_506 (fun v96 => ?_)
      refine g_vi (pc := 507) (rest := [vI v95]) (sn_Ref_symbol a2 v96 J94) rfl rfl d_Law_law_507 ck_Law_78 (Nat.le_of_ble_eq_true rfl) (Nat.le_of_ble_eq_true rfl) (Nat.le_of_ble_eq_true rfl) (Nat.le_of_ble_eq_true rfl) (fun v98 J97 => ?_)
      refine g_icmpeq (pc := 510) (tgt := 633) d_Law_law_510 rfl ?_ ?_
      · refine g_iinc (pc := 633) (x := a3) (w := 5) d_Law_law_633 h3 (by decide) (Nat.le_of_ble_eq_true rfl) ?_
        refine g_goto (pc := 636) (tgt := 18) d_Law_law_636 rfl ?_
        exact ih _ _ _ _ _ h0 h1 h2 rfl
      refine g_iconst (pc := 513) (x := 0) d_Law_law_513 (by decide) ?_
      exact g_zret (pc := 514) d_Law_law_514 rfl (Nat.le_of_ble_eq_true rfl) (Nat.le_of_ble_eq_true rfl)
    refine g_sw (c := 15) (fun e15 => ?_) (fun e15 => ?_)
    · refine g_tin (pc := 32) (tgt := 515) (off := 483) e15 d_Law_law_32 (by decide) (by decide) (by decide) (by decide) ?_
      refine g_aload_n (pc := 515) (x := a1) d_Law_law_515 rfl h1 ?_
      refine g_vi (pc := 516) (rest := []) (sn_SL_strip a1 I) rfl rfl d_Law_law_516 ck_Law_79 (Nat.le_of_ble_eq_true rfl) (Nat.le_of_ble_eq_true rfl) (Nat.le_of_ble_eq_true rfl) (Nat.le_of_ble_eq_true rfl) (fun v100 J99 => ?_)
      refine g_aload_n (pc := 519) (x := a2) d_Law_law_519 rfl h2 ?_
      refine g_vi (pc := 520) (rest := [vI v100]) (sn_Ref_strip a2 J99) rfl rfl d_Law_law_520 ck_Law_83 (Nat.le_of_ble_eq_true rfl) (Nat.le_of_ble_eq_true rfl) (Nat.le_of_ble_eq_true rfl) (Nat.le_of_ble_eq_true rfl) (fun v102 J101 => ?_)
      refine g_icmpeq (pc := 523) (tgt := 633) d_Law_law_523 rfl ?_ ?_
      · refine g_iinc (pc := 633) (x := a3) (w := 5) d_Law_law_633 h3 (by decide) (Nat.le_of_ble_eq_true rfl) ?_
        refine g_goto (pc := 636) (tgt := 18) d_Law_law_636 rfl ?_
        exact ih _ _ _ _ _ h0 h1 h2 rfl
      refine g_iconst (pc := 526) (x := 0) d_Law_law_526 (by decide) ?_
      exact g_zret (pc := 527) d_Law_law_527 rfl (Nat.le_of_ble_eq_true rfl) (Nat.le_of_ble_eq_true rfl)
    refine g_sw (c := 16) (fun e16 => ?_) (fun e16 => ?_)
    · refine g_tin (pc := 32) (tgt := 528) (off := 496) e16 d_Law_law_32 (by decide) (by decide) (by decide) (by decide) ?_
      refine g_aload_n (pc := 528) (x := a1) d_Law_law_528 rfl h1 ?_
      refine g_vi (pc := 529) (rest := []) (sn_SL_start a1 I) rfl rfl d_Law_law_529 ck_Law_84 (Nat.le_of_ble_eq_true rfl) (Nat.le_of_ble_eq_true rfl) (Nat.le_of_ble_eq_true rfl) (Nat.le_of_ble_eq_true rfl) (fun v104 J103 => ?_)
      refine g_aload_n (pc := 532) (x := a2) d_Law_law_532 rfl h2 ?_
      refine g_vi (pc := 533) (rest := [vI v104]) (sn_Ref_start a2 J103) rfl rfl d_Law_law_533 ck_Law_87 (Nat.le_of_ble_eq_true rfl) (Nat.le_of_ble_eq_true rfl) (Nat.le_of_ble_eq_true rfl) (Nat.le_of_ble_eq_true rfl) (fun v106 J105 => ?_)
      refine g_icmpeq (pc := 536) (tgt := 633) d_Law_law_536 rfl ?_ ?_
      · refine g_iinc (pc := 633) (x := a3) (w := 5) d_Law_law_633 h3 (by decide) (Nat.le_of_ble_eq_true rfl) ?_
        refine g_goto (pc := 636) (tgt := 18) d_Law_law_636 rfl ?_
        exact ih _ _ _ _ _ h0 h1 h2 rfl
      refine g_iconst (pc := 539) (x := 0) d_Law_law_539 (by decide) ?_
      exact g_zret (pc := 540) d_Law_law_540 rfl (Nat.le_of_ble_eq_true rfl) (Nat.le_of_ble_eq_true rfl)
    refine g_sw (c := 17) (fun e17 => ?_) (fun e17 => ?_)
    · refine g_tin (pc := 32) (tgt := 541) (off := 509) e17 d_Law_law_32 (by decide) (by decide) (by decide) (by decide) ?_
      refine g_aload_n (pc := 541) (x := a1) d_Law_law_541 rfl h1 ?_
      refine g_aload_n (pc := 542) (x := am_SP) d_Law_law_542 rfl h0 ?_
      refine g_iload_n (pc := 543) (x := a3) d_Law_law_543 rfl h3 ?_
      refine g_iconst (pc := 544) (x := 1) d_Law_law_544 (by decide) ?_
      refine g_iadd (pc := 545) d_Law_law_545 ?_
      refine g_sl (pc := 546) (S := S) rfl d_Law_law_546 (fun v107 => ?_)
      refine g_vi (pc := 547) (rest := []) (sn_SL_feed a1 v107 I) rfl rfl d_Law_law_547 ck_Law_88 (Nat.le_of_ble_eq_true rfl) (Nat.le_of_ble_eq_true rfl) (Nat.le_of_ble_eq_true rfl) (Nat.le_of_ble_eq_true rfl) (fun v109 J108 => ?_)
      refine g_aload_n (pc := 550) (x := a2) d_Law_law_550 rfl h2 ?_
      refine g_aload_n (pc := 551) (x := am_SP) d_Law_law_551 rfl h0 ?_
      refine g_iload_n (pc := 552) (x := a3) d_Law_law_552 rfl h3 ?_
      refine g_iconst (pc := 553) (x := 1) d_Law_law_553 (by decide) ?_
      refine g_iadd (pc := 554) d_Law_law_554 ?_
      refine g_sl (pc := 555) (S := S) rfl d_Law_law_555 (fun v110 => ?_)
      refine g_vi (pc := 556) (rest := [vI v109]) (sn_Ref_feed a2 v110 J108) rfl rfl d_Law_law_556 ck_Law_91 (Nat.le_of_ble_eq_true rfl) (Nat.le_of_ble_eq_true rfl) (Nat.le_of_ble_eq_true rfl) (Nat.le_of_ble_eq_true rfl) (fun v112 J111 => ?_)
      refine g_icmpeq (pc := 559) (tgt := 633) d_Law_law_559 rfl ?_ ?_
      · refine g_iinc (pc := 633) (x := a3) (w := 5) d_Law_law_633 h3 (by decide) (Nat.le_of_ble_eq_true rfl) ?_
        refine g_goto (pc := 636) (tgt := 18) d_Law_law_636 rfl ?_
        exact ih _ _ _ _ _ h0 h1 h2 rfl
      refine g_iconst (pc := 562) (x := 0) d_Law_law_562 (by decide) ?_
      exact g_zret (pc := 563) d_Law_law_563 rfl (Nat.le_of_ble_eq_true rfl) (Nat.le_of_ble_eq_true rfl)
    refine g_sw (c := 18) (fun e18 => ?_) (fun e18 => ?_)
    · refine g_tin (pc := 32) (tgt := 564) (off := 532) e18 d_Law_law_32 (by decide) (by decide) (by decide) (by decide) ?_
      refine g_aload_n (pc := 564) (x := a1) d_Law_law_564 rfl h1 ?_
      refine g_aload_n (pc := 565) (x := am_SP) d_Law_law_565 rfl h0 ?_
      refine g_iload_n (pc := 566) (x := a3) d_Law_law_566 rfl h3 ?_
      refine g_iconst (pc := 567) (x := 1) d_Law_law_567 (by decide) ?_
      refine g_iadd (pc := 568) d_Law_law_568 ?_
      refine g_sl (pc := 569) (S := S) rfl d_Law_law_569 (fun v113 => ?_)
      refine g_vi (pc := 570) (rest := []) (sn_SL_run a1 v113 I) rfl rfl d_Law_law_570 ck_Law_92 (Nat.le_of_ble_eq_true rfl) (Nat.le_of_ble_eq_true rfl) (Nat.le_of_ble_eq_true rfl) (Nat.le_of_ble_eq_true rfl) (fun v115 J114 => ?_)
      refine g_aload_n (pc := 573) (x := a2) d_Law_law_573 rfl h2 ?_
      refine g_aload_n (pc := 574) (x := am_SP) d_Law_law_574 rfl h0 ?_
      refine g_iload_n (pc := 575) (x := a3) d_Law_law_575 rfl h3 ?_
      refine g_iconst (pc := 576) (x := 1) d_Law_law_576 (by decide) ?_
      refine g_iadd (pc := 577) d_Law_law_577 ?_
      refine g_sl (pc := 578) (S := S) rfl d_Law_law_578 (fun v116 => ?_)
      refine g_vi (pc := 579) (rest := [vI v115]) (sn_Ref_run a2 v116 J114) rfl rfl d_Law_law_579 ck_Law_95 (Nat.le_of_ble_eq_true rfl) (Nat.le_of_ble_eq_true rfl) (Nat.le_of_ble_eq_true rfl) (Nat.le_of_ble_eq_true rfl) (fun v118 J117 => ?_)
      refine g_icmpeq (pc := 582) (tgt := 633) d_Law_law_582 rfl ?_ ?_
      · refine g_iinc (pc := 633) (x := a3) (w := 5) d_Law_law_633 h3 (by decide) (Nat.le_of_ble_eq_true rfl) ?_
        refine g_goto (pc := 636) (tgt := 18) d_Law_law_636 rfl ?_
        exact ih _ _ _ _ _ h0 h1 h2 rfl
      refine g_iconst (pc := 585) (x := 0) d_Law_law_585 (by decide) ?_
      exact g_zret (pc := 586) d_Law_law_586 rfl (Nat.le_of_ble_eq_true rfl) (Nat.le_of_ble_eq_true rfl)
    refine g_sw (c := 19) (fun e19 => ?_) (fun e19 => ?_)
    · refine g_tin (pc := 32) (tgt := 587) (off := 555) e19 d_Law_law_32 (by decide) (by decide) (by decide) (by decide) ?_
      refine g_aload_n (pc := 587) (x := a1) d_Law_law_587 rfl h1 ?_
      refine g_aload_n (pc := 588) (x := am_SP) d_Law_law_588 rfl h0 ?_
      refine g_iload_n (pc := 589) (x := a3) d_Law_law_589 rfl h3 ?_
      refine g_iconst (pc := 590) (x := 1) d_Law_law_590 (by decide) ?_
      refine g_iadd (pc := 591) d_Law_law_591 ?_
      refine g_sl (pc := 592) (S := S) rfl d_Law_law_592 (fun v119 => ?_)
      refine g_vi (pc := 593) (rest := []) (sn_SL_register a1 v119 I) rfl rfl d_Law_law_593 ck_Law_96 (Nat.le_of_ble_eq_true rfl) (Nat.le_of_ble_eq_true rfl) (Nat.le_of_ble_eq_true rfl) (Nat.le_of_ble_eq_true rfl) (fun v121 J120 => ?_)
      refine g_aload_n (pc := 596) (x := a2) d_Law_law_596 rfl h2 ?_
      refine g_aload_n (pc := 597) (x := am_SP) d_Law_law_597 rfl h0 ?_
      refine g_iload_n (pc := 598) (x := a3) d_Law_law_598 rfl h3 ?_
      refine g_iconst (pc := 599) (x := 1) d_Law_law_599 (by decide) ?_
      refine g_iadd (pc := 600) d_Law_law_600 ?_
      refine g_sl (pc := 601) (S := S) rfl d_Law_law_601 (fun v122 => ?_)
      refine g_vi (pc := 602) (rest := [vI v121]) (sn_Ref_register a2 v122 J120) rfl rfl d_Law_law_602 ck_Law_99 (Nat.le_of_ble_eq_true rfl) (Nat.le_of_ble_eq_true rfl) (Nat.le_of_ble_eq_true rfl) (Nat.le_of_ble_eq_true rfl) (fun v124 J123 => ?_)
      refine g_icmpeq (pc := 605) (tgt := 633) d_Law_law_605 rfl ?_ ?_
      · refine g_iinc (pc := 633) (x := a3) (w := 5) d_Law_law_633 h3 (by decide) (Nat.le_of_ble_eq_true rfl) ?_
        refine g_goto (pc := 636) (tgt := 18) d_Law_law_636 rfl ?_
        exact ih _ _ _ _ _ h0 h1 h2 rfl
      refine g_iconst (pc := 608) (x := 0) d_Law_law_608 (by decide) ?_
      exact g_zret (pc := 609) d_Law_law_609 rfl (Nat.le_of_ble_eq_true rfl) (Nat.le_of_ble_eq_true rfl)
    refine g_sw (c := 20) (fun e20 => ?_) (fun e20 => ?_)
    · refine g_tin (pc := 32) (tgt := 610) (off := 578) e20 d_Law_law_32 (by decide) (by decide) (by decide) (by decide) ?_
      refine g_aload_n (pc := 610) (x := a1) d_Law_law_610 rfl h1 ?_
      refine g_aload_n (pc := 611) (x := am_SP) d_Law_law_611 rfl h0 ?_
      refine g_iload_n (pc := 612) (x := a3) d_Law_law_612 rfl h3 ?_
      refine g_iconst (pc := 613) (x := 1) d_Law_law_613 (by decide) ?_
      refine g_iadd (pc := 614) d_Law_law_614 ?_
      refine g_sl (pc := 615) (S := S) rfl d_Law_law_615 (fun v125 => ?_)
      refine g_vi (pc := 616) (rest := []) (sn_SL_memory a1 v125 I) rfl rfl d_Law_law_616 ck_Law_100 (Nat.le_of_ble_eq_true rfl) (Nat.le_of_ble_eq_true rfl) (Nat.le_of_ble_eq_true rfl) (Nat.le_of_ble_eq_true rfl) (fun v127 J126 => ?_)
      refine g_aload_n (pc := 619) (x := a2) d_Law_law_619 rfl h2 ?_
      refine g_aload_n (pc := 620) (x := am_SP) d_Law_law_620 rfl h0 ?_
      refine g_iload_n (pc := 621) (x := a3) d_Law_law_621 rfl h3 ?_
      refine g_iconst (pc := 622) (x := 1) d_Law_law_622 (by decide) ?_
      refine g_iadd (pc := 623) d_Law_law_623 ?_
      refine g_sl (pc := 624) (S := S) rfl d_Law_law_624 (fun v128 => ?_)
      refine g_vi (pc := 625) (rest := [vI v127]) (sn_Ref_memory a2 v128 J126) rfl rfl d_Law_law_625 ck_Law_103 (Nat.le_of_ble_eq_true rfl) (Nat.le_of_ble_eq_true rfl) (Nat.le_of_ble_eq_true rfl) (Nat.le_of_ble_eq_true rfl) (fun v130 J129 => ?_)
      refine g_icmpeq (pc := 628) (tgt := 633) d_Law_law_628 rfl ?_ ?_
      · refine g_iinc (pc := 633) (x := a3) (w := 5) d_Law_law_633 h3 (by decide) (Nat.le_of_ble_eq_true rfl) ?_
        refine g_goto (pc := 636) (tgt := 18) d_Law_law_636 rfl ?_
        exact ih _ _ _ _ _ h0 h1 h2 rfl
      refine g_iconst (pc := 631) (x := 0) d_Law_law_631 (by decide) ?_
      exact g_zret (pc := 632) d_Law_law_632 rfl (Nat.le_of_ble_eq_true rfl) (Nat.le_of_ble_eq_true rfl)
    refine g_tout (pc := 32) (tgt := 633) d_Law_law_32 (by have q0 := am_ni e0 (z := 0) (by decide); have q1 := am_ni e1 (z := 1) (by decide); have q2 := am_ni e2 (z := 2) (by decide); have q3 := am_ni e3 (z := 3) (by decide); have q4 := am_ni e4 (z := 4) (by decide); have q5 := am_ni e5 (z := 5) (by decide); have q6 := am_ni e6 (z := 6) (by decide); have q7 := am_ni e7 (z := 7) (by decide); have q8 := am_ni e8 (z := 8) (by decide); have q9 := am_ni e9 (z := 9) (by decide); have q10 := am_ni e10 (z := 10) (by decide); have q11 := am_ni e11 (z := 11) (by decide); have q12 := am_ni e12 (z := 12) (by decide); have q13 := am_ni e13 (z := 13) (by decide); have q14 := am_ni e14 (z := 14) (by decide); have q15 := am_ni e15 (z := 15) (by decide); have q16 := am_ni e16 (z := 16) (by decide); have q17 := am_ni e17 (z := 17) (by decide); have q18 := am_ni e18 (z := 18) (by decide); have q19 := am_ni e19 (z := 19) (by decide); have q20 := am_ni e20 (z := 20) (by decide); omega) (by decide) ?_
    refine g_iinc (pc := 633) (x := a3) (w := 5) d_Law_law_633 h3 (by decide) (Nat.le_of_ble_eq_true rfl) ?_
    refine g_goto (pc := 636) (tgt := 18) d_Law_law_636 rfl ?_
    exact ih _ _ _ _ _ h0 h1 h2 rfl
