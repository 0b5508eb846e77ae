theorem wf_SL_18 : Cond.fieldLink "SpanLinker" 18 "SpanLinker" "modules" "[LSpanLinker$SourceModule;" ∈ am_all := (am_mem (tb1 194 rfl) rfl)
theorem wf_SL_27 : Cond.fieldLink "SpanLinker" 27 "SpanLinker" "archive" "LSpanLinker$Row;" ∈ am_all := (am_mem (tb1 195 rfl) rfl)
theorem wf_SL_31 : Cond.fieldLink "SpanLinker" 31 "SpanLinker" "line" "LSpanLinker$Row;" ∈ am_all := (am_mem (tb1 196 rfl) rfl)
theorem wf_SL_34 : Cond.fieldLink "SpanLinker" 34 "SpanLinker" "inclusion" "LSpanLinker$Inclusion;" ∈ am_all := (am_mem (tb1 197 rfl) rfl)
theorem wf_SL_43 : Cond.fieldLink "SpanLinker" 43 "SpanLinker" "image" "LSpanLinker$Image;" ∈ am_all := (am_mem (tb1 198 rfl) rfl)
theorem wf_SL_50 : Cond.fieldLink "SpanLinker" 50 "SpanLinker" "machine" "LSpanLinker$Machine;" ∈ am_all := (am_mem (tb1 199 rfl) rfl)
theorem wn_SL22 : Cond.classLink "SpanLinker" 22 "SpanLinker$Row" ∈ am_all := (am_mem (tb1 107 rfl) rfl)
theorem wn_SL38 : Cond.classLink "SpanLinker" 38 "SpanLinker$Image" ∈ am_all := (am_mem (tb1 109 rfl) rfl)
theorem wn_SL47 : Cond.classLink "SpanLinker" 47 "SpanLinker$Machine" ∈ am_all := (am_mem (tb1 148 rfl) rfl)
theorem wn_Img : Cond.instantiable "SpanLinker$Image" 10 ∈ am_all := (am_mem (tb1 110 rfl) rfl)
theorem wn_ImgI : Cond.initialized "SpanLinker$Image" ∈ am_all := (am_mem (tb1 5 rfl) rfl)
theorem wn_Mac : Cond.instantiable "SpanLinker$Machine" 13 ∈ am_all := (am_mem (tb1 149 rfl) rfl)
theorem wn_MacI : Cond.initialized "SpanLinker$Machine" ∈ am_all := (am_mem (tb1 6 rfl) rfl)
theorem wn_ImgM : Cond.instanceMethod m_Img_init.2.1 ∈ am_all := (am_mem (tb1 112 rfl) rfl)
theorem wn_MacM : Cond.instanceMethod m_Mac_init.2.1 ∈ am_all := (am_mem (tb1 151 rfl) rfl)
theorem wn_SL24 : Cond.methodLink "SpanLinker" 24 m_Row_init.2.1 ∈ am_all := (am_mem (tb1 108 rfl) rfl)
theorem wn_SL40 : Cond.methodLink "SpanLinker" 40 m_Img_init.2.1 ∈ am_all := (am_mem (tb1 111 rfl) rfl)
theorem pd_Img : (parseMethodDescriptor m_Img_init.2.1.desc).map (fun d => d.parameters.length) = some 2 := by decide +kernel
theorem wn_MacN : Cond.methodLinkNest "SpanLinker" 49 m_Mac_init.2.1 "SpanLinker" ∈ am_nest := List.mem_of_getElem? (i := 1) rfl
theorem df_Img : ∀ j, j < 10 → defaultValue (ty_Img j) = vp_V (([vN, vN, vN, vN, vN, vN, vI 0, vI 0, vI 0, vI 0] : List am_V).map (am_cv id)) j := fun j hj => by
  match j, hj with
  | 0, _ => rfl
  | 1, _ => rfl
  | 2, _ => rfl
  | 3, _ => rfl
  | 4, _ => rfl
  | 5, _ => rfl
  | 6, _ => rfl
  | 7, _ => rfl
  | 8, _ => rfl
  | 9, _ => rfl
theorem df_Mac : ∀ j, j < 13 → defaultValue (ty_Mac j) = vp_V (([vN, vN, vN, vI 0, vI 0, vI 0, vI 0, vI 0, vI 0, vI 0, vI 0, vI 0, vI 0] : List am_V).map (am_cv id)) j := fun j hj => by
  match j, hj with
  | 0, _ => rfl
  | 1, _ => rfl
  | 2, _ => rfl
  | 3, _ => rfl
  | 4, _ => rfl
  | 5, _ => rfl
  | 6, _ => rfl
  | 7, _ => rfl
  | 8, _ => rfl
  | 9, _ => rfl
  | 10, _ => rfl
  | 11, _ => rfl
  | 12, _ => rfl
def x_SL2 (es1 : List am_E) (b mo ic : Nat) : List am_E :=
  let es2 := es1.set b (oE 0 (List.set [vN, vN, vN, vN, vN, vN] 0 (vR mo)))
  let es3 := R2 es2 6
  let es4 := es3.set b (oE 0 (List.set [vR mo, vN, vN, vN, vN, vN] 1 (vR es2.length)))
  let es5 := R2 es4 8
  let es6 := es5.set b (oE 0 (List.set [vR mo, vR es2.length, vN, vN, vN, vN] 2 (vR es4.length)))
  let es7 := es6.set b (oE 0 (List.set [vR mo, vR es2.length, vR es4.length, vN, vN, vN] 3 (vR ic)))
  let es8 := x_Img (es7 ++ [oE 4 [vN, vN, vN, vN, vN, vN, vI 0, vI 0, vI 0, vI 0]]) es7.length mo ic
  let es9 := es8.set b (oE 0 (List.set [vR mo, vR es2.length, vR es4.length, vR ic, vN, vN] 4 (vR es7.length)))
  let es10 := x_Mac (es9 ++ [oE 5 [vN, vN, vN, vI 0, vI 0, vI 0, vI 0, vI 0, vI 0, vI 0, vI 0, vI 0, vI 0]]) es9.length
  let es11 := es10.set b (oE 0 (List.set [vR mo, vR es2.length, vR es4.length, vR ic, vR es7.length, vN] 5 (vR es9.length)))
  es11
theorem k_SL2 {b mo ic : Nat} {es1 : List am_E} (o1 : es1[b]? = some (oE 0 [vN, vN, vN, vN, vN, vN])) (k1 : okl es1) (hmo : mo < es1.length) (hic : ic < es1.length) {L : Nat → Option am_V} (hL0 : L 0 = some (vR b)) (hL1 : L 1 = some (vR mo)) (hL2 : L 2 = some (vR ic)) (hLr : ∀ i k, L i = some (vR k) → k < es1.length) (hsp : es1.length + 30 < am_SP) : am_L m_SL_init 3 77 1428 none (kQ (x_SL2 es1 b mo ic)) 17 L [] es1 58 932 := by
  have hb := (List.getElem?_eq_some_iff.mp o1).1
  refine i_aload_n (x := b) d_SL_init_17 rfl hL0 ?_
  refine i_aload_n (x := mo) d_SL_init_18 rfl hL1 ?_
  obtain ⟨o2, k2, l2⟩ := st_f (v := vR mo) (k := 0) o1 k1 (by show mo < _; omega)
  refine l_putR (ci := 0) (T := T_SL) (N := 6) (k := 0) (fs := [vN, vN, vN, vN, vN, vN]) (ty := .array (.object "SpanLinker$SourceModule")) ty_SL to_SL nm_SL d_SL_init_19 rfl in_SL (by decide) wf_SL_18 rfl rfl rfl o1 (Nat.le_of_ble_eq_true rfl) (by decide +kernel) (fun a => rfl) (fun a => rfl) ?_
  generalize e2 : es1.set b (oE 0 (List.set [vN, vN, vN, vN, vN, vN] 0 (vR mo))) = es2 at o2 k2 l2 ⊢
  replace o2 : es2[b]? = some (oE 0 [vR mo, vN, vN, vN, vN, vN]) := o2
  refine i_aload_n (x := b) d_SL_init_22 rfl hL0 ?_
  refine l_new (ci := 3) (T := T_Row) (N := 2) (fs := [vN, vI 0]) ty_Row to_Row d_SL_init_23 rfl in_Row wn_SL22 wn_Row wn_RowI df_Row (am_ok0 rfl) (by omega) (by omega) k2 ⟨fun i k q => Or.inl (by have := hLr i k q; omega), fun k q => Or.inl (by simp only [List.mem_cons, List.not_mem_nil, or_false, reduceCtorEq, Sum.inr.injEq, Option.some.injEq] at q; omega)⟩ (by omega) ?_
  refine i_dup d_SL_init_26 ?_
  refine i_bipush (x := nI 6) d_SL_init_27 (by decide) ?_
  have l2' : (es2 ++ [oE 3 [vN, vI 0]]).length = es2.length + 1 := by rw [List.length_append]; rfl
  refine l_callI (As := [vI (nI 6)]) (k_R2 (N := 6) k2 (by decide) (by omega)).2 rfl rfl d_SL_init_29 (am_good0 cw_Row_init) wn_RowI wn_SL24 wn_RowM rfl ⟨by decide, by decide, by decide +kernel⟩ (by decide) (by decide) (Nat.le_of_ble_eq_true rfl) (by omega) (by omega) ⟨fun i k q => Or.inl (by have := hLr i k q; omega), fun k q => Or.inl (by simp only [List.mem_cons, List.not_mem_nil, or_false, reduceCtorEq, Sum.inr.injEq, Option.some.injEq] at q; omega)⟩ (by rw [R2_l]; omega) (fun k3 => ?_)
  have l3 : (R2 es2 6).length = _ := R2_l es2 6
  have o3 : (R2 es2 6)[b]? = some (oE 0 [vR mo, vN, vN, vN, vN, vN]) := (R2_p es2 6 (List.getElem?_eq_some_iff.mp o2).1).trans o2
  generalize e3 : R2 es2 6 = es3 at o3 k3 l3 ⊢
  obtain ⟨o4, k4, l4⟩ := st_f (v := vR es2.length) (k := 1) o3 k3 (by show es2.length < _; omega)
  refine l_putR (ci := 0) (T := T_SL) (N := 6) (k := 1) (fs := [vR mo, vN, vN, vN, vN, vN]) (ty := .object "SpanLinker$Row") ty_SL to_SL nm_SL d_SL_init_32 rfl in_SL (by decide) wf_SL_27 rfl rfl rfl o3 (Nat.le_of_ble_eq_true rfl) (by decide +kernel) (fun a => rfl) (fun a => rfl) ?_
  generalize e4 : es3.set b (oE 0 (List.set [vR mo, vN, vN, vN, vN, vN] 1 (vR es2.length))) = es4 at o4 k4 l4 ⊢
  replace o4 : es4[b]? = some (oE 0 [vR mo, vR es2.length, vN, vN, vN, vN]) := o4
  refine i_aload_n (x := b) d_SL_init_35 rfl hL0 ?_
  refine l_new (ci := 3) (T := T_Row) (N := 2) (fs := [vN, vI 0]) ty_Row to_Row d_SL_init_36 rfl in_Row wn_SL22 wn_Row wn_RowI df_Row (am_ok0 rfl) (by omega) (by omega) k4 ⟨fun i k q => Or.inl (by have := hLr i k q; omega), fun k q => Or.inl (by simp only [List.mem_cons, List.not_mem_nil, or_false, reduceCtorEq, Sum.inr.injEq, Option.some.injEq] at q; omega)⟩ (by omega) ?_
  refine i_dup d_SL_init_39 ?_
  refine i_bipush (x := nI 8) d_SL_init_40 (by decide) ?_
  have l4' : (es4 ++ [oE 3 [vN, vI 0]]).length = es4.length + 1 := by rw [List.length_append]; rfl
  refine l_callI (As := [vI (nI 8)]) (k_R2 (N := 8) k4 (by decide) (by omega)).2 rfl rfl d_SL_init_42 (am_good0 cw_Row_init) wn_RowI wn_SL24 wn_RowM rfl ⟨by decide, by decide, by decide +kernel⟩ (by decide) (by decide) (Nat.le_of_ble_eq_true rfl) (by omega) (by omega) ⟨fun i k q => Or.inl (by have := hLr i k q; omega), fun k q => Or.inl (by simp only [List.mem_cons, List.not_mem_nil, or_false, reduceCtorEq, Sum.inr.injEq, Option.some.injEq] at q; omega)⟩ (by rw [R2_l]; omega) (fun k5 => ?_)
  have l5 : (R2 es4 8).length = _ := R2_l es4 8
  have o5 : (R2 es4 8)[b]? = some (oE 0 [vR mo, vR es2.length, vN, vN, vN, vN]) := (R2_p es4 8 (List.getElem?_eq_some_iff.mp o4).1).trans o4
  generalize e5 : R2 es4 8 = es5 at o5 k5 l5 ⊢
  obtain ⟨o6, k6, l6⟩ := st_f (v := vR es4.length) (k := 2) o5 k5 (by show es4.length < _; omega)
  refine l_putR (ci := 0) (T := T_SL) (N := 6) (k := 2) (fs := [vR mo, vR es2.length, vN, vN, vN, vN]) (ty := .object "SpanLinker$Row") ty_SL to_SL nm_SL d_SL_init_45 rfl in_SL (by decide) wf_SL_31 rfl rfl rfl o5 (Nat.le_of_ble_eq_true rfl) (by decide +kernel) (fun a => rfl) (fun a => rfl) ?_
  generalize e6 : es5.set b (oE 0 (List.set [vR mo, vR es2.length, vN, vN, vN, vN] 2 (vR es4.length))) = es6 at o6 k6 l6 ⊢
  replace o6 : es6[b]? = some (oE 0 [vR mo, vR es2.length, vR es4.length, vN, vN, vN]) := o6
  refine i_aload_n (x := b) d_SL_init_48 rfl hL0 ?_
  refine i_aload_n (x := ic) d_SL_init_49 rfl hL2 ?_
  obtain ⟨o7, k7, l7⟩ := st_f (v := vR ic) (k := 3) o6 k6 (by show ic < _; omega)
  refine l_putR (ci := 0) (T := T_SL) (N := 6) (k := 3) (fs := [vR mo, vR es2.length, vR es4.length, vN, vN, vN]) (ty := .object "SpanLinker$Inclusion") ty_SL to_SL nm_SL d_SL_init_50 rfl in_SL (by decide) wf_SL_34 rfl rfl rfl o6 (Nat.le_of_ble_eq_true rfl) (by decide +kernel) (fun a => rfl) (fun a => rfl) ?_
  generalize e7 : es6.set b (oE 0 (List.set [vR mo, vR es2.length, vR es4.length, vN, vN, vN] 3 (vR ic))) = es7 at o7 k7 l7 ⊢
  replace o7 : es7[b]? = some (oE 0 [vR mo, vR es2.length, vR es4.length, vR ic, vN, vN]) := o7
  refine i_aload_n (x := b) d_SL_init_53 rfl hL0 ?_
  refine l_new (ci := 4) (T := T_Img) (N := 10) (fs := [vN, vN, vN, vN, vN, vN, vI 0, vI 0, vI 0, vI 0]) ty_Img to_Img d_SL_init_54 rfl in_Img wn_SL38 wn_Img wn_ImgI df_Img (am_ok0 rfl) (by omega) (by omega) k7 ⟨fun i k q => Or.inl (by have := hLr i k q; omega), fun k q => Or.inl (by simp only [List.mem_cons, List.not_mem_nil, or_false, reduceCtorEq, Sum.inr.injEq, Option.some.injEq] at q; omega)⟩ (by omega) ?_
  refine i_dup d_SL_init_57 ?_
  refine i_aload_n (x := mo) d_SL_init_58 rfl hL1 ?_
  refine i_aload_n (x := ic) d_SL_init_59 rfl hL2 ?_
  have l7' : (es7 ++ [oE 4 [vN, vN, vN, vN, vN, vN, vI 0, vI 0, vI 0, vI 0]]).length = es7.length + 1 := by rw [List.length_append]; rfl
  have k7' : okl (es7 ++ [oE 4 [vN, vN, vN, vN, vN, vN, vI 0, vI 0, vI 0, vI 0]]) := k7.app (fun v hv => (am_ok0 (fs := [vN, vN, vN, vN, vN, vN, vI 0, vI 0, vI 0, vI 0]) rfl v hv).mono (Nat.zero_le _))
  have o7' : (es7 ++ [oE 4 [vN, vN, vN, vN, vN, vN, vI 0, vI 0, vI 0, vI 0]])[es7.length]? = some (oE 4 [vN, vN, vN, vN, vN, vN, vI 0, vI 0, vI 0, vI 0]) := by rw [List.getElem?_append_right (Nat.le_refl _), Nat.sub_self]; rfl
  refine l_callI (As := [vR mo, vR ic]) (k_Img o7' k7' (mo := mo) (ic := ic) (by omega) (by omega) (by omega)) rfl rfl d_SL_init_60 (am_good0 cw_Img_init) wn_ImgI wn_SL40 wn_ImgM rfl ⟨by decide, by decide, pd_Img⟩ (by decide) (by decide) (Nat.le_of_ble_eq_true rfl) (by omega) (by omega) ⟨fun i k q => Or.inl (by have := hLr i k q; omega), fun k q => Or.inl (by simp only [List.mem_cons, List.not_mem_nil, or_false, reduceCtorEq, Sum.inr.injEq, Option.some.injEq] at q; omega)⟩ (by rw [x_Img_l]; omega) (fun k8 => ?_)
  have l8 : (x_Img (es7 ++ [oE 4 [vN, vN, vN, vN, vN, vN, vI 0, vI 0, vI 0, vI 0]]) es7.length mo ic).length = _ := x_Img_l _ _ _ _
  have o8 : (x_Img (es7 ++ [oE 4 [vN, vN, vN, vN, vN, vN, vI 0, vI 0, vI 0, vI 0]]) es7.length mo ic)[b]? = some (oE 0 [vR mo, vR es2.length, vR es4.length, vR ic, vN, vN]) := (x_Img_p (by have := (List.getElem?_eq_some_iff.mp o7).1; omega) (by have := (List.getElem?_eq_some_iff.mp o7).1; omega)).trans ((List.getElem?_append_left (List.getElem?_eq_some_iff.mp o7).1).trans o7)
  generalize e8 : x_Img (es7 ++ [oE 4 [vN, vN, vN, vN, vN, vN, vI 0, vI 0, vI 0, vI 0]]) es7.length mo ic = es8 at o8 k8 l8 ⊢
  obtain ⟨o9, k9, l9⟩ := st_f (v := vR es7.length) (k := 4) o8 k8 (by show es7.length < _; omega)
  refine l_putR (ci := 0) (T := T_SL) (N := 6) (k := 4) (fs := [vR mo, vR es2.length, vR es4.length, vR ic, vN, vN]) (ty := .object "SpanLinker$Image") ty_SL to_SL nm_SL d_SL_init_63 rfl in_SL (by decide) wf_SL_43 rfl rfl rfl o8 (Nat.le_of_ble_eq_true rfl) (by decide +kernel) (fun a => rfl) (fun a => rfl) ?_
  generalize e9 : es8.set b (oE 0 (List.set [vR mo, vR es2.length, vR es4.length, vR ic, vN, vN] 4 (vR es7.length))) = es9 at o9 k9 l9 ⊢
  replace o9 : es9[b]? = some (oE 0 [vR mo, vR es2.length, vR es4.length, vR ic, vR es7.length, vN]) := o9
  refine i_aload_n (x := b) d_SL_init_66 rfl hL0 ?_
  refine l_new (ci := 5) (T := T_Mac) (N := 13) (fs := [vN, vN, vN, vI 0, vI 0, vI 0, vI 0, vI 0, vI 0, vI 0, vI 0, vI 0, vI 0]) ty_Mac to_Mac d_SL_init_67 rfl in_Mac wn_SL47 wn_Mac wn_MacI df_Mac (am_ok0 rfl) (by omega) (by omega) k9 ⟨fun i k q => Or.inl (by have := hLr i k q; omega), fun k q => Or.inl (by simp only [List.mem_cons, List.not_mem_nil, or_false, reduceCtorEq, Sum.inr.injEq, Option.some.injEq] at q; omega)⟩ (by omega) ?_
  refine i_dup d_SL_init_70 ?_
  have l9' : (es9 ++ [oE 5 [vN, vN, vN, vI 0, vI 0, vI 0, vI 0, vI 0, vI 0, vI 0, vI 0, vI 0, vI 0]]).length = es9.length + 1 := by rw [List.length_append]; rfl
  have k9' : okl (es9 ++ [oE 5 [vN, vN, vN, vI 0, vI 0, vI 0, vI 0, vI 0, vI 0, vI 0, vI 0, vI 0, vI 0]]) := k9.app (fun v hv => (am_ok0 (fs := [vN, vN, vN, vI 0, vI 0, vI 0, vI 0, vI 0, vI 0, vI 0, vI 0, vI 0, vI 0]) rfl v hv).mono (Nat.zero_le _))
  have o9' : (es9 ++ [oE 5 [vN, vN, vN, vI 0, vI 0, vI 0, vI 0, vI 0, vI 0, vI 0, vI 0, vI 0, vI 0]])[es9.length]? = some (oE 5 [vN, vN, vN, vI 0, vI 0, vI 0, vI 0, vI 0, vI 0, vI 0, vI 0, vI 0, vI 0]) := by rw [List.getElem?_append_right (Nat.le_refl _), Nat.sub_self]; rfl
  refine l_callIN (As := []) (k_Mac o9' k9' (by omega)) rfl rfl d_SL_init_71 (am_good0 cw_Mac_init) wn_MacI wn_MacN wn_MacM rfl ⟨by decide, by decide, by decide +kernel⟩ (by decide) (by decide) (Nat.le_of_ble_eq_true rfl) (by omega) (by omega) ⟨fun i k q => Or.inl (by have := hLr i k q; omega), fun k q => Or.inl (by simp only [List.mem_cons, List.not_mem_nil, or_false, reduceCtorEq, Sum.inr.injEq, Option.some.injEq] at q; omega)⟩ (by rw [x_Mac_l]; omega) (fun k10 => ?_)
  have l10 : (x_Mac (es9 ++ [oE 5 [vN, vN, vN, vI 0, vI 0, vI 0, vI 0, vI 0, vI 0, vI 0, vI 0, vI 0, vI 0]]) es9.length).length = _ := x_Mac_l _ _
  have o10 : (x_Mac (es9 ++ [oE 5 [vN, vN, vN, vI 0, vI 0, vI 0, vI 0, vI 0, vI 0, vI 0, vI 0, vI 0, vI 0]]) es9.length)[b]? = some (oE 0 [vR mo, vR es2.length, vR es4.length, vR ic, vR es7.length, vN]) := (x_Mac_p (by have := (List.getElem?_eq_some_iff.mp o9).1; omega) (by have := (List.getElem?_eq_some_iff.mp o9).1; omega)).trans ((List.getElem?_append_left (List.getElem?_eq_some_iff.mp o9).1).trans o9)
  generalize e10 : x_Mac (es9 ++ [oE 5 [vN, vN, vN, vI 0, vI 0, vI 0, vI 0, vI 0, vI 0, vI 0, vI 0, vI 0, vI 0]]) es9.length = es10 at o10 k10 l10 ⊢
  obtain ⟨o11, k11, l11⟩ := st_f (v := vR es9.length) (k := 5) o10 k10 (by show es9.length < _; omega)
  refine l_putR (ci := 0) (T := T_SL) (N := 6) (k := 5) (fs := [vR mo, vR es2.length, vR es4.length, vR ic, vR es7.length, vN]) (ty := .object "SpanLinker$Machine") ty_SL to_SL nm_SL d_SL_init_74 rfl in_SL (by decide) wf_SL_50 rfl rfl rfl o10 (Nat.le_of_ble_eq_true rfl) (by decide +kernel) (fun a => rfl) (fun a => rfl) ?_
  generalize e11 : es10.set b (oE 0 (List.set [vR mo, vR es2.length, vR es4.length, vR ic, vR es7.length, vN] 5 (vR es9.length))) = es11 at o11 k11 l11 ⊢
  replace o11 : es11[b]? = some (oE 0 [vR mo, vR es2.length, vR es4.length, vR ic, vR es7.length, vR es9.length]) := o11
  have hx : es11 = x_SL2 es1 b mo ic := by
    subst e2
    subst e3
    subst e4
    subst e5
    subst e6
    subst e7
    subst e8
    subst e9
    subst e10
    subst e11
    rfl
  exact i_ret d_SL_init_77 rfl (by omega) (by omega) ⟨rfl, es11, hx, k11, rfl, rfl⟩
