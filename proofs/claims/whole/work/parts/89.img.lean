theorem wf_Img_11 : Cond.fieldLink "SpanLinker$Image" 11 "SpanLinker$Image" "bases" "[[I" ∈ am_all := (am_mem (tb1 119 rfl) rfl)
theorem wf_Img_16 : Cond.fieldLink "SpanLinker$Image" 16 "SpanLinker$Image" "words" "[I" ∈ am_all := (am_mem (tb1 120 rfl) rfl)
theorem wf_Img_20 : Cond.fieldLink "SpanLinker$Image" 20 "SpanLinker$Image" "sizes" "[I" ∈ am_all := (am_mem (tb1 121 rfl) rfl)
theorem wf_Img_23 : Cond.fieldLink "SpanLinker$Image" 23 "SpanLinker$Image" "values" "[I" ∈ am_all := (am_mem (tb1 122 rfl) rfl)
theorem wf_Img_26 : Cond.fieldLink "SpanLinker$Image" 26 "SpanLinker$Image" "modules" "[LSpanLinker$SourceModule;" ∈ am_all := (am_mem (tb1 117 rfl) rfl)
theorem wf_Img_30 : Cond.fieldLink "SpanLinker$Image" 30 "SpanLinker$Image" "inclusion" "LSpanLinker$Inclusion;" ∈ am_all := (am_mem (tb1 118 rfl) rfl)
theorem wn_Img3 : Cond.methodLink "SpanLinker$Image" 3 Lib.objectInit ∈ am_all := (am_mem (tb1 114 rfl) rfl)
theorem wn_Img9 : Cond.classLink "SpanLinker$Image" 9 "[[I" ∈ am_all := (am_mem (tb1 115 rfl) rfl)
def x_Img (es : List am_E) (b mo ic : Nat) : List am_E :=
  let es0 := x_G es
  let es1 := es0.set b (oE 4 (List.set [vN, vN, vN, vN, vN, vN, vI 0, vI 0, vI 0, vI 0] 2 (vR es.length)))
  let es2 := nx es1 (aI 200) b 4 [vN, vN, vR es.length, vN, vN, vN, vI 0, vI 0, vI 0, vI 0] 3
  let es3 := nx es2 (aI 3) b 4 [vN, vN, vR es.length, vR es1.length, vN, vN, vI 0, vI 0, vI 0, vI 0] 4
  let es4 := nx es3 (aI 16) b 4 [vN, vN, vR es.length, vR es1.length, vR es2.length, vN, vI 0, vI 0, vI 0, vI 0] 5
  let es5 := es4.set b (oE 4 (List.set [vN, vN, vR es.length, vR es1.length, vR es2.length, vR es3.length, vI 0, vI 0, vI 0, vI 0] 0 (vR mo)))
  let es6 := es5.set b (oE 4 (List.set [vR mo, vN, vR es.length, vR es1.length, vR es2.length, vR es3.length, vI 0, vI 0, vI 0, vI 0] 1 (vR ic)))
  es6
theorem k_Img {b mo ic : Nat} {es : List am_E} (o00 : es[b]? = some (oE 4 [vN, vN, vN, vN, vN, vN, vI 0, vI 0, vI 0, vI 0])) (k00 : okl es) (hmo : mo < es.length) (hic : ic < es.length) (hsp : es.length + 10 < am_SP) : am_AM m_Img_init 1 10 243 [vR b, vR mo, vR ic] es.length (hl es) (kQ (x_Img es b mo ic)) := by
  have hb : b < es.length := (List.getElem?_eq_some_iff.mp o00).1
  have hr : ∀ n k, es.length ≤ n → vR k ∈ ([vR b, vR mo, vR ic] : List am_V) → k < n := fun n k hn q => by
    rcases List.mem_cons.mp q with z | z
    · cases z; omega
    · rcases List.mem_cons.mp z with z | z
      · cases z; omega
      · cases List.mem_singleton.mp z; omega
  refine am_met (by decide) rfl (Nat.le_of_ble_eq_true rfl) ?_
  refine i_aload_n (x := b) d_Img_init_0 rfl rfl ?_
  refine i_obj d_Img_init_1 wn_Img3 wi_oI wi_oC (by decide) (Nat.zero_le _) ?_
  refine i_aload_n (x := b) d_Img_init_4 rfl rfl ?_
  refine i_bipush (x := nI 6) d_Img_init_5 (by decide) ?_
  refine i_iconst (x := nI 3) d_Img_init_7 (by decide) ?_
  refine l_mna d_Img_init_8 wn_Img9 wi_int (by omega) (by omega) k00 (okL_b (fun k q => hr _ k (by omega) q) (fun k q => (by cases List.mem_singleton.mp q; omega))) (by omega) ?_
  have k0 := x_G_k k00
  have l0 := x_G_l es
  have o0 : (x_G es)[b]? = some (oE 4 [vN, vN, vN, vN, vN, vN, vI 0, vI 0, vI 0, vI 0]) := by
    unfold x_G
    rw [List.getElem?_append_left hb]; exact o00
  generalize e0 : x_G es = es0 at k0 l0 o0 ⊢
  obtain ⟨o1, k1, l1⟩ := st_f (v := vR es.length) (k := 2) o0 k0 (by show es.length < _; omega)
  refine l_putR (ci := 4) (T := T_Img) (N := 10) (k := 2) (fs := [vN, vN, vN, vN, vN, vN, vI 0, vI 0, vI 0, vI 0]) (ty := .array (.array .int)) ty_Img to_Img nm_Img d_Img_init_12 rfl in_Img (by decide) wf_Img_11 rfl rfl rfl o0 (Nat.le_of_ble_eq_true rfl) (by decide +kernel) (fun a => rfl) (fun a => rfl) ?_
  generalize e1 : es0.set b (oE 4 (List.set [vN, vN, vN, vN, vN, vN, vI 0, vI 0, vI 0, vI 0] 2 (vR es.length))) = es1 at o1 k1 l1 ⊢
  replace o1 : es1[b]? = some (oE 4 [vN, vN, vR es.length, vN, vN, vN, vI 0, vI 0, vI 0, vI 0]) := o1
  refine i_aload_n (x := b) d_Img_init_15 rfl rfl ?_
  refine i_sipush (x := nI 200) d_Img_init_16 (by decide) ?_
  obtain ⟨o2, k2, l2⟩ := nx_f (a := aI 200) (k := 3) o1 k1 trivial
  refine l_arrI (N := 200) (ci := 4) (T := T_Img) (NN := 10) (k := 3) ty_Img to_Img nm_Img wi_int d_Img_init_19 d_Img_init_21 rfl (by omega) (by omega) (by omega) k1 (okL_b (fun k q => hr _ k (by omega) q) (fun k q => (by cases List.mem_singleton.mp q; omega))) (by omega) rfl in_Img (by decide) wf_Img_16 rfl rfl rfl o1 (Nat.le_of_ble_eq_true rfl) (by decide +kernel) ?_
  generalize e2 : nx es1 (aI 200) b 4 [vN, vN, vR es.length, vN, vN, vN, vI 0, vI 0, vI 0, vI 0] 3 = es2 at o2 k2 l2 ⊢
  replace o2 : es2[b]? = some (oE 4 [vN, vN, vR es.length, vR es1.length, vN, vN, vI 0, vI 0, vI 0, vI 0]) := o2
  refine i_aload_n (x := b) d_Img_init_24 rfl rfl ?_
  refine i_iconst (x := nI 3) d_Img_init_25 (by decide) ?_
  obtain ⟨o3, k3, l3⟩ := nx_f (a := aI 3) (k := 4) o2 k2 trivial
  refine l_arrI (N := 3) (ci := 4) (T := T_Img) (NN := 10) (k := 4) ty_Img to_Img nm_Img wi_int d_Img_init_26 d_Img_init_28 rfl (by omega) (by omega) (by omega) k2 (okL_b (fun k q => hr _ k (by omega) q) (fun k q => (by cases List.mem_singleton.mp q; omega))) (by omega) rfl in_Img (by decide) wf_Img_20 rfl rfl rfl o2 (Nat.le_of_ble_eq_true rfl) (by decide +kernel) ?_
  generalize e3 : nx es2 (aI 3) b 4 [vN, vN, vR es.length, vR es1.length, vN, vN, vI 0, vI 0, vI 0, vI 0] 4 = es3 at o3 k3 l3 ⊢
  replace o3 : es3[b]? = some (oE 4 [vN, vN, vR es.length, vR es1.length, vR es2.length, vN, vI 0, vI 0, vI 0, vI 0]) := o3
  refine i_aload_n (x := b) d_Img_init_31 rfl rfl ?_
  refine i_bipush (x := nI 16) d_Img_init_32 (by decide) ?_
  obtain ⟨o4, k4, l4⟩ := nx_f (a := aI 16) (k := 5) o3 k3 trivial
  refine l_arrI (N := 16) (ci := 4) (T := T_Img) (NN := 10) (k := 5) ty_Img to_Img nm_Img wi_int d_Img_init_34 d_Img_init_36 rfl (by omega) (by omega) (by omega) k3 (okL_b (fun k q => hr _ k (by omega) q) (fun k q => (by cases List.mem_singleton.mp q; omega))) (by omega) rfl in_Img (by decide) wf_Img_23 rfl rfl rfl o3 (Nat.le_of_ble_eq_true rfl) (by decide +kernel) ?_
  generalize e4 : nx es3 (aI 16) b 4 [vN, vN, vR es.length, vR es1.length, vR es2.length, vN, vI 0, vI 0, vI 0, vI 0] 5 = es4 at o4 k4 l4 ⊢
  replace o4 : es4[b]? = some (oE 4 [vN, vN, vR es.length, vR es1.length, vR es2.length, vR es3.length, vI 0, vI 0, vI 0, vI 0]) := o4
  refine i_aload_n (x := b) d_Img_init_39 rfl rfl ?_
  refine i_aload_n (x := mo) d_Img_init_40 rfl rfl ?_
  obtain ⟨o5, k5, l5⟩ := st_f (v := vR mo) (k := 0) o4 k4 (by show mo < _; omega)
  refine l_putR (ci := 4) (T := T_Img) (N := 10) (k := 0) (fs := [vN, vN, vR es.length, vR es1.length, vR es2.length, vR es3.length, vI 0, vI 0, vI 0, vI 0]) (ty := .array (.object "SpanLinker$SourceModule")) ty_Img to_Img nm_Img d_Img_init_41 rfl in_Img (by decide) wf_Img_26 rfl rfl rfl o4 (Nat.le_of_ble_eq_true rfl) (by decide +kernel) (fun a => rfl) (fun a => rfl) ?_
  generalize e5 : es4.set b (oE 4 (List.set [vN, vN, vR es.length, vR es1.length, vR es2.length, vR es3.length, vI 0, vI 0, vI 0, vI 0] 0 (vR mo))) = es5 at o5 k5 l5 ⊢
  replace o5 : es5[b]? = some (oE 4 [vR mo, vN, vR es.length, vR es1.length, vR es2.length, vR es3.length, vI 0, vI 0, vI 0, vI 0]) := o5
  refine i_aload_n (x := b) d_Img_init_44 rfl rfl ?_
  refine i_aload_n (x := ic) d_Img_init_45 rfl rfl ?_
  obtain ⟨o6, k6, l6⟩ := st_f (v := vR ic) (k := 1) o5 k5 (by show ic < _; omega)
  refine l_putR (ci := 4) (T := T_Img) (N := 10) (k := 1) (fs := [vR mo, vN, vR es.length, vR es1.length, vR es2.length, vR es3.length, vI 0, vI 0, vI 0, vI 0]) (ty := .object "SpanLinker$Inclusion") ty_Img to_Img nm_Img d_Img_init_46 rfl in_Img (by decide) wf_Img_30 rfl rfl rfl o5 (Nat.le_of_ble_eq_true rfl) (by decide +kernel) (fun a => rfl) (fun a => rfl) ?_
  generalize e6 : es5.set b (oE 4 (List.set [vR mo, vN, vR es.length, vR es1.length, vR es2.length, vR es3.length, vI 0, vI 0, vI 0, vI 0] 1 (vR ic))) = es6 at o6 k6 l6 ⊢
  replace o6 : es6[b]? = some (oE 4 [vR mo, vR ic, vR es.length, vR es1.length, vR es2.length, vR es3.length, vI 0, vI 0, vI 0, vI 0]) := o6
  have hx : es6 = x_Img es b mo ic := by
    subst e0
    subst e1
    subst e2
    subst e3
    subst e4
    subst e5
    subst e6
    rfl
  exact i_ret d_Img_init_49 rfl (by omega) (by omega) ⟨rfl, es6, hx, k6, rfl, rfl⟩
