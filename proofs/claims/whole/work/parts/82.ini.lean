theorem wi_int : Cond.arrayClass .int ∈ am_all := (am_mem (tb1 67 rfl) rfl)
theorem wi_bool : Cond.arrayClass .boolean ∈ am_all := (am_mem (tb1 68 rfl) rfl)
theorem wi_oI : Cond.instanceMethod Lib.objectInit ∈ am_all := (am_mem (tb1 15 rfl) rfl)
theorem wi_oC : Cond.code Lib.objectInit ⟨#[0xb1]⟩ 1 none ∈ am_all := (am_mem (tb1 16 rfl) rfl)
theorem wi_Row3 : Cond.methodLink "SpanLinker$Row" 3 Lib.objectInit ∈ am_all := (am_mem (tb1 80 rfl) rfl)
theorem wf_Row_9 : Cond.fieldLink "SpanLinker$Row" 9 "SpanLinker$Row" "numbers" "[I" ∈ am_all := (am_mem (tb1 81 rfl) rfl)
def x_Row (es : List am_E) (b : Nat) (N : Nat) : List am_E :=
  let es1 := nx es (aI N) b 3 [vN, vI 0] 0
  es1
theorem k_Row {b N : Nat} {es : List am_E} (o0 : es[b]? = some (oE 3 [vN, vI 0])) (k0 : okl es) (hN : N ≤ 1000) (hsp : es.length + 1 < am_SP) : am_AM m_Row_init 1 1 N [vR b, vI (nI N)] es.length (hl es) (fun v n' h' => v = none ∧ ∃ es', es' = x_Row es b N ∧ okl es' ∧ n' = es'.length ∧ h' = hl es') := by
  have hb : b < es.length := (List.getElem?_eq_some_iff.mp o0).1
  have hr : ∀ n k, b < n → vR k ∈ ([vR b, vI (nI N)] : List am_V) → k < n := fun n k hn q => by
    rcases List.mem_cons.mp q with z | z
    · cases z; exact hn
    · rcases List.mem_singleton.mp z with w; cases w
  refine am_met (by decide) rfl (Nat.le_of_ble_eq_true rfl) ?_
  refine i_aload_n (x := b) d_Row_init_0 rfl rfl ?_
  refine i_obj d_Row_init_1 wi_Row3 wi_oI wi_oC (by decide) (Nat.zero_le _) ?_
  refine i_aload_n (x := b) d_Row_init_4 rfl rfl ?_
  refine i_iload_n (x := nI N) d_Row_init_5 rfl rfl ?_
  obtain ⟨o1, k1, l1⟩ := nx_f (a := aI N) (k := 0) o0 k0 trivial
  refine l_arrI (N := N) (ci := 3) (T := T_Row) (NN := 2) (k := 0) ty_Row to_Row nm_Row wi_int d_Row_init_6 d_Row_init_8 rfl (by omega) (by omega) (by omega) k0 (okL_b (fun k q => hr _ k (by omega) q) (fun k q => (by cases List.mem_singleton.mp q; omega))) (by omega) rfl in_Row (by decide) wf_Row_9 rfl rfl rfl o0 (Nat.le_of_ble_eq_true rfl) (by decide +kernel) ?_
  generalize e1 : nx es (aI N) b 3 [vN, vI 0] 0 = es1 at o1 k1 l1 ⊢
  replace o1 : es1[b]? = some (oE 3 [vR es.length, vI 0]) := o1
  have hx : es1 = x_Row es b N := by
    subst e1
    rfl
  exact i_ret d_Row_init_11 rfl (by omega) (by omega) ⟨rfl, es1, hx, k1, rfl, rfl⟩
theorem wi_Mod3 : Cond.methodLink "SpanLinker$SourceModule" 3 Lib.objectInit ∈ am_all := (am_mem (tb1 26 rfl) rfl)
theorem wf_Mod_9 : Cond.fieldLink "SpanLinker$SourceModule" 9 "SpanLinker$SourceModule" "kinds" "[I" ∈ am_all := (am_mem (tb1 27 rfl) rfl)
theorem wf_Mod_15 : Cond.fieldLink "SpanLinker$SourceModule" 15 "SpanLinker$SourceModule" "firsts" "[I" ∈ am_all := (am_mem (tb1 28 rfl) rfl)
theorem wf_Mod_18 : Cond.fieldLink "SpanLinker$SourceModule" 18 "SpanLinker$SourceModule" "seconds" "[I" ∈ am_all := (am_mem (tb1 29 rfl) rfl)
theorem wf_Mod_21 : Cond.fieldLink "SpanLinker$SourceModule" 21 "SpanLinker$SourceModule" "sections" "[I" ∈ am_all := (am_mem (tb1 30 rfl) rfl)
theorem wf_Mod_24 : Cond.fieldLink "SpanLinker$SourceModule" 24 "SpanLinker$SourceModule" "places" "[I" ∈ am_all := (am_mem (tb1 31 rfl) rfl)
theorem wf_Mod_27 : Cond.fieldLink "SpanLinker$SourceModule" 27 "SpanLinker$SourceModule" "longs" "[Z" ∈ am_all := (am_mem (tb1 32 rfl) rfl)
theorem wf_Mod_31 : Cond.fieldLink "SpanLinker$SourceModule" 31 "SpanLinker$SourceModule" "lengths" "[I" ∈ am_all := (am_mem (tb1 33 rfl) rfl)
theorem wf_Mod_34 : Cond.fieldLink "SpanLinker$SourceModule" 34 "SpanLinker$SourceModule" "holders" "[I" ∈ am_all := (am_mem (tb1 34 rfl) rfl)
def x_Mod (es : List am_E) (b : Nat) : List am_E :=
  let es1 := nx es (aI 20) b 1 [vN, vN, vN, vN, vN, vN, vN, vN, vI 0, vI 0, vI 0, vI 0, vI 0] 0
  let es2 := nx es1 (aI 20) b 1 [vR es.length, vN, vN, vN, vN, vN, vN, vN, vI 0, vI 0, vI 0, vI 0, vI 0] 1
  let es3 := nx es2 (aI 20) b 1 [vR es.length, vR es1.length, vN, vN, vN, vN, vN, vN, vI 0, vI 0, vI 0, vI 0, vI 0] 2
  let es4 := nx es3 (aI 20) b 1 [vR es.length, vR es1.length, vR es2.length, vN, vN, vN, vN, vN, vI 0, vI 0, vI 0, vI 0, vI 0] 3
  let es5 := nx es4 (aI 20) b 1 [vR es.length, vR es1.length, vR es2.length, vR es3.length, vN, vN, vN, vN, vI 0, vI 0, vI 0, vI 0, vI 0] 4
  let es6 := nx es5 (aZ 20) b 1 [vR es.length, vR es1.length, vR es2.length, vR es3.length, vR es4.length, vN, vN, vN, vI 0, vI 0, vI 0, vI 0, vI 0] 5
  let es7 := nx es6 (aI 3) b 1 [vR es.length, vR es1.length, vR es2.length, vR es3.length, vR es4.length, vR es5.length, vN, vN, vI 0, vI 0, vI 0, vI 0, vI 0] 6
  let es8 := nx es7 (aI 16) b 1 [vR es.length, vR es1.length, vR es2.length, vR es3.length, vR es4.length, vR es5.length, vR es6.length, vN, vI 0, vI 0, vI 0, vI 0, vI 0] 7
  es8
theorem k_Mod {b : Nat} {es : List am_E} (o0 : es[b]? = some (oE 1 [vN, vN, vN, vN, vN, vN, vN, vN, vI 0, vI 0, vI 0, vI 0, vI 0])) (k0 : okl es) (hsp : es.length + 8 < am_SP) : am_AM m_Mod_init 1 8 139 [vR b] es.length (hl es) (fun v n' h' => v = none ∧ ∃ es', es' = x_Mod es b ∧ okl es' ∧ n' = es'.length ∧ h' = hl es') := by
  have hb : b < es.length := (List.getElem?_eq_some_iff.mp o0).1
  have hr : ∀ n k, b < n → vR k ∈ ([vR b] : List am_V) → k < n := fun n k hn q => by
    rcases List.mem_cons.mp q with z | z
    · cases z; exact hn
    · cases z
  refine am_met (by decide) rfl (Nat.le_of_ble_eq_true rfl) ?_
  refine i_aload_n (x := b) d_Mod_init_0 rfl rfl ?_
  refine i_obj d_Mod_init_1 wi_Mod3 wi_oI wi_oC (by decide) (Nat.zero_le _) ?_
  refine i_aload_n (x := b) d_Mod_init_4 rfl rfl ?_
  refine i_bipush (x := nI 20) d_Mod_init_5 (by decide) ?_
  obtain ⟨o1, k1, l1⟩ := nx_f (a := aI 20) (k := 0) o0 k0 trivial
  refine l_arrI (N := 20) (ci := 1) (T := T_Mod) (NN := 13) (k := 0) ty_Mod to_Mod nm_Mod wi_int d_Mod_init_7 d_Mod_init_9 rfl (by omega) (by omega) (by omega) k0 (okL_b (fun k q => hr _ k (by omega) q) (fun k q => (by cases List.mem_singleton.mp q; omega))) (by omega) rfl in_Mod (by decide) wf_Mod_9 rfl rfl rfl o0 (Nat.le_of_ble_eq_true rfl) (by decide +kernel) ?_
  generalize e1 : nx es (aI 20) b 1 [vN, vN, vN, vN, vN, vN, vN, vN, vI 0, vI 0, vI 0, vI 0, vI 0] 0 = es1 at o1 k1 l1 ⊢
  replace o1 : es1[b]? = some (oE 1 [vR es.length, vN, vN, vN, vN, vN, vN, vN, vI 0, vI 0, vI 0, vI 0, vI 0]) := o1
  refine i_aload_n (x := b) d_Mod_init_12 rfl rfl ?_
  refine i_bipush (x := nI 20) d_Mod_init_13 (by decide) ?_
  obtain ⟨o2, k2, l2⟩ := nx_f (a := aI 20) (k := 1) o1 k1 trivial
  refine l_arrI (N := 20) (ci := 1) (T := T_Mod) (NN := 13) (k := 1) ty_Mod to_Mod nm_Mod wi_int d_Mod_init_15 d_Mod_init_17 rfl (by omega) (by omega) (by omega) k1 (okL_b (fun k q => hr _ k (by omega) q) (fun k q => (by cases List.mem_singleton.mp q; omega))) (by omega) rfl in_Mod (by decide) wf_Mod_15 rfl rfl rfl o1 (Nat.le_of_ble_eq_true rfl) (by decide +kernel) ?_
  generalize e2 : nx es1 (aI 20) b 1 [vR es.length, vN, vN, vN, vN, vN, vN, vN, vI 0, vI 0, vI 0, vI 0, vI 0] 1 = es2 at o2 k2 l2 ⊢
  replace o2 : es2[b]? = some (oE 1 [vR es.length, vR es1.length, vN, vN, vN, vN, vN, vN, vI 0, vI 0, vI 0, vI 0, vI 0]) := o2
  refine i_aload_n (x := b) d_Mod_init_20 rfl rfl ?_
  refine i_bipush (x := nI 20) d_Mod_init_21 (by decide) ?_
  obtain ⟨o3, k3, l3⟩ := nx_f (a := aI 20) (k := 2) o2 k2 trivial
  refine l_arrI (N := 20) (ci := 1) (T := T_Mod) (NN := 13) (k := 2) ty_Mod to_Mod nm_Mod wi_int d_Mod_init_23 d_Mod_init_25 rfl (by omega) (by omega) (by omega) k2 (okL_b (fun k q => hr _ k (by omega) q) (fun k q => (by cases List.mem_singleton.mp q; omega))) (by omega) rfl in_Mod (by decide) wf_Mod_18 rfl rfl rfl o2 (Nat.le_of_ble_eq_true rfl) (by decide +kernel) ?_
  generalize e3 : nx es2 (aI 20) b 1 [vR es.length, vR es1.length, vN, vN, vN, vN, vN, vN, vI 0, vI 0, vI 0, vI 0, vI 0] 2 = es3 at o3 k3 l3 ⊢
  replace o3 : es3[b]? = some (oE 1 [vR es.length, vR es1.length, vR es2.length, vN, vN, vN, vN, vN, vI 0, vI 0, vI 0, vI 0, vI 0]) := o3
  refine i_aload_n (x := b) d_Mod_init_28 rfl rfl ?_
  refine i_bipush (x := nI 20) d_Mod_init_29 (by decide) ?_
  obtain ⟨o4, k4, l4⟩ := nx_f (a := aI 20) (k := 3) o3 k3 trivial
  refine l_arrI (N := 20) (ci := 1) (T := T_Mod) (NN := 13) (k := 3) ty_Mod to_Mod nm_Mod wi_int d_Mod_init_31 d_Mod_init_33 rfl (by omega) (by omega) (by omega) k3 (okL_b (fun k q => hr _ k (by omega) q) (fun k q => (by cases List.mem_singleton.mp q; omega))) (by omega) rfl in_Mod (by decide) wf_Mod_21 rfl rfl rfl o3 (Nat.le_of_ble_eq_true rfl) (by decide +kernel) ?_
  generalize e4 : nx es3 (aI 20) b 1 [vR es.length, vR es1.length, vR es2.length, vN, vN, vN, vN, vN, vI 0, vI 0, vI 0, vI 0, vI 0] 3 = es4 at o4 k4 l4 ⊢
  replace o4 : es4[b]? = some (oE 1 [vR es.length, vR es1.length, vR es2.length, vR es3.length, vN, vN, vN, vN, vI 0, vI 0, vI 0, vI 0, vI 0]) := o4
  refine i_aload_n (x := b) d_Mod_init_36 rfl rfl ?_
  refine i_bipush (x := nI 20) d_Mod_init_37 (by decide) ?_
  obtain ⟨o5, k5, l5⟩ := nx_f (a := aI 20) (k := 4) o4 k4 trivial
  refine l_arrI (N := 20) (ci := 1) (T := T_Mod) (NN := 13) (k := 4) ty_Mod to_Mod nm_Mod wi_int d_Mod_init_39 d_Mod_init_41 rfl (by omega) (by omega) (by omega) k4 (okL_b (fun k q => hr _ k (by omega) q) (fun k q => (by cases List.mem_singleton.mp q; omega))) (by omega) rfl in_Mod (by decide) wf_Mod_24 rfl rfl rfl o4 (Nat.le_of_ble_eq_true rfl) (by decide +kernel) ?_
  generalize e5 : nx es4 (aI 20) b 1 [vR es.length, vR es1.length, vR es2.length, vR es3.length, vN, vN, vN, vN, vI 0, vI 0, vI 0, vI 0, vI 0] 4 = es5 at o5 k5 l5 ⊢
  replace o5 : es5[b]? = some (oE 1 [vR es.length, vR es1.length, vR es2.length, vR es3.length, vR es4.length, vN, vN, vN, vI 0, vI 0, vI 0, vI 0, vI 0]) := o5
  refine i_aload_n (x := b) d_Mod_init_44 rfl rfl ?_
  refine i_bipush (x := nI 20) d_Mod_init_45 (by decide) ?_
  obtain ⟨o6, k6, l6⟩ := nx_f (a := aZ 20) (k := 5) o5 k5 trivial
  refine l_arrZ (N := 20) (ci := 1) (T := T_Mod) (NN := 13) (k := 5) ty_Mod to_Mod nm_Mod wi_bool d_Mod_init_47 d_Mod_init_49 rfl (by omega) (by omega) (by omega) k5 (okL_b (fun k q => hr _ k (by omega) q) (fun k q => (by cases List.mem_singleton.mp q; omega))) (by omega) rfl in_Mod (by decide) wf_Mod_27 rfl rfl rfl o5 (Nat.le_of_ble_eq_true rfl) (by decide +kernel) ?_
  generalize e6 : nx es5 (aZ 20) b 1 [vR es.length, vR es1.length, vR es2.length, vR es3.length, vR es4.length, vN, vN, vN, vI 0, vI 0, vI 0, vI 0, vI 0] 5 = es6 at o6 k6 l6 ⊢
  replace o6 : es6[b]? = some (oE 1 [vR es.length, vR es1.length, vR es2.length, vR es3.length, vR es4.length, vR es5.length, vN, vN, vI 0, vI 0, vI 0, vI 0, vI 0]) := o6
  refine i_aload_n (x := b) d_Mod_init_52 rfl rfl ?_
  refine i_iconst (x := nI 3) d_Mod_init_53 (by decide) ?_
  obtain ⟨o7, k7, l7⟩ := nx_f (a := aI 3) (k := 6) o6 k6 trivial
  refine l_arrI (N := 3) (ci := 1) (T := T_Mod) (NN := 13) (k := 6) ty_Mod to_Mod nm_Mod wi_int d_Mod_init_54 d_Mod_init_56 rfl (by omega) (by omega) (by omega) k6 (okL_b (fun k q => hr _ k (by omega) q) (fun k q => (by cases List.mem_singleton.mp q; omega))) (by omega) rfl in_Mod (by decide) wf_Mod_31 rfl rfl rfl o6 (Nat.le_of_ble_eq_true rfl) (by decide +kernel) ?_
  generalize e7 : nx es6 (aI 3) b 1 [vR es.length, vR es1.length, vR es2.length, vR es3.length, vR es4.length, vR es5.length, vN, vN, vI 0, vI 0, vI 0, vI 0, vI 0] 6 = es7 at o7 k7 l7 ⊢
  replace o7 : es7[b]? = some (oE 1 [vR es.length, vR es1.length, vR es2.length, vR es3.length, vR es4.length, vR es5.length, vR es6.length, vN, vI 0, vI 0, vI 0, vI 0, vI 0]) := o7
  refine i_aload_n (x := b) d_Mod_init_59 rfl rfl ?_
  refine i_bipush (x := nI 16) d_Mod_init_60 (by decide) ?_
  obtain ⟨o8, k8, l8⟩ := nx_f (a := aI 16) (k := 7) o7 k7 trivial
  refine l_arrI (N := 16) (ci := 1) (T := T_Mod) (NN := 13) (k := 7) ty_Mod to_Mod nm_Mod wi_int d_Mod_init_62 d_Mod_init_64 rfl (by omega) (by omega) (by omega) k7 (okL_b (fun k q => hr _ k (by omega) q) (fun k q => (by cases List.mem_singleton.mp q; omega))) (by omega) rfl in_Mod (by decide) wf_Mod_34 rfl rfl rfl o7 (Nat.le_of_ble_eq_true rfl) (by decide +kernel) ?_
  generalize e8 : nx es7 (aI 16) b 1 [vR es.length, vR es1.length, vR es2.length, vR es3.length, vR es4.length, vR es5.length, vR es6.length, vN, vI 0, vI 0, vI 0, vI 0, vI 0] 7 = es8 at o8 k8 l8 ⊢
  replace o8 : es8[b]? = some (oE 1 [vR es.length, vR es1.length, vR es2.length, vR es3.length, vR es4.length, vR es5.length, vR es6.length, vR es7.length, vI 0, vI 0, vI 0, vI 0, vI 0]) := o8
  have hx : es8 = x_Mod es b := by
    subst e1
    subst e2
    subst e3
    subst e4
    subst e5
    subst e6
    subst e7
    subst e8
    rfl
  exact i_ret d_Mod_init_67 rfl (by omega) (by omega) ⟨rfl, es8, hx, k8, rfl, rfl⟩
theorem wi_Mac3 : Cond.methodLink "SpanLinker$Machine" 3 Lib.objectInit ∈ am_all := (am_mem (tb1 153 rfl) rfl)
theorem wf_Mac_9 : Cond.fieldLink "SpanLinker$Machine" 9 "SpanLinker$Machine" "words" "[I" ∈ am_all := (am_mem (tb1 154 rfl) rfl)
theorem wf_Mac_15 : Cond.fieldLink "SpanLinker$Machine" 15 "SpanLinker$Machine" "tape" "[I" ∈ am_all := (am_mem (tb1 155 rfl) rfl)
theorem wf_Mac_18 : Cond.fieldLink "SpanLinker$Machine" 18 "SpanLinker$Machine" "latest" "[I" ∈ am_all := (am_mem (tb1 156 rfl) rfl)
def x_Mac (es : List am_E) (b : Nat) : List am_E :=
  let es1 := nx es (aI 200) b 5 [vN, vN, vN, vI 0, vI 0, vI 0, vI 0, vI 0, vI 0, vI 0, vI 0, vI 0, vI 0] 0
  let es2 := nx es1 (aI 8) b 5 [vR es.length, vN, vN, vI 0, vI 0, vI 0, vI 0, vI 0, vI 0, vI 0, vI 0, vI 0, vI 0] 1
  let es3 := nx es2 (aI 4) b 5 [vR es.length, vR es1.length, vN, vI 0, vI 0, vI 0, vI 0, vI 0, vI 0, vI 0, vI 0, vI 0, vI 0] 2
  es3
theorem k_Mac {b : Nat} {es : List am_E} (o0 : es[b]? = some (oE 5 [vN, vN, vN, vI 0, vI 0, vI 0, vI 0, vI 0, vI 0, vI 0, vI 0, vI 0, vI 0])) (k0 : okl es) (hsp : es.length + 3 < am_SP) : am_AM m_Mac_init 1 3 212 [vR b] es.length (hl es) (fun v n' h' => v = none ∧ ∃ es', es' = x_Mac es b ∧ okl es' ∧ n' = es'.length ∧ h' = hl es') := by
  have hb : b < es.length := (List.getElem?_eq_some_iff.mp o0).1
  have hr : ∀ n k, b < n → vR k ∈ ([vR b] : List am_V) → k < n := fun n k hn q => by
    rcases List.mem_cons.mp q with z | z
    · cases z; exact hn
    · cases z
  refine am_met (by decide) rfl (Nat.le_of_ble_eq_true rfl) ?_
  refine i_aload_n (x := b) d_Mac_init_0 rfl rfl ?_
  refine i_obj d_Mac_init_1 wi_Mac3 wi_oI wi_oC (by decide) (Nat.zero_le _) ?_
  refine i_aload_n (x := b) d_Mac_init_4 rfl rfl ?_
  refine i_sipush (x := nI 200) d_Mac_init_5 (by decide) ?_
  obtain ⟨o1, k1, l1⟩ := nx_f (a := aI 200) (k := 0) o0 k0 trivial
  refine l_arrI (N := 200) (ci := 5) (T := T_Mac) (NN := 13) (k := 0) ty_Mac to_Mac nm_Mac wi_int d_Mac_init_8 d_Mac_init_10 rfl (by omega) (by omega) (by omega) k0 (okL_b (fun k q => hr _ k (by omega) q) (fun k q => (by cases List.mem_singleton.mp q; omega))) (by omega) rfl in_Mac (by decide) wf_Mac_9 rfl rfl rfl o0 (Nat.le_of_ble_eq_true rfl) (by decide +kernel) ?_
  generalize e1 : nx es (aI 200) b 5 [vN, vN, vN, vI 0, vI 0, vI 0, vI 0, vI 0, vI 0, vI 0, vI 0, vI 0, vI 0] 0 = es1 at o1 k1 l1 ⊢
  replace o1 : es1[b]? = some (oE 5 [vR es.length, vN, vN, vI 0, vI 0, vI 0, vI 0, vI 0, vI 0, vI 0, vI 0, vI 0, vI 0]) := o1
  refine i_aload_n (x := b) d_Mac_init_13 rfl rfl ?_
  refine i_bipush (x := nI 8) d_Mac_init_14 (by decide) ?_
  obtain ⟨o2, k2, l2⟩ := nx_f (a := aI 8) (k := 1) o1 k1 trivial
  refine l_arrI (N := 8) (ci := 5) (T := T_Mac) (NN := 13) (k := 1) ty_Mac to_Mac nm_Mac wi_int d_Mac_init_16 d_Mac_init_18 rfl (by omega) (by omega) (by omega) k1 (okL_b (fun k q => hr _ k (by omega) q) (fun k q => (by cases List.mem_singleton.mp q; omega))) (by omega) rfl in_Mac (by decide) wf_Mac_15 rfl rfl rfl o1 (Nat.le_of_ble_eq_true rfl) (by decide +kernel) ?_
  generalize e2 : nx es1 (aI 8) b 5 [vR es.length, vN, vN, vI 0, vI 0, vI 0, vI 0, vI 0, vI 0, vI 0, vI 0, vI 0, vI 0] 1 = es2 at o2 k2 l2 ⊢
  replace o2 : es2[b]? = some (oE 5 [vR es.length, vR es1.length, vN, vI 0, vI 0, vI 0, vI 0, vI 0, vI 0, vI 0, vI 0, vI 0, vI 0]) := o2
  refine i_aload_n (x := b) d_Mac_init_21 rfl rfl ?_
  refine i_iconst (x := nI 4) d_Mac_init_22 (by decide) ?_
  obtain ⟨o3, k3, l3⟩ := nx_f (a := aI 4) (k := 2) o2 k2 trivial
  refine l_arrI (N := 4) (ci := 5) (T := T_Mac) (NN := 13) (k := 2) ty_Mac to_Mac nm_Mac wi_int d_Mac_init_23 d_Mac_init_25 rfl (by omega) (by omega) (by omega) k2 (okL_b (fun k q => hr _ k (by omega) q) (fun k q => (by cases List.mem_singleton.mp q; omega))) (by omega) rfl in_Mac (by decide) wf_Mac_18 rfl rfl rfl o2 (Nat.le_of_ble_eq_true rfl) (by decide +kernel) ?_
  generalize e3 : nx es2 (aI 4) b 5 [vR es.length, vR es1.length, vN, vI 0, vI 0, vI 0, vI 0, vI 0, vI 0, vI 0, vI 0, vI 0, vI 0] 2 = es3 at o3 k3 l3 ⊢
  replace o3 : es3[b]? = some (oE 5 [vR es.length, vR es1.length, vR es2.length, vI 0, vI 0, vI 0, vI 0, vI 0, vI 0, vI 0, vI 0, vI 0, vI 0]) := o3
  have hx : es3 = x_Mac es b := by
    subst e1
    subst e2
    subst e3
    rfl
  exact i_ret d_Mac_init_28 rfl (by omega) (by omega) ⟨rfl, es3, hx, k3, rfl, rfl⟩
