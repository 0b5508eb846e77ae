theorem am_ok0 {fs : List am_V} (h : fs.all (fun v => match v with | .inr (some _) => false | _ => true) = true) : ∀ v ∈ fs, am_okv 0 v := fun v hv => by
  have := List.all_eq_true.mp h v hv
  rcases v with x | r
  · exact trivial
  · cases r with
    | none => exact trivial
    | some k => cases this
theorem wn_Row : Cond.instantiable "SpanLinker$Row" 2 ∈ am_all := (am_mem (tb1 76 rfl) rfl)
theorem wn_RowI : Cond.initialized "SpanLinker$Row" ∈ am_all := (am_mem (tb1 4 rfl) rfl)
theorem wn_RowM : Cond.instanceMethod m_Row_init.2.1 ∈ am_all := (am_mem (tb1 78 rfl) rfl)
theorem wn_Inc9 : Cond.classLink "SpanLinker$Inclusion" 9 "SpanLinker$Row" ∈ am_all := (am_mem (tb1 75 rfl) rfl)
theorem wn_Inc11 : Cond.methodLink "SpanLinker$Inclusion" 11 m_Row_init.2.1 ∈ am_all := (am_mem (tb1 77 rfl) rfl)
theorem wn_Inc3 : Cond.methodLink "SpanLinker$Inclusion" 3 Lib.objectInit ∈ am_all := (am_mem (tb1 74 rfl) rfl)
theorem wf_Inc_14 : Cond.fieldLink "SpanLinker$Inclusion" 14 "SpanLinker$Inclusion" "order" "LSpanLinker$Row;" ∈ am_all := (am_mem (tb1 89 rfl) rfl)
theorem wf_Inc_20 : Cond.fieldLink "SpanLinker$Inclusion" 20 "SpanLinker$Inclusion" "modules" "[LSpanLinker$SourceModule;" ∈ am_all := (am_mem (tb1 88 rfl) rfl)
theorem df_Row : ∀ j, j < 2 → defaultValue (ty_Row j) = vp_V (([vN, vI 0] : List am_V).map (am_cv id)) j := fun j hj => by
  match j, hj with
  | 0, _ => rfl
  | 1, _ => rfl
/-- a new row of N numbers -/
def R2 (es : List am_E) (N : Nat) : List am_E := x_Row (es ++ [oE 3 [vN, vI 0]]) es.length N
theorem R2_l (es : List am_E) (N : Nat) : (R2 es N).length = es.length + 2 := by
  unfold R2 x_Row
  show (nx _ _ _ _ _ _).length = _
  rw [List.length_set, List.length_append, List.length_append]
  rfl
theorem R2_p (es : List am_E) (N : Nat) {p : Nat} (hp : p < es.length) : (R2 es N)[p]? = es[p]? := by
  unfold R2 x_Row
  show (nx _ _ _ _ _ _)[p]? = _
  rw [List.getElem?_set_ne (by omega), List.getElem?_append_left (by rw [List.length_append]; show p < es.length + 1; omega), List.getElem?_append_left hp]
theorem k_R2 {es : List am_E} (hk : okl es) {N : Nat} (hN : N ≤ 1000) (hsp : es.length + 2 < am_SP) : okl (es ++ [oE 3 [vN, vI 0]]) ∧ am_AM m_Row_init 1 1 N [vR es.length, vI (nI N)] (es ++ [oE 3 [vN, vI 0]]).length (hl (es ++ [oE 3 [vN, vI 0]])) (kQ (R2 es N)) := by
  have h1 : okl (es ++ [oE 3 [vN, vI 0]]) := hk.app (fun v hv => (am_ok0 (fs := [vN, vI 0]) rfl v hv).mono (Nat.zero_le _))
  exact ⟨h1, k_Row (by rw [List.getElem?_append_right (Nat.le_refl _), Nat.sub_self]; rfl) h1 hN (by rw [List.length_append]; show es.length + 1 + 1 < am_SP; omega)⟩
def x_Inc (es : List am_E) (b mo : Nat) : List am_E := ((R2 es 6).set b (oE 2 [vN, vR es.length, vI 0, vI 0, vI 0, vI 0])).set b (oE 2 [vR mo, vR es.length, vI 0, vI 0, vI 0, vI 0])
theorem k_Inc {b mo : Nat} {es : List am_E} (o0 : es[b]? = some (oE 2 [vN, vN, vI 0, vI 0, vI 0, vI 0])) (k0 : okl es) (hmo : mo < es.length) (hsp : es.length + 2 < am_SP) : am_AM m_Inc_init 2 2 8 [vR b, vR mo] es.length (hl es) (kQ (x_Inc es b mo)) := by
  have hb : b < es.length := (List.getElem?_eq_some_iff.mp o0).1
  have hr : ∀ n k, es.length ≤ n → vR k ∈ ([vR b, vR mo] : List am_V) → k < n := fun n k hn q => by
    rcases List.mem_cons.mp q with z | z
    · cases z; omega
    · cases List.mem_singleton.mp z; omega
  obtain ⟨k1, c1⟩ := k_R2 (N := 6) k0 (by decide) hsp
  have hl1 : (es ++ [oE 3 [vN, vI 0]]).length = es.length + 1 := by rw [List.length_append]; rfl
  refine am_met (by decide) rfl (Nat.le_of_ble_eq_true rfl) ?_
  refine i_aload_n (x := b) d_Inc_init_0 rfl rfl ?_
  refine i_obj d_Inc_init_1 wn_Inc3 wi_oI wi_oC (by decide) (Nat.zero_le _) ?_
  refine i_aload_n (x := b) d_Inc_init_4 rfl rfl ?_
  refine l_new (ci := 3) (T := T_Row) (N := 2) (fs := [vN, vI 0]) ty_Row to_Row d_Inc_init_5 rfl in_Row wn_Inc9 wn_Row wn_RowI df_Row (am_ok0 rfl) (by omega) (by omega) k0 (okL_b (fun k q => hr _ k (Nat.le_refl _) q) (fun k q => (by cases List.mem_singleton.mp q; omega))) (by omega) ?_
  refine i_dup d_Inc_init_8 ?_
  refine i_bipush (x := nI 6) d_Inc_init_9 (by decide) ?_
  refine l_callI (As := [vI (nI 6)]) c1 rfl rfl d_Inc_init_11 (am_good0 cw_Row_init) wn_RowI wn_Inc11 wn_RowM rfl ⟨by decide, by decide, by decide +kernel⟩ (by decide) (by decide) (Nat.le_of_ble_eq_true rfl) (by omega) (by omega) (okL_b (fun k q => hr _ k (by omega) q) (fun k q => ?_)) (by rw [R2_l]; omega) (fun k2 => ?_)
  · rw [hl1]
    rcases List.mem_cons.mp q with z | z
    · cases z; omega
    · cases List.mem_singleton.mp z; omega
  have hl2 := R2_l es 6
  have o2 : (R2 es 6)[b]? = some (oE 2 [vN, vN, vI 0, vI 0, vI 0, vI 0]) := (R2_p es 6 hb).trans o0
  obtain ⟨o3, k3, l3⟩ := st_f (v := vR es.length) (k := 1) o2 k2 (by show es.length < _; omega)
  refine l_putR (ci := 2) (T := T_Inc) (N := 6) (k := 1) (fs := [vN, vN, vI 0, vI 0, vI 0, vI 0]) (ty := .object "SpanLinker$Row") ty_Inc to_Inc nm_Inc d_Inc_init_14 rfl in_Inc (by decide) wf_Inc_14 rfl rfl rfl o2 (by decide) (by decide +kernel) (fun a => rfl) (fun a => rfl) ?_
  obtain ⟨o4, k4, l4⟩ := st_f (v := vR mo) (k := 0) o3 k3 (by show mo < _; omega)
  refine i_aload_n (x := b) d_Inc_init_17 rfl rfl ?_
  refine i_aload_n (x := mo) d_Inc_init_18 rfl rfl ?_
  refine l_putR (ci := 2) (T := T_Inc) (N := 6) (k := 0) (ty := .array (.object "SpanLinker$SourceModule")) ty_Inc to_Inc nm_Inc d_Inc_init_19 rfl in_Inc (by decide) wf_Inc_20 rfl rfl rfl o3 (Nat.le_of_ble_eq_true rfl) (by decide +kernel) (fun a => rfl) (fun a => rfl) ?_
  exact i_ret d_Inc_init_22 rfl (by omega) (by omega) ⟨rfl, _, rfl, k4, rfl, rfl⟩
