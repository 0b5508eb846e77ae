theorem wn_SL1 : Cond.methodLink "SpanLinker" 1 Lib.objectInit ∈ am_all := (am_mem (tb1 14 rfl) rfl)
theorem wn_SL13 : Cond.classLink "SpanLinker" 13 "SpanLinker$Inclusion" ∈ am_all := (am_mem (tb1 69 rfl) rfl)
theorem wn_Inc : Cond.instantiable "SpanLinker$Inclusion" 6 ∈ am_all := (am_mem (tb1 70 rfl) rfl)
theorem wn_IncI : Cond.initialized "SpanLinker$Inclusion" ∈ am_all := (am_mem (tb1 3 rfl) rfl)
theorem wn_IncM : Cond.instanceMethod m_Inc_init.2.1 ∈ am_all := (am_mem (tb1 72 rfl) rfl)
theorem wn_SL15 : Cond.methodLink "SpanLinker" 15 m_Inc_init.2.1 ∈ am_all := (am_mem (tb1 71 rfl) rfl)
theorem pd_Inc : (parseMethodDescriptor m_Inc_init.2.1.desc).map (fun d => d.parameters.length) = some 1 := by decide +kernel
theorem gd_Emp : GoodIn am_all (wsS "SpanLinker" 7 m_SL_emptyModules.2.1 (am_w m_SL_emptyModules)) := am_good (M' := m_SL_emptyModules) (ws := [.methodLink "SpanLinker" 7 m_SL_emptyModules.2.1, .static m_SL_emptyModules.2.1, .initialized "SpanLinker"]) cw_SL_emptyModules (List.forall_mem_cons.mpr ⟨(am_mem (tb1 17 rfl) rfl), List.forall_mem_cons.mpr ⟨(am_mem (tb1 18 rfl) rfl), List.forall_mem_cons.mpr ⟨(am_mem (tb1 1 rfl) rfl), fun _ h => absurd h List.not_mem_nil⟩⟩⟩)
theorem df_Inc : ∀ j, j < 6 → defaultValue (ty_Inc j) = vp_V (([vN, vN, vI 0, vI 0, vI 0, vI 0] : List am_V).map (am_cv id)) j := fun j hj => by
  match j, hj with
  | 0, _ => rfl
  | 1, _ => rfl
  | 2, _ => rfl
  | 3, _ => rfl
  | 4, _ => rfl
  | 5, _ => rfl
def x_SL (es : List am_E) (b : Nat) : List am_E := x_SL2 (x_Inc (EM es 6 ++ [oE 2 [vN, vN, vI 0, vI 0, vI 0, vI 0]]) (EM es 6).length es.length) b es.length (EM es 6).length
theorem k_SL {b : Nat} {es : List am_E} (o0 : es[b]? = some (oE 0 [vN, vN, vN, vN, vN, vN])) (k0 : okl es) (hsp : es.length + 100 < am_SP) : am_AM m_SL_init 3 77 1428 [vR b] es.length (hl es) (kQ (x_SL es b)) := by
  have hb := (List.getElem?_eq_some_iff.mp o0).1
  have hl6 := EM_l es 6
  have hc := k_empty k0 (by omega)
  have hEp := (EM_p hb 6).trans o0
  unfold x_SL
  generalize EM es 6 = E at hl6 hc hEp ⊢
  refine am_met (by decide) rfl (Nat.le_of_ble_eq_true rfl) ?_
  refine i_aload_n (x := b) d_SL_init_0 rfl rfl ?_
  refine i_obj d_SL_init_1 wn_SL1 wi_oI wi_oC (by decide) (Nat.zero_le _) ?_
  refine l_callS hc d_SL_init_4 gd_Emp ⟨rfl, by decide, by decide, by decide +kernel⟩ (by decide) (by decide) (Nat.zero_le _) (by omega) (by omega) (okL_b (fun k q => (by cases List.mem_singleton.mp q; omega)) (fun k q => (by cases q))) (by omega) (fun k1 => ?_)
  refine i_astore_n (i := 1) (x := es.length) d_SL_init_7 rfl (by decide) ?_
  generalize hLe : va_up (fun i => ([vR b] : List am_V)[i]?) 1 (some (vR es.length)) = L1
  have hL0 : L1 0 = some (vR b) := by rw [← hLe, va_up_ne _ _ (by decide)]; rfl
  have hL1 : L1 1 = some (vR es.length) := by rw [← hLe, va_up_self]
  have hLr : ∀ i k, L1 i = some (vR k) → k ≤ es.length := fun i k q => by
    rw [← hLe] at q
    by_cases z : i = 1
    · subst z; rw [va_up_self] at q; cases q; exact Nat.le_refl _
    · rw [va_up_ne _ _ z] at q
      have := List.mem_singleton.mp (List.mem_of_getElem? q)
      cases this; omega
  have hl7 : (E ++ [oE 2 [vN, vN, vI 0, vI 0, vI 0, vI 0]]).length = E.length + 1 := by rw [List.length_append]; rfl
  have k7 : okl (E ++ [oE 2 [vN, vN, vI 0, vI 0, vI 0, vI 0]]) := k1.app (fun v hv => (am_ok0 (fs := [vN, vN, vI 0, vI 0, vI 0, vI 0]) rfl v hv).mono (Nat.zero_le _))
  have o7 : (E ++ [oE 2 [vN, vN, vI 0, vI 0, vI 0, vI 0]])[E.length]? = some (oE 2 [vN, vN, vI 0, vI 0, vI 0, vI 0]) := by rw [List.getElem?_append_right (Nat.le_refl _), Nat.sub_self]; rfl
  refine l_new (ci := 2) (T := T_Inc) (N := 6) (fs := [vN, vN, vI 0, vI 0, vI 0, vI 0]) ty_Inc to_Inc d_SL_init_8 rfl in_Inc wn_SL13 wn_Inc wn_IncI df_Inc (am_ok0 rfl) (by omega) (by omega) k1 ⟨fun i k q => Or.inl (by have := hLr i k q; omega), fun k q => (by cases q)⟩ (by omega) ?_
  refine i_dup d_SL_init_11 ?_
  refine i_aload_n (x := es.length) d_SL_init_12 rfl hL1 ?_
  refine l_callI (As := [vR es.length]) (k_Inc o7 k7 (mo := es.length) (by omega) (by omega)) rfl rfl d_SL_init_13 (am_good0 cw_Inc_init) wn_IncI wn_SL15 wn_IncM rfl ⟨by decide, by decide, pd_Inc⟩ (by decide) (by decide) (Nat.le_of_ble_eq_true rfl) (by omega) (by omega) ⟨fun i k q => Or.inl (by have := hLr i k q; omega), fun k q => Or.inl (by cases List.mem_singleton.mp q; omega)⟩ (by rw [x_Inc_l]; omega) (fun k8 => ?_)
  refine i_astore_n (i := 2) (x := E.length) d_SL_init_16 rfl (by decide) ?_
  have l8 := x_Inc_l (E ++ [oE 2 [vN, vN, vI 0, vI 0, vI 0, vI 0]]) E.length es.length
  refine k_SL2 (mo := es.length) (ic := E.length) ((x_Inc_p (by omega) (by omega)).trans ((List.getElem?_append_left (by omega)).trans hEp)) k8 (by omega) (by omega) ?_ ?_ ?_ (fun i k q => ?_) (by omega)
  · show va_up L1 2 _ 0 = _
    rw [va_up_ne _ _ (by decide)]; exact hL0
  · show va_up L1 2 _ 1 = _
    rw [va_up_ne _ _ (by decide)]; exact hL1
  · show va_up L1 2 _ 2 = _
    rw [va_up_self]
  · replace q : va_up L1 2 (some (vR E.length)) i = some (vR k) := q
    by_cases z : i = 2
    · subst z; rw [va_up_self] at q; cases q; omega
    · rw [va_up_ne _ _ z] at q
      have := hLr i k q
      omega
