-- the law's entry: both objects are made
theorem wl_7 : Cond.classLink "SpanLinkerLaw" 7 "SpanLinker" ∈ am_all := (am_mem (tb1 9 rfl) rfl)
theorem wl_10 : Cond.classLink "SpanLinkerLaw" 10 "SpanLinkerModel" ∈ am_all := (am_mem (tb3 213 rfl) rfl)
theorem wl_9 : Cond.methodLink "SpanLinkerLaw" 9 m_SL_init.2.1 ∈ am_all := (am_mem (tb1 11 rfl) rfl)
theorem wl_12 : Cond.methodLink "SpanLinkerLaw" 12 m_Ref_init.2.1 ∈ am_all := (am_mem (tb3 215 rfl) rfl)
theorem wl_SLn : Cond.instantiable "SpanLinker" 6 ∈ am_all := (am_mem (tb1 10 rfl) rfl)
theorem wl_SLi : Cond.initialized "SpanLinker" ∈ am_all := (am_mem (tb1 1 rfl) rfl)
theorem wl_SLm : Cond.instanceMethod m_SL_init.2.1 ∈ am_all := (am_mem (tb1 12 rfl) rfl)
theorem wl_Rn : Cond.instantiable "SpanLinkerModel" 32 ∈ am_all := (am_mem (tb3 214 rfl) rfl)
theorem wl_Ri : Cond.initialized "SpanLinkerModel" ∈ am_all := (am_mem (tb1 7 rfl) rfl)
theorem wl_Rm : Cond.instanceMethod m_Ref_init.2.1 ∈ am_all := (am_mem (tb3 216 rfl) rfl)
theorem pd_SLi : (parseMethodDescriptor m_SL_init.2.1.desc).map (fun d => d.parameters.length) = some 0 := by decide +kernel
theorem pd_Ri : (parseMethodDescriptor m_Ref_init.2.1.desc).map (fun d => d.parameters.length) = some 0 := by decide +kernel
def dp_SLx (j : Nat) : Prop := defaultValue (ty_SL j) = vp_V (([vN, vN, vN, vN, vN, vN] : List am_V).map (am_cv id)) j
theorem dq_SLx_0 : ∀ j, j < 0 → dp_SLx j := fun j hj => absurd hj (Nat.not_lt_zero j)
theorem dq_SLx_1 : ∀ j, j < 1 → dp_SLx j := xns rfl dq_SLx_0 (by show defaultValue (ty_SL 0) = _; rfl)
theorem dq_SLx_2 : ∀ j, j < 2 → dp_SLx j := xns rfl dq_SLx_1 (by show defaultValue (ty_SL 1) = _; rfl)
theorem dq_SLx_3 : ∀ j, j < 3 → dp_SLx j := xns rfl dq_SLx_2 (by show defaultValue (ty_SL 2) = _; rfl)
theorem dq_SLx_4 : ∀ j, j < 4 → dp_SLx j := xns rfl dq_SLx_3 (by show defaultValue (ty_SL 3) = _; rfl)
theorem dq_SLx_5 : ∀ j, j < 5 → dp_SLx j := xns rfl dq_SLx_4 (by show defaultValue (ty_SL 4) = _; rfl)
theorem dq_SLx_6 : ∀ j, j < 6 → dp_SLx j := xns rfl dq_SLx_5 (by show defaultValue (ty_SL 5) = _; rfl)
theorem dd_SLx : ∀ j, j < 6 → defaultValue (ty_SL j) = vp_V (([vN, vN, vN, vN, vN, vN] : List am_V).map (am_cv id)) j := dq_SLx_6
def dp_Rfx (j : Nat) : Prop := defaultValue (ty_Ref j) = vp_V ((fs_Ref0 : List am_V).map (am_cv id)) j
theorem dq_Rfx_0 : ∀ j, j < 0 → dp_Rfx j := fun j hj => absurd hj (Nat.not_lt_zero j)
theorem dq_Rfx_1 : ∀ j, j < 1 → dp_Rfx j := xns rfl dq_Rfx_0 (by show defaultValue (ty_Ref 0) = _; rfl)
theorem dq_Rfx_2 : ∀ j, j < 2 → dp_Rfx j := xns rfl dq_Rfx_1 (by show defaultValue (ty_Ref 1) = _; rfl)
theorem dq_Rfx_3 : ∀ j, j < 3 → dp_Rfx j := xns rfl dq_Rfx_2 (by show defaultValue (ty_Ref 2) = _; rfl)
theorem dq_Rfx_4 : ∀ j, j < 4 → dp_Rfx j := xns rfl dq_Rfx_3 (by show defaultValue (ty_Ref 3) = _; rfl)
theorem dq_Rfx_5 : ∀ j, j < 5 → dp_Rfx j := xns rfl dq_Rfx_4 (by show defaultValue (ty_Ref 4) = _; rfl)
theorem dq_Rfx_6 : ∀ j, j < 6 → dp_Rfx j := xns rfl dq_Rfx_5 (by show defaultValue (ty_Ref 5) = _; rfl)
theorem dq_Rfx_7 : ∀ j, j < 7 → dp_Rfx j := xns rfl dq_Rfx_6 (by show defaultValue (ty_Ref 6) = _; rfl)
theorem dq_Rfx_8 : ∀ j, j < 8 → dp_Rfx j := xns rfl dq_Rfx_7 (by show defaultValue (ty_Ref 7) = _; rfl)
theorem dq_Rfx_9 : ∀ j, j < 9 → dp_Rfx j := xns rfl dq_Rfx_8 (by show defaultValue (ty_Ref 8) = _; rfl)
theorem dq_Rfx_10 : ∀ j, j < 10 → dp_Rfx j := xns rfl dq_Rfx_9 (by show defaultValue (ty_Ref 9) = _; rfl)
theorem dq_Rfx_11 : ∀ j, j < 11 → dp_Rfx j := xns rfl dq_Rfx_10 (by show defaultValue (ty_Ref 10) = _; rfl)
theorem dq_Rfx_12 : ∀ j, j < 12 → dp_Rfx j := xns rfl dq_Rfx_11 (by show defaultValue (ty_Ref 11) = _; rfl)
theorem dq_Rfx_13 : ∀ j, j < 13 → dp_Rfx j := xns rfl dq_Rfx_12 (by show defaultValue (ty_Ref 12) = _; rfl)
theorem dq_Rfx_14 : ∀ j, j < 14 → dp_Rfx j := xns rfl dq_Rfx_13 (by show defaultValue (ty_Ref 13) = _; rfl)
theorem dq_Rfx_15 : ∀ j, j < 15 → dp_Rfx j := xns rfl dq_Rfx_14 (by show defaultValue (ty_Ref 14) = _; rfl)
theorem dq_Rfx_16 : ∀ j, j < 16 → dp_Rfx j := xns rfl dq_Rfx_15 (by show defaultValue (ty_Ref 15) = _; rfl)
theorem dq_Rfx_17 : ∀ j, j < 17 → dp_Rfx j := xns rfl dq_Rfx_16 (by show defaultValue (ty_Ref 16) = _; rfl)
theorem dq_Rfx_18 : ∀ j, j < 18 → dp_Rfx j := xns rfl dq_Rfx_17 (by show defaultValue (ty_Ref 17) = _; rfl)
theorem dq_Rfx_19 : ∀ j, j < 19 → dp_Rfx j := xns rfl dq_Rfx_18 (by show defaultValue (ty_Ref 18) = _; rfl)
theorem dq_Rfx_20 : ∀ j, j < 20 → dp_Rfx j := xns rfl dq_Rfx_19 (by show defaultValue (ty_Ref 19) = _; rfl)
theorem dq_Rfx_21 : ∀ j, j < 21 → dp_Rfx j := xns rfl dq_Rfx_20 (by show defaultValue (ty_Ref 20) = _; rfl)
theorem dq_Rfx_22 : ∀ j, j < 22 → dp_Rfx j := xns rfl dq_Rfx_21 (by show defaultValue (ty_Ref 21) = _; rfl)
theorem dq_Rfx_23 : ∀ j, j < 23 → dp_Rfx j := xns rfl dq_Rfx_22 (by show defaultValue (ty_Ref 22) = _; rfl)
theorem dq_Rfx_24 : ∀ j, j < 24 → dp_Rfx j := xns rfl dq_Rfx_23 (by show defaultValue (ty_Ref 23) = _; rfl)
theorem dq_Rfx_25 : ∀ j, j < 25 → dp_Rfx j := xns rfl dq_Rfx_24 (by show defaultValue (ty_Ref 24) = _; rfl)
theorem dq_Rfx_26 : ∀ j, j < 26 → dp_Rfx j := xns rfl dq_Rfx_25 (by show defaultValue (ty_Ref 25) = _; rfl)
theorem dq_Rfx_27 : ∀ j, j < 27 → dp_Rfx j := xns rfl dq_Rfx_26 (by show defaultValue (ty_Ref 26) = _; rfl)
theorem dq_Rfx_28 : ∀ j, j < 28 → dp_Rfx j := xns rfl dq_Rfx_27 (by show defaultValue (ty_Ref 27) = _; rfl)
theorem dq_Rfx_29 : ∀ j, j < 29 → dp_Rfx j := xns rfl dq_Rfx_28 (by show defaultValue (ty_Ref 28) = _; rfl)
theorem dq_Rfx_30 : ∀ j, j < 30 → dp_Rfx j := xns rfl dq_Rfx_29 (by show defaultValue (ty_Ref 29) = _; rfl)
theorem dq_Rfx_31 : ∀ j, j < 31 → dp_Rfx j := xns rfl dq_Rfx_30 (by show defaultValue (ty_Ref 30) = _; rfl)
theorem dq_Rfx_32 : ∀ j, j < 32 → dp_Rfx j := xns rfl dq_Rfx_31 (by show defaultValue (ty_Ref 31) = _; rfl)
theorem dd_Rfx : ∀ j, j < 32 → defaultValue (ty_Ref j) = vp_V ((fs_Ref0 : List am_V).map (am_cv id)) j := dq_Rfx_32
theorem law_r {S : Nat × (Nat → Int32)} {Q : Option am_V → Nat → am_H → Prop} {X1 X2 : List am_E} {L1 : Nat → Option am_V} (hx1 : X1.length = 78) (hx2 : x_Ref (X1 ++ [oE 6 fs_Ref0]) 78 = X2) (hxl : X2.length = 94) (k2 : okl X1) (hL0 : L1 0 = some (vR am_SP)) (hL1 : L1 1 = some (vR 0)) (hLr : ∀ i k, L1 i = some (vR k) → k < 1 ∨ k = am_SP)
    (kk : ∀ L : Nat → Option am_V, L 0 = some (vR am_SP) → L 1 = some (vR 0) → L 2 = some (vR 78) → L 3 = some (vI 0) → am_AW m_Law_law 11 600000 7302250 (some S) Q 18 L [] 94 (hl X2) 94 2523) : am_L m_Law_law 11 600000 7302250 (some S) Q 8 L1 [] X1 78 1434 := by
  have hsp : am_SP = 1000000 := rfl
  have hl2 : (X1 ++ [oE 6 fs_Ref0]).length = 79 := by rw [List.length_append, hx1]; rfl
  have o2 : (X1 ++ [oE 6 fs_Ref0])[X1.length]? = some (oE 6 fs_Ref0) := by rw [List.getElem?_append_right (Nat.le_refl _), Nat.sub_self]; rfl
  have k3 : okl (X1 ++ [oE 6 fs_Ref0]) := k2.app (fun v hv => (am_ok0 (fs := fs_Ref0) rfl v hv).mono (Nat.zero_le _))
  have href := k_Ref o2 k3 (by rw [hl2, hsp]; decide)
  have hx3 : x_Ref (X1 ++ [oE 6 fs_Ref0]) X1.length = X2 := by rw [hx1]; exact hx2
  rw [hx3] at href
  refine l_new (ci := 6) (T := T_Ref) (N := 32) (fs := fs_Ref0) ty_Ref to_Ref d_Law_law_8 rfl in_Ref wl_10 wl_Rn wl_Ri dd_Rfx (am_ok0 rfl) (by decide) (by decide) k2 ⟨fun i k q => (hLr i k q).imp (fun z => by omega) id, fun k q => (by cases q)⟩ (by rw [hx1, hsp]; decide) ?_
  refine i_dup d_Law_law_11 ?_
  refine l_callI (As := []) (b := X1.length) (X := X2) href rfl rfl d_Law_law_12 (am_good0 cw_Ref_init) wl_Ri wl_12 wl_Rm rfl ⟨by decide, by decide, pd_Ri⟩ (by decide) (by decide) (Nat.le_of_ble_eq_true rfl) (by decide) (by decide) ⟨fun i k q => (hLr i k q).imp (fun z => by omega) id, fun k q => Or.inl (by cases List.mem_singleton.mp q; omega)⟩ (by rw [hxl, hsp]; decide) (fun k4 => ?_)
  refine i_astore_n (i := 2) (x := X1.length) d_Law_law_15 rfl (by decide) ?_
  refine i_iconst (x := 0) d_Law_law_16 (by decide) ?_
  refine i_istore_n (i := 3) d_Law_law_17 rfl (by decide) ?_
  rw [hx1, hxl]
  refine kk _ ?_ ?_ ?_ ?_
  · rw [va_up_ne _ _ (by decide), va_up_ne _ _ (by decide)]; exact hL0
  · rw [va_up_ne _ _ (by decide), va_up_ne _ _ (by decide)]; exact hL1
  · rw [va_up_ne _ _ (by decide), va_up_self]
  · rw [va_up_self]
theorem law_q {S : Nat × (Nat → Int32)} {Q : Option am_V → Nat → am_H → Prop} {X1 X2 : List am_E} (hsl : am_AM m_SL_init 3 77 1428 [vR 0] ([oE 0 [vN, vN, vN, vN, vN, vN]] : List am_E).length (hl [oE 0 [vN, vN, vN, vN, vN, vN]]) (kQ X1)) (hx1 : X1.length = 78) (hx2 : x_Ref (X1 ++ [oE 6 fs_Ref0]) 78 = X2) (hxl : X2.length = 94)
    (kk : ∀ L : Nat → Option am_V, L 0 = some (vR am_SP) → L 1 = some (vR 0) → L 2 = some (vR 78) → L 3 = some (vI 0) → am_AW m_Law_law 11 600000 7302250 (some S) Q 18 L [] 94 (hl X2) 94 2523) : am_L m_Law_law 11 600000 7302250 (some S) Q 0 (fun i => ([vR am_SP] : List am_V)[i]?) [] [] 0 0 := by
  have hsp : am_SP = 1000000 := rfl
  have hr : ∀ i k, ([vR am_SP] : List am_V)[i]? = some (vR k) → k = am_SP := fun i k q => by
    have := List.mem_singleton.mp (List.mem_of_getElem? q)
    cases this
    rfl
  refine l_new (es := []) (ci := 0) (T := T_SL) (N := 6) (fs := [vN, vN, vN, vN, vN, vN]) ty_SL to_SL d_Law_law_0 rfl in_SL wl_7 wl_SLn wl_SLi dd_SLx (am_ok0 rfl) (by decide) (by decide) (fun e he => by cases he) ⟨fun i k q => Or.inr (hr i k q), fun k q => (by cases q)⟩ (by rw [hsp]; decide) ?_
  refine i_dup d_Law_law_3 ?_
  refine l_callI (es := [oE 0 [vN, vN, vN, vN, vN, vN]]) (As := []) (b := 0) (X := X1) hsl rfl rfl d_Law_law_4 (am_good0 cw_SL_init) wl_SLi wl_9 wl_SLm rfl ⟨by decide, by decide, pd_SLi⟩ (by decide) (by decide) (Nat.le_of_ble_eq_true rfl) (by decide) (by decide) ⟨fun i k q => Or.inr (hr i k q), fun k q => Or.inl (by cases List.mem_singleton.mp q; exact Nat.zero_lt_one)⟩ (by rw [hx1, hsp]; decide) (fun k2 => ?_)
  refine i_astore_n (i := 1) (x := 0) d_Law_law_7 rfl (by decide) ?_
  refine law_r hx1 hx2 hxl k2 ?_ ?_ (fun i k q => ?_) kk
  · rw [va_up_ne _ _ (by decide)]; rfl
  · rw [va_up_self]
  · by_cases z : i = 1
    · subst z; rw [va_up_self] at q; cases q; exact Or.inl Nat.zero_lt_one
    · rw [va_up_ne _ _ z] at q
      exact Or.inr (hr i k q)
theorem law_s : am_AM m_SL_init 3 77 1428 [vR 0] ([oE 0 [vN, vN, vN, vN, vN, vN]] : List am_E).length (hl [oE 0 [vN, vN, vN, vN, vN, vN]]) (kQ xL1) := k_SL (b := 0) (es := [oE 0 [vN, vN, vN, vN, vN, vN]]) rfl (fun e he => by
  cases List.mem_singleton.mp he
  exact fun v hv => (am_ok0 (fs := [vN, vN, vN, vN, vN, vN]) rfl v hv).mono (Nat.zero_le _)) (by show 1 + 100 < 1000000; decide)
theorem law_x : x_Ref (xL1 ++ [oE 6 fs_Ref0]) 78 = xL := rfl
theorem law_w (S : Nat × (Nat → Int32)) (hS : S.1 ≤ 10000) : am_AW m_Law_law 11 600000 7302250 (some S) (fm_Q (fun v _ => v = some (vI 1))) 0 (fun i => ([vR am_SP] : List am_V)[i]?) [] 0 (hl []) 0 0 := by
  obtain ⟨J, hJ⟩ := law_all S hS
  exact law_q law_s xL1_l law_x xL_l (fun L h0 h1 h2 h3 => am_AW.hc xl_all (sn_Law_law_18 S FU 0 78 0 lI0 L h0 h1 h2 h3 (fun v _ => v = some (vI 1)) (some (vI 1)) J hJ rfl))
