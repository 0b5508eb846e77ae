abbrev oM0 : am_E := oE 1 [vN, vN, vN, vN, vN, vN, vN, vN, vI 0, vI 0, vI 0, vI 0, vI 0]
def gm (n : Nat) : Nat → Nat → Option Nat
  | 0 => fun _ => none
  | m + 1 => va_up (gm n m) m (some (n + 1 + 9 * m))
def EM (es : List am_E) : Nat → List am_E
  | 0 => es ++ [aM 6 (fun _ => none)]
  | m + 1 => (x_Mod (EM es m ++ [oM0]) (EM es m).length).set es.length (aM 6 (gm es.length (m + 1)))
theorem EM_l (es : List am_E) : ∀ m, (EM es m).length = es.length + 1 + 9 * m
  | 0 => by
    show (es ++ [_]).length = _
    rw [List.length_append]
    rfl
  | m + 1 => by
    show (List.set _ _ _).length = _
    rw [List.length_set, x_Mod_l, List.length_append, EM_l es m]
    show es.length + 1 + 9 * m + 1 + 8 = _
    omega
theorem EM_a (es : List am_E) : ∀ m, (EM es m)[es.length]? = some (aM 6 (gm es.length m))
  | 0 => by
    show (es ++ [_])[es.length]? = _
    rw [List.getElem?_append_right (Nat.le_refl _), Nat.sub_self]
    rfl
  | m + 1 => List.getElem?_set_self (by rw [x_Mod_l, List.length_append, EM_l es m]; omega)
theorem x_Mod_b {es : List am_E} {b : Nat} (hb : b < es.length) : ∃ fs, (x_Mod es b)[b]? = some (oE 1 fs) := by
  unfold x_Mod
  exact ⟨_, List.getElem?_set_self (by rw [List.length_append]; simp only [nx_l]; show b < _ + 1; omega)⟩
theorem df_Mod : ∀ j, j < 13 → defaultValue (ty_Mod j) = vp_V (([vN, vN, vN, vN, vN, vN, vN, vN, vI 0, vI 0, vI 0, vI 0, vI 0] : List am_V).map (am_cv id)) j := fun j hj => by
  match j, hj with
  | 0, _ => rfl
  | 1, _ => rfl
  | 2, _ => rfl
  | 3, _ => rfl
  | 4, _ => rfl
  | 5, _ => rfl
  | 6, _ => rfl
  | 7, _ => rfl
  | 8, _ => rfl
  | 9, _ => rfl
  | 10, _ => rfl
  | 11, _ => rfl
  | 12, _ => rfl
theorem wn_SL59 : Cond.classLink "SpanLinker" 59 "SpanLinker$SourceModule" ∈ am_all := (am_mem (tb1 20 rfl) rfl)
theorem wn_Mod : Cond.instantiable "SpanLinker$SourceModule" 13 ∈ am_all := (am_mem (tb1 22 rfl) rfl)
theorem wn_ModI : Cond.initialized "SpanLinker$SourceModule" ∈ am_all := (am_mem (tb1 2 rfl) rfl)
theorem wn_ModM : Cond.instanceMethod m_Mod_init.2.1 ∈ am_all := (am_mem (tb1 24 rfl) rfl)
theorem wn_ModN : Cond.methodLinkNest "SpanLinker" 164 m_Mod_init.2.1 "SpanLinker" ∈ am_nest := List.mem_of_getElem? (i := 0) rfl
abbrev kQr (k : Nat) (X : List am_E) : Option am_V → Nat → am_H → Prop := fun v n' h' => v = some (vR k) ∧ ∃ es', es' = X ∧ okl es' ∧ n' = es'.length ∧ h' = hl es'
theorem k_eloop {es : List am_E} (hsp : es.length + 60 < am_SP) : ∀ (r m : Nat) (L : Nat → Option am_V), m + r = 6 → okl (EM es m) → L 0 = some (vR es.length) → L 1 = some (vI (nI m)) → (∀ i k, L i = some (vR k) → k = es.length) → am_L m_SL_emptyModules 2 55 918 none (kQr es.length (EM es 6)) 8 L [] (EM es m) (1 + 9 * m) (6 + 152 * m)
  | 0, m, L, h1, hk, h0, hm, hr => by
    have : m = 6 := by omega
    subst this
    refine i_iload_n (x := nI 6) d_SL_emptyModules_8 rfl hm ?_
    refine i_bipush (x := nI 6) d_SL_emptyModules_9 (by decide) ?_
    refine i_icmpge (tgt := 30) d_SL_emptyModules_11 (by decide) (fun _ => ?_) (fun q => absurd (Int32.le_refl _) q)
    refine i_aload_n (x := es.length) d_SL_emptyModules_30 rfl h0 ?_
    exact i_aret d_SL_emptyModules_31 rfl (Or.inr ⟨_, rfl⟩) (by omega) (by omega) ⟨rfl, _, rfl, hk, rfl, rfl⟩
  | r + 1, m, L, h1, hk, h0, hm, hr => by
    have hm6 : m < 6 := by omega
    have hl := EM_l es m
    have hk1 : okl (EM es m ++ [oM0]) := hk.app (fun v hv => (am_ok0 (fs := [vN, vN, vN, vN, vN, vN, vN, vN, vI 0, vI 0, vI 0, vI 0, vI 0]) rfl v hv).mono (Nat.zero_le _))
    have hl1 : (EM es m ++ [oM0]).length = es.length + 1 + 9 * m + 1 := by rw [List.length_append, hl]; rfl
    have c1 := k_Mod (b := (EM es m).length) (es := EM es m ++ [oM0]) (by rw [List.getElem?_append_right (Nat.le_refl _), Nat.sub_self]; rfl) hk1 (by rw [hl1]; omega)
    refine i_iload_n (x := nI m) d_SL_emptyModules_8 rfl hm ?_
    refine i_bipush (x := nI 6) d_SL_emptyModules_9 (by decide) ?_
    refine i_icmpge (tgt := 30) d_SL_emptyModules_11 (by decide) (fun q => absurd q (nI_ge hm6 (by decide))) (fun _ => ?_)
    refine i_aload_n (x := es.length) d_SL_emptyModules_14 rfl h0 ?_
    refine i_iload_n (x := nI m) d_SL_emptyModules_15 rfl hm ?_
    refine l_new (ci := 1) (T := T_Mod) (N := 13) (fs := [vN, vN, vN, vN, vN, vN, vN, vN, vI 0, vI 0, vI 0, vI 0, vI 0]) ty_Mod to_Mod d_SL_emptyModules_16 rfl in_Mod wn_SL59 wn_Mod wn_ModI df_Mod (am_ok0 rfl) (by omega) (by omega) hk ⟨fun i k q => Or.inl (by rw [hr i k q]; omega), fun k q => Or.inl ?_⟩ (by omega) ?_
    · rcases List.mem_cons.mp q with z | z
      · cases z
      · cases List.mem_singleton.mp z; omega
    refine i_dup d_SL_emptyModules_19 ?_
    refine l_callIN (As := []) c1 rfl rfl d_SL_emptyModules_20 (am_good0 cw_Mod_init) wn_ModI wn_ModN wn_ModM rfl ⟨by decide, by decide, by decide +kernel⟩ (by decide) (by decide) (Nat.le_of_ble_eq_true rfl) (by omega) (by omega) ⟨fun i k q => Or.inl (by rw [hr i k q]; show _ < (EM es m ++ [oM0]).length; omega), fun k q => Or.inl ?_⟩ (by rw [x_Mod_l]; omega) (fun k2 => ?_)
    · rcases List.mem_cons.mp q with z | z
      · cases z; show _ < (EM es m ++ [oM0]).length; omega
      · rcases List.mem_cons.mp z with z | z
        · cases z
        · cases List.mem_singleton.mp z; show _ < (EM es m ++ [oM0]).length; omega
    obtain ⟨fs, hfs⟩ := x_Mod_b (es := EM es m ++ [oM0]) (b := (EM es m).length) (by omega)
    have ha : (x_Mod (EM es m ++ [oM0]) (EM es m).length)[es.length]? = some (aM 6 (gm es.length m)) := by
      rw [x_Mod_p (by omega) (by omega), List.getElem?_append_left (by omega)]
      exact EM_a es m
    refine l_aast (g := gm es.length m) (j := m) d_SL_emptyModules_23 ha hfs rfl hm6 (by decide) ?_
    refine i_iinc (x := nI m) (y := nI (m + 1)) d_SL_emptyModules_24 hm rfl (nI_add m 1) (by decide) ?_
    refine i_goto (tgt := 8) d_SL_emptyModules_27 (by decide) ?_
    have e3 : (x_Mod (EM es m ++ [oM0]) (EM es m).length).set es.length (aM 6 (va_up (gm es.length m) m (some (EM es m).length))) = EM es (m + 1) := by
      show _ = (x_Mod (EM es m ++ [oM0]) (EM es m).length).set es.length (aM 6 (va_up (gm es.length m) m (some (es.length + 1 + 9 * m))))
      rw [hl]
    have k3 : okl (EM es (m + 1)) := by
      rw [← e3]
      refine k2.set (fun i k q => ?_)
      rw [x_Mod_l]
      by_cases z : i = m
      · subst z
        rw [va_up_self] at q
        cases q; omega
      · rw [va_up_ne _ _ z] at q
        have h5 : am_oke (EM es m).length (aM 6 (gm es.length m)) := hk _ (List.mem_of_getElem? (EM_a es m))
        have := h5 i k q
        omega
    rw [e3]
    have := k_eloop hsp r (m + 1) (va_up L 1 (some (vI (nI (m + 1))))) (by omega) k3 (by rw [va_up_ne _ _ (by decide)]; exact h0) (va_up_self _ _ _) (fun i k q => by
      by_cases z : i = 1
      · subst z; rw [va_up_self] at q; cases q
      · rw [va_up_ne _ _ z] at q; exact hr i k q)
    rw [show 1 + 9 * m + 1 + 8 = 1 + 9 * (m + 1) by omega, show 6 + 152 * m + 13 + 139 = 6 + 152 * (m + 1) by omega]
    exact this
theorem k_empty {es : List am_E} (hk : okl es) (hsp : es.length + 60 < am_SP) : am_AM m_SL_emptyModules 2 55 918 [] es.length (hl es) (kQr es.length (EM es 6)) := by
  refine am_met (by decide) rfl (Nat.le_of_ble_eq_true rfl) ?_
  refine i_bipush (x := nI 6) d_SL_emptyModules_0 (by decide) ?_
  refine l_anew (N := 6) d_SL_emptyModules_2 wn_SL59 rfl (by decide) (by omega) (by omega) hk ⟨fun i k q => (by cases q), fun k q => (by cases q)⟩ (by omega) ?_
  refine i_astore_n (i := 0) (x := es.length) d_SL_emptyModules_5 rfl (by decide) ?_
  refine i_iconst (x := nI 0) d_SL_emptyModules_6 (by decide) ?_
  refine i_istore_n (i := 1) (x := nI 0) d_SL_emptyModules_7 rfl (by decide) ?_
  exact k_eloop hsp 6 0 _ rfl (hk.app (fun i k q => (by cases q))) (by rw [va_up_ne _ _ (by decide), va_up_self]) (va_up_self _ _ _) (fun i k q => by
    by_cases z : i = 1
    · subst z; rw [va_up_self] at q; cases q
    · rw [va_up_ne _ _ z] at q
      by_cases z0 : i = 0
      · subst z0; rw [va_up_self] at q; cases q; rfl
      · rw [va_up_ne _ _ z0] at q; cases q)
