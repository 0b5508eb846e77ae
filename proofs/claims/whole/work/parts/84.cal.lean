-- new objects and calls of constructors, over lists of cells
section AC2
variable {M M' : am_M} {d mc ms d' mc' ms' : Nat} {SC : Option (Nat × (Nat → Int32))} {Q Q' : Option am_V → Nat → am_H → Prop} {pc : Nat} {L : Nat → Option am_V} {rest st av : List am_V} {n : Nat} {h : am_H} {uc us : Nat}
theorem am_callIN {As : List am_V} {b index : Nat} {host : String} (hM : am_AM M' d' mc' ms' (vR b :: As) n h Q') (hst : st = As.reverse ++ vR b :: rest) (hret0 : M'.2.2.2.2 = none)
    (hd : decode M.2.2.1 pc = .ok (.invokespecial index, 3)) (hG : GoodIn am_all (am_w M')) (hini : Cond.initialized M'.2.1.cls ∈ am_all) (hnw : Cond.methodLinkNest M.1 index M'.2.1 host ∈ am_nest) (hins : Cond.instanceMethod M'.2.1 ∈ am_all) (hnm : M'.2.1.name = "<init>")
    (hy : M'.2.1.cls ≠ "java/lang/invoke/MethodHandle" ∧ M'.2.1.cls ≠ "java/lang/invoke/VarHandle" ∧ (parseMethodDescriptor M'.2.1.desc).map (fun d => d.parameters.length) = some As.length)
    (hdd : d' + 1 ≤ d) (hnl : M'.2.2.2.1 ≤ 21) (hrs : rest.length ≤ 8) (hcc : uc + mc' ≤ mc) (hss : us + ms' ≤ ms)
    (hsc : ∀ v n' h', Q' v n' h' → am_sc n L rest n')
    (kk : ∀ v n' h', Q' v n' h' → n ≤ n' → am_AW M d mc ms SC Q (pc + 3) L (v.toList ++ rest) n' h' (uc + mc') (us + ms')) : am_AW M d mc ms SC Q pc L st n h uc us := by
  refine am_call hsc ?_ kk
  intro p l e R s m args below meth c D tc A ad H locs ls F hP hD hS hl
  have F2 := F
  obtain ⟨⟨hx, hbb, hml, hown, hts⟩, -, -, -, hR, hK, -⟩ := F2
  obtain ⟨hR1, hR2, hR3, hR4⟩ := hR
  have hcw : am_w M' = Cond.code M'.2.1 M'.2.2.1 M'.2.2.2.1 none :: am_all := by unfold am_w; rw [hret0]
  exact va_runIN (As := As.map (am_cv ad)) (b := ad b) F.1 (hM l D tc ad H.size) ⟨va_cnB As.length hts hG hcw rfl rfl (hK.2.1 _ hnw) (hts _ hini) hy ⟨by show d' + 1 ≤ R.frames; omega, by show 8 + (M'.2.2.2.1 + 11) + 40 * d' ≤ R.locals; omega⟩, hnm, hts _ hins⟩
    ⟨fun a U g mk q => by obtain ⟨q0, q1, qP, qK, qD⟩ := q; exact ⟨q0, q1, qP, qK.calling, qD⟩, fun U hU hW => ⟨rfl, by rw [hU], by rw [hU]; exact hP, am_K.warm hW hK, hD.weaken (fun _ _ _ _ => trivial)⟩⟩
    rfl (by rw [List.length_map]) hl.1 (by subst hst; exact am_cvs_rev ad As b rest) (lv_room (by rw [am_cats]; exact hrs)) hd ⟨by rw [hR2]; exact hcc, by rw [hR3]; exact hss⟩
/-- what a constructor promises: the list of cells is X -/
abbrev kQ (X : List am_E) : Option am_V → Nat → am_H → Prop := fun v n' h' => v = none ∧ ∃ es', es' = X ∧ okl es' ∧ n' = es'.length ∧ h' = hl es'
theorem l_new {es : List am_E} {C : String} {T : u_T} {N ci index : Nat} {fs : List am_V} (ty0 : Nat → FieldType) (hty : ∀ k, k < N → parseFieldDescriptor (T k).2.2.1 = some (ty0 k)) (hd : decode M.2.2.1 pc = .ok (.new index, 3)) (hc : classes[ci]? = some (C, T, N)) (hin : ∀ w ∈ u_ws C T N, w ∈ am_all) (hcl : Cond.classLink M.1 index C ∈ am_all) (hinst : Cond.instantiable C N ∈ am_all) (hini : Cond.initialized C ∈ am_all)
    (hfs : ∀ j, j < N → defaultValue (ty0 j) = vp_V (fs.map (am_cv id)) j) (hok : ∀ v ∈ fs, am_okv 0 v) (hcc : uc + 1 ≤ mc) (hss : us + N ≤ ms) (hk : okl es) (hL : okL es.length L rest) (hsp : es.length < am_SP) (kk : am_L M d mc ms SC Q (pc + 3) L (vR es.length :: rest) (es ++ [oE ci fs]) (uc + 1) (us + N)) : am_L M d mc ms SC Q pc L rest es uc us := by
  refine i_new (fs := fs) ty0 hty hd hc hin hcl hinst hini hfs hok hcc hss ⟨hk.at, hL.1, hL.2, hsp⟩ ?_
  rw [hl_app]
  have := kk
  unfold am_L at this
  rw [List.length_append, List.length_singleton] at this
  exact this
theorem l_callI {es X : List am_E} {As : List am_V} {b index : Nat} (hM : am_AM M' d' mc' ms' (vR b :: As) es.length (hl es) (kQ X)) (hst : st = As.reverse ++ vR b :: rest) (hret0 : M'.2.2.2.2 = none)
    (hd : decode M.2.2.1 pc = .ok (.invokespecial index, 3)) (hG : GoodIn am_all (am_w M')) (hini : Cond.initialized M'.2.1.cls ∈ am_all) (hlk : Cond.methodLink M.1 index M'.2.1 ∈ am_all) (hins : Cond.instanceMethod M'.2.1 ∈ am_all) (hnm : M'.2.1.name = "<init>")
    (hy : M'.2.1.cls ≠ "java/lang/invoke/MethodHandle" ∧ M'.2.1.cls ≠ "java/lang/invoke/VarHandle" ∧ (parseMethodDescriptor M'.2.1.desc).map (fun d => d.parameters.length) = some As.length)
    (hdd : d' + 1 ≤ d) (hnl : M'.2.2.2.1 ≤ 21) (hrs : rest.length ≤ 8) (hcc : uc + mc' ≤ mc) (hss : us + ms' ≤ ms)
    (hL : okL es.length L rest) (hX : X.length ≤ am_SP)
    (kk : okl X → am_L M d mc ms SC Q (pc + 3) L rest X (uc + mc') (us + ms')) : am_L M d mc ms SC Q pc L st es uc us := by
  refine am_callI hM hst hret0 hd hG hini hlk hins hnm hy hdd hnl hrs hcc hss (fun v n' h' q => ?_) (fun v n' h' q _ => ?_)
  · obtain ⟨-, es', rfl, -, rfl, -⟩ := q
    exact am_sc.of hL.1 hL.2 hX
  · obtain ⟨rfl, es', rfl, hk, rfl, rfl⟩ := q
    exact kk hk
theorem l_callIN {es X : List am_E} {As : List am_V} {b index : Nat} {host : String} (hM : am_AM M' d' mc' ms' (vR b :: As) es.length (hl es) (kQ X)) (hst : st = As.reverse ++ vR b :: rest) (hret0 : M'.2.2.2.2 = none)
    (hd : decode M.2.2.1 pc = .ok (.invokespecial index, 3)) (hG : GoodIn am_all (am_w M')) (hini : Cond.initialized M'.2.1.cls ∈ am_all) (hnw : Cond.methodLinkNest M.1 index M'.2.1 host ∈ am_nest) (hins : Cond.instanceMethod M'.2.1 ∈ am_all) (hnm : M'.2.1.name = "<init>")
    (hy : M'.2.1.cls ≠ "java/lang/invoke/MethodHandle" ∧ M'.2.1.cls ≠ "java/lang/invoke/VarHandle" ∧ (parseMethodDescriptor M'.2.1.desc).map (fun d => d.parameters.length) = some As.length)
    (hdd : d' + 1 ≤ d) (hnl : M'.2.2.2.1 ≤ 21) (hrs : rest.length ≤ 8) (hcc : uc + mc' ≤ mc) (hss : us + ms' ≤ ms)
    (hL : okL es.length L rest) (hX : X.length ≤ am_SP)
    (kk : okl X → am_L M d mc ms SC Q (pc + 3) L rest X (uc + mc') (us + ms')) : am_L M d mc ms SC Q pc L st es uc us := by
  refine am_callIN hM hst hret0 hd hG hini hnw hins hnm hy hdd hnl hrs hcc hss (fun v n' h' q => ?_) (fun v n' h' q _ => ?_)
  · obtain ⟨-, es', rfl, -, rfl, -⟩ := q
    exact am_sc.of hL.1 hL.2 hX
  · obtain ⟨rfl, es', rfl, hk, rfl, rfl⟩ := q
    exact kk hk
end AC2
