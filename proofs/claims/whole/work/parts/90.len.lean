-- lengths and cells kept, for the object's constructor
theorem st_l (es : List am_E) (b : Nat) (e : am_E) : (es.set b e).length = es.length := List.length_set
theorem st_p {es : List am_E} {b p : Nat} {e : am_E} (h : p ≠ b) : (es.set b e)[p]? = es[p]? := List.getElem?_set_ne (fun q => h q.symm)
theorem x_Inc_l (es : List am_E) (b mo : Nat) : (x_Inc es b mo).length = es.length + 2 := by
  unfold x_Inc
  rw [st_l, st_l, R2_l]
theorem x_Inc_p {es : List am_E} {b mo p : Nat} (hp : p < es.length) (hb : p ≠ b) : (x_Inc es b mo)[p]? = es[p]? := by
  unfold x_Inc
  rw [st_p hb, st_p hb, R2_p es 6 hp]
theorem x_Mac_l (es : List am_E) (b : Nat) : (x_Mac es b).length = es.length + 3 := by
  unfold x_Mac
  rw [nx_l, nx_l, nx_l]
theorem x_Mac_p {es : List am_E} {b p : Nat} (hp : p < es.length) (hb : p ≠ b) : (x_Mac es b)[p]? = es[p]? := by
  unfold x_Mac
  rw [nx_p (by simp only [nx_l]; omega) hb, nx_p (by simp only [nx_l]; omega) hb, nx_p hp hb]
theorem x_G_q {es : List am_E} {p : Nat} (hp : p < es.length) : (x_G es)[p]? = es[p]? := by
  unfold x_G
  rw [List.getElem?_append_left hp]
theorem x_Img_l (es : List am_E) (b mo ic : Nat) : (x_Img es b mo ic).length = es.length + 10 := by
  unfold x_Img
  rw [st_l, st_l, nx_l, nx_l, nx_l, st_l, x_G_l]
theorem x_Img_p {es : List am_E} {b mo ic p : Nat} (hp : p < es.length) (hb : p ≠ b) : (x_Img es b mo ic)[p]? = es[p]? := by
  unfold x_Img
  rw [st_p hb, st_p hb, nx_p (by simp only [nx, List.length_set, List.length_append, List.length_singleton, x_G_l]; omega) hb, nx_p (by simp only [nx, List.length_set, List.length_append, List.length_singleton, x_G_l]; omega) hb, nx_p (by simp only [st_l, x_G_l]; omega) hb, st_p hb, x_G_q hp]
theorem EM_p {es : List am_E} {p : Nat} (hp : p < es.length) : ∀ m, (EM es m)[p]? = es[p]?
  | 0 => List.getElem?_append_left hp
  | m + 1 => by
    show (List.set _ _ _)[p]? = _
    have hl := EM_l es m
    rw [st_p (by omega), x_Mod_p (by rw [List.length_append]; omega) (by omega), List.getElem?_append_left (by omega), EM_p hp m]
section CS
variable {M M' : am_M} {d mc ms d' mc' ms' : Nat} {SC : Option (Nat × (Nat → Int32))} {Q : Option am_V → Nat → am_H → Prop} {pc : Nat} {L : Nat → Option am_V} {rest : List am_V} {uc us : Nat}
theorem l_callS {es X : List am_E} {k index : Nat} (hM : am_AM M' d' mc' ms' [] es.length (hl es) (kQr k X))
    (hd : decode M.2.2.1 pc = .ok (.invokestatic index, 3)) (hG : GoodIn am_all (wsS M.1 index M'.2.1 (am_w M')))
    (hy : M'.2.1.cls = M.1 ∧ M'.2.1.cls ≠ "java/lang/invoke/MethodHandle" ∧ M'.2.1.cls ≠ "java/lang/invoke/VarHandle" ∧ (parseMethodDescriptor M'.2.1.desc).map (fun d => d.parameters.length) = some 0)
    (hdd : d' + 1 ≤ d) (hnl : M'.2.2.2.1 ≤ 21) (hrs : rest.length ≤ 8) (hcc : uc + mc' ≤ mc) (hss : us + ms' ≤ ms) (hL : okL es.length L rest) (hX : X.length ≤ am_SP)
    (kk : okl X → am_L M d mc ms SC Q (pc + 3) L (vR k :: rest) X (uc + mc') (us + ms')) : am_L M d mc ms SC Q pc L rest es uc us := by
  refine am_callS (As := []) hM rfl hd hG hy hdd hnl hrs hcc hss (fun v n' h' q => ?_) (fun v n' h' q _ => ?_)
  · obtain ⟨-, es', rfl, -, rfl, -⟩ := q
    exact am_sc.of hL.1 hL.2 hX
  · obtain ⟨rfl, es', rfl, hk, rfl, rfl⟩ := q
    exact kk hk
end CS
