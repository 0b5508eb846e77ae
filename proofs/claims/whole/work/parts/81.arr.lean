abbrev aI (N : Nat) : am_E := .inl (0, N, .inl (fun _ => 0))
abbrev aZ (N : Nat) : am_E := .inl (1, N, .inl (fun _ => 0))
abbrev oE (ci : Nat) (fs : List am_V) : am_E := .inr (ci, fs)
abbrev vN : am_V := .inr none
/-- a new array a, put into the field k of the object at b -/
abbrev nx (es : List am_E) (a : am_E) (b ci : Nat) (fs : List am_V) (k : Nat) : List am_E := (es ++ [a]).set b (oE ci (fs.set k (vR es.length)))
theorem nx_f {es : List am_E} {a : am_E} {b ci k : Nat} {fs : List am_V} (ho : es[b]? = some (oE ci fs)) (hk : okl es) (ha : am_oke (es.length + 1) a) : (nx es a b ci fs k)[b]? = some (oE ci (fs.set k (vR es.length))) ∧ okl (nx es a b ci fs k) ∧ (nx es a b ci fs k).length = es.length + 1 := by
  have hb : b < es.length := (List.getElem?_eq_some_iff.mp ho).1
  have hl : (es ++ [a]).length = es.length + 1 := by rw [List.length_append, List.length_singleton]
  refine ⟨List.getElem?_set_self (by rw [hl]; omega), (hk.app ha).set (fun v hv => ?_), by rw [List.length_set, hl]⟩
  rw [hl]
  rcases List.mem_or_eq_of_mem_set hv with q | q
  · have h1 : am_oke es.length (oE ci fs) := hk _ (List.mem_of_getElem? ho)
    exact (h1 v q).mono (Nat.le_succ _)
  · rw [q]; exact Nat.lt_succ_self _
section AR
variable {M : am_M} {d mc ms : Nat} {SC : Option (Nat × (Nat → Int32))} {Q : Option am_V → Nat → am_H → Prop} {pc : Nat} {L : Nat → Option am_V} {rest : List am_V} {es : List am_E} {uc us : Nat}
theorem l_arrI {C : String} {T : u_T} {NN ci index b k N : Nat} {fs : List am_V} {x : Int32} (ty0 : Nat → FieldType) (hty : ∀ k, k < NN → parseFieldDescriptor (T k).2.2.1 = some (ty0 k)) (hnm : ∀ a, a < NN → ∀ b, b < NN → a ≠ b → (T a).2.1 ≠ (T b).2.1) (hw : Cond.arrayClass .int ∈ am_all) (hd : decode M.2.2.1 pc = .ok (.newarray .int, 2)) (hd2 : decode M.2.2.1 (pc + 2) = .ok (.putfield index, 3)) (hx : x = nI N) (hN : N ≤ 1000) (hcc : uc + 1 ≤ mc) (hss : us + N ≤ ms) (hk : okl es) (hL : okL es.length L (vR b :: rest)) (hsp : es.length < am_SP) (hc : classes[ci]? = some (C, T, NN)) (hin : ∀ w ∈ u_ws C T NN, w ∈ am_all) (hkN : k < NN) (hlk : Cond.fieldLink M.1 index (T k).1 (T k).2.1 (T k).2.2.1 ∈ am_all) (hfin : (T k).2.2.2 = true) (hini : M.2.1.name = "<init>") (hdcl : (T k).1 = M.1) (ho : es[b]? = some (oE ci fs)) (hl0 : k < fs.length) (hpd : parseFieldDescriptor (T k).2.2.1 = some (.array .int)) (kk : am_L M d mc ms SC Q (pc + 5) L rest (nx es (aI N) b ci fs k) (uc + 1) (us + N)) : am_L M d mc ms SC Q pc L (vI x :: vR b :: rest) es uc us := by
  have hb : b < es.length := (List.getElem?_eq_some_iff.mp ho).1
  refine l_newi (N := N) hd hw hx hN hcc hss hk hL hsp ?_
  exact l_putR ty0 hty hnm hd2 hc hin hkN hlk hfin hini hdcl (by rw [List.getElem?_append_left hb]; exact ho) hl0 hpd (fun a => rfl) (fun a => rfl) kk
theorem l_arrZ {C : String} {T : u_T} {NN ci index b k N : Nat} {fs : List am_V} {x : Int32} (ty0 : Nat → FieldType) (hty : ∀ k, k < NN → parseFieldDescriptor (T k).2.2.1 = some (ty0 k)) (hnm : ∀ a, a < NN → ∀ b, b < NN → a ≠ b → (T a).2.1 ≠ (T b).2.1) (hw : Cond.arrayClass .boolean ∈ am_all) (hd : decode M.2.2.1 pc = .ok (.newarray .boolean, 2)) (hd2 : decode M.2.2.1 (pc + 2) = .ok (.putfield index, 3)) (hx : x = nI N) (hN : N ≤ 1000) (hcc : uc + 1 ≤ mc) (hss : us + N ≤ ms) (hk : okl es) (hL : okL es.length L (vR b :: rest)) (hsp : es.length < am_SP) (hc : classes[ci]? = some (C, T, NN)) (hin : ∀ w ∈ u_ws C T NN, w ∈ am_all) (hkN : k < NN) (hlk : Cond.fieldLink M.1 index (T k).1 (T k).2.1 (T k).2.2.1 ∈ am_all) (hfin : (T k).2.2.2 = true) (hini : M.2.1.name = "<init>") (hdcl : (T k).1 = M.1) (ho : es[b]? = some (oE ci fs)) (hl0 : k < fs.length) (hpd : parseFieldDescriptor (T k).2.2.1 = some (.array .boolean)) (kk : am_L M d mc ms SC Q (pc + 5) L rest (nx es (aZ N) b ci fs k) (uc + 1) (us + N)) : am_L M d mc ms SC Q pc L (vI x :: vR b :: rest) es uc us := by
  have hb : b < es.length := (List.getElem?_eq_some_iff.mp ho).1
  refine l_newz (N := N) hd hw hx hN hcc hss hk hL hsp ?_
  exact l_putR ty0 hty hnm hd2 hc hin hkN hlk hfin hini hdcl (by rw [List.getElem?_append_left hb]; exact ho) hl0 hpd (fun a => rfl) (fun a => rfl) kk
end AR
theorem okL_b {n : Nat} {av : List am_V} {rest : List am_V} (h1 : ∀ k, vR k ∈ av → k < n) (h2 : ∀ k, vR k ∈ rest → k < n) : okL n (fun i => av[i]?) rest := ⟨fun i k q => Or.inl (h1 k (List.mem_of_getElem? q)), fun k q => Or.inl (h2 k q)⟩
