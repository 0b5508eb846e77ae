-- the row of modules
theorem nx_l (es : List am_E) (a : am_E) (b ci : Nat) (fs : List am_V) (k : Nat) : (nx es a b ci fs k).length = es.length + 1 := by
  rw [List.length_set, List.length_append]
  rfl
theorem nx_p {es : List am_E} {a : am_E} {b ci : Nat} {fs : List am_V} {k p : Nat} (hp : p < es.length) (hb : p ≠ b) : (nx es a b ci fs k)[p]? = es[p]? := by
  rw [List.getElem?_set_ne (fun q => hb q.symm), List.getElem?_append_left hp]
theorem x_Mod_l (es : List am_E) (b : Nat) : (x_Mod es b).length = es.length + 8 := by
  unfold x_Mod
  rw [nx_l, nx_l, nx_l, nx_l, nx_l, nx_l, nx_l, nx_l]
theorem x_Mod_p {es : List am_E} {b p : Nat} (hp : p < es.length) (hb : p ≠ b) : (x_Mod es b)[p]? = es[p]? := by
  unfold x_Mod
  rw [nx_p (by simp only [nx_l]; omega) hb, nx_p (by simp only [nx_l]; omega) hb, nx_p (by simp only [nx_l]; omega) hb, nx_p (by simp only [nx_l]; omega) hb, nx_p (by simp only [nx_l]; omega) hb, nx_p (by simp only [nx_l]; omega) hb, nx_p (by simp only [nx_l]; omega) hb, nx_p hp hb]
section EM
variable {M : am_M} {d mc ms : Nat} {SC : Option (Nat × (Nat → Int32))} {Q : Option am_V → Nat → am_H → Prop} {pc : Nat} {L : Nat → Option am_V} {rest : List am_V} {es : List am_E} {uc us : Nat}
abbrev aM (N : Nat) (g : Nat → Option Nat) : am_E := .inl (2, N, .inr g)
theorem l_anew {N index : Nat} {x : Int32} (hd : decode M.2.2.1 pc = .ok (.anewarray index, 3)) (hcl : Cond.classLink M.1 index "SpanLinker$SourceModule" ∈ am_all) (hx : x = nI N) (hN : N ≤ 1000) (hcc : uc + 1 ≤ mc) (hss : us + N ≤ ms) (hk : okl es) (hL : okL es.length L rest) (hsp : es.length < am_SP) (kk : am_L M d mc ms SC Q (pc + 3) L (vR es.length :: rest) (es ++ [aM N (fun _ => none)]) (uc + 1) (us + N)) : am_L M d mc ms SC Q pc L (vI x :: rest) es uc us := by
  subst hx
  refine i_anew (N := N) hd hcl (fun p R s m args meth c D tc A F => F.2.2.2.2.2.1.2.2.1) (nI_pos (by omega)) (nI_clamp (by omega)) (by omega) hcc hss ⟨hk.at, hL.1, hL.2, hsp⟩ ?_
  rw [hl_app]
  have := kk
  unfold am_L at this
  rw [List.length_append, List.length_singleton] at this
  exact this
theorem l_aast {b N y j : Nat} {g : Nat → Option Nat} {i : Int32} {fs : List am_V} (hd : decode M.2.2.1 pc = .ok (.aastore, 1)) (ho : es[b]? = some (aM N g)) (hoy : es[y]? = some (oE 1 fs)) (hi : i = nI j) (hj : j < N) (hN : N ≤ 1000) (kk : am_L M d mc ms SC Q (pc + 1) L rest (es.set b (aM N (va_up g j (some y)))) uc us) : am_L M d mc ms SC Q pc L (vR y :: vI i :: vR b :: rest) es uc us := by
  subst hi
  have hb : b < es.length := (List.getElem?_eq_some_iff.mp ho).1
  have hy : y < es.length := (List.getElem?_eq_some_iff.mp hoy).1
  refine i_aast (N := N) (ci := 1) hd hb (hl_at ho) hy (hl_at hoy) rfl (vp_in_nI hj (by omega)) ?_
  rw [nI_clamp (by omega), hl_set es _ hb]
  have := kk
  unfold am_L at this
  rw [List.length_set] at this
  exact this
end EM
