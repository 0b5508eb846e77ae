-- the heap while it grows: a list of cells
def hl (es : List am_E) : am_H := fun p => es.getD p (.inl (0, 0, .inl (fun _ => 0)))
theorem hl_at {es : List am_E} {p : Nat} {e : am_E} (h : es[p]? = some e) : hl es p = e := by
  unfold hl
  rw [List.getD_eq_getElem?_getD, h]
  rfl
theorem hl_app (es : List am_E) (e : am_E) : va_up (hl es) es.length e = hl (es ++ [e]) := funext fun p => by
  by_cases q : p = es.length
  · subst q
    rw [va_up_self, hl_at (by rw [List.getElem?_append_right (Nat.le_refl _), Nat.sub_self]; rfl)]
  · rw [va_up_ne _ _ q]
    unfold hl
    rw [List.getD_eq_getElem?_getD, List.getD_eq_getElem?_getD]
    by_cases z : p < es.length
    · rw [List.getElem?_append_left z]
    · rw [List.getElem?_eq_none (by omega), List.getElem?_eq_none (by rw [List.length_append, List.length_singleton]; omega)]
theorem hl_set (es : List am_E) {b : Nat} (e : am_E) (hb : b < es.length) : va_up (hl es) b e = hl (es.set b e) := funext fun p => by
  by_cases q : p = b
  · subst q
    rw [va_up_self, hl_at (List.getElem?_set_self hb)]
  · rw [va_up_ne _ _ q]
    unfold hl
    rw [List.getD_eq_getElem?_getD, List.getD_eq_getElem?_getD, List.getElem?_set_ne (fun z => q z.symm)]
theorem am_okv.mono {n n' : Nat} {v : am_V} (h : am_okv n v) (hn : n ≤ n') : am_okv n' v := by
  rcases v with x | r
  · exact trivial
  · cases r with
    | none => exact trivial
    | some k => exact Nat.lt_of_lt_of_le h hn
theorem am_oke.mono {n n' : Nat} {e : am_E} (h : am_oke n e) (hn : n ≤ n') : am_oke n' e := by
  rcases e with ⟨t, N, f | g⟩ | ⟨ci, fs⟩
  · exact trivial
  · exact fun i k q => Nat.lt_of_lt_of_le (h i k q) hn
  · exact fun v hv => (h v hv).mono hn
def okl (es : List am_E) : Prop := ∀ e ∈ es, am_oke es.length e
theorem okl.at {es : List am_E} (h : okl es) : ∀ k, k < es.length → am_oke es.length (hl es k) := fun k hk => by
  rw [hl_at (List.getElem?_eq_getElem hk)]
  exact h _ (List.getElem_mem hk)
theorem okl.app {es : List am_E} {e : am_E} (h : okl es) (he : am_oke (es.length + 1) e) : okl (es ++ [e]) := fun x hx => by
  rw [List.length_append, List.length_singleton]
  rcases List.mem_append.mp hx with q | q
  · exact (h x q).mono (Nat.le_succ _)
  · rw [List.mem_singleton.mp q]; exact he
theorem okl.set {es : List am_E} {b : Nat} {e : am_E} (h : okl es) (he : am_oke es.length e) : okl (es.set b e) := fun x hx => by
  rw [List.length_set]
  rcases List.mem_or_eq_of_mem_set hx with q | q
  · exact h x q
  · rw [q]; exact he
/-- references that stand in the locals and on the stack -/
def okL (n : Nat) (L : Nat → Option am_V) (rest : List am_V) : Prop := (∀ i k, L i = some (vR k) → k < n ∨ k = am_SP) ∧ (∀ k, vR k ∈ rest → k < n ∨ k = am_SP)
abbrev am_L (M : am_M) (d mc ms : Nat) (SC : Option (Nat × (Nat → Int32))) (Q : Option am_V → Nat → am_H → Prop) (pc : Nat) (L : Nat → Option am_V) (st : List am_V) (es : List am_E) (uc us : Nat) : Prop := am_AW M d mc ms SC Q pc L st es.length (hl es) uc us
section LS
variable {M : am_M} {d mc ms : Nat} {SC : Option (Nat × (Nat → Int32))} {Q : Option am_V → Nat → am_H → Prop} {pc : Nat} {L : Nat → Option am_V} {rest : List am_V} {es : List am_E} {uc us : Nat}
theorem l_newi {N : Nat} {x : Int32} (hd : decode M.2.2.1 pc = .ok (.newarray .int, 2)) (hw : Cond.arrayClass .int ∈ am_all) (hx : x = nI N) (hN : N ≤ 1000) (hcc : uc + 1 ≤ mc) (hss : us + N ≤ ms) (hk : okl es) (hL : okL es.length L rest) (hsp : es.length < am_SP) (kk : am_L M d mc ms SC Q (pc + 2) L (vR es.length :: rest) (es ++ [.inl (0, N, .inl (fun _ => 0))]) (uc + 1) (us + N)) : am_L M d mc ms SC Q pc L (vI x :: rest) es uc us := by
  subst hx
  refine i_newa (t := 0) (N := N) (ty := .int) hd rfl (fun tc => rfl) (fun U cA h => h) rfl hw (nI_pos (by omega)) (nI_clamp (by omega)) (by show N * 4 ≤ _; omega) hcc hss ⟨hk.at, hL.1, hL.2, hsp⟩ ?_
  rw [hl_app]
  have := kk
  unfold am_L at this
  rw [List.length_append, List.length_singleton] at this
  exact this
theorem l_newz {N : Nat} {x : Int32} (hd : decode M.2.2.1 pc = .ok (.newarray .boolean, 2)) (hw : Cond.arrayClass .boolean ∈ am_all) (hx : x = nI N) (hN : N ≤ 1000) (hcc : uc + 1 ≤ mc) (hss : us + N ≤ ms) (hk : okl es) (hL : okL es.length L rest) (hsp : es.length < am_SP) (kk : am_L M d mc ms SC Q (pc + 2) L (vR es.length :: rest) (es ++ [.inl (1, N, .inl (fun _ => 0))]) (uc + 1) (us + N)) : am_L M d mc ms SC Q pc L (vI x :: rest) es uc us := by
  subst hx
  refine i_newa (t := 1) (N := N) (ty := .boolean) hd rfl (fun tc => rfl) (fun U cA h => h) rfl hw (nI_pos (by omega)) (nI_clamp (by omega)) (by show N * 1 ≤ _; omega) hcc hss ⟨hk.at, hL.1, hL.2, hsp⟩ ?_
  rw [hl_app]
  have := kk
  unfold am_L at this
  rw [List.length_append, List.length_singleton] at this
  exact this
theorem l_putR {C : String} {T : u_T} {N ci index b k y : Nat} {fs : List am_V} {ty : FieldType} (ty0 : Nat → FieldType) (hty : ∀ k, k < N → parseFieldDescriptor (T k).2.2.1 = some (ty0 k)) (hnm : ∀ a, a < N → ∀ b, b < N → a ≠ b → (T a).2.1 ≠ (T b).2.1) (hd : decode M.2.2.1 pc = .ok (.putfield index, 3)) (hc : classes[ci]? = some (C, T, N)) (hin : ∀ w ∈ u_ws C T N, w ∈ am_all) (hk : k < N) (hlk : Cond.fieldLink M.1 index (T k).1 (T k).2.1 (T k).2.2.1 ∈ am_all) (hfin : (T k).2.2.2 = true) (hini : M.2.1.name = "<init>") (hdcl : (T k).1 = M.1) (ho : es[b]? = some (.inr (ci, fs))) (hl0 : k < fs.length) (hpd : parseFieldDescriptor (T k).2.2.1 = some ty) (hnr : ∀ a, narrow ty (.ref a) = .ref a) (hft : ∀ a, fits ty (.ref a) = true) (kk : am_L M d mc ms SC Q (pc + 3) L rest (es.set b (.inr (ci, fs.set k (vR y)))) uc us) : am_L M d mc ms SC Q pc L (vR y :: vR b :: rest) es uc us := by
  have hb : b < es.length := (List.getElem?_eq_some_iff.mp ho).1
  refine i_putF ty0 hty hnm hd hc hin hk hlk hfin hini hdcl hb (hl_at ho) hl0 hpd (fun ad => hnr _) (fun ad => hft _) ?_
  rw [hl_set es _ hb]
  have := kk
  unfold am_L at this
  rw [List.length_set] at this
  exact this
end LS
