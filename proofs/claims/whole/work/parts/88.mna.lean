-- int[6][3]
theorem mo_c (c : ClassId) (N h0 : Nat) : ∀ i : Nat, Jvm.Free.Multi.outerC c N h0 i = arrV c N (fun j => va_rf (if j < i then some (h0 + 1 + j) else none))
  | 0 => by
    show ({ cls := c, slots := Array.replicate N .null, vm := .none } : Cell) = _
    rw [arrV_new]
    exact congrArg (arrV c N) (funext fun j => by rw [if_neg (Nat.not_lt_zero j)]; rfl)
  | i + 1 => by
    unfold Jvm.Free.Multi.outerC
    rw [mo_c c N h0 i, arrV_store]
    refine congrArg (arrV c N) (funext fun j => ?_)
    unfold updV
    by_cases e : j = i
    · rw [if_pos e, if_pos (show j < i + 1 by omega), e]
      rfl
    · rw [if_neg e]
      show va_rf (if j < i then some (h0 + 1 + j) else none) = va_rf (if j < i + 1 then some (h0 + 1 + j) else none)
      by_cases h : j < i
      · rw [if_pos h, if_pos (show j < i + 1 by omega)]
      · rw [if_neg h, if_neg (show ¬ j < i + 1 by omega)]
abbrev aG (n : Nat) : am_E := .inl (3, 6, .inr (fun i => if i < 6 then some (n + 1 + i) else none))
def x_G (es : List am_E) : List am_E := es ++ (aG es.length :: List.replicate 6 (aI 3))
theorem x_G_l (es : List am_E) : (x_G es).length = es.length + 7 := by
  unfold x_G
  rw [List.length_append]
  rfl
theorem x_G_p {es : List am_E} {p : Nat} (hp : p < es.length) : hl (x_G es) p = hl es p := by
  unfold x_G hl
  rw [List.getD_eq_getElem?_getD, List.getD_eq_getElem?_getD, List.getElem?_append_left hp]
theorem x_G_0 (es : List am_E) : hl (x_G es) es.length = aG es.length := hl_at (by
  unfold x_G
  rw [List.getElem?_append_right (Nat.le_refl _), Nat.sub_self]
  rfl)
theorem x_G_s (es : List am_E) {j : Nat} (hj : j < 6) : hl (x_G es) (es.length + 1 + j) = aI 3 := hl_at (by
  unfold x_G
  rw [List.getElem?_append_right (by omega), show es.length + 1 + j - es.length = j + 1 by omega, List.getElem?_cons_succ, List.getElem?_replicate, if_pos hj])
theorem x_G_k {es : List am_E} (hk : okl es) : okl (x_G es) := fun e he => by
  rw [x_G_l]
  rcases List.mem_append.mp he with q | q
  · exact (hk e q).mono (by omega)
  · rcases List.mem_cons.mp q with q | q
    · rw [q]
      intro i k z
      replace z : (if i < 6 then some (es.length + 1 + i) else none) = some k := z
      by_cases h6 : i < 6
      · rw [if_pos h6] at z; cases z; omega
      · rw [if_neg h6] at z; cases z
    · rw [(List.mem_replicate.mp q).2]; exact trivial
section MN
variable {M : am_M} {d mc ms : Nat} {SC : Option (Nat × (Nat → Int32))} {Q : Option am_V → Nat → am_H → Prop} {pc : Nat} {L : Nat → Option am_V} {rest : List am_V} {es : List am_E} {uc us : Nat}
theorem l_mna {index : Nat} (hd : decode M.2.2.1 pc = .ok (.multianewarray index 2, 4)) (hcl : Cond.classLink M.1 index "[[I" ∈ am_all) (harr : Cond.arrayClass .int ∈ am_all) (hcc : uc + 7 ≤ mc) (hss : us + 24 ≤ ms) (hk : okl es) (hL : okL es.length L rest) (hsp : es.length + 7 < am_SP) (kk : am_L M d mc ms SC Q (pc + 4) L (vR es.length :: rest) (x_G es) (uc + 7) (us + 24)) : am_L M d mc ms SC Q pc L (vI (nI 3) :: vI (nI 6) :: rest) es uc us := by
  intro p l e R s m args below meth c D tc A Qm ad H locs ls F X hP hD hS hl' hret T hT XX
  have F2 := F
  obtain ⟨⟨hx, hbb, hml, hown, hts⟩, -, -, -, hR, hK, hA⟩ := F2
  obtain ⟨hR1, hR2, hR3, hR4⟩ := hR
  subst hR2; subst hR3
  obtain ⟨vm₁, cA, comp, -, fA, fC, hO, -, X', step⟩ := XX.multianewarray2F (ty := .int) hx hown (hts _ hcl) (show (Cond.arrayOver (.array .int)).before args s = true from hK.2.2.2) (hts _ harr) (g := F0 m pc ls (.int (nI 3) :: .int (nI 6) :: rest.map (am_cv ad))) rfl (by rw [hbb]; exact hd) rfl (by decide) (by decide) (by decide) (by decide) (by decide) rfl rfl (by show uc + (1 + 6) ≤ R.cells; omega) (by show us + (6 + 6 * 3) ≤ R.slots; omega)
  have hcA : cA = tc 3 := Option.some.inj (fA.symm.trans (hK.1.2 3 (tc 3, .array .int) rfl).2)
  have hcm : comp = tc 0 := Option.some.inj (fC.symm.trans (hK.1.2 0 (tc 0, .int) rfl).2)
  subst hcA; subst hcm
  have h6 : (nI 6).toNatClampNeg = 6 := by decide
  have h3 : (nI 3).toNatClampNeg = 3 := by decide
  rw [h6, h3] at X' step
  generalize hF : Jvm.Free.Multi.fill (T.setVm vm₁) (tc 3) (tc 0) 6 3 (defaultValue .int) 6 = Fs at X' step
  have hTh : (T.setVm vm₁).heap = H := hT
  obtain ⟨f1, f2, -, -⟩ := Jvm.Free.Multi.fill_facts (T.setVm vm₁) (tc 3) (tc 0) 6 3 (defaultValue .int) 6
  rw [hF, hTh] at f1 f2
  rw [mo_c] at f2
  have hold : ∀ x : Nat, x < H.size → Fs.heap[x]? = H[x]? := fun x hx => by
    have := Jvm.Free.Multi.fill_old (T.setVm vm₁) (tc 3) (tc 0) 6 3 (defaultValue .int) (a := x) (by rw [hTh]; exact hx) 6
    rw [hF, hTh] at this
    exact this
  have hrow : ∀ j : Nat, j < 6 → Fs.heap[H.size + 1 + j]? = some (Jvm.Free.Multi.innerC (tc 0) 3 (defaultValue .int)) := fun j hj => by
    have := Jvm.Free.Multi.fill_inner (T.setVm vm₁) (tc 3) (tc 0) 6 3 (defaultValue .int) 6 j hj
    rw [hF, hTh] at this
    exact this
  have hin : Jvm.Free.Multi.innerC (tc 0) 3 (defaultValue .int) = vp_cell (tc 0) (3, .inl (fun _ => 0)) := by
    rw [vp_cell_i]
    exact arrV_new _ _ _
  let ad' : Nat → Nat := fun k => if es.length ≤ k ∧ k < es.length + 7 then H.size + (k - es.length) else ad k
  have ho : ∀ k, k < es.length ∨ es.length + 7 ≤ k → ad' k = ad k := fun k hk => if_neg (by omega)
  have hn : ∀ j, j < 7 → ad' (es.length + j) = H.size + j := fun j hj => by
    show (if _ then _ else _) = _
    rw [if_pos ⟨by omega, by omega⟩]
    omega
  have hlt : ∀ k, k < es.length → ad k < H.size := fun k hk => (hP k _ (am_get hk rfl)).lt
  have hP1 : va_P D classes (am_ws tc ad' (x_G es).length (hl (x_G es))) Fs.heap := fun k q hq => by
    have hk7 : k < (x_G es).length := by
      have := (List.getElem?_eq_some_iff.mp hq).1
      rw [am_len] at this
      exact this
    rw [am_get hk7 rfl] at hq
    cases hq
    rw [x_G_l] at hk7
    by_cases h1 : k < es.length
    · rw [x_G_p h1, ho k (Or.inl h1), am_ce_congr (ad := ad) (fun j hj => ho j (Or.inl hj)) (hk.at k h1)]
      exact (hP k _ (am_get h1 rfl)).kept (hold _ (hlt k h1))
    · by_cases h2 : k = es.length
      · subst h2
        rw [x_G_0, show ad' es.length = H.size from hn 0 (by decide)]
        show Fs.heap[H.size]? = some (vp_cell (tc 3) (6, .inr (.inr (.inr (.inr (fun i => (if i < 6 then some (es.length + 1 + i) else none).map ad'))))))
        rw [f2, vp_cell_q]
        refine congrArg some (congrArg (arrV (tc 3) 6) (funext fun j => congrArg va_rf ?_))
        by_cases hj : j < 6
        · rw [if_pos hj, if_pos hj]
          show some _ = some (ad' (es.length + 1 + j))
          rw [show es.length + 1 + j = es.length + (1 + j) by omega, hn (1 + j) (by omega), ← Nat.add_assoc]
        · rw [if_neg hj, if_neg hj]; rfl
      · obtain ⟨j, hj, rfl⟩ : ∃ j, j < 6 ∧ k = es.length + 1 + j := ⟨k - es.length - 1, by omega, by omega⟩
        rw [x_G_s es hj, show ad' (es.length + 1 + j) = H.size + 1 + j by rw [show es.length + 1 + j = es.length + (1 + j) by omega, hn (1 + j) (by omega), ← Nat.add_assoc]]
        show Fs.heap[H.size + 1 + j]? = some (vp_cell (tc 0) (3, .inl (fun _ => 0)))
        rw [hrow j hj, hin]
  have hget : ∀ (k : Nat) (q : Nat × va_E), (am_ws tc ad' (x_G es).length (hl (x_G es)))[k]? = some q → k < es.length + 7 ∧ q.1 = ad' k := fun k q hq => by
    have hk7 : k < (x_G es).length := by
      have := (List.getElem?_eq_some_iff.mp hq).1
      rw [am_len] at this
      exact this
    rw [am_get hk7 rfl] at hq
    cases hq
    rw [x_G_l] at hk7
    exact ⟨hk7, rfl⟩
  have hD1 : va_D A (am_ws tc ad' (x_G es).length (hl (x_G es))) := by
    refine ⟨fun i j a b hi hj hab => ?_, fun k q hq => ?_⟩
    · obtain ⟨i7, ei⟩ := hget i a hi
      obtain ⟨j7, ej⟩ := hget j b hj
      rw [ei, ej] at hab
      by_cases h1 : i < es.length <;> by_cases h2 : j < es.length
      · rw [ho i (Or.inl h1), ho j (Or.inl h2)] at hab
        exact hD.1 i j _ _ (am_get h1 rfl) (am_get h2 rfl) hab
      · have e2 := hn (j - es.length) (by omega)
        rw [show es.length + (j - es.length) = j by omega] at e2
        rw [ho i (Or.inl h1), e2] at hab
        have := hlt i h1
        omega
      · have e2 := hn (i - es.length) (by omega)
        rw [show es.length + (i - es.length) = i by omega] at e2
        rw [ho j (Or.inl h2), e2] at hab
        have := hlt j h2
        omega
      · have e2 := hn (i - es.length) (by omega)
        have e3 := hn (j - es.length) (by omega)
        rw [show es.length + (i - es.length) = i by omega] at e2
        rw [show es.length + (j - es.length) = j by omega] at e3
        omega
    · obtain ⟨k7, ek⟩ := hget k q hq
      rw [ek]
      by_cases h1 : k < es.length
      · rw [ho k (Or.inl h1)]
        exact hD.2 k _ (am_get h1 rfl)
      · have e2 := hn (k - es.length) (by omega)
        rw [show es.length + (k - es.length) = k by omega] at e2
        rw [e2]
        exact hA _ (by have := hS.1; omega)
  have hcv : ∀ v : am_V, (∀ k, v = vR k → k < es.length ∨ k = am_SP) → am_cv ad' v = am_cv ad v := by
    intro v hv
    rcases v with x | r
    · rfl
    · cases r with
      | none => rfl
      | some k =>
        show Value.ref (ad' k) = Value.ref (ad k)
        rw [ho k (by rcases hv k rfl with h1 | h1 <;> omega)]
  have hX' : am_X SC ad' A s := fun L0 xs hs9 => by
    rw [ho am_SP (Or.inr (by omega))]
    exact X L0 xs hs9
  obtain ⟨t, a1, b1⟩ := kk p l e _ s m args below meth c D tc A Qm ad' Fs.heap locs ls F hX' hP1 hD1 ⟨by rw [f1]; have := hS.1; omega, fun x h1 h2 => (hold x (Nat.lt_of_lt_of_le h1 hS.1)).trans (hS.2.1 x h1 h2), hS.2.2⟩ (hl'.re (fun i v hv => hcv v (fun k e9 => hL.1 i k (by rw [hv, e9]))))
    (fun v2 n2 h2 ad2 H2 locs2 ls2 pc2 q1 q2 q3 => hret v2 n2 h2 ad2 H2 locs2 ls2 pc2 q1 (by rw [x_G_l] at q2; omega) (fun k hk9 => by
      rw [x_G_l] at q2 q3
      rw [q3 k (by omega)]
      exact ho k (by omega))) Fs rfl X'
  refine ⟨t, step t ?_, b1⟩
  have e1 : T.heap.size = H.size := by rw [hT]
  rw [e1]
  have est : (vR es.length :: rest).map (am_cv ad') = .ref H.size :: rest.map (am_cv ad) := by
    rw [List.map_cons, List.map_congr_left (fun v hv => hcv v (fun k e9 => hL.2 k (e9 ▸ hv)))]
    show Value.ref (ad' es.length) :: _ = _
    rw [show ad' es.length = H.size from hn 0 (by decide)]
  rw [est] at a1
  exact a1
end MN
