-- a method out of its walk; calls
theorem am_met {M : am_M} {d mc ms : Nat} {av : List am_V} {n : Nat} {h : am_H} {Q : Option am_V → Nat → am_H → Prop} (hy : plainName M.2.1.cls = true) (how : M.1 = M.2.1.cls) (hlen : av.length ≤ M.2.2.2.1)
    (hw : am_AW M d mc ms none Q 0 (fun i => av[i]?) [] n h 0 0) : am_AM M d mc ms av n h Q := by
  intro l D tc ad sz
  refine Met.ofW (cc := M.2.2.1) (maxL := M.2.2.2.1) (ret := M.2.2.2.2) hy rfl ?_
  intro p e s m args below meth c s₁ B hml hv
  obtain ⟨rfl, hsz, hP, hK, hD0⟩ := hv
  have hx := B.exec
  have hb := B.bytes
  have hr := B.returns
  have hts := atoms_spec (ws := am_w M) B.pre
  have hown : s.vm.findClass M.1 = some m.cls := by rw [how]; exact findClass_of_methodNamed B.named
  have hlk : meth.locks = false := B.notSynchronized
  have hin : meth.name = M.2.1.name := (name_of_methodNamed B.named B.method).1
  subst hsz
  have hD := hD0.self (sz := s.heap.size)
  generalize hAe : va_A (am_ws tc ad n h) s.heap.size = A at hD ⊢
  have hA : ∀ q : Nat, s.heap.size ≤ q → A q := fun q h => by rw [← hAe]; exact Or.inr h
  have hl := lv_entry (av.map (am_cv ad)) (n := M.2.2.2.1) (by rw [am_sl]; exact hlen)
  rw [lg_entry_eq]
  generalize (lg_sl (av.map (am_cv ad)) ++ List.replicate (M.2.2.2.1 - (lg_sl (av.map (am_cv ad))).length) Slot.unset).toArray = ls at hl ⊢
  have hl := am_entry hl
  refine hw p l e _ s m _ below meth c D tc A _ ad s.heap [] ls ⟨⟨hx, hb, hml, hown, fun w h => hts w (List.mem_cons_of_mem _ h)⟩, hr, hlk, fun e => hin.trans e, ⟨Nat.le_refl _, rfl, rfl, Nat.le_refl _⟩, hK, hA⟩ (fun _ _ q => by cases q) hP hD va_S.rf hl ?_
  intro v n' h' ad' H' locs' ls' pc' hQ hnn hag hP' hD' hS' hrd
  rcases hrd with ⟨hd, x, ty, rfl, hty, hn⟩ | ⟨hd, rfl, hty⟩ | ⟨hd, k, ty, rfl, hty, hrt⟩
  · exact W.zret hx hb (hr.trans hty) hn (fun t ht hW => ⟨⟨some (vI x), n', h', ad', rfl, hQ, hnn, hag, by rw [ht]; exact hP', hD'⟩, hS'.F ht⟩) hS'.2.2 hd hlk
  · exact W.vret hx hb (hr.trans hty) (fun t ht hW => ⟨⟨none, n', h', ad', rfl, hQ, hnn, hag, by rw [ht]; exact hP', hD'⟩, hS'.F ht⟩) hS'.2.2 hd hlk
  · exact W.aret hx hb (hr.trans hty) hrt (Or.inr ⟨_, rfl⟩) (fun t ht hW => ⟨⟨some (vR k), n', h', ad', rfl, hQ, hnn, hag, by rw [ht]; exact hP', hD'⟩, hS'.F ht⟩) hS'.2.2 hd hlk
-- what am_K needs to go into a callee
theorem am_AOA.moved {u U : State} (hvm : u.vm.Alike U.vm) (h : am_AOA u) : am_AOA U := by
  obtain ⟨comp, c, k, h1, h2, h3, h4, h5⟩ := arrayOverA_spec h
  obtain ⟨k', hk', he⟩ := hvm.2.2 _ _ h3
  have hkind : k'.kind = .array comp (.array .int) := by rw [he]; exact h4
  have f1 : U.vm.findClass (FieldType.array .int).toString = some comp := by rw [hvm.findClass]; exact h1
  have f2 : U.vm.findClass ("[" ++ (FieldType.array .int).toString) = some c := by rw [hvm.findClass]; exact h5
  rw [← hvm.findIdx?_eq _ (fun _ => rfl)] at h2
  unfold am_AOA Cond.before Cond.holds
  simp only [Cond.value]
  rw [f1, Option.bind_some]
  refine (congrArg (fun o : Option Nat => (o.bind (fun c => (U.vm.classes[c]?).map fun (k : Class) => match k.kind with | .array _ ty => decide (ty = FieldType.array .int) && decide (U.vm.findClass ("[" ++ (FieldType.array .int).toString) = some c) | _ => false) == some true)) h2).trans ?_
  simp [hk', hkind, f2]
-- am_nest is am_nl.map (fun q => Cond.methodLinkNest q.1 q.2.1 q.2.2.1 q.2.2.2)
theorem am_K.warm {D : va_G} {tc : Nat → ClassId} {s U : State} (hW : s.WarmedH U.vm) (hK : am_K D tc s) : am_K D tc U := ⟨va_K.moved hW.alike hK.1, fun w hw => by
  obtain ⟨q, -, rfl⟩ := List.mem_map.mp hw
  exact va_Nw.warmM hW (hK.2.1 _ hw), va_AO.moved hW.alike hK.2.2.1, am_AOA.moved hW.alike hK.2.2.2⟩
theorem am_K.calling {D : va_G} {tc : Nat → ClassId} {U : State} {g : JFrame} {mk : MethodId} {a : Array Value} (hK : am_K D tc U) : am_K D tc (U.calling g mk a) := ⟨va_K.moved (u := U) (U := U.calling g mk a) (Vm.Alike.refl U.vm) hK.1, fun w hw => by
  obtain ⟨q, -, rfl⟩ := List.mem_map.mp hw
  exact va_Nw.same (u := U) (U := U.calling g mk a) rfl rfl (hK.2.1 _ hw), va_AO.moved (u := U) (U := U.calling g mk a) (Vm.Alike.refl U.vm) hK.2.2.1, am_AOA.moved (u := U) (U := U.calling g mk a) (Vm.Alike.refl U.vm) hK.2.2.2⟩
-- names known before a call are still names of the same cells behind it
def am_sc (n : Nat) (L : Nat → Option am_V) (rest : List am_V) (n' : Nat) : Prop := (∀ ad ad' : Nat → Nat, n ≤ n' → (∀ k, k < n ∨ n' ≤ k → ad' k = ad k) → (∀ i v, L i = some v → am_cv ad' v = am_cv ad v) ∧ rest.map (am_cv ad') = rest.map (am_cv ad)) ∧ n' ≤ am_SP
theorem am_sc.same {n : Nat} {L : Nat → Option am_V} {rest : List am_V} (hn : n ≤ am_SP) : am_sc n L rest n := ⟨fun ad ad' _ hag => by
  have e : ad' = ad := funext fun k => hag k (by omega)
  subst e
  exact ⟨fun _ _ _ => rfl, rfl⟩, hn⟩
theorem am_sc.of {n n' : Nat} {L : Nat → Option am_V} {rest : List am_V} (hL : ∀ i k, L i = some (vR k) → k < n ∨ k = am_SP) (hr : ∀ k, vR k ∈ rest → k < n ∨ k = am_SP) (hn : n' ≤ am_SP) : am_sc n L rest n' := by
  have key : ∀ ad ad' : Nat → Nat, (∀ k, k < n ∨ n' ≤ k → ad' k = ad k) → ∀ v : am_V, (∀ k, v = vR k → k < n ∨ k = am_SP) → am_cv ad' v = am_cv ad v := by
    intro ad ad' hag v hv
    rcases v with x | r
    · rfl
    · cases r with
      | none => rfl
      | some k =>
        show Value.ref (ad' k) = Value.ref (ad k)
        rw [hag k]
        rcases hv k rfl with h1 | h1
        · exact Or.inl h1
        · exact Or.inr (by rw [h1]; exact hn)
  exact ⟨fun ad ad' _ hag => ⟨fun i v hv => key ad ad' hag v (fun k e => hL i k (by rw [hv, e])), List.map_congr_left fun v hv => key ad ad' hag v (fun k e => hr k (e ▸ hv))⟩, hn⟩
theorem am_has.re {ls : Array Slot} {nL : Nat} {ad ad' : Nat → Nat} {L : Nat → Option am_V} (h : am_has ls nL ad L) (he : ∀ i v, L i = some v → am_cv ad' v = am_cv ad v) : am_has ls nL ad' L := ⟨h.1, h.2.1, fun i v hv => by rw [he i v hv]; exact h.2.2 i v hv⟩
def am_Qa (tc : Nat → ClassId) (D : va_G) (ad : Nat → Nat) (n : Nat) (h : am_H) (sz : Nat) (Q' : Option am_V → Nat → am_H → Prop) (st : State) (oc : Outcome) (t : State) : Prop :=
  (∃ (v : Option am_V) (n' : Nat) (h' : am_H) (ad' : Nat → Nat), oc = .returned (v.map (am_cv ad')) ∧ Q' v n' h' ∧ n ≤ n' ∧ (∀ k, k < n ∨ n' ≤ k → ad' k = ad k) ∧ va_P D classes (am_ws tc ad' n' h') t.heap ∧ va_D (va_A (am_ws tc ad n h) sz) (am_ws tc ad' n' h')) ∧ va_F (va_A (am_ws tc ad n h) sz) st t
section AC
variable {M M' : am_M} {d mc ms d' mc' ms' : Nat} {SC : Option (Nat × (Nat → Int32))} {Q Q' : Option am_V → Nat → am_H → Prop} {pc : Nat} {L : Nat → Option am_V} {rest st av : List am_V} {n : Nat} {h : am_H} {uc us : Nat}
/-- the part that all calls share; hr: the kit's run of the callee -/
theorem am_call (hsc : ∀ v n' h', Q' v n' h' → am_sc n L rest n')
    (hr : ∀ (p : Program) (l : Launch) (e : Env) (R : Room) (s : State) (m : MethodId) (args : Array Value) (below : List Frame) (meth : Method) (c : Code) (D : va_G) (tc : Nat → ClassId) (A : Nat → Prop) (ad : Nat → Nat) (H : Heap) (locs : List Loc) (ls : Array Slot),
      am_F M d mc ms p R s m args meth c D tc A → va_P D classes (am_ws tc ad n h) H → va_D A (am_ws tc ad n h) → va_S A s.heap H locs → am_has ls M.2.2.2.1 ad L →
      va_Run p l e R s m args below meth c H locs uc us mc' ms' (F0 m pc ls (st.map (am_cv ad))) (rest.map (am_cv ad)) (am_Qa tc D ad n h H.size Q') (va_A (am_ws tc ad n h) H.size))
    (kk : ∀ v n' h', Q' v n' h' → n ≤ n' → am_AW M d mc ms SC Q (pc + 3) L (v.toList ++ rest) n' h' (uc + mc') (us + ms')) : am_AW M d mc ms SC Q pc L st n h uc us := by
  intro p l e R s m args below meth c D tc A Qm ad H locs ls F X hP hD hS hl hret T hT XX
  obtain ⟨v, st₀, t, T', Lc, h0, X', hL, e1, e2, ⟨⟨w, n', h', ad', hv, hQ, hnn, hag, hP1, hD1⟩, hz, hk⟩, stp⟩ := hr p l e R s m args below meth c D tc A ad H locs ls F hP hD hS hl T hT XX
  have hv : v = w.map (am_cv ad') := by cases hv; rfl
  subst hv
  rw [h0] at hz hk
  have hfr : ∀ q, va_A (am_ws tc ad n h) H.size q → A q := fun q hq => by
    rcases hq with ⟨k, e0, hk0⟩ | hq
    · exact hD.2 k _ hk0
    · exact F.2.2.2.2.2.2 q (Nat.le_trans hS.1 hq)
  obtain ⟨hsc1, hsc2⟩ := hsc w n' h' hQ
  obtain ⟨hLe, hRe⟩ := hsc1 ad ad' hnn hag
  have hS1 : va_S A s.heap T'.heap (locs ++ Lc) := ⟨Nat.le_trans hS.1 (by rw [e1]; exact hz), fun q h1 h2 => by
      rw [e1, hk q (Nat.lt_of_lt_of_le h1 hS.1) (fun z => h2 (hfr q z))]
      exact hS.2.1 q h1 h2, fun q hq => by
      rcases List.mem_append.mp hq with h9 | h9
      · exact hS.2.2 q h9
      · exact hfr _ (hL q h9)⟩
  have hX1 : am_X SC ad' A s := fun L0 xs hs => by
    rw [hag am_SP (Or.inr hsc2)]
    exact X L0 xs hs
  obtain ⟨t2, a1, b1⟩ := kk w n' h' hQ hnn p l e R s m args below meth c D tc A Qm ad' T'.heap (locs ++ Lc) ls F hX1 (by rw [e1]; exact hP1) (hD1.weaken (fun _ _ _ z => hfr _ z)) hS1 (hl.re hLe)
    (fun v2 n2 h2 ad2 H2 locs2 ls2 pc2 q1 q2 q3 => hret v2 n2 h2 ad2 H2 locs2 ls2 pc2 q1 (Nat.le_trans hnn q2) (fun k hk9 => by
      rw [q3 k (hk9.imp (fun z => Nat.lt_of_lt_of_le z hnn) id)]
      exact hag k (hk9.imp id (fun z => Nat.le_trans q2 z)))) T' rfl X'
  refine ⟨t2, stp t2 ?_, b1⟩
  have e3 : (w.toList ++ rest).map (am_cv ad') = (w.map (am_cv ad')).toList ++ rest.map (am_cv ad) := by
    rw [List.map_append, hRe]
    cases w <;> rfl
  rw [e3] at a1
  exact a1
theorem am_cats (ad : Nat → Nat) (l : List am_V) : ((l.map (am_cv ad)).map fun v => v.category).sum = l.length := by
  induction l with
  | nil => rfl
  | cons v t ih =>
    simp only [List.map_cons, List.sum_cons, List.length_cons, am_cv_cat, ih]
    omega
theorem am_cvs_rev (ad : Nat → Nat) (As : List am_V) (b : Nat) (rest : List am_V) : (As.reverse ++ vR b :: rest).map (am_cv ad) = (As.map (am_cv ad)).reverse ++ .ref (ad b) :: rest.map (am_cv ad) := by
  rw [List.map_append, List.map_reverse]
  rfl
theorem am_callV {As : List am_V} {b ci N index : Nat} {C : String} {T : u_T} {fs : List am_V} (hM : am_AM M' d' mc' ms' (vR b :: As) n h Q') (hst : st = As.reverse ++ vR b :: rest)
    (hd : decode M.2.2.1 pc = .ok (.invokevirtual index, 3)) (hG : GoodIn am_all (wsV M.1 index C M'.2.1 (am_w M')))
    (hy : M'.2.1.cls = C ∧ M'.2.1.cls ≠ "java/lang/invoke/MethodHandle" ∧ M'.2.1.cls ≠ "java/lang/invoke/VarHandle" ∧ (parseMethodDescriptor M'.2.1.desc).map (fun d => d.parameters.length) = some As.length)
    (hdd : d' + 1 ≤ d) (hnl : M'.2.2.2.1 ≤ 21) (hb : b < n) (ho : h b = .inr (ci, fs)) (hc : classes[ci]? = some (C, T, N)) (hrs : rest.length ≤ 8) (hcc : uc + mc' ≤ mc) (hss : us + ms' ≤ ms)
    (hsc : ∀ v n' h', Q' v n' h' → am_sc n L rest n')
    (kk : ∀ v n' h', Q' v n' h' → n ≤ n' → am_AW M d mc ms SC Q (pc + 3) L (v.toList ++ rest) n' h' (uc + mc') (us + ms')) : am_AW M d mc ms SC Q pc L st n h uc us := by
  refine am_call hsc ?_ kk
  intro p l e R s m args below meth c D tc A ad H locs ls F hP hD hS hl
  have F2 := F
  obtain ⟨⟨hx, hbb, hml, hown, hts⟩, -, -, -, hR, hK, -⟩ := F2
  obtain ⟨hR1, hR2, hR3, hR4⟩ := hR
  exact va_runV (As := As.map (am_cv ad)) (b := ad b) F.1 (hM l D tc ad H.size) (cwV As.length hts hG rfl rfl rfl hy ⟨by show d' + 1 ≤ R.frames; omega, by show 8 + (M'.2.2.2.1 + 11) + 40 * d' ≤ R.locals; omega⟩)
    ⟨fun a U g mk q => by obtain ⟨q0, q1, qP, qK, qD⟩ := q; exact ⟨q0, q1, qP, qK.calling, qD⟩, va_recv hK.1 hP hc (am_get hb ho), fun U hU hW => ⟨rfl, by rw [hU], by rw [hU]; exact hP, am_K.warm hW hK, hD.weaken (fun _ _ _ _ => trivial)⟩⟩
    rfl (by rw [List.length_map]) hl.1 (by subst hst; exact am_cvs_rev ad As b rest) (lv_room (by rw [am_cats]; exact hrs)) hd ⟨by rw [hR2]; exact hcc, by rw [hR3]; exact hss⟩
/-- a static method of the own class -/
theorem am_callS {As : List am_V} {index : Nat} (hM : am_AM M' d' mc' ms' As n h Q') (hst : st = As.reverse ++ rest)
    (hd : decode M.2.2.1 pc = .ok (.invokestatic index, 3)) (hG : GoodIn am_all (wsS M.1 index M'.2.1 (am_w M')))
    (hy : M'.2.1.cls = M.1 ∧ M'.2.1.cls ≠ "java/lang/invoke/MethodHandle" ∧ M'.2.1.cls ≠ "java/lang/invoke/VarHandle" ∧ (parseMethodDescriptor M'.2.1.desc).map (fun d => d.parameters.length) = some As.length)
    (hdd : d' + 1 ≤ d) (hnl : M'.2.2.2.1 ≤ 21) (hrs : rest.length ≤ 8) (hcc : uc + mc' ≤ mc) (hss : us + ms' ≤ ms)
    (hsc : ∀ v n' h', Q' v n' h' → am_sc n L rest n')
    (kk : ∀ v n' h', Q' v n' h' → n ≤ n' → am_AW M d mc ms SC Q (pc + 3) L (v.toList ++ rest) n' h' (uc + mc') (us + ms')) : am_AW M d mc ms SC Q pc L st n h uc us := by
  refine am_call hsc ?_ kk
  intro p l e R s m args below meth c D tc A ad H locs ls F hP hD hS hl
  have F2 := F
  obtain ⟨⟨hx, hbb, hml, hown, hts⟩, -, -, -, hR, hK, -⟩ := F2
  obtain ⟨hR1, hR2, hR3, hR4⟩ := hR
  exact va_runS (As := As.map (am_cv ad)) F.1 (hM l D tc ad H.size) (cwS As.length hts hG rfl rfl rfl hy ⟨by show d' + 1 ≤ R.frames; omega, by show 8 + (M'.2.2.2.1 + 11) + 40 * d' ≤ R.locals; omega⟩)
    ⟨fun a U g mk q => by obtain ⟨q0, q1, qP, qK, qD⟩ := q; exact ⟨q0, q1, qP, qK.calling, qD⟩, fun U hU hW => ⟨rfl, by rw [hU], by rw [hU]; exact hP, am_K.warm hW hK, hD.weaken (fun _ _ _ _ => trivial)⟩⟩
    rfl (by rw [List.length_map]) hl.1 (by subst hst; show (As.reverse ++ rest).map (am_cv ad) = _; rw [List.map_append, List.map_reverse]) (lv_room (by rw [am_cats]; exact hrs)) hd ⟨by rw [hR2]; exact hcc, by rw [hR3]; exact hss⟩
/-- a private static method of a nest mate -/
theorem am_callSN {As : List am_V} {index : Nat} {host : String} (hM : am_AM M' d' mc' ms' As n h Q') (hst : st = As.reverse ++ rest)
    (hd : decode M.2.2.1 pc = .ok (.invokestatic index, 3)) (hG : GoodIn am_all (am_w M')) (hnw : Cond.methodLinkNest M.1 index M'.2.1 host ∈ am_nest) (hini : Cond.initialized M'.2.1.cls ∈ am_all) (hstt : Cond.static M'.2.1 ∈ am_all)
    (hy : M'.2.1.cls ≠ "java/lang/invoke/MethodHandle" ∧ M'.2.1.cls ≠ "java/lang/invoke/VarHandle" ∧ (parseMethodDescriptor M'.2.1.desc).map (fun d => d.parameters.length) = some As.length)
    (hdd : d' + 1 ≤ d) (hnl : M'.2.2.2.1 ≤ 21) (hrs : rest.length ≤ 8) (hcc : uc + mc' ≤ mc) (hss : us + ms' ≤ ms)
    (hsc : ∀ v n' h', Q' v n' h' → am_sc n L rest n')
    (kk : ∀ v n' h', Q' v n' h' → n ≤ n' → am_AW M d mc ms SC Q (pc + 3) L (v.toList ++ rest) n' h' (uc + mc') (us + ms')) : am_AW M d mc ms SC Q pc L st n h uc us := by
  refine am_call hsc ?_ kk
  intro p l e R s m args below meth c D tc A ad H locs ls F hP hD hS hl
  have F2 := F
  obtain ⟨⟨hx, hbb, hml, hown, hts⟩, -, -, -, hR, hK, -⟩ := F2
  obtain ⟨hR1, hR2, hR3, hR4⟩ := hR
  exact va_runSN (As := As.map (am_cv ad)) F.1 (hM l D tc ad H.size) ⟨va_cnB As.length hts hG rfl rfl rfl (hK.2.1 _ hnw) (hts _ hini) hy ⟨by show d' + 1 ≤ R.frames; omega, by show 8 + (M'.2.2.2.1 + 11) + 40 * d' ≤ R.locals; omega⟩, hts _ hstt, trivial⟩
    ⟨fun a U g mk q => by obtain ⟨q0, q1, qP, qK, qD⟩ := q; exact ⟨q0, q1, qP, qK.calling, qD⟩, fun U hU hW => ⟨rfl, by rw [hU], by rw [hU]; exact hP, am_K.warm hW hK, hD.weaken (fun _ _ _ _ => trivial)⟩⟩
    rfl (by rw [List.length_map]) hl.1 (by subst hst; show (As.reverse ++ rest).map (am_cv ad) = _; rw [List.map_append, List.map_reverse]) (lv_room (by rw [am_cats]; exact hrs)) hd ⟨by rw [hR2]; exact hcc, by rw [hR3]; exact hss⟩
/-- a constructor that is no nest mate's secret (package-private or public) -/
theorem am_callI {As : List am_V} {b index : Nat} (hM : am_AM M' d' mc' ms' (vR b :: As) n h Q') (hst : st = As.reverse ++ vR b :: rest) (hret0 : M'.2.2.2.2 = none)
    (hd : decode M.2.2.1 pc = .ok (.invokespecial index, 3)) (hG : GoodIn am_all (am_w M')) (hini : Cond.initialized M'.2.1.cls ∈ am_all) (hlk : Cond.methodLink M.1 index M'.2.1 ∈ am_all) (hins : Cond.instanceMethod M'.2.1 ∈ am_all) (hnm : M'.2.1.name = "<init>")
    (hy : M'.2.1.cls ≠ "java/lang/invoke/MethodHandle" ∧ M'.2.1.cls ≠ "java/lang/invoke/VarHandle" ∧ (parseMethodDescriptor M'.2.1.desc).map (fun d => d.parameters.length) = some As.length)
    (hdd : d' + 1 ≤ d) (hnl : M'.2.2.2.1 ≤ 21) (hrs : rest.length ≤ 8) (hcc : uc + mc' ≤ mc) (hss : us + ms' ≤ ms)
    (hsc : ∀ v n' h', Q' v n' h' → am_sc n L rest n')
    (kk : ∀ v n' h', Q' v n' h' → n ≤ n' → am_AW M d mc ms SC Q (pc + 3) L (v.toList ++ rest) n' h' (uc + mc') (us + ms')) : am_AW M d mc ms SC Q pc L st n h uc us := by
  refine am_call hsc ?_ kk
  intro p l e R s m args below meth c D tc A ad H locs ls F hP hD hS hl
  have F2 := F
  obtain ⟨⟨hx, hbb, hml, hown, hts⟩, -, -, -, hR, hK, -⟩ := F2
  obtain ⟨hR1, hR2, hR3, hR4⟩ := hR
  have hcw : am_w M' = Cond.code M'.2.1 M'.2.2.1 M'.2.2.2.1 none :: am_all := by unfold am_w; rw [hret0]
  exact va_runI (As := As.map (am_cv ad)) (b := ad b) F.1 (hM l D tc ad H.size) (cwI As.length hts hG hcw rfl rfl (hts _ hini) (hts _ hlk) (hts _ hins) hnm hy ⟨by show d' + 1 ≤ R.frames; omega, by show 8 + (M'.2.2.2.1 + 11) + 40 * d' ≤ R.locals; omega⟩)
    ⟨fun a U g mk q => by obtain ⟨q0, q1, qP, qK, qD⟩ := q; exact ⟨q0, q1, qP, qK.calling, qD⟩, fun U hU hW => ⟨rfl, by rw [hU], by rw [hU]; exact hP, am_K.warm hW hK, hD.weaken (fun _ _ _ _ => trivial)⟩⟩
    rfl (by rw [List.length_map]) hl.1 (by subst hst; exact am_cvs_rev ad As b rest) (lv_room (by rw [am_cats]; exact hrs)) hd ⟨by rw [hR2]; exact hcc, by rw [hR3]; exact hss⟩
end AC
