-- new cells: the position n is the new one
def am_so (n : Nat) (h : am_H) (L : Nat → Option am_V) (rest : List am_V) : Prop := (∀ k, k < n → am_oke n (h k)) ∧ (∀ i k, L i = some (vR k) → k < n ∨ k = am_SP) ∧ (∀ k, vR k ∈ rest → k < n ∨ k = am_SP) ∧ n < am_SP
section AL
variable {M : am_M} {d mc ms : Nat} {SC : Option (Nat × (Nat → Int32))} {Q : Option am_V → Nat → am_H → Prop} {pc : Nat} {L : Nat → Option am_V} {rest : List am_V} {n : Nat} {h : am_H} {uc us : Nat}
theorem am_grow {e : am_E} {q pc' uc' us' : Nat} {p : Program} {l : Launch} {e0 : Env} {R : Room} {s : State} {m : MethodId} {args : Array Value} {below : List Frame} {meth : Method} {c : Code} {D : va_G} {tc : Nat → ClassId} {A : Nat → Prop} {Qm : State → Prop} {ad : Nat → Nat} {H1 : Heap} {locs : List Loc} {ls : Array Slot}
    (hso : am_so n h L rest) (F : am_F M d mc ms p R s m args meth c D tc A) (X : am_X SC ad A s) (hP1 : va_P D classes (am_ws tc ad n h ++ [(q, am_ce tc (va_up ad n q) e)]) H1) (hD1 : va_D A (am_ws tc ad n h ++ [(q, am_ce tc (va_up ad n q) e)])) (hS1 : va_S A s.heap H1 locs) (hl : am_has ls M.2.2.2.1 ad L)
    (hret : ∀ (v : Option am_V) (n' : Nat) (h' : am_H) (ad' : Nat → Nat) (H' : Heap) (locs' : List Loc) (ls' : Array Slot) (pc' : Nat), Q v n' h' → n ≤ n' → (∀ k, k < n ∨ n' ≤ k → ad' k = ad k) → va_P D classes (am_ws tc ad' n' h') H' → va_D A (am_ws tc ad' n' h') → va_S A s.heap H' locs' → am_rd M pc' v →
      W p l e0 R s m args below meth c H' locs' mc ms Qm (F0 m pc' ls' (v.toList.map (am_cv ad'))))
    (kk : am_AW M d mc ms SC Q pc' L (vR n :: rest) (n + 1) (va_up h n e) uc' us') : W p l e0 R s m args below meth c H1 locs uc' us' Qm (F0 m pc' ls (.ref q :: rest.map (am_cv ad))) := by
  obtain ⟨hs, hL, hr, hn⟩ := hso
  rw [am_push hs] at hP1 hD1
  have hcv : ∀ v : am_V, (∀ k, v = vR k → k < n ∨ k = am_SP) → am_cv (va_up ad n q) v = am_cv ad v := by
    intro v hv
    rcases v with x | r
    · rfl
    · cases r with
      | none => rfl
      | some k =>
        show Value.ref (va_up ad n q k) = Value.ref (ad k)
        rw [va_up_ne ad q (by rcases hv k rfl with h1 | h1 <;> omega)]
  have hl' : am_has ls M.2.2.2.1 (va_up ad n q) L := hl.re (fun i v hv => hcv v (fun k e9 => hL i k (by rw [hv, e9])))
  have hX' : am_X SC (va_up ad n q) A s := fun L0 xs hs9 => by
    rw [va_up_ne ad q (Nat.ne_of_gt hn)]
    exact X L0 xs hs9
  have est : (vR n :: rest).map (am_cv (va_up ad n q)) = .ref q :: rest.map (am_cv ad) := by
    rw [List.map_cons, List.map_congr_left (fun v hv => hcv v (fun k e9 => hr k (e9 ▸ hv)))]
    show Value.ref (va_up ad n q n) :: _ = _
    rw [va_up_self]
  have := kk p l e0 R s m args below meth c D tc A Qm (va_up ad n q) H1 locs ls F hX' hP1 hD1 hS1 hl' (fun v2 n2 h2 ad2 H2 locs2 ls2 pc2 q1 q2 q3 => hret v2 n2 h2 ad2 H2 locs2 ls2 pc2 q1 (by omega) (fun k hk => by
    rw [q3 k (by omega)]
    exact va_up_ne ad q (by omega)))
  rw [est] at this
  exact this
theorem i_new {C : String} {T : u_T} {N ci index : Nat} {fs : List am_V} (ty0 : Nat → FieldType) (hty : ∀ k, k < N → parseFieldDescriptor (T k).2.2.1 = some (ty0 k)) (hd : decode M.2.2.1 pc = .ok (.new index, 3)) (hc : classes[ci]? = some (C, T, N)) (hin : ∀ w ∈ u_ws C T N, w ∈ am_all) (hcl : Cond.classLink M.1 index C ∈ am_all) (hinst : Cond.instantiable C N ∈ am_all) (hini : Cond.initialized C ∈ am_all)
    (hfs : ∀ j, j < N → defaultValue (ty0 j) = vp_V (fs.map (am_cv id)) j) (hok : ∀ v ∈ fs, am_okv 0 v) (hcc : uc + 1 ≤ mc) (hss : us + N ≤ ms) (hso : am_so n h L rest) (kk : am_AW M d mc ms SC Q (pc + 3) L (vR n :: rest) (n + 1) (va_up h n (.inr (ci, fs))) (uc + 1) (us + N)) : am_AW M d mc ms SC Q pc L rest n h uc us := by
  intro p l e R s m args below meth c D tc A Qm ad H locs ls F X hP hD hS hl hret
  have F2 := F
  obtain ⟨⟨hx, hbb, hml, hown, hts⟩, -, -, -, hR, hK, hA⟩ := F2
  have hcg : ∀ a b : Nat → Nat, fs.map (am_cv a) = fs.map (am_cv b) := fun a b => List.map_congr_left fun v hv => am_cv_congr (n := 0) (fun k hk => absurd hk (Nat.not_lt_zero k)) (hok v hv)
  obtain ⟨hR1, hR2, hR3, hR4⟩ := hR
  subst hR2; subst hR3
  refine va_new (ci := ci) (fs := fs.map (am_cv ad)) hx hbb hts hin ty0 hty hown (hts _ hcl) (hts _ hinst) (hts _ hini) hK.1 hP hD hS hA hc (fun j hj => by rw [hcg ad id]; exact hfs j hj) hcc hss hd (fun q H1 hP1 hD1 hS1 => ?_)
  have e1 : (Sum.inr (ci, fs.map (am_cv ad)) : va_E) = am_ce tc (va_up ad n q) (.inr (ci, fs)) := by
    show _ = (Sum.inr (ci, fs.map (am_cv (va_up ad n q))) : va_E)
    rw [hcg ad (va_up ad n q)]
  rw [e1] at hP1 hD1
  exact am_grow hso F X hP1 hD1 hS1 hl hret kk
theorem i_newa {atype : ArrayType} {t N : Nat} {ty : FieldType} {x : Int32} (hd : decode M.2.2.1 pc = .ok (.newarray atype, 2)) (hty : newarray.typeOf atype = ty) (ht : ∀ tc : Nat → ClassId, (am_tl tc)[t]? = some (tc t, ty)) (hpr : ∀ (U : State) (cA : ClassId), va_RA U cA ty → U.vm.findClass ("[" ++ ty.toString) = some cA) (hdf : defaultValue ty = .int 0) (hw : Cond.arrayClass ty ∈ am_all)
    (hx0 : ¬ x < 0) (hN : x.toNatClampNeg = N) (hby : N * componentBytes ty ≤ 536870912) (hcc : uc + 1 ≤ mc) (hss : us + N ≤ ms) (hso : am_so n h L rest) (kk : am_AW M d mc ms SC Q (pc + 2) L (vR n :: rest) (n + 1) (va_up h n (.inl (t, N, .inl (fun _ => 0)))) (uc + 1) (us + N)) : am_AW M d mc ms SC Q pc L (vI x :: rest) n h uc us := by
  intro p l e R s m args below meth c D tc A Qm ad H locs ls F X hP hD hS hl hret
  have F2 := F
  obtain ⟨⟨hx, hbb, hml, hown, hts⟩, -, -, -, hR, hK, hA⟩ := F2
  obtain ⟨hR1, hR2, hR3, hR4⟩ := hR; subst hR2; subst hR3; subst hty
  refine va_newaK hx hbb (hts _ hw) rfl hd rfl hx0 hN hby hcc hss rfl fun H1 cA e1 z1 o1 hAr hNm => ?_
  have hcA : cA = tc t := Option.some.inj (hNm.symm.trans (hpr s (tc t) (hK.1.2 t _ (ht tc)).2))
  subst hcA
  have hk : ∀ (k : Nat) (x : Nat × va_E), (am_ws tc ad n h)[k]? = some x → H1[x.1]? = H[x.1]? := fun k x hx => o1 x.1 ((hP k x hx).lt)
  refine am_grow (q := H.size) (pc' := pc + 2) (e := .inl (t, N, .inl (fun _ => 0))) hso F X ((hP.kept hk).app (fun k x hx => ?_)) (hD.push hP rfl (hA _ hS.1)) ⟨Nat.le_trans hS.1 (by omega), fun x h1 h2 => (o1 x (Nat.lt_of_lt_of_le h1 hS.1)).trans (hS.2.1 x h1 h2), hS.2.2⟩ hl hret kk
  have hz : k < 1 := (List.getElem?_eq_some_iff.mp hx).1
  rw [show k = 0 by omega] at hx
  cases hx
  show H1[H.size]? = some (vp_cell (tc t) (N, .inl (fun _ => 0)))
  rw [vp_cell_i, e1, hdf]
theorem i_anew {N index : Nat} {x : Int32} (hd : decode M.2.2.1 pc = .ok (.anewarray index, 3)) (hcl : Cond.classLink M.1 index "SpanLinker$SourceModule" ∈ am_all) (hov : ∀ (p : Program) (R : Room) (s : State) (m : MethodId) (args : Array Value) (meth : Method) (c : Code) (D : va_G) (tc : Nat → ClassId) (A : Nat → Prop), am_F M d mc ms p R s m args meth c D tc A → va_AO "SpanLinker$SourceModule" s)
    (hx0 : ¬ x < 0) (hN : x.toNatClampNeg = N) (hby : N * 4 ≤ 536870912) (hcc : uc + 1 ≤ mc) (hss : us + N ≤ ms) (hso : am_so n h L rest) (kk : am_AW M d mc ms SC Q (pc + 3) L (vR n :: rest) (n + 1) (va_up h n (.inl (2, N, .inr (fun _ => none)))) (uc + 1) (us + N)) : am_AW M d mc ms SC Q pc L (vI x :: rest) n h uc us := by
  intro p l e R s m args below meth c D tc A Qm ad H locs ls F X hP hD hS hl hret
  have F2 := F
  obtain ⟨⟨hx, hbb, hml, hown, hts⟩, -, -, -, hR, hK, hA⟩ := F2
  have ho := hov p R s m args meth c D tc A F
  obtain ⟨hR1, hR2, hR3, hR4⟩ := hR
  subst hR2; subst hR3
  refine va_newq hx hbb hown (hts _ hcl) ho hK.1 hP hD hS hA hx0 hN hby hcc hss hd (fun q cA H1 hK1 hP1 hD1 hS1 => ?_)
  have hcA : cA = tc 2 := by
    have h1 := (hK1.2 4 (cA, .object "SpanLinker$SourceModule") rfl).2
    have h2 := (hK.1.2 2 (tc 2, .object "SpanLinker$SourceModule") rfl).2
    obtain ⟨-, -, -, -, -, h1⟩ := h1
    obtain ⟨-, -, -, -, -, h2⟩ := h2
    exact Option.some.inj (h1.symm.trans h2)
  subst hcA
  exact am_grow (q := q) (pc' := pc + 3) (e := .inl (2, N, .inr (fun _ => none))) hso F X hP1 hD1 hS1 hl hret kk
theorem i_aast {b N y ci : Nat} {g : Nat → Option Nat} {i : Int32} {T : u_T} {NN : Nat} {fs : List am_V} (hd : decode M.2.2.1 pc = .ok (.aastore, 1)) (hb : b < n) (ho : h b = .inl (2, N, .inr g)) (hy : y < n) (hoy : h y = .inr (ci, fs)) (hc : classes[ci]? = some ("SpanLinker$SourceModule", T, NN)) (hi : vp_in i N) (kk : am_AW M d mc ms SC Q (pc + 1) L rest n (va_up h b (.inl (2, N, .inr (va_up g i.toNatClampNeg (some y))))) uc us) : am_AW M d mc ms SC Q pc L (vR y :: vI i :: vR b :: rest) n h uc us := by
  intro p l e R s m args below meth c D tc A Qm ad H locs ls F X hP hD hS hl hret
  have F2 := F
  obtain ⟨⟨hx, hbb, hml, hown, hts⟩, -, -, -, hR, hK, hA⟩ := F2
  refine va_astq (r := ("SpanLinker$SourceModule", T, NN)) hx hbb hK.1 hP hD hS b 2 y ci (am_get hb ho) rfl (am_get hy hoy) hc hi hd (fun H1 locs1 hP1 hD1 hS1 => ?_)
  have e1 : (am_ws tc ad n h).set b (ad b, .inl (tc 2, N, .inr (.inr (.inr (.inr (va_up (fun j => (g j).map ad) i.toNatClampNeg (some (ad y)))))))) = am_ws tc ad n (va_up h b (.inl (2, N, .inr (va_up g i.toNatClampNeg (some y))))) := by
    rw [← am_set _ hb]
    congr 2
    show (Sum.inl (tc 2, N, .inr (.inr (.inr (.inr (va_up (fun j => (g j).map ad) i.toNatClampNeg (some (ad y))))))) : va_E) = Sum.inl (tc 2, N, .inr (.inr (.inr (.inr (fun j => (va_up g i.toNatClampNeg (some y) j).map ad)))))
    have : va_up (fun j => (g j).map ad) i.toNatClampNeg (some (ad y)) = fun j => (va_up g i.toNatClampNeg (some y) j).map ad := funext fun j => by
      by_cases hj : j = i.toNatClampNeg
      · subst hj; rw [va_up_self, va_up_self]; rfl
      · rw [va_up_ne _ _ hj, va_up_ne _ _ hj]
    rw [this]
  rw [e1] at hP1 hD1
  exact kk p l e R s m args below meth c D tc A Qm ad H1 locs1 ls F X hP1 hD1 hS1 hl hret
theorem i_obj {index b : Nat} (hd : decode M.2.2.1 pc = .ok (.invokespecial index, 3)) (h1 : Cond.methodLink M.1 index Lib.objectInit ∈ am_all) (h2 : Cond.instanceMethod Lib.objectInit ∈ am_all) (h3 : Cond.code Lib.objectInit ⟨#[0xb1]⟩ 1 none ∈ am_all) (hdd : 1 ≤ d) (hrs : rest.length ≤ 8) (kk : am_AW M d mc ms SC Q (pc + 3) L rest n h uc us) : am_AW M d mc ms SC Q pc L (vR b :: rest) n h uc us := by
  intro p l e R s m args below meth c D tc A Qm ad H locs ls F X hP hD hS hl hret
  have F2 := F
  obtain ⟨⟨hx, hbb, hml, hown, hts⟩, -, -, -, hR, hK, hA⟩ := F2
  obtain ⟨hR1, hR2, hR3, hR4⟩ := hR
  subst hR2; subst hR3
  exact W.objInit (a := ad b) (rest := rest.map (am_cv ad)) hx hbb hown (hts _ h1) (hts _ h2) (hts _ h3) rfl (by rw [hml]; exact hl.1) rfl hd (by omega) (by rw [am_cats]; show 2 * 0 + rest.length + 12 ≤ R.locals; omega) (kk p l e _ s m args below meth c D tc A Qm ad H locs ls F X hP hD hS hl hret)
theorem i_aald3 {b N y : Nat} {g : Nat → Option Nat} {i : Int32} (hd : decode M.2.2.1 pc = .ok (.aaload, 1)) (hb : b < n) (ho : h b = .inl (3, N, .inr g)) (hi : vp_in i N) (hy : g i.toNatClampNeg = some y) (kk : am_AW M d mc ms SC Q (pc + 1) L (vR y :: rest) n h uc us) : am_AW M d mc ms SC Q pc L (vI i :: vR b :: rest) n h uc us := by
  intro p l e R s m args below meth c D tc A Qm ad H locs ls F X hP hD hS hl hret
  have hlt : i.toNatClampNeg < N := Nat.not_le.mp fun q => hi (Or.inr q)
  refine W.aald (v := va_rf ((g i.toNatClampNeg).map ad)) (ty := .array .int) F.1.1 F.1.2.1 (hP b _ (am_get hb ho)) ((F.2.2.2.2.2.1.1.2 3 (tc 3, .array .int) rfl).1 N (fun j => va_rf ((g j).map ad))) rfl (fun q => by cases q) (by show ¬ (i < 0 ∨ (arrV _ _ _).slots.size ≤ _); rw [arrV_size]; exact hi) (by show (arrV _ _ _).slots[_]? = _; rw [arrV_read _ _ hlt]) rfl rfl hd ?_
  rw [hy]
  exact kk p l e R s m args below meth c D tc A Qm ad H locs ls F X hP hD hS hl hret
theorem i_mmax {index : Nat} {x y : Int32} (hd : decode M.2.2.1 pc = .ok (.invokestatic index, 3)) (h1 : Cond.methodLink M.1 index Lib.Math.max.name ∈ am_all) (h2 : Cond.static Lib.Math.max.name ∈ am_all) (h3 : Cond.initialized "java/lang/Math" ∈ am_all) (h4 : Cond.code Lib.Math.max.name Lib.Math.max.code 2 (some .int) ∈ am_all) (hf : 1 ≤ d) (hr : rest.length ≤ 8) (hc : uc ≤ mc) (hs : us ≤ ms) (kk : am_AW M d mc ms SC Q (pc + 3) L (vI (if x < y then y else x) :: rest) n h uc us) : am_AW M d mc ms SC Q pc L (vI y :: vI x :: rest) n h uc us := by
  intro p l e R s m args below meth c D tc A Qm ad H locs ls F X hP hD hS hl hret
  have F2 := F
  obtain ⟨⟨hx, hbb, hml, hown, hts⟩, -, -, -, hR, hK, hA⟩ := F2
  obtain ⟨hR1, hR2, hR3, hR4⟩ := hR
  subst hR2; subst hR3
  exact va_mmax hx hbb (hml.trans hl.1.symm) hown (hts _ h1) (hts _ h2) (hts _ h3) (hts _ h4) (by omega) (by rw [am_cats]; show rest.length + 13 ≤ R.locals; omega) hc hs hd (kk p l e _ s m args below meth c D tc A Qm ad H locs ls F X hP hD hS hl hret)
end AL
theorem am_fitz (x : Int32) : fits .boolean (.int (x &&& 1)) = true := by
  obtain ⟨j, hj, e⟩ := pk_andE x (m := 1) 1 (by decide)
  rw [e]
  rcases (show j = 0 ∨ j = 1 by omega) with rfl | rfl <;> decide
