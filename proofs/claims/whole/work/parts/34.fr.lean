-- printed by wip/whole/gen/gen_fr.py: no method of one side changes a cell of the other. Side 0: positions below 78; side 1: from 78 on
def sd (z : Bool) (q : Nat) : Prop := if z then 78 ≤ q else q < 78
def pF (z : Bool) (r : pR) (I : fm_I) : Prop := ∀ v J, r = some (v, J) → ∀ q, ¬ sd z q → J q = I q
theorem sd_obj (z : Bool) : ∀ b, b < 94 → sd z b → ∀ ci fs, fm_sh b = .inr (.inr (ci, fs)) → ∀ q, some q ∈ fs → sd z q := by
  have key : ∀ b, b < 94 → (match fm_sh b with
    | .inr (.inr (_, fs)) => fs.all (fun o => match o with
      | some q => decide (b < 78 ↔ q < 78)
      | none => true)
    | _ => true) = true := by decide
  intro b hb hs ci fs e q hq
  have h := key b hb
  rw [e] at h
  have h2 := List.all_eq_true.mp h _ hq
  have h3 : (b < 78 ↔ q < 78) := of_decide_eq_true h2
  cases z
  · exact h3.mp hs
  · show 78 ≤ q
    have h4 : 78 ≤ b := hs
    omega
theorem sd_arr (z : Bool) : ∀ b, b < 94 → sd z b → ∀ t N g, fm_sh b = .inr (.inl (t, N, g)) → ∀ j q, j < N → g j = some q → sd z q := by
  have key : ∀ b, b < 94 → (match fm_sh b with
    | .inr (.inl (_, N, g)) => decide (b < 78) && (List.range N).all (fun j => match g j with
      | some q => decide (q < 78)
      | none => true)
    | _ => true) = true := by decide
  intro b hb hs t N g e j q hj hg
  have h := key b hb
  rw [e] at h
  obtain ⟨h1, h2⟩ := (Bool.and_eq_true _ _).mp h
  have h3 := List.all_eq_true.mp h2 j (List.mem_range.mpr hj)
  rw [hg] at h3
  have h4 : q < 78 := of_decide_eq_true h3
  have h5 : b < 78 := of_decide_eq_true h1
  cases z
  · exact h4
  · have h6 : 78 ≤ b := hs
    omega
section PF
variable {z : Bool} {r : pR} {I : fm_I} {ci b k t : Nat} {x i : Int32} {f : pR}
theorem pf_none : pF z none I := fun _ _ e => by cases e
theorem pf_ri : pF z (ri x I) I := fun _ _ e _ _ => by cases e; rfl
theorem pf_rv : pF z (rv I) I := fun _ _ e _ _ => by cases e; rfl
theorem pf_rz : pF z (rz x I) I := fun v J e q h => by
  unfold rz at e
  split at e
  · exact pf_ri v J e q h
  · cases e
theorem pf_if {c : Prop} [Decidable c] {a b : pR} (h1 : pF z a I) (h2 : pF z b I) : pF z (if c then a else b) I := by
  split
  · exact h1
  · exact h2
theorem pf_bn {kk : Int32 → pR} (h : ∀ y, pF z (kk y) I) : pF z (bn x kk) I := h x
theorem pf_gi {kk : Int32 → pR} (h : ∀ y, pF z (kk y) I) : pF z (gi ci b k I kk) I := by
  unfold gi
  exact pf_if (h _) pf_none
theorem pf_gr {kk : Nat → pR} (hb : sd z b) (h : ∀ y, sd z y → pF z (kk y) I) : pF z (gr ci b k kk) I := by
  unfold gr
  split
  · rename_i q hq
    obtain ⟨h1, fs, h2, h3⟩ := sh_r_some hq
    exact h q (sd_obj z b h1 hb ci fs h2 q (List.mem_of_getElem? h3))
  · exact pf_none
theorem pf_st {kk : fm_I → pR} {x : Int32} {j : Nat} (hb : sd z b) (h : ∀ J, pF z (kk J) J) : pF z (kk (fm_up I b j x)) I := fun v J e q hq => (h _ v J e q hq).trans (funext fun s => fm_up_p I s x (fun e9 => hq (e9 ▸ hb)))
theorem pf_pI {kk : fm_I → pR} (hb : sd z b) (h : ∀ J, pF z (kk J) J) : pF z (pI ci b k x I kk) I := by
  unfold pI
  exact pf_if (pf_st hb h) pf_none
theorem pf_pZ {kk : fm_I → pR} (hb : sd z b) (h : ∀ J, pF z (kk J) J) : pF z (pZ ci b k x I kk) I := by
  unfold pZ
  exact pf_if (pf_st hb h) pf_none
theorem pf_ld {kk : Int32 → pR} (h : ∀ y, pF z (kk y) I) : pF z (ld t b i I kk) I := by
  unfold ld
  split
  · exact pf_if pf_none (h _)
  · exact pf_none
theorem pf_sI {kk : fm_I → pR} (hb : sd z b) (h : ∀ J, pF z (kk J) J) : pF z (sI b i x I kk) I := by
  unfold sI
  split
  · exact pf_if pf_none (pf_st hb h)
  · exact pf_none
theorem pf_sZ {kk : fm_I → pR} (hb : sd z b) (h : ∀ J, pF z (kk J) J) : pF z (sZ b i x I kk) I := by
  unfold sZ
  split
  · exact pf_if pf_none (pf_st hb h)
  · exact pf_none
theorem pf_la {kk : Nat → pR} (hb : sd z b) (h : ∀ y, sd z y → pF z (kk y) I) : pF z (la t b i kk) I := by
  unfold la
  refine pf_if pf_none ?_
  split
  · rename_i q hq
    obtain ⟨h1, N, g, -, h3, h4, h5⟩ := sh_a_some hq
    exact h q (sd_arr z b h1 hb t N g h4 _ q h3 h5)
  · exact pf_none
theorem pf_ln {kk : Int32 → pR} (h : ∀ y, pF z (kk y) I) : pF z (ln b kk) I := by
  unfold ln
  split
  · exact h _
  · exact pf_none
theorem pf_bi {kk : Int32 → fm_I → pR} (hf : pF z f I) (h : ∀ y J, pF z (kk y J) J) : pF z (bi f kk) I := fun v J e q hq => by
  obtain ⟨y, K, e1, e2⟩ := bi_some e
  exact (h y K v J e2 q hq).trans (hf _ K e1 q hq)
theorem pf_bv {kk : fm_I → pR} (hf : pF z f I) (h : ∀ J, pF z (kk J) J) : pF z (bv f kk) I := fun v J e q hq => by
  obtain ⟨K, e1, e2⟩ := bv_some e
  exact (h K v J e2 q hq).trans (hf _ K e1 q hq)
theorem pf_vi {kk : Int32 → fm_I → pR} (hf : pF z f I) (h : ∀ y J, pF z (kk y J) J) : pF z (vi ci b f kk) I := by
  unfold vi
  exact pf_if (pf_bi hf h) pf_none
theorem pf_vv {kk : fm_I → pR} (hf : pF z f I) (h : ∀ J, pF z (kk J) J) : pF z (vv ci b f kk) I := by
  unfold vv
  exact pf_if (pf_bv hf h) pf_none
end PF
set_option maxRecDepth 10000 in
theorem fr_SL_isWithin (a0 : Int32) (a1 : Int32) (a2 : Int32) (I : fm_I) : pF false (fn_SL_isWithin a0 a1 a2 I) I := by
  unfold fn_SL_isWithin
  repeat' (with_reducible (first | exact pf_ri | exact pf_rv | exact pf_rz | refine pf_gi (fun _ => ?_) | refine pf_gr (by assumption) (fun _ _ => ?_) | refine pf_ld (fun _ => ?_) | refine pf_vi ?_ (fun _ _ => ?_) | refine pf_bi ?_ (fun _ _ => ?_) | refine pf_vv ?_ (fun _ => ?_) | refine pf_bv ?_ (fun _ => ?_) | refine pf_pI (by assumption) (fun _ => ?_) | refine pf_pZ (by assumption) (fun _ => ?_) | refine pf_sI (by assumption) (fun _ => ?_) | refine pf_sZ (by assumption) (fun _ => ?_) | refine pf_la (by assumption) (fun _ _ => ?_) | refine pf_bn (fun _ => ?_) | refine pf_ln (fun _ => ?_) | apply pf_if))
set_option maxRecDepth 10000 in
theorem fr_SL_isModule (a0 : Int32) (I : fm_I) : pF false (fn_SL_isModule a0 I) I := by
  unfold fn_SL_isModule
  repeat' (with_reducible (first | exact pf_ri | exact pf_rv | exact pf_rz | refine pf_gi (fun _ => ?_) | refine pf_gr (by assumption) (fun _ _ => ?_) | refine pf_ld (fun _ => ?_) | refine pf_vi ?_ (fun _ _ => ?_) | refine pf_bi ?_ (fun _ _ => ?_) | refine pf_vv ?_ (fun _ => ?_) | refine pf_bv ?_ (fun _ => ?_) | refine pf_pI (by assumption) (fun _ => ?_) | refine pf_pZ (by assumption) (fun _ => ?_) | refine pf_sI (by assumption) (fun _ => ?_) | refine pf_sZ (by assumption) (fun _ => ?_) | refine pf_la (by assumption) (fun _ _ => ?_) | refine pf_bn (fun _ => ?_) | refine pf_ln (fun _ => ?_) | (apply fr_SL_isWithin <;> assumption) | apply pf_if))
set_option maxRecDepth 10000 in
theorem fr_SL_isName (a0 : Int32) (I : fm_I) : pF false (fn_SL_isName a0 I) I := by
  unfold fn_SL_isName
  repeat' (with_reducible (first | exact pf_ri | exact pf_rv | exact pf_rz | refine pf_gi (fun _ => ?_) | refine pf_gr (by assumption) (fun _ _ => ?_) | refine pf_ld (fun _ => ?_) | refine pf_vi ?_ (fun _ _ => ?_) | refine pf_bi ?_ (fun _ _ => ?_) | refine pf_vv ?_ (fun _ => ?_) | refine pf_bv ?_ (fun _ => ?_) | refine pf_pI (by assumption) (fun _ => ?_) | refine pf_pZ (by assumption) (fun _ => ?_) | refine pf_sI (by assumption) (fun _ => ?_) | refine pf_sZ (by assumption) (fun _ => ?_) | refine pf_la (by assumption) (fun _ _ => ?_) | refine pf_bn (fun _ => ?_) | refine pf_ln (fun _ => ?_) | (apply fr_SL_isWithin <;> assumption) | apply pf_if))
set_option maxRecDepth 10000 in
theorem fr_SL_isSection (a0 : Int32) (I : fm_I) : pF false (fn_SL_isSection a0 I) I := by
  unfold fn_SL_isSection
  repeat' (with_reducible (first | exact pf_ri | exact pf_rv | exact pf_rz | refine pf_gi (fun _ => ?_) | refine pf_gr (by assumption) (fun _ _ => ?_) | refine pf_ld (fun _ => ?_) | refine pf_vi ?_ (fun _ _ => ?_) | refine pf_bi ?_ (fun _ _ => ?_) | refine pf_vv ?_ (fun _ => ?_) | refine pf_bv ?_ (fun _ => ?_) | refine pf_pI (by assumption) (fun _ => ?_) | refine pf_pZ (by assumption) (fun _ => ?_) | refine pf_sI (by assumption) (fun _ => ?_) | refine pf_sZ (by assumption) (fun _ => ?_) | refine pf_la (by assumption) (fun _ _ => ?_) | refine pf_bn (fun _ => ?_) | refine pf_ln (fun _ => ?_) | (apply fr_SL_isWithin <;> assumption) | apply pf_if))
set_option maxRecDepth 10000 in
theorem fr_SL_isWord (a0 : Int32) (I : fm_I) : pF false (fn_SL_isWord a0 I) I := by
  unfold fn_SL_isWord
  repeat' (with_reducible (first | exact pf_ri | exact pf_rv | exact pf_rz | refine pf_gi (fun _ => ?_) | refine pf_gr (by assumption) (fun _ _ => ?_) | refine pf_ld (fun _ => ?_) | refine pf_vi ?_ (fun _ _ => ?_) | refine pf_bi ?_ (fun _ _ => ?_) | refine pf_vv ?_ (fun _ => ?_) | refine pf_bv ?_ (fun _ => ?_) | refine pf_pI (by assumption) (fun _ => ?_) | refine pf_pZ (by assumption) (fun _ => ?_) | refine pf_sI (by assumption) (fun _ => ?_) | refine pf_sZ (by assumption) (fun _ => ?_) | refine pf_la (by assumption) (fun _ _ => ?_) | refine pf_bn (fun _ => ?_) | refine pf_ln (fun _ => ?_) | (apply fr_SL_isWithin <;> assumption) | apply pf_if))
set_option maxRecDepth 10000 in
theorem fr_Mod_hasFittingNumbers (a0 : Int32) (a1 : Int32) (a2 : Int32) (I : fm_I) : pF false (fn_Mod_hasFittingNumbers a0 a1 a2 I) I := by
  unfold fn_Mod_hasFittingNumbers
  repeat' (with_reducible (first | exact pf_ri | exact pf_rv | exact pf_rz | refine pf_gi (fun _ => ?_) | refine pf_gr (by assumption) (fun _ _ => ?_) | refine pf_ld (fun _ => ?_) | refine pf_vi ?_ (fun _ _ => ?_) | refine pf_bi ?_ (fun _ _ => ?_) | refine pf_vv ?_ (fun _ => ?_) | refine pf_bv ?_ (fun _ => ?_) | refine pf_pI (by assumption) (fun _ => ?_) | refine pf_pZ (by assumption) (fun _ => ?_) | refine pf_sI (by assumption) (fun _ => ?_) | refine pf_sZ (by assumption) (fun _ => ?_) | refine pf_la (by assumption) (fun _ _ => ?_) | refine pf_bn (fun _ => ?_) | refine pf_ln (fun _ => ?_) | (apply fr_SL_isName <;> assumption) | (apply fr_SL_isSection <;> assumption) | (apply fr_SL_isWord <;> assumption) | (apply fr_SL_isWithin <;> assumption) | apply pf_if))
set_option maxRecDepth 10000 in
theorem fr_Mod_currentSection (a0 : Nat) (I : fm_I) (h0 : sd false a0) : pF false (fn_Mod_currentSection a0 I) I := by
  unfold fn_Mod_currentSection
  repeat' (with_reducible (first | exact pf_ri | exact pf_rv | exact pf_rz | refine pf_gi (fun _ => ?_) | refine pf_gr (by assumption) (fun _ _ => ?_) | refine pf_ld (fun _ => ?_) | refine pf_vi ?_ (fun _ _ => ?_) | refine pf_bi ?_ (fun _ _ => ?_) | refine pf_vv ?_ (fun _ => ?_) | refine pf_bv ?_ (fun _ => ?_) | refine pf_pI (by assumption) (fun _ => ?_) | refine pf_pZ (by assumption) (fun _ => ?_) | refine pf_sI (by assumption) (fun _ => ?_) | refine pf_sZ (by assumption) (fun _ => ?_) | refine pf_la (by assumption) (fun _ _ => ?_) | refine pf_bn (fun _ => ?_) | refine pf_ln (fun _ => ?_) | apply pf_if))
set_option maxRecDepth 10000 in
theorem fr_Mod_mayStandInSection (a0 : Nat) (a1 : Int32) (I : fm_I) (h0 : sd false a0) : pF false (fn_Mod_mayStandInSection a0 a1 I) I := by
  unfold fn_Mod_mayStandInSection
  repeat' (with_reducible (first | exact pf_ri | exact pf_rv | exact pf_rz | refine pf_gi (fun _ => ?_) | refine pf_gr (by assumption) (fun _ _ => ?_) | refine pf_ld (fun _ => ?_) | refine pf_vi ?_ (fun _ _ => ?_) | refine pf_bi ?_ (fun _ _ => ?_) | refine pf_vv ?_ (fun _ => ?_) | refine pf_bv ?_ (fun _ => ?_) | refine pf_pI (by assumption) (fun _ => ?_) | refine pf_pZ (by assumption) (fun _ => ?_) | refine pf_sI (by assumption) (fun _ => ?_) | refine pf_sZ (by assumption) (fun _ => ?_) | refine pf_la (by assumption) (fun _ _ => ?_) | refine pf_bn (fun _ => ?_) | refine pf_ln (fun _ => ?_) | (apply fr_Mod_currentSection <;> assumption) | apply pf_if))
set_option maxRecDepth 10000 in
theorem fr_Mod_holdsName (a0 : Int32) (I : fm_I) : pF false (fn_Mod_holdsName a0 I) I := by
  unfold fn_Mod_holdsName
  repeat' (with_reducible (first | exact pf_ri | exact pf_rv | exact pf_rz | refine pf_gi (fun _ => ?_) | refine pf_gr (by assumption) (fun _ _ => ?_) | refine pf_ld (fun _ => ?_) | refine pf_vi ?_ (fun _ _ => ?_) | refine pf_bi ?_ (fun _ _ => ?_) | refine pf_vv ?_ (fun _ => ?_) | refine pf_bv ?_ (fun _ => ?_) | refine pf_pI (by assumption) (fun _ => ?_) | refine pf_pZ (by assumption) (fun _ => ?_) | refine pf_sI (by assumption) (fun _ => ?_) | refine pf_sZ (by assumption) (fun _ => ?_) | refine pf_la (by assumption) (fun _ _ => ?_) | refine pf_bn (fun _ => ?_) | refine pf_ln (fun _ => ?_) | apply pf_if))
set_option maxRecDepth 10000 in
theorem fr_SL_hasName (a0 : Int32) (a1 : Int32) (I : fm_I) : pF false (fn_SL_hasName a0 a1 I) I := by
  unfold fn_SL_hasName
  repeat' (with_reducible (first | exact pf_ri | exact pf_rv | exact pf_rz | refine pf_gi (fun _ => ?_) | refine pf_gr (by assumption) (fun _ _ => ?_) | refine pf_ld (fun _ => ?_) | refine pf_vi ?_ (fun _ _ => ?_) | refine pf_bi ?_ (fun _ _ => ?_) | refine pf_vv ?_ (fun _ => ?_) | refine pf_bv ?_ (fun _ => ?_) | refine pf_pI (by assumption) (fun _ => ?_) | refine pf_pZ (by assumption) (fun _ => ?_) | refine pf_sI (by assumption) (fun _ => ?_) | refine pf_sZ (by assumption) (fun _ => ?_) | refine pf_la (by assumption) (fun _ _ => ?_) | refine pf_bn (fun _ => ?_) | refine pf_ln (fun _ => ?_) | apply pf_if))
set_option maxRecDepth 10000 in
theorem fr_Mod_isSaidTwice (a0 : Nat) (a1 : Int32) (a2 : Int32) (I : fm_I) (h0 : sd false a0) : pF false (fn_Mod_isSaidTwice a0 a1 a2 I) I := by
  unfold fn_Mod_isSaidTwice
  repeat' (with_reducible (first | exact pf_ri | exact pf_rv | exact pf_rz | refine pf_gi (fun _ => ?_) | refine pf_gr (by assumption) (fun _ _ => ?_) | refine pf_ld (fun _ => ?_) | refine pf_vi ?_ (fun _ _ => ?_) | refine pf_bi ?_ (fun _ _ => ?_) | refine pf_vv ?_ (fun _ => ?_) | refine pf_bv ?_ (fun _ => ?_) | refine pf_pI (by assumption) (fun _ => ?_) | refine pf_pZ (by assumption) (fun _ => ?_) | refine pf_sI (by assumption) (fun _ => ?_) | refine pf_sZ (by assumption) (fun _ => ?_) | refine pf_la (by assumption) (fun _ _ => ?_) | refine pf_bn (fun _ => ?_) | refine pf_ln (fun _ => ?_) | (apply fr_Mod_holdsName <;> assumption) | (apply fr_SL_hasName <;> assumption) | apply pf_if))
set_option maxRecDepth 10000 in
theorem fr_Mod_accepts (a0 : Nat) (a1 : Int32) (a2 : Int32) (a3 : Int32) (I : fm_I) (h0 : sd false a0) : pF false (fn_Mod_accepts a0 a1 a2 a3 I) I := by
  unfold fn_Mod_accepts
  repeat' (with_reducible (first | exact pf_ri | exact pf_rv | exact pf_rz | refine pf_gi (fun _ => ?_) | refine pf_gr (by assumption) (fun _ _ => ?_) | refine pf_ld (fun _ => ?_) | refine pf_vi ?_ (fun _ _ => ?_) | refine pf_bi ?_ (fun _ _ => ?_) | refine pf_vv ?_ (fun _ => ?_) | refine pf_bv ?_ (fun _ => ?_) | refine pf_pI (by assumption) (fun _ => ?_) | refine pf_pZ (by assumption) (fun _ => ?_) | refine pf_sI (by assumption) (fun _ => ?_) | refine pf_sZ (by assumption) (fun _ => ?_) | refine pf_la (by assumption) (fun _ _ => ?_) | refine pf_bn (fun _ => ?_) | refine pf_ln (fun _ => ?_) | (apply fr_Mod_hasFittingNumbers <;> assumption) | (apply fr_Mod_mayStandInSection <;> assumption) | (apply fr_Mod_isSaidTwice <;> assumption) | apply pf_if))
set_option maxRecDepth 10000 in
theorem fr_SL_setOf (a0 : Int32) (I : fm_I) : pF false (fn_SL_setOf a0 I) I := by
  unfold fn_SL_setOf
  repeat' (with_reducible (first | exact pf_ri | exact pf_rv | exact pf_rz | refine pf_gi (fun _ => ?_) | refine pf_gr (by assumption) (fun _ _ => ?_) | refine pf_ld (fun _ => ?_) | refine pf_vi ?_ (fun _ _ => ?_) | refine pf_bi ?_ (fun _ _ => ?_) | refine pf_vv ?_ (fun _ => ?_) | refine pf_bv ?_ (fun _ => ?_) | refine pf_pI (by assumption) (fun _ => ?_) | refine pf_pZ (by assumption) (fun _ => ?_) | refine pf_sI (by assumption) (fun _ => ?_) | refine pf_sZ (by assumption) (fun _ => ?_) | refine pf_la (by assumption) (fun _ _ => ?_) | refine pf_bn (fun _ => ?_) | refine pf_ln (fun _ => ?_) | apply pf_if))
set_option maxRecDepth 10000 in
theorem fr_Mod_noteName_17 : ∀ (a0 : Nat) (a1 : Int32) (a2 : Int32) (I : fm_I), sd false a0 → pF false (fn_Mod_noteName_17 a0 a1 a2 I) I := by
  intro a0 a1 a2 I ha0
  unfold fn_Mod_noteName_17
  repeat' (with_reducible (first | exact pf_ri | exact pf_rv | exact pf_rz | refine pf_gi (fun _ => ?_) | refine pf_gr (by assumption) (fun _ _ => ?_) | refine pf_ld (fun _ => ?_) | refine pf_vi ?_ (fun _ _ => ?_) | refine pf_bi ?_ (fun _ _ => ?_) | refine pf_vv ?_ (fun _ => ?_) | refine pf_bv ?_ (fun _ => ?_) | refine pf_pI (by assumption) (fun _ => ?_) | refine pf_pZ (by assumption) (fun _ => ?_) | refine pf_sI (by assumption) (fun _ => ?_) | refine pf_sZ (by assumption) (fun _ => ?_) | refine pf_la (by assumption) (fun _ _ => ?_) | refine pf_bn (fun _ => ?_) | refine pf_ln (fun _ => ?_) | (apply fr_Mod_holdsName <;> assumption) | (apply fr_SL_setOf <;> assumption) | apply pf_if))
set_option maxRecDepth 10000 in
theorem fr_Mod_noteName (a0 : Nat) (a1 : Int32) (a2 : Int32) (I : fm_I) (h0 : sd false a0) : pF false (fn_Mod_noteName a0 a1 a2 I) I := by
  unfold fn_Mod_noteName
  repeat' (with_reducible (first | exact pf_ri | exact pf_rv | exact pf_rz | refine pf_gi (fun _ => ?_) | refine pf_gr (by assumption) (fun _ _ => ?_) | refine pf_ld (fun _ => ?_) | refine pf_vi ?_ (fun _ _ => ?_) | refine pf_bi ?_ (fun _ _ => ?_) | refine pf_vv ?_ (fun _ => ?_) | refine pf_bv ?_ (fun _ => ?_) | refine pf_pI (by assumption) (fun _ => ?_) | refine pf_pZ (by assumption) (fun _ => ?_) | refine pf_sI (by assumption) (fun _ => ?_) | refine pf_sZ (by assumption) (fun _ => ?_) | refine pf_la (by assumption) (fun _ _ => ?_) | refine pf_bn (fun _ => ?_) | refine pf_ln (fun _ => ?_) | (apply fr_Mod_holdsName <;> assumption) | (apply fr_SL_setOf <;> assumption) | (apply fr_Mod_noteName_17 <;> assumption) | apply pf_if))
set_option maxRecDepth 10000 in
theorem fr_Mod_aimsAtOwnText (a0 : Nat) (a1 : Int32) (I : fm_I) (h0 : sd false a0) : pF false (fn_Mod_aimsAtOwnText a0 a1 I) I := by
  unfold fn_Mod_aimsAtOwnText
  repeat' (with_reducible (first | exact pf_ri | exact pf_rv | exact pf_rz | refine pf_gi (fun _ => ?_) | refine pf_gr (by assumption) (fun _ _ => ?_) | refine pf_ld (fun _ => ?_) | refine pf_vi ?_ (fun _ _ => ?_) | refine pf_bi ?_ (fun _ _ => ?_) | refine pf_vv ?_ (fun _ => ?_) | refine pf_bv ?_ (fun _ => ?_) | refine pf_pI (by assumption) (fun _ => ?_) | refine pf_pZ (by assumption) (fun _ => ?_) | refine pf_sI (by assumption) (fun _ => ?_) | refine pf_sZ (by assumption) (fun _ => ?_) | refine pf_la (by assumption) (fun _ _ => ?_) | refine pf_bn (fun _ => ?_) | refine pf_ln (fun _ => ?_) | (apply fr_SL_hasName <;> assumption) | apply pf_if))
set_option maxRecDepth 10000 in
theorem fr_Mod_wordsOf (a0 : Nat) (a1 : Int32) (I : fm_I) (h0 : sd false a0) : pF false (fn_Mod_wordsOf a0 a1 I) I := by
  unfold fn_Mod_wordsOf
  repeat' (with_reducible (first | exact pf_ri | exact pf_rv | exact pf_rz | refine pf_gi (fun _ => ?_) | refine pf_gr (by assumption) (fun _ _ => ?_) | refine pf_ld (fun _ => ?_) | refine pf_vi ?_ (fun _ _ => ?_) | refine pf_bi ?_ (fun _ _ => ?_) | refine pf_vv ?_ (fun _ => ?_) | refine pf_bv ?_ (fun _ => ?_) | refine pf_pI (by assumption) (fun _ => ?_) | refine pf_pZ (by assumption) (fun _ => ?_) | refine pf_sI (by assumption) (fun _ => ?_) | refine pf_sZ (by assumption) (fun _ => ?_) | refine pf_la (by assumption) (fun _ _ => ?_) | refine pf_bn (fun _ => ?_) | refine pf_ln (fun _ => ?_) | apply pf_if))
set_option maxRecDepth 10000 in
theorem fr_Mod_placeWords_22 (n : Nat) : ∀ (a0 : Nat) (a1 : Int32) (I : fm_I), sd false a0 → pF false (fn_Mod_placeWords_22 n a0 a1 I) I := by
  induction n with
  | zero =>
    intro a0 a1 I ha0
    unfold fn_Mod_placeWords_22
    exact pf_none
  | succ n ih =>
    intro a0 a1 I ha0
    unfold fn_Mod_placeWords_22
    repeat' (with_reducible (first | exact pf_ri | exact pf_rv | exact pf_rz | refine pf_gi (fun _ => ?_) | refine pf_gr (by assumption) (fun _ _ => ?_) | refine pf_ld (fun _ => ?_) | refine pf_vi ?_ (fun _ _ => ?_) | refine pf_bi ?_ (fun _ _ => ?_) | refine pf_vv ?_ (fun _ => ?_) | refine pf_bv ?_ (fun _ => ?_) | refine pf_pI (by assumption) (fun _ => ?_) | refine pf_pZ (by assumption) (fun _ => ?_) | refine pf_sI (by assumption) (fun _ => ?_) | refine pf_sZ (by assumption) (fun _ => ?_) | refine pf_la (by assumption) (fun _ _ => ?_) | refine pf_bn (fun _ => ?_) | refine pf_ln (fun _ => ?_) | (apply fr_Mod_wordsOf <;> assumption) | (apply fr_Mod_placeWords_2 <;> assumption) | (apply ih <;> assumption) | apply pf_if))
set_option maxRecDepth 10000 in
theorem fr_Mod_placeWords_2 (n : Nat) : ∀ (a0 : Nat) (a1 : Int32) (I : fm_I), sd false a0 → pF false (fn_Mod_placeWords_2 n a0 a1 I) I := by
  induction n with
  | zero =>
    intro a0 a1 I ha0
    unfold fn_Mod_placeWords_2
    exact pf_none
  | succ n ih =>
    intro a0 a1 I ha0
    unfold fn_Mod_placeWords_2
    repeat' (with_reducible (first | exact pf_ri | exact pf_rv | exact pf_rz | refine pf_gi (fun _ => ?_) | refine pf_gr (by assumption) (fun _ _ => ?_) | refine pf_ld (fun _ => ?_) | refine pf_vi ?_ (fun _ _ => ?_) | refine pf_bi ?_ (fun _ _ => ?_) | refine pf_vv ?_ (fun _ => ?_) | refine pf_bv ?_ (fun _ => ?_) | refine pf_pI (by assumption) (fun _ => ?_) | refine pf_pZ (by assumption) (fun _ => ?_) | refine pf_sI (by assumption) (fun _ => ?_) | refine pf_sZ (by assumption) (fun _ => ?_) | refine pf_la (by assumption) (fun _ _ => ?_) | refine pf_bn (fun _ => ?_) | refine pf_ln (fun _ => ?_) | (apply fr_Mod_wordsOf <;> assumption) | (apply fr_Mod_placeWords_22 <;> assumption) | (apply ih <;> assumption) | apply pf_if))
set_option maxRecDepth 10000 in
theorem fr_Mod_placeWords (a0 : Nat) (I : fm_I) (h0 : sd false a0) : pF false (fn_Mod_placeWords a0 I) I := by
  unfold fn_Mod_placeWords
  repeat' (with_reducible (first | exact pf_ri | exact pf_rv | exact pf_rz | refine pf_gi (fun _ => ?_) | refine pf_gr (by assumption) (fun _ _ => ?_) | refine pf_ld (fun _ => ?_) | refine pf_vi ?_ (fun _ _ => ?_) | refine pf_bi ?_ (fun _ _ => ?_) | refine pf_vv ?_ (fun _ => ?_) | refine pf_bv ?_ (fun _ => ?_) | refine pf_pI (by assumption) (fun _ => ?_) | refine pf_pZ (by assumption) (fun _ => ?_) | refine pf_sI (by assumption) (fun _ => ?_) | refine pf_sZ (by assumption) (fun _ => ?_) | refine pf_la (by assumption) (fun _ _ => ?_) | refine pf_bn (fun _ => ?_) | refine pf_ln (fun _ => ?_) | (apply fr_Mod_wordsOf <;> assumption) | (apply fr_Mod_placeWords_22 <;> assumption) | (apply fr_Mod_placeWords_2 <;> assumption) | apply pf_if))
set_option maxRecDepth 10000 in
theorem fr_Mod_distanceOf (a0 : Nat) (a1 : Int32) (I : fm_I) (h0 : sd false a0) : pF false (fn_Mod_distanceOf a0 a1 I) I := by
  unfold fn_Mod_distanceOf
  repeat' (with_reducible (first | exact pf_ri | exact pf_rv | exact pf_rz | refine pf_gi (fun _ => ?_) | refine pf_gr (by assumption) (fun _ _ => ?_) | refine pf_ld (fun _ => ?_) | refine pf_vi ?_ (fun _ _ => ?_) | refine pf_bi ?_ (fun _ _ => ?_) | refine pf_vv ?_ (fun _ => ?_) | refine pf_bv ?_ (fun _ => ?_) | refine pf_pI (by assumption) (fun _ => ?_) | refine pf_pZ (by assumption) (fun _ => ?_) | refine pf_sI (by assumption) (fun _ => ?_) | refine pf_sZ (by assumption) (fun _ => ?_) | refine pf_la (by assumption) (fun _ _ => ?_) | refine pf_bn (fun _ => ?_) | refine pf_ln (fun _ => ?_) | apply pf_if))
set_option maxRecDepth 10000 in
theorem fr_Mod_lengthenFarJumps_4 (n : Nat) : ∀ (a0 : Nat) (a1 : Int32) (a2 : Int32) (I : fm_I), sd false a0 → pF false (fn_Mod_lengthenFarJumps_4 n a0 a1 a2 I) I := by
  induction n with
  | zero =>
    intro a0 a1 a2 I ha0
    unfold fn_Mod_lengthenFarJumps_4
    exact pf_none
  | succ n ih =>
    intro a0 a1 a2 I ha0
    unfold fn_Mod_lengthenFarJumps_4
    repeat' (with_reducible (first | exact pf_ri | exact pf_rv | exact pf_rz | refine pf_gi (fun _ => ?_) | refine pf_gr (by assumption) (fun _ _ => ?_) | refine pf_ld (fun _ => ?_) | refine pf_vi ?_ (fun _ _ => ?_) | refine pf_bi ?_ (fun _ _ => ?_) | refine pf_vv ?_ (fun _ => ?_) | refine pf_bv ?_ (fun _ => ?_) | refine pf_pI (by assumption) (fun _ => ?_) | refine pf_pZ (by assumption) (fun _ => ?_) | refine pf_sI (by assumption) (fun _ => ?_) | refine pf_sZ (by assumption) (fun _ => ?_) | refine pf_la (by assumption) (fun _ _ => ?_) | refine pf_bn (fun _ => ?_) | refine pf_ln (fun _ => ?_) | (apply fr_Mod_distanceOf <;> assumption) | (apply fr_SL_isWithin <;> assumption) | (apply ih <;> assumption) | apply pf_if))
set_option maxRecDepth 10000 in
theorem fr_Mod_lengthenFarJumps (a0 : Nat) (I : fm_I) (h0 : sd false a0) : pF false (fn_Mod_lengthenFarJumps a0 I) I := by
  unfold fn_Mod_lengthenFarJumps
  repeat' (with_reducible (first | exact pf_ri | exact pf_rv | exact pf_rz | refine pf_gi (fun _ => ?_) | refine pf_gr (by assumption) (fun _ _ => ?_) | refine pf_ld (fun _ => ?_) | refine pf_vi ?_ (fun _ _ => ?_) | refine pf_bi ?_ (fun _ _ => ?_) | refine pf_vv ?_ (fun _ => ?_) | refine pf_bv ?_ (fun _ => ?_) | refine pf_pI (by assumption) (fun _ => ?_) | refine pf_pZ (by assumption) (fun _ => ?_) | refine pf_sI (by assumption) (fun _ => ?_) | refine pf_sZ (by assumption) (fun _ => ?_) | refine pf_la (by assumption) (fun _ _ => ?_) | refine pf_bn (fun _ => ?_) | refine pf_ln (fun _ => ?_) | (apply fr_Mod_distanceOf <;> assumption) | (apply fr_SL_isWithin <;> assumption) | (apply fr_Mod_lengthenFarJumps_4 <;> assumption) | apply pf_if))
set_option maxRecDepth 10000 in
theorem fr_Mod_settleJumps_52 (n : Nat) : ∀ (a0 : Nat) (a1 : Int32) (I : fm_I), sd false a0 → pF false (fn_Mod_settleJumps_52 n a0 a1 I) I := by
  induction n with
  | zero =>
    intro a0 a1 I ha0
    unfold fn_Mod_settleJumps_52
    exact pf_none
  | succ n ih =>
    intro a0 a1 I ha0
    unfold fn_Mod_settleJumps_52
    repeat' (with_reducible (first | exact pf_ri | exact pf_rv | exact pf_rz | refine pf_gi (fun _ => ?_) | refine pf_gr (by assumption) (fun _ _ => ?_) | refine pf_ld (fun _ => ?_) | refine pf_vi ?_ (fun _ _ => ?_) | refine pf_bi ?_ (fun _ _ => ?_) | refine pf_vv ?_ (fun _ => ?_) | refine pf_bv ?_ (fun _ => ?_) | refine pf_pI (by assumption) (fun _ => ?_) | refine pf_pZ (by assumption) (fun _ => ?_) | refine pf_sI (by assumption) (fun _ => ?_) | refine pf_sZ (by assumption) (fun _ => ?_) | refine pf_la (by assumption) (fun _ _ => ?_) | refine pf_bn (fun _ => ?_) | refine pf_ln (fun _ => ?_) | (apply fr_Mod_aimsAtOwnText <;> assumption) | (apply fr_Mod_placeWords <;> assumption) | (apply fr_Mod_lengthenFarJumps <;> assumption) | (apply fr_Mod_settleJumps_2 <;> assumption) | (apply ih <;> assumption) | apply pf_if))
set_option maxRecDepth 10000 in
theorem fr_Mod_settleJumps_2 (n : Nat) : ∀ (a0 : Nat) (a1 : Int32) (I : fm_I), sd false a0 → pF false (fn_Mod_settleJumps_2 n a0 a1 I) I := by
  induction n with
  | zero =>
    intro a0 a1 I ha0
    unfold fn_Mod_settleJumps_2
    exact pf_none
  | succ n ih =>
    intro a0 a1 I ha0
    unfold fn_Mod_settleJumps_2
    repeat' (with_reducible (first | exact pf_ri | exact pf_rv | exact pf_rz | refine pf_gi (fun _ => ?_) | refine pf_gr (by assumption) (fun _ _ => ?_) | refine pf_ld (fun _ => ?_) | refine pf_vi ?_ (fun _ _ => ?_) | refine pf_bi ?_ (fun _ _ => ?_) | refine pf_vv ?_ (fun _ => ?_) | refine pf_bv ?_ (fun _ => ?_) | refine pf_pI (by assumption) (fun _ => ?_) | refine pf_pZ (by assumption) (fun _ => ?_) | refine pf_sI (by assumption) (fun _ => ?_) | refine pf_sZ (by assumption) (fun _ => ?_) | refine pf_la (by assumption) (fun _ _ => ?_) | refine pf_bn (fun _ => ?_) | refine pf_ln (fun _ => ?_) | (apply fr_Mod_aimsAtOwnText <;> assumption) | (apply fr_Mod_placeWords <;> assumption) | (apply fr_Mod_lengthenFarJumps <;> assumption) | (apply fr_Mod_settleJumps_52 <;> assumption) | (apply ih <;> assumption) | apply pf_if))
set_option maxRecDepth 10000 in
theorem fr_Mod_settleJumps (a0 : Nat) (I : fm_I) (h0 : sd false a0) : pF false (fn_Mod_settleJumps a0 I) I := by
  unfold fn_Mod_settleJumps
  repeat' (with_reducible (first | exact pf_ri | exact pf_rv | exact pf_rz | refine pf_gi (fun _ => ?_) | refine pf_gr (by assumption) (fun _ _ => ?_) | refine pf_ld (fun _ => ?_) | refine pf_vi ?_ (fun _ _ => ?_) | refine pf_bi ?_ (fun _ _ => ?_) | refine pf_vv ?_ (fun _ => ?_) | refine pf_bv ?_ (fun _ => ?_) | refine pf_pI (by assumption) (fun _ => ?_) | refine pf_pZ (by assumption) (fun _ => ?_) | refine pf_sI (by assumption) (fun _ => ?_) | refine pf_sZ (by assumption) (fun _ => ?_) | refine pf_la (by assumption) (fun _ _ => ?_) | refine pf_bn (fun _ => ?_) | refine pf_ln (fun _ => ?_) | (apply fr_Mod_aimsAtOwnText <;> assumption) | (apply fr_Mod_placeWords <;> assumption) | (apply fr_Mod_lengthenFarJumps <;> assumption) | (apply fr_Mod_settleJumps_52 <;> assumption) | (apply fr_Mod_settleJumps_2 <;> assumption) | apply pf_if))
set_option maxRecDepth 10000 in
theorem fr_Mod_append_13 : ∀ (a0 : Nat) (a1 : Int32) (a2 : Int32) (a3 : Int32) (t0 : Int32) (I : fm_I), sd false a0 → pF false (fn_Mod_append_13 a0 a1 a2 a3 t0 I) I := by
  intro a0 a1 a2 a3 t0 I ha0
  unfold fn_Mod_append_13
  repeat' (with_reducible (first | exact pf_ri | exact pf_rv | exact pf_rz | refine pf_gi (fun _ => ?_) | refine pf_gr (by assumption) (fun _ _ => ?_) | refine pf_ld (fun _ => ?_) | refine pf_vi ?_ (fun _ _ => ?_) | refine pf_bi ?_ (fun _ _ => ?_) | refine pf_vv ?_ (fun _ => ?_) | refine pf_bv ?_ (fun _ => ?_) | refine pf_pI (by assumption) (fun _ => ?_) | refine pf_pZ (by assumption) (fun _ => ?_) | refine pf_sI (by assumption) (fun _ => ?_) | refine pf_sZ (by assumption) (fun _ => ?_) | refine pf_la (by assumption) (fun _ _ => ?_) | refine pf_bn (fun _ => ?_) | refine pf_ln (fun _ => ?_) | (apply fr_Mod_currentSection <;> assumption) | (apply fr_Mod_noteName <;> assumption) | (apply fr_Mod_settleJumps <;> assumption) | apply pf_if))
set_option maxRecDepth 10000 in
theorem fr_Mod_append (a0 : Nat) (a1 : Int32) (a2 : Int32) (a3 : Int32) (I : fm_I) (h0 : sd false a0) : pF false (fn_Mod_append a0 a1 a2 a3 I) I := by
  unfold fn_Mod_append
  repeat' (with_reducible (first | exact pf_ri | exact pf_rv | exact pf_rz | refine pf_gi (fun _ => ?_) | refine pf_gr (by assumption) (fun _ _ => ?_) | refine pf_ld (fun _ => ?_) | refine pf_vi ?_ (fun _ _ => ?_) | refine pf_bi ?_ (fun _ _ => ?_) | refine pf_vv ?_ (fun _ => ?_) | refine pf_bv ?_ (fun _ => ?_) | refine pf_pI (by assumption) (fun _ => ?_) | refine pf_pZ (by assumption) (fun _ => ?_) | refine pf_sI (by assumption) (fun _ => ?_) | refine pf_sZ (by assumption) (fun _ => ?_) | refine pf_la (by assumption) (fun _ _ => ?_) | refine pf_bn (fun _ => ?_) | refine pf_ln (fun _ => ?_) | (apply fr_Mod_currentSection <;> assumption) | (apply fr_Mod_noteName <;> assumption) | (apply fr_Mod_settleJumps <;> assumption) | (apply fr_Mod_append_13 <;> assumption) | apply pf_if))
set_option maxRecDepth 10000 in
theorem fr_SL_add (a0 : Nat) (a1 : Int32) (a2 : Int32) (a3 : Int32) (a4 : Int32) (I : fm_I) (h0 : sd false a0) : pF false (fn_SL_add a0 a1 a2 a3 a4 I) I := by
  unfold fn_SL_add
  repeat' (with_reducible (first | exact pf_ri | exact pf_rv | exact pf_rz | refine pf_gi (fun _ => ?_) | refine pf_gr (by assumption) (fun _ _ => ?_) | refine pf_ld (fun _ => ?_) | refine pf_vi ?_ (fun _ _ => ?_) | refine pf_bi ?_ (fun _ _ => ?_) | refine pf_vv ?_ (fun _ => ?_) | refine pf_bv ?_ (fun _ => ?_) | refine pf_pI (by assumption) (fun _ => ?_) | refine pf_pZ (by assumption) (fun _ => ?_) | refine pf_sI (by assumption) (fun _ => ?_) | refine pf_sZ (by assumption) (fun _ => ?_) | refine pf_la (by assumption) (fun _ _ => ?_) | refine pf_bn (fun _ => ?_) | refine pf_ln (fun _ => ?_) | (apply fr_SL_isModule <;> assumption) | (apply fr_Mod_accepts <;> assumption) | (apply fr_Mod_append <;> assumption) | apply pf_if))
set_option maxRecDepth 10000 in
theorem fr_Mod_takeAllAway (a0 : Nat) (I : fm_I) (h0 : sd false a0) : pF false (fn_Mod_takeAllAway a0 I) I := by
  unfold fn_Mod_takeAllAway
  repeat' (with_reducible (first | exact pf_ri | exact pf_rv | exact pf_rz | refine pf_gi (fun _ => ?_) | refine pf_gr (by assumption) (fun _ _ => ?_) | refine pf_ld (fun _ => ?_) | refine pf_vi ?_ (fun _ _ => ?_) | refine pf_bi ?_ (fun _ _ => ?_) | refine pf_vv ?_ (fun _ => ?_) | refine pf_bv ?_ (fun _ => ?_) | refine pf_pI (by assumption) (fun _ => ?_) | refine pf_pZ (by assumption) (fun _ => ?_) | refine pf_sI (by assumption) (fun _ => ?_) | refine pf_sZ (by assumption) (fun _ => ?_) | refine pf_la (by assumption) (fun _ _ => ?_) | refine pf_bn (fun _ => ?_) | refine pf_ln (fun _ => ?_) | (apply fr_Mod_settleJumps <;> assumption) | apply pf_if))
set_option maxRecDepth 10000 in
theorem fr_SL_clear (a0 : Nat) (a1 : Int32) (I : fm_I) (h0 : sd false a0) : pF false (fn_SL_clear a0 a1 I) I := by
  unfold fn_SL_clear
  repeat' (with_reducible (first | exact pf_ri | exact pf_rv | exact pf_rz | refine pf_gi (fun _ => ?_) | refine pf_gr (by assumption) (fun _ _ => ?_) | refine pf_ld (fun _ => ?_) | refine pf_vi ?_ (fun _ _ => ?_) | refine pf_bi ?_ (fun _ _ => ?_) | refine pf_vv ?_ (fun _ => ?_) | refine pf_bv ?_ (fun _ => ?_) | refine pf_pI (by assumption) (fun _ => ?_) | refine pf_pZ (by assumption) (fun _ => ?_) | refine pf_sI (by assumption) (fun _ => ?_) | refine pf_sZ (by assumption) (fun _ => ?_) | refine pf_la (by assumption) (fun _ _ => ?_) | refine pf_bn (fun _ => ?_) | refine pf_ln (fun _ => ?_) | (apply fr_SL_isModule <;> assumption) | (apply fr_Mod_takeAllAway <;> assumption) | apply pf_if))
set_option maxRecDepth 10000 in
theorem fr_Mod_wordsIn (a0 : Nat) (a1 : Int32) (I : fm_I) (h0 : sd false a0) : pF false (fn_Mod_wordsIn a0 a1 I) I := by
  unfold fn_Mod_wordsIn
  repeat' (with_reducible (first | exact pf_ri | exact pf_rv | exact pf_rz | refine pf_gi (fun _ => ?_) | refine pf_gr (by assumption) (fun _ _ => ?_) | refine pf_ld (fun _ => ?_) | refine pf_vi ?_ (fun _ _ => ?_) | refine pf_bi ?_ (fun _ _ => ?_) | refine pf_vv ?_ (fun _ => ?_) | refine pf_bv ?_ (fun _ => ?_) | refine pf_pI (by assumption) (fun _ => ?_) | refine pf_pZ (by assumption) (fun _ => ?_) | refine pf_sI (by assumption) (fun _ => ?_) | refine pf_sZ (by assumption) (fun _ => ?_) | refine pf_la (by assumption) (fun _ _ => ?_) | refine pf_bn (fun _ => ?_) | refine pf_ln (fun _ => ?_) | apply pf_if))
set_option maxRecDepth 10000 in
theorem fr_SL_length (a0 : Nat) (a1 : Int32) (a2 : Int32) (I : fm_I) (h0 : sd false a0) : pF false (fn_SL_length a0 a1 a2 I) I := by
  unfold fn_SL_length
  repeat' (with_reducible (first | exact pf_ri | exact pf_rv | exact pf_rz | refine pf_gi (fun _ => ?_) | refine pf_gr (by assumption) (fun _ _ => ?_) | refine pf_ld (fun _ => ?_) | refine pf_vi ?_ (fun _ _ => ?_) | refine pf_bi ?_ (fun _ _ => ?_) | refine pf_vv ?_ (fun _ => ?_) | refine pf_bv ?_ (fun _ => ?_) | refine pf_pI (by assumption) (fun _ => ?_) | refine pf_pZ (by assumption) (fun _ => ?_) | refine pf_sI (by assumption) (fun _ => ?_) | refine pf_sZ (by assumption) (fun _ => ?_) | refine pf_la (by assumption) (fun _ _ => ?_) | refine pf_bn (fun _ => ?_) | refine pf_ln (fun _ => ?_) | (apply fr_SL_isModule <;> assumption) | (apply fr_SL_isSection <;> assumption) | (apply fr_Mod_wordsIn <;> assumption) | apply pf_if))
set_option maxRecDepth 10000 in
theorem fr_Mod_isLongJump (a0 : Nat) (a1 : Int32) (I : fm_I) (h0 : sd false a0) : pF false (fn_Mod_isLongJump a0 a1 I) I := by
  unfold fn_Mod_isLongJump
  repeat' (with_reducible (first | exact pf_ri | exact pf_rv | exact pf_rz | refine pf_gi (fun _ => ?_) | refine pf_gr (by assumption) (fun _ _ => ?_) | refine pf_ld (fun _ => ?_) | refine pf_vi ?_ (fun _ _ => ?_) | refine pf_bi ?_ (fun _ _ => ?_) | refine pf_vv ?_ (fun _ => ?_) | refine pf_bv ?_ (fun _ => ?_) | refine pf_pI (by assumption) (fun _ => ?_) | refine pf_pZ (by assumption) (fun _ => ?_) | refine pf_sI (by assumption) (fun _ => ?_) | refine pf_sZ (by assumption) (fun _ => ?_) | refine pf_la (by assumption) (fun _ _ => ?_) | refine pf_bn (fun _ => ?_) | refine pf_ln (fun _ => ?_) | apply pf_if))
set_option maxRecDepth 10000 in
theorem fr_SL_isLong (a0 : Nat) (a1 : Int32) (a2 : Int32) (I : fm_I) (h0 : sd false a0) : pF false (fn_SL_isLong a0 a1 a2 I) I := by
  unfold fn_SL_isLong
  repeat' (with_reducible (first | exact pf_ri | exact pf_rv | exact pf_rz | refine pf_gi (fun _ => ?_) | refine pf_gr (by assumption) (fun _ _ => ?_) | refine pf_ld (fun _ => ?_) | refine pf_vi ?_ (fun _ _ => ?_) | refine pf_bi ?_ (fun _ _ => ?_) | refine pf_vv ?_ (fun _ => ?_) | refine pf_bv ?_ (fun _ => ?_) | refine pf_pI (by assumption) (fun _ => ?_) | refine pf_pZ (by assumption) (fun _ => ?_) | refine pf_sI (by assumption) (fun _ => ?_) | refine pf_sZ (by assumption) (fun _ => ?_) | refine pf_la (by assumption) (fun _ _ => ?_) | refine pf_bn (fun _ => ?_) | refine pf_ln (fun _ => ?_) | (apply fr_SL_isModule <;> assumption) | (apply fr_Mod_isLongJump <;> assumption) | apply pf_if))
set_option maxRecDepth 10000 in
theorem fr_Row_placeOf_2 (n : Nat) : ∀ (a0 : Nat) (a1 : Int32) (a2 : Int32) (I : fm_I), sd false a0 → pF false (fn_Row_placeOf_2 n a0 a1 a2 I) I := by
  induction n with
  | zero =>
    intro a0 a1 a2 I ha0
    unfold fn_Row_placeOf_2
    exact pf_none
  | succ n ih =>
    intro a0 a1 a2 I ha0
    unfold fn_Row_placeOf_2
    repeat' (with_reducible (first | exact pf_ri | exact pf_rv | exact pf_rz | refine pf_gi (fun _ => ?_) | refine pf_gr (by assumption) (fun _ _ => ?_) | refine pf_ld (fun _ => ?_) | refine pf_vi ?_ (fun _ _ => ?_) | refine pf_bi ?_ (fun _ _ => ?_) | refine pf_vv ?_ (fun _ => ?_) | refine pf_bv ?_ (fun _ => ?_) | refine pf_pI (by assumption) (fun _ => ?_) | refine pf_pZ (by assumption) (fun _ => ?_) | refine pf_sI (by assumption) (fun _ => ?_) | refine pf_sZ (by assumption) (fun _ => ?_) | refine pf_la (by assumption) (fun _ _ => ?_) | refine pf_bn (fun _ => ?_) | refine pf_ln (fun _ => ?_) | (apply ih <;> assumption) | apply pf_if))
set_option maxRecDepth 10000 in
theorem fr_Row_placeOf (a0 : Nat) (a1 : Int32) (I : fm_I) (h0 : sd false a0) : pF false (fn_Row_placeOf a0 a1 I) I := by
  unfold fn_Row_placeOf
  repeat' (with_reducible (first | exact pf_ri | exact pf_rv | exact pf_rz | refine pf_gi (fun _ => ?_) | refine pf_gr (by assumption) (fun _ _ => ?_) | refine pf_ld (fun _ => ?_) | refine pf_vi ?_ (fun _ _ => ?_) | refine pf_bi ?_ (fun _ _ => ?_) | refine pf_vv ?_ (fun _ => ?_) | refine pf_bv ?_ (fun _ => ?_) | refine pf_pI (by assumption) (fun _ => ?_) | refine pf_pZ (by assumption) (fun _ => ?_) | refine pf_sI (by assumption) (fun _ => ?_) | refine pf_sZ (by assumption) (fun _ => ?_) | refine pf_la (by assumption) (fun _ _ => ?_) | refine pf_bn (fun _ => ?_) | refine pf_ln (fun _ => ?_) | (apply fr_Row_placeOf_2 <;> assumption) | apply pf_if))
set_option maxRecDepth 10000 in
theorem fr_Row_holds (a0 : Nat) (a1 : Int32) (I : fm_I) (h0 : sd false a0) : pF false (fn_Row_holds a0 a1 I) I := by
  unfold fn_Row_holds
  repeat' (with_reducible (first | exact pf_ri | exact pf_rv | exact pf_rz | refine pf_gi (fun _ => ?_) | refine pf_gr (by assumption) (fun _ _ => ?_) | refine pf_ld (fun _ => ?_) | refine pf_vi ?_ (fun _ _ => ?_) | refine pf_bi ?_ (fun _ _ => ?_) | refine pf_vv ?_ (fun _ => ?_) | refine pf_bv ?_ (fun _ => ?_) | refine pf_pI (by assumption) (fun _ => ?_) | refine pf_pZ (by assumption) (fun _ => ?_) | refine pf_sI (by assumption) (fun _ => ?_) | refine pf_sZ (by assumption) (fun _ => ?_) | refine pf_la (by assumption) (fun _ _ => ?_) | refine pf_bn (fun _ => ?_) | refine pf_ln (fun _ => ?_) | (apply fr_Row_placeOf <;> assumption) | apply pf_if))
set_option maxRecDepth 10000 in
theorem fr_SL_mayStandBefore (a0 : Nat) (a1 : Int32) (a2 : Int32) (I : fm_I) (h0 : sd false a0) : pF false (fn_SL_mayStandBefore a0 a1 a2 I) I := by
  unfold fn_SL_mayStandBefore
  repeat' (with_reducible (first | exact pf_ri | exact pf_rv | exact pf_rz | refine pf_gi (fun _ => ?_) | refine pf_gr (by assumption) (fun _ _ => ?_) | refine pf_ld (fun _ => ?_) | refine pf_vi ?_ (fun _ _ => ?_) | refine pf_bi ?_ (fun _ _ => ?_) | refine pf_vv ?_ (fun _ => ?_) | refine pf_bv ?_ (fun _ => ?_) | refine pf_pI (by assumption) (fun _ => ?_) | refine pf_pZ (by assumption) (fun _ => ?_) | refine pf_sI (by assumption) (fun _ => ?_) | refine pf_sZ (by assumption) (fun _ => ?_) | refine pf_la (by assumption) (fun _ _ => ?_) | refine pf_bn (fun _ => ?_) | refine pf_ln (fun _ => ?_) | (apply fr_Row_holds <;> assumption) | apply pf_if))
set_option maxRecDepth 10000 in
theorem fr_Row_takeOut_25 (n : Nat) : ∀ (a0 : Nat) (a3 : Int32) (I : fm_I), sd false a0 → pF false (fn_Row_takeOut_25 n a0 a3 I) I := by
  induction n with
  | zero =>
    intro a0 a3 I ha0
    unfold fn_Row_takeOut_25
    exact pf_none
  | succ n ih =>
    intro a0 a3 I ha0
    unfold fn_Row_takeOut_25
    repeat' (with_reducible (first | exact pf_ri | exact pf_rv | exact pf_rz | refine pf_gi (fun _ => ?_) | refine pf_gr (by assumption) (fun _ _ => ?_) | refine pf_ld (fun _ => ?_) | refine pf_vi ?_ (fun _ _ => ?_) | refine pf_bi ?_ (fun _ _ => ?_) | refine pf_vv ?_ (fun _ => ?_) | refine pf_bv ?_ (fun _ => ?_) | refine pf_pI (by assumption) (fun _ => ?_) | refine pf_pZ (by assumption) (fun _ => ?_) | refine pf_sI (by assumption) (fun _ => ?_) | refine pf_sZ (by assumption) (fun _ => ?_) | refine pf_la (by assumption) (fun _ _ => ?_) | refine pf_bn (fun _ => ?_) | refine pf_ln (fun _ => ?_) | (apply fr_Row_placeOf <;> assumption) | (apply ih <;> assumption) | apply pf_if))
set_option maxRecDepth 10000 in
theorem fr_Row_takeOut (a0 : Nat) (a1 : Int32) (I : fm_I) (h0 : sd false a0) : pF false (fn_Row_takeOut a0 a1 I) I := by
  unfold fn_Row_takeOut
  repeat' (with_reducible (first | exact pf_ri | exact pf_rv | exact pf_rz | refine pf_gi (fun _ => ?_) | refine pf_gr (by assumption) (fun _ _ => ?_) | refine pf_ld (fun _ => ?_) | refine pf_vi ?_ (fun _ _ => ?_) | refine pf_bi ?_ (fun _ _ => ?_) | refine pf_vv ?_ (fun _ => ?_) | refine pf_bv ?_ (fun _ => ?_) | refine pf_pI (by assumption) (fun _ => ?_) | refine pf_pZ (by assumption) (fun _ => ?_) | refine pf_sI (by assumption) (fun _ => ?_) | refine pf_sZ (by assumption) (fun _ => ?_) | refine pf_la (by assumption) (fun _ _ => ?_) | refine pf_bn (fun _ => ?_) | refine pf_ln (fun _ => ?_) | (apply fr_Row_placeOf <;> assumption) | (apply fr_Row_takeOut_25 <;> assumption) | apply pf_if))
set_option maxRecDepth 10000 in
theorem fr_Row_insert_31 (n : Nat) : ∀ (a0 : Nat) (a1 : Int32) (a2 : Int32) (a3 : Int32) (I : fm_I), sd false a0 → pF false (fn_Row_insert_31 n a0 a1 a2 a3 I) I := by
  induction n with
  | zero =>
    intro a0 a1 a2 a3 I ha0
    unfold fn_Row_insert_31
    exact pf_none
  | succ n ih =>
    intro a0 a1 a2 a3 I ha0
    unfold fn_Row_insert_31
    repeat' (with_reducible (first | exact pf_ri | exact pf_rv | exact pf_rz | refine pf_gi (fun _ => ?_) | refine pf_gr (by assumption) (fun _ _ => ?_) | refine pf_ld (fun _ => ?_) | refine pf_vi ?_ (fun _ _ => ?_) | refine pf_bi ?_ (fun _ _ => ?_) | refine pf_vv ?_ (fun _ => ?_) | refine pf_bv ?_ (fun _ => ?_) | refine pf_pI (by assumption) (fun _ => ?_) | refine pf_pZ (by assumption) (fun _ => ?_) | refine pf_sI (by assumption) (fun _ => ?_) | refine pf_sZ (by assumption) (fun _ => ?_) | refine pf_la (by assumption) (fun _ _ => ?_) | refine pf_bn (fun _ => ?_) | refine pf_ln (fun _ => ?_) | (apply ih <;> assumption) | apply pf_if))
set_option maxRecDepth 10000 in
theorem fr_Row_insert (a0 : Nat) (a1 : Int32) (a2 : Int32) (I : fm_I) (h0 : sd false a0) : pF false (fn_Row_insert a0 a1 a2 I) I := by
  unfold fn_Row_insert
  repeat' (with_reducible (first | exact pf_ri | exact pf_rv | exact pf_rz | refine pf_gi (fun _ => ?_) | refine pf_gr (by assumption) (fun _ _ => ?_) | refine pf_ld (fun _ => ?_) | refine pf_vi ?_ (fun _ _ => ?_) | refine pf_bi ?_ (fun _ _ => ?_) | refine pf_vv ?_ (fun _ => ?_) | refine pf_bv ?_ (fun _ => ?_) | refine pf_pI (by assumption) (fun _ => ?_) | refine pf_pZ (by assumption) (fun _ => ?_) | refine pf_sI (by assumption) (fun _ => ?_) | refine pf_sZ (by assumption) (fun _ => ?_) | refine pf_la (by assumption) (fun _ _ => ?_) | refine pf_bn (fun _ => ?_) | refine pf_ln (fun _ => ?_) | (apply fr_Row_insert_31 <;> assumption) | apply pf_if))
set_option maxRecDepth 10000 in
theorem fr_Row_append (a0 : Nat) (a1 : Int32) (I : fm_I) (h0 : sd false a0) : pF false (fn_Row_append a0 a1 I) I := by
  unfold fn_Row_append
  repeat' (with_reducible (first | exact pf_ri | exact pf_rv | exact pf_rz | refine pf_gi (fun _ => ?_) | refine pf_gr (by assumption) (fun _ _ => ?_) | refine pf_ld (fun _ => ?_) | refine pf_vi ?_ (fun _ _ => ?_) | refine pf_bi ?_ (fun _ _ => ?_) | refine pf_vv ?_ (fun _ => ?_) | refine pf_bv ?_ (fun _ => ?_) | refine pf_pI (by assumption) (fun _ => ?_) | refine pf_pZ (by assumption) (fun _ => ?_) | refine pf_sI (by assumption) (fun _ => ?_) | refine pf_sZ (by assumption) (fun _ => ?_) | refine pf_la (by assumption) (fun _ _ => ?_) | refine pf_bn (fun _ => ?_) | refine pf_ln (fun _ => ?_) | (apply fr_Row_insert <;> assumption) | apply pf_if))
set_option maxRecDepth 10000 in
theorem fr_SL_store (a0 : Nat) (a1 : Int32) (a2 : Int32) (I : fm_I) (h0 : sd false a0) : pF false (fn_SL_store a0 a1 a2 I) I := by
  unfold fn_SL_store
  repeat' (with_reducible (first | exact pf_ri | exact pf_rv | exact pf_rz | refine pf_gi (fun _ => ?_) | refine pf_gr (by assumption) (fun _ _ => ?_) | refine pf_ld (fun _ => ?_) | refine pf_vi ?_ (fun _ _ => ?_) | refine pf_bi ?_ (fun _ _ => ?_) | refine pf_vv ?_ (fun _ => ?_) | refine pf_bv ?_ (fun _ => ?_) | refine pf_pI (by assumption) (fun _ => ?_) | refine pf_pZ (by assumption) (fun _ => ?_) | refine pf_sI (by assumption) (fun _ => ?_) | refine pf_sZ (by assumption) (fun _ => ?_) | refine pf_la (by assumption) (fun _ _ => ?_) | refine pf_bn (fun _ => ?_) | refine pf_ln (fun _ => ?_) | (apply fr_SL_isModule <;> assumption) | (apply fr_Row_holds <;> assumption) | (apply fr_SL_mayStandBefore <;> assumption) | (apply fr_Row_takeOut <;> assumption) | (apply fr_Row_append <;> assumption) | (apply fr_Row_placeOf <;> assumption) | (apply fr_Row_insert <;> assumption) | apply pf_if))
set_option maxRecDepth 10000 in
theorem fr_SL_remove (a0 : Nat) (a1 : Int32) (I : fm_I) (h0 : sd false a0) : pF false (fn_SL_remove a0 a1 I) I := by
  unfold fn_SL_remove
  repeat' (with_reducible (first | exact pf_ri | exact pf_rv | exact pf_rz | refine pf_gi (fun _ => ?_) | refine pf_gr (by assumption) (fun _ _ => ?_) | refine pf_ld (fun _ => ?_) | refine pf_vi ?_ (fun _ _ => ?_) | refine pf_bi ?_ (fun _ _ => ?_) | refine pf_vv ?_ (fun _ => ?_) | refine pf_bv ?_ (fun _ => ?_) | refine pf_pI (by assumption) (fun _ => ?_) | refine pf_pZ (by assumption) (fun _ => ?_) | refine pf_sI (by assumption) (fun _ => ?_) | refine pf_sZ (by assumption) (fun _ => ?_) | refine pf_la (by assumption) (fun _ _ => ?_) | refine pf_bn (fun _ => ?_) | refine pf_ln (fun _ => ?_) | (apply fr_Row_takeOut <;> assumption) | apply pf_if))
set_option maxRecDepth 10000 in
theorem fr_Row_at (a0 : Nat) (a1 : Int32) (I : fm_I) (h0 : sd false a0) : pF false (fn_Row_at a0 a1 I) I := by
  unfold fn_Row_at
  repeat' (with_reducible (first | exact pf_ri | exact pf_rv | exact pf_rz | refine pf_gi (fun _ => ?_) | refine pf_gr (by assumption) (fun _ _ => ?_) | refine pf_ld (fun _ => ?_) | refine pf_vi ?_ (fun _ _ => ?_) | refine pf_bi ?_ (fun _ _ => ?_) | refine pf_vv ?_ (fun _ => ?_) | refine pf_bv ?_ (fun _ => ?_) | refine pf_pI (by assumption) (fun _ => ?_) | refine pf_pZ (by assumption) (fun _ => ?_) | refine pf_sI (by assumption) (fun _ => ?_) | refine pf_sZ (by assumption) (fun _ => ?_) | refine pf_la (by assumption) (fun _ _ => ?_) | refine pf_bn (fun _ => ?_) | refine pf_ln (fun _ => ?_) | apply pf_if))
set_option maxRecDepth 10000 in
theorem fr_SL_member (a0 : Nat) (a1 : Int32) (I : fm_I) (h0 : sd false a0) : pF false (fn_SL_member a0 a1 I) I := by
  unfold fn_SL_member
  repeat' (with_reducible (first | exact pf_ri | exact pf_rv | exact pf_rz | refine pf_gi (fun _ => ?_) | refine pf_gr (by assumption) (fun _ _ => ?_) | refine pf_ld (fun _ => ?_) | refine pf_vi ?_ (fun _ _ => ?_) | refine pf_bi ?_ (fun _ _ => ?_) | refine pf_vv ?_ (fun _ => ?_) | refine pf_bv ?_ (fun _ => ?_) | refine pf_pI (by assumption) (fun _ => ?_) | refine pf_pZ (by assumption) (fun _ => ?_) | refine pf_sI (by assumption) (fun _ => ?_) | refine pf_sZ (by assumption) (fun _ => ?_) | refine pf_la (by assumption) (fun _ _ => ?_) | refine pf_bn (fun _ => ?_) | refine pf_ln (fun _ => ?_) | (apply fr_Row_at <;> assumption) | apply pf_if))
set_option maxRecDepth 10000 in
theorem fr_SL_isFreeModule (a0 : Nat) (a1 : Int32) (I : fm_I) (h0 : sd false a0) : pF false (fn_SL_isFreeModule a0 a1 I) I := by
  unfold fn_SL_isFreeModule
  repeat' (with_reducible (first | exact pf_ri | exact pf_rv | exact pf_rz | refine pf_gi (fun _ => ?_) | refine pf_gr (by assumption) (fun _ _ => ?_) | refine pf_ld (fun _ => ?_) | refine pf_vi ?_ (fun _ _ => ?_) | refine pf_bi ?_ (fun _ _ => ?_) | refine pf_vv ?_ (fun _ => ?_) | refine pf_bv ?_ (fun _ => ?_) | refine pf_pI (by assumption) (fun _ => ?_) | refine pf_pZ (by assumption) (fun _ => ?_) | refine pf_sI (by assumption) (fun _ => ?_) | refine pf_sZ (by assumption) (fun _ => ?_) | refine pf_la (by assumption) (fun _ _ => ?_) | refine pf_bn (fun _ => ?_) | refine pf_ln (fun _ => ?_) | (apply fr_SL_isModule <;> assumption) | (apply fr_Row_holds <;> assumption) | apply pf_if))
set_option maxRecDepth 10000 in
theorem fr_SL_item (a0 : Nat) (a1 : Int32) (I : fm_I) (h0 : sd false a0) : pF false (fn_SL_item a0 a1 I) I := by
  unfold fn_SL_item
  repeat' (with_reducible (first | exact pf_ri | exact pf_rv | exact pf_rz | refine pf_gi (fun _ => ?_) | refine pf_gr (by assumption) (fun _ _ => ?_) | refine pf_ld (fun _ => ?_) | refine pf_vi ?_ (fun _ _ => ?_) | refine pf_bi ?_ (fun _ _ => ?_) | refine pf_vv ?_ (fun _ => ?_) | refine pf_bv ?_ (fun _ => ?_) | refine pf_pI (by assumption) (fun _ => ?_) | refine pf_pZ (by assumption) (fun _ => ?_) | refine pf_sI (by assumption) (fun _ => ?_) | refine pf_sZ (by assumption) (fun _ => ?_) | refine pf_la (by assumption) (fun _ _ => ?_) | refine pf_bn (fun _ => ?_) | refine pf_ln (fun _ => ?_) | (apply fr_SL_isFreeModule <;> assumption) | (apply fr_Row_append <;> assumption) | apply pf_if))
set_option maxRecDepth 10000 in
theorem fr_Row_makeEmpty (a0 : Nat) (I : fm_I) (h0 : sd false a0) : pF false (fn_Row_makeEmpty a0 I) I := by
  unfold fn_Row_makeEmpty
  repeat' (with_reducible (first | exact pf_ri | exact pf_rv | exact pf_rz | refine pf_gi (fun _ => ?_) | refine pf_gr (by assumption) (fun _ _ => ?_) | refine pf_ld (fun _ => ?_) | refine pf_vi ?_ (fun _ _ => ?_) | refine pf_bi ?_ (fun _ _ => ?_) | refine pf_vv ?_ (fun _ => ?_) | refine pf_bv ?_ (fun _ => ?_) | refine pf_pI (by assumption) (fun _ => ?_) | refine pf_pZ (by assumption) (fun _ => ?_) | refine pf_sI (by assumption) (fun _ => ?_) | refine pf_sZ (by assumption) (fun _ => ?_) | refine pf_la (by assumption) (fun _ _ => ?_) | refine pf_bn (fun _ => ?_) | refine pf_ln (fun _ => ?_) | apply pf_if))
set_option maxRecDepth 10000 in
theorem fr_SL_newLine (a0 : Nat) (I : fm_I) (h0 : sd false a0) : pF false (fn_SL_newLine a0 I) I := by
  unfold fn_SL_newLine
  repeat' (with_reducible (first | exact pf_ri | exact pf_rv | exact pf_rz | refine pf_gi (fun _ => ?_) | refine pf_gr (by assumption) (fun _ _ => ?_) | refine pf_ld (fun _ => ?_) | refine pf_vi ?_ (fun _ _ => ?_) | refine pf_bi ?_ (fun _ _ => ?_) | refine pf_vv ?_ (fun _ => ?_) | refine pf_bv ?_ (fun _ => ?_) | refine pf_pI (by assumption) (fun _ => ?_) | refine pf_pZ (by assumption) (fun _ => ?_) | refine pf_sI (by assumption) (fun _ => ?_) | refine pf_sZ (by assumption) (fun _ => ?_) | refine pf_la (by assumption) (fun _ _ => ?_) | refine pf_bn (fun _ => ?_) | refine pf_ln (fun _ => ?_) | (apply fr_Row_makeEmpty <;> assumption) | apply pf_if))
set_option maxRecDepth 10000 in
theorem fr_Img_throwAway (a0 : Nat) (I : fm_I) (h0 : sd false a0) : pF false (fn_Img_throwAway a0 I) I := by
  unfold fn_Img_throwAway
  repeat' (with_reducible (first | exact pf_ri | exact pf_rv | exact pf_rz | refine pf_gi (fun _ => ?_) | refine pf_gr (by assumption) (fun _ _ => ?_) | refine pf_ld (fun _ => ?_) | refine pf_vi ?_ (fun _ _ => ?_) | refine pf_bi ?_ (fun _ _ => ?_) | refine pf_vv ?_ (fun _ => ?_) | refine pf_bv ?_ (fun _ => ?_) | refine pf_pI (by assumption) (fun _ => ?_) | refine pf_pZ (by assumption) (fun _ => ?_) | refine pf_sI (by assumption) (fun _ => ?_) | refine pf_sZ (by assumption) (fun _ => ?_) | refine pf_la (by assumption) (fun _ _ => ?_) | refine pf_bn (fun _ => ?_) | refine pf_ln (fun _ => ?_) | apply pf_if))
set_option maxRecDepth 10000 in
theorem fr_Mac_throwAway (a0 : Nat) (I : fm_I) (h0 : sd false a0) : pF false (fn_Mac_throwAway a0 I) I := by
  unfold fn_Mac_throwAway
  repeat' (with_reducible (first | exact pf_ri | exact pf_rv | exact pf_rz | refine pf_gi (fun _ => ?_) | refine pf_gr (by assumption) (fun _ _ => ?_) | refine pf_ld (fun _ => ?_) | refine pf_vi ?_ (fun _ _ => ?_) | refine pf_bi ?_ (fun _ _ => ?_) | refine pf_vv ?_ (fun _ => ?_) | refine pf_bv ?_ (fun _ => ?_) | refine pf_pI (by assumption) (fun _ => ?_) | refine pf_pZ (by assumption) (fun _ => ?_) | refine pf_sI (by assumption) (fun _ => ?_) | refine pf_sZ (by assumption) (fun _ => ?_) | refine pf_la (by assumption) (fun _ _ => ?_) | refine pf_bn (fun _ => ?_) | refine pf_ln (fun _ => ?_) | apply pf_if))
set_option maxRecDepth 10000 in
theorem fr_Row_howMany (a0 : Nat) (I : fm_I) (h0 : sd false a0) : pF false (fn_Row_howMany a0 I) I := by
  unfold fn_Row_howMany
  repeat' (with_reducible (first | exact pf_ri | exact pf_rv | exact pf_rz | refine pf_gi (fun _ => ?_) | refine pf_gr (by assumption) (fun _ _ => ?_) | refine pf_ld (fun _ => ?_) | refine pf_vi ?_ (fun _ _ => ?_) | refine pf_bi ?_ (fun _ _ => ?_) | refine pf_vv ?_ (fun _ => ?_) | refine pf_bv ?_ (fun _ => ?_) | refine pf_pI (by assumption) (fun _ => ?_) | refine pf_pZ (by assumption) (fun _ => ?_) | refine pf_sI (by assumption) (fun _ => ?_) | refine pf_sZ (by assumption) (fun _ => ?_) | refine pf_la (by assumption) (fun _ _ => ?_) | refine pf_bn (fun _ => ?_) | refine pf_ln (fun _ => ?_) | apply pf_if))
set_option maxRecDepth 10000 in
theorem fr_Mod_exportedNames (a0 : Nat) (I : fm_I) (h0 : sd false a0) : pF false (fn_Mod_exportedNames a0 I) I := by
  unfold fn_Mod_exportedNames
  repeat' (with_reducible (first | exact pf_ri | exact pf_rv | exact pf_rz | refine pf_gi (fun _ => ?_) | refine pf_gr (by assumption) (fun _ _ => ?_) | refine pf_ld (fun _ => ?_) | refine pf_vi ?_ (fun _ _ => ?_) | refine pf_bi ?_ (fun _ _ => ?_) | refine pf_vv ?_ (fun _ => ?_) | refine pf_bv ?_ (fun _ => ?_) | refine pf_pI (by assumption) (fun _ => ?_) | refine pf_pZ (by assumption) (fun _ => ?_) | refine pf_sI (by assumption) (fun _ => ?_) | refine pf_sZ (by assumption) (fun _ => ?_) | refine pf_la (by assumption) (fun _ _ => ?_) | refine pf_bn (fun _ => ?_) | refine pf_ln (fun _ => ?_) | apply pf_if))
set_option maxRecDepth 10000 in
theorem fr_Inc_wantedNames (a0 : Nat) (I : fm_I) (h0 : sd false a0) : pF false (fn_Inc_wantedNames a0 I) I := by
  unfold fn_Inc_wantedNames
  repeat' (with_reducible (first | exact pf_ri | exact pf_rv | exact pf_rz | refine pf_gi (fun _ => ?_) | refine pf_gr (by assumption) (fun _ _ => ?_) | refine pf_ld (fun _ => ?_) | refine pf_vi ?_ (fun _ _ => ?_) | refine pf_bi ?_ (fun _ _ => ?_) | refine pf_vv ?_ (fun _ => ?_) | refine pf_bv ?_ (fun _ => ?_) | refine pf_pI (by assumption) (fun _ => ?_) | refine pf_pZ (by assumption) (fun _ => ?_) | refine pf_sI (by assumption) (fun _ => ?_) | refine pf_sZ (by assumption) (fun _ => ?_) | refine pf_la (by assumption) (fun _ _ => ?_) | refine pf_bn (fun _ => ?_) | refine pf_ln (fun _ => ?_) | apply pf_if))
set_option maxRecDepth 10000 in
theorem fr_Inc_exportsWantedName (a0 : Nat) (a1 : Int32) (I : fm_I) (h0 : sd false a0) : pF false (fn_Inc_exportsWantedName a0 a1 I) I := by
  unfold fn_Inc_exportsWantedName
  repeat' (with_reducible (first | exact pf_ri | exact pf_rv | exact pf_rz | refine pf_gi (fun _ => ?_) | refine pf_gr (by assumption) (fun _ _ => ?_) | refine pf_ld (fun _ => ?_) | refine pf_vi ?_ (fun _ _ => ?_) | refine pf_bi ?_ (fun _ _ => ?_) | refine pf_vv ?_ (fun _ => ?_) | refine pf_bv ?_ (fun _ => ?_) | refine pf_pI (by assumption) (fun _ => ?_) | refine pf_pZ (by assumption) (fun _ => ?_) | refine pf_sI (by assumption) (fun _ => ?_) | refine pf_sZ (by assumption) (fun _ => ?_) | refine pf_la (by assumption) (fun _ _ => ?_) | refine pf_bn (fun _ => ?_) | refine pf_ln (fun _ => ?_) | (apply fr_Mod_exportedNames <;> assumption) | (apply fr_Inc_wantedNames <;> assumption) | apply pf_if))
set_option maxRecDepth 10000 in
theorem fr_Mod_commons (a0 : Nat) (I : fm_I) (h0 : sd false a0) : pF false (fn_Mod_commons a0 I) I := by
  unfold fn_Mod_commons
  repeat' (with_reducible (first | exact pf_ri | exact pf_rv | exact pf_rz | refine pf_gi (fun _ => ?_) | refine pf_gr (by assumption) (fun _ _ => ?_) | refine pf_ld (fun _ => ?_) | refine pf_vi ?_ (fun _ _ => ?_) | refine pf_bi ?_ (fun _ _ => ?_) | refine pf_vv ?_ (fun _ => ?_) | refine pf_bv ?_ (fun _ => ?_) | refine pf_pI (by assumption) (fun _ => ?_) | refine pf_pZ (by assumption) (fun _ => ?_) | refine pf_sI (by assumption) (fun _ => ?_) | refine pf_sZ (by assumption) (fun _ => ?_) | refine pf_la (by assumption) (fun _ _ => ?_) | refine pf_bn (fun _ => ?_) | refine pf_ln (fun _ => ?_) | apply pf_if))
set_option maxRecDepth 10000 in
theorem fr_Mod_referredNames (a0 : Nat) (I : fm_I) (h0 : sd false a0) : pF false (fn_Mod_referredNames a0 I) I := by
  unfold fn_Mod_referredNames
  repeat' (with_reducible (first | exact pf_ri | exact pf_rv | exact pf_rz | refine pf_gi (fun _ => ?_) | refine pf_gr (by assumption) (fun _ _ => ?_) | refine pf_ld (fun _ => ?_) | refine pf_vi ?_ (fun _ _ => ?_) | refine pf_bi ?_ (fun _ _ => ?_) | refine pf_vv ?_ (fun _ => ?_) | refine pf_bv ?_ (fun _ => ?_) | refine pf_pI (by assumption) (fun _ => ?_) | refine pf_pZ (by assumption) (fun _ => ?_) | refine pf_sI (by assumption) (fun _ => ?_) | refine pf_sZ (by assumption) (fun _ => ?_) | refine pf_la (by assumption) (fun _ _ => ?_) | refine pf_bn (fun _ => ?_) | refine pf_ln (fun _ => ?_) | apply pf_if))
set_option maxRecDepth 10000 in
theorem fr_Inc_include (a0 : Nat) (a1 : Int32) (I : fm_I) (h0 : sd false a0) : pF false (fn_Inc_include a0 a1 I) I := by
  unfold fn_Inc_include
  repeat' (with_reducible (first | exact pf_ri | exact pf_rv | exact pf_rz | refine pf_gi (fun _ => ?_) | refine pf_gr (by assumption) (fun _ _ => ?_) | refine pf_ld (fun _ => ?_) | refine pf_vi ?_ (fun _ _ => ?_) | refine pf_bi ?_ (fun _ _ => ?_) | refine pf_vv ?_ (fun _ => ?_) | refine pf_bv ?_ (fun _ => ?_) | refine pf_pI (by assumption) (fun _ => ?_) | refine pf_pZ (by assumption) (fun _ => ?_) | refine pf_sI (by assumption) (fun _ => ?_) | refine pf_sZ (by assumption) (fun _ => ?_) | refine pf_la (by assumption) (fun _ _ => ?_) | refine pf_bn (fun _ => ?_) | refine pf_ln (fun _ => ?_) | (apply fr_Row_append <;> assumption) | (apply fr_Mod_exportedNames <;> assumption) | (apply fr_Mod_commons <;> assumption) | (apply fr_Mod_referredNames <;> assumption) | apply pf_if))
set_option maxRecDepth 10000 in
theorem fr_Inc_includeWantedMembers_4 (n : Nat) : ∀ (a0 : Nat) (a1 : Nat) (a2 : Int32) (a3 : Int32) (I : fm_I), sd false a0 → sd false a1 → pF false (fn_Inc_includeWantedMembers_4 n a0 a1 a2 a3 I) I := by
  induction n with
  | zero =>
    intro a0 a1 a2 a3 I ha0 ha1
    unfold fn_Inc_includeWantedMembers_4
    exact pf_none
  | succ n ih =>
    intro a0 a1 a2 a3 I ha0 ha1
    unfold fn_Inc_includeWantedMembers_4
    repeat' (with_reducible (first | exact pf_ri | exact pf_rv | exact pf_rz | refine pf_gi (fun _ => ?_) | refine pf_gr (by assumption) (fun _ _ => ?_) | refine pf_ld (fun _ => ?_) | refine pf_vi ?_ (fun _ _ => ?_) | refine pf_bi ?_ (fun _ _ => ?_) | refine pf_vv ?_ (fun _ => ?_) | refine pf_bv ?_ (fun _ => ?_) | refine pf_pI (by assumption) (fun _ => ?_) | refine pf_pZ (by assumption) (fun _ => ?_) | refine pf_sI (by assumption) (fun _ => ?_) | refine pf_sZ (by assumption) (fun _ => ?_) | refine pf_la (by assumption) (fun _ _ => ?_) | refine pf_bn (fun _ => ?_) | refine pf_ln (fun _ => ?_) | (apply fr_Row_howMany <;> assumption) | (apply fr_Row_at <;> assumption) | (apply fr_Row_holds <;> assumption) | (apply fr_Inc_exportsWantedName <;> assumption) | (apply fr_Inc_include <;> assumption) | (apply ih <;> assumption) | apply pf_if))
set_option maxRecDepth 10000 in
theorem fr_Inc_includeWantedMembers (a0 : Nat) (a1 : Nat) (I : fm_I) (h0 : sd false a0) (h1 : sd false a1) : pF false (fn_Inc_includeWantedMembers a0 a1 I) I := by
  unfold fn_Inc_includeWantedMembers
  repeat' (with_reducible (first | exact pf_ri | exact pf_rv | exact pf_rz | refine pf_gi (fun _ => ?_) | refine pf_gr (by assumption) (fun _ _ => ?_) | refine pf_ld (fun _ => ?_) | refine pf_vi ?_ (fun _ _ => ?_) | refine pf_bi ?_ (fun _ _ => ?_) | refine pf_vv ?_ (fun _ => ?_) | refine pf_bv ?_ (fun _ => ?_) | refine pf_pI (by assumption) (fun _ => ?_) | refine pf_pZ (by assumption) (fun _ => ?_) | refine pf_sI (by assumption) (fun _ => ?_) | refine pf_sZ (by assumption) (fun _ => ?_) | refine pf_la (by assumption) (fun _ _ => ?_) | refine pf_bn (fun _ => ?_) | refine pf_ln (fun _ => ?_) | (apply fr_Row_howMany <;> assumption) | (apply fr_Row_at <;> assumption) | (apply fr_Row_holds <;> assumption) | (apply fr_Inc_exportsWantedName <;> assumption) | (apply fr_Inc_include <;> assumption) | (apply fr_Inc_includeWantedMembers_4 <;> assumption) | apply pf_if))
set_option maxRecDepth 10000 in
theorem fr_Inc_search_2 (n : Nat) : ∀ (a0 : Nat) (a1 : Nat) (a2 : Int32) (I : fm_I), sd false a0 → sd false a1 → pF false (fn_Inc_search_2 n a0 a1 a2 I) I := by
  induction n with
  | zero =>
    intro a0 a1 a2 I ha0 ha1
    unfold fn_Inc_search_2
    exact pf_none
  | succ n ih =>
    intro a0 a1 a2 I ha0 ha1
    unfold fn_Inc_search_2
    repeat' (with_reducible (first | exact pf_ri | exact pf_rv | exact pf_rz | refine pf_gi (fun _ => ?_) | refine pf_gr (by assumption) (fun _ _ => ?_) | refine pf_ld (fun _ => ?_) | refine pf_vi ?_ (fun _ _ => ?_) | refine pf_bi ?_ (fun _ _ => ?_) | refine pf_vv ?_ (fun _ => ?_) | refine pf_bv ?_ (fun _ => ?_) | refine pf_pI (by assumption) (fun _ => ?_) | refine pf_pZ (by assumption) (fun _ => ?_) | refine pf_sI (by assumption) (fun _ => ?_) | refine pf_sZ (by assumption) (fun _ => ?_) | refine pf_la (by assumption) (fun _ _ => ?_) | refine pf_bn (fun _ => ?_) | refine pf_ln (fun _ => ?_) | (apply fr_Inc_includeWantedMembers <;> assumption) | (apply ih <;> assumption) | apply pf_if))
set_option maxRecDepth 10000 in
theorem fr_Inc_search (a0 : Nat) (a1 : Nat) (I : fm_I) (h0 : sd false a0) (h1 : sd false a1) : pF false (fn_Inc_search a0 a1 I) I := by
  unfold fn_Inc_search
  repeat' (with_reducible (first | exact pf_ri | exact pf_rv | exact pf_rz | refine pf_gi (fun _ => ?_) | refine pf_gr (by assumption) (fun _ _ => ?_) | refine pf_ld (fun _ => ?_) | refine pf_vi ?_ (fun _ _ => ?_) | refine pf_bi ?_ (fun _ _ => ?_) | refine pf_vv ?_ (fun _ => ?_) | refine pf_bv ?_ (fun _ => ?_) | refine pf_pI (by assumption) (fun _ => ?_) | refine pf_pZ (by assumption) (fun _ => ?_) | refine pf_sI (by assumption) (fun _ => ?_) | refine pf_sZ (by assumption) (fun _ => ?_) | refine pf_la (by assumption) (fun _ _ => ?_) | refine pf_bn (fun _ => ?_) | refine pf_ln (fun _ => ?_) | (apply fr_Inc_includeWantedMembers <;> assumption) | (apply fr_Inc_search_2 <;> assumption) | apply pf_if))
set_option maxRecDepth 10000 in
theorem fr_Inc_goOver_42 (n : Nat) : ∀ (a0 : Nat) (a1 : Nat) (a2 : Nat) (a4 : Int32) (I : fm_I), sd false a0 → sd false a1 → sd false a2 → pF false (fn_Inc_goOver_42 n a0 a1 a2 a4 I) I := by
  induction n with
  | zero =>
    intro a0 a1 a2 a4 I ha0 ha1 ha2
    unfold fn_Inc_goOver_42
    exact pf_none
  | succ n ih =>
    intro a0 a1 a2 a4 I ha0 ha1 ha2
    unfold fn_Inc_goOver_42
    repeat' (with_reducible (first | exact pf_ri | exact pf_rv | exact pf_rz | refine pf_gi (fun _ => ?_) | refine pf_gr (by assumption) (fun _ _ => ?_) | refine pf_ld (fun _ => ?_) | refine pf_vi ?_ (fun _ _ => ?_) | refine pf_bi ?_ (fun _ _ => ?_) | refine pf_vv ?_ (fun _ => ?_) | refine pf_bv ?_ (fun _ => ?_) | refine pf_pI (by assumption) (fun _ => ?_) | refine pf_pZ (by assumption) (fun _ => ?_) | refine pf_sI (by assumption) (fun _ => ?_) | refine pf_sZ (by assumption) (fun _ => ?_) | refine pf_la (by assumption) (fun _ _ => ?_) | refine pf_bn (fun _ => ?_) | refine pf_ln (fun _ => ?_) | (apply fr_Row_makeEmpty <;> assumption) | (apply fr_SL_setOf <;> assumption) | (apply fr_Row_howMany <;> assumption) | (apply fr_Row_at <;> assumption) | (apply fr_Inc_search <;> assumption) | (apply fr_Inc_include <;> assumption) | (apply ih <;> assumption) | apply pf_if))
set_option maxRecDepth 10000 in
theorem fr_Inc_goOver (a0 : Nat) (a1 : Nat) (a2 : Nat) (a3 : Int32) (I : fm_I) (h0 : sd false a0) (h1 : sd false a1) (h2 : sd false a2) : pF false (fn_Inc_goOver a0 a1 a2 a3 I) I := by
  unfold fn_Inc_goOver
  repeat' (with_reducible (first | exact pf_ri | exact pf_rv | exact pf_rz | refine pf_gi (fun _ => ?_) | refine pf_gr (by assumption) (fun _ _ => ?_) | refine pf_ld (fun _ => ?_) | refine pf_vi ?_ (fun _ _ => ?_) | refine pf_bi ?_ (fun _ _ => ?_) | refine pf_vv ?_ (fun _ => ?_) | refine pf_bv ?_ (fun _ => ?_) | refine pf_pI (by assumption) (fun _ => ?_) | refine pf_pZ (by assumption) (fun _ => ?_) | refine pf_sI (by assumption) (fun _ => ?_) | refine pf_sZ (by assumption) (fun _ => ?_) | refine pf_la (by assumption) (fun _ _ => ?_) | refine pf_bn (fun _ => ?_) | refine pf_ln (fun _ => ?_) | (apply fr_Row_makeEmpty <;> assumption) | (apply fr_SL_setOf <;> assumption) | (apply fr_Row_howMany <;> assumption) | (apply fr_Row_at <;> assumption) | (apply fr_Inc_search <;> assumption) | (apply fr_Inc_include <;> assumption) | (apply fr_Inc_goOver_42 <;> assumption) | apply pf_if))
set_option maxRecDepth 10000 in
theorem fr_Inc_hasDouble (a0 : Nat) (I : fm_I) (h0 : sd false a0) : pF false (fn_Inc_hasDouble a0 I) I := by
  unfold fn_Inc_hasDouble
  repeat' (with_reducible (first | exact pf_ri | exact pf_rv | exact pf_rz | refine pf_gi (fun _ => ?_) | refine pf_gr (by assumption) (fun _ _ => ?_) | refine pf_ld (fun _ => ?_) | refine pf_vi ?_ (fun _ _ => ?_) | refine pf_bi ?_ (fun _ _ => ?_) | refine pf_vv ?_ (fun _ => ?_) | refine pf_bv ?_ (fun _ => ?_) | refine pf_pI (by assumption) (fun _ => ?_) | refine pf_pZ (by assumption) (fun _ => ?_) | refine pf_sI (by assumption) (fun _ => ?_) | refine pf_sZ (by assumption) (fun _ => ?_) | refine pf_la (by assumption) (fun _ _ => ?_) | refine pf_bn (fun _ => ?_) | refine pf_ln (fun _ => ?_) | apply pf_if))
set_option maxRecDepth 10000 in
theorem fr_Inc_howMany (a0 : Nat) (I : fm_I) (h0 : sd false a0) : pF false (fn_Inc_howMany a0 I) I := by
  unfold fn_Inc_howMany
  repeat' (with_reducible (first | exact pf_ri | exact pf_rv | exact pf_rz | refine pf_gi (fun _ => ?_) | refine pf_gr (by assumption) (fun _ _ => ?_) | refine pf_ld (fun _ => ?_) | refine pf_vi ?_ (fun _ _ => ?_) | refine pf_bi ?_ (fun _ _ => ?_) | refine pf_vv ?_ (fun _ => ?_) | refine pf_bv ?_ (fun _ => ?_) | refine pf_pI (by assumption) (fun _ => ?_) | refine pf_pZ (by assumption) (fun _ => ?_) | refine pf_sI (by assumption) (fun _ => ?_) | refine pf_sZ (by assumption) (fun _ => ?_) | refine pf_la (by assumption) (fun _ _ => ?_) | refine pf_bn (fun _ => ?_) | refine pf_ln (fun _ => ?_) | (apply fr_Row_howMany <;> assumption) | apply pf_if))
set_option maxRecDepth 10000 in
theorem fr_Inc_moduleAt (a0 : Nat) (a1 : Int32) (I : fm_I) (h0 : sd false a0) : pF false (fn_Inc_moduleAt a0 a1 I) I := by
  unfold fn_Inc_moduleAt
  repeat' (with_reducible (first | exact pf_ri | exact pf_rv | exact pf_rz | refine pf_gi (fun _ => ?_) | refine pf_gr (by assumption) (fun _ _ => ?_) | refine pf_ld (fun _ => ?_) | refine pf_vi ?_ (fun _ _ => ?_) | refine pf_bi ?_ (fun _ _ => ?_) | refine pf_vv ?_ (fun _ => ?_) | refine pf_bv ?_ (fun _ => ?_) | refine pf_pI (by assumption) (fun _ => ?_) | refine pf_pZ (by assumption) (fun _ => ?_) | refine pf_sI (by assumption) (fun _ => ?_) | refine pf_sZ (by assumption) (fun _ => ?_) | refine pf_la (by assumption) (fun _ _ => ?_) | refine pf_bn (fun _ => ?_) | refine pf_ln (fun _ => ?_) | (apply fr_Row_at <;> assumption) | apply pf_if))
set_option maxRecDepth 10000 in
theorem fr_Img_layOutSections_19 (K7 : Nat → Int32 → fm_I → pR) (hK7 : ∀ (a0 : Nat) (a1 : Int32) (I : fm_I), sd false a0 → pF false (K7 a0 a1 I) I) (n : Nat) : ∀ (a0 : Nat) (a1 : Int32) (a2 : Int32) (a3 : Int32) (I : fm_I), sd false a0 → pF false (fn_Img_layOutSections_19 K7 n a0 a1 a2 a3 I) I := by
  induction n with
  | zero =>
    intro a0 a1 a2 a3 I ha0
    unfold fn_Img_layOutSections_19
    exact pf_none
  | succ n ih =>
    intro a0 a1 a2 a3 I ha0
    unfold fn_Img_layOutSections_19
    repeat' (with_reducible (first | exact pf_ri | exact pf_rv | exact pf_rz | refine pf_gi (fun _ => ?_) | refine pf_gr (by assumption) (fun _ _ => ?_) | refine pf_ld (fun _ => ?_) | refine pf_vi ?_ (fun _ _ => ?_) | refine pf_bi ?_ (fun _ _ => ?_) | refine pf_vv ?_ (fun _ => ?_) | refine pf_bv ?_ (fun _ => ?_) | refine pf_pI (by assumption) (fun _ => ?_) | refine pf_pZ (by assumption) (fun _ => ?_) | refine pf_sI (by assumption) (fun _ => ?_) | refine pf_sZ (by assumption) (fun _ => ?_) | refine pf_la (by assumption) (fun _ _ => ?_) | refine pf_bn (fun _ => ?_) | refine pf_ln (fun _ => ?_) | (apply fr_Inc_howMany <;> assumption) | (apply fr_Inc_moduleAt <;> assumption) | (apply fr_Mod_wordsIn <;> assumption) | (apply fr_Img_layOutSections_7 <;> assumption) | (apply ih <;> assumption) | (apply hK7 <;> assumption) | apply pf_if))
set_option maxRecDepth 10000 in
theorem fr_Img_layOutSections_7 (n : Nat) : ∀ (a0 : Nat) (a1 : Int32) (I : fm_I), sd false a0 → pF false (fn_Img_layOutSections_7 n a0 a1 I) I := by
  induction n with
  | zero =>
    intro a0 a1 I ha0
    unfold fn_Img_layOutSections_7
    exact pf_none
  | succ n ih =>
    intro a0 a1 I ha0
    unfold fn_Img_layOutSections_7
    repeat' (with_reducible (first | exact pf_ri | exact pf_rv | exact pf_rz | refine pf_gi (fun _ => ?_) | refine pf_gr (by assumption) (fun _ _ => ?_) | refine pf_ld (fun _ => ?_) | refine pf_vi ?_ (fun _ _ => ?_) | refine pf_bi ?_ (fun _ _ => ?_) | refine pf_vv ?_ (fun _ => ?_) | refine pf_bv ?_ (fun _ => ?_) | refine pf_pI (by assumption) (fun _ => ?_) | refine pf_pZ (by assumption) (fun _ => ?_) | refine pf_sI (by assumption) (fun _ => ?_) | refine pf_sZ (by assumption) (fun _ => ?_) | refine pf_la (by assumption) (fun _ _ => ?_) | refine pf_bn (fun _ => ?_) | refine pf_ln (fun _ => ?_) | (apply fr_Inc_howMany <;> assumption) | (apply fr_Inc_moduleAt <;> assumption) | (apply fr_Mod_wordsIn <;> assumption) | (refine fr_Img_layOutSections_19 _ ih _ _ _ _ _  _ (by assumption) ) | (apply ih <;> assumption) | apply pf_if))
set_option maxRecDepth 10000 in
theorem fr_Img_layOutSections (a0 : Nat) (I : fm_I) (h0 : sd false a0) : pF false (fn_Img_layOutSections a0 I) I := by
  unfold fn_Img_layOutSections
  repeat' (with_reducible (first | exact pf_ri | exact pf_rv | exact pf_rz | refine pf_gi (fun _ => ?_) | refine pf_gr (by assumption) (fun _ _ => ?_) | refine pf_ld (fun _ => ?_) | refine pf_vi ?_ (fun _ _ => ?_) | refine pf_bi ?_ (fun _ _ => ?_) | refine pf_vv ?_ (fun _ => ?_) | refine pf_bv ?_ (fun _ => ?_) | refine pf_pI (by assumption) (fun _ => ?_) | refine pf_pZ (by assumption) (fun _ => ?_) | refine pf_sI (by assumption) (fun _ => ?_) | refine pf_sZ (by assumption) (fun _ => ?_) | refine pf_la (by assumption) (fun _ _ => ?_) | refine pf_bn (fun _ => ?_) | refine pf_ln (fun _ => ?_) | (apply fr_Inc_howMany <;> assumption) | (apply fr_Inc_moduleAt <;> assumption) | (apply fr_Mod_wordsIn <;> assumption) | (refine fr_Img_layOutSections_19 _ hK7 _ _ _ _ _  _ (by assumption) ) | (apply fr_Img_layOutSections_7 <;> assumption) | apply pf_if))
set_option maxRecDepth 10000 in
theorem fr_Inc_isLoneCommon (a0 : Nat) (a1 : Int32) (I : fm_I) (h0 : sd false a0) : pF false (fn_Inc_isLoneCommon a0 a1 I) I := by
  unfold fn_Inc_isLoneCommon
  repeat' (with_reducible (first | exact pf_ri | exact pf_rv | exact pf_rz | refine pf_gi (fun _ => ?_) | refine pf_gr (by assumption) (fun _ _ => ?_) | refine pf_ld (fun _ => ?_) | refine pf_vi ?_ (fun _ _ => ?_) | refine pf_bi ?_ (fun _ _ => ?_) | refine pf_vv ?_ (fun _ => ?_) | refine pf_bv ?_ (fun _ => ?_) | refine pf_pI (by assumption) (fun _ => ?_) | refine pf_pZ (by assumption) (fun _ => ?_) | refine pf_sI (by assumption) (fun _ => ?_) | refine pf_sZ (by assumption) (fun _ => ?_) | refine pf_la (by assumption) (fun _ _ => ?_) | refine pf_bn (fun _ => ?_) | refine pf_ln (fun _ => ?_) | (apply fr_SL_hasName <;> assumption) | apply pf_if))
set_option maxRecDepth 10000 in
theorem fr_Mod_wordsOfCommon (a0 : Nat) (a1 : Int32) (I : fm_I) (h0 : sd false a0) : pF false (fn_Mod_wordsOfCommon a0 a1 I) I := by
  unfold fn_Mod_wordsOfCommon
  repeat' (with_reducible (first | exact pf_ri | exact pf_rv | exact pf_rz | refine pf_gi (fun _ => ?_) | refine pf_gr (by assumption) (fun _ _ => ?_) | refine pf_ld (fun _ => ?_) | refine pf_vi ?_ (fun _ _ => ?_) | refine pf_bi ?_ (fun _ _ => ?_) | refine pf_vv ?_ (fun _ => ?_) | refine pf_bv ?_ (fun _ => ?_) | refine pf_pI (by assumption) (fun _ => ?_) | refine pf_pZ (by assumption) (fun _ => ?_) | refine pf_sI (by assumption) (fun _ => ?_) | refine pf_sZ (by assumption) (fun _ => ?_) | refine pf_la (by assumption) (fun _ _ => ?_) | refine pf_bn (fun _ => ?_) | refine pf_ln (fun _ => ?_) | (apply fr_SL_hasName <;> assumption) | apply pf_if))
set_option maxRecDepth 10000 in
theorem fr_Img_largestCommon_4 (n : Nat) : ∀ (a0 : Nat) (a1 : Int32) (a2 : Int32) (a3 : Int32) (I : fm_I), sd false a0 → pF false (fn_Img_largestCommon_4 n a0 a1 a2 a3 I) I := by
  induction n with
  | zero =>
    intro a0 a1 a2 a3 I ha0
    unfold fn_Img_largestCommon_4
    exact pf_none
  | succ n ih =>
    intro a0 a1 a2 a3 I ha0
    unfold fn_Img_largestCommon_4
    repeat' (with_reducible (first | exact pf_ri | exact pf_rv | exact pf_rz | refine pf_gi (fun _ => ?_) | refine pf_gr (by assumption) (fun _ _ => ?_) | refine pf_ld (fun _ => ?_) | refine pf_vi ?_ (fun _ _ => ?_) | refine pf_bi ?_ (fun _ _ => ?_) | refine pf_vv ?_ (fun _ => ?_) | refine pf_bv ?_ (fun _ => ?_) | refine pf_pI (by assumption) (fun _ => ?_) | refine pf_pZ (by assumption) (fun _ => ?_) | refine pf_sI (by assumption) (fun _ => ?_) | refine pf_sZ (by assumption) (fun _ => ?_) | refine pf_la (by assumption) (fun _ _ => ?_) | refine pf_bn (fun _ => ?_) | refine pf_ln (fun _ => ?_) | (apply fr_Inc_howMany <;> assumption) | (apply fr_Inc_moduleAt <;> assumption) | (apply fr_Mod_wordsOfCommon <;> assumption) | (apply ih <;> assumption) | apply pf_if))
set_option maxRecDepth 10000 in
theorem fr_Img_largestCommon (a0 : Nat) (a1 : Int32) (I : fm_I) (h0 : sd false a0) : pF false (fn_Img_largestCommon a0 a1 I) I := by
  unfold fn_Img_largestCommon
  repeat' (with_reducible (first | exact pf_ri | exact pf_rv | exact pf_rz | refine pf_gi (fun _ => ?_) | refine pf_gr (by assumption) (fun _ _ => ?_) | refine pf_ld (fun _ => ?_) | refine pf_vi ?_ (fun _ _ => ?_) | refine pf_bi ?_ (fun _ _ => ?_) | refine pf_vv ?_ (fun _ => ?_) | refine pf_bv ?_ (fun _ => ?_) | refine pf_pI (by assumption) (fun _ => ?_) | refine pf_pZ (by assumption) (fun _ => ?_) | refine pf_sI (by assumption) (fun _ => ?_) | refine pf_sZ (by assumption) (fun _ => ?_) | refine pf_la (by assumption) (fun _ _ => ?_) | refine pf_bn (fun _ => ?_) | refine pf_ln (fun _ => ?_) | (apply fr_Inc_howMany <;> assumption) | (apply fr_Inc_moduleAt <;> assumption) | (apply fr_Mod_wordsOfCommon <;> assumption) | (apply fr_Img_largestCommon_4 <;> assumption) | apply pf_if))
set_option maxRecDepth 10000 in
theorem fr_Img_layOutCommons_2 (n : Nat) : ∀ (a0 : Nat) (a1 : Int32) (I : fm_I), sd false a0 → pF false (fn_Img_layOutCommons_2 n a0 a1 I) I := by
  induction n with
  | zero =>
    intro a0 a1 I ha0
    unfold fn_Img_layOutCommons_2
    exact pf_none
  | succ n ih =>
    intro a0 a1 I ha0
    unfold fn_Img_layOutCommons_2
    repeat' (with_reducible (first | exact pf_ri | exact pf_rv | exact pf_rz | refine pf_gi (fun _ => ?_) | refine pf_gr (by assumption) (fun _ _ => ?_) | refine pf_ld (fun _ => ?_) | refine pf_vi ?_ (fun _ _ => ?_) | refine pf_bi ?_ (fun _ _ => ?_) | refine pf_vv ?_ (fun _ => ?_) | refine pf_bv ?_ (fun _ => ?_) | refine pf_pI (by assumption) (fun _ => ?_) | refine pf_pZ (by assumption) (fun _ => ?_) | refine pf_sI (by assumption) (fun _ => ?_) | refine pf_sZ (by assumption) (fun _ => ?_) | refine pf_la (by assumption) (fun _ _ => ?_) | refine pf_bn (fun _ => ?_) | refine pf_ln (fun _ => ?_) | (apply fr_Inc_isLoneCommon <;> assumption) | (apply fr_Img_largestCommon <;> assumption) | (apply ih <;> assumption) | apply pf_if))
set_option maxRecDepth 10000 in
theorem fr_Img_layOutCommons (a0 : Nat) (I : fm_I) (h0 : sd false a0) : pF false (fn_Img_layOutCommons a0 I) I := by
  unfold fn_Img_layOutCommons
  repeat' (with_reducible (first | exact pf_ri | exact pf_rv | exact pf_rz | refine pf_gi (fun _ => ?_) | refine pf_gr (by assumption) (fun _ _ => ?_) | refine pf_ld (fun _ => ?_) | refine pf_vi ?_ (fun _ _ => ?_) | refine pf_bi ?_ (fun _ _ => ?_) | refine pf_vv ?_ (fun _ => ?_) | refine pf_bv ?_ (fun _ => ?_) | refine pf_pI (by assumption) (fun _ => ?_) | refine pf_pZ (by assumption) (fun _ => ?_) | refine pf_sI (by assumption) (fun _ => ?_) | refine pf_sZ (by assumption) (fun _ => ?_) | refine pf_la (by assumption) (fun _ _ => ?_) | refine pf_bn (fun _ => ?_) | refine pf_ln (fun _ => ?_) | (apply fr_Inc_isLoneCommon <;> assumption) | (apply fr_Img_largestCommon <;> assumption) | (apply fr_Img_layOutCommons_2 <;> assumption) | apply pf_if))
set_option maxRecDepth 10000 in
theorem fr_Mod_defines (a0 : Nat) (a1 : Int32) (I : fm_I) (h0 : sd false a0) : pF false (fn_Mod_defines a0 a1 I) I := by
  unfold fn_Mod_defines
  repeat' (with_reducible (first | exact pf_ri | exact pf_rv | exact pf_rz | refine pf_gi (fun _ => ?_) | refine pf_gr (by assumption) (fun _ _ => ?_) | refine pf_ld (fun _ => ?_) | refine pf_vi ?_ (fun _ _ => ?_) | refine pf_bi ?_ (fun _ _ => ?_) | refine pf_vv ?_ (fun _ => ?_) | refine pf_bv ?_ (fun _ => ?_) | refine pf_pI (by assumption) (fun _ => ?_) | refine pf_pZ (by assumption) (fun _ => ?_) | refine pf_sI (by assumption) (fun _ => ?_) | refine pf_sZ (by assumption) (fun _ => ?_) | refine pf_la (by assumption) (fun _ _ => ?_) | refine pf_bn (fun _ => ?_) | refine pf_ln (fun _ => ?_) | (apply fr_SL_hasName <;> assumption) | apply pf_if))
set_option maxRecDepth 10000 in
theorem fr_Mod_holderOf (a0 : Nat) (a1 : Int32) (I : fm_I) (h0 : sd false a0) : pF false (fn_Mod_holderOf a0 a1 I) I := by
  unfold fn_Mod_holderOf
  repeat' (with_reducible (first | exact pf_ri | exact pf_rv | exact pf_rz | refine pf_gi (fun _ => ?_) | refine pf_gr (by assumption) (fun _ _ => ?_) | refine pf_ld (fun _ => ?_) | refine pf_vi ?_ (fun _ _ => ?_) | refine pf_bi ?_ (fun _ _ => ?_) | refine pf_vv ?_ (fun _ => ?_) | refine pf_bv ?_ (fun _ => ?_) | refine pf_pI (by assumption) (fun _ => ?_) | refine pf_pZ (by assumption) (fun _ => ?_) | refine pf_sI (by assumption) (fun _ => ?_) | refine pf_sZ (by assumption) (fun _ => ?_) | refine pf_la (by assumption) (fun _ _ => ?_) | refine pf_bn (fun _ => ?_) | refine pf_ln (fun _ => ?_) | apply pf_if))
set_option maxRecDepth 10000 in
theorem fr_Mod_kindOf (a0 : Nat) (a1 : Int32) (I : fm_I) (h0 : sd false a0) : pF false (fn_Mod_kindOf a0 a1 I) I := by
  unfold fn_Mod_kindOf
  repeat' (with_reducible (first | exact pf_ri | exact pf_rv | exact pf_rz | refine pf_gi (fun _ => ?_) | refine pf_gr (by assumption) (fun _ _ => ?_) | refine pf_ld (fun _ => ?_) | refine pf_vi ?_ (fun _ _ => ?_) | refine pf_bi ?_ (fun _ _ => ?_) | refine pf_vv ?_ (fun _ => ?_) | refine pf_bv ?_ (fun _ => ?_) | refine pf_pI (by assumption) (fun _ => ?_) | refine pf_pZ (by assumption) (fun _ => ?_) | refine pf_sI (by assumption) (fun _ => ?_) | refine pf_sZ (by assumption) (fun _ => ?_) | refine pf_la (by assumption) (fun _ _ => ?_) | refine pf_bn (fun _ => ?_) | refine pf_ln (fun _ => ?_) | apply pf_if))
set_option maxRecDepth 10000 in
theorem fr_Mod_secondOf (a0 : Nat) (a1 : Int32) (I : fm_I) (h0 : sd false a0) : pF false (fn_Mod_secondOf a0 a1 I) I := by
  unfold fn_Mod_secondOf
  repeat' (with_reducible (first | exact pf_ri | exact pf_rv | exact pf_rz | refine pf_gi (fun _ => ?_) | refine pf_gr (by assumption) (fun _ _ => ?_) | refine pf_ld (fun _ => ?_) | refine pf_vi ?_ (fun _ _ => ?_) | refine pf_bi ?_ (fun _ _ => ?_) | refine pf_vv ?_ (fun _ => ?_) | refine pf_bv ?_ (fun _ => ?_) | refine pf_pI (by assumption) (fun _ => ?_) | refine pf_pZ (by assumption) (fun _ => ?_) | refine pf_sI (by assumption) (fun _ => ?_) | refine pf_sZ (by assumption) (fun _ => ?_) | refine pf_la (by assumption) (fun _ _ => ?_) | refine pf_bn (fun _ => ?_) | refine pf_ln (fun _ => ?_) | apply pf_if))
set_option maxRecDepth 10000 in
theorem fr_Mod_sectionOf (a0 : Nat) (a1 : Int32) (I : fm_I) (h0 : sd false a0) : pF false (fn_Mod_sectionOf a0 a1 I) I := by
  unfold fn_Mod_sectionOf
  repeat' (with_reducible (first | exact pf_ri | exact pf_rv | exact pf_rz | refine pf_gi (fun _ => ?_) | refine pf_gr (by assumption) (fun _ _ => ?_) | refine pf_ld (fun _ => ?_) | refine pf_vi ?_ (fun _ _ => ?_) | refine pf_bi ?_ (fun _ _ => ?_) | refine pf_vv ?_ (fun _ => ?_) | refine pf_bv ?_ (fun _ => ?_) | refine pf_pI (by assumption) (fun _ => ?_) | refine pf_pZ (by assumption) (fun _ => ?_) | refine pf_sI (by assumption) (fun _ => ?_) | refine pf_sZ (by assumption) (fun _ => ?_) | refine pf_la (by assumption) (fun _ _ => ?_) | refine pf_bn (fun _ => ?_) | refine pf_ln (fun _ => ?_) | apply pf_if))
set_option maxRecDepth 10000 in
theorem fr_Mod_placeOf (a0 : Nat) (a1 : Int32) (I : fm_I) (h0 : sd false a0) : pF false (fn_Mod_placeOf a0 a1 I) I := by
  unfold fn_Mod_placeOf
  repeat' (with_reducible (first | exact pf_ri | exact pf_rv | exact pf_rz | refine pf_gi (fun _ => ?_) | refine pf_gr (by assumption) (fun _ _ => ?_) | refine pf_ld (fun _ => ?_) | refine pf_vi ?_ (fun _ _ => ?_) | refine pf_bi ?_ (fun _ _ => ?_) | refine pf_vv ?_ (fun _ => ?_) | refine pf_bv ?_ (fun _ => ?_) | refine pf_pI (by assumption) (fun _ => ?_) | refine pf_pZ (by assumption) (fun _ => ?_) | refine pf_sI (by assumption) (fun _ => ?_) | refine pf_sZ (by assumption) (fun _ => ?_) | refine pf_la (by assumption) (fun _ _ => ?_) | refine pf_bn (fun _ => ?_) | refine pf_ln (fun _ => ?_) | apply pf_if))
set_option maxRecDepth 10000 in
theorem fr_Img_addressOf (a0 : Nat) (a1 : Int32) (a2 : Int32) (I : fm_I) (h0 : sd false a0) : pF false (fn_Img_addressOf a0 a1 a2 I) I := by
  unfold fn_Img_addressOf
  repeat' (with_reducible (first | exact pf_ri | exact pf_rv | exact pf_rz | refine pf_gi (fun _ => ?_) | refine pf_gr (by assumption) (fun _ _ => ?_) | refine pf_ld (fun _ => ?_) | refine pf_vi ?_ (fun _ _ => ?_) | refine pf_bi ?_ (fun _ _ => ?_) | refine pf_vv ?_ (fun _ => ?_) | refine pf_bv ?_ (fun _ => ?_) | refine pf_pI (by assumption) (fun _ => ?_) | refine pf_pZ (by assumption) (fun _ => ?_) | refine pf_sI (by assumption) (fun _ => ?_) | refine pf_sZ (by assumption) (fun _ => ?_) | refine pf_la (by assumption) (fun _ _ => ?_) | refine pf_bn (fun _ => ?_) | refine pf_ln (fun _ => ?_) | (apply fr_Mod_sectionOf <;> assumption) | (apply fr_Mod_placeOf <;> assumption) | apply pf_if))
set_option maxRecDepth 10000 in
theorem fr_Img_standsFor (a0 : Nat) (a1 : Int32) (a2 : Int32) (I : fm_I) (h0 : sd false a0) : pF false (fn_Img_standsFor a0 a1 a2 I) I := by
  unfold fn_Img_standsFor
  repeat' (with_reducible (first | exact pf_ri | exact pf_rv | exact pf_rz | refine pf_gi (fun _ => ?_) | refine pf_gr (by assumption) (fun _ _ => ?_) | refine pf_ld (fun _ => ?_) | refine pf_vi ?_ (fun _ _ => ?_) | refine pf_bi ?_ (fun _ _ => ?_) | refine pf_vv ?_ (fun _ => ?_) | refine pf_bv ?_ (fun _ => ?_) | refine pf_pI (by assumption) (fun _ => ?_) | refine pf_pZ (by assumption) (fun _ => ?_) | refine pf_sI (by assumption) (fun _ => ?_) | refine pf_sZ (by assumption) (fun _ => ?_) | refine pf_la (by assumption) (fun _ _ => ?_) | refine pf_bn (fun _ => ?_) | refine pf_ln (fun _ => ?_) | (apply fr_Mod_defines <;> assumption) | (apply fr_Mod_holderOf <;> assumption) | (apply fr_Mod_kindOf <;> assumption) | (apply fr_Mod_secondOf <;> assumption) | (apply fr_Img_addressOf <;> assumption) | apply pf_if))
set_option maxRecDepth 10000 in
theorem fr_Img_noteExports_12 (n : Nat) : ∀ (a0 : Nat) (a1 : Int32) (a2 : Int32) (a3 : Int32) (I : fm_I), sd false a0 → pF false (fn_Img_noteExports_12 n a0 a1 a2 a3 I) I := by
  induction n with
  | zero =>
    intro a0 a1 a2 a3 I ha0
    unfold fn_Img_noteExports_12
    exact pf_none
  | succ n ih =>
    intro a0 a1 a2 a3 I ha0
    unfold fn_Img_noteExports_12
    repeat' (with_reducible (first | exact pf_ri | exact pf_rv | exact pf_rz | refine pf_gi (fun _ => ?_) | refine pf_gr (by assumption) (fun _ _ => ?_) | refine pf_ld (fun _ => ?_) | refine pf_vi ?_ (fun _ _ => ?_) | refine pf_bi ?_ (fun _ _ => ?_) | refine pf_vv ?_ (fun _ => ?_) | refine pf_bv ?_ (fun _ => ?_) | refine pf_pI (by assumption) (fun _ => ?_) | refine pf_pZ (by assumption) (fun _ => ?_) | refine pf_sI (by assumption) (fun _ => ?_) | refine pf_sZ (by assumption) (fun _ => ?_) | refine pf_la (by assumption) (fun _ _ => ?_) | refine pf_bn (fun _ => ?_) | refine pf_ln (fun _ => ?_) | (apply fr_Mod_exportedNames <;> assumption) | (apply fr_SL_hasName <;> assumption) | (apply fr_Img_standsFor <;> assumption) | (apply ih <;> assumption) | apply pf_if))
set_option maxRecDepth 10000 in
theorem fr_Img_noteExports (a0 : Nat) (a1 : Int32) (I : fm_I) (h0 : sd false a0) : pF false (fn_Img_noteExports a0 a1 I) I := by
  unfold fn_Img_noteExports
  repeat' (with_reducible (first | exact pf_ri | exact pf_rv | exact pf_rz | refine pf_gi (fun _ => ?_) | refine pf_gr (by assumption) (fun _ _ => ?_) | refine pf_ld (fun _ => ?_) | refine pf_vi ?_ (fun _ _ => ?_) | refine pf_bi ?_ (fun _ _ => ?_) | refine pf_vv ?_ (fun _ => ?_) | refine pf_bv ?_ (fun _ => ?_) | refine pf_pI (by assumption) (fun _ => ?_) | refine pf_pZ (by assumption) (fun _ => ?_) | refine pf_sI (by assumption) (fun _ => ?_) | refine pf_sZ (by assumption) (fun _ => ?_) | refine pf_la (by assumption) (fun _ _ => ?_) | refine pf_bn (fun _ => ?_) | refine pf_ln (fun _ => ?_) | (apply fr_Mod_exportedNames <;> assumption) | (apply fr_SL_hasName <;> assumption) | (apply fr_Img_standsFor <;> assumption) | (apply fr_Img_noteExports_12 <;> assumption) | apply pf_if))
set_option maxRecDepth 10000 in
theorem fr_Img_makeWordsZero_2 (n : Nat) : ∀ (a0 : Nat) (a1 : Int32) (I : fm_I), sd false a0 → pF false (fn_Img_makeWordsZero_2 n a0 a1 I) I := by
  induction n with
  | zero =>
    intro a0 a1 I ha0
    unfold fn_Img_makeWordsZero_2
    exact pf_none
  | succ n ih =>
    intro a0 a1 I ha0
    unfold fn_Img_makeWordsZero_2
    repeat' (with_reducible (first | exact pf_ri | exact pf_rv | exact pf_rz | refine pf_gi (fun _ => ?_) | refine pf_gr (by assumption) (fun _ _ => ?_) | refine pf_ld (fun _ => ?_) | refine pf_vi ?_ (fun _ _ => ?_) | refine pf_bi ?_ (fun _ _ => ?_) | refine pf_vv ?_ (fun _ => ?_) | refine pf_bv ?_ (fun _ => ?_) | refine pf_pI (by assumption) (fun _ => ?_) | refine pf_pZ (by assumption) (fun _ => ?_) | refine pf_sI (by assumption) (fun _ => ?_) | refine pf_sZ (by assumption) (fun _ => ?_) | refine pf_la (by assumption) (fun _ _ => ?_) | refine pf_bn (fun _ => ?_) | refine pf_ln (fun _ => ?_) | (apply ih <;> assumption) | apply pf_if))
set_option maxRecDepth 10000 in
theorem fr_Img_makeWordsZero (a0 : Nat) (I : fm_I) (h0 : sd false a0) : pF false (fn_Img_makeWordsZero a0 I) I := by
  unfold fn_Img_makeWordsZero
  repeat' (with_reducible (first | exact pf_ri | exact pf_rv | exact pf_rz | refine pf_gi (fun _ => ?_) | refine pf_gr (by assumption) (fun _ _ => ?_) | refine pf_ld (fun _ => ?_) | refine pf_vi ?_ (fun _ _ => ?_) | refine pf_bi ?_ (fun _ _ => ?_) | refine pf_vv ?_ (fun _ => ?_) | refine pf_bv ?_ (fun _ => ?_) | refine pf_pI (by assumption) (fun _ => ?_) | refine pf_pZ (by assumption) (fun _ => ?_) | refine pf_sI (by assumption) (fun _ => ?_) | refine pf_sZ (by assumption) (fun _ => ?_) | refine pf_la (by assumption) (fun _ _ => ?_) | refine pf_bn (fun _ => ?_) | refine pf_ln (fun _ => ?_) | (apply fr_Img_makeWordsZero_2 <;> assumption) | apply pf_if))
set_option maxRecDepth 10000 in
theorem fr_Mod_howMany (a0 : Nat) (I : fm_I) (h0 : sd false a0) : pF false (fn_Mod_howMany a0 I) I := by
  unfold fn_Mod_howMany
  repeat' (with_reducible (first | exact pf_ri | exact pf_rv | exact pf_rz | refine pf_gi (fun _ => ?_) | refine pf_gr (by assumption) (fun _ _ => ?_) | refine pf_ld (fun _ => ?_) | refine pf_vi ?_ (fun _ _ => ?_) | refine pf_bi ?_ (fun _ _ => ?_) | refine pf_vv ?_ (fun _ => ?_) | refine pf_bv ?_ (fun _ => ?_) | refine pf_pI (by assumption) (fun _ => ?_) | refine pf_pZ (by assumption) (fun _ => ?_) | refine pf_sI (by assumption) (fun _ => ?_) | refine pf_sZ (by assumption) (fun _ => ?_) | refine pf_la (by assumption) (fun _ _ => ?_) | refine pf_bn (fun _ => ?_) | refine pf_ln (fun _ => ?_) | apply pf_if))
set_option maxRecDepth 10000 in
theorem fr_Mod_firstOf (a0 : Nat) (a1 : Int32) (I : fm_I) (h0 : sd false a0) : pF false (fn_Mod_firstOf a0 a1 I) I := by
  unfold fn_Mod_firstOf
  repeat' (with_reducible (first | exact pf_ri | exact pf_rv | exact pf_rz | refine pf_gi (fun _ => ?_) | refine pf_gr (by assumption) (fun _ _ => ?_) | refine pf_ld (fun _ => ?_) | refine pf_vi ?_ (fun _ _ => ?_) | refine pf_bi ?_ (fun _ _ => ?_) | refine pf_vv ?_ (fun _ => ?_) | refine pf_bv ?_ (fun _ => ?_) | refine pf_pI (by assumption) (fun _ => ?_) | refine pf_pZ (by assumption) (fun _ => ?_) | refine pf_sI (by assumption) (fun _ => ?_) | refine pf_sZ (by assumption) (fun _ => ?_) | refine pf_la (by assumption) (fun _ _ => ?_) | refine pf_bn (fun _ => ?_) | refine pf_ln (fun _ => ?_) | apply pf_if))
set_option maxRecDepth 10000 in
theorem fr_SL_toWord (a0 : Int32) (I : fm_I) : pF false (fn_SL_toWord a0 I) I := by
  unfold fn_SL_toWord
  repeat' (with_reducible (first | exact pf_ri | exact pf_rv | exact pf_rz | refine pf_gi (fun _ => ?_) | refine pf_gr (by assumption) (fun _ _ => ?_) | refine pf_ld (fun _ => ?_) | refine pf_vi ?_ (fun _ _ => ?_) | refine pf_bi ?_ (fun _ _ => ?_) | refine pf_vv ?_ (fun _ => ?_) | refine pf_bv ?_ (fun _ => ?_) | refine pf_pI (by assumption) (fun _ => ?_) | refine pf_pZ (by assumption) (fun _ => ?_) | refine pf_sI (by assumption) (fun _ => ?_) | refine pf_sZ (by assumption) (fun _ => ?_) | refine pf_la (by assumption) (fun _ _ => ?_) | refine pf_bn (fun _ => ?_) | refine pf_ln (fun _ => ?_) | apply pf_if))
set_option maxRecDepth 10000 in
theorem fr_Img_writeJump (a0 : Nat) (a1 : Int32) (a2 : Int32) (a3 : Int32) (I : fm_I) (h0 : sd false a0) : pF false (fn_Img_writeJump a0 a1 a2 a3 I) I := by
  unfold fn_Img_writeJump
  repeat' (with_reducible (first | exact pf_ri | exact pf_rv | exact pf_rz | refine pf_gi (fun _ => ?_) | refine pf_gr (by assumption) (fun _ _ => ?_) | refine pf_ld (fun _ => ?_) | refine pf_vi ?_ (fun _ _ => ?_) | refine pf_bi ?_ (fun _ _ => ?_) | refine pf_vv ?_ (fun _ => ?_) | refine pf_bv ?_ (fun _ => ?_) | refine pf_pI (by assumption) (fun _ => ?_) | refine pf_pZ (by assumption) (fun _ => ?_) | refine pf_sI (by assumption) (fun _ => ?_) | refine pf_sZ (by assumption) (fun _ => ?_) | refine pf_la (by assumption) (fun _ _ => ?_) | refine pf_bn (fun _ => ?_) | refine pf_ln (fun _ => ?_) | (apply fr_Mod_secondOf <;> assumption) | (apply fr_Mod_isLongJump <;> assumption) | (apply fr_Mod_firstOf <;> assumption) | (apply fr_Img_standsFor <;> assumption) | (apply fr_Mod_distanceOf <;> assumption) | apply pf_if))
set_option maxRecDepth 10000 in
theorem fr_Img_writeModule_9 (n : Nat) : ∀ (a0 : Nat) (a1 : Int32) (a2 : Nat) (a3 : Int32) (I : fm_I), sd false a0 → sd false a2 → pF false (fn_Img_writeModule_9 n a0 a1 a2 a3 I) I := by
  induction n with
  | zero =>
    intro a0 a1 a2 a3 I ha0 ha2
    unfold fn_Img_writeModule_9
    exact pf_none
  | succ n ih =>
    intro a0 a1 a2 a3 I ha0 ha2
    unfold fn_Img_writeModule_9
    repeat' (with_reducible (first | exact pf_ri | exact pf_rv | exact pf_rz | refine pf_gi (fun _ => ?_) | refine pf_gr (by assumption) (fun _ _ => ?_) | refine pf_ld (fun _ => ?_) | refine pf_vi ?_ (fun _ _ => ?_) | refine pf_bi ?_ (fun _ _ => ?_) | refine pf_vv ?_ (fun _ => ?_) | refine pf_bv ?_ (fun _ => ?_) | refine pf_pI (by assumption) (fun _ => ?_) | refine pf_pZ (by assumption) (fun _ => ?_) | refine pf_sI (by assumption) (fun _ => ?_) | refine pf_sZ (by assumption) (fun _ => ?_) | refine pf_la (by assumption) (fun _ _ => ?_) | refine pf_bn (fun _ => ?_) | refine pf_ln (fun _ => ?_) | (apply fr_Mod_howMany <;> assumption) | (apply fr_Img_addressOf <;> assumption) | (apply fr_Mod_kindOf <;> assumption) | (apply fr_Mod_firstOf <;> assumption) | (apply fr_Img_standsFor <;> assumption) | (apply fr_Mod_secondOf <;> assumption) | (apply fr_SL_toWord <;> assumption) | (apply fr_Img_writeJump <;> assumption) | (apply ih <;> assumption) | apply pf_if))
set_option maxRecDepth 10000 in
theorem fr_Img_writeModule (a0 : Nat) (a1 : Int32) (I : fm_I) (h0 : sd false a0) : pF false (fn_Img_writeModule a0 a1 I) I := by
  unfold fn_Img_writeModule
  repeat' (with_reducible (first | exact pf_ri | exact pf_rv | exact pf_rz | refine pf_gi (fun _ => ?_) | refine pf_gr (by assumption) (fun _ _ => ?_) | refine pf_ld (fun _ => ?_) | refine pf_vi ?_ (fun _ _ => ?_) | refine pf_bi ?_ (fun _ _ => ?_) | refine pf_vv ?_ (fun _ => ?_) | refine pf_bv ?_ (fun _ => ?_) | refine pf_pI (by assumption) (fun _ => ?_) | refine pf_pZ (by assumption) (fun _ => ?_) | refine pf_sI (by assumption) (fun _ => ?_) | refine pf_sZ (by assumption) (fun _ => ?_) | refine pf_la (by assumption) (fun _ _ => ?_) | refine pf_bn (fun _ => ?_) | refine pf_ln (fun _ => ?_) | (apply fr_Mod_howMany <;> assumption) | (apply fr_Img_addressOf <;> assumption) | (apply fr_Mod_kindOf <;> assumption) | (apply fr_Mod_firstOf <;> assumption) | (apply fr_Img_standsFor <;> assumption) | (apply fr_Mod_secondOf <;> assumption) | (apply fr_SL_toWord <;> assumption) | (apply fr_Img_writeJump <;> assumption) | (apply fr_Img_writeModule_9 <;> assumption) | apply pf_if))
set_option maxRecDepth 10000 in
theorem fr_Img_build_57 (n : Nat) : ∀ (a0 : Nat) (a1 : Int32) (a2 : Int32) (I : fm_I), sd false a0 → pF false (fn_Img_build_57 n a0 a1 a2 I) I := by
  induction n with
  | zero =>
    intro a0 a1 a2 I ha0
    unfold fn_Img_build_57
    exact pf_none
  | succ n ih =>
    intro a0 a1 a2 I ha0
    unfold fn_Img_build_57
    repeat' (with_reducible (first | exact pf_ri | exact pf_rv | exact pf_rz | refine pf_gi (fun _ => ?_) | refine pf_gr (by assumption) (fun _ _ => ?_) | refine pf_ld (fun _ => ?_) | refine pf_vi ?_ (fun _ _ => ?_) | refine pf_bi ?_ (fun _ _ => ?_) | refine pf_vv ?_ (fun _ => ?_) | refine pf_bv ?_ (fun _ => ?_) | refine pf_pI (by assumption) (fun _ => ?_) | refine pf_pZ (by assumption) (fun _ => ?_) | refine pf_sI (by assumption) (fun _ => ?_) | refine pf_sZ (by assumption) (fun _ => ?_) | refine pf_la (by assumption) (fun _ _ => ?_) | refine pf_bn (fun _ => ?_) | refine pf_ln (fun _ => ?_) | (apply fr_Img_layOutSections <;> assumption) | (apply fr_Img_layOutCommons <;> assumption) | (apply fr_Inc_howMany <;> assumption) | (apply fr_Inc_moduleAt <;> assumption) | (apply fr_Img_noteExports <;> assumption) | (apply fr_Img_makeWordsZero <;> assumption) | (apply fr_Img_writeModule <;> assumption) | (apply fr_Img_build_22 <;> assumption) | (apply ih <;> assumption) | apply pf_if))
set_option maxRecDepth 10000 in
theorem fr_Img_build_22 (n : Nat) : ∀ (a0 : Nat) (a1 : Int32) (a2 : Int32) (I : fm_I), sd false a0 → pF false (fn_Img_build_22 n a0 a1 a2 I) I := by
  induction n with
  | zero =>
    intro a0 a1 a2 I ha0
    unfold fn_Img_build_22
    exact pf_none
  | succ n ih =>
    intro a0 a1 a2 I ha0
    unfold fn_Img_build_22
    repeat' (with_reducible (first | exact pf_ri | exact pf_rv | exact pf_rz | refine pf_gi (fun _ => ?_) | refine pf_gr (by assumption) (fun _ _ => ?_) | refine pf_ld (fun _ => ?_) | refine pf_vi ?_ (fun _ _ => ?_) | refine pf_bi ?_ (fun _ _ => ?_) | refine pf_vv ?_ (fun _ => ?_) | refine pf_bv ?_ (fun _ => ?_) | refine pf_pI (by assumption) (fun _ => ?_) | refine pf_pZ (by assumption) (fun _ => ?_) | refine pf_sI (by assumption) (fun _ => ?_) | refine pf_sZ (by assumption) (fun _ => ?_) | refine pf_la (by assumption) (fun _ _ => ?_) | refine pf_bn (fun _ => ?_) | refine pf_ln (fun _ => ?_) | (apply fr_Img_layOutSections <;> assumption) | (apply fr_Img_layOutCommons <;> assumption) | (apply fr_Inc_howMany <;> assumption) | (apply fr_Inc_moduleAt <;> assumption) | (apply fr_Img_noteExports <;> assumption) | (apply fr_Img_makeWordsZero <;> assumption) | (apply fr_Img_writeModule <;> assumption) | (apply fr_Img_build_57 <;> assumption) | (apply ih <;> assumption) | apply pf_if))
set_option maxRecDepth 10000 in
theorem fr_Img_build (a0 : Nat) (a1 : Int32) (I : fm_I) (h0 : sd false a0) : pF false (fn_Img_build a0 a1 I) I := by
  unfold fn_Img_build
  repeat' (with_reducible (first | exact pf_ri | exact pf_rv | exact pf_rz | refine pf_gi (fun _ => ?_) | refine pf_gr (by assumption) (fun _ _ => ?_) | refine pf_ld (fun _ => ?_) | refine pf_vi ?_ (fun _ _ => ?_) | refine pf_bi ?_ (fun _ _ => ?_) | refine pf_vv ?_ (fun _ => ?_) | refine pf_bv ?_ (fun _ => ?_) | refine pf_pI (by assumption) (fun _ => ?_) | refine pf_pZ (by assumption) (fun _ => ?_) | refine pf_sI (by assumption) (fun _ => ?_) | refine pf_sZ (by assumption) (fun _ => ?_) | refine pf_la (by assumption) (fun _ _ => ?_) | refine pf_bn (fun _ => ?_) | refine pf_ln (fun _ => ?_) | (apply fr_Img_layOutSections <;> assumption) | (apply fr_Img_layOutCommons <;> assumption) | (apply fr_Inc_howMany <;> assumption) | (apply fr_Inc_moduleAt <;> assumption) | (apply fr_Img_noteExports <;> assumption) | (apply fr_Img_makeWordsZero <;> assumption) | (apply fr_Img_writeModule <;> assumption) | (apply fr_Img_build_57 <;> assumption) | (apply fr_Img_build_22 <;> assumption) | apply pf_if))
set_option maxRecDepth 10000 in
theorem fr_SL_link_14 : ∀ (a0 : Nat) (a1 : Int32) (I : fm_I), sd false a0 → pF false (fn_SL_link_14 a0 a1 I) I := by
  intro a0 a1 I ha0
  unfold fn_SL_link_14
  repeat' (with_reducible (first | exact pf_ri | exact pf_rv | exact pf_rz | refine pf_gi (fun _ => ?_) | refine pf_gr (by assumption) (fun _ _ => ?_) | refine pf_ld (fun _ => ?_) | refine pf_vi ?_ (fun _ _ => ?_) | refine pf_bi ?_ (fun _ _ => ?_) | refine pf_vv ?_ (fun _ => ?_) | refine pf_bv ?_ (fun _ => ?_) | refine pf_pI (by assumption) (fun _ => ?_) | refine pf_pZ (by assumption) (fun _ => ?_) | refine pf_sI (by assumption) (fun _ => ?_) | refine pf_sZ (by assumption) (fun _ => ?_) | refine pf_la (by assumption) (fun _ _ => ?_) | refine pf_bn (fun _ => ?_) | refine pf_ln (fun _ => ?_) | (apply fr_SL_isName <;> assumption) | (apply fr_Img_throwAway <;> assumption) | (apply fr_Mac_throwAway <;> assumption) | (apply fr_Inc_goOver <;> assumption) | (apply fr_Inc_hasDouble <;> assumption) | (apply fr_Inc_wantedNames <;> assumption) | (apply fr_Img_build <;> assumption) | apply pf_if))
set_option maxRecDepth 10000 in
theorem fr_SL_link (a0 : Nat) (a1 : Int32) (I : fm_I) (h0 : sd false a0) : pF false (fn_SL_link a0 a1 I) I := by
  unfold fn_SL_link
  repeat' (with_reducible (first | exact pf_ri | exact pf_rv | exact pf_rz | refine pf_gi (fun _ => ?_) | refine pf_gr (by assumption) (fun _ _ => ?_) | refine pf_ld (fun _ => ?_) | refine pf_vi ?_ (fun _ _ => ?_) | refine pf_bi ?_ (fun _ _ => ?_) | refine pf_vv ?_ (fun _ => ?_) | refine pf_bv ?_ (fun _ => ?_) | refine pf_pI (by assumption) (fun _ => ?_) | refine pf_pZ (by assumption) (fun _ => ?_) | refine pf_sI (by assumption) (fun _ => ?_) | refine pf_sZ (by assumption) (fun _ => ?_) | refine pf_la (by assumption) (fun _ _ => ?_) | refine pf_bn (fun _ => ?_) | refine pf_ln (fun _ => ?_) | (apply fr_SL_isName <;> assumption) | (apply fr_Img_throwAway <;> assumption) | (apply fr_Mac_throwAway <;> assumption) | (apply fr_Inc_goOver <;> assumption) | (apply fr_Inc_hasDouble <;> assumption) | (apply fr_Inc_wantedNames <;> assumption) | (apply fr_Img_build <;> assumption) | (apply fr_SL_link_14 <;> assumption) | apply pf_if))
set_option maxRecDepth 10000 in
theorem fr_SL_included (a0 : Nat) (a1 : Int32) (I : fm_I) (h0 : sd false a0) : pF false (fn_SL_included a0 a1 I) I := by
  unfold fn_SL_included
  repeat' (with_reducible (first | exact pf_ri | exact pf_rv | exact pf_rz | refine pf_gi (fun _ => ?_) | refine pf_gr (by assumption) (fun _ _ => ?_) | refine pf_ld (fun _ => ?_) | refine pf_vi ?_ (fun _ _ => ?_) | refine pf_bi ?_ (fun _ _ => ?_) | refine pf_vv ?_ (fun _ => ?_) | refine pf_bv ?_ (fun _ => ?_) | refine pf_pI (by assumption) (fun _ => ?_) | refine pf_pZ (by assumption) (fun _ => ?_) | refine pf_sI (by assumption) (fun _ => ?_) | refine pf_sZ (by assumption) (fun _ => ?_) | refine pf_la (by assumption) (fun _ _ => ?_) | refine pf_bn (fun _ => ?_) | refine pf_ln (fun _ => ?_) | (apply fr_Inc_moduleAt <;> assumption) | apply pf_if))
set_option maxRecDepth 10000 in
theorem fr_SL_missing (a0 : Nat) (I : fm_I) (h0 : sd false a0) : pF false (fn_SL_missing a0 I) I := by
  unfold fn_SL_missing
  repeat' (with_reducible (first | exact pf_ri | exact pf_rv | exact pf_rz | refine pf_gi (fun _ => ?_) | refine pf_gr (by assumption) (fun _ _ => ?_) | refine pf_ld (fun _ => ?_) | refine pf_vi ?_ (fun _ _ => ?_) | refine pf_bi ?_ (fun _ _ => ?_) | refine pf_vv ?_ (fun _ => ?_) | refine pf_bv ?_ (fun _ => ?_) | refine pf_pI (by assumption) (fun _ => ?_) | refine pf_pZ (by assumption) (fun _ => ?_) | refine pf_sI (by assumption) (fun _ => ?_) | refine pf_sZ (by assumption) (fun _ => ?_) | refine pf_la (by assumption) (fun _ _ => ?_) | refine pf_bn (fun _ => ?_) | refine pf_ln (fun _ => ?_) | (apply fr_Inc_wantedNames <;> assumption) | apply pf_if))
set_option maxRecDepth 10000 in
theorem fr_Img_wordsIn (a0 : Nat) (a1 : Int32) (I : fm_I) (h0 : sd false a0) : pF false (fn_Img_wordsIn a0 a1 I) I := by
  unfold fn_Img_wordsIn
  repeat' (with_reducible (first | exact pf_ri | exact pf_rv | exact pf_rz | refine pf_gi (fun _ => ?_) | refine pf_gr (by assumption) (fun _ _ => ?_) | refine pf_ld (fun _ => ?_) | refine pf_vi ?_ (fun _ _ => ?_) | refine pf_bi ?_ (fun _ _ => ?_) | refine pf_vv ?_ (fun _ => ?_) | refine pf_bv ?_ (fun _ => ?_) | refine pf_pI (by assumption) (fun _ => ?_) | refine pf_pZ (by assumption) (fun _ => ?_) | refine pf_sI (by assumption) (fun _ => ?_) | refine pf_sZ (by assumption) (fun _ => ?_) | refine pf_la (by assumption) (fun _ _ => ?_) | refine pf_bn (fun _ => ?_) | refine pf_ln (fun _ => ?_) | (apply fr_SL_isSection <;> assumption) | apply pf_if))
set_option maxRecDepth 10000 in
theorem fr_SL_size (a0 : Nat) (a1 : Int32) (I : fm_I) (h0 : sd false a0) : pF false (fn_SL_size a0 a1 I) I := by
  unfold fn_SL_size
  repeat' (with_reducible (first | exact pf_ri | exact pf_rv | exact pf_rz | refine pf_gi (fun _ => ?_) | refine pf_gr (by assumption) (fun _ _ => ?_) | refine pf_ld (fun _ => ?_) | refine pf_vi ?_ (fun _ _ => ?_) | refine pf_bi ?_ (fun _ _ => ?_) | refine pf_vv ?_ (fun _ => ?_) | refine pf_bv ?_ (fun _ => ?_) | refine pf_pI (by assumption) (fun _ => ?_) | refine pf_pZ (by assumption) (fun _ => ?_) | refine pf_sI (by assumption) (fun _ => ?_) | refine pf_sZ (by assumption) (fun _ => ?_) | refine pf_la (by assumption) (fun _ _ => ?_) | refine pf_bn (fun _ => ?_) | refine pf_ln (fun _ => ?_) | (apply fr_Img_wordsIn <;> assumption) | apply pf_if))
set_option maxRecDepth 10000 in
theorem fr_Img_wordAt (a0 : Nat) (a1 : Int32) (I : fm_I) (h0 : sd false a0) : pF false (fn_Img_wordAt a0 a1 I) I := by
  unfold fn_Img_wordAt
  repeat' (with_reducible (first | exact pf_ri | exact pf_rv | exact pf_rz | refine pf_gi (fun _ => ?_) | refine pf_gr (by assumption) (fun _ _ => ?_) | refine pf_ld (fun _ => ?_) | refine pf_vi ?_ (fun _ _ => ?_) | refine pf_bi ?_ (fun _ _ => ?_) | refine pf_vv ?_ (fun _ => ?_) | refine pf_bv ?_ (fun _ => ?_) | refine pf_pI (by assumption) (fun _ => ?_) | refine pf_pZ (by assumption) (fun _ => ?_) | refine pf_sI (by assumption) (fun _ => ?_) | refine pf_sZ (by assumption) (fun _ => ?_) | refine pf_la (by assumption) (fun _ _ => ?_) | refine pf_bn (fun _ => ?_) | refine pf_ln (fun _ => ?_) | (apply fr_SL_isWithin <;> assumption) | apply pf_if))
set_option maxRecDepth 10000 in
theorem fr_SL_word (a0 : Nat) (a1 : Int32) (I : fm_I) (h0 : sd false a0) : pF false (fn_SL_word a0 a1 I) I := by
  unfold fn_SL_word
  repeat' (with_reducible (first | exact pf_ri | exact pf_rv | exact pf_rz | refine pf_gi (fun _ => ?_) | refine pf_gr (by assumption) (fun _ _ => ?_) | refine pf_ld (fun _ => ?_) | refine pf_vi ?_ (fun _ _ => ?_) | refine pf_bi ?_ (fun _ _ => ?_) | refine pf_vv ?_ (fun _ => ?_) | refine pf_bv ?_ (fun _ => ?_) | refine pf_pI (by assumption) (fun _ => ?_) | refine pf_pZ (by assumption) (fun _ => ?_) | refine pf_sI (by assumption) (fun _ => ?_) | refine pf_sZ (by assumption) (fun _ => ?_) | refine pf_la (by assumption) (fun _ _ => ?_) | refine pf_bn (fun _ => ?_) | refine pf_ln (fun _ => ?_) | (apply fr_Img_wordAt <;> assumption) | apply pf_if))
set_option maxRecDepth 10000 in
theorem fr_Img_valueOf (a0 : Nat) (a1 : Int32) (I : fm_I) (h0 : sd false a0) : pF false (fn_Img_valueOf a0 a1 I) I := by
  unfold fn_Img_valueOf
  repeat' (with_reducible (first | exact pf_ri | exact pf_rv | exact pf_rz | refine pf_gi (fun _ => ?_) | refine pf_gr (by assumption) (fun _ _ => ?_) | refine pf_ld (fun _ => ?_) | refine pf_vi ?_ (fun _ _ => ?_) | refine pf_bi ?_ (fun _ _ => ?_) | refine pf_vv ?_ (fun _ => ?_) | refine pf_bv ?_ (fun _ => ?_) | refine pf_pI (by assumption) (fun _ => ?_) | refine pf_pZ (by assumption) (fun _ => ?_) | refine pf_sI (by assumption) (fun _ => ?_) | refine pf_sZ (by assumption) (fun _ => ?_) | refine pf_la (by assumption) (fun _ _ => ?_) | refine pf_bn (fun _ => ?_) | refine pf_ln (fun _ => ?_) | (apply fr_SL_isName <;> assumption) | apply pf_if))
set_option maxRecDepth 10000 in
theorem fr_SL_symbol (a0 : Nat) (a1 : Int32) (I : fm_I) (h0 : sd false a0) : pF false (fn_SL_symbol a0 a1 I) I := by
  unfold fn_SL_symbol
  repeat' (with_reducible (first | exact pf_ri | exact pf_rv | exact pf_rz | refine pf_gi (fun _ => ?_) | refine pf_gr (by assumption) (fun _ _ => ?_) | refine pf_ld (fun _ => ?_) | refine pf_vi ?_ (fun _ _ => ?_) | refine pf_bi ?_ (fun _ _ => ?_) | refine pf_vv ?_ (fun _ => ?_) | refine pf_bv ?_ (fun _ => ?_) | refine pf_pI (by assumption) (fun _ => ?_) | refine pf_pZ (by assumption) (fun _ => ?_) | refine pf_sI (by assumption) (fun _ => ?_) | refine pf_sZ (by assumption) (fun _ => ?_) | refine pf_la (by assumption) (fun _ _ => ?_) | refine pf_bn (fun _ => ?_) | refine pf_ln (fun _ => ?_) | (apply fr_Img_valueOf <;> assumption) | apply pf_if))
set_option maxRecDepth 10000 in
theorem fr_Img_dropNames (a0 : Nat) (I : fm_I) (h0 : sd false a0) : pF false (fn_Img_dropNames a0 I) I := by
  unfold fn_Img_dropNames
  repeat' (with_reducible (first | exact pf_ri | exact pf_rv | exact pf_rz | refine pf_gi (fun _ => ?_) | refine pf_gr (by assumption) (fun _ _ => ?_) | refine pf_ld (fun _ => ?_) | refine pf_vi ?_ (fun _ _ => ?_) | refine pf_bi ?_ (fun _ _ => ?_) | refine pf_vv ?_ (fun _ => ?_) | refine pf_bv ?_ (fun _ => ?_) | refine pf_pI (by assumption) (fun _ => ?_) | refine pf_pZ (by assumption) (fun _ => ?_) | refine pf_sI (by assumption) (fun _ => ?_) | refine pf_sZ (by assumption) (fun _ => ?_) | refine pf_la (by assumption) (fun _ _ => ?_) | refine pf_bn (fun _ => ?_) | refine pf_ln (fun _ => ?_) | apply pf_if))
set_option maxRecDepth 10000 in
theorem fr_SL_strip (a0 : Nat) (I : fm_I) (h0 : sd false a0) : pF false (fn_SL_strip a0 I) I := by
  unfold fn_SL_strip
  repeat' (with_reducible (first | exact pf_ri | exact pf_rv | exact pf_rz | refine pf_gi (fun _ => ?_) | refine pf_gr (by assumption) (fun _ _ => ?_) | refine pf_ld (fun _ => ?_) | refine pf_vi ?_ (fun _ _ => ?_) | refine pf_bi ?_ (fun _ _ => ?_) | refine pf_vv ?_ (fun _ => ?_) | refine pf_bv ?_ (fun _ => ?_) | refine pf_pI (by assumption) (fun _ => ?_) | refine pf_pZ (by assumption) (fun _ => ?_) | refine pf_sI (by assumption) (fun _ => ?_) | refine pf_sZ (by assumption) (fun _ => ?_) | refine pf_la (by assumption) (fun _ _ => ?_) | refine pf_bn (fun _ => ?_) | refine pf_ln (fun _ => ?_) | (apply fr_Img_dropNames <;> assumption) | apply pf_if))
set_option maxRecDepth 10000 in
theorem fr_Img_isThere (a0 : Nat) (I : fm_I) (h0 : sd false a0) : pF false (fn_Img_isThere a0 I) I := by
  unfold fn_Img_isThere
  repeat' (with_reducible (first | exact pf_ri | exact pf_rv | exact pf_rz | refine pf_gi (fun _ => ?_) | refine pf_gr (by assumption) (fun _ _ => ?_) | refine pf_ld (fun _ => ?_) | refine pf_vi ?_ (fun _ _ => ?_) | refine pf_bi ?_ (fun _ _ => ?_) | refine pf_vv ?_ (fun _ => ?_) | refine pf_bv ?_ (fun _ => ?_) | refine pf_pI (by assumption) (fun _ => ?_) | refine pf_pZ (by assumption) (fun _ => ?_) | refine pf_sI (by assumption) (fun _ => ?_) | refine pf_sZ (by assumption) (fun _ => ?_) | refine pf_la (by assumption) (fun _ _ => ?_) | refine pf_bn (fun _ => ?_) | refine pf_ln (fun _ => ?_) | apply pf_if))
set_option maxRecDepth 10000 in
theorem fr_Img_howMany (a0 : Nat) (I : fm_I) (h0 : sd false a0) : pF false (fn_Img_howMany a0 I) I := by
  unfold fn_Img_howMany
  repeat' (with_reducible (first | exact pf_ri | exact pf_rv | exact pf_rz | refine pf_gi (fun _ => ?_) | refine pf_gr (by assumption) (fun _ _ => ?_) | refine pf_ld (fun _ => ?_) | refine pf_vi ?_ (fun _ _ => ?_) | refine pf_bi ?_ (fun _ _ => ?_) | refine pf_vv ?_ (fun _ => ?_) | refine pf_bv ?_ (fun _ => ?_) | refine pf_pI (by assumption) (fun _ => ?_) | refine pf_pZ (by assumption) (fun _ => ?_) | refine pf_sI (by assumption) (fun _ => ?_) | refine pf_sZ (by assumption) (fun _ => ?_) | refine pf_la (by assumption) (fun _ _ => ?_) | refine pf_bn (fun _ => ?_) | refine pf_ln (fun _ => ?_) | apply pf_if))
set_option maxRecDepth 10000 in
theorem fr_Img_textWords (a0 : Nat) (I : fm_I) (h0 : sd false a0) : pF false (fn_Img_textWords a0 I) I := by
  unfold fn_Img_textWords
  repeat' (with_reducible (first | exact pf_ri | exact pf_rv | exact pf_rz | refine pf_gi (fun _ => ?_) | refine pf_gr (by assumption) (fun _ _ => ?_) | refine pf_ld (fun _ => ?_) | refine pf_vi ?_ (fun _ _ => ?_) | refine pf_bi ?_ (fun _ _ => ?_) | refine pf_vv ?_ (fun _ => ?_) | refine pf_bv ?_ (fun _ => ?_) | refine pf_pI (by assumption) (fun _ => ?_) | refine pf_pZ (by assumption) (fun _ => ?_) | refine pf_sI (by assumption) (fun _ => ?_) | refine pf_sZ (by assumption) (fun _ => ?_) | refine pf_la (by assumption) (fun _ _ => ?_) | refine pf_bn (fun _ => ?_) | refine pf_ln (fun _ => ?_) | apply pf_if))
set_option maxRecDepth 10000 in
theorem fr_Img_entryAddress (a0 : Nat) (I : fm_I) (h0 : sd false a0) : pF false (fn_Img_entryAddress a0 I) I := by
  unfold fn_Img_entryAddress
  repeat' (with_reducible (first | exact pf_ri | exact pf_rv | exact pf_rz | refine pf_gi (fun _ => ?_) | refine pf_gr (by assumption) (fun _ _ => ?_) | refine pf_ld (fun _ => ?_) | refine pf_vi ?_ (fun _ _ => ?_) | refine pf_bi ?_ (fun _ _ => ?_) | refine pf_vv ?_ (fun _ => ?_) | refine pf_bv ?_ (fun _ => ?_) | refine pf_pI (by assumption) (fun _ => ?_) | refine pf_pZ (by assumption) (fun _ => ?_) | refine pf_sI (by assumption) (fun _ => ?_) | refine pf_sZ (by assumption) (fun _ => ?_) | refine pf_la (by assumption) (fun _ _ => ?_) | refine pf_bn (fun _ => ?_) | refine pf_ln (fun _ => ?_) | apply pf_if))
set_option maxRecDepth 10000 in
theorem fr_Mac_begin_18 (n : Nat) : ∀ (a0 : Nat) (a1 : Nat) (a2 : Int32) (I : fm_I), sd false a0 → sd false a1 → pF false (fn_Mac_begin_18 n a0 a1 a2 I) I := by
  induction n with
  | zero =>
    intro a0 a1 a2 I ha0 ha1
    unfold fn_Mac_begin_18
    exact pf_none
  | succ n ih =>
    intro a0 a1 a2 I ha0 ha1
    unfold fn_Mac_begin_18
    repeat' (with_reducible (first | exact pf_ri | exact pf_rv | exact pf_rz | refine pf_gi (fun _ => ?_) | refine pf_gr (by assumption) (fun _ _ => ?_) | refine pf_ld (fun _ => ?_) | refine pf_vi ?_ (fun _ _ => ?_) | refine pf_bi ?_ (fun _ _ => ?_) | refine pf_vv ?_ (fun _ => ?_) | refine pf_bv ?_ (fun _ => ?_) | refine pf_pI (by assumption) (fun _ => ?_) | refine pf_pZ (by assumption) (fun _ => ?_) | refine pf_sI (by assumption) (fun _ => ?_) | refine pf_sZ (by assumption) (fun _ => ?_) | refine pf_la (by assumption) (fun _ _ => ?_) | refine pf_bn (fun _ => ?_) | refine pf_ln (fun _ => ?_) | (apply fr_Img_howMany <;> assumption) | (apply fr_Img_textWords <;> assumption) | (apply fr_Img_wordAt <;> assumption) | (apply fr_Img_entryAddress <;> assumption) | (apply ih <;> assumption) | apply pf_if))
set_option maxRecDepth 10000 in
theorem fr_Mac_begin (a0 : Nat) (a1 : Nat) (I : fm_I) (h0 : sd false a0) (h1 : sd false a1) : pF false (fn_Mac_begin a0 a1 I) I := by
  unfold fn_Mac_begin
  repeat' (with_reducible (first | exact pf_ri | exact pf_rv | exact pf_rz | refine pf_gi (fun _ => ?_) | refine pf_gr (by assumption) (fun _ _ => ?_) | refine pf_ld (fun _ => ?_) | refine pf_vi ?_ (fun _ _ => ?_) | refine pf_bi ?_ (fun _ _ => ?_) | refine pf_vv ?_ (fun _ => ?_) | refine pf_bv ?_ (fun _ => ?_) | refine pf_pI (by assumption) (fun _ => ?_) | refine pf_pZ (by assumption) (fun _ => ?_) | refine pf_sI (by assumption) (fun _ => ?_) | refine pf_sZ (by assumption) (fun _ => ?_) | refine pf_la (by assumption) (fun _ _ => ?_) | refine pf_bn (fun _ => ?_) | refine pf_ln (fun _ => ?_) | (apply fr_Img_howMany <;> assumption) | (apply fr_Img_textWords <;> assumption) | (apply fr_Img_wordAt <;> assumption) | (apply fr_Img_entryAddress <;> assumption) | (apply fr_Mac_begin_18 <;> assumption) | apply pf_if))
set_option maxRecDepth 10000 in
theorem fr_SL_start (a0 : Nat) (I : fm_I) (h0 : sd false a0) : pF false (fn_SL_start a0 I) I := by
  unfold fn_SL_start
  repeat' (with_reducible (first | exact pf_ri | exact pf_rv | exact pf_rz | refine pf_gi (fun _ => ?_) | refine pf_gr (by assumption) (fun _ _ => ?_) | refine pf_ld (fun _ => ?_) | refine pf_vi ?_ (fun _ _ => ?_) | refine pf_bi ?_ (fun _ _ => ?_) | refine pf_vv ?_ (fun _ => ?_) | refine pf_bv ?_ (fun _ => ?_) | refine pf_pI (by assumption) (fun _ => ?_) | refine pf_pZ (by assumption) (fun _ => ?_) | refine pf_sI (by assumption) (fun _ => ?_) | refine pf_sZ (by assumption) (fun _ => ?_) | refine pf_la (by assumption) (fun _ _ => ?_) | refine pf_bn (fun _ => ?_) | refine pf_ln (fun _ => ?_) | (apply fr_Img_isThere <;> assumption) | (apply fr_Mac_begin <;> assumption) | apply pf_if))
set_option maxRecDepth 10000 in
theorem fr_Mac_putOnTape (a0 : Nat) (a1 : Int32) (I : fm_I) (h0 : sd false a0) : pF false (fn_Mac_putOnTape a0 a1 I) I := by
  unfold fn_Mac_putOnTape
  repeat' (with_reducible (first | exact pf_ri | exact pf_rv | exact pf_rz | refine pf_gi (fun _ => ?_) | refine pf_gr (by assumption) (fun _ _ => ?_) | refine pf_ld (fun _ => ?_) | refine pf_vi ?_ (fun _ _ => ?_) | refine pf_bi ?_ (fun _ _ => ?_) | refine pf_vv ?_ (fun _ => ?_) | refine pf_bv ?_ (fun _ => ?_) | refine pf_pI (by assumption) (fun _ => ?_) | refine pf_pZ (by assumption) (fun _ => ?_) | refine pf_sI (by assumption) (fun _ => ?_) | refine pf_sZ (by assumption) (fun _ => ?_) | refine pf_la (by assumption) (fun _ _ => ?_) | refine pf_bn (fun _ => ?_) | refine pf_ln (fun _ => ?_) | (apply fr_SL_isWord <;> assumption) | apply pf_if))
set_option maxRecDepth 10000 in
theorem fr_SL_feed (a0 : Nat) (a1 : Int32) (I : fm_I) (h0 : sd false a0) : pF false (fn_SL_feed a0 a1 I) I := by
  unfold fn_SL_feed
  repeat' (with_reducible (first | exact pf_ri | exact pf_rv | exact pf_rz | refine pf_gi (fun _ => ?_) | refine pf_gr (by assumption) (fun _ _ => ?_) | refine pf_ld (fun _ => ?_) | refine pf_vi ?_ (fun _ _ => ?_) | refine pf_bi ?_ (fun _ _ => ?_) | refine pf_vv ?_ (fun _ => ?_) | refine pf_bv ?_ (fun _ => ?_) | refine pf_pI (by assumption) (fun _ => ?_) | refine pf_pZ (by assumption) (fun _ => ?_) | refine pf_sI (by assumption) (fun _ => ?_) | refine pf_sZ (by assumption) (fun _ => ?_) | refine pf_la (by assumption) (fun _ _ => ?_) | refine pf_bn (fun _ => ?_) | refine pf_ln (fun _ => ?_) | (apply fr_Mac_putOnTape <;> assumption) | apply pf_if))
set_option maxRecDepth 10000 in
theorem fr_Mac_isThere (a0 : Nat) (I : fm_I) (h0 : sd false a0) : pF false (fn_Mac_isThere a0 I) I := by
  unfold fn_Mac_isThere
  repeat' (with_reducible (first | exact pf_ri | exact pf_rv | exact pf_rz | refine pf_gi (fun _ => ?_) | refine pf_gr (by assumption) (fun _ _ => ?_) | refine pf_ld (fun _ => ?_) | refine pf_vi ?_ (fun _ _ => ?_) | refine pf_bi ?_ (fun _ _ => ?_) | refine pf_vv ?_ (fun _ => ?_) | refine pf_bv ?_ (fun _ => ?_) | refine pf_pI (by assumption) (fun _ => ?_) | refine pf_pZ (by assumption) (fun _ => ?_) | refine pf_sI (by assumption) (fun _ => ?_) | refine pf_sZ (by assumption) (fun _ => ?_) | refine pf_la (by assumption) (fun _ _ => ?_) | refine pf_bn (fun _ => ?_) | refine pf_ln (fun _ => ?_) | apply pf_if))
set_option maxRecDepth 10000 in
theorem fr_Mac_isInside (a0 : Nat) (a1 : Int32) (I : fm_I) (h0 : sd false a0) : pF false (fn_Mac_isInside a0 a1 I) I := by
  unfold fn_Mac_isInside
  repeat' (with_reducible (first | exact pf_ri | exact pf_rv | exact pf_rz | refine pf_gi (fun _ => ?_) | refine pf_gr (by assumption) (fun _ _ => ?_) | refine pf_ld (fun _ => ?_) | refine pf_vi ?_ (fun _ _ => ?_) | refine pf_bi ?_ (fun _ _ => ?_) | refine pf_vv ?_ (fun _ => ?_) | refine pf_bv ?_ (fun _ => ?_) | refine pf_pI (by assumption) (fun _ => ?_) | refine pf_pZ (by assumption) (fun _ => ?_) | refine pf_sI (by assumption) (fun _ => ?_) | refine pf_sZ (by assumption) (fun _ => ?_) | refine pf_la (by assumption) (fun _ _ => ?_) | refine pf_bn (fun _ => ?_) | refine pf_ln (fun _ => ?_) | apply pf_if))
set_option maxRecDepth 10000 in
theorem fr_Mac_isTwoWordsLong (a0 : Int32) (I : fm_I) : pF false (fn_Mac_isTwoWordsLong a0 I) I := by
  unfold fn_Mac_isTwoWordsLong
  repeat' (with_reducible (first | exact pf_ri | exact pf_rv | exact pf_rz | refine pf_gi (fun _ => ?_) | refine pf_gr (by assumption) (fun _ _ => ?_) | refine pf_ld (fun _ => ?_) | refine pf_vi ?_ (fun _ _ => ?_) | refine pf_bi ?_ (fun _ _ => ?_) | refine pf_vv ?_ (fun _ => ?_) | refine pf_bv ?_ (fun _ => ?_) | refine pf_pI (by assumption) (fun _ => ?_) | refine pf_pZ (by assumption) (fun _ => ?_) | refine pf_sI (by assumption) (fun _ => ?_) | refine pf_sZ (by assumption) (fun _ => ?_) | refine pf_la (by assumption) (fun _ _ => ?_) | refine pf_bn (fun _ => ?_) | refine pf_ln (fun _ => ?_) | (apply fr_SL_isWithin <;> assumption) | apply pf_if))
set_option maxRecDepth 10000 in
theorem fr_Mac_mayTouch_15 : ∀ (a0 : Nat) (a1 : Int32) (a2 : Int32) (I : fm_I), sd false a0 → pF false (fn_Mac_mayTouch_15 a0 a1 a2 I) I := by
  intro a0 a1 a2 I ha0
  unfold fn_Mac_mayTouch_15
  repeat' (with_reducible (first | exact pf_ri | exact pf_rv | exact pf_rz | refine pf_gi (fun _ => ?_) | refine pf_gr (by assumption) (fun _ _ => ?_) | refine pf_ld (fun _ => ?_) | refine pf_vi ?_ (fun _ _ => ?_) | refine pf_bi ?_ (fun _ _ => ?_) | refine pf_vv ?_ (fun _ => ?_) | refine pf_bv ?_ (fun _ => ?_) | refine pf_pI (by assumption) (fun _ => ?_) | refine pf_pZ (by assumption) (fun _ => ?_) | refine pf_sI (by assumption) (fun _ => ?_) | refine pf_sZ (by assumption) (fun _ => ?_) | refine pf_la (by assumption) (fun _ _ => ?_) | refine pf_bn (fun _ => ?_) | refine pf_ln (fun _ => ?_) | (apply fr_SL_isWithin <;> assumption) | (apply fr_Mac_isInside <;> assumption) | apply pf_if))
set_option maxRecDepth 10000 in
theorem fr_Mac_mayTouch (a0 : Nat) (a1 : Int32) (a2 : Int32) (I : fm_I) (h0 : sd false a0) : pF false (fn_Mac_mayTouch a0 a1 a2 I) I := by
  unfold fn_Mac_mayTouch
  repeat' (with_reducible (first | exact pf_ri | exact pf_rv | exact pf_rz | refine pf_gi (fun _ => ?_) | refine pf_gr (by assumption) (fun _ _ => ?_) | refine pf_ld (fun _ => ?_) | refine pf_vi ?_ (fun _ _ => ?_) | refine pf_bi ?_ (fun _ _ => ?_) | refine pf_vv ?_ (fun _ => ?_) | refine pf_bv ?_ (fun _ => ?_) | refine pf_pI (by assumption) (fun _ => ?_) | refine pf_pZ (by assumption) (fun _ => ?_) | refine pf_sI (by assumption) (fun _ => ?_) | refine pf_sZ (by assumption) (fun _ => ?_) | refine pf_la (by assumption) (fun _ _ => ?_) | refine pf_bn (fun _ => ?_) | refine pf_ln (fun _ => ?_) | (apply fr_SL_isWithin <;> assumption) | (apply fr_Mac_isInside <;> assumption) | (apply fr_Mac_mayTouch_15 <;> assumption) | apply pf_if))
set_option maxRecDepth 10000 in
theorem fr_Mac_conditionHolds (a0 : Nat) (a1 : Int32) (I : fm_I) (h0 : sd false a0) : pF false (fn_Mac_conditionHolds a0 a1 I) I := by
  unfold fn_Mac_conditionHolds
  repeat' (with_reducible (first | exact pf_ri | exact pf_rv | exact pf_rz | refine pf_gi (fun _ => ?_) | refine pf_gr (by assumption) (fun _ _ => ?_) | refine pf_ld (fun _ => ?_) | refine pf_vi ?_ (fun _ _ => ?_) | refine pf_bi ?_ (fun _ _ => ?_) | refine pf_vv ?_ (fun _ => ?_) | refine pf_bv ?_ (fun _ => ?_) | refine pf_pI (by assumption) (fun _ => ?_) | refine pf_pZ (by assumption) (fun _ => ?_) | refine pf_sI (by assumption) (fun _ => ?_) | refine pf_sZ (by assumption) (fun _ => ?_) | refine pf_la (by assumption) (fun _ _ => ?_) | refine pf_bn (fun _ => ?_) | refine pf_ln (fun _ => ?_) | apply pf_if))
set_option maxRecDepth 10000 in
theorem fr_Mac_doTwoWords (a0 : Nat) (a1 : Int32) (a2 : Int32) (I : fm_I) (h0 : sd false a0) : pF false (fn_Mac_doTwoWords a0 a1 a2 I) I := by
  unfold fn_Mac_doTwoWords
  repeat' (with_reducible (first | exact pf_ri | exact pf_rv | exact pf_rz | refine pf_gi (fun _ => ?_) | refine pf_gr (by assumption) (fun _ _ => ?_) | refine pf_ld (fun _ => ?_) | refine pf_vi ?_ (fun _ _ => ?_) | refine pf_bi ?_ (fun _ _ => ?_) | refine pf_vv ?_ (fun _ => ?_) | refine pf_bv ?_ (fun _ => ?_) | refine pf_pI (by assumption) (fun _ => ?_) | refine pf_pZ (by assumption) (fun _ => ?_) | refine pf_sI (by assumption) (fun _ => ?_) | refine pf_sZ (by assumption) (fun _ => ?_) | refine pf_la (by assumption) (fun _ _ => ?_) | refine pf_bn (fun _ => ?_) | refine pf_ln (fun _ => ?_) | (apply fr_Mac_isInside <;> assumption) | (apply fr_Mac_mayTouch <;> assumption) | (apply fr_SL_toWord <;> assumption) | (apply fr_Mac_conditionHolds <;> assumption) | apply pf_if))
set_option maxRecDepth 10000 in
theorem fr_Mac_signed (a0 : Int32) (I : fm_I) : pF false (fn_Mac_signed a0 I) I := by
  unfold fn_Mac_signed
  repeat' (with_reducible (first | exact pf_ri | exact pf_rv | exact pf_rz | refine pf_gi (fun _ => ?_) | refine pf_gr (by assumption) (fun _ _ => ?_) | refine pf_ld (fun _ => ?_) | refine pf_vi ?_ (fun _ _ => ?_) | refine pf_bi ?_ (fun _ _ => ?_) | refine pf_vv ?_ (fun _ => ?_) | refine pf_bv ?_ (fun _ => ?_) | refine pf_pI (by assumption) (fun _ => ?_) | refine pf_pZ (by assumption) (fun _ => ?_) | refine pf_sI (by assumption) (fun _ => ?_) | refine pf_sZ (by assumption) (fun _ => ?_) | refine pf_la (by assumption) (fun _ _ => ?_) | refine pf_bn (fun _ => ?_) | refine pf_ln (fun _ => ?_) | apply pf_if))
set_option maxRecDepth 10000 in
theorem fr_Mac_putOutA_2 (n : Nat) : ∀ (a0 : Nat) (a1 : Int32) (I : fm_I), sd false a0 → pF false (fn_Mac_putOutA_2 n a0 a1 I) I := by
  induction n with
  | zero =>
    intro a0 a1 I ha0
    unfold fn_Mac_putOutA_2
    exact pf_none
  | succ n ih =>
    intro a0 a1 I ha0
    unfold fn_Mac_putOutA_2
    repeat' (with_reducible (first | exact pf_ri | exact pf_rv | exact pf_rz | refine pf_gi (fun _ => ?_) | refine pf_gr (by assumption) (fun _ _ => ?_) | refine pf_ld (fun _ => ?_) | refine pf_vi ?_ (fun _ _ => ?_) | refine pf_bi ?_ (fun _ _ => ?_) | refine pf_vv ?_ (fun _ => ?_) | refine pf_bv ?_ (fun _ => ?_) | refine pf_pI (by assumption) (fun _ => ?_) | refine pf_pZ (by assumption) (fun _ => ?_) | refine pf_sI (by assumption) (fun _ => ?_) | refine pf_sZ (by assumption) (fun _ => ?_) | refine pf_la (by assumption) (fun _ _ => ?_) | refine pf_bn (fun _ => ?_) | refine pf_ln (fun _ => ?_) | (apply ih <;> assumption) | apply pf_if))
set_option maxRecDepth 10000 in
theorem fr_Mac_putOutA (a0 : Nat) (I : fm_I) (h0 : sd false a0) : pF false (fn_Mac_putOutA a0 I) I := by
  unfold fn_Mac_putOutA
  repeat' (with_reducible (first | exact pf_ri | exact pf_rv | exact pf_rz | refine pf_gi (fun _ => ?_) | refine pf_gr (by assumption) (fun _ _ => ?_) | refine pf_ld (fun _ => ?_) | refine pf_vi ?_ (fun _ _ => ?_) | refine pf_bi ?_ (fun _ _ => ?_) | refine pf_vv ?_ (fun _ => ?_) | refine pf_bv ?_ (fun _ => ?_) | refine pf_pI (by assumption) (fun _ => ?_) | refine pf_pZ (by assumption) (fun _ => ?_) | refine pf_sI (by assumption) (fun _ => ?_) | refine pf_sZ (by assumption) (fun _ => ?_) | refine pf_la (by assumption) (fun _ _ => ?_) | refine pf_bn (fun _ => ?_) | refine pf_ln (fun _ => ?_) | (apply fr_Mac_putOutA_2 <;> assumption) | apply pf_if))
set_option maxRecDepth 10000 in
theorem fr_Mac_nextOfTape (a0 : Nat) (I : fm_I) (h0 : sd false a0) : pF false (fn_Mac_nextOfTape a0 I) I := by
  unfold fn_Mac_nextOfTape
  repeat' (with_reducible (first | exact pf_ri | exact pf_rv | exact pf_rz | refine pf_gi (fun _ => ?_) | refine pf_gr (by assumption) (fun _ _ => ?_) | refine pf_ld (fun _ => ?_) | refine pf_vi ?_ (fun _ _ => ?_) | refine pf_bi ?_ (fun _ _ => ?_) | refine pf_vv ?_ (fun _ => ?_) | refine pf_bv ?_ (fun _ => ?_) | refine pf_pI (by assumption) (fun _ => ?_) | refine pf_pZ (by assumption) (fun _ => ?_) | refine pf_sI (by assumption) (fun _ => ?_) | refine pf_sZ (by assumption) (fun _ => ?_) | refine pf_la (by assumption) (fun _ _ => ?_) | refine pf_bn (fun _ => ?_) | refine pf_ln (fun _ => ?_) | apply pf_if))
set_option maxRecDepth 10000 in
theorem fr_Mac_doOneWord_23 : ∀ (a0 : Nat) (a1 : Int32) (a2 : Int32) (I : fm_I), sd false a0 → pF false (fn_Mac_doOneWord_23 a0 a1 a2 I) I := by
  intro a0 a1 a2 I ha0
  unfold fn_Mac_doOneWord_23
  repeat' (with_reducible (first | exact pf_ri | exact pf_rv | exact pf_rz | refine pf_gi (fun _ => ?_) | refine pf_gr (by assumption) (fun _ _ => ?_) | refine pf_ld (fun _ => ?_) | refine pf_vi ?_ (fun _ _ => ?_) | refine pf_bi ?_ (fun _ _ => ?_) | refine pf_vv ?_ (fun _ => ?_) | refine pf_bv ?_ (fun _ => ?_) | refine pf_pI (by assumption) (fun _ => ?_) | refine pf_pZ (by assumption) (fun _ => ?_) | refine pf_sI (by assumption) (fun _ => ?_) | refine pf_sZ (by assumption) (fun _ => ?_) | refine pf_la (by assumption) (fun _ _ => ?_) | refine pf_bn (fun _ => ?_) | refine pf_ln (fun _ => ?_) | (apply fr_Mac_isInside <;> assumption) | (apply fr_SL_toWord <;> assumption) | (apply fr_Mac_conditionHolds <;> assumption) | (apply fr_Mac_signed <;> assumption) | (apply fr_Mac_putOutA <;> assumption) | (apply fr_Mac_nextOfTape <;> assumption) | apply pf_if))
set_option maxRecDepth 10000 in
theorem fr_Mac_doOneWord (a0 : Nat) (a1 : Int32) (a2 : Int32) (I : fm_I) (h0 : sd false a0) : pF false (fn_Mac_doOneWord a0 a1 a2 I) I := by
  unfold fn_Mac_doOneWord
  repeat' (with_reducible (first | exact pf_ri | exact pf_rv | exact pf_rz | refine pf_gi (fun _ => ?_) | refine pf_gr (by assumption) (fun _ _ => ?_) | refine pf_ld (fun _ => ?_) | refine pf_vi ?_ (fun _ _ => ?_) | refine pf_bi ?_ (fun _ _ => ?_) | refine pf_vv ?_ (fun _ => ?_) | refine pf_bv ?_ (fun _ => ?_) | refine pf_pI (by assumption) (fun _ => ?_) | refine pf_pZ (by assumption) (fun _ => ?_) | refine pf_sI (by assumption) (fun _ => ?_) | refine pf_sZ (by assumption) (fun _ => ?_) | refine pf_la (by assumption) (fun _ _ => ?_) | refine pf_bn (fun _ => ?_) | refine pf_ln (fun _ => ?_) | (apply fr_Mac_isInside <;> assumption) | (apply fr_SL_toWord <;> assumption) | (apply fr_Mac_conditionHolds <;> assumption) | (apply fr_Mac_signed <;> assumption) | (apply fr_Mac_putOutA <;> assumption) | (apply fr_Mac_nextOfTape <;> assumption) | (apply fr_Mac_doOneWord_23 <;> assumption) | apply pf_if))
set_option maxRecDepth 10000 in
theorem fr_Mac_doStep (a0 : Nat) (I : fm_I) (h0 : sd false a0) : pF false (fn_Mac_doStep a0 I) I := by
  unfold fn_Mac_doStep
  repeat' (with_reducible (first | exact pf_ri | exact pf_rv | exact pf_rz | refine pf_gi (fun _ => ?_) | refine pf_gr (by assumption) (fun _ _ => ?_) | refine pf_ld (fun _ => ?_) | refine pf_vi ?_ (fun _ _ => ?_) | refine pf_bi ?_ (fun _ _ => ?_) | refine pf_vv ?_ (fun _ => ?_) | refine pf_bv ?_ (fun _ => ?_) | refine pf_pI (by assumption) (fun _ => ?_) | refine pf_pZ (by assumption) (fun _ => ?_) | refine pf_sI (by assumption) (fun _ => ?_) | refine pf_sZ (by assumption) (fun _ => ?_) | refine pf_la (by assumption) (fun _ _ => ?_) | refine pf_bn (fun _ => ?_) | refine pf_ln (fun _ => ?_) | (apply fr_Mac_isInside <;> assumption) | (apply fr_Mac_isTwoWordsLong <;> assumption) | (apply fr_Mac_doTwoWords <;> assumption) | (apply fr_Mac_doOneWord <;> assumption) | apply pf_if))
set_option maxRecDepth 10000 in
theorem fr_Mac_doSteps_2 (n : Nat) : ∀ (a0 : Nat) (a1 : Int32) (a2 : Int32) (I : fm_I), sd false a0 → pF false (fn_Mac_doSteps_2 n a0 a1 a2 I) I := by
  induction n with
  | zero =>
    intro a0 a1 a2 I ha0
    unfold fn_Mac_doSteps_2
    exact pf_none
  | succ n ih =>
    intro a0 a1 a2 I ha0
    unfold fn_Mac_doSteps_2
    repeat' (with_reducible (first | exact pf_ri | exact pf_rv | exact pf_rz | refine pf_gi (fun _ => ?_) | refine pf_gr (by assumption) (fun _ _ => ?_) | refine pf_ld (fun _ => ?_) | refine pf_vi ?_ (fun _ _ => ?_) | refine pf_bi ?_ (fun _ _ => ?_) | refine pf_vv ?_ (fun _ => ?_) | refine pf_bv ?_ (fun _ => ?_) | refine pf_pI (by assumption) (fun _ => ?_) | refine pf_pZ (by assumption) (fun _ => ?_) | refine pf_sI (by assumption) (fun _ => ?_) | refine pf_sZ (by assumption) (fun _ => ?_) | refine pf_la (by assumption) (fun _ _ => ?_) | refine pf_bn (fun _ => ?_) | refine pf_ln (fun _ => ?_) | (apply fr_Mac_doStep <;> assumption) | (apply ih <;> assumption) | apply pf_if))
set_option maxRecDepth 10000 in
theorem fr_Mac_doSteps (a0 : Nat) (a1 : Int32) (I : fm_I) (h0 : sd false a0) : pF false (fn_Mac_doSteps a0 a1 I) I := by
  unfold fn_Mac_doSteps
  repeat' (with_reducible (first | exact pf_ri | exact pf_rv | exact pf_rz | refine pf_gi (fun _ => ?_) | refine pf_gr (by assumption) (fun _ _ => ?_) | refine pf_ld (fun _ => ?_) | refine pf_vi ?_ (fun _ _ => ?_) | refine pf_bi ?_ (fun _ _ => ?_) | refine pf_vv ?_ (fun _ => ?_) | refine pf_bv ?_ (fun _ => ?_) | refine pf_pI (by assumption) (fun _ => ?_) | refine pf_pZ (by assumption) (fun _ => ?_) | refine pf_sI (by assumption) (fun _ => ?_) | refine pf_sZ (by assumption) (fun _ => ?_) | refine pf_la (by assumption) (fun _ _ => ?_) | refine pf_bn (fun _ => ?_) | refine pf_ln (fun _ => ?_) | (apply fr_Mac_doStep <;> assumption) | (apply fr_Mac_doSteps_2 <;> assumption) | apply pf_if))
set_option maxRecDepth 10000 in
theorem fr_SL_run (a0 : Nat) (a1 : Int32) (I : fm_I) (h0 : sd false a0) : pF false (fn_SL_run a0 a1 I) I := by
  unfold fn_SL_run
  repeat' (with_reducible (first | exact pf_ri | exact pf_rv | exact pf_rz | refine pf_gi (fun _ => ?_) | refine pf_gr (by assumption) (fun _ _ => ?_) | refine pf_ld (fun _ => ?_) | refine pf_vi ?_ (fun _ _ => ?_) | refine pf_bi ?_ (fun _ _ => ?_) | refine pf_vv ?_ (fun _ => ?_) | refine pf_bv ?_ (fun _ => ?_) | refine pf_pI (by assumption) (fun _ => ?_) | refine pf_pZ (by assumption) (fun _ => ?_) | refine pf_sI (by assumption) (fun _ => ?_) | refine pf_sZ (by assumption) (fun _ => ?_) | refine pf_la (by assumption) (fun _ _ => ?_) | refine pf_bn (fun _ => ?_) | refine pf_ln (fun _ => ?_) | (apply fr_Mac_isThere <;> assumption) | (apply fr_SL_isWithin <;> assumption) | (apply fr_Mac_doSteps <;> assumption) | apply pf_if))
set_option maxRecDepth 10000 in
theorem fr_Mac_latestWord (a0 : Nat) (a1 : Int32) (I : fm_I) (h0 : sd false a0) : pF false (fn_Mac_latestWord a0 a1 I) I := by
  unfold fn_Mac_latestWord
  repeat' (with_reducible (first | exact pf_ri | exact pf_rv | exact pf_rz | refine pf_gi (fun _ => ?_) | refine pf_gr (by assumption) (fun _ _ => ?_) | refine pf_ld (fun _ => ?_) | refine pf_vi ?_ (fun _ _ => ?_) | refine pf_bi ?_ (fun _ _ => ?_) | refine pf_vv ?_ (fun _ => ?_) | refine pf_bv ?_ (fun _ => ?_) | refine pf_pI (by assumption) (fun _ => ?_) | refine pf_pZ (by assumption) (fun _ => ?_) | refine pf_sI (by assumption) (fun _ => ?_) | refine pf_sZ (by assumption) (fun _ => ?_) | refine pf_la (by assumption) (fun _ _ => ?_) | refine pf_bn (fun _ => ?_) | refine pf_ln (fun _ => ?_) | (apply fr_SL_isWithin <;> assumption) | apply pf_if))
set_option maxRecDepth 10000 in
theorem fr_Mac_registerAt (a0 : Nat) (a1 : Int32) (I : fm_I) (h0 : sd false a0) : pF false (fn_Mac_registerAt a0 a1 I) I := by
  unfold fn_Mac_registerAt
  repeat' (with_reducible (first | exact pf_ri | exact pf_rv | exact pf_rz | refine pf_gi (fun _ => ?_) | refine pf_gr (by assumption) (fun _ _ => ?_) | refine pf_ld (fun _ => ?_) | refine pf_vi ?_ (fun _ _ => ?_) | refine pf_bi ?_ (fun _ _ => ?_) | refine pf_vv ?_ (fun _ => ?_) | refine pf_bv ?_ (fun _ => ?_) | refine pf_pI (by assumption) (fun _ => ?_) | refine pf_pZ (by assumption) (fun _ => ?_) | refine pf_sI (by assumption) (fun _ => ?_) | refine pf_sZ (by assumption) (fun _ => ?_) | refine pf_la (by assumption) (fun _ _ => ?_) | refine pf_bn (fun _ => ?_) | refine pf_ln (fun _ => ?_) | (apply fr_Mac_latestWord <;> assumption) | apply pf_if))
set_option maxRecDepth 10000 in
theorem fr_SL_register (a0 : Nat) (a1 : Int32) (I : fm_I) (h0 : sd false a0) : pF false (fn_SL_register a0 a1 I) I := by
  unfold fn_SL_register
  repeat' (with_reducible (first | exact pf_ri | exact pf_rv | exact pf_rz | refine pf_gi (fun _ => ?_) | refine pf_gr (by assumption) (fun _ _ => ?_) | refine pf_ld (fun _ => ?_) | refine pf_vi ?_ (fun _ _ => ?_) | refine pf_bi ?_ (fun _ _ => ?_) | refine pf_vv ?_ (fun _ => ?_) | refine pf_bv ?_ (fun _ => ?_) | refine pf_pI (by assumption) (fun _ => ?_) | refine pf_pZ (by assumption) (fun _ => ?_) | refine pf_sI (by assumption) (fun _ => ?_) | refine pf_sZ (by assumption) (fun _ => ?_) | refine pf_la (by assumption) (fun _ _ => ?_) | refine pf_bn (fun _ => ?_) | refine pf_ln (fun _ => ?_) | (apply fr_Mac_isThere <;> assumption) | (apply fr_Mac_registerAt <;> assumption) | apply pf_if))
set_option maxRecDepth 10000 in
theorem fr_Mac_wordAt (a0 : Nat) (a1 : Int32) (I : fm_I) (h0 : sd false a0) : pF false (fn_Mac_wordAt a0 a1 I) I := by
  unfold fn_Mac_wordAt
  repeat' (with_reducible (first | exact pf_ri | exact pf_rv | exact pf_rz | refine pf_gi (fun _ => ?_) | refine pf_gr (by assumption) (fun _ _ => ?_) | refine pf_ld (fun _ => ?_) | refine pf_vi ?_ (fun _ _ => ?_) | refine pf_bi ?_ (fun _ _ => ?_) | refine pf_vv ?_ (fun _ => ?_) | refine pf_bv ?_ (fun _ => ?_) | refine pf_pI (by assumption) (fun _ => ?_) | refine pf_pZ (by assumption) (fun _ => ?_) | refine pf_sI (by assumption) (fun _ => ?_) | refine pf_sZ (by assumption) (fun _ => ?_) | refine pf_la (by assumption) (fun _ _ => ?_) | refine pf_bn (fun _ => ?_) | refine pf_ln (fun _ => ?_) | (apply fr_Mac_isInside <;> assumption) | apply pf_if))
set_option maxRecDepth 10000 in
theorem fr_SL_memory (a0 : Nat) (a1 : Int32) (I : fm_I) (h0 : sd false a0) : pF false (fn_SL_memory a0 a1 I) I := by
  unfold fn_SL_memory
  repeat' (with_reducible (first | exact pf_ri | exact pf_rv | exact pf_rz | refine pf_gi (fun _ => ?_) | refine pf_gr (by assumption) (fun _ _ => ?_) | refine pf_ld (fun _ => ?_) | refine pf_vi ?_ (fun _ _ => ?_) | refine pf_bi ?_ (fun _ _ => ?_) | refine pf_vv ?_ (fun _ => ?_) | refine pf_bv ?_ (fun _ => ?_) | refine pf_pI (by assumption) (fun _ => ?_) | refine pf_pZ (by assumption) (fun _ => ?_) | refine pf_sI (by assumption) (fun _ => ?_) | refine pf_sZ (by assumption) (fun _ => ?_) | refine pf_la (by assumption) (fun _ _ => ?_) | refine pf_bn (fun _ => ?_) | refine pf_ln (fun _ => ?_) | (apply fr_Mac_wordAt <;> assumption) | apply pf_if))
set_option maxRecDepth 10000 in
theorem fr_Ref_module (a0 : Nat) (a1 : Int32) (I : fm_I) (h0 : sd true a0) : pF true (fn_Ref_module a0 a1 I) I := by
  unfold fn_Ref_module
  repeat' (with_reducible (first | exact pf_ri | exact pf_rv | exact pf_rz | refine pf_gi (fun _ => ?_) | refine pf_gr (by assumption) (fun _ _ => ?_) | refine pf_ld (fun _ => ?_) | refine pf_vi ?_ (fun _ _ => ?_) | refine pf_bi ?_ (fun _ _ => ?_) | refine pf_vv ?_ (fun _ => ?_) | refine pf_bv ?_ (fun _ => ?_) | refine pf_pI (by assumption) (fun _ => ?_) | refine pf_pZ (by assumption) (fun _ => ?_) | refine pf_sI (by assumption) (fun _ => ?_) | refine pf_sZ (by assumption) (fun _ => ?_) | refine pf_la (by assumption) (fun _ _ => ?_) | refine pf_bn (fun _ => ?_) | refine pf_ln (fun _ => ?_) | apply pf_if))
set_option maxRecDepth 10000 in
theorem fr_Ref_name (a0 : Nat) (a1 : Int32) (I : fm_I) (h0 : sd true a0) : pF true (fn_Ref_name a0 a1 I) I := by
  unfold fn_Ref_name
  repeat' (with_reducible (first | exact pf_ri | exact pf_rv | exact pf_rz | refine pf_gi (fun _ => ?_) | refine pf_gr (by assumption) (fun _ _ => ?_) | refine pf_ld (fun _ => ?_) | refine pf_vi ?_ (fun _ _ => ?_) | refine pf_bi ?_ (fun _ _ => ?_) | refine pf_vv ?_ (fun _ => ?_) | refine pf_bv ?_ (fun _ => ?_) | refine pf_pI (by assumption) (fun _ => ?_) | refine pf_pZ (by assumption) (fun _ => ?_) | refine pf_sI (by assumption) (fun _ => ?_) | refine pf_sZ (by assumption) (fun _ => ?_) | refine pf_la (by assumption) (fun _ _ => ?_) | refine pf_bn (fun _ => ?_) | refine pf_ln (fun _ => ?_) | apply pf_if))
set_option maxRecDepth 10000 in
theorem fr_Ref_isWord (a0 : Nat) (a1 : Int32) (I : fm_I) (h0 : sd true a0) : pF true (fn_Ref_isWord a0 a1 I) I := by
  unfold fn_Ref_isWord
  repeat' (with_reducible (first | exact pf_ri | exact pf_rv | exact pf_rz | refine pf_gi (fun _ => ?_) | refine pf_gr (by assumption) (fun _ _ => ?_) | refine pf_ld (fun _ => ?_) | refine pf_vi ?_ (fun _ _ => ?_) | refine pf_bi ?_ (fun _ _ => ?_) | refine pf_vv ?_ (fun _ => ?_) | refine pf_bv ?_ (fun _ => ?_) | refine pf_pI (by assumption) (fun _ => ?_) | refine pf_pZ (by assumption) (fun _ => ?_) | refine pf_sI (by assumption) (fun _ => ?_) | refine pf_sZ (by assumption) (fun _ => ?_) | refine pf_la (by assumption) (fun _ _ => ?_) | refine pf_bn (fun _ => ?_) | refine pf_ln (fun _ => ?_) | apply pf_if))
set_option maxRecDepth 10000 in
theorem fr_Ref_width (a0 : Nat) (a1 : Int32) (I : fm_I) (h0 : sd true a0) : pF true (fn_Ref_width a0 a1 I) I := by
  unfold fn_Ref_width
  repeat' (with_reducible (first | exact pf_ri | exact pf_rv | exact pf_rz | refine pf_gi (fun _ => ?_) | refine pf_gr (by assumption) (fun _ _ => ?_) | refine pf_ld (fun _ => ?_) | refine pf_vi ?_ (fun _ _ => ?_) | refine pf_bi ?_ (fun _ _ => ?_) | refine pf_vv ?_ (fun _ => ?_) | refine pf_bv ?_ (fun _ => ?_) | refine pf_pI (by assumption) (fun _ => ?_) | refine pf_pZ (by assumption) (fun _ => ?_) | refine pf_sI (by assumption) (fun _ => ?_) | refine pf_sZ (by assumption) (fun _ => ?_) | refine pf_la (by assumption) (fun _ _ => ?_) | refine pf_bn (fun _ => ?_) | refine pf_ln (fun _ => ?_) | apply pf_if))
set_option maxRecDepth 10000 in
theorem fr_Ref_place_9 (n : Nat) : ∀ (a0 : Nat) (a2 : Int32) (a3 : Int32) (a4 : Int32) (a5 : Int32) (I : fm_I), sd true a0 → pF true (fn_Ref_place_9 n a0 a2 a3 a4 a5 I) I := by
  induction n with
  | zero =>
    intro a0 a2 a3 a4 a5 I ha0
    unfold fn_Ref_place_9
    exact pf_none
  | succ n ih =>
    intro a0 a2 a3 a4 a5 I ha0
    unfold fn_Ref_place_9
    repeat' (with_reducible (first | exact pf_ri | exact pf_rv | exact pf_rz | refine pf_gi (fun _ => ?_) | refine pf_gr (by assumption) (fun _ _ => ?_) | refine pf_ld (fun _ => ?_) | refine pf_vi ?_ (fun _ _ => ?_) | refine pf_bi ?_ (fun _ _ => ?_) | refine pf_vv ?_ (fun _ => ?_) | refine pf_bv ?_ (fun _ => ?_) | refine pf_pI (by assumption) (fun _ => ?_) | refine pf_pZ (by assumption) (fun _ => ?_) | refine pf_sI (by assumption) (fun _ => ?_) | refine pf_sZ (by assumption) (fun _ => ?_) | refine pf_la (by assumption) (fun _ _ => ?_) | refine pf_bn (fun _ => ?_) | refine pf_ln (fun _ => ?_) | (apply fr_Ref_width <;> assumption) | (apply ih <;> assumption) | apply pf_if))
set_option maxRecDepth 10000 in
theorem fr_Ref_place (a0 : Nat) (a1 : Int32) (a2 : Int32) (a3 : Int32) (I : fm_I) (h0 : sd true a0) : pF true (fn_Ref_place a0 a1 a2 a3 I) I := by
  unfold fn_Ref_place
  repeat' (with_reducible (first | exact pf_ri | exact pf_rv | exact pf_rz | refine pf_gi (fun _ => ?_) | refine pf_gr (by assumption) (fun _ _ => ?_) | refine pf_ld (fun _ => ?_) | refine pf_vi ?_ (fun _ _ => ?_) | refine pf_bi ?_ (fun _ _ => ?_) | refine pf_vv ?_ (fun _ => ?_) | refine pf_bv ?_ (fun _ => ?_) | refine pf_pI (by assumption) (fun _ => ?_) | refine pf_pZ (by assumption) (fun _ => ?_) | refine pf_sI (by assumption) (fun _ => ?_) | refine pf_sZ (by assumption) (fun _ => ?_) | refine pf_la (by assumption) (fun _ _ => ?_) | refine pf_bn (fun _ => ?_) | refine pf_ln (fun _ => ?_) | (apply fr_Ref_width <;> assumption) | (apply fr_Ref_place_9 <;> assumption) | apply pf_if))
set_option maxRecDepth 10000 in
theorem fr_Ref_definition_5 (n : Nat) : ∀ (a0 : Nat) (a1 : Int32) (a2 : Int32) (a3 : Int32) (I : fm_I), sd true a0 → pF true (fn_Ref_definition_5 n a0 a1 a2 a3 I) I := by
  induction n with
  | zero =>
    intro a0 a1 a2 a3 I ha0
    unfold fn_Ref_definition_5
    exact pf_none
  | succ n ih =>
    intro a0 a1 a2 a3 I ha0
    unfold fn_Ref_definition_5
    repeat' (with_reducible (first | exact pf_ri | exact pf_rv | exact pf_rz | refine pf_gi (fun _ => ?_) | refine pf_gr (by assumption) (fun _ _ => ?_) | refine pf_ld (fun _ => ?_) | refine pf_vi ?_ (fun _ _ => ?_) | refine pf_bi ?_ (fun _ _ => ?_) | refine pf_vv ?_ (fun _ => ?_) | refine pf_bv ?_ (fun _ => ?_) | refine pf_pI (by assumption) (fun _ => ?_) | refine pf_pZ (by assumption) (fun _ => ?_) | refine pf_sI (by assumption) (fun _ => ?_) | refine pf_sZ (by assumption) (fun _ => ?_) | refine pf_la (by assumption) (fun _ _ => ?_) | refine pf_bn (fun _ => ?_) | refine pf_ln (fun _ => ?_) | (apply ih <;> assumption) | apply pf_if))
set_option maxRecDepth 10000 in
theorem fr_Ref_definition (a0 : Nat) (a1 : Int32) (a2 : Int32) (I : fm_I) (h0 : sd true a0) : pF true (fn_Ref_definition a0 a1 a2 I) I := by
  unfold fn_Ref_definition
  repeat' (with_reducible (first | exact pf_ri | exact pf_rv | exact pf_rz | refine pf_gi (fun _ => ?_) | refine pf_gr (by assumption) (fun _ _ => ?_) | refine pf_ld (fun _ => ?_) | refine pf_vi ?_ (fun _ _ => ?_) | refine pf_bi ?_ (fun _ _ => ?_) | refine pf_vv ?_ (fun _ => ?_) | refine pf_bv ?_ (fun _ => ?_) | refine pf_pI (by assumption) (fun _ => ?_) | refine pf_pZ (by assumption) (fun _ => ?_) | refine pf_sI (by assumption) (fun _ => ?_) | refine pf_sZ (by assumption) (fun _ => ?_) | refine pf_la (by assumption) (fun _ _ => ?_) | refine pf_bn (fun _ => ?_) | refine pf_ln (fun _ => ?_) | (apply fr_Ref_definition_5 <;> assumption) | apply pf_if))
set_option maxRecDepth 10000 in
theorem fr_Ref_common_5 (n : Nat) : ∀ (a0 : Nat) (a1 : Int32) (a2 : Int32) (a3 : Int32) (I : fm_I), sd true a0 → pF true (fn_Ref_common_5 n a0 a1 a2 a3 I) I := by
  induction n with
  | zero =>
    intro a0 a1 a2 a3 I ha0
    unfold fn_Ref_common_5
    exact pf_none
  | succ n ih =>
    intro a0 a1 a2 a3 I ha0
    unfold fn_Ref_common_5
    repeat' (with_reducible (first | exact pf_ri | exact pf_rv | exact pf_rz | refine pf_gi (fun _ => ?_) | refine pf_gr (by assumption) (fun _ _ => ?_) | refine pf_ld (fun _ => ?_) | refine pf_vi ?_ (fun _ _ => ?_) | refine pf_bi ?_ (fun _ _ => ?_) | refine pf_vv ?_ (fun _ => ?_) | refine pf_bv ?_ (fun _ => ?_) | refine pf_pI (by assumption) (fun _ => ?_) | refine pf_pZ (by assumption) (fun _ => ?_) | refine pf_sI (by assumption) (fun _ => ?_) | refine pf_sZ (by assumption) (fun _ => ?_) | refine pf_la (by assumption) (fun _ _ => ?_) | refine pf_bn (fun _ => ?_) | refine pf_ln (fun _ => ?_) | (apply ih <;> assumption) | apply pf_if))
set_option maxRecDepth 10000 in
theorem fr_Ref_common (a0 : Nat) (a1 : Int32) (a2 : Int32) (I : fm_I) (h0 : sd true a0) : pF true (fn_Ref_common a0 a1 a2 I) I := by
  unfold fn_Ref_common
  repeat' (with_reducible (first | exact pf_ri | exact pf_rv | exact pf_rz | refine pf_gi (fun _ => ?_) | refine pf_gr (by assumption) (fun _ _ => ?_) | refine pf_ld (fun _ => ?_) | refine pf_vi ?_ (fun _ _ => ?_) | refine pf_bi ?_ (fun _ _ => ?_) | refine pf_vv ?_ (fun _ => ?_) | refine pf_bv ?_ (fun _ => ?_) | refine pf_pI (by assumption) (fun _ => ?_) | refine pf_pZ (by assumption) (fun _ => ?_) | refine pf_sI (by assumption) (fun _ => ?_) | refine pf_sZ (by assumption) (fun _ => ?_) | refine pf_la (by assumption) (fun _ _ => ?_) | refine pf_bn (fun _ => ?_) | refine pf_ln (fun _ => ?_) | (apply fr_Ref_common_5 <;> assumption) | apply pf_if))
set_option maxRecDepth 10000 in
theorem fr_Ref_global_8 (n : Nat) : ∀ (a0 : Nat) (a1 : Int32) (a2 : Int32) (a3 : Int32) (a4 : Int32) (I : fm_I), sd true a0 → pF true (fn_Ref_global_8 n a0 a1 a2 a3 a4 I) I := by
  induction n with
  | zero =>
    intro a0 a1 a2 a3 a4 I ha0
    unfold fn_Ref_global_8
    exact pf_none
  | succ n ih =>
    intro a0 a1 a2 a3 a4 I ha0
    unfold fn_Ref_global_8
    repeat' (with_reducible (first | exact pf_ri | exact pf_rv | exact pf_rz | refine pf_gi (fun _ => ?_) | refine pf_gr (by assumption) (fun _ _ => ?_) | refine pf_ld (fun _ => ?_) | refine pf_vi ?_ (fun _ _ => ?_) | refine pf_bi ?_ (fun _ _ => ?_) | refine pf_vv ?_ (fun _ => ?_) | refine pf_bv ?_ (fun _ => ?_) | refine pf_pI (by assumption) (fun _ => ?_) | refine pf_pZ (by assumption) (fun _ => ?_) | refine pf_sI (by assumption) (fun _ => ?_) | refine pf_sZ (by assumption) (fun _ => ?_) | refine pf_la (by assumption) (fun _ _ => ?_) | refine pf_bn (fun _ => ?_) | refine pf_ln (fun _ => ?_) | (apply ih <;> assumption) | apply pf_if))
set_option maxRecDepth 10000 in
theorem fr_Ref_global (a0 : Nat) (a1 : Int32) (a2 : Int32) (I : fm_I) (h0 : sd true a0) : pF true (fn_Ref_global a0 a1 a2 I) I := by
  unfold fn_Ref_global
  repeat' (with_reducible (first | exact pf_ri | exact pf_rv | exact pf_rz | refine pf_gi (fun _ => ?_) | refine pf_gr (by assumption) (fun _ _ => ?_) | refine pf_ld (fun _ => ?_) | refine pf_vi ?_ (fun _ _ => ?_) | refine pf_bi ?_ (fun _ _ => ?_) | refine pf_vv ?_ (fun _ => ?_) | refine pf_bv ?_ (fun _ => ?_) | refine pf_pI (by assumption) (fun _ => ?_) | refine pf_pZ (by assumption) (fun _ => ?_) | refine pf_sI (by assumption) (fun _ => ?_) | refine pf_sZ (by assumption) (fun _ => ?_) | refine pf_la (by assumption) (fun _ _ => ?_) | refine pf_bn (fun _ => ?_) | refine pf_ln (fun _ => ?_) | (apply fr_Ref_global_8 <;> assumption) | apply pf_if))
set_option maxRecDepth 10000 in
theorem fr_Ref_exports (a0 : Nat) (a1 : Int32) (a2 : Int32) (I : fm_I) (h0 : sd true a0) : pF true (fn_Ref_exports a0 a1 a2 I) I := by
  unfold fn_Ref_exports
  repeat' (with_reducible (first | exact pf_ri | exact pf_rv | exact pf_rz | refine pf_gi (fun _ => ?_) | refine pf_gr (by assumption) (fun _ _ => ?_) | refine pf_ld (fun _ => ?_) | refine pf_vi ?_ (fun _ _ => ?_) | refine pf_bi ?_ (fun _ _ => ?_) | refine pf_vv ?_ (fun _ => ?_) | refine pf_bv ?_ (fun _ => ?_) | refine pf_pI (by assumption) (fun _ => ?_) | refine pf_pZ (by assumption) (fun _ => ?_) | refine pf_sI (by assumption) (fun _ => ?_) | refine pf_sZ (by assumption) (fun _ => ?_) | refine pf_la (by assumption) (fun _ _ => ?_) | refine pf_bn (fun _ => ?_) | refine pf_ln (fun _ => ?_) | (apply fr_Ref_global <;> assumption) | (apply fr_Ref_definition <;> assumption) | apply pf_if))
set_option maxRecDepth 10000 in
theorem fr_Ref_refers_76 (K33 : Nat → Int32 → Int32 → Int32 → Int32 → fm_I → pR) (hK33 : ∀ (a0 : Nat) (a1 : Int32) (a2 : Int32) (a3 : Int32) (a4 : Int32) (I : fm_I), sd true a0 → pF true (K33 a0 a1 a2 a3 a4 I) I) : ∀ (a0 : Nat) (a1 : Int32) (a2 : Int32) (a4 : Int32) (I : fm_I), sd true a0 → pF true (fn_Ref_refers_76 K33 a0 a1 a2 a4 I) I := by
  intro a0 a1 a2 a4 I ha0
  unfold fn_Ref_refers_76
  repeat' (with_reducible (first | exact pf_ri | exact pf_rv | exact pf_rz | refine pf_gi (fun _ => ?_) | refine pf_gr (by assumption) (fun _ _ => ?_) | refine pf_ld (fun _ => ?_) | refine pf_vi ?_ (fun _ _ => ?_) | refine pf_bi ?_ (fun _ _ => ?_) | refine pf_vv ?_ (fun _ => ?_) | refine pf_bv ?_ (fun _ => ?_) | refine pf_pI (by assumption) (fun _ => ?_) | refine pf_pZ (by assumption) (fun _ => ?_) | refine pf_sI (by assumption) (fun _ => ?_) | refine pf_sZ (by assumption) (fun _ => ?_) | refine pf_la (by assumption) (fun _ _ => ?_) | refine pf_bn (fun _ => ?_) | refine pf_ln (fun _ => ?_) | (apply fr_Ref_definition <;> assumption) | (apply fr_Ref_common <;> assumption) | (apply fr_Ref_global <;> assumption) | (apply fr_Ref_refers_33 <;> assumption) | (apply hK33 <;> assumption) | apply pf_if))
set_option maxRecDepth 10000 in
theorem fr_Ref_refers_33 (n : Nat) : ∀ (a0 : Nat) (a1 : Int32) (a2 : Int32) (a3 : Int32) (a4 : Int32) (I : fm_I), sd true a0 → pF true (fn_Ref_refers_33 n a0 a1 a2 a3 a4 I) I := by
  induction n with
  | zero =>
    intro a0 a1 a2 a3 a4 I ha0
    unfold fn_Ref_refers_33
    exact pf_none
  | succ n ih =>
    intro a0 a1 a2 a3 a4 I ha0
    unfold fn_Ref_refers_33
    repeat' (with_reducible (first | exact pf_ri | exact pf_rv | exact pf_rz | refine pf_gi (fun _ => ?_) | refine pf_gr (by assumption) (fun _ _ => ?_) | refine pf_ld (fun _ => ?_) | refine pf_vi ?_ (fun _ _ => ?_) | refine pf_bi ?_ (fun _ _ => ?_) | refine pf_vv ?_ (fun _ => ?_) | refine pf_bv ?_ (fun _ => ?_) | refine pf_pI (by assumption) (fun _ => ?_) | refine pf_pZ (by assumption) (fun _ => ?_) | refine pf_sI (by assumption) (fun _ => ?_) | refine pf_sZ (by assumption) (fun _ => ?_) | refine pf_la (by assumption) (fun _ _ => ?_) | refine pf_bn (fun _ => ?_) | refine pf_ln (fun _ => ?_) | (apply fr_Ref_definition <;> assumption) | (apply fr_Ref_common <;> assumption) | (apply fr_Ref_global <;> assumption) | (refine fr_Ref_refers_76 _ ih _ _ _ _  _ (by assumption) ) | (apply ih <;> assumption) | apply pf_if))
set_option maxRecDepth 10000 in
theorem fr_Ref_refers (a0 : Nat) (a1 : Int32) (a2 : Int32) (I : fm_I) (h0 : sd true a0) : pF true (fn_Ref_refers a0 a1 a2 I) I := by
  unfold fn_Ref_refers
  repeat' (with_reducible (first | exact pf_ri | exact pf_rv | exact pf_rz | refine pf_gi (fun _ => ?_) | refine pf_gr (by assumption) (fun _ _ => ?_) | refine pf_ld (fun _ => ?_) | refine pf_vi ?_ (fun _ _ => ?_) | refine pf_bi ?_ (fun _ _ => ?_) | refine pf_vv ?_ (fun _ => ?_) | refine pf_bv ?_ (fun _ => ?_) | refine pf_pI (by assumption) (fun _ => ?_) | refine pf_pZ (by assumption) (fun _ => ?_) | refine pf_sI (by assumption) (fun _ => ?_) | refine pf_sZ (by assumption) (fun _ => ?_) | refine pf_la (by assumption) (fun _ _ => ?_) | refine pf_bn (fun _ => ?_) | refine pf_ln (fun _ => ?_) | (apply fr_Ref_definition <;> assumption) | (apply fr_Ref_common <;> assumption) | (apply fr_Ref_global <;> assumption) | (refine fr_Ref_refers_76 _ hK33 _ _ _ _  _ (by assumption) ) | (apply fr_Ref_refers_33 <;> assumption) | apply pf_if))
set_option maxRecDepth 10000 in
theorem fr_Ref_distance (a0 : Nat) (a1 : Int32) (a2 : Int32) (I : fm_I) (h0 : sd true a0) : pF true (fn_Ref_distance a0 a1 a2 I) I := by
  unfold fn_Ref_distance
  repeat' (with_reducible (first | exact pf_ri | exact pf_rv | exact pf_rz | refine pf_gi (fun _ => ?_) | refine pf_gr (by assumption) (fun _ _ => ?_) | refine pf_ld (fun _ => ?_) | refine pf_vi ?_ (fun _ _ => ?_) | refine pf_bi ?_ (fun _ _ => ?_) | refine pf_vv ?_ (fun _ => ?_) | refine pf_bv ?_ (fun _ => ?_) | refine pf_pI (by assumption) (fun _ => ?_) | refine pf_pZ (by assumption) (fun _ => ?_) | refine pf_sI (by assumption) (fun _ => ?_) | refine pf_sZ (by assumption) (fun _ => ?_) | refine pf_la (by assumption) (fun _ _ => ?_) | refine pf_bn (fun _ => ?_) | refine pf_ln (fun _ => ?_) | (apply fr_Ref_definition <;> assumption) | (apply fr_Ref_place <;> assumption) | apply pf_if))
set_option maxRecDepth 10000 in
theorem fr_Ref_settle_49 (K37 : Nat → Int32 → Int32 → Int32 → fm_I → pR) (hK37 : ∀ (a0 : Nat) (a1 : Int32) (a2 : Int32) (a3 : Int32) (I : fm_I), sd true a0 → pF true (K37 a0 a1 a2 a3 I) I) (n : Nat) : ∀ (a0 : Nat) (a1 : Int32) (a2 : Int32) (a3 : Int32) (a4 : Int32) (I : fm_I), sd true a0 → pF true (fn_Ref_settle_49 K37 n a0 a1 a2 a3 a4 I) I := by
  induction n with
  | zero =>
    intro a0 a1 a2 a3 a4 I ha0
    unfold fn_Ref_settle_49
    exact pf_none
  | succ n ih =>
    intro a0 a1 a2 a3 a4 I ha0
    unfold fn_Ref_settle_49
    repeat' (with_reducible (first | exact pf_ri | exact pf_rv | exact pf_rz | refine pf_gi (fun _ => ?_) | refine pf_gr (by assumption) (fun _ _ => ?_) | refine pf_ld (fun _ => ?_) | refine pf_vi ?_ (fun _ _ => ?_) | refine pf_bi ?_ (fun _ _ => ?_) | refine pf_vv ?_ (fun _ => ?_) | refine pf_bv ?_ (fun _ => ?_) | refine pf_pI (by assumption) (fun _ => ?_) | refine pf_pZ (by assumption) (fun _ => ?_) | refine pf_sI (by assumption) (fun _ => ?_) | refine pf_sZ (by assumption) (fun _ => ?_) | refine pf_la (by assumption) (fun _ _ => ?_) | refine pf_bn (fun _ => ?_) | refine pf_ln (fun _ => ?_) | (apply fr_Ref_distance <;> assumption) | (apply fr_Ref_settle_37 <;> assumption) | (apply fr_Ref_settle_17 <;> assumption) | (apply ih <;> assumption) | (apply hK37 <;> assumption) | apply pf_if))
set_option maxRecDepth 10000 in
theorem fr_Ref_settle_37 (n : Nat) : ∀ (a0 : Nat) (a1 : Int32) (a2 : Int32) (a3 : Int32) (I : fm_I), sd true a0 → pF true (fn_Ref_settle_37 n a0 a1 a2 a3 I) I := by
  induction n with
  | zero =>
    intro a0 a1 a2 a3 I ha0
    unfold fn_Ref_settle_37
    exact pf_none
  | succ n ih =>
    intro a0 a1 a2 a3 I ha0
    unfold fn_Ref_settle_37
    repeat' (with_reducible (first | exact pf_ri | exact pf_rv | exact pf_rz | refine pf_gi (fun _ => ?_) | refine pf_gr (by assumption) (fun _ _ => ?_) | refine pf_ld (fun _ => ?_) | refine pf_vi ?_ (fun _ _ => ?_) | refine pf_bi ?_ (fun _ _ => ?_) | refine pf_vv ?_ (fun _ => ?_) | refine pf_bv ?_ (fun _ => ?_) | refine pf_pI (by assumption) (fun _ => ?_) | refine pf_pZ (by assumption) (fun _ => ?_) | refine pf_sI (by assumption) (fun _ => ?_) | refine pf_sZ (by assumption) (fun _ => ?_) | refine pf_la (by assumption) (fun _ _ => ?_) | refine pf_bn (fun _ => ?_) | refine pf_ln (fun _ => ?_) | (apply fr_Ref_distance <;> assumption) | (refine fr_Ref_settle_49 _ ih _ _ _ _ _ _  _ (by assumption) ) | (apply fr_Ref_settle_17 <;> assumption) | (apply ih <;> assumption) | apply pf_if))
set_option maxRecDepth 10000 in
theorem fr_Ref_settle_17 (n : Nat) : ∀ (a0 : Nat) (a1 : Int32) (a2 : Int32) (a3 : Int32) (I : fm_I), sd true a0 → pF true (fn_Ref_settle_17 n a0 a1 a2 a3 I) I := by
  induction n with
  | zero =>
    intro a0 a1 a2 a3 I ha0
    unfold fn_Ref_settle_17
    exact pf_none
  | succ n ih =>
    intro a0 a1 a2 a3 I ha0
    unfold fn_Ref_settle_17
    repeat' (with_reducible (first | exact pf_ri | exact pf_rv | exact pf_rz | refine pf_gi (fun _ => ?_) | refine pf_gr (by assumption) (fun _ _ => ?_) | refine pf_ld (fun _ => ?_) | refine pf_vi ?_ (fun _ _ => ?_) | refine pf_bi ?_ (fun _ _ => ?_) | refine pf_vv ?_ (fun _ => ?_) | refine pf_bv ?_ (fun _ => ?_) | refine pf_pI (by assumption) (fun _ => ?_) | refine pf_pZ (by assumption) (fun _ => ?_) | refine pf_sI (by assumption) (fun _ => ?_) | refine pf_sZ (by assumption) (fun _ => ?_) | refine pf_la (by assumption) (fun _ _ => ?_) | refine pf_bn (fun _ => ?_) | refine pf_ln (fun _ => ?_) | (apply fr_Ref_distance <;> assumption) | (refine fr_Ref_settle_49 _ hK37 _ _ _ _ _ _  _ (by assumption) ) | (apply fr_Ref_settle_37 <;> assumption) | (apply ih <;> assumption) | apply pf_if))
set_option maxRecDepth 10000 in
theorem fr_Ref_settle (a0 : Nat) (a1 : Int32) (I : fm_I) (h0 : sd true a0) : pF true (fn_Ref_settle a0 a1 I) I := by
  unfold fn_Ref_settle
  repeat' (with_reducible (first | exact pf_ri | exact pf_rv | exact pf_rz | refine pf_gi (fun _ => ?_) | refine pf_gr (by assumption) (fun _ _ => ?_) | refine pf_ld (fun _ => ?_) | refine pf_vi ?_ (fun _ _ => ?_) | refine pf_bi ?_ (fun _ _ => ?_) | refine pf_vv ?_ (fun _ => ?_) | refine pf_bv ?_ (fun _ => ?_) | refine pf_pI (by assumption) (fun _ => ?_) | refine pf_pZ (by assumption) (fun _ => ?_) | refine pf_sI (by assumption) (fun _ => ?_) | refine pf_sZ (by assumption) (fun _ => ?_) | refine pf_la (by assumption) (fun _ _ => ?_) | refine pf_bn (fun _ => ?_) | refine pf_ln (fun _ => ?_) | (apply fr_Ref_distance <;> assumption) | (refine fr_Ref_settle_49 _ hK37 _ _ _ _ _ _  _ (by assumption) ) | (apply fr_Ref_settle_37 <;> assumption) | (apply fr_Ref_settle_17 <;> assumption) | apply pf_if))
set_option maxRecDepth 10000 in
theorem fr_Ref_fits (a0 : Nat) (a1 : Int32) (a2 : Int32) (a3 : Int32) (I : fm_I) (h0 : sd true a0) : pF true (fn_Ref_fits a0 a1 a2 a3 I) I := by
  unfold fn_Ref_fits
  repeat' (with_reducible (first | exact pf_ri | exact pf_rv | exact pf_rz | refine pf_gi (fun _ => ?_) | refine pf_gr (by assumption) (fun _ _ => ?_) | refine pf_ld (fun _ => ?_) | refine pf_vi ?_ (fun _ _ => ?_) | refine pf_bi ?_ (fun _ _ => ?_) | refine pf_vv ?_ (fun _ => ?_) | refine pf_bv ?_ (fun _ => ?_) | refine pf_pI (by assumption) (fun _ => ?_) | refine pf_pZ (by assumption) (fun _ => ?_) | refine pf_sI (by assumption) (fun _ => ?_) | refine pf_sZ (by assumption) (fun _ => ?_) | refine pf_la (by assumption) (fun _ _ => ?_) | refine pf_bn (fun _ => ?_) | refine pf_ln (fun _ => ?_) | (apply fr_Ref_name <;> assumption) | (apply fr_Ref_isWord <;> assumption) | apply pf_if))
set_option maxRecDepth 10000 in
theorem fr_Ref_add_188 : ∀ (a0 : Nat) (a1 : Int32) (t0 : Nat) (t1 : Int32) (t2 : Int32) (I : fm_I), sd true a0 → sd true t0 → pF true (fn_Ref_add_188 a0 a1 t0 t1 t2 I) I := by
  intro a0 a1 t0 t1 t2 I ha0 ht0
  unfold fn_Ref_add_188
  repeat' (with_reducible (first | exact pf_ri | exact pf_rv | exact pf_rz | refine pf_gi (fun _ => ?_) | refine pf_gr (by assumption) (fun _ _ => ?_) | refine pf_ld (fun _ => ?_) | refine pf_vi ?_ (fun _ _ => ?_) | refine pf_bi ?_ (fun _ _ => ?_) | refine pf_vv ?_ (fun _ => ?_) | refine pf_bv ?_ (fun _ => ?_) | refine pf_pI (by assumption) (fun _ => ?_) | refine pf_pZ (by assumption) (fun _ => ?_) | refine pf_sI (by assumption) (fun _ => ?_) | refine pf_sZ (by assumption) (fun _ => ?_) | refine pf_la (by assumption) (fun _ _ => ?_) | refine pf_bn (fun _ => ?_) | refine pf_ln (fun _ => ?_) | (apply fr_Ref_module <;> assumption) | (apply fr_Ref_fits <;> assumption) | (apply fr_Ref_definition <;> assumption) | (apply fr_Ref_common <;> assumption) | (apply fr_Ref_settle <;> assumption) | (apply fr_Ref_add_146 <;> assumption) | (apply fr_Ref_add_117 <;> assumption) | (apply fr_Ref_add_90 <;> assumption) | (apply fr_Ref_add_67 <;> assumption) | apply pf_if))
set_option maxRecDepth 10000 in
theorem fr_Ref_add_146 : ∀ (a0 : Nat) (a1 : Int32) (a2 : Int32) (a3 : Int32) (a4 : Int32) (a5 : Int32) (a6 : Int32) (I : fm_I), sd true a0 → pF true (fn_Ref_add_146 a0 a1 a2 a3 a4 a5 a6 I) I := by
  intro a0 a1 a2 a3 a4 a5 a6 I ha0
  unfold fn_Ref_add_146
  repeat' (with_reducible (first | exact pf_ri | exact pf_rv | exact pf_rz | refine pf_gi (fun _ => ?_) | refine pf_gr (by assumption) (fun _ _ => ?_) | refine pf_ld (fun _ => ?_) | refine pf_vi ?_ (fun _ _ => ?_) | refine pf_bi ?_ (fun _ _ => ?_) | refine pf_vv ?_ (fun _ => ?_) | refine pf_bv ?_ (fun _ => ?_) | refine pf_pI (by assumption) (fun _ => ?_) | refine pf_pZ (by assumption) (fun _ => ?_) | refine pf_sI (by assumption) (fun _ => ?_) | refine pf_sZ (by assumption) (fun _ => ?_) | refine pf_la (by assumption) (fun _ _ => ?_) | refine pf_bn (fun _ => ?_) | refine pf_ln (fun _ => ?_) | (apply fr_Ref_module <;> assumption) | (apply fr_Ref_fits <;> assumption) | (apply fr_Ref_definition <;> assumption) | (apply fr_Ref_common <;> assumption) | (apply fr_Ref_settle <;> assumption) | (apply fr_Ref_add_188 <;> assumption) | (apply fr_Ref_add_117 <;> assumption) | (apply fr_Ref_add_90 <;> assumption) | (apply fr_Ref_add_67 <;> assumption) | apply pf_if))
set_option maxRecDepth 10000 in
theorem fr_Ref_add_117 : ∀ (a0 : Nat) (a1 : Int32) (a2 : Int32) (a3 : Int32) (a4 : Int32) (a5 : Int32) (a6 : Int32) (I : fm_I), sd true a0 → pF true (fn_Ref_add_117 a0 a1 a2 a3 a4 a5 a6 I) I := by
  intro a0 a1 a2 a3 a4 a5 a6 I ha0
  unfold fn_Ref_add_117
  repeat' (with_reducible (first | exact pf_ri | exact pf_rv | exact pf_rz | refine pf_gi (fun _ => ?_) | refine pf_gr (by assumption) (fun _ _ => ?_) | refine pf_ld (fun _ => ?_) | refine pf_vi ?_ (fun _ _ => ?_) | refine pf_bi ?_ (fun _ _ => ?_) | refine pf_vv ?_ (fun _ => ?_) | refine pf_bv ?_ (fun _ => ?_) | refine pf_pI (by assumption) (fun _ => ?_) | refine pf_pZ (by assumption) (fun _ => ?_) | refine pf_sI (by assumption) (fun _ => ?_) | refine pf_sZ (by assumption) (fun _ => ?_) | refine pf_la (by assumption) (fun _ _ => ?_) | refine pf_bn (fun _ => ?_) | refine pf_ln (fun _ => ?_) | (apply fr_Ref_module <;> assumption) | (apply fr_Ref_fits <;> assumption) | (apply fr_Ref_definition <;> assumption) | (apply fr_Ref_common <;> assumption) | (apply fr_Ref_settle <;> assumption) | (apply fr_Ref_add_188 <;> assumption) | (apply fr_Ref_add_146 <;> assumption) | (apply fr_Ref_add_90 <;> assumption) | (apply fr_Ref_add_67 <;> assumption) | apply pf_if))
set_option maxRecDepth 10000 in
theorem fr_Ref_add_90 : ∀ (a0 : Nat) (a1 : Int32) (a2 : Int32) (a3 : Int32) (a4 : Int32) (a5 : Int32) (a6 : Int32) (t0 : Int32) (I : fm_I), sd true a0 → pF true (fn_Ref_add_90 a0 a1 a2 a3 a4 a5 a6 t0 I) I := by
  intro a0 a1 a2 a3 a4 a5 a6 t0 I ha0
  unfold fn_Ref_add_90
  repeat' (with_reducible (first | exact pf_ri | exact pf_rv | exact pf_rz | refine pf_gi (fun _ => ?_) | refine pf_gr (by assumption) (fun _ _ => ?_) | refine pf_ld (fun _ => ?_) | refine pf_vi ?_ (fun _ _ => ?_) | refine pf_bi ?_ (fun _ _ => ?_) | refine pf_vv ?_ (fun _ => ?_) | refine pf_bv ?_ (fun _ => ?_) | refine pf_pI (by assumption) (fun _ => ?_) | refine pf_pZ (by assumption) (fun _ => ?_) | refine pf_sI (by assumption) (fun _ => ?_) | refine pf_sZ (by assumption) (fun _ => ?_) | refine pf_la (by assumption) (fun _ _ => ?_) | refine pf_bn (fun _ => ?_) | refine pf_ln (fun _ => ?_) | (apply fr_Ref_module <;> assumption) | (apply fr_Ref_fits <;> assumption) | (apply fr_Ref_definition <;> assumption) | (apply fr_Ref_common <;> assumption) | (apply fr_Ref_settle <;> assumption) | (apply fr_Ref_add_188 <;> assumption) | (apply fr_Ref_add_146 <;> assumption) | (apply fr_Ref_add_117 <;> assumption) | (apply fr_Ref_add_67 <;> assumption) | apply pf_if))
set_option maxRecDepth 10000 in
theorem fr_Ref_add_67 : ∀ (a0 : Nat) (a1 : Int32) (a2 : Int32) (a3 : Int32) (a4 : Int32) (a5 : Int32) (t0 : Int32) (I : fm_I), sd true a0 → pF true (fn_Ref_add_67 a0 a1 a2 a3 a4 a5 t0 I) I := by
  intro a0 a1 a2 a3 a4 a5 t0 I ha0
  unfold fn_Ref_add_67
  repeat' (with_reducible (first | exact pf_ri | exact pf_rv | exact pf_rz | refine pf_gi (fun _ => ?_) | refine pf_gr (by assumption) (fun _ _ => ?_) | refine pf_ld (fun _ => ?_) | refine pf_vi ?_ (fun _ _ => ?_) | refine pf_bi ?_ (fun _ _ => ?_) | refine pf_vv ?_ (fun _ => ?_) | refine pf_bv ?_ (fun _ => ?_) | refine pf_pI (by assumption) (fun _ => ?_) | refine pf_pZ (by assumption) (fun _ => ?_) | refine pf_sI (by assumption) (fun _ => ?_) | refine pf_sZ (by assumption) (fun _ => ?_) | refine pf_la (by assumption) (fun _ _ => ?_) | refine pf_bn (fun _ => ?_) | refine pf_ln (fun _ => ?_) | (apply fr_Ref_module <;> assumption) | (apply fr_Ref_fits <;> assumption) | (apply fr_Ref_definition <;> assumption) | (apply fr_Ref_common <;> assumption) | (apply fr_Ref_settle <;> assumption) | (apply fr_Ref_add_188 <;> assumption) | (apply fr_Ref_add_146 <;> assumption) | (apply fr_Ref_add_117 <;> assumption) | (apply fr_Ref_add_90 <;> assumption) | apply pf_if))
set_option maxRecDepth 10000 in
theorem fr_Ref_add (a0 : Nat) (a1 : Int32) (a2 : Int32) (a3 : Int32) (a4 : Int32) (I : fm_I) (h0 : sd true a0) : pF true (fn_Ref_add a0 a1 a2 a3 a4 I) I := by
  unfold fn_Ref_add
  repeat' (with_reducible (first | exact pf_ri | exact pf_rv | exact pf_rz | refine pf_gi (fun _ => ?_) | refine pf_gr (by assumption) (fun _ _ => ?_) | refine pf_ld (fun _ => ?_) | refine pf_vi ?_ (fun _ _ => ?_) | refine pf_bi ?_ (fun _ _ => ?_) | refine pf_vv ?_ (fun _ => ?_) | refine pf_bv ?_ (fun _ => ?_) | refine pf_pI (by assumption) (fun _ => ?_) | refine pf_pZ (by assumption) (fun _ => ?_) | refine pf_sI (by assumption) (fun _ => ?_) | refine pf_sZ (by assumption) (fun _ => ?_) | refine pf_la (by assumption) (fun _ _ => ?_) | refine pf_bn (fun _ => ?_) | refine pf_ln (fun _ => ?_) | (apply fr_Ref_module <;> assumption) | (apply fr_Ref_fits <;> assumption) | (apply fr_Ref_definition <;> assumption) | (apply fr_Ref_common <;> assumption) | (apply fr_Ref_settle <;> assumption) | (apply fr_Ref_add_188 <;> assumption) | (apply fr_Ref_add_146 <;> assumption) | (apply fr_Ref_add_117 <;> assumption) | (apply fr_Ref_add_90 <;> assumption) | (apply fr_Ref_add_67 <;> assumption) | apply pf_if))
set_option maxRecDepth 10000 in
theorem fr_Ref_clear (a0 : Nat) (a1 : Int32) (I : fm_I) (h0 : sd true a0) : pF true (fn_Ref_clear a0 a1 I) I := by
  unfold fn_Ref_clear
  repeat' (with_reducible (first | exact pf_ri | exact pf_rv | exact pf_rz | refine pf_gi (fun _ => ?_) | refine pf_gr (by assumption) (fun _ _ => ?_) | refine pf_ld (fun _ => ?_) | refine pf_vi ?_ (fun _ _ => ?_) | refine pf_bi ?_ (fun _ _ => ?_) | refine pf_vv ?_ (fun _ => ?_) | refine pf_bv ?_ (fun _ => ?_) | refine pf_pI (by assumption) (fun _ => ?_) | refine pf_pZ (by assumption) (fun _ => ?_) | refine pf_sI (by assumption) (fun _ => ?_) | refine pf_sZ (by assumption) (fun _ => ?_) | refine pf_la (by assumption) (fun _ _ => ?_) | refine pf_bn (fun _ => ?_) | refine pf_ln (fun _ => ?_) | (apply fr_Ref_module <;> assumption) | apply pf_if))
set_option maxRecDepth 10000 in
theorem fr_Ref_length (a0 : Nat) (a1 : Int32) (a2 : Int32) (I : fm_I) (h0 : sd true a0) : pF true (fn_Ref_length a0 a1 a2 I) I := by
  unfold fn_Ref_length
  repeat' (with_reducible (first | exact pf_ri | exact pf_rv | exact pf_rz | refine pf_gi (fun _ => ?_) | refine pf_gr (by assumption) (fun _ _ => ?_) | refine pf_ld (fun _ => ?_) | refine pf_vi ?_ (fun _ _ => ?_) | refine pf_bi ?_ (fun _ _ => ?_) | refine pf_vv ?_ (fun _ => ?_) | refine pf_bv ?_ (fun _ => ?_) | refine pf_pI (by assumption) (fun _ => ?_) | refine pf_pZ (by assumption) (fun _ => ?_) | refine pf_sI (by assumption) (fun _ => ?_) | refine pf_sZ (by assumption) (fun _ => ?_) | refine pf_la (by assumption) (fun _ _ => ?_) | refine pf_bn (fun _ => ?_) | refine pf_ln (fun _ => ?_) | (apply fr_Ref_module <;> assumption) | (apply fr_Ref_place <;> assumption) | apply pf_if))
set_option maxRecDepth 10000 in
theorem fr_Ref_isLong (a0 : Nat) (a1 : Int32) (a2 : Int32) (I : fm_I) (h0 : sd true a0) : pF true (fn_Ref_isLong a0 a1 a2 I) I := by
  unfold fn_Ref_isLong
  repeat' (with_reducible (first | exact pf_ri | exact pf_rv | exact pf_rz | refine pf_gi (fun _ => ?_) | refine pf_gr (by assumption) (fun _ _ => ?_) | refine pf_ld (fun _ => ?_) | refine pf_vi ?_ (fun _ _ => ?_) | refine pf_bi ?_ (fun _ _ => ?_) | refine pf_vv ?_ (fun _ => ?_) | refine pf_bv ?_ (fun _ => ?_) | refine pf_pI (by assumption) (fun _ => ?_) | refine pf_pZ (by assumption) (fun _ => ?_) | refine pf_sI (by assumption) (fun _ => ?_) | refine pf_sZ (by assumption) (fun _ => ?_) | refine pf_la (by assumption) (fun _ _ => ?_) | refine pf_bn (fun _ => ?_) | refine pf_ln (fun _ => ?_) | (apply fr_Ref_module <;> assumption) | apply pf_if))
set_option maxRecDepth 10000 in
theorem fr_Ref_inArchive_2 (n : Nat) : ∀ (a0 : Nat) (a1 : Int32) (a2 : Int32) (I : fm_I), sd true a0 → pF true (fn_Ref_inArchive_2 n a0 a1 a2 I) I := by
  induction n with
  | zero =>
    intro a0 a1 a2 I ha0
    unfold fn_Ref_inArchive_2
    exact pf_none
  | succ n ih =>
    intro a0 a1 a2 I ha0
    unfold fn_Ref_inArchive_2
    repeat' (with_reducible (first | exact pf_ri | exact pf_rv | exact pf_rz | refine pf_gi (fun _ => ?_) | refine pf_gr (by assumption) (fun _ _ => ?_) | refine pf_ld (fun _ => ?_) | refine pf_vi ?_ (fun _ _ => ?_) | refine pf_bi ?_ (fun _ _ => ?_) | refine pf_vv ?_ (fun _ => ?_) | refine pf_bv ?_ (fun _ => ?_) | refine pf_pI (by assumption) (fun _ => ?_) | refine pf_pZ (by assumption) (fun _ => ?_) | refine pf_sI (by assumption) (fun _ => ?_) | refine pf_sZ (by assumption) (fun _ => ?_) | refine pf_la (by assumption) (fun _ _ => ?_) | refine pf_bn (fun _ => ?_) | refine pf_ln (fun _ => ?_) | (apply ih <;> assumption) | apply pf_if))
set_option maxRecDepth 10000 in
theorem fr_Ref_inArchive (a0 : Nat) (a1 : Int32) (I : fm_I) (h0 : sd true a0) : pF true (fn_Ref_inArchive a0 a1 I) I := by
  unfold fn_Ref_inArchive
  repeat' (with_reducible (first | exact pf_ri | exact pf_rv | exact pf_rz | refine pf_gi (fun _ => ?_) | refine pf_gr (by assumption) (fun _ _ => ?_) | refine pf_ld (fun _ => ?_) | refine pf_vi ?_ (fun _ _ => ?_) | refine pf_bi ?_ (fun _ _ => ?_) | refine pf_vv ?_ (fun _ => ?_) | refine pf_bv ?_ (fun _ => ?_) | refine pf_pI (by assumption) (fun _ => ?_) | refine pf_pZ (by assumption) (fun _ => ?_) | refine pf_sI (by assumption) (fun _ => ?_) | refine pf_sZ (by assumption) (fun _ => ?_) | refine pf_la (by assumption) (fun _ _ => ?_) | refine pf_bn (fun _ => ?_) | refine pf_ln (fun _ => ?_) | (apply fr_Ref_inArchive_2 <;> assumption) | apply pf_if))
set_option maxRecDepth 10000 in
theorem fr_Ref_onLine_4 (n : Nat) : ∀ (a0 : Nat) (a1 : Int32) (a2 : Int32) (a3 : Int32) (I : fm_I), sd true a0 → pF true (fn_Ref_onLine_4 n a0 a1 a2 a3 I) I := by
  induction n with
  | zero =>
    intro a0 a1 a2 a3 I ha0
    unfold fn_Ref_onLine_4
    exact pf_none
  | succ n ih =>
    intro a0 a1 a2 a3 I ha0
    unfold fn_Ref_onLine_4
    repeat' (with_reducible (first | exact pf_ri | exact pf_rv | exact pf_rz | refine pf_gi (fun _ => ?_) | refine pf_gr (by assumption) (fun _ _ => ?_) | refine pf_ld (fun _ => ?_) | refine pf_vi ?_ (fun _ _ => ?_) | refine pf_bi ?_ (fun _ _ => ?_) | refine pf_vv ?_ (fun _ => ?_) | refine pf_bv ?_ (fun _ => ?_) | refine pf_pI (by assumption) (fun _ => ?_) | refine pf_pZ (by assumption) (fun _ => ?_) | refine pf_sI (by assumption) (fun _ => ?_) | refine pf_sZ (by assumption) (fun _ => ?_) | refine pf_la (by assumption) (fun _ _ => ?_) | refine pf_bn (fun _ => ?_) | refine pf_ln (fun _ => ?_) | (apply ih <;> assumption) | apply pf_if))
set_option maxRecDepth 10000 in
theorem fr_Ref_onLine (a0 : Nat) (a1 : Int32) (I : fm_I) (h0 : sd true a0) : pF true (fn_Ref_onLine a0 a1 I) I := by
  unfold fn_Ref_onLine
  repeat' (with_reducible (first | exact pf_ri | exact pf_rv | exact pf_rz | refine pf_gi (fun _ => ?_) | refine pf_gr (by assumption) (fun _ _ => ?_) | refine pf_ld (fun _ => ?_) | refine pf_vi ?_ (fun _ _ => ?_) | refine pf_bi ?_ (fun _ _ => ?_) | refine pf_vv ?_ (fun _ => ?_) | refine pf_bv ?_ (fun _ => ?_) | refine pf_pI (by assumption) (fun _ => ?_) | refine pf_pZ (by assumption) (fun _ => ?_) | refine pf_sI (by assumption) (fun _ => ?_) | refine pf_sZ (by assumption) (fun _ => ?_) | refine pf_la (by assumption) (fun _ _ => ?_) | refine pf_bn (fun _ => ?_) | refine pf_ln (fun _ => ?_) | (apply fr_Ref_onLine_4 <;> assumption) | apply pf_if))
set_option maxRecDepth 10000 in
theorem fr_Ref_remove_24 (n : Nat) : ∀ (a0 : Nat) (a3 : Int32) (I : fm_I), sd true a0 → pF true (fn_Ref_remove_24 n a0 a3 I) I := by
  induction n with
  | zero =>
    intro a0 a3 I ha0
    unfold fn_Ref_remove_24
    exact pf_none
  | succ n ih =>
    intro a0 a3 I ha0
    unfold fn_Ref_remove_24
    repeat' (with_reducible (first | exact pf_ri | exact pf_rv | exact pf_rz | refine pf_gi (fun _ => ?_) | refine pf_gr (by assumption) (fun _ _ => ?_) | refine pf_ld (fun _ => ?_) | refine pf_vi ?_ (fun _ _ => ?_) | refine pf_bi ?_ (fun _ _ => ?_) | refine pf_vv ?_ (fun _ => ?_) | refine pf_bv ?_ (fun _ => ?_) | refine pf_pI (by assumption) (fun _ => ?_) | refine pf_pZ (by assumption) (fun _ => ?_) | refine pf_sI (by assumption) (fun _ => ?_) | refine pf_sZ (by assumption) (fun _ => ?_) | refine pf_la (by assumption) (fun _ _ => ?_) | refine pf_bn (fun _ => ?_) | refine pf_ln (fun _ => ?_) | (apply fr_Ref_inArchive <;> assumption) | (apply ih <;> assumption) | apply pf_if))
set_option maxRecDepth 10000 in
theorem fr_Ref_remove (a0 : Nat) (a1 : Int32) (I : fm_I) (h0 : sd true a0) : pF true (fn_Ref_remove a0 a1 I) I := by
  unfold fn_Ref_remove
  repeat' (with_reducible (first | exact pf_ri | exact pf_rv | exact pf_rz | refine pf_gi (fun _ => ?_) | refine pf_gr (by assumption) (fun _ _ => ?_) | refine pf_ld (fun _ => ?_) | refine pf_vi ?_ (fun _ _ => ?_) | refine pf_bi ?_ (fun _ _ => ?_) | refine pf_vv ?_ (fun _ => ?_) | refine pf_bv ?_ (fun _ => ?_) | refine pf_pI (by assumption) (fun _ => ?_) | refine pf_pZ (by assumption) (fun _ => ?_) | refine pf_sI (by assumption) (fun _ => ?_) | refine pf_sZ (by assumption) (fun _ => ?_) | refine pf_la (by assumption) (fun _ _ => ?_) | refine pf_bn (fun _ => ?_) | refine pf_ln (fun _ => ?_) | (apply fr_Ref_inArchive <;> assumption) | (apply fr_Ref_remove_24 <;> assumption) | apply pf_if))
set_option maxRecDepth 10000 in
theorem fr_Ref_store_66 (n : Nat) : ∀ (a0 : Nat) (a1 : Int32) (a3 : Int32) (a4 : Int32) (I : fm_I), sd true a0 → pF true (fn_Ref_store_66 n a0 a1 a3 a4 I) I := by
  induction n with
  | zero =>
    intro a0 a1 a3 a4 I ha0
    unfold fn_Ref_store_66
    exact pf_none
  | succ n ih =>
    intro a0 a1 a3 a4 I ha0
    unfold fn_Ref_store_66
    repeat' (with_reducible (first | exact pf_ri | exact pf_rv | exact pf_rz | refine pf_gi (fun _ => ?_) | refine pf_gr (by assumption) (fun _ _ => ?_) | refine pf_ld (fun _ => ?_) | refine pf_vi ?_ (fun _ _ => ?_) | refine pf_bi ?_ (fun _ _ => ?_) | refine pf_vv ?_ (fun _ => ?_) | refine pf_bv ?_ (fun _ => ?_) | refine pf_pI (by assumption) (fun _ => ?_) | refine pf_pZ (by assumption) (fun _ => ?_) | refine pf_sI (by assumption) (fun _ => ?_) | refine pf_sZ (by assumption) (fun _ => ?_) | refine pf_la (by assumption) (fun _ _ => ?_) | refine pf_bn (fun _ => ?_) | refine pf_ln (fun _ => ?_) | (apply fr_Ref_module <;> assumption) | (apply fr_Ref_onLine <;> assumption) | (apply fr_Ref_inArchive <;> assumption) | (apply fr_Ref_remove <;> assumption) | (apply fr_Ref_store_36 <;> assumption) | (apply ih <;> assumption) | apply pf_if))
set_option maxRecDepth 10000 in
theorem fr_Ref_store_36 : ∀ (a0 : Nat) (a1 : Int32) (a2 : Int32) (I : fm_I), sd true a0 → pF true (fn_Ref_store_36 a0 a1 a2 I) I := by
  intro a0 a1 a2 I ha0
  unfold fn_Ref_store_36
  repeat' (with_reducible (first | exact pf_ri | exact pf_rv | exact pf_rz | refine pf_gi (fun _ => ?_) | refine pf_gr (by assumption) (fun _ _ => ?_) | refine pf_ld (fun _ => ?_) | refine pf_vi ?_ (fun _ _ => ?_) | refine pf_bi ?_ (fun _ _ => ?_) | refine pf_vv ?_ (fun _ => ?_) | refine pf_bv ?_ (fun _ => ?_) | refine pf_pI (by assumption) (fun _ => ?_) | refine pf_pZ (by assumption) (fun _ => ?_) | refine pf_sI (by assumption) (fun _ => ?_) | refine pf_sZ (by assumption) (fun _ => ?_) | refine pf_la (by assumption) (fun _ _ => ?_) | refine pf_bn (fun _ => ?_) | refine pf_ln (fun _ => ?_) | (apply fr_Ref_module <;> assumption) | (apply fr_Ref_onLine <;> assumption) | (apply fr_Ref_inArchive <;> assumption) | (apply fr_Ref_remove <;> assumption) | (apply fr_Ref_store_66 <;> assumption) | apply pf_if))
set_option maxRecDepth 10000 in
theorem fr_Ref_store (a0 : Nat) (a1 : Int32) (a2 : Int32) (I : fm_I) (h0 : sd true a0) : pF true (fn_Ref_store a0 a1 a2 I) I := by
  unfold fn_Ref_store
  repeat' (with_reducible (first | exact pf_ri | exact pf_rv | exact pf_rz | refine pf_gi (fun _ => ?_) | refine pf_gr (by assumption) (fun _ _ => ?_) | refine pf_ld (fun _ => ?_) | refine pf_vi ?_ (fun _ _ => ?_) | refine pf_bi ?_ (fun _ _ => ?_) | refine pf_vv ?_ (fun _ => ?_) | refine pf_bv ?_ (fun _ => ?_) | refine pf_pI (by assumption) (fun _ => ?_) | refine pf_pZ (by assumption) (fun _ => ?_) | refine pf_sI (by assumption) (fun _ => ?_) | refine pf_sZ (by assumption) (fun _ => ?_) | refine pf_la (by assumption) (fun _ _ => ?_) | refine pf_bn (fun _ => ?_) | refine pf_ln (fun _ => ?_) | (apply fr_Ref_module <;> assumption) | (apply fr_Ref_onLine <;> assumption) | (apply fr_Ref_inArchive <;> assumption) | (apply fr_Ref_remove <;> assumption) | (apply fr_Ref_store_66 <;> assumption) | (apply fr_Ref_store_36 <;> assumption) | apply pf_if))
set_option maxRecDepth 10000 in
theorem fr_Ref_member (a0 : Nat) (a1 : Int32) (I : fm_I) (h0 : sd true a0) : pF true (fn_Ref_member a0 a1 I) I := by
  unfold fn_Ref_member
  repeat' (with_reducible (first | exact pf_ri | exact pf_rv | exact pf_rz | refine pf_gi (fun _ => ?_) | refine pf_gr (by assumption) (fun _ _ => ?_) | refine pf_ld (fun _ => ?_) | refine pf_vi ?_ (fun _ _ => ?_) | refine pf_bi ?_ (fun _ _ => ?_) | refine pf_vv ?_ (fun _ => ?_) | refine pf_bv ?_ (fun _ => ?_) | refine pf_pI (by assumption) (fun _ => ?_) | refine pf_pZ (by assumption) (fun _ => ?_) | refine pf_sI (by assumption) (fun _ => ?_) | refine pf_sZ (by assumption) (fun _ => ?_) | refine pf_la (by assumption) (fun _ _ => ?_) | refine pf_bn (fun _ => ?_) | refine pf_ln (fun _ => ?_) | apply pf_if))
set_option maxRecDepth 10000 in
theorem fr_Ref_item (a0 : Nat) (a1 : Int32) (I : fm_I) (h0 : sd true a0) : pF true (fn_Ref_item a0 a1 I) I := by
  unfold fn_Ref_item
  repeat' (with_reducible (first | exact pf_ri | exact pf_rv | exact pf_rz | refine pf_gi (fun _ => ?_) | refine pf_gr (by assumption) (fun _ _ => ?_) | refine pf_ld (fun _ => ?_) | refine pf_vi ?_ (fun _ _ => ?_) | refine pf_bi ?_ (fun _ _ => ?_) | refine pf_vv ?_ (fun _ => ?_) | refine pf_bv ?_ (fun _ => ?_) | refine pf_pI (by assumption) (fun _ => ?_) | refine pf_pZ (by assumption) (fun _ => ?_) | refine pf_sI (by assumption) (fun _ => ?_) | refine pf_sZ (by assumption) (fun _ => ?_) | refine pf_la (by assumption) (fun _ _ => ?_) | refine pf_bn (fun _ => ?_) | refine pf_ln (fun _ => ?_) | (apply fr_Ref_onLine <;> assumption) | (apply fr_Ref_inArchive <;> assumption) | apply pf_if))
set_option maxRecDepth 10000 in
theorem fr_Ref_newLine (a0 : Nat) (I : fm_I) (h0 : sd true a0) : pF true (fn_Ref_newLine a0 I) I := by
  unfold fn_Ref_newLine
  repeat' (with_reducible (first | exact pf_ri | exact pf_rv | exact pf_rz | refine pf_gi (fun _ => ?_) | refine pf_gr (by assumption) (fun _ _ => ?_) | refine pf_ld (fun _ => ?_) | refine pf_vi ?_ (fun _ _ => ?_) | refine pf_bi ?_ (fun _ _ => ?_) | refine pf_vv ?_ (fun _ => ?_) | refine pf_bv ?_ (fun _ => ?_) | refine pf_pI (by assumption) (fun _ => ?_) | refine pf_pZ (by assumption) (fun _ => ?_) | refine pf_sI (by assumption) (fun _ => ?_) | refine pf_sZ (by assumption) (fun _ => ?_) | refine pf_la (by assumption) (fun _ _ => ?_) | refine pf_bn (fun _ => ?_) | refine pf_ln (fun _ => ?_) | apply pf_if))
set_option maxRecDepth 10000 in
theorem fr_Ref_isIn_4 (n : Nat) : ∀ (a0 : Nat) (a1 : Int32) (a2 : Int32) (a3 : Int32) (I : fm_I), sd true a0 → pF true (fn_Ref_isIn_4 n a0 a1 a2 a3 I) I := by
  induction n with
  | zero =>
    intro a0 a1 a2 a3 I ha0
    unfold fn_Ref_isIn_4
    exact pf_none
  | succ n ih =>
    intro a0 a1 a2 a3 I ha0
    unfold fn_Ref_isIn_4
    repeat' (with_reducible (first | exact pf_ri | exact pf_rv | exact pf_rz | refine pf_gi (fun _ => ?_) | refine pf_gr (by assumption) (fun _ _ => ?_) | refine pf_ld (fun _ => ?_) | refine pf_vi ?_ (fun _ _ => ?_) | refine pf_bi ?_ (fun _ _ => ?_) | refine pf_vv ?_ (fun _ => ?_) | refine pf_bv ?_ (fun _ => ?_) | refine pf_pI (by assumption) (fun _ => ?_) | refine pf_pZ (by assumption) (fun _ => ?_) | refine pf_sI (by assumption) (fun _ => ?_) | refine pf_sZ (by assumption) (fun _ => ?_) | refine pf_la (by assumption) (fun _ _ => ?_) | refine pf_bn (fun _ => ?_) | refine pf_ln (fun _ => ?_) | (apply ih <;> assumption) | apply pf_if))
set_option maxRecDepth 10000 in
theorem fr_Ref_isIn (a0 : Nat) (a1 : Int32) (I : fm_I) (h0 : sd true a0) : pF true (fn_Ref_isIn a0 a1 I) I := by
  unfold fn_Ref_isIn
  repeat' (with_reducible (first | exact pf_ri | exact pf_rv | exact pf_rz | refine pf_gi (fun _ => ?_) | refine pf_gr (by assumption) (fun _ _ => ?_) | refine pf_ld (fun _ => ?_) | refine pf_vi ?_ (fun _ _ => ?_) | refine pf_bi ?_ (fun _ _ => ?_) | refine pf_vv ?_ (fun _ => ?_) | refine pf_bv ?_ (fun _ => ?_) | refine pf_pI (by assumption) (fun _ => ?_) | refine pf_pZ (by assumption) (fun _ => ?_) | refine pf_sI (by assumption) (fun _ => ?_) | refine pf_sZ (by assumption) (fun _ => ?_) | refine pf_la (by assumption) (fun _ _ => ?_) | refine pf_bn (fun _ => ?_) | refine pf_ln (fun _ => ?_) | (apply fr_Ref_isIn_4 <;> assumption) | apply pf_if))
set_option maxRecDepth 10000 in
theorem fr_Ref_exporters_4 (n : Nat) : ∀ (a0 : Nat) (a1 : Int32) (a2 : Int32) (a3 : Int32) (I : fm_I), sd true a0 → pF true (fn_Ref_exporters_4 n a0 a1 a2 a3 I) I := by
  induction n with
  | zero =>
    intro a0 a1 a2 a3 I ha0
    unfold fn_Ref_exporters_4
    exact pf_none
  | succ n ih =>
    intro a0 a1 a2 a3 I ha0
    unfold fn_Ref_exporters_4
    repeat' (with_reducible (first | exact pf_ri | exact pf_rv | exact pf_rz | refine pf_gi (fun _ => ?_) | refine pf_gr (by assumption) (fun _ _ => ?_) | refine pf_ld (fun _ => ?_) | refine pf_vi ?_ (fun _ _ => ?_) | refine pf_bi ?_ (fun _ _ => ?_) | refine pf_vv ?_ (fun _ => ?_) | refine pf_bv ?_ (fun _ => ?_) | refine pf_pI (by assumption) (fun _ => ?_) | refine pf_pZ (by assumption) (fun _ => ?_) | refine pf_sI (by assumption) (fun _ => ?_) | refine pf_sZ (by assumption) (fun _ => ?_) | refine pf_la (by assumption) (fun _ _ => ?_) | refine pf_bn (fun _ => ?_) | refine pf_ln (fun _ => ?_) | (apply fr_Ref_exports <;> assumption) | (apply ih <;> assumption) | apply pf_if))
set_option maxRecDepth 10000 in
theorem fr_Ref_exporters (a0 : Nat) (a1 : Int32) (I : fm_I) (h0 : sd true a0) : pF true (fn_Ref_exporters a0 a1 I) I := by
  unfold fn_Ref_exporters
  repeat' (with_reducible (first | exact pf_ri | exact pf_rv | exact pf_rz | refine pf_gi (fun _ => ?_) | refine pf_gr (by assumption) (fun _ _ => ?_) | refine pf_ld (fun _ => ?_) | refine pf_vi ?_ (fun _ _ => ?_) | refine pf_bi ?_ (fun _ _ => ?_) | refine pf_vv ?_ (fun _ => ?_) | refine pf_bv ?_ (fun _ => ?_) | refine pf_pI (by assumption) (fun _ => ?_) | refine pf_pZ (by assumption) (fun _ => ?_) | refine pf_sI (by assumption) (fun _ => ?_) | refine pf_sZ (by assumption) (fun _ => ?_) | refine pf_la (by assumption) (fun _ _ => ?_) | refine pf_bn (fun _ => ?_) | refine pf_ln (fun _ => ?_) | (apply fr_Ref_exports <;> assumption) | (apply fr_Ref_exporters_4 <;> assumption) | apply pf_if))
set_option maxRecDepth 10000 in
theorem fr_Ref_largest_4 (n : Nat) : ∀ (a0 : Nat) (a1 : Int32) (a2 : Int32) (a3 : Int32) (I : fm_I), sd true a0 → pF true (fn_Ref_largest_4 n a0 a1 a2 a3 I) I := by
  induction n with
  | zero =>
    intro a0 a1 a2 a3 I ha0
    unfold fn_Ref_largest_4
    exact pf_none
  | succ n ih =>
    intro a0 a1 a2 a3 I ha0
    unfold fn_Ref_largest_4
    repeat' (with_reducible (first | exact pf_ri | exact pf_rv | exact pf_rz | refine pf_gi (fun _ => ?_) | refine pf_gr (by assumption) (fun _ _ => ?_) | refine pf_ld (fun _ => ?_) | refine pf_vi ?_ (fun _ _ => ?_) | refine pf_bi ?_ (fun _ _ => ?_) | refine pf_vv ?_ (fun _ => ?_) | refine pf_bv ?_ (fun _ => ?_) | refine pf_pI (by assumption) (fun _ => ?_) | refine pf_pZ (by assumption) (fun _ => ?_) | refine pf_sI (by assumption) (fun _ => ?_) | refine pf_sZ (by assumption) (fun _ => ?_) | refine pf_la (by assumption) (fun _ _ => ?_) | refine pf_bn (fun _ => ?_) | refine pf_ln (fun _ => ?_) | (apply fr_Ref_common <;> assumption) | (apply ih <;> assumption) | apply pf_if))
set_option maxRecDepth 10000 in
theorem fr_Ref_largest (a0 : Nat) (a1 : Int32) (I : fm_I) (h0 : sd true a0) : pF true (fn_Ref_largest a0 a1 I) I := by
  unfold fn_Ref_largest
  repeat' (with_reducible (first | exact pf_ri | exact pf_rv | exact pf_rz | refine pf_gi (fun _ => ?_) | refine pf_gr (by assumption) (fun _ _ => ?_) | refine pf_ld (fun _ => ?_) | refine pf_vi ?_ (fun _ _ => ?_) | refine pf_bi ?_ (fun _ _ => ?_) | refine pf_vv ?_ (fun _ => ?_) | refine pf_bv ?_ (fun _ => ?_) | refine pf_pI (by assumption) (fun _ => ?_) | refine pf_pZ (by assumption) (fun _ => ?_) | refine pf_sI (by assumption) (fun _ => ?_) | refine pf_sZ (by assumption) (fun _ => ?_) | refine pf_la (by assumption) (fun _ _ => ?_) | refine pf_bn (fun _ => ?_) | refine pf_ln (fun _ => ?_) | (apply fr_Ref_common <;> assumption) | (apply fr_Ref_largest_4 <;> assumption) | apply pf_if))
set_option maxRecDepth 10000 in
theorem fr_Ref_wanted_16 (n : Nat) : ∀ (a0 : Nat) (a1 : Int32) (a2 : Int32) (a3 : Int32) (I : fm_I), sd true a0 → pF true (fn_Ref_wanted_16 n a0 a1 a2 a3 I) I := by
  induction n with
  | zero =>
    intro a0 a1 a2 a3 I ha0
    unfold fn_Ref_wanted_16
    exact pf_none
  | succ n ih =>
    intro a0 a1 a2 a3 I ha0
    unfold fn_Ref_wanted_16
    repeat' (with_reducible (first | exact pf_ri | exact pf_rv | exact pf_rz | refine pf_gi (fun _ => ?_) | refine pf_gr (by assumption) (fun _ _ => ?_) | refine pf_ld (fun _ => ?_) | refine pf_vi ?_ (fun _ _ => ?_) | refine pf_bi ?_ (fun _ _ => ?_) | refine pf_vv ?_ (fun _ => ?_) | refine pf_bv ?_ (fun _ => ?_) | refine pf_pI (by assumption) (fun _ => ?_) | refine pf_pZ (by assumption) (fun _ => ?_) | refine pf_sI (by assumption) (fun _ => ?_) | refine pf_sZ (by assumption) (fun _ => ?_) | refine pf_la (by assumption) (fun _ _ => ?_) | refine pf_bn (fun _ => ?_) | refine pf_ln (fun _ => ?_) | (apply fr_Ref_refers <;> assumption) | (apply fr_Ref_exporters <;> assumption) | (apply fr_Ref_largest <;> assumption) | (apply ih <;> assumption) | apply pf_if))
set_option maxRecDepth 10000 in
theorem fr_Ref_wanted (a0 : Nat) (a1 : Int32) (I : fm_I) (h0 : sd true a0) : pF true (fn_Ref_wanted a0 a1 I) I := by
  unfold fn_Ref_wanted
  repeat' (with_reducible (first | exact pf_ri | exact pf_rv | exact pf_rz | refine pf_gi (fun _ => ?_) | refine pf_gr (by assumption) (fun _ _ => ?_) | refine pf_ld (fun _ => ?_) | refine pf_vi ?_ (fun _ _ => ?_) | refine pf_bi ?_ (fun _ _ => ?_) | refine pf_vv ?_ (fun _ => ?_) | refine pf_bv ?_ (fun _ => ?_) | refine pf_pI (by assumption) (fun _ => ?_) | refine pf_pZ (by assumption) (fun _ => ?_) | refine pf_sI (by assumption) (fun _ => ?_) | refine pf_sZ (by assumption) (fun _ => ?_) | refine pf_la (by assumption) (fun _ _ => ?_) | refine pf_bn (fun _ => ?_) | refine pf_ln (fun _ => ?_) | (apply fr_Ref_refers <;> assumption) | (apply fr_Ref_exporters <;> assumption) | (apply fr_Ref_largest <;> assumption) | (apply fr_Ref_wanted_16 <;> assumption) | apply pf_if))
set_option maxRecDepth 10000 in
theorem fr_Ref_include (a0 : Nat) (a1 : Int32) (I : fm_I) (h0 : sd true a0) : pF true (fn_Ref_include a0 a1 I) I := by
  unfold fn_Ref_include
  repeat' (with_reducible (first | exact pf_ri | exact pf_rv | exact pf_rz | refine pf_gi (fun _ => ?_) | refine pf_gr (by assumption) (fun _ _ => ?_) | refine pf_ld (fun _ => ?_) | refine pf_vi ?_ (fun _ _ => ?_) | refine pf_bi ?_ (fun _ _ => ?_) | refine pf_vv ?_ (fun _ => ?_) | refine pf_bv ?_ (fun _ => ?_) | refine pf_pI (by assumption) (fun _ => ?_) | refine pf_pZ (by assumption) (fun _ => ?_) | refine pf_sI (by assumption) (fun _ => ?_) | refine pf_sZ (by assumption) (fun _ => ?_) | refine pf_la (by assumption) (fun _ _ => ?_) | refine pf_bn (fun _ => ?_) | refine pf_ln (fun _ => ?_) | apply pf_if))
set_option maxRecDepth 10000 in
theorem fr_Ref_helps_4 (n : Nat) : ∀ (a0 : Nat) (a1 : Int32) (a2 : Int32) (a3 : Int32) (I : fm_I), sd true a0 → pF true (fn_Ref_helps_4 n a0 a1 a2 a3 I) I := by
  induction n with
  | zero =>
    intro a0 a1 a2 a3 I ha0
    unfold fn_Ref_helps_4
    exact pf_none
  | succ n ih =>
    intro a0 a1 a2 a3 I ha0
    unfold fn_Ref_helps_4
    repeat' (with_reducible (first | exact pf_ri | exact pf_rv | exact pf_rz | refine pf_gi (fun _ => ?_) | refine pf_gr (by assumption) (fun _ _ => ?_) | refine pf_ld (fun _ => ?_) | refine pf_vi ?_ (fun _ _ => ?_) | refine pf_bi ?_ (fun _ _ => ?_) | refine pf_vv ?_ (fun _ => ?_) | refine pf_bv ?_ (fun _ => ?_) | refine pf_pI (by assumption) (fun _ => ?_) | refine pf_pZ (by assumption) (fun _ => ?_) | refine pf_sI (by assumption) (fun _ => ?_) | refine pf_sZ (by assumption) (fun _ => ?_) | refine pf_la (by assumption) (fun _ _ => ?_) | refine pf_bn (fun _ => ?_) | refine pf_ln (fun _ => ?_) | (apply fr_Ref_exports <;> assumption) | (apply fr_Ref_wanted <;> assumption) | (apply ih <;> assumption) | apply pf_if))
set_option maxRecDepth 10000 in
theorem fr_Ref_helps (a0 : Nat) (a1 : Int32) (I : fm_I) (h0 : sd true a0) : pF true (fn_Ref_helps a0 a1 I) I := by
  unfold fn_Ref_helps
  repeat' (with_reducible (first | exact pf_ri | exact pf_rv | exact pf_rz | refine pf_gi (fun _ => ?_) | refine pf_gr (by assumption) (fun _ _ => ?_) | refine pf_ld (fun _ => ?_) | refine pf_vi ?_ (fun _ _ => ?_) | refine pf_bi ?_ (fun _ _ => ?_) | refine pf_vv ?_ (fun _ => ?_) | refine pf_bv ?_ (fun _ => ?_) | refine pf_pI (by assumption) (fun _ => ?_) | refine pf_pZ (by assumption) (fun _ => ?_) | refine pf_sI (by assumption) (fun _ => ?_) | refine pf_sZ (by assumption) (fun _ => ?_) | refine pf_la (by assumption) (fun _ _ => ?_) | refine pf_bn (fun _ => ?_) | refine pf_ln (fun _ => ?_) | (apply fr_Ref_exports <;> assumption) | (apply fr_Ref_wanted <;> assumption) | (apply fr_Ref_helps_4 <;> assumption) | apply pf_if))
set_option maxRecDepth 10000 in
theorem fr_Ref_goOver_18 (K4 : Nat → Int32 → Int32 → fm_I → pR) (hK4 : ∀ (a0 : Nat) (a1 : Int32) (a2 : Int32) (I : fm_I), sd true a0 → pF true (K4 a0 a1 a2 I) I) (n : Nat) : ∀ (a0 : Nat) (a1 : Int32) (a2 : Int32) (a3 : Int32) (I : fm_I), sd true a0 → pF true (fn_Ref_goOver_18 K4 n a0 a1 a2 a3 I) I := by
  induction n with
  | zero =>
    intro a0 a1 a2 a3 I ha0
    unfold fn_Ref_goOver_18
    exact pf_none
  | succ n ih =>
    intro a0 a1 a2 a3 I ha0
    unfold fn_Ref_goOver_18
    repeat' (with_reducible (first | exact pf_ri | exact pf_rv | exact pf_rz | refine pf_gi (fun _ => ?_) | refine pf_gr (by assumption) (fun _ _ => ?_) | refine pf_ld (fun _ => ?_) | refine pf_vi ?_ (fun _ _ => ?_) | refine pf_bi ?_ (fun _ _ => ?_) | refine pf_vv ?_ (fun _ => ?_) | refine pf_bv ?_ (fun _ => ?_) | refine pf_pI (by assumption) (fun _ => ?_) | refine pf_pZ (by assumption) (fun _ => ?_) | refine pf_sI (by assumption) (fun _ => ?_) | refine pf_sZ (by assumption) (fun _ => ?_) | refine pf_la (by assumption) (fun _ _ => ?_) | refine pf_bn (fun _ => ?_) | refine pf_ln (fun _ => ?_) | (apply fr_Ref_isIn <;> assumption) | (apply fr_Ref_helps <;> assumption) | (apply fr_Ref_include <;> assumption) | (apply fr_Ref_goOver_4 <;> assumption) | (apply ih <;> assumption) | (apply hK4 <;> assumption) | apply pf_if))
set_option maxRecDepth 10000 in
theorem fr_Ref_goOver_4 (n : Nat) : ∀ (a0 : Nat) (a1 : Int32) (a2 : Int32) (I : fm_I), sd true a0 → pF true (fn_Ref_goOver_4 n a0 a1 a2 I) I := by
  induction n with
  | zero =>
    intro a0 a1 a2 I ha0
    unfold fn_Ref_goOver_4
    exact pf_none
  | succ n ih =>
    intro a0 a1 a2 I ha0
    unfold fn_Ref_goOver_4
    repeat' (with_reducible (first | exact pf_ri | exact pf_rv | exact pf_rz | refine pf_gi (fun _ => ?_) | refine pf_gr (by assumption) (fun _ _ => ?_) | refine pf_ld (fun _ => ?_) | refine pf_vi ?_ (fun _ _ => ?_) | refine pf_bi ?_ (fun _ _ => ?_) | refine pf_vv ?_ (fun _ => ?_) | refine pf_bv ?_ (fun _ => ?_) | refine pf_pI (by assumption) (fun _ => ?_) | refine pf_pZ (by assumption) (fun _ => ?_) | refine pf_sI (by assumption) (fun _ => ?_) | refine pf_sZ (by assumption) (fun _ => ?_) | refine pf_la (by assumption) (fun _ _ => ?_) | refine pf_bn (fun _ => ?_) | refine pf_ln (fun _ => ?_) | (apply fr_Ref_isIn <;> assumption) | (apply fr_Ref_helps <;> assumption) | (apply fr_Ref_include <;> assumption) | (refine fr_Ref_goOver_18 _ ih _ _ _ _ _  _ (by assumption) ) | (apply ih <;> assumption) | apply pf_if))
set_option maxRecDepth 10000 in
theorem fr_Ref_goOver (a0 : Nat) (I : fm_I) (h0 : sd true a0) : pF true (fn_Ref_goOver a0 I) I := by
  unfold fn_Ref_goOver
  repeat' (with_reducible (first | exact pf_ri | exact pf_rv | exact pf_rz | refine pf_gi (fun _ => ?_) | refine pf_gr (by assumption) (fun _ _ => ?_) | refine pf_ld (fun _ => ?_) | refine pf_vi ?_ (fun _ _ => ?_) | refine pf_bi ?_ (fun _ _ => ?_) | refine pf_vv ?_ (fun _ => ?_) | refine pf_bv ?_ (fun _ => ?_) | refine pf_pI (by assumption) (fun _ => ?_) | refine pf_pZ (by assumption) (fun _ => ?_) | refine pf_sI (by assumption) (fun _ => ?_) | refine pf_sZ (by assumption) (fun _ => ?_) | refine pf_la (by assumption) (fun _ _ => ?_) | refine pf_bn (fun _ => ?_) | refine pf_ln (fun _ => ?_) | (apply fr_Ref_isIn <;> assumption) | (apply fr_Ref_helps <;> assumption) | (apply fr_Ref_include <;> assumption) | (refine fr_Ref_goOver_18 _ hK4 _ _ _ _ _  _ (by assumption) ) | (apply fr_Ref_goOver_4 <;> assumption) | apply pf_if))
set_option maxRecDepth 10000 in
theorem fr_Ref_base_14 (K5 : Nat → Int32 → Int32 → Int32 → Int32 → fm_I → pR) (hK5 : ∀ (a0 : Nat) (a1 : Int32) (a2 : Int32) (a3 : Int32) (a4 : Int32) (I : fm_I), sd true a0 → pF true (K5 a0 a1 a2 a3 a4 I) I) (n : Nat) : ∀ (a0 : Nat) (a1 : Int32) (a2 : Int32) (a3 : Int32) (a4 : Int32) (a5 : Int32) (I : fm_I), sd true a0 → pF true (fn_Ref_base_14 K5 n a0 a1 a2 a3 a4 a5 I) I := by
  induction n with
  | zero =>
    intro a0 a1 a2 a3 a4 a5 I ha0
    unfold fn_Ref_base_14
    exact pf_none
  | succ n ih =>
    intro a0 a1 a2 a3 a4 a5 I ha0
    unfold fn_Ref_base_14
    repeat' (with_reducible (first | exact pf_ri | exact pf_rv | exact pf_rz | refine pf_gi (fun _ => ?_) | refine pf_gr (by assumption) (fun _ _ => ?_) | refine pf_ld (fun _ => ?_) | refine pf_vi ?_ (fun _ _ => ?_) | refine pf_bi ?_ (fun _ _ => ?_) | refine pf_vv ?_ (fun _ => ?_) | refine pf_bv ?_ (fun _ => ?_) | refine pf_pI (by assumption) (fun _ => ?_) | refine pf_pZ (by assumption) (fun _ => ?_) | refine pf_sI (by assumption) (fun _ => ?_) | refine pf_sZ (by assumption) (fun _ => ?_) | refine pf_la (by assumption) (fun _ _ => ?_) | refine pf_bn (fun _ => ?_) | refine pf_ln (fun _ => ?_) | (apply fr_Ref_length <;> assumption) | (apply fr_Ref_base_5 <;> assumption) | (apply ih <;> assumption) | (apply hK5 <;> assumption) | apply pf_if))
set_option maxRecDepth 10000 in
theorem fr_Ref_base_5 (n : Nat) : ∀ (a0 : Nat) (a1 : Int32) (a2 : Int32) (a3 : Int32) (a4 : Int32) (I : fm_I), sd true a0 → pF true (fn_Ref_base_5 n a0 a1 a2 a3 a4 I) I := by
  induction n with
  | zero =>
    intro a0 a1 a2 a3 a4 I ha0
    unfold fn_Ref_base_5
    exact pf_none
  | succ n ih =>
    intro a0 a1 a2 a3 a4 I ha0
    unfold fn_Ref_base_5
    repeat' (with_reducible (first | exact pf_ri | exact pf_rv | exact pf_rz | refine pf_gi (fun _ => ?_) | refine pf_gr (by assumption) (fun _ _ => ?_) | refine pf_ld (fun _ => ?_) | refine pf_vi ?_ (fun _ _ => ?_) | refine pf_bi ?_ (fun _ _ => ?_) | refine pf_vv ?_ (fun _ => ?_) | refine pf_bv ?_ (fun _ => ?_) | refine pf_pI (by assumption) (fun _ => ?_) | refine pf_pZ (by assumption) (fun _ => ?_) | refine pf_sI (by assumption) (fun _ => ?_) | refine pf_sZ (by assumption) (fun _ => ?_) | refine pf_la (by assumption) (fun _ _ => ?_) | refine pf_bn (fun _ => ?_) | refine pf_ln (fun _ => ?_) | (apply fr_Ref_length <;> assumption) | (refine fr_Ref_base_14 _ ih _ _ _ _ _ _ _  _ (by assumption) ) | (apply ih <;> assumption) | apply pf_if))
set_option maxRecDepth 10000 in
theorem fr_Ref_base (a0 : Nat) (a1 : Int32) (a2 : Int32) (I : fm_I) (h0 : sd true a0) : pF true (fn_Ref_base a0 a1 a2 I) I := by
  unfold fn_Ref_base
  repeat' (with_reducible (first | exact pf_ri | exact pf_rv | exact pf_rz | refine pf_gi (fun _ => ?_) | refine pf_gr (by assumption) (fun _ _ => ?_) | refine pf_ld (fun _ => ?_) | refine pf_vi ?_ (fun _ _ => ?_) | refine pf_bi ?_ (fun _ _ => ?_) | refine pf_vv ?_ (fun _ => ?_) | refine pf_bv ?_ (fun _ => ?_) | refine pf_pI (by assumption) (fun _ => ?_) | refine pf_pZ (by assumption) (fun _ => ?_) | refine pf_sI (by assumption) (fun _ => ?_) | refine pf_sZ (by assumption) (fun _ => ?_) | refine pf_la (by assumption) (fun _ _ => ?_) | refine pf_bn (fun _ => ?_) | refine pf_ln (fun _ => ?_) | (apply fr_Ref_length <;> assumption) | (refine fr_Ref_base_14 _ hK5 _ _ _ _ _ _ _  _ (by assumption) ) | (apply fr_Ref_base_5 <;> assumption) | apply pf_if))
set_option maxRecDepth 10000 in
theorem fr_Ref_sum_4 (n : Nat) : ∀ (a0 : Nat) (a1 : Int32) (a2 : Int32) (a3 : Int32) (I : fm_I), sd true a0 → pF true (fn_Ref_sum_4 n a0 a1 a2 a3 I) I := by
  induction n with
  | zero =>
    intro a0 a1 a2 a3 I ha0
    unfold fn_Ref_sum_4
    exact pf_none
  | succ n ih =>
    intro a0 a1 a2 a3 I ha0
    unfold fn_Ref_sum_4
    repeat' (with_reducible (first | exact pf_ri | exact pf_rv | exact pf_rz | refine pf_gi (fun _ => ?_) | refine pf_gr (by assumption) (fun _ _ => ?_) | refine pf_ld (fun _ => ?_) | refine pf_vi ?_ (fun _ _ => ?_) | refine pf_bi ?_ (fun _ _ => ?_) | refine pf_vv ?_ (fun _ => ?_) | refine pf_bv ?_ (fun _ => ?_) | refine pf_pI (by assumption) (fun _ => ?_) | refine pf_pZ (by assumption) (fun _ => ?_) | refine pf_sI (by assumption) (fun _ => ?_) | refine pf_sZ (by assumption) (fun _ => ?_) | refine pf_la (by assumption) (fun _ _ => ?_) | refine pf_bn (fun _ => ?_) | refine pf_ln (fun _ => ?_) | (apply fr_Ref_length <;> assumption) | (apply ih <;> assumption) | apply pf_if))
set_option maxRecDepth 10000 in
theorem fr_Ref_sum (a0 : Nat) (a1 : Int32) (I : fm_I) (h0 : sd true a0) : pF true (fn_Ref_sum a0 a1 I) I := by
  unfold fn_Ref_sum
  repeat' (with_reducible (first | exact pf_ri | exact pf_rv | exact pf_rz | refine pf_gi (fun _ => ?_) | refine pf_gr (by assumption) (fun _ _ => ?_) | refine pf_ld (fun _ => ?_) | refine pf_vi ?_ (fun _ _ => ?_) | refine pf_bi ?_ (fun _ _ => ?_) | refine pf_vv ?_ (fun _ => ?_) | refine pf_bv ?_ (fun _ => ?_) | refine pf_pI (by assumption) (fun _ => ?_) | refine pf_pZ (by assumption) (fun _ => ?_) | refine pf_sI (by assumption) (fun _ => ?_) | refine pf_sZ (by assumption) (fun _ => ?_) | refine pf_la (by assumption) (fun _ _ => ?_) | refine pf_bn (fun _ => ?_) | refine pf_ln (fun _ => ?_) | (apply fr_Ref_length <;> assumption) | (apply fr_Ref_sum_4 <;> assumption) | apply pf_if))
set_option maxRecDepth 10000 in
theorem fr_Ref_commonsBelow_4 (n : Nat) : ∀ (a0 : Nat) (a1 : Int32) (a2 : Int32) (a3 : Int32) (I : fm_I), sd true a0 → pF true (fn_Ref_commonsBelow_4 n a0 a1 a2 a3 I) I := by
  induction n with
  | zero =>
    intro a0 a1 a2 a3 I ha0
    unfold fn_Ref_commonsBelow_4
    exact pf_none
  | succ n ih =>
    intro a0 a1 a2 a3 I ha0
    unfold fn_Ref_commonsBelow_4
    repeat' (with_reducible (first | exact pf_ri | exact pf_rv | exact pf_rz | refine pf_gi (fun _ => ?_) | refine pf_gr (by assumption) (fun _ _ => ?_) | refine pf_ld (fun _ => ?_) | refine pf_vi ?_ (fun _ _ => ?_) | refine pf_bi ?_ (fun _ _ => ?_) | refine pf_vv ?_ (fun _ => ?_) | refine pf_bv ?_ (fun _ => ?_) | refine pf_pI (by assumption) (fun _ => ?_) | refine pf_pZ (by assumption) (fun _ => ?_) | refine pf_sI (by assumption) (fun _ => ?_) | refine pf_sZ (by assumption) (fun _ => ?_) | refine pf_la (by assumption) (fun _ _ => ?_) | refine pf_bn (fun _ => ?_) | refine pf_ln (fun _ => ?_) | (apply fr_Ref_exporters <;> assumption) | (apply fr_Ref_largest <;> assumption) | (apply ih <;> assumption) | apply pf_if))
set_option maxRecDepth 10000 in
theorem fr_Ref_commonsBelow (a0 : Nat) (a1 : Int32) (I : fm_I) (h0 : sd true a0) : pF true (fn_Ref_commonsBelow a0 a1 I) I := by
  unfold fn_Ref_commonsBelow
  repeat' (with_reducible (first | exact pf_ri | exact pf_rv | exact pf_rz | refine pf_gi (fun _ => ?_) | refine pf_gr (by assumption) (fun _ _ => ?_) | refine pf_ld (fun _ => ?_) | refine pf_vi ?_ (fun _ _ => ?_) | refine pf_bi ?_ (fun _ _ => ?_) | refine pf_vv ?_ (fun _ => ?_) | refine pf_bv ?_ (fun _ => ?_) | refine pf_pI (by assumption) (fun _ => ?_) | refine pf_pZ (by assumption) (fun _ => ?_) | refine pf_sI (by assumption) (fun _ => ?_) | refine pf_sZ (by assumption) (fun _ => ?_) | refine pf_la (by assumption) (fun _ _ => ?_) | refine pf_bn (fun _ => ?_) | refine pf_ln (fun _ => ?_) | (apply fr_Ref_exporters <;> assumption) | (apply fr_Ref_largest <;> assumption) | (apply fr_Ref_commonsBelow_4 <;> assumption) | apply pf_if))
set_option maxRecDepth 10000 in
theorem fr_Ref_valueOf (a0 : Nat) (a1 : Int32) (a2 : Int32) (I : fm_I) (h0 : sd true a0) : pF true (fn_Ref_valueOf a0 a1 a2 I) I := by
  unfold fn_Ref_valueOf
  repeat' (with_reducible (first | exact pf_ri | exact pf_rv | exact pf_rz | refine pf_gi (fun _ => ?_) | refine pf_gr (by assumption) (fun _ _ => ?_) | refine pf_ld (fun _ => ?_) | refine pf_vi ?_ (fun _ _ => ?_) | refine pf_bi ?_ (fun _ _ => ?_) | refine pf_vv ?_ (fun _ => ?_) | refine pf_bv ?_ (fun _ => ?_) | refine pf_pI (by assumption) (fun _ => ?_) | refine pf_pZ (by assumption) (fun _ => ?_) | refine pf_sI (by assumption) (fun _ => ?_) | refine pf_sZ (by assumption) (fun _ => ?_) | refine pf_la (by assumption) (fun _ _ => ?_) | refine pf_bn (fun _ => ?_) | refine pf_ln (fun _ => ?_) | (apply fr_Ref_base <;> assumption) | (apply fr_Ref_place <;> assumption) | apply pf_if))
set_option maxRecDepth 10000 in
theorem fr_Ref_outside_2 (n : Nat) : ∀ (a0 : Nat) (a1 : Int32) (a2 : Int32) (I : fm_I), sd true a0 → pF true (fn_Ref_outside_2 n a0 a1 a2 I) I := by
  induction n with
  | zero =>
    intro a0 a1 a2 I ha0
    unfold fn_Ref_outside_2
    exact pf_none
  | succ n ih =>
    intro a0 a1 a2 I ha0
    unfold fn_Ref_outside_2
    repeat' (with_reducible (first | exact pf_ri | exact pf_rv | exact pf_rz | refine pf_gi (fun _ => ?_) | refine pf_gr (by assumption) (fun _ _ => ?_) | refine pf_ld (fun _ => ?_) | refine pf_vi ?_ (fun _ _ => ?_) | refine pf_bi ?_ (fun _ _ => ?_) | refine pf_vv ?_ (fun _ => ?_) | refine pf_bv ?_ (fun _ => ?_) | refine pf_pI (by assumption) (fun _ => ?_) | refine pf_pZ (by assumption) (fun _ => ?_) | refine pf_sI (by assumption) (fun _ => ?_) | refine pf_sZ (by assumption) (fun _ => ?_) | refine pf_la (by assumption) (fun _ _ => ?_) | refine pf_bn (fun _ => ?_) | refine pf_ln (fun _ => ?_) | (apply fr_Ref_exports <;> assumption) | (apply fr_Ref_definition <;> assumption) | (apply fr_Ref_valueOf <;> assumption) | (apply fr_Ref_largest <;> assumption) | (apply fr_Ref_sum <;> assumption) | (apply fr_Ref_commonsBelow <;> assumption) | (apply ih <;> assumption) | apply pf_if))
set_option maxRecDepth 10000 in
theorem fr_Ref_outside (a0 : Nat) (a1 : Int32) (I : fm_I) (h0 : sd true a0) : pF true (fn_Ref_outside a0 a1 I) I := by
  unfold fn_Ref_outside
  repeat' (with_reducible (first | exact pf_ri | exact pf_rv | exact pf_rz | refine pf_gi (fun _ => ?_) | refine pf_gr (by assumption) (fun _ _ => ?_) | refine pf_ld (fun _ => ?_) | refine pf_vi ?_ (fun _ _ => ?_) | refine pf_bi ?_ (fun _ _ => ?_) | refine pf_vv ?_ (fun _ => ?_) | refine pf_bv ?_ (fun _ => ?_) | refine pf_pI (by assumption) (fun _ => ?_) | refine pf_pZ (by assumption) (fun _ => ?_) | refine pf_sI (by assumption) (fun _ => ?_) | refine pf_sZ (by assumption) (fun _ => ?_) | refine pf_la (by assumption) (fun _ _ => ?_) | refine pf_bn (fun _ => ?_) | refine pf_ln (fun _ => ?_) | (apply fr_Ref_exports <;> assumption) | (apply fr_Ref_definition <;> assumption) | (apply fr_Ref_valueOf <;> assumption) | (apply fr_Ref_largest <;> assumption) | (apply fr_Ref_sum <;> assumption) | (apply fr_Ref_commonsBelow <;> assumption) | (apply fr_Ref_outside_2 <;> assumption) | apply pf_if))
set_option maxRecDepth 10000 in
theorem fr_Ref_standsFor (a0 : Nat) (a1 : Int32) (a2 : Int32) (I : fm_I) (h0 : sd true a0) : pF true (fn_Ref_standsFor a0 a1 a2 I) I := by
  unfold fn_Ref_standsFor
  repeat' (with_reducible (first | exact pf_ri | exact pf_rv | exact pf_rz | refine pf_gi (fun _ => ?_) | refine pf_gr (by assumption) (fun _ _ => ?_) | refine pf_ld (fun _ => ?_) | refine pf_vi ?_ (fun _ _ => ?_) | refine pf_bi ?_ (fun _ _ => ?_) | refine pf_vv ?_ (fun _ => ?_) | refine pf_bv ?_ (fun _ => ?_) | refine pf_pI (by assumption) (fun _ => ?_) | refine pf_pZ (by assumption) (fun _ => ?_) | refine pf_sI (by assumption) (fun _ => ?_) | refine pf_sZ (by assumption) (fun _ => ?_) | refine pf_la (by assumption) (fun _ _ => ?_) | refine pf_bn (fun _ => ?_) | refine pf_ln (fun _ => ?_) | (apply fr_Ref_definition <;> assumption) | (apply fr_Ref_valueOf <;> assumption) | (apply fr_Ref_outside <;> assumption) | apply pf_if))
set_option maxRecDepth 10000 in
theorem fr_Ref_write_158 : ∀ (a0 : Nat) (a1 : Int32) (a2 : Int32) (a4 : Int32) (I : fm_I), sd true a0 → pF true (fn_Ref_write_158 a0 a1 a2 a4 I) I := by
  intro a0 a1 a2 a4 I ha0
  unfold fn_Ref_write_158
  repeat' (with_reducible (first | exact pf_ri | exact pf_rv | exact pf_rz | refine pf_gi (fun _ => ?_) | refine pf_gr (by assumption) (fun _ _ => ?_) | refine pf_ld (fun _ => ?_) | refine pf_vi ?_ (fun _ _ => ?_) | refine pf_bi ?_ (fun _ _ => ?_) | refine pf_vv ?_ (fun _ => ?_) | refine pf_bv ?_ (fun _ => ?_) | refine pf_pI (by assumption) (fun _ => ?_) | refine pf_pZ (by assumption) (fun _ => ?_) | refine pf_sI (by assumption) (fun _ => ?_) | refine pf_sZ (by assumption) (fun _ => ?_) | refine pf_la (by assumption) (fun _ _ => ?_) | refine pf_bn (fun _ => ?_) | refine pf_ln (fun _ => ?_) | (apply fr_Ref_base <;> assumption) | (apply fr_Ref_place <;> assumption) | (apply fr_Ref_standsFor <;> assumption) | (apply fr_Ref_distance <;> assumption) | apply pf_if))
set_option maxRecDepth 10000 in
theorem fr_Ref_write (a0 : Nat) (a1 : Int32) (a2 : Int32) (I : fm_I) (h0 : sd true a0) : pF true (fn_Ref_write a0 a1 a2 I) I := by
  unfold fn_Ref_write
  repeat' (with_reducible (first | exact pf_ri | exact pf_rv | exact pf_rz | refine pf_gi (fun _ => ?_) | refine pf_gr (by assumption) (fun _ _ => ?_) | refine pf_ld (fun _ => ?_) | refine pf_vi ?_ (fun _ _ => ?_) | refine pf_bi ?_ (fun _ _ => ?_) | refine pf_vv ?_ (fun _ => ?_) | refine pf_bv ?_ (fun _ => ?_) | refine pf_pI (by assumption) (fun _ => ?_) | refine pf_pZ (by assumption) (fun _ => ?_) | refine pf_sI (by assumption) (fun _ => ?_) | refine pf_sZ (by assumption) (fun _ => ?_) | refine pf_la (by assumption) (fun _ _ => ?_) | refine pf_bn (fun _ => ?_) | refine pf_ln (fun _ => ?_) | (apply fr_Ref_base <;> assumption) | (apply fr_Ref_place <;> assumption) | (apply fr_Ref_standsFor <;> assumption) | (apply fr_Ref_distance <;> assumption) | (apply fr_Ref_write_158 <;> assumption) | apply pf_if))
set_option maxRecDepth 10000 in
theorem fr_Ref_layOut_44 (K24 : Nat → Int32 → fm_I → pR) (hK24 : ∀ (a0 : Nat) (a1 : Int32) (I : fm_I), sd true a0 → pF true (K24 a0 a1 I) I) (n : Nat) : ∀ (a0 : Nat) (a1 : Int32) (a2 : Int32) (a3 : Int32) (I : fm_I), sd true a0 → pF true (fn_Ref_layOut_44 K24 n a0 a1 a2 a3 I) I := by
  induction n with
  | zero =>
    intro a0 a1 a2 a3 I ha0
    unfold fn_Ref_layOut_44
    exact pf_none
  | succ n ih =>
    intro a0 a1 a2 a3 I ha0
    unfold fn_Ref_layOut_44
    repeat' (with_reducible (first | exact pf_ri | exact pf_rv | exact pf_rz | refine pf_gi (fun _ => ?_) | refine pf_gr (by assumption) (fun _ _ => ?_) | refine pf_ld (fun _ => ?_) | refine pf_vi ?_ (fun _ _ => ?_) | refine pf_bi ?_ (fun _ _ => ?_) | refine pf_vv ?_ (fun _ => ?_) | refine pf_bv ?_ (fun _ => ?_) | refine pf_pI (by assumption) (fun _ => ?_) | refine pf_pZ (by assumption) (fun _ => ?_) | refine pf_sI (by assumption) (fun _ => ?_) | refine pf_sZ (by assumption) (fun _ => ?_) | refine pf_la (by assumption) (fun _ _ => ?_) | refine pf_bn (fun _ => ?_) | refine pf_ln (fun _ => ?_) | (apply fr_Ref_write <;> assumption) | (apply fr_Ref_outside <;> assumption) | (apply fr_Ref_sum <;> assumption) | (apply fr_Ref_layOut_79 <;> assumption) | (apply fr_Ref_layOut_24 <;> assumption) | (apply fr_Ref_layOut_2 <;> assumption) | (apply ih <;> assumption) | (apply hK24 <;> assumption) | apply pf_if))
set_option maxRecDepth 10000 in
theorem fr_Ref_layOut_79 (n : Nat) : ∀ (a0 : Nat) (a1 : Int32) (I : fm_I), sd true a0 → pF true (fn_Ref_layOut_79 n a0 a1 I) I := by
  induction n with
  | zero =>
    intro a0 a1 I ha0
    unfold fn_Ref_layOut_79
    exact pf_none
  | succ n ih =>
    intro a0 a1 I ha0
    unfold fn_Ref_layOut_79
    repeat' (with_reducible (first | exact pf_ri | exact pf_rv | exact pf_rz | refine pf_gi (fun _ => ?_) | refine pf_gr (by assumption) (fun _ _ => ?_) | refine pf_ld (fun _ => ?_) | refine pf_vi ?_ (fun _ _ => ?_) | refine pf_bi ?_ (fun _ _ => ?_) | refine pf_vv ?_ (fun _ => ?_) | refine pf_bv ?_ (fun _ => ?_) | refine pf_pI (by assumption) (fun _ => ?_) | refine pf_pZ (by assumption) (fun _ => ?_) | refine pf_sI (by assumption) (fun _ => ?_) | refine pf_sZ (by assumption) (fun _ => ?_) | refine pf_la (by assumption) (fun _ _ => ?_) | refine pf_bn (fun _ => ?_) | refine pf_ln (fun _ => ?_) | (apply fr_Ref_write <;> assumption) | (apply fr_Ref_outside <;> assumption) | (apply fr_Ref_sum <;> assumption) | (refine fr_Ref_layOut_44 _ hK24 _ _ _ _ _  _ (by assumption) ) | (apply fr_Ref_layOut_24 <;> assumption) | (apply fr_Ref_layOut_2 <;> assumption) | (apply ih <;> assumption) | apply pf_if))
set_option maxRecDepth 10000 in
theorem fr_Ref_layOut_24 (n : Nat) : ∀ (a0 : Nat) (a1 : Int32) (I : fm_I), sd true a0 → pF true (fn_Ref_layOut_24 n a0 a1 I) I := by
  induction n with
  | zero =>
    intro a0 a1 I ha0
    unfold fn_Ref_layOut_24
    exact pf_none
  | succ n ih =>
    intro a0 a1 I ha0
    unfold fn_Ref_layOut_24
    repeat' (with_reducible (first | exact pf_ri | exact pf_rv | exact pf_rz | refine pf_gi (fun _ => ?_) | refine pf_gr (by assumption) (fun _ _ => ?_) | refine pf_ld (fun _ => ?_) | refine pf_vi ?_ (fun _ _ => ?_) | refine pf_bi ?_ (fun _ _ => ?_) | refine pf_vv ?_ (fun _ => ?_) | refine pf_bv ?_ (fun _ => ?_) | refine pf_pI (by assumption) (fun _ => ?_) | refine pf_pZ (by assumption) (fun _ => ?_) | refine pf_sI (by assumption) (fun _ => ?_) | refine pf_sZ (by assumption) (fun _ => ?_) | refine pf_la (by assumption) (fun _ _ => ?_) | refine pf_bn (fun _ => ?_) | refine pf_ln (fun _ => ?_) | (apply fr_Ref_write <;> assumption) | (apply fr_Ref_outside <;> assumption) | (apply fr_Ref_sum <;> assumption) | (refine fr_Ref_layOut_44 _ ih _ _ _ _ _  _ (by assumption) ) | (apply fr_Ref_layOut_79 <;> assumption) | (apply fr_Ref_layOut_2 <;> assumption) | (apply ih <;> assumption) | apply pf_if))
set_option maxRecDepth 10000 in
theorem fr_Ref_layOut_2 (n : Nat) : ∀ (a0 : Nat) (a1 : Int32) (I : fm_I), sd true a0 → pF true (fn_Ref_layOut_2 n a0 a1 I) I := by
  induction n with
  | zero =>
    intro a0 a1 I ha0
    unfold fn_Ref_layOut_2
    exact pf_none
  | succ n ih =>
    intro a0 a1 I ha0
    unfold fn_Ref_layOut_2
    repeat' (with_reducible (first | exact pf_ri | exact pf_rv | exact pf_rz | refine pf_gi (fun _ => ?_) | refine pf_gr (by assumption) (fun _ _ => ?_) | refine pf_ld (fun _ => ?_) | refine pf_vi ?_ (fun _ _ => ?_) | refine pf_bi ?_ (fun _ _ => ?_) | refine pf_vv ?_ (fun _ => ?_) | refine pf_bv ?_ (fun _ => ?_) | refine pf_pI (by assumption) (fun _ => ?_) | refine pf_pZ (by assumption) (fun _ => ?_) | refine pf_sI (by assumption) (fun _ => ?_) | refine pf_sZ (by assumption) (fun _ => ?_) | refine pf_la (by assumption) (fun _ _ => ?_) | refine pf_bn (fun _ => ?_) | refine pf_ln (fun _ => ?_) | (apply fr_Ref_write <;> assumption) | (apply fr_Ref_outside <;> assumption) | (apply fr_Ref_sum <;> assumption) | (refine fr_Ref_layOut_44 _ hK24 _ _ _ _ _  _ (by assumption) ) | (apply fr_Ref_layOut_79 <;> assumption) | (apply fr_Ref_layOut_24 <;> assumption) | (apply ih <;> assumption) | apply pf_if))
set_option maxRecDepth 10000 in
theorem fr_Ref_layOut (a0 : Nat) (I : fm_I) (h0 : sd true a0) : pF true (fn_Ref_layOut a0 I) I := by
  unfold fn_Ref_layOut
  repeat' (with_reducible (first | exact pf_ri | exact pf_rv | exact pf_rz | refine pf_gi (fun _ => ?_) | refine pf_gr (by assumption) (fun _ _ => ?_) | refine pf_ld (fun _ => ?_) | refine pf_vi ?_ (fun _ _ => ?_) | refine pf_bi ?_ (fun _ _ => ?_) | refine pf_vv ?_ (fun _ => ?_) | refine pf_bv ?_ (fun _ => ?_) | refine pf_pI (by assumption) (fun _ => ?_) | refine pf_pZ (by assumption) (fun _ => ?_) | refine pf_sI (by assumption) (fun _ => ?_) | refine pf_sZ (by assumption) (fun _ => ?_) | refine pf_la (by assumption) (fun _ _ => ?_) | refine pf_bn (fun _ => ?_) | refine pf_ln (fun _ => ?_) | (apply fr_Ref_write <;> assumption) | (apply fr_Ref_outside <;> assumption) | (apply fr_Ref_sum <;> assumption) | (refine fr_Ref_layOut_44 _ hK24 _ _ _ _ _  _ (by assumption) ) | (apply fr_Ref_layOut_79 <;> assumption) | (apply fr_Ref_layOut_24 <;> assumption) | (apply fr_Ref_layOut_2 <;> assumption) | apply pf_if))
set_option maxRecDepth 10000 in
theorem fr_Ref_link_116 (K86 : Nat → Int32 → Int32 → fm_I → pR) (hK86 : ∀ (a0 : Nat) (a2 : Int32) (a3 : Int32) (I : fm_I), sd true a0 → pF true (K86 a0 a2 a3 I) I) : ∀ (a0 : Nat) (a2 : Int32) (a3 : Int32) (t0 : Nat) (t1 : Int32) (I : fm_I), sd true a0 → sd true t0 → pF true (fn_Ref_link_116 K86 a0 a2 a3 t0 t1 I) I := by
  intro a0 a2 a3 t0 t1 I ha0 ht0
  unfold fn_Ref_link_116
  repeat' (with_reducible (first | exact pf_ri | exact pf_rv | exact pf_rz | refine pf_gi (fun _ => ?_) | refine pf_gr (by assumption) (fun _ _ => ?_) | refine pf_ld (fun _ => ?_) | refine pf_vi ?_ (fun _ _ => ?_) | refine pf_bi ?_ (fun _ _ => ?_) | refine pf_vv ?_ (fun _ => ?_) | refine pf_bv ?_ (fun _ => ?_) | refine pf_pI (by assumption) (fun _ => ?_) | refine pf_pZ (by assumption) (fun _ => ?_) | refine pf_sI (by assumption) (fun _ => ?_) | refine pf_sZ (by assumption) (fun _ => ?_) | refine pf_la (by assumption) (fun _ _ => ?_) | refine pf_bn (fun _ => ?_) | refine pf_ln (fun _ => ?_) | (apply fr_Ref_goOver <;> assumption) | (apply fr_Ref_include <;> assumption) | (apply fr_Ref_wanted <;> assumption) | (apply fr_Ref_exporters <;> assumption) | (apply fr_Ref_sum <;> assumption) | (apply fr_Ref_commonsBelow <;> assumption) | (apply fr_Ref_layOut <;> assumption) | (apply fr_Ref_link_86 <;> assumption) | (apply fr_Ref_link_35 <;> assumption) | (apply hK86 <;> assumption) | apply pf_if))
set_option maxRecDepth 10000 in
theorem fr_Ref_link_86 (n : Nat) : ∀ (a0 : Nat) (a2 : Int32) (a3 : Int32) (I : fm_I), sd true a0 → pF true (fn_Ref_link_86 n a0 a2 a3 I) I := by
  induction n with
  | zero =>
    intro a0 a2 a3 I ha0
    unfold fn_Ref_link_86
    exact pf_none
  | succ n ih =>
    intro a0 a2 a3 I ha0
    unfold fn_Ref_link_86
    repeat' (with_reducible (first | exact pf_ri | exact pf_rv | exact pf_rz | refine pf_gi (fun _ => ?_) | refine pf_gr (by assumption) (fun _ _ => ?_) | refine pf_ld (fun _ => ?_) | refine pf_vi ?_ (fun _ _ => ?_) | refine pf_bi ?_ (fun _ _ => ?_) | refine pf_vv ?_ (fun _ => ?_) | refine pf_bv ?_ (fun _ => ?_) | refine pf_pI (by assumption) (fun _ => ?_) | refine pf_pZ (by assumption) (fun _ => ?_) | refine pf_sI (by assumption) (fun _ => ?_) | refine pf_sZ (by assumption) (fun _ => ?_) | refine pf_la (by assumption) (fun _ _ => ?_) | refine pf_bn (fun _ => ?_) | refine pf_ln (fun _ => ?_) | (apply fr_Ref_goOver <;> assumption) | (apply fr_Ref_include <;> assumption) | (apply fr_Ref_wanted <;> assumption) | (apply fr_Ref_exporters <;> assumption) | (apply fr_Ref_sum <;> assumption) | (apply fr_Ref_commonsBelow <;> assumption) | (apply fr_Ref_layOut <;> assumption) | (refine fr_Ref_link_116 _ ih _ _ _ _ _ _ (by assumption) (by assumption)) | (apply fr_Ref_link_35 <;> assumption) | (apply ih <;> assumption) | apply pf_if))
set_option maxRecDepth 10000 in
theorem fr_Ref_link_35 (n : Nat) : ∀ (a0 : Nat) (a2 : Int32) (I : fm_I), sd true a0 → pF true (fn_Ref_link_35 n a0 a2 I) I := by
  induction n with
  | zero =>
    intro a0 a2 I ha0
    unfold fn_Ref_link_35
    exact pf_none
  | succ n ih =>
    intro a0 a2 I ha0
    unfold fn_Ref_link_35
    repeat' (with_reducible (first | exact pf_ri | exact pf_rv | exact pf_rz | refine pf_gi (fun _ => ?_) | refine pf_gr (by assumption) (fun _ _ => ?_) | refine pf_ld (fun _ => ?_) | refine pf_vi ?_ (fun _ _ => ?_) | refine pf_bi ?_ (fun _ _ => ?_) | refine pf_vv ?_ (fun _ => ?_) | refine pf_bv ?_ (fun _ => ?_) | refine pf_pI (by assumption) (fun _ => ?_) | refine pf_pZ (by assumption) (fun _ => ?_) | refine pf_sI (by assumption) (fun _ => ?_) | refine pf_sZ (by assumption) (fun _ => ?_) | refine pf_la (by assumption) (fun _ _ => ?_) | refine pf_bn (fun _ => ?_) | refine pf_ln (fun _ => ?_) | (apply fr_Ref_goOver <;> assumption) | (apply fr_Ref_include <;> assumption) | (apply fr_Ref_wanted <;> assumption) | (apply fr_Ref_exporters <;> assumption) | (apply fr_Ref_sum <;> assumption) | (apply fr_Ref_commonsBelow <;> assumption) | (apply fr_Ref_layOut <;> assumption) | (refine fr_Ref_link_116 _ hK86 _ _ _ _ _ _ (by assumption) (by assumption)) | (apply fr_Ref_link_86 <;> assumption) | (apply ih <;> assumption) | apply pf_if))
set_option maxRecDepth 10000 in
theorem fr_Ref_link (a0 : Nat) (a1 : Int32) (I : fm_I) (h0 : sd true a0) : pF true (fn_Ref_link a0 a1 I) I := by
  unfold fn_Ref_link
  repeat' (with_reducible (first | exact pf_ri | exact pf_rv | exact pf_rz | refine pf_gi (fun _ => ?_) | refine pf_gr (by assumption) (fun _ _ => ?_) | refine pf_ld (fun _ => ?_) | refine pf_vi ?_ (fun _ _ => ?_) | refine pf_bi ?_ (fun _ _ => ?_) | refine pf_vv ?_ (fun _ => ?_) | refine pf_bv ?_ (fun _ => ?_) | refine pf_pI (by assumption) (fun _ => ?_) | refine pf_pZ (by assumption) (fun _ => ?_) | refine pf_sI (by assumption) (fun _ => ?_) | refine pf_sZ (by assumption) (fun _ => ?_) | refine pf_la (by assumption) (fun _ _ => ?_) | refine pf_bn (fun _ => ?_) | refine pf_ln (fun _ => ?_) | (apply fr_Ref_goOver <;> assumption) | (apply fr_Ref_include <;> assumption) | (apply fr_Ref_wanted <;> assumption) | (apply fr_Ref_exporters <;> assumption) | (apply fr_Ref_sum <;> assumption) | (apply fr_Ref_commonsBelow <;> assumption) | (apply fr_Ref_layOut <;> assumption) | (refine fr_Ref_link_116 _ hK86 _ _ _ _ _ _ (by assumption) (by assumption)) | (apply fr_Ref_link_86 <;> assumption) | (apply fr_Ref_link_35 <;> assumption) | apply pf_if))
set_option maxRecDepth 10000 in
theorem fr_Ref_included (a0 : Nat) (a1 : Int32) (I : fm_I) (h0 : sd true a0) : pF true (fn_Ref_included a0 a1 I) I := by
  unfold fn_Ref_included
  repeat' (with_reducible (first | exact pf_ri | exact pf_rv | exact pf_rz | refine pf_gi (fun _ => ?_) | refine pf_gr (by assumption) (fun _ _ => ?_) | refine pf_ld (fun _ => ?_) | refine pf_vi ?_ (fun _ _ => ?_) | refine pf_bi ?_ (fun _ _ => ?_) | refine pf_vv ?_ (fun _ => ?_) | refine pf_bv ?_ (fun _ => ?_) | refine pf_pI (by assumption) (fun _ => ?_) | refine pf_pZ (by assumption) (fun _ => ?_) | refine pf_sI (by assumption) (fun _ => ?_) | refine pf_sZ (by assumption) (fun _ => ?_) | refine pf_la (by assumption) (fun _ _ => ?_) | refine pf_bn (fun _ => ?_) | refine pf_ln (fun _ => ?_) | apply pf_if))
set_option maxRecDepth 10000 in
theorem fr_Ref_missing (a0 : Nat) (I : fm_I) (h0 : sd true a0) : pF true (fn_Ref_missing a0 I) I := by
  unfold fn_Ref_missing
  repeat' (with_reducible (first | exact pf_ri | exact pf_rv | exact pf_rz | refine pf_gi (fun _ => ?_) | refine pf_gr (by assumption) (fun _ _ => ?_) | refine pf_ld (fun _ => ?_) | refine pf_vi ?_ (fun _ _ => ?_) | refine pf_bi ?_ (fun _ _ => ?_) | refine pf_vv ?_ (fun _ => ?_) | refine pf_bv ?_ (fun _ => ?_) | refine pf_pI (by assumption) (fun _ => ?_) | refine pf_pZ (by assumption) (fun _ => ?_) | refine pf_sI (by assumption) (fun _ => ?_) | refine pf_sZ (by assumption) (fun _ => ?_) | refine pf_la (by assumption) (fun _ _ => ?_) | refine pf_bn (fun _ => ?_) | refine pf_ln (fun _ => ?_) | apply pf_if))
set_option maxRecDepth 10000 in
theorem fr_Ref_size (a0 : Nat) (a1 : Int32) (I : fm_I) (h0 : sd true a0) : pF true (fn_Ref_size a0 a1 I) I := by
  unfold fn_Ref_size
  repeat' (with_reducible (first | exact pf_ri | exact pf_rv | exact pf_rz | refine pf_gi (fun _ => ?_) | refine pf_gr (by assumption) (fun _ _ => ?_) | refine pf_ld (fun _ => ?_) | refine pf_vi ?_ (fun _ _ => ?_) | refine pf_bi ?_ (fun _ _ => ?_) | refine pf_vv ?_ (fun _ => ?_) | refine pf_bv ?_ (fun _ => ?_) | refine pf_pI (by assumption) (fun _ => ?_) | refine pf_pZ (by assumption) (fun _ => ?_) | refine pf_sI (by assumption) (fun _ => ?_) | refine pf_sZ (by assumption) (fun _ => ?_) | refine pf_la (by assumption) (fun _ _ => ?_) | refine pf_bn (fun _ => ?_) | refine pf_ln (fun _ => ?_) | apply pf_if))
set_option maxRecDepth 10000 in
theorem fr_Ref_word (a0 : Nat) (a1 : Int32) (I : fm_I) (h0 : sd true a0) : pF true (fn_Ref_word a0 a1 I) I := by
  unfold fn_Ref_word
  repeat' (with_reducible (first | exact pf_ri | exact pf_rv | exact pf_rz | refine pf_gi (fun _ => ?_) | refine pf_gr (by assumption) (fun _ _ => ?_) | refine pf_ld (fun _ => ?_) | refine pf_vi ?_ (fun _ _ => ?_) | refine pf_bi ?_ (fun _ _ => ?_) | refine pf_vv ?_ (fun _ => ?_) | refine pf_bv ?_ (fun _ => ?_) | refine pf_pI (by assumption) (fun _ => ?_) | refine pf_pZ (by assumption) (fun _ => ?_) | refine pf_sI (by assumption) (fun _ => ?_) | refine pf_sZ (by assumption) (fun _ => ?_) | refine pf_la (by assumption) (fun _ _ => ?_) | refine pf_bn (fun _ => ?_) | refine pf_ln (fun _ => ?_) | apply pf_if))
set_option maxRecDepth 10000 in
theorem fr_Ref_symbol (a0 : Nat) (a1 : Int32) (I : fm_I) (h0 : sd true a0) : pF true (fn_Ref_symbol a0 a1 I) I := by
  unfold fn_Ref_symbol
  repeat' (with_reducible (first | exact pf_ri | exact pf_rv | exact pf_rz | refine pf_gi (fun _ => ?_) | refine pf_gr (by assumption) (fun _ _ => ?_) | refine pf_ld (fun _ => ?_) | refine pf_vi ?_ (fun _ _ => ?_) | refine pf_bi ?_ (fun _ _ => ?_) | refine pf_vv ?_ (fun _ => ?_) | refine pf_bv ?_ (fun _ => ?_) | refine pf_pI (by assumption) (fun _ => ?_) | refine pf_pZ (by assumption) (fun _ => ?_) | refine pf_sI (by assumption) (fun _ => ?_) | refine pf_sZ (by assumption) (fun _ => ?_) | refine pf_la (by assumption) (fun _ _ => ?_) | refine pf_bn (fun _ => ?_) | refine pf_ln (fun _ => ?_) | (apply fr_Ref_name <;> assumption) | apply pf_if))
set_option maxRecDepth 10000 in
theorem fr_Ref_strip (a0 : Nat) (I : fm_I) (h0 : sd true a0) : pF true (fn_Ref_strip a0 I) I := by
  unfold fn_Ref_strip
  repeat' (with_reducible (first | exact pf_ri | exact pf_rv | exact pf_rz | refine pf_gi (fun _ => ?_) | refine pf_gr (by assumption) (fun _ _ => ?_) | refine pf_ld (fun _ => ?_) | refine pf_vi ?_ (fun _ _ => ?_) | refine pf_bi ?_ (fun _ _ => ?_) | refine pf_vv ?_ (fun _ => ?_) | refine pf_bv ?_ (fun _ => ?_) | refine pf_pI (by assumption) (fun _ => ?_) | refine pf_pZ (by assumption) (fun _ => ?_) | refine pf_sI (by assumption) (fun _ => ?_) | refine pf_sZ (by assumption) (fun _ => ?_) | refine pf_la (by assumption) (fun _ _ => ?_) | refine pf_bn (fun _ => ?_) | refine pf_ln (fun _ => ?_) | apply pf_if))
set_option maxRecDepth 10000 in
theorem fr_Ref_start_16 (n : Nat) : ∀ (a0 : Nat) (a1 : Int32) (I : fm_I), sd true a0 → pF true (fn_Ref_start_16 n a0 a1 I) I := by
  induction n with
  | zero =>
    intro a0 a1 I ha0
    unfold fn_Ref_start_16
    exact pf_none
  | succ n ih =>
    intro a0 a1 I ha0
    unfold fn_Ref_start_16
    repeat' (with_reducible (first | exact pf_ri | exact pf_rv | exact pf_rz | refine pf_gi (fun _ => ?_) | refine pf_gr (by assumption) (fun _ _ => ?_) | refine pf_ld (fun _ => ?_) | refine pf_vi ?_ (fun _ _ => ?_) | refine pf_bi ?_ (fun _ _ => ?_) | refine pf_vv ?_ (fun _ => ?_) | refine pf_bv ?_ (fun _ => ?_) | refine pf_pI (by assumption) (fun _ => ?_) | refine pf_pZ (by assumption) (fun _ => ?_) | refine pf_sI (by assumption) (fun _ => ?_) | refine pf_sZ (by assumption) (fun _ => ?_) | refine pf_la (by assumption) (fun _ _ => ?_) | refine pf_bn (fun _ => ?_) | refine pf_ln (fun _ => ?_) | (apply ih <;> assumption) | apply pf_if))
set_option maxRecDepth 10000 in
theorem fr_Ref_start (a0 : Nat) (I : fm_I) (h0 : sd true a0) : pF true (fn_Ref_start a0 I) I := by
  unfold fn_Ref_start
  repeat' (with_reducible (first | exact pf_ri | exact pf_rv | exact pf_rz | refine pf_gi (fun _ => ?_) | refine pf_gr (by assumption) (fun _ _ => ?_) | refine pf_ld (fun _ => ?_) | refine pf_vi ?_ (fun _ _ => ?_) | refine pf_bi ?_ (fun _ _ => ?_) | refine pf_vv ?_ (fun _ => ?_) | refine pf_bv ?_ (fun _ => ?_) | refine pf_pI (by assumption) (fun _ => ?_) | refine pf_pZ (by assumption) (fun _ => ?_) | refine pf_sI (by assumption) (fun _ => ?_) | refine pf_sZ (by assumption) (fun _ => ?_) | refine pf_la (by assumption) (fun _ _ => ?_) | refine pf_bn (fun _ => ?_) | refine pf_ln (fun _ => ?_) | (apply fr_Ref_start_16 <;> assumption) | apply pf_if))
set_option maxRecDepth 10000 in
theorem fr_Ref_feed (a0 : Nat) (a1 : Int32) (I : fm_I) (h0 : sd true a0) : pF true (fn_Ref_feed a0 a1 I) I := by
  unfold fn_Ref_feed
  repeat' (with_reducible (first | exact pf_ri | exact pf_rv | exact pf_rz | refine pf_gi (fun _ => ?_) | refine pf_gr (by assumption) (fun _ _ => ?_) | refine pf_ld (fun _ => ?_) | refine pf_vi ?_ (fun _ _ => ?_) | refine pf_bi ?_ (fun _ _ => ?_) | refine pf_vv ?_ (fun _ => ?_) | refine pf_bv ?_ (fun _ => ?_) | refine pf_pI (by assumption) (fun _ => ?_) | refine pf_pZ (by assumption) (fun _ => ?_) | refine pf_sI (by assumption) (fun _ => ?_) | refine pf_sZ (by assumption) (fun _ => ?_) | refine pf_la (by assumption) (fun _ _ => ?_) | refine pf_bn (fun _ => ?_) | refine pf_ln (fun _ => ?_) | (apply fr_Ref_isWord <;> assumption) | apply pf_if))
set_option maxRecDepth 10000 in
theorem fr_Ref_there (a0 : Nat) (a1 : Int32) (I : fm_I) (h0 : sd true a0) : pF true (fn_Ref_there a0 a1 I) I := by
  unfold fn_Ref_there
  repeat' (with_reducible (first | exact pf_ri | exact pf_rv | exact pf_rz | refine pf_gi (fun _ => ?_) | refine pf_gr (by assumption) (fun _ _ => ?_) | refine pf_ld (fun _ => ?_) | refine pf_vi ?_ (fun _ _ => ?_) | refine pf_bi ?_ (fun _ _ => ?_) | refine pf_vv ?_ (fun _ => ?_) | refine pf_bv ?_ (fun _ => ?_) | refine pf_pI (by assumption) (fun _ => ?_) | refine pf_pZ (by assumption) (fun _ => ?_) | refine pf_sI (by assumption) (fun _ => ?_) | refine pf_sZ (by assumption) (fun _ => ?_) | refine pf_la (by assumption) (fun _ _ => ?_) | refine pf_bn (fun _ => ?_) | refine pf_ln (fun _ => ?_) | apply pf_if))
set_option maxRecDepth 10000 in
theorem fr_Ref_holds_16 : ∀ (a0 : Nat) (a1 : Int32) (I : fm_I), sd true a0 → pF true (fn_Ref_holds_16 a0 a1 I) I := by
  intro a0 a1 I ha0
  unfold fn_Ref_holds_16
  repeat' (with_reducible (first | exact pf_ri | exact pf_rv | exact pf_rz | refine pf_gi (fun _ => ?_) | refine pf_gr (by assumption) (fun _ _ => ?_) | refine pf_ld (fun _ => ?_) | refine pf_vi ?_ (fun _ _ => ?_) | refine pf_bi ?_ (fun _ _ => ?_) | refine pf_vv ?_ (fun _ => ?_) | refine pf_bv ?_ (fun _ => ?_) | refine pf_pI (by assumption) (fun _ => ?_) | refine pf_pZ (by assumption) (fun _ => ?_) | refine pf_sI (by assumption) (fun _ => ?_) | refine pf_sZ (by assumption) (fun _ => ?_) | refine pf_la (by assumption) (fun _ _ => ?_) | refine pf_bn (fun _ => ?_) | refine pf_ln (fun _ => ?_) | apply pf_if))
set_option maxRecDepth 10000 in
theorem fr_Ref_holds (a0 : Nat) (a1 : Int32) (I : fm_I) (h0 : sd true a0) : pF true (fn_Ref_holds a0 a1 I) I := by
  unfold fn_Ref_holds
  repeat' (with_reducible (first | exact pf_ri | exact pf_rv | exact pf_rz | refine pf_gi (fun _ => ?_) | refine pf_gr (by assumption) (fun _ _ => ?_) | refine pf_ld (fun _ => ?_) | refine pf_vi ?_ (fun _ _ => ?_) | refine pf_bi ?_ (fun _ _ => ?_) | refine pf_vv ?_ (fun _ => ?_) | refine pf_bv ?_ (fun _ => ?_) | refine pf_pI (by assumption) (fun _ => ?_) | refine pf_pZ (by assumption) (fun _ => ?_) | refine pf_sI (by assumption) (fun _ => ?_) | refine pf_sZ (by assumption) (fun _ => ?_) | refine pf_la (by assumption) (fun _ _ => ?_) | refine pf_bn (fun _ => ?_) | refine pf_ln (fun _ => ?_) | (apply fr_Ref_holds_16 <;> assumption) | apply pf_if))
set_option maxRecDepth 10000 in
theorem fr_Ref_hindrance_130 : ∀ (a0 : Nat) (a1 : Int32) (a2 : Int32) (I : fm_I), sd true a0 → pF true (fn_Ref_hindrance_130 a0 a1 a2 I) I := by
  intro a0 a1 a2 I ha0
  unfold fn_Ref_hindrance_130
  repeat' (with_reducible (first | exact pf_ri | exact pf_rv | exact pf_rz | refine pf_gi (fun _ => ?_) | refine pf_gr (by assumption) (fun _ _ => ?_) | refine pf_ld (fun _ => ?_) | refine pf_vi ?_ (fun _ _ => ?_) | refine pf_bi ?_ (fun _ _ => ?_) | refine pf_vv ?_ (fun _ => ?_) | refine pf_bv ?_ (fun _ => ?_) | refine pf_pI (by assumption) (fun _ => ?_) | refine pf_pZ (by assumption) (fun _ => ?_) | refine pf_sI (by assumption) (fun _ => ?_) | refine pf_sZ (by assumption) (fun _ => ?_) | refine pf_la (by assumption) (fun _ _ => ?_) | refine pf_bn (fun _ => ?_) | refine pf_ln (fun _ => ?_) | (apply fr_Ref_there <;> assumption) | apply pf_if))
set_option maxRecDepth 10000 in
theorem fr_Ref_hindrance (a0 : Nat) (I : fm_I) (h0 : sd true a0) : pF true (fn_Ref_hindrance a0 I) I := by
  unfold fn_Ref_hindrance
  repeat' (with_reducible (first | exact pf_ri | exact pf_rv | exact pf_rz | refine pf_gi (fun _ => ?_) | refine pf_gr (by assumption) (fun _ _ => ?_) | refine pf_ld (fun _ => ?_) | refine pf_vi ?_ (fun _ _ => ?_) | refine pf_bi ?_ (fun _ _ => ?_) | refine pf_vv ?_ (fun _ => ?_) | refine pf_bv ?_ (fun _ => ?_) | refine pf_pI (by assumption) (fun _ => ?_) | refine pf_pZ (by assumption) (fun _ => ?_) | refine pf_sI (by assumption) (fun _ => ?_) | refine pf_sZ (by assumption) (fun _ => ?_) | refine pf_la (by assumption) (fun _ _ => ?_) | refine pf_bn (fun _ => ?_) | refine pf_ln (fun _ => ?_) | (apply fr_Ref_there <;> assumption) | (apply fr_Ref_hindrance_130 <;> assumption) | apply pf_if))
set_option maxRecDepth 10000 in
theorem fr_Ref_two (a0 : Nat) (a1 : Int32) (a2 : Int32) (I : fm_I) (h0 : sd true a0) : pF true (fn_Ref_two a0 a1 a2 I) I := by
  unfold fn_Ref_two
  repeat' (with_reducible (first | exact pf_ri | exact pf_rv | exact pf_rz | refine pf_gi (fun _ => ?_) | refine pf_gr (by assumption) (fun _ _ => ?_) | refine pf_ld (fun _ => ?_) | refine pf_vi ?_ (fun _ _ => ?_) | refine pf_bi ?_ (fun _ _ => ?_) | refine pf_vv ?_ (fun _ => ?_) | refine pf_bv ?_ (fun _ => ?_) | refine pf_pI (by assumption) (fun _ => ?_) | refine pf_pZ (by assumption) (fun _ => ?_) | refine pf_sI (by assumption) (fun _ => ?_) | refine pf_sZ (by assumption) (fun _ => ?_) | refine pf_la (by assumption) (fun _ _ => ?_) | refine pf_bn (fun _ => ?_) | refine pf_ln (fun _ => ?_) | (apply fr_Ref_holds <;> assumption) | apply pf_if))
set_option maxRecDepth 10000 in
theorem fr_Ref_single_71 : ∀ (a0 : Nat) (a2 : Int32) (a3 : Int32) (t0 : Int32) (I : fm_I), sd true a0 → pF true (fn_Ref_single_71 a0 a2 a3 t0 I) I := by
  intro a0 a2 a3 t0 I ha0
  unfold fn_Ref_single_71
  repeat' (with_reducible (first | exact pf_ri | exact pf_rv | exact pf_rz | refine pf_gi (fun _ => ?_) | refine pf_gr (by assumption) (fun _ _ => ?_) | refine pf_ld (fun _ => ?_) | refine pf_vi ?_ (fun _ _ => ?_) | refine pf_bi ?_ (fun _ _ => ?_) | refine pf_vv ?_ (fun _ => ?_) | refine pf_bv ?_ (fun _ => ?_) | refine pf_pI (by assumption) (fun _ => ?_) | refine pf_pZ (by assumption) (fun _ => ?_) | refine pf_sI (by assumption) (fun _ => ?_) | refine pf_sZ (by assumption) (fun _ => ?_) | refine pf_la (by assumption) (fun _ _ => ?_) | refine pf_bn (fun _ => ?_) | refine pf_ln (fun _ => ?_) | (apply fr_Ref_holds <;> assumption) | (apply fr_Ref_single_197 <;> assumption) | apply pf_if))
set_option maxRecDepth 10000 in
theorem fr_Ref_single_197 : ∀ (a0 : Nat) (a3 : Int32) (t0 : Nat) (t1 : Int32) (I : fm_I), sd true a0 → sd true t0 → pF true (fn_Ref_single_197 a0 a3 t0 t1 I) I := by
  intro a0 a3 t0 t1 I ha0 ht0
  unfold fn_Ref_single_197
  repeat' (with_reducible (first | exact pf_ri | exact pf_rv | exact pf_rz | refine pf_gi (fun _ => ?_) | refine pf_gr (by assumption) (fun _ _ => ?_) | refine pf_ld (fun _ => ?_) | refine pf_vi ?_ (fun _ _ => ?_) | refine pf_bi ?_ (fun _ _ => ?_) | refine pf_vv ?_ (fun _ => ?_) | refine pf_bv ?_ (fun _ => ?_) | refine pf_pI (by assumption) (fun _ => ?_) | refine pf_pZ (by assumption) (fun _ => ?_) | refine pf_sI (by assumption) (fun _ => ?_) | refine pf_sZ (by assumption) (fun _ => ?_) | refine pf_la (by assumption) (fun _ _ => ?_) | refine pf_bn (fun _ => ?_) | refine pf_ln (fun _ => ?_) | (apply fr_Ref_holds <;> assumption) | (apply fr_Ref_single_71 <;> assumption) | apply pf_if))
set_option maxRecDepth 10000 in
theorem fr_Ref_single (a0 : Nat) (a1 : Int32) (a2 : Int32) (I : fm_I) (h0 : sd true a0) : pF true (fn_Ref_single a0 a1 a2 I) I := by
  unfold fn_Ref_single
  repeat' (with_reducible (first | exact pf_ri | exact pf_rv | exact pf_rz | refine pf_gi (fun _ => ?_) | refine pf_gr (by assumption) (fun _ _ => ?_) | refine pf_ld (fun _ => ?_) | refine pf_vi ?_ (fun _ _ => ?_) | refine pf_bi ?_ (fun _ _ => ?_) | refine pf_vv ?_ (fun _ => ?_) | refine pf_bv ?_ (fun _ => ?_) | refine pf_pI (by assumption) (fun _ => ?_) | refine pf_pZ (by assumption) (fun _ => ?_) | refine pf_sI (by assumption) (fun _ => ?_) | refine pf_sZ (by assumption) (fun _ => ?_) | refine pf_la (by assumption) (fun _ _ => ?_) | refine pf_bn (fun _ => ?_) | refine pf_ln (fun _ => ?_) | (apply fr_Ref_holds <;> assumption) | (apply fr_Ref_single_71 <;> assumption) | (apply fr_Ref_single_197 <;> assumption) | apply pf_if))
set_option maxRecDepth 10000 in
theorem fr_Ref_run_81 (K22 : Nat → Int32 → Int32 → fm_I → pR) (hK22 : ∀ (a0 : Nat) (a1 : Int32) (a2 : Int32) (I : fm_I), sd true a0 → pF true (K22 a0 a1 a2 I) I) : ∀ (a0 : Nat) (a1 : Int32) (a2 : Int32) (a4 : Int32) (a5 : Int32) (I : fm_I), sd true a0 → pF true (fn_Ref_run_81 K22 a0 a1 a2 a4 a5 I) I := by
  intro a0 a1 a2 a4 a5 I ha0
  unfold fn_Ref_run_81
  repeat' (with_reducible (first | exact pf_ri | exact pf_rv | exact pf_rz | refine pf_gi (fun _ => ?_) | refine pf_gr (by assumption) (fun _ _ => ?_) | refine pf_ld (fun _ => ?_) | refine pf_vi ?_ (fun _ _ => ?_) | refine pf_bi ?_ (fun _ _ => ?_) | refine pf_vv ?_ (fun _ => ?_) | refine pf_bv ?_ (fun _ => ?_) | refine pf_pI (by assumption) (fun _ => ?_) | refine pf_pZ (by assumption) (fun _ => ?_) | refine pf_sI (by assumption) (fun _ => ?_) | refine pf_sZ (by assumption) (fun _ => ?_) | refine pf_la (by assumption) (fun _ _ => ?_) | refine pf_bn (fun _ => ?_) | refine pf_ln (fun _ => ?_) | (apply fr_Ref_hindrance <;> assumption) | (apply fr_Ref_two <;> assumption) | (apply fr_Ref_single <;> assumption) | (apply fr_Ref_run_22 <;> assumption) | (apply hK22 <;> assumption) | apply pf_if))
set_option maxRecDepth 10000 in
theorem fr_Ref_run_22 (n : Nat) : ∀ (a0 : Nat) (a1 : Int32) (a2 : Int32) (I : fm_I), sd true a0 → pF true (fn_Ref_run_22 n a0 a1 a2 I) I := by
  induction n with
  | zero =>
    intro a0 a1 a2 I ha0
    unfold fn_Ref_run_22
    exact pf_none
  | succ n ih =>
    intro a0 a1 a2 I ha0
    unfold fn_Ref_run_22
    repeat' (with_reducible (first | exact pf_ri | exact pf_rv | exact pf_rz | refine pf_gi (fun _ => ?_) | refine pf_gr (by assumption) (fun _ _ => ?_) | refine pf_ld (fun _ => ?_) | refine pf_vi ?_ (fun _ _ => ?_) | refine pf_bi ?_ (fun _ _ => ?_) | refine pf_vv ?_ (fun _ => ?_) | refine pf_bv ?_ (fun _ => ?_) | refine pf_pI (by assumption) (fun _ => ?_) | refine pf_pZ (by assumption) (fun _ => ?_) | refine pf_sI (by assumption) (fun _ => ?_) | refine pf_sZ (by assumption) (fun _ => ?_) | refine pf_la (by assumption) (fun _ _ => ?_) | refine pf_bn (fun _ => ?_) | refine pf_ln (fun _ => ?_) | (apply fr_Ref_hindrance <;> assumption) | (apply fr_Ref_two <;> assumption) | (apply fr_Ref_single <;> assumption) | (refine fr_Ref_run_81 _ ih _ _ _ _ _  _ (by assumption) ) | (apply ih <;> assumption) | apply pf_if))
set_option maxRecDepth 10000 in
theorem fr_Ref_run (a0 : Nat) (a1 : Int32) (I : fm_I) (h0 : sd true a0) : pF true (fn_Ref_run a0 a1 I) I := by
  unfold fn_Ref_run
  repeat' (with_reducible (first | exact pf_ri | exact pf_rv | exact pf_rz | refine pf_gi (fun _ => ?_) | refine pf_gr (by assumption) (fun _ _ => ?_) | refine pf_ld (fun _ => ?_) | refine pf_vi ?_ (fun _ _ => ?_) | refine pf_bi ?_ (fun _ _ => ?_) | refine pf_vv ?_ (fun _ => ?_) | refine pf_bv ?_ (fun _ => ?_) | refine pf_pI (by assumption) (fun _ => ?_) | refine pf_pZ (by assumption) (fun _ => ?_) | refine pf_sI (by assumption) (fun _ => ?_) | refine pf_sZ (by assumption) (fun _ => ?_) | refine pf_la (by assumption) (fun _ _ => ?_) | refine pf_bn (fun _ => ?_) | refine pf_ln (fun _ => ?_) | (apply fr_Ref_hindrance <;> assumption) | (apply fr_Ref_two <;> assumption) | (apply fr_Ref_single <;> assumption) | (refine fr_Ref_run_81 _ hK22 _ _ _ _ _  _ (by assumption) ) | (apply fr_Ref_run_22 <;> assumption) | apply pf_if))
set_option maxRecDepth 10000 in
theorem fr_Ref_register (a0 : Nat) (a1 : Int32) (I : fm_I) (h0 : sd true a0) : pF true (fn_Ref_register a0 a1 I) I := by
  unfold fn_Ref_register
  repeat' (with_reducible (first | exact pf_ri | exact pf_rv | exact pf_rz | refine pf_gi (fun _ => ?_) | refine pf_gr (by assumption) (fun _ _ => ?_) | refine pf_ld (fun _ => ?_) | refine pf_vi ?_ (fun _ _ => ?_) | refine pf_bi ?_ (fun _ _ => ?_) | refine pf_vv ?_ (fun _ => ?_) | refine pf_bv ?_ (fun _ => ?_) | refine pf_pI (by assumption) (fun _ => ?_) | refine pf_pZ (by assumption) (fun _ => ?_) | refine pf_sI (by assumption) (fun _ => ?_) | refine pf_sZ (by assumption) (fun _ => ?_) | refine pf_la (by assumption) (fun _ _ => ?_) | refine pf_bn (fun _ => ?_) | refine pf_ln (fun _ => ?_) | apply pf_if))
set_option maxRecDepth 10000 in
theorem fr_Ref_memory (a0 : Nat) (a1 : Int32) (I : fm_I) (h0 : sd true a0) : pF true (fn_Ref_memory a0 a1 I) I := by
  unfold fn_Ref_memory
  repeat' (with_reducible (first | exact pf_ri | exact pf_rv | exact pf_rz | refine pf_gi (fun _ => ?_) | refine pf_gr (by assumption) (fun _ _ => ?_) | refine pf_ld (fun _ => ?_) | refine pf_vi ?_ (fun _ _ => ?_) | refine pf_bi ?_ (fun _ _ => ?_) | refine pf_vv ?_ (fun _ => ?_) | refine pf_bv ?_ (fun _ => ?_) | refine pf_pI (by assumption) (fun _ => ?_) | refine pf_pZ (by assumption) (fun _ => ?_) | refine pf_sI (by assumption) (fun _ => ?_) | refine pf_sZ (by assumption) (fun _ => ?_) | refine pf_la (by assumption) (fun _ _ => ?_) | refine pf_bn (fun _ => ?_) | refine pf_ln (fun _ => ?_) | (apply fr_Ref_there <;> assumption) | apply pf_if))
