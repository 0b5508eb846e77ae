-- what the tables say when the law begins
theorem nw_0 : Cond.methodLinkNest "SpanLinker" 164 ⟨"SpanLinker$SourceModule", "<init>", "()V"⟩ "SpanLinker" ∈ lw_tbl := (tb1 23 rfl)
theorem nw_1 : Cond.methodLinkNest "SpanLinker" 49 ⟨"SpanLinker$Machine", "<init>", "()V"⟩ "SpanLinker" ∈ lw_tbl := (tb1 150 rfl)
theorem nw_2 : Cond.methodLinkNest "SpanLinker$SourceModule" 79 ⟨"SpanLinker", "isName", "(I)Z"⟩ "SpanLinker" ∈ lw_tbl := (tb1 230 rfl)
theorem nw_3 : Cond.methodLinkNest "SpanLinker$SourceModule" 82 ⟨"SpanLinker", "isSection", "(I)Z"⟩ "SpanLinker" ∈ lw_tbl := (tb1 233 rfl)
theorem nw_4 : Cond.methodLinkNest "SpanLinker$SourceModule" 85 ⟨"SpanLinker", "isWord", "(I)Z"⟩ "SpanLinker" ∈ lw_tbl := (tb1 236 rfl)
theorem nw_5 : Cond.methodLinkNest "SpanLinker$SourceModule" 88 ⟨"SpanLinker", "isWithin", "(III)Z"⟩ "SpanLinker" ∈ lw_tbl := (tb2 0 rfl)
theorem nw_6 : Cond.methodLinkNest "SpanLinker$SourceModule" 76 ⟨"SpanLinker", "hasName", "(II)Z"⟩ "SpanLinker" ∈ lw_tbl := (tb2 16 rfl)
theorem nw_7 : Cond.methodLinkNest "SpanLinker$SourceModule" 94 ⟨"SpanLinker", "setOf", "(I)I"⟩ "SpanLinker" ∈ lw_tbl := (tb2 27 rfl)
theorem nw_8 : Cond.methodLinkNest "SpanLinker$Inclusion" 27 ⟨"SpanLinker", "setOf", "(I)I"⟩ "SpanLinker" ∈ lw_tbl := (tb2 155 rfl)
theorem nw_9 : Cond.methodLinkNest "SpanLinker$Inclusion" 58 ⟨"SpanLinker", "hasName", "(II)Z"⟩ "SpanLinker" ∈ lw_tbl := (tb2 225 rfl)
theorem nw_10 : Cond.methodLinkNest "SpanLinker$Image" 108 ⟨"SpanLinker", "hasName", "(II)Z"⟩ "SpanLinker" ∈ lw_tbl := (tb3 2 rfl)
theorem nw_11 : Cond.methodLinkNest "SpanLinker$Image" 140 ⟨"SpanLinker", "toWord", "(I)I"⟩ "SpanLinker" ∈ lw_tbl := (tb3 51 rfl)
theorem nw_12 : Cond.methodLinkNest "SpanLinker$Image" 74 ⟨"SpanLinker", "isSection", "(I)Z"⟩ "SpanLinker" ∈ lw_tbl := (tb3 79 rfl)
theorem nw_13 : Cond.methodLinkNest "SpanLinker$Image" 78 ⟨"SpanLinker", "isWithin", "(III)Z"⟩ "SpanLinker" ∈ lw_tbl := (tb3 88 rfl)
theorem nw_14 : Cond.methodLinkNest "SpanLinker$Image" 82 ⟨"SpanLinker", "isName", "(I)Z"⟩ "SpanLinker" ∈ lw_tbl := (tb3 97 rfl)
theorem nw_15 : Cond.methodLinkNest "SpanLinker$Machine" 68 ⟨"SpanLinker", "isWord", "(I)Z"⟩ "SpanLinker" ∈ lw_tbl := (tb3 139 rfl)
theorem nw_16 : Cond.methodLinkNest "SpanLinker$Machine" 81 ⟨"SpanLinker", "isWithin", "(III)Z"⟩ "SpanLinker" ∈ lw_tbl := (tb3 163 rfl)
theorem nw_17 : Cond.methodLinkNest "SpanLinker$Machine" 99 ⟨"SpanLinker", "toWord", "(I)I"⟩ "SpanLinker" ∈ lw_tbl := (tb3 172 rfl)
theorem am_nest_lw : ∀ w ∈ am_nest, w ∈ lw_tbl := by
  unfold am_nest am_nl
  simp only [List.map_cons, List.map_nil]
  exact List.forall_mem_cons.mpr ⟨nw_0, List.forall_mem_cons.mpr ⟨nw_1, List.forall_mem_cons.mpr ⟨nw_2, List.forall_mem_cons.mpr ⟨nw_3, List.forall_mem_cons.mpr ⟨nw_4, List.forall_mem_cons.mpr ⟨nw_5, List.forall_mem_cons.mpr ⟨nw_6, List.forall_mem_cons.mpr ⟨nw_7, List.forall_mem_cons.mpr ⟨nw_8, List.forall_mem_cons.mpr ⟨nw_9, List.forall_mem_cons.mpr ⟨nw_10, List.forall_mem_cons.mpr ⟨nw_11, List.forall_mem_cons.mpr ⟨nw_12, List.forall_mem_cons.mpr ⟨nw_13, List.forall_mem_cons.mpr ⟨nw_14, List.forall_mem_cons.mpr ⟨nw_15, List.forall_mem_cons.mpr ⟨nw_16, List.forall_mem_cons.mpr ⟨nw_17, fun _ h => absurd h List.not_mem_nil⟩⟩⟩⟩⟩⟩⟩⟩⟩⟩⟩⟩⟩⟩⟩⟩⟩⟩
theorem ao_M : Cond.arrayOver (.object "SpanLinker$SourceModule") ∈ lw_tbl := (tb1 21 rfl)
theorem ao_A : Cond.arrayOver (.array .int) ∈ lw_tbl := (tb1 116 rfl)
theorem am_K_in {s : State} {args : Array Value} (hts : ∀ w ∈ lw_tbl, w.before args s = true) : ∃ (D : va_G) (tc : Nat → ClassId), am_K D tc s := by
  have hk : ∀ q ∈ classes, ∃ (cC : ClassId) (iS : Nat → Nat), u_Kn s q.1 q.2.1 q.2.2 cC iS :=
    List.forall_mem_cons.mpr ⟨u_known hts (fun w h => am_all_lw w (in_SL w h)) (hts _ (am_all_lw _ wl_SLn)), List.forall_mem_cons.mpr ⟨u_known hts (fun w h => am_all_lw w (in_Mod w h)) (hts _ (am_all_lw _ wn_Mod)), List.forall_mem_cons.mpr ⟨u_known hts (fun w h => am_all_lw w (in_Inc w h)) (hts _ (am_all_lw _ wn_Inc)), List.forall_mem_cons.mpr ⟨u_known hts (fun w h => am_all_lw w (in_Row w h)) (hts _ (am_all_lw _ wn_Row)), List.forall_mem_cons.mpr ⟨u_known hts (fun w h => am_all_lw w (in_Img w h)) (hts _ (am_all_lw _ wn_Img)), List.forall_mem_cons.mpr ⟨u_known hts (fun w h => am_all_lw w (in_Mac w h)) (hts _ (am_all_lw _ wn_Mac)), List.forall_mem_cons.mpr ⟨u_known hts (fun w h => am_all_lw w (in_Ref w h)) (hts _ (am_all_lw _ wl_Rn)), fun _ h => absurd h List.not_mem_nil⟩⟩⟩⟩⟩⟩⟩
  have hc : ∀ c : Nat, ∃ x : ClassId × (Nat → Nat), ∀ q, classes[c]? = some q → u_Kn s q.1 q.2.1 q.2.2 x.1 x.2 := by
    intro c
    cases hq : classes[c]? with
    | none => exact ⟨(0, fun _ => 0), fun q h => by cases h⟩
    | some q =>
      obtain ⟨cC, iS, h⟩ := hk q (List.mem_of_getElem? hq)
      exact ⟨(cC, iS), fun q' h' => by cases h'; exact h⟩
  obtain ⟨f, hf⟩ := Classical.axiomOfChoice hc
  obtain ⟨c0, k0, p0, a1, a2, a3⟩ := Cond.arrayClass_spec (type := .int) (hts _ (am_all_lw _ wi_int))
  obtain ⟨c1, k1, p1, b1, b2, b3⟩ := Cond.arrayClass_spec (type := .boolean) (hts _ (am_all_lw _ wi_bool))
  have hM := hts _ ao_M
  have hA := hts _ ao_A
  obtain ⟨p2, c2, k2, e1, e2, e3, e4, e5⟩ := Cond.arrayOver_spec hM
  obtain ⟨p3, c3, k3, g1, g2, g3, g4, g5⟩ := arrayOverA_spec hA
  refine ⟨(fun c => (f c).1, fun c => (f c).2), fun k => match k with | 0 => c0 | 1 => c1 | 2 => c2 | _ => c3, ⟨fun c q h => hf c q h, fun k q h => ?_⟩, fun w hw => ?_, hM, hA⟩
  · match k, h with
    | 0, h => cases h; exact ⟨fun N z => ⟨fun k h => (by cases h), k0, a2, p0, a3⟩, a1⟩
    | 1, h => cases h; exact ⟨fun N z => ⟨fun k h => (by cases h), k1, b2, p1, b3⟩, b1⟩
    | 2, h => cases h; exact ⟨fun N z => ⟨fun k h => (by cases h), k2, e3, p2, e4⟩, k2, p2, e3, e4, e1, e5⟩
    | 3, h => cases h; exact ⟨fun N z => ⟨fun k h => (by cases h), k3, g3, p3, g4⟩, g5⟩
    | k + 4, h => cases h
  · obtain ⟨q, -, rfl⟩ := List.mem_map.mp hw
    exact va_Nw.of rfl (hts _ (am_nest_lw _ hw))
