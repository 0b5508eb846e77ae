-- fields that are not final
section AN
variable {M : am_M} {d mc ms : Nat} {SC : Option (Nat × (Nat → Int32))} {Q : Option am_V → Nat → am_H → Prop} {pc : Nat} {L : Nat → Option am_V} {rest : List am_V} {es : List am_E} {uc us : Nat}
theorem l_putv {C : String} {T : u_T} {N ci index b k : Nat} {v : am_V} {fs : List am_V} {ty : FieldType} (ty0 : Nat → FieldType) (hty : ∀ k, k < N → parseFieldDescriptor (T k).2.2.1 = some (ty0 k)) (hnm : ∀ a, a < N → ∀ b, b < N → a ≠ b → (T a).2.1 ≠ (T b).2.1) (hd : decode M.2.2.1 pc = .ok (.putfield index, 3)) (hc : classes[ci]? = some (C, T, N)) (hin : ∀ w ∈ u_ws C T N, w ∈ am_all) (hk : k < N) (hlk : Cond.fieldLink M.1 index (T k).1 (T k).2.1 (T k).2.2.1 ∈ am_all) (hfin : (T k).2.2.2 = false) (ho : es[b]? = some (oE ci fs)) (hl0 : k < fs.length) (hpd : parseFieldDescriptor (T k).2.2.1 = some ty) (hnr : ∀ ad, narrow ty (am_cv ad v) = am_cv ad v) (hft : ∀ ad, fits ty (am_cv ad v) = true) (kk : am_L M d mc ms SC Q (pc + 3) L rest (es.set b (oE ci (fs.set k v))) uc us) : am_L M d mc ms SC Q pc L (v :: vR b :: rest) es uc us := by
  have hb : b < es.length := (List.getElem?_eq_some_iff.mp ho).1
  refine i_putf ty0 hty hnm hd hc hin hk hlk hfin hb (hl_at ho) hl0 hpd hnr hft ?_
  rw [hl_set es _ hb]
  have := kk
  unfold am_L at this
  rw [List.length_set] at this
  exact this
theorem l_arnI {C : String} {T : u_T} {NN ci index b k N : Nat} {fs : List am_V} {x : Int32} (ty0 : Nat → FieldType) (hty : ∀ k, k < NN → parseFieldDescriptor (T k).2.2.1 = some (ty0 k)) (hnm : ∀ a, a < NN → ∀ b, b < NN → a ≠ b → (T a).2.1 ≠ (T b).2.1) (hw : Cond.arrayClass .int ∈ am_all) (hd : decode M.2.2.1 pc = .ok (.newarray .int, 2)) (hd2 : decode M.2.2.1 (pc + 2) = .ok (.putfield index, 3)) (hx : x = nI N) (hN : N ≤ 1000) (hcc : uc + 1 ≤ mc) (hss : us + N ≤ ms) (hk : okl es) (hL : okL es.length L (vR b :: rest)) (hsp : es.length < am_SP) (hc : classes[ci]? = some (C, T, NN)) (hin : ∀ w ∈ u_ws C T NN, w ∈ am_all) (hkN : k < NN) (hlk : Cond.fieldLink M.1 index (T k).1 (T k).2.1 (T k).2.2.1 ∈ am_all) (hfin : (T k).2.2.2 = false) (ho : es[b]? = some (oE ci fs)) (hl0 : k < fs.length) (hpd : parseFieldDescriptor (T k).2.2.1 = some (.array .int)) (kk : am_L M d mc ms SC Q (pc + 5) L rest (nx es (aI N) b ci fs k) (uc + 1) (us + N)) : am_L M d mc ms SC Q pc L (vI x :: vR b :: rest) es uc us := by
  have hb : b < es.length := (List.getElem?_eq_some_iff.mp ho).1
  refine l_newi (N := N) hd hw hx hN hcc hss hk hL hsp ?_
  exact l_putv ty0 hty hnm hd2 hc hin hkN hlk hfin (by rw [List.getElem?_append_left hb]; exact ho) hl0 hpd (fun _ => rfl) (fun _ => rfl) kk
theorem l_arnZ {C : String} {T : u_T} {NN ci index b k N : Nat} {fs : List am_V} {x : Int32} (ty0 : Nat → FieldType) (hty : ∀ k, k < NN → parseFieldDescriptor (T k).2.2.1 = some (ty0 k)) (hnm : ∀ a, a < NN → ∀ b, b < NN → a ≠ b → (T a).2.1 ≠ (T b).2.1) (hw : Cond.arrayClass .boolean ∈ am_all) (hd : decode M.2.2.1 pc = .ok (.newarray .boolean, 2)) (hd2 : decode M.2.2.1 (pc + 2) = .ok (.putfield index, 3)) (hx : x = nI N) (hN : N ≤ 1000) (hcc : uc + 1 ≤ mc) (hss : us + N ≤ ms) (hk : okl es) (hL : okL es.length L (vR b :: rest)) (hsp : es.length < am_SP) (hc : classes[ci]? = some (C, T, NN)) (hin : ∀ w ∈ u_ws C T NN, w ∈ am_all) (hkN : k < NN) (hlk : Cond.fieldLink M.1 index (T k).1 (T k).2.1 (T k).2.2.1 ∈ am_all) (hfin : (T k).2.2.2 = false) (ho : es[b]? = some (oE ci fs)) (hl0 : k < fs.length) (hpd : parseFieldDescriptor (T k).2.2.1 = some (.array .boolean)) (kk : am_L M d mc ms SC Q (pc + 5) L rest (nx es (aZ N) b ci fs k) (uc + 1) (us + N)) : am_L M d mc ms SC Q pc L (vI x :: vR b :: rest) es uc us := by
  have hb : b < es.length := (List.getElem?_eq_some_iff.mp ho).1
  refine l_newz (N := N) hd hw hx hN hcc hss hk hL hsp ?_
  exact l_putv ty0 hty hnm hd2 hc hin hkN hlk hfin (by rw [List.getElem?_append_left hb]; exact ho) hl0 hpd (fun _ => rfl) (fun _ => rfl) kk
end AN
theorem st_f {es : List am_E} {b ci k : Nat} {v : am_V} {fs : List am_V} (ho : es[b]? = some (oE ci fs)) (hk : okl es) (hv : am_okv es.length v) : (es.set b (oE ci (fs.set k v)))[b]? = some (oE ci (fs.set k v)) ∧ okl (es.set b (oE ci (fs.set k v))) ∧ (es.set b (oE ci (fs.set k v))).length = es.length := by
  have hb : b < es.length := (List.getElem?_eq_some_iff.mp ho).1
  refine ⟨List.getElem?_set_self hb, hk.set (fun w hw => ?_), List.length_set⟩
  rcases List.mem_or_eq_of_mem_set hw with q | q
  · have h1 : am_oke es.length (oE ci fs) := hk _ (List.mem_of_getElem? ho)
    exact h1 w q
  · rw [q]; exact hv
theorem wi_Ref1 : Cond.methodLink "SpanLinkerModel" 1 Lib.objectInit ∈ am_all := (am_mem (tb3 218 rfl) rfl)
theorem wf_Ref_7 : Cond.fieldLink "SpanLinkerModel" 7 "SpanLinkerModel" "count" "[I" ∈ am_all := (am_mem (tb3 219 rfl) rfl)
theorem wf_Ref_13 : Cond.fieldLink "SpanLinkerModel" 13 "SpanLinkerModel" "kind" "[I" ∈ am_all := (am_mem (tb3 220 rfl) rfl)
theorem wf_Ref_16 : Cond.fieldLink "SpanLinkerModel" 16 "SpanLinkerModel" "one" "[I" ∈ am_all := (am_mem (tb3 221 rfl) rfl)
theorem wf_Ref_19 : Cond.fieldLink "SpanLinkerModel" 19 "SpanLinkerModel" "two" "[I" ∈ am_all := (am_mem (tb3 222 rfl) rfl)
theorem wf_Ref_22 : Cond.fieldLink "SpanLinkerModel" 22 "SpanLinkerModel" "part" "[I" ∈ am_all := (am_mem (tb3 223 rfl) rfl)
theorem wf_Ref_25 : Cond.fieldLink "SpanLinkerModel" 25 "SpanLinkerModel" "wide" "[Z" ∈ am_all := (am_mem (tb3 224 rfl) rfl)
theorem wf_Ref_29 : Cond.fieldLink "SpanLinkerModel" 29 "SpanLinkerModel" "archive" "[I" ∈ am_all := (am_mem (tb3 226 rfl) rfl)
theorem wf_Ref_32 : Cond.fieldLink "SpanLinkerModel" 32 "SpanLinkerModel" "line" "[I" ∈ am_all := (am_mem (tb3 228 rfl) rfl)
theorem wf_Ref_35 : Cond.fieldLink "SpanLinkerModel" 35 "SpanLinkerModel" "wish" "I" ∈ am_all := (am_mem (tb3 229 rfl) rfl)
theorem wf_Ref_39 : Cond.fieldLink "SpanLinkerModel" 39 "SpanLinkerModel" "order" "[I" ∈ am_all := (am_mem (tb3 231 rfl) rfl)
theorem wf_Ref_42 : Cond.fieldLink "SpanLinkerModel" 42 "SpanLinkerModel" "words" "[I" ∈ am_all := (am_mem (tb3 235 rfl) rfl)
theorem wf_Ref_45 : Cond.fieldLink "SpanLinkerModel" 45 "SpanLinkerModel" "sizes" "[I" ∈ am_all := (am_mem (tb3 236 rfl) rfl)
theorem wf_Ref_48 : Cond.fieldLink "SpanLinkerModel" 48 "SpanLinkerModel" "known" "[I" ∈ am_all := (am_mem (tb3 238 rfl) rfl)
theorem wf_Ref_51 : Cond.fieldLink "SpanLinkerModel" 51 "SpanLinkerModel" "memory" "[I" ∈ am_all := (am_mem (tb4 1 rfl) rfl)
theorem wf_Ref_54 : Cond.fieldLink "SpanLinkerModel" 54 "SpanLinkerModel" "out" "[I" ∈ am_all := (am_mem (tb4 7 rfl) rfl)
theorem wf_Ref_57 : Cond.fieldLink "SpanLinkerModel" 57 "SpanLinkerModel" "tape" "[I" ∈ am_all := (am_mem (tb4 8 rfl) rfl)
def x_Ref (es : List am_E) (b : Nat) : List am_E :=
  let es1 := nx es (aI 6) b 6 [vN, vN, vN, vN, vN, vN, vI 0, vN, vI 0, vN, vI 0, vI 0, vN, vI 0, vI 0, vI 0, vN, vN, vI 0, vN, vI 0, vI 0, vN, vI 0, vI 0, vI 0, vI 0, vI 0, vN, vN, vI 0, vI 0] 0
  let es2 := nx es1 (aI 120) b 6 [vR es.length, vN, vN, vN, vN, vN, vI 0, vN, vI 0, vN, vI 0, vI 0, vN, vI 0, vI 0, vI 0, vN, vN, vI 0, vN, vI 0, vI 0, vN, vI 0, vI 0, vI 0, vI 0, vI 0, vN, vN, vI 0, vI 0] 1
  let es3 := nx es2 (aI 120) b 6 [vR es.length, vR es1.length, vN, vN, vN, vN, vI 0, vN, vI 0, vN, vI 0, vI 0, vN, vI 0, vI 0, vI 0, vN, vN, vI 0, vN, vI 0, vI 0, vN, vI 0, vI 0, vI 0, vI 0, vI 0, vN, vN, vI 0, vI 0] 2
  let es4 := nx es3 (aI 120) b 6 [vR es.length, vR es1.length, vR es2.length, vN, vN, vN, vI 0, vN, vI 0, vN, vI 0, vI 0, vN, vI 0, vI 0, vI 0, vN, vN, vI 0, vN, vI 0, vI 0, vN, vI 0, vI 0, vI 0, vI 0, vI 0, vN, vN, vI 0, vI 0] 3
  let es5 := nx es4 (aI 120) b 6 [vR es.length, vR es1.length, vR es2.length, vR es3.length, vN, vN, vI 0, vN, vI 0, vN, vI 0, vI 0, vN, vI 0, vI 0, vI 0, vN, vN, vI 0, vN, vI 0, vI 0, vN, vI 0, vI 0, vI 0, vI 0, vI 0, vN, vN, vI 0, vI 0] 4
  let es6 := nx es5 (aZ 120) b 6 [vR es.length, vR es1.length, vR es2.length, vR es3.length, vR es4.length, vN, vI 0, vN, vI 0, vN, vI 0, vI 0, vN, vI 0, vI 0, vI 0, vN, vN, vI 0, vN, vI 0, vI 0, vN, vI 0, vI 0, vI 0, vI 0, vI 0, vN, vN, vI 0, vI 0] 5
  let es7 := nx es6 (aI 6) b 6 [vR es.length, vR es1.length, vR es2.length, vR es3.length, vR es4.length, vR es5.length, vI 0, vN, vI 0, vN, vI 0, vI 0, vN, vI 0, vI 0, vI 0, vN, vN, vI 0, vN, vI 0, vI 0, vN, vI 0, vI 0, vI 0, vI 0, vI 0, vN, vN, vI 0, vI 0] 7
  let es8 := nx es7 (aI 8) b 6 [vR es.length, vR es1.length, vR es2.length, vR es3.length, vR es4.length, vR es5.length, vI 0, vR es6.length, vI 0, vN, vI 0, vI 0, vN, vI 0, vI 0, vI 0, vN, vN, vI 0, vN, vI 0, vI 0, vN, vI 0, vI 0, vI 0, vI 0, vI 0, vN, vN, vI 0, vI 0] 9
  let es9 := es8.set b (oE 6 (List.set [vR es.length, vR es1.length, vR es2.length, vR es3.length, vR es4.length, vR es5.length, vI 0, vR es6.length, vI 0, vR es7.length, vI 0, vI 0, vN, vI 0, vI 0, vI 0, vN, vN, vI 0, vN, vI 0, vI 0, vN, vI 0, vI 0, vI 0, vI 0, vI 0, vN, vN, vI 0, vI 0] 10 (vI (-1))))
  let es10 := nx es9 (aI 6) b 6 [vR es.length, vR es1.length, vR es2.length, vR es3.length, vR es4.length, vR es5.length, vI 0, vR es6.length, vI 0, vR es7.length, vI (-1), vI 0, vN, vI 0, vI 0, vI 0, vN, vN, vI 0, vN, vI 0, vI 0, vN, vI 0, vI 0, vI 0, vI 0, vI 0, vN, vN, vI 0, vI 0] 12
  let es11 := nx es10 (aI 200) b 6 [vR es.length, vR es1.length, vR es2.length, vR es3.length, vR es4.length, vR es5.length, vI 0, vR es6.length, vI 0, vR es7.length, vI (-1), vI 0, vR es9.length, vI 0, vI 0, vI 0, vN, vN, vI 0, vN, vI 0, vI 0, vN, vI 0, vI 0, vI 0, vI 0, vI 0, vN, vN, vI 0, vI 0] 16
  let es12 := nx es11 (aI 3) b 6 [vR es.length, vR es1.length, vR es2.length, vR es3.length, vR es4.length, vR es5.length, vI 0, vR es6.length, vI 0, vR es7.length, vI (-1), vI 0, vR es9.length, vI 0, vI 0, vI 0, vR es10.length, vN, vI 0, vN, vI 0, vI 0, vN, vI 0, vI 0, vI 0, vI 0, vI 0, vN, vN, vI 0, vI 0] 17
  let es13 := nx es12 (aI 16) b 6 [vR es.length, vR es1.length, vR es2.length, vR es3.length, vR es4.length, vR es5.length, vI 0, vR es6.length, vI 0, vR es7.length, vI (-1), vI 0, vR es9.length, vI 0, vI 0, vI 0, vR es10.length, vR es11.length, vI 0, vN, vI 0, vI 0, vN, vI 0, vI 0, vI 0, vI 0, vI 0, vN, vN, vI 0, vI 0] 19
  let es14 := nx es13 (aI 200) b 6 [vR es.length, vR es1.length, vR es2.length, vR es3.length, vR es4.length, vR es5.length, vI 0, vR es6.length, vI 0, vR es7.length, vI (-1), vI 0, vR es9.length, vI 0, vI 0, vI 0, vR es10.length, vR es11.length, vI 0, vR es12.length, vI 0, vI 0, vN, vI 0, vI 0, vI 0, vI 0, vI 0, vN, vN, vI 0, vI 0] 22
  let es15 := nx es14 (aI 4) b 6 [vR es.length, vR es1.length, vR es2.length, vR es3.length, vR es4.length, vR es5.length, vI 0, vR es6.length, vI 0, vR es7.length, vI (-1), vI 0, vR es9.length, vI 0, vI 0, vI 0, vR es10.length, vR es11.length, vI 0, vR es12.length, vI 0, vI 0, vR es13.length, vI 0, vI 0, vI 0, vI 0, vI 0, vN, vN, vI 0, vI 0] 28
  let es16 := nx es15 (aI 8) b 6 [vR es.length, vR es1.length, vR es2.length, vR es3.length, vR es4.length, vR es5.length, vI 0, vR es6.length, vI 0, vR es7.length, vI (-1), vI 0, vR es9.length, vI 0, vI 0, vI 0, vR es10.length, vR es11.length, vI 0, vR es12.length, vI 0, vI 0, vR es13.length, vI 0, vI 0, vI 0, vI 0, vI 0, vR es14.length, vN, vI 0, vI 0] 29
  es16
theorem k_Ref {b : Nat} {es : List am_E} (o0 : es[b]? = some (oE 6 [vN, vN, vN, vN, vN, vN, vI 0, vN, vI 0, vN, vI 0, vI 0, vN, vI 0, vI 0, vI 0, vN, vN, vI 0, vN, vI 0, vI 0, vN, vI 0, vI 0, vI 0, vI 0, vI 0, vN, vN, vI 0, vI 0])) (k0 : okl es) (hsp : es.length + 15 < am_SP) : am_AM m_Ref_init 1 15 1057 [vR b] es.length (hl es) (fun v n' h' => v = none ∧ ∃ es', es' = x_Ref es b ∧ okl es' ∧ n' = es'.length ∧ h' = hl es') := by
  have hb : b < es.length := (List.getElem?_eq_some_iff.mp o0).1
  have hr : ∀ n k, b < n → vR k ∈ ([vR b] : List am_V) → k < n := fun n k hn q => by
    rcases List.mem_cons.mp q with z | z
    · cases z; exact hn
    · cases z
  refine am_met (by decide) rfl (Nat.le_of_ble_eq_true rfl) ?_
  refine i_aload_n (x := b) d_Ref_init_0 rfl rfl ?_
  refine i_obj d_Ref_init_1 wi_Ref1 wi_oI wi_oC (by decide) (Nat.zero_le _) ?_
  refine i_aload_n (x := b) d_Ref_init_4 rfl rfl ?_
  refine i_bipush (x := nI 6) d_Ref_init_5 (by decide) ?_
  obtain ⟨o1, k1, l1⟩ := nx_f (a := aI 6) (k := 0) o0 k0 trivial
  refine l_arnI (N := 6) (ci := 6) (T := T_Ref) (NN := 32) (k := 0) ty_Ref to_Ref nm_Ref wi_int d_Ref_init_7 d_Ref_init_9 rfl (by omega) (by omega) (by omega) k0 (okL_b (fun k q => hr _ k (by omega) q) (fun k q => (by cases List.mem_singleton.mp q; omega))) (by omega) rfl in_Ref (by decide) wf_Ref_7 rfl o0 (Nat.le_of_ble_eq_true rfl) (by decide +kernel) ?_
  generalize e1 : nx es (aI 6) b 6 [vN, vN, vN, vN, vN, vN, vI 0, vN, vI 0, vN, vI 0, vI 0, vN, vI 0, vI 0, vI 0, vN, vN, vI 0, vN, vI 0, vI 0, vN, vI 0, vI 0, vI 0, vI 0, vI 0, vN, vN, vI 0, vI 0] 0 = es1 at o1 k1 l1 ⊢
  replace o1 : es1[b]? = some (oE 6 [vR es.length, vN, vN, vN, vN, vN, vI 0, vN, vI 0, vN, vI 0, vI 0, vN, vI 0, vI 0, vI 0, vN, vN, vI 0, vN, vI 0, vI 0, vN, vI 0, vI 0, vI 0, vI 0, vI 0, vN, vN, vI 0, vI 0]) := o1
  refine i_aload_n (x := b) d_Ref_init_12 rfl rfl ?_
  refine i_bipush (x := nI 120) d_Ref_init_13 (by decide) ?_
  obtain ⟨o2, k2, l2⟩ := nx_f (a := aI 120) (k := 1) o1 k1 trivial
  refine l_arnI (N := 120) (ci := 6) (T := T_Ref) (NN := 32) (k := 1) ty_Ref to_Ref nm_Ref wi_int d_Ref_init_15 d_Ref_init_17 rfl (by omega) (by omega) (by omega) k1 (okL_b (fun k q => hr _ k (by omega) q) (fun k q => (by cases List.mem_singleton.mp q; omega))) (by omega) rfl in_Ref (by decide) wf_Ref_13 rfl o1 (Nat.le_of_ble_eq_true rfl) (by decide +kernel) ?_
  generalize e2 : nx es1 (aI 120) b 6 [vR es.length, vN, vN, vN, vN, vN, vI 0, vN, vI 0, vN, vI 0, vI 0, vN, vI 0, vI 0, vI 0, vN, vN, vI 0, vN, vI 0, vI 0, vN, vI 0, vI 0, vI 0, vI 0, vI 0, vN, vN, vI 0, vI 0] 1 = es2 at o2 k2 l2 ⊢
  replace o2 : es2[b]? = some (oE 6 [vR es.length, vR es1.length, vN, vN, vN, vN, vI 0, vN, vI 0, vN, vI 0, vI 0, vN, vI 0, vI 0, vI 0, vN, vN, vI 0, vN, vI 0, vI 0, vN, vI 0, vI 0, vI 0, vI 0, vI 0, vN, vN, vI 0, vI 0]) := o2
  refine i_aload_n (x := b) d_Ref_init_20 rfl rfl ?_
  refine i_bipush (x := nI 120) d_Ref_init_21 (by decide) ?_
  obtain ⟨o3, k3, l3⟩ := nx_f (a := aI 120) (k := 2) o2 k2 trivial
  refine l_arnI (N := 120) (ci := 6) (T := T_Ref) (NN := 32) (k := 2) ty_Ref to_Ref nm_Ref wi_int d_Ref_init_23 d_Ref_init_25 rfl (by omega) (by omega) (by omega) k2 (okL_b (fun k q => hr _ k (by omega) q) (fun k q => (by cases List.mem_singleton.mp q; omega))) (by omega) rfl in_Ref (by decide) wf_Ref_16 rfl o2 (Nat.le_of_ble_eq_true rfl) (by decide +kernel) ?_
  generalize e3 : nx es2 (aI 120) b 6 [vR es.length, vR es1.length, vN, vN, vN, vN, vI 0, vN, vI 0, vN, vI 0, vI 0, vN, vI 0, vI 0, vI 0, vN, vN, vI 0, vN, vI 0, vI 0, vN, vI 0, vI 0, vI 0, vI 0, vI 0, vN, vN, vI 0, vI 0] 2 = es3 at o3 k3 l3 ⊢
  replace o3 : es3[b]? = some (oE 6 [vR es.length, vR es1.length, vR es2.length, vN, vN, vN, vI 0, vN, vI 0, vN, vI 0, vI 0, vN, vI 0, vI 0, vI 0, vN, vN, vI 0, vN, vI 0, vI 0, vN, vI 0, vI 0, vI 0, vI 0, vI 0, vN, vN, vI 0, vI 0]) := o3
  refine i_aload_n (x := b) d_Ref_init_28 rfl rfl ?_
  refine i_bipush (x := nI 120) d_Ref_init_29 (by decide) ?_
  obtain ⟨o4, k4, l4⟩ := nx_f (a := aI 120) (k := 3) o3 k3 trivial
  refine l_arnI (N := 120) (ci := 6) (T := T_Ref) (NN := 32) (k := 3) ty_Ref to_Ref nm_Ref wi_int d_Ref_init_31 d_Ref_init_33 rfl (by omega) (by omega) (by omega) k3 (okL_b (fun k q => hr _ k (by omega) q) (fun k q => (by cases List.mem_singleton.mp q; omega))) (by omega) rfl in_Ref (by decide) wf_Ref_19 rfl o3 (Nat.le_of_ble_eq_true rfl) (by decide +kernel) ?_
  generalize e4 : nx es3 (aI 120) b 6 [vR es.length, vR es1.length, vR es2.length, vN, vN, vN, vI 0, vN, vI 0, vN, vI 0, vI 0, vN, vI 0, vI 0, vI 0, vN, vN, vI 0, vN, vI 0, vI 0, vN, vI 0, vI 0, vI 0, vI 0, vI 0, vN, vN, vI 0, vI 0] 3 = es4 at o4 k4 l4 ⊢
  replace o4 : es4[b]? = some (oE 6 [vR es.length, vR es1.length, vR es2.length, vR es3.length, vN, vN, vI 0, vN, vI 0, vN, vI 0, vI 0, vN, vI 0, vI 0, vI 0, vN, vN, vI 0, vN, vI 0, vI 0, vN, vI 0, vI 0, vI 0, vI 0, vI 0, vN, vN, vI 0, vI 0]) := o4
  refine i_aload_n (x := b) d_Ref_init_36 rfl rfl ?_
  refine i_bipush (x := nI 120) d_Ref_init_37 (by decide) ?_
  obtain ⟨o5, k5, l5⟩ := nx_f (a := aI 120) (k := 4) o4 k4 trivial
  refine l_arnI (N := 120) (ci := 6) (T := T_Ref) (NN := 32) (k := 4) ty_Ref to_Ref nm_Ref wi_int d_Ref_init_39 d_Ref_init_41 rfl (by omega) (by omega) (by omega) k4 (okL_b (fun k q => hr _ k (by omega) q) (fun k q => (by cases List.mem_singleton.mp q; omega))) (by omega) rfl in_Ref (by decide) wf_Ref_22 rfl o4 (Nat.le_of_ble_eq_true rfl) (by decide +kernel) ?_
  generalize e5 : nx es4 (aI 120) b 6 [vR es.length, vR es1.length, vR es2.length, vR es3.length, vN, vN, vI 0, vN, vI 0, vN, vI 0, vI 0, vN, vI 0, vI 0, vI 0, vN, vN, vI 0, vN, vI 0, vI 0, vN, vI 0, vI 0, vI 0, vI 0, vI 0, vN, vN, vI 0, vI 0] 4 = es5 at o5 k5 l5 ⊢
  replace o5 : es5[b]? = some (oE 6 [vR es.length, vR es1.length, vR es2.length, vR es3.length, vR es4.length, vN, vI 0, vN, vI 0, vN, vI 0, vI 0, vN, vI 0, vI 0, vI 0, vN, vN, vI 0, vN, vI 0, vI 0, vN, vI 0, vI 0, vI 0, vI 0, vI 0, vN, vN, vI 0, vI 0]) := o5
  refine i_aload_n (x := b) d_Ref_init_44 rfl rfl ?_
  refine i_bipush (x := nI 120) d_Ref_init_45 (by decide) ?_
  obtain ⟨o6, k6, l6⟩ := nx_f (a := aZ 120) (k := 5) o5 k5 trivial
  refine l_arnZ (N := 120) (ci := 6) (T := T_Ref) (NN := 32) (k := 5) ty_Ref to_Ref nm_Ref wi_bool d_Ref_init_47 d_Ref_init_49 rfl (by omega) (by omega) (by omega) k5 (okL_b (fun k q => hr _ k (by omega) q) (fun k q => (by cases List.mem_singleton.mp q; omega))) (by omega) rfl in_Ref (by decide) wf_Ref_25 rfl o5 (Nat.le_of_ble_eq_true rfl) (by decide +kernel) ?_
  generalize e6 : nx es5 (aZ 120) b 6 [vR es.length, vR es1.length, vR es2.length, vR es3.length, vR es4.length, vN, vI 0, vN, vI 0, vN, vI 0, vI 0, vN, vI 0, vI 0, vI 0, vN, vN, vI 0, vN, vI 0, vI 0, vN, vI 0, vI 0, vI 0, vI 0, vI 0, vN, vN, vI 0, vI 0] 5 = es6 at o6 k6 l6 ⊢
  replace o6 : es6[b]? = some (oE 6 [vR es.length, vR es1.length, vR es2.length, vR es3.length, vR es4.length, vR es5.length, vI 0, vN, vI 0, vN, vI 0, vI 0, vN, vI 0, vI 0, vI 0, vN, vN, vI 0, vN, vI 0, vI 0, vN, vI 0, vI 0, vI 0, vI 0, vI 0, vN, vN, vI 0, vI 0]) := o6
  refine i_aload_n (x := b) d_Ref_init_52 rfl rfl ?_
  refine i_bipush (x := nI 6) d_Ref_init_53 (by decide) ?_
  obtain ⟨o7, k7, l7⟩ := nx_f (a := aI 6) (k := 7) o6 k6 trivial
  refine l_arnI (N := 6) (ci := 6) (T := T_Ref) (NN := 32) (k := 7) ty_Ref to_Ref nm_Ref wi_int d_Ref_init_55 d_Ref_init_57 rfl (by omega) (by omega) (by omega) k6 (okL_b (fun k q => hr _ k (by omega) q) (fun k q => (by cases List.mem_singleton.mp q; omega))) (by omega) rfl in_Ref (by decide) wf_Ref_29 rfl o6 (Nat.le_of_ble_eq_true rfl) (by decide +kernel) ?_
  generalize e7 : nx es6 (aI 6) b 6 [vR es.length, vR es1.length, vR es2.length, vR es3.length, vR es4.length, vR es5.length, vI 0, vN, vI 0, vN, vI 0, vI 0, vN, vI 0, vI 0, vI 0, vN, vN, vI 0, vN, vI 0, vI 0, vN, vI 0, vI 0, vI 0, vI 0, vI 0, vN, vN, vI 0, vI 0] 7 = es7 at o7 k7 l7 ⊢
  replace o7 : es7[b]? = some (oE 6 [vR es.length, vR es1.length, vR es2.length, vR es3.length, vR es4.length, vR es5.length, vI 0, vR es6.length, vI 0, vN, vI 0, vI 0, vN, vI 0, vI 0, vI 0, vN, vN, vI 0, vN, vI 0, vI 0, vN, vI 0, vI 0, vI 0, vI 0, vI 0, vN, vN, vI 0, vI 0]) := o7
  refine i_aload_n (x := b) d_Ref_init_60 rfl rfl ?_
  refine i_bipush (x := nI 8) d_Ref_init_61 (by decide) ?_
  obtain ⟨o8, k8, l8⟩ := nx_f (a := aI 8) (k := 9) o7 k7 trivial
  refine l_arnI (N := 8) (ci := 6) (T := T_Ref) (NN := 32) (k := 9) ty_Ref to_Ref nm_Ref wi_int d_Ref_init_63 d_Ref_init_65 rfl (by omega) (by omega) (by omega) k7 (okL_b (fun k q => hr _ k (by omega) q) (fun k q => (by cases List.mem_singleton.mp q; omega))) (by omega) rfl in_Ref (by decide) wf_Ref_32 rfl o7 (Nat.le_of_ble_eq_true rfl) (by decide +kernel) ?_
  generalize e8 : nx es7 (aI 8) b 6 [vR es.length, vR es1.length, vR es2.length, vR es3.length, vR es4.length, vR es5.length, vI 0, vR es6.length, vI 0, vN, vI 0, vI 0, vN, vI 0, vI 0, vI 0, vN, vN, vI 0, vN, vI 0, vI 0, vN, vI 0, vI 0, vI 0, vI 0, vI 0, vN, vN, vI 0, vI 0] 9 = es8 at o8 k8 l8 ⊢
  replace o8 : es8[b]? = some (oE 6 [vR es.length, vR es1.length, vR es2.length, vR es3.length, vR es4.length, vR es5.length, vI 0, vR es6.length, vI 0, vR es7.length, vI 0, vI 0, vN, vI 0, vI 0, vI 0, vN, vN, vI 0, vN, vI 0, vI 0, vN, vI 0, vI 0, vI 0, vI 0, vI 0, vN, vN, vI 0, vI 0]) := o8
  refine i_aload_n (x := b) d_Ref_init_68 rfl rfl ?_
  refine i_iconst (x := -1) d_Ref_init_69 (by decide) ?_
  obtain ⟨o9, k9, l9⟩ := st_f (v := vI (-1)) (k := 10) o8 k8 trivial
  refine l_putv (v := vI (-1)) (ci := 6) (T := T_Ref) (N := 32) (k := 10) (ty := .int) ty_Ref to_Ref nm_Ref d_Ref_init_70 rfl in_Ref (by decide) wf_Ref_35 rfl o8 (Nat.le_of_ble_eq_true rfl) (by decide +kernel) (fun _ => rfl) (fun _ => rfl) ?_
  generalize e9 : es8.set b (oE 6 (List.set [vR es.length, vR es1.length, vR es2.length, vR es3.length, vR es4.length, vR es5.length, vI 0, vR es6.length, vI 0, vR es7.length, vI 0, vI 0, vN, vI 0, vI 0, vI 0, vN, vN, vI 0, vN, vI 0, vI 0, vN, vI 0, vI 0, vI 0, vI 0, vI 0, vN, vN, vI 0, vI 0] 10 (vI (-1)))) = es9 at o9 k9 l9 ⊢
  replace o9 : es9[b]? = some (oE 6 [vR es.length, vR es1.length, vR es2.length, vR es3.length, vR es4.length, vR es5.length, vI 0, vR es6.length, vI 0, vR es7.length, vI (-1), vI 0, vN, vI 0, vI 0, vI 0, vN, vN, vI 0, vN, vI 0, vI 0, vN, vI 0, vI 0, vI 0, vI 0, vI 0, vN, vN, vI 0, vI 0]) := o9
  refine i_aload_n (x := b) d_Ref_init_73 rfl rfl ?_
  refine i_bipush (x := nI 6) d_Ref_init_74 (by decide) ?_
  obtain ⟨o10, k10, l10⟩ := nx_f (a := aI 6) (k := 12) o9 k9 trivial
  refine l_arnI (N := 6) (ci := 6) (T := T_Ref) (NN := 32) (k := 12) ty_Ref to_Ref nm_Ref wi_int d_Ref_init_76 d_Ref_init_78 rfl (by omega) (by omega) (by omega) k9 (okL_b (fun k q => hr _ k (by omega) q) (fun k q => (by cases List.mem_singleton.mp q; omega))) (by omega) rfl in_Ref (by decide) wf_Ref_39 rfl o9 (Nat.le_of_ble_eq_true rfl) (by decide +kernel) ?_
  generalize e10 : nx es9 (aI 6) b 6 [vR es.length, vR es1.length, vR es2.length, vR es3.length, vR es4.length, vR es5.length, vI 0, vR es6.length, vI 0, vR es7.length, vI (-1), vI 0, vN, vI 0, vI 0, vI 0, vN, vN, vI 0, vN, vI 0, vI 0, vN, vI 0, vI 0, vI 0, vI 0, vI 0, vN, vN, vI 0, vI 0] 12 = es10 at o10 k10 l10 ⊢
  replace o10 : es10[b]? = some (oE 6 [vR es.length, vR es1.length, vR es2.length, vR es3.length, vR es4.length, vR es5.length, vI 0, vR es6.length, vI 0, vR es7.length, vI (-1), vI 0, vR es9.length, vI 0, vI 0, vI 0, vN, vN, vI 0, vN, vI 0, vI 0, vN, vI 0, vI 0, vI 0, vI 0, vI 0, vN, vN, vI 0, vI 0]) := o10
  refine i_aload_n (x := b) d_Ref_init_81 rfl rfl ?_
  refine i_sipush (x := nI 200) d_Ref_init_82 (by decide) ?_
  obtain ⟨o11, k11, l11⟩ := nx_f (a := aI 200) (k := 16) o10 k10 trivial
  refine l_arnI (N := 200) (ci := 6) (T := T_Ref) (NN := 32) (k := 16) ty_Ref to_Ref nm_Ref wi_int d_Ref_init_85 d_Ref_init_87 rfl (by omega) (by omega) (by omega) k10 (okL_b (fun k q => hr _ k (by omega) q) (fun k q => (by cases List.mem_singleton.mp q; omega))) (by omega) rfl in_Ref (by decide) wf_Ref_42 rfl o10 (Nat.le_of_ble_eq_true rfl) (by decide +kernel) ?_
  generalize e11 : nx es10 (aI 200) b 6 [vR es.length, vR es1.length, vR es2.length, vR es3.length, vR es4.length, vR es5.length, vI 0, vR es6.length, vI 0, vR es7.length, vI (-1), vI 0, vR es9.length, vI 0, vI 0, vI 0, vN, vN, vI 0, vN, vI 0, vI 0, vN, vI 0, vI 0, vI 0, vI 0, vI 0, vN, vN, vI 0, vI 0] 16 = es11 at o11 k11 l11 ⊢
  replace o11 : es11[b]? = some (oE 6 [vR es.length, vR es1.length, vR es2.length, vR es3.length, vR es4.length, vR es5.length, vI 0, vR es6.length, vI 0, vR es7.length, vI (-1), vI 0, vR es9.length, vI 0, vI 0, vI 0, vR es10.length, vN, vI 0, vN, vI 0, vI 0, vN, vI 0, vI 0, vI 0, vI 0, vI 0, vN, vN, vI 0, vI 0]) := o11
  refine i_aload_n (x := b) d_Ref_init_90 rfl rfl ?_
  refine i_iconst (x := nI 3) d_Ref_init_91 (by decide) ?_
  obtain ⟨o12, k12, l12⟩ := nx_f (a := aI 3) (k := 17) o11 k11 trivial
  refine l_arnI (N := 3) (ci := 6) (T := T_Ref) (NN := 32) (k := 17) ty_Ref to_Ref nm_Ref wi_int d_Ref_init_92 d_Ref_init_94 rfl (by omega) (by omega) (by omega) k11 (okL_b (fun k q => hr _ k (by omega) q) (fun k q => (by cases List.mem_singleton.mp q; omega))) (by omega) rfl in_Ref (by decide) wf_Ref_45 rfl o11 (Nat.le_of_ble_eq_true rfl) (by decide +kernel) ?_
  generalize e12 : nx es11 (aI 3) b 6 [vR es.length, vR es1.length, vR es2.length, vR es3.length, vR es4.length, vR es5.length, vI 0, vR es6.length, vI 0, vR es7.length, vI (-1), vI 0, vR es9.length, vI 0, vI 0, vI 0, vR es10.length, vN, vI 0, vN, vI 0, vI 0, vN, vI 0, vI 0, vI 0, vI 0, vI 0, vN, vN, vI 0, vI 0] 17 = es12 at o12 k12 l12 ⊢
  replace o12 : es12[b]? = some (oE 6 [vR es.length, vR es1.length, vR es2.length, vR es3.length, vR es4.length, vR es5.length, vI 0, vR es6.length, vI 0, vR es7.length, vI (-1), vI 0, vR es9.length, vI 0, vI 0, vI 0, vR es10.length, vR es11.length, vI 0, vN, vI 0, vI 0, vN, vI 0, vI 0, vI 0, vI 0, vI 0, vN, vN, vI 0, vI 0]) := o12
  refine i_aload_n (x := b) d_Ref_init_97 rfl rfl ?_
  refine i_bipush (x := nI 16) d_Ref_init_98 (by decide) ?_
  obtain ⟨o13, k13, l13⟩ := nx_f (a := aI 16) (k := 19) o12 k12 trivial
  refine l_arnI (N := 16) (ci := 6) (T := T_Ref) (NN := 32) (k := 19) ty_Ref to_Ref nm_Ref wi_int d_Ref_init_100 d_Ref_init_102 rfl (by omega) (by omega) (by omega) k12 (okL_b (fun k q => hr _ k (by omega) q) (fun k q => (by cases List.mem_singleton.mp q; omega))) (by omega) rfl in_Ref (by decide) wf_Ref_48 rfl o12 (Nat.le_of_ble_eq_true rfl) (by decide +kernel) ?_
  generalize e13 : nx es12 (aI 16) b 6 [vR es.length, vR es1.length, vR es2.length, vR es3.length, vR es4.length, vR es5.length, vI 0, vR es6.length, vI 0, vR es7.length, vI (-1), vI 0, vR es9.length, vI 0, vI 0, vI 0, vR es10.length, vR es11.length, vI 0, vN, vI 0, vI 0, vN, vI 0, vI 0, vI 0, vI 0, vI 0, vN, vN, vI 0, vI 0] 19 = es13 at o13 k13 l13 ⊢
  replace o13 : es13[b]? = some (oE 6 [vR es.length, vR es1.length, vR es2.length, vR es3.length, vR es4.length, vR es5.length, vI 0, vR es6.length, vI 0, vR es7.length, vI (-1), vI 0, vR es9.length, vI 0, vI 0, vI 0, vR es10.length, vR es11.length, vI 0, vR es12.length, vI 0, vI 0, vN, vI 0, vI 0, vI 0, vI 0, vI 0, vN, vN, vI 0, vI 0]) := o13
  refine i_aload_n (x := b) d_Ref_init_105 rfl rfl ?_
  refine i_sipush (x := nI 200) d_Ref_init_106 (by decide) ?_
  obtain ⟨o14, k14, l14⟩ := nx_f (a := aI 200) (k := 22) o13 k13 trivial
  refine l_arnI (N := 200) (ci := 6) (T := T_Ref) (NN := 32) (k := 22) ty_Ref to_Ref nm_Ref wi_int d_Ref_init_109 d_Ref_init_111 rfl (by omega) (by omega) (by omega) k13 (okL_b (fun k q => hr _ k (by omega) q) (fun k q => (by cases List.mem_singleton.mp q; omega))) (by omega) rfl in_Ref (by decide) wf_Ref_51 rfl o13 (Nat.le_of_ble_eq_true rfl) (by decide +kernel) ?_
  generalize e14 : nx es13 (aI 200) b 6 [vR es.length, vR es1.length, vR es2.length, vR es3.length, vR es4.length, vR es5.length, vI 0, vR es6.length, vI 0, vR es7.length, vI (-1), vI 0, vR es9.length, vI 0, vI 0, vI 0, vR es10.length, vR es11.length, vI 0, vR es12.length, vI 0, vI 0, vN, vI 0, vI 0, vI 0, vI 0, vI 0, vN, vN, vI 0, vI 0] 22 = es14 at o14 k14 l14 ⊢
  replace o14 : es14[b]? = some (oE 6 [vR es.length, vR es1.length, vR es2.length, vR es3.length, vR es4.length, vR es5.length, vI 0, vR es6.length, vI 0, vR es7.length, vI (-1), vI 0, vR es9.length, vI 0, vI 0, vI 0, vR es10.length, vR es11.length, vI 0, vR es12.length, vI 0, vI 0, vR es13.length, vI 0, vI 0, vI 0, vI 0, vI 0, vN, vN, vI 0, vI 0]) := o14
  refine i_aload_n (x := b) d_Ref_init_114 rfl rfl ?_
  refine i_iconst (x := nI 4) d_Ref_init_115 (by decide) ?_
  obtain ⟨o15, k15, l15⟩ := nx_f (a := aI 4) (k := 28) o14 k14 trivial
  refine l_arnI (N := 4) (ci := 6) (T := T_Ref) (NN := 32) (k := 28) ty_Ref to_Ref nm_Ref wi_int d_Ref_init_116 d_Ref_init_118 rfl (by omega) (by omega) (by omega) k14 (okL_b (fun k q => hr _ k (by omega) q) (fun k q => (by cases List.mem_singleton.mp q; omega))) (by omega) rfl in_Ref (by decide) wf_Ref_54 rfl o14 (Nat.le_of_ble_eq_true rfl) (by decide +kernel) ?_
  generalize e15 : nx es14 (aI 4) b 6 [vR es.length, vR es1.length, vR es2.length, vR es3.length, vR es4.length, vR es5.length, vI 0, vR es6.length, vI 0, vR es7.length, vI (-1), vI 0, vR es9.length, vI 0, vI 0, vI 0, vR es10.length, vR es11.length, vI 0, vR es12.length, vI 0, vI 0, vR es13.length, vI 0, vI 0, vI 0, vI 0, vI 0, vN, vN, vI 0, vI 0] 28 = es15 at o15 k15 l15 ⊢
  replace o15 : es15[b]? = some (oE 6 [vR es.length, vR es1.length, vR es2.length, vR es3.length, vR es4.length, vR es5.length, vI 0, vR es6.length, vI 0, vR es7.length, vI (-1), vI 0, vR es9.length, vI 0, vI 0, vI 0, vR es10.length, vR es11.length, vI 0, vR es12.length, vI 0, vI 0, vR es13.length, vI 0, vI 0, vI 0, vI 0, vI 0, vR es14.length, vN, vI 0, vI 0]) := o15
  refine i_aload_n (x := b) d_Ref_init_121 rfl rfl ?_
  refine i_bipush (x := nI 8) d_Ref_init_122 (by decide) ?_
  obtain ⟨o16, k16, l16⟩ := nx_f (a := aI 8) (k := 29) o15 k15 trivial
  refine l_arnI (N := 8) (ci := 6) (T := T_Ref) (NN := 32) (k := 29) ty_Ref to_Ref nm_Ref wi_int d_Ref_init_124 d_Ref_init_126 rfl (by omega) (by omega) (by omega) k15 (okL_b (fun k q => hr _ k (by omega) q) (fun k q => (by cases List.mem_singleton.mp q; omega))) (by omega) rfl in_Ref (by decide) wf_Ref_57 rfl o15 (Nat.le_of_ble_eq_true rfl) (by decide +kernel) ?_
  generalize e16 : nx es15 (aI 8) b 6 [vR es.length, vR es1.length, vR es2.length, vR es3.length, vR es4.length, vR es5.length, vI 0, vR es6.length, vI 0, vR es7.length, vI (-1), vI 0, vR es9.length, vI 0, vI 0, vI 0, vR es10.length, vR es11.length, vI 0, vR es12.length, vI 0, vI 0, vR es13.length, vI 0, vI 0, vI 0, vI 0, vI 0, vR es14.length, vN, vI 0, vI 0] 29 = es16 at o16 k16 l16 ⊢
  replace o16 : es16[b]? = some (oE 6 [vR es.length, vR es1.length, vR es2.length, vR es3.length, vR es4.length, vR es5.length, vI 0, vR es6.length, vI 0, vR es7.length, vI (-1), vI 0, vR es9.length, vI 0, vI 0, vI 0, vR es10.length, vR es11.length, vI 0, vR es12.length, vI 0, vI 0, vR es13.length, vI 0, vI 0, vI 0, vI 0, vI 0, vR es14.length, vR es15.length, vI 0, vI 0]) := o16
  have hx : es16 = x_Ref es b := by
    subst e1
    subst e2
    subst e3
    subst e4
    subst e5
    subst e6
    subst e7
    subst e8
    subst e9
    subst e10
    subst e11
    subst e12
    subst e13
    subst e14
    subst e15
    subst e16
    rfl
  exact i_ret d_Ref_init_129 rfl (by omega) (by omega) ⟨rfl, es16, hx, k16, rfl, rfl⟩
